/-! THE TWO WORLDS SIDE BY SIDE: z numbers the eighteen cells (0 the object, 1 its row of hangings, 2 its stand, 3 its car, 4 and 5 its shims, 6 to 8 its readings, 9 to 12 the hangings; 13 the model, 14 its numbers, 15 its shims, 16 and 17 its readings) -/
abbrev hL (N : Nat → Int32) (q : Nat) : List Value := [.int (N (13 * q)), .int (N (13 * q + 1)), .int (N (13 * q + 4)), .int (N (13 * q + 2)), .int (N (13 * q + 3)), .int (N (13 * q + 5)), .int (N (13 * q + 6)), .int (N (13 * q + 7)), .int (N (13 * q + 8)), .int (N (13 * q + 9)), .int (N (13 * q + 10)), .int (N (13 * q + 11)), .int (N (13 * q + 12))]
abbrev hgN (N : Nat → Int32) (q : Nat) : Prop := hgB (N (13 * q)) (N (13 * q + 1)) (N (13 * q + 4)) (N (13 * q + 2)) (N (13 * q + 3)) (N (13 * q + 5)) (N (13 * q + 6)) (N (13 * q + 7)) (N (13 * q + 8)) (N (13 * q + 9)) (N (13 * q + 10)) (N (13 * q + 11)) (N (13 * q + 12))
def cC (cI cH : ClassId) (z : Nat → Nat) (fh : Nat → Option Nat) (N ft f1 f2 : Nat → Int32) (k k2 : Nat) (us car um : List Value) (i : Nat) : va_E := match i with
  | 0 => .inr (5, [.ref (z 1), .ref (z 2), .ref (z 3), .ref (z 4), .ref (z 6)])
  | 1 => .inl (cH, 4, .inr (.inr (.inr (.inr fh))))
  | 2 => .inr (4, us)
  | 3 => .inr (0, car)
  | 4 => .inr (3, [.ref (z 5), .int (nI k)])
  | 5 => .inl (cI, 10, .inl ft)
  | 6 => .inr (2, [.ref (z 7), .ref (z 8), .int (nI k2)])
  | 7 => .inl (cI, 12, .inl f1)
  | 8 => .inl (cI, 12, .inl f2)
  | 9 => .inr (1, hL N 0)
  | 10 => .inr (1, hL N 1)
  | 11 => .inr (1, hL N 2)
  | 12 => .inr (1, hL N 3)
  | 13 => .inr (6, um)
  | 14 => .inl (cI, 52, .inl N)
  | 15 => .inl (cI, 10, .inl ft)
  | 16 => .inl (cI, 12, .inl f1)
  | _ => .inl (cI, 12, .inl f2)
def wP (D : va_G) (cI cH : ClassId) (z : Nat → Nat) (fh : Nat → Option Nat) (N ft f1 f2 : Nat → Int32) (k k2 : Nat) (us car um : List Value) (H : Heap) : Prop := ∀ i, i < 18 → va_at D vwCl (z i, cC cI cH z fh N ft f1 f2 k k2 us car um i) H
def zOk (A : Nat → Prop) (z : Nat → Nat) : Prop := (∀ i j, i < 18 → j < 18 → z i = z j → i = j) ∧ ∀ i, i < 18 → A (z i)
theorem zOk.ne {A : Nat → Prop} {z : Nat → Nat} (h : zOk A z) (i j : Nat) (hi : i < 18) (hj : j < 18) (hn : i ≠ j) : z i ≠ z j := fun e => hn (h.1 i j hi hj e)
theorem wP.c0 {D : va_G} {cI cH : ClassId} {z : Nat → Nat} {fh : Nat → Option Nat} {N ft f1 f2 : Nat → Int32} {k k2 : Nat} {us car um : List Value} {H : Heap} (h : wP D cI cH z fh N ft f1 f2 k k2 us car um H) : va_at D vwCl (z 0, .inr (5, [.ref (z 1), .ref (z 2), .ref (z 3), .ref (z 4), .ref (z 6)])) H := h 0 (by decide)
theorem wP.c1 {D : va_G} {cI cH : ClassId} {z : Nat → Nat} {fh : Nat → Option Nat} {N ft f1 f2 : Nat → Int32} {k k2 : Nat} {us car um : List Value} {H : Heap} (h : wP D cI cH z fh N ft f1 f2 k k2 us car um H) : va_at D vwCl (z 1, .inl (cH, 4, .inr (.inr (.inr (.inr fh))))) H := h 1 (by decide)
theorem wP.c2 {D : va_G} {cI cH : ClassId} {z : Nat → Nat} {fh : Nat → Option Nat} {N ft f1 f2 : Nat → Int32} {k k2 : Nat} {us car um : List Value} {H : Heap} (h : wP D cI cH z fh N ft f1 f2 k k2 us car um H) : va_at D vwCl (z 2, .inr (4, us)) H := h 2 (by decide)
theorem wP.c3 {D : va_G} {cI cH : ClassId} {z : Nat → Nat} {fh : Nat → Option Nat} {N ft f1 f2 : Nat → Int32} {k k2 : Nat} {us car um : List Value} {H : Heap} (h : wP D cI cH z fh N ft f1 f2 k k2 us car um H) : va_at D vwCl (z 3, .inr (0, car)) H := h 3 (by decide)
theorem wP.c4 {D : va_G} {cI cH : ClassId} {z : Nat → Nat} {fh : Nat → Option Nat} {N ft f1 f2 : Nat → Int32} {k k2 : Nat} {us car um : List Value} {H : Heap} (h : wP D cI cH z fh N ft f1 f2 k k2 us car um H) : va_at D vwCl (z 4, .inr (3, [.ref (z 5), .int (nI k)])) H := h 4 (by decide)
theorem wP.c5 {D : va_G} {cI cH : ClassId} {z : Nat → Nat} {fh : Nat → Option Nat} {N ft f1 f2 : Nat → Int32} {k k2 : Nat} {us car um : List Value} {H : Heap} (h : wP D cI cH z fh N ft f1 f2 k k2 us car um H) : va_at D vwCl (z 5, .inl (cI, 10, .inl ft)) H := h 5 (by decide)
theorem wP.c6 {D : va_G} {cI cH : ClassId} {z : Nat → Nat} {fh : Nat → Option Nat} {N ft f1 f2 : Nat → Int32} {k k2 : Nat} {us car um : List Value} {H : Heap} (h : wP D cI cH z fh N ft f1 f2 k k2 us car um H) : va_at D vwCl (z 6, .inr (2, [.ref (z 7), .ref (z 8), .int (nI k2)])) H := h 6 (by decide)
theorem wP.c7 {D : va_G} {cI cH : ClassId} {z : Nat → Nat} {fh : Nat → Option Nat} {N ft f1 f2 : Nat → Int32} {k k2 : Nat} {us car um : List Value} {H : Heap} (h : wP D cI cH z fh N ft f1 f2 k k2 us car um H) : va_at D vwCl (z 7, .inl (cI, 12, .inl f1)) H := h 7 (by decide)
theorem wP.c8 {D : va_G} {cI cH : ClassId} {z : Nat → Nat} {fh : Nat → Option Nat} {N ft f1 f2 : Nat → Int32} {k k2 : Nat} {us car um : List Value} {H : Heap} (h : wP D cI cH z fh N ft f1 f2 k k2 us car um H) : va_at D vwCl (z 8, .inl (cI, 12, .inl f2)) H := h 8 (by decide)
theorem wP.c9 {D : va_G} {cI cH : ClassId} {z : Nat → Nat} {fh : Nat → Option Nat} {N ft f1 f2 : Nat → Int32} {k k2 : Nat} {us car um : List Value} {H : Heap} (h : wP D cI cH z fh N ft f1 f2 k k2 us car um H) : va_at D vwCl (z 9, .inr (1, hL N 0)) H := h 9 (by decide)
theorem wP.c10 {D : va_G} {cI cH : ClassId} {z : Nat → Nat} {fh : Nat → Option Nat} {N ft f1 f2 : Nat → Int32} {k k2 : Nat} {us car um : List Value} {H : Heap} (h : wP D cI cH z fh N ft f1 f2 k k2 us car um H) : va_at D vwCl (z 10, .inr (1, hL N 1)) H := h 10 (by decide)
theorem wP.c11 {D : va_G} {cI cH : ClassId} {z : Nat → Nat} {fh : Nat → Option Nat} {N ft f1 f2 : Nat → Int32} {k k2 : Nat} {us car um : List Value} {H : Heap} (h : wP D cI cH z fh N ft f1 f2 k k2 us car um H) : va_at D vwCl (z 11, .inr (1, hL N 2)) H := h 11 (by decide)
theorem wP.c12 {D : va_G} {cI cH : ClassId} {z : Nat → Nat} {fh : Nat → Option Nat} {N ft f1 f2 : Nat → Int32} {k k2 : Nat} {us car um : List Value} {H : Heap} (h : wP D cI cH z fh N ft f1 f2 k k2 us car um H) : va_at D vwCl (z 12, .inr (1, hL N 3)) H := h 12 (by decide)
theorem wP.c13 {D : va_G} {cI cH : ClassId} {z : Nat → Nat} {fh : Nat → Option Nat} {N ft f1 f2 : Nat → Int32} {k k2 : Nat} {us car um : List Value} {H : Heap} (h : wP D cI cH z fh N ft f1 f2 k k2 us car um H) : va_at D vwCl (z 13, .inr (6, um)) H := h 13 (by decide)
theorem wP.c14 {D : va_G} {cI cH : ClassId} {z : Nat → Nat} {fh : Nat → Option Nat} {N ft f1 f2 : Nat → Int32} {k k2 : Nat} {us car um : List Value} {H : Heap} (h : wP D cI cH z fh N ft f1 f2 k k2 us car um H) : va_at D vwCl (z 14, .inl (cI, 52, .inl N)) H := h 14 (by decide)
theorem wP.c15 {D : va_G} {cI cH : ClassId} {z : Nat → Nat} {fh : Nat → Option Nat} {N ft f1 f2 : Nat → Int32} {k k2 : Nat} {us car um : List Value} {H : Heap} (h : wP D cI cH z fh N ft f1 f2 k k2 us car um H) : va_at D vwCl (z 15, .inl (cI, 10, .inl ft)) H := h 15 (by decide)
theorem wP.c16 {D : va_G} {cI cH : ClassId} {z : Nat → Nat} {fh : Nat → Option Nat} {N ft f1 f2 : Nat → Int32} {k k2 : Nat} {us car um : List Value} {H : Heap} (h : wP D cI cH z fh N ft f1 f2 k k2 us car um H) : va_at D vwCl (z 16, .inl (cI, 12, .inl f1)) H := h 16 (by decide)
theorem wP.c17 {D : va_G} {cI cH : ClassId} {z : Nat → Nat} {fh : Nat → Option Nat} {N ft f1 f2 : Nat → Int32} {k k2 : Nat} {us car um : List Value} {H : Heap} (h : wP D cI cH z fh N ft f1 f2 k k2 us car um H) : va_at D vwCl (z 17, .inl (cI, 12, .inl f2)) H := h 17 (by decide)
theorem wP.hg {D : va_G} {cI cH : ClassId} {z : Nat → Nat} {fh : Nat → Option Nat} {N ft f1 f2 : Nat → Int32} {k k2 : Nat} {us car um : List Value} {H : Heap} (h : wP D cI cH z fh N ft f1 f2 k k2 us car um H) {q : Nat} (hq : q < 4) : va_at D vwCl (z (9 + q), .inr (1, hL N q)) H := by
  rcases (show q = 0 ∨ q = 1 ∨ q = 2 ∨ q = 3 by omega) with rfl | rfl | rfl | rfl
  · exact h.c9
  · exact h.c10
  · exact h.c11
  · exact h.c12
theorem wP_two {D : va_G} {cI cH : ClassId} {z : Nat → Nat} {fh : Nat → Option Nat} {N ft f1 f2 : Nat → Int32} {k k2 : Nat} {us car um : List Value} {N' ft' f1' f2' : Nat → Int32} {k' k2' : Nat} {us' car' um' : List Value} {A1 A2 : Nat → Prop} {H H1 H2 : Heap} (hP : wP D cI cH z fh N ft f1 f2 k k2 us car um H) (hk1 : ∀ p : Nat, p < H.size → ¬ A1 p → H1[p]? = H[p]?) (hk2 : ∀ p : Nat, p < H1.size → ¬ A2 p → H2[p]? = H1[p]?) (h : ∀ i, i < 18 → (cC cI cH z fh N' ft' f1' f2' k' k2' us' car' um' i = cC cI cH z fh N ft f1 f2 k k2 us car um i ∧ ¬ A1 (z i) ∧ ¬ A2 (z i)) ∨ (va_at D vwCl (z i, cC cI cH z fh N' ft' f1' f2' k' k2' us' car' um' i) H1 ∧ ¬ A2 (z i)) ∨ va_at D vwCl (z i, cC cI cH z fh N' ft' f1' f2' k' k2' us' car' um' i) H2) : wP D cI cH z fh N' ft' f1' f2' k' k2' us' car' um' H2 := by
  intro i hi
  rcases h i hi with ⟨e, a1, a2⟩ | ⟨hb, a2⟩ | hb
  · rw [e]
    have h0 := hP i hi
    have h1 := h0.kept (hk1 _ (va_at_lt h0) a1)
    exact h1.kept (hk2 _ (va_at_lt h1) a2)
  · exact hb.kept (hk2 _ (va_at_lt hb) a2)
  · exact hb
def okI (N ft f1 f2 : Nat → Int32) (k k2 : Nat) : Prop := k ≤ 10 ∧ k2 ≤ 12 ∧ (∀ q, q < 4 → hgN N q) ∧ (∀ j, j < k → 0 ≤ (ft j).toInt ∧ (ft j).toInt ≤ 500) ∧ (∀ j, j < k2 → cB (f1 j) ∧ rB (f2 j))
/-- what holds between two calls -/
def inv (D : va_G) (cI cH : ClassId) (z : Nat → Nat) (fh : Nat → Option Nat) (H : Heap) : Prop := ∃ (N ft f1 f2 : Nat → Int32) (k k2 : Nat) (ct cp cr ctr cfs : Int32) (us um : List Value), okI N ft f1 f2 k k2 ∧ isSt us ∧ isM (z 14) (z 15) (z 16) (z 17) k k2 ct cp cr ctr cfs um ∧ wP D cI cH z fh N ft f1 f2 k k2 us [.int ct, .int cp, .int cr, .int ctr, .int cfs] um H
theorem pk {α : Type} {ok : Bool} {r v1 v2 : Int32} {u x y : α} (h : if ok = true then r = v1 ∧ u = x else r = v2 ∧ u = y) : r = (if ok = true then v1 else v2) ∧ u = (if ok = true then x else y) := by
  cases ok
  · exact h
  · exact h
theorem okH_q (h : Int32) : ∃ q : Nat, q < 4 ∧ (okH h = true → h.toNatClampNeg = q) ∧ (okH h = true → h = nI q) := by
  by_cases hh : okH h = true
  · obtain ⟨j, h1, h2⟩ := okH_j hh
    exact ⟨j, h1, fun _ => by rw [h2]; exact nI_clamp (by omega), fun _ => h2⟩
  · exact ⟨0, by decide, fun hc => absurd hc hh, fun hc => absurd hc hh⟩
theorem upd_self (f : Nat → Int32) (k : Nat) (x : Int32) : upd f k x k = x := if_pos rfl
theorem upd_off (f : Nat → Int32) {j k : Nat} (x : Int32) (h : j ≠ k) : upd f k x j = f j := if_neg h
/-- numbers of other hangings stay -/
def only (N' N : Nat → Int32) (q : Nat) : Prop := ∀ x, (x < 13 * q ∨ 13 * q + 13 ≤ x) → N' x = N x
theorem only_at {N' N : Nat → Int32} {q j : Nat} (h : only N' N q) (hj : j ≠ q) : N' (13 * j) = N (13 * j) ∧ N' (13 * j + 1) = N (13 * j + 1) ∧ N' (13 * j + 2) = N (13 * j + 2) ∧ N' (13 * j + 3) = N (13 * j + 3) ∧ N' (13 * j + 4) = N (13 * j + 4) ∧ N' (13 * j + 5) = N (13 * j + 5) ∧ N' (13 * j + 6) = N (13 * j + 6) ∧ N' (13 * j + 7) = N (13 * j + 7) ∧ N' (13 * j + 8) = N (13 * j + 8) ∧ N' (13 * j + 9) = N (13 * j + 9) ∧ N' (13 * j + 10) = N (13 * j + 10) ∧ N' (13 * j + 11) = N (13 * j + 11) ∧ N' (13 * j + 12) = N (13 * j + 12) := ⟨h _ (by omega), h _ (by omega), h _ (by omega), h _ (by omega), h _ (by omega), h _ (by omega), h _ (by omega), h _ (by omega), h _ (by omega), h _ (by omega), h _ (by omega), h _ (by omega), h _ (by omega)⟩
theorem only_hL {N' N : Nat → Int32} {q j : Nat} (h : only N' N q) (hj : j ≠ q) : hL N' j = hL N j := by
  obtain ⟨e0, e1, e2, e3, e4, e5, e6, e7, e8, e9, e10, e11, e12⟩ := only_at h hj
  unfold hL
  rw [e0, e1, e2, e3, e4, e5, e6, e7, e8, e9, e10, e11, e12]
theorem only_hgN {N' N : Nat → Int32} {q j : Nat} (h : only N' N q) (hj : j ≠ q) (hg : hgN N j) : hgN N' j := by
  obtain ⟨e0, e1, e2, e3, e4, e5, e6, e7, e8, e9, e10, e11, e12⟩ := only_at h hj
  unfold hgN
  rw [e0, e1, e2, e3, e4, e5, e6, e7, e8, e9, e10, e11, e12]
  exact hg
theorem ly_only {N : Nat → Int32} {q : Nat} {n1 n2 n3 n4 n5 n6 n7 n8 : Int32} : only (layN N q n1 n2 n3 n4 n5 n6 n7 n8) N q := by
  intro x hx
  unfold layN
  rw [upd_off _ _ (show x ≠ 13 * q + 7 by omega), upd_off _ _ (show x ≠ 13 * q + 6 by omega), upd_off _ _ (show x ≠ 13 * q + 5 by omega), upd_off _ _ (show x ≠ 13 * q + 4 by omega), upd_off _ _ (show x ≠ 13 * q + 3 by omega), upd_off _ _ (show x ≠ 13 * q + 2 by omega), upd_off _ _ (show x ≠ 13 * q + 1 by omega), upd_off _ _ (show x ≠ 13 * q by omega)]
theorem ly_0 {N : Nat → Int32} {q : Nat} {n1 n2 n3 n4 n5 n6 n7 n8 : Int32} : layN N q n1 n2 n3 n4 n5 n6 n7 n8 (13 * q) = n1 := by
  unfold layN
  rw [upd_off _ _ (show 13 * q ≠ 13 * q + 7 by omega), upd_off _ _ (show 13 * q ≠ 13 * q + 6 by omega), upd_off _ _ (show 13 * q ≠ 13 * q + 5 by omega), upd_off _ _ (show 13 * q ≠ 13 * q + 4 by omega), upd_off _ _ (show 13 * q ≠ 13 * q + 3 by omega), upd_off _ _ (show 13 * q ≠ 13 * q + 2 by omega), upd_off _ _ (show 13 * q ≠ 13 * q + 1 by omega), upd_self]
theorem ly_1 {N : Nat → Int32} {q : Nat} {n1 n2 n3 n4 n5 n6 n7 n8 : Int32} : layN N q n1 n2 n3 n4 n5 n6 n7 n8 (13 * q + 1) = n2 := by
  unfold layN
  rw [upd_off _ _ (show 13 * q + 1 ≠ 13 * q + 7 by omega), upd_off _ _ (show 13 * q + 1 ≠ 13 * q + 6 by omega), upd_off _ _ (show 13 * q + 1 ≠ 13 * q + 5 by omega), upd_off _ _ (show 13 * q + 1 ≠ 13 * q + 4 by omega), upd_off _ _ (show 13 * q + 1 ≠ 13 * q + 3 by omega), upd_off _ _ (show 13 * q + 1 ≠ 13 * q + 2 by omega), upd_self]
theorem ly_2 {N : Nat → Int32} {q : Nat} {n1 n2 n3 n4 n5 n6 n7 n8 : Int32} : layN N q n1 n2 n3 n4 n5 n6 n7 n8 (13 * q + 2) = n3 := by
  unfold layN
  rw [upd_off _ _ (show 13 * q + 2 ≠ 13 * q + 7 by omega), upd_off _ _ (show 13 * q + 2 ≠ 13 * q + 6 by omega), upd_off _ _ (show 13 * q + 2 ≠ 13 * q + 5 by omega), upd_off _ _ (show 13 * q + 2 ≠ 13 * q + 4 by omega), upd_off _ _ (show 13 * q + 2 ≠ 13 * q + 3 by omega), upd_self]
theorem ly_3 {N : Nat → Int32} {q : Nat} {n1 n2 n3 n4 n5 n6 n7 n8 : Int32} : layN N q n1 n2 n3 n4 n5 n6 n7 n8 (13 * q + 3) = n4 := by
  unfold layN
  rw [upd_off _ _ (show 13 * q + 3 ≠ 13 * q + 7 by omega), upd_off _ _ (show 13 * q + 3 ≠ 13 * q + 6 by omega), upd_off _ _ (show 13 * q + 3 ≠ 13 * q + 5 by omega), upd_off _ _ (show 13 * q + 3 ≠ 13 * q + 4 by omega), upd_self]
theorem ly_4 {N : Nat → Int32} {q : Nat} {n1 n2 n3 n4 n5 n6 n7 n8 : Int32} : layN N q n1 n2 n3 n4 n5 n6 n7 n8 (13 * q + 4) = n5 := by
  unfold layN
  rw [upd_off _ _ (show 13 * q + 4 ≠ 13 * q + 7 by omega), upd_off _ _ (show 13 * q + 4 ≠ 13 * q + 6 by omega), upd_off _ _ (show 13 * q + 4 ≠ 13 * q + 5 by omega), upd_self]
theorem ly_5 {N : Nat → Int32} {q : Nat} {n1 n2 n3 n4 n5 n6 n7 n8 : Int32} : layN N q n1 n2 n3 n4 n5 n6 n7 n8 (13 * q + 5) = n6 := by
  unfold layN
  rw [upd_off _ _ (show 13 * q + 5 ≠ 13 * q + 7 by omega), upd_off _ _ (show 13 * q + 5 ≠ 13 * q + 6 by omega), upd_self]
theorem ly_6 {N : Nat → Int32} {q : Nat} {n1 n2 n3 n4 n5 n6 n7 n8 : Int32} : layN N q n1 n2 n3 n4 n5 n6 n7 n8 (13 * q + 6) = n7 := by
  unfold layN
  rw [upd_off _ _ (show 13 * q + 6 ≠ 13 * q + 7 by omega), upd_self]
theorem ly_7 {N : Nat → Int32} {q : Nat} {n1 n2 n3 n4 n5 n6 n7 n8 : Int32} : layN N q n1 n2 n3 n4 n5 n6 n7 n8 (13 * q + 7) = n8 := by
  unfold layN
  rw [upd_self]
theorem ly_8 {N : Nat → Int32} {q : Nat} {n1 n2 n3 n4 n5 n6 n7 n8 : Int32} : layN N q n1 n2 n3 n4 n5 n6 n7 n8 (13 * q + 8) = N (13 * q + 8) := by
  unfold layN
  rw [upd_off _ _ (show 13 * q + 8 ≠ 13 * q + 7 by omega), upd_off _ _ (show 13 * q + 8 ≠ 13 * q + 6 by omega), upd_off _ _ (show 13 * q + 8 ≠ 13 * q + 5 by omega), upd_off _ _ (show 13 * q + 8 ≠ 13 * q + 4 by omega), upd_off _ _ (show 13 * q + 8 ≠ 13 * q + 3 by omega), upd_off _ _ (show 13 * q + 8 ≠ 13 * q + 2 by omega), upd_off _ _ (show 13 * q + 8 ≠ 13 * q + 1 by omega), upd_off _ _ (show 13 * q + 8 ≠ 13 * q by omega)]
theorem ly_9 {N : Nat → Int32} {q : Nat} {n1 n2 n3 n4 n5 n6 n7 n8 : Int32} : layN N q n1 n2 n3 n4 n5 n6 n7 n8 (13 * q + 9) = N (13 * q + 9) := by
  unfold layN
  rw [upd_off _ _ (show 13 * q + 9 ≠ 13 * q + 7 by omega), upd_off _ _ (show 13 * q + 9 ≠ 13 * q + 6 by omega), upd_off _ _ (show 13 * q + 9 ≠ 13 * q + 5 by omega), upd_off _ _ (show 13 * q + 9 ≠ 13 * q + 4 by omega), upd_off _ _ (show 13 * q + 9 ≠ 13 * q + 3 by omega), upd_off _ _ (show 13 * q + 9 ≠ 13 * q + 2 by omega), upd_off _ _ (show 13 * q + 9 ≠ 13 * q + 1 by omega), upd_off _ _ (show 13 * q + 9 ≠ 13 * q by omega)]
theorem ly_10 {N : Nat → Int32} {q : Nat} {n1 n2 n3 n4 n5 n6 n7 n8 : Int32} : layN N q n1 n2 n3 n4 n5 n6 n7 n8 (13 * q + 10) = N (13 * q + 10) := by
  unfold layN
  rw [upd_off _ _ (show 13 * q + 10 ≠ 13 * q + 7 by omega), upd_off _ _ (show 13 * q + 10 ≠ 13 * q + 6 by omega), upd_off _ _ (show 13 * q + 10 ≠ 13 * q + 5 by omega), upd_off _ _ (show 13 * q + 10 ≠ 13 * q + 4 by omega), upd_off _ _ (show 13 * q + 10 ≠ 13 * q + 3 by omega), upd_off _ _ (show 13 * q + 10 ≠ 13 * q + 2 by omega), upd_off _ _ (show 13 * q + 10 ≠ 13 * q + 1 by omega), upd_off _ _ (show 13 * q + 10 ≠ 13 * q by omega)]
theorem ly_11 {N : Nat → Int32} {q : Nat} {n1 n2 n3 n4 n5 n6 n7 n8 : Int32} : layN N q n1 n2 n3 n4 n5 n6 n7 n8 (13 * q + 11) = N (13 * q + 11) := by
  unfold layN
  rw [upd_off _ _ (show 13 * q + 11 ≠ 13 * q + 7 by omega), upd_off _ _ (show 13 * q + 11 ≠ 13 * q + 6 by omega), upd_off _ _ (show 13 * q + 11 ≠ 13 * q + 5 by omega), upd_off _ _ (show 13 * q + 11 ≠ 13 * q + 4 by omega), upd_off _ _ (show 13 * q + 11 ≠ 13 * q + 3 by omega), upd_off _ _ (show 13 * q + 11 ≠ 13 * q + 2 by omega), upd_off _ _ (show 13 * q + 11 ≠ 13 * q + 1 by omega), upd_off _ _ (show 13 * q + 11 ≠ 13 * q by omega)]
theorem ly_12 {N : Nat → Int32} {q : Nat} {n1 n2 n3 n4 n5 n6 n7 n8 : Int32} : layN N q n1 n2 n3 n4 n5 n6 n7 n8 (13 * q + 12) = N (13 * q + 12) := by
  unfold layN
  rw [upd_off _ _ (show 13 * q + 12 ≠ 13 * q + 7 by omega), upd_off _ _ (show 13 * q + 12 ≠ 13 * q + 6 by omega), upd_off _ _ (show 13 * q + 12 ≠ 13 * q + 5 by omega), upd_off _ _ (show 13 * q + 12 ≠ 13 * q + 4 by omega), upd_off _ _ (show 13 * q + 12 ≠ 13 * q + 3 by omega), upd_off _ _ (show 13 * q + 12 ≠ 13 * q + 2 by omega), upd_off _ _ (show 13 * q + 12 ≠ 13 * q + 1 by omega), upd_off _ _ (show 13 * q + 12 ≠ 13 * q by omega)]
theorem ly_L {N : Nat → Int32} {q : Nat} {n1 n2 n3 n4 n5 n6 n7 n8 : Int32} : hL (layN N q n1 n2 n3 n4 n5 n6 n7 n8) q = [.int n1, .int n2, .int n5, .int n3, .int n4, .int n6, .int n7, .int n8, .int (N (13 * q + 8)), .int (N (13 * q + 9)), .int (N (13 * q + 10)), .int (N (13 * q + 11)), .int (N (13 * q + 12))] := by
  unfold hL
  rw [ly_0, ly_1, ly_4, ly_2, ly_3, ly_5, ly_6, ly_7, ly_8, ly_9, ly_10, ly_11, ly_12]
theorem ly_N {N : Nat → Int32} {q : Nat} {n1 n2 n3 n4 n5 n6 n7 n8 : Int32} (hg : hgN N q) (h0 : cB n1) (h1 : cB n2) (h2 : cB n3) (h3 : cB n4) (h4 : aB n5) (h5 : aB n6) (h6 : aB n7) (h7 : n8 = 1 ∨ n8 = -1) : hgN (layN N q n1 n2 n3 n4 n5 n6 n7 n8) q := by
  obtain ⟨g0, g1, g4, g2, g3, g5, g6, g7, g8, g9, g10, g11, g12⟩ := hg
  unfold hgN
  rw [ly_0, ly_1, ly_4, ly_2, ly_3, ly_5, ly_6, ly_7, ly_8, ly_9, ly_10, ly_11, ly_12]
  exact ⟨h0, h1, h4, h2, h3, h5, h6, h7, g8, g9, g10, g11, g12⟩
theorem wh_only {N : Nat → Int32} {q : Nat} {n1 n2 : Int32} : only (whN N q n1 n2) N q := by
  intro x hx
  unfold whN
  rw [upd_off _ _ (show x ≠ 13 * q + 9 by omega), upd_off _ _ (show x ≠ 13 * q + 8 by omega)]
theorem wh_0 {N : Nat → Int32} {q : Nat} {n1 n2 : Int32} : whN N q n1 n2 (13 * q) = N (13 * q) := by
  unfold whN
  rw [upd_off _ _ (show 13 * q ≠ 13 * q + 9 by omega), upd_off _ _ (show 13 * q ≠ 13 * q + 8 by omega)]
theorem wh_1 {N : Nat → Int32} {q : Nat} {n1 n2 : Int32} : whN N q n1 n2 (13 * q + 1) = N (13 * q + 1) := by
  unfold whN
  rw [upd_off _ _ (show 13 * q + 1 ≠ 13 * q + 9 by omega), upd_off _ _ (show 13 * q + 1 ≠ 13 * q + 8 by omega)]
theorem wh_2 {N : Nat → Int32} {q : Nat} {n1 n2 : Int32} : whN N q n1 n2 (13 * q + 2) = N (13 * q + 2) := by
  unfold whN
  rw [upd_off _ _ (show 13 * q + 2 ≠ 13 * q + 9 by omega), upd_off _ _ (show 13 * q + 2 ≠ 13 * q + 8 by omega)]
theorem wh_3 {N : Nat → Int32} {q : Nat} {n1 n2 : Int32} : whN N q n1 n2 (13 * q + 3) = N (13 * q + 3) := by
  unfold whN
  rw [upd_off _ _ (show 13 * q + 3 ≠ 13 * q + 9 by omega), upd_off _ _ (show 13 * q + 3 ≠ 13 * q + 8 by omega)]
theorem wh_4 {N : Nat → Int32} {q : Nat} {n1 n2 : Int32} : whN N q n1 n2 (13 * q + 4) = N (13 * q + 4) := by
  unfold whN
  rw [upd_off _ _ (show 13 * q + 4 ≠ 13 * q + 9 by omega), upd_off _ _ (show 13 * q + 4 ≠ 13 * q + 8 by omega)]
theorem wh_5 {N : Nat → Int32} {q : Nat} {n1 n2 : Int32} : whN N q n1 n2 (13 * q + 5) = N (13 * q + 5) := by
  unfold whN
  rw [upd_off _ _ (show 13 * q + 5 ≠ 13 * q + 9 by omega), upd_off _ _ (show 13 * q + 5 ≠ 13 * q + 8 by omega)]
theorem wh_6 {N : Nat → Int32} {q : Nat} {n1 n2 : Int32} : whN N q n1 n2 (13 * q + 6) = N (13 * q + 6) := by
  unfold whN
  rw [upd_off _ _ (show 13 * q + 6 ≠ 13 * q + 9 by omega), upd_off _ _ (show 13 * q + 6 ≠ 13 * q + 8 by omega)]
theorem wh_7 {N : Nat → Int32} {q : Nat} {n1 n2 : Int32} : whN N q n1 n2 (13 * q + 7) = N (13 * q + 7) := by
  unfold whN
  rw [upd_off _ _ (show 13 * q + 7 ≠ 13 * q + 9 by omega), upd_off _ _ (show 13 * q + 7 ≠ 13 * q + 8 by omega)]
theorem wh_8 {N : Nat → Int32} {q : Nat} {n1 n2 : Int32} : whN N q n1 n2 (13 * q + 8) = n1 := by
  unfold whN
  rw [upd_off _ _ (show 13 * q + 8 ≠ 13 * q + 9 by omega), upd_self]
theorem wh_9 {N : Nat → Int32} {q : Nat} {n1 n2 : Int32} : whN N q n1 n2 (13 * q + 9) = n2 := by
  unfold whN
  rw [upd_self]
theorem wh_10 {N : Nat → Int32} {q : Nat} {n1 n2 : Int32} : whN N q n1 n2 (13 * q + 10) = N (13 * q + 10) := by
  unfold whN
  rw [upd_off _ _ (show 13 * q + 10 ≠ 13 * q + 9 by omega), upd_off _ _ (show 13 * q + 10 ≠ 13 * q + 8 by omega)]
theorem wh_11 {N : Nat → Int32} {q : Nat} {n1 n2 : Int32} : whN N q n1 n2 (13 * q + 11) = N (13 * q + 11) := by
  unfold whN
  rw [upd_off _ _ (show 13 * q + 11 ≠ 13 * q + 9 by omega), upd_off _ _ (show 13 * q + 11 ≠ 13 * q + 8 by omega)]
theorem wh_12 {N : Nat → Int32} {q : Nat} {n1 n2 : Int32} : whN N q n1 n2 (13 * q + 12) = N (13 * q + 12) := by
  unfold whN
  rw [upd_off _ _ (show 13 * q + 12 ≠ 13 * q + 9 by omega), upd_off _ _ (show 13 * q + 12 ≠ 13 * q + 8 by omega)]
theorem wh_L {N : Nat → Int32} {q : Nat} {n1 n2 : Int32} : hL (whN N q n1 n2) q = [.int (N (13 * q)), .int (N (13 * q + 1)), .int (N (13 * q + 4)), .int (N (13 * q + 2)), .int (N (13 * q + 3)), .int (N (13 * q + 5)), .int (N (13 * q + 6)), .int (N (13 * q + 7)), .int n1, .int n2, .int (N (13 * q + 10)), .int (N (13 * q + 11)), .int (N (13 * q + 12))] := by
  unfold hL
  rw [wh_0, wh_1, wh_4, wh_2, wh_3, wh_5, wh_6, wh_7, wh_8, wh_9, wh_10, wh_11, wh_12]
theorem wh_N {N : Nat → Int32} {q : Nat} {n1 n2 : Int32} (hg : hgN N q) (h8 : cB n1) (h9 : cB n2) : hgN (whN N q n1 n2) q := by
  obtain ⟨g0, g1, g4, g2, g3, g5, g6, g7, g8, g9, g10, g11, g12⟩ := hg
  unfold hgN
  rw [wh_0, wh_1, wh_4, wh_2, wh_3, wh_5, wh_6, wh_7, wh_8, wh_9, wh_10, wh_11, wh_12]
  exact ⟨g0, g1, g4, g2, g3, g5, g6, g7, h8, h9, g10, g11, g12⟩
theorem sp_only {N : Nat → Int32} {q : Nat} {n1 n2 n3 : Int32} : only (spN N q n1 n2 n3) N q := by
  intro x hx
  unfold spN
  rw [upd_off _ _ (show x ≠ 13 * q + 12 by omega), upd_off _ _ (show x ≠ 13 * q + 11 by omega), upd_off _ _ (show x ≠ 13 * q + 10 by omega)]
theorem sp_0 {N : Nat → Int32} {q : Nat} {n1 n2 n3 : Int32} : spN N q n1 n2 n3 (13 * q) = N (13 * q) := by
  unfold spN
  rw [upd_off _ _ (show 13 * q ≠ 13 * q + 12 by omega), upd_off _ _ (show 13 * q ≠ 13 * q + 11 by omega), upd_off _ _ (show 13 * q ≠ 13 * q + 10 by omega)]
theorem sp_1 {N : Nat → Int32} {q : Nat} {n1 n2 n3 : Int32} : spN N q n1 n2 n3 (13 * q + 1) = N (13 * q + 1) := by
  unfold spN
  rw [upd_off _ _ (show 13 * q + 1 ≠ 13 * q + 12 by omega), upd_off _ _ (show 13 * q + 1 ≠ 13 * q + 11 by omega), upd_off _ _ (show 13 * q + 1 ≠ 13 * q + 10 by omega)]
theorem sp_2 {N : Nat → Int32} {q : Nat} {n1 n2 n3 : Int32} : spN N q n1 n2 n3 (13 * q + 2) = N (13 * q + 2) := by
  unfold spN
  rw [upd_off _ _ (show 13 * q + 2 ≠ 13 * q + 12 by omega), upd_off _ _ (show 13 * q + 2 ≠ 13 * q + 11 by omega), upd_off _ _ (show 13 * q + 2 ≠ 13 * q + 10 by omega)]
theorem sp_3 {N : Nat → Int32} {q : Nat} {n1 n2 n3 : Int32} : spN N q n1 n2 n3 (13 * q + 3) = N (13 * q + 3) := by
  unfold spN
  rw [upd_off _ _ (show 13 * q + 3 ≠ 13 * q + 12 by omega), upd_off _ _ (show 13 * q + 3 ≠ 13 * q + 11 by omega), upd_off _ _ (show 13 * q + 3 ≠ 13 * q + 10 by omega)]
theorem sp_4 {N : Nat → Int32} {q : Nat} {n1 n2 n3 : Int32} : spN N q n1 n2 n3 (13 * q + 4) = N (13 * q + 4) := by
  unfold spN
  rw [upd_off _ _ (show 13 * q + 4 ≠ 13 * q + 12 by omega), upd_off _ _ (show 13 * q + 4 ≠ 13 * q + 11 by omega), upd_off _ _ (show 13 * q + 4 ≠ 13 * q + 10 by omega)]
theorem sp_5 {N : Nat → Int32} {q : Nat} {n1 n2 n3 : Int32} : spN N q n1 n2 n3 (13 * q + 5) = N (13 * q + 5) := by
  unfold spN
  rw [upd_off _ _ (show 13 * q + 5 ≠ 13 * q + 12 by omega), upd_off _ _ (show 13 * q + 5 ≠ 13 * q + 11 by omega), upd_off _ _ (show 13 * q + 5 ≠ 13 * q + 10 by omega)]
theorem sp_6 {N : Nat → Int32} {q : Nat} {n1 n2 n3 : Int32} : spN N q n1 n2 n3 (13 * q + 6) = N (13 * q + 6) := by
  unfold spN
  rw [upd_off _ _ (show 13 * q + 6 ≠ 13 * q + 12 by omega), upd_off _ _ (show 13 * q + 6 ≠ 13 * q + 11 by omega), upd_off _ _ (show 13 * q + 6 ≠ 13 * q + 10 by omega)]
theorem sp_7 {N : Nat → Int32} {q : Nat} {n1 n2 n3 : Int32} : spN N q n1 n2 n3 (13 * q + 7) = N (13 * q + 7) := by
  unfold spN
  rw [upd_off _ _ (show 13 * q + 7 ≠ 13 * q + 12 by omega), upd_off _ _ (show 13 * q + 7 ≠ 13 * q + 11 by omega), upd_off _ _ (show 13 * q + 7 ≠ 13 * q + 10 by omega)]
theorem sp_8 {N : Nat → Int32} {q : Nat} {n1 n2 n3 : Int32} : spN N q n1 n2 n3 (13 * q + 8) = N (13 * q + 8) := by
  unfold spN
  rw [upd_off _ _ (show 13 * q + 8 ≠ 13 * q + 12 by omega), upd_off _ _ (show 13 * q + 8 ≠ 13 * q + 11 by omega), upd_off _ _ (show 13 * q + 8 ≠ 13 * q + 10 by omega)]
theorem sp_9 {N : Nat → Int32} {q : Nat} {n1 n2 n3 : Int32} : spN N q n1 n2 n3 (13 * q + 9) = N (13 * q + 9) := by
  unfold spN
  rw [upd_off _ _ (show 13 * q + 9 ≠ 13 * q + 12 by omega), upd_off _ _ (show 13 * q + 9 ≠ 13 * q + 11 by omega), upd_off _ _ (show 13 * q + 9 ≠ 13 * q + 10 by omega)]
theorem sp_10 {N : Nat → Int32} {q : Nat} {n1 n2 n3 : Int32} : spN N q n1 n2 n3 (13 * q + 10) = n1 := by
  unfold spN
  rw [upd_off _ _ (show 13 * q + 10 ≠ 13 * q + 12 by omega), upd_off _ _ (show 13 * q + 10 ≠ 13 * q + 11 by omega), upd_self]
theorem sp_11 {N : Nat → Int32} {q : Nat} {n1 n2 n3 : Int32} : spN N q n1 n2 n3 (13 * q + 11) = n2 := by
  unfold spN
  rw [upd_off _ _ (show 13 * q + 11 ≠ 13 * q + 12 by omega), upd_self]
theorem sp_12 {N : Nat → Int32} {q : Nat} {n1 n2 n3 : Int32} : spN N q n1 n2 n3 (13 * q + 12) = n3 := by
  unfold spN
  rw [upd_self]
theorem sp_L {N : Nat → Int32} {q : Nat} {n1 n2 n3 : Int32} : hL (spN N q n1 n2 n3) q = [.int (N (13 * q)), .int (N (13 * q + 1)), .int (N (13 * q + 4)), .int (N (13 * q + 2)), .int (N (13 * q + 3)), .int (N (13 * q + 5)), .int (N (13 * q + 6)), .int (N (13 * q + 7)), .int (N (13 * q + 8)), .int (N (13 * q + 9)), .int n1, .int n2, .int n3] := by
  unfold hL
  rw [sp_0, sp_1, sp_4, sp_2, sp_3, sp_5, sp_6, sp_7, sp_8, sp_9, sp_10, sp_11, sp_12]
theorem sp_N {N : Nat → Int32} {q : Nat} {n1 n2 n3 : Int32} (hg : hgN N q) (h10 : cB n1) (h11 : cB n2) (h12 : zB n3) : hgN (spN N q n1 n2 n3) q := by
  obtain ⟨g0, g1, g4, g2, g3, g5, g6, g7, g8, g9, g10, g11, g12⟩ := hg
  unfold hgN
  rw [sp_0, sp_1, sp_4, sp_2, sp_3, sp_5, sp_6, sp_7, sp_8, sp_9, sp_10, sp_11, sp_12]
  exact ⟨g0, g1, g4, g2, g3, g5, g6, g7, g8, g9, h10, h11, h12⟩
theorem mirF_v {N : Nat → Int32} {q q2 : Nat} (hq : q < 4) (hq2 : q2 < 4) : ∀ j, j ≤ 13 → ∀ x, (mirF N q q2 j) x = if 13 * q2 ≤ x ∧ x < 13 * q2 + j then mirV (x - 13 * q2) (N (13 * q + (x - 13 * q2))) else N x := by
  intro j
  induction j with
  | zero =>
    intro _ x
    rw [if_neg (by omega)]
    rfl
  | succ j ih =>
    intro hj x
    have ih := ih (by omega)
    show upd (mirF N q q2 j) (13 * q2 + j) (mirV j (mirF N q q2 j (13 * q + j))) x = _
    have hv : mirF N q q2 j (13 * q + j) = N (13 * q + j) := by
      rw [ih, if_neg (by omega)]
    rw [hv]
    by_cases hx : x = 13 * q2 + j
    · subst hx
      rw [upd_self, if_pos (by omega), show 13 * q2 + j - 13 * q2 = j by omega]
    · rw [upd_off _ _ hx, ih]
      by_cases hc : 13 * q2 ≤ x ∧ x < 13 * q2 + j
      · rw [if_pos hc, if_pos (by omega)]
      · rw [if_neg hc, if_neg (by omega)]
theorem mi_only {N : Nat → Int32} {q q2 : Nat} (hq : q < 4) (hq2 : q2 < 4) : only (mirF N q q2 13) N q2 := by
  intro x hx
  rw [mirF_v hq hq2 13 (by omega) x, if_neg (by omega)]
theorem mi_0 {N : Nat → Int32} {q q2 : Nat} (hq : q < 4) (hq2 : q2 < 4) : mirF N q q2 13 (13 * q2) = -N (13 * q) := by
  rw [mirF_v hq hq2 13 (by omega), if_pos (by omega), show 13 * q2 - 13 * q2 = 0 by omega]
  exact if_pos (by decide +kernel)
theorem mi_1 {N : Nat → Int32} {q q2 : Nat} (hq : q < 4) (hq2 : q2 < 4) : mirF N q q2 13 (13 * q2 + 1) = N (13 * q + 1) := by
  rw [mirF_v hq hq2 13 (by omega), if_pos (by omega), show 13 * q2 + 1 - 13 * q2 = 1 by omega]
  exact if_neg (by decide +kernel)
theorem mi_2 {N : Nat → Int32} {q q2 : Nat} (hq : q < 4) (hq2 : q2 < 4) : mirF N q q2 13 (13 * q2 + 2) = -N (13 * q + 2) := by
  rw [mirF_v hq hq2 13 (by omega), if_pos (by omega), show 13 * q2 + 2 - 13 * q2 = 2 by omega]
  exact if_pos (by decide +kernel)
theorem mi_3 {N : Nat → Int32} {q q2 : Nat} (hq : q < 4) (hq2 : q2 < 4) : mirF N q q2 13 (13 * q2 + 3) = N (13 * q + 3) := by
  rw [mirF_v hq hq2 13 (by omega), if_pos (by omega), show 13 * q2 + 3 - 13 * q2 = 3 by omega]
  exact if_neg (by decide +kernel)
theorem mi_4 {N : Nat → Int32} {q q2 : Nat} (hq : q < 4) (hq2 : q2 < 4) : mirF N q q2 13 (13 * q2 + 4) = N (13 * q + 4) := by
  rw [mirF_v hq hq2 13 (by omega), if_pos (by omega), show 13 * q2 + 4 - 13 * q2 = 4 by omega]
  exact if_neg (by decide +kernel)
theorem mi_5 {N : Nat → Int32} {q q2 : Nat} (hq : q < 4) (hq2 : q2 < 4) : mirF N q q2 13 (13 * q2 + 5) = N (13 * q + 5) := by
  rw [mirF_v hq hq2 13 (by omega), if_pos (by omega), show 13 * q2 + 5 - 13 * q2 = 5 by omega]
  exact if_neg (by decide +kernel)
theorem mi_6 {N : Nat → Int32} {q q2 : Nat} (hq : q < 4) (hq2 : q2 < 4) : mirF N q q2 13 (13 * q2 + 6) = N (13 * q + 6) := by
  rw [mirF_v hq hq2 13 (by omega), if_pos (by omega), show 13 * q2 + 6 - 13 * q2 = 6 by omega]
  exact if_neg (by decide +kernel)
theorem mi_7 {N : Nat → Int32} {q q2 : Nat} (hq : q < 4) (hq2 : q2 < 4) : mirF N q q2 13 (13 * q2 + 7) = -N (13 * q + 7) := by
  rw [mirF_v hq hq2 13 (by omega), if_pos (by omega), show 13 * q2 + 7 - 13 * q2 = 7 by omega]
  exact if_pos (by decide +kernel)
theorem mi_8 {N : Nat → Int32} {q q2 : Nat} (hq : q < 4) (hq2 : q2 < 4) : mirF N q q2 13 (13 * q2 + 8) = N (13 * q + 8) := by
  rw [mirF_v hq hq2 13 (by omega), if_pos (by omega), show 13 * q2 + 8 - 13 * q2 = 8 by omega]
  exact if_neg (by decide +kernel)
theorem mi_9 {N : Nat → Int32} {q q2 : Nat} (hq : q < 4) (hq2 : q2 < 4) : mirF N q q2 13 (13 * q2 + 9) = N (13 * q + 9) := by
  rw [mirF_v hq hq2 13 (by omega), if_pos (by omega), show 13 * q2 + 9 - 13 * q2 = 9 by omega]
  exact if_neg (by decide +kernel)
theorem mi_10 {N : Nat → Int32} {q q2 : Nat} (hq : q < 4) (hq2 : q2 < 4) : mirF N q q2 13 (13 * q2 + 10) = -N (13 * q + 10) := by
  rw [mirF_v hq hq2 13 (by omega), if_pos (by omega), show 13 * q2 + 10 - 13 * q2 = 10 by omega]
  exact if_pos (by decide +kernel)
theorem mi_11 {N : Nat → Int32} {q q2 : Nat} (hq : q < 4) (hq2 : q2 < 4) : mirF N q q2 13 (13 * q2 + 11) = N (13 * q + 11) := by
  rw [mirF_v hq hq2 13 (by omega), if_pos (by omega), show 13 * q2 + 11 - 13 * q2 = 11 by omega]
  exact if_neg (by decide +kernel)
theorem mi_12 {N : Nat → Int32} {q q2 : Nat} (hq : q < 4) (hq2 : q2 < 4) : mirF N q q2 13 (13 * q2 + 12) = N (13 * q + 12) := by
  rw [mirF_v hq hq2 13 (by omega), if_pos (by omega), show 13 * q2 + 12 - 13 * q2 = 12 by omega]
  exact if_neg (by decide +kernel)
theorem mi_L {N : Nat → Int32} {q q2 : Nat} (hq : q < 4) (hq2 : q2 < 4) : hL (mirF N q q2 13) q2 = [.int (-N (13 * q)), .int (N (13 * q + 1)), .int (N (13 * q + 4)), .int (-N (13 * q + 2)), .int (N (13 * q + 3)), .int (N (13 * q + 5)), .int (N (13 * q + 6)), .int (-N (13 * q + 7)), .int (N (13 * q + 8)), .int (N (13 * q + 9)), .int (-N (13 * q + 10)), .int (N (13 * q + 11)), .int (N (13 * q + 12))] := by
  unfold hL
  rw [mi_0 hq hq2, mi_1 hq hq2, mi_4 hq hq2, mi_2 hq hq2, mi_3 hq hq2, mi_5 hq hq2, mi_6 hq hq2, mi_7 hq hq2, mi_8 hq hq2, mi_9 hq hq2, mi_10 hq hq2, mi_11 hq hq2, mi_12 hq hq2]
theorem cB_neg {v : Int32} (h : cB v) : cB (-v) := by
  obtain ⟨h1, h2⟩ := h
  have e : (-v).toInt = -v.toInt := by
    have e0 : (0 : Int32).toInt = 0 := rfl
    have e1 := i3_sub (a := 0) (b := v) (by omega) (by omega)
    rw [Int32.zero_sub] at e1
    omega
  exact ⟨by omega, by omega⟩
theorem sd_neg {v : Int32} (h : v = 1 ∨ v = -1) : -v = 1 ∨ -v = -1 := by
  rcases h with rfl | rfl
  · exact Or.inr rfl
  · exact Or.inl (by decide)
theorem mi_N {N : Nat → Int32} {q q2 : Nat} (hq : q < 4) (hq2 : q2 < 4) (hg : hgN N q) : hgN (mirF N q q2 13) q2 := by
  obtain ⟨g0, g1, g4, g2, g3, g5, g6, g7, g8, g9, g10, g11, g12⟩ := hg
  unfold hgN
  rw [mi_0 hq hq2, mi_1 hq hq2, mi_4 hq hq2, mi_2 hq hq2, mi_3 hq hq2, mi_5 hq hq2, mi_6 hq hq2, mi_7 hq hq2, mi_8 hq hq2, mi_9 hq hq2, mi_10 hq hq2, mi_11 hq hq2, mi_12 hq hq2]
  exact ⟨cB_neg g0, g1, g4, cB_neg g2, g3, g5, g6, sd_neg g7, g8, g9, cB_neg g10, g11, g12⟩
theorem fin_st {D : va_G} {cI cH : ClassId} {z : Nat → Nat} {fh : Nat → Option Nat} {N ft f1 f2 : Nat → Int32} {k k2 : Nat} {us car um : List Value} {A : Nat → Prop} {us' : List Value} {um' : List Value} {H H1 H2 : Heap} (hz : zOk A z) (hP : wP D cI cH z fh N ft f1 f2 k k2 us car um H) (hk1 : ∀ p : Nat, p < H.size → ¬ (aE (z 2)) p → H1[p]? = H[p]?) (hk2 : ∀ p : Nat, p < H1.size → ¬ (aE (z 13)) p → H2[p]? = H1[p]?) (h1 : va_at D vwCl (z 2, .inr (4, us')) H1) (h2 : va_at D vwCl (z 13, .inr (6, um')) H2) : wP D cI cH z fh N ft f1 f2 k k2 us' car um' H2 := by
  refine wP_two hP hk1 hk2 (fun i hi => ?_)
  rcases (show i = 0 ∨ i = 1 ∨ i = 2 ∨ i = 3 ∨ i = 4 ∨ i = 5 ∨ i = 6 ∨ i = 7 ∨ i = 8 ∨ i = 9 ∨ i = 10 ∨ i = 11 ∨ i = 12 ∨ i = 13 ∨ i = 14 ∨ i = 15 ∨ i = 16 ∨ i = 17 by omega) with rfl | rfl | rfl | rfl | rfl | rfl | rfl | rfl | rfl | rfl | rfl | rfl | rfl | rfl | rfl | rfl | rfl | rfl
  · exact Or.inl ⟨rfl, hz.ne 0 2 (by decide) (by decide) (by decide), hz.ne 0 13 (by decide) (by decide) (by decide)⟩
  · exact Or.inl ⟨rfl, hz.ne 1 2 (by decide) (by decide) (by decide), hz.ne 1 13 (by decide) (by decide) (by decide)⟩
  · exact Or.inr (Or.inl ⟨h1, hz.ne 2 13 (by decide) (by decide) (by decide)⟩)
  · exact Or.inl ⟨rfl, hz.ne 3 2 (by decide) (by decide) (by decide), hz.ne 3 13 (by decide) (by decide) (by decide)⟩
  · exact Or.inl ⟨rfl, hz.ne 4 2 (by decide) (by decide) (by decide), hz.ne 4 13 (by decide) (by decide) (by decide)⟩
  · exact Or.inl ⟨rfl, hz.ne 5 2 (by decide) (by decide) (by decide), hz.ne 5 13 (by decide) (by decide) (by decide)⟩
  · exact Or.inl ⟨rfl, hz.ne 6 2 (by decide) (by decide) (by decide), hz.ne 6 13 (by decide) (by decide) (by decide)⟩
  · exact Or.inl ⟨rfl, hz.ne 7 2 (by decide) (by decide) (by decide), hz.ne 7 13 (by decide) (by decide) (by decide)⟩
  · exact Or.inl ⟨rfl, hz.ne 8 2 (by decide) (by decide) (by decide), hz.ne 8 13 (by decide) (by decide) (by decide)⟩
  · exact Or.inl ⟨rfl, hz.ne 9 2 (by decide) (by decide) (by decide), hz.ne 9 13 (by decide) (by decide) (by decide)⟩
  · exact Or.inl ⟨rfl, hz.ne 10 2 (by decide) (by decide) (by decide), hz.ne 10 13 (by decide) (by decide) (by decide)⟩
  · exact Or.inl ⟨rfl, hz.ne 11 2 (by decide) (by decide) (by decide), hz.ne 11 13 (by decide) (by decide) (by decide)⟩
  · exact Or.inl ⟨rfl, hz.ne 12 2 (by decide) (by decide) (by decide), hz.ne 12 13 (by decide) (by decide) (by decide)⟩
  · exact Or.inr (Or.inr h2)
  · exact Or.inl ⟨rfl, hz.ne 14 2 (by decide) (by decide) (by decide), hz.ne 14 13 (by decide) (by decide) (by decide)⟩
  · exact Or.inl ⟨rfl, hz.ne 15 2 (by decide) (by decide) (by decide), hz.ne 15 13 (by decide) (by decide) (by decide)⟩
  · exact Or.inl ⟨rfl, hz.ne 16 2 (by decide) (by decide) (by decide), hz.ne 16 13 (by decide) (by decide) (by decide)⟩
  · exact Or.inl ⟨rfl, hz.ne 17 2 (by decide) (by decide) (by decide), hz.ne 17 13 (by decide) (by decide) (by decide)⟩
theorem fin_fd {D : va_G} {cI cH : ClassId} {z : Nat → Nat} {fh : Nat → Option Nat} {N ft f1 f2 : Nat → Int32} {k k2 : Nat} {us car um : List Value} {A : Nat → Prop} {us' : List Value} {um' : List Value} {H H1 H2 : Heap} (hz : zOk A z) (hP : wP D cI cH z fh N ft f1 f2 k k2 us car um H) (hk1 : ∀ p : Nat, p < H.size → ¬ (aE (z 2)) p → H1[p]? = H[p]?) (hk2 : ∀ p : Nat, p < H1.size → ¬ (aE2 (z 13) (z 14)) p → H2[p]? = H1[p]?) (h1 : va_at D vwCl (z 2, .inr (4, us')) H1) (h2 : va_at D vwCl (z 13, .inr (6, um')) H2) (h3 : va_at D vwCl (z 14, .inl (cI, 52, .inl N)) H2) : wP D cI cH z fh N ft f1 f2 k k2 us' car um' H2 := by
  refine wP_two hP hk1 hk2 (fun i hi => ?_)
  rcases (show i = 0 ∨ i = 1 ∨ i = 2 ∨ i = 3 ∨ i = 4 ∨ i = 5 ∨ i = 6 ∨ i = 7 ∨ i = 8 ∨ i = 9 ∨ i = 10 ∨ i = 11 ∨ i = 12 ∨ i = 13 ∨ i = 14 ∨ i = 15 ∨ i = 16 ∨ i = 17 by omega) with rfl | rfl | rfl | rfl | rfl | rfl | rfl | rfl | rfl | rfl | rfl | rfl | rfl | rfl | rfl | rfl | rfl | rfl
  · exact Or.inl ⟨rfl, hz.ne 0 2 (by decide) (by decide) (by decide), fun h9 => h9.elim (hz.ne 0 13 (by decide) (by decide) (by decide)) (hz.ne 0 14 (by decide) (by decide) (by decide))⟩
  · exact Or.inl ⟨rfl, hz.ne 1 2 (by decide) (by decide) (by decide), fun h9 => h9.elim (hz.ne 1 13 (by decide) (by decide) (by decide)) (hz.ne 1 14 (by decide) (by decide) (by decide))⟩
  · exact Or.inr (Or.inl ⟨h1, fun h9 => h9.elim (hz.ne 2 13 (by decide) (by decide) (by decide)) (hz.ne 2 14 (by decide) (by decide) (by decide))⟩)
  · exact Or.inl ⟨rfl, hz.ne 3 2 (by decide) (by decide) (by decide), fun h9 => h9.elim (hz.ne 3 13 (by decide) (by decide) (by decide)) (hz.ne 3 14 (by decide) (by decide) (by decide))⟩
  · exact Or.inl ⟨rfl, hz.ne 4 2 (by decide) (by decide) (by decide), fun h9 => h9.elim (hz.ne 4 13 (by decide) (by decide) (by decide)) (hz.ne 4 14 (by decide) (by decide) (by decide))⟩
  · exact Or.inl ⟨rfl, hz.ne 5 2 (by decide) (by decide) (by decide), fun h9 => h9.elim (hz.ne 5 13 (by decide) (by decide) (by decide)) (hz.ne 5 14 (by decide) (by decide) (by decide))⟩
  · exact Or.inl ⟨rfl, hz.ne 6 2 (by decide) (by decide) (by decide), fun h9 => h9.elim (hz.ne 6 13 (by decide) (by decide) (by decide)) (hz.ne 6 14 (by decide) (by decide) (by decide))⟩
  · exact Or.inl ⟨rfl, hz.ne 7 2 (by decide) (by decide) (by decide), fun h9 => h9.elim (hz.ne 7 13 (by decide) (by decide) (by decide)) (hz.ne 7 14 (by decide) (by decide) (by decide))⟩
  · exact Or.inl ⟨rfl, hz.ne 8 2 (by decide) (by decide) (by decide), fun h9 => h9.elim (hz.ne 8 13 (by decide) (by decide) (by decide)) (hz.ne 8 14 (by decide) (by decide) (by decide))⟩
  · exact Or.inl ⟨rfl, hz.ne 9 2 (by decide) (by decide) (by decide), fun h9 => h9.elim (hz.ne 9 13 (by decide) (by decide) (by decide)) (hz.ne 9 14 (by decide) (by decide) (by decide))⟩
  · exact Or.inl ⟨rfl, hz.ne 10 2 (by decide) (by decide) (by decide), fun h9 => h9.elim (hz.ne 10 13 (by decide) (by decide) (by decide)) (hz.ne 10 14 (by decide) (by decide) (by decide))⟩
  · exact Or.inl ⟨rfl, hz.ne 11 2 (by decide) (by decide) (by decide), fun h9 => h9.elim (hz.ne 11 13 (by decide) (by decide) (by decide)) (hz.ne 11 14 (by decide) (by decide) (by decide))⟩
  · exact Or.inl ⟨rfl, hz.ne 12 2 (by decide) (by decide) (by decide), fun h9 => h9.elim (hz.ne 12 13 (by decide) (by decide) (by decide)) (hz.ne 12 14 (by decide) (by decide) (by decide))⟩
  · exact Or.inr (Or.inr h2)
  · exact Or.inr (Or.inr h3)
  · exact Or.inl ⟨rfl, hz.ne 15 2 (by decide) (by decide) (by decide), fun h9 => h9.elim (hz.ne 15 13 (by decide) (by decide) (by decide)) (hz.ne 15 14 (by decide) (by decide) (by decide))⟩
  · exact Or.inl ⟨rfl, hz.ne 16 2 (by decide) (by decide) (by decide), fun h9 => h9.elim (hz.ne 16 13 (by decide) (by decide) (by decide)) (hz.ne 16 14 (by decide) (by decide) (by decide))⟩
  · exact Or.inl ⟨rfl, hz.ne 17 2 (by decide) (by decide) (by decide), fun h9 => h9.elim (hz.ne 17 13 (by decide) (by decide) (by decide)) (hz.ne 17 14 (by decide) (by decide) (by decide))⟩
theorem fin_car {D : va_G} {cI cH : ClassId} {z : Nat → Nat} {fh : Nat → Option Nat} {N ft f1 f2 : Nat → Int32} {k k2 : Nat} {us car um : List Value} {A : Nat → Prop} {car' : List Value} {um' : List Value} {H H1 H2 : Heap} (hz : zOk A z) (hP : wP D cI cH z fh N ft f1 f2 k k2 us car um H) (hk1 : ∀ p : Nat, p < H.size → ¬ (aE (z 3)) p → H1[p]? = H[p]?) (hk2 : ∀ p : Nat, p < H1.size → ¬ (aE (z 13)) p → H2[p]? = H1[p]?) (h1 : va_at D vwCl (z 3, .inr (0, car')) H1) (h2 : va_at D vwCl (z 13, .inr (6, um')) H2) : wP D cI cH z fh N ft f1 f2 k k2 us car' um' H2 := by
  refine wP_two hP hk1 hk2 (fun i hi => ?_)
  rcases (show i = 0 ∨ i = 1 ∨ i = 2 ∨ i = 3 ∨ i = 4 ∨ i = 5 ∨ i = 6 ∨ i = 7 ∨ i = 8 ∨ i = 9 ∨ i = 10 ∨ i = 11 ∨ i = 12 ∨ i = 13 ∨ i = 14 ∨ i = 15 ∨ i = 16 ∨ i = 17 by omega) with rfl | rfl | rfl | rfl | rfl | rfl | rfl | rfl | rfl | rfl | rfl | rfl | rfl | rfl | rfl | rfl | rfl | rfl
  · exact Or.inl ⟨rfl, hz.ne 0 3 (by decide) (by decide) (by decide), hz.ne 0 13 (by decide) (by decide) (by decide)⟩
  · exact Or.inl ⟨rfl, hz.ne 1 3 (by decide) (by decide) (by decide), hz.ne 1 13 (by decide) (by decide) (by decide)⟩
  · exact Or.inl ⟨rfl, hz.ne 2 3 (by decide) (by decide) (by decide), hz.ne 2 13 (by decide) (by decide) (by decide)⟩
  · exact Or.inr (Or.inl ⟨h1, hz.ne 3 13 (by decide) (by decide) (by decide)⟩)
  · exact Or.inl ⟨rfl, hz.ne 4 3 (by decide) (by decide) (by decide), hz.ne 4 13 (by decide) (by decide) (by decide)⟩
  · exact Or.inl ⟨rfl, hz.ne 5 3 (by decide) (by decide) (by decide), hz.ne 5 13 (by decide) (by decide) (by decide)⟩
  · exact Or.inl ⟨rfl, hz.ne 6 3 (by decide) (by decide) (by decide), hz.ne 6 13 (by decide) (by decide) (by decide)⟩
  · exact Or.inl ⟨rfl, hz.ne 7 3 (by decide) (by decide) (by decide), hz.ne 7 13 (by decide) (by decide) (by decide)⟩
  · exact Or.inl ⟨rfl, hz.ne 8 3 (by decide) (by decide) (by decide), hz.ne 8 13 (by decide) (by decide) (by decide)⟩
  · exact Or.inl ⟨rfl, hz.ne 9 3 (by decide) (by decide) (by decide), hz.ne 9 13 (by decide) (by decide) (by decide)⟩
  · exact Or.inl ⟨rfl, hz.ne 10 3 (by decide) (by decide) (by decide), hz.ne 10 13 (by decide) (by decide) (by decide)⟩
  · exact Or.inl ⟨rfl, hz.ne 11 3 (by decide) (by decide) (by decide), hz.ne 11 13 (by decide) (by decide) (by decide)⟩
  · exact Or.inl ⟨rfl, hz.ne 12 3 (by decide) (by decide) (by decide), hz.ne 12 13 (by decide) (by decide) (by decide)⟩
  · exact Or.inr (Or.inr h2)
  · exact Or.inl ⟨rfl, hz.ne 14 3 (by decide) (by decide) (by decide), hz.ne 14 13 (by decide) (by decide) (by decide)⟩
  · exact Or.inl ⟨rfl, hz.ne 15 3 (by decide) (by decide) (by decide), hz.ne 15 13 (by decide) (by decide) (by decide)⟩
  · exact Or.inl ⟨rfl, hz.ne 16 3 (by decide) (by decide) (by decide), hz.ne 16 13 (by decide) (by decide) (by decide)⟩
  · exact Or.inl ⟨rfl, hz.ne 17 3 (by decide) (by decide) (by decide), hz.ne 17 13 (by decide) (by decide) (by decide)⟩
theorem fin_sh {D : va_G} {cI cH : ClassId} {z : Nat → Nat} {fh : Nat → Option Nat} {N ft f1 f2 : Nat → Int32} {k k2 : Nat} {us car um : List Value} {A : Nat → Prop} {k' : Nat} {ft' : Nat → Int32} {um' : List Value} {H H1 H2 : Heap} (hz : zOk A z) (hP : wP D cI cH z fh N ft f1 f2 k k2 us car um H) (hk1 : ∀ p : Nat, p < H.size → ¬ (aE2 (z 4) (z 5)) p → H1[p]? = H[p]?) (hk2 : ∀ p : Nat, p < H1.size → ¬ (aE2 (z 13) (z 15)) p → H2[p]? = H1[p]?) (h1 : va_at D vwCl (z 4, .inr (3, [.ref (z 5), .int (nI k')])) H1) (h2 : va_at D vwCl (z 5, .inl (cI, 10, .inl ft')) H1) (h3 : va_at D vwCl (z 13, .inr (6, um')) H2) (h4 : va_at D vwCl (z 15, .inl (cI, 10, .inl ft')) H2) : wP D cI cH z fh N ft' f1 f2 k' k2 us car um' H2 := by
  refine wP_two hP hk1 hk2 (fun i hi => ?_)
  rcases (show i = 0 ∨ i = 1 ∨ i = 2 ∨ i = 3 ∨ i = 4 ∨ i = 5 ∨ i = 6 ∨ i = 7 ∨ i = 8 ∨ i = 9 ∨ i = 10 ∨ i = 11 ∨ i = 12 ∨ i = 13 ∨ i = 14 ∨ i = 15 ∨ i = 16 ∨ i = 17 by omega) with rfl | rfl | rfl | rfl | rfl | rfl | rfl | rfl | rfl | rfl | rfl | rfl | rfl | rfl | rfl | rfl | rfl | rfl
  · exact Or.inl ⟨rfl, fun h9 => h9.elim (hz.ne 0 4 (by decide) (by decide) (by decide)) (hz.ne 0 5 (by decide) (by decide) (by decide)), fun h9 => h9.elim (hz.ne 0 13 (by decide) (by decide) (by decide)) (hz.ne 0 15 (by decide) (by decide) (by decide))⟩
  · exact Or.inl ⟨rfl, fun h9 => h9.elim (hz.ne 1 4 (by decide) (by decide) (by decide)) (hz.ne 1 5 (by decide) (by decide) (by decide)), fun h9 => h9.elim (hz.ne 1 13 (by decide) (by decide) (by decide)) (hz.ne 1 15 (by decide) (by decide) (by decide))⟩
  · exact Or.inl ⟨rfl, fun h9 => h9.elim (hz.ne 2 4 (by decide) (by decide) (by decide)) (hz.ne 2 5 (by decide) (by decide) (by decide)), fun h9 => h9.elim (hz.ne 2 13 (by decide) (by decide) (by decide)) (hz.ne 2 15 (by decide) (by decide) (by decide))⟩
  · exact Or.inl ⟨rfl, fun h9 => h9.elim (hz.ne 3 4 (by decide) (by decide) (by decide)) (hz.ne 3 5 (by decide) (by decide) (by decide)), fun h9 => h9.elim (hz.ne 3 13 (by decide) (by decide) (by decide)) (hz.ne 3 15 (by decide) (by decide) (by decide))⟩
  · exact Or.inr (Or.inl ⟨h1, fun h9 => h9.elim (hz.ne 4 13 (by decide) (by decide) (by decide)) (hz.ne 4 15 (by decide) (by decide) (by decide))⟩)
  · exact Or.inr (Or.inl ⟨h2, fun h9 => h9.elim (hz.ne 5 13 (by decide) (by decide) (by decide)) (hz.ne 5 15 (by decide) (by decide) (by decide))⟩)
  · exact Or.inl ⟨rfl, fun h9 => h9.elim (hz.ne 6 4 (by decide) (by decide) (by decide)) (hz.ne 6 5 (by decide) (by decide) (by decide)), fun h9 => h9.elim (hz.ne 6 13 (by decide) (by decide) (by decide)) (hz.ne 6 15 (by decide) (by decide) (by decide))⟩
  · exact Or.inl ⟨rfl, fun h9 => h9.elim (hz.ne 7 4 (by decide) (by decide) (by decide)) (hz.ne 7 5 (by decide) (by decide) (by decide)), fun h9 => h9.elim (hz.ne 7 13 (by decide) (by decide) (by decide)) (hz.ne 7 15 (by decide) (by decide) (by decide))⟩
  · exact Or.inl ⟨rfl, fun h9 => h9.elim (hz.ne 8 4 (by decide) (by decide) (by decide)) (hz.ne 8 5 (by decide) (by decide) (by decide)), fun h9 => h9.elim (hz.ne 8 13 (by decide) (by decide) (by decide)) (hz.ne 8 15 (by decide) (by decide) (by decide))⟩
  · exact Or.inl ⟨rfl, fun h9 => h9.elim (hz.ne 9 4 (by decide) (by decide) (by decide)) (hz.ne 9 5 (by decide) (by decide) (by decide)), fun h9 => h9.elim (hz.ne 9 13 (by decide) (by decide) (by decide)) (hz.ne 9 15 (by decide) (by decide) (by decide))⟩
  · exact Or.inl ⟨rfl, fun h9 => h9.elim (hz.ne 10 4 (by decide) (by decide) (by decide)) (hz.ne 10 5 (by decide) (by decide) (by decide)), fun h9 => h9.elim (hz.ne 10 13 (by decide) (by decide) (by decide)) (hz.ne 10 15 (by decide) (by decide) (by decide))⟩
  · exact Or.inl ⟨rfl, fun h9 => h9.elim (hz.ne 11 4 (by decide) (by decide) (by decide)) (hz.ne 11 5 (by decide) (by decide) (by decide)), fun h9 => h9.elim (hz.ne 11 13 (by decide) (by decide) (by decide)) (hz.ne 11 15 (by decide) (by decide) (by decide))⟩
  · exact Or.inl ⟨rfl, fun h9 => h9.elim (hz.ne 12 4 (by decide) (by decide) (by decide)) (hz.ne 12 5 (by decide) (by decide) (by decide)), fun h9 => h9.elim (hz.ne 12 13 (by decide) (by decide) (by decide)) (hz.ne 12 15 (by decide) (by decide) (by decide))⟩
  · exact Or.inr (Or.inr h3)
  · exact Or.inl ⟨rfl, fun h9 => h9.elim (hz.ne 14 4 (by decide) (by decide) (by decide)) (hz.ne 14 5 (by decide) (by decide) (by decide)), fun h9 => h9.elim (hz.ne 14 13 (by decide) (by decide) (by decide)) (hz.ne 14 15 (by decide) (by decide) (by decide))⟩
  · exact Or.inr (Or.inr h4)
  · exact Or.inl ⟨rfl, fun h9 => h9.elim (hz.ne 16 4 (by decide) (by decide) (by decide)) (hz.ne 16 5 (by decide) (by decide) (by decide)), fun h9 => h9.elim (hz.ne 16 13 (by decide) (by decide) (by decide)) (hz.ne 16 15 (by decide) (by decide) (by decide))⟩
  · exact Or.inl ⟨rfl, fun h9 => h9.elim (hz.ne 17 4 (by decide) (by decide) (by decide)) (hz.ne 17 5 (by decide) (by decide) (by decide)), fun h9 => h9.elim (hz.ne 17 13 (by decide) (by decide) (by decide)) (hz.ne 17 15 (by decide) (by decide) (by decide))⟩
theorem fin_rd {D : va_G} {cI cH : ClassId} {z : Nat → Nat} {fh : Nat → Option Nat} {N ft f1 f2 : Nat → Int32} {k k2 : Nat} {us car um : List Value} {A : Nat → Prop} {k2' : Nat} {f1' : Nat → Int32} {f2' : Nat → Int32} {um' : List Value} {H H1 H2 : Heap} (hz : zOk A z) (hP : wP D cI cH z fh N ft f1 f2 k k2 us car um H) (hk1 : ∀ p : Nat, p < H.size → ¬ (aE3 (z 6) (z 7) (z 8)) p → H1[p]? = H[p]?) (hk2 : ∀ p : Nat, p < H1.size → ¬ (aE3 (z 13) (z 16) (z 17)) p → H2[p]? = H1[p]?) (h1 : va_at D vwCl (z 6, .inr (2, [.ref (z 7), .ref (z 8), .int (nI k2')])) H1) (h2 : va_at D vwCl (z 7, .inl (cI, 12, .inl f1')) H1) (h3 : va_at D vwCl (z 8, .inl (cI, 12, .inl f2')) H1) (h4 : va_at D vwCl (z 13, .inr (6, um')) H2) (h5 : va_at D vwCl (z 16, .inl (cI, 12, .inl f1')) H2) (h6 : va_at D vwCl (z 17, .inl (cI, 12, .inl f2')) H2) : wP D cI cH z fh N ft f1' f2' k k2' us car um' H2 := by
  refine wP_two hP hk1 hk2 (fun i hi => ?_)
  rcases (show i = 0 ∨ i = 1 ∨ i = 2 ∨ i = 3 ∨ i = 4 ∨ i = 5 ∨ i = 6 ∨ i = 7 ∨ i = 8 ∨ i = 9 ∨ i = 10 ∨ i = 11 ∨ i = 12 ∨ i = 13 ∨ i = 14 ∨ i = 15 ∨ i = 16 ∨ i = 17 by omega) with rfl | rfl | rfl | rfl | rfl | rfl | rfl | rfl | rfl | rfl | rfl | rfl | rfl | rfl | rfl | rfl | rfl | rfl
  · exact Or.inl ⟨rfl, fun h9 => h9.elim (hz.ne 0 6 (by decide) (by decide) (by decide)) (fun h9 => h9.elim (hz.ne 0 7 (by decide) (by decide) (by decide)) (hz.ne 0 8 (by decide) (by decide) (by decide))), fun h9 => h9.elim (hz.ne 0 13 (by decide) (by decide) (by decide)) (fun h9 => h9.elim (hz.ne 0 16 (by decide) (by decide) (by decide)) (hz.ne 0 17 (by decide) (by decide) (by decide)))⟩
  · exact Or.inl ⟨rfl, fun h9 => h9.elim (hz.ne 1 6 (by decide) (by decide) (by decide)) (fun h9 => h9.elim (hz.ne 1 7 (by decide) (by decide) (by decide)) (hz.ne 1 8 (by decide) (by decide) (by decide))), fun h9 => h9.elim (hz.ne 1 13 (by decide) (by decide) (by decide)) (fun h9 => h9.elim (hz.ne 1 16 (by decide) (by decide) (by decide)) (hz.ne 1 17 (by decide) (by decide) (by decide)))⟩
  · exact Or.inl ⟨rfl, fun h9 => h9.elim (hz.ne 2 6 (by decide) (by decide) (by decide)) (fun h9 => h9.elim (hz.ne 2 7 (by decide) (by decide) (by decide)) (hz.ne 2 8 (by decide) (by decide) (by decide))), fun h9 => h9.elim (hz.ne 2 13 (by decide) (by decide) (by decide)) (fun h9 => h9.elim (hz.ne 2 16 (by decide) (by decide) (by decide)) (hz.ne 2 17 (by decide) (by decide) (by decide)))⟩
  · exact Or.inl ⟨rfl, fun h9 => h9.elim (hz.ne 3 6 (by decide) (by decide) (by decide)) (fun h9 => h9.elim (hz.ne 3 7 (by decide) (by decide) (by decide)) (hz.ne 3 8 (by decide) (by decide) (by decide))), fun h9 => h9.elim (hz.ne 3 13 (by decide) (by decide) (by decide)) (fun h9 => h9.elim (hz.ne 3 16 (by decide) (by decide) (by decide)) (hz.ne 3 17 (by decide) (by decide) (by decide)))⟩
  · exact Or.inl ⟨rfl, fun h9 => h9.elim (hz.ne 4 6 (by decide) (by decide) (by decide)) (fun h9 => h9.elim (hz.ne 4 7 (by decide) (by decide) (by decide)) (hz.ne 4 8 (by decide) (by decide) (by decide))), fun h9 => h9.elim (hz.ne 4 13 (by decide) (by decide) (by decide)) (fun h9 => h9.elim (hz.ne 4 16 (by decide) (by decide) (by decide)) (hz.ne 4 17 (by decide) (by decide) (by decide)))⟩
  · exact Or.inl ⟨rfl, fun h9 => h9.elim (hz.ne 5 6 (by decide) (by decide) (by decide)) (fun h9 => h9.elim (hz.ne 5 7 (by decide) (by decide) (by decide)) (hz.ne 5 8 (by decide) (by decide) (by decide))), fun h9 => h9.elim (hz.ne 5 13 (by decide) (by decide) (by decide)) (fun h9 => h9.elim (hz.ne 5 16 (by decide) (by decide) (by decide)) (hz.ne 5 17 (by decide) (by decide) (by decide)))⟩
  · exact Or.inr (Or.inl ⟨h1, fun h9 => h9.elim (hz.ne 6 13 (by decide) (by decide) (by decide)) (fun h9 => h9.elim (hz.ne 6 16 (by decide) (by decide) (by decide)) (hz.ne 6 17 (by decide) (by decide) (by decide)))⟩)
  · exact Or.inr (Or.inl ⟨h2, fun h9 => h9.elim (hz.ne 7 13 (by decide) (by decide) (by decide)) (fun h9 => h9.elim (hz.ne 7 16 (by decide) (by decide) (by decide)) (hz.ne 7 17 (by decide) (by decide) (by decide)))⟩)
  · exact Or.inr (Or.inl ⟨h3, fun h9 => h9.elim (hz.ne 8 13 (by decide) (by decide) (by decide)) (fun h9 => h9.elim (hz.ne 8 16 (by decide) (by decide) (by decide)) (hz.ne 8 17 (by decide) (by decide) (by decide)))⟩)
  · exact Or.inl ⟨rfl, fun h9 => h9.elim (hz.ne 9 6 (by decide) (by decide) (by decide)) (fun h9 => h9.elim (hz.ne 9 7 (by decide) (by decide) (by decide)) (hz.ne 9 8 (by decide) (by decide) (by decide))), fun h9 => h9.elim (hz.ne 9 13 (by decide) (by decide) (by decide)) (fun h9 => h9.elim (hz.ne 9 16 (by decide) (by decide) (by decide)) (hz.ne 9 17 (by decide) (by decide) (by decide)))⟩
  · exact Or.inl ⟨rfl, fun h9 => h9.elim (hz.ne 10 6 (by decide) (by decide) (by decide)) (fun h9 => h9.elim (hz.ne 10 7 (by decide) (by decide) (by decide)) (hz.ne 10 8 (by decide) (by decide) (by decide))), fun h9 => h9.elim (hz.ne 10 13 (by decide) (by decide) (by decide)) (fun h9 => h9.elim (hz.ne 10 16 (by decide) (by decide) (by decide)) (hz.ne 10 17 (by decide) (by decide) (by decide)))⟩
  · exact Or.inl ⟨rfl, fun h9 => h9.elim (hz.ne 11 6 (by decide) (by decide) (by decide)) (fun h9 => h9.elim (hz.ne 11 7 (by decide) (by decide) (by decide)) (hz.ne 11 8 (by decide) (by decide) (by decide))), fun h9 => h9.elim (hz.ne 11 13 (by decide) (by decide) (by decide)) (fun h9 => h9.elim (hz.ne 11 16 (by decide) (by decide) (by decide)) (hz.ne 11 17 (by decide) (by decide) (by decide)))⟩
  · exact Or.inl ⟨rfl, fun h9 => h9.elim (hz.ne 12 6 (by decide) (by decide) (by decide)) (fun h9 => h9.elim (hz.ne 12 7 (by decide) (by decide) (by decide)) (hz.ne 12 8 (by decide) (by decide) (by decide))), fun h9 => h9.elim (hz.ne 12 13 (by decide) (by decide) (by decide)) (fun h9 => h9.elim (hz.ne 12 16 (by decide) (by decide) (by decide)) (hz.ne 12 17 (by decide) (by decide) (by decide)))⟩
  · exact Or.inr (Or.inr h4)
  · exact Or.inl ⟨rfl, fun h9 => h9.elim (hz.ne 14 6 (by decide) (by decide) (by decide)) (fun h9 => h9.elim (hz.ne 14 7 (by decide) (by decide) (by decide)) (hz.ne 14 8 (by decide) (by decide) (by decide))), fun h9 => h9.elim (hz.ne 14 13 (by decide) (by decide) (by decide)) (fun h9 => h9.elim (hz.ne 14 16 (by decide) (by decide) (by decide)) (hz.ne 14 17 (by decide) (by decide) (by decide)))⟩
  · exact Or.inl ⟨rfl, fun h9 => h9.elim (hz.ne 15 6 (by decide) (by decide) (by decide)) (fun h9 => h9.elim (hz.ne 15 7 (by decide) (by decide) (by decide)) (hz.ne 15 8 (by decide) (by decide) (by decide))), fun h9 => h9.elim (hz.ne 15 13 (by decide) (by decide) (by decide)) (fun h9 => h9.elim (hz.ne 15 16 (by decide) (by decide) (by decide)) (hz.ne 15 17 (by decide) (by decide) (by decide)))⟩
  · exact Or.inr (Or.inr h5)
  · exact Or.inr (Or.inr h6)
theorem fin_cl {D : va_G} {cI cH : ClassId} {z : Nat → Nat} {fh : Nat → Option Nat} {N ft f1 f2 : Nat → Int32} {k k2 : Nat} {us car um : List Value} {A : Nat → Prop} {k2' : Nat} {um' : List Value} {H H1 H2 : Heap} (hz : zOk A z) (hP : wP D cI cH z fh N ft f1 f2 k k2 us car um H) (hk1 : ∀ p : Nat, p < H.size → ¬ (aE (z 6)) p → H1[p]? = H[p]?) (hk2 : ∀ p : Nat, p < H1.size → ¬ (aE (z 13)) p → H2[p]? = H1[p]?) (h1 : va_at D vwCl (z 6, .inr (2, [.ref (z 7), .ref (z 8), .int (nI k2')])) H1) (h2 : va_at D vwCl (z 13, .inr (6, um')) H2) : wP D cI cH z fh N ft f1 f2 k k2' us car um' H2 := by
  refine wP_two hP hk1 hk2 (fun i hi => ?_)
  rcases (show i = 0 ∨ i = 1 ∨ i = 2 ∨ i = 3 ∨ i = 4 ∨ i = 5 ∨ i = 6 ∨ i = 7 ∨ i = 8 ∨ i = 9 ∨ i = 10 ∨ i = 11 ∨ i = 12 ∨ i = 13 ∨ i = 14 ∨ i = 15 ∨ i = 16 ∨ i = 17 by omega) with rfl | rfl | rfl | rfl | rfl | rfl | rfl | rfl | rfl | rfl | rfl | rfl | rfl | rfl | rfl | rfl | rfl | rfl
  · exact Or.inl ⟨rfl, hz.ne 0 6 (by decide) (by decide) (by decide), hz.ne 0 13 (by decide) (by decide) (by decide)⟩
  · exact Or.inl ⟨rfl, hz.ne 1 6 (by decide) (by decide) (by decide), hz.ne 1 13 (by decide) (by decide) (by decide)⟩
  · exact Or.inl ⟨rfl, hz.ne 2 6 (by decide) (by decide) (by decide), hz.ne 2 13 (by decide) (by decide) (by decide)⟩
  · exact Or.inl ⟨rfl, hz.ne 3 6 (by decide) (by decide) (by decide), hz.ne 3 13 (by decide) (by decide) (by decide)⟩
  · exact Or.inl ⟨rfl, hz.ne 4 6 (by decide) (by decide) (by decide), hz.ne 4 13 (by decide) (by decide) (by decide)⟩
  · exact Or.inl ⟨rfl, hz.ne 5 6 (by decide) (by decide) (by decide), hz.ne 5 13 (by decide) (by decide) (by decide)⟩
  · exact Or.inr (Or.inl ⟨h1, hz.ne 6 13 (by decide) (by decide) (by decide)⟩)
  · exact Or.inl ⟨rfl, hz.ne 7 6 (by decide) (by decide) (by decide), hz.ne 7 13 (by decide) (by decide) (by decide)⟩
  · exact Or.inl ⟨rfl, hz.ne 8 6 (by decide) (by decide) (by decide), hz.ne 8 13 (by decide) (by decide) (by decide)⟩
  · exact Or.inl ⟨rfl, hz.ne 9 6 (by decide) (by decide) (by decide), hz.ne 9 13 (by decide) (by decide) (by decide)⟩
  · exact Or.inl ⟨rfl, hz.ne 10 6 (by decide) (by decide) (by decide), hz.ne 10 13 (by decide) (by decide) (by decide)⟩
  · exact Or.inl ⟨rfl, hz.ne 11 6 (by decide) (by decide) (by decide), hz.ne 11 13 (by decide) (by decide) (by decide)⟩
  · exact Or.inl ⟨rfl, hz.ne 12 6 (by decide) (by decide) (by decide), hz.ne 12 13 (by decide) (by decide) (by decide)⟩
  · exact Or.inr (Or.inr h2)
  · exact Or.inl ⟨rfl, hz.ne 14 6 (by decide) (by decide) (by decide), hz.ne 14 13 (by decide) (by decide) (by decide)⟩
  · exact Or.inl ⟨rfl, hz.ne 15 6 (by decide) (by decide) (by decide), hz.ne 15 13 (by decide) (by decide) (by decide)⟩
  · exact Or.inl ⟨rfl, hz.ne 16 6 (by decide) (by decide) (by decide), hz.ne 16 13 (by decide) (by decide) (by decide)⟩
  · exact Or.inl ⟨rfl, hz.ne 17 6 (by decide) (by decide) (by decide), hz.ne 17 13 (by decide) (by decide) (by decide)⟩
theorem fin_no {D : va_G} {cI cH : ClassId} {z : Nat → Nat} {fh : Nat → Option Nat} {N ft f1 f2 : Nat → Int32} {k k2 : Nat} {us car um : List Value} {A : Nat → Prop}  {H H1 H2 : Heap} (hz : zOk A z) (hP : wP D cI cH z fh N ft f1 f2 k k2 us car um H) (hk1 : ∀ p : Nat, p < H.size → ¬ nA p → H1[p]? = H[p]?) (hk2 : ∀ p : Nat, p < H1.size → ¬ nA p → H2[p]? = H1[p]?)  : wP D cI cH z fh N ft f1 f2 k k2 us car um H2 := by
  refine wP_two hP hk1 hk2 (fun i hi => ?_)
  rcases (show i = 0 ∨ i = 1 ∨ i = 2 ∨ i = 3 ∨ i = 4 ∨ i = 5 ∨ i = 6 ∨ i = 7 ∨ i = 8 ∨ i = 9 ∨ i = 10 ∨ i = 11 ∨ i = 12 ∨ i = 13 ∨ i = 14 ∨ i = 15 ∨ i = 16 ∨ i = 17 by omega) with rfl | rfl | rfl | rfl | rfl | rfl | rfl | rfl | rfl | rfl | rfl | rfl | rfl | rfl | rfl | rfl | rfl | rfl
  · exact Or.inl ⟨rfl, fun h9 => h9, fun h9 => h9⟩
  · exact Or.inl ⟨rfl, fun h9 => h9, fun h9 => h9⟩
  · exact Or.inl ⟨rfl, fun h9 => h9, fun h9 => h9⟩
  · exact Or.inl ⟨rfl, fun h9 => h9, fun h9 => h9⟩
  · exact Or.inl ⟨rfl, fun h9 => h9, fun h9 => h9⟩
  · exact Or.inl ⟨rfl, fun h9 => h9, fun h9 => h9⟩
  · exact Or.inl ⟨rfl, fun h9 => h9, fun h9 => h9⟩
  · exact Or.inl ⟨rfl, fun h9 => h9, fun h9 => h9⟩
  · exact Or.inl ⟨rfl, fun h9 => h9, fun h9 => h9⟩
  · exact Or.inl ⟨rfl, fun h9 => h9, fun h9 => h9⟩
  · exact Or.inl ⟨rfl, fun h9 => h9, fun h9 => h9⟩
  · exact Or.inl ⟨rfl, fun h9 => h9, fun h9 => h9⟩
  · exact Or.inl ⟨rfl, fun h9 => h9, fun h9 => h9⟩
  · exact Or.inl ⟨rfl, fun h9 => h9, fun h9 => h9⟩
  · exact Or.inl ⟨rfl, fun h9 => h9, fun h9 => h9⟩
  · exact Or.inl ⟨rfl, fun h9 => h9, fun h9 => h9⟩
  · exact Or.inl ⟨rfl, fun h9 => h9, fun h9 => h9⟩
  · exact Or.inl ⟨rfl, fun h9 => h9, fun h9 => h9⟩
theorem fin_hg {D : va_G} {cI cH : ClassId} {z : Nat → Nat} {fh : Nat → Option Nat} {N ft f1 f2 : Nat → Int32} {k k2 : Nat} {us car um : List Value} {A : Nat → Prop} {N' : Nat → Int32} {q : Nat} {H H1 H2 : Heap} (hz : zOk A z) (hq : q < 4) (ho : only N' N q) (hP : wP D cI cH z fh N ft f1 f2 k k2 us car um H) (hk1 : ∀ p : Nat, p < H.size → ¬ (aE (z (9 + q))) p → H1[p]? = H[p]?) (hk2 : ∀ p : Nat, p < H1.size → ¬ (aE (z 14)) p → H2[p]? = H1[p]?) (h1 : va_at D vwCl (z (9 + q), .inr (1, hL N' q)) H1) (h2 : va_at D vwCl (z 14, .inl (cI, 52, .inl N')) H2) : wP D cI cH z fh N' ft f1 f2 k k2 us car um H2 := by
  refine wP_two hP hk1 hk2 (fun i hi => ?_)
  rcases (show i = 0 ∨ i = 1 ∨ i = 2 ∨ i = 3 ∨ i = 4 ∨ i = 5 ∨ i = 6 ∨ i = 7 ∨ i = 8 ∨ i = 9 ∨ i = 10 ∨ i = 11 ∨ i = 12 ∨ i = 13 ∨ i = 14 ∨ i = 15 ∨ i = 16 ∨ i = 17 by omega) with rfl | rfl | rfl | rfl | rfl | rfl | rfl | rfl | rfl | rfl | rfl | rfl | rfl | rfl | rfl | rfl | rfl | rfl
  · exact Or.inl ⟨rfl, hz.ne 0 (9 + q) (by decide) (by omega) (by omega), hz.ne 0 14 (by decide) (by decide) (by decide)⟩
  · exact Or.inl ⟨rfl, hz.ne 1 (9 + q) (by decide) (by omega) (by omega), hz.ne 1 14 (by decide) (by decide) (by decide)⟩
  · exact Or.inl ⟨rfl, hz.ne 2 (9 + q) (by decide) (by omega) (by omega), hz.ne 2 14 (by decide) (by decide) (by decide)⟩
  · exact Or.inl ⟨rfl, hz.ne 3 (9 + q) (by decide) (by omega) (by omega), hz.ne 3 14 (by decide) (by decide) (by decide)⟩
  · exact Or.inl ⟨rfl, hz.ne 4 (9 + q) (by decide) (by omega) (by omega), hz.ne 4 14 (by decide) (by decide) (by decide)⟩
  · exact Or.inl ⟨rfl, hz.ne 5 (9 + q) (by decide) (by omega) (by omega), hz.ne 5 14 (by decide) (by decide) (by decide)⟩
  · exact Or.inl ⟨rfl, hz.ne 6 (9 + q) (by decide) (by omega) (by omega), hz.ne 6 14 (by decide) (by decide) (by decide)⟩
  · exact Or.inl ⟨rfl, hz.ne 7 (9 + q) (by decide) (by omega) (by omega), hz.ne 7 14 (by decide) (by decide) (by decide)⟩
  · exact Or.inl ⟨rfl, hz.ne 8 (9 + q) (by decide) (by omega) (by omega), hz.ne 8 14 (by decide) (by decide) (by decide)⟩
  · by_cases e9 : q = 0
    · subst e9
      exact Or.inr (Or.inl ⟨h1, hz.ne 9 14 (by decide) (by decide) (by decide)⟩)
    · exact Or.inl ⟨congrArg (fun x9 : List Value => (Sum.inr (1, x9) : va_E)) (only_hL ho (j := 0) (fun h9 => e9 h9.symm)), hz.ne 9 (9 + q) (by decide) (by omega) (by omega), hz.ne 9 14 (by decide) (by decide) (by decide)⟩
  · by_cases e9 : q = 1
    · subst e9
      exact Or.inr (Or.inl ⟨h1, hz.ne 10 14 (by decide) (by decide) (by decide)⟩)
    · exact Or.inl ⟨congrArg (fun x9 : List Value => (Sum.inr (1, x9) : va_E)) (only_hL ho (j := 1) (fun h9 => e9 h9.symm)), hz.ne 10 (9 + q) (by decide) (by omega) (by omega), hz.ne 10 14 (by decide) (by decide) (by decide)⟩
  · by_cases e9 : q = 2
    · subst e9
      exact Or.inr (Or.inl ⟨h1, hz.ne 11 14 (by decide) (by decide) (by decide)⟩)
    · exact Or.inl ⟨congrArg (fun x9 : List Value => (Sum.inr (1, x9) : va_E)) (only_hL ho (j := 2) (fun h9 => e9 h9.symm)), hz.ne 11 (9 + q) (by decide) (by omega) (by omega), hz.ne 11 14 (by decide) (by decide) (by decide)⟩
  · by_cases e9 : q = 3
    · subst e9
      exact Or.inr (Or.inl ⟨h1, hz.ne 12 14 (by decide) (by decide) (by decide)⟩)
    · exact Or.inl ⟨congrArg (fun x9 : List Value => (Sum.inr (1, x9) : va_E)) (only_hL ho (j := 3) (fun h9 => e9 h9.symm)), hz.ne 12 (9 + q) (by decide) (by omega) (by omega), hz.ne 12 14 (by decide) (by decide) (by decide)⟩
  · exact Or.inl ⟨rfl, hz.ne 13 (9 + q) (by decide) (by omega) (by omega), hz.ne 13 14 (by decide) (by decide) (by decide)⟩
  · exact Or.inr (Or.inr h2)
  · exact Or.inl ⟨rfl, hz.ne 15 (9 + q) (by decide) (by omega) (by omega), hz.ne 15 14 (by decide) (by decide) (by decide)⟩
  · exact Or.inl ⟨rfl, hz.ne 16 (9 + q) (by decide) (by omega) (by omega), hz.ne 16 14 (by decide) (by decide) (by decide)⟩
  · exact Or.inl ⟨rfl, hz.ne 17 (9 + q) (by decide) (by omega) (by omega), hz.ne 17 14 (by decide) (by decide) (by decide)⟩
theorem only_self {N : Nat → Int32} {q : Nat} : only N N q := fun _ _ => rfl
theorem okI.set {N N' ft f1 f2 : Nat → Int32} {k k2 q : Nat} (h : okI N ft f1 f2 k k2) (ho : only N' N q) (hn : hgN N' q) : okI N' ft f1 f2 k k2 := by
  refine ⟨h.1, h.2.1, fun j hj => ?_, h.2.2.2⟩
  by_cases e : j = q
  · subst e
    exact hn
  · exact only_hgN ho e (h.2.2.1 j hj)
