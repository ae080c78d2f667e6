theorem dlt_t {a b : Nat} (h : a < b) : (a < b) = True := eq_true h
theorem dlt_f {a b : Nat} (h : b ≤ a) : (a < b) = False := eq_false (Nat.not_lt.mpr h)
theorem dle_t {a b : Nat} (h : a ≤ b) : (a ≤ b) = True := eq_true h
theorem dle_f {a b : Nat} (h : b < a) : (a ≤ b) = False := eq_false (Nat.not_le.mpr h)
theorem deq_t {a b : Nat} (h : a = b) : (a = b) = True := eq_true h
theorem deq_f {a b : Nat} (h : ¬ a = b) : (a = b) = False := eq_false h
/-! one row of 61 numbers: 0 how many, 1 YEAR, 2 z, 3 + 6 k + w what of k, 51 + j what SPOT j holds; a Family's cells out of it -/
def its (r : Nat → Int32) (k w : Nat) : Int32 := if k < 8 then r (3 + 6 * k + w) else 0
theorem its_u {r : Nat → Int32} {i w k w' : Nat} {v : Int32} (hi : i < 8) (hw : w < 6) (hw' : w' < 6) : its (upd r (3 + 6 * i + w) v) k w' = if k = i ∧ w' = w then v else its r k w' := by
  unfold its upd
  by_cases hk : k < 8
  · rw [if_pos hk, if_pos hk]
    by_cases h : k = i ∧ w' = w
    · rw [if_pos h, if_pos (by omega)]
    · rw [if_neg h, if_neg (by omega)]
  · rw [if_neg hk, if_neg hk, if_neg (by omega)]
theorem its_uh {r : Nat → Int32} {i k w : Nat} {v : Int32} (hi : i < 3) : its (upd r i v) k w = its r k w := by
  unfold its upd
  by_cases hk : k < 8
  · rw [if_pos hk, if_pos hk, if_neg (by omega)]
  · rw [if_neg hk, if_neg hk]
theorem its_us {r : Nat → Int32} {j k w : Nat} {v : Int32} (hw : w < 6) : its (upd r (51 + j) v) k w = its r k w := by
  unfold its upd
  by_cases hk : k < 8
  · rw [if_pos hk, if_pos hk, if_neg (by omega)]
  · rw [if_neg hk, if_neg hk]
theorem its_r {r : Nat → Int32} {k w : Nat} (hk : k < 8) : r (3 + 6 * k + w) = its r k w := by
  unfold its
  rw [if_pos hk]
/-- two worlds whose cells hold the same -/
def weq1 (a b : sE) : Prop := match a, b with
  | .inl x, .inl y => x.1 = y.1 ∧ ∀ k, k < x.1 → x.2 k = y.2 k
  | .inr x, .inr y => x = y
  | _, _ => False
def weq : List sE → List sE → Prop
  | [], [] => True
  | a :: l, b :: m => weq1 a b ∧ weq l m
  | _, _ => False
theorem weq_len : ∀ (l m : List sE), weq l m → l.length = m.length
  | [], [], _ => rfl
  | [], _ :: _, h => h.elim
  | _ :: _, [], h => h.elim
  | a :: l, b :: m, h => by
    show l.length + 1 = m.length + 1
    rw [weq_len l m h.2]
theorem weq_at : ∀ (l m : List sE), weq l m → ∀ (k : Nat) (b : sE), m[k]? = some b → ∃ a, l[k]? = some a ∧ weq1 a b
  | [], [], _, k, b, hb => by simp at hb
  | [], _ :: _, h, _, _, _ => h.elim
  | _ :: _, [], h, _, _, _ => h.elim
  | a :: l, c :: m, h, k, b, hb => by
    cases k with
    | zero => cases hb; exact ⟨a, rfl, h.1⟩
    | succ k => exact weq_at l m h.2 k b hb
theorem weq1_rfl (a : sE) : weq1 a a := by
  rcases a with x | x
  · exact ⟨rfl, fun _ _ => rfl⟩
  · exact rfl
theorem arrV_congr (c : ClassId) (n : Nat) {f g : Nat → Value} (h : ∀ k, k < n → f k = g k) : arrV c n f = arrV c n g := by
  unfold arrV
  congr 1
  apply Array.ext
  · simp
  · intro i h1 h2
    simp at h1 ⊢
    exact h i h1
theorem weq_P {ad : Nat → Nat} {cI cR : ClassId} {D : va_G} {h h' : List sE} {H : Heap} (hw : weq h h') (hP : va_P D classes (zW ad cI cR h) H) : va_P D classes (zW ad cI cR h') H := by
  intro k q hq
  obtain ⟨e, h1, rfl⟩ := zW_of hq
  obtain ⟨a, h2, h3⟩ := weq_at h h' hw k e h1
  have h4 := hP k _ (zW_at h2)
  rcases a with x | x <;> rcases e with y | y
  · obtain ⟨e1, e2⟩ := h3
    obtain ⟨n, f⟩ := x
    obtain ⟨n2, g⟩ := y
    dsimp only at e1 e2
    subst e1
    have h5 : H[ad k]? = some (vp_cell cI (n, .inl f)) := h4
    show H[ad k]? = some (vp_cell cI (n, .inl g))
    rw [h5, vp_cell_i, vp_cell_i]
    rw [arrV_congr cI n (f := fun j => Value.int (f j)) (g := fun j => Value.int (g j)) (fun j hj => by rw [e2 j hj])]
  · exact h3.elim
  · exact h3.elim
  · cases h3
    exact h4
theorem V.weq {M : MI} {pc : Nat} {L S : List Value} {h : List sE} (h' : List sE) {Q : Option Value → List sE → Prop} (hw : weq h h') (k : V M pc L S h' Q) : V M pc L S h Q :=
  fun p l e R s m args below meth c cells slots ad cI cR D A hc Z hZ H locs ls hls hP hD hS => k p l e R s m args below meth c cells slots ad cI cR D A hc Z (fun r h2 H locs pc' ls q1 q2 => hZ r h2 H locs pc' ls q1 (q2.trans (weq_len _ _ hw).symm)) H locs ls hls (weq_P hw hP) (zD_len hD (weq_len _ _ hw).symm) hS
/-- a Family's cells -/
def fW (r : Nat → Int32) : List sE := [.inr (.inr (0, [.ref 1, .ref 8, .int (r 0), .int (r 1), .int (r 2)])), .inr (.inl [2, 3, 4, 5, 6, 7]), .inl (8, fun k => its r k 0), .inl (8, fun k => its r k 1), .inl (8, fun k => its r k 2), .inl (8, fun k => its r k 3), .inl (8, fun k => its r k 4), .inl (8, fun k => its r k 5), .inl (10, fun j => r (51 + j))]
theorem fW_0 {r : Nat → Int32} : (fW r)[0]? = some (.inr (.inr (0, [.ref 1, .ref 8, .int (r 0), .int (r 1), .int (r 2)]))) := rfl
theorem fW_1 {r : Nat → Int32} : (fW r)[1]? = some (.inr (.inl [2, 3, 4, 5, 6, 7])) := rfl
theorem fW_2 {r : Nat → Int32} : (fW r)[2]? = some (.inl (8, fun k => its r k 0)) := rfl
theorem fW_3 {r : Nat → Int32} : (fW r)[3]? = some (.inl (8, fun k => its r k 1)) := rfl
theorem fW_4 {r : Nat → Int32} : (fW r)[4]? = some (.inl (8, fun k => its r k 2)) := rfl
theorem fW_5 {r : Nat → Int32} : (fW r)[5]? = some (.inl (8, fun k => its r k 3)) := rfl
theorem fW_6 {r : Nat → Int32} : (fW r)[6]? = some (.inl (8, fun k => its r k 4)) := rfl
theorem fW_7 {r : Nat → Int32} : (fW r)[7]? = some (.inl (8, fun k => its r k 5)) := rfl
theorem fW_8 {r : Nat → Int32} : (fW r)[8]? = some (.inl (10, fun j => r (51 + j))) := rfl
theorem fW_p0 {r : Nat → Int32} {a : Int32} : (fW r).set 0 (.inr (.inr (0, [.ref 1, .ref 8, .int a, .int (r 1), .int (r 2)]))) = fW (upd r 0 a) := by
  unfold fW
  have h5 : (fun j => upd r 0 a (51 + j)) = fun j => r (51 + j) := funext fun j => by unfold upd; rw [if_neg (by omega)]
  simp only [List.set_cons_zero, its_uh (show 0 < 3 by decide), h5]
  simp [upd]
theorem fW_p1 {r : Nat → Int32} {a : Int32} : (fW r).set 0 (.inr (.inr (0, [.ref 1, .ref 8, .int (r 0), .int a, .int (r 2)]))) = fW (upd r 1 a) := by
  unfold fW
  have h5 : (fun j => upd r 1 a (51 + j)) = fun j => r (51 + j) := funext fun j => by unfold upd; rw [if_neg (by omega)]
  simp only [List.set_cons_zero, its_uh (show 1 < 3 by decide), h5]
  simp [upd]
theorem fW_p2 {r : Nat → Int32} {a : Int32} : (fW r).set 0 (.inr (.inr (0, [.ref 1, .ref 8, .int (r 0), .int (r 1), .int a]))) = fW (upd r 2 a) := by
  unfold fW
  have h5 : (fun j => upd r 2 a (51 + j)) = fun j => r (51 + j) := funext fun j => by unfold upd; rw [if_neg (by omega)]
  simp only [List.set_cons_zero, its_uh (show 2 < 3 by decide), h5]
  simp [upd]
theorem fW_row {r : Nat → Int32} {i w : Nat} {v : Int32} (hi : i < 8) (hw : w < 6) : (fW r).set (2 + w) (.inl (8, upd (fun k => its r k w) i v)) = fW (upd r (3 + 6 * i + w) v) := by
  have h0 : ∀ j, j < 3 → upd r (3 + 6 * i + w) v j = r j := fun j hj => by unfold upd; rw [if_neg (by omega)]
  have h5 : (fun j => upd r (3 + 6 * i + w) v (51 + j)) = fun j => r (51 + j) := funext fun j => by unfold upd; rw [if_neg (by omega)]
  have hs : (fun k => its (upd r (3 + 6 * i + w) v) k w) = upd (fun k => its r k w) i v := funext fun k => by
    rw [its_u hi hw hw]
    unfold upd
    by_cases h : k = i
    · rw [if_pos ⟨h, rfl⟩, if_pos h]
    · rw [if_neg (fun q => h q.1), if_neg h]
  have ho : ∀ w', w' < 6 → w' ≠ w → (fun k => its (upd r (3 + 6 * i + w) v) k w') = fun k => its r k w' := fun w' hw' hne => funext fun k => by
    rw [its_u hi hw hw', if_neg (fun q => hne q.2)]
  unfold fW
  rw [h0 0 (by decide), h0 1 (by decide), h0 2 (by decide), h5]
  rcases (show w = 0 ∨ w = 1 ∨ w = 2 ∨ w = 3 ∨ w = 4 ∨ w = 5 by omega) with rfl | rfl | rfl | rfl | rfl | rfl
  · rw [hs, ho 1 (by decide) (by decide), ho 2 (by decide) (by decide), ho 3 (by decide) (by decide), ho 4 (by decide) (by decide), ho 5 (by decide) (by decide)]; rfl
  · rw [hs, ho 0 (by decide) (by decide), ho 2 (by decide) (by decide), ho 3 (by decide) (by decide), ho 4 (by decide) (by decide), ho 5 (by decide) (by decide)]; rfl
  · rw [hs, ho 0 (by decide) (by decide), ho 1 (by decide) (by decide), ho 3 (by decide) (by decide), ho 4 (by decide) (by decide), ho 5 (by decide) (by decide)]; rfl
  · rw [hs, ho 0 (by decide) (by decide), ho 1 (by decide) (by decide), ho 2 (by decide) (by decide), ho 4 (by decide) (by decide), ho 5 (by decide) (by decide)]; rfl
  · rw [hs, ho 0 (by decide) (by decide), ho 1 (by decide) (by decide), ho 2 (by decide) (by decide), ho 3 (by decide) (by decide), ho 5 (by decide) (by decide)]; rfl
  · rw [hs, ho 0 (by decide) (by decide), ho 1 (by decide) (by decide), ho 2 (by decide) (by decide), ho 3 (by decide) (by decide), ho 4 (by decide) (by decide)]; rfl
theorem fW_s0 {r : Nat → Int32} {i : Nat} {v : Int32} (hi : i < 8) : (fW r).set 2 (.inl (8, upd (fun k => its r k 0) i v)) = fW (upd r (3 + 6 * i + 0) v) := fW_row (w := 0) hi (by decide)
theorem fW_s1 {r : Nat → Int32} {i : Nat} {v : Int32} (hi : i < 8) : (fW r).set 3 (.inl (8, upd (fun k => its r k 1) i v)) = fW (upd r (3 + 6 * i + 1) v) := fW_row (w := 1) hi (by decide)
theorem fW_s2 {r : Nat → Int32} {i : Nat} {v : Int32} (hi : i < 8) : (fW r).set 4 (.inl (8, upd (fun k => its r k 2) i v)) = fW (upd r (3 + 6 * i + 2) v) := fW_row (w := 2) hi (by decide)
theorem fW_s3 {r : Nat → Int32} {i : Nat} {v : Int32} (hi : i < 8) : (fW r).set 5 (.inl (8, upd (fun k => its r k 3) i v)) = fW (upd r (3 + 6 * i + 3) v) := fW_row (w := 3) hi (by decide)
theorem fW_s4 {r : Nat → Int32} {i : Nat} {v : Int32} (hi : i < 8) : (fW r).set 6 (.inl (8, upd (fun k => its r k 4) i v)) = fW (upd r (3 + 6 * i + 4) v) := fW_row (w := 4) hi (by decide)
theorem fW_s5 {r : Nat → Int32} {i : Nat} {v : Int32} (hi : i < 8) : (fW r).set 7 (.inl (8, upd (fun k => its r k 5) i v)) = fW (upd r (3 + 6 * i + 5) v) := fW_row (w := 5) hi (by decide)
theorem fW_s8 {r : Nat → Int32} {j : Nat} {v : Int32} (hj : j < 10) : (fW r).set 8 (.inl (10, upd (fun j => r (51 + j)) j v)) = fW (upd r (51 + j) v) := by
  have h0 : ∀ i, i < 3 → upd r (51 + j) v i = r i := fun i hi => by unfold upd; rw [if_neg (by omega)]
  have h5 : (fun i => upd r (51 + j) v (51 + i)) = upd (fun j => r (51 + j)) j v := funext fun i => by
    unfold upd
    by_cases h : i = j
    · rw [if_pos (by omega), if_pos h]
    · rw [if_neg (by omega), if_neg h]
  unfold fW
  rw [h0 0 (by decide), h0 1 (by decide), h0 2 (by decide), h5]
  simp only [List.set_cons_succ, List.set_cons_zero, its_us (show 0 < 6 by decide), its_us (show 1 < 6 by decide), its_us (show 2 < 6 by decide), its_us (show 3 < 6 by decide), its_us (show 4 < 6 by decide), its_us (show 5 < 6 by decide)]
