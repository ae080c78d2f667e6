/-! items of a text -/
def fcF (g : Nat → Int32) (r : Nat → Int32) (k w m1 i : Nat) : ((Nat → Int32) × Tk) ⊕ Nat := if (tkn g i).1 = 2 ∧ (tkn g i).2.2.2 < m1 then .inl (upd r (3 + 6 * k + w) (nI (tkn g i).2.2.2), tkn g (tkn g i).2.2.1) else .inr (tkn g i).2.1
def opF (g : Nat → Int32) (r : Nat → Int32) (k w si m1 : Nat) (t : Tk) : ((Nat → Int32) × Tk) ⊕ Nat := if wdF g t = some (zSb.getD si []) then fcF g r k w m1 t.2.2.1 else .inl (r, t)
abbrev tyI : Type := ((Nat → Int32) × Nat × Tk) ⊕ Nat
def up4 (g : Nat → Int32) (r : Nat → Int32) (n : Nat) (t : Tk) : tyI := if wdF g t = some (zSb.getD 11 []) then .inl (upd r (3 + 6 * n + 5) (nI 0), n + 1, tkn g t.2.2.1) else .inl (r, n + 1, t)
def tu3 (g : Nat → Int32) (r : Nat → Int32) (n : Nat) (t : Tk) : tyI := match opF g r n 3 10 4 t with
  | .inr p => .inr p
  | .inl q => up4 g q.1 n q.2
def mk2 (g : Nat → Int32) (r : Nat → Int32) (n : Nat) (t : Tk) : tyI := match opF g r n 2 9 65536 t with
  | .inr p => .inr p
  | .inl q => tu3 g q.1 n q.2
def pa1 (g : Nat → Int32) (r : Nat → Int32) (n : Nat) (t : Tk) : tyI := match opF g r n 1 8 n t with
  | .inr p => .inr p
  | .inl q => mk2 g q.1 n q.2
def kwF (g : Nat → Int32) (t : Tk) : Option Nat := if wdF g t = some (zSb.getD 1 []) then some 0 else if wdF g t = some (zSb.getD 2 []) then some 1 else if wdF g t = some (zSb.getD 3 []) then some 2 else if wdF g t = some (zSb.getD 4 []) then some 3 else if wdF g t = some (zSb.getD 5 []) then some 4 else if wdF g t = some (zSb.getD 6 []) then some 5 else if wdF g t = some (zSb.getD 7 []) then some 6 else none
def newI (g : Nat → Int32) (r : Nat → Int32) (n : Nat) (t : Tk) : tyI := match kwF g t with
  | some kd => if n = 8 then .inr t.2.1 else pa1 g (nwR r n (nI kd) (-1) (nI 0)) n (tkn g t.2.2.1)
  | none => .inr t.2.1
def agI (g : Nat → Int32) (r : Nat → Int32) (n i : Nat) : tyI := if (tkn g i).1 = 2 ∧ (tkn g i).2.2.2 < n then (match fcF g r (tkn g i).2.2.2 4 1000 (tkn g i).2.2.1 with
  | .inr p => .inr p
  | .inl q => .inl (q.1, n, q.2)) else .inr (tkn g i).2.1
def itI (g : Nat → Int32) (r : Nat → Int32) (n : Nat) (t : Tk) : tyI := if wdF g t = some (zSb.getD 0 []) then agI g r n t.2.2.1 else newI g r n t
def rdF (g : Nat → Int32) : Nat → Nat → (Nat → Int32) → Nat → Nat → Nat → (Nat × (Nat → Int32) × Nat) ⊕ Nat
  | 0, _, _, _, p0, _ => .inr p0
  | f + 1, it, r, n, _, d => match itI g r n (tkn g d) with
    | .inr p => .inr p
    | .inl q => if q.2.2.1 = 0 then .inl (it, q.1, q.2.1) else if q.2.2.1 = 3 then rdF g f (it + 1) q.1 q.2.1 q.2.2.2.1 q.2.2.2.2.1 else .inr q.2.2.2.1
def sText (n : Nat) (r tb : Nat → Int32) (a : Nat) : Int32 × (Nat → Int32) := match rdF (gA tb a) 120 1 r n 0 0 with
  | .inl q => (nI q.1, q.2.1)
  | .inr p => (-1 - nI p, r)
/-! what holds of them -/
def okK (a : Nat) (t : Tk) : Prop := t.1 < 5 ∧ t.2.1 ≤ t.2.2.1 ∧ t.2.2.1 ≤ a
section IP
variable {tb : Nat → Int32} {a n y : Nat} {r : Nat → Int32}
theorem okK_tkn {i : Nat} (ha : a ≤ 120) (hi : i ≤ a) : okK a (tkn (gA tb a) i) := ⟨tk_s, (tk_b ha hi).2.1, (tk_b ha hi).2.2.1⟩
theorem fc_ok {k w m1 i : Nat} (ha : a ≤ 120) (hi : i ≤ a) : (∀ q, fcF (gA tb a) r k w m1 i = .inl q → okK a q.2 ∧ i ≤ q.2.2.1 ∧ ∃ v, v < m1 ∧ q.1 = upd r (3 + 6 * k + w) (nI v)) ∧ ∀ p, fcF (gA tb a) r k w m1 i = .inr p → p ≤ a := by
  have h1 := tk_b (tb := tb) ha hi
  unfold fcF
  by_cases c : (tkn (gA tb a) i).1 = 2 ∧ (tkn (gA tb a) i).2.2.2 < m1
  · rw [if_pos c]
    refine ⟨fun q hq => ?_, fun p hp => by cases hp⟩
    cases hq
    have h2 := tk_b (tb := tb) ha h1.2.2.1
    exact ⟨okK_tkn ha h1.2.2.1, Nat.le_trans h1.1 (Nat.le_trans h1.2.1 h2.1), _, c.2, rfl⟩
  · rw [if_neg c]
    refine ⟨fun q hq => (by cases hq), fun p hp => ?_⟩
    cases hp
    omega
theorem op_ok {k w si m1 : Nat} {t : Tk} (ha : a ≤ 120) (ht : okK a t) : (∀ q, opF (gA tb a) r k w si m1 t = .inl q → okK a q.2 ∧ t.2.1 ≤ q.2.2.1 ∧ (q.1 = r ∨ ∃ v, v < m1 ∧ q.1 = upd r (3 + 6 * k + w) (nI v))) ∧ ∀ p, opF (gA tb a) r k w si m1 t = .inr p → p ≤ a := by
  unfold opF
  by_cases c : wdF (gA tb a) t = some (zSb.getD si [])
  · rw [if_pos c]
    obtain ⟨h1, h2⟩ := fc_ok (tb := tb) (r := r) (k := k) (w := w) (m1 := m1) ha ht.2.2
    refine ⟨fun q hq => ?_, h2⟩
    obtain ⟨g1, g2, g3⟩ := h1 q hq
    have := ht.2.1
    exact ⟨g1, by omega, Or.inr g3⟩
  · rw [if_neg c]
    refine ⟨fun q hq => ?_, fun p hp => by cases hp⟩
    cases hq
    exact ⟨ht, Nat.le_refl _, Or.inl rfl⟩
theorem nwR_0 {kv pv mv : Int32} : nwR r n kv pv mv 0 = nI (n + 1) := by
  unfold nwR
  rw [upd_at (by omega), upd_at (by omega), upd_at (by omega), upd_at (by omega), upd_at (by omega), upd_at (by omega), upd_self]
theorem its_nw {kv pv mv : Int32} (hn : n < 8) {k w : Nat} (hw : w < 6) : its (nwR r n kv pv mv) k w = if k = n then (match w with
  | 0 => kv
  | 1 => pv
  | 2 => mv
  | 3 => nI 0
  | 4 => nI 0
  | _ => nI 1) else its r k w := by
  unfold nwR
  rcases lt6 hw with e | e | e | e | e | e <;> subst e
  all_goals
    rw [its_u hn (by decide) (by decide), its_u hn (by decide) (by decide), its_u hn (by decide) (by decide), its_u hn (by decide) (by decide), its_u hn (by decide) (by decide), its_u hn (by decide) (by decide), its_uh (by decide)]
    by_cases c : k = n <;> simp [c]
theorem okV_up {n w : Nat} {v : Int32} (h : okV n w v) : okV (n + 1) w v := by
  unfold okV at h ⊢
  split at h
  · exact h
  · rcases h with h | ⟨p, h1, h2⟩
    · exact Or.inl h
    · exact Or.inr ⟨p, by omega, h2⟩
  · exact h
  · exact h
  · exact h
  · exact h
theorem okR_nw {kv pv mv : Int32} (h : okR r n y) (hn : n < 8) (h0 : okV (n + 1) 0 kv) (h1 : okV (n + 1) 1 pv) (h2 : okV (n + 1) 2 mv) : okR (nwR r n kv pv mv) (n + 1) y := by
  obtain ⟨g1, g2, g3, g4, g5, g6⟩ := h
  have ho : ∀ j, (j = 1 ∨ 51 ≤ j) → nwR r n kv pv mv j = r j := fun j hj => by
    unfold nwR
    rw [upd_at (by omega), upd_at (by omega), upd_at (by omega), upd_at (by omega), upd_at (by omega), upd_at (by omega), upd_at (by omega)]
  refine ⟨by omega, nwR_0, g3, (ho 1 (Or.inl rfl)).trans g4, fun k hk w hw => ?_, fun j hj => ?_⟩
  · rw [its_nw hn hw]
    by_cases c : k = n
    · rw [if_pos c]
      rcases lt6 hw with e | e | e | e | e | e <;> subst e
      · exact h0
      · exact h1
      · exact h2
      · exact ⟨0, by decide, rfl⟩
      · exact ⟨0, by decide, rfl⟩
      · exact ⟨1, by decide, rfl⟩
    · rw [if_neg c]
      exact okV_up (g5 k (by omega) w hw)
  · rw [ho (51 + j) (Or.inr (by omega))]
    rcases g6 j hj with e | ⟨p, h1, h2⟩
    · exact Or.inl e
    · exact Or.inr ⟨p, by omega, h2⟩
/-- what an item leaves: how many there are then, a valid row, a valid token further on -/
def oI (a n y d : Nat) (r : Nat → Int32) (q : tyI) : Prop := (∀ x, q = .inl x → (x.2.1 = n ∨ x.2.1 = n + 1) ∧ x.2.1 ≤ 8 ∧ x.1 0 = nI x.2.1 ∧ (okR r n y → okR x.1 x.2.1 y) ∧ okK a x.2.2 ∧ d ≤ x.2.2.2.1) ∧ ∀ p, q = .inr p → p ≤ a
/-- the same from a row of one more on -/
def oJ (a n y d : Nat) (r : Nat → Int32) (q : tyI) : Prop := (∀ x, q = .inl x → x.2.1 = n + 1 ∧ x.1 0 = nI (n + 1) ∧ (okR r (n + 1) y → okR x.1 (n + 1) y) ∧ okK a x.2.2 ∧ d ≤ x.2.2.2.1) ∧ ∀ p, q = .inr p → p ≤ a
theorem oJ_up {t : Tk} (ha : a ≤ 120) (hn : n < 8) (h0 : r 0 = nI (n + 1)) (ht : okK a t) : oJ a n y t.2.1 r (up4 (gA tb a) r n t) := by
  unfold up4
  have := ht.2.1
  split
  · refine ⟨fun x hx => ?_, fun p hp => by cases hp⟩
    cases hx
    have h2 := tk_b (tb := tb) ha ht.2.2
    exact ⟨rfl, (show upd r (3 + 6 * n + 5) (nI 0) 0 = nI (n + 1) from (upd_at (by omega)).trans h0), fun ho => ho.set (by omega) (by decide) ⟨0, by decide, rfl⟩, okK_tkn ha ht.2.2, Nat.le_trans ht.2.1 h2.1⟩
  · refine ⟨fun x hx => ?_, fun p hp => by cases hp⟩
    cases hx
    exact ⟨rfl, h0, id, ht, Nat.le_refl _⟩
theorem oJ_step {w si m1 : Nat} {t : Tk} (ha : a ≤ 120) (hn : n < 8) (hw : w < 6) (h0 : r 0 = nI (n + 1)) (ht : okK a t) (hv : ∀ v, v < m1 → okV (n + 1) w (nI v)) {F : (Nat → Int32) → Tk → tyI} (hF : ∀ r' t', r' 0 = nI (n + 1) → okK a t' → oJ a n y t'.2.1 r' (F r' t')) : oJ a n y t.2.1 r (match opF (gA tb a) r n w si m1 t with
    | .inr p => .inr p
    | .inl q => F q.1 q.2) := by
  obtain ⟨h1, h2⟩ := op_ok (tb := tb) (r := r) (k := n) (w := w) (si := si) (m1 := m1) ha ht
  cases hq : opF (gA tb a) r n w si m1 t with
  | inr p => exact ⟨fun x hx => (by cases hx), fun p' hp => by cases hp; exact h2 p hq⟩
  | inl q =>
    obtain ⟨g1, g2, g3⟩ := h1 q hq
    have h3 : q.1 0 = nI (n + 1) ∧ (okR r (n + 1) y → okR q.1 (n + 1) y) := by
      rcases g3 with e | ⟨v, hv1, e⟩
      · rw [e]; exact ⟨h0, id⟩
      · rw [e]; exact ⟨(upd_at (by omega)).trans h0, fun ho => ho.set (by omega) hw (hv v hv1)⟩
    obtain ⟨k1, k2⟩ := hF q.1 q.2 h3.1 g1
    refine ⟨fun x hx => ?_, k2⟩
    obtain ⟨a1, a2, a3, a4, a5⟩ := k1 x hx
    exact ⟨a1, a2, fun ho => a3 (h3.2 ho), a4, by omega⟩
theorem oJ_pa {t : Tk} (ha : a ≤ 120) (hn : n < 8) (h0 : r 0 = nI (n + 1)) (ht : okK a t) : oJ a n y t.2.1 r (pa1 (gA tb a) r n t) := by
  unfold pa1
  refine oJ_step (w := 1) ha hn (by decide) h0 ht (fun v hv => Or.inr ⟨v, by omega, rfl⟩) (F := fun r t => mk2 (gA tb a) r n t) (fun r' t' h0' ht' => ?_)
  unfold mk2
  refine oJ_step (w := 2) ha hn (by decide) h0' ht' (fun v hv => ⟨v, hv, rfl⟩) (F := fun r t => tu3 (gA tb a) r n t) (fun r2 t2 h02 ht2 => ?_)
  unfold tu3
  exact oJ_step (w := 3) ha hn (by decide) h02 ht2 (fun v hv => ⟨v, hv, rfl⟩) (F := fun r t => up4 (gA tb a) r n t) (fun r3 t3 h03 ht3 => oJ_up ha hn h03 ht3)
theorem kw_lt {g : Nat → Int32} {t : Tk} {kd : Nat} (h : kwF g t = some kd) : kd < 7 ∧ t.1 = 1 := by
  have hw : ∀ i, wdF g t = some (zSb.getD i []) → t.1 = 1 := fun i hi => by
    unfold wdF at hi
    by_cases c : t.1 = 1
    · exact c
    · rw [if_neg c] at hi; cases hi
  unfold kwF at h
  split at h
  · cases h; exact ⟨by decide, hw _ ‹_›⟩
  split at h
  · cases h; exact ⟨by decide, hw _ ‹_›⟩
  split at h
  · cases h; exact ⟨by decide, hw _ ‹_›⟩
  split at h
  · cases h; exact ⟨by decide, hw _ ‹_›⟩
  split at h
  · cases h; exact ⟨by decide, hw _ ‹_›⟩
  split at h
  · cases h; exact ⟨by decide, hw _ ‹_›⟩
  split at h
  · cases h; exact ⟨by decide, hw _ ‹_›⟩
  · cases h
theorem oI_new {t : Tk} (ha : a ≤ 120) (h8 : n ≤ 8) (ht : okK a t) : oI a n y t.2.2.1 r (newI (gA tb a) r n t) := by
  have := ht.2.1
  have := ht.2.2
  unfold newI
  cases hk : kwF (gA tb a) t with
  | none => exact ⟨fun x hx => (by cases hx), fun p hp => by cases hp; omega⟩
  | some kd =>
    by_cases c : n = 8
    · dsimp only
      rw [if_pos c]
      exact ⟨fun x hx => (by cases hx), fun p hp => by cases hp; omega⟩
    · dsimp only
      rw [if_neg c]
      have hb := tk_b (tb := tb) ha ht.2.2
      obtain ⟨k1, k2⟩ := oJ_pa (tb := tb) (y := y) (r := nwR r n (nI kd) (-1) (nI 0)) ha (show n < 8 by omega) nwR_0 (okK_tkn ha ht.2.2)
      refine ⟨fun x hx => ?_, k2⟩
      obtain ⟨a1, a2, a3, a4, a5⟩ := k1 x hx
      refine ⟨Or.inr a1, by omega, by rw [a1]; exact a2, fun ho => ?_, a4, by omega⟩
      rw [a1]
      exact a3 (okR_nw ho (by omega) ⟨kd, (kw_lt hk).1, rfl⟩ (Or.inl rfl) ⟨0, by decide, rfl⟩)
theorem oI_ag {i : Nat} (ha : a ≤ 120) (h8 : n ≤ 8) (h0 : r 0 = nI n) (hi : i ≤ a) : oI a n y i r (agI (gA tb a) r n i) := by
  have hb := tk_b (tb := tb) ha hi
  unfold agI
  by_cases c : (tkn (gA tb a) i).1 = 2 ∧ (tkn (gA tb a) i).2.2.2 < n
  · rw [if_pos c]
    obtain ⟨h1, h2⟩ := fc_ok (tb := tb) (r := r) (k := (tkn (gA tb a) i).2.2.2) (w := 4) (m1 := 1000) ha hb.2.2.1
    cases hq : fcF (gA tb a) r (tkn (gA tb a) i).2.2.2 4 1000 (tkn (gA tb a) i).2.2.1 with
    | inr p => exact ⟨fun x hx => (by cases hx), fun p' hp => by cases hp; exact h2 p hq⟩
    | inl q =>
      obtain ⟨g1, g2, v, g3, g4⟩ := h1 q hq
      refine ⟨fun x hx => ?_, fun p hp => by cases hp⟩
      cases hx
      refine ⟨Or.inl rfl, h8, ?_, fun ho => ?_, g1, ?_⟩
      · show q.1 0 = _
        rw [g4, upd_at (by omega)]; exact h0
      · show okR q.1 n y
        rw [g4]; exact ho.set c.2 (by decide) ⟨v, by omega, rfl⟩
      · show i ≤ q.2.2.1
        omega
  · rw [if_neg c]
    exact ⟨fun x hx => (by cases hx), fun p hp => by cases hp; omega⟩
theorem oI_it {t : Tk} (ha : a ≤ 120) (h8 : n ≤ 8) (h0 : r 0 = nI n) (ht : okK a t) : oI a n y t.2.2.1 r (itI (gA tb a) r n t) := by
  unfold itI
  split
  · exact oI_ag ha h8 h0 ht.2.2
  · exact oI_new ha h8 ht
theorem rd_ok (ha : a ≤ 120) : ∀ f it r n p0 d, n ≤ 8 → r 0 = nI n → d ≤ a → p0 ≤ a → f + it = 121 → (∀ q, rdF (gA tb a) f it r n p0 d = .inl q → q.1 ≤ 120 ∧ (okR r n y → okR q.2.1 q.2.2 y)) ∧ ∀ p, rdF (gA tb a) f it r n p0 d = .inr p → p ≤ a
  | 0, it, r, n, p0, d, h8, h0, hd, hp, hf => ⟨fun q hq => (by cases hq), fun p hp2 => by cases hp2; exact hp⟩
  | f + 1, it, r, n, p0, d, h8, h0, hd, hp, hf => by
    obtain ⟨h1, h2⟩ := oI_it (tb := tb) (y := y) ha h8 h0 (okK_tkn ha hd)
    unfold rdF
    cases hq : itI (gA tb a) r n (tkn (gA tb a) d) with
    | inr p => exact ⟨fun x hx => (by cases hx), fun p' hp' => by cases hp'; exact h2 p hq⟩
    | inl q =>
      obtain ⟨g1, g2, g3, g4, g5, g6⟩ := h1 q hq
      have g7 := g5.2.1
      have g8 := g5.2.2
      dsimp only
      split
      · refine ⟨fun x hx => ?_, fun p hp' => by cases hp'⟩
        cases hx
        exact ⟨by dsimp only; omega, g4⟩
      · split
        · obtain ⟨k1, k2⟩ := rd_ok ha f (it + 1) q.1 q.2.1 q.2.2.2.1 q.2.2.2.2.1 g2 g3 (by omega) (by omega) (by omega)
          exact ⟨fun x hx => ⟨(k1 x hx).1, fun ho => (k1 x hx).2 (g4 ho)⟩, k2⟩
        · exact ⟨fun x hx => (by cases hx), fun p' hp' => by cases hp'; omega⟩
end IP
