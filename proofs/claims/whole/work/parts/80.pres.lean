/-! what each act keeps -/
theorem dR_inv {x : Int32} {lo hi j : Nat} (hl : lo < 2147483648) (hh : hi < 2147483648) (e : dR lo hi x = some j) : lo ≤ j ∧ j ≤ hi ∧ x = nI j := by
  rcases dR_cases x hl hh with ⟨-, c⟩ | ⟨-, -, c⟩ | ⟨i, h1, h2, h3, h4⟩
  · rw [c] at e; cases e
  · rw [c] at e; cases e
  · rw [h4] at e; cases e; exact ⟨h1, h2, h3⟩
theorem dX_inv {x : Int32} {n j : Nat} (hn : n < 2147483648) (e : dX n x = some j) : j < n ∧ x = nI j := by
  rcases zix x hn with c | ⟨-, c⟩ | ⟨i, h1, h2⟩
  · rw [dX_none (Or.inl c)] at e; cases e
  · rw [dX_none (Or.inr c)] at e; cases e
  · subst h2
    rw [dX_some h1 hn] at e; cases e; exact ⟨h1, rfl⟩
theorem dX2_inv {a b : Int32} {n : Nat} {q : Nat × Nat} (hn : n < 2147483648) (e : dX2 n a b = some q) : q.1 < n ∧ q.2 < n ∧ a = nI q.1 ∧ b = nI q.2 := by
  unfold dX2 at e
  split at e
  · rename_i i j h1 h2
    split at e
    · cases e
    · cases e
      exact ⟨(dX_inv hn h1).1, (dX_inv hn h2).1, (dX_inv hn h1).2, (dX_inv hn h2).2⟩
  · cases e
def okX (r : Nat → Int32) : Prop := ∃ n y, okR r n y
section PRES
variable {n y : Nat} {r fd : Nat → Int32} {sh : tyS} {tp : tyP}
theorem p_fin {w : Nat} : (fin w r fd).2.1 = r := rfl
theorem p_orN {o : Option Nat} : (orN o r fd).2.1 = r := by cases o <;> rfl
theorem p_Of {k w : Int32} : (sOf n r fd k w).2.1 = r := by unfold sOf; split <;> rfl
theorem p_Who {c : Int32} : (sWho n r fd c).2.1 = r := by unfold sWho; split <;> rfl
theorem p_Common {a b : Int32} : (sCommon n r fd a b).2.1 = r := by unfold sCommon; split <;> rfl
theorem p_Turned {a b c : Int32} : (sTurned r fd a b c).2.1 = r := by unfold sTurned; split <;> rfl
theorem p_Now {a : Int32} : (sNow n r fd a).2.1 = r := by unfold sNow; split <;> rfl
theorem p_Ahead {a b c : Int32} : (sAhead n r fd a b c).2.1 = r := by unfold sAhead; split <;> rfl
theorem p_Known {a : Int32} : (sKnown n r fd a).2.1 = r := by unfold sKnown; split <;> rfl
theorem p_When {a : Int32} : (sWhen n r fd a).2.1 = r := by unfold sWhen; split <;> first | rfl | exact p_orN
theorem p_Many {a : Int32} : (sMany n r fd a).2.1 = r := by unfold sMany; split <;> first | rfl | exact p_orN
theorem p_Match {a b c : Int32} : (sMatch n r fd a b c).2.1 = r := by unfold sMatch; split <;> first | rfl | exact p_orN
theorem p_TurnFor {a b : Int32} : (sTurnFor n r fd a b).2.1 = r := by unfold sTurnFor; split <;> rfl
theorem p_KindFor {a b : Int32} : (sKindFor n r fd a b).2.1 = r := by unfold sKindFor; split <;> rfl
theorem p_Cover : (sCover n r fd).2.1 = r := rfl
theorem p_Hide {a b : Int32} : (sHide n r fd a b).2.1 = r := by unfold sHide; split <;> first | rfl | exact p_orN
theorem p_Marry : (sMarry n r fd).2.1 = r := by unfold sMarry; split <;> rfl
theorem p_Shows {a b : Int32} : (sShows n r fd a b).2.1 = r := by
  unfold sShows
  split
  · split <;> rfl
  · rfl
theorem p_Told {w m : Nat} {a b : Int32} : (sTold n r fd sh w m a b).2.1 = r := by unfold sTold; split <;> rfl
theorem p_Spots {a b : Int32} : (sSpots n r fd sh a b).2.1 = r := by unfold sSpots; split <;> rfl
theorem p_As {a b : Int32} : (sAs r fd a b).2.1 = r := by
  unfold sAs
  split
  · split
    · rfl
    · split <;> rfl
  · rfl
theorem p_Judge {a : Int32} : (sJudge n r fd sh a).2.1 = r := by unfold sJudge; split <;> rfl
theorem p_Count {tn : Nat} {a : Int32} : (sCount n r fd tn a).2.1 = r := by unfold sCount; split <;> rfl
theorem p_Status {a : Int32} : (sStatus r fd a).2.1 = r := by
  unfold sStatus
  split
  · rfl
  · split <;> rfl
theorem q_Kin (h : okR r n y) {k m : Int32} : okX (sKin n r fd k m).2.1 := by
  unfold sKin
  split
  · rename_i a b e1 e2
    by_cases c : n = 8
    · rw [if_pos c]; exact ⟨n, y, h⟩
    · rw [if_neg c]
      obtain ⟨-, g1, g2⟩ := dR_inv (by decide) (by decide) e1
      obtain ⟨-, g3, g4⟩ := dR_inv (by decide) (by decide) e2
      exact ⟨n + 1, y, okR_nw h (by have := h.1; omega) ⟨a, by omega, g2⟩ (Or.inl rfl) ⟨b, by omega, g4⟩⟩
  · exact ⟨n, y, h⟩
theorem q_Birth (h : okR r n y) {k a b : Int32} : okX (sBirth n r fd k a b).2.1 := by
  have h8 := h.1
  unfold sBirth
  split
  · rename_i a0 i j e1 e2
    by_cases c : n = 8
    · rw [if_pos c]; exact ⟨n, y, h⟩
    · rw [if_neg c]
      obtain ⟨-, g1, g2⟩ := dR_inv (by decide) (by decide) e1
      obtain ⟨g3, g4, g5, g6⟩ := dX2_inv (by omega) e2
      exact ⟨n + 1, y, okR_nw h (by omega) ⟨a0, by omega, g2⟩ (Or.inr ⟨i, Nat.lt_succ_of_lt g3, g5⟩) ⟨_, Nat.lt_of_le_of_lt Nat.and_le_left (okR_mk h g3).1, rfl⟩⟩
  · exact ⟨n, y, h⟩
theorem canB_ok (h8 : n ≤ 8) {k v : Int32} {w : Nat} (hw : w ≤ 5) (hc : canB n k w v = true) : okV n w v := by
  have iv : ∀ {hi : Nat}, hi < 2147483648 → (dR 0 hi v).isSome = true → ∃ j, j ≤ hi ∧ v = nI j := fun hh e => by
    obtain ⟨j, hj⟩ := Option.isSome_iff_exists.mp e
    exact ⟨j, (dR_inv (by decide) hh hj).2.1, (dR_inv (by decide) hh hj).2.2⟩
  rcases w with _ | _ | _ | _ | _ | _ | w
  · obtain ⟨j, h1, h2⟩ := iv (by decide) hc
    exact ⟨j, by omega, h2⟩
  · have hc : (decide (v = -1) || (dX2 n k v).isSome) = true := hc
    rcases Bool.or_eq_true _ _ |>.mp hc with e | e
    · exact Or.inl (of_decide_eq_true e)
    · obtain ⟨q, hq⟩ := Option.isSome_iff_exists.mp e
      obtain ⟨g3, g4, g5, g6⟩ := dX2_inv (by omega) hq
      exact Or.inr ⟨q.2, g4, g6⟩
  · obtain ⟨j, h1, h2⟩ := iv (by decide) hc
    exact ⟨j, by omega, h2⟩
  · obtain ⟨j, h1, h2⟩ := iv (by decide) hc
    exact ⟨j, by omega, h2⟩
  · obtain ⟨j, h1, h2⟩ := iv (by decide) hc
    exact ⟨j, by omega, h2⟩
  · obtain ⟨j, h1, h2⟩ := iv (by decide) hc
    exact ⟨j, by omega, h2⟩
  · omega
theorem q_Change (h : okR r n y) {k w v : Int32} : okX (sChange n r fd k w v).2.1 := by
  have h8 := h.1
  unfold sChange
  split
  · rename_i i j e1 e2
    obtain ⟨g1, g2⟩ := dX_inv (by omega) e1
    obtain ⟨-, g3, g4⟩ := dR_inv (by decide) (by decide) e2
    split
    · rename_i c
      exact ⟨n, y, h.set g1 (by omega) (canB_ok h8 g3 c)⟩
    · exact ⟨n, y, h⟩
  · exact ⟨n, y, h⟩
theorem q_Go (h : okR r n y) {j : Int32} : okX (sGo n y r fd j).2.1 := by
  unfold sGo
  split
  · split
    · exact ⟨n, y, h⟩
    · exact ⟨n, _, okR_goR h _⟩
  · exact ⟨n, y, h⟩
theorem q_Moles (h : okR r n y) {j : Int32} : okX (sMoles n y r fd j).2.1 := by
  unfold sMoles
  split
  · split
    · exact ⟨n, y, h⟩
    · exact ⟨n, _, okR_moN h _⟩
  · exact ⟨n, y, h⟩
theorem q_Seed (h : okR r n y) {v : Int32} : okX (sSeed r fd v).2.1 := by
  obtain ⟨h1, h2, h3, h4, h5, h6⟩ := h
  refine ⟨n, y, h1, h2, h3, h4, fun k hk w hw => ?_, fun j hj => ?_⟩
  · show okV n w (its (upd r 2 v) k w)
    rw [its_uh (by decide)]; exact h5 k hk w hw
  · show upd r 2 v (51 + j) = -1 ∨ ∃ p, p < n ∧ upd r 2 v (51 + j) = nI p
    rw [upd_at (by omega)]; exact h6 j hj
theorem its_u51 {k w s : Nat} {v : Int32} (hw : w < 6) : its (upd r (51 + s) v) k w = its r k w := by
  unfold its
  split
  · rw [upd_at (by omega)]
  · rfl
theorem q_Hold (h : okR r n y) {s k : Int32} : okX (sHold n r fd s k).2.1 := by
  have h8 := h.1
  unfold sHold
  split
  · rename_i i e1
    obtain ⟨-, g1, g2⟩ := dR_inv (by decide) (by decide) e1
    split
    · rename_i c
      obtain ⟨h1, h2, h3, h4, h5, h6⟩ := h
      refine ⟨n, y, h1, ?_, h3, ?_, fun k2 hk w hw => ?_, fun j hj => ?_⟩
      · show upd r (51 + i) k 0 = _
        rw [upd_at (by omega)]; exact h2
      · show upd r (51 + i) k 1 = _
        rw [upd_at (by omega)]; exact h4
      · show okV n w (its (upd r (51 + i) k) k2 w)
        rw [its_u51 hw]; exact h5 k2 hk w hw
      · show upd r (51 + i) k (51 + j) = -1 ∨ ∃ p, p < n ∧ upd r (51 + i) k (51 + j) = nI p
        by_cases e : j = i
        · subst e
          rw [upd_self]
          rcases c with c | c
          · exact Or.inl c
          · obtain ⟨q, hq⟩ := Option.isSome_iff_exists.mp c
            exact Or.inr ⟨q, (dX_inv (by omega) hq).1, (dX_inv (by omega) hq).2⟩
        · rw [upd_at (by omega)]; exact h6 j hj
    · exact ⟨n, y, h⟩
  · exact ⟨n, y, h⟩
theorem loF_ok {nu : Nat → Int32} {s : Nat} : ∀ f i j, i ≤ j → j < loF n nu s f i → j < n ∧ (dR 0 65535 (nt nu s j)).isSome = true
  | 0, i, j, h1, h2 => by
    have h2 : j < i := h2
    omega
  | f + 1, i, j, h1, h2 => by
    unfold loF at h2
    split at h2
    · rename_i c
      by_cases e : j = i
      · subst e; exact c
      · exact loF_ok f (i + 1) j (by omega) h2
    · omega
theorem loR_ok (h : okR r n y) {nu : Nat → Int32} {s m : Nat} (hm : ∀ j, j < m → j < n ∧ (dR 0 65535 (nt nu s j)).isSome = true) : ∀ i, i ≤ m → okR (loR nu s r i) n y
  | 0, _ => h
  | i + 1, hi => by
    obtain ⟨g1, g2⟩ := hm i (by omega)
    obtain ⟨j, hj⟩ := Option.isSome_iff_exists.mp g2
    obtain ⟨-, g3, g4⟩ := dR_inv (by decide) (by decide) hj
    exact (loR_ok h hm i (by omega)).set g1 (by decide) ⟨j, by omega, g4⟩
theorem q_Load (h : okR r n y) {x : Int32} : okX (sLoad n r fd sh x).2.1 := by
  unfold sLoad
  split
  · exact ⟨n, y, loR_ok h (fun j hj => loF_ok _ _ j (Nat.zero_le _) hj) _ (Nat.le_refl _)⟩
  · exact ⟨n, y, h⟩
theorem q_Text (h : okR r n y) {tb : Nat → Int32} {a : Nat} (ha : a ≤ 120) : okX (sText n r tb a).2 := by
  unfold sText
  split
  · rename_i q e
    have := (rd_ok (y := y) ha 120 1 r n 0 0 h.1 h.2.1 (by omega) (by omega) rfl).1 q e
    exact ⟨_, y, this.2 h⟩
  · exact ⟨n, y, h⟩
theorem dB_inv {b : Int32} {k : Nat} (e : dB b = some k) : k = 0 ∨ k = 8 ∨ k = 16 ∨ k = 32 := by
  rcases dB_cases b with ⟨j, h1, -, h3⟩ | ⟨-, -, -, -, h3⟩
  · rw [h3] at e; cases e; exact h1
  · rw [h3] at e; cases e
theorem q_Sheet (ho : okS sh.2.1 sh.2.2) {x b m : Int32} : okS (sSheet sh fd x b m).2.1.2.1 (sSheet sh fd x b m).2.1.2.2 := by
  unfold sSheet
  split
  · rename_i s k e1 e2
    split
    · exact ho
    · split
      · rename_i m2 e3
        obtain ⟨-, g3, -⟩ := dR_inv (by decide) (by decide) e3
        intro t ht
        show (updN sh.2.1 s k t = 0 ∨ updN sh.2.1 s k t = 8 ∨ updN sh.2.1 s k t = 16 ∨ updN sh.2.1 s k t = 32) ∧ updN sh.2.2 s (if k = 0 then 0 else m2) t ≤ 40 ∧ (updN sh.2.1 s k t = 0 → updN sh.2.2 s (if k = 0 then 0 else m2) t = 0)
        unfold updN
        by_cases c : t = s
        · rw [if_pos c, if_pos c]
          refine ⟨dB_inv e2, ?_, fun hk => if_pos hk⟩
          split <;> omega
        · rw [if_neg c, if_neg c]
          exact ho t ht
      · exact ho
  · exact ho
theorem q_Write (ho : okS sh.2.1 sh.2.2) {x i v : Int32} : okS (sWrite sh fd x i v).2.1.2.1 (sWrite sh fd x i v).2.1.2.2 := by
  unfold sWrite
  split
  · split <;> exact ho
  · exact ho
theorem q_Copy (ho : okS sh.2.1 sh.2.2) {x a z b m : Int32} : okS (sCopy sh fd x a z b m).2.1.2.1 (sCopy sh fd x a z b m).2.1.2.2 := by
  unfold sCopy
  split
  · split
    · exact ho
    · split
      · split
        · split <;> exact ho
        · exact ho
      · exact ho
  · exact ho
theorem by_255 (x : Int32) : ∃ b, b < 256 ∧ x &&& nI 255 = nI b := by
  have h : x.toBitVec.toNat &&& 255 ≤ 255 := Nat.and_le_right
  refine ⟨x.toBitVec.toNat &&& 255, by omega, ?_⟩
  apply Int32.toBitVec_inj.mp
  show x.toBitVec &&& 255#32 = BitVec.ofNat 32 (x.toBitVec.toNat &&& 255)
  apply BitVec.eq_of_toNat_eq
  rw [BitVec.toNat_and, BitVec.toNat_ofNat]
  show x.toBitVec.toNat &&& 255 = (x.toBitVec.toNat &&& 255) % 2 ^ 32
  rw [Nat.mod_eq_of_lt (by omega)]
theorem ap_ok {tb : Nat → Int32} {a k : Nat} {x : Int32} (h : ∀ i, i < a → ∃ b, b < 256 ∧ tb i = nI b) : ∀ m i, i < a + m → ∃ b, b < 256 ∧ apR tb a k x m i = nI b
  | 0, i, hi => h i hi
  | m + 1, i, hi => by
    show ∃ b, b < 256 ∧ upd (apR tb a k x m) (a + m) (zushr x (nI (8 * (k - 1 - m))) &&& nI 255) i = nI b
    by_cases e : i = a + m
    · subst e
      rw [upd_self]
      exact by_255 _
    · rw [upd_at e]
      exact ap_ok h m i (by omega)
end PRES
theorem r00_ok : okR r00 0 0 := ⟨by decide, rfl, by decide, rfl, fun k hk => by omega, fun j hj => Or.inl r00_hi⟩
theorem sh00_ok : okS sh00.2.1 sh00.2.2 := fun s _ => ⟨Or.inl rfl, Nat.zero_le _, fun _ => rfl⟩
theorem t00_ok : okT (fun _ => 0) 0 := ⟨Nat.zero_le _, fun i hi => by omega⟩
