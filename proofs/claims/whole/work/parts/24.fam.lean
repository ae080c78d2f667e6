-- simp: fW_0, fW_1, fW_2, fW_3, fW_4, fW_5, fW_6, fW_7, fW_8, fW_p0, fW_p1, fW_p2, fW_s0, fW_s1, fW_s2, fW_s3, fW_s4, fW_s5, fW_s8
/-! what a row says of one; valid rows -/
def okV (n w : Nat) (v : Int32) : Prop := match w with
  | 0 => ∃ a, a < 7 ∧ v = nI a
  | 1 => v = -1 ∨ ∃ p, p < n ∧ v = nI p
  | 2 => ∃ m, m < 65536 ∧ v = nI m
  | 3 => ∃ t, t < 4 ∧ v = nI t
  | 4 => ∃ g, g ≤ 999 ∧ v = nI g
  | _ => ∃ b, b < 2 ∧ v = nI b
def okR (r : Nat → Int32) (n y : Nat) : Prop := n ≤ 8 ∧ r 0 = nI n ∧ y ≤ 99999 ∧ r 1 = nI y ∧ (∀ k, k < n → ∀ w, w < 6 → okV n w (its r k w)) ∧ ∀ j, j < 10 → (r (51 + j) = -1 ∨ ∃ p, p < n ∧ r (51 + j) = nI p)
theorem okR.set {r : Nat → Int32} {n y k w : Nat} {v : Int32} (h : okR r n y) (hk : k < n) (hw : w < 6) (hv : okV n w v) : okR (upd r (3 + 6 * k + w) v) n y := by
  obtain ⟨h1, h2, h3, h4, h5, h6⟩ := h
  refine ⟨h1, ?_, h3, ?_, fun j hj w' hw' => ?_, fun j hj => ?_⟩
  · rw [show upd r (3 + 6 * k + w) v 0 = r 0 by unfold upd; rw [if_neg (by omega)]]; exact h2
  · rw [show upd r (3 + 6 * k + w) v 1 = r 1 by unfold upd; rw [if_neg (by omega)]]; exact h4
  · rw [its_u (by omega) hw hw']
    by_cases e : j = k ∧ w' = w
    · rw [if_pos e, e.2]; exact hv
    · rw [if_neg e]; exact h5 j hj w' hw'
  · rw [show upd r (3 + 6 * k + w) v (51 + j) = r (51 + j) by unfold upd; rw [if_neg (by omega)]]; exact h6 j hj
def kdR (r : Nat → Int32) (k : Nat) : Nat := (its r k 0).toNatClampNeg
def mkR (r : Nat → Int32) (k : Nat) : Nat := (its r k 2).toNatClampNeg
def tnR (r : Nat → Int32) (k : Nat) : Nat := (its r k 3).toNatClampNeg
def agR (r : Nat → Int32) (k : Nat) : Nat := (its r k 4).toNatClampNeg
def ldR (r : Nat → Int32) (k : Nat) : Nat := (its r k 5).toNatClampNeg
def ihR (r : Nat → Int32) (k : Nat) : Nat := if its r k 1 = -1 then 0 else mkR r (its r k 1).toNatClampNeg
theorem nI_nm1 {p : Nat} (hp : p < 2147483648) : ¬ nI p = -1 := fun e => by
  have h2 := congrArg Int32.toInt e
  rw [nI_toInt hp] at h2
  have : (-1 : Int32).toInt = -1 := by decide +kernel
  omega
section OK
theorem okR_kd {r : Nat → Int32} {n y k : Nat} (h : okR r n y) (hk : k < n) : kdR r k < 7 ∧ its r k 0 = nI (kdR r k) := by
  obtain ⟨a, h1, h2⟩ := h.2.2.2.2.1 k hk 0 (by decide)
  have e : kdR r k = a := by unfold kdR; rw [h2]; exact nI_clamp (by omega)
  rw [e]; exact ⟨h1, h2⟩
theorem okR_mk {r : Nat → Int32} {n y k : Nat} (h : okR r n y) (hk : k < n) : mkR r k < 65536 ∧ its r k 2 = nI (mkR r k) := by
  obtain ⟨a, h1, h2⟩ := h.2.2.2.2.1 k hk 2 (by decide)
  have e : mkR r k = a := by unfold mkR; rw [h2]; exact nI_clamp (by omega)
  rw [e]; exact ⟨h1, h2⟩
theorem okR_tn {r : Nat → Int32} {n y k : Nat} (h : okR r n y) (hk : k < n) : tnR r k < 4 ∧ its r k 3 = nI (tnR r k) := by
  obtain ⟨a, h1, h2⟩ := h.2.2.2.2.1 k hk 3 (by decide)
  have e : tnR r k = a := by unfold tnR; rw [h2]; exact nI_clamp (by omega)
  rw [e]; exact ⟨h1, h2⟩
theorem okR_ag {r : Nat → Int32} {n y k : Nat} (h : okR r n y) (hk : k < n) : agR r k ≤ 999 ∧ its r k 4 = nI (agR r k) := by
  obtain ⟨a, h1, h2⟩ := h.2.2.2.2.1 k hk 4 (by decide)
  have e : agR r k = a := by unfold agR; rw [h2]; exact nI_clamp (by omega)
  rw [e]; exact ⟨h1, h2⟩
theorem okR_ld {r : Nat → Int32} {n y k : Nat} (h : okR r n y) (hk : k < n) : ldR r k < 2 ∧ its r k 5 = nI (ldR r k) := by
  obtain ⟨a, h1, h2⟩ := h.2.2.2.2.1 k hk 5 (by decide)
  have e : ldR r k = a := by unfold ldR; rw [h2]; exact nI_clamp (by omega)
  rw [e]; exact ⟨h1, h2⟩
theorem okR_pr {r : Nat → Int32} {n y k : Nat} (h : okR r n y) (hk : k < n) : its r k 1 = -1 ∨ ∃ p, p < n ∧ its r k 1 = nI p := h.2.2.2.2.1 k hk 1 (by decide)
theorem okR_ih {r : Nat → Int32} {n y k : Nat} (h : okR r n y) (hk : k < n) : ihR r k < 65536 := by
  unfold ihR
  rcases okR_pr h hk with e | ⟨p, hp, e⟩
  · rw [if_pos e]; decide
  · have h8 := h.1
    rw [e, if_neg (nI_nm1 (by omega)), nI_clamp (by omega)]
    exact (okR_mk h hp).1
theorem okR_ih1 {r : Nat → Int32} {n y k : Nat} (h : okR r n y) (hk : k < n) (e : its r k 1 = -1) : ihR r k = 0 := by unfold ihR; rw [if_pos e]
theorem okR_ih2 {r : Nat → Int32} {n y k : Nat} (h : okR r n y) (hk : k < n) {p : Nat} (hp : p < n) (e : its r k 1 = nI p) : ihR r k = mkR r p := by
  have h8 := h.1
  unfold ihR
  rw [e, if_neg (nI_nm1 (by omega)), nI_clamp (by omega)]
end OK
/-- what one of a kind shows -/
def shN (a t m g i : Nat) : Nat := match a with
  | 1 => mirN (tBy t m)
  | 2 => andn 65535 (tBy t m)
  | 3 => mirN (tBy t m) ||| i
  | 4 => if g = 0 then 0 else mirN (tBy t m) ||| i
  | 5 => m ||| 32
  | 6 => andn (andn 65535 (tBy t m)) 15
  | _ => tBy t m
def shR (r : Nat → Int32) (k : Nat) : Nat := shN (kdR r k) (tnR r k) (mkR r k) (agR r k) (ihR r k)
theorem or16 {a b : Nat} (ha : a < 65536) (hb : b < 65536) : a ||| b < 65536 := Nat.or_lt_two_pow (n := 16) ha hb
theorem shN_lt {a t m g i : Nat} (hm : m < 65536) (hi : i < 65536) : shN a t m g i < 65536 := by
  have h1 := tBy_lt hm t
  have h2 := mirN_lt h1
  have h3 := or16 h2 hi
  unfold shN
  split
  · exact h2
  · exact Nat.lt_of_le_of_lt (andn_le _ _) (by decide)
  · exact h3
  · split
    · decide
    · exact h3
  · exact or16 hm (by decide)
  · exact Nat.lt_of_le_of_lt (andn_le _ _) (Nat.lt_of_le_of_lt (andn_le _ _) (by decide))
  · exact h1
theorem shR_lt {r : Nat → Int32} {n y k : Nat} (h : okR r n y) (hk : k < n) : shR r k < 65536 := shN_lt (okR_mk h hk).1 (okR_ih h hk)
/-- how often one grows -/
def grN (a g b y : Nat) : Nat := match a with
  | 2 => 0
  | 3 => 2
  | 4 => if g < 2 then 0 else 2
  | 5 => b
  | 6 => if y % 4 = 0 then 1 else 0
  | _ => 1
def grR (r : Nat → Int32) (k : Nat) : Nat := grN (kdR r k) (agR r k) (ldR r k) (r 1).toNatClampNeg
def fdN (a : Nat) : Nat := match a with
  | 0 => 60
  | 1 => 40
  | 3 => 40
  | 4 => 40
  | _ => 0
/-- the least cell of a set -/
def lowN (b : Nat) : Nat := (nI b &&& -(nI b)).toBitVec.toNat
theorem lowN_eq (b : Nat) : nI b &&& -(nI b) = nI (lowN b) := by
  apply Int32.toBitVec_inj.mp
  show _ = BitVec.ofNat 32 (lowN b)
  unfold lowN
  rw [BitVec.ofNat_toNat]
  simp
theorem lowN_le {b : Nat} (hb : b < 65536) : lowN b ≤ b := by
  unfold lowN
  rw [Int32.toBitVec_and, BitVec.toNat_and]
  refine Nat.le_trans Nat.and_le_left ?_
  show (BitVec.ofNat 32 b).toNat ≤ b
  rw [BitVec.toNat_ofNat]
  exact Nat.mod_le _ _
def groN (k m : Nat) : Nat := if m = 0 then 1 <<< (2 * k) else m ||| lowN (bsd m)
theorem groN_lt {k m : Nat} (hk : k < 8) (hm : m < 65536) : groN k m < 65536 := by
  unfold groN
  split
  · rw [Nat.shiftLeft_eq, Nat.one_mul]
    exact Nat.lt_of_le_of_lt (Nat.pow_le_pow_right (n := 2) (by decide) (show 2 * k ≤ 14 by omega)) (by decide)
  · exact or16 hm (Nat.lt_of_le_of_lt (lowN_le (bsd_lt m)) (bsd_lt m))
/-- one grows -/
def gR (k : Nat) (r : Nat → Int32) : Nat → Int32 := upd r (3 + 6 * k + 2) (nI (groN k (mkR r k)))
def gRn (k : Nat) : Nat → (Nat → Int32) → Nat → Int32
  | 0, r => r
  | j + 1, r => gR k (gRn k j r)
/-- one fades -/
def faN (m : Nat) : Nat := andn m (hiB 17 m)
def fR (k : Nat) (r : Nat → Int32) : Nat → Int32 := if ¬ fdN (kdR r k) = 0 ∧ fdN (kdR r k) ≤ agR r k then upd r (3 + 6 * k + 2) (nI (faN (mkR r k))) else r
def aR (k : Nat) (r : Nat → Int32) : Nat → Int32 := upd r (3 + 6 * k + 4) (nI (if 999 < agR r k + 1 then 999 else agR r k + 1))
/-- a year of one, of all -/
def lR (k : Nat) (r : Nat → Int32) : Nat → Int32 := aR k (fR k (gRn k (grR r k) r))
def yF : Nat → (Nat → Int32) → Nat → Int32
  | 0, r => r
  | k + 1, r => lR k (yF k r)
def yR (n : Nat) (r : Nat → Int32) : Nat → Int32 := upd (yF n r) 1 (nI (if 99999 < (r 1).toNatClampNeg + 1 then 99999 else (r 1).toNatClampNeg + 1))
def goR (n : Nat) : Nat → (Nat → Int32) → Nat → Int32
  | 0, r => r
  | j + 1, r => yR n (goR n j r)
def yN (y j : Nat) : Nat := if 99999 < y + j then 99999 else y + j
theorem okR_gR {r : Nat → Int32} {n y k : Nat} (h : okR r n y) (hk : k < n) : okR (gR k r) n y := h.set hk (by decide) ⟨_, groN_lt (by have := h.1; omega) (okR_mk h hk).1, rfl⟩
theorem okR_gRn {r : Nat → Int32} {n y k : Nat} (h : okR r n y) (hk : k < n) : ∀ j, okR (gRn k j r) n y
  | 0 => h
  | j + 1 => okR_gR (okR_gRn h hk j) hk
theorem okR_fR {r : Nat → Int32} {n y k : Nat} (h : okR r n y) (hk : k < n) : okR (fR k r) n y := by
  unfold fR
  split
  · exact h.set hk (by decide) ⟨_, Nat.lt_of_le_of_lt (andn_le _ _) (okR_mk h hk).1, rfl⟩
  · exact h
theorem okR_aR {r : Nat → Int32} {n y k : Nat} (h : okR r n y) (hk : k < n) : okR (aR k r) n y := h.set hk (by decide) ⟨_, by split <;> omega, rfl⟩
theorem okR_lR {r : Nat → Int32} {n y k : Nat} (h : okR r n y) (hk : k < n) : okR (lR k r) n y := okR_aR (okR_fR (okR_gRn h hk _) hk) hk
theorem okR_yF {r : Nat → Int32} {n y : Nat} (h : okR r n y) : ∀ k, k ≤ n → okR (yF k r) n y
  | 0, _ => h
  | k + 1, hk => okR_lR (okR_yF h k (by omega)) (by omega)
theorem okR_year {r : Nat → Int32} {n y y' : Nat} (h : okR r n y) (hy : y' ≤ 99999) : okR (upd r 1 (nI y')) n y' := by
  obtain ⟨h1, h2, h3, h4, h5, h6⟩ := h
  refine ⟨h1, h2, hy, rfl, fun k hk w hw => ?_, fun j hj => ?_⟩
  · rw [its_uh (by decide)]; exact h5 k hk w hw
  · rw [show upd r 1 (nI y') (51 + j) = r (51 + j) by unfold upd; rw [if_neg (by omega)]]; exact h6 j hj
theorem okR_yR {r : Nat → Int32} {n y : Nat} (h : okR r n y) : okR (yR n r) n (yN y 1) := by
  unfold yR
  rw [h.2.2.2.1, nI_clamp (by have := h.2.2.1; omega)]
  exact okR_year (okR_yF h n (Nat.le_refl _)) (by split <;> omega)
theorem yN_add (y i j : Nat) : yN (yN y i) j = yN y (i + j) := by
  unfold yN
  repeat' split
  all_goals omega
theorem okR_goR {r : Nat → Int32} {n y : Nat} (h : okR r n y) : ∀ j, okR (goR n j r) n (yN y j)
  | 0 => by
    have e : yN y 0 = y := by unfold yN; have := h.2.2.1; split <;> omega
    rw [e]; exact h
  | j + 1 => by
    have := okR_yR (okR_goR h j)
    rw [yN_add] at this
    exact this
