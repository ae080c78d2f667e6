-- simp: tX_0, tX_1, tX_p
/-! tokens of a text -/
def gA (tb : Nat → Int32) (a i : Nat) : Int32 := if i < a then tb i else -1
def okT (tb : Nat → Int32) (a : Nat) : Prop := a ≤ 120 ∧ ∀ i, i < a → ∃ b, b < 256 ∧ tb i = nI b
def isL (x : Int32) : Bool := !decide (x < nI 97) && !decide (nI 122 < x)
def isD (x : Int32) : Bool := !decide (x < nI 48) && !decide (nI 57 < x)
def isSp (x : Int32) : Bool := decide (x = nI 32)
/-- from i on for as long as p holds -/
def rnF (p : Int32 → Bool) (g : Nat → Int32) : Nat → Nat → Nat
  | 0, i => i
  | f + 1, i => if p (g i) = true then rnF p g f (i + 1) else i
def srt (x : Int32) : Nat := if x = -1 then 0 else if isL x = true then 1 else if isD x = true then 2 else if x = nI 59 then 3 else 4
def dgS (v : Nat) (x : Int32) : Nat := if 99999 < v then v else 10 * v + (x.toNatClampNeg - 48)
def dgF (g : Nat → Int32) : Nat → Nat → Nat → Nat
  | 0, _, v => v
  | f + 1, i, v => if isD (g i) = true then dgF g f (i + 1) (dgS v (g i)) else v
abbrev Tk : Type := Nat × Nat × Nat × Nat
def tkB (g : Nat → Int32) (p s : Nat) : Nat := if s = 1 then rnF isL g (121 - p) p else if s = 2 then rnF isD g (121 - p) p else if s = 0 then p else p + 1
/-- the token from i on: what, from where, behind it, its number -/
def tkP (g : Nat → Int32) (i : Nat) : Nat := rnF isSp g (121 - i) i
def tkn (g : Nat → Int32) (i : Nat) : Tk := (srt (g (tkP g i)), tkP g i, tkB g (tkP g i) (srt (g (tkP g i))), if srt (g (tkP g i)) = 2 then dgF g (121 - tkP g i) (tkP g i) 0 else 0)
def capV (v : Nat) : Nat := if 100000 < v then 100000 else v
theorem gA_in {tb : Nat → Int32} {a i : Nat} (h : i < a) : gA tb a i = tb i := if_pos h
theorem gA_out {tb : Nat → Int32} {a i : Nat} (h : a ≤ i) : gA tb a i = -1 := if_neg (Nat.not_lt.mpr h)
theorem isL_m : isL (-1) = false := by decide +kernel
theorem isD_m : isD (-1) = false := by decide +kernel
theorem isSp_m : isSp (-1) = false := by decide +kernel
theorem srt_lt (x : Int32) : srt x < 5 := by
  unfold srt
  repeat' split
  all_goals decide
theorem rn_ge {p : Int32 → Bool} {g : Nat → Int32} : ∀ f i, i ≤ rnF p g f i
  | 0, _ => Nat.le_refl _
  | f + 1, i => by
    unfold rnF
    split
    · exact Nat.le_trans (by omega) (rn_ge f (i + 1))
    · exact Nat.le_refl _
theorem rn_le {p : Int32 → Bool} {tb : Nat → Int32} {a : Nat} (hm : p (-1) = false) : ∀ f i, i ≤ a → rnF p (gA tb a) f i ≤ a
  | 0, _, h => h
  | f + 1, i, h => by
    unfold rnF
    by_cases c : i < a
    · split
      · exact rn_le hm f (i + 1) c
      · exact h
    · rw [gA_out (by omega), hm]
      exact h
theorem rn_gt {p : Int32 → Bool} {g : Nat → Int32} {f i : Nat} (h : p (g i) = true) (hf : 0 < f) : i < rnF p g f i := by
  obtain ⟨f, rfl⟩ : ∃ k, f = k + 1 := ⟨f - 1, by omega⟩
  unfold rnF
  rw [if_pos h]
  exact Nat.lt_of_lt_of_le (by omega) (rn_ge f (i + 1))
theorem tk_s {g : Nat → Int32} {i : Nat} : (tkn g i).1 < 5 := srt_lt _
theorem srt_1 {x : Int32} (h : srt x = 1) : isL x = true := by
  unfold srt at h
  repeat' split at h
  all_goals first | assumption | omega
theorem srt_2 {x : Int32} (h : srt x = 2) : isD x = true := by
  unfold srt at h
  repeat' split at h
  all_goals first | assumption | omega
theorem tk_b {tb : Nat → Int32} {a i : Nat} (ha : a ≤ 120) (hi : i ≤ a) : i ≤ (tkn (gA tb a) i).2.1 ∧ (tkn (gA tb a) i).2.1 ≤ (tkn (gA tb a) i).2.2.1 ∧ (tkn (gA tb a) i).2.2.1 ≤ a ∧ ((tkn (gA tb a) i).1 ≠ 0 → (tkn (gA tb a) i).2.1 < (tkn (gA tb a) i).2.2.1) := by
  show i ≤ tkP (gA tb a) i ∧ tkP (gA tb a) i ≤ tkB (gA tb a) (tkP (gA tb a) i) (srt (gA tb a (tkP (gA tb a) i))) ∧ tkB (gA tb a) (tkP (gA tb a) i) (srt (gA tb a (tkP (gA tb a) i))) ≤ a ∧ (srt (gA tb a (tkP (gA tb a) i)) ≠ 0 → tkP (gA tb a) i < tkB (gA tb a) (tkP (gA tb a) i) (srt (gA tb a (tkP (gA tb a) i))))
  have h1 : i ≤ tkP (gA tb a) i := rn_ge _ _
  have h2 : tkP (gA tb a) i ≤ a := rn_le isSp_m _ _ hi
  generalize tkP (gA tb a) i = p at h1 h2
  have h3 : srt (gA tb a p) ≠ 0 → p < a := fun hs => by
    by_cases c : p < a
    · exact c
    · rw [gA_out (by omega)] at hs
      exact absurd (by decide +kernel) hs
  refine ⟨h1, ?_⟩
  unfold tkB
  by_cases c1 : srt (gA tb a p) = 1
  · rw [if_pos c1]
    exact ⟨rn_ge _ _, rn_le isL_m _ _ h2, fun _ => rn_gt (srt_1 c1) (by omega)⟩
  · rw [if_neg c1]
    by_cases c2 : srt (gA tb a p) = 2
    · rw [if_pos c2]
      exact ⟨rn_ge _ _, rn_le isD_m _ _ h2, fun _ => rn_gt (srt_2 c2) (by omega)⟩
    · rw [if_neg c2]
      by_cases c0 : srt (gA tb a p) = 0
      · rw [if_pos c0]
        exact ⟨Nat.le_refl _, h2, fun z => absurd c0 z⟩
      · rw [if_neg c0]
        have := h3 c0
        exact ⟨by omega, by omega, fun _ => by omega⟩
theorem dgS_le {v : Nat} {x : Int32} (hv : v ≤ 999999) (hx : isD x = true) : dgS v x ≤ 999999 ∧ ∃ b, 48 ≤ b ∧ b ≤ 57 ∧ x = nI b := by
  unfold isD at hx
  simp only [Bool.and_eq_true, Bool.not_eq_true', decide_eq_false_iff_not] at hx
  rcases dR_cases x (lo := 48) (hi := 57) (by decide) (by decide) with ⟨c, -⟩ | ⟨-, c, -⟩ | ⟨b, h1, h2, e, -⟩
  · exact absurd c hx.1
  · exact absurd c hx.2
  · refine ⟨?_, b, h1, h2, e⟩
    unfold dgS
    rw [e, nI_cl (by omega)]
    split <;> omega
/-- the word of a token -/
def wdF (g : Nat → Int32) (t : Tk) : Option (List Int32) := if t.1 = 1 then some ((List.range (t.2.2.1 - t.2.1)).map fun j => g (t.2.1 + j)) else none
theorem wd_iff {n : Nat} {f : Nat → Int32} {w : List Int32} : (List.range n).map f = w ↔ n = w.length ∧ ∀ j, j < n → f j = w.getD j 0 := by
  constructor
  · intro h
    subst h
    refine ⟨by simp, fun j hj => ?_⟩
    rw [List.getD_eq_getElem?_getD, List.getElem?_map, List.getElem?_range hj]
    rfl
  · rintro ⟨h1, h2⟩
    subst h1
    apply List.ext_getElem?
    intro j
    rw [List.getElem?_map]
    by_cases c : j < w.length
    · rw [List.getElem?_range c, List.getElem?_eq_getElem c]
      have := h2 j c
      rw [List.getD_eq_getElem?_getD, List.getElem?_eq_getElem c] at this
      exact congrArg some this
    · rw [List.getElem?_eq_none (by simp; omega), List.getElem?_eq_none (by omega)]
      rfl
def tX (z : List sE) (tb : Nat → Int32) (a b c d e : Int32) : List sE := .inr (.inr (2, [.ref 1, .int a, .int b, .int c, .int d, .int e])) :: .inl (120, tb) :: z
section TC
variable {z : List sE} {h : List sE} {tb : Nat → Int32} {a : Nat} {x b c d e a' b' c' d' e' : Int32} {Q : Option Value → List sE → Prop}
theorem tX_0 {a : Int32} : (tX z tb a b c d e)[0]? = some (.inr (.inr (2, [.ref 1, .int a, .int b, .int c, .int d, .int e]))) := rfl
theorem tX_1 {a : Int32} : (tX z tb a b c d e)[1]? = some (.inl (120, tb)) := rfl
theorem tX_p {a : Int32} : (tX z tb a b c d e).set 0 (.inr (.inr (2, [.ref 1, .int a', .int b', .int c', .int d', .int e']))) = tX z tb a' b' c' d' e' := rfl
theorem c_T_isLetter (ht : isL x = true → Q (some (.int (nI 1))) h) (hf : isL x = false → Q (some (.int (nI 0))) h) : V m_T_isLetter 0 [.int x] [] h Q := by
  by_cases c1 : x < nI 97
  · repeat ((first | refine x_T_isLetter_0 ?_ | refine x_T_isLetter_6 ?_ | refine x_T_isLetter_12 ?_ | refine x_T_isLetter_16 ?_ | refine x_T_isLetter_17 ?_); simp (disch := omega) only [zs_iconst, zs_bipush, zs_sipush, zs_ldc, zs_ldc_w, zs_lconst, zs_ldc2_w, zs_iload_n, zs_iload, zs_lload_n, zs_lload, zs_aload_n, zs_istore_n, zs_istore, zs_lstore_n, zs_lstore, zs_iinc, zs_iadd, zs_isub, zs_imul, zs_iand, zs_ior, zs_ixor, zs_ishl, zs_ishr, zs_iushr, zs_idiv, zs_irem, zs_ineg, zs_lmul, zs_ldiv, zs_lrem, zs_lcmp, zs_i2l, zs_i2b, zs_i2s, zs_i2c, zs_dup_i, zs_dup_r, zs_dup2, zs_pop, zs_getfield, zs_putfield, zs_iaload, zs_iastore, zs_aaload, zwp_c, zwp_n, zt1_i, zt2_i, zri_i, zrz_i, zrl_i, zrv_i, zok_0, zok_s, nzb_0, nzb_1, vp_in_eq, nI_cl, nI_le', nI_lt', nI_eq', nI_ne0', nI_add, pk_mul, optl_s, optl_n, List.getElem?_cons_zero, List.getElem?_cons_succ, List.set_cons_zero, List.set_cons_succ, List.cons_append, List.nil_append, List.append_nil, List.length_cons, List.length_nil, nbeq_r, nblt_r, true_and, and_true, not_true_eq_false, not_false_eq_true, true_implies, false_implies, implies_true, forall_const, Nat.reduceAdd, Nat.reduceMul, Nat.reduceSub, Nat.reduceLeDiff, Nat.reduceLT, Nat.reduceEqDiff, Nat.add_zero, Nat.zero_add, eq_self, ne_eq, List.map_cons, List.map_nil, kI_andn, kI_and, kI_or, kI_xor, kI_shl, kI_shr, kI_ushr, kI_rem, kI_div, kI_sub, kI_m1, dlt_t, dlt_f, dle_t, dle_f, deq_t, deq_f, tX_0, tX_1, tX_p, c1])
    exact hf (by unfold isL; simp [c1])
  · by_cases c2 : nI 122 < x
    · repeat ((first | refine x_T_isLetter_0 ?_ | refine x_T_isLetter_6 ?_ | refine x_T_isLetter_12 ?_ | refine x_T_isLetter_16 ?_ | refine x_T_isLetter_17 ?_); simp (disch := omega) only [zs_iconst, zs_bipush, zs_sipush, zs_ldc, zs_ldc_w, zs_lconst, zs_ldc2_w, zs_iload_n, zs_iload, zs_lload_n, zs_lload, zs_aload_n, zs_istore_n, zs_istore, zs_lstore_n, zs_lstore, zs_iinc, zs_iadd, zs_isub, zs_imul, zs_iand, zs_ior, zs_ixor, zs_ishl, zs_ishr, zs_iushr, zs_idiv, zs_irem, zs_ineg, zs_lmul, zs_ldiv, zs_lrem, zs_lcmp, zs_i2l, zs_i2b, zs_i2s, zs_i2c, zs_dup_i, zs_dup_r, zs_dup2, zs_pop, zs_getfield, zs_putfield, zs_iaload, zs_iastore, zs_aaload, zwp_c, zwp_n, zt1_i, zt2_i, zri_i, zrz_i, zrl_i, zrv_i, zok_0, zok_s, nzb_0, nzb_1, vp_in_eq, nI_cl, nI_le', nI_lt', nI_eq', nI_ne0', nI_add, pk_mul, optl_s, optl_n, List.getElem?_cons_zero, List.getElem?_cons_succ, List.set_cons_zero, List.set_cons_succ, List.cons_append, List.nil_append, List.append_nil, List.length_cons, List.length_nil, nbeq_r, nblt_r, true_and, and_true, not_true_eq_false, not_false_eq_true, true_implies, false_implies, implies_true, forall_const, Nat.reduceAdd, Nat.reduceMul, Nat.reduceSub, Nat.reduceLeDiff, Nat.reduceLT, Nat.reduceEqDiff, Nat.add_zero, Nat.zero_add, eq_self, ne_eq, List.map_cons, List.map_nil, kI_andn, kI_and, kI_or, kI_xor, kI_shl, kI_shr, kI_ushr, kI_rem, kI_div, kI_sub, kI_m1, dlt_t, dlt_f, dle_t, dle_f, deq_t, deq_f, tX_0, tX_1, tX_p, c1, c2])
      exact hf (by unfold isL; simp [c2])
    · repeat ((first | refine x_T_isLetter_0 ?_ | refine x_T_isLetter_6 ?_ | refine x_T_isLetter_12 ?_ | refine x_T_isLetter_16 ?_ | refine x_T_isLetter_17 ?_); simp (disch := omega) only [zs_iconst, zs_bipush, zs_sipush, zs_ldc, zs_ldc_w, zs_lconst, zs_ldc2_w, zs_iload_n, zs_iload, zs_lload_n, zs_lload, zs_aload_n, zs_istore_n, zs_istore, zs_lstore_n, zs_lstore, zs_iinc, zs_iadd, zs_isub, zs_imul, zs_iand, zs_ior, zs_ixor, zs_ishl, zs_ishr, zs_iushr, zs_idiv, zs_irem, zs_ineg, zs_lmul, zs_ldiv, zs_lrem, zs_lcmp, zs_i2l, zs_i2b, zs_i2s, zs_i2c, zs_dup_i, zs_dup_r, zs_dup2, zs_pop, zs_getfield, zs_putfield, zs_iaload, zs_iastore, zs_aaload, zwp_c, zwp_n, zt1_i, zt2_i, zri_i, zrz_i, zrl_i, zrv_i, zok_0, zok_s, nzb_0, nzb_1, vp_in_eq, nI_cl, nI_le', nI_lt', nI_eq', nI_ne0', nI_add, pk_mul, optl_s, optl_n, List.getElem?_cons_zero, List.getElem?_cons_succ, List.set_cons_zero, List.set_cons_succ, List.cons_append, List.nil_append, List.append_nil, List.length_cons, List.length_nil, nbeq_r, nblt_r, true_and, and_true, not_true_eq_false, not_false_eq_true, true_implies, false_implies, implies_true, forall_const, Nat.reduceAdd, Nat.reduceMul, Nat.reduceSub, Nat.reduceLeDiff, Nat.reduceLT, Nat.reduceEqDiff, Nat.add_zero, Nat.zero_add, eq_self, ne_eq, List.map_cons, List.map_nil, kI_andn, kI_and, kI_or, kI_xor, kI_shl, kI_shr, kI_ushr, kI_rem, kI_div, kI_sub, kI_m1, dlt_t, dlt_f, dle_t, dle_f, deq_t, deq_f, tX_0, tX_1, tX_p, c1, c2])
      exact ht (by unfold isL; simp [c1, c2])
theorem c_T_isDigit (ht : isD x = true → Q (some (.int (nI 1))) h) (hf : isD x = false → Q (some (.int (nI 0))) h) : V m_T_isDigit 0 [.int x] [] h Q := by
  by_cases c1 : x < nI 48
  · repeat ((first | refine x_T_isDigit_0 ?_ | refine x_T_isDigit_6 ?_ | refine x_T_isDigit_12 ?_ | refine x_T_isDigit_16 ?_ | refine x_T_isDigit_17 ?_); simp (disch := omega) only [zs_iconst, zs_bipush, zs_sipush, zs_ldc, zs_ldc_w, zs_lconst, zs_ldc2_w, zs_iload_n, zs_iload, zs_lload_n, zs_lload, zs_aload_n, zs_istore_n, zs_istore, zs_lstore_n, zs_lstore, zs_iinc, zs_iadd, zs_isub, zs_imul, zs_iand, zs_ior, zs_ixor, zs_ishl, zs_ishr, zs_iushr, zs_idiv, zs_irem, zs_ineg, zs_lmul, zs_ldiv, zs_lrem, zs_lcmp, zs_i2l, zs_i2b, zs_i2s, zs_i2c, zs_dup_i, zs_dup_r, zs_dup2, zs_pop, zs_getfield, zs_putfield, zs_iaload, zs_iastore, zs_aaload, zwp_c, zwp_n, zt1_i, zt2_i, zri_i, zrz_i, zrl_i, zrv_i, zok_0, zok_s, nzb_0, nzb_1, vp_in_eq, nI_cl, nI_le', nI_lt', nI_eq', nI_ne0', nI_add, pk_mul, optl_s, optl_n, List.getElem?_cons_zero, List.getElem?_cons_succ, List.set_cons_zero, List.set_cons_succ, List.cons_append, List.nil_append, List.append_nil, List.length_cons, List.length_nil, nbeq_r, nblt_r, true_and, and_true, not_true_eq_false, not_false_eq_true, true_implies, false_implies, implies_true, forall_const, Nat.reduceAdd, Nat.reduceMul, Nat.reduceSub, Nat.reduceLeDiff, Nat.reduceLT, Nat.reduceEqDiff, Nat.add_zero, Nat.zero_add, eq_self, ne_eq, List.map_cons, List.map_nil, kI_andn, kI_and, kI_or, kI_xor, kI_shl, kI_shr, kI_ushr, kI_rem, kI_div, kI_sub, kI_m1, dlt_t, dlt_f, dle_t, dle_f, deq_t, deq_f, tX_0, tX_1, tX_p, c1])
    exact hf (by unfold isD; simp [c1])
  · by_cases c2 : nI 57 < x
    · repeat ((first | refine x_T_isDigit_0 ?_ | refine x_T_isDigit_6 ?_ | refine x_T_isDigit_12 ?_ | refine x_T_isDigit_16 ?_ | refine x_T_isDigit_17 ?_); simp (disch := omega) only [zs_iconst, zs_bipush, zs_sipush, zs_ldc, zs_ldc_w, zs_lconst, zs_ldc2_w, zs_iload_n, zs_iload, zs_lload_n, zs_lload, zs_aload_n, zs_istore_n, zs_istore, zs_lstore_n, zs_lstore, zs_iinc, zs_iadd, zs_isub, zs_imul, zs_iand, zs_ior, zs_ixor, zs_ishl, zs_ishr, zs_iushr, zs_idiv, zs_irem, zs_ineg, zs_lmul, zs_ldiv, zs_lrem, zs_lcmp, zs_i2l, zs_i2b, zs_i2s, zs_i2c, zs_dup_i, zs_dup_r, zs_dup2, zs_pop, zs_getfield, zs_putfield, zs_iaload, zs_iastore, zs_aaload, zwp_c, zwp_n, zt1_i, zt2_i, zri_i, zrz_i, zrl_i, zrv_i, zok_0, zok_s, nzb_0, nzb_1, vp_in_eq, nI_cl, nI_le', nI_lt', nI_eq', nI_ne0', nI_add, pk_mul, optl_s, optl_n, List.getElem?_cons_zero, List.getElem?_cons_succ, List.set_cons_zero, List.set_cons_succ, List.cons_append, List.nil_append, List.append_nil, List.length_cons, List.length_nil, nbeq_r, nblt_r, true_and, and_true, not_true_eq_false, not_false_eq_true, true_implies, false_implies, implies_true, forall_const, Nat.reduceAdd, Nat.reduceMul, Nat.reduceSub, Nat.reduceLeDiff, Nat.reduceLT, Nat.reduceEqDiff, Nat.add_zero, Nat.zero_add, eq_self, ne_eq, List.map_cons, List.map_nil, kI_andn, kI_and, kI_or, kI_xor, kI_shl, kI_shr, kI_ushr, kI_rem, kI_div, kI_sub, kI_m1, dlt_t, dlt_f, dle_t, dle_f, deq_t, deq_f, tX_0, tX_1, tX_p, c1, c2])
      exact hf (by unfold isD; simp [c2])
    · repeat ((first | refine x_T_isDigit_0 ?_ | refine x_T_isDigit_6 ?_ | refine x_T_isDigit_12 ?_ | refine x_T_isDigit_16 ?_ | refine x_T_isDigit_17 ?_); simp (disch := omega) only [zs_iconst, zs_bipush, zs_sipush, zs_ldc, zs_ldc_w, zs_lconst, zs_ldc2_w, zs_iload_n, zs_iload, zs_lload_n, zs_lload, zs_aload_n, zs_istore_n, zs_istore, zs_lstore_n, zs_lstore, zs_iinc, zs_iadd, zs_isub, zs_imul, zs_iand, zs_ior, zs_ixor, zs_ishl, zs_ishr, zs_iushr, zs_idiv, zs_irem, zs_ineg, zs_lmul, zs_ldiv, zs_lrem, zs_lcmp, zs_i2l, zs_i2b, zs_i2s, zs_i2c, zs_dup_i, zs_dup_r, zs_dup2, zs_pop, zs_getfield, zs_putfield, zs_iaload, zs_iastore, zs_aaload, zwp_c, zwp_n, zt1_i, zt2_i, zri_i, zrz_i, zrl_i, zrv_i, zok_0, zok_s, nzb_0, nzb_1, vp_in_eq, nI_cl, nI_le', nI_lt', nI_eq', nI_ne0', nI_add, pk_mul, optl_s, optl_n, List.getElem?_cons_zero, List.getElem?_cons_succ, List.set_cons_zero, List.set_cons_succ, List.cons_append, List.nil_append, List.append_nil, List.length_cons, List.length_nil, nbeq_r, nblt_r, true_and, and_true, not_true_eq_false, not_false_eq_true, true_implies, false_implies, implies_true, forall_const, Nat.reduceAdd, Nat.reduceMul, Nat.reduceSub, Nat.reduceLeDiff, Nat.reduceLT, Nat.reduceEqDiff, Nat.add_zero, Nat.zero_add, eq_self, ne_eq, List.map_cons, List.map_nil, kI_andn, kI_and, kI_or, kI_xor, kI_shl, kI_shr, kI_ushr, kI_rem, kI_div, kI_sub, kI_m1, dlt_t, dlt_f, dle_t, dle_f, deq_t, deq_f, tX_0, tX_1, tX_p, c1, c2])
      exact ht (by unfold isD; simp [c1, c2])
theorem c_T_byteAt {i : Nat} (ha : a ≤ 120) (hi : i < 2147483648) (hq : Q (some (.int (gA tb a i))) (tX z tb (nI a) b c d e)) : V m_T_byteAt 0 [.ref 0, .int (nI i)] [] (tX z tb (nI a) b c d e) Q := by
  by_cases c' : i < a
  · rw [gA_in c'] at hq
    repeat ((first | refine x_T_byteAt_0 ?_ | refine x_T_byteAt_4 ?_ | refine x_T_byteAt_12 ?_ | refine x_T_byteAt_18 ?_ | refine x_T_byteAt_27 ?_ | refine x_T_byteAt_28 ?_); simp (disch := omega) only [zs_iconst, zs_bipush, zs_sipush, zs_ldc, zs_ldc_w, zs_lconst, zs_ldc2_w, zs_iload_n, zs_iload, zs_lload_n, zs_lload, zs_aload_n, zs_istore_n, zs_istore, zs_lstore_n, zs_lstore, zs_iinc, zs_iadd, zs_isub, zs_imul, zs_iand, zs_ior, zs_ixor, zs_ishl, zs_ishr, zs_iushr, zs_idiv, zs_irem, zs_ineg, zs_lmul, zs_ldiv, zs_lrem, zs_lcmp, zs_i2l, zs_i2b, zs_i2s, zs_i2c, zs_dup_i, zs_dup_r, zs_dup2, zs_pop, zs_getfield, zs_putfield, zs_iaload, zs_iastore, zs_aaload, zwp_c, zwp_n, zt1_i, zt2_i, zri_i, zrz_i, zrl_i, zrv_i, zok_0, zok_s, nzb_0, nzb_1, vp_in_eq, nI_cl, nI_le', nI_lt', nI_eq', nI_ne0', nI_add, pk_mul, optl_s, optl_n, List.getElem?_cons_zero, List.getElem?_cons_succ, List.set_cons_zero, List.set_cons_succ, List.cons_append, List.nil_append, List.append_nil, List.length_cons, List.length_nil, nbeq_r, nblt_r, true_and, and_true, not_true_eq_false, not_false_eq_true, true_implies, false_implies, implies_true, forall_const, Nat.reduceAdd, Nat.reduceMul, Nat.reduceSub, Nat.reduceLeDiff, Nat.reduceLT, Nat.reduceEqDiff, Nat.add_zero, Nat.zero_add, eq_self, ne_eq, List.map_cons, List.map_nil, kI_andn, kI_and, kI_or, kI_xor, kI_shl, kI_shr, kI_ushr, kI_rem, kI_div, kI_sub, kI_m1, dlt_t, dlt_f, dle_t, dle_f, deq_t, deq_f, tX_0, tX_1, tX_p])
    exact hq
  · rw [gA_out (by omega)] at hq
    repeat ((first | refine x_T_byteAt_0 ?_ | refine x_T_byteAt_4 ?_ | refine x_T_byteAt_12 ?_ | refine x_T_byteAt_18 ?_ | refine x_T_byteAt_27 ?_ | refine x_T_byteAt_28 ?_); simp (disch := omega) only [zs_iconst, zs_bipush, zs_sipush, zs_ldc, zs_ldc_w, zs_lconst, zs_ldc2_w, zs_iload_n, zs_iload, zs_lload_n, zs_lload, zs_aload_n, zs_istore_n, zs_istore, zs_lstore_n, zs_lstore, zs_iinc, zs_iadd, zs_isub, zs_imul, zs_iand, zs_ior, zs_ixor, zs_ishl, zs_ishr, zs_iushr, zs_idiv, zs_irem, zs_ineg, zs_lmul, zs_ldiv, zs_lrem, zs_lcmp, zs_i2l, zs_i2b, zs_i2s, zs_i2c, zs_dup_i, zs_dup_r, zs_dup2, zs_pop, zs_getfield, zs_putfield, zs_iaload, zs_iastore, zs_aaload, zwp_c, zwp_n, zt1_i, zt2_i, zri_i, zrz_i, zrl_i, zrv_i, zok_0, zok_s, nzb_0, nzb_1, vp_in_eq, nI_cl, nI_le', nI_lt', nI_eq', nI_ne0', nI_add, pk_mul, optl_s, optl_n, List.getElem?_cons_zero, List.getElem?_cons_succ, List.set_cons_zero, List.set_cons_succ, List.cons_append, List.nil_append, List.append_nil, List.length_cons, List.length_nil, nbeq_r, nblt_r, true_and, and_true, not_true_eq_false, not_false_eq_true, true_implies, false_implies, implies_true, forall_const, Nat.reduceAdd, Nat.reduceMul, Nat.reduceSub, Nat.reduceLeDiff, Nat.reduceLT, Nat.reduceEqDiff, Nat.add_zero, Nat.zero_add, eq_self, ne_eq, List.map_cons, List.map_nil, kI_andn, kI_and, kI_or, kI_xor, kI_shl, kI_shr, kI_ushr, kI_rem, kI_div, kI_sub, kI_m1, dlt_t, dlt_f, dle_t, dle_f, deq_t, deq_f, tX_0, tX_1, tX_p])
    exact hq
theorem c_T_readDigits {p : Nat} (ho : okT tb a) (hp : p ≤ 121) (hq : Q none (tX z tb (nI a) b c (nI (rnF isD (gA tb a) (121 - p) p)) (nI (capV (dgF (gA tb a) (121 - p) p 0))))) : V m_T_readDigits 0 [.ref 0] [] (tX z tb (nI a) b c (nI p) e) Q := by
  have ha := ho.1
  have loop : ∀ f i v, i + f = 121 → v ≤ 999999 → Q none (tX z tb (nI a) b c (nI (rnF isD (gA tb a) f i)) (nI (capV (dgF (gA tb a) f i v)))) → V m_T_readDigits 5 [.ref 0] [] (tX z tb (nI a) b c (nI i) (nI (capV v))) Q := by
    intro f
    induction f with
    | zero =>
      intro i v hi hv k
      repeat ((first | refine x_T_readDigits_0 ?_ | refine x_T_readDigits_5 ?_ | refine x_T_readDigits_16 ?_ | refine x_T_readDigits_27 ?_ | refine x_T_readDigits_30 ?_ | refine x_T_readDigits_46 ?_ | refine x_T_readDigits_55 ?_ | refine x_T_readDigits_71 ?_); simp (disch := omega) only [zs_iconst, zs_bipush, zs_sipush, zs_ldc, zs_ldc_w, zs_lconst, zs_ldc2_w, zs_iload_n, zs_iload, zs_lload_n, zs_lload, zs_aload_n, zs_istore_n, zs_istore, zs_lstore_n, zs_lstore, zs_iinc, zs_iadd, zs_isub, zs_imul, zs_iand, zs_ior, zs_ixor, zs_ishl, zs_ishr, zs_iushr, zs_idiv, zs_irem, zs_ineg, zs_lmul, zs_ldiv, zs_lrem, zs_lcmp, zs_i2l, zs_i2b, zs_i2s, zs_i2c, zs_dup_i, zs_dup_r, zs_dup2, zs_pop, zs_getfield, zs_putfield, zs_iaload, zs_iastore, zs_aaload, zwp_c, zwp_n, zt1_i, zt2_i, zri_i, zrz_i, zrl_i, zrv_i, zok_0, zok_s, nzb_0, nzb_1, vp_in_eq, nI_cl, nI_le', nI_lt', nI_eq', nI_ne0', nI_add, pk_mul, optl_s, optl_n, List.getElem?_cons_zero, List.getElem?_cons_succ, List.set_cons_zero, List.set_cons_succ, List.cons_append, List.nil_append, List.append_nil, List.length_cons, List.length_nil, nbeq_r, nblt_r, true_and, and_true, not_true_eq_false, not_false_eq_true, true_implies, false_implies, implies_true, forall_const, Nat.reduceAdd, Nat.reduceMul, Nat.reduceSub, Nat.reduceLeDiff, Nat.reduceLT, Nat.reduceEqDiff, Nat.add_zero, Nat.zero_add, eq_self, ne_eq, List.map_cons, List.map_nil, kI_andn, kI_and, kI_or, kI_xor, kI_shl, kI_shr, kI_ushr, kI_rem, kI_div, kI_sub, kI_m1, dlt_t, dlt_f, dle_t, dle_f, deq_t, deq_f, tX_0, tX_1, tX_p])
      exact k
    | succ f ih =>
      intro i v hi hv k
      by_cases c1 : i < a
      · refine x_T_readDigits_5 ?_; simp (disch := omega) only [zs_iconst, zs_bipush, zs_sipush, zs_ldc, zs_ldc_w, zs_lconst, zs_ldc2_w, zs_iload_n, zs_iload, zs_lload_n, zs_lload, zs_aload_n, zs_istore_n, zs_istore, zs_lstore_n, zs_lstore, zs_iinc, zs_iadd, zs_isub, zs_imul, zs_iand, zs_ior, zs_ixor, zs_ishl, zs_ishr, zs_iushr, zs_idiv, zs_irem, zs_ineg, zs_lmul, zs_ldiv, zs_lrem, zs_lcmp, zs_i2l, zs_i2b, zs_i2s, zs_i2c, zs_dup_i, zs_dup_r, zs_dup2, zs_pop, zs_getfield, zs_putfield, zs_iaload, zs_iastore, zs_aaload, zwp_c, zwp_n, zt1_i, zt2_i, zri_i, zrz_i, zrl_i, zrv_i, zok_0, zok_s, nzb_0, nzb_1, vp_in_eq, nI_cl, nI_le', nI_lt', nI_eq', nI_ne0', nI_add, pk_mul, optl_s, optl_n, List.getElem?_cons_zero, List.getElem?_cons_succ, List.set_cons_zero, List.set_cons_succ, List.cons_append, List.nil_append, List.append_nil, List.length_cons, List.length_nil, nbeq_r, nblt_r, true_and, and_true, not_true_eq_false, not_false_eq_true, true_implies, false_implies, implies_true, forall_const, Nat.reduceAdd, Nat.reduceMul, Nat.reduceSub, Nat.reduceLeDiff, Nat.reduceLT, Nat.reduceEqDiff, Nat.add_zero, Nat.zero_add, eq_self, ne_eq, List.map_cons, List.map_nil, kI_andn, kI_and, kI_or, kI_xor, kI_shl, kI_shr, kI_ushr, kI_rem, kI_div, kI_sub, kI_m1, dlt_t, dlt_f, dle_t, dle_f, deq_t, deq_f, tX_0, tX_1, tX_p]
        repeat ((first | refine x_T_readDigits_0 ?_ | refine x_T_readDigits_16 ?_ | refine x_T_readDigits_27 ?_ | refine x_T_readDigits_30 ?_ | refine x_T_readDigits_46 ?_ | refine x_T_readDigits_55 ?_ | refine x_T_readDigits_71 ?_); simp (disch := omega) only [zs_iconst, zs_bipush, zs_sipush, zs_ldc, zs_ldc_w, zs_lconst, zs_ldc2_w, zs_iload_n, zs_iload, zs_lload_n, zs_lload, zs_aload_n, zs_istore_n, zs_istore, zs_lstore_n, zs_lstore, zs_iinc, zs_iadd, zs_isub, zs_imul, zs_iand, zs_ior, zs_ixor, zs_ishl, zs_ishr, zs_iushr, zs_idiv, zs_irem, zs_ineg, zs_lmul, zs_ldiv, zs_lrem, zs_lcmp, zs_i2l, zs_i2b, zs_i2s, zs_i2c, zs_dup_i, zs_dup_r, zs_dup2, zs_pop, zs_getfield, zs_putfield, zs_iaload, zs_iastore, zs_aaload, zwp_c, zwp_n, zt1_i, zt2_i, zri_i, zrz_i, zrl_i, zrv_i, zok_0, zok_s, nzb_0, nzb_1, vp_in_eq, nI_cl, nI_le', nI_lt', nI_eq', nI_ne0', nI_add, pk_mul, optl_s, optl_n, List.getElem?_cons_zero, List.getElem?_cons_succ, List.set_cons_zero, List.set_cons_succ, List.cons_append, List.nil_append, List.append_nil, List.length_cons, List.length_nil, nbeq_r, nblt_r, true_and, and_true, not_true_eq_false, not_false_eq_true, true_implies, false_implies, implies_true, forall_const, Nat.reduceAdd, Nat.reduceMul, Nat.reduceSub, Nat.reduceLeDiff, Nat.reduceLT, Nat.reduceEqDiff, Nat.add_zero, Nat.zero_add, eq_self, ne_eq, List.map_cons, List.map_nil, kI_andn, kI_and, kI_or, kI_xor, kI_shl, kI_shr, kI_ushr, kI_rem, kI_div, kI_sub, kI_m1, dlt_t, dlt_f, dle_t, dle_f, deq_t, deq_f, tX_0, tX_1, tX_p])
        refine y_T_readDigits_21 tX_0 (c_T_byteAt ha (by omega) ?_)
        simp (disch := omega) only [zs_iconst, zs_bipush, zs_sipush, zs_ldc, zs_ldc_w, zs_lconst, zs_ldc2_w, zs_iload_n, zs_iload, zs_lload_n, zs_lload, zs_aload_n, zs_istore_n, zs_istore, zs_lstore_n, zs_lstore, zs_iinc, zs_iadd, zs_isub, zs_imul, zs_iand, zs_ior, zs_ixor, zs_ishl, zs_ishr, zs_iushr, zs_idiv, zs_irem, zs_ineg, zs_lmul, zs_ldiv, zs_lrem, zs_lcmp, zs_i2l, zs_i2b, zs_i2s, zs_i2c, zs_dup_i, zs_dup_r, zs_dup2, zs_pop, zs_getfield, zs_putfield, zs_iaload, zs_iastore, zs_aaload, zwp_c, zwp_n, zt1_i, zt2_i, zri_i, zrz_i, zrl_i, zrv_i, zok_0, zok_s, nzb_0, nzb_1, vp_in_eq, nI_cl, nI_le', nI_lt', nI_eq', nI_ne0', nI_add, pk_mul, optl_s, optl_n, List.getElem?_cons_zero, List.getElem?_cons_succ, List.set_cons_zero, List.set_cons_succ, List.cons_append, List.nil_append, List.append_nil, List.length_cons, List.length_nil, nbeq_r, nblt_r, true_and, and_true, not_true_eq_false, not_false_eq_true, true_implies, false_implies, implies_true, forall_const, Nat.reduceAdd, Nat.reduceMul, Nat.reduceSub, Nat.reduceLeDiff, Nat.reduceLT, Nat.reduceEqDiff, Nat.add_zero, Nat.zero_add, eq_self, ne_eq, List.map_cons, List.map_nil, kI_andn, kI_and, kI_or, kI_xor, kI_shl, kI_shr, kI_ushr, kI_rem, kI_div, kI_sub, kI_m1, dlt_t, dlt_f, dle_t, dle_f, deq_t, deq_f, tX_0, tX_1, tX_p]
        refine y_T_readDigits_24 (c_T_isDigit (fun c2 => ?_) (fun c2 => ?_))
        · obtain ⟨hv2, bt, h1, h2, e1⟩ := dgS_le hv c2
          unfold rnF dgF at k
          rw [if_pos c2, if_pos c2] at k
          have k2 := ih (i + 1) (dgS v (gA tb a i)) (by omega) hv2 k
          have hw : capV v ≤ 100000 := by unfold capV; split <;> omega
          have e2 : (if nI 100000 < nI (10 * capV v + bt - 48) then nI 100000 else nI (10 * capV v + bt - 48)) = nI (capV (dgS v (gA tb a i))) := by
            have e3 : capV (dgS v (gA tb a i)) = if 100000 < 10 * capV v + bt - 48 then 100000 else 10 * capV v + bt - 48 := by
              rw [e1]
              unfold dgS capV
              rw [nI_cl (by omega)]
              repeat' split
              all_goals omega
            rw [e3]
            by_cases c9 : 100000 < 10 * capV v + bt - 48
            · rw [if_pos ((nI_ltI (by omega) (by omega)).mpr c9), if_pos c9]
            · rw [if_neg (mt (nI_ltI (by omega) (by omega)).mp c9), if_neg c9]
          generalize capV v = w at hw e2
          simp (disch := omega) only [zs_iconst, zs_bipush, zs_sipush, zs_ldc, zs_ldc_w, zs_lconst, zs_ldc2_w, zs_iload_n, zs_iload, zs_lload_n, zs_lload, zs_aload_n, zs_istore_n, zs_istore, zs_lstore_n, zs_lstore, zs_iinc, zs_iadd, zs_isub, zs_imul, zs_iand, zs_ior, zs_ixor, zs_ishl, zs_ishr, zs_iushr, zs_idiv, zs_irem, zs_ineg, zs_lmul, zs_ldiv, zs_lrem, zs_lcmp, zs_i2l, zs_i2b, zs_i2s, zs_i2c, zs_dup_i, zs_dup_r, zs_dup2, zs_pop, zs_getfield, zs_putfield, zs_iaload, zs_iastore, zs_aaload, zwp_c, zwp_n, zt1_i, zt2_i, zri_i, zrz_i, zrl_i, zrv_i, zok_0, zok_s, nzb_0, nzb_1, vp_in_eq, nI_cl, nI_le', nI_lt', nI_eq', nI_ne0', nI_add, pk_mul, optl_s, optl_n, List.getElem?_cons_zero, List.getElem?_cons_succ, List.set_cons_zero, List.set_cons_succ, List.cons_append, List.nil_append, List.append_nil, List.length_cons, List.length_nil, nbeq_r, nblt_r, true_and, and_true, not_true_eq_false, not_false_eq_true, true_implies, false_implies, implies_true, forall_const, Nat.reduceAdd, Nat.reduceMul, Nat.reduceSub, Nat.reduceLeDiff, Nat.reduceLT, Nat.reduceEqDiff, Nat.add_zero, Nat.zero_add, eq_self, ne_eq, List.map_cons, List.map_nil, kI_andn, kI_and, kI_or, kI_xor, kI_shl, kI_shr, kI_ushr, kI_rem, kI_div, kI_sub, kI_m1, dlt_t, dlt_f, dle_t, dle_f, deq_t, deq_f, tX_0, tX_1, tX_p]
          repeat ((first | refine x_T_readDigits_0 ?_ | refine x_T_readDigits_16 ?_ | refine x_T_readDigits_27 ?_ | refine x_T_readDigits_30 ?_ | refine x_T_readDigits_46 ?_ | refine x_T_readDigits_55 ?_ | refine x_T_readDigits_71 ?_); simp (disch := omega) only [zs_iconst, zs_bipush, zs_sipush, zs_ldc, zs_ldc_w, zs_lconst, zs_ldc2_w, zs_iload_n, zs_iload, zs_lload_n, zs_lload, zs_aload_n, zs_istore_n, zs_istore, zs_lstore_n, zs_lstore, zs_iinc, zs_iadd, zs_isub, zs_imul, zs_iand, zs_ior, zs_ixor, zs_ishl, zs_ishr, zs_iushr, zs_idiv, zs_irem, zs_ineg, zs_lmul, zs_ldiv, zs_lrem, zs_lcmp, zs_i2l, zs_i2b, zs_i2s, zs_i2c, zs_dup_i, zs_dup_r, zs_dup2, zs_pop, zs_getfield, zs_putfield, zs_iaload, zs_iastore, zs_aaload, zwp_c, zwp_n, zt1_i, zt2_i, zri_i, zrz_i, zrl_i, zrv_i, zok_0, zok_s, nzb_0, nzb_1, vp_in_eq, nI_cl, nI_le', nI_lt', nI_eq', nI_ne0', nI_add, pk_mul, optl_s, optl_n, List.getElem?_cons_zero, List.getElem?_cons_succ, List.set_cons_zero, List.set_cons_succ, List.cons_append, List.nil_append, List.append_nil, List.length_cons, List.length_nil, nbeq_r, nblt_r, true_and, and_true, not_true_eq_false, not_false_eq_true, true_implies, false_implies, implies_true, forall_const, Nat.reduceAdd, Nat.reduceMul, Nat.reduceSub, Nat.reduceLeDiff, Nat.reduceLT, Nat.reduceEqDiff, Nat.add_zero, Nat.zero_add, eq_self, ne_eq, List.map_cons, List.map_nil, kI_andn, kI_and, kI_or, kI_xor, kI_shl, kI_shr, kI_ushr, kI_rem, kI_div, kI_sub, kI_m1, dlt_t, dlt_f, dle_t, dle_f, deq_t, deq_f, tX_0, tX_1, tX_p])
          refine y_T_readDigits_43 tX_0 (c_T_byteAt ha (by omega) ?_)
          rw [e1] at e2 k2 ⊢
          simp (disch := omega) only [zs_iconst, zs_bipush, zs_sipush, zs_ldc, zs_ldc_w, zs_lconst, zs_ldc2_w, zs_iload_n, zs_iload, zs_lload_n, zs_lload, zs_aload_n, zs_istore_n, zs_istore, zs_lstore_n, zs_lstore, zs_iinc, zs_iadd, zs_isub, zs_imul, zs_iand, zs_ior, zs_ixor, zs_ishl, zs_ishr, zs_iushr, zs_idiv, zs_irem, zs_ineg, zs_lmul, zs_ldiv, zs_lrem, zs_lcmp, zs_i2l, zs_i2b, zs_i2s, zs_i2c, zs_dup_i, zs_dup_r, zs_dup2, zs_pop, zs_getfield, zs_putfield, zs_iaload, zs_iastore, zs_aaload, zwp_c, zwp_n, zt1_i, zt2_i, zri_i, zrz_i, zrl_i, zrv_i, zok_0, zok_s, nzb_0, nzb_1, vp_in_eq, nI_cl, nI_le', nI_lt', nI_eq', nI_ne0', nI_add, pk_mul, optl_s, optl_n, List.getElem?_cons_zero, List.getElem?_cons_succ, List.set_cons_zero, List.set_cons_succ, List.cons_append, List.nil_append, List.append_nil, List.length_cons, List.length_nil, nbeq_r, nblt_r, true_and, and_true, not_true_eq_false, not_false_eq_true, true_implies, false_implies, implies_true, forall_const, Nat.reduceAdd, Nat.reduceMul, Nat.reduceSub, Nat.reduceLeDiff, Nat.reduceLT, Nat.reduceEqDiff, Nat.add_zero, Nat.zero_add, eq_self, ne_eq, List.map_cons, List.map_nil, kI_andn, kI_and, kI_or, kI_xor, kI_shl, kI_shr, kI_ushr, kI_rem, kI_div, kI_sub, kI_m1, dlt_t, dlt_f, dle_t, dle_f, deq_t, deq_f, tX_0, tX_1, tX_p]
          repeat ((first | refine x_T_readDigits_0 ?_ | refine x_T_readDigits_16 ?_ | refine x_T_readDigits_27 ?_ | refine x_T_readDigits_30 ?_ | refine x_T_readDigits_46 ?_ | refine x_T_readDigits_55 ?_ | refine x_T_readDigits_71 ?_); simp (disch := omega) only [zs_iconst, zs_bipush, zs_sipush, zs_ldc, zs_ldc_w, zs_lconst, zs_ldc2_w, zs_iload_n, zs_iload, zs_lload_n, zs_lload, zs_aload_n, zs_istore_n, zs_istore, zs_lstore_n, zs_lstore, zs_iinc, zs_iadd, zs_isub, zs_imul, zs_iand, zs_ior, zs_ixor, zs_ishl, zs_ishr, zs_iushr, zs_idiv, zs_irem, zs_ineg, zs_lmul, zs_ldiv, zs_lrem, zs_lcmp, zs_i2l, zs_i2b, zs_i2s, zs_i2c, zs_dup_i, zs_dup_r, zs_dup2, zs_pop, zs_getfield, zs_putfield, zs_iaload, zs_iastore, zs_aaload, zwp_c, zwp_n, zt1_i, zt2_i, zri_i, zrz_i, zrl_i, zrv_i, zok_0, zok_s, nzb_0, nzb_1, vp_in_eq, nI_cl, nI_le', nI_lt', nI_eq', nI_ne0', nI_add, pk_mul, optl_s, optl_n, List.getElem?_cons_zero, List.getElem?_cons_succ, List.set_cons_zero, List.set_cons_succ, List.cons_append, List.nil_append, List.append_nil, List.length_cons, List.length_nil, nbeq_r, nblt_r, true_and, and_true, not_true_eq_false, not_false_eq_true, true_implies, false_implies, implies_true, forall_const, Nat.reduceAdd, Nat.reduceMul, Nat.reduceSub, Nat.reduceLeDiff, Nat.reduceLT, Nat.reduceEqDiff, Nat.add_zero, Nat.zero_add, eq_self, ne_eq, List.map_cons, List.map_nil, kI_andn, kI_and, kI_or, kI_xor, kI_shl, kI_shr, kI_ushr, kI_rem, kI_div, kI_sub, kI_m1, dlt_t, dlt_f, dle_t, dle_f, deq_t, deq_f, tX_0, tX_1, tX_p])
          refine y_T_readDigits_52 ?_
          rw [e2]
          repeat ((first | refine x_T_readDigits_0 ?_ | refine x_T_readDigits_16 ?_ | refine x_T_readDigits_27 ?_ | refine x_T_readDigits_30 ?_ | refine x_T_readDigits_46 ?_ | refine x_T_readDigits_55 ?_ | refine x_T_readDigits_71 ?_); simp (disch := omega) only [zs_iconst, zs_bipush, zs_sipush, zs_ldc, zs_ldc_w, zs_lconst, zs_ldc2_w, zs_iload_n, zs_iload, zs_lload_n, zs_lload, zs_aload_n, zs_istore_n, zs_istore, zs_lstore_n, zs_lstore, zs_iinc, zs_iadd, zs_isub, zs_imul, zs_iand, zs_ior, zs_ixor, zs_ishl, zs_ishr, zs_iushr, zs_idiv, zs_irem, zs_ineg, zs_lmul, zs_ldiv, zs_lrem, zs_lcmp, zs_i2l, zs_i2b, zs_i2s, zs_i2c, zs_dup_i, zs_dup_r, zs_dup2, zs_pop, zs_getfield, zs_putfield, zs_iaload, zs_iastore, zs_aaload, zwp_c, zwp_n, zt1_i, zt2_i, zri_i, zrz_i, zrl_i, zrv_i, zok_0, zok_s, nzb_0, nzb_1, vp_in_eq, nI_cl, nI_le', nI_lt', nI_eq', nI_ne0', nI_add, pk_mul, optl_s, optl_n, List.getElem?_cons_zero, List.getElem?_cons_succ, List.set_cons_zero, List.set_cons_succ, List.cons_append, List.nil_append, List.append_nil, List.length_cons, List.length_nil, nbeq_r, nblt_r, true_and, and_true, not_true_eq_false, not_false_eq_true, true_implies, false_implies, implies_true, forall_const, Nat.reduceAdd, Nat.reduceMul, Nat.reduceSub, Nat.reduceLeDiff, Nat.reduceLT, Nat.reduceEqDiff, Nat.add_zero, Nat.zero_add, eq_self, ne_eq, List.map_cons, List.map_nil, kI_andn, kI_and, kI_or, kI_xor, kI_shl, kI_shr, kI_ushr, kI_rem, kI_div, kI_sub, kI_m1, dlt_t, dlt_f, dle_t, dle_f, deq_t, deq_f, tX_0, tX_1, tX_p])
          exact k2
        · unfold rnF dgF at k
          rw [c2] at k
          simp (disch := omega) only [zs_iconst, zs_bipush, zs_sipush, zs_ldc, zs_ldc_w, zs_lconst, zs_ldc2_w, zs_iload_n, zs_iload, zs_lload_n, zs_lload, zs_aload_n, zs_istore_n, zs_istore, zs_lstore_n, zs_lstore, zs_iinc, zs_iadd, zs_isub, zs_imul, zs_iand, zs_ior, zs_ixor, zs_ishl, zs_ishr, zs_iushr, zs_idiv, zs_irem, zs_ineg, zs_lmul, zs_ldiv, zs_lrem, zs_lcmp, zs_i2l, zs_i2b, zs_i2s, zs_i2c, zs_dup_i, zs_dup_r, zs_dup2, zs_pop, zs_getfield, zs_putfield, zs_iaload, zs_iastore, zs_aaload, zwp_c, zwp_n, zt1_i, zt2_i, zri_i, zrz_i, zrl_i, zrv_i, zok_0, zok_s, nzb_0, nzb_1, vp_in_eq, nI_cl, nI_le', nI_lt', nI_eq', nI_ne0', nI_add, pk_mul, optl_s, optl_n, List.getElem?_cons_zero, List.getElem?_cons_succ, List.set_cons_zero, List.set_cons_succ, List.cons_append, List.nil_append, List.append_nil, List.length_cons, List.length_nil, nbeq_r, nblt_r, true_and, and_true, not_true_eq_false, not_false_eq_true, true_implies, false_implies, implies_true, forall_const, Nat.reduceAdd, Nat.reduceMul, Nat.reduceSub, Nat.reduceLeDiff, Nat.reduceLT, Nat.reduceEqDiff, Nat.add_zero, Nat.zero_add, eq_self, ne_eq, List.map_cons, List.map_nil, kI_andn, kI_and, kI_or, kI_xor, kI_shl, kI_shr, kI_ushr, kI_rem, kI_div, kI_sub, kI_m1, dlt_t, dlt_f, dle_t, dle_f, deq_t, deq_f, tX_0, tX_1, tX_p]
          repeat ((first | refine x_T_readDigits_0 ?_ | refine x_T_readDigits_16 ?_ | refine x_T_readDigits_27 ?_ | refine x_T_readDigits_30 ?_ | refine x_T_readDigits_46 ?_ | refine x_T_readDigits_55 ?_ | refine x_T_readDigits_71 ?_); simp (disch := omega) only [zs_iconst, zs_bipush, zs_sipush, zs_ldc, zs_ldc_w, zs_lconst, zs_ldc2_w, zs_iload_n, zs_iload, zs_lload_n, zs_lload, zs_aload_n, zs_istore_n, zs_istore, zs_lstore_n, zs_lstore, zs_iinc, zs_iadd, zs_isub, zs_imul, zs_iand, zs_ior, zs_ixor, zs_ishl, zs_ishr, zs_iushr, zs_idiv, zs_irem, zs_ineg, zs_lmul, zs_ldiv, zs_lrem, zs_lcmp, zs_i2l, zs_i2b, zs_i2s, zs_i2c, zs_dup_i, zs_dup_r, zs_dup2, zs_pop, zs_getfield, zs_putfield, zs_iaload, zs_iastore, zs_aaload, zwp_c, zwp_n, zt1_i, zt2_i, zri_i, zrz_i, zrl_i, zrv_i, zok_0, zok_s, nzb_0, nzb_1, vp_in_eq, nI_cl, nI_le', nI_lt', nI_eq', nI_ne0', nI_add, pk_mul, optl_s, optl_n, List.getElem?_cons_zero, List.getElem?_cons_succ, List.set_cons_zero, List.set_cons_succ, List.cons_append, List.nil_append, List.append_nil, List.length_cons, List.length_nil, nbeq_r, nblt_r, true_and, and_true, not_true_eq_false, not_false_eq_true, true_implies, false_implies, implies_true, forall_const, Nat.reduceAdd, Nat.reduceMul, Nat.reduceSub, Nat.reduceLeDiff, Nat.reduceLT, Nat.reduceEqDiff, Nat.add_zero, Nat.zero_add, eq_self, ne_eq, List.map_cons, List.map_nil, kI_andn, kI_and, kI_or, kI_xor, kI_shl, kI_shr, kI_ushr, kI_rem, kI_div, kI_sub, kI_m1, dlt_t, dlt_f, dle_t, dle_f, deq_t, deq_f, tX_0, tX_1, tX_p])
          exact k
      · have e1 : rnF isD (gA tb a) (f + 1) i = i := by
          unfold rnF
          rw [gA_out (by omega), isD_m]
          rfl
        have e2 : dgF (gA tb a) (f + 1) i v = v := by
          unfold dgF
          rw [gA_out (by omega), isD_m]
          rfl
        rw [e1, e2] at k
        repeat ((first | refine x_T_readDigits_0 ?_ | refine x_T_readDigits_5 ?_ | refine x_T_readDigits_16 ?_ | refine x_T_readDigits_27 ?_ | refine x_T_readDigits_30 ?_ | refine x_T_readDigits_46 ?_ | refine x_T_readDigits_55 ?_ | refine x_T_readDigits_71 ?_); simp (disch := omega) only [zs_iconst, zs_bipush, zs_sipush, zs_ldc, zs_ldc_w, zs_lconst, zs_ldc2_w, zs_iload_n, zs_iload, zs_lload_n, zs_lload, zs_aload_n, zs_istore_n, zs_istore, zs_lstore_n, zs_lstore, zs_iinc, zs_iadd, zs_isub, zs_imul, zs_iand, zs_ior, zs_ixor, zs_ishl, zs_ishr, zs_iushr, zs_idiv, zs_irem, zs_ineg, zs_lmul, zs_ldiv, zs_lrem, zs_lcmp, zs_i2l, zs_i2b, zs_i2s, zs_i2c, zs_dup_i, zs_dup_r, zs_dup2, zs_pop, zs_getfield, zs_putfield, zs_iaload, zs_iastore, zs_aaload, zwp_c, zwp_n, zt1_i, zt2_i, zri_i, zrz_i, zrl_i, zrv_i, zok_0, zok_s, nzb_0, nzb_1, vp_in_eq, nI_cl, nI_le', nI_lt', nI_eq', nI_ne0', nI_add, pk_mul, optl_s, optl_n, List.getElem?_cons_zero, List.getElem?_cons_succ, List.set_cons_zero, List.set_cons_succ, List.cons_append, List.nil_append, List.append_nil, List.length_cons, List.length_nil, nbeq_r, nblt_r, true_and, and_true, not_true_eq_false, not_false_eq_true, true_implies, false_implies, implies_true, forall_const, Nat.reduceAdd, Nat.reduceMul, Nat.reduceSub, Nat.reduceLeDiff, Nat.reduceLT, Nat.reduceEqDiff, Nat.add_zero, Nat.zero_add, eq_self, ne_eq, List.map_cons, List.map_nil, kI_andn, kI_and, kI_or, kI_xor, kI_shl, kI_shr, kI_ushr, kI_rem, kI_div, kI_sub, kI_m1, dlt_t, dlt_f, dle_t, dle_f, deq_t, deq_f, tX_0, tX_1, tX_p])
        exact k
  repeat ((first | refine x_T_readDigits_0 ?_ | refine x_T_readDigits_16 ?_ | refine x_T_readDigits_27 ?_ | refine x_T_readDigits_30 ?_ | refine x_T_readDigits_46 ?_ | refine x_T_readDigits_55 ?_ | refine x_T_readDigits_71 ?_); simp (disch := omega) only [zs_iconst, zs_bipush, zs_sipush, zs_ldc, zs_ldc_w, zs_lconst, zs_ldc2_w, zs_iload_n, zs_iload, zs_lload_n, zs_lload, zs_aload_n, zs_istore_n, zs_istore, zs_lstore_n, zs_lstore, zs_iinc, zs_iadd, zs_isub, zs_imul, zs_iand, zs_ior, zs_ixor, zs_ishl, zs_ishr, zs_iushr, zs_idiv, zs_irem, zs_ineg, zs_lmul, zs_ldiv, zs_lrem, zs_lcmp, zs_i2l, zs_i2b, zs_i2s, zs_i2c, zs_dup_i, zs_dup_r, zs_dup2, zs_pop, zs_getfield, zs_putfield, zs_iaload, zs_iastore, zs_aaload, zwp_c, zwp_n, zt1_i, zt2_i, zri_i, zrz_i, zrl_i, zrv_i, zok_0, zok_s, nzb_0, nzb_1, vp_in_eq, nI_cl, nI_le', nI_lt', nI_eq', nI_ne0', nI_add, pk_mul, optl_s, optl_n, List.getElem?_cons_zero, List.getElem?_cons_succ, List.set_cons_zero, List.set_cons_succ, List.cons_append, List.nil_append, List.append_nil, List.length_cons, List.length_nil, nbeq_r, nblt_r, true_and, and_true, not_true_eq_false, not_false_eq_true, true_implies, false_implies, implies_true, forall_const, Nat.reduceAdd, Nat.reduceMul, Nat.reduceSub, Nat.reduceLeDiff, Nat.reduceLT, Nat.reduceEqDiff, Nat.add_zero, Nat.zero_add, eq_self, ne_eq, List.map_cons, List.map_nil, kI_andn, kI_and, kI_or, kI_xor, kI_shl, kI_shr, kI_ushr, kI_rem, kI_div, kI_sub, kI_m1, dlt_t, dlt_f, dle_t, dle_f, deq_t, deq_f, tX_0, tX_1, tX_p])
  exact loop (121 - p) p 0 (by omega) (by decide) hq
end TC
