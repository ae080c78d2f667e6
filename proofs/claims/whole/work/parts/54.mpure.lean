/-! the Model's own ways, as numbers -/
theorem pc_and1 : ∀ f n, 0 < n → n < 2 ^ f → pc f (n &&& (n - 1)) + 1 = pc f n
  | 0, n, h0, h => by
    have : n < 1 := h
    omega
  | f + 1, n, h0, h => by
    have hp : 2 ^ (f + 1) = 2 * 2 ^ f := by rw [Nat.pow_succ]; omega
    show (n &&& (n - 1)) % 2 + pc f ((n &&& (n - 1)) / 2) + 1 = n % 2 + pc f (n / 2)
    have e1 : (n &&& (n - 1)) / 2 = n / 2 &&& (n - 1) / 2 := Nat.and_div_two
    have e2 : (n &&& (n - 1)) % 2 = (n % 2) &&& ((n - 1) % 2) := Nat.and_mod_two_pow (n := 1)
    rw [e1, e2]
    rcases (show n % 2 = 0 ∨ n % 2 = 1 by omega) with c | c
    · have e3 : (n - 1) / 2 = n / 2 - 1 := by omega
      rw [c, e3, Nat.zero_and]
      have := pc_and1 f (n / 2) (by omega) (by omega)
      omega
    · have e3 : (n - 1) / 2 = n / 2 := by omega
      have e4 : (n - 1) % 2 = 0 := by omega
      rw [c, e3, e4, Nat.and_self]
      have e5 : 1 &&& 0 = 0 := rfl
      rw [e5]
      omega
theorem cnt_and1 {n : Nat} (h0 : 0 < n) (h : n < 65536) : cnt (n &&& (n - 1)) + 1 = cnt n := pc_and1 16 n h0 h
theorem cnt_0 : cnt 0 = 0 := by decide
def t1F (x : Nat) : Nat → Nat
  | 0 => 0
  | c + 1 => t1F x c ||| (x >>> c &&& 1) <<< (4 * (c % 4) + 3 - c / 4)
def m1F (x : Nat) : Nat → Nat
  | 0 => 0
  | c + 1 => m1F x c ||| (x >>> c &&& 1) <<< (c / 4 * 4 + 3 - c % 4)
theorem t1F_or : ∀ c a b, t1F (a ||| b) c = t1F a c ||| t1F b c
  | 0, a, b => by simp [t1F]
  | c + 1, a, b => by
    unfold t1F
    rw [t1F_or c a b, Nat.shiftRight_or_distrib, Nat.and_or_distrib_right, Nat.shiftLeft_or_distrib]
    ac_rfl
theorem m1F_or : ∀ c a b, m1F (a ||| b) c = m1F a c ||| m1F b c
  | 0, a, b => by simp [m1F]
  | c + 1, a, b => by
    unfold m1F
    rw [m1F_or c a b, Nat.shiftRight_or_distrib, Nat.and_or_distrib_right, Nat.shiftLeft_or_distrib]
    ac_rfl
theorem t1F_eq {x : Nat} (h : x < 65536) : t1F x 16 = tOn x := by_bytes (f := fun x => t1F x 16) (t1F_or 16) tOn_or (by decide +kernel) (by decide +kernel) h
theorem m1F_eq {x : Nat} (h : x < 65536) : m1F x 16 = mirN x := by_bytes (f := fun x => m1F x 16) (m1F_or 16) mirN_or (by decide +kernel) (by decide +kernel) h
def nbA (c : Nat) : Nat := if c % 4 < 3 then 1 <<< (c + 1) else 0
def nbB (c : Nat) : Nat := if 0 < c % 4 then 1 <<< (c - 1) else 0
def nbC (c : Nat) : Nat := if c < 12 then 1 <<< (c + 4) else 0
def nbD (c : Nat) : Nat := if 3 < c then 1 <<< (c - 4) else 0
def bdF (x : Nat) : Nat → Nat
  | 0 => 0
  | c + 1 => if x.testBit c then bdF x c ||| nbA c ||| nbB c ||| nbC c ||| nbD c else bdF x c
theorem bdF_or : ∀ c a b, bdF (a ||| b) c = bdF a c ||| bdF b c
  | 0, a, b => by simp [bdF]
  | c + 1, a, b => by
    unfold bdF
    rw [bdF_or c a b, Nat.testBit_or]
    cases a.testBit c <;> cases b.testBit c
    · rfl
    · show bdF a c ||| bdF b c ||| nbA c ||| nbB c ||| nbC c ||| nbD c = bdF a c ||| (bdF b c ||| nbA c ||| nbB c ||| nbC c ||| nbD c)
      ac_rfl
    · show bdF a c ||| bdF b c ||| nbA c ||| nbB c ||| nbC c ||| nbD c = (bdF a c ||| nbA c ||| nbB c ||| nbC c ||| nbD c) ||| bdF b c
      ac_rfl
    · show _ ||| _ ||| _ ||| _ ||| _ ||| _ = (_ ||| _ ||| _ ||| _ ||| _) ||| (_ ||| _ ||| _ ||| _ ||| _)
      generalize nbA c = p
      generalize nbB c = q
      generalize nbC c = r
      generalize nbD c = s
      generalize bdF a c = u
      generalize bdF b c = v
      apply Nat.eq_of_testBit_eq
      intro i
      simp only [Nat.testBit_or]
      cases u.testBit i <;> cases v.testBit i <;> cases p.testBit i <;> cases q.testBit i <;> cases r.testBit i <;> cases s.testBit i <;> rfl
theorem bdF_eq {x : Nat} (h : x < 65536) : bdF x 16 = bsL x := by_bytes (f := fun x => bdF x 16) (bdF_or 16) bsL_or (by decide +kernel) (by decide +kernel) h
/-! comparing longs that were ints -/
theorem lgc_lt {u v : Int64} : (lg_cmp u v < nI 0) = (u < v) := by
  unfold lg_cmp
  by_cases c : u > v
  · rw [if_pos c]
    refine propext ⟨fun h => absurd h (by decide +kernel), fun h => ?_⟩
    rw [Int64.lt_iff_toInt_lt] at h
    rw [gt_iff_lt, Int64.lt_iff_toInt_lt] at c
    omega
  · rw [if_neg c]
    by_cases c2 : u = v
    · rw [if_pos c2]
      refine propext ⟨fun h => absurd h (by decide +kernel), fun h => ?_⟩
      rw [c2, Int64.lt_iff_toInt_lt] at h
      omega
    · rw [if_neg c2]
      refine propext ⟨fun _ => ?_, fun _ => by decide +kernel⟩
      rw [gt_iff_lt, Int64.lt_iff_toInt_lt] at c
      rw [Int64.lt_iff_toInt_lt]
      have : u.toInt ≠ v.toInt := fun e => c2 (Int64.toInt_inj.mp e)
      omega
theorem lgc_gt {u v : Int64} : (nI 0 < lg_cmp u v) = (v < u) := by
  unfold lg_cmp
  by_cases c : u > v
  · rw [if_pos c]
    exact propext ⟨fun _ => c, fun _ => by decide +kernel⟩
  · rw [if_neg c]
    by_cases c2 : u = v
    · rw [if_pos c2]
      refine propext ⟨fun h => absurd h (by decide +kernel), fun h => absurd h c⟩
    · rw [if_neg c2]
      exact propext ⟨fun h => absurd h (by decide +kernel), fun h => absurd h c⟩
theorem lgc_z {u v : Int64} : (lg_cmp u v = nI 0) = (u = v) := by
  unfold lg_cmp
  by_cases c : u > v
  · rw [if_pos c]
    refine propext ⟨fun h => absurd h (by decide +kernel), fun h => ?_⟩
    rw [h, gt_iff_lt, Int64.lt_iff_toInt_lt] at c
    omega
  · rw [if_neg c]
    by_cases c2 : u = v
    · rw [if_pos c2]
      exact propext ⟨fun _ => c2, fun _ => rfl⟩
    · rw [if_neg c2]
      exact propext ⟨fun h => absurd h (by decide +kernel), fun h => absurd h c2⟩
theorem lxl {x y : Int32} : (x.toInt64 < y.toInt64) = (x < y) := propext (by rw [Int64.lt_iff_toInt_lt, Int32.lt_iff_toInt_lt, Int32.toInt_toInt64, Int32.toInt_toInt64])
theorem lxn {x : Int32} {n : Nat} (h : n < 2147483648) : (x.toInt64 < lN n) = (x < nI n) := by rw [← nI_l h, lxl]
theorem lnx {x : Int32} {n : Nat} (h : n < 2147483648) : (lN n < x.toInt64) = (nI n < x) := by rw [← nI_l h, lxl]
