/-! numbers: what simp knows of nI; sets of cells as numbers below 65536 -/
theorem kI_and (a b : Nat) : nI a &&& nI b = nI (a &&& b) := by
  apply Int32.toBitVec_inj.mp
  show BitVec.ofNat 32 a &&& BitVec.ofNat 32 b = BitVec.ofNat 32 (a &&& b)
  exact BitVec.eq_of_toNat_eq (by simp [Nat.and_mod_two_pow])
theorem kI_or (a b : Nat) : nI a ||| nI b = nI (a ||| b) := by
  apply Int32.toBitVec_inj.mp
  show BitVec.ofNat 32 a ||| BitVec.ofNat 32 b = BitVec.ofNat 32 (a ||| b)
  exact BitVec.eq_of_toNat_eq (by simp [Nat.or_mod_two_pow])
theorem kI_xor (a b : Nat) : nI a ^^^ nI b = nI (a ^^^ b) := by
  apply Int32.toBitVec_inj.mp
  show BitVec.ofNat 32 a ^^^ BitVec.ofNat 32 b = BitVec.ofNat 32 (a ^^^ b)
  exact BitVec.eq_of_toNat_eq (by simp [Nat.xor_mod_two_pow])
/-- a without b -/
def andn (a b : Nat) : Nat := a ^^^ (a &&& b)
theorem kI_andn (a b : Nat) : nI a &&& (nI b ^^^ (-1)) = nI (andn a b) := by
  unfold andn
  rw [← kI_xor, ← kI_and]
  generalize nI a = x
  generalize nI b = y
  apply Int32.toBitVec_inj.mp
  simp only [Int32.toBitVec_and, Int32.toBitVec_xor]
  apply BitVec.eq_of_getLsbD_eq
  intro i hi
  have h0 : ∀ i, i < 32 → (-1 : Int32).toBitVec.getLsbD i = true := by decide +kernel
  have h1 := h0 i hi
  simp only [BitVec.getLsbD_and, BitVec.getLsbD_xor, h1]
  cases x.toBitVec.getLsbD i <;> cases y.toBitVec.getLsbD i <;> rfl
theorem kI_s31 {s : Nat} (h : s < 32) : nI s &&& 31 = nI s := by
  rw [show (31 : Int32) = nI 31 from rfl, kI_and]
  rw [show (31 : Nat) = 2 ^ 5 - 1 from rfl, Nat.and_two_pow_sub_one_eq_mod, Nat.mod_eq_of_lt h]
theorem kI_smod {s : Nat} (h : s < 32) : ((nI s).toBitVec.smod 32).toNat = s := by
  have : ∀ s, s < 32 → ((nI s).toBitVec.smod 32).toNat = s := by decide +kernel
  exact this s h
theorem kI_shl {s : Nat} (a : Nat) (h : s < 32) : zshl (nI a) (nI s) = nI (a <<< s) := by
  unfold zshl
  rw [kI_s31 h]
  apply Int32.toBitVec_inj.mp
  apply BitVec.eq_of_toNat_eq
  rw [pk_shl (nI a) (nI s) s (kI_smod h)]
  show (BitVec.ofNat 32 a).toNat * 2 ^ s % 2 ^ 32 = (BitVec.ofNat 32 (a <<< s)).toNat
  rw [BitVec.toNat_ofNat, BitVec.toNat_ofNat, Nat.shiftLeft_eq, Nat.mod_mul_mod]
theorem kI_shr {a s : Nat} (ha : a < 2147483648) (h : s < 32) : zshr (nI a) (nI s) = nI (a >>> s) := by
  unfold zshr
  rw [kI_s31 h, pk_shrN ha (nI s) s (kI_smod h), Nat.shiftRight_eq_div_pow]
theorem kI_umod {s : Nat} (h : s < 32) : (((nI s).toUInt32 &&& Int32.toUInt32 31).toBitVec % 32).toNat = s := by
  have : ∀ s, s < 32 → (((nI s).toUInt32 &&& Int32.toUInt32 31).toBitVec % 32).toNat = s := by decide +kernel
  exact this s h
theorem kI_ushr {a s : Nat} (ha : a < 4294967296) (h : s < 32) : zushr (nI a) (nI s) = nI (a >>> s) := by
  unfold zushr
  rw [pk_ushrN ha (nI s) s (kI_umod h), Nat.shiftRight_eq_div_pow]
theorem kI_rem {a d : Nat} (ha : a < 2147483648) (h0 : 0 < d) (hd : d < 2147483648) : zrem (nI a) (nI d) = nI (a % d) := pk_rem ha h0 hd
theorem kI_div {a d : Nat} (ha : a < 2147483648) (h0 : 0 < d) (hd : d < 2147483648) : nI a / nI d = nI (a / d) := pk_div ha h0 hd
theorem kI_sub {a b : Nat} (h : b ≤ a) : nI a - nI b = nI (a - b) := pk_sub h
theorem kI_m1 {a : Nat} (h : 0 < a) : nI a + (-1) = nI (a - 1) := by
  obtain ⟨k, rfl⟩ : ∃ k, a = k + 1 := ⟨a - 1, by omega⟩
  exact pk_m1 k
def mirN (x : Nat) : Nat := (x &&& 4369) <<< 3 ||| (x &&& 8738) <<< 1 ||| (x &&& 17476) >>> 1 ||| (x &&& 34952) >>> 3
def trpN (x : Nat) : Nat := x &&& 33825 ||| (x &&& 2114) <<< 3 ||| (x &&& 16912) >>> 3 ||| (x &&& 132) <<< 6 ||| (x &&& 8448) >>> 6 ||| (x &&& 8) <<< 9 ||| (x &&& 4096) >>> 9
def tOn (x : Nat) : Nat := mirN (trpN x)
def tBy : Nat → Nat → Nat
  | 0, x => x
  | t + 1, x => tOn (tBy t x)
/-- the cells beside those of a set -/
def bsL (x : Nat) : Nat := ((x &&& 30583) <<< 1 ||| (x &&& 61166) >>> 1 ||| (x <<< 4 ||| x >>> 4)) &&& 65535
def bsd (x : Nat) : Nat := andn (bsL x) x
def allB (p : Nat → Bool) : Bool := (List.range 256).all fun b => p b
theorem allB_at {p : Nat → Bool} (h : allB p = true) {n : Nat} (hn : n < 256) : p n = true := List.all_eq_true.mp h n (List.mem_range.mpr hn)
theorem by_bytes {f g : Nat → Nat} (hf : ∀ a b, f (a ||| b) = f a ||| f b) (hg : ∀ a b, g (a ||| b) = g a ||| g b) (h1 : allB (fun n => f n == g n) = true) (h2 : allB (fun n => f (256 * n) == g (256 * n)) = true) {n : Nat} (hn : n < 65536) : f n = g n := by
  have e : n = 2 ^ 8 * (n / 256) ||| n % 256 := by
    rw [← Nat.two_pow_add_eq_or_of_lt (show n % 256 < 2 ^ 8 by omega)]
    omega
  rw [e, hf, hg]
  have a1 := beq_iff_eq.mp (allB_at h1 (show n % 256 < 256 by omega))
  have a2 := beq_iff_eq.mp (allB_at h2 (show n / 256 < 256 by omega))
  rw [show (2 : Nat) ^ 8 = 256 from rfl, a1, a2]
/-- a linear map of sets that keeps to 16 bits -/
theorem by_bytesL {f : Nat → Nat} (hf : ∀ a b, f (a ||| b) = f a ||| f b) (h1 : allB (fun n => Nat.blt (f n) 65536) = true) (h2 : allB (fun n => Nat.blt (f (256 * n)) 65536) = true) {n : Nat} (hn : n < 65536) : f n < 65536 := by
  have e : n = 2 ^ 8 * (n / 256) ||| n % 256 := by
    rw [← Nat.two_pow_add_eq_or_of_lt (show n % 256 < 2 ^ 8 by omega)]
    omega
  rw [e, hf]
  have a1 := Nat.blt_eq.mp (allB_at h1 (show n % 256 < 256 by omega))
  have a2 := Nat.blt_eq.mp (allB_at h2 (show n / 256 < 256 by omega))
  exact Nat.or_lt_two_pow (n := 16) (by rw [show (2 : Nat) ^ 8 = 256 from rfl]; exact a2) a1
theorem mirN_or (a b : Nat) : mirN (a ||| b) = mirN a ||| mirN b := by
  unfold mirN
  simp only [Nat.and_or_distrib_right, Nat.shiftLeft_or_distrib, Nat.shiftRight_or_distrib]
  ac_rfl
theorem trpN_or (a b : Nat) : trpN (a ||| b) = trpN a ||| trpN b := by
  unfold trpN
  simp only [Nat.and_or_distrib_right, Nat.shiftLeft_or_distrib, Nat.shiftRight_or_distrib]
  ac_rfl
theorem tOn_or (a b : Nat) : tOn (a ||| b) = tOn a ||| tOn b := by
  unfold tOn
  rw [trpN_or, mirN_or]
theorem bsL_or (a b : Nat) : bsL (a ||| b) = bsL a ||| bsL b := by
  unfold bsL
  simp only [Nat.and_or_distrib_right, Nat.shiftLeft_or_distrib, Nat.shiftRight_or_distrib]
  ac_rfl
theorem mirN_lt {n : Nat} (hn : n < 65536) : mirN n < 65536 := by_bytesL mirN_or (by decide +kernel) (by decide +kernel) hn
theorem trpN_lt {n : Nat} (hn : n < 65536) : trpN n < 65536 := by_bytesL trpN_or (by decide +kernel) (by decide +kernel) hn
theorem tOn_lt {n : Nat} (hn : n < 65536) : tOn n < 65536 := mirN_lt (trpN_lt hn)
theorem tBy_lt {n : Nat} (hn : n < 65536) : ∀ t, tBy t n < 65536
  | 0 => hn
  | t + 1 => tOn_lt (tBy_lt hn t)
theorem andn_le (a b : Nat) : andn a b ≤ a := by
  unfold andn
  have e : a ^^^ (a &&& b) = a &&& (a ^^^ b) := by
    apply Nat.eq_of_testBit_eq
    intro i
    simp only [Nat.testBit_xor, Nat.testBit_and]
    cases a.testBit i <;> cases b.testBit i <;> rfl
  rw [e]
  exact Nat.and_le_left
theorem bsL_lt (n : Nat) : bsL n < 65536 := Nat.lt_of_le_of_lt Nat.and_le_right (by decide)
theorem bsd_lt (n : Nat) : bsd n < 65536 := Nat.lt_of_le_of_lt (andn_le _ _) (bsL_lt n)
/-- how many cells a set has -/
def pc : Nat → Nat → Nat
  | 0, _ => 0
  | f + 1, n => n % 2 + pc f (n / 2)
def cnt (n : Nat) : Nat := pc 16 n
theorem pc_le : ∀ f n, pc f n ≤ f
  | 0, _ => Nat.le_refl _
  | f + 1, n => by
    have := pc_le f (n / 2)
    show n % 2 + pc f (n / 2) ≤ f + 1
    omega
theorem cnt_le (n : Nat) : cnt n ≤ 16 := pc_le 16 n
