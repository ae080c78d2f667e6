/-- Integer.bitCount on sets of cells -/
def bcN (n : Nat) : Nat :=
  let a := n - (n >>> 1 &&& 1431655765)
  let b := (a &&& 858993459) + (a >>> 2 &&& 858993459)
  let c := (b + b >>> 4) &&& 252645135
  let d := c + c >>> 8
  let e := d + d >>> 16
  e &&& 63
def bcI (x : Int32) : Int32 :=
  let a := x - (zushr x (nI 1) &&& nI 1431655765)
  let b := (a &&& nI 858993459) + (zushr a (nI 2) &&& nI 858993459)
  let c := (b + zushr b (nI 4)) &&& nI 252645135
  let d := c + zushr c (nI 8)
  let e := d + zushr d (nI 16)
  e &&& nI 63
theorem pc_add : ∀ f g n, pc (f + g) n = pc f n + pc g (n / 2 ^ f)
  | 0, g, n => by simp [pc]
  | f + 1, g, n => by
    rw [show f + 1 + g = (f + g) + 1 by omega]
    show n % 2 + pc (f + g) (n / 2) = n % 2 + pc f (n / 2) + _
    rw [pc_add f g, Nat.div_div_eq_div_mul, show 2 * 2 ^ f = 2 ^ (f + 1) by rw [Nat.pow_succ]; omega]
    omega
theorem pc_mod : ∀ f n, pc f n = pc f (n % 2 ^ f)
  | 0, n => rfl
  | f + 1, n => by
    show n % 2 + pc f (n / 2) = n % 2 ^ (f + 1) % 2 + pc f (n % 2 ^ (f + 1) / 2)
    rw [Nat.pow_succ, Nat.mod_mul_left_mod, pc_mod f (n / 2), Nat.mul_comm, Nat.mod_mul_right_div_self]
theorem cnt_bytes (n : Nat) : cnt n = pc 8 (n % 256) + pc 8 (n / 256) := by
  unfold cnt
  rw [show (16 : Nat) = 8 + 8 from rfl, pc_add, pc_mod 8 n]
theorem bcK0 : (List.range 16).all (fun a => (List.range 256).all fun b => Nat.beq (bcN (256 * (0 + a) + b)) (pc 8 b + pc 8 (0 + a))) = true := by decide +kernel
theorem bcK1 : (List.range 16).all (fun a => (List.range 256).all fun b => Nat.beq (bcN (256 * (16 + a) + b)) (pc 8 b + pc 8 (16 + a))) = true := by decide +kernel
theorem bcK2 : (List.range 16).all (fun a => (List.range 256).all fun b => Nat.beq (bcN (256 * (32 + a) + b)) (pc 8 b + pc 8 (32 + a))) = true := by decide +kernel
theorem bcK3 : (List.range 16).all (fun a => (List.range 256).all fun b => Nat.beq (bcN (256 * (48 + a) + b)) (pc 8 b + pc 8 (48 + a))) = true := by decide +kernel
theorem bcK4 : (List.range 16).all (fun a => (List.range 256).all fun b => Nat.beq (bcN (256 * (64 + a) + b)) (pc 8 b + pc 8 (64 + a))) = true := by decide +kernel
theorem bcK5 : (List.range 16).all (fun a => (List.range 256).all fun b => Nat.beq (bcN (256 * (80 + a) + b)) (pc 8 b + pc 8 (80 + a))) = true := by decide +kernel
theorem bcK6 : (List.range 16).all (fun a => (List.range 256).all fun b => Nat.beq (bcN (256 * (96 + a) + b)) (pc 8 b + pc 8 (96 + a))) = true := by decide +kernel
theorem bcK7 : (List.range 16).all (fun a => (List.range 256).all fun b => Nat.beq (bcN (256 * (112 + a) + b)) (pc 8 b + pc 8 (112 + a))) = true := by decide +kernel
theorem bcK8 : (List.range 16).all (fun a => (List.range 256).all fun b => Nat.beq (bcN (256 * (128 + a) + b)) (pc 8 b + pc 8 (128 + a))) = true := by decide +kernel
theorem bcK9 : (List.range 16).all (fun a => (List.range 256).all fun b => Nat.beq (bcN (256 * (144 + a) + b)) (pc 8 b + pc 8 (144 + a))) = true := by decide +kernel
theorem bcK10 : (List.range 16).all (fun a => (List.range 256).all fun b => Nat.beq (bcN (256 * (160 + a) + b)) (pc 8 b + pc 8 (160 + a))) = true := by decide +kernel
theorem bcK11 : (List.range 16).all (fun a => (List.range 256).all fun b => Nat.beq (bcN (256 * (176 + a) + b)) (pc 8 b + pc 8 (176 + a))) = true := by decide +kernel
theorem bcK12 : (List.range 16).all (fun a => (List.range 256).all fun b => Nat.beq (bcN (256 * (192 + a) + b)) (pc 8 b + pc 8 (192 + a))) = true := by decide +kernel
theorem bcK13 : (List.range 16).all (fun a => (List.range 256).all fun b => Nat.beq (bcN (256 * (208 + a) + b)) (pc 8 b + pc 8 (208 + a))) = true := by decide +kernel
theorem bcK14 : (List.range 16).all (fun a => (List.range 256).all fun b => Nat.beq (bcN (256 * (224 + a) + b)) (pc 8 b + pc 8 (224 + a))) = true := by decide +kernel
theorem bcK15 : (List.range 16).all (fun a => (List.range 256).all fun b => Nat.beq (bcN (256 * (240 + a) + b)) (pc 8 b + pc 8 (240 + a))) = true := by decide +kernel
theorem bcN_cnt {n : Nat} (hn : n < 65536) : bcN n = cnt n := by
  rw [cnt_bytes]
  have hb : n % 256 < 256 := by omega
  have key : ∀ i, ((List.range 16).all (fun a => (List.range 256).all fun b => Nat.beq (bcN (256 * (16 * i + a) + b)) (pc 8 b + pc 8 (16 * i + a))) = true) → n / 4096 = i → bcN n = pc 8 (n % 256) + pc 8 (n / 256) := by
    intro i hi e
    have h1 := List.all_eq_true.mp hi (n / 256 % 16) (List.mem_range.mpr (by omega))
    have h2 := Nat.eq_of_beq_eq_true (List.all_eq_true.mp h1 (n % 256) (List.mem_range.mpr hb))
    rw [show 16 * i + n / 256 % 16 = n / 256 by omega, show 256 * (n / 256) + n % 256 = n by omega] at h2
    exact h2
  have hi : n / 4096 < 16 := by omega
  rcases (show n / 4096 = 0 ∨ n / 4096 = 1 ∨ n / 4096 = 2 ∨ n / 4096 = 3 ∨ n / 4096 = 4 ∨ n / 4096 = 5 ∨ n / 4096 = 6 ∨ n / 4096 = 7 ∨ n / 4096 = 8 ∨ n / 4096 = 9 ∨ n / 4096 = 10 ∨ n / 4096 = 11 ∨ n / 4096 = 12 ∨ n / 4096 = 13 ∨ n / 4096 = 14 ∨ n / 4096 = 15 by omega) with h | h | h | h | h | h | h | h | h | h | h | h | h | h | h | h
  · exact key 0 bcK0 h
  · exact key 1 bcK1 h
  · exact key 2 bcK2 h
  · exact key 3 bcK3 h
  · exact key 4 bcK4 h
  · exact key 5 bcK5 h
  · exact key 6 bcK6 h
  · exact key 7 bcK7 h
  · exact key 8 bcK8 h
  · exact key 9 bcK9 h
  · exact key 10 bcK10 h
  · exact key 11 bcK11 h
  · exact key 12 bcK12 h
  · exact key 13 bcK13 h
  · exact key 14 bcK14 h
  · exact key 15 bcK15 h
theorem shr_le (n k : Nat) : n >>> k ≤ n := by rw [Nat.shiftRight_eq_div_pow]; exact Nat.div_le_self _ _
theorem bcI_eq {n : Nat} (hn : n < 65536) : bcI (nI n) = nI (cnt n) := by
  rw [← bcN_cnt hn]
  unfold bcI bcN
  dsimp only
  have q1 : n >>> 1 &&& 1431655765 ≤ n := Nat.le_trans Nat.and_le_left (shr_le _ _)
  rw [kI_ushr (by omega) (by decide), kI_and, kI_sub q1]
  have h1 : n - (n >>> 1 &&& 1431655765) < 65536 := by omega
  generalize n - (n >>> 1 &&& 1431655765) = a at h1
  rw [kI_ushr (by omega) (by decide), kI_and, kI_and, nI_add]
  have h2 : (a &&& 858993459) + (a >>> 2 &&& 858993459) < 131072 := by
    have := @Nat.and_le_left a 858993459
    have := @Nat.and_le_left (a >>> 2) 858993459
    have := shr_le a 2
    omega
  generalize (a &&& 858993459) + (a >>> 2 &&& 858993459) = b at h2
  rw [kI_ushr (by omega) (by decide), nI_add, kI_and]
  have h3 : (b + b >>> 4) &&& 252645135 < 262144 := by
    have := @Nat.and_le_left (b + b >>> 4) 252645135
    have := shr_le b 4
    omega
  generalize (b + b >>> 4) &&& 252645135 = c at h3
  rw [kI_ushr (by omega) (by decide), nI_add]
  have h4 : c + c >>> 8 < 524288 := by
    have := shr_le c 8
    omega
  generalize c + c >>> 8 = d at h4
  rw [kI_ushr (by omega) (by decide), nI_add, kI_and]
