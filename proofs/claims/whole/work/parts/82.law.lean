/-! the law: its head, its arguments -/
def iOK (r0 r2 kt : Nat → Int32) (kp : Int32) (sh : tyS) (tb : Nat → Int32) (a : Nat) : Prop := okX r0 ∧ okS sh.2.1 sh.2.2 ∧ okT tb a ∧ (kp = nI 0 ∨ kp = nI 1) ∧ (kp = nI 1 → kt = r2 ∧ okX r2)
def dArg (pc k : Nat) : Bool := decide (decode code pc = .ok (.aload_n 0, 1)) && (decide (decode code (pc + 1) = .ok (.iload_n 3, 1)) && (decide (decode code (pc + 1 + 1) = .ok (.iconst (k : Int), 1)) && (decide (decode code (pc + 1 + 1 + 1) = .ok (.iadd, 1)) && decide (decode code (pc + 1 + 1 + 1 + 1) = .ok (.iaload, 1)))))
theorem dArg_ok {pc k : Nat} (h : dArg pc k = true) : decode code pc = .ok (.aload_n 0, 1) ∧ decode code (pc + 1) = .ok (.iload_n 3, 1) ∧ decode code (pc + 1 + 1) = .ok (.iconst (k : Int), 1) ∧ decode code (pc + 1 + 1 + 1) = .ok (.iadd, 1) ∧ decode code (pc + 1 + 1 + 1 + 1) = .ok (.iaload, 1) := by
  unfold dArg at h
  simp only [Bool.and_eq_true, decide_eq_true_eq] at h
  exact h
theorem iK : ∀ k : Nat, k ≤ 5 → Int32.ofInt (k : Int) = nI k := by decide
theorem sFeed_ok {tb : Nat → Int32} {a : Nat} (hT : okT tb a) (fd : Nat → Int32) (x m : Int32) : ∃ (v : Int32) (tb' : Nat → Int32) (a' : Nat) (fd' : Nat → Int32), okT tb' a' ∧ ∀ tr : Int32 × Int32 × Int32 × Int32, sFeed (tb, nI a, tr) a fd x m = (v, (tb', nI a', tr), fd') := by
  unfold sFeed
  cases e : dR 1 4 m with
  | none => exact ⟨_, tb, a, _, hT, fun tr => rfl⟩
  | some k =>
    by_cases c : a + k ≤ 120
    · exact ⟨_, apR tb a k x k, a + k, fd, ⟨c, fun i hi => ap_ok hT.2 k i hi⟩, fun tr => by dsimp only; rw [if_pos c]⟩
    · exact ⟨_, tb, a, _, hT, fun tr => by dsimp only; rw [if_neg c]⟩
theorem by_63 (x : Int32) : ∃ b, b < 64 ∧ x &&& nI 63 = nI b := by
  have h : x.toBitVec.toNat &&& 63 ≤ 63 := Nat.and_le_right
  refine ⟨x.toBitVec.toNat &&& 63, by omega, ?_⟩
  apply Int32.toBitVec_inj.mp
  show x.toBitVec &&& 63#32 = BitVec.ofNat 32 (x.toBitVec.toNat &&& 63)
  apply BitVec.eq_of_toNat_eq
  rw [BitVec.toNat_and, BitVec.toNat_ofNat]
  show x.toBitVec.toNat &&& 63 = (x.toBitVec.toNat &&& 63) % 2 ^ 32
  rw [Nat.mod_eq_of_lt (by omega)]
theorem hd_lt {N i : Nat} (hN : N ≤ 3072) (hi : i ≤ 4000) : (nI N - nI 6 < nI i) ↔ N < i + 6 := by
  by_cases c : 6 ≤ N
  · have e : nI N - nI 6 = nI (N - 6) := kI_sub c
    rw [e, nI_ltI (by omega) (by omega)]
    omega
  · have e : ∀ N, N < 6 → (nI N - nI 6).toInt < 0 := by decide
    have e2 := e N (by omega)
    refine ⟨fun _ => by omega, fun _ => ?_⟩
    rw [Int32.lt_iff_toInt_lt, nI_toInt (by omega)]
    omega
theorem law_arg {p : Program} {l : Launch} {e : Env} {R : Room} {s : State} {m : MethodId} {args : Array Value} {below : List Frame} {meth : Method} {c : Code} {cells slots : Nat} {ad : Nat → Nat} {cI cR : ClassId} {D : va_G} {A : Nat → Prop} {Z : State → Prop} {b N i : Nat} {xs : Nat → Int32} {pc k : Nat} {S : List Value} {h : List sE} (hc : LC m_law p s m args c cI cR D A) (hz : zC m_law p R s m args c cells slots ad cI cR D A) (hX : va_X b N xs s s.heap) (hbl : b < s.heap.size) (hbA : ¬ A b) (hb : ad 4000 = b) (hN : N ≤ 3072) (hk : k ≤ 5) (hd : dArg pc k = true) (hi : i + k < N) (kk : LW m_law p l e R s m args below meth c cI cR D A Z cells slots ad (pc + 1 + 1 + 1 + 1 + 1) [.ref 4000, .ref 0, .ref 39, .int (nI i)] (.int (xs (i + k)) :: S) h) : LW m_law p l e R s m args below meth c cI cR D A Z cells slots ad pc [.ref 4000, .ref 0, .ref 39, .int (nI i)] S h := by
  obtain ⟨d0, d1, d2, d3, d4⟩ := dArg_ok hd
  refine LW.aload_n hc (i := 0) d0 rfl ?_
  refine LW.iload_n hc (i := 3) d1 rfl ?_
  refine LW.iconst hc d2 (LW.pI (z := nI k) (iK k hk) ?_)
  refine LW.iadd hc d3 (LW.pI (nI_add i k) ?_)
  refine LW.sld hc hX hbl hbA hb (vp_in_nI hi (by omega)) d4 ?_
  rw [nI_cl (by omega)]
  exact kk
