/-! the whole object's cells; its helpers -/
def tW (tb : Nat → Int32) (a b c d e : Int32) : List sE := [.inr (.inr (2, [.ref 1, .int a, .int b, .int c, .int d, .int e])), .inl (120, tb)]
def eF : List Nat := [1, 2, 3, 4, 5, 6, 7, 8, 9]
def eT : List Nat := [10, 11, 12, 13, 14, 15, 16, 17, 18]
def eK : List Nat := [19, 20, 21, 22, 23, 24, 25, 26, 27]
def eS : List Nat := [28, 29, 30, 31, 32, 33, 34, 35]
def eP : List Nat := [36, 37]
abbrev tyS : Type := (Nat → Int32) × (Nat → Nat) × (Nat → Nat)
abbrev tyP : Type := (Nat → Int32) × Int32 × Int32 × Int32 × Int32 × Int32
def kW (r0 r1 r2 : Nat → Int32) (kp : Int32) (sh : tyS) (tp : tyP) (fd : Nat → Int32) : List sE :=
  [.inr (.inr (3, [.ref 1, .ref 10, .ref 19, .ref 28, .ref 36, .ref 38, .int kp])),
   .inr (.inr (0, [.ref 2, .ref 9, .int (r0 0), .int (r0 1), .int (r0 2)])), .inr (.inl [3, 4, 5, 6, 7, 8]), .inl (8, fun k => its r0 k 0), .inl (8, fun k => its r0 k 1), .inl (8, fun k => its r0 k 2), .inl (8, fun k => its r0 k 3), .inl (8, fun k => its r0 k 4), .inl (8, fun k => its r0 k 5), .inl (10, fun j => r0 (51 + j)),
   .inr (.inr (0, [.ref 11, .ref 18, .int (r1 0), .int (r1 1), .int (r1 2)])), .inr (.inl [12, 13, 14, 15, 16, 17]), .inl (8, fun k => its r1 k 0), .inl (8, fun k => its r1 k 1), .inl (8, fun k => its r1 k 2), .inl (8, fun k => its r1 k 3), .inl (8, fun k => its r1 k 4), .inl (8, fun k => its r1 k 5), .inl (10, fun j => r1 (51 + j)),
   .inr (.inr (0, [.ref 20, .ref 27, .int (r2 0), .int (r2 1), .int (r2 2)])), .inr (.inl [21, 22, 23, 24, 25, 26]), .inl (8, fun k => its r2 k 0), .inl (8, fun k => its r2 k 1), .inl (8, fun k => its r2 k 2), .inl (8, fun k => its r2 k 3), .inl (8, fun k => its r2 k 4), .inl (8, fun k => its r2 k 5), .inl (10, fun j => r2 (51 + j)),
   .inr (.inr (1, [.ref 29, .ref 34, .ref 35])), .inr (.inl [30, 31, 32, 33]), .inl (40, fun i => nt sh.1 0 i), .inl (40, fun i => nt sh.1 1 i), .inl (40, fun i => nt sh.1 2 i), .inl (40, fun i => nt sh.1 3 i), .inl (4, fun s => nI (sh.2.1 s)), .inl (4, fun s => nI (sh.2.2 s)),
   .inr (.inr (2, [.ref 37, .int tp.2.1, .int tp.2.2.1, .int tp.2.2.2.1, .int tp.2.2.2.2.1, .int tp.2.2.2.2.2])), .inl (120, tp.1),
   .inl (7, fd)]
def sWt (sh : tyS) : List sE := sW sh.1 sh.2.1 sh.2.2
def tWt (tp : tyP) : List sE := tW tp.1 tp.2.1 tp.2.2.1 tp.2.2.2.1 tp.2.2.2.2.1 tp.2.2.2.2.2
theorem zput_app : ∀ (a b : List Nat) (h x y : List sE), a.length = x.length → zput (a ++ b) h (x ++ y) = zput b (zput a h x) y
  | [], _, _, [], _, _ => rfl
  | [], _, _, _ :: _, _, hl => by cases hl
  | _ :: _, _, _, [], _, hl => by cases hl
  | i :: a, b, h, e :: x, y, hl => zput_app a b (h.set i e) x y (by
    simp only [List.length_cons] at hl
    omega)
section KW
variable {r0 r1 r2 r : Nat → Int32} {kp : Int32} {sh sh' : tyS} {tp tp' : tyP} {fd : Nat → Int32}
theorem kS_0 : (kW r0 r1 r2 kp sh tp fd)[0]? = some (.inr (.inr (3, [.ref 1, .ref 10, .ref 19, .ref 28, .ref 36, .ref 38, .int kp]))) := rfl
theorem kS_38 : (kW r0 r1 r2 kp sh tp fd)[38]? = some (.inl (7, fd)) := rfl
theorem kS_fd {f : Nat → Int32} : (kW r0 r1 r2 kp sh tp fd).set 38 (.inl (7, f)) = kW r0 r1 r2 kp sh tp f := rfl
theorem kS_kp {x : Int32} : (kW r0 r1 r2 kp sh tp fd).set 0 (.inr (.inr (3, [.ref 1, .ref 10, .ref 19, .ref 28, .ref 36, .ref 38, .int x]))) = kW r0 r1 r2 x sh tp fd := rfl
theorem kF : eF.map (fun i => (kW r0 r1 r2 kp sh tp fd)[i]?) = (fW r0).map (fun e => some (zre (em eF) e)) := rfl
theorem kT : eT.map (fun i => (kW r0 r1 r2 kp sh tp fd)[i]?) = (fW r1).map (fun e => some (zre (em eT) e)) := rfl
theorem kK : eK.map (fun i => (kW r0 r1 r2 kp sh tp fd)[i]?) = (fW r2).map (fun e => some (zre (em eK) e)) := rfl
theorem kSh : eS.map (fun i => (kW r0 r1 r2 kp sh tp fd)[i]?) = (sWt sh).map (fun e => some (zre (em eS) e)) := rfl
theorem kP : eP.map (fun i => (kW r0 r1 r2 kp sh tp fd)[i]?) = (tWt tp).map (fun e => some (zre (em eP) e)) := rfl
theorem kTF : (eT ++ eF).map (fun i => (kW r0 r1 r2 kp sh tp fd)[i]?) = (fW r1 ++ fO r0).map (fun e => some (zre (em (eT ++ eF)) e)) := rfl
theorem kFT : (eF ++ eT).map (fun i => (kW r0 r1 r2 kp sh tp fd)[i]?) = (fW r0 ++ fO r1).map (fun e => some (zre (em (eF ++ eT)) e)) := rfl
theorem kKF : (eK ++ eF).map (fun i => (kW r0 r1 r2 kp sh tp fd)[i]?) = (fW r2 ++ fO r0).map (fun e => some (zre (em (eK ++ eF)) e)) := rfl
theorem kFK : (eF ++ eK).map (fun i => (kW r0 r1 r2 kp sh tp fd)[i]?) = (fW r0 ++ fO r2).map (fun e => some (zre (em (eF ++ eK)) e)) := rfl
theorem pF : zput eF (kW r0 r1 r2 kp sh tp fd) ((fW r).map (zre (em eF))) = kW r r1 r2 kp sh tp fd := rfl
theorem pT : zput eT (kW r0 r1 r2 kp sh tp fd) ((fW r).map (zre (em eT))) = kW r0 r r2 kp sh tp fd := rfl
theorem pK : zput eK (kW r0 r1 r2 kp sh tp fd) ((fW r).map (zre (em eK))) = kW r0 r1 r kp sh tp fd := rfl
theorem pSh : zput eS (kW r0 r1 r2 kp sh tp fd) ((sWt sh').map (zre (em eS))) = kW r0 r1 r2 kp sh' tp fd := rfl
theorem pP : zput eP (kW r0 r1 r2 kp sh tp fd) ((tWt tp').map (zre (em eP))) = kW r0 r1 r2 kp sh tp' fd := rfl
theorem pTF {a b : Nat → Int32} : zput (eT ++ eF) (kW r0 r1 r2 kp sh tp fd) ((fW a ++ fO b).map (zre (em (eT ++ eF)))) = kW b a r2 kp sh tp fd := by
  have e1 : (fW a).map (zre (em (eT ++ eF))) = (fW a).map (zre (em eT)) := rfl
  have e2 : (fO b).map (zre (em (eT ++ eF))) = (fW b).map (zre (em eF)) := rfl
  rw [List.map_append, zput_app _ _ _ _ _ rfl, e1, e2, pT, pF]
theorem pFT {a b : Nat → Int32} : zput (eF ++ eT) (kW r0 r1 r2 kp sh tp fd) ((fW a ++ fO b).map (zre (em (eF ++ eT)))) = kW a b r2 kp sh tp fd := by
  have e1 : (fW a).map (zre (em (eF ++ eT))) = (fW a).map (zre (em eF)) := rfl
  have e2 : (fO b).map (zre (em (eF ++ eT))) = (fW b).map (zre (em eT)) := rfl
  rw [List.map_append, zput_app _ _ _ _ _ rfl, e1, e2, pF, pT]
theorem pKF {a b : Nat → Int32} : zput (eK ++ eF) (kW r0 r1 r2 kp sh tp fd) ((fW a ++ fO b).map (zre (em (eK ++ eF)))) = kW b r1 a kp sh tp fd := by
  have e1 : (fW a).map (zre (em (eK ++ eF))) = (fW a).map (zre (em eK)) := rfl
  have e2 : (fO b).map (zre (em (eK ++ eF))) = (fW b).map (zre (em eF)) := rfl
  rw [List.map_append, zput_app _ _ _ _ _ rfl, e1, e2, pK, pF]
theorem pFK {a b : Nat → Int32} : zput (eF ++ eK) (kW r0 r1 r2 kp sh tp fd) ((fW a ++ fO b).map (zre (em (eF ++ eK)))) = kW a r1 b kp sh tp fd := by
  have e1 : (fW a).map (zre (em (eF ++ eK))) = (fW a).map (zre (em eF)) := rfl
  have e2 : (fO b).map (zre (em (eF ++ eK))) = (fW b).map (zre (em eK)) := rfl
  rw [List.map_append, zput_app _ _ _ _ _ rfl, e1, e2, pF, pK]
theorem fWO_0 {a b : Nat → Int32} : (fW a ++ fO b)[0]? = some (.inr (.inr (0, [.ref 1, .ref 8, .int (a 0), .int (a 1), .int (a 2)]))) := rfl
theorem sWt_0 : (sWt sh)[0]? = some (.inr (.inr (1, [.ref 1, .ref 6, .ref 7]))) := rfl
theorem tWt_0 : (tWt tp)[0]? = some (.inr (.inr (2, [.ref 1, .int tp.2.1, .int tp.2.2.1, .int tp.2.2.2.1, .int tp.2.2.2.2.1, .int tp.2.2.2.2.2]))) := rfl
end KW
/-- a number from 0 on, below n; from lo to hi -/
def dX (n : Nat) (x : Int32) : Option Nat := if x < nI 0 ∨ nI n ≤ x then none else some x.toNatClampNeg
def dR (lo hi : Nat) (x : Int32) : Option Nat := if x < nI lo ∨ nI hi < x then none else some x.toNatClampNeg
theorem dX_none {n : Nat} {x : Int32} (h : x < nI 0 ∨ nI n ≤ x) : dX n x = none := if_pos h
theorem dX_some {n j : Nat} (hj : j < n) (hn : n < 2147483648) : dX n (nI j) = some j := by
  unfold dX
  rw [if_neg, nI_clamp (by omega)]
  rintro (e | e)
  · exact absurd e (nI_pos (by omega))
  · exact absurd e (nI_ge hj (by omega))
theorem dR_none {lo hi : Nat} {x : Int32} (h : x < nI lo ∨ nI hi < x) : dR lo hi x = none := if_pos h
theorem dR_some {lo hi j : Nat} (h1 : lo ≤ j) (h2 : j ≤ hi) (hn : hi < 2147483648) : dR lo hi (nI j) = some j := by
  unfold dR
  rw [if_neg, nI_clamp (by omega)]
  rintro (e | e)
  · exact absurd e (nI_nlt h1 (by omega))
  · exact absurd e (nI_nlt h2 (by omega))
theorem dR_cases (x : Int32) {lo hi : Nat} (hl : lo < 2147483648) (h : hi < 2147483648) : (x < nI lo ∧ dR lo hi x = none) ∨ (¬ x < nI lo ∧ nI hi < x ∧ dR lo hi x = none) ∨ ∃ j, lo ≤ j ∧ j ≤ hi ∧ x = nI j ∧ dR lo hi x = some j := by
  by_cases c : x < nI lo
  · exact Or.inl ⟨c, dR_none (Or.inl c)⟩
  · by_cases c2 : nI hi < x
    · exact Or.inr (Or.inl ⟨c, c2, dR_none (Or.inr c2)⟩)
    · refine Or.inr (Or.inr ?_)
      have hx : ¬ x < 0 := by
        rw [Int32.lt_iff_toInt_lt] at c ⊢
        rw [nI_toInt hl] at c
        rw [Int32.toInt_zero]
        omega
      obtain ⟨j, hj, rfl⟩ := nI_of hx
      rw [nI_ltI (by omega) (by omega)] at c c2
      exact ⟨j, by omega, by omega, rfl, dR_some (by omega) (by omega) h⟩
