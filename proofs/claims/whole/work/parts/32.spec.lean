/-! what each act answers and makes of the row and of the findings (both sides are held against this) -/
abbrev T3 : Type := Int32 × (Nat → Int32) × (Nat → Int32)
def fin (w : Nat) (r fd : Nat → Int32) : T3 := (fiI w, r, fnd fd w)
def sKin (n : Nat) (r fd : Nat → Int32) (k m : Int32) : T3 := match dR 0 6 k, dR 0 65535 m with
  | some _, some _ => if n = 8 then fin 1 r fd else (nI n, nwR r n k (-1) m, fd)
  | _, _ => fin 0 r fd
def sOf (n : Nat) (r fd : Nat → Int32) (k w : Int32) : T3 := match dX n k, dR 0 8 w with
  | some k, some w => (tlR r k w, r, fd)
  | _, _ => fin 0 r fd
def canB (n : Nat) (k : Int32) (w : Nat) (v : Int32) : Bool := match w with
  | 0 => (dR 0 6 v).isSome
  | 1 => decide (v = -1) || (dX2 n k v).isSome
  | 2 => (dR 0 65535 v).isSome
  | 3 => (dR 0 3 v).isSome
  | 4 => (dR 0 999 v).isSome
  | _ => (dR 0 1 v).isSome
def sChange (n : Nat) (r fd : Nat → Int32) (k w v : Int32) : T3 := match dX n k, dR 0 5 w with
  | some i, some j => if canB n k j v = true then (its r i j, upd r (3 + 6 * i + j) v, fd) else fin 0 r fd
  | _, _ => fin 0 r fd
def sBirth (n : Nat) (r fd : Nat → Int32) (k a b : Int32) : T3 := match dR 0 6 k, dX2 n a b with
  | some _, some (i, j) => if n = 8 then fin 1 r fd else (nI n, nwR r n k a (nI (mkR r i &&& mkR r j)), fd)
  | _, _ => fin 0 r fd
def sWho (n : Nat) (r fd : Nat → Int32) (c : Int32) : T3 := match dX 16 c with
  | some c => (nI (woF r c n), r, fd)
  | none => fin 0 r fd
def sCommon (n : Nat) (r fd : Nat → Int32) (a b : Int32) : T3 := match dX n a, dX n b with
  | some i, some j => (nI (shR r i &&& shR r j), r, fd)
  | _, _ => fin 0 r fd
def sTurned (r fd : Nat → Int32) (c t m : Int32) : T3 := match dR 0 65535 c, dR 0 3 t, dR 0 1 m with
  | some c, some t, some m => (nI (if m = 1 then mirN (tBy t c) else tBy t c), r, fd)
  | _, _, _ => fin 0 r fd
def sGo (n y : Nat) (r fd : Nat → Int32) (j : Int32) : T3 := match dR 1 60 j with
  | some j => if 99999 < y + j then fin 4 r fd else (nI (knF (goR n j r) n), goR n j r, fd)
  | none => fin 0 r fd
def nwV (n : Nat) (r : Nat → Int32) (w : Nat) : Int32 := match w with
  | 0 => r 1
  | 1 => nI (knF r n)
  | 2 => nI (andn 65535 (knF r n))
  | 3 => nI (ldF r n)
  | 4 => if n = 0 then -1 else nI (bsF r (n - 1))
  | 5 => nI (mcF r n)
  | _ => nI (andn (onF r n) (ofF r n))
def sNow (n : Nat) (r fd : Nat → Int32) (w : Int32) : T3 := match dR 0 6 w with
  | some w => (nwV n r w, r, fd)
  | none => fin 0 r fd
def dA (w : Int32) : Option Nat := if w = nI 2 then some 2 else if w = nI 4 then some 4 else if w = nI 6 then some 6 else none
def sAhead (n : Nat) (r fd : Nat → Int32) (k w j : Int32) : T3 := match dX n k, dA w, dR 0 100 j with
  | some k, some w, some j => (tlR (goR n j r) k w, r, fd)
  | _, _, _ => fin 0 r fd
def sKnown (n : Nat) (r fd : Nat → Int32) (j : Int32) : T3 := match dR 0 100 j with
  | some j => (nI (knF (goR n j r) n), r, fd)
  | none => fin 0 r fd
/-- the first of f from i on -/
def fstF (p : Nat → Bool) : Nat → Nat → Option Nat
  | 0, _ => none
  | f + 1, i => if p i = true then some i else fstF p f (i + 1)
def orN (o : Option Nat) (r fd : Nat → Int32) : T3 := match o with
  | some i => (nI i, r, fd)
  | none => fin 3 r fd
def pWhen (n : Nat) (r : Nat → Int32) (c i : Nat) : Bool := (knF (goR n i r) n).testBit c
def sWhen (n : Nat) (r fd : Nat → Int32) (c : Int32) : T3 := match dX 16 c with
  | some c => orN (fstF (pWhen n r c) 201 0) r fd
  | none => fin 0 r fd
def pMany (n : Nat) (r : Nat → Int32) (v i : Nat) : Bool := decide (v ≤ cnt (knF (goR n i r) n))
def sMany (n : Nat) (r fd : Nat → Int32) (v : Int32) : T3 := match dR 0 16 v with
  | some v => orN (fstF (pMany n r v) 201 0) r fd
  | none => fin 0 r fd
def pMatch (n : Nat) (r : Nat → Int32) (a b v i : Nat) : Bool := decide (v ≤ cnt (shR (goR n i r) a &&& shR (goR n i r) b))
def sMatch (n : Nat) (r fd : Nat → Int32) (a b v : Int32) : T3 := match dX2 n a b, dR 0 16 v with
  | some (a, b), some v => orN (fstF (pMatch n r a b v) 201 0) r fd
  | _, _ => fin 0 r fd
/-- the first choice of k + 1 with the most -/
def bsG (f : Nat → Nat) : Nat → Nat
  | 0 => 0
  | k + 1 => if f (bsG f k) < f (k + 1) then k + 1 else bsG f k
def chV (n : Nat) (r : Nat → Int32) (k w j c : Nat) : Nat := cnt (knF (goR n j (upd r (3 + 6 * k + w) (nI c))) n)
def sTurnFor (n : Nat) (r fd : Nat → Int32) (k j : Int32) : T3 := match dX n k, dR 0 40 j with
  | some k, some j => (nI (bsG (chV n r k 3 j) 3), r, fd)
  | _, _ => fin 0 r fd
def sKindFor (n : Nat) (r fd : Nat → Int32) (k j : Int32) : T3 := match dX n k, dR 0 40 j with
  | some k, some j => (nI (bsG (chV n r k 0 j) 6), r, fd)
  | _, _ => fin 0 r fd
/-- of the sets below s, and all: the one with the fewest that shows what is due -/
def cvG (n : Nat) (r : Nat → Int32) : Nat → Nat
  | 0 => 1 <<< n - 1
  | s + 1 => if cnt s < cnt (cvG n r s) ∧ stF r s n = stF r (1 <<< n - 1) n then s else cvG n r s
def sCover (n : Nat) (r fd : Nat → Int32) : T3 := (nI (cvG n r (1 <<< n - 1)), r, fd)
def hdP (n : Nat) (r : Nat → Int32) (c v s : Nat) : Bool := !(stF r s n).testBit c && decide (v ≤ cnt (stF r s n))
def hdG (n : Nat) (r : Nat → Int32) (c v : Nat) : Nat → Option Nat
  | 0 => none
  | s + 1 => if hdP n r c v s = true then (match hdG n r c v s with
      | none => some s
      | some b => if cnt s < cnt b then some s else some b) else hdG n r c v s
def sHide (n : Nat) (r fd : Nat → Int32) (c v : Int32) : T3 := match dX 16 c, dR 0 16 v with
  | some c, some v => orN (hdG n r c v (1 <<< n)) r fd
  | _, _ => fin 0 r fd
/-- the most, and one, and which two: over b from a + 1 on, over a -/
def mrI (r : Nat → Int32) (a : Nat) (st : Nat × Nat) : Nat → Nat × Nat
  | 0 => st
  | k + 1 => if (mrI r a st k).1 ≤ cnt (shR r a &&& shR r (a + 1 + k)) then (cnt (shR r a &&& shR r (a + 1 + k)) + 1, 8 * a + (a + 1 + k)) else mrI r a st k
def mrO (n : Nat) (r : Nat → Int32) : Nat → Nat × Nat
  | 0 => (0, 0)
  | a + 1 => mrI r a (mrO n r a) (n - (a + 1))
def sMarry (n : Nat) (r fd : Nat → Int32) : T3 := if n < 2 then fin 3 r fd else (nI (mrO n r n).2, r, fd)
def pShows (n : Nat) (r : Nat → Int32) (k c i : Nat) : Bool := !(shR (goR n (i + 1) r) k).testBit c
def sShows (n : Nat) (r fd : Nat → Int32) (k c : Int32) : T3 := match dX n k, dX 16 c with
  | some k, some c => if (shR r k).testBit c = true then (nI ((fstF (pShows n r k c) 200 0).getD 200), r, fd) else fin 3 r fd
  | _, _ => fin 0 r fd
/-- the first i years are as a sheet tells -/
def tdF (n : Nat) (r nu : Nat → Int32) (s : Nat) : Nat → Bool
  | 0 => true
  | i + 1 => tdF n r nu s i && (decide (nt nu s i = -1) || decide (nt nu s i = nI (knF (goR n i r) n)))
/-- the choices below k, as bits -/
def chF (f : Nat → Bool) : Nat → Nat
  | 0 => 0
  | k + 1 => if f k = true then chF f k ||| 1 <<< k else chF f k
def sTold (n : Nat) (r fd : Nat → Int32) (sh : tyS) (w m : Nat) (x k : Int32) : T3 := match dT n sh x k with
  | .inl (s, k) => (nI (chF (fun c => tdF n (upd r (3 + 6 * k + w) (nI c)) sh.1 s (sh.2.2 s)) m), r, fd)
  | .inr e => fin e r fd
def sSpots (n : Nat) (r fd : Nat → Int32) (sh : tyS) (x k : Int32) : T3 := match dT n sh x k with
  | .inl (s, k) => (nI (chF (fun c => tdF n (upd r (3 + 6 * k + 2) (its r k 2 ^^^ nI (1 <<< c))) sh.1 s (sh.2.2 s)) 16), r, fd)
  | .inr e => fin e r fd
/-- a draw -/
def drR (r : Nat → Int32) : Nat → Int32 := upd r 2 (r 2 * nI 1103515245 + nI 12345)
def drV (r : Nat → Int32) : Nat := (zushr (drR r 2) (nI 8)).toNatClampNeg
def moR (n : Nat) (r : Nat → Int32) : Nat → Int32 :=
  let a := drR r
  let b := drR a
  yR n (if drV r % 8 < n then upd b (3 + 6 * (drV r % 8) + 2) (its b (drV r % 8) 2 ^^^ nI (1 <<< (drV a % 16))) else b)
def moN (n : Nat) : Nat → (Nat → Int32) → Nat → Int32
  | 0, r => r
  | i + 1, r => moR n (moN n i r)
def sMoles (n y : Nat) (r fd : Nat → Int32) (j : Int32) : T3 := match dR 1 20 j with
  | some j => if 99999 < y + j then fin 4 r fd else (nI (knF (moN n j r) n), moN n j r, fd)
  | none => fin 0 r fd
def sSeed (r fd : Nat → Int32) (v : Int32) : T3 := (r 2, upd r 2 v, fd)
def sHold (n : Nat) (r fd : Nat → Int32) (s k : Int32) : T3 := match dR 0 9 s with
  | some s => if k = -1 ∨ (dX n k).isSome = true then (nI 1, upd r (51 + s) k, fd) else fin 0 r fd
  | none => fin 0 r fd
def sAs (r fd : Nat → Int32) (s k : Int32) : T3 := match dR 0 9 s, dR 0 6 k with
  | some s, some k => if r (51 + s) = -1 then fin 5 r fd else if unK (kdR r (r (51 + s)).toNatClampNeg) k = true then (r (51 + s), r, fd) else fin 2 r fd
  | _, _ => fin 0 r fd
/-- the first i numbers of a sheet become MARKS: how many -/
def loF (n : Nat) (nu : Nat → Int32) (s : Nat) : Nat → Nat → Nat
  | 0, i => i
  | f + 1, i => if i < n ∧ (dR 0 65535 (nt nu s i)).isSome = true then loF n nu s f (i + 1) else i
def loR (nu : Nat → Int32) (s : Nat) (r : Nat → Int32) : Nat → Nat → Int32
  | 0 => r
  | i + 1 => upd (loR nu s r i) (3 + 6 * i + 2) (nt nu s i)
def sLoad (n : Nat) (r fd : Nat → Int32) (sh : tyS) (x : Int32) : T3 := match dS sh x with
  | .inl s => (nI (loF n sh.1 s (sh.2.2 s) 0), loR sh.1 s r (loF n sh.1 s (sh.2.2 s) 0), fd)
  | .inr e => fin e r fd
def pJudge (n : Nat) (r nu : Nat → Int32) (s i : Nat) : Bool := decide (n ≤ i) || !decide (nt nu s i = nI (shR r i))
def sJudge (n : Nat) (r fd : Nat → Int32) (sh : tyS) (x : Int32) : T3 := match dS sh x with
  | .inl s => (match fstF (pJudge n r sh.1 s) (sh.2.2 s) 0 with
      | some i => nI (1 + i)
      | none => nI 0, r, fd)
  | .inr e => fin e r fd
def coV (n : Nat) (r : Nat → Int32) (tn : Nat) (w : Nat) : Int32 := match w with
  | 0 => r 1
  | 1 => r 0
  | 2 => nI (cnt (knF r n))
  | 3 => nI (cnt (ldF r n))
  | 4 => nI (agF r n)
  | 5 => nI tn
  | 6 => r 2
  | _ => nI (spF r 10)
def sCount (n : Nat) (r fd : Nat → Int32) (tn : Nat) (w : Int32) : T3 := match dR 0 7 w with
  | some w => (coV n r tn w, r, fd)
  | none => fin 0 r fd
def sStatus (r fd : Nat → Int32) (w : Int32) : T3 := if w = -1 then (fsF fd 7, r, fd) else match dR 0 6 w with
  | some w => (fd w, r, fd)
  | none => fin 0 r fd
