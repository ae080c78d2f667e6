/-! what simp does with a straight piece -/
theorem zs_iconst {a b : Nat} {z : Int32} {w : Int64} {L S : List Value} {h : List sE} {K : List Value → List Value → List sE → Prop} {n : Int} : zst (.iconst n, a, b, z, w) L (S) h K = (K L (.int z :: S) h) := rfl
theorem zs_bipush {a b : Nat} {z : Int32} {w : Int64} {L S : List Value} {h : List sE} {K : List Value → List Value → List sE → Prop} {n : Int} : zst (.bipush n, a, b, z, w) L (S) h K = (K L (.int z :: S) h) := rfl
theorem zs_sipush {a b : Nat} {z : Int32} {w : Int64} {L S : List Value} {h : List sE} {K : List Value → List Value → List sE → Prop} {n : Int} : zst (.sipush n, a, b, z, w) L (S) h K = (K L (.int z :: S) h) := rfl
theorem zs_ldc {a b : Nat} {z : Int32} {w : Int64} {L S : List Value} {h : List sE} {K : List Value → List Value → List sE → Prop} {n : Nat} : zst (.ldc n, a, b, z, w) L (S) h K = (K L (.int z :: S) h) := rfl
theorem zs_ldc_w {a b : Nat} {z : Int32} {w : Int64} {L S : List Value} {h : List sE} {K : List Value → List Value → List sE → Prop} {n : Nat} : zst (.ldc_w n, a, b, z, w) L (S) h K = (K L (.int z :: S) h) := rfl
theorem zs_lconst {a b : Nat} {z : Int32} {w : Int64} {L S : List Value} {h : List sE} {K : List Value → List Value → List sE → Prop} {n : Fin 2} : zst (.lconst n, a, b, z, w) L (S) h K = (K L (.long w :: S) h) := rfl
theorem zs_ldc2_w {a b : Nat} {z : Int32} {w : Int64} {L S : List Value} {h : List sE} {K : List Value → List Value → List sE → Prop} {n : Nat} : zst (.ldc2_w n, a, b, z, w) L (S) h K = (K L (.long w :: S) h) := rfl
theorem zs_iload_n {a b : Nat} {z : Int32} {w : Int64} {L S : List Value} {h : List sE} {K : List Value → List Value → List sE → Prop} {n : Fin 4} : zst (.iload_n n, a, b, z, w) L (S) h K = (match L[a]? with
  | some (.int x) => K L (.int x :: S) h
  | _ => False) := rfl
theorem zs_iload {a b : Nat} {z : Int32} {w : Int64} {L S : List Value} {h : List sE} {K : List Value → List Value → List sE → Prop} {n : Nat} : zst (.iload n, a, b, z, w) L (S) h K = (match L[a]? with
  | some (.int x) => K L (.int x :: S) h
  | _ => False) := rfl
theorem zs_lload_n {a b : Nat} {z : Int32} {w : Int64} {L S : List Value} {h : List sE} {K : List Value → List Value → List sE → Prop} {n : Fin 4} : zst (.lload_n n, a, b, z, w) L (S) h K = (match L[a]? with
  | some (.long x) => K L (.long x :: S) h
  | _ => False) := rfl
theorem zs_lload {a b : Nat} {z : Int32} {w : Int64} {L S : List Value} {h : List sE} {K : List Value → List Value → List sE → Prop} {n : Nat} : zst (.lload n, a, b, z, w) L (S) h K = (match L[a]? with
  | some (.long x) => K L (.long x :: S) h
  | _ => False) := rfl
theorem zs_aload_n {a b : Nat} {z : Int32} {w : Int64} {L S : List Value} {h : List sE} {K : List Value → List Value → List sE → Prop} {n : Fin 4} : zst (.aload_n n, a, b, z, w) L (S) h K = (match L[a]? with
  | some (.ref x) => K L (.ref x :: S) h
  | _ => False) := rfl
theorem zs_istore_n {a b : Nat} {z : Int32} {w : Int64} {L S : List Value} {h : List sE} {K : List Value → List Value → List sE → Prop} {n : Fin 4} {x : Int32} : zst (.istore_n n, a, b, z, w) L (.int x :: S) h K = (match zok a L with
  | true => K (L.set a (.int x)) S h
  | false => False) := rfl
theorem zs_istore {a b : Nat} {z : Int32} {w : Int64} {L S : List Value} {h : List sE} {K : List Value → List Value → List sE → Prop} {n : Nat} {x : Int32} : zst (.istore n, a, b, z, w) L (.int x :: S) h K = (match zok a L with
  | true => K (L.set a (.int x)) S h
  | false => False) := rfl
theorem zs_lstore_n {a b : Nat} {z : Int32} {w : Int64} {L S : List Value} {h : List sE} {K : List Value → List Value → List sE → Prop} {n : Fin 4} {x : Int64} : zst (.lstore_n n, a, b, z, w) L (.long x :: S) h K = (match zok a L with
  | true => K ((L.set a (.long x)).set (a + 1) .null) S h
  | false => False) := rfl
theorem zs_lstore {a b : Nat} {z : Int32} {w : Int64} {L S : List Value} {h : List sE} {K : List Value → List Value → List sE → Prop} {n : Nat} {x : Int64} : zst (.lstore n, a, b, z, w) L (.long x :: S) h K = (match zok a L with
  | true => K ((L.set a (.long x)).set (a + 1) .null) S h
  | false => False) := rfl
theorem zs_iinc {a b : Nat} {z : Int32} {w : Int64} {L S : List Value} {h : List sE} {K : List Value → List Value → List sE → Prop} {n : Nat} {m : Int} : zst (.iinc n m, a, b, z, w) L (S) h K = (match L[a]? with
  | some (.int x) => match zok a L with
    | true => K (L.set a (.int (x + z))) S h
    | false => False
  | _ => False) := rfl
theorem zs_iadd {a b : Nat} {z : Int32} {w : Int64} {L S : List Value} {h : List sE} {K : List Value → List Value → List sE → Prop} {x y : Int32} : zst (.iadd, a, b, z, w) L (.int y :: .int x :: S) h K = (K L (.int (x + y) :: S) h) := rfl
theorem zs_isub {a b : Nat} {z : Int32} {w : Int64} {L S : List Value} {h : List sE} {K : List Value → List Value → List sE → Prop} {x y : Int32} : zst (.isub, a, b, z, w) L (.int y :: .int x :: S) h K = (K L (.int (x - y) :: S) h) := rfl
theorem zs_imul {a b : Nat} {z : Int32} {w : Int64} {L S : List Value} {h : List sE} {K : List Value → List Value → List sE → Prop} {x y : Int32} : zst (.imul, a, b, z, w) L (.int y :: .int x :: S) h K = (K L (.int (x * y) :: S) h) := rfl
theorem zs_iand {a b : Nat} {z : Int32} {w : Int64} {L S : List Value} {h : List sE} {K : List Value → List Value → List sE → Prop} {x y : Int32} : zst (.iand, a, b, z, w) L (.int y :: .int x :: S) h K = (K L (.int (x &&& y) :: S) h) := rfl
theorem zs_ior {a b : Nat} {z : Int32} {w : Int64} {L S : List Value} {h : List sE} {K : List Value → List Value → List sE → Prop} {x y : Int32} : zst (.ior, a, b, z, w) L (.int y :: .int x :: S) h K = (K L (.int (x ||| y) :: S) h) := rfl
theorem zs_ixor {a b : Nat} {z : Int32} {w : Int64} {L S : List Value} {h : List sE} {K : List Value → List Value → List sE → Prop} {x y : Int32} : zst (.ixor, a, b, z, w) L (.int y :: .int x :: S) h K = (K L (.int (x ^^^ y) :: S) h) := rfl
theorem zs_ishl {a b : Nat} {z : Int32} {w : Int64} {L S : List Value} {h : List sE} {K : List Value → List Value → List sE → Prop} {x y : Int32} : zst (.ishl, a, b, z, w) L (.int y :: .int x :: S) h K = (K L (.int (zshl x y) :: S) h) := rfl
theorem zs_ishr {a b : Nat} {z : Int32} {w : Int64} {L S : List Value} {h : List sE} {K : List Value → List Value → List sE → Prop} {x y : Int32} : zst (.ishr, a, b, z, w) L (.int y :: .int x :: S) h K = (K L (.int (zshr x y) :: S) h) := rfl
theorem zs_iushr {a b : Nat} {z : Int32} {w : Int64} {L S : List Value} {h : List sE} {K : List Value → List Value → List sE → Prop} {x y : Int32} : zst (.iushr, a, b, z, w) L (.int y :: .int x :: S) h K = (K L (.int (zushr x y) :: S) h) := rfl
theorem zs_idiv {a b : Nat} {z : Int32} {w : Int64} {L S : List Value} {h : List sE} {K : List Value → List Value → List sE → Prop} {x y : Int32} : zst (.idiv, a, b, z, w) L (.int y :: .int x :: S) h K = (¬ y = 0 ∧ K L (.int (x / y) :: S) h) := rfl
theorem zs_irem {a b : Nat} {z : Int32} {w : Int64} {L S : List Value} {h : List sE} {K : List Value → List Value → List sE → Prop} {x y : Int32} : zst (.irem, a, b, z, w) L (.int y :: .int x :: S) h K = (¬ y = 0 ∧ K L (.int (zrem x y) :: S) h) := rfl
theorem zs_ineg {a b : Nat} {z : Int32} {w : Int64} {L S : List Value} {h : List sE} {K : List Value → List Value → List sE → Prop} {x : Int32} : zst (.ineg, a, b, z, w) L (.int x :: S) h K = (K L (.int (-x) :: S) h) := rfl
theorem zs_lmul {a b : Nat} {z : Int32} {w : Int64} {L S : List Value} {h : List sE} {K : List Value → List Value → List sE → Prop} {x y : Int64} : zst (.lmul, a, b, z, w) L (.long y :: .long x :: S) h K = (K L (.long (x * y) :: S) h) := rfl
theorem zs_ldiv {a b : Nat} {z : Int32} {w : Int64} {L S : List Value} {h : List sE} {K : List Value → List Value → List sE → Prop} {x y : Int64} : zst (.ldiv, a, b, z, w) L (.long y :: .long x :: S) h K = (¬ y = 0 ∧ K L (.long (x / y) :: S) h) := rfl
theorem zs_lrem {a b : Nat} {z : Int32} {w : Int64} {L S : List Value} {h : List sE} {K : List Value → List Value → List sE → Prop} {x y : Int64} : zst (.lrem, a, b, z, w) L (.long y :: .long x :: S) h K = (¬ y = 0 ∧ K L (.long (zremL x y) :: S) h) := rfl
theorem zs_lcmp {a b : Nat} {z : Int32} {w : Int64} {L S : List Value} {h : List sE} {K : List Value → List Value → List sE → Prop} {x y : Int64} : zst (.lcmp, a, b, z, w) L (.long y :: .long x :: S) h K = (K L (.int (lg_cmp x y) :: S) h) := rfl
theorem zs_i2l {a b : Nat} {z : Int32} {w : Int64} {L S : List Value} {h : List sE} {K : List Value → List Value → List sE → Prop} {x : Int32} : zst (.i2l, a, b, z, w) L (.int x :: S) h K = (K L (.long x.toInt64 :: S) h) := rfl
theorem zs_i2b {a b : Nat} {z : Int32} {w : Int64} {L S : List Value} {h : List sE} {K : List Value → List Value → List sE → Prop} {x : Int32} : zst (.i2b, a, b, z, w) L (.int x :: S) h K = (K L (.int x.toInt8.toInt32 :: S) h) := rfl
theorem zs_i2s {a b : Nat} {z : Int32} {w : Int64} {L S : List Value} {h : List sE} {K : List Value → List Value → List sE → Prop} {x : Int32} : zst (.i2s, a, b, z, w) L (.int x :: S) h K = (K L (.int x.toInt16.toInt32 :: S) h) := rfl
theorem zs_i2c {a b : Nat} {z : Int32} {w : Int64} {L S : List Value} {h : List sE} {K : List Value → List Value → List sE → Prop} {x : Int32} : zst (.i2c, a, b, z, w) L (.int x :: S) h K = (K L (.int (x.toUInt32 % 65536).toInt32 :: S) h) := rfl
theorem zs_dup_i {a b : Nat} {z : Int32} {w : Int64} {L S : List Value} {h : List sE} {K : List Value → List Value → List sE → Prop} {x : Int32} : zst (.dup, a, b, z, w) L (.int x :: S) h K = (K L (.int x :: .int x :: S) h) := rfl
theorem zs_dup_r {a b : Nat} {z : Int32} {w : Int64} {L S : List Value} {h : List sE} {K : List Value → List Value → List sE → Prop} {x : Nat} : zst (.dup, a, b, z, w) L (.ref x :: S) h K = (K L (.ref x :: .ref x :: S) h) := rfl
theorem zs_dup2 {a b : Nat} {z : Int32} {w : Int64} {L S : List Value} {h : List sE} {K : List Value → List Value → List sE → Prop} {x : Int32} {y : Nat} : zst (.dup2, a, b, z, w) L (.int x :: .ref y :: S) h K = (K L (.int x :: .ref y :: .int x :: .ref y :: S) h) := rfl
theorem zs_pop {a b : Nat} {z : Int32} {w : Int64} {L S : List Value} {h : List sE} {K : List Value → List Value → List sE → Prop} {x : Int32} : zst (.pop, a, b, z, w) L (.int x :: S) h K = (K L S h) := rfl
theorem zs_getfield {a b : Nat} {z : Int32} {w : Int64} {L S : List Value} {h : List sE} {K : List Value → List Value → List sE → Prop} {n o : Nat} : zst (.getfield n, a, b, z, w) L (.ref o :: S) h K = (match h[o]? with
  | some (.inr (.inr o)) => match Nat.beq o.1 a with
    | true => match o.2[b]? with
      | some w => K L (w :: S) h
      | none => False
    | false => False
  | _ => False) := rfl
theorem zs_putfield {a b : Nat} {z : Int32} {w : Int64} {L S : List Value} {h : List sE} {K : List Value → List Value → List sE → Prop} {n r : Nat} {x : Int32} : zst (.putfield n, a, b, z, w) L (.int x :: .ref r :: S) h K = (match h[r]? with
  | some (.inr (.inr o)) => match Nat.beq o.1 a with
    | true => match Nat.blt b o.2.length with
      | true => K L S (h.set r (.inr (.inr (o.1, o.2.set b (.int x)))))
      | false => False
    | false => False
  | _ => False) := rfl
theorem zs_iaload {a b : Nat} {z : Int32} {w : Int64} {L S : List Value} {h : List sE} {K : List Value → List Value → List sE → Prop} {x : Int32} {r : Nat} : zst (.iaload, a, b, z, w) L (.int x :: .ref r :: S) h K = (match h[r]? with
  | some (.inl o) => vp_in x o.1 ∧ K L (.int (o.2 x.toNatClampNeg) :: S) h
  | _ => False) := rfl
theorem zs_iastore {a b : Nat} {z : Int32} {w : Int64} {L S : List Value} {h : List sE} {K : List Value → List Value → List sE → Prop} {x y : Int32} {r : Nat} : zst (.iastore, a, b, z, w) L (.int y :: .int x :: .ref r :: S) h K = (match h[r]? with
  | some (.inl o) => vp_in x o.1 ∧ K L S (h.set r (.inl (o.1, upd o.2 x.toNatClampNeg y)))
  | _ => False) := rfl
theorem zs_aaload {a b : Nat} {z : Int32} {w : Int64} {L S : List Value} {h : List sE} {K : List Value → List Value → List sE → Prop} {x : Int32} {r : Nat} : zst (.aaload, a, b, z, w) L (.int x :: .ref r :: S) h K = (match h[r]? with
  | some (.inr (.inl g)) => vp_in x g.length ∧ match g[x.toNatClampNeg]? with
    | some b => K L (.ref b :: S) h
    | none => False
  | _ => False) := rfl
theorem zwp_c {i : bI} {is : List bI} {L S : List Value} {h : List sE} {K : List Value → List Value → List sE → Prop} : zwp (i :: is) L S h K = zst i L S h (fun L S h => zwp is L S h K) := rfl
theorem zwp_n {L S : List Value} {h : List sE} {K : List Value → List Value → List sE → Prop} : zwp [] L S h K = K L S h := rfl
theorem zt1_i {c : Int32 → Prop} {A B : List Value → List Value → List sE → Prop} {L S : List Value} {h : List sE} {x : Int32} : zt1 c A B L (.int x :: S) h = ((c x → A L S h) ∧ (¬ c x → B L S h)) := rfl
theorem zt2_i {c : Int32 → Int32 → Prop} {A B : List Value → List Value → List sE → Prop} {L S : List Value} {h : List sE} {x y : Int32} : zt2 c A B L (.int y :: .int x :: S) h = ((c x y → A L S h) ∧ (¬ c x y → B L S h)) := rfl
theorem zri_i {Q : Option Value → List sE → Prop} {L : List Value} {h : List sE} {x : Int32} : zri Q L [.int x] h = Q (some (.int x)) h := rfl
theorem zrz_i {Q : Option Value → List sE → Prop} {L : List Value} {h : List sE} {x : Int32} {ty : FieldType} : zrz ty Q L [.int x] h = (narrow ty (.int x) = .int x ∧ Q (some (.int x)) h) := rfl
theorem zrl_i {Q : Option Value → List sE → Prop} {L : List Value} {h : List sE} {x : Int64} : zrl Q L [.long x] h = Q (some (.long x)) h := rfl
theorem zrv_i {Q : Option Value → List sE → Prop} {L : List Value} {h : List sE} : zrv Q L [] h = Q none h := rfl
theorem zok_0 {L : List Value} : zok 0 L = true := rfl
theorem zok_s {k : Nat} {L : List Value} : zok (k + 1) L = (match L[k]? with
    | some (.long _) => false
    | some (.double _) => false
    | _ => true) := rfl
theorem nzb_0 : (narrow .boolean (.int (nI 0)) = .int (nI 0)) = True := eq_true (by decide +kernel)
theorem nzb_1 : (narrow .boolean (.int (nI 1)) = .int (nI 1)) = True := eq_true (by decide +kernel)
theorem vp_in_eq {n N : Nat} (h : n < N) (hN : N < 2147483648) : vp_in (nI n) N = True := eq_true (vp_in_nI h hN)
theorem nI_cl {n : Nat} (h : n < 2147483648) : (nI n).toNatClampNeg = n := nI_clamp h
theorem nI_le' {a b : Nat} (ha : a < 2147483648) (hb : b < 2147483648) : (nI a ≤ nI b) = (a ≤ b) := propext (nI_leI ha hb)
theorem nI_lt' {a b : Nat} (ha : a < 2147483648) (hb : b < 2147483648) : (nI a < nI b) = (a < b) := propext (nI_ltI ha hb)
theorem nI_eq' {a b : Nat} (ha : a < 2147483648) (hb : b < 2147483648) : (nI a = nI b) = (a = b) := propext (nI_eq ha hb)
theorem nI_ne0' {b : Nat} (h0 : 0 < b) (hb : b < 2147483648) : (nI b = 0) = False := eq_false (fun e => by
  have := (nI_eq hb (show 0 < 2 ^ 31 by decide)).mp (e.trans nI_0.symm)
  omega)
theorem optl_s {v : Value} : (some v).toList = [v] := rfl
theorem optl_n : (none : Option Value).toList = [] := rfl
theorem nbeq_r {n : Nat} : Nat.beq n n = true := Nat.beq_refl n
theorem nblt_r {a b : Nat} (h : a < b) : Nat.blt a b = true := Nat.blt_eq.mpr h
