section ZV
variable {M : MI} {pc tgt : Nat} {L S : List Value} {h : List sE} {Q : Option Value → List sE → Prop} {off : Int} {x y : Int32} {u v : Int64}
def zrem (x y : Int32) : Int32 := x - x / y * y
def zremL (x y : Int64) : Int64 := x - x / y * y
def zushr (x y : Int32) : Int32 := (x.toUInt32 >>> (y.toUInt32 &&& Int32.toUInt32 31)).toInt32
def zshl (x y : Int32) : Int32 := x <<< (y &&& 31)
def zshr (x y : Int32) : Int32 := x >>> (y &&& 31)
theorem V.iadd (hd : decode M.2.1 pc = .ok (.iadd, 1)) (k : V M (pc + 1) L (.int (x + y) :: S) h Q) : V M pc L (.int y :: .int x :: S) h Q :=
  fun p l e R s m args below meth c cells slots ad cI cR D A hc Z hZ H locs ls hls hP hD hS => lv_iadd hc.1 hc.2.1 hd (k p l e R s m args below meth c cells slots ad cI cR D A hc Z hZ H locs ls hls hP hD hS)
theorem V.isub (hd : decode M.2.1 pc = .ok (.isub, 1)) (k : V M (pc + 1) L (.int (x - y) :: S) h Q) : V M pc L (.int y :: .int x :: S) h Q :=
  fun p l e R s m args below meth c cells slots ad cI cR D A hc Z hZ H locs ls hls hP hD hS => lv_isub hc.1 hc.2.1 hd (k p l e R s m args below meth c cells slots ad cI cR D A hc Z hZ H locs ls hls hP hD hS)
theorem V.imul (hd : decode M.2.1 pc = .ok (.imul, 1)) (k : V M (pc + 1) L (.int (x * y) :: S) h Q) : V M pc L (.int y :: .int x :: S) h Q :=
  fun p l e R s m args below meth c cells slots ad cI cR D A hc Z hZ H locs ls hls hP hD hS => lv_imul hc.1 hc.2.1 hd (k p l e R s m args below meth c cells slots ad cI cR D A hc Z hZ H locs ls hls hP hD hS)
theorem V.iand (hd : decode M.2.1 pc = .ok (.iand, 1)) (k : V M (pc + 1) L (.int (x &&& y) :: S) h Q) : V M pc L (.int y :: .int x :: S) h Q :=
  fun p l e R s m args below meth c cells slots ad cI cR D A hc Z hZ H locs ls hls hP hD hS => lv_iand hc.1 hc.2.1 hd (k p l e R s m args below meth c cells slots ad cI cR D A hc Z hZ H locs ls hls hP hD hS)
theorem V.ior (hd : decode M.2.1 pc = .ok (.ior, 1)) (k : V M (pc + 1) L (.int (x ||| y) :: S) h Q) : V M pc L (.int y :: .int x :: S) h Q :=
  fun p l e R s m args below meth c cells slots ad cI cR D A hc Z hZ H locs ls hls hP hD hS => lv_ior hc.1 hc.2.1 hd (k p l e R s m args below meth c cells slots ad cI cR D A hc Z hZ H locs ls hls hP hD hS)
theorem V.ixor (hd : decode M.2.1 pc = .ok (.ixor, 1)) (k : V M (pc + 1) L (.int (x ^^^ y) :: S) h Q) : V M pc L (.int y :: .int x :: S) h Q :=
  fun p l e R s m args below meth c cells slots ad cI cR D A hc Z hZ H locs ls hls hP hD hS => lv_ixor hc.1 hc.2.1 hd (k p l e R s m args below meth c cells slots ad cI cR D A hc Z hZ H locs ls hls hP hD hS)
theorem V.ishl (hd : decode M.2.1 pc = .ok (.ishl, 1)) (k : V M (pc + 1) L (.int (zshl x y) :: S) h Q) : V M pc L (.int y :: .int x :: S) h Q :=
  fun p l e R s m args below meth c cells slots ad cI cR D A hc Z hZ H locs ls hls hP hD hS => lv_ishl hc.1 hc.2.1 hd (k p l e R s m args below meth c cells slots ad cI cR D A hc Z hZ H locs ls hls hP hD hS)
theorem V.ishr (hd : decode M.2.1 pc = .ok (.ishr, 1)) (k : V M (pc + 1) L (.int (zshr x y) :: S) h Q) : V M pc L (.int y :: .int x :: S) h Q :=
  fun p l e R s m args below meth c cells slots ad cI cR D A hc Z hZ H locs ls hls hP hD hS => lv_ishr hc.1 hc.2.1 hd (k p l e R s m args below meth c cells slots ad cI cR D A hc Z hZ H locs ls hls hP hD hS)
theorem V.iushr (hd : decode M.2.1 pc = .ok (.iushr, 1)) (k : V M (pc + 1) L (.int (zushr x y) :: S) h Q) : V M pc L (.int y :: .int x :: S) h Q :=
  fun p l e R s m args below meth c cells slots ad cI cR D A hc Z hZ H locs ls hls hP hD hS => lv_iushr hc.1 hc.2.1 hd rfl (k p l e R s m args below meth c cells slots ad cI cR D A hc Z hZ H locs ls hls hP hD hS)
theorem V.idiv (hd : decode M.2.1 pc = .ok (.idiv, 1)) (hy : ¬ y = 0) (k : V M (pc + 1) L (.int (x / y) :: S) h Q) : V M pc L (.int y :: .int x :: S) h Q :=
  fun p l e R s m args below meth c cells slots ad cI cR D A hc Z hZ H locs ls hls hP hD hS => lv_idiv hc.1 hc.2.1 hd hy (k p l e R s m args below meth c cells slots ad cI cR D A hc Z hZ H locs ls hls hP hD hS)
theorem V.irem (hd : decode M.2.1 pc = .ok (.irem, 1)) (hy : ¬ y = 0) (k : V M (pc + 1) L (.int (zrem x y) :: S) h Q) : V M pc L (.int y :: .int x :: S) h Q :=
  fun p l e R s m args below meth c cells slots ad cI cR D A hc Z hZ H locs ls hls hP hD hS => lv_irem hc.1 hc.2.1 hd hy (k p l e R s m args below meth c cells slots ad cI cR D A hc Z hZ H locs ls hls hP hD hS)
theorem V.ineg (hd : decode M.2.1 pc = .ok (.ineg, 1)) (k : V M (pc + 1) L (.int (-x) :: S) h Q) : V M pc L (.int x :: S) h Q :=
  fun p l e R s m args below meth c cells slots ad cI cR D A hc Z hZ H locs ls hls hP hD hS => lv_ineg hc.1 hc.2.1 hd (k p l e R s m args below meth c cells slots ad cI cR D A hc Z hZ H locs ls hls hP hD hS)
theorem V.lmul (hd : decode M.2.1 pc = .ok (.lmul, 1)) (k : V M (pc + 1) L (.long (u * v) :: S) h Q) : V M pc L (.long v :: .long u :: S) h Q :=
  fun p l e R s m args below meth c cells slots ad cI cR D A hc Z hZ H locs ls hls hP hD hS => lv_lmul hc.1 hc.2.1 hd (k p l e R s m args below meth c cells slots ad cI cR D A hc Z hZ H locs ls hls hP hD hS)
theorem V.ldiv (hd : decode M.2.1 pc = .ok (.ldiv, 1)) (hy : ¬ v = 0) (k : V M (pc + 1) L (.long (u / v) :: S) h Q) : V M pc L (.long v :: .long u :: S) h Q :=
  fun p l e R s m args below meth c cells slots ad cI cR D A hc Z hZ H locs ls hls hP hD hS => lv_ldiv hc.1 hc.2.1 hd hy (k p l e R s m args below meth c cells slots ad cI cR D A hc Z hZ H locs ls hls hP hD hS)
theorem V.lrem (hd : decode M.2.1 pc = .ok (.lrem, 1)) (hy : ¬ v = 0) (k : V M (pc + 1) L (.long (zremL u v) :: S) h Q) : V M pc L (.long v :: .long u :: S) h Q :=
  fun p l e R s m args below meth c cells slots ad cI cR D A hc Z hZ H locs ls hls hP hD hS => lv_lrem hc.1 hc.2.1 hd hy (k p l e R s m args below meth c cells slots ad cI cR D A hc Z hZ H locs ls hls hP hD hS)
theorem V.lcmp (hd : decode M.2.1 pc = .ok (.lcmp, 1)) (k : V M (pc + 1) L (.int (lg_cmp u v) :: S) h Q) : V M pc L (.long v :: .long u :: S) h Q :=
  fun p l e R s m args below meth c cells slots ad cI cR D A hc Z hZ H locs ls hls hP hD hS => W.lcmp hc.1 hc.2.1 hd (k p l e R s m args below meth c cells slots ad cI cR D A hc Z hZ H locs ls hls hP hD hS)
theorem V.i2l (hd : decode M.2.1 pc = .ok (.i2l, 1)) (k : V M (pc + 1) L (.long x.toInt64 :: S) h Q) : V M pc L (.int x :: S) h Q :=
  fun p l e R s m args below meth c cells slots ad cI cR D A hc Z hZ H locs ls hls hP hD hS => lv_i2l hc.1 hc.2.1 hd rfl (k p l e R s m args below meth c cells slots ad cI cR D A hc Z hZ H locs ls hls hP hD hS)
theorem V.i2b (hd : decode M.2.1 pc = .ok (.i2b, 1)) (k : V M (pc + 1) L (.int x.toInt8.toInt32 :: S) h Q) : V M pc L (.int x :: S) h Q :=
  fun p l e R s m args below meth c cells slots ad cI cR D A hc Z hZ H locs ls hls hP hD hS => lv_i2b hc.1 hc.2.1 hd rfl (k p l e R s m args below meth c cells slots ad cI cR D A hc Z hZ H locs ls hls hP hD hS)
theorem V.i2s (hd : decode M.2.1 pc = .ok (.i2s, 1)) (k : V M (pc + 1) L (.int x.toInt16.toInt32 :: S) h Q) : V M pc L (.int x :: S) h Q :=
  fun p l e R s m args below meth c cells slots ad cI cR D A hc Z hZ H locs ls hls hP hD hS => lv_i2s hc.1 hc.2.1 hd rfl (k p l e R s m args below meth c cells slots ad cI cR D A hc Z hZ H locs ls hls hP hD hS)
theorem V.i2c (hd : decode M.2.1 pc = .ok (.i2c, 1)) (k : V M (pc + 1) L (.int (x.toUInt32 % 65536).toInt32 :: S) h Q) : V M pc L (.int x :: S) h Q :=
  fun p l e R s m args below meth c cells slots ad cI cR D A hc Z hZ H locs ls hls hP hD hS => lv_i2c hc.1 hc.2.1 hd rfl (k p l e R s m args below meth c cells slots ad cI cR D A hc Z hZ H locs ls hls hP hD hS)
theorem V.dup {a : Value} (hd : decode M.2.1 pc = .ok (.dup, 1)) (ha : a.category = 1) (k : V M (pc + 1) L (a :: a :: S) h Q) : V M pc L (a :: S) h Q :=
  fun p l e R s m args below meth c cells slots ad cI cR D A hc Z hZ H locs ls hls hP hD hS => lv_dup hc.1 hc.2.1 hd ((zA_cat ad a).trans ha) (k p l e R s m args below meth c cells slots ad cI cR D A hc Z hZ H locs ls hls hP hD hS)
theorem V.dup2 {a b : Value} (hd : decode M.2.1 pc = .ok (.dup2, 1)) (ha : a.category = 1) (hb : b.category = 1) (k : V M (pc + 1) L (a :: b :: a :: b :: S) h Q) : V M pc L (a :: b :: S) h Q :=
  fun p l e R s m args below meth c cells slots ad cI cR D A hc Z hZ H locs ls hls hP hD hS => lv_dup2_11 hc.1 hc.2.1 hd ((zA_cat ad a).trans ha) ((zA_cat ad b).trans hb) (k p l e R s m args below meth c cells slots ad cI cR D A hc Z hZ H locs ls hls hP hD hS)
theorem V.pop {a : Value} (hd : decode M.2.1 pc = .ok (.pop, 1)) (ha : a.category = 1) (k : V M (pc + 1) L S h Q) : V M pc L (a :: S) h Q :=
  fun p l e R s m args below meth c cells slots ad cI cR D A hc Z hZ H locs ls hls hP hD hS => lv_pop hc.1 hc.2.1 hd ((zA_cat ad a).trans ha) (k p l e R s m args below meth c cells slots ad cI cR D A hc Z hZ H locs ls hls hP hD hS)
theorem V.goto (hd : decode M.2.1 pc = .ok (.goto off, 3)) (ht : (pc : Int) + off = (tgt : Int)) (k : V M tgt L S h Q) : V M pc L S h Q :=
  fun p l e R s m args below meth c cells slots ad cI cR D A hc Z hZ H locs ls hls hP hD hS => lv_goto hc.1 hc.2.1 hd ht (k p l e R s m args below meth c cells slots ad cI cR D A hc Z hZ H locs ls hls hP hD hS)
theorem V.if_eq (hd : decode M.2.1 pc = .ok (.ifCond .eq off, 3)) (ht : (pc : Int) + off = (tgt : Int)) (kt : x = 0 → V M tgt L S h Q) (kf : ¬ x = 0 → V M (pc + 3) L S h Q) : V M pc L (.int x :: S) h Q :=
  fun p l e R s m args below meth c cells slots ad cI cR D A hc Z hZ H locs ls hls hP hD hS => lv_if_eq hc.1 hc.2.1 hd ht (fun hh => kt hh p l e R s m args below meth c cells slots ad cI cR D A hc Z hZ H locs ls hls hP hD hS) (fun hh => kf hh p l e R s m args below meth c cells slots ad cI cR D A hc Z hZ H locs ls hls hP hD hS)
theorem V.if_lt (hd : decode M.2.1 pc = .ok (.ifCond .lt off, 3)) (ht : (pc : Int) + off = (tgt : Int)) (kt : x < 0 → V M tgt L S h Q) (kf : ¬ x < 0 → V M (pc + 3) L S h Q) : V M pc L (.int x :: S) h Q :=
  fun p l e R s m args below meth c cells slots ad cI cR D A hc Z hZ H locs ls hls hP hD hS => lv_if_lt hc.1 hc.2.1 hd ht (fun hh => kt hh p l e R s m args below meth c cells slots ad cI cR D A hc Z hZ H locs ls hls hP hD hS) (fun hh => kf hh p l e R s m args below meth c cells slots ad cI cR D A hc Z hZ H locs ls hls hP hD hS)
theorem V.if_ge (hd : decode M.2.1 pc = .ok (.ifCond .ge off, 3)) (ht : (pc : Int) + off = (tgt : Int)) (kt : 0 ≤ x → V M tgt L S h Q) (kf : ¬ 0 ≤ x → V M (pc + 3) L S h Q) : V M pc L (.int x :: S) h Q :=
  fun p l e R s m args below meth c cells slots ad cI cR D A hc Z hZ H locs ls hls hP hD hS => lv_if_ge hc.1 hc.2.1 hd ht (fun hh => kt hh p l e R s m args below meth c cells slots ad cI cR D A hc Z hZ H locs ls hls hP hD hS) (fun hh => kf hh p l e R s m args below meth c cells slots ad cI cR D A hc Z hZ H locs ls hls hP hD hS)
theorem V.if_gt (hd : decode M.2.1 pc = .ok (.ifCond .gt off, 3)) (ht : (pc : Int) + off = (tgt : Int)) (kt : 0 < x → V M tgt L S h Q) (kf : ¬ 0 < x → V M (pc + 3) L S h Q) : V M pc L (.int x :: S) h Q :=
  fun p l e R s m args below meth c cells slots ad cI cR D A hc Z hZ H locs ls hls hP hD hS => lv_if_gt hc.1 hc.2.1 hd ht (fun hh => kt hh p l e R s m args below meth c cells slots ad cI cR D A hc Z hZ H locs ls hls hP hD hS) (fun hh => kf hh p l e R s m args below meth c cells slots ad cI cR D A hc Z hZ H locs ls hls hP hD hS)
theorem V.if_le (hd : decode M.2.1 pc = .ok (.ifCond .le off, 3)) (ht : (pc : Int) + off = (tgt : Int)) (kt : x ≤ 0 → V M tgt L S h Q) (kf : ¬ x ≤ 0 → V M (pc + 3) L S h Q) : V M pc L (.int x :: S) h Q :=
  fun p l e R s m args below meth c cells slots ad cI cR D A hc Z hZ H locs ls hls hP hD hS => lv_if_le hc.1 hc.2.1 hd ht (fun hh => kt hh p l e R s m args below meth c cells slots ad cI cR D A hc Z hZ H locs ls hls hP hD hS) (fun hh => kf hh p l e R s m args below meth c cells slots ad cI cR D A hc Z hZ H locs ls hls hP hD hS)
theorem V.icmp_eq (hd : decode M.2.1 pc = .ok (.if_icmp .eq off, 3)) (ht : (pc : Int) + off = (tgt : Int)) (kt : x = y → V M tgt L S h Q) (kf : ¬ x = y → V M (pc + 3) L S h Q) : V M pc L (.int y :: .int x :: S) h Q :=
  fun p l e R s m args below meth c cells slots ad cI cR D A hc Z hZ H locs ls hls hP hD hS => lv_icmp_eq hc.1 hc.2.1 hd ht (fun hh => kt hh p l e R s m args below meth c cells slots ad cI cR D A hc Z hZ H locs ls hls hP hD hS) (fun hh => kf hh p l e R s m args below meth c cells slots ad cI cR D A hc Z hZ H locs ls hls hP hD hS)
theorem V.icmp_lt (hd : decode M.2.1 pc = .ok (.if_icmp .lt off, 3)) (ht : (pc : Int) + off = (tgt : Int)) (kt : x < y → V M tgt L S h Q) (kf : ¬ x < y → V M (pc + 3) L S h Q) : V M pc L (.int y :: .int x :: S) h Q :=
  fun p l e R s m args below meth c cells slots ad cI cR D A hc Z hZ H locs ls hls hP hD hS => lv_icmp_lt hc.1 hc.2.1 hd ht (fun hh => kt hh p l e R s m args below meth c cells slots ad cI cR D A hc Z hZ H locs ls hls hP hD hS) (fun hh => kf hh p l e R s m args below meth c cells slots ad cI cR D A hc Z hZ H locs ls hls hP hD hS)
theorem V.icmp_ge (hd : decode M.2.1 pc = .ok (.if_icmp .ge off, 3)) (ht : (pc : Int) + off = (tgt : Int)) (kt : y ≤ x → V M tgt L S h Q) (kf : ¬ y ≤ x → V M (pc + 3) L S h Q) : V M pc L (.int y :: .int x :: S) h Q :=
  fun p l e R s m args below meth c cells slots ad cI cR D A hc Z hZ H locs ls hls hP hD hS => lv_icmp_ge hc.1 hc.2.1 hd ht (fun hh => kt hh p l e R s m args below meth c cells slots ad cI cR D A hc Z hZ H locs ls hls hP hD hS) (fun hh => kf hh p l e R s m args below meth c cells slots ad cI cR D A hc Z hZ H locs ls hls hP hD hS)
theorem V.icmp_gt (hd : decode M.2.1 pc = .ok (.if_icmp .gt off, 3)) (ht : (pc : Int) + off = (tgt : Int)) (kt : y < x → V M tgt L S h Q) (kf : ¬ y < x → V M (pc + 3) L S h Q) : V M pc L (.int y :: .int x :: S) h Q :=
  fun p l e R s m args below meth c cells slots ad cI cR D A hc Z hZ H locs ls hls hP hD hS => lv_icmp_gt hc.1 hc.2.1 hd ht (fun hh => kt hh p l e R s m args below meth c cells slots ad cI cR D A hc Z hZ H locs ls hls hP hD hS) (fun hh => kf hh p l e R s m args below meth c cells slots ad cI cR D A hc Z hZ H locs ls hls hP hD hS)
theorem V.icmp_le (hd : decode M.2.1 pc = .ok (.if_icmp .le off, 3)) (ht : (pc : Int) + off = (tgt : Int)) (kt : x ≤ y → V M tgt L S h Q) (kf : ¬ x ≤ y → V M (pc + 3) L S h Q) : V M pc L (.int y :: .int x :: S) h Q :=
  fun p l e R s m args below meth c cells slots ad cI cR D A hc Z hZ H locs ls hls hP hD hS => lv_icmp_le hc.1 hc.2.1 hd ht (fun hh => kt hh p l e R s m args below meth c cells slots ad cI cR D A hc Z hZ H locs ls hls hP hD hS) (fun hh => kf hh p l e R s m args below meth c cells slots ad cI cR D A hc Z hZ H locs ls hls hP hD hS)
theorem V.if_ne (hd : decode M.2.1 pc = .ok (.ifCond .ne off, 3)) (ht : (pc : Int) + off = (tgt : Int)) (kt : ¬ x = 0 → V M tgt L S h Q) (kf : x = 0 → V M (pc + 3) L S h Q) : V M pc L (.int x :: S) h Q :=
  fun p l e R s m args below meth c cells slots ad cI cR D A hc Z hZ H locs ls hls hP hD hS => lv_if_ne hc.1 hc.2.1 hd ht (fun hh => kt hh p l e R s m args below meth c cells slots ad cI cR D A hc Z hZ H locs ls hls hP hD hS) (fun hh => kf hh p l e R s m args below meth c cells slots ad cI cR D A hc Z hZ H locs ls hls hP hD hS)
theorem V.icmp_ne (hd : decode M.2.1 pc = .ok (.if_icmp .ne off, 3)) (ht : (pc : Int) + off = (tgt : Int)) (kt : ¬ x = y → V M tgt L S h Q) (kf : x = y → V M (pc + 3) L S h Q) : V M pc L (.int y :: .int x :: S) h Q :=
  fun p l e R s m args below meth c cells slots ad cI cR D A hc Z hZ H locs ls hls hP hD hS => lv_icmp_ne hc.1 hc.2.1 hd ht (fun hh => kt hh p l e R s m args below meth c cells slots ad cI cR D A hc Z hZ H locs ls hls hP hD hS) (fun hh => kf hh p l e R s m args below meth c cells slots ad cI cR D A hc Z hZ H locs ls hls hP hD hS)
theorem V.tableOut {dflt lo hi : Int} {offs : Array Int} {len : Nat} (hd : decode M.2.1 pc = .ok (.tableswitch dflt lo hi offs, len)) (hx : x.toInt < lo ∨ hi < x.toInt) (ht : (pc : Int) + dflt = (tgt : Int)) (k : V M tgt L S h Q) : V M pc L (.int x :: S) h Q :=
  fun p l e R s m args below meth c cells slots ad cI cR D A hc Z hZ H locs ls hls hP hD hS => lv_tableOut hc.1 hc.2.1 hd hx ht (k p l e R s m args below meth c cells slots ad cI cR D A hc Z hZ H locs ls hls hP hD hS)
theorem V.tableIn {dflt lo hi : Int} {offs : Array Int} {len : Nat} (hd : decode M.2.1 pc = .ok (.tableswitch dflt lo hi offs, len)) (h1 : ¬ x.toInt < lo) (h2 : ¬ hi < x.toInt) (ho : offs[(x.toInt - lo).toNat]? = some off) (ht : (pc : Int) + off = (tgt : Int)) (k : V M tgt L S h Q) : V M pc L (.int x :: S) h Q :=
  fun p l e R s m args below meth c cells slots ad cI cR D A hc Z hZ H locs ls hls hP hD hS => lv_tableIn hc.1 hc.2.1 hd h1 h2 ho ht (k p l e R s m args below meth c cells slots ad cI cR D A hc Z hZ H locs ls hls hP hD hS)
theorem V.ret (hd : decode M.2.1 pc = .ok (.return_, 1)) (hn : M.2.2.2.1 = none) (hq : Q none h) : V M pc L [] h Q :=
  fun p l e R s m args below meth c cells slots ad cI cR D A hc Z hZ H locs ls hls hP hD hS => hZ none h H locs pc ls hq rfl ⟨hd, hn⟩ hP hD hS
theorem V.iret (hd : decode M.2.1 pc = .ok (.ireturn, 1)) (hn : ∃ ty, M.2.2.2.1 = some ty ∧ narrow ty (.int x) = .int x) (hq : Q (some (.int x)) h) : V M pc L [.int x] h Q :=
  fun p l e R s m args below meth c cells slots ad cI cR D A hc Z hZ H locs ls hls hP hD hS => hZ (some (.int x)) h H locs pc ls hq rfl ⟨hd, hn⟩ hP hD hS
theorem V.lret (hd : decode M.2.1 pc = .ok (.lreturn, 1)) (hn : M.2.2.2.1 = some .long) (hq : Q (some (.long u)) h) : V M pc L [.long u] h Q :=
  fun p l e R s m args below meth c cells slots ad cI cR D A hc Z hZ H locs ls hls hP hD hS => hZ (some (.long u)) h H locs pc ls hq rfl ⟨hd, hn⟩ hP hD hS
theorem V.eq {L' S' : List Value} {h' : List sE} (e1 : L = L') (e2 : S = S') (e3 : h = h') (k : V M pc L' S' h' Q) : V M pc L S h Q := by subst e1 e2 e3; exact k
theorem V.mono {Q' : Option Value → List sE → Prop} (k : V M pc L S h Q') (hq : ∀ r h', Q' r h' → Q r h') : V M pc L S h Q :=
  fun p l e R s m args below meth c cells slots ad cI cR D A hc Z hZ => k p l e R s m args below meth c cells slots ad cI cR D A hc Z (fun r h' H locs pc' ls q1 => hZ r h' H locs pc' ls (hq r h' q1))
/-- fields -/
def zF (own : String) (idx ci j : Nat) : Prop := ∃ r : vw_C, classes[ci]? = some r ∧ j < r.2.2 ∧ Cond.fieldLink own idx (r.2.1 j).1 (r.2.1 j).2.1 (r.2.1 j).2.2.1 ∈ lw_tbl ∧ (∀ w ∈ u_ws r.1 r.2.1 r.2.2, w ∈ lw_tbl)
theorem V.getfield {idx a ci j : Nat} {fs : List Value} {w : Value} (hd : decode M.2.1 pc = .ok (.getfield idx, 3)) (hF : zF M.1.cls idx ci j) (hh : h[a]? = some (.inr (.inr (ci, fs)))) (hw : fs[j]? = some w) (k : V M (pc + 3) L (w :: S) h Q) : V M pc L (.ref a :: S) h Q := by
  intro p l e R s m args below meth c cells slots ad cI cR D A hc Z hZ H locs ls hls hP hD hS
  obtain ⟨⟨C, T, N⟩, h1, h2, h3, h4⟩ := hF
  exact va_get hc.1 hc.2.1 hc.2.2.2.2.1 (g_lay h4) hc.2.2.2.1 hc.2.2.2.2.2.1 hP a (fs := fs.map (zA ad)) (ci := ci) (zW_at hh) h1 j h2 (hc.2.2.2.2.1 _ (g_in h3 rfl)) (fun _ hx => hx) (v := zA ad w) (by rw [List.getElem?_map, hw]; rfl) hd (k p l e R s m args below meth c cells slots ad cI cR D A hc Z hZ H locs ls hls hP hD hS)
/-- a field that may be written, of a type ty -/
def zP (ci j : Nat) (ty : FieldType) : Prop := ∃ (r : vw_C) (ty0 : Nat → FieldType), classes[ci]? = some r ∧ (∀ k, k < r.2.2 → parseFieldDescriptor (r.2.1 k).2.2.1 = some (ty0 k)) ∧ (∀ a, a < r.2.2 → ∀ b, b < r.2.2 → a ≠ b → (r.2.1 a).2.1 ≠ (r.2.1 b).2.1) ∧ (r.2.1 j).2.2.2 = false ∧ parseFieldDescriptor (r.2.1 j).2.2.1 = some ty
theorem V.putfield {idx a ci j : Nat} {fs : List Value} {ty : FieldType} (hd : decode M.2.1 pc = .ok (.putfield idx, 3)) (hF : zF M.1.cls idx ci j) (hW : zP ci j ty) (hh : h[a]? = some (.inr (.inr (ci, fs)))) (hl : j < fs.length) (hn : narrow ty (.int x) = .int x) (hf : fits ty (.int x) = true) (k : V M (pc + 3) L S (h.set a (.inr (.inr (ci, fs.set j (.int x))))) Q) : V M pc L (.int x :: .ref a :: S) h Q := by
  intro p l e R s m args below meth c cells slots ad cI cR D A hc Z hZ H locs ls hls hP hD hS
  obtain ⟨⟨C, T, N⟩, h1, h2, h3, h4⟩ := hF
  obtain ⟨⟨C', T', N'⟩, ty0, g1, g2, g3, g4, g5⟩ := hW
  cases h1.symm.trans g1
  refine va_put hc.1 hc.2.1 hc.2.2.2.2.1 (g_lay h4) ty0 g2 g3 hc.2.2.2.1 hc.2.2.2.2.2.1 hP hD hS a (fs := fs.map (zA ad)) (ci := ci) (zW_at hh) h1 j h2 (hc.2.2.2.2.1 _ (g_in h3 rfl)) (fun _ hx => hx) g4 g5 hn hf (by rw [List.length_map]; exact hl) hd (fun H1 locs1 hP hD hS => ?_)
  have ee : (zW ad cI cR h).set a (ad a, .inr (ci, (fs.map (zA ad)).set j (.int x))) = zW ad cI cR (h.set a (.inr (.inr (ci, fs.set j (.int x))))) := by
    rw [← zW_set]
    unfold zE
    dsimp only
    rw [List.map_set]
    rfl
  have hP : va_P D classes ((zW ad cI cR h).set a (ad a, .inr (ci, (fs.map (zA ad)).set j (.int x)))) H1 := hP
  have hD : va_D A ((zW ad cI cR h).set a (ad a, .inr (ci, (fs.map (zA ad)).set j (.int x)))) := hD
  rw [ee] at hP hD
  exact k p l e R s m args below meth c cells slots ad cI cR D A hc Z (fun r h' H locs pc' ls q1 q2 => hZ r h' H locs pc' ls q1 (q2.trans List.length_set)) H1 locs1 ls hls hP hD hS
theorem V.iaload {a n : Nat} {f : Nat → Int32} (hd : decode M.2.1 pc = .ok (.iaload, 1)) (hh : h[a]? = some (.inl (n, f))) (hin : vp_in x n) (k : V M (pc + 1) L (.int (f x.toNatClampNeg) :: S) h Q) : V M pc L (.int x :: .ref a :: S) h Q :=
  fun p l e R s m args below meth c cells slots ad cI cR D A hc Z hZ H locs ls hls hP hD hS => va_iald hc.1 hc.2.1 hc.2.2.2.2.2.1 hP a 0 (zW_at hh) rfl hin hd (k p l e R s m args below meth c cells slots ad cI cR D A hc Z hZ H locs ls hls hP hD hS)
theorem V.iastore {a n : Nat} {f : Nat → Int32} (hd : decode M.2.1 pc = .ok (.iastore, 1)) (hh : h[a]? = some (.inl (n, f))) (hin : vp_in x n) (k : V M (pc + 1) L S (h.set a (.inl (n, upd f x.toNatClampNeg y))) Q) : V M pc L (.int y :: .int x :: .ref a :: S) h Q := by
  intro p l e R s m args below meth c cells slots ad cI cR D A hc Z hZ H locs ls hls hP hD hS
  refine va_iast hc.1 hc.2.1 hc.2.2.2.2.2.1 hP hD hS a 0 (zW_at hh) rfl hin hd (fun H1 locs1 hP hD hS => ?_)
  have ee : (zW ad cI cR h).set a (ad a, .inl (cI, n, .inl (upd f x.toNatClampNeg y))) = zW ad cI cR (h.set a (.inl (n, upd f x.toNatClampNeg y))) := by
    rw [← zW_set]
    rfl
  rw [ee] at hP hD
  exact k p l e R s m args below meth c cells slots ad cI cR D A hc Z (fun r h' H locs pc' ls q1 q2 => hZ r h' H locs pc' ls q1 (q2.trans List.length_set)) H1 locs1 ls hls hP hD hS
theorem V.aaload {a b : Nat} {g : List Nat} (hd : decode M.2.1 pc = .ok (.aaload, 1)) (hh : h[a]? = some (.inr (.inl g))) (hin : vp_in x g.length) (hb : g[x.toNatClampNeg]? = some b) (k : V M (pc + 1) L (.ref b :: S) h Q) : V M pc L (.int x :: .ref a :: S) h Q := by
  intro p l e R s m args below meth c cells slots ad cI cR D A hc Z hZ H locs ls hls hP hD hS
  have hlt : x.toNatClampNeg < g.length := Nat.not_le.mp fun q => hin (Or.inr q)
  exact W.aald (v := .ref (ad b)) (ty := .array .int) hc.1 hc.2.1 (hP a _ (zW_at hh)) ((hc.2.2.2.2.2.1.2 1 _ rfl).1 g.length (fun j => va_rf ((g[j]?).map ad))) rfl (fun q => by cases q) (by show ¬ (x < 0 ∨ (arrV _ _ _).slots.size ≤ _); rw [arrV_size]; exact hin) (by show (arrV _ _ _).slots[_]? = _; rw [arrV_read _ _ hlt]; show some (va_rf (Option.map ad g[x.toNatClampNeg]?)) = _; rw [hb]; rfl) rfl rfl hd (k p l e R s m args below meth c cells slots ad cI cR D A hc Z hZ H locs ls hls hP hD hS)
/-- a text's length, bytes -/
theorem V.slen {i : Nat} (hi : i < 12) (hd : decode M.2.1 pc = .ok (.arraylength, 1)) (k : V M (pc + 1) L (.int (Int32.ofNat (zSl.getD i 0)) :: S) h Q) : V M pc L (.ref (2000 + i) :: S) h Q := by
  intro p l e R s m args below meth c cells slots ad cI cR D A hc Z hZ H locs ls hls hP hD hS
  obtain ⟨cell, h1, h2, h3, h4, h5, h6, h7⟩ := (hc.2.2.2.2.2.2.2.2.1.1 i hi).2.2.2
  exact W.alen (n := Int32.ofNat (zSl.getD i 0)) hc.1 hc.2.1 (by rw [hS.2.1 _ (Array.getElem?_eq_some_iff.mp h1).1 h7]; exact h1) h2 h5 rfl rfl hd (k p l e R s m args below meth c cells slots ad cI cR D A hc Z hZ H locs ls hls hP hD hS)
theorem V.sbyte {i : Nat} (hi : i < 12) (hd : decode M.2.1 pc = .ok (.baload, 1)) (hin : vp_in x (zSl.getD i 0)) (k : V M (pc + 1) L (.int ((zSb.getD i []).getD x.toNatClampNeg 0) :: S) h Q) : V M pc L (.int x :: .ref (2000 + i) :: S) h Q :=
  fun p l e R s m args below meth c cells slots ad cI cR D A hc Z hZ H locs ls hls hP hD hS => va_tb hc.1 hc.2.1 (hc.2.2.2.2.2.2.2.2.1.1 i hi).2.2.2 hS hin rfl hd (k p l e R s m args below meth c cells slots ad cI cR D A hc Z hZ H locs ls hls hP hD hS)
theorem V.scoder {i idx : Nat} (hi : i < 12) (hF : Cond.fieldLink M.1.cls idx "java/lang/String" "coder" "B" ∈ lw_tbl) (hd : decode M.2.1 pc = .ok (.getfield idx, 3)) (k : V M (pc + 3) L (.int 0 :: S) h Q) : V M pc L (.ref (1000 + i) :: S) h Q :=
  fun p l e R s m args below meth c cells slots ad cI cR D A hc Z hZ H locs ls hls hP hD hS => vk_getf hc.1 hc.2.1 (hc.2.2.2.2.2.2.2.2.1.1 i hi).2.1 hS hc.2.2.2.1 (hc.2.2.2.2.1 _ (g_in hF rfl)) (fun _ hx => hx) hd (k p l e R s m args below meth c cells slots ad cI cR D A hc Z hZ H locs ls hls hP hD hS)
theorem V.svalue {i idx : Nat} (hi : i < 12) (hF : Cond.fieldLink M.1.cls idx "java/lang/String" "value" "[B" ∈ lw_tbl) (hd : decode M.2.1 pc = .ok (.getfield idx, 3)) (k : V M (pc + 3) L (.ref (2000 + i) :: S) h Q) : V M pc L (.ref (1000 + i) :: S) h Q :=
  fun p l e R s m args below meth c cells slots ad cI cR D A hc Z hZ H locs ls hls hP hD hS => vk_getf hc.1 hc.2.1 (hc.2.2.2.2.2.2.2.2.1.1 i hi).2.2.1 hS hc.2.2.2.1 (hc.2.2.2.2.1 _ (g_in hF rfl)) (fun _ hx => hx) hd (k p l e R s m args below meth c cells slots ad cI cR D A hc Z hZ H locs ls hls hP hD hS)
theorem V.ldcS {i idx : Nat} {tx : String} (hi : i < 12) (hw : M.1.cls = "SkinLands$Tape") (hidx : zSi.getD i 0 = idx) (hd : decode M.2.1 pc = .ok (.ldc idx, 2)) (k : V M (pc + 2) L (.ref (1000 + i) :: S) h Q) : V M pc L S h Q := by
  intro p l e R s m args below meth c cells slots ad cI cR D A hc Z hZ H locs ls hls hP hD hS
  have hz := hc.2.2.2.2.2.2.2.2.2.1 i hi
  rw [hidx] at hz
  have hown := hc.2.2.2.1
  rw [hw] at hown
  exact va_ldcS hc.1 hc.2.1 hown hz hd (k p l e R s m args below meth c cells slots ad cI cR D A hc Z hZ H locs ls hls hP hD hS)
theorem V.compact {idx : Nat} (hF : Cond.fieldLink M.1.cls idx "java/lang/String" "COMPACT_STRINGS" "Z" ∈ lw_tbl) (hd : decode M.2.1 pc = .ok (.getstatic idx, 3)) (k : V M (pc + 3) L (.int 1 :: S) h Q) : V M pc L S h Q :=
  fun p l e R s m args below meth c cells slots ad cI cR D A hc Z hZ H locs ls hls hP hD hS => va_gets hc.1 hc.2.1 hc.2.2.2.2.2.2.2.2.2.2.1 hS hc.2.2.2.1 (hc.2.2.2.2.1 _ (g_in hF rfl)) (fun _ hx => hx) hd (k p l e R s m args below meth c cells slots ad cI cR D A hc Z hZ H locs ls hls hP hD hS)
theorem V.former {idx : Nat} (hF : Cond.fieldLink M.1.cls idx "jdk/internal/util/Preconditions" "SIOOBE_FORMATTER" "Ljava/util/function/BiFunction;" ∈ lw_tbl) (hd : decode M.2.1 pc = .ok (.getstatic idx, 3)) (k : V M (pc + 3) L (.ref 3000 :: S) h Q ∧ V M (pc + 3) L (.null :: S) h Q) : V M pc L S h Q := by
  intro p l e R s m args below meth c cells slots ad cI cR D A hc Z hZ H locs ls hls hP hD hS
  rcases hc.2.2.2.2.2.2.2.2.2.2.2 with hz | hz
  · exact va_gets hc.1 hc.2.1 hz hS hc.2.2.2.1 (hc.2.2.2.2.1 _ (g_in hF rfl)) (fun _ hx => hx) hd (k.2 p l e R s m args below meth c cells slots ad cI cR D A hc Z hZ H locs ls hls hP hD hS)
  · exact va_gets hc.1 hc.2.1 hz hS hc.2.2.2.1 (hc.2.2.2.2.1 _ (g_in hF rfl)) (fun _ hx => hx) hd (k.1 p l e R s m args below meth c cells slots ad cI cR D A hc Z hZ H locs ls hls hP hD hS)
theorem V.min {idx : Nat} (hl : Cond.methodLink M.1.cls idx Lib.Math.min.name ∈ lw_tbl) (hdep : 1 ≤ M.2.2.2.2) (hcat : (S.map fun v => v.category).sum ≤ 8) (hd : decode M.2.1 pc = .ok (.invokestatic idx, 3)) (k : V M (pc + 3) L (.int (if y < x then y else x) :: S) h Q) : V M pc L (.int y :: .int x :: S) h Q := by
  intro p l e R s m args below meth c cells slots ad cI cR D A hc Z hZ H locs ls hls hP hD hS
  have ee : ((S.map (zA ad)).map fun v => v.category).sum = (S.map fun v => v.category).sum := by
    rw [List.map_map]
    congr 1
    apply List.map_congr_left
    intro v _
    exact zA_cat ad v
  obtain ⟨r1, r2, r3, r4⟩ := hc.2.2.2.2.2.2.2.1
  exact va_mmin hc.1 hc.2.1 (hc.2.2.1.trans hls.1.symm) hc.2.2.2.1 (hc.2.2.2.2.1 _ (g_in hl rfl)) (hc.2.2.2.2.1 _ (g_in w_min_static rfl)) (hc.2.2.2.2.1 _ (g_in w_math_init rfl)) (hc.2.2.2.2.1 _ (g_in w_min_code rfl)) (by omega) (by rw [ee]; omega) r1 r2 hd (k p l e R s m args below meth c cells slots ad cI cR D A hc Z hZ H locs ls hls hP hD hS)
theorem V.acopy {idx a b n0 n1 : Nat} {f g : Nat → Int32} {sp dp n : Int32} (hl : Cond.methodLink M.1.cls idx arraycopyName ∈ lw_tbl) (hdep : 1 ≤ M.2.2.2.2) (hcat : (S.map fun v => v.category).sum ≤ 8) (hd : decode M.2.1 pc = .ok (.invokestatic idx, 3)) (hha : h[a]? = some (.inl (n0, f))) (hhb : h[b]? = some (.inl (n1, g)))
    (h1 : ¬ sp < 0) (h2 : ¬ dp < 0) (h3 : ¬ n < 0) (h4 : sp.toNatClampNeg + n.toNatClampNeg ≤ n0) (h5 : dp.toNatClampNeg + n.toNatClampNeg ≤ n1) (k : V M (pc + 3) L S (h.set b (.inl (n1, va_cpy f g sp.toNatClampNeg dp.toNatClampNeg n.toNatClampNeg))) Q) : V M pc L (.int n :: .int dp :: .ref b :: .int sp :: .ref a :: S) h Q := by
  intro p l e R s m args below meth c cells slots ad cI cR D A hc Z hZ H locs ls hls hP hD hS
  have ee : ((S.map (zA ad)).map fun v => v.category).sum = (S.map fun v => v.category).sum := by
    rw [List.map_map]
    congr 1
    apply List.map_congr_left
    intro v _
    exact zA_cat ad v
  obtain ⟨r1, r2, r3, r4⟩ := hc.2.2.2.2.2.2.2.1
  have hnf : nativeFrameWords "java/lang/System" "arraycopy" 5 ≤ 21 := by decide +kernel
  refine va_copyi hc.1 hc.2.1 (hc.2.2.1.trans hls.1.symm) hc.2.2.2.1 (hc.2.2.2.2.1 _ (g_in hl rfl)) (hc.2.2.2.2.1 _ (g_in w_copy_native rfl)) (hc.2.2.2.2.1 _ (g_in w_copy_static rfl)) (hc.2.2.2.2.1 _ (g_in w_copy_init rfl)) hc.2.2.2.2.2.1 hP hD hS a b 0 0 (zW_at hha) (zW_at hhb) rfl rfl rfl h1 h2 h3 h4 h5 (fun i _ => rfl) (by omega) (by rw [ee]; omega) hd (fun H1 locs1 hP hD hS => ?_)
  have ee : (zW ad cI cR h).set b (ad b, .inl (cI, n1, .inl (va_cpy f g sp.toNatClampNeg dp.toNatClampNeg n.toNatClampNeg))) = zW ad cI cR (h.set b (.inl (n1, va_cpy f g sp.toNatClampNeg dp.toNatClampNeg n.toNatClampNeg))) := by
    rw [← zW_set]
    rfl
  rw [ee] at hP hD
  exact k p l e R s m args below meth c cells slots ad cI cR D A hc Z (fun r h' H locs pc' ls q1 q2 => hZ r h' H locs pc' ls q1 (q2.trans List.length_set)) H1 locs1 ls hls hP hD hS
end ZV
