/-! the constructors: their runs -/
set_option maxRecDepth 4000
def r00 : Nat → Int32 := fun j => if j = 2 then nI 1 else if 51 ≤ j then -1 else 0
def fd00 : Nat → Int32 := fun _ => 0
def sh00 : tyS := (fun _ => 0, fun _ => 0, fun _ => 0)
def tp00 : tyP := (fun _ => 0, 0, 0, 0, 0, 0)
theorem LW.pI {M : MI} {p : Program} {l : Launch} {e : Env} {R : Room} {s : State} {m : MethodId} {args : Array Value} {below : List Frame} {meth : Method} {c : Code} {cells slots : Nat} {ad : Nat → Nat} {cI cR : ClassId} {D : va_G} {A : Nat → Prop} {Z : State → Prop} {pc : Nat} {L S : List Value} {h : List sE} {x z : Int32} (e1 : x = z) (k : LW M p l e R s m args below meth c cI cR D A Z cells slots ad pc L (.int z :: S) h) : LW M p l e R s m args below meth c cI cR D A Z cells slots ad pc L (.int x :: S) h := by subst e1; exact k
theorem ntz {s i : Nat} : (0 : Int32) = nt sh00.1 s i := by
  unfold nt
  split <;> rfl
theorem zff_T_11 : zFf "SkinLands$Tape" 11 2 0 := ⟨(N_T, T_T, 6), ty_T, rfl, by decide, List.mem_of_getElem? (i := 137) (by decide +kernel), lay_T, tyok_T, nm_T, rfl, rfl, ty_T 0, tyok_T 0 (by decide), rfl⟩
theorem run_T {p : Program} {l : Launch} {e : Env} {R : Room} {s : State} {m : MethodId} {args : Array Value} {below : List Frame} {meth : Method} {c : Code} {cI cR : ClassId} {D : va_G} {A : Nat → Prop} {Z : State → Prop} {ad : Nat → Nat} (hr : 1 ≤ R.cells ∧ 120 ≤ R.slots ∧ 1 ≤ R.frames ∧ 40 ≤ R.locals) (hc : LC m_T_init p s m args c cI cR D A) (hO : zAO s) (hin : meth.name = "<init>")
    (k : ∀ (ad' : Nat → Nat) (pc' : Nat) (L : List Value), decode m_T_init.2.1 pc' = .ok (.return_, 1) → ad' 0 = ad 0 → LW m_T_init p l e R s m args below meth c cI cR D A Z 1 120 ad' pc' L [] (tWt tp00)) : LW m_T_init p l e R s m args below meth c cI cR D A Z 0 0 ad 0 [Value.ref 0] [] [.inr (.inr (2, [.null, .int 0, .int 0, .int 0, .int 0, .int 0]))] := by
  refine LW.aload_n hc (i := 0) (by decide +kernel) rfl ?_
  refine LW.eq (L' := [.ref 0]) (S' := [.ref 0]) (h' := [.inr (.inr (2, [.null, .int 0, .int 0, .int 0, .int 0, .int 0]))]) rfl rfl rfl ?_
  refine LW.obj hc (idx := 3) (a := 0) (List.mem_of_getElem? (i := 136) (by decide +kernel)) (by have := hr.2.2.1; have := hr.2.2.2; omega) (by decide) (by decide +kernel) ?_
  refine LW.eq (L' := [.ref 0]) (S' := []) (h' := [.inr (.inr (2, [.null, .int 0, .int 0, .int 0, .int 0, .int 0]))]) rfl rfl rfl ?_
  refine LW.aload_n hc (i := 0) (by decide +kernel) rfl ?_
  refine LW.eq (L' := [.ref 0]) (S' := [.ref 0]) (h' := [.inr (.inr (2, [.null, .int 0, .int 0, .int 0, .int 0, .int 0]))]) rfl rfl rfl ?_
  refine LW.bipush hc (n := 120) (by decide +kernel) (LW.pI (z := nI 120) (by decide) ?_)
  refine LW.eq (L' := [.ref 0]) (S' := [.int (nI 120), .ref 0]) (h' := [.inr (.inr (2, [.null, .int 0, .int 0, .int 0, .int 0, .int 0]))]) rfl rfl rfl ?_
  refine LW.newa (n := 120) hc (by decide) (Nat.le_trans (by decide) hr.1) (Nat.le_trans (by decide) hr.2.1) (by decide +kernel) rfl rfl rfl (fun q7 => ?_)
  refine LW.eq (L' := [.ref 0]) (S' := [.ref 1, .ref 0]) (h' := [.inr (.inr (2, [.null, .int 0, .int 0, .int 0, .int 0, .int 0])), .inl (120, fun _ => 0)]) rfl rfl rfl ?_
  refine LW.putF hc (a := 0) (b := 1) hin (by decide +kernel) zff_T_11 rfl (by decide) ?_
  refine LW.eq (L' := [.ref 0]) (S' := []) (h' := [.inr (.inr (2, [.ref 1, .int 0, .int 0, .int 0, .int 0, .int 0])), .inl (120, fun _ => 0)]) rfl rfl rfl ?_
  exact LW.weq (h' := tWt tp00) ⟨rfl, ⟨rfl, fun _ _ => rfl⟩, trivial⟩ (k _ 12 _ (by decide +kernel) rfl)
theorem zmi_T : zMb m_T_init 0 := ⟨List.mem_of_getElem? (i := 135) (by decide +kernel), (List.mem_of_getElem? (i := 71) (by decide +kernel)), ⟨by decide +kernel, by decide +kernel, by decide +kernel⟩, by decide +kernel, by decide⟩
theorem zfs_T : ∀ v ∈ ([.null, .int 0, .int 0, .int 0, .int 0, .int 0] : List Value), ∀ a, v ≠ .ref a := by
  intro v hv a ev
  subst ev
  simp at hv
theorem met_T (l : Launch) (D : va_G) (cI cR : ClassId) (h0 sz : Nat) : Met l m_T_init.1 (zws m_T_init) (zrI m_T_init 1 120) (zPi D cI cR 2 [.null, .int 0, .int 0, .int 0, .int 0, .int 0] h0 sz) (zQi D cI cR 2 [.null, .int 0, .int 0, .int 0, .int 0, .int 0] h0 sz (tWt tp00)) 1 120 (va_A [(h0, .inr (2, [.null, .int 0, .int 0, .int 0, .int 0, .int 0]))] sz) :=
  ctor_met (M := m_T_init) l (by decide +kernel) rfl (by decide) rfl zfs_T (fun p e R s m args below meth c cI cR D A ad Z hr hc hO hin k => run_T hr hc hO hin k) D cI cR h0 sz
theorem zff_S_11 : zFf "SkinLands$Sheets" 11 1 0 := ⟨(N_S, T_S, 3), ty_S, rfl, by decide, List.mem_of_getElem? (i := 121) (by decide +kernel), lay_S, tyok_S, nm_S, rfl, rfl, ty_S 0, tyok_S 0 (by decide), rfl⟩
theorem zff_S_14 : zFf "SkinLands$Sheets" 14 1 1 := ⟨(N_S, T_S, 3), ty_S, rfl, by decide, List.mem_of_getElem? (i := 122) (by decide +kernel), lay_S, tyok_S, nm_S, rfl, rfl, ty_S 1, tyok_S 1 (by decide), rfl⟩
theorem zff_S_18 : zFf "SkinLands$Sheets" 18 1 2 := ⟨(N_S, T_S, 3), ty_S, rfl, by decide, List.mem_of_getElem? (i := 123) (by decide +kernel), lay_S, tyok_S, nm_S, rfl, rfl, ty_S 2, tyok_S 2 (by decide), rfl⟩
theorem run_S {p : Program} {l : Launch} {e : Env} {R : Room} {s : State} {m : MethodId} {args : Array Value} {below : List Frame} {meth : Method} {c : Code} {cI cR : ClassId} {D : va_G} {A : Nat → Prop} {Z : State → Prop} {ad : Nat → Nat} (hr : 7 ≤ R.cells ∧ 172 ≤ R.slots ∧ 1 ≤ R.frames ∧ 40 ≤ R.locals) (hc : LC m_S_init p s m args c cI cR D A) (hO : zAO s) (hin : meth.name = "<init>")
    (k : ∀ (ad' : Nat → Nat) (pc' : Nat) (L : List Value), decode m_S_init.2.1 pc' = .ok (.return_, 1) → ad' 0 = ad 0 → LW m_S_init p l e R s m args below meth c cI cR D A Z 7 172 ad' pc' L [] (sWt sh00)) : LW m_S_init p l e R s m args below meth c cI cR D A Z 0 0 ad 0 [Value.ref 0] [] [.inr (.inr (1, [.null, .null, .null]))] := by
  refine LW.aload_n hc (i := 0) (by decide +kernel) rfl ?_
  refine LW.eq (L' := [.ref 0]) (S' := [.ref 0]) (h' := [.inr (.inr (1, [.null, .null, .null]))]) rfl rfl rfl ?_
  refine LW.obj hc (idx := 1) (a := 0) (List.mem_of_getElem? (i := 119) (by decide +kernel)) (by have := hr.2.2.1; have := hr.2.2.2; omega) (by decide) (by decide +kernel) ?_
  refine LW.eq (L' := [.ref 0]) (S' := []) (h' := [.inr (.inr (1, [.null, .null, .null]))]) rfl rfl rfl ?_
  refine LW.aload_n hc (i := 0) (by decide +kernel) rfl ?_
  refine LW.eq (L' := [.ref 0]) (S' := [.ref 0]) (h' := [.inr (.inr (1, [.null, .null, .null]))]) rfl rfl rfl ?_
  refine LW.iconst hc (n := 4) (by decide +kernel) (LW.pI (z := nI 4) (by decide) ?_)
  refine LW.eq (L' := [.ref 0]) (S' := [.int (nI 4), .ref 0]) (h' := [.inr (.inr (1, [.null, .null, .null]))]) rfl rfl rfl ?_
  refine LW.bipush hc (n := 40) (by decide +kernel) (LW.pI (z := nI 40) (by decide) ?_)
  refine LW.eq (L' := [.ref 0]) (S' := [.int (nI 40), .int (nI 4), .ref 0]) (h' := [.inr (.inr (1, [.null, .null, .null]))]) rfl rfl rfl ?_
  refine LW.mna (idx := 9) (N := 4) (K := 40) hc hO (by decide) (by decide) (List.mem_of_getElem? (i := 120) (by decide +kernel)) (Nat.le_trans (by decide) hr.1) (Nat.le_trans (by decide) hr.2.1) (by decide +kernel) rfl rfl rfl (by decide) (fun q8 => ?_)
  refine LW.eq (L' := [.ref 0]) (S' := [.ref 1, .ref 0]) (h' := [.inr (.inr (1, [.null, .null, .null])), .inr (.inl [2, 3, 4, 5]), .inl (40, fun _ => 0), .inl (40, fun _ => 0), .inl (40, fun _ => 0), .inl (40, fun _ => 0)]) rfl rfl rfl ?_
  refine LW.putF hc (a := 0) (b := 1) hin (by decide +kernel) zff_S_11 rfl (by decide) ?_
  refine LW.eq (L' := [.ref 0]) (S' := []) (h' := [.inr (.inr (1, [.ref 1, .null, .null])), .inr (.inl [2, 3, 4, 5]), .inl (40, fun _ => 0), .inl (40, fun _ => 0), .inl (40, fun _ => 0), .inl (40, fun _ => 0)]) rfl rfl rfl ?_
  refine LW.aload_n hc (i := 0) (by decide +kernel) rfl ?_
  refine LW.eq (L' := [.ref 0]) (S' := [.ref 0]) (h' := [.inr (.inr (1, [.ref 1, .null, .null])), .inr (.inl [2, 3, 4, 5]), .inl (40, fun _ => 0), .inl (40, fun _ => 0), .inl (40, fun _ => 0), .inl (40, fun _ => 0)]) rfl rfl rfl ?_
  refine LW.iconst hc (n := 4) (by decide +kernel) (LW.pI (z := nI 4) (by decide) ?_)
  refine LW.eq (L' := [.ref 0]) (S' := [.int (nI 4), .ref 0]) (h' := [.inr (.inr (1, [.ref 1, .null, .null])), .inr (.inl [2, 3, 4, 5]), .inl (40, fun _ => 0), .inl (40, fun _ => 0), .inl (40, fun _ => 0), .inl (40, fun _ => 0)]) rfl rfl rfl ?_
  refine LW.newa (n := 4) hc (by decide) (Nat.le_trans (by decide) hr.1) (Nat.le_trans (by decide) hr.2.1) (by decide +kernel) rfl rfl rfl (fun q17 => ?_)
  refine LW.eq (L' := [.ref 0]) (S' := [.ref 6, .ref 0]) (h' := [.inr (.inr (1, [.ref 1, .null, .null])), .inr (.inl [2, 3, 4, 5]), .inl (40, fun _ => 0), .inl (40, fun _ => 0), .inl (40, fun _ => 0), .inl (40, fun _ => 0), .inl (4, fun _ => 0)]) rfl rfl rfl ?_
  refine LW.putF hc (a := 0) (b := 6) hin (by decide +kernel) zff_S_14 rfl (by decide) ?_
  refine LW.eq (L' := [.ref 0]) (S' := []) (h' := [.inr (.inr (1, [.ref 1, .ref 6, .null])), .inr (.inl [2, 3, 4, 5]), .inl (40, fun _ => 0), .inl (40, fun _ => 0), .inl (40, fun _ => 0), .inl (40, fun _ => 0), .inl (4, fun _ => 0)]) rfl rfl rfl ?_
  refine LW.aload_n hc (i := 0) (by decide +kernel) rfl ?_
  refine LW.eq (L' := [.ref 0]) (S' := [.ref 0]) (h' := [.inr (.inr (1, [.ref 1, .ref 6, .null])), .inr (.inl [2, 3, 4, 5]), .inl (40, fun _ => 0), .inl (40, fun _ => 0), .inl (40, fun _ => 0), .inl (40, fun _ => 0), .inl (4, fun _ => 0)]) rfl rfl rfl ?_
  refine LW.iconst hc (n := 4) (by decide +kernel) (LW.pI (z := nI 4) (by decide) ?_)
  refine LW.eq (L' := [.ref 0]) (S' := [.int (nI 4), .ref 0]) (h' := [.inr (.inr (1, [.ref 1, .ref 6, .null])), .inr (.inl [2, 3, 4, 5]), .inl (40, fun _ => 0), .inl (40, fun _ => 0), .inl (40, fun _ => 0), .inl (40, fun _ => 0), .inl (4, fun _ => 0)]) rfl rfl rfl ?_
  refine LW.newa (n := 4) hc (by decide) (Nat.le_trans (by decide) hr.1) (Nat.le_trans (by decide) hr.2.1) (by decide +kernel) rfl rfl rfl (fun q24 => ?_)
  refine LW.eq (L' := [.ref 0]) (S' := [.ref 7, .ref 0]) (h' := [.inr (.inr (1, [.ref 1, .ref 6, .null])), .inr (.inl [2, 3, 4, 5]), .inl (40, fun _ => 0), .inl (40, fun _ => 0), .inl (40, fun _ => 0), .inl (40, fun _ => 0), .inl (4, fun _ => 0), .inl (4, fun _ => 0)]) rfl rfl rfl ?_
  refine LW.putF hc (a := 0) (b := 7) hin (by decide +kernel) zff_S_18 rfl (by decide) ?_
  refine LW.eq (L' := [.ref 0]) (S' := []) (h' := [.inr (.inr (1, [.ref 1, .ref 6, .ref 7])), .inr (.inl [2, 3, 4, 5]), .inl (40, fun _ => 0), .inl (40, fun _ => 0), .inl (40, fun _ => 0), .inl (40, fun _ => 0), .inl (4, fun _ => 0), .inl (4, fun _ => 0)]) rfl rfl rfl ?_
  exact LW.weq (h' := sWt sh00) ⟨rfl, rfl, ⟨rfl, fun i hi => ntz⟩, ⟨rfl, fun i hi => ntz⟩, ⟨rfl, fun i hi => ntz⟩, ⟨rfl, fun i hi => ntz⟩, ⟨rfl, fun _ _ => rfl⟩, ⟨rfl, fun _ _ => rfl⟩, trivial⟩ (k _ 29 _ (by decide +kernel) rfl)
theorem zmi_S : zMb m_S_init 0 := ⟨List.mem_of_getElem? (i := 118) (by decide +kernel), (List.mem_of_getElem? (i := 70) (by decide +kernel)), ⟨by decide +kernel, by decide +kernel, by decide +kernel⟩, by decide +kernel, by decide⟩
theorem zfs_S : ∀ v ∈ ([.null, .null, .null] : List Value), ∀ a, v ≠ .ref a := by
  intro v hv a ev
  subst ev
  simp at hv
theorem met_S (l : Launch) (D : va_G) (cI cR : ClassId) (h0 sz : Nat) : Met l m_S_init.1 (zws m_S_init) (zrI m_S_init 7 172) (zPi D cI cR 1 [.null, .null, .null] h0 sz) (zQi D cI cR 1 [.null, .null, .null] h0 sz (sWt sh00)) 7 172 (va_A [(h0, .inr (1, [.null, .null, .null]))] sz) :=
  ctor_met (M := m_S_init) l (by decide +kernel) rfl (by decide) rfl zfs_S (fun p e R s m args below meth c cI cR D A ad Z hr hc hO hin k => run_S hr hc hO hin k) D cI cR h0 sz
theorem up1 {i j : Nat} (hi : i < 2147483648) : upd (fun j => if j < i then (-1 : Int32) else 0) (nI i).toNatClampNeg (-1) j = if j < i + 1 then -1 else 0 := by
  rw [nI_cl hi]
  unfold upd
  by_cases c : j = i
  · rw [if_pos c, if_pos (by omega)]
  · rw [if_neg c]
    show (if j < i then (-1 : Int32) else 0) = _
    by_cases d : j < i
    · rw [if_pos d, if_pos (by omega)]
    · rw [if_neg d, if_neg (by omega)]
theorem up0 {j : Nat} : (0 : Int32) = (fun j => if j < 0 then (-1 : Int32) else 0) j := (if_neg (Nat.not_lt_zero j)).symm
theorem r00_its {k w : Nat} (hw : w < 6) : its r00 k w = 0 := by
  unfold its r00
  split
  · rw [if_neg (by omega), if_neg (by omega)]
  · rfl
theorem r00_hi {j : Nat} : r00 (51 + j) = -1 := by
  unfold r00
  rw [if_neg (by omega), if_pos (by omega)]
theorem r00_held {j : Nat} (hj : j < 10) : (if j < 10 then (-1 : Int32) else 0) = r00 (51 + j) := by rw [r00_hi, if_pos hj]
theorem zff_F_13 : zFf "SkinLands$Family" 13 0 0 := ⟨(N_F, T_F, 5), ty_F, rfl, by decide, List.mem_of_getElem? (i := 97) (by decide +kernel), lay_F, tyok_F, nm_F, rfl, rfl, ty_F 0, tyok_F 0 (by decide), rfl⟩
theorem zff_F_16 : zFf "SkinLands$Family" 16 0 1 := ⟨(N_F, T_F, 5), ty_F, rfl, by decide, List.mem_of_getElem? (i := 98) (by decide +kernel), lay_F, tyok_F, nm_F, rfl, rfl, ty_F 1, tyok_F 1 (by decide), rfl⟩
theorem lp_F {p : Program} {l : Launch} {e : Env} {R : Room} {s : State} {m : MethodId} {args : Array Value} {below : List Frame} {meth : Method} {c : Code} {cells slots : Nat} {ad : Nat → Nat} {cI cR : ClassId} {D : va_G} {A : Nat → Prop} {Z : State → Prop} (hc : LC m_F_init p s m args c cI cR D A) (k : LW m_F_init p l e R s m args below meth c cI cR D A Z cells slots ad 45 [.ref 0, .int (nI 10)] [] [.inr (.inr (0, [.ref 1, .ref 8, .int 0, .int 0, .int 0])), .inr (.inl [2, 3, 4, 5, 6, 7]), .inl (8, fun _ => 0), .inl (8, fun _ => 0), .inl (8, fun _ => 0), .inl (8, fun _ => 0), .inl (8, fun _ => 0), .inl (8, fun _ => 0), .inl (10, fun j => if j < 10 then (-1 : Int32) else 0)]) : ∀ d i : Nat, i + d = 10 → LW m_F_init p l e R s m args below meth c cI cR D A Z cells slots ad 26 [.ref 0, .int (nI i)] [] [.inr (.inr (0, [.ref 1, .ref 8, .int 0, .int 0, .int 0])), .inr (.inl [2, 3, 4, 5, 6, 7]), .inl (8, fun _ => 0), .inl (8, fun _ => 0), .inl (8, fun _ => 0), .inl (8, fun _ => 0), .inl (8, fun _ => 0), .inl (8, fun _ => 0), .inl (10, fun j => if j < i then (-1 : Int32) else 0)] := by
  intro d
  induction d with
  | zero =>
    intro i hi
    have ei : i = 10 := by omega
    subst ei
    refine LW.iload_n hc (i := 1) (by decide +kernel) rfl ?_
    refine LW.eq (L' := [.ref 0, .int (nI 10)]) (S' := [.int (nI 10)]) (h' := [.inr (.inr (0, [.ref 1, .ref 8, .int 0, .int 0, .int 0])), .inr (.inl [2, 3, 4, 5, 6, 7]), .inl (8, fun _ => 0), .inl (8, fun _ => 0), .inl (8, fun _ => 0), .inl (8, fun _ => 0), .inl (8, fun _ => 0), .inl (8, fun _ => 0), .inl (10, fun j => if j < 10 then (-1 : Int32) else 0)]) rfl rfl rfl ?_
    refine LW.bipush hc (n := 10) (by decide +kernel) (LW.pI (z := nI 10) (by decide) ?_)
    refine LW.eq (L' := [.ref 0, .int (nI 10)]) (S' := [.int (nI 10), .int (nI 10)]) (h' := [.inr (.inr (0, [.ref 1, .ref 8, .int 0, .int 0, .int 0])), .inr (.inl [2, 3, 4, 5, 6, 7]), .inl (8, fun _ => 0), .inl (8, fun _ => 0), .inl (8, fun _ => 0), .inl (8, fun _ => 0), .inl (8, fun _ => 0), .inl (8, fun _ => 0), .inl (10, fun j => if j < 10 then (-1 : Int32) else 0)]) rfl rfl rfl ?_
    refine LW.icmp_ge hc (tgt := 45) (off := 16) (by decide +kernel) (by decide) (fun _ => k) (fun hx => absurd (by decide) hx)
  | succ d ih =>
    intro i hi
    refine LW.iload_n hc (i := 1) (by decide +kernel) rfl ?_
    refine LW.eq (L' := [.ref 0, .int (nI i)]) (S' := [.int (nI i)]) (h' := [.inr (.inr (0, [.ref 1, .ref 8, .int 0, .int 0, .int 0])), .inr (.inl [2, 3, 4, 5, 6, 7]), .inl (8, fun _ => 0), .inl (8, fun _ => 0), .inl (8, fun _ => 0), .inl (8, fun _ => 0), .inl (8, fun _ => 0), .inl (8, fun _ => 0), .inl (10, fun j => if j < i then (-1 : Int32) else 0)]) rfl rfl rfl ?_
    refine LW.bipush hc (n := 10) (by decide +kernel) (LW.pI (z := nI 10) (by decide) ?_)
    refine LW.eq (L' := [.ref 0, .int (nI i)]) (S' := [.int (nI 10), .int (nI i)]) (h' := [.inr (.inr (0, [.ref 1, .ref 8, .int 0, .int 0, .int 0])), .inr (.inl [2, 3, 4, 5, 6, 7]), .inl (8, fun _ => 0), .inl (8, fun _ => 0), .inl (8, fun _ => 0), .inl (8, fun _ => 0), .inl (8, fun _ => 0), .inl (8, fun _ => 0), .inl (10, fun j => if j < i then (-1 : Int32) else 0)]) rfl rfl rfl ?_
    refine LW.icmp_ge hc (tgt := 45) (off := 16) (by decide +kernel) (by decide) (fun hx => absurd hx (nI_ge (by omega) (by decide))) (fun _ => ?_)
    refine LW.aload_n hc (i := 0) (by decide +kernel) rfl ?_
    refine LW.eq (L' := [.ref 0, .int (nI i)]) (S' := [.ref 0]) (h' := [.inr (.inr (0, [.ref 1, .ref 8, .int 0, .int 0, .int 0])), .inr (.inl [2, 3, 4, 5, 6, 7]), .inl (8, fun _ => 0), .inl (8, fun _ => 0), .inl (8, fun _ => 0), .inl (8, fun _ => 0), .inl (8, fun _ => 0), .inl (8, fun _ => 0), .inl (10, fun j => if j < i then (-1 : Int32) else 0)]) rfl rfl rfl ?_
    refine LW.getfield hc (a := 0) (by decide +kernel) zf_F_16 rfl rfl ?_
    refine LW.eq (L' := [.ref 0, .int (nI i)]) (S' := [.ref 8]) (h' := [.inr (.inr (0, [.ref 1, .ref 8, .int 0, .int 0, .int 0])), .inr (.inl [2, 3, 4, 5, 6, 7]), .inl (8, fun _ => 0), .inl (8, fun _ => 0), .inl (8, fun _ => 0), .inl (8, fun _ => 0), .inl (8, fun _ => 0), .inl (8, fun _ => 0), .inl (10, fun j => if j < i then (-1 : Int32) else 0)]) rfl rfl rfl ?_
    refine LW.iload_n hc (i := 1) (by decide +kernel) rfl ?_
    refine LW.eq (L' := [.ref 0, .int (nI i)]) (S' := [.int (nI i), .ref 8]) (h' := [.inr (.inr (0, [.ref 1, .ref 8, .int 0, .int 0, .int 0])), .inr (.inl [2, 3, 4, 5, 6, 7]), .inl (8, fun _ => 0), .inl (8, fun _ => 0), .inl (8, fun _ => 0), .inl (8, fun _ => 0), .inl (8, fun _ => 0), .inl (8, fun _ => 0), .inl (10, fun j => if j < i then (-1 : Int32) else 0)]) rfl rfl rfl ?_
    refine LW.iconst hc (n := (-1)) (by decide +kernel) (LW.pI (z := (-1)) (by decide) ?_)
    refine LW.eq (L' := [.ref 0, .int (nI i)]) (S' := [.int ((-1)), .int (nI i), .ref 8]) (h' := [.inr (.inr (0, [.ref 1, .ref 8, .int 0, .int 0, .int 0])), .inr (.inl [2, 3, 4, 5, 6, 7]), .inl (8, fun _ => 0), .inl (8, fun _ => 0), .inl (8, fun _ => 0), .inl (8, fun _ => 0), .inl (8, fun _ => 0), .inl (8, fun _ => 0), .inl (10, fun j => if j < i then (-1 : Int32) else 0)]) rfl rfl rfl ?_
    refine LW.iastore hc (a := 8) (by decide +kernel) rfl (vp_in_nI (by omega) (by decide)) ?_
    refine LW.weq (h' := [.inr (.inr (0, [.ref 1, .ref 8, .int 0, .int 0, .int 0])), .inr (.inl [2, 3, 4, 5, 6, 7]), .inl (8, fun _ => 0), .inl (8, fun _ => 0), .inl (8, fun _ => 0), .inl (8, fun _ => 0), .inl (8, fun _ => 0), .inl (8, fun _ => 0), .inl (10, fun j => if j < (i + 1) then (-1 : Int32) else 0)]) ⟨weq1_rfl _, weq1_rfl _, weq1_rfl _, weq1_rfl _, weq1_rfl _, weq1_rfl _, weq1_rfl _, weq1_rfl _, ⟨rfl, fun j hj => up1 (i := i) (j := j) (by omega)⟩, trivial⟩ ?_
    refine LW.eq (L' := [.ref 0, .int (nI i)]) (S' := []) (h' := [.inr (.inr (0, [.ref 1, .ref 8, .int 0, .int 0, .int 0])), .inr (.inl [2, 3, 4, 5, 6, 7]), .inl (8, fun _ => 0), .inl (8, fun _ => 0), .inl (8, fun _ => 0), .inl (8, fun _ => 0), .inl (8, fun _ => 0), .inl (8, fun _ => 0), .inl (10, fun j => if j < (i + 1) then (-1 : Int32) else 0)]) rfl rfl rfl ?_
    refine LW.iinc hc (i := 1) (n := 1) (by decide +kernel) (by decide) rfl rfl ?_
    rw [show nI i + Int32.ofInt 1 = nI (i + 1) from nI_add i 1]
    refine LW.eq (L' := [.ref 0, .int (nI (i + 1))]) (S' := []) (h' := [.inr (.inr (0, [.ref 1, .ref 8, .int 0, .int 0, .int 0])), .inr (.inl [2, 3, 4, 5, 6, 7]), .inl (8, fun _ => 0), .inl (8, fun _ => 0), .inl (8, fun _ => 0), .inl (8, fun _ => 0), .inl (8, fun _ => 0), .inl (8, fun _ => 0), .inl (10, fun j => if j < (i + 1) then (-1 : Int32) else 0)]) rfl rfl rfl ?_
    exact LW.goto hc (tgt := 26) (off := -16) (by decide +kernel) (by decide) (ih (i + 1) (by omega))
theorem run_F {p : Program} {l : Launch} {e : Env} {R : Room} {s : State} {m : MethodId} {args : Array Value} {below : List Frame} {meth : Method} {c : Code} {cI cR : ClassId} {D : va_G} {A : Nat → Prop} {Z : State → Prop} {ad : Nat → Nat} (hr : 8 ≤ R.cells ∧ 64 ≤ R.slots ∧ 1 ≤ R.frames ∧ 40 ≤ R.locals) (hc : LC m_F_init p s m args c cI cR D A) (hO : zAO s) (hin : meth.name = "<init>")
    (k : ∀ (ad' : Nat → Nat) (pc' : Nat) (L : List Value), decode m_F_init.2.1 pc' = .ok (.return_, 1) → ad' 0 = ad 0 → LW m_F_init p l e R s m args below meth c cI cR D A Z 8 64 ad' pc' L [] (fW r00)) : LW m_F_init p l e R s m args below meth c cI cR D A Z 0 0 ad 0 [Value.ref 0, Value.null] [] [.inr (.inr (0, [.null, .null, .int 0, .int 0, .int 0]))] := by
  refine LW.aload_n hc (i := 0) (by decide +kernel) rfl ?_
  refine LW.eq (L' := [.ref 0, .null]) (S' := [.ref 0]) (h' := [.inr (.inr (0, [.null, .null, .int 0, .int 0, .int 0]))]) rfl rfl rfl ?_
  refine LW.obj hc (idx := 3) (a := 0) (List.mem_of_getElem? (i := 94) (by decide +kernel)) (by have := hr.2.2.1; have := hr.2.2.2; omega) (by decide) (by decide +kernel) ?_
  refine LW.eq (L' := [.ref 0, .null]) (S' := []) (h' := [.inr (.inr (0, [.null, .null, .int 0, .int 0, .int 0]))]) rfl rfl rfl ?_
  refine LW.aload_n hc (i := 0) (by decide +kernel) rfl ?_
  refine LW.eq (L' := [.ref 0, .null]) (S' := [.ref 0]) (h' := [.inr (.inr (0, [.null, .null, .int 0, .int 0, .int 0]))]) rfl rfl rfl ?_
  refine LW.bipush hc (n := 6) (by decide +kernel) (LW.pI (z := nI 6) (by decide) ?_)
  refine LW.eq (L' := [.ref 0, .null]) (S' := [.int (nI 6), .ref 0]) (h' := [.inr (.inr (0, [.null, .null, .int 0, .int 0, .int 0]))]) rfl rfl rfl ?_
  refine LW.bipush hc (n := 8) (by decide +kernel) (LW.pI (z := nI 8) (by decide) ?_)
  refine LW.eq (L' := [.ref 0, .null]) (S' := [.int (nI 8), .int (nI 6), .ref 0]) (h' := [.inr (.inr (0, [.null, .null, .int 0, .int 0, .int 0]))]) rfl rfl rfl ?_
  refine LW.mna (idx := 11) (N := 6) (K := 8) hc hO (by decide) (by decide) (List.mem_of_getElem? (i := 95) (by decide +kernel)) (Nat.le_trans (by decide) hr.1) (Nat.le_trans (by decide) hr.2.1) (by decide +kernel) rfl rfl rfl (by decide) (fun q9 => ?_)
  refine LW.eq (L' := [.ref 0, .null]) (S' := [.ref 1, .ref 0]) (h' := [.inr (.inr (0, [.null, .null, .int 0, .int 0, .int 0])), .inr (.inl [2, 3, 4, 5, 6, 7]), .inl (8, fun _ => 0), .inl (8, fun _ => 0), .inl (8, fun _ => 0), .inl (8, fun _ => 0), .inl (8, fun _ => 0), .inl (8, fun _ => 0)]) rfl rfl rfl ?_
  refine LW.putF hc (a := 0) (b := 1) hin (by decide +kernel) zff_F_13 rfl (by decide) ?_
  refine LW.eq (L' := [.ref 0, .null]) (S' := []) (h' := [.inr (.inr (0, [.ref 1, .null, .int 0, .int 0, .int 0])), .inr (.inl [2, 3, 4, 5, 6, 7]), .inl (8, fun _ => 0), .inl (8, fun _ => 0), .inl (8, fun _ => 0), .inl (8, fun _ => 0), .inl (8, fun _ => 0), .inl (8, fun _ => 0)]) rfl rfl rfl ?_
  refine LW.aload_n hc (i := 0) (by decide +kernel) rfl ?_
  refine LW.eq (L' := [.ref 0, .null]) (S' := [.ref 0]) (h' := [.inr (.inr (0, [.ref 1, .null, .int 0, .int 0, .int 0])), .inr (.inl [2, 3, 4, 5, 6, 7]), .inl (8, fun _ => 0), .inl (8, fun _ => 0), .inl (8, fun _ => 0), .inl (8, fun _ => 0), .inl (8, fun _ => 0), .inl (8, fun _ => 0)]) rfl rfl rfl ?_
  refine LW.bipush hc (n := 10) (by decide +kernel) (LW.pI (z := nI 10) (by decide) ?_)
  refine LW.eq (L' := [.ref 0, .null]) (S' := [.int (nI 10), .ref 0]) (h' := [.inr (.inr (0, [.ref 1, .null, .int 0, .int 0, .int 0])), .inr (.inl [2, 3, 4, 5, 6, 7]), .inl (8, fun _ => 0), .inl (8, fun _ => 0), .inl (8, fun _ => 0), .inl (8, fun _ => 0), .inl (8, fun _ => 0), .inl (8, fun _ => 0)]) rfl rfl rfl ?_
  refine LW.newa (n := 10) hc (by decide) (Nat.le_trans (by decide) hr.1) (Nat.le_trans (by decide) hr.2.1) (by decide +kernel) rfl rfl rfl (fun q19 => ?_)
  refine LW.eq (L' := [.ref 0, .null]) (S' := [.ref 8, .ref 0]) (h' := [.inr (.inr (0, [.ref 1, .null, .int 0, .int 0, .int 0])), .inr (.inl [2, 3, 4, 5, 6, 7]), .inl (8, fun _ => 0), .inl (8, fun _ => 0), .inl (8, fun _ => 0), .inl (8, fun _ => 0), .inl (8, fun _ => 0), .inl (8, fun _ => 0), .inl (10, fun _ => 0)]) rfl rfl rfl ?_
  refine LW.putF hc (a := 0) (b := 8) hin (by decide +kernel) zff_F_16 rfl (by decide) ?_
  refine LW.eq (L' := [.ref 0, .null]) (S' := []) (h' := [.inr (.inr (0, [.ref 1, .ref 8, .int 0, .int 0, .int 0])), .inr (.inl [2, 3, 4, 5, 6, 7]), .inl (8, fun _ => 0), .inl (8, fun _ => 0), .inl (8, fun _ => 0), .inl (8, fun _ => 0), .inl (8, fun _ => 0), .inl (8, fun _ => 0), .inl (10, fun _ => 0)]) rfl rfl rfl ?_
  refine LW.iconst hc (n := 0) (by decide +kernel) (LW.pI (z := nI 0) (by decide) ?_)
  refine LW.eq (L' := [.ref 0, .null]) (S' := [.int (nI 0)]) (h' := [.inr (.inr (0, [.ref 1, .ref 8, .int 0, .int 0, .int 0])), .inr (.inl [2, 3, 4, 5, 6, 7]), .inl (8, fun _ => 0), .inl (8, fun _ => 0), .inl (8, fun _ => 0), .inl (8, fun _ => 0), .inl (8, fun _ => 0), .inl (8, fun _ => 0), .inl (10, fun _ => 0)]) rfl rfl rfl ?_
  refine LW.istore_n hc (i := 1) (by decide +kernel) (by decide) rfl ?_
  refine LW.eq (L' := [.ref 0, .int (nI 0)]) (S' := []) (h' := [.inr (.inr (0, [.ref 1, .ref 8, .int 0, .int 0, .int 0])), .inr (.inl [2, 3, 4, 5, 6, 7]), .inl (8, fun _ => 0), .inl (8, fun _ => 0), .inl (8, fun _ => 0), .inl (8, fun _ => 0), .inl (8, fun _ => 0), .inl (8, fun _ => 0), .inl (10, fun _ => 0)]) rfl rfl rfl ?_
  refine LW.weq (h' := [.inr (.inr (0, [.ref 1, .ref 8, .int 0, .int 0, .int 0])), .inr (.inl [2, 3, 4, 5, 6, 7]), .inl (8, fun _ => 0), .inl (8, fun _ => 0), .inl (8, fun _ => 0), .inl (8, fun _ => 0), .inl (8, fun _ => 0), .inl (8, fun _ => 0), .inl (10, fun j => if j < 0 then (-1 : Int32) else 0)]) ⟨weq1_rfl _, weq1_rfl _, weq1_rfl _, weq1_rfl _, weq1_rfl _, weq1_rfl _, weq1_rfl _, weq1_rfl _, ⟨rfl, fun j hj => up0 (j := j)⟩, trivial⟩ ?_
  refine lp_F hc ?_ 10 0 rfl
  refine LW.aload_n hc (i := 0) (by decide +kernel) rfl ?_
  refine LW.eq (L' := [.ref 0, .int (nI 10)]) (S' := [.ref 0]) (h' := [.inr (.inr (0, [.ref 1, .ref 8, .int 0, .int 0, .int 0])), .inr (.inl [2, 3, 4, 5, 6, 7]), .inl (8, fun _ => 0), .inl (8, fun _ => 0), .inl (8, fun _ => 0), .inl (8, fun _ => 0), .inl (8, fun _ => 0), .inl (8, fun _ => 0), .inl (10, fun j => if j < 10 then (-1 : Int32) else 0)]) rfl rfl rfl ?_
  refine LW.iconst hc (n := 1) (by decide +kernel) (LW.pI (z := nI 1) (by decide) ?_)
  refine LW.eq (L' := [.ref 0, .int (nI 10)]) (S' := [.int (nI 1), .ref 0]) (h' := [.inr (.inr (0, [.ref 1, .ref 8, .int 0, .int 0, .int 0])), .inr (.inl [2, 3, 4, 5, 6, 7]), .inl (8, fun _ => 0), .inl (8, fun _ => 0), .inl (8, fun _ => 0), .inl (8, fun _ => 0), .inl (8, fun _ => 0), .inl (8, fun _ => 0), .inl (10, fun j => if j < 10 then (-1 : Int32) else 0)]) rfl rfl rfl ?_
  refine LW.putfield hc (a := 0) (by decide +kernel) zf_F_20 zp_F_4 rfl (by decide) (by decide) (by decide) ?_
  refine LW.eq (L' := [.ref 0, .int (nI 10)]) (S' := []) (h' := [.inr (.inr (0, [.ref 1, .ref 8, .int 0, .int 0, .int (nI 1)])), .inr (.inl [2, 3, 4, 5, 6, 7]), .inl (8, fun _ => 0), .inl (8, fun _ => 0), .inl (8, fun _ => 0), .inl (8, fun _ => 0), .inl (8, fun _ => 0), .inl (8, fun _ => 0), .inl (10, fun j => if j < 10 then (-1 : Int32) else 0)]) rfl rfl rfl ?_
  exact LW.weq (h' := fW r00) ⟨rfl, rfl, ⟨rfl, fun i hi => (r00_its (by decide)).symm⟩, ⟨rfl, fun i hi => (r00_its (by decide)).symm⟩, ⟨rfl, fun i hi => (r00_its (by decide)).symm⟩, ⟨rfl, fun i hi => (r00_its (by decide)).symm⟩, ⟨rfl, fun i hi => (r00_its (by decide)).symm⟩, ⟨rfl, fun i hi => (r00_its (by decide)).symm⟩, ⟨rfl, fun j hj => r00_held hj⟩, trivial⟩ (k _ 50 _ (by decide +kernel) rfl)
theorem zmi_F : zMb m_F_init 0 := ⟨List.mem_of_getElem? (i := 93) (by decide +kernel), (List.mem_of_getElem? (i := 69) (by decide +kernel)), ⟨by decide +kernel, by decide +kernel, by decide +kernel⟩, by decide +kernel, by decide⟩
theorem zfs_F : ∀ v ∈ ([.null, .null, .int 0, .int 0, .int 0] : List Value), ∀ a, v ≠ .ref a := by
  intro v hv a ev
  subst ev
  simp at hv
theorem met_F (l : Launch) (D : va_G) (cI cR : ClassId) (h0 sz : Nat) : Met l m_F_init.1 (zws m_F_init) (zrI m_F_init 8 64) (zPi D cI cR 0 [.null, .null, .int 0, .int 0, .int 0] h0 sz) (zQi D cI cR 0 [.null, .null, .int 0, .int 0, .int 0] h0 sz (fW r00)) 8 64 (va_A [(h0, .inr (0, [.null, .null, .int 0, .int 0, .int 0]))] sz) :=
  ctor_met (M := m_F_init) l (by decide +kernel) rfl (by decide) rfl zfs_F (fun p e R s m args below meth c cI cR D A ad Z hr hc hO hin k => run_F hr hc hO hin k) D cI cR h0 sz
