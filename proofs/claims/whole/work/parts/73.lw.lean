/-! a run with its context held fast; cells may come -/
theorem w_obj_inst : Cond.instanceMethod Lib.objectInit ∈ lw_tbl := List.mem_of_getElem? (i := 87) (by decide +kernel)
theorem w_obj_code : Cond.code Lib.objectInit ⟨#[0xb1]⟩ 1 none ∈ lw_tbl := List.mem_of_getElem? (i := 88) (by decide +kernel)
def LC (M : MI) (p : Program) (s : State) (m : MethodId) (args : Array Value) (c : Code) (cI cR : ClassId) (D : va_G) (A : Nat → Prop) : Prop :=
  p.tables.exec = Jvm.exec ∧ c.code = M.2.1 ∧ c.maxLocals = M.2.2.1 ∧ s.vm.findClass M.1.cls = some m.cls ∧ (∀ w ∈ gtbl, w.before args s = true) ∧ va_K D classes (zTy cI cR) s ∧ (∀ q, s.heap.size ≤ q → A q) ∧ True
def LW (M : MI) (p : Program) (l : Launch) (e : Env) (R : Room) (s : State) (m : MethodId) (args : Array Value) (below : List Frame) (meth : Method) (c : Code) (cI cR : ClassId) (D : va_G) (A : Nat → Prop) (Z : State → Prop) (cells slots : Nat) (ad : Nat → Nat) (pc : Nat) (L S : List Value) (h : List sE) : Prop :=
  ∀ (H : Heap) (locs : List Loc) (ls : Array Slot), lv_has ls M.2.2.1 (zl ad L) → va_P D classes (zW ad cI cR h) H → va_D A (zW ad cI cR h) → va_S A s.heap H locs → W p l e R s m args below meth c H locs cells slots Z (F0 m pc ls (S.map (zA ad)))
section LWS
variable {M : MI} {p : Program} {l : Launch} {e : Env} {R : Room} {s : State} {m : MethodId} {args : Array Value} {below : List Frame} {meth : Method} {c : Code} {cells slots : Nat} {ad : Nat → Nat} {cI cR : ClassId} {D : va_G} {A : Nat → Prop} {Z : State → Prop}
variable {pc tgt : Nat} {L S : List Value} {h : List sE} {off : Int} {x y : Int32} {u v : Int64}
theorem LW.iconst (hc : LC M p s m args c cI cR D A) {n : Int} (hd : decode M.2.1 pc = .ok (.iconst n, 1)) (k : LW M p l e R s m args below meth c cI cR D A Z cells slots ad (pc + 1) L (.int (Int32.ofInt n) :: S) h) : LW M p l e R s m args below meth c cI cR D A Z cells slots ad pc L S h :=
  fun H locs ls hls hP hD hS => lv_iconst hc.1 hc.2.1 hd rfl (k H locs ls hls hP hD hS)
theorem LW.bipush (hc : LC M p s m args c cI cR D A) {n : Int} (hd : decode M.2.1 pc = .ok (.bipush n, 2)) (k : LW M p l e R s m args below meth c cI cR D A Z cells slots ad (pc + 2) L (.int (Int8.ofInt n).toInt32 :: S) h) : LW M p l e R s m args below meth c cI cR D A Z cells slots ad pc L S h :=
  fun H locs ls hls hP hD hS => lv_bipush hc.1 hc.2.1 hd rfl (k H locs ls hls hP hD hS)
theorem LW.sipush (hc : LC M p s m args c cI cR D A) {n : Int} (hd : decode M.2.1 pc = .ok (.sipush n, 3)) (k : LW M p l e R s m args below meth c cI cR D A Z cells slots ad (pc + 3) L (.int (Int16.ofInt n).toInt32 :: S) h) : LW M p l e R s m args below meth c cI cR D A Z cells slots ad pc L S h :=
  fun H locs ls hls hP hD hS => lv_sipush hc.1 hc.2.1 hd rfl (k H locs ls hls hP hD hS)
theorem LW.iload_n (hc : LC M p s m args c cI cR D A) {i : Fin 4} (hd : decode M.2.1 pc = .ok (.iload_n i, 1)) (hl : L[(i : Nat)]? = some (.int x)) (k : LW M p l e R s m args below meth c cI cR D A Z cells slots ad (pc + 1) L (.int x :: S) h) : LW M p l e R s m args below meth c cI cR D A Z cells slots ad pc L S h :=
  fun H locs ls hls hP hD hS => lv_iload_n hc.1 hc.2.1 hd rfl (zl_at hls hl (fun e => by cases e)) (k H locs ls hls hP hD hS)
theorem LW.aload_n (hc : LC M p s m args c cI cR D A) {i : Fin 4} {a : Nat} (hd : decode M.2.1 pc = .ok (.aload_n i, 1)) (hl : L[(i : Nat)]? = some (.ref a)) (k : LW M p l e R s m args below meth c cI cR D A Z cells slots ad (pc + 1) L (.ref a :: S) h) : LW M p l e R s m args below meth c cI cR D A Z cells slots ad pc L S h :=
  fun H locs ls hls hP hD hS => lv_aload_n hc.1 hc.2.1 hd rfl (zl_at hls hl (fun e => by cases e)) (k H locs ls hls hP hD hS)
theorem LW.istore_n (hc : LC M p s m args c cI cR D A) {i : Fin 4} (hd : decode M.2.1 pc = .ok (.istore_n i, 1)) (hn : (i : Nat) < M.2.2.1) (hz : zok (i : Nat) L = true) (k : LW M p l e R s m args below meth c cI cR D A Z cells slots ad (pc + 1) (L.set (i : Nat) (.int x)) S h) : LW M p l e R s m args below meth c cI cR D A Z cells slots ad pc L (.int x :: S) h :=
  fun H locs ls hls hP hD hS => lv_istore_n hc.1 hc.2.1 hd rfl hls hn rfl (fun ls hls => k H locs ls (zl_store hz hls) hP hD hS)
theorem LW.iinc (hc : LC M p s m args c cI cR D A) {i : Nat} {n : Int} (hd : decode M.2.1 pc = .ok (.iinc i n, 3)) (hn : i < M.2.2.1) (hz : zok i L = true) (hl : L[i]? = some (.int x)) (k : LW M p l e R s m args below meth c cI cR D A Z cells slots ad (pc + 3) (L.set i (.int (x + Int32.ofInt n))) S h) : LW M p l e R s m args below meth c cI cR D A Z cells slots ad pc L S h := by
  intro H locs ls hls hP hD hS
  obtain ⟨j, hj⟩ := List.getElem?_of_mem (zl_mem.mpr ⟨_, hl, (fun e => by cases e), rfl⟩ : (i, zA ad (.int x)) ∈ zl ad L)
  exact lv_iinc hc.1 hc.2.1 hd hls hj rfl hn rfl (fun ls hls => k H locs ls (zl_store hz hls) hP hD hS)
theorem LW.iadd (hc : LC M p s m args c cI cR D A) (hd : decode M.2.1 pc = .ok (.iadd, 1)) (k : LW M p l e R s m args below meth c cI cR D A Z cells slots ad (pc + 1) L (.int (x + y) :: S) h) : LW M p l e R s m args below meth c cI cR D A Z cells slots ad pc L (.int y :: .int x :: S) h :=
  fun H locs ls hls hP hD hS => lv_iadd hc.1 hc.2.1 hd (k H locs ls hls hP hD hS)
theorem LW.isub (hc : LC M p s m args c cI cR D A) (hd : decode M.2.1 pc = .ok (.isub, 1)) (k : LW M p l e R s m args below meth c cI cR D A Z cells slots ad (pc + 1) L (.int (x - y) :: S) h) : LW M p l e R s m args below meth c cI cR D A Z cells slots ad pc L (.int y :: .int x :: S) h :=
  fun H locs ls hls hP hD hS => lv_isub hc.1 hc.2.1 hd (k H locs ls hls hP hD hS)
theorem LW.iand (hc : LC M p s m args c cI cR D A) (hd : decode M.2.1 pc = .ok (.iand, 1)) (k : LW M p l e R s m args below meth c cI cR D A Z cells slots ad (pc + 1) L (.int (x &&& y) :: S) h) : LW M p l e R s m args below meth c cI cR D A Z cells slots ad pc L (.int y :: .int x :: S) h :=
  fun H locs ls hls hP hD hS => lv_iand hc.1 hc.2.1 hd (k H locs ls hls hP hD hS)
theorem LW.if_eq (hc : LC M p s m args c cI cR D A) (hd : decode M.2.1 pc = .ok (.ifCond .eq off, 3)) (ht : (pc : Int) + off = (tgt : Int)) (kt : x = 0 → LW M p l e R s m args below meth c cI cR D A Z cells slots ad tgt L S h) (kf : ¬ x = 0 → LW M p l e R s m args below meth c cI cR D A Z cells slots ad (pc + 3) L S h) : LW M p l e R s m args below meth c cI cR D A Z cells slots ad pc L (.int x :: S) h :=
  fun H locs ls hls hP hD hS => lv_if_eq hc.1 hc.2.1 hd ht (fun hh => kt hh H locs ls hls hP hD hS) (fun hh => kf hh H locs ls hls hP hD hS)
theorem LW.icmp_eq (hc : LC M p s m args c cI cR D A) (hd : decode M.2.1 pc = .ok (.if_icmp .eq off, 3)) (ht : (pc : Int) + off = (tgt : Int)) (kt : x = y → LW M p l e R s m args below meth c cI cR D A Z cells slots ad tgt L S h) (kf : ¬ x = y → LW M p l e R s m args below meth c cI cR D A Z cells slots ad (pc + 3) L S h) : LW M p l e R s m args below meth c cI cR D A Z cells slots ad pc L (.int y :: .int x :: S) h :=
  fun H locs ls hls hP hD hS => lv_icmp_eq hc.1 hc.2.1 hd ht (fun hh => kt hh H locs ls hls hP hD hS) (fun hh => kf hh H locs ls hls hP hD hS)
theorem LW.icmp_gt (hc : LC M p s m args c cI cR D A) (hd : decode M.2.1 pc = .ok (.if_icmp .gt off, 3)) (ht : (pc : Int) + off = (tgt : Int)) (kt : y < x → LW M p l e R s m args below meth c cI cR D A Z cells slots ad tgt L S h) (kf : ¬ y < x → LW M p l e R s m args below meth c cI cR D A Z cells slots ad (pc + 3) L S h) : LW M p l e R s m args below meth c cI cR D A Z cells slots ad pc L (.int y :: .int x :: S) h :=
  fun H locs ls hls hP hD hS => lv_icmp_gt hc.1 hc.2.1 hd ht (fun hh => kt hh H locs ls hls hP hD hS) (fun hh => kf hh H locs ls hls hP hD hS)
theorem LW.icmp_ge (hc : LC M p s m args c cI cR D A) (hd : decode M.2.1 pc = .ok (.if_icmp .ge off, 3)) (ht : (pc : Int) + off = (tgt : Int)) (kt : y ≤ x → LW M p l e R s m args below meth c cI cR D A Z cells slots ad tgt L S h) (kf : ¬ y ≤ x → LW M p l e R s m args below meth c cI cR D A Z cells slots ad (pc + 3) L S h) : LW M p l e R s m args below meth c cI cR D A Z cells slots ad pc L (.int y :: .int x :: S) h :=
  fun H locs ls hls hP hD hS => lv_icmp_ge hc.1 hc.2.1 hd ht (fun hh => kt hh H locs ls hls hP hD hS) (fun hh => kf hh H locs ls hls hP hD hS)
theorem LW.lcmp (hc : LC M p s m args c cI cR D A) (hd : decode M.2.1 pc = .ok (.lcmp, 1)) (k : LW M p l e R s m args below meth c cI cR D A Z cells slots ad (pc + 1) L (.int (lg_cmp u v) :: S) h) : LW M p l e R s m args below meth c cI cR D A Z cells slots ad pc L (.long v :: .long u :: S) h :=
  fun H locs ls hls hP hD hS => W.lcmp hc.1 hc.2.1 hd (k H locs ls hls hP hD hS)
theorem LW.goto (hc : LC M p s m args c cI cR D A) (hd : decode M.2.1 pc = .ok (.goto off, 3)) (ht : (pc : Int) + off = (tgt : Int)) (k : LW M p l e R s m args below meth c cI cR D A Z cells slots ad tgt L S h) : LW M p l e R s m args below meth c cI cR D A Z cells slots ad pc L S h :=
  fun H locs ls hls hP hD hS => lv_goto hc.1 hc.2.1 hd ht (k H locs ls hls hP hD hS)
theorem LW.tableOut (hc : LC M p s m args c cI cR D A) {dflt lo hi : Int} {offs : Array Int} {len : Nat} (hd : decode M.2.1 pc = .ok (.tableswitch dflt lo hi offs, len)) (hx : x.toInt < lo ∨ hi < x.toInt) (ht : (pc : Int) + dflt = (tgt : Int)) (k : LW M p l e R s m args below meth c cI cR D A Z cells slots ad tgt L S h) : LW M p l e R s m args below meth c cI cR D A Z cells slots ad pc L (.int x :: S) h :=
  fun H locs ls hls hP hD hS => lv_tableOut hc.1 hc.2.1 hd hx ht (k H locs ls hls hP hD hS)
theorem LW.tableIn (hc : LC M p s m args c cI cR D A) {dflt lo hi : Int} {offs : Array Int} {len : Nat} (hd : decode M.2.1 pc = .ok (.tableswitch dflt lo hi offs, len)) (h1 : ¬ x.toInt < lo) (h2 : ¬ hi < x.toInt) (ho : offs[(x.toInt - lo).toNat]? = some off) (ht : (pc : Int) + off = (tgt : Int)) (k : LW M p l e R s m args below meth c cI cR D A Z cells slots ad tgt L S h) : LW M p l e R s m args below meth c cI cR D A Z cells slots ad pc L (.int x :: S) h :=
  fun H locs ls hls hP hD hS => lv_tableIn hc.1 hc.2.1 hd h1 h2 ho ht (k H locs ls hls hP hD hS)
theorem LW.getfield (hc : LC M p s m args c cI cR D A) {idx a ci j : Nat} {fs : List Value} {w : Value} (hd : decode M.2.1 pc = .ok (.getfield idx, 3)) (hF : zF M.1.cls idx ci j) (hh : h[a]? = some (.inr (.inr (ci, fs)))) (hw : fs[j]? = some w) (k : LW M p l e R s m args below meth c cI cR D A Z cells slots ad (pc + 3) L (w :: S) h) : LW M p l e R s m args below meth c cI cR D A Z cells slots ad pc L (.ref a :: S) h := by
  intro H locs ls hls hP hD hS
  obtain ⟨⟨C, T, N⟩, h1, h2, h3, h4⟩ := hF
  exact va_get hc.1 hc.2.1 hc.2.2.2.2.1 (g_lay h4) hc.2.2.2.1 hc.2.2.2.2.2.1 hP a (fs := fs.map (zA ad)) (ci := ci) (zW_at hh) h1 j h2 (hc.2.2.2.2.1 _ (g_in h3 rfl)) (fun _ hx => hx) (v := zA ad w) (by rw [List.getElem?_map, hw]; rfl) hd (k H locs ls hls hP hD hS)
/-- a field that may be written, of a type ty -/
theorem LW.putfield (hc : LC M p s m args c cI cR D A) {idx a ci j : Nat} {fs : List Value} {ty : FieldType} (hd : decode M.2.1 pc = .ok (.putfield idx, 3)) (hF : zF M.1.cls idx ci j) (hW : zP ci j ty) (hh : h[a]? = some (.inr (.inr (ci, fs)))) (hl : j < fs.length) (hn : narrow ty (.int x) = .int x) (hf : fits ty (.int x) = true) (k : LW M p l e R s m args below meth c cI cR D A Z cells slots ad (pc + 3) L S (h.set a (.inr (.inr (ci, fs.set j (.int x)))))) : LW M p l e R s m args below meth c cI cR D A Z cells slots ad pc L (.int x :: .ref a :: S) h := by
  intro H locs ls hls hP hD hS
  obtain ⟨⟨C, T, N⟩, h1, h2, h3, h4⟩ := hF
  obtain ⟨⟨C', T', N'⟩, ty0, g1, g2, g3, g4, g5⟩ := hW
  cases h1.symm.trans g1
  refine va_put hc.1 hc.2.1 hc.2.2.2.2.1 (g_lay h4) ty0 g2 g3 hc.2.2.2.1 hc.2.2.2.2.2.1 hP hD hS a (fs := fs.map (zA ad)) (ci := ci) (zW_at hh) h1 j h2 (hc.2.2.2.2.1 _ (g_in h3 rfl)) (fun _ hx => hx) g4 g5 hn hf (by rw [List.length_map]; exact hl) hd (fun H1 locs1 hP hD hS => ?_)
  have ee : (zW ad cI cR h).set a (ad a, .inr (ci, (fs.map (zA ad)).set j (.int x))) = zW ad cI cR (h.set a (.inr (.inr (ci, fs.set j (.int x))))) := by
    rw [← zW_set]
    unfold zE
    dsimp only
    rw [List.map_set]
    rfl
  have hP : va_P D classes ((zW ad cI cR h).set a (ad a, .inr (ci, (fs.map (zA ad)).set j (.int x)))) H1 := hP
  have hD : va_D A ((zW ad cI cR h).set a (ad a, .inr (ci, (fs.map (zA ad)).set j (.int x)))) := hD
  rw [ee] at hP hD
  exact k H1 locs1 ls hls hP hD hS
theorem LW.iastore (hc : LC M p s m args c cI cR D A) {a n : Nat} {f : Nat → Int32} (hd : decode M.2.1 pc = .ok (.iastore, 1)) (hh : h[a]? = some (.inl (n, f))) (hin : vp_in x n) (k : LW M p l e R s m args below meth c cI cR D A Z cells slots ad (pc + 1) L S (h.set a (.inl (n, upd f x.toNatClampNeg y)))) : LW M p l e R s m args below meth c cI cR D A Z cells slots ad pc L (.int y :: .int x :: .ref a :: S) h := by
  intro H locs ls hls hP hD hS
  refine va_iast hc.1 hc.2.1 hc.2.2.2.2.2.1 hP hD hS a 0 (zW_at hh) rfl hin hd (fun H1 locs1 hP hD hS => ?_)
  have ee : (zW ad cI cR h).set a (ad a, .inl (cI, n, .inl (upd f x.toNatClampNeg y))) = zW ad cI cR (h.set a (.inl (n, upd f x.toNatClampNeg y))) := by
    rw [← zW_set]
    rfl
  rw [ee] at hP hD
  exact k H1 locs1 ls hls hP hD hS
theorem LW.dup (hc : LC M p s m args c cI cR D A) {a : Value} (hd : decode M.2.1 pc = .ok (.dup, 1)) (ha : a.category = 1) (k : LW M p l e R s m args below meth c cI cR D A Z cells slots ad (pc + 1) L (a :: a :: S) h) : LW M p l e R s m args below meth c cI cR D A Z cells slots ad pc L (a :: S) h :=
  fun H locs ls hls hP hD hS => lv_dup hc.1 hc.2.1 hd ((zA_cat ad a).trans ha) (k H locs ls hls hP hD hS)
theorem LW.eq {L' S' : List Value} {h' : List sE} (e1 : L = L') (e2 : S = S') (e3 : h = h') (k : LW M p l e R s m args below meth c cI cR D A Z cells slots ad pc L' S' h') : LW M p l e R s m args below meth c cI cR D A Z cells slots ad pc L S h := by subst e1 e2 e3; exact k
theorem LW.weq {h' : List sE} (hw : weq h h') (k : LW M p l e R s m args below meth c cI cR D A Z cells slots ad pc L S h') : LW M p l e R s m args below meth c cI cR D A Z cells slots ad pc L S h :=
  fun H locs ls hls hP hD hS => k H locs ls hls (weq_P hw hP) (zD_len hD (weq_len _ _ hw).symm) hS
/-! a cell more -/
def adx (ad : Nat → Nat) (n q : Nat) : Nat → Nat := fun k => if k = n then q else ad k
def vne (n : Nat) (v : Value) : Bool := match v with
  | .ref k => k != n
  | _ => true
def ene (n : Nat) (e : sE) : Bool := match e with
  | .inl _ => true
  | .inr (.inl g) => g.all (fun k => k != n)
  | .inr (.inr o) => o.2.all (vne n)
theorem adx_o {ad : Nat → Nat} {n q k : Nat} (h : k ≠ n) : adx ad n q k = ad k := if_neg h
theorem zA_adx {ad : Nat → Nat} {n q : Nat} {v : Value} (h : vne n v = true) : zA (adx ad n q) v = zA ad v := by
  cases v with
  | ref k =>
    have hk : k ≠ n := fun e => by subst e; simp [vne] at h
    show Value.ref (adx ad n q k) = _
    rw [adx_o hk]
    rfl
  | _ => rfl
theorem zE_adx {ad : Nat → Nat} {n q : Nat} {cI cR : ClassId} {e : sE} (h : ene n e = true) : zE (adx ad n q) cI cR e = zE ad cI cR e := by
  rcases e with x | g | o
  · rfl
  · have e2 : (fun (i : Nat) => (g[i]?).map (adx ad n q)) = (fun (i : Nat) => (g[i]?).map ad) := funext fun i => by
      cases hi : g[i]? with
      | none => rfl
      | some k =>
        have hk := List.all_eq_true.mp h k (List.mem_of_getElem? hi)
        show some (adx ad n q k) = some (ad k)
        rw [adx_o (by simpa using hk)]
    show ((.inl _ : va_E)) = .inl _
    rw [e2]
  · show ((.inr _ : va_E)) = .inr _
    congr 2
    exact List.map_congr_left (fun v hv => zA_adx (List.all_eq_true.mp h v hv))
theorem zW_adx {ad : Nat → Nat} {q : Nat} {cI cR : ClassId} {h : List sE} {e : sE} (hh : h.all (ene h.length) = true) : zW (adx ad h.length q) cI cR (h ++ [e]) = zW ad cI cR h ++ [(q, zE (adx ad h.length q) cI cR e)] := by
  apply List.ext_getElem?
  intro k
  by_cases c : k < h.length
  · have h1 : (h ++ [e])[k]? = some h[k] := by rw [List.getElem?_append_left c, List.getElem?_eq_getElem c]
    have h2 : (zW ad cI cR h)[k]? = some (ad k, zE ad cI cR h[k]) := zW_at (List.getElem?_eq_getElem c)
    have hl : (zW ad cI cR h).length = h.length := by unfold zW; rw [List.length_mapIdx]
    rw [zW_at h1, List.getElem?_append_left (by rw [hl]; exact c), h2, adx_o (by omega), zE_adx (List.all_eq_true.mp hh _ (List.getElem_mem c))]
  · have hl : (zW ad cI cR h).length = h.length := by unfold zW; rw [List.length_mapIdx]
    by_cases c2 : k = h.length
    · subst c2
      have h1 : (h ++ [e])[h.length]? = some e := by rw [List.getElem?_append_right (Nat.le_refl _), Nat.sub_self]; rfl
      rw [zW_at h1, List.getElem?_append_right (by rw [hl]; exact Nat.le_refl _), hl, Nat.sub_self]
      show some (adx ad h.length q h.length, _) = some (q, _)
      unfold adx
      rw [if_pos rfl]
    · rw [List.getElem?_eq_none (by unfold zW; rw [List.length_mapIdx, List.length_append]; simp; omega), List.getElem?_eq_none (by rw [List.length_append, hl]; simp; omega)]
theorem zl_adx {ad : Nat → Nat} {n q : Nat} {L : List Value} (h : L.all (vne n) = true) : zl (adx ad n q) L = zl ad L := by
  unfold zl
  congr 1
  funext k
  cases hv : L[k]? with
  | none => rfl
  | some v =>
    have h1 := zA_adx (ad := ad) (q := q) (List.all_eq_true.mp h v (List.mem_of_getElem? hv))
    cases v <;> first | rfl | (dsimp only; rw [h1])
theorem zS_adx {ad : Nat → Nat} {n q : Nat} {S : List Value} (h : S.all (vne n) = true) : S.map (zA (adx ad n q)) = S.map (zA ad) := List.map_congr_left (fun v hv => zA_adx (List.all_eq_true.mp h v hv))
theorem w_arrI : Cond.arrayClass .int ∈ lw_tbl := List.mem_of_getElem? (i := 113) (by decide +kernel)
theorem LW.newa {n : Nat} (hc : LC M p s m args c cI cR D A) (hn : n ≤ 200) (hcells : cells + 1 ≤ R.cells) (hslots : slots + n ≤ R.slots) (hd : decode M.2.1 pc = .ok (.newarray .int, 2)) (h1 : h.all (ene h.length) = true) (h2 : L.all (vne h.length) = true) (h3 : S.all (vne h.length) = true)
    (k : ∀ q : Nat, LW M p l e R s m args below meth c cI cR D A Z (cells + 1) (slots + n) (adx ad h.length q) (pc + 2) L (.ref h.length :: S) (h ++ [.inl (n, fun _ => 0)])) : LW M p l e R s m args below meth c cI cR D A Z cells slots ad pc L (.int (nI n) :: S) h := by
  intro H locs ls hls hP hD hS
  refine va_newa (atype := .int) (ty := .int) (N' := n) (a0 := (n, .inl (fun _ => 0))) hc.1 hc.2.1 (hc.2.2.2.2.1 _ (g_in w_arrI rfl)) rfl hc.2.2.2.2.2.1 hP hD hS hc.2.2.2.2.2.2.1 (fun _ => rfl) (nI_pos (by omega)) (nI_cl (by omega)) (by show n * 4 ≤ _; omega) hcells hslots hd (fun q cA H1 hK hP hD hS => ?_)
  have hcA : cA = cI := by
    have a1 := (hK.2 2 (cA, .int) rfl).2
    have a2 := (hc.2.2.2.2.2.1.2 0 (cI, .int) rfl).2
    exact Option.some.inj (a1.symm.trans a2)
  subst hcA
  have ee : zW (adx ad h.length q) cA cR (h ++ [.inl (n, fun _ => 0)]) = zW ad cA cR h ++ [(q, .inl (cA, (n, .inl (fun _ => 0))))] := zW_adx h1
  have kk := k q H1 locs ls (by rw [zl_adx h2]; exact hls) (by rw [ee]; exact hP) (by rw [ee]; exact hD) hS
  have e1 : (Value.ref h.length :: S).map (zA (adx ad h.length q)) = .ref q :: S.map (zA ad) := by
    rw [List.map_cons, zS_adx h3]
    show Value.ref (adx ad h.length q h.length) :: _ = _
    unfold adx
    rw [if_pos rfl]
  rw [e1] at kk
  exact kk
/-- a final field, in a constructor: a reference -/
def zFf (own : String) (idx ci j : Nat) : Prop := ∃ (r : vw_C) (ty0 : Nat → FieldType), classes[ci]? = some r ∧ j < r.2.2 ∧ Cond.fieldLink own idx (r.2.1 j).1 (r.2.1 j).2.1 (r.2.1 j).2.2.1 ∈ lw_tbl ∧ (∀ w ∈ u_ws r.1 r.2.1 r.2.2, w ∈ lw_tbl) ∧ (∀ k, k < r.2.2 → parseFieldDescriptor (r.2.1 k).2.2.1 = some (ty0 k)) ∧ (∀ a, a < r.2.2 → ∀ b, b < r.2.2 → a ≠ b → (r.2.1 a).2.1 ≠ (r.2.1 b).2.1) ∧ (r.2.1 j).2.2.2 = true ∧ (r.2.1 j).1 = own ∧ ∃ ty, parseFieldDescriptor (r.2.1 j).2.2.1 = some ty ∧ ty.isReference = true
theorem fit_ref {ty : FieldType} (h : ty.isReference = true) (a : Nat) : narrow ty (.ref a) = .ref a ∧ fits ty (.ref a) = true := by
  cases ty <;> first | exact ⟨rfl, rfl⟩ | cases h
theorem LW.putF {idx a ci j b : Nat} {fs : List Value} (hc : LC M p s m args c cI cR D A) (hin : meth.name = "<init>") (hd : decode M.2.1 pc = .ok (.putfield idx, 3)) (hF : zFf M.1.cls idx ci j) (hh : h[a]? = some (.inr (.inr (ci, fs)))) (hl : j < fs.length)
    (k : LW M p l e R s m args below meth c cI cR D A Z cells slots ad (pc + 3) L S (h.set a (.inr (.inr (ci, fs.set j (.ref b)))))) : LW M p l e R s m args below meth c cI cR D A Z cells slots ad pc L (.ref b :: .ref a :: S) h := by
  intro H locs ls hls hP hD hS
  obtain ⟨⟨C, T, N⟩, ty0, h1, h2, h3, h4, g2, g3, g4, g5, ty, g6, g7⟩ := hF
  refine va_putF hc.1 hc.2.1 hc.2.2.2.2.1 (g_lay h4) ty0 g2 g3 hc.2.2.2.1 hc.2.2.2.2.2.1 hP hD hS a (fs := fs.map (zA ad)) (ci := ci) (zW_at hh) h1 j h2 (hc.2.2.2.2.1 _ (g_in h3 rfl)) (fun _ hx => hx) g4 hin g5 g6 (fit_ref g7 _).1 (fit_ref g7 _).2 (by rw [List.length_map]; exact hl) hd (fun H1 locs1 hP hD hS => ?_)
  have ee : (zW ad cI cR h).set a (ad a, .inr (ci, (fs.map (zA ad)).set j (.ref (ad b)))) = zW ad cI cR (h.set a (.inr (.inr (ci, fs.set j (.ref b))))) := by
    rw [← zW_set]
    unfold zE
    dsimp only
    rw [List.map_set]
    rfl
  have hP : va_P D classes ((zW ad cI cR h).set a (ad a, .inr (ci, (fs.map (zA ad)).set j (.ref (ad b))))) H1 := hP
  have hD : va_D A ((zW ad cI cR h).set a (ad a, .inr (ci, (fs.map (zA ad)).set j (.ref (ad b))))) := hD
  rw [ee] at hP hD
  exact k H1 locs1 ls hls hP hD hS
/-- a new object of a class -/
def zNw (own : String) (idx ci : Nat) (fs : List Value) : Prop := ∃ (r : vw_C) (ty0 : Nat → FieldType), classes[ci]? = some r ∧ (∀ w ∈ u_ws r.1 r.2.1 r.2.2, w ∈ lw_tbl) ∧ (∀ k, k < r.2.2 → parseFieldDescriptor (r.2.1 k).2.2.1 = some (ty0 k)) ∧ Cond.classLink own idx r.1 ∈ lw_tbl ∧ Cond.instantiable r.1 r.2.2 ∈ lw_tbl ∧ Cond.initialized r.1 ∈ lw_tbl ∧ (∀ j, j < r.2.2 → defaultValue (ty0 j) = vp_V fs j) ∧ r.2.2 = fs.length ∧ ∀ v ∈ fs, ∀ a, v ≠ .ref a
theorem zA_nr {ad : Nat → Nat} {fs : List Value} (h : ∀ v ∈ fs, ∀ a, v ≠ .ref a) : fs.map (zA ad) = fs := by
  have : ∀ v ∈ fs, zA ad v = v := fun v hv => by
    cases v with
    | ref a => exact absurd rfl (h _ hv a)
    | _ => rfl
  rw [List.map_congr_left this, List.map_id']
theorem LW.new {idx ci : Nat} {fs : List Value} (hc : LC M p s m args c cI cR D A) (hN : zNw M.1.cls idx ci fs) (hcells : cells + 1 ≤ R.cells) (hslots : slots + fs.length ≤ R.slots) (hd : decode M.2.1 pc = .ok (.new idx, 3)) (h1 : h.all (ene h.length) = true) (h2 : L.all (vne h.length) = true) (h3 : S.all (vne h.length) = true)
    (k : ∀ q : Nat, LW M p l e R s m args below meth c cI cR D A Z (cells + 1) (slots + fs.length) (adx ad h.length q) (pc + 3) L (.ref h.length :: S) (h ++ [.inr (.inr (ci, fs))])) : LW M p l e R s m args below meth c cI cR D A Z cells slots ad pc L S h := by
  intro H locs ls hls hP hD hS
  obtain ⟨⟨C, T, N⟩, ty0, g1, g2, g3, g4, g5, g6, g7, g8, g9⟩ := hN
  have g8 : N = fs.length := g8
  subst g8
  refine va_new hc.1 hc.2.1 hc.2.2.2.2.1 (g_lay g2) ty0 g3 hc.2.2.2.1 (hc.2.2.2.2.1 _ (g_in g4 rfl)) (hc.2.2.2.2.1 _ (g_in g5 rfl)) (hc.2.2.2.2.1 _ (g_in g6 rfl)) hc.2.2.2.2.2.1 hP hD hS hc.2.2.2.2.2.2.1 g1 g7 hcells hslots hd (fun q H1 hP hD hS => ?_)
  have ez : zE (adx ad h.length q) cI cR (.inr (.inr (ci, fs))) = .inr (ci, fs) := by
    show (Sum.inr (ci, fs.map (zA _)) : va_E) = _
    rw [zA_nr g9]
  have ee : zW (adx ad h.length q) cI cR (h ++ [.inr (.inr (ci, fs))]) = zW ad cI cR h ++ [(q, .inr (ci, fs))] := by rw [zW_adx h1, ez]
  have kk := k q H1 locs ls (by rw [zl_adx h2]; exact hls) (by rw [ee]; exact hP) (by rw [ee]; exact hD) hS
  have e1 : (Value.ref h.length :: S).map (zA (adx ad h.length q)) = .ref q :: S.map (zA ad) := by
    rw [List.map_cons, zS_adx h3]
    show Value.ref (adx ad h.length q h.length) :: _ = _
    unfold adx
    rw [if_pos rfl]
  rw [e1] at kk
  exact kk
/-- Object's own constructor -/
theorem LW.obj {idx a : Nat} (hc : LC M p s m args c cI cR D A) (hl : Cond.methodLink M.1.cls idx Lib.objectInit ∈ lw_tbl) (hR : 1 ≤ R.frames ∧ 20 ≤ R.locals) (hcat : (S.map fun v => v.category).sum ≤ 8) (hd : decode M.2.1 pc = .ok (.invokespecial idx, 3)) (k : LW M p l e R s m args below meth c cI cR D A Z cells slots ad (pc + 3) L S h) : LW M p l e R s m args below meth c cI cR D A Z cells slots ad pc L (.ref a :: S) h := by
  intro H locs ls hls hP hD hS
  have hr := lv_room (m := m) (pc := pc) (ls := ls) (rest := (S.map (zA ad))) (st := S.map (zA ad)) (by rw [zcats]; exact hcat)
  refine W.objInit hc.1 hc.2.1 hc.2.2.2.1 (hc.2.2.2.2.1 _ (g_in hl rfl)) (hc.2.2.2.2.1 _ (g_in w_obj_inst rfl)) (hc.2.2.2.2.1 _ (g_in w_obj_code rfl)) rfl (by show ls.size = _; rw [hc.2.2.1]; exact hls.1) rfl hd hR.1 ?_ (k H locs ls hls hP hD hS)
  have hr2 : 2 * (F0 m pc ls (.ref (ad a) :: S.map (zA ad))).monitorRoom + ((S.map (zA ad)).map fun v => v.category).sum ≤ 8 := hr
  show 2 * (F0 m pc ls ((.ref a :: S).map (zA ad))).monitorRoom + _ + 12 ≤ _
  have e9 : ((.ref a :: S).map (zA ad)) = .ref (ad a) :: S.map (zA ad) := rfl
  rw [e9]
  omega
end LWS
