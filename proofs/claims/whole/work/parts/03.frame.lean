/-! My own judgement V over the kit's W: one world of cells with fixed numbers, refs are numbers; a method's activation is forgotten. -/
/-- the words that a callee may be promised -/
def gtbl : List Cond := lw_tbl.filter goodWord
theorem g_in {w : Cond} (h : w ∈ lw_tbl) (hg : goodWord w = true) : w ∈ gtbl := List.mem_filter.mpr ⟨h, hg⟩
theorem g_lay {C : String} {T : u_T} {N : Nat} (h : ∀ w ∈ u_ws C T N, w ∈ lw_tbl) : ∀ w ∈ u_ws C T N, w ∈ gtbl := fun w hw => g_in (h w hw) (by
  obtain ⟨k, -, hk⟩ := List.mem_map.mp hw
  rw [← hk]
  unfold u_lay
  split <;> rfl)
theorem z_good : ∀ w ∈ gtbl, goodWord w = true := fun _ h => (List.mem_filter.mp h).2
abbrev sE : Type := (Nat × (Nat → Int32)) ⊕ (List Nat) ⊕ (Nat × List Value)
def zA (ad : Nat → Nat) (v : Value) : Value := match v with
  | .ref k => .ref (ad k)
  | .int x => .int x
  | .long x => .long x
  | .float x => .float x
  | .double x => .double x
  | .null => .null
  | .retAddr x => .retAddr x
def zE (ad : Nat → Nat) (cI cR : ClassId) (e : sE) : va_E := match e with
  | .inl x => .inl (cI, x.1, .inl x.2)
  | .inr (.inl g) => .inl (cR, g.length, .inr (.inr (.inr (.inr (fun i => (g[i]?).map ad)))))
  | .inr (.inr o) => .inr (o.1, o.2.map (zA ad))
def zW (ad : Nat → Nat) (cI cR : ClassId) (h : List sE) : va_W := h.mapIdx (fun k e => (ad k, zE ad cI cR e))
theorem zW_at {ad : Nat → Nat} {cI cR : ClassId} {h : List sE} {k : Nat} {e : sE} (he : h[k]? = some e) : (zW ad cI cR h)[k]? = some (ad k, zE ad cI cR e) := by
  unfold zW
  rw [List.getElem?_mapIdx, he]
  rfl
theorem zW_of {ad : Nat → Nat} {cI cR : ClassId} {h : List sE} {k : Nat} {q : Nat × va_E} (hq : (zW ad cI cR h)[k]? = some q) : ∃ e, h[k]? = some e ∧ q = (ad k, zE ad cI cR e) := by
  unfold zW at hq
  rw [List.getElem?_mapIdx] at hq
  cases he : h[k]? with
  | none => rw [he] at hq; cases hq
  | some e => rw [he] at hq; cases hq; exact ⟨e, rfl, rfl⟩
theorem zW_set {ad : Nat → Nat} {cI cR : ClassId} {h : List sE} {k : Nat} {e : sE} : (zW ad cI cR h).set k (ad k, zE ad cI cR e) = zW ad cI cR (h.set k e) := by
  unfold zW
  apply List.ext_getElem?
  intro j
  rw [List.getElem?_mapIdx, List.getElem?_set, List.getElem?_set, List.length_mapIdx, List.getElem?_mapIdx]
  by_cases hj : k = j
  · subst hj
    by_cases hl : k < h.length
    · simp [hl]
    · simp [hl]
  · simp [hj]
theorem zA_cat (ad : Nat → Nat) (v : Value) : (zA ad v).category = v.category := by cases v <;> rfl
/-- locals: .null is a place of which nothing is known -/
def zl (ad : Nat → Nat) (L : List Value) : List (Nat × Value) := (List.range L.length).filterMap (fun (k : Nat) => match L[k]? with
  | some .null => none
  | some v => some (k, zA ad v)
  | none => none)
theorem zl_mem {ad : Nat → Nat} {L : List Value} {q : Nat × Value} : q ∈ zl ad L ↔ ∃ v, L[q.1]? = some v ∧ v ≠ .null ∧ q.2 = zA ad v := by
  unfold zl
  rw [List.mem_filterMap]
  constructor
  · rintro ⟨k, hk, h⟩
    cases hv : L[k]? with
    | none => rw [hv] at h; cases h
    | some v =>
      rw [hv] at h
      have hn : v ≠ .null := by intro e; subst e; cases h
      have h2 : (some (k, zA ad v) : Option (Nat × Value)) = some q := by
        cases v <;> first | exact h | exact absurd rfl hn
      cases h2
      exact ⟨v, hv, hn, rfl⟩
  · rintro ⟨v, h1, h2, h3⟩
    obtain ⟨i, w⟩ := q
    refine ⟨i, List.mem_range.mpr (List.getElem?_eq_some_iff.mp h1).1, ?_⟩
    dsimp only at h1 h3 ⊢
    rw [h1, h3]
    cases v <;> first | rfl | exact absurd rfl h2
theorem zl_at {ad : Nat → Nat} {ls : Array Slot} {n : Nat} {L : List Value} {i : Nat} {v : Value} (h : lv_has ls n (zl ad L)) (hv : L[i]? = some v) (hn : v ≠ .null) : ls[i]? = some (.val (zA ad v)) := h.2.2 (i, zA ad v) (zl_mem.mpr ⟨v, hv, hn, rfl⟩)
/-- no long ends at place k -/
def zok : Nat → List Value → Bool
  | 0, _ => true
  | k + 1, L => match L[k]? with
    | some (.long _) => false
    | some (.double _) => false
    | _ => true
theorem zl_store {ad : Nat → Nat} {ls : Array Slot} {n : Nat} {L : List Value} {i : Nat} {v : Value} (hz : zok i L = true) (h : lv_has ls n ((i, zA ad v) :: (zl ad L).filter (fun q => !(q.1 == i) && !(q.1 + 1 == i && q.2.category == 2)))) : lv_has ls n (zl ad (L.set i v)) := by
  refine ⟨h.1, h.2.1, fun q hq => ?_⟩
  obtain ⟨w, h1, h2, h3⟩ := zl_mem.mp hq
  rw [List.getElem?_set] at h1
  by_cases hi : i = q.1
  · rw [if_pos hi] at h1
    by_cases hl : i < L.length
    · rw [if_pos hl] at h1
      cases h1
      rw [h3, ← hi]
      exact h.2.2 _ List.mem_cons_self
    · rw [if_neg hl] at h1
      cases h1
  · rw [if_neg hi] at h1
    refine h.2.2 q (List.mem_cons_of_mem _ (List.mem_filter.mpr ⟨zl_mem.mpr ⟨w, h1, h2, h3⟩, ?_⟩))
    have e1 : (q.1 == i) = false := by simp; exact fun e => hi e.symm
    rw [e1, Bool.not_false, Bool.true_and]
    by_cases e2 : q.1 + 1 = i
    · have hw : w.category ≠ 2 := by
        intro hc
        rw [← e2] at hz
        unfold zok at hz
        dsimp only at hz
        rw [h1] at hz
        cases w with | long x => cases hz | double x => cases hz | int x => cases hc | float x => cases hc | null => cases hc | ref x => cases hc | retAddr x => cases hc
      rw [h3, zA_cat]
      simp [hw]
    · simp [e2]
theorem zl_store2 {ad : Nat → Nat} {ls : Array Slot} {n : Nat} {L : List Value} {i : Nat} {v : Value} (hz : zok i L = true) (h : lv_has ls n ((i, zA ad v) :: (zl ad L).filter (fun q => !(q.1 == i) && (!(q.1 == i + 1) && !(q.1 + 1 == i && q.2.category == 2))))) : lv_has ls n (zl ad ((L.set i v).set (i + 1) .null)) := by
  refine ⟨h.1, h.2.1, fun q hq => ?_⟩
  obtain ⟨w, h1, h2, h3⟩ := zl_mem.mp hq
  rw [List.getElem?_set] at h1
  by_cases hi1 : i + 1 = q.1
  · rw [if_pos hi1] at h1
    split at h1
    · cases h1; exact absurd rfl h2
    · cases h1
  · rw [if_neg hi1, List.getElem?_set] at h1
    by_cases hi : i = q.1
    · rw [if_pos hi] at h1
      by_cases hl : i < L.length
      · rw [if_pos hl] at h1
        cases h1
        rw [h3, ← hi]
        exact h.2.2 _ List.mem_cons_self
      · rw [if_neg hl] at h1
        cases h1
    · rw [if_neg hi] at h1
      refine h.2.2 q (List.mem_cons_of_mem _ (List.mem_filter.mpr ⟨zl_mem.mpr ⟨w, h1, h2, h3⟩, ?_⟩))
      have e1 : (q.1 == i) = false := by simp; exact fun e => hi e.symm
      have e0 : (q.1 == i + 1) = false := by simp; exact fun e => hi1 e.symm
      rw [e1, e0, Bool.not_false, Bool.true_and, Bool.true_and]
      by_cases e2 : q.1 + 1 = i
      · have hw : w.category ≠ 2 := by
          intro hc
          rw [← e2] at hz
          unfold zok at hz
          dsimp only at hz
          rw [h1] at hz
          cases w with | long x => cases hz | double x => cases hz | int x => cases hc | float x => cases hc | null => cases hc | ref x => cases hc | retAddr x => cases hc
        rw [h3, zA_cat]
        simp [hw]
      · simp [e2]
/-- the constant texts, by their places -/
def zSl : List Nat := [4, 3, 6, 5, 5, 4, 7, 6, 2, 4, 4, 2]
def zSi : List Nat := [29, 90, 92, 94, 96, 98, 100, 102, 62, 68, 73, 75]
def zSt : List String := ["aged", "kin", "cousin", "uncle", "child", "baby", "adopted", "sailor", "of", "mark", "turn", "up"]
def zSb : List (List Int32) := [[97, 103, 101, 100], [107, 105, 110], [99, 111, 117, 115, 105, 110], [117, 110, 99, 108, 101], [99, 104, 105, 108, 100], [98, 97, 98, 121], [97, 100, 111, 112, 116, 101, 100], [115, 97, 105, 108, 111, 114], [111, 102], [109, 97, 114, 107], [116, 117, 114, 110], [117, 112]]
/-- what is known of constants: texts at the numbers 1000.., their bytes at 2000.., a static at 3000 -/
def zK (s : State) (ad : Nat → Nat) (A : Nat → Prop) (H : Heap) : Prop :=
  vk_S 12 zSl zSb (fun i => ad (1000 + i)) (fun i => ad (2000 + i)) A s H ∧ (∀ i, i < 12 → vk_R "SkinLands$Tape" (zSi.getD i 0) (zSt.getD i "") (ad (1000 + i)) s) ∧
  va_Z "java/lang/String" "COMPACT_STRINGS" "Z" (.int 1) A s H ∧ (va_Z "jdk/internal/util/Preconditions" "SIOOBE_FORMATTER" "Ljava/util/function/BiFunction;" .null A s H ∨ va_Z "jdk/internal/util/Preconditions" "SIOOBE_FORMATTER" "Ljava/util/function/BiFunction;" (.ref (ad 3000)) A s H)
theorem zK.step {s U : State} {ad ad' : Nat → Nat} {A A' : Nat → Prop} {H H1 : Heap} (h : zK s ad A H) (hW : s.WarmedH U.vm) (hk : ∀ a : Nat, a < H.size → ¬ A a → H1[a]? = H[a]?) (hAB : ∀ q, A' q → A q) (had : ∀ k, 1000 ≤ k → ad' k = ad k) : zK U ad' A' H1 := by
  obtain ⟨h1, h2, h3, h4⟩ := h
  have e1 : (fun i => ad' (1000 + i)) = (fun i => ad (1000 + i)) := funext fun i => had _ (by omega)
  have e2 : (fun i => ad' (2000 + i)) = (fun i => ad (2000 + i)) := funext fun i => had _ (by omega)
  refine ⟨?_, fun i hi => ?_, ((h3.kept hk).narrow hAB).moved hW.alike, ?_⟩
  · rw [e1, e2]
    exact ((h1.kept hk).narrow hAB).moved hW.alike
  · rw [had _ (by omega)]
    exact (h2 i hi).warm hW
  · rw [had _ (by omega)]
    exact h4.imp (fun h => ((h.kept hk).narrow hAB).moved hW.alike) (fun h => ((h.kept hk).narrow hAB).moved hW.alike)
def zTy (cI cR : ClassId) : List (ClassId × FieldType) := [(cI, .int), (cR, .array .int)]
/-- an activation of the method M -/
def zC (M : MI) (p : Program) (R : Room) (s : State) (m : MethodId) (args : Array Value) (c : Code) (cells slots : Nat) (ad : Nat → Nat) (cI cR : ClassId) (D : va_G) (A : Nat → Prop) : Prop :=
  p.tables.exec = Jvm.exec ∧ c.code = M.2.1 ∧ c.maxLocals = M.2.2.1 ∧ s.vm.findClass M.1.cls = some m.cls ∧ (∀ w ∈ gtbl, w.before args s = true) ∧ va_K D classes (zTy cI cR) s ∧ (∀ q, s.heap.size ≤ q → A q) ∧
  (cells ≤ R.cells ∧ slots ≤ R.slots ∧ M.2.2.2.2 ≤ R.frames ∧ 40 * M.2.2.2.2 ≤ R.locals) ∧ zK s ad A s.heap
/-- the return instruction that an answer wants -/
def zR (M : MI) (pc : Nat) (r : Option Value) : Prop := match r with
  | none => decode M.2.1 pc = .ok (.return_, 1) ∧ M.2.2.2.1 = none
  | some (.int x) => decode M.2.1 pc = .ok (.ireturn, 1) ∧ ∃ ty, M.2.2.2.1 = some ty ∧ narrow ty (.int x) = .int x
  | some (.long _) => decode M.2.1 pc = .ok (.lreturn, 1) ∧ M.2.2.2.1 = some .long
  | _ => False
def V (M : MI) (pc : Nat) (L S : List Value) (h : List sE) (Q : Option Value → List sE → Prop) : Prop :=
  ∀ (p : Program) (l : Launch) (e : Env) (R : Room) (s : State) (m : MethodId) (args : Array Value) (below : List Frame) (meth : Method) (c : Code) (cells slots : Nat) (ad : Nat → Nat) (cI cR : ClassId) (D : va_G) (A : Nat → Prop), zC M p R s m args c cells slots ad cI cR D A → ∀ Z : State → Prop,
    (∀ (r : Option Value) (h' : List sE) (H : Heap) (locs : List Loc) (pc' : Nat) (ls : Array Slot), Q r h' → h'.length = h.length → zR M pc' r → va_P D classes (zW ad cI cR h') H → va_D A (zW ad cI cR h') → va_S A s.heap H locs → W p l e R s m args below meth c H locs cells slots Z (F0 m pc' ls r.toList)) →
    ∀ (H : Heap) (locs : List Loc) (ls : Array Slot), lv_has ls M.2.2.1 (zl ad L) → va_P D classes (zW ad cI cR h) H → va_D A (zW ad cI cR h) → va_S A s.heap H locs → W p l e R s m args below meth c H locs cells slots Z (F0 m pc ls (S.map (zA ad)))
section ZV
variable {M : MI} {pc tgt : Nat} {L S : List Value} {h : List sE} {Q : Option Value → List sE → Prop} {off : Int} {x y : Int32} {u v : Int64}
theorem V.iconst {n : Int} (hd : decode M.2.1 pc = .ok (.iconst n, 1)) (k : V M (pc + 1) L (.int (Int32.ofInt n) :: S) h Q) : V M pc L S h Q :=
  fun p l e R s m args below meth c cells slots ad cI cR D A hc Z hZ H locs ls hls hP hD hS => lv_iconst hc.1 hc.2.1 hd rfl (k p l e R s m args below meth c cells slots ad cI cR D A hc Z hZ H locs ls hls hP hD hS)
theorem V.bipush {n : Int} (hd : decode M.2.1 pc = .ok (.bipush n, 2)) (k : V M (pc + 2) L (.int (Int8.ofInt n).toInt32 :: S) h Q) : V M pc L S h Q :=
  fun p l e R s m args below meth c cells slots ad cI cR D A hc Z hZ H locs ls hls hP hD hS => lv_bipush hc.1 hc.2.1 hd rfl (k p l e R s m args below meth c cells slots ad cI cR D A hc Z hZ H locs ls hls hP hD hS)
theorem V.sipush {n : Int} (hd : decode M.2.1 pc = .ok (.sipush n, 3)) (k : V M (pc + 3) L (.int (Int16.ofInt n).toInt32 :: S) h Q) : V M pc L S h Q :=
  fun p l e R s m args below meth c cells slots ad cI cR D A hc Z hZ H locs ls hls hP hD hS => lv_sipush hc.1 hc.2.1 hd rfl (k p l e R s m args below meth c cells slots ad cI cR D A hc Z hZ H locs ls hls hP hD hS)
theorem V.lconst {n : Fin 2} (hd : decode M.2.1 pc = .ok (.lconst n, 1)) (k : V M (pc + 1) L (.long (Int64.ofNat (n : Nat)) :: S) h Q) : V M pc L S h Q :=
  fun p l e R s m args below meth c cells slots ad cI cR D A hc Z hZ H locs ls hls hP hD hS => lv_lconst hc.1 hc.2.1 hd rfl (k p l e R s m args below meth c cells slots ad cI cR D A hc Z hZ H locs ls hls hP hD hS)
theorem V.ldc {i : Nat} {z : Int32} (hd : decode M.2.1 pc = .ok (.ldc i, 2)) (hz : Cond.constant M.1.cls i z ∈ lw_tbl) (k : V M (pc + 2) L (.int z :: S) h Q) : V M pc L S h Q :=
  fun p l e R s m args below meth c cells slots ad cI cR D A hc Z hZ H locs ls hls hP hD hS => lv_ldc hc.1 hc.2.1 hc.2.2.2.1 (hc.2.2.2.2.1 _ (g_in hz rfl)) hd (k p l e R s m args below meth c cells slots ad cI cR D A hc Z hZ H locs ls hls hP hD hS)
theorem V.ldcw {i : Nat} {z : Int32} (hd : decode M.2.1 pc = .ok (.ldc_w i, 3)) (hz : Cond.constant M.1.cls i z ∈ lw_tbl) (k : V M (pc + 3) L (.int z :: S) h Q) : V M pc L S h Q :=
  fun p l e R s m args below meth c cells slots ad cI cR D A hc Z hZ H locs ls hls hP hD hS => lv_ldcw hc.1 hc.2.1 hc.2.2.2.1 (hc.2.2.2.2.1 _ (g_in hz rfl)) hd (k p l e R s m args below meth c cells slots ad cI cR D A hc Z hZ H locs ls hls hP hD hS)
theorem V.ldc2 {i : Nat} {z : Int64} (hd : decode M.2.1 pc = .ok (.ldc2_w i, 3)) (hz : Cond.constantLong M.1.cls i z ∈ lw_tbl) (k : V M (pc + 3) L (.long z :: S) h Q) : V M pc L S h Q :=
  fun p l e R s m args below meth c cells slots ad cI cR D A hc Z hZ H locs ls hls hP hD hS => lv_ldc2 hc.1 hc.2.1 hc.2.2.2.1 (hc.2.2.2.2.1 _ (g_in hz rfl)) hd (k p l e R s m args below meth c cells slots ad cI cR D A hc Z hZ H locs ls hls hP hD hS)
theorem V.iload_n {i : Fin 4} (hd : decode M.2.1 pc = .ok (.iload_n i, 1)) (hl : L[(i : Nat)]? = some (.int x)) (k : V M (pc + 1) L (.int x :: S) h Q) : V M pc L S h Q :=
  fun p l e R s m args below meth c cells slots ad cI cR D A hc Z hZ H locs ls hls hP hD hS => lv_iload_n hc.1 hc.2.1 hd rfl (zl_at hls hl (fun e => by cases e)) (k p l e R s m args below meth c cells slots ad cI cR D A hc Z hZ H locs ls hls hP hD hS)
theorem V.iload {i : Nat} (hd : decode M.2.1 pc = .ok (.iload i, 2)) (hl : L[i]? = some (.int x)) (k : V M (pc + 2) L (.int x :: S) h Q) : V M pc L S h Q :=
  fun p l e R s m args below meth c cells slots ad cI cR D A hc Z hZ H locs ls hls hP hD hS => lv_iload hc.1 hc.2.1 hd (zl_at hls hl (fun e => by cases e)) (k p l e R s m args below meth c cells slots ad cI cR D A hc Z hZ H locs ls hls hP hD hS)
theorem V.lload_n {i : Fin 4} (hd : decode M.2.1 pc = .ok (.lload_n i, 1)) (hl : L[(i : Nat)]? = some (.long u)) (k : V M (pc + 1) L (.long u :: S) h Q) : V M pc L S h Q :=
  fun p l e R s m args below meth c cells slots ad cI cR D A hc Z hZ H locs ls hls hP hD hS => lv_lload_n hc.1 hc.2.1 hd rfl (zl_at hls hl (fun e => by cases e)) (k p l e R s m args below meth c cells slots ad cI cR D A hc Z hZ H locs ls hls hP hD hS)
theorem V.lload {i : Nat} (hd : decode M.2.1 pc = .ok (.lload i, 2)) (hl : L[i]? = some (.long u)) (k : V M (pc + 2) L (.long u :: S) h Q) : V M pc L S h Q :=
  fun p l e R s m args below meth c cells slots ad cI cR D A hc Z hZ H locs ls hls hP hD hS => lv_lload hc.1 hc.2.1 hd (zl_at hls hl (fun e => by cases e)) (k p l e R s m args below meth c cells slots ad cI cR D A hc Z hZ H locs ls hls hP hD hS)
theorem V.aload_n {i : Fin 4} {a : Nat} (hd : decode M.2.1 pc = .ok (.aload_n i, 1)) (hl : L[(i : Nat)]? = some (.ref a)) (k : V M (pc + 1) L (.ref a :: S) h Q) : V M pc L S h Q :=
  fun p l e R s m args below meth c cells slots ad cI cR D A hc Z hZ H locs ls hls hP hD hS => lv_aload_n hc.1 hc.2.1 hd rfl (zl_at hls hl (fun e => by cases e)) (k p l e R s m args below meth c cells slots ad cI cR D A hc Z hZ H locs ls hls hP hD hS)
theorem V.istore_n {i : Fin 4} (hd : decode M.2.1 pc = .ok (.istore_n i, 1)) (hn : (i : Nat) < M.2.2.1) (hz : zok (i : Nat) L = true) (k : V M (pc + 1) (L.set (i : Nat) (.int x)) S h Q) : V M pc L (.int x :: S) h Q :=
  fun p l e R s m args below meth c cells slots ad cI cR D A hc Z hZ H locs ls hls hP hD hS => lv_istore_n hc.1 hc.2.1 hd rfl hls hn rfl (fun ls hls => k p l e R s m args below meth c cells slots ad cI cR D A hc Z hZ H locs ls (zl_store hz hls) hP hD hS)
theorem V.istore {i : Nat} (hd : decode M.2.1 pc = .ok (.istore i, 2)) (hn : i < M.2.2.1) (hz : zok i L = true) (k : V M (pc + 2) (L.set i (.int x)) S h Q) : V M pc L (.int x :: S) h Q :=
  fun p l e R s m args below meth c cells slots ad cI cR D A hc Z hZ H locs ls hls hP hD hS => lv_istore hc.1 hc.2.1 hd hls hn rfl (fun ls hls => k p l e R s m args below meth c cells slots ad cI cR D A hc Z hZ H locs ls (zl_store hz hls) hP hD hS)
theorem V.lstore_n {i : Fin 4} (hd : decode M.2.1 pc = .ok (.lstore_n i, 1)) (hn : (i : Nat) + 1 < M.2.2.1) (hz : zok (i : Nat) L = true) (k : V M (pc + 1) ((L.set (i : Nat) (.long u)).set ((i : Nat) + 1) .null) S h Q) : V M pc L (.long u :: S) h Q :=
  fun p l e R s m args below meth c cells slots ad cI cR D A hc Z hZ H locs ls hls hP hD hS => lv_lstore_n hc.1 hc.2.1 hd rfl hls hn rfl (fun ls hls => k p l e R s m args below meth c cells slots ad cI cR D A hc Z hZ H locs ls (zl_store2 hz hls) hP hD hS)
theorem V.lstore {i : Nat} (hd : decode M.2.1 pc = .ok (.lstore i, 2)) (hn : i + 1 < M.2.2.1) (hz : zok i L = true) (k : V M (pc + 2) ((L.set i (.long u)).set (i + 1) .null) S h Q) : V M pc L (.long u :: S) h Q :=
  fun p l e R s m args below meth c cells slots ad cI cR D A hc Z hZ H locs ls hls hP hD hS => lv_lstore hc.1 hc.2.1 hd hls hn rfl (fun ls hls => k p l e R s m args below meth c cells slots ad cI cR D A hc Z hZ H locs ls (zl_store2 hz hls) hP hD hS)
theorem V.iinc {i : Nat} {n : Int} (hd : decode M.2.1 pc = .ok (.iinc i n, 3)) (hn : i < M.2.2.1) (hz : zok i L = true) (hl : L[i]? = some (.int x)) (k : V M (pc + 3) (L.set i (.int (x + Int32.ofInt n))) S h Q) : V M pc L S h Q := by
  intro p l e R s m args below meth c cells slots ad cI cR D A hc Z hZ H locs ls hls hP hD hS
  obtain ⟨j, hj⟩ := List.getElem?_of_mem (zl_mem.mpr ⟨_, hl, (fun e => by cases e), rfl⟩ : (i, zA ad (.int x)) ∈ zl ad L)
  exact lv_iinc hc.1 hc.2.1 hd hls hj rfl hn rfl (fun ls hls => k p l e R s m args below meth c cells slots ad cI cR D A hc Z hZ H locs ls (zl_store hz hls) hP hD hS)
end ZV
