/-! rows of rows: the one instruction that makes them, walked here from the model's own words -/
section
/-- the outer row, i of its N places set -/
def mm_O (c : ClassId) (N q i : Nat) : Cell := { cls := c, slots := Array.ofFn (fun j : Fin N => if j.1 < i then Value.ref (q + (j.1 + 1)) else Value.null), vm := .none }
/-- a row of K zeros -/
def mm_I (c : ClassId) (K : Nat) : Cell := { cls := c, slots := Array.replicate K (Value.int 0), vm := .none }
/-- the state with i of the rows made -/
def mm_S (cR cI : ClassId) (N K : Nat) (T : State) : Nat → State
  | 0 => T.pushCell (mm_O cR N T.heap.size 0)
  | i + 1 => ((mm_S cR cI N K T i).pushCell (mm_I cI K)).setCell T.heap.size (mm_O cR N T.heap.size (i + 1))
theorem mm_O_size (c : ClassId) (N q i : Nat) : (mm_O c N q i).slots.size = N := Array.size_ofFn
theorem mm_O_zero (c : ClassId) (N q : Nat) : mm_O c N q 0 = { cls := c, slots := Array.replicate N Value.null, vm := .none } := by
  unfold mm_O
  congr 1
  apply Array.ext_getElem?
  intro j
  rw [Array.getElem?_ofFn, Array.getElem?_replicate]
  by_cases hj : j < N
  · rw [dif_pos hj, if_pos hj, if_neg (Nat.not_lt_zero _)]
  · rw [dif_neg hj, if_neg hj]
theorem mm_O_put {c : ClassId} {N q i : Nat} (hi : i < N) : (mm_O c N q i).setSlot i (.ref (q + (i + 1))) = mm_O c N q (i + 1) := by
  unfold mm_O Cell.setSlot
  congr 1
  apply Array.ext_getElem?
  intro j
  dsimp only
  rw [Array.getElem?_setIfInBounds, Array.getElem?_ofFn, Array.getElem?_ofFn]
  by_cases hj : j < N
  · rw [dif_pos hj, dif_pos hj]
    by_cases e : i = j
    · subst e
      rw [if_pos rfl, if_pos (by rw [Array.size_ofFn]; exact hj), if_pos (Nat.lt_succ_self _)]
    · rw [if_neg e]
      by_cases h : j < i
      · rw [if_pos h, if_pos (show j < i + 1 by omega)]
      · rw [if_neg h, if_neg (show ¬ j < i + 1 by omega)]
  · rw [dif_neg hj, dif_neg hj, if_neg (by omega)]
theorem mm_S_ok (cR cI : ClassId) (N K : Nat) (T : State) : ∀ i : Nat, (mm_S cR cI N K T i).heap.size = T.heap.size + (i + 1) ∧ (∀ a : Nat, a < T.heap.size → (mm_S cR cI N K T i).heap[a]? = T.heap[a]?) ∧ (mm_S cR cI N K T i).heap[T.heap.size]? = some (mm_O cR N T.heap.size i) ∧ (∀ j : Nat, j < i → (mm_S cR cI N K T i).heap[T.heap.size + (j + 1)]? = some (mm_I cI K)) ∧ (mm_S cR cI N K T i).vm = T.vm ∧ (mm_S cR cI N K T i).slotsUsed = T.slotsUsed + N + i * K
  | 0 => by
    refine ⟨?_, fun a ha => ?_, ?_, fun j hj => absurd hj (Nat.not_lt_zero _), rfl, ?_⟩
    · show (T.heap.push _).size = _
      rw [Array.size_push]
    · show (T.heap.push _)[a]? = _
      rw [Array.getElem?_push, if_neg (by omega)]
    · show (T.heap.push _)[T.heap.size]? = _
      rw [Array.getElem?_push, if_pos rfl]
    · show T.slotsUsed + (mm_O cR N T.heap.size 0).slots.size = _
      rw [mm_O_size]
      omega
  | i + 1 => by
    obtain ⟨a, b, d, g, v, u⟩ := mm_S_ok cR cI N K T i
    refine ⟨?_, fun x hx => ?_, ?_, fun j hj => ?_, v, ?_⟩
    · show (((mm_S cR cI N K T i).heap.push _).setIfInBounds _ _).size = _
      rw [Array.size_setIfInBounds, Array.size_push, a]
      rfl
    · show (((mm_S cR cI N K T i).heap.push _).setIfInBounds T.heap.size _)[x]? = _
      rw [Array.getElem?_setIfInBounds, if_neg (by omega), Array.getElem?_push, if_neg (by omega)]
      exact b x hx
    · show (((mm_S cR cI N K T i).heap.push _).setIfInBounds T.heap.size _)[T.heap.size]? = _
      rw [Array.getElem?_setIfInBounds, if_pos rfl, if_pos (by rw [Array.size_push]; omega)]
    · show (((mm_S cR cI N K T i).heap.push _).setIfInBounds T.heap.size _)[T.heap.size + (j + 1)]? = _
      rw [Array.getElem?_setIfInBounds, if_neg (by omega), Array.getElem?_push, a]
      by_cases e : j = i
      · rw [if_pos (by omega)]
      · rw [if_neg (by omega)]
        exact g j (by omega)
    · show (mm_S cR cI N K T i).slotsUsed + (Array.replicate K (Value.int 0)).size = _
      rw [u, Array.size_replicate, Nat.succ_mul]
      omega
theorem mm_S_top (cR cI : ClassId) (N K : Nat) (T : State) (f : JFrame) : ∀ i : Nat, mm_S cR cI N K (T.setTop f) i = (mm_S cR cI N K T i).setTop f
  | 0 => rfl
  | i + 1 => by
    show ((mm_S cR cI N K (T.setTop f) i).pushCell (mm_I cI K)).setCell T.heap.size (mm_O cR N T.heap.size (i + 1)) = _
    rw [mm_S_top cR cI N K T f i]
    rfl
/-- the tables' word for rows of rows -/
theorem mm_over {args : Array Value} {s : State} (h : (Cond.arrayOver (.array .int)).before args s = true) : ∃ (cI cR : ClassId) (kR : Class), s.vm.findClass "[I" = some cI ∧ s.vm.classes[cR]? = some kR ∧ kR.kind = .array cI (.array .int) ∧ s.vm.findClass "[[I" = some cR := by
  unfold Cond.before at h
  simp only [Cond.holds, Cond.value, beq_iff_eq] at h
  obtain ⟨cI, h1, h2⟩ := Option.bind_eq_some_iff.mp h
  obtain ⟨cR, h3, h4⟩ := Option.bind_eq_some_iff.mp h2
  obtain ⟨kR, h5, h6⟩ := Option.map_eq_some_iff.mp h4
  obtain ⟨hlt, hp, -⟩ := Array.findIdx?_eq_some_iff_getElem.mp h3
  rw [(Array.getElem?_eq_some_iff.mp h5).2] at hp
  cases hkind : kR.kind with
  | array comp ty =>
    rw [hkind] at h6 hp
    obtain ⟨e1, e2⟩ := (Bool.and_eq_true _ _).mp h6
    have e3 : comp = cI := eq_of_beq hp
    have e4 := of_decide_eq_true e1
    subst e3
    subst e4
    exact ⟨comp, cR, kR, h1, h5, hkind, of_decide_eq_true e2⟩
  | _ =>
    rw [hkind] at h6
    cases h6
/-- the model's making of N rows of K zeros -/
theorem mm_make {E : CtlPost} {e : Env} {d : Bool} {acts : List Action} {T : State} {cR cI c0 : ClassId} {kR kI : Class} {n k : Int32} {N K : Nat} (hR : T.vm.classes[cR]? = some kR) (hR2 : kR.kind = .array cI (.array .int)) (hI : T.vm.classes[cI]? = some kI) (hI2 : kI.kind = .array c0 .int) (hn : ¬ n < 0) (hk : ¬ k < 0) (hN : n.toNatClampNeg = N) (hK : k.toNatClampNeg = K) (l1 : ¬ N > e.platform.arrayLengthLimit) (l2 : ¬ N * 4 > e.platform.maxHeapBytes) (l3 : ¬ K > e.platform.arrayLengthLimit) (l4 : ¬ K * 4 > e.platform.maxHeapBytes) (hc : T.heap.size + (1 + N) ≤ e.platform.maxCells) (hs : T.slotsUsed + (N + N * K) ≤ e.platform.maxSlots) {Q : Addr → Pre} (hq : ∀ d' acts', Q T.heap.size d' acts' (mm_S cR cI N K T N)) : wp (Jvm.Op.multianewarray.make cR [n, k]) Q E e d acts T := by
  have hf : ([k].find? (· < 0)) = none := by simp [hk]
  rw [Jvm.Op.multianewarray.make]
  simp only [wp_bind', W.ite, if_neg hn, wp_pure', W.theClass, hR, hR2, hN, Option.some.injEq, exists_eq_left']
  refine Jvm.W.newArray_of hR hR2 l1 l2 (by omega) (by omega) rfl (fun acts1 => ?_)
  rw [← mm_O_zero cR N T.heap.size]
  simp only [hf]
  rw [ite_self, wp_bind', Std.Legacy.Range.forIn_eq_forIn_range', show ([:N] : Std.Legacy.Range).size = N by simp [Std.Legacy.Range.size]]
  refine wp_forIn_inv (fun l U => ∃ i, i ≤ N ∧ l = List.range' i (N - i) ∧ U = mm_S cR cI N K T i) _ _ ⟨0, Nat.zero_le _, rfl, rfl⟩ ?_ ?_
  · rintro x l U d1 acts2 Q1 ⟨i, hi, hl, rfl⟩ hnext
    have hi2 : i < N := by
      refine Nat.lt_of_le_of_ne hi (fun e => ?_)
      subst e
      rw [Nat.sub_self] at hl
      cases hl
    rw [show N - i = (N - (i + 1)) + 1 by omega, List.range'_succ] at hl
    obtain ⟨rfl, rfl⟩ := List.cons.inj hl
    obtain ⟨f1, f2, f3, f4, f5, f6⟩ := mm_S_ok cR cI N K T x
    have hm : x * K + K ≤ N * K := by
      rw [← Nat.succ_mul]
      exact Nat.mul_le_mul_right K hi2
    rw [wp_bind', Jvm.Op.multianewarray.make]
    simp only [wp_bind', W.ite, if_neg hk, wp_pure', W.theClass, f5, hI, hI2, hK, Option.some.injEq, exists_eq_left']
    refine Jvm.W.newArray_of (s := mm_S cR cI N K T x) (k := kI) (by rw [f5]; exact hI) hI2 l3 l4 (by omega) (by omega) rfl (fun acts3 => ?_)
    have hcell : ((mm_S cR cI N K T x).pushCell (mm_I cI K)).heap[T.heap.size]? = some (mm_O cR N T.heap.size x) := by
      show ((mm_S cR cI N K T x).heap.push _)[T.heap.size]? = _
      rw [Array.getElem?_push, if_neg (by omega)]
      exact f3
    rw [wp_bind', W.writeLoc]
    refine ⟨_, hcell, (by intro h; cases h), (by rw [mm_O_size]; exact hi2), ?_, ?_⟩
    · simp [State.fitsSlot, State.slotType?, f5, hR, hR2, mm_O, fits]
    · rw [f1, mm_O_put hi2]
      exact hnext _ _ _ ⟨x + 1, hi2, rfl, rfl⟩
  · rintro U d1 acts2 ⟨i, hi, hl, rfl⟩
    have hi2 : i = N := by
      rcases Nat.lt_or_ge i N with h | h
      · rw [show N - i = (N - (i + 1)) + 1 by omega, List.range'_succ] at hl
        cases hl
      · omega
    subst hi2
    rw [wp_pure']
    exact hq _ _
section MM
variable {p : Program} {l : Launch} {e : Env} {R : Room} {s : State} {m : MethodId} {args : Array Value} {below : List Frame} {meth : Method} {c : Code} {T : State} {locs : List Loc} {cells slots : Nat}
theorem mm_stand (X : Stand p l e R s m args below meth c T locs cells slots) (cR cI : ClassId) (N K : Nat) : ∀ i : Nat, i ≤ N → Stand p l e R s m args below meth c (mm_S cR cI N K T i) locs (cells + 1 + i) (slots + N + i * K)
  | 0, _ => by
    have h := X.pushed (mm_O cR N T.heap.size 0)
    rw [mm_O_size] at h
    rw [Nat.zero_mul]
    exact h
  | i + 1, hi => by
    obtain ⟨f1, f2, f3, f4, f5, f6⟩ := mm_S_ok cR cI N K T i
    have hcell : ((mm_S cR cI N K T i).pushCell (mm_I cI K)).heap[T.heap.size]? = some (mm_O cR N T.heap.size i) := by
      show ((mm_S cR cI N K T i).heap.push _)[T.heap.size]? = _
      rw [Array.getElem?_push, if_neg (by omega)]
      exact f3
    have h := ((((mm_stand X cR cI N K i (Nat.le_of_lt hi)).pushed (mm_I cI K)).stored hcell i (.ref (T.heap.size + (i + 1)))).dropFresh (fun x hx => by rw [List.mem_singleton.mp hx]; exact X.heapGrown))
    rw [mm_O_put hi, show (mm_I cI K).slots.size = K from Array.size_replicate] at h
    rw [Nat.succ_mul, ← Nat.add_assoc (slots + N)]
    exact h
/-- the step -/
theorem mm_step (X : Stand p l e R s m args below meth c T locs cells slots) (hexec : p.tables.exec = Jvm.exec) {own : String} {index N K : Nat} (hown : s.vm.findClass own = some m.cls) (hcl : (Cond.classLink own index "[[I").before args s = true) (ho : (Cond.arrayOver (.array .int)).before args s = true) (ha : (Cond.arrayClass .int).before args s = true) {g : JFrame} (hg : g.method = m) (hd : decode c.code g.pc = .ok (.multianewarray index 2, 4)) {n k : Int32} {rest : List Value} (hst : g.stack = .int k :: .int n :: rest) (hn : ¬ n < 0) (hk : ¬ k < 0) (hN : n.toNatClampNeg = N) (hK : k.toNatClampNeg = K) (hN2 : N ≤ 100) (hK2 : K ≤ 100) (hcells : cells + (1 + N) ≤ R.cells) (hslots : slots + (N + N * K) ≤ R.slots) :
    ∃ (vm₁ : Vm) (cR cI : ClassId), s.vm.findClass "[[I" = some cR ∧ s.vm.findClass "[I" = some cI ∧ Stand p l e R s m args below meth c (mm_S cR cI N K (T.setVm vm₁) N) locs (cells + 1 + N) (slots + N + N * K) ∧
      ∀ target, Steps p.tables e below ((mm_S cR cI N K (T.setVm vm₁) N).setTop { g with pc := g.pc + 4, stack := .ref T.heap.size :: rest }) target → Steps p.tables e below (T.setTop g) target := by
  subst hg
  obtain ⟨cI, cR, kR, hfI, hR, hR2, hfR⟩ := mm_over ho
  obtain ⟨cJ, kI, c0, hfJ, hI, hI2⟩ := Cond.arrayClass_spec ha
  have e1 : cJ = cI := Option.some.inj (hfJ.symm.trans hfI)
  subst e1
  obtain ⟨cL, hfL, hlink⟩ := Cond.classLink_spec hown hcl e.platform (by rw [X.admits.platform])
  have e2 : cL = cR := Option.some.inj (hfL.symm.trans hfR)
  subst e2
  obtain ⟨hg1, hw1, -⟩ := State.classEntry (e := e) X.warmed hlink
  generalize T.vm.noted g.method.cls index (.cls cL) = vm₁ at hg1 hw1
  obtain ⟨kR1, hR1, eR⟩ := hw1.alike.2.2 _ _ hR
  obtain ⟨kI1, hI1, eI⟩ := hw1.alike.2.2 _ _ hI
  obtain ⟨r1, r2⟩ := X.roomAbove hcells hslots
  have X1 := mm_stand (X.noted hw1) cL cJ N K N (Nat.le_refl _)
  refine ⟨vm₁, cL, cJ, hfR, hfI, X1, fun target hrest => ?_⟩
  have q1 : e.platform.arrayLengthLimit = _ := Launch.admits_arrayLengthLimit X.admits
  have q2 : e.platform.maxHeapBytes = _ := Launch.admits_maxHeapBytes X.admits
  jvm_step X.here [hexec, hd]
  simp only [Jvm.Op.multianewarray.sem, wp_bind', W.resolveClassAt_links (State.method?_setTop g X.here.top) hg1]
  rw [W.popN, if_neg (by decide)]
  refine ⟨g, State.topJava?_setTop' (s := T.setVm vm₁) g X.here.top, [.int n, .int k], rest, rfl, hst, ?_⟩
  simp only [List.mapM_cons, List.mapM_nil, wp_bind', wp_pure']
  have e3 : ((T.setTop g).setVm vm₁).setTop { g with stack := rest } = (T.setVm vm₁).setTop { g with stack := rest } := by rw [State.setVm_setTop, State.setTop_setTop]
  rw [e3]
  refine mm_make (T := (T.setVm vm₁).setTop { g with stack := rest }) (kR := kR1) (kI := kI1) (cI := cJ) (c0 := c0) (N := N) (K := K) hR1 (by rw [eR]; exact hR2) hI1 (by rw [eI]; exact hI2) hn hk hN hK (by rw [q1]; omega) (by rw [q2]; omega) (by rw [q1]; omega) (by rw [q2]; omega) r1 r2 (fun d1 acts1 => ?_)
  rw [mm_S_top]
  simp only [wp_bind', W.mark, W.pushRef, State.topJava?_setTop' _ X1.here.top, Option.some.injEq, exists_eq_left', State.setTop_setTop, State.heap_setTop]
  intro acts2
  simp [jvm, X1.here.top]
  exact hrest
end MM
end
