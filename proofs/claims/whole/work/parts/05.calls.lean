/-- the words of a method: its own code, and all the tables -/
def zws (M : MI) : List Cond := Cond.code M.1 M.2.1 M.2.2.1 M.2.2.2.1 :: gtbl
def zrm (M : MI) : Room := { frames := M.2.2.2.2, cells := 0, slots := 0, locals := 40 * M.2.2.2.2 }
/-- the locals at the entry: a long takes two places -/
def zent : Nat → List Value → List Value
  | n, [] => List.replicate n .null
  | n, .long v :: vs => .long v :: .null :: zent (n - 2) vs
  | n, v :: vs => v :: zent (n - 1) vs
def zPc (ad : Nat → Nat) (cI cR : ClassId) (D : va_G) (h : List sE) (As : List Value) (sz : Nat) : Array Value → State → Prop :=
  va_Pc (As.map (zA ad)) (fun U => U.heap.size = sz ∧ va_P D classes (zW ad cI cR h) U.heap ∧ va_K D classes (zTy cI cR) U ∧ va_D (fun _ => True) (zW ad cI cR h) ∧ zK U ad (va_A (zW ad cI cR h) sz) U.heap)
def zQc (ad : Nat → Nat) (cI cR : ClassId) (D : va_G) (h : List sE) (sz : Nat) (Q : Option Value → List sE → Prop) : Array Value → State → Outcome → State → Prop := fun _ st oc t =>
  (∃ (r : Option Value) (h' : List sE), oc = .returned r ∧ Q r h' ∧ h'.length = h.length ∧ va_P D classes (zW ad cI cR h') t.heap ∧ ∀ a, r ≠ some (.ref a)) ∧ va_F (va_A (zW ad cI cR h) sz) st t
theorem zl_entry (ad : Nat → Nat) : ∀ (As : List Value) (i n : Nat) (q : Nat × Value), (∀ v ∈ As, v.category = 2 → ∃ x, v = .long x) → q ∈ zl ad (List.replicate i .null ++ zent n As) → q ∈ lv_args i (As.map (zA ad))
  | [], i, n, q, _, h => by
    obtain ⟨v, h1, h2, h3⟩ := zl_mem.mp h
    unfold zent at h1
    rw [List.replicate_append_replicate] at h1
    have := List.eq_of_mem_replicate (List.mem_of_getElem? h1)
    exact absurd this h2
  | v :: vs, i, n, q, hA, h => by
    obtain ⟨w, h1, h2, h3⟩ := zl_mem.mp h
    have key : ∀ (k n' : Nat) (pre : List Value), zent n (v :: vs) = pre ++ zent n' vs → pre[0]? = some v → pre.length = k → (∀ j, 0 < j → j < k → pre[j]? = some .null) → (if v.category = 2 then i + 2 else i + 1) = i + k → q ∈ lv_args i ((v :: vs).map (zA ad)) := by
      intro k n' pre hz h0 hk hp hc
      rw [hz] at h1
      show q ∈ (i, zA ad v) :: lv_args (if (zA ad v).category = 2 then i + 2 else i + 1) (vs.map (zA ad))
      rw [zA_cat, hc]
      by_cases a1 : q.1 < i
      · rw [List.getElem?_append_left (by rw [List.length_replicate]; exact a1)] at h1
        exact absurd (List.eq_of_mem_replicate (List.mem_of_getElem? h1)) h2
      · by_cases a2 : q.1 = i
        · rw [a2, List.getElem?_append_right (by rw [List.length_replicate]; omega), List.length_replicate, Nat.sub_self, List.getElem?_append_left (by rw [List.getElem?_eq_some_iff] at h0; exact h0.1), h0] at h1
          cases h1
          have : q = (i, zA ad v) := by rw [← a2, ← h3]
          rw [this]
          exact List.mem_cons_self
        · by_cases a3 : q.1 < i + k
          · rw [List.getElem?_append_right (by rw [List.length_replicate]; omega), List.length_replicate, List.getElem?_append_left (by omega), hp _ (by omega) (by omega)] at h1
            cases h1
            exact absurd rfl h2
          · refine List.mem_cons_of_mem _ (zl_entry ad vs (i + k) n' q (fun v hv => hA v (List.mem_cons_of_mem _ hv)) (zl_mem.mpr ⟨w, ?_, h2, h3⟩))
            rw [List.getElem?_append_right (by rw [List.length_replicate]; omega), List.length_replicate, List.getElem?_append_right (by omega)] at h1
            rw [List.getElem?_append_right (by rw [List.length_replicate]; omega), List.length_replicate]
            rw [hk] at h1
            rw [show q.1 - (i + k) = q.1 - i - k by omega]
            exact h1
    by_cases hc2 : v.category = 2
    · obtain ⟨x, rfl⟩ := hA v List.mem_cons_self hc2
      exact key 2 (n - 2) [.long x, .null] rfl rfl rfl (fun j a b => by rw [show j = 1 by omega]; rfl) (by rw [if_pos hc2])
    · have hz : zent n (v :: vs) = [v] ++ zent (n - 1) vs := by
        cases v <;> first | rfl | exact absurd rfl hc2
      exact key 1 (n - 1) [v] hz rfl rfl (fun j a b => by omega) (by rw [if_neg hc2])
theorem zR_nr {M : MI} {pc : Nat} {r : Option Value} (h : zR M pc r) (a : Nat) : r ≠ some (.ref a) := by
  intro e
  subst e
  exact h
theorem V_met (l : Launch) {M : MI} {As : List Value} {h : List sE} {Q : Option Value → List sE → Prop} (ad : Nat → Nat) (cI cR : ClassId) (D : va_G) (sz : Nat) (hpl : plainName M.1.cls = true) (hlen : (lg_sl (As.map (zA ad))).length ≤ M.2.2.1) (hA : ∀ v ∈ As, v.category = 2 → ∃ x, v = .long x) (hv : V M 0 (zent M.2.2.1 As) [] h Q) :
    Met l M.1 (zws M) (zrm M) (zPc ad cI cR D h As sz) (zQc ad cI cR D h sz Q) 0 0 (va_A (zW ad cI cR h) sz) := by
  refine Met.ofW (cc := M.2.1) (maxL := M.2.2.1) (ret := M.2.2.2.1) hpl rfl ?_
  intro p e s m args below meth c s₁ B hml hpc
  obtain ⟨rfl, hsz, hP, hK, hD0, hZK⟩ := hpc
  have hx := B.exec
  have hb := B.bytes
  have hr := B.returns
  have hts := atoms_spec (ws := zws M) B.pre
  have hown : s.vm.findClass M.1.cls = some m.cls := findClass_of_methodNamed B.named
  have hlocks := B.notSynchronized
  subst hsz
  have hD := hD0.self (sz := s.heap.size)
  have hl := lv_entry (As.map (zA ad)) (n := M.2.2.1) hlen
  rw [lg_entry_eq]
  generalize (lg_sl (As.map (zA ad)) ++ List.replicate (M.2.2.1 - (lg_sl (As.map (zA ad))).length) Slot.unset).toArray = ls at hl ⊢
  have hl : lv_has ls M.2.2.1 (zl ad (zent M.2.2.1 As)) := ⟨hl.1, hl.2.1, fun q hq => hl.2.2 q (zl_entry ad As 0 _ q hA hq)⟩
  refine hv p l e (headSpec (zws M) (zrm M)).room s m ((As.map (zA ad)).toArray) below meth c 0 0 ad cI cR D (va_A (zW ad cI cR h) s.heap.size)
    ⟨hx, hb, hml, hown, fun w hw => hts w (List.mem_cons_of_mem _ hw), hK, fun q h => Or.inr h, ⟨Nat.le_refl _, Nat.le_refl _, Nat.le_refl _, Nat.le_refl _⟩, hZK⟩ _ ?_ s.heap [] ls hl hP hD va_S.rf
  intro r h' H locs pc' ls' hq hlen' hR hP' hD' hS'
  have hq' : ∀ t : State, t.heap = H → s.WarmedH t.vm → zQc ad cI cR D h s.heap.size Q ((As.map (zA ad)).toArray) s (.returned r) t := fun t ht hW => ⟨⟨r, h', rfl, hq, hlen', by rw [ht]; exact hP', zR_nr hR⟩, hS'.F ht⟩
  cases r with
  | none => exact W.vret hx hb (hr.trans hR.2) hq' hS'.2.2 hR.1
  | some v =>
    cases v with
    | int x => obtain ⟨h1, ty, h2, h3⟩ := hR; exact W.zret hx hb (hr.trans h2) h3 hq' hS'.2.2 h1
    | long x => exact W.lret hx hb (hr.trans hR.2) hq' hS'.2.2 hR.1
    | float x => exact hR.elim
    | double x => exact hR.elim
    | null => exact hR.elim
    | ref x => exact hR.elim
    | retAddr x => exact hR.elim
theorem zPc_blind {ad : Nat → Nat} {cI cR : ClassId} {D : va_G} {h : List sE} {As : List Value} {sz : Nat} : FrameBlind (zPc ad cI cR D h As sz) := fun a U g mk q => by
  obtain ⟨q0, q1, qP, qK, qD, qZ1, qZ2, qZ3, qZ4⟩ := q
  exact ⟨q0, q1, qP, va_K.moved (u := U) (U := U.calling g mk a) (Vm.Alike.refl U.vm) qK, qD, qZ1.moved (u := U) (U := U.calling g mk a) (Vm.Alike.refl U.vm), fun i hi => vk_R.same (u := U) (U := U.calling g mk a) rfl (qZ2 i hi), qZ3.moved (u := U) (U := U.calling g mk a) (Vm.Alike.refl U.vm), qZ4.imp (fun h => h.moved (u := U) (U := U.calling g mk a) (Vm.Alike.refl U.vm)) (fun h => h.moved (u := U) (U := U.calling g mk a) (Vm.Alike.refl U.vm))⟩
/-- what is known of a method by its name -/
def zMb (M : MI) (n : Nat) : Prop := Cond.code M.1 M.2.1 M.2.2.1 M.2.2.2.1 ∈ lw_tbl ∧ Cond.initialized M.1.cls ∈ lw_tbl ∧ (M.1.cls ≠ "java/lang/invoke/MethodHandle" ∧ M.1.cls ≠ "java/lang/invoke/VarHandle" ∧ (parseMethodDescriptor M.1.desc).map (fun d => d.parameters.length) = some n) ∧ plainName M.1.cls = true ∧ M.2.2.1 ≤ 21
def zMs (M : MI) (n : Nat) : Prop := zMb M n ∧ Cond.static M.1 ∈ lw_tbl
def zMv (M : MI) (n : Nat) : Prop := zMb M n ∧ Cond.instanceMethod M.1 ∈ lw_tbl ∧ Cond.selects M.1.cls M.1 M.1 ∈ lw_tbl
theorem zCallB {M M' : MI} {n idx : Nat} {p : Program} {R : Room} {s : State} {m : MethodId} {args : Array Value} {c : Code} {cells slots : Nat} {ad : Nat → Nat} {cI cR : ClassId} {D : va_G} {A : Nat → Prop} (hc : zC M p R s m args c cells slots ad cI cR D A) (hM : zMb M' n) (hl : Cond.methodLink M.1.cls idx M'.1 ∈ lw_tbl) (hdep : M'.2.2.2.2 + 1 ≤ M.2.2.2.2) :
    CallB R s args M.1.cls idx M'.1 M'.2.1 M'.2.2.1 M'.2.2.2.1 (zws M') (zrm M') 0 0 n := by
  obtain ⟨r1, r2, r3, r4⟩ := hc.2.2.2.2.2.2.2.1
  have hts := hc.2.2.2.2.1
  obtain ⟨g1, g2, g3, g4, g5⟩ := hM
  refine ⟨rfl, rfl, ?_, ?_, fun w hw a' U hW => ?_, List.mem_cons_self, hts _ (g_in g1 rfl), hts _ (g_in g2 rfl), ⟨g3.1, g3.2.1⟩, fun sig h => ?_, hts _ (g_in hl rfl)⟩
  · show M'.2.2.2.2 + 1 ≤ R.frames
    omega
  · show 8 + (M'.2.2.1 + 11) + 40 * M'.2.2.2.2 ≤ R.locals
    omega
  · have hw' : w ∈ gtbl := by
      rcases List.mem_cons.mp hw with e | e
      · rw [e]; exact g_in g1 rfl
      · exact e
    exact word_at hW (good_of_word (z_good w hw')) (hts w hw')
  · have h2 := g3.2.2
    rw [h] at h2
    exact (Option.some.inj h2).symm
/-- what comes of a call -/
def zGo (M : MI) (p : Program) (l : Launch) (e : Env) (R : Room) (s : State) (m : MethodId) (args : Array Value) (below : List Frame) (meth : Method) (c : Code) (H : Heap) (locs : List Loc) (cells slots : Nat) (g : JFrame) (rest : List Value) (ad' : Nat → Nat) (cI cR : ClassId) (D : va_G) (hc' : List sE) (Q' : Option Value → List sE → Prop) : Prop :=
  ∃ a, va_Run p l e R s m args below meth c H locs cells slots 0 0 g rest (zQc ad' cI cR D hc' H.size Q' a) (va_A (zW ad' cI cR hc') H.size)
theorem zGo.on {M : MI} {p : Program} {l : Launch} {e : Env} {R : Room} {s : State} {m : MethodId} {args : Array Value} {below : List Frame} {meth : Method} {c : Code} {H : Heap} {locs : List Loc} {cells slots pc : Nat} {ls : Array Slot} {st0 rest : List Value} {ad' : Nat → Nat} {cI cR : ClassId} {D : va_G} {hc' : List sE} {Q' : Option Value → List sE → Prop} {A : Nat → Prop} {Z : State → Prop}
    (hg : zGo M p l e R s m args below meth c H locs cells slots (F0 m pc ls st0) rest ad' cI cR D hc' Q') (hS : va_S A s.heap H locs) (hf : ∀ q, va_A (zW ad' cI cR hc') H.size q → A q)
    (kk : ∀ (r : Option Value) (h' : List sE) (H1 : Heap) (locs1 : List Loc), (∀ a, r ≠ some (.ref a)) → Q' r h' → h'.length = hc'.length → va_P D classes (zW ad' cI cR h') H1 → H.size ≤ H1.size → (∀ q : Nat, q < H.size → ¬ va_A (zW ad' cI cR hc') H.size q → H1[q]? = H[q]?) → va_S A s.heap H1 locs1 → W p l e R s m args below meth c H1 locs1 cells slots Z (F0 m (pc + 3) ls (r.toList ++ rest))) :
    W p l e R s m args below meth c H locs cells slots Z (F0 m pc ls st0) := by
  intro T hT X
  obtain ⟨a, hr⟩ := hg
  obtain ⟨v, st₀, t, T', L, h0, X', hL, e1, e2, ⟨⟨r, h', hv, hq, hlen, hP, hnr⟩, hz, hk⟩, st⟩ := hr T hT X
  cases hv
  rw [h0] at hz hk
  obtain ⟨t2, a1, b1⟩ := kk v h' T'.heap (locs ++ L) hnr hq hlen (by rw [e1]; exact hP) (by rw [e1]; exact hz) (fun q h1 h2 => by rw [e1]; exact hk q h1 h2)
    ⟨Nat.le_trans hS.1 (by rw [e1]; exact hz), fun q h1 h2 => by rw [e1, hk q (Nat.lt_of_lt_of_le h1 hS.1) (fun z => h2 (hf q z))]; exact hS.2.1 q h1 h2, fun q hq => by
      rcases List.mem_append.mp hq with h | h
      · exact hS.2.2 q h
      · exact hf _ (hL q h)⟩ T' rfl X'
  exact ⟨t2, st t2 a1, b1⟩
/-- the callee's world in the caller's: cell j of it is cell pos j -/
def zSub (ad ad' : Nat → Nat) (cI cR : ClassId) (h hc' : List sE) (pos : Nat → Nat) : Prop :=
  (∀ j e, hc'[j]? = some e → ∃ e0, h[pos j]? = some e0 ∧ ad' j = ad (pos j) ∧ zE ad' cI cR e = zE ad cI cR e0) ∧ (∀ i j, i < hc'.length → j < hc'.length → pos i = pos j → i = j) ∧ ∀ k, 1000 ≤ k → ad' k = ad k
theorem zSub.at' {ad ad' : Nat → Nat} {cI cR : ClassId} {h hc' : List sE} {pos : Nat → Nat} (hs : zSub ad ad' cI cR h hc' pos) (k : Nat) (q : Nat × va_E) (hq : (zW ad' cI cR hc')[k]? = some q) : (zW ad cI cR h)[pos k]? = some q := by
  obtain ⟨e, h1, rfl⟩ := zW_of hq
  obtain ⟨e0, h2, h3, h4⟩ := hs.1 k e h1
  rw [h3, h4]
  exact zW_at h2
theorem zSub.P {ad ad' : Nat → Nat} {cI cR : ClassId} {h hc' : List sE} {pos : Nat → Nat} {D : va_G} {H : Heap} (hs : zSub ad ad' cI cR h hc' pos) (hP : va_P D classes (zW ad cI cR h) H) : va_P D classes (zW ad' cI cR hc') H := hP.by pos hs.at'
theorem zSub.D {ad ad' : Nat → Nat} {cI cR : ClassId} {h hc' : List sE} {pos : Nat → Nat} {A : Nat → Prop} (hs : zSub ad ad' cI cR h hc' pos) (hD : va_D A (zW ad cI cR h)) : va_D A (zW ad' cI cR hc') := hD.by pos hs.at' (fun i j hi hj => hs.2.1 i j (by unfold zW at hi; rwa [List.length_mapIdx] at hi) (by unfold zW at hj; rwa [List.length_mapIdx] at hj))
theorem zSub.free {ad ad' : Nat → Nat} {cI cR : ClassId} {h hc' : List sE} {pos : Nat → Nat} {A : Nat → Prop} {H0 H : Heap} {locs : List Loc} (hs : zSub ad ad' cI cR h hc' pos) (hD : va_D A (zW ad cI cR h)) (hS : va_S A H0 H locs) (hA : ∀ q, H0.size ≤ q → A q) (q : Nat) (hq : va_A (zW ad' cI cR hc') H.size q) : A q := by
  rcases hq with ⟨k, e, hk⟩ | hq
  · exact hD.2 (pos k) (q, e) (hs.at' k (q, e) hk)
  · exact hA q (Nat.le_trans hS.1 hq)
/-- a world of the same length at the same addresses -/
theorem zD_len {ad : Nat → Nat} {cI cR : ClassId} {h h' : List sE} {A : Nat → Prop} (hD : va_D A (zW ad cI cR h)) (hl : h'.length = h.length) : va_D A (zW ad cI cR h') := by
  have key : ∀ (k : Nat) (q : Nat × va_E), (zW ad cI cR h')[k]? = some q → ∃ q0, (zW ad cI cR h)[k]? = some q0 ∧ q0.1 = q.1 := by
    intro k q hq
    obtain ⟨e, h1, rfl⟩ := zW_of hq
    have hk : k < h.length := by rw [← hl]; exact (List.getElem?_eq_some_iff.mp h1).1
    exact ⟨_, zW_at (List.getElem?_eq_getElem hk), rfl⟩
  refine ⟨fun i j x y hi hj hxy => ?_, fun k q hk => ?_⟩
  · obtain ⟨x0, a1, a2⟩ := key i x hi
    obtain ⟨y0, b1, b2⟩ := key j y hj
    exact hD.1 i j x0 y0 a1 b1 (a2.trans (hxy.trans b2.symm))
  · obtain ⟨q0, a1, a2⟩ := key k q hk
    rw [← a2]
    exact hD.2 k q0 a1
theorem zcats (ad : Nat → Nat) (S : List Value) : ((S.map (zA ad)).map fun v => v.category).sum = (S.map fun v => v.category).sum := by
  rw [List.map_map]
  congr 1
  apply List.map_congr_left
  intro v _
  exact zA_cat ad v
section ZCALL
variable {M M' : MI} {n idx : Nat} {p : Program} {l : Launch} {e : Env} {R : Room} {s : State} {m : MethodId} {args : Array Value} {below : List Frame} {meth : Method} {c : Code} {cells slots : Nat} {ad ad' : Nat → Nat} {cI cR : ClassId} {D : va_G} {A : Nat → Prop} {h hc' : List sE} {pos : Nat → Nat} {H : Heap} {locs : List Loc} {pc : Nat} {ls : Array Slot} {As S rest : List Value} {Q' : Option Value → List sE → Prop}
theorem zPre (hc : zC M p R s m args c cells slots ad cI cR D A) (hs : zSub ad ad' cI cR h hc' pos) (hP : va_P D classes (zW ad cI cR h) H) (hD : va_D A (zW ad cI cR h)) (hS : va_S A s.heap H locs) (U : State) (hU : U.heap = H) (hW : s.WarmedH U.vm) : zPc ad' cI cR D hc' As H.size (As.map (zA ad')).toArray U := by
  refine ⟨rfl, by rw [hU], by rw [hU]; exact hs.P hP, va_K.moved hW.alike hc.2.2.2.2.2.1, (hs.D hD).weaken (fun _ _ _ _ => trivial), ?_⟩
  rw [hU]
  exact hc.2.2.2.2.2.2.2.2.step hW hS.2.1 (fun q hq => hs.free hD hS hc.2.2.2.2.2.2.1 q hq) hs.2.2
theorem zGoS (hc : zC M p R s m args c cells slots ad cI cR D A) (hs : zSub ad ad' cI cR h hc' pos) (hP : va_P D classes (zW ad cI cR h) H) (hD : va_D A (zW ad cI cR h)) (hS : va_S A s.heap H locs) (hls : ls.size = M.2.2.1)
    (hM : zMs M' n) (hl : Cond.methodLink M.1.cls idx M'.1 ∈ lw_tbl) (hdep : M'.2.2.2.2 + 1 ≤ M.2.2.2.2) (hn : As.length = n) (hst : S.map (zA ad) = (As.map (zA ad')).reverse ++ rest.map (zA ad)) (hcat : (rest.map fun v => v.category).sum ≤ 8) (hd : decode M.2.1 pc = .ok (.invokestatic idx, 3))
    (hlen : (lg_sl (As.map (zA ad'))).length ≤ M'.2.2.1) (hA : ∀ v ∈ As, v.category = 2 → ∃ x, v = .long x) (hv : V M' 0 (zent M'.2.2.1 As) [] hc' Q') :
    zGo M p l e R s m args below meth c H locs cells slots (F0 m pc ls (S.map (zA ad))) (rest.map (zA ad)) ad' cI cR D hc' Q' :=
  ⟨_, va_runS (As := As.map (zA ad')) (n := n) ⟨hc.1, hc.2.1, hc.2.2.1, hc.2.2.2.1, hc.2.2.2.2.1⟩ (V_met l ad' cI cR D H.size hM.1.2.2.2.1 hlen hA hv) ⟨zCallB hc hM.1 hl hdep, hc.2.2.2.2.1 _ (g_in hM.2 rfl)⟩ ⟨zPc_blind, fun U hU hW => zPre hc hs hP hD hS U hU hW⟩ rfl (by rw [List.length_map]; exact hn) hls (by exact hst) (lv_room (by rw [zcats]; exact hcat)) hd ⟨hc.2.2.2.2.2.2.2.1.1, hc.2.2.2.2.2.2.2.1.2.1⟩⟩
theorem zGoV (hc : zC M p R s m args c cells slots ad cI cR D A) (hs : zSub ad ad' cI cR h hc' pos) (hP : va_P D classes (zW ad cI cR h) H) (hD : va_D A (zW ad cI cR h)) (hS : va_S A s.heap H locs) (hls : ls.size = M.2.2.1) {b : Nat}
    (hM : zMv M' n) (hl : Cond.methodLink M.1.cls idx M'.1 ∈ lw_tbl) (hdep : M'.2.2.2.2 + 1 ≤ M.2.2.2.2) (hn : As.length = n) (hst : S.map (zA ad) = (As.map (zA ad')).reverse ++ .ref (ad' b) :: rest.map (zA ad)) (hcat : (rest.map fun v => v.category).sum ≤ 8) (hd : decode M.2.1 pc = .ok (.invokevirtual idx, 3))
    (hrecv : ∃ cellB : Cell, H[ad' b]? = some cellB ∧ cellB.vm.isStatics = false ∧ s.vm.findClass M'.1.cls = some cellB.cls)
    (hlen : (lg_sl ((.ref b :: As).map (zA ad'))).length ≤ M'.2.2.1) (hA : ∀ v ∈ As, v.category = 2 → ∃ x, v = .long x) (hv : V M' 0 (zent M'.2.2.1 (.ref b :: As)) [] hc' Q') :
    zGo M p l e R s m args below meth c H locs cells slots (F0 m pc ls (S.map (zA ad))) (rest.map (zA ad)) ad' cI cR D hc' Q' :=
  ⟨_, va_runV (As := As.map (zA ad')) (n := n) (b := ad' b) (C := M'.1.cls) ⟨hc.1, hc.2.1, hc.2.2.1, hc.2.2.2.1, hc.2.2.2.2.1⟩ (V_met l (As := .ref b :: As) ad' cI cR D H.size hM.1.2.2.2.1 hlen (fun v hv hc2 => by
      rcases List.mem_cons.mp hv with e | e
      · rw [e] at hc2; cases hc2
      · exact hA v e hc2) hv) ⟨zCallB hc hM.1 hl hdep, hc.2.2.2.2.1 _ (g_in hM.2.1 rfl), hc.2.2.2.2.1 _ (g_in hM.2.2 rfl)⟩ ⟨zPc_blind, hrecv, fun U hU hW => zPre (As := .ref b :: As) hc hs hP hD hS U hU hW⟩ rfl (by rw [List.length_map]; exact hn) hls (by exact hst) (lv_room (by rw [zcats]; exact hcat)) hd ⟨hc.2.2.2.2.2.2.2.1.1, hc.2.2.2.2.2.2.2.1.2.1⟩⟩
end ZCALL
theorem zSub_id {ad : Nat → Nat} {cI cR : ClassId} {h : List sE} : zSub ad ad cI cR h h (fun j => j) := ⟨fun j e he => ⟨e, he, rfl, rfl⟩, fun i j _ _ h => h, fun _ _ => rfl⟩
theorem ztoList {ad : Nat → Nat} {M : MI} {r : Option Value} (hr : ∀ a, r ≠ some (.ref a)) (S : List Value) : (r.toList ++ S).map (zA ad) = r.toList ++ S.map (zA ad) := by
  cases r with
  | none => rfl
  | some v => cases v <;> first | rfl | exact absurd rfl (hr _)
theorem zlg (ad : Nat → Nat) (As : List Value) : (lg_sl (As.map (zA ad))).length = (lg_sl As).length := by
  induction As with
  | nil => rfl
  | cons v vs ih =>
    unfold lg_sl at ih ⊢
    rw [List.map_cons, List.flatMap_cons, List.flatMap_cons, List.length_append, List.length_append, ih, zA_cat]
    by_cases hc : v.category = 2 <;> simp [hc]
/-- a part of a world: the numbers of a callee's cells in its caller's world -/
def em (emb : List Nat) (k : Nat) : Nat := if k < 1000 then emb.getD k 0 else k
def zre (f : Nat → Nat) (e : sE) : sE := match e with
  | .inl x => .inl x
  | .inr (.inl g) => .inr (.inl (g.map f))
  | .inr (.inr o) => .inr (.inr (o.1, o.2.map (zA f)))
def zput : List Nat → List sE → List sE → List sE
  | i :: is, h, e :: es => zput is (h.set i e) es
  | _, h, _ => h
theorem zput_len : ∀ (is : List Nat) (h es : List sE), (zput is h es).length = h.length
  | [], _, _ => rfl
  | _ :: _, _, [] => rfl
  | i :: is, h, e :: es => by
    show (zput is (h.set i e) es).length = _
    rw [zput_len is, List.length_set]
theorem zput_out : ∀ (is : List Nat) (h es : List sE) (k : Nat), k ∉ is → (zput is h es)[k]? = h[k]?
  | [], _, _, _, _ => rfl
  | _ :: _, _, [], _, _ => rfl
  | i :: is, h, e :: es, k, hk => by
    show (zput is (h.set i e) es)[k]? = _
    rw [zput_out is _ es k (fun q => hk (List.mem_cons_of_mem _ q)), List.getElem?_set_ne (fun q => hk (by rw [q]; exact List.mem_cons_self))]
theorem zput_in : ∀ (is : List Nat) (h es : List sE) (j k : Nat) (e : sE), va_nd is = true → is[j]? = some k → k < h.length → es[j]? = some e → (zput is h es)[k]? = some e
  | [], _, _, _, _, _, _, h, _, _ => by cases h
  | _ :: _, _, [], _, _, _, _, _, _, h => by cases h
  | i :: is, h, e0 :: es, j, k, e, hn, hj, hl, he => by
    show (zput is (h.set i e0) es)[k]? = _
    simp only [va_nd, Bool.and_eq_true, decide_eq_true_eq] at hn
    cases j with
    | zero =>
      cases hj
      cases he
      rw [zput_out is _ es _ hn.1, List.getElem?_set_self hl]
    | succ j =>
      exact zput_in is _ es j k e hn.2 hj (by rw [List.length_set]; exact hl) he
theorem zE_re (ad f : Nat → Nat) (cI cR : ClassId) (e : sE) : zE (fun k => ad (f k)) cI cR e = zE ad cI cR (zre f e) := by
  rcases e with x | g | o
  · rfl
  · show ((.inl _ : va_E)) = .inl _
    have e2 : (fun (i : Nat) => (g[i]?).map (fun k => ad (f k))) = (fun (i : Nat) => ((g.map f)[i]?).map ad) := funext fun i => by
      rw [List.getElem?_map, Option.map_map]
      rfl
    rw [e2, List.length_map]
  · show ((.inr _ : va_E)) = .inr _
    rw [List.map_map]
    congr 2
    apply List.map_congr_left
    intro v _
    cases v <;> rfl
theorem zSub_em {ad : Nat → Nat} {cI cR : ClassId} {h hc : List sE} {emb : List Nat} (hnd : va_nd emb = true) (hle : emb.length ≤ 1000) (hsl : emb.map (fun i => h[i]?) = hc.map (fun e => some (zre (em emb) e))) : zSub ad (fun k => ad (em emb k)) cI cR h hc (fun j => emb.getD j 0) := by
  have hlen : emb.length = hc.length := by
    have := congrArg List.length hsl
    rwa [List.length_map, List.length_map] at this
  have at' : ∀ j e, hc[j]? = some e → emb[j]? = some (emb.getD j 0) ∧ h[emb.getD j 0]? = some (zre (em emb) e) := by
    intro j e he
    have h1 : (emb.map (fun i => h[i]?))[j]? = some (some (zre (em emb) e)) := by rw [hsl, List.getElem?_map, he]; rfl
    rw [List.getElem?_map] at h1
    cases hi : emb[j]? with
    | none => rw [hi] at h1; cases h1
    | some i =>
      rw [hi] at h1
      have e2 : emb.getD j 0 = i := by rw [List.getD_eq_getElem?_getD, hi]; rfl
      rw [e2]
      exact ⟨rfl, Option.some.inj h1⟩
  refine ⟨fun j e he => ?_, fun i j hi hj hij => ?_, fun k hk => ?_⟩
  · obtain ⟨-, h2⟩ := at' j e he
    have hj : j < hc.length := (List.getElem?_eq_some_iff.mp he).1
    refine ⟨_, h2, ?_, zE_re ad (em emb) cI cR e⟩
    show ad (em emb j) = _
    unfold em
    rw [if_pos (by omega)]
  · obtain ⟨h1, -⟩ := at' i _ (List.getElem?_eq_getElem hi)
    obtain ⟨h2, -⟩ := at' j _ (List.getElem?_eq_getElem hj)
    dsimp only at hij
    rw [hij] at h1
    exact va_nd_inj emb hnd i j _ h1 h2
  · show ad (em emb k) = _
    unfold em
    rw [if_neg (by omega)]
theorem zput_P {ad : Nat → Nat} {cI cR : ClassId} {h hc h' : List sE} {emb : List Nat} {D : va_G} {A : Nat → Prop} {H H1 : Heap} (hnd : va_nd emb = true) (hle : emb.length ≤ 1000) (hsl : emb.map (fun i => h[i]?) = hc.map (fun e => some (zre (em emb) e))) (hP : va_P D classes (zW ad cI cR h) H) (hD : va_D A (zW ad cI cR h)) (hlen : h'.length = hc.length)
    (hP1 : va_P D classes (zW (fun k => ad (em emb k)) cI cR h') H1) (hk : ∀ q : Nat, q < H.size → ¬ va_A (zW (fun k => ad (em emb k)) cI cR hc) H.size q → H1[q]? = H[q]?) : va_P D classes (zW ad cI cR (zput emb h (h'.map (zre (em emb))))) H1 := by
  have hs := zSub_em (ad := ad) (cI := cI) (cR := cR) hnd hle hsl
  have hlen2 : emb.length = hc.length := by
    have := congrArg List.length hsl
    rwa [List.length_map, List.length_map] at this
  intro k q hq
  obtain ⟨e, h1, rfl⟩ := zW_of hq
  by_cases hkm : k ∈ emb
  · obtain ⟨j, hj⟩ := List.getElem?_of_mem hkm
    have hjl : j < h'.length := by
      have := (List.getElem?_eq_some_iff.mp hj).1
      omega
    have hkl : k < h.length := by
      have := (List.getElem?_eq_some_iff.mp h1).1
      rwa [zput_len] at this
    have h2 := zput_in emb h (h'.map (zre (em emb))) j k (zre (em emb) h'[j]) hnd hj hkl (by rw [List.getElem?_map, List.getElem?_eq_getElem hjl]; rfl)
    cases h1.symm.trans h2
    have h3 := hP1 j _ (zW_at (List.getElem?_eq_getElem hjl))
    rw [zE_re ad (em emb)] at h3
    have e2 : em emb j = k := by
      unfold em
      rw [if_pos (by omega), List.getD_eq_getElem?_getD, hj]
      rfl
    rw [e2] at h3
    exact h3
  · rw [zput_out _ _ _ _ hkm] at h1
    have h2 := hP k _ (zW_at h1)
    refine h2.kept (hk _ h2.lt (fun z => ?_))
    rcases z with ⟨j, e2, hj⟩ | z
    · have h3 := hs.at' j _ hj
      have h4 := hD.1 k _ _ _ (zW_at h1) h3 rfl
      obtain ⟨e3, h5, -⟩ := zW_of hj
      have h6 : j < emb.length := by
        have := (List.getElem?_eq_some_iff.mp h5).1
        omega
      apply hkm
      rw [h4]
      show emb.getD j 0 ∈ emb
      rw [List.getD_eq_getElem?_getD, List.getElem?_eq_getElem h6]
      exact List.getElem_mem h6
    · have := h2.lt
      dsimp only at this
      omega
section ZV2
variable {M M' : MI} {n idx pc : Nat} {L S As rest : List Value} {h hc : List sE} {Q : Option Value → List sE → Prop}
theorem V.callS (hM : zMs M' n) (hl : Cond.methodLink M.1.cls idx M'.1 ∈ lw_tbl) (hdep : M'.2.2.2.2 + 1 ≤ M.2.2.2.2) (hn : As.length = n) (hlen : (lg_sl As).length ≤ M'.2.2.1) (hA : ∀ v ∈ As, v.category = 2 → ∃ x, v = .long x) (hd : decode M.2.1 pc = .ok (.invokestatic idx, 3)) (hcat : (rest.map fun v => v.category).sum ≤ 8) (hst : S = As.reverse ++ rest)
    (hv : V M' 0 (zent M'.2.2.1 As) [] h (fun r h' => V M (pc + 3) L (r.toList ++ rest) h' Q)) : V M pc L S h Q := by
  intro p l e R s m args below meth c cells slots ad cI cR D A hc Z hZ H locs ls hls hP hD hS
  subst hst
  have hg := zGoS (l := l) (e := e) (below := below) (meth := meth) (ls := ls) hc zSub_id hP hD hS hls.1 hM hl hdep hn (S := As.reverse ++ rest) (by rw [List.map_append, List.map_reverse]) hcat hd (by rw [zlg]; exact hlen) hA hv
  exact hg.on hS (fun q hq => zSub_id.free hD hS hc.2.2.2.2.2.2.1 q hq) (fun r h' H1 locs1 hnr hq hlen hP1 hz hk hS1 => by
    have k := hq p l e R s m args below meth c cells slots ad cI cR D A hc Z (fun r h2 H locs pc' ls q1 q2 => hZ r h2 H locs pc' ls q1 (q2.trans hlen)) H1 locs1 ls hls hP1 (zD_len hD hlen) hS1
    rw [ztoList (M := M) hnr] at k
    exact k)
theorem V.callV {b ci : Nat} {fs : List Value} (hM : zMv M' n) (hl : Cond.methodLink M.1.cls idx M'.1 ∈ lw_tbl) (hdep : M'.2.2.2.2 + 1 ≤ M.2.2.2.2) (hn : As.length = n) (hlen : (lg_sl (.ref b :: As)).length ≤ M'.2.2.1) (hA : ∀ v ∈ As, v.category = 2 → ∃ x, v = .long x) (hd : decode M.2.1 pc = .ok (.invokevirtual idx, 3)) (hcat : (rest.map fun v => v.category).sum ≤ 8) (hci : (classes[ci]?).map (fun r => r.1) = some M'.1.cls) (hst : S = As.reverse ++ .ref b :: rest) (hb : h[b]? = some (.inr (.inr (ci, fs))))
    (hv : V M' 0 (zent M'.2.2.1 (.ref b :: As)) [] h (fun r h' => V M (pc + 3) L (r.toList ++ rest) h' Q)) : V M pc L S h Q := by
  intro p l e R s m args below meth c cells slots ad cI cR D A hc Z hZ H locs ls hls hP hD hS
  subst hst
  obtain ⟨r0, hr0, hr1⟩ := Option.map_eq_some_iff.mp hci
  have hrecv := va_recv hc.2.2.2.2.2.1 hP hr0 (zW_at hb)
  rw [hr1] at hrecv
  have hg := zGoV (l := l) (e := e) (below := below) (meth := meth) (ls := ls) hc zSub_id hP hD hS hls.1 hM hl hdep hn (S := As.reverse ++ .ref b :: rest) (by rw [List.map_append, List.map_reverse]; rfl) hcat hd hrecv (by rw [zlg]; exact hlen) hA hv
  exact hg.on hS (fun q hq => zSub_id.free hD hS hc.2.2.2.2.2.2.1 q hq) (fun r h' H1 locs1 hnr hq hlen hP1 hz hk hS1 => by
    have k := hq p l e R s m args below meth c cells slots ad cI cR D A hc Z (fun r h2 H locs pc' ls q1 q2 => hZ r h2 H locs pc' ls q1 (q2.trans hlen)) H1 locs1 ls hls hP1 (zD_len hD hlen) hS1
    rw [ztoList (M := M) hnr] at k
    exact k)
/-- a call of a method of a text -/
theorem V.callT {i : Nat} (hi : i < 12) (hM : zMv M' n) (hcls : M'.1.cls = "java/lang/String") (hl : Cond.methodLink M.1.cls idx M'.1 ∈ lw_tbl) (hdep : M'.2.2.2.2 + 1 ≤ M.2.2.2.2) (hn : As.length = n) (hlen : (lg_sl (.ref (1000 + i) :: As)).length ≤ M'.2.2.1) (hA : ∀ v ∈ As, v.category = 2 → ∃ x, v = .long x) (hd : decode M.2.1 pc = .ok (.invokevirtual idx, 3)) (hcat : (rest.map fun v => v.category).sum ≤ 8) (hst : S = As.reverse ++ .ref (1000 + i) :: rest)
    (hv : V M' 0 (zent M'.2.2.1 (.ref (1000 + i) :: As)) [] h (fun r h' => V M (pc + 3) L (r.toList ++ rest) h' Q)) : V M pc L S h Q := by
  intro p l e R s m args below meth c cells slots ad cI cR D A hc Z hZ H locs ls hls hP hD hS
  subst hst
  have hrecv := vk_recv hc.2.2.2.2.2.2.2.2.1 hi hS
  rw [← hcls] at hrecv
  have hg := zGoV (l := l) (e := e) (below := below) (meth := meth) (ls := ls) hc zSub_id hP hD hS hls.1 hM hl hdep hn (S := As.reverse ++ .ref (1000 + i) :: rest) (by rw [List.map_append, List.map_reverse]; rfl) hcat hd hrecv (by rw [zlg]; exact hlen) hA hv
  exact hg.on hS (fun q hq => zSub_id.free hD hS hc.2.2.2.2.2.2.1 q hq) (fun r h' H1 locs1 hnr hq hlen hP1 hz hk hS1 => by
    have k := hq p l e R s m args below meth c cells slots ad cI cR D A hc Z (fun r h2 H locs pc' ls q1 q2 => hZ r h2 H locs pc' ls q1 (q2.trans hlen)) H1 locs1 ls hls hP1 (zD_len hD hlen) hS1
    rw [ztoList (M := M) hnr] at k
    exact k)
/-- a call over a part of the world -/
theorem V.callG {b ci : Nat} {fs : List Value} (emb : List Nat) (hc0 : List sE) (hM : zMv M' n) (hl : Cond.methodLink M.1.cls idx M'.1 ∈ lw_tbl) (hdep : M'.2.2.2.2 + 1 ≤ M.2.2.2.2) (hn : As.length = n) (hlen : (lg_sl (.ref b :: As)).length ≤ M'.2.2.1) (hA : ∀ v ∈ As, v.category = 2 → ∃ x, v = .long x) (hd : decode M.2.1 pc = .ok (.invokevirtual idx, 3)) (hcat : (rest.map fun v => v.category).sum ≤ 8) (hci : (classes[ci]?).map (fun r => r.1) = some M'.1.cls)
    (hnd : va_nd emb = true) (hle : emb.length ≤ 1000) (hst : S = ((.ref b :: As).map (zA (em emb))).reverse ++ rest) (hsl : emb.map (fun i => h[i]?) = hc0.map (fun e => some (zre (em emb) e))) (hb : hc0[b]? = some (.inr (.inr (ci, fs))))
    (hv : V M' 0 (zent M'.2.2.1 (.ref b :: As)) [] hc0 (fun r h' => V M (pc + 3) L (r.toList ++ rest) (zput emb h (h'.map (zre (em emb)))) Q)) : V M pc L S h Q := by
  intro p l e R s m args below meth c cells slots ad cI cR D A hc Z hZ H locs ls hls hP hD hS
  subst hst
  have hs := zSub_em (ad := ad) (cI := cI) (cR := cR) hnd hle hsl
  obtain ⟨r0, hr0, hr1⟩ := Option.map_eq_some_iff.mp hci
  have hrecv := va_recv hc.2.2.2.2.2.1 (hs.P hP) hr0 (zW_at hb)
  rw [hr1] at hrecv
  have e1 : ∀ v : Value, zA ad (zA (em emb) v) = zA (fun k => ad (em emb k)) v := fun v => by cases v <;> rfl
  have hst : (((.ref b :: As).map (zA (em emb))).reverse ++ rest).map (zA ad) = (As.map (zA (fun k => ad (em emb k)))).reverse ++ .ref ((fun k => ad (em emb k)) b) :: rest.map (zA ad) := by
    rw [List.map_append, List.map_reverse, List.map_map, List.map_cons, List.reverse_cons, List.append_assoc]
    congr 1
    congr 1
    exact List.map_congr_left (fun v _ => e1 v)
  have hg := zGoV (l := l) (e := e) (below := below) (meth := meth) (ls := ls) hc hs hP hD hS hls.1 hM hl hdep hn hst hcat hd hrecv (by rw [zlg]; exact hlen) hA hv
  exact hg.on hS (fun q hq => hs.free hD hS hc.2.2.2.2.2.2.1 q hq) (fun r h' H1 locs1 hnr hq hlen hP1 hz hk hS1 => by
    have hl2 : (zput emb h (h'.map (zre (em emb)))).length = h.length := zput_len _ _ _
    have k := hq p l e R s m args below meth c cells slots ad cI cR D A hc Z (fun r h2 H locs pc' ls q1 q2 => hZ r h2 H locs pc' ls q1 (q2.trans hl2)) H1 locs1 ls hls (zput_P hnd hle hsl hP hD hlen hP1 hk) (zD_len hD hl2) hS1
    rw [ztoList (M := M) hnr] at k
    exact k)
end ZV2
