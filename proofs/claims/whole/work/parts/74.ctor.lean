/-! worlds joined; two dimensions; constructors -/
def vlt (n : Nat) (v : Value) : Bool := match v with
  | .ref k => Nat.blt k n
  | _ => true
def elt (n : Nat) (e : sE) : Bool := match e with
  | .inl _ => true
  | .inr (.inl g) => g.all (fun k => Nat.blt k n)
  | .inr (.inr o) => o.2.all (vlt n)
def adj (ad : Nat → Nat) (n : Nat) (ad2 : Nat → Nat) : Nat → Nat := fun k => if k < n then ad k else if k < 1000 then ad2 (k - n) else ad k
theorem adj_l {ad ad2 : Nat → Nat} {n k : Nat} (h : k < n) : adj ad n ad2 k = ad k := if_pos h
theorem adj_r {ad ad2 : Nat → Nat} {n k : Nat} (h : k + n < 1000) : adj ad n ad2 (k + n) = ad2 k := by
  unfold adj
  rw [if_neg (by omega), if_pos h, Nat.add_sub_cancel]
theorem zA_same {f g : Nat → Nat} {n : Nat} (hfg : ∀ k, k < n → f k = g k) {v : Value} (h : vlt n v = true) : zA f v = zA g v := by
  cases v with
  | ref k =>
    show Value.ref (f k) = Value.ref (g k)
    rw [hfg k (Nat.blt_eq.mp h)]
  | _ => rfl
theorem zE_same {f g : Nat → Nat} {n : Nat} (hfg : ∀ k, k < n → f k = g k) {cI cR : ClassId} {e : sE} (h : elt n e = true) : zE f cI cR e = zE g cI cR e := by
  rcases e with x | q | o
  · rfl
  · have e2 : (fun (i : Nat) => (q[i]?).map f) = (fun (i : Nat) => (q[i]?).map g) := funext fun i => by
      cases hi : q[i]? with
      | none => rfl
      | some k =>
        have hk := List.all_eq_true.mp h k (List.mem_of_getElem? hi)
        show some (f k) = some (g k)
        rw [hfg k (Nat.blt_eq.mp hk)]
    show ((.inl _ : va_E)) = .inl _
    rw [e2]
  · show ((.inr _ : va_E)) = .inr _
    congr 2
    exact List.map_congr_left (fun v hv => zA_same hfg (List.all_eq_true.mp h v hv))
theorem zl_same {f g : Nat → Nat} {n : Nat} (hfg : ∀ k, k < n → f k = g k) {L : List Value} (h : L.all (vlt n) = true) : zl f L = zl g L := by
  unfold zl
  congr 1
  funext k
  cases hv : L[k]? with
  | none => rfl
  | some v =>
    have h1 := zA_same hfg (List.all_eq_true.mp h v (List.mem_of_getElem? hv))
    cases v <;> first | rfl | (dsimp only; rw [h1])
theorem zS_same {f g : Nat → Nat} {n : Nat} (hfg : ∀ k, k < n → f k = g k) {S : List Value} (h : S.all (vlt n) = true) : S.map (zA f) = S.map (zA g) := List.map_congr_left (fun v hv => zA_same hfg (List.all_eq_true.mp h v hv))
/-- also the constants' numbers -/
def vlx (n : Nat) (v : Value) : Bool := match v with
  | .ref k => Nat.blt k n || Nat.ble 1000 k
  | _ => true
theorem zA_samx {f g : Nat → Nat} {n : Nat} (hfg : ∀ k, k < n → f k = g k) (hfh : ∀ k, 1000 ≤ k → f k = g k) {v : Value} (h : vlx n v = true) : zA f v = zA g v := by
  cases v with
  | ref k =>
    show Value.ref (f k) = Value.ref (g k)
    rcases Bool.or_eq_true _ _ |>.mp h with e | e
    · rw [hfg k (Nat.blt_eq.mp e)]
    · rw [hfh k (Nat.le_of_ble_eq_true e)]
  | _ => rfl
theorem zl_samx {f g : Nat → Nat} {n : Nat} (hfg : ∀ k, k < n → f k = g k) (hfh : ∀ k, 1000 ≤ k → f k = g k) {L : List Value} (h : L.all (vlx n) = true) : zl f L = zl g L := by
  unfold zl
  congr 1
  funext k
  cases hv : L[k]? with
  | none => rfl
  | some v =>
    have h1 := zA_samx hfg hfh (List.all_eq_true.mp h v (List.mem_of_getElem? hv))
    cases v <;> first | rfl | (dsimp only; rw [h1])
theorem zS_samx {f g : Nat → Nat} {n : Nat} (hfg : ∀ k, k < n → f k = g k) (hfh : ∀ k, 1000 ≤ k → f k = g k) {S : List Value} (h : S.all (vlx n) = true) : S.map (zA f) = S.map (zA g) := List.map_congr_left (fun v hv => zA_samx hfg hfh (List.all_eq_true.mp h v hv))
theorem adj_h {ad ad2 : Nat → Nat} {n k : Nat} (hn : n ≤ 1000) (h : 1000 ≤ k) : adj ad n ad2 k = ad k := by
  unfold adj
  rw [if_neg (by omega), if_neg (by omega)]
theorem zW_len {ad : Nat → Nat} {cI cR : ClassId} {h : List sE} : (zW ad cI cR h).length = h.length := by unfold zW; rw [List.length_mapIdx]
theorem zW_join {ad ad2 : Nat → Nat} {cI cR : ClassId} {h h2 : List sE} (h1 : h.all (elt h.length) = true) (h3 : h2.all (elt (1000 - h.length)) = true) (h4 : h.length + h2.length ≤ 1000) : zW (adj ad h.length ad2) cI cR (h ++ h2.map (zre (fun k => k + h.length))) = zW ad cI cR h ++ zW ad2 cI cR h2 := by
  apply List.ext_getElem?
  intro k
  by_cases c : k < h.length
  · have e1 : (h ++ h2.map (zre (fun k => k + h.length)))[k]? = some h[k] := by rw [List.getElem?_append_left c, List.getElem?_eq_getElem c]
    have e2 : (zW ad cI cR h)[k]? = some (ad k, zE ad cI cR h[k]) := zW_at (List.getElem?_eq_getElem c)
    rw [zW_at e1, List.getElem?_append_left (by rw [zW_len]; exact c), e2, adj_l c, zE_same (fun j hj => adj_l hj) (List.all_eq_true.mp h1 _ (List.getElem_mem c))]
  · obtain ⟨j, rfl⟩ : ∃ j, k = h.length + j := ⟨k - h.length, by omega⟩
    rw [List.getElem?_append_right (by rw [zW_len]; omega), zW_len, show h.length + j - h.length = j by omega]
    cases hj : h2[j]? with
    | none =>
      have hl : h2.length ≤ j := by rw [List.getElem?_eq_none_iff] at hj; exact hj
      rw [List.getElem?_eq_none (by rw [zW_len, List.length_append, List.length_map]; omega), List.getElem?_eq_none (by rw [zW_len]; exact hl)]
    | some e =>
      have hl : j < h2.length := (List.getElem?_eq_some_iff.mp hj).1
      have e1 : (h ++ h2.map (zre (fun k => k + h.length)))[h.length + j]? = some (zre (fun k => k + h.length) e) := by
        rw [List.getElem?_append_right (by omega), show h.length + j - h.length = j by omega, List.getElem?_map, hj]
        rfl
      rw [zW_at e1, zW_at hj, ← zE_re, show h.length + j = j + h.length by omega, adj_r (by omega)]
      rw [zE_same (n := 1000 - h.length) (fun k hk => adj_r (by omega)) (List.all_eq_true.mp h3 _ (List.mem_of_getElem? hj))]
/-- the class of rows of rows -/
def zAO (U : State) : Prop := (Cond.arrayOver (.array .int)).before #[] U = true ∧ va_Nw (.methodLinkNest "SkinLands" 24 ⟨"SkinLands$Sheets", "<init>", "()V"⟩ "SkinLands") U ∧ va_Nw (.methodLinkNest "SkinLands" 31 ⟨"SkinLands$Tape", "<init>", "()V"⟩ "SkinLands") U
def mnW (N K : Nat) : List sE := .inr (.inl ((List.range N).map (fun i => i + 1))) :: List.replicate N (.inl (K, fun _ => 0))
theorem mm_arr (c : ClassId) (N q : Nat) : mm_O c N q N = vp_cell c (N, .inr (.inr (.inr (.inr (fun i => (((List.range N).map (fun i => i + 1))[i]?).map (fun k => q + k)))))) := by
  rw [vp_cell_q]
  unfold arrV mm_O
  congr 1
  apply Array.ext_getElem?
  intro j
  by_cases hj : j < N
  · rw [Array.getElem?_ofFn, dif_pos hj, if_pos hj, Array.getElem?_ofFn, dif_pos hj]
    show some _ = some (va_rf (Option.map (fun k => q + k) ((List.range N).map (fun i => i + 1))[j]?))
    rw [List.getElem?_map, List.getElem?_range hj]
    rfl
  · rw [Array.getElem?_ofFn, dif_neg hj, Array.getElem?_ofFn, dif_neg hj]
section LWT
variable {M : MI} {p : Program} {l : Launch} {e : Env} {R : Room} {s : State} {m : MethodId} {args : Array Value} {below : List Frame} {meth : Method} {c : Code} {cells slots : Nat} {ad : Nat → Nat} {cI cR : ClassId} {D : va_G} {A : Nat → Prop} {Z : State → Prop}
variable {pc : Nat} {L S : List Value} {h : List sE}
theorem LW.mna {idx N K : Nat} (hc : LC M p s m args c cI cR D A) (hov : zAO s) (hN : N ≤ 50) (hK : K ≤ 50) (hcl : Cond.classLink M.1.cls idx "[[I" ∈ lw_tbl) (hcells : cells + (1 + N) ≤ R.cells) (hslots : slots + (N + N * K) ≤ R.slots) (hd : decode M.2.1 pc = .ok (.multianewarray idx 2, 4)) (h1 : h.all (elt h.length) = true) (h2 : L.all (vlt h.length) = true) (h3 : S.all (vlt h.length) = true) (h4 : h.length ≤ 900)
    (k : ∀ q : Nat, LW M p l e R s m args below meth c cI cR D A Z (cells + 1 + N) (slots + N + N * K) (adj ad h.length (fun k => q + k)) (pc + 4) L (.ref h.length :: S) (h ++ (mnW N K).map (zre (fun k => k + h.length)))) : LW M p l e R s m args below meth c cI cR D A Z cells slots ad pc L (.int (nI K) :: .int (nI N) :: S) h := by
  intro H locs ls hls hP hD hS
  have h5 : (mnW N K).all (elt (1000 - h.length)) = true := by
    refine List.all_eq_true.mpr (fun x hx => ?_)
    rcases List.mem_cons.mp hx with e | e
    · rw [e]
      refine List.all_eq_true.mpr (fun j hj => ?_)
      obtain ⟨i, hi, rfl⟩ := List.mem_map.mp hj
      have := List.mem_range.mp hi
      exact Nat.blt_eq.mpr (by omega)
    · rw [List.eq_of_mem_replicate e]
      rfl
  have h6 : (mnW N K).length = N + 1 := by unfold mnW; simp
  have nN : (nI N).toNatClampNeg = N := nI_cl (by omega)
  have nK : (nI K).toNatClampNeg = K := nI_cl (by omega)
  have hc3 := hc
  intro T hT X
  subst hT
  obtain ⟨vm₁, cA, comp, hfA, hfC, X', st⟩ := mm_step X hc.1 hc.2.2.2.1 (hc.2.2.2.2.1 _ (g_in hcl rfl)) hov.1 (hc.2.2.2.2.1 _ (g_in w_arrI rfl)) (g := F0 m pc ls (.int (nI K) :: .int (nI N) :: S.map (zA ad))) rfl (by rw [hc.2.1]; exact hd) rfl (nI_pos (by omega)) (nI_pos (by omega)) nN nK (by omega) (by omega) hcells hslots
  have ecR : cA = cR := Option.some.inj (hfA.symm.trans (hc.2.2.2.2.2.1.2 1 (cR, .array .int) rfl).2)
  have ecI : comp = cI := Option.some.inj (hfC.symm.trans (hc.2.2.2.2.2.1.2 0 (cI, .int) rfl).2)
  subst ecR
  subst ecI
  obtain ⟨f1, fo, f2, fi, -, -⟩ := mm_S_ok cA comp N K (T.setVm vm₁) N
  have f1 : (mm_S cA comp N K (T.setVm vm₁) N).heap.size = T.heap.size + (N + 1) := f1
  have fo : ∀ a : Nat, a < T.heap.size → (mm_S cA comp N K (T.setVm vm₁) N).heap[a]? = T.heap[a]? := fo
  have f2 : (mm_S cA comp N K (T.setVm vm₁) N).heap[T.heap.size]? = some (mm_O cA N T.heap.size N) := f2
  have fi : ∀ j : Nat, j < N → (mm_S cA comp N K (T.setVm vm₁) N).heap[T.heap.size + (j + 1)]? = some (mm_I comp K) := fi
  generalize mm_S cA comp N K (T.setVm vm₁) N = T2 at X' st f1 f2 fo fi
  have hPn : va_P D classes (zW (fun k => T.heap.size + k) comp cA (mnW N K)) T2.heap := by
    intro k q hq
    obtain ⟨x, hx, rfl⟩ := zW_of hq
    cases k with
    | zero =>
      have hx : some (Sum.inr (Sum.inl ((List.range N).map (fun i => i + 1)))) = some x := hx
      cases hx
      show T2.heap[T.heap.size + 0]? = some (vp_cell cA (((List.range N).map (fun i => i + 1)).length, _))
      rw [Nat.add_zero, f2, mm_arr, List.length_map, List.length_range]
    | succ k =>
      have hx : (List.replicate N (Sum.inl (K, fun _ => 0) : sE))[k]? = some x := hx
      have hk : k < N := by
        have := (List.getElem?_eq_some_iff.mp hx).1
        rwa [List.length_replicate] at this
      have e1 := List.eq_of_mem_replicate (List.mem_of_getElem? hx)
      subst e1
      show T2.heap[T.heap.size + (k + 1)]? = some (vp_cell comp (K, .inl (fun _ => 0)))
      rw [fi k hk, vp_cell_i, ← arrV_new]
      rfl
  have hDn : va_D A (zW (fun k => T.heap.size + k) comp cA (mnW N K)) := by
    refine ⟨fun i j x y hi hj hxy => ?_, fun k q hq => ?_⟩
    · obtain ⟨a1, b1, rfl⟩ := zW_of hi
      obtain ⟨a2, b2, rfl⟩ := zW_of hj
      have : T.heap.size + i = T.heap.size + j := hxy
      omega
    · obtain ⟨a1, b1, rfl⟩ := zW_of hq
      exact hc.2.2.2.2.2.2.1 _ (by show s.heap.size ≤ T.heap.size + k; have := hS.1; omega)
  have ee := zW_join (ad := ad) (ad2 := fun k => T.heap.size + k) (cI := comp) (cR := cA) h1 h5 (by rw [h6]; omega)
  have hP2 : va_P D classes (zW ad comp cA h) T2.heap := hP.kept (fun k q hq => fo _ (hP k q hq).lt)
  have hD2 : va_D A (zW ad comp cA h ++ zW (fun k => T.heap.size + k) comp cA (mnW N K)) := va_D.app hD hDn (fun i j x y hi hj hxy => by
    have h7 := (hP i x hi).lt
    obtain ⟨a2, b2, rfl⟩ := zW_of hj
    have : x.1 = T.heap.size + j := hxy
    omega)
  have hS2 : va_S A s.heap T2.heap locs := ⟨Nat.le_trans hS.1 (by omega), fun x g1 g2 => (fo x (Nat.lt_of_lt_of_le g1 hS.1)).trans (hS.2.1 x g1 g2), hS.2.2⟩
  have same : ∀ j, j < h.length → adj ad h.length (fun k => T.heap.size + k) j = ad j := fun j hj => adj_l hj
  have kk := k T.heap.size T2.heap locs ls (by rw [zl_same same h2]; exact hls) (by rw [ee]; exact va_P.app hP2 hPn) (by rw [ee]; exact hD2) hS2
  have e1 : (Value.ref h.length :: S).map (zA (adj ad h.length (fun k => T.heap.size + k))) = .ref T.heap.size :: S.map (zA ad) := by
    rw [List.map_cons, zS_same same h3]
    show Value.ref (adj ad h.length (fun k => T.heap.size + k) h.length) :: _ = _
    have := adj_r (ad := ad) (ad2 := fun k => T.heap.size + k) (n := h.length) (k := 0) (by omega)
    rw [Nat.zero_add] at this
    rw [this]
    rfl
  rw [e1] at kk
  obtain ⟨t, a1, b1⟩ := kk T2 rfl X'
  exact ⟨t, st t a1, b1⟩
end LWT
/-! a constructor's contract -/
def zPi (D : va_G) (cI cR : ClassId) (ci : Nat) (fs : List Value) (h0 sz : Nat) : Array Value → State → Prop :=
  va_Pc [.ref h0] (fun U => U.heap.size = sz ∧ va_P D classes [(h0, .inr (ci, fs))] U.heap ∧ va_K D classes (zTy cI cR) U ∧ va_D (fun _ => True) [(h0, .inr (ci, fs))] ∧ zAO U)
def zQi (D : va_G) (cI cR : ClassId) (ci : Nat) (fs : List Value) (h0 sz : Nat) (hC : List sE) : Array Value → State → Outcome → State → Prop :=
  va_Qv (fun ad : Nat → Nat => ad 0 = h0) (fun ad t => va_P D classes (zW ad cI cR hC) t.heap ∧ va_D (va_A [(h0, .inr (ci, fs))] sz) (zW ad cI cR hC)) (va_A [(h0, .inr (ci, fs))] sz)
def zrI (M : MI) (mc ms : Nat) : Room := { frames := M.2.2.2.2, cells := mc, slots := ms, locals := 40 * M.2.2.2.2 }
theorem zAO_vm {u U : State} (hv : u.vm.Alike U.vm) (h : (Cond.arrayOver (.array .int)).before #[] u = true) : (Cond.arrayOver (.array .int)).before #[] U = true := by
  show (Cond.arrayOver (.array .int)).before #[] (u.setVm U.vm) = true
  rw [Cond.arrayOver_setVmC hv]
  exact h
theorem zAO_warm {u U : State} (hW : u.WarmedH U.vm) (h : zAO u) : zAO U := ⟨zAO_vm hW.alike h.1, va_Nw.warmM hW h.2.1, va_Nw.warmM hW h.2.2⟩
theorem zAO_same {u U : State} (hv : u.vm = U.vm) (h : zAO u) : zAO U := ⟨zAO_vm (by rw [hv]; exact Vm.Alike.refl _) h.1, va_Nw.same rfl hv h.2.1, va_Nw.same rfl hv h.2.2⟩
