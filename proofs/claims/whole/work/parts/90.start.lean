/-! the law: its start -/
theorem znw_L_K : zNw "SkinLandsLaw" 7 3 [.null, .null, .null, .null, .null, .null, .int 0] := by
  refine ⟨(N_K, T_K, 7), ty_K, rfl, lay_K, tyok_K, (List.mem_of_getElem? (i := 81) (by decide +kernel)), (List.mem_of_getElem? (i := 82) (by decide +kernel)), (List.mem_of_getElem? (i := 68) (by decide +kernel)), fun j hj => ?_, rfl, fun v hv a ev => ?_⟩
  · have hj : j < 7 := hj
    rcases j with _ | _ | _ | _ | _ | _ | _ | _ <;> first | rfl | omega
  · subst ev
    simp at hv
theorem znw_L_M : zNw "SkinLandsLaw" 10 4 [.null, .null, .null, .null, .int 0, .null, .null, .int 0, .null, .null, .null, .null, .int 0, .int 0, .int 0, .int 0, .int 0] := by
  refine ⟨(N_M, T_M, 17), ty_M, rfl, lay_M, tyok_M, (List.mem_of_getElem? (i := 782) (by decide +kernel)), (List.mem_of_getElem? (i := 783) (by decide +kernel)), (List.mem_of_getElem? (i := 72) (by decide +kernel)), fun j hj => ?_, rfl, fun v hv a ev => ?_⟩
  · have hj : j < 17 := hj
    rcases j with _ | _ | _ | _ | _ | _ | _ | _ | _ | _ | _ | _ | _ | _ | _ | _ | _ | _ <;> first | rfl | omega
  · subst ev
    simp at hv
theorem fdz {k : Nat} (h : k < 10) : fd00 k = 0 := rfl
set_option maxHeartbeats 8000000 in
theorem law_run {p : Program} {e : Env} {s : State} {m : MethodId} {below : List Frame} {meth : Method} {c : Code} (l : Launch) {b N : Nat} {xs : Nat → Int32} {Z : State → Prop} (hN : N ≤ 3072) (hx : p.tables.exec = Jvm.exec) (hcode : c.code = code) (hml : c.maxLocals = 4) (hown : s.vm.findClass "SkinLandsLaw" = some m.cls) (hts : ∀ w ∈ lw_tbl, w.before #[Value.ref b] s = true) (hX : va_X b N xs s s.heap) (hbl : b < s.heap.size) (hgv : (Jvm.Cond.and given_1 narrow_1).before #[Value.ref b] s = true)
    (kret : ∀ (H : Heap) (locs : List Loc) (ls : Array Slot), (∀ q ∈ locs, s.heap.size ≤ q.base) → W p l e room_1 s m #[Value.ref b] below meth c H locs 50 1087 Z (F0 m 1413 ls [.int 1])) : W p l e room_1 s m #[Value.ref b] below meth c s.heap [] 0 0 Z (entryFrame m ([Value.ref b] : List Value).toArray 4) := by
  obtain ⟨D, cI, cR, hK⟩ := law_K hts
  obtain ⟨ad0, h4, hZ⟩ := law_zK hts hgv (A := fun q => s.heap.size ≤ q) (fun a ha => Nat.not_le.mpr ha)
  have hO : zAO s := law_AO hts
  have hcx : LC m_law p s m #[Value.ref b] c cI cR D (fun q => s.heap.size ≤ q) := ⟨hx, hcode, hml, hown, fun w hw => hts w (List.mem_filter.mp hw).1, hK, fun q h => h, trivial⟩
  have main : LW m_law p l e room_1 s m #[Value.ref b] below meth c cI cR D (fun q => s.heap.size ≤ q) Z 0 0 ad0 0 [.ref 4000, .null, .null, .null] [] [] := by
    refine LW.mkL (M' := m_K_init) (n := 0) (idn := 7) (idx := 9) (ci := 3) (mc := 38) (ms := 515) (fs := [.null, .null, .null, .null, .null, .null, .int 0]) (hC := (kW r00 r00 r00 (nI 0) sh00 tp00 fd00)) (h2 := (kW r00 r00 r00 (nI 0) sh00 tp00 fd00)) hcx hO rfl zfs_K (fun h0 sz => met_K l D cI cR h0 sz) (Or.inl (cBI hcx.2.2.2.2.1 zmi_K rfl rfl (List.mem_of_getElem? (i := 84) (by decide +kernel)) (List.mem_of_getElem? (i := 83) (by decide +kernel)) (by decide))) znw_L_K (by decide +kernel) (by decide +kernel) (by decide +kernel) rfl rfl rfl rfl rfl (by decide) (by decide) rfl (by decide) (by decide) rfl (fun ad1 g1 => ?_)
    refine LW.astore_n hcx (i := 1) (by decide +kernel) (by decide) rfl ?_
    refine LW.mkL (M' := m_M_init) (n := 39) (idn := 10) (idx := 12) (ci := 4) (mc := 10) (ms := 548) (fs := [.null, .null, .null, .null, .int 0, .null, .null, .int 0, .null, .null, .null, .null, .int 0, .int 0, .int 0, .int 0, .int 0]) (hC := (mW r00 fd00 fd00 fd00 fd00 (nI 0) sh00 fd00 0 0 0 0 0 0 fd00)) (h2 := (lwW r00 r00 r00 (nI 0) sh00 tp00 fd00 (mW r00 fd00 fd00 fd00 fd00 (nI 0) sh00 fd00 0 0 0 0 0 0 fd00))) hcx hO rfl zfs_M (fun h0 sz => met_M l D cI cR h0 sz) (Or.inl (cBI hcx.2.2.2.2.1 zmi_M rfl rfl (List.mem_of_getElem? (i := 785) (by decide +kernel)) (List.mem_of_getElem? (i := 784) (by decide +kernel)) (by decide))) znw_L_M (by decide +kernel) (by decide +kernel) (by decide +kernel) rfl rfl rfl rfl rfl (by decide) (by decide) rfl (by decide) (by decide) rfl (fun ad2 g2 => ?_)
    refine LW.astore_n hcx (i := 2) (by decide +kernel) (by decide) rfl ?_
    refine LW.iconst hcx (n := 0) (by decide +kernel) (LW.pI (z := nI (0)) (by decide) ?_)
    refine LW.istore_n hcx (i := 3) (by decide +kernel) (by decide) rfl ?_
    have had : ∀ j, 1000 ≤ j → ad2 j = ad0 j := fun j hj => (g2 j hj).trans (g1 j hj)
    have hz : zC m_law p room_1 s m #[Value.ref b] c 50 1087 ad2 cI cR D (fun q => s.heap.size ≤ q) := by
      refine ⟨hx, hcode, hml, hown, fun w hw => hts w (List.mem_filter.mp hw).1, hK, fun q h => h, ⟨by decide, by decide, by decide, by decide⟩, ?_⟩
      obtain ⟨z1, z2, z3, z4⟩ := hZ
      refine ⟨?_, fun i hi => by rw [had _ (by omega)]; exact z2 i hi, z3, by rw [had _ (by omega)]; exact z4⟩
      have e1 : (fun i => ad2 (1000 + i)) = fun i => ad0 (1000 + i) := funext fun i => had _ (by omega)
      have e2 : (fun i => ad2 (2000 + i)) = fun i => ad0 (2000 + i) := funext fun i => had _ (by omega)
      rw [e1, e2]
      exact z1
    refine law_loop hcx hz hX hbl (Nat.not_le.mpr hbl) ((had _ (by decide)).trans h4) hN (fun i h => ?_) N 0 (by omega) (by omega) r00 r00 r00 fd00 (nI 0) sh00 (fun _ => 0) 0 (0, 0, 0, 0) fd00 fd00 fd00 fd00 0 0 0 0 0 ⟨⟨0, 0, r00_ok⟩, sh00_ok, t00_ok, Or.inl rfl, fun e => absurd e (by decide)⟩
    exact LW.iconst hcx (n := 1) (by decide +kernel) (LW.pI (z := 1) (by decide) (fun H locs ls _ _ _ hS => kret H locs ls hS.2.2))
  have hl := lv_entry ([.ref b]) (n := 4) (Nat.le_of_ble_eq_true rfl)
  rw [lg_entry_eq]
  generalize (lg_sl ([.ref b]) ++ List.replicate (4 - (lg_sl ([.ref b])).length) Slot.unset).toArray = ls at hl ⊢
  refine main s.heap [] ls ⟨hl.1, hl.2.1, fun q hq => hl.2.2 q ?_⟩ (fun k q hq => by simp [zW] at hq) ⟨fun i j x y hi => by simp [zW] at hi, fun k q hq => by simp [zW] at hq⟩ va_S.rf
  have h5 := zl_entry ad0 [.ref 4000] 0 4 q (fun v hv h2 => by
    rcases List.mem_cons.mp hv with e | e
    · rw [e] at h2; cases h2
    · cases e) hq
  have e6 : ([Value.ref 4000] : List Value).map (zA ad0) = [.ref b] := by
    show [Value.ref (ad0 4000)] = _
    rw [h4]
  rw [e6] at h5
  exact h5
