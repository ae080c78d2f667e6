/-! the law's cases -/
set_option maxHeartbeats 4000000 in
theorem law_judge {p : Program} {l : Launch} {e : Env} {R : Room} {s : State} {m : MethodId} {args : Array Value} {below : List Frame} {meth : Method} {c : Code} {cells slots : Nat} {ad : Nat → Nat} {cI cR : ClassId} {D : va_G} {A : Nat → Prop} {Z : State → Prop} {b N i : Nat} {xs : Nat → Int32} {r0 r1 r2 kt : Nat → Int32} {kp : Int32} {sh : tyS} {tb : Nat → Int32} {a : Nat} {tr : Int32 × Int32 × Int32 × Int32} {fd sa sb vw : Nat → Int32} {tk fm tt va fa : Int32} (hc : LC m_law p s m args c cI cR D A) (hz : zC m_law p R s m args c cells slots ad cI cR D A) (hX : va_X b N xs s s.heap) (hbl : b < s.heap.size) (hbA : ¬ A b) (hb : ad 4000 = b) (hN : N ≤ 3072) (hi : i + 5 < N) (hI : iOK r0 r2 kt kp sh tb a) (kk : ∀ (r0 r1 r2 kt : Nat → Int32) (kp : Int32) (sh : tyS) (tb : Nat → Int32) (a : Nat) (tr : Int32 × Int32 × Int32 × Int32) (fd sa sb vw : Nat → Int32) (tk fm tt va fa : Int32), iOK r0 r2 kt kp sh tb a → LW m_law p l e R s m args below meth c cI cR D A Z cells slots ad 1406 [.ref 4000, .ref 0, .ref 39, .int (nI i)] [] (lwW r0 r1 r2 kp sh (tb, nI a, tr) fd (mW r0 sa kt sb vw kp sh tb (nI a) tk fm tt va fa fd))) : LW m_law p l e R s m args below meth c cI cR D A Z cells slots ad 1298 [.ref 4000, .ref 0, .ref 39, .int (nI i)] [] (lwW r0 r1 r2 kp sh (tb, nI a, tr) fd (mW r0 sa kt sb vw kp sh tb (nI a) tk fm tt va fa fd)) := by
  obtain ⟨⟨n, y, h⟩, ho, hT, hx, hkt⟩ := hI
  refine LW.aload_n hc (i := 1) (by decide +kernel) rfl ?_
  refine law_arg hc hz hX hbl hbA hb hN (pc := 1299) (k := 1) (by decide) (by decide +kernel) (by omega) ?_
  refine LW.callG (M' := m_K_judge) (idx := 159) (n := 1) (As := [.int (xs (i + 1))]) (b := 0) (ci := 3) (rest := []) hz eL1 (kW r0 r1 r2 kp sh (tb, nI a, tr) fd) zm_K_judge (List.mem_of_getElem? (i := 742) (by decide +kernel)) (by decide) rfl (Nat.le_of_ble_eq_true rfl) ((zl_c1 rfl zl_nil)) (by decide +kernel) (Nat.zero_le _) rfl (by decide) (by decide) rfl l1_sl rfl ?_
  refine c_K_judge h ho (fun r1' => ?_)
  refine LW.eq rfl rfl l1_put ?_
  refine LW.aload_n hc (i := 2) (by decide +kernel) rfl ?_
  refine law_arg hc hz hX hbl hbA hb hN (pc := 1308) (k := 1) (by decide) (by decide +kernel) (by omega) ?_
  refine LW.callG (M' := m_M_judge) (idx := 162) (n := 1) (As := [.int (xs (i + 1))]) (b := 0) (ci := 4) (rest := [.int _]) hz eL2 (mW r0 sa kt sb vw kp sh tb (nI a) tk fm tt va fa fd) zm_M_judge (List.mem_of_getElem? (i := 1221) (by decide +kernel)) (by decide) rfl (Nat.le_of_ble_eq_true rfl) ((zl_c1 rfl zl_nil)) (by decide +kernel) ((show 1 + 0 ≤ 8 by decide)) rfl (by decide) (by decide) rfl l2_sl rfl ?_
  refine c_M_judge h ho (fun sa2 sb2 vw2 tk2 fm2 tt2 va2 fa2 => ?_)
  refine LW.eq rfl rfl l2_put ?_
  refine LW.icmp_eq hc (tgt := 1406) (off := 90) (by decide +kernel) (by decide) (fun _ => ?_) (fun hx => absurd rfl hx)
  exact kk _ _ _ _ _ _ _ _ _ _ _ _ _ _ _ _ _ _ ⟨(by rw [p_Judge]; exact ⟨n, y, h⟩), ho, hT, hx, hkt⟩
set_option maxHeartbeats 4000000 in
theorem law_image {p : Program} {l : Launch} {e : Env} {R : Room} {s : State} {m : MethodId} {args : Array Value} {below : List Frame} {meth : Method} {c : Code} {cells slots : Nat} {ad : Nat → Nat} {cI cR : ClassId} {D : va_G} {A : Nat → Prop} {Z : State → Prop} {b N i : Nat} {xs : Nat → Int32} {r0 r1 r2 kt : Nat → Int32} {kp : Int32} {sh : tyS} {tb : Nat → Int32} {a : Nat} {tr : Int32 × Int32 × Int32 × Int32} {fd sa sb vw : Nat → Int32} {tk fm tt va fa : Int32} (hc : LC m_law p s m args c cI cR D A) (hz : zC m_law p R s m args c cells slots ad cI cR D A) (hX : va_X b N xs s s.heap) (hbl : b < s.heap.size) (hbA : ¬ A b) (hb : ad 4000 = b) (hN : N ≤ 3072) (hi : i + 5 < N) (hI : iOK r0 r2 kt kp sh tb a) (kk : ∀ (r0 r1 r2 kt : Nat → Int32) (kp : Int32) (sh : tyS) (tb : Nat → Int32) (a : Nat) (tr : Int32 × Int32 × Int32 × Int32) (fd sa sb vw : Nat → Int32) (tk fm tt va fa : Int32), iOK r0 r2 kt kp sh tb a → LW m_law p l e R s m args below meth c cI cR D A Z cells slots ad 1406 [.ref 4000, .ref 0, .ref 39, .int (nI i)] [] (lwW r0 r1 r2 kp sh (tb, nI a, tr) fd (mW r0 sa kt sb vw kp sh tb (nI a) tk fm tt va fa fd))) : LW m_law p l e R s m args below meth c cI cR D A Z cells slots ad 1321 [.ref 4000, .ref 0, .ref 39, .int (nI i)] [] (lwW r0 r1 r2 kp sh (tb, nI a, tr) fd (mW r0 sa kt sb vw kp sh tb (nI a) tk fm tt va fa fd)) := by
  obtain ⟨⟨n, y, h⟩, ho, hT, hx, hkt⟩ := hI
  refine LW.aload_n hc (i := 1) (by decide +kernel) rfl ?_
  refine LW.callG (M' := m_K_image) (idx := 163) (n := 0) (As := []) (b := 0) (ci := 3) (rest := []) hz eL1 (kW r0 r1 r2 kp sh (tb, nI a, tr) fd) zm_K_image (List.mem_of_getElem? (i := 746) (by decide +kernel)) (by decide) rfl (Nat.le_of_ble_eq_true rfl) (zl_nil) (by decide +kernel) (Nat.zero_le _) rfl (by decide) (by decide) rfl l1_sl rfl ?_
  refine c_K_image (x := 0) hx (fun r1' => ?_)
  refine LW.eq rfl rfl l1_put ?_
  refine LW.aload_n hc (i := 2) (by decide +kernel) rfl ?_
  refine LW.callG (M' := m_M_image) (idx := 166) (n := 0) (As := []) (b := 0) (ci := 4) (rest := [.int _]) hz eL2 (mW r0 sa kt sb vw kp sh tb (nI a) tk fm tt va fa fd) zm_M_image (List.mem_of_getElem? (i := 1225) (by decide +kernel)) (by decide) rfl (Nat.le_of_ble_eq_true rfl) (zl_nil) (by decide +kernel) ((show 1 + 0 ≤ 8 by decide)) rfl (by decide) (by decide) rfl l2_sl rfl ?_
  refine c_M_image hx ?_
  refine LW.eq rfl rfl l2_put ?_
  refine LW.icmp_eq hc (tgt := 1406) (off := 77) (by decide +kernel) (by decide) (fun _ => ?_) (fun hx => absurd rfl hx)
  exact kk _ _ _ _ _ _ _ _ _ _ _ _ _ _ _ _ _ _ ⟨⟨n, y, h⟩, ho, hT, Or.inr rfl, fun _ => ⟨rfl, n, y, h⟩⟩
set_option maxHeartbeats 4000000 in
theorem law_undo {p : Program} {l : Launch} {e : Env} {R : Room} {s : State} {m : MethodId} {args : Array Value} {below : List Frame} {meth : Method} {c : Code} {cells slots : Nat} {ad : Nat → Nat} {cI cR : ClassId} {D : va_G} {A : Nat → Prop} {Z : State → Prop} {b N i : Nat} {xs : Nat → Int32} {r0 r1 r2 kt : Nat → Int32} {kp : Int32} {sh : tyS} {tb : Nat → Int32} {a : Nat} {tr : Int32 × Int32 × Int32 × Int32} {fd sa sb vw : Nat → Int32} {tk fm tt va fa : Int32} (hc : LC m_law p s m args c cI cR D A) (hz : zC m_law p R s m args c cells slots ad cI cR D A) (hX : va_X b N xs s s.heap) (hbl : b < s.heap.size) (hbA : ¬ A b) (hb : ad 4000 = b) (hN : N ≤ 3072) (hi : i + 5 < N) (hI : iOK r0 r2 kt kp sh tb a) (kk : ∀ (r0 r1 r2 kt : Nat → Int32) (kp : Int32) (sh : tyS) (tb : Nat → Int32) (a : Nat) (tr : Int32 × Int32 × Int32 × Int32) (fd sa sb vw : Nat → Int32) (tk fm tt va fa : Int32), iOK r0 r2 kt kp sh tb a → LW m_law p l e R s m args below meth c cI cR D A Z cells slots ad 1406 [.ref 4000, .ref 0, .ref 39, .int (nI i)] [] (lwW r0 r1 r2 kp sh (tb, nI a, tr) fd (mW r0 sa kt sb vw kp sh tb (nI a) tk fm tt va fa fd))) : LW m_law p l e R s m args below meth c cI cR D A Z cells slots ad 1334 [.ref 4000, .ref 0, .ref 39, .int (nI i)] [] (lwW r0 r1 r2 kp sh (tb, nI a, tr) fd (mW r0 sa kt sb vw kp sh tb (nI a) tk fm tt va fa fd)) := by
  obtain ⟨⟨n, y, h⟩, ho, hT, hx, hkt⟩ := hI
  refine LW.aload_n hc (i := 1) (by decide +kernel) rfl ?_
  refine LW.callG (M' := m_K_undo) (idx := 167) (n := 0) (As := []) (b := 0) (ci := 3) (rest := []) hz eL1 (kW r0 r1 r2 kp sh (tb, nI a, tr) fd) zm_K_undo (List.mem_of_getElem? (i := 750) (by decide +kernel)) (by decide) rfl (Nat.le_of_ble_eq_true rfl) (zl_nil) (by decide +kernel) (Nat.zero_le _) rfl (by decide) (by decide) rfl l1_sl rfl ?_
  refine c_K_undo hx (fun e1 r1' => ?_) (fun e1 r1' => ?_)
  · obtain ⟨e3, e4⟩ := hkt e1
    subst e3
    refine LW.eq rfl rfl l1_put ?_
    refine LW.aload_n hc (i := 2) (by decide +kernel) rfl ?_
    refine LW.callG (M' := m_M_undo) (idx := 170) (n := 0) (As := []) (b := 0) (ci := 4) (rest := [.int _]) hz eL2 (mW r0 sa kt sb vw kp sh tb (nI a) tk fm tt va fa fd) zm_M_undo (List.mem_of_getElem? (i := 1229) (by decide +kernel)) (by decide) rfl (Nat.le_of_ble_eq_true rfl) (zl_nil) (by decide +kernel) ((show 1 + 0 ≤ 8 by decide)) rfl (by decide) (by decide) rfl l2_sl rfl ?_
    refine c_M_undo hx (fun e2 => ?_) (fun e2 => ?_)
    · refine LW.eq rfl rfl l2_put ?_
      refine LW.icmp_eq hc (tgt := 1406) (off := 64) (by decide +kernel) (by decide) (fun _ => ?_) (fun hx => absurd rfl hx)
      exact kk _ _ _ _ _ _ _ _ _ _ _ _ _ _ _ _ _ _ ⟨e4, ho, hT, hx, fun _ => ⟨rfl, e4⟩⟩
    · exact absurd (e1.symm.trans e2) (by decide)
  · refine LW.eq rfl rfl l1_put ?_
    refine LW.aload_n hc (i := 2) (by decide +kernel) rfl ?_
    refine LW.callG (M' := m_M_undo) (idx := 170) (n := 0) (As := []) (b := 0) (ci := 4) (rest := [.int _]) hz eL2 (mW r0 sa kt sb vw kp sh tb (nI a) tk fm tt va fa fd) zm_M_undo (List.mem_of_getElem? (i := 1229) (by decide +kernel)) (by decide) rfl (Nat.le_of_ble_eq_true rfl) (zl_nil) (by decide +kernel) ((show 1 + 0 ≤ 8 by decide)) rfl (by decide) (by decide) rfl l2_sl rfl ?_
    refine c_M_undo hx (fun e2 => ?_) (fun e2 => ?_)
    · exact absurd (e2.symm.trans e1) (by decide)
    · refine LW.eq rfl rfl l2_put ?_
      refine LW.icmp_eq hc (tgt := 1406) (off := 64) (by decide +kernel) (by decide) (fun _ => ?_) (fun hx => absurd rfl hx)
      exact kk _ _ _ _ _ _ _ _ _ _ _ _ _ _ _ _ _ _ ⟨⟨n, y, h⟩, ho, hT, hx, hkt⟩
set_option maxHeartbeats 4000000 in
theorem law_tear {p : Program} {l : Launch} {e : Env} {R : Room} {s : State} {m : MethodId} {args : Array Value} {below : List Frame} {meth : Method} {c : Code} {cells slots : Nat} {ad : Nat → Nat} {cI cR : ClassId} {D : va_G} {A : Nat → Prop} {Z : State → Prop} {b N i : Nat} {xs : Nat → Int32} {r0 r1 r2 kt : Nat → Int32} {kp : Int32} {sh : tyS} {tb : Nat → Int32} {a : Nat} {tr : Int32 × Int32 × Int32 × Int32} {fd sa sb vw : Nat → Int32} {tk fm tt va fa : Int32} (hc : LC m_law p s m args c cI cR D A) (hz : zC m_law p R s m args c cells slots ad cI cR D A) (hX : va_X b N xs s s.heap) (hbl : b < s.heap.size) (hbA : ¬ A b) (hb : ad 4000 = b) (hN : N ≤ 3072) (hi : i + 5 < N) (hI : iOK r0 r2 kt kp sh tb a) (kk : ∀ (r0 r1 r2 kt : Nat → Int32) (kp : Int32) (sh : tyS) (tb : Nat → Int32) (a : Nat) (tr : Int32 × Int32 × Int32 × Int32) (fd sa sb vw : Nat → Int32) (tk fm tt va fa : Int32), iOK r0 r2 kt kp sh tb a → LW m_law p l e R s m args below meth c cI cR D A Z cells slots ad 1406 [.ref 4000, .ref 0, .ref 39, .int (nI i)] [] (lwW r0 r1 r2 kp sh (tb, nI a, tr) fd (mW r0 sa kt sb vw kp sh tb (nI a) tk fm tt va fa fd))) : LW m_law p l e R s m args below meth c cI cR D A Z cells slots ad 1347 [.ref 4000, .ref 0, .ref 39, .int (nI i)] [] (lwW r0 r1 r2 kp sh (tb, nI a, tr) fd (mW r0 sa kt sb vw kp sh tb (nI a) tk fm tt va fa fd)) := by
  obtain ⟨⟨n, y, h⟩, ho, hT, hx, hkt⟩ := hI
  refine LW.aload_n hc (i := 1) (by decide +kernel) rfl ?_
  refine LW.callG (M' := m_K_tear) (idx := 171) (n := 0) (As := []) (b := 0) (ci := 3) (rest := []) hz eL1 (kW r0 r1 r2 kp sh (tb, nI a, tr) fd) zm_K_tear (List.mem_of_getElem? (i := 754) (by decide +kernel)) (by decide) rfl (Nat.le_of_ble_eq_true rfl) (zl_nil) (by decide +kernel) (Nat.zero_le _) rfl (by decide) (by decide) rfl l1_sl rfl ?_
  refine c_K_tear hx (fun r1' => ?_)
  refine LW.eq rfl rfl l1_put ?_
  refine LW.aload_n hc (i := 2) (by decide +kernel) rfl ?_
  refine LW.callG (M' := m_M_tear) (idx := 174) (n := 0) (As := []) (b := 0) (ci := 4) (rest := [.int _]) hz eL2 (mW r0 sa kt sb vw kp sh tb (nI a) tk fm tt va fa fd) zm_M_tear (List.mem_of_getElem? (i := 1233) (by decide +kernel)) (by decide) rfl (Nat.le_of_ble_eq_true rfl) (zl_nil) (by decide +kernel) ((show 1 + 0 ≤ 8 by decide)) rfl (by decide) (by decide) rfl l2_sl rfl ?_
  refine c_M_tear hx ?_
  refine LW.eq rfl rfl l2_put ?_
  refine LW.icmp_eq hc (tgt := 1406) (off := 51) (by decide +kernel) (by decide) (fun _ => ?_) (fun hx => absurd rfl hx)
  exact kk _ _ _ _ _ _ _ _ _ _ _ _ _ _ _ _ _ _ ⟨⟨n, y, h⟩, ho, hT, Or.inl rfl, fun e => absurd e (by decide)⟩
set_option maxHeartbeats 4000000 in
theorem law_count {p : Program} {l : Launch} {e : Env} {R : Room} {s : State} {m : MethodId} {args : Array Value} {below : List Frame} {meth : Method} {c : Code} {cells slots : Nat} {ad : Nat → Nat} {cI cR : ClassId} {D : va_G} {A : Nat → Prop} {Z : State → Prop} {b N i : Nat} {xs : Nat → Int32} {r0 r1 r2 kt : Nat → Int32} {kp : Int32} {sh : tyS} {tb : Nat → Int32} {a : Nat} {tr : Int32 × Int32 × Int32 × Int32} {fd sa sb vw : Nat → Int32} {tk fm tt va fa : Int32} (hc : LC m_law p s m args c cI cR D A) (hz : zC m_law p R s m args c cells slots ad cI cR D A) (hX : va_X b N xs s s.heap) (hbl : b < s.heap.size) (hbA : ¬ A b) (hb : ad 4000 = b) (hN : N ≤ 3072) (hi : i + 5 < N) (hI : iOK r0 r2 kt kp sh tb a) (kk : ∀ (r0 r1 r2 kt : Nat → Int32) (kp : Int32) (sh : tyS) (tb : Nat → Int32) (a : Nat) (tr : Int32 × Int32 × Int32 × Int32) (fd sa sb vw : Nat → Int32) (tk fm tt va fa : Int32), iOK r0 r2 kt kp sh tb a → LW m_law p l e R s m args below meth c cI cR D A Z cells slots ad 1406 [.ref 4000, .ref 0, .ref 39, .int (nI i)] [] (lwW r0 r1 r2 kp sh (tb, nI a, tr) fd (mW r0 sa kt sb vw kp sh tb (nI a) tk fm tt va fa fd))) : LW m_law p l e R s m args below meth c cI cR D A Z cells slots ad 1360 [.ref 4000, .ref 0, .ref 39, .int (nI i)] [] (lwW r0 r1 r2 kp sh (tb, nI a, tr) fd (mW r0 sa kt sb vw kp sh tb (nI a) tk fm tt va fa fd)) := by
  obtain ⟨⟨n, y, h⟩, ho, hT, hx, hkt⟩ := hI
  refine LW.aload_n hc (i := 1) (by decide +kernel) rfl ?_
  refine law_arg hc hz hX hbl hbA hb hN (pc := 1361) (k := 1) (by decide) (by decide +kernel) (by omega) ?_
  refine LW.callG (M' := m_K_count) (idx := 175) (n := 1) (As := [.int (xs (i + 1))]) (b := 0) (ci := 3) (rest := []) hz eL1 (kW r0 r1 r2 kp sh (tb, nI a, tr) fd) zm_K_count (List.mem_of_getElem? (i := 758) (by decide +kernel)) (by decide) rfl (Nat.le_of_ble_eq_true rfl) ((zl_c1 rfl zl_nil)) (by decide +kernel) (Nat.zero_le _) rfl (by decide) (by decide) rfl l1_sl rfl ?_
  refine c_K_count h rfl (fun r1' => ?_)
  refine LW.eq rfl rfl l1_put ?_
  refine LW.aload_n hc (i := 2) (by decide +kernel) rfl ?_
  refine law_arg hc hz hX hbl hbA hb hN (pc := 1370) (k := 1) (by decide) (by decide +kernel) (by omega) ?_
  refine LW.callG (M' := m_M_count) (idx := 178) (n := 1) (As := [.int (xs (i + 1))]) (b := 0) (ci := 4) (rest := [.int _]) hz eL2 (mW r0 sa kt sb vw kp sh tb (nI a) tk fm tt va fa fd) zm_M_count (List.mem_of_getElem? (i := 1237) (by decide +kernel)) (by decide) rfl (Nat.le_of_ble_eq_true rfl) ((zl_c1 rfl zl_nil)) (by decide +kernel) ((show 1 + 0 ≤ 8 by decide)) rfl (by decide) (by decide) rfl l2_sl rfl ?_
  refine c_M_count h rfl (fun sa2 sb2 vw2 tk2 fm2 tt2 va2 fa2 => ?_)
  refine LW.eq rfl rfl l2_put ?_
  refine LW.icmp_eq hc (tgt := 1406) (off := 28) (by decide +kernel) (by decide) (fun _ => ?_) (fun hx => absurd rfl hx)
  exact kk _ _ _ _ _ _ _ _ _ _ _ _ _ _ _ _ _ _ ⟨(by rw [p_Count]; exact ⟨n, y, h⟩), ho, hT, hx, hkt⟩
set_option maxHeartbeats 4000000 in
theorem law_status {p : Program} {l : Launch} {e : Env} {R : Room} {s : State} {m : MethodId} {args : Array Value} {below : List Frame} {meth : Method} {c : Code} {cells slots : Nat} {ad : Nat → Nat} {cI cR : ClassId} {D : va_G} {A : Nat → Prop} {Z : State → Prop} {b N i : Nat} {xs : Nat → Int32} {r0 r1 r2 kt : Nat → Int32} {kp : Int32} {sh : tyS} {tb : Nat → Int32} {a : Nat} {tr : Int32 × Int32 × Int32 × Int32} {fd sa sb vw : Nat → Int32} {tk fm tt va fa : Int32} (hc : LC m_law p s m args c cI cR D A) (hz : zC m_law p R s m args c cells slots ad cI cR D A) (hX : va_X b N xs s s.heap) (hbl : b < s.heap.size) (hbA : ¬ A b) (hb : ad 4000 = b) (hN : N ≤ 3072) (hi : i + 5 < N) (hI : iOK r0 r2 kt kp sh tb a) (kk : ∀ (r0 r1 r2 kt : Nat → Int32) (kp : Int32) (sh : tyS) (tb : Nat → Int32) (a : Nat) (tr : Int32 × Int32 × Int32 × Int32) (fd sa sb vw : Nat → Int32) (tk fm tt va fa : Int32), iOK r0 r2 kt kp sh tb a → LW m_law p l e R s m args below meth c cI cR D A Z cells slots ad 1406 [.ref 4000, .ref 0, .ref 39, .int (nI i)] [] (lwW r0 r1 r2 kp sh (tb, nI a, tr) fd (mW r0 sa kt sb vw kp sh tb (nI a) tk fm tt va fa fd))) : LW m_law p l e R s m args below meth c cI cR D A Z cells slots ad 1383 [.ref 4000, .ref 0, .ref 39, .int (nI i)] [] (lwW r0 r1 r2 kp sh (tb, nI a, tr) fd (mW r0 sa kt sb vw kp sh tb (nI a) tk fm tt va fa fd)) := by
  obtain ⟨⟨n, y, h⟩, ho, hT, hx, hkt⟩ := hI
  refine LW.aload_n hc (i := 1) (by decide +kernel) rfl ?_
  refine law_arg hc hz hX hbl hbA hb hN (pc := 1384) (k := 1) (by decide) (by decide +kernel) (by omega) ?_
  refine LW.callG (M' := m_K_status) (idx := 179) (n := 1) (As := [.int (xs (i + 1))]) (b := 0) (ci := 3) (rest := []) hz eL1 (kW r0 r1 r2 kp sh (tb, nI a, tr) fd) zm_K_status (List.mem_of_getElem? (i := 774) (by decide +kernel)) (by decide) rfl (Nat.le_of_ble_eq_true rfl) ((zl_c1 rfl zl_nil)) (by decide +kernel) (Nat.zero_le _) rfl (by decide) (by decide) rfl l1_sl rfl ?_
  refine c_K_status  (fun r1' => ?_)
  refine LW.eq rfl rfl l1_put ?_
  refine LW.aload_n hc (i := 2) (by decide +kernel) rfl ?_
  refine law_arg hc hz hX hbl hbA hb hN (pc := 1393) (k := 1) (by decide) (by decide +kernel) (by omega) ?_
  refine LW.callG (M' := m_M_status) (idx := 182) (n := 1) (As := [.int (xs (i + 1))]) (b := 0) (ci := 4) (rest := [.int _]) hz eL2 (mW r0 sa kt sb vw kp sh tb (nI a) tk fm tt va fa fd) zm_M_status (List.mem_of_getElem? (i := 1241) (by decide +kernel)) (by decide) rfl (Nat.le_of_ble_eq_true rfl) ((zl_c1 rfl zl_nil)) (by decide +kernel) ((show 1 + 0 ≤ 8 by decide)) rfl (by decide) (by decide) rfl l2_sl rfl ?_
  refine c_M_status  (fun sa2 sb2 vw2 tk2 fm2 tt2 va2 fa2 => ?_)
  refine LW.eq rfl rfl l2_put ?_
  refine LW.icmp_eq hc (tgt := 1406) (off := 5) (by decide +kernel) (by decide) (fun _ => ?_) (fun hx => absurd rfl hx)
  exact kk _ _ _ _ _ _ _ _ _ _ _ _ _ _ _ _ _ _ ⟨(by rw [p_Status]; exact ⟨n, y, h⟩), ho, hT, hx, hkt⟩
