/-! the law's cases -/
set_option maxHeartbeats 4000000 in
theorem law_kin {p : Program} {l : Launch} {e : Env} {R : Room} {s : State} {m : MethodId} {args : Array Value} {below : List Frame} {meth : Method} {c : Code} {cells slots : Nat} {ad : Nat → Nat} {cI cR : ClassId} {D : va_G} {A : Nat → Prop} {Z : State → Prop} {b N i : Nat} {xs : Nat → Int32} {r0 r1 r2 kt : Nat → Int32} {kp : Int32} {sh : tyS} {tb : Nat → Int32} {a : Nat} {tr : Int32 × Int32 × Int32 × Int32} {fd sa sb vw : Nat → Int32} {tk fm tt va fa : Int32} (hc : LC m_law p s m args c cI cR D A) (hz : zC m_law p R s m args c cells slots ad cI cR D A) (hX : va_X b N xs s s.heap) (hbl : b < s.heap.size) (hbA : ¬ A b) (hb : ad 4000 = b) (hN : N ≤ 3072) (hi : i + 5 < N) (hI : iOK r0 r2 kt kp sh tb a) (kk : ∀ (r0 r1 r2 kt : Nat → Int32) (kp : Int32) (sh : tyS) (tb : Nat → Int32) (a : Nat) (tr : Int32 × Int32 × Int32 × Int32) (fd sa sb vw : Nat → Int32) (tk fm tt va fa : Int32), iOK r0 r2 kt kp sh tb a → LW m_law p l e R s m args below meth c cI cR D A Z cells slots ad 1406 [.ref 4000, .ref 0, .ref 39, .int (nI i)] [] (lwW r0 r1 r2 kp sh (tb, nI a, tr) fd (mW r0 sa kt sb vw kp sh tb (nI a) tk fm tt va fa fd))) : LW m_law p l e R s m args below meth c cI cR D A Z cells slots ad 212 [.ref 4000, .ref 0, .ref 39, .int (nI i)] [] (lwW r0 r1 r2 kp sh (tb, nI a, tr) fd (mW r0 sa kt sb vw kp sh tb (nI a) tk fm tt va fa fd)) := by
  obtain ⟨⟨n, y, h⟩, ho, hT, hx, hkt⟩ := hI
  refine LW.aload_n hc (i := 1) (by decide +kernel) rfl ?_
  refine law_arg hc hz hX hbl hbA hb hN (pc := 213) (k := 1) (by decide) (by decide +kernel) (by omega) ?_
  refine law_arg hc hz hX hbl hbA hb hN (pc := 218) (k := 2) (by decide) (by decide +kernel) (by omega) ?_
  refine LW.callG (M' := m_K_kin) (idx := 13) (n := 2) (As := [.int (xs (i + 1)), .int (xs (i + 2))]) (b := 0) (ci := 3) (rest := []) hz eL1 (kW r0 r1 r2 kp sh (tb, nI a, tr) fd) zm_K_kin (List.mem_of_getElem? (i := 178) (by decide +kernel)) (by decide) rfl (Nat.le_of_ble_eq_true rfl) ((zl_c1 rfl (zl_c1 rfl zl_nil))) (by decide +kernel) (Nat.zero_le _) rfl (by decide) (by decide) rfl l1_sl rfl ?_
  refine c_K_kin h (fun r1' => ?_)
  refine LW.eq rfl rfl l1_put ?_
  refine LW.aload_n hc (i := 2) (by decide +kernel) rfl ?_
  refine law_arg hc hz hX hbl hbA hb hN (pc := 227) (k := 1) (by decide) (by decide +kernel) (by omega) ?_
  refine law_arg hc hz hX hbl hbA hb hN (pc := 232) (k := 2) (by decide) (by decide +kernel) (by omega) ?_
  refine LW.callG (M' := m_M_kin) (idx := 17) (n := 2) (As := [.int (xs (i + 1)), .int (xs (i + 2))]) (b := 0) (ci := 4) (rest := [.int _]) hz eL2 (mW r0 sa kt sb vw kp sh tb (nI a) tk fm tt va fa fd) zm_M_kin (List.mem_of_getElem? (i := 840) (by decide +kernel)) (by decide) rfl (Nat.le_of_ble_eq_true rfl) ((zl_c1 rfl (zl_c1 rfl zl_nil))) (by decide +kernel) ((show 1 + 0 ≤ 8 by decide)) rfl (by decide) (by decide) rfl l2_sl rfl ?_
  refine c_M_kin h (fun sa2 sb2 vw2 tk2 fm2 tt2 va2 fa2 => ?_)
  refine LW.eq rfl rfl l2_put ?_
  refine LW.icmp_eq hc (tgt := 1406) (off := 1166) (by decide +kernel) (by decide) (fun _ => ?_) (fun hx => absurd rfl hx)
  exact kk _ _ _ _ _ _ _ _ _ _ _ _ _ _ _ _ _ _ ⟨q_Kin h, ho, hT, hx, hkt⟩
set_option maxHeartbeats 4000000 in
theorem law_of {p : Program} {l : Launch} {e : Env} {R : Room} {s : State} {m : MethodId} {args : Array Value} {below : List Frame} {meth : Method} {c : Code} {cells slots : Nat} {ad : Nat → Nat} {cI cR : ClassId} {D : va_G} {A : Nat → Prop} {Z : State → Prop} {b N i : Nat} {xs : Nat → Int32} {r0 r1 r2 kt : Nat → Int32} {kp : Int32} {sh : tyS} {tb : Nat → Int32} {a : Nat} {tr : Int32 × Int32 × Int32 × Int32} {fd sa sb vw : Nat → Int32} {tk fm tt va fa : Int32} (hc : LC m_law p s m args c cI cR D A) (hz : zC m_law p R s m args c cells slots ad cI cR D A) (hX : va_X b N xs s s.heap) (hbl : b < s.heap.size) (hbA : ¬ A b) (hb : ad 4000 = b) (hN : N ≤ 3072) (hi : i + 5 < N) (hI : iOK r0 r2 kt kp sh tb a) (kk : ∀ (r0 r1 r2 kt : Nat → Int32) (kp : Int32) (sh : tyS) (tb : Nat → Int32) (a : Nat) (tr : Int32 × Int32 × Int32 × Int32) (fd sa sb vw : Nat → Int32) (tk fm tt va fa : Int32), iOK r0 r2 kt kp sh tb a → LW m_law p l e R s m args below meth c cI cR D A Z cells slots ad 1406 [.ref 4000, .ref 0, .ref 39, .int (nI i)] [] (lwW r0 r1 r2 kp sh (tb, nI a, tr) fd (mW r0 sa kt sb vw kp sh tb (nI a) tk fm tt va fa fd))) : LW m_law p l e R s m args below meth c cI cR D A Z cells slots ad 245 [.ref 4000, .ref 0, .ref 39, .int (nI i)] [] (lwW r0 r1 r2 kp sh (tb, nI a, tr) fd (mW r0 sa kt sb vw kp sh tb (nI a) tk fm tt va fa fd)) := by
  obtain ⟨⟨n, y, h⟩, ho, hT, hx, hkt⟩ := hI
  refine LW.aload_n hc (i := 1) (by decide +kernel) rfl ?_
  refine law_arg hc hz hX hbl hbA hb hN (pc := 246) (k := 1) (by decide) (by decide +kernel) (by omega) ?_
  refine law_arg hc hz hX hbl hbA hb hN (pc := 251) (k := 2) (by decide) (by decide +kernel) (by omega) ?_
  refine LW.callG (M' := m_K_of) (idx := 18) (n := 2) (As := [.int (xs (i + 1)), .int (xs (i + 2))]) (b := 0) (ci := 3) (rest := []) hz eL1 (kW r0 r1 r2 kp sh (tb, nI a, tr) fd) zm_K_of (List.mem_of_getElem? (i := 214) (by decide +kernel)) (by decide) rfl (Nat.le_of_ble_eq_true rfl) ((zl_c1 rfl (zl_c1 rfl zl_nil))) (by decide +kernel) (Nat.zero_le _) rfl (by decide) (by decide) rfl l1_sl rfl ?_
  refine c_K_of h (fun r1' => ?_)
  refine LW.eq rfl rfl l1_put ?_
  refine LW.aload_n hc (i := 2) (by decide +kernel) rfl ?_
  refine law_arg hc hz hX hbl hbA hb hN (pc := 260) (k := 1) (by decide) (by decide +kernel) (by omega) ?_
  refine law_arg hc hz hX hbl hbA hb hN (pc := 265) (k := 2) (by decide) (by decide +kernel) (by omega) ?_
  refine LW.callG (M' := m_M_of) (idx := 21) (n := 2) (As := [.int (xs (i + 1)), .int (xs (i + 2))]) (b := 0) (ci := 4) (rest := [.int _]) hz eL2 (mW r0 sa kt sb vw kp sh tb (nI a) tk fm tt va fa fd) zm_M_of (List.mem_of_getElem? (i := 862) (by decide +kernel)) (by decide) rfl (Nat.le_of_ble_eq_true rfl) ((zl_c1 rfl (zl_c1 rfl zl_nil))) (by decide +kernel) ((show 1 + 0 ≤ 8 by decide)) rfl (by decide) (by decide) rfl l2_sl rfl ?_
  refine c_M_of h (fun sa2 sb2 vw2 tk2 fm2 tt2 va2 fa2 => ?_)
  refine LW.eq rfl rfl l2_put ?_
  refine LW.icmp_eq hc (tgt := 1406) (off := 1133) (by decide +kernel) (by decide) (fun _ => ?_) (fun hx => absurd rfl hx)
  exact kk _ _ _ _ _ _ _ _ _ _ _ _ _ _ _ _ _ _ ⟨(by rw [p_Of]; exact ⟨n, y, h⟩), ho, hT, hx, hkt⟩
set_option maxHeartbeats 4000000 in
theorem law_change {p : Program} {l : Launch} {e : Env} {R : Room} {s : State} {m : MethodId} {args : Array Value} {below : List Frame} {meth : Method} {c : Code} {cells slots : Nat} {ad : Nat → Nat} {cI cR : ClassId} {D : va_G} {A : Nat → Prop} {Z : State → Prop} {b N i : Nat} {xs : Nat → Int32} {r0 r1 r2 kt : Nat → Int32} {kp : Int32} {sh : tyS} {tb : Nat → Int32} {a : Nat} {tr : Int32 × Int32 × Int32 × Int32} {fd sa sb vw : Nat → Int32} {tk fm tt va fa : Int32} (hc : LC m_law p s m args c cI cR D A) (hz : zC m_law p R s m args c cells slots ad cI cR D A) (hX : va_X b N xs s s.heap) (hbl : b < s.heap.size) (hbA : ¬ A b) (hb : ad 4000 = b) (hN : N ≤ 3072) (hi : i + 5 < N) (hI : iOK r0 r2 kt kp sh tb a) (kk : ∀ (r0 r1 r2 kt : Nat → Int32) (kp : Int32) (sh : tyS) (tb : Nat → Int32) (a : Nat) (tr : Int32 × Int32 × Int32 × Int32) (fd sa sb vw : Nat → Int32) (tk fm tt va fa : Int32), iOK r0 r2 kt kp sh tb a → LW m_law p l e R s m args below meth c cI cR D A Z cells slots ad 1406 [.ref 4000, .ref 0, .ref 39, .int (nI i)] [] (lwW r0 r1 r2 kp sh (tb, nI a, tr) fd (mW r0 sa kt sb vw kp sh tb (nI a) tk fm tt va fa fd))) : LW m_law p l e R s m args below meth c cI cR D A Z cells slots ad 278 [.ref 4000, .ref 0, .ref 39, .int (nI i)] [] (lwW r0 r1 r2 kp sh (tb, nI a, tr) fd (mW r0 sa kt sb vw kp sh tb (nI a) tk fm tt va fa fd)) := by
  obtain ⟨⟨n, y, h⟩, ho, hT, hx, hkt⟩ := hI
  refine LW.aload_n hc (i := 1) (by decide +kernel) rfl ?_
  refine law_arg hc hz hX hbl hbA hb hN (pc := 279) (k := 1) (by decide) (by decide +kernel) (by omega) ?_
  refine law_arg hc hz hX hbl hbA hb hN (pc := 284) (k := 2) (by decide) (by decide +kernel) (by omega) ?_
  refine law_arg hc hz hX hbl hbA hb hN (pc := 289) (k := 3) (by decide) (by decide +kernel) (by omega) ?_
  refine LW.callG (M' := m_K_change) (idx := 22) (n := 3) (As := [.int (xs (i + 1)), .int (xs (i + 2)), .int (xs (i + 3))]) (b := 0) (ci := 3) (rest := []) hz eL1 (kW r0 r1 r2 kp sh (tb, nI a, tr) fd) zm_K_change (List.mem_of_getElem? (i := 251) (by decide +kernel)) (by decide) rfl (Nat.le_of_ble_eq_true rfl) ((zl_c1 rfl (zl_c1 rfl (zl_c1 rfl zl_nil)))) (by decide +kernel) (Nat.zero_le _) rfl (by decide) (by decide) rfl l1_sl rfl ?_
  refine c_K_change h (fun r1' => ?_)
  refine LW.eq rfl rfl l1_put ?_
  refine LW.aload_n hc (i := 2) (by decide +kernel) rfl ?_
  refine law_arg hc hz hX hbl hbA hb hN (pc := 298) (k := 1) (by decide) (by decide +kernel) (by omega) ?_
  refine law_arg hc hz hX hbl hbA hb hN (pc := 303) (k := 2) (by decide) (by decide +kernel) (by omega) ?_
  refine law_arg hc hz hX hbl hbA hb hN (pc := 308) (k := 3) (by decide) (by decide +kernel) (by omega) ?_
  refine LW.callG (M' := m_M_change) (idx := 26) (n := 3) (As := [.int (xs (i + 1)), .int (xs (i + 2)), .int (xs (i + 3))]) (b := 0) (ci := 4) (rest := [.int _]) hz eL2 (mW r0 sa kt sb vw kp sh tb (nI a) tk fm tt va fa fd) zm_M_change (List.mem_of_getElem? (i := 897) (by decide +kernel)) (by decide) rfl (Nat.le_of_ble_eq_true rfl) ((zl_c1 rfl (zl_c1 rfl (zl_c1 rfl zl_nil)))) (by decide +kernel) ((show 1 + 0 ≤ 8 by decide)) rfl (by decide) (by decide) rfl l2_sl rfl ?_
  refine c_M_change h (fun sa2 sb2 vw2 tk2 fm2 tt2 va2 fa2 => ?_)
  refine LW.eq rfl rfl l2_put ?_
  refine LW.icmp_eq hc (tgt := 1406) (off := 1090) (by decide +kernel) (by decide) (fun _ => ?_) (fun hx => absurd rfl hx)
  exact kk _ _ _ _ _ _ _ _ _ _ _ _ _ _ _ _ _ _ ⟨q_Change h, ho, hT, hx, hkt⟩
set_option maxHeartbeats 4000000 in
theorem law_birth {p : Program} {l : Launch} {e : Env} {R : Room} {s : State} {m : MethodId} {args : Array Value} {below : List Frame} {meth : Method} {c : Code} {cells slots : Nat} {ad : Nat → Nat} {cI cR : ClassId} {D : va_G} {A : Nat → Prop} {Z : State → Prop} {b N i : Nat} {xs : Nat → Int32} {r0 r1 r2 kt : Nat → Int32} {kp : Int32} {sh : tyS} {tb : Nat → Int32} {a : Nat} {tr : Int32 × Int32 × Int32 × Int32} {fd sa sb vw : Nat → Int32} {tk fm tt va fa : Int32} (hc : LC m_law p s m args c cI cR D A) (hz : zC m_law p R s m args c cells slots ad cI cR D A) (hX : va_X b N xs s s.heap) (hbl : b < s.heap.size) (hbA : ¬ A b) (hb : ad 4000 = b) (hN : N ≤ 3072) (hi : i + 5 < N) (hI : iOK r0 r2 kt kp sh tb a) (kk : ∀ (r0 r1 r2 kt : Nat → Int32) (kp : Int32) (sh : tyS) (tb : Nat → Int32) (a : Nat) (tr : Int32 × Int32 × Int32 × Int32) (fd sa sb vw : Nat → Int32) (tk fm tt va fa : Int32), iOK r0 r2 kt kp sh tb a → LW m_law p l e R s m args below meth c cI cR D A Z cells slots ad 1406 [.ref 4000, .ref 0, .ref 39, .int (nI i)] [] (lwW r0 r1 r2 kp sh (tb, nI a, tr) fd (mW r0 sa kt sb vw kp sh tb (nI a) tk fm tt va fa fd))) : LW m_law p l e R s m args below meth c cI cR D A Z cells slots ad 321 [.ref 4000, .ref 0, .ref 39, .int (nI i)] [] (lwW r0 r1 r2 kp sh (tb, nI a, tr) fd (mW r0 sa kt sb vw kp sh tb (nI a) tk fm tt va fa fd)) := by
  obtain ⟨⟨n, y, h⟩, ho, hT, hx, hkt⟩ := hI
  refine LW.aload_n hc (i := 1) (by decide +kernel) rfl ?_
  refine law_arg hc hz hX hbl hbA hb hN (pc := 322) (k := 1) (by decide) (by decide +kernel) (by omega) ?_
  refine law_arg hc hz hX hbl hbA hb hN (pc := 327) (k := 2) (by decide) (by decide +kernel) (by omega) ?_
  refine law_arg hc hz hX hbl hbA hb hN (pc := 332) (k := 3) (by decide) (by decide +kernel) (by omega) ?_
  refine LW.callG (M' := m_K_birth) (idx := 27) (n := 3) (As := [.int (xs (i + 1)), .int (xs (i + 2)), .int (xs (i + 3))]) (b := 0) (ci := 3) (rest := []) hz eL1 (kW r0 r1 r2 kp sh (tb, nI a, tr) fd) zm_K_birth (List.mem_of_getElem? (i := 267) (by decide +kernel)) (by decide) rfl (Nat.le_of_ble_eq_true rfl) ((zl_c1 rfl (zl_c1 rfl (zl_c1 rfl zl_nil)))) (by decide +kernel) (Nat.zero_le _) rfl (by decide) (by decide) rfl l1_sl rfl ?_
  refine c_K_birth h (fun r1' => ?_)
  refine LW.eq rfl rfl l1_put ?_
  refine LW.aload_n hc (i := 2) (by decide +kernel) rfl ?_
  refine law_arg hc hz hX hbl hbA hb hN (pc := 341) (k := 1) (by decide) (by decide +kernel) (by omega) ?_
  refine law_arg hc hz hX hbl hbA hb hN (pc := 346) (k := 2) (by decide) (by decide +kernel) (by omega) ?_
  refine law_arg hc hz hX hbl hbA hb hN (pc := 351) (k := 3) (by decide) (by decide +kernel) (by omega) ?_
  refine LW.callG (M' := m_M_birth) (idx := 30) (n := 3) (As := [.int (xs (i + 1)), .int (xs (i + 2)), .int (xs (i + 3))]) (b := 0) (ci := 4) (rest := [.int _]) hz eL2 (mW r0 sa kt sb vw kp sh tb (nI a) tk fm tt va fa fd) zm_M_birth (List.mem_of_getElem? (i := 911) (by decide +kernel)) (by decide) rfl (Nat.le_of_ble_eq_true rfl) ((zl_c1 rfl (zl_c1 rfl (zl_c1 rfl zl_nil)))) (by decide +kernel) ((show 1 + 0 ≤ 8 by decide)) rfl (by decide) (by decide) rfl l2_sl rfl ?_
  refine c_M_birth h (fun sa2 sb2 vw2 tk2 fm2 tt2 va2 fa2 => ?_)
  refine LW.eq rfl rfl l2_put ?_
  refine LW.icmp_eq hc (tgt := 1406) (off := 1047) (by decide +kernel) (by decide) (fun _ => ?_) (fun hx => absurd rfl hx)
  exact kk _ _ _ _ _ _ _ _ _ _ _ _ _ _ _ _ _ _ ⟨q_Birth h, ho, hT, hx, hkt⟩
set_option maxHeartbeats 4000000 in
theorem law_who {p : Program} {l : Launch} {e : Env} {R : Room} {s : State} {m : MethodId} {args : Array Value} {below : List Frame} {meth : Method} {c : Code} {cells slots : Nat} {ad : Nat → Nat} {cI cR : ClassId} {D : va_G} {A : Nat → Prop} {Z : State → Prop} {b N i : Nat} {xs : Nat → Int32} {r0 r1 r2 kt : Nat → Int32} {kp : Int32} {sh : tyS} {tb : Nat → Int32} {a : Nat} {tr : Int32 × Int32 × Int32 × Int32} {fd sa sb vw : Nat → Int32} {tk fm tt va fa : Int32} (hc : LC m_law p s m args c cI cR D A) (hz : zC m_law p R s m args c cells slots ad cI cR D A) (hX : va_X b N xs s s.heap) (hbl : b < s.heap.size) (hbA : ¬ A b) (hb : ad 4000 = b) (hN : N ≤ 3072) (hi : i + 5 < N) (hI : iOK r0 r2 kt kp sh tb a) (kk : ∀ (r0 r1 r2 kt : Nat → Int32) (kp : Int32) (sh : tyS) (tb : Nat → Int32) (a : Nat) (tr : Int32 × Int32 × Int32 × Int32) (fd sa sb vw : Nat → Int32) (tk fm tt va fa : Int32), iOK r0 r2 kt kp sh tb a → LW m_law p l e R s m args below meth c cI cR D A Z cells slots ad 1406 [.ref 4000, .ref 0, .ref 39, .int (nI i)] [] (lwW r0 r1 r2 kp sh (tb, nI a, tr) fd (mW r0 sa kt sb vw kp sh tb (nI a) tk fm tt va fa fd))) : LW m_law p l e R s m args below meth c cI cR D A Z cells slots ad 364 [.ref 4000, .ref 0, .ref 39, .int (nI i)] [] (lwW r0 r1 r2 kp sh (tb, nI a, tr) fd (mW r0 sa kt sb vw kp sh tb (nI a) tk fm tt va fa fd)) := by
  obtain ⟨⟨n, y, h⟩, ho, hT, hx, hkt⟩ := hI
  refine LW.aload_n hc (i := 1) (by decide +kernel) rfl ?_
  refine law_arg hc hz hX hbl hbA hb hN (pc := 365) (k := 1) (by decide) (by decide +kernel) (by omega) ?_
  refine LW.callG (M' := m_K_who) (idx := 31) (n := 1) (As := [.int (xs (i + 1))]) (b := 0) (ci := 3) (rest := []) hz eL1 (kW r0 r1 r2 kp sh (tb, nI a, tr) fd) zm_K_who (List.mem_of_getElem? (i := 271) (by decide +kernel)) (by decide) rfl (Nat.le_of_ble_eq_true rfl) ((zl_c1 rfl zl_nil)) (by decide +kernel) (Nat.zero_le _) rfl (by decide) (by decide) rfl l1_sl rfl ?_
  refine c_K_who h (fun r1' => ?_)
  refine LW.eq rfl rfl l1_put ?_
  refine LW.aload_n hc (i := 2) (by decide +kernel) rfl ?_
  refine law_arg hc hz hX hbl hbA hb hN (pc := 374) (k := 1) (by decide) (by decide +kernel) (by omega) ?_
  refine LW.callG (M' := m_M_who) (idx := 35) (n := 1) (As := [.int (xs (i + 1))]) (b := 0) (ci := 4) (rest := [.int _]) hz eL2 (mW r0 sa kt sb vw kp sh tb (nI a) tk fm tt va fa fd) zm_M_who (List.mem_of_getElem? (i := 915) (by decide +kernel)) (by decide) rfl (Nat.le_of_ble_eq_true rfl) ((zl_c1 rfl zl_nil)) (by decide +kernel) ((show 1 + 0 ≤ 8 by decide)) rfl (by decide) (by decide) rfl l2_sl rfl ?_
  refine c_M_who h (fun sa2 sb2 vw2 tk2 fm2 tt2 va2 fa2 => ?_)
  refine LW.eq rfl rfl l2_put ?_
  refine LW.icmp_eq hc (tgt := 1406) (off := 1024) (by decide +kernel) (by decide) (fun _ => ?_) (fun hx => absurd rfl hx)
  exact kk _ _ _ _ _ _ _ _ _ _ _ _ _ _ _ _ _ _ ⟨(by rw [p_Who]; exact ⟨n, y, h⟩), ho, hT, hx, hkt⟩
set_option maxHeartbeats 4000000 in
theorem law_common {p : Program} {l : Launch} {e : Env} {R : Room} {s : State} {m : MethodId} {args : Array Value} {below : List Frame} {meth : Method} {c : Code} {cells slots : Nat} {ad : Nat → Nat} {cI cR : ClassId} {D : va_G} {A : Nat → Prop} {Z : State → Prop} {b N i : Nat} {xs : Nat → Int32} {r0 r1 r2 kt : Nat → Int32} {kp : Int32} {sh : tyS} {tb : Nat → Int32} {a : Nat} {tr : Int32 × Int32 × Int32 × Int32} {fd sa sb vw : Nat → Int32} {tk fm tt va fa : Int32} (hc : LC m_law p s m args c cI cR D A) (hz : zC m_law p R s m args c cells slots ad cI cR D A) (hX : va_X b N xs s s.heap) (hbl : b < s.heap.size) (hbA : ¬ A b) (hb : ad 4000 = b) (hN : N ≤ 3072) (hi : i + 5 < N) (hI : iOK r0 r2 kt kp sh tb a) (kk : ∀ (r0 r1 r2 kt : Nat → Int32) (kp : Int32) (sh : tyS) (tb : Nat → Int32) (a : Nat) (tr : Int32 × Int32 × Int32 × Int32) (fd sa sb vw : Nat → Int32) (tk fm tt va fa : Int32), iOK r0 r2 kt kp sh tb a → LW m_law p l e R s m args below meth c cI cR D A Z cells slots ad 1406 [.ref 4000, .ref 0, .ref 39, .int (nI i)] [] (lwW r0 r1 r2 kp sh (tb, nI a, tr) fd (mW r0 sa kt sb vw kp sh tb (nI a) tk fm tt va fa fd))) : LW m_law p l e R s m args below meth c cI cR D A Z cells slots ad 387 [.ref 4000, .ref 0, .ref 39, .int (nI i)] [] (lwW r0 r1 r2 kp sh (tb, nI a, tr) fd (mW r0 sa kt sb vw kp sh tb (nI a) tk fm tt va fa fd)) := by
  obtain ⟨⟨n, y, h⟩, ho, hT, hx, hkt⟩ := hI
  refine LW.aload_n hc (i := 1) (by decide +kernel) rfl ?_
  refine law_arg hc hz hX hbl hbA hb hN (pc := 388) (k := 1) (by decide) (by decide +kernel) (by omega) ?_
  refine law_arg hc hz hX hbl hbA hb hN (pc := 393) (k := 2) (by decide) (by decide +kernel) (by omega) ?_
  refine LW.callG (M' := m_K_common) (idx := 36) (n := 2) (As := [.int (xs (i + 1)), .int (xs (i + 2))]) (b := 0) (ci := 3) (rest := []) hz eL1 (kW r0 r1 r2 kp sh (tb, nI a, tr) fd) zm_K_common (List.mem_of_getElem? (i := 285) (by decide +kernel)) (by decide) rfl (Nat.le_of_ble_eq_true rfl) ((zl_c1 rfl (zl_c1 rfl zl_nil))) (by decide +kernel) (Nat.zero_le _) rfl (by decide) (by decide) rfl l1_sl rfl ?_
  refine c_K_common h (fun r1' => ?_)
  refine LW.eq rfl rfl l1_put ?_
  refine LW.aload_n hc (i := 2) (by decide +kernel) rfl ?_
  refine law_arg hc hz hX hbl hbA hb hN (pc := 402) (k := 1) (by decide) (by decide +kernel) (by omega) ?_
  refine law_arg hc hz hX hbl hbA hb hN (pc := 407) (k := 2) (by decide) (by decide +kernel) (by omega) ?_
  refine LW.callG (M' := m_M_common) (idx := 39) (n := 2) (As := [.int (xs (i + 1)), .int (xs (i + 2))]) (b := 0) (ci := 4) (rest := [.int _]) hz eL2 (mW r0 sa kt sb vw kp sh tb (nI a) tk fm tt va fa fd) zm_M_common (List.mem_of_getElem? (i := 922) (by decide +kernel)) (by decide) rfl (Nat.le_of_ble_eq_true rfl) ((zl_c1 rfl (zl_c1 rfl zl_nil))) (by decide +kernel) ((show 1 + 0 ≤ 8 by decide)) rfl (by decide) (by decide) rfl l2_sl rfl ?_
  refine c_M_common h (fun sa2 sb2 vw2 tk2 fm2 tt2 va2 fa2 => ?_)
  refine LW.eq rfl rfl l2_put ?_
  refine LW.icmp_eq hc (tgt := 1406) (off := 991) (by decide +kernel) (by decide) (fun _ => ?_) (fun hx => absurd rfl hx)
  exact kk _ _ _ _ _ _ _ _ _ _ _ _ _ _ _ _ _ _ ⟨(by rw [p_Common]; exact ⟨n, y, h⟩), ho, hT, hx, hkt⟩
set_option maxHeartbeats 4000000 in
theorem law_turned {p : Program} {l : Launch} {e : Env} {R : Room} {s : State} {m : MethodId} {args : Array Value} {below : List Frame} {meth : Method} {c : Code} {cells slots : Nat} {ad : Nat → Nat} {cI cR : ClassId} {D : va_G} {A : Nat → Prop} {Z : State → Prop} {b N i : Nat} {xs : Nat → Int32} {r0 r1 r2 kt : Nat → Int32} {kp : Int32} {sh : tyS} {tb : Nat → Int32} {a : Nat} {tr : Int32 × Int32 × Int32 × Int32} {fd sa sb vw : Nat → Int32} {tk fm tt va fa : Int32} (hc : LC m_law p s m args c cI cR D A) (hz : zC m_law p R s m args c cells slots ad cI cR D A) (hX : va_X b N xs s s.heap) (hbl : b < s.heap.size) (hbA : ¬ A b) (hb : ad 4000 = b) (hN : N ≤ 3072) (hi : i + 5 < N) (hI : iOK r0 r2 kt kp sh tb a) (kk : ∀ (r0 r1 r2 kt : Nat → Int32) (kp : Int32) (sh : tyS) (tb : Nat → Int32) (a : Nat) (tr : Int32 × Int32 × Int32 × Int32) (fd sa sb vw : Nat → Int32) (tk fm tt va fa : Int32), iOK r0 r2 kt kp sh tb a → LW m_law p l e R s m args below meth c cI cR D A Z cells slots ad 1406 [.ref 4000, .ref 0, .ref 39, .int (nI i)] [] (lwW r0 r1 r2 kp sh (tb, nI a, tr) fd (mW r0 sa kt sb vw kp sh tb (nI a) tk fm tt va fa fd))) : LW m_law p l e R s m args below meth c cI cR D A Z cells slots ad 420 [.ref 4000, .ref 0, .ref 39, .int (nI i)] [] (lwW r0 r1 r2 kp sh (tb, nI a, tr) fd (mW r0 sa kt sb vw kp sh tb (nI a) tk fm tt va fa fd)) := by
  obtain ⟨⟨n, y, h⟩, ho, hT, hx, hkt⟩ := hI
  refine LW.aload_n hc (i := 1) (by decide +kernel) rfl ?_
  refine law_arg hc hz hX hbl hbA hb hN (pc := 421) (k := 1) (by decide) (by decide +kernel) (by omega) ?_
  refine law_arg hc hz hX hbl hbA hb hN (pc := 426) (k := 2) (by decide) (by decide +kernel) (by omega) ?_
  refine law_arg hc hz hX hbl hbA hb hN (pc := 431) (k := 3) (by decide) (by decide +kernel) (by omega) ?_
  refine LW.callG (M' := m_K_turned) (idx := 40) (n := 3) (As := [.int (xs (i + 1)), .int (xs (i + 2)), .int (xs (i + 3))]) (b := 0) (ci := 3) (rest := []) hz eL1 (kW r0 r1 r2 kp sh (tb, nI a, tr) fd) zm_K_turned (List.mem_of_getElem? (i := 293) (by decide +kernel)) (by decide) rfl (Nat.le_of_ble_eq_true rfl) ((zl_c1 rfl (zl_c1 rfl (zl_c1 rfl zl_nil)))) (by decide +kernel) (Nat.zero_le _) rfl (by decide) (by decide) rfl l1_sl rfl ?_
  refine c_K_turned  (fun r1' => ?_)
  refine LW.eq rfl rfl l1_put ?_
  refine LW.aload_n hc (i := 2) (by decide +kernel) rfl ?_
  refine law_arg hc hz hX hbl hbA hb hN (pc := 440) (k := 1) (by decide) (by decide +kernel) (by omega) ?_
  refine law_arg hc hz hX hbl hbA hb hN (pc := 445) (k := 2) (by decide) (by decide +kernel) (by omega) ?_
  refine law_arg hc hz hX hbl hbA hb hN (pc := 450) (k := 3) (by decide) (by decide +kernel) (by omega) ?_
  refine LW.callG (M' := m_M_turned) (idx := 43) (n := 3) (As := [.int (xs (i + 1)), .int (xs (i + 2)), .int (xs (i + 3))]) (b := 0) (ci := 4) (rest := [.int _]) hz eL2 (mW r0 sa kt sb vw kp sh tb (nI a) tk fm tt va fa fd) zm_M_turned (List.mem_of_getElem? (i := 926) (by decide +kernel)) (by decide) rfl (Nat.le_of_ble_eq_true rfl) ((zl_c1 rfl (zl_c1 rfl (zl_c1 rfl zl_nil)))) (by decide +kernel) ((show 1 + 0 ≤ 8 by decide)) rfl (by decide) (by decide) rfl l2_sl rfl ?_
  refine c_M_turned  (fun sa2 sb2 vw2 tk2 fm2 tt2 va2 fa2 => ?_)
  refine LW.eq rfl rfl l2_put ?_
  refine LW.icmp_eq hc (tgt := 1406) (off := 948) (by decide +kernel) (by decide) (fun _ => ?_) (fun hx => absurd rfl hx)
  exact kk _ _ _ _ _ _ _ _ _ _ _ _ _ _ _ _ _ _ ⟨(by rw [p_Turned]; exact ⟨n, y, h⟩), ho, hT, hx, hkt⟩
