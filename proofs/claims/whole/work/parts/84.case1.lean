/-! the law's cases -/
set_option maxHeartbeats 4000000 in
theorem law_go {p : Program} {l : Launch} {e : Env} {R : Room} {s : State} {m : MethodId} {args : Array Value} {below : List Frame} {meth : Method} {c : Code} {cells slots : Nat} {ad : Nat → Nat} {cI cR : ClassId} {D : va_G} {A : Nat → Prop} {Z : State → Prop} {b N i : Nat} {xs : Nat → Int32} {r0 r1 r2 kt : Nat → Int32} {kp : Int32} {sh : tyS} {tb : Nat → Int32} {a : Nat} {tr : Int32 × Int32 × Int32 × Int32} {fd sa sb vw : Nat → Int32} {tk fm tt va fa : Int32} (hc : LC m_law p s m args c cI cR D A) (hz : zC m_law p R s m args c cells slots ad cI cR D A) (hX : va_X b N xs s s.heap) (hbl : b < s.heap.size) (hbA : ¬ A b) (hb : ad 4000 = b) (hN : N ≤ 3072) (hi : i + 5 < N) (hI : iOK r0 r2 kt kp sh tb a) (kk : ∀ (r0 r1 r2 kt : Nat → Int32) (kp : Int32) (sh : tyS) (tb : Nat → Int32) (a : Nat) (tr : Int32 × Int32 × Int32 × Int32) (fd sa sb vw : Nat → Int32) (tk fm tt va fa : Int32), iOK r0 r2 kt kp sh tb a → LW m_law p l e R s m args below meth c cI cR D A Z cells slots ad 1406 [.ref 4000, .ref 0, .ref 39, .int (nI i)] [] (lwW r0 r1 r2 kp sh (tb, nI a, tr) fd (mW r0 sa kt sb vw kp sh tb (nI a) tk fm tt va fa fd))) : LW m_law p l e R s m args below meth c cI cR D A Z cells slots ad 463 [.ref 4000, .ref 0, .ref 39, .int (nI i)] [] (lwW r0 r1 r2 kp sh (tb, nI a, tr) fd (mW r0 sa kt sb vw kp sh tb (nI a) tk fm tt va fa fd)) := by
  obtain ⟨⟨n, y, h⟩, ho, hT, hx, hkt⟩ := hI
  refine LW.aload_n hc (i := 1) (by decide +kernel) rfl ?_
  refine law_arg hc hz hX hbl hbA hb hN (pc := 464) (k := 1) (by decide) (by decide +kernel) (by omega) ?_
  refine LW.callG (M' := m_K_go) (idx := 44) (n := 1) (As := [.int (xs (i + 1))]) (b := 0) (ci := 3) (rest := []) hz eL1 (kW r0 r1 r2 kp sh (tb, nI a, tr) fd) zm_K_go (List.mem_of_getElem? (i := 299) (by decide +kernel)) (by decide) rfl (Nat.le_of_ble_eq_true rfl) ((zl_c1 rfl zl_nil)) (by decide +kernel) (Nat.zero_le _) rfl (by decide) (by decide) rfl l1_sl rfl ?_
  refine c_K_go h (fun r1' => ?_)
  refine LW.eq rfl rfl l1_put ?_
  refine LW.aload_n hc (i := 2) (by decide +kernel) rfl ?_
  refine law_arg hc hz hX hbl hbA hb hN (pc := 473) (k := 1) (by decide) (by decide +kernel) (by omega) ?_
  refine LW.callG (M' := m_M_go) (idx := 47) (n := 1) (As := [.int (xs (i + 1))]) (b := 0) (ci := 4) (rest := [.int _]) hz eL2 (mW r0 sa kt sb vw kp sh tb (nI a) tk fm tt va fa fd) zm_M_go (List.mem_of_getElem? (i := 930) (by decide +kernel)) (by decide) rfl (Nat.le_of_ble_eq_true rfl) ((zl_c1 rfl zl_nil)) (by decide +kernel) ((show 1 + 0 ≤ 8 by decide)) rfl (by decide) (by decide) rfl l2_sl rfl ?_
  refine c_M_go h (fun sa2 sb2 vw2 tk2 fm2 tt2 va2 fa2 => ?_)
  refine LW.eq rfl rfl l2_put ?_
  refine LW.icmp_eq hc (tgt := 1406) (off := 925) (by decide +kernel) (by decide) (fun _ => ?_) (fun hx => absurd rfl hx)
  exact kk _ _ _ _ _ _ _ _ _ _ _ _ _ _ _ _ _ _ ⟨q_Go h, ho, hT, hx, hkt⟩
set_option maxHeartbeats 4000000 in
theorem law_now {p : Program} {l : Launch} {e : Env} {R : Room} {s : State} {m : MethodId} {args : Array Value} {below : List Frame} {meth : Method} {c : Code} {cells slots : Nat} {ad : Nat → Nat} {cI cR : ClassId} {D : va_G} {A : Nat → Prop} {Z : State → Prop} {b N i : Nat} {xs : Nat → Int32} {r0 r1 r2 kt : Nat → Int32} {kp : Int32} {sh : tyS} {tb : Nat → Int32} {a : Nat} {tr : Int32 × Int32 × Int32 × Int32} {fd sa sb vw : Nat → Int32} {tk fm tt va fa : Int32} (hc : LC m_law p s m args c cI cR D A) (hz : zC m_law p R s m args c cells slots ad cI cR D A) (hX : va_X b N xs s s.heap) (hbl : b < s.heap.size) (hbA : ¬ A b) (hb : ad 4000 = b) (hN : N ≤ 3072) (hi : i + 5 < N) (hI : iOK r0 r2 kt kp sh tb a) (kk : ∀ (r0 r1 r2 kt : Nat → Int32) (kp : Int32) (sh : tyS) (tb : Nat → Int32) (a : Nat) (tr : Int32 × Int32 × Int32 × Int32) (fd sa sb vw : Nat → Int32) (tk fm tt va fa : Int32), iOK r0 r2 kt kp sh tb a → LW m_law p l e R s m args below meth c cI cR D A Z cells slots ad 1406 [.ref 4000, .ref 0, .ref 39, .int (nI i)] [] (lwW r0 r1 r2 kp sh (tb, nI a, tr) fd (mW r0 sa kt sb vw kp sh tb (nI a) tk fm tt va fa fd))) : LW m_law p l e R s m args below meth c cI cR D A Z cells slots ad 486 [.ref 4000, .ref 0, .ref 39, .int (nI i)] [] (lwW r0 r1 r2 kp sh (tb, nI a, tr) fd (mW r0 sa kt sb vw kp sh tb (nI a) tk fm tt va fa fd)) := by
  obtain ⟨⟨n, y, h⟩, ho, hT, hx, hkt⟩ := hI
  refine LW.aload_n hc (i := 1) (by decide +kernel) rfl ?_
  refine law_arg hc hz hX hbl hbA hb hN (pc := 487) (k := 1) (by decide) (by decide +kernel) (by omega) ?_
  refine LW.callG (M' := m_K_now) (idx := 48) (n := 1) (As := [.int (xs (i + 1))]) (b := 0) (ci := 3) (rest := []) hz eL1 (kW r0 r1 r2 kp sh (tb, nI a, tr) fd) zm_K_now (List.mem_of_getElem? (i := 347) (by decide +kernel)) (by decide) rfl (Nat.le_of_ble_eq_true rfl) ((zl_c1 rfl zl_nil)) (by decide +kernel) (Nat.zero_le _) rfl (by decide) (by decide) rfl l1_sl rfl ?_
  refine c_K_now h (fun r1' => ?_)
  refine LW.eq rfl rfl l1_put ?_
  refine LW.aload_n hc (i := 2) (by decide +kernel) rfl ?_
  refine law_arg hc hz hX hbl hbA hb hN (pc := 496) (k := 1) (by decide) (by decide +kernel) (by omega) ?_
  refine LW.callG (M' := m_M_now) (idx := 51) (n := 1) (As := [.int (xs (i + 1))]) (b := 0) (ci := 4) (rest := [.int _]) hz eL2 (mW r0 sa kt sb vw kp sh tb (nI a) tk fm tt va fa fd) zm_M_now (List.mem_of_getElem? (i := 963) (by decide +kernel)) (by decide) rfl (Nat.le_of_ble_eq_true rfl) ((zl_c1 rfl zl_nil)) (by decide +kernel) ((show 1 + 0 ≤ 8 by decide)) rfl (by decide) (by decide) rfl l2_sl rfl ?_
  refine c_M_now h (fun sa2 sb2 vw2 tk2 fm2 tt2 va2 fa2 => ?_)
  refine LW.eq rfl rfl l2_put ?_
  refine LW.icmp_eq hc (tgt := 1406) (off := 902) (by decide +kernel) (by decide) (fun _ => ?_) (fun hx => absurd rfl hx)
  exact kk _ _ _ _ _ _ _ _ _ _ _ _ _ _ _ _ _ _ ⟨(by rw [p_Now]; exact ⟨n, y, h⟩), ho, hT, hx, hkt⟩
set_option maxHeartbeats 4000000 in
theorem law_ahead {p : Program} {l : Launch} {e : Env} {R : Room} {s : State} {m : MethodId} {args : Array Value} {below : List Frame} {meth : Method} {c : Code} {cells slots : Nat} {ad : Nat → Nat} {cI cR : ClassId} {D : va_G} {A : Nat → Prop} {Z : State → Prop} {b N i : Nat} {xs : Nat → Int32} {r0 r1 r2 kt : Nat → Int32} {kp : Int32} {sh : tyS} {tb : Nat → Int32} {a : Nat} {tr : Int32 × Int32 × Int32 × Int32} {fd sa sb vw : Nat → Int32} {tk fm tt va fa : Int32} (hc : LC m_law p s m args c cI cR D A) (hz : zC m_law p R s m args c cells slots ad cI cR D A) (hX : va_X b N xs s s.heap) (hbl : b < s.heap.size) (hbA : ¬ A b) (hb : ad 4000 = b) (hN : N ≤ 3072) (hi : i + 5 < N) (hI : iOK r0 r2 kt kp sh tb a) (kk : ∀ (r0 r1 r2 kt : Nat → Int32) (kp : Int32) (sh : tyS) (tb : Nat → Int32) (a : Nat) (tr : Int32 × Int32 × Int32 × Int32) (fd sa sb vw : Nat → Int32) (tk fm tt va fa : Int32), iOK r0 r2 kt kp sh tb a → LW m_law p l e R s m args below meth c cI cR D A Z cells slots ad 1406 [.ref 4000, .ref 0, .ref 39, .int (nI i)] [] (lwW r0 r1 r2 kp sh (tb, nI a, tr) fd (mW r0 sa kt sb vw kp sh tb (nI a) tk fm tt va fa fd))) : LW m_law p l e R s m args below meth c cI cR D A Z cells slots ad 509 [.ref 4000, .ref 0, .ref 39, .int (nI i)] [] (lwW r0 r1 r2 kp sh (tb, nI a, tr) fd (mW r0 sa kt sb vw kp sh tb (nI a) tk fm tt va fa fd)) := by
  obtain ⟨⟨n, y, h⟩, ho, hT, hx, hkt⟩ := hI
  refine LW.aload_n hc (i := 1) (by decide +kernel) rfl ?_
  refine law_arg hc hz hX hbl hbA hb hN (pc := 510) (k := 1) (by decide) (by decide +kernel) (by omega) ?_
  refine law_arg hc hz hX hbl hbA hb hN (pc := 515) (k := 2) (by decide) (by decide +kernel) (by omega) ?_
  refine law_arg hc hz hX hbl hbA hb hN (pc := 520) (k := 3) (by decide) (by decide +kernel) (by omega) ?_
  refine LW.callG (M' := m_K_ahead) (idx := 52) (n := 3) (As := [.int (xs (i + 1)), .int (xs (i + 2)), .int (xs (i + 3))]) (b := 0) (ci := 3) (rest := []) hz eL1 (kW r0 r1 r2 kp sh (tb, nI a, tr) fd) zm_K_ahead (List.mem_of_getElem? (i := 377) (by decide +kernel)) (by decide) rfl (Nat.le_of_ble_eq_true rfl) ((zl_c1 rfl (zl_c1 rfl (zl_c1 rfl zl_nil)))) (by decide +kernel) (Nat.zero_le _) rfl (by decide) (by decide) rfl l1_sl rfl ?_
  refine c_K_ahead h (fun r1' => ?_)
  refine LW.eq rfl rfl l1_put ?_
  refine LW.aload_n hc (i := 2) (by decide +kernel) rfl ?_
  refine law_arg hc hz hX hbl hbA hb hN (pc := 529) (k := 1) (by decide) (by decide +kernel) (by omega) ?_
  refine law_arg hc hz hX hbl hbA hb hN (pc := 534) (k := 2) (by decide) (by decide +kernel) (by omega) ?_
  refine law_arg hc hz hX hbl hbA hb hN (pc := 539) (k := 3) (by decide) (by decide +kernel) (by omega) ?_
  refine LW.callG (M' := m_M_ahead) (idx := 55) (n := 3) (As := [.int (xs (i + 1)), .int (xs (i + 2)), .int (xs (i + 3))]) (b := 0) (ci := 4) (rest := [.int _]) hz eL2 (mW r0 sa kt sb vw kp sh tb (nI a) tk fm tt va fa fd) zm_M_ahead (List.mem_of_getElem? (i := 986) (by decide +kernel)) (by decide) rfl (Nat.le_of_ble_eq_true rfl) ((zl_c1 rfl (zl_c1 rfl (zl_c1 rfl zl_nil)))) (by decide +kernel) ((show 1 + 0 ≤ 8 by decide)) rfl (by decide) (by decide) rfl l2_sl rfl ?_
  refine c_M_ahead h (fun sa2 sb2 vw2 tk2 fm2 tt2 va2 fa2 => ?_)
  refine LW.eq rfl rfl l2_put ?_
  refine LW.icmp_eq hc (tgt := 1406) (off := 859) (by decide +kernel) (by decide) (fun _ => ?_) (fun hx => absurd rfl hx)
  exact kk _ _ _ _ _ _ _ _ _ _ _ _ _ _ _ _ _ _ ⟨(by rw [p_Ahead]; exact ⟨n, y, h⟩), ho, hT, hx, hkt⟩
set_option maxHeartbeats 4000000 in
theorem law_known {p : Program} {l : Launch} {e : Env} {R : Room} {s : State} {m : MethodId} {args : Array Value} {below : List Frame} {meth : Method} {c : Code} {cells slots : Nat} {ad : Nat → Nat} {cI cR : ClassId} {D : va_G} {A : Nat → Prop} {Z : State → Prop} {b N i : Nat} {xs : Nat → Int32} {r0 r1 r2 kt : Nat → Int32} {kp : Int32} {sh : tyS} {tb : Nat → Int32} {a : Nat} {tr : Int32 × Int32 × Int32 × Int32} {fd sa sb vw : Nat → Int32} {tk fm tt va fa : Int32} (hc : LC m_law p s m args c cI cR D A) (hz : zC m_law p R s m args c cells slots ad cI cR D A) (hX : va_X b N xs s s.heap) (hbl : b < s.heap.size) (hbA : ¬ A b) (hb : ad 4000 = b) (hN : N ≤ 3072) (hi : i + 5 < N) (hI : iOK r0 r2 kt kp sh tb a) (kk : ∀ (r0 r1 r2 kt : Nat → Int32) (kp : Int32) (sh : tyS) (tb : Nat → Int32) (a : Nat) (tr : Int32 × Int32 × Int32 × Int32) (fd sa sb vw : Nat → Int32) (tk fm tt va fa : Int32), iOK r0 r2 kt kp sh tb a → LW m_law p l e R s m args below meth c cI cR D A Z cells slots ad 1406 [.ref 4000, .ref 0, .ref 39, .int (nI i)] [] (lwW r0 r1 r2 kp sh (tb, nI a, tr) fd (mW r0 sa kt sb vw kp sh tb (nI a) tk fm tt va fa fd))) : LW m_law p l e R s m args below meth c cI cR D A Z cells slots ad 552 [.ref 4000, .ref 0, .ref 39, .int (nI i)] [] (lwW r0 r1 r2 kp sh (tb, nI a, tr) fd (mW r0 sa kt sb vw kp sh tb (nI a) tk fm tt va fa fd)) := by
  obtain ⟨⟨n, y, h⟩, ho, hT, hx, hkt⟩ := hI
  refine LW.aload_n hc (i := 1) (by decide +kernel) rfl ?_
  refine law_arg hc hz hX hbl hbA hb hN (pc := 553) (k := 1) (by decide) (by decide +kernel) (by omega) ?_
  refine LW.callG (M' := m_K_known) (idx := 56) (n := 1) (As := [.int (xs (i + 1))]) (b := 0) (ci := 3) (rest := []) hz eL1 (kW r0 r1 r2 kp sh (tb, nI a, tr) fd) zm_K_known (List.mem_of_getElem? (i := 388) (by decide +kernel)) (by decide) rfl (Nat.le_of_ble_eq_true rfl) ((zl_c1 rfl zl_nil)) (by decide +kernel) (Nat.zero_le _) rfl (by decide) (by decide) rfl l1_sl rfl ?_
  refine c_K_known h (fun r1' => ?_)
  refine LW.eq rfl rfl l1_put ?_
  refine LW.aload_n hc (i := 2) (by decide +kernel) rfl ?_
  refine law_arg hc hz hX hbl hbA hb hN (pc := 562) (k := 1) (by decide) (by decide +kernel) (by omega) ?_
  refine LW.callG (M' := m_M_known) (idx := 59) (n := 1) (As := [.int (xs (i + 1))]) (b := 0) (ci := 4) (rest := [.int _]) hz eL2 (mW r0 sa kt sb vw kp sh tb (nI a) tk fm tt va fa fd) zm_M_known (List.mem_of_getElem? (i := 994) (by decide +kernel)) (by decide) rfl (Nat.le_of_ble_eq_true rfl) ((zl_c1 rfl zl_nil)) (by decide +kernel) ((show 1 + 0 ≤ 8 by decide)) rfl (by decide) (by decide) rfl l2_sl rfl ?_
  refine c_M_known h (fun sa2 sb2 vw2 tk2 fm2 tt2 va2 fa2 => ?_)
  refine LW.eq rfl rfl l2_put ?_
  refine LW.icmp_eq hc (tgt := 1406) (off := 836) (by decide +kernel) (by decide) (fun _ => ?_) (fun hx => absurd rfl hx)
  exact kk _ _ _ _ _ _ _ _ _ _ _ _ _ _ _ _ _ _ ⟨(by rw [p_Known]; exact ⟨n, y, h⟩), ho, hT, hx, hkt⟩
set_option maxHeartbeats 4000000 in
theorem law_when {p : Program} {l : Launch} {e : Env} {R : Room} {s : State} {m : MethodId} {args : Array Value} {below : List Frame} {meth : Method} {c : Code} {cells slots : Nat} {ad : Nat → Nat} {cI cR : ClassId} {D : va_G} {A : Nat → Prop} {Z : State → Prop} {b N i : Nat} {xs : Nat → Int32} {r0 r1 r2 kt : Nat → Int32} {kp : Int32} {sh : tyS} {tb : Nat → Int32} {a : Nat} {tr : Int32 × Int32 × Int32 × Int32} {fd sa sb vw : Nat → Int32} {tk fm tt va fa : Int32} (hc : LC m_law p s m args c cI cR D A) (hz : zC m_law p R s m args c cells slots ad cI cR D A) (hX : va_X b N xs s s.heap) (hbl : b < s.heap.size) (hbA : ¬ A b) (hb : ad 4000 = b) (hN : N ≤ 3072) (hi : i + 5 < N) (hI : iOK r0 r2 kt kp sh tb a) (kk : ∀ (r0 r1 r2 kt : Nat → Int32) (kp : Int32) (sh : tyS) (tb : Nat → Int32) (a : Nat) (tr : Int32 × Int32 × Int32 × Int32) (fd sa sb vw : Nat → Int32) (tk fm tt va fa : Int32), iOK r0 r2 kt kp sh tb a → LW m_law p l e R s m args below meth c cI cR D A Z cells slots ad 1406 [.ref 4000, .ref 0, .ref 39, .int (nI i)] [] (lwW r0 r1 r2 kp sh (tb, nI a, tr) fd (mW r0 sa kt sb vw kp sh tb (nI a) tk fm tt va fa fd))) : LW m_law p l e R s m args below meth c cI cR D A Z cells slots ad 575 [.ref 4000, .ref 0, .ref 39, .int (nI i)] [] (lwW r0 r1 r2 kp sh (tb, nI a, tr) fd (mW r0 sa kt sb vw kp sh tb (nI a) tk fm tt va fa fd)) := by
  obtain ⟨⟨n, y, h⟩, ho, hT, hx, hkt⟩ := hI
  refine LW.aload_n hc (i := 1) (by decide +kernel) rfl ?_
  refine law_arg hc hz hX hbl hbA hb hN (pc := 576) (k := 1) (by decide) (by decide +kernel) (by omega) ?_
  refine LW.callG (M' := m_K_when) (idx := 60) (n := 1) (As := [.int (xs (i + 1))]) (b := 0) (ci := 3) (rest := []) hz eL1 (kW r0 r1 r2 kp sh (tb, nI a, tr) fd) zm_K_when (List.mem_of_getElem? (i := 392) (by decide +kernel)) (by decide) rfl (Nat.le_of_ble_eq_true rfl) ((zl_c1 rfl zl_nil)) (by decide +kernel) (Nat.zero_le _) rfl (by decide) (by decide) rfl l1_sl rfl ?_
  refine c_K_when h (fun r1' => ?_)
  refine LW.eq rfl rfl l1_put ?_
  refine LW.aload_n hc (i := 2) (by decide +kernel) rfl ?_
  refine law_arg hc hz hX hbl hbA hb hN (pc := 585) (k := 1) (by decide) (by decide +kernel) (by omega) ?_
  refine LW.callG (M' := m_M_when) (idx := 63) (n := 1) (As := [.int (xs (i + 1))]) (b := 0) (ci := 4) (rest := [.int _]) hz eL2 (mW r0 sa kt sb vw kp sh tb (nI a) tk fm tt va fa fd) zm_M_when (List.mem_of_getElem? (i := 1002) (by decide +kernel)) (by decide) rfl (Nat.le_of_ble_eq_true rfl) ((zl_c1 rfl zl_nil)) (by decide +kernel) ((show 1 + 0 ≤ 8 by decide)) rfl (by decide) (by decide) rfl l2_sl rfl ?_
  refine c_M_when h (fun sa2 sb2 vw2 tk2 fm2 tt2 va2 fa2 => ?_)
  refine LW.eq rfl rfl l2_put ?_
  refine LW.icmp_eq hc (tgt := 1406) (off := 813) (by decide +kernel) (by decide) (fun _ => ?_) (fun hx => absurd rfl hx)
  exact kk _ _ _ _ _ _ _ _ _ _ _ _ _ _ _ _ _ _ ⟨(by rw [p_When]; exact ⟨n, y, h⟩), ho, hT, hx, hkt⟩
set_option maxHeartbeats 4000000 in
theorem law_many {p : Program} {l : Launch} {e : Env} {R : Room} {s : State} {m : MethodId} {args : Array Value} {below : List Frame} {meth : Method} {c : Code} {cells slots : Nat} {ad : Nat → Nat} {cI cR : ClassId} {D : va_G} {A : Nat → Prop} {Z : State → Prop} {b N i : Nat} {xs : Nat → Int32} {r0 r1 r2 kt : Nat → Int32} {kp : Int32} {sh : tyS} {tb : Nat → Int32} {a : Nat} {tr : Int32 × Int32 × Int32 × Int32} {fd sa sb vw : Nat → Int32} {tk fm tt va fa : Int32} (hc : LC m_law p s m args c cI cR D A) (hz : zC m_law p R s m args c cells slots ad cI cR D A) (hX : va_X b N xs s s.heap) (hbl : b < s.heap.size) (hbA : ¬ A b) (hb : ad 4000 = b) (hN : N ≤ 3072) (hi : i + 5 < N) (hI : iOK r0 r2 kt kp sh tb a) (kk : ∀ (r0 r1 r2 kt : Nat → Int32) (kp : Int32) (sh : tyS) (tb : Nat → Int32) (a : Nat) (tr : Int32 × Int32 × Int32 × Int32) (fd sa sb vw : Nat → Int32) (tk fm tt va fa : Int32), iOK r0 r2 kt kp sh tb a → LW m_law p l e R s m args below meth c cI cR D A Z cells slots ad 1406 [.ref 4000, .ref 0, .ref 39, .int (nI i)] [] (lwW r0 r1 r2 kp sh (tb, nI a, tr) fd (mW r0 sa kt sb vw kp sh tb (nI a) tk fm tt va fa fd))) : LW m_law p l e R s m args below meth c cI cR D A Z cells slots ad 598 [.ref 4000, .ref 0, .ref 39, .int (nI i)] [] (lwW r0 r1 r2 kp sh (tb, nI a, tr) fd (mW r0 sa kt sb vw kp sh tb (nI a) tk fm tt va fa fd)) := by
  obtain ⟨⟨n, y, h⟩, ho, hT, hx, hkt⟩ := hI
  refine LW.aload_n hc (i := 1) (by decide +kernel) rfl ?_
  refine law_arg hc hz hX hbl hbA hb hN (pc := 599) (k := 1) (by decide) (by decide +kernel) (by omega) ?_
  refine LW.callG (M' := m_K_many) (idx := 64) (n := 1) (As := [.int (xs (i + 1))]) (b := 0) (ci := 3) (rest := []) hz eL1 (kW r0 r1 r2 kp sh (tb, nI a, tr) fd) zm_K_many (List.mem_of_getElem? (i := 397) (by decide +kernel)) (by decide) rfl (Nat.le_of_ble_eq_true rfl) ((zl_c1 rfl zl_nil)) (by decide +kernel) (Nat.zero_le _) rfl (by decide) (by decide) rfl l1_sl rfl ?_
  refine c_K_many h (fun r1' => ?_)
  refine LW.eq rfl rfl l1_put ?_
  refine LW.aload_n hc (i := 2) (by decide +kernel) rfl ?_
  refine law_arg hc hz hX hbl hbA hb hN (pc := 608) (k := 1) (by decide) (by decide +kernel) (by omega) ?_
  refine LW.callG (M' := m_M_many) (idx := 67) (n := 1) (As := [.int (xs (i + 1))]) (b := 0) (ci := 4) (rest := [.int _]) hz eL2 (mW r0 sa kt sb vw kp sh tb (nI a) tk fm tt va fa fd) zm_M_many (List.mem_of_getElem? (i := 1007) (by decide +kernel)) (by decide) rfl (Nat.le_of_ble_eq_true rfl) ((zl_c1 rfl zl_nil)) (by decide +kernel) ((show 1 + 0 ≤ 8 by decide)) rfl (by decide) (by decide) rfl l2_sl rfl ?_
  refine c_M_many h (fun sa2 sb2 vw2 tk2 fm2 tt2 va2 fa2 => ?_)
  refine LW.eq rfl rfl l2_put ?_
  refine LW.icmp_eq hc (tgt := 1406) (off := 790) (by decide +kernel) (by decide) (fun _ => ?_) (fun hx => absurd rfl hx)
  exact kk _ _ _ _ _ _ _ _ _ _ _ _ _ _ _ _ _ _ ⟨(by rw [p_Many]; exact ⟨n, y, h⟩), ho, hT, hx, hkt⟩
set_option maxHeartbeats 4000000 in
theorem law_match {p : Program} {l : Launch} {e : Env} {R : Room} {s : State} {m : MethodId} {args : Array Value} {below : List Frame} {meth : Method} {c : Code} {cells slots : Nat} {ad : Nat → Nat} {cI cR : ClassId} {D : va_G} {A : Nat → Prop} {Z : State → Prop} {b N i : Nat} {xs : Nat → Int32} {r0 r1 r2 kt : Nat → Int32} {kp : Int32} {sh : tyS} {tb : Nat → Int32} {a : Nat} {tr : Int32 × Int32 × Int32 × Int32} {fd sa sb vw : Nat → Int32} {tk fm tt va fa : Int32} (hc : LC m_law p s m args c cI cR D A) (hz : zC m_law p R s m args c cells slots ad cI cR D A) (hX : va_X b N xs s s.heap) (hbl : b < s.heap.size) (hbA : ¬ A b) (hb : ad 4000 = b) (hN : N ≤ 3072) (hi : i + 5 < N) (hI : iOK r0 r2 kt kp sh tb a) (kk : ∀ (r0 r1 r2 kt : Nat → Int32) (kp : Int32) (sh : tyS) (tb : Nat → Int32) (a : Nat) (tr : Int32 × Int32 × Int32 × Int32) (fd sa sb vw : Nat → Int32) (tk fm tt va fa : Int32), iOK r0 r2 kt kp sh tb a → LW m_law p l e R s m args below meth c cI cR D A Z cells slots ad 1406 [.ref 4000, .ref 0, .ref 39, .int (nI i)] [] (lwW r0 r1 r2 kp sh (tb, nI a, tr) fd (mW r0 sa kt sb vw kp sh tb (nI a) tk fm tt va fa fd))) : LW m_law p l e R s m args below meth c cI cR D A Z cells slots ad 621 [.ref 4000, .ref 0, .ref 39, .int (nI i)] [] (lwW r0 r1 r2 kp sh (tb, nI a, tr) fd (mW r0 sa kt sb vw kp sh tb (nI a) tk fm tt va fa fd)) := by
  obtain ⟨⟨n, y, h⟩, ho, hT, hx, hkt⟩ := hI
  refine LW.aload_n hc (i := 1) (by decide +kernel) rfl ?_
  refine law_arg hc hz hX hbl hbA hb hN (pc := 622) (k := 1) (by decide) (by decide +kernel) (by omega) ?_
  refine law_arg hc hz hX hbl hbA hb hN (pc := 627) (k := 2) (by decide) (by decide +kernel) (by omega) ?_
  refine law_arg hc hz hX hbl hbA hb hN (pc := 632) (k := 3) (by decide) (by decide +kernel) (by omega) ?_
  refine LW.callG (M' := m_K_match) (idx := 68) (n := 3) (As := [.int (xs (i + 1)), .int (xs (i + 2)), .int (xs (i + 3))]) (b := 0) (ci := 3) (rest := []) hz eL1 (kW r0 r1 r2 kp sh (tb, nI a, tr) fd) zm_K_match (List.mem_of_getElem? (i := 405) (by decide +kernel)) (by decide) rfl (Nat.le_of_ble_eq_true rfl) ((zl_c1 rfl (zl_c1 rfl (zl_c1 rfl zl_nil)))) (by decide +kernel) (Nat.zero_le _) rfl (by decide) (by decide) rfl l1_sl rfl ?_
  refine c_K_match h (fun r1' => ?_)
  refine LW.eq rfl rfl l1_put ?_
  refine LW.aload_n hc (i := 2) (by decide +kernel) rfl ?_
  refine law_arg hc hz hX hbl hbA hb hN (pc := 641) (k := 1) (by decide) (by decide +kernel) (by omega) ?_
  refine law_arg hc hz hX hbl hbA hb hN (pc := 646) (k := 2) (by decide) (by decide +kernel) (by omega) ?_
  refine law_arg hc hz hX hbl hbA hb hN (pc := 651) (k := 3) (by decide) (by decide +kernel) (by omega) ?_
  refine LW.callG (M' := m_M_match) (idx := 71) (n := 3) (As := [.int (xs (i + 1)), .int (xs (i + 2)), .int (xs (i + 3))]) (b := 0) (ci := 4) (rest := [.int _]) hz eL2 (mW r0 sa kt sb vw kp sh tb (nI a) tk fm tt va fa fd) zm_M_match (List.mem_of_getElem? (i := 1012) (by decide +kernel)) (by decide) rfl (Nat.le_of_ble_eq_true rfl) ((zl_c1 rfl (zl_c1 rfl (zl_c1 rfl zl_nil)))) (by decide +kernel) ((show 1 + 0 ≤ 8 by decide)) rfl (by decide) (by decide) rfl l2_sl rfl ?_
  refine c_M_match h (fun sa2 sb2 vw2 tk2 fm2 tt2 va2 fa2 => ?_)
  refine LW.eq rfl rfl l2_put ?_
  refine LW.icmp_eq hc (tgt := 1406) (off := 747) (by decide +kernel) (by decide) (fun _ => ?_) (fun hx => absurd rfl hx)
  exact kk _ _ _ _ _ _ _ _ _ _ _ _ _ _ _ _ _ _ ⟨(by rw [p_Match]; exact ⟨n, y, h⟩), ho, hT, hx, hkt⟩
