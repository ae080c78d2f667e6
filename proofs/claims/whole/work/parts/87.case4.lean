/-! the law's cases -/
set_option maxHeartbeats 4000000 in
theorem law_text {p : Program} {l : Launch} {e : Env} {R : Room} {s : State} {m : MethodId} {args : Array Value} {below : List Frame} {meth : Method} {c : Code} {cells slots : Nat} {ad : Nat → Nat} {cI cR : ClassId} {D : va_G} {A : Nat → Prop} {Z : State → Prop} {b N i : Nat} {xs : Nat → Int32} {r0 r1 r2 kt : Nat → Int32} {kp : Int32} {sh : tyS} {tb : Nat → Int32} {a : Nat} {tr : Int32 × Int32 × Int32 × Int32} {fd sa sb vw : Nat → Int32} {tk fm tt va fa : Int32} (hc : LC m_law p s m args c cI cR D A) (hz : zC m_law p R s m args c cells slots ad cI cR D A) (hX : va_X b N xs s s.heap) (hbl : b < s.heap.size) (hbA : ¬ A b) (hb : ad 4000 = b) (hN : N ≤ 3072) (hi : i + 5 < N) (hI : iOK r0 r2 kt kp sh tb a) (kk : ∀ (r0 r1 r2 kt : Nat → Int32) (kp : Int32) (sh : tyS) (tb : Nat → Int32) (a : Nat) (tr : Int32 × Int32 × Int32 × Int32) (fd sa sb vw : Nat → Int32) (tk fm tt va fa : Int32), iOK r0 r2 kt kp sh tb a → LW m_law p l e R s m args below meth c cI cR D A Z cells slots ad 1406 [.ref 4000, .ref 0, .ref 39, .int (nI i)] [] (lwW r0 r1 r2 kp sh (tb, nI a, tr) fd (mW r0 sa kt sb vw kp sh tb (nI a) tk fm tt va fa fd))) : LW m_law p l e R s m args below meth c cI cR D A Z cells slots ad 1047 [.ref 4000, .ref 0, .ref 39, .int (nI i)] [] (lwW r0 r1 r2 kp sh (tb, nI a, tr) fd (mW r0 sa kt sb vw kp sh tb (nI a) tk fm tt va fa fd)) := by
  obtain ⟨⟨n, y, h⟩, ho, hT, hx, hkt⟩ := hI
  refine LW.aload_n hc (i := 1) (by decide +kernel) rfl ?_
  refine LW.callG (M' := m_K_text) (idx := 130) (n := 0) (As := []) (b := 0) (ci := 3) (rest := []) hz eL1 (kW r0 r1 r2 kp sh (tb, nI a, tr) fd) zm_K_text (List.mem_of_getElem? (i := 556) (by decide +kernel)) (by decide) rfl (Nat.le_of_ble_eq_true rfl) (zl_nil) (by decide +kernel) (Nat.zero_le _) rfl (by decide) (by decide) rfl l1_sl rfl ?_
  refine c_K_text h.1 h.2.1 hT (fun r1' tr2 => ?_)
  refine LW.eq rfl rfl l1_put ?_
  refine LW.aload_n hc (i := 2) (by decide +kernel) rfl ?_
  refine LW.callG (M' := m_M_text) (idx := 133) (n := 0) (As := []) (b := 0) (ci := 4) (rest := [.int _]) hz eL2 (mW r0 sa kt sb vw kp sh tb (nI a) tk fm tt va fa fd) zm_M_text (List.mem_of_getElem? (i := 1121) (by decide +kernel)) (by decide) rfl (Nat.le_of_ble_eq_true rfl) (zl_nil) (by decide +kernel) ((show 1 + 0 ≤ 8 by decide)) rfl (by decide) (by decide) rfl l2_sl rfl ?_
  refine c_M_text hT h.1 h.2.1 (fun sa2 sb2 vw2 tk2 fm2 tt2 va2 fa2 => ?_)
  refine LW.eq rfl rfl l2_put ?_
  refine LW.icmp_eq hc (tgt := 1406) (off := 351) (by decide +kernel) (by decide) (fun _ => ?_) (fun hx => absurd rfl hx)
  exact kk _ _ _ _ _ _ _ _ _ _ _ _ _ _ _ _ _ _ ⟨q_Text h hT.1, ho, ⟨Nat.zero_le _, fun i hi => absurd hi (Nat.not_lt_zero i)⟩, hx, hkt⟩
set_option maxHeartbeats 4000000 in
theorem law_hold {p : Program} {l : Launch} {e : Env} {R : Room} {s : State} {m : MethodId} {args : Array Value} {below : List Frame} {meth : Method} {c : Code} {cells slots : Nat} {ad : Nat → Nat} {cI cR : ClassId} {D : va_G} {A : Nat → Prop} {Z : State → Prop} {b N i : Nat} {xs : Nat → Int32} {r0 r1 r2 kt : Nat → Int32} {kp : Int32} {sh : tyS} {tb : Nat → Int32} {a : Nat} {tr : Int32 × Int32 × Int32 × Int32} {fd sa sb vw : Nat → Int32} {tk fm tt va fa : Int32} (hc : LC m_law p s m args c cI cR D A) (hz : zC m_law p R s m args c cells slots ad cI cR D A) (hX : va_X b N xs s s.heap) (hbl : b < s.heap.size) (hbA : ¬ A b) (hb : ad 4000 = b) (hN : N ≤ 3072) (hi : i + 5 < N) (hI : iOK r0 r2 kt kp sh tb a) (kk : ∀ (r0 r1 r2 kt : Nat → Int32) (kp : Int32) (sh : tyS) (tb : Nat → Int32) (a : Nat) (tr : Int32 × Int32 × Int32 × Int32) (fd sa sb vw : Nat → Int32) (tk fm tt va fa : Int32), iOK r0 r2 kt kp sh tb a → LW m_law p l e R s m args below meth c cI cR D A Z cells slots ad 1406 [.ref 4000, .ref 0, .ref 39, .int (nI i)] [] (lwW r0 r1 r2 kp sh (tb, nI a, tr) fd (mW r0 sa kt sb vw kp sh tb (nI a) tk fm tt va fa fd))) : LW m_law p l e R s m args below meth c cI cR D A Z cells slots ad 1060 [.ref 4000, .ref 0, .ref 39, .int (nI i)] [] (lwW r0 r1 r2 kp sh (tb, nI a, tr) fd (mW r0 sa kt sb vw kp sh tb (nI a) tk fm tt va fa fd)) := by
  obtain ⟨⟨n, y, h⟩, ho, hT, hx, hkt⟩ := hI
  refine LW.aload_n hc (i := 1) (by decide +kernel) rfl ?_
  refine law_arg hc hz hX hbl hbA hb hN (pc := 1061) (k := 1) (by decide) (by decide +kernel) (by omega) ?_
  refine law_arg hc hz hX hbl hbA hb hN (pc := 1066) (k := 2) (by decide) (by decide +kernel) (by omega) ?_
  refine LW.callG (M' := m_K_hold) (idx := 134) (n := 2) (As := [.int (xs (i + 1)), .int (xs (i + 2))]) (b := 0) (ci := 3) (rest := []) hz eL1 (kW r0 r1 r2 kp sh (tb, nI a, tr) fd) zm_K_hold (List.mem_of_getElem? (i := 674) (by decide +kernel)) (by decide) rfl (Nat.le_of_ble_eq_true rfl) ((zl_c1 rfl (zl_c1 rfl zl_nil))) (by decide +kernel) (Nat.zero_le _) rfl (by decide) (by decide) rfl l1_sl rfl ?_
  refine c_K_hold h (fun r1' => ?_)
  refine LW.eq rfl rfl l1_put ?_
  refine LW.aload_n hc (i := 2) (by decide +kernel) rfl ?_
  refine law_arg hc hz hX hbl hbA hb hN (pc := 1075) (k := 1) (by decide) (by decide +kernel) (by omega) ?_
  refine law_arg hc hz hX hbl hbA hb hN (pc := 1080) (k := 2) (by decide) (by decide +kernel) (by omega) ?_
  refine LW.callG (M' := m_M_hold) (idx := 137) (n := 2) (As := [.int (xs (i + 1)), .int (xs (i + 2))]) (b := 0) (ci := 4) (rest := [.int _]) hz eL2 (mW r0 sa kt sb vw kp sh tb (nI a) tk fm tt va fa fd) zm_M_hold (List.mem_of_getElem? (i := 1191) (by decide +kernel)) (by decide) rfl (Nat.le_of_ble_eq_true rfl) ((zl_c1 rfl (zl_c1 rfl zl_nil))) (by decide +kernel) ((show 1 + 0 ≤ 8 by decide)) rfl (by decide) (by decide) rfl l2_sl rfl ?_
  refine c_M_hold h (fun sa2 sb2 vw2 tk2 fm2 tt2 va2 fa2 => ?_)
  refine LW.eq rfl rfl l2_put ?_
  refine LW.icmp_eq hc (tgt := 1406) (off := 318) (by decide +kernel) (by decide) (fun _ => ?_) (fun hx => absurd rfl hx)
  exact kk _ _ _ _ _ _ _ _ _ _ _ _ _ _ _ _ _ _ ⟨q_Hold h, ho, hT, hx, hkt⟩
set_option maxHeartbeats 4000000 in
theorem law_as {p : Program} {l : Launch} {e : Env} {R : Room} {s : State} {m : MethodId} {args : Array Value} {below : List Frame} {meth : Method} {c : Code} {cells slots : Nat} {ad : Nat → Nat} {cI cR : ClassId} {D : va_G} {A : Nat → Prop} {Z : State → Prop} {b N i : Nat} {xs : Nat → Int32} {r0 r1 r2 kt : Nat → Int32} {kp : Int32} {sh : tyS} {tb : Nat → Int32} {a : Nat} {tr : Int32 × Int32 × Int32 × Int32} {fd sa sb vw : Nat → Int32} {tk fm tt va fa : Int32} (hc : LC m_law p s m args c cI cR D A) (hz : zC m_law p R s m args c cells slots ad cI cR D A) (hX : va_X b N xs s s.heap) (hbl : b < s.heap.size) (hbA : ¬ A b) (hb : ad 4000 = b) (hN : N ≤ 3072) (hi : i + 5 < N) (hI : iOK r0 r2 kt kp sh tb a) (kk : ∀ (r0 r1 r2 kt : Nat → Int32) (kp : Int32) (sh : tyS) (tb : Nat → Int32) (a : Nat) (tr : Int32 × Int32 × Int32 × Int32) (fd sa sb vw : Nat → Int32) (tk fm tt va fa : Int32), iOK r0 r2 kt kp sh tb a → LW m_law p l e R s m args below meth c cI cR D A Z cells slots ad 1406 [.ref 4000, .ref 0, .ref 39, .int (nI i)] [] (lwW r0 r1 r2 kp sh (tb, nI a, tr) fd (mW r0 sa kt sb vw kp sh tb (nI a) tk fm tt va fa fd))) : LW m_law p l e R s m args below meth c cI cR D A Z cells slots ad 1093 [.ref 4000, .ref 0, .ref 39, .int (nI i)] [] (lwW r0 r1 r2 kp sh (tb, nI a, tr) fd (mW r0 sa kt sb vw kp sh tb (nI a) tk fm tt va fa fd)) := by
  obtain ⟨⟨n, y, h⟩, ho, hT, hx, hkt⟩ := hI
  refine LW.aload_n hc (i := 1) (by decide +kernel) rfl ?_
  refine law_arg hc hz hX hbl hbA hb hN (pc := 1094) (k := 1) (by decide) (by decide +kernel) (by omega) ?_
  refine law_arg hc hz hX hbl hbA hb hN (pc := 1099) (k := 2) (by decide) (by decide +kernel) (by omega) ?_
  refine LW.callG (M' := m_K_as) (idx := 138) (n := 2) (As := [.int (xs (i + 1)), .int (xs (i + 2))]) (b := 0) (ci := 3) (rest := []) hz eL1 (kW r0 r1 r2 kp sh (tb, nI a, tr) fd) zm_K_as (List.mem_of_getElem? (i := 686) (by decide +kernel)) (by decide) rfl (Nat.le_of_ble_eq_true rfl) ((zl_c1 rfl (zl_c1 rfl zl_nil))) (by decide +kernel) (Nat.zero_le _) rfl (by decide) (by decide) rfl l1_sl rfl ?_
  refine c_K_as h (fun r1' => ?_)
  refine LW.eq rfl rfl l1_put ?_
  refine LW.aload_n hc (i := 2) (by decide +kernel) rfl ?_
  refine law_arg hc hz hX hbl hbA hb hN (pc := 1108) (k := 1) (by decide) (by decide +kernel) (by omega) ?_
  refine law_arg hc hz hX hbl hbA hb hN (pc := 1113) (k := 2) (by decide) (by decide +kernel) (by omega) ?_
  refine LW.callG (M' := m_M_as) (idx := 141) (n := 2) (As := [.int (xs (i + 1)), .int (xs (i + 2))]) (b := 0) (ci := 4) (rest := [.int _]) hz eL2 (mW r0 sa kt sb vw kp sh tb (nI a) tk fm tt va fa fd) zm_M_as (List.mem_of_getElem? (i := 1196) (by decide +kernel)) (by decide) rfl (Nat.le_of_ble_eq_true rfl) ((zl_c1 rfl (zl_c1 rfl zl_nil))) (by decide +kernel) ((show 1 + 0 ≤ 8 by decide)) rfl (by decide) (by decide) rfl l2_sl rfl ?_
  refine c_M_as h (fun sa2 sb2 vw2 tk2 fm2 tt2 va2 fa2 => ?_)
  refine LW.eq rfl rfl l2_put ?_
  refine LW.icmp_eq hc (tgt := 1406) (off := 285) (by decide +kernel) (by decide) (fun _ => ?_) (fun hx => absurd rfl hx)
  exact kk _ _ _ _ _ _ _ _ _ _ _ _ _ _ _ _ _ _ ⟨(by rw [p_As]; exact ⟨n, y, h⟩), ho, hT, hx, hkt⟩
set_option maxHeartbeats 4000000 in
theorem law_sheet {p : Program} {l : Launch} {e : Env} {R : Room} {s : State} {m : MethodId} {args : Array Value} {below : List Frame} {meth : Method} {c : Code} {cells slots : Nat} {ad : Nat → Nat} {cI cR : ClassId} {D : va_G} {A : Nat → Prop} {Z : State → Prop} {b N i : Nat} {xs : Nat → Int32} {r0 r1 r2 kt : Nat → Int32} {kp : Int32} {sh : tyS} {tb : Nat → Int32} {a : Nat} {tr : Int32 × Int32 × Int32 × Int32} {fd sa sb vw : Nat → Int32} {tk fm tt va fa : Int32} (hc : LC m_law p s m args c cI cR D A) (hz : zC m_law p R s m args c cells slots ad cI cR D A) (hX : va_X b N xs s s.heap) (hbl : b < s.heap.size) (hbA : ¬ A b) (hb : ad 4000 = b) (hN : N ≤ 3072) (hi : i + 5 < N) (hI : iOK r0 r2 kt kp sh tb a) (kk : ∀ (r0 r1 r2 kt : Nat → Int32) (kp : Int32) (sh : tyS) (tb : Nat → Int32) (a : Nat) (tr : Int32 × Int32 × Int32 × Int32) (fd sa sb vw : Nat → Int32) (tk fm tt va fa : Int32), iOK r0 r2 kt kp sh tb a → LW m_law p l e R s m args below meth c cI cR D A Z cells slots ad 1406 [.ref 4000, .ref 0, .ref 39, .int (nI i)] [] (lwW r0 r1 r2 kp sh (tb, nI a, tr) fd (mW r0 sa kt sb vw kp sh tb (nI a) tk fm tt va fa fd))) : LW m_law p l e R s m args below meth c cI cR D A Z cells slots ad 1126 [.ref 4000, .ref 0, .ref 39, .int (nI i)] [] (lwW r0 r1 r2 kp sh (tb, nI a, tr) fd (mW r0 sa kt sb vw kp sh tb (nI a) tk fm tt va fa fd)) := by
  obtain ⟨⟨n, y, h⟩, ho, hT, hx, hkt⟩ := hI
  refine LW.aload_n hc (i := 1) (by decide +kernel) rfl ?_
  refine law_arg hc hz hX hbl hbA hb hN (pc := 1127) (k := 1) (by decide) (by decide +kernel) (by omega) ?_
  refine law_arg hc hz hX hbl hbA hb hN (pc := 1132) (k := 2) (by decide) (by decide +kernel) (by omega) ?_
  refine law_arg hc hz hX hbl hbA hb hN (pc := 1137) (k := 3) (by decide) (by decide +kernel) (by omega) ?_
  refine LW.callG (M' := m_K_sheet) (idx := 142) (n := 3) (As := [.int (xs (i + 1)), .int (xs (i + 2)), .int (xs (i + 3))]) (b := 0) (ci := 3) (rest := []) hz eL1 (kW r0 r1 r2 kp sh (tb, nI a, tr) fd) zm_K_sheet (List.mem_of_getElem? (i := 700) (by decide +kernel)) (by decide) rfl (Nat.le_of_ble_eq_true rfl) ((zl_c1 rfl (zl_c1 rfl (zl_c1 rfl zl_nil)))) (by decide +kernel) (Nat.zero_le _) rfl (by decide) (by decide) rfl l1_sl rfl ?_
  refine c_K_sheet  ?_
  unfold eQS
  refine LW.eq rfl rfl l1_put ?_
  refine LW.aload_n hc (i := 2) (by decide +kernel) rfl ?_
  refine law_arg hc hz hX hbl hbA hb hN (pc := 1146) (k := 1) (by decide) (by decide +kernel) (by omega) ?_
  refine law_arg hc hz hX hbl hbA hb hN (pc := 1151) (k := 2) (by decide) (by decide +kernel) (by omega) ?_
  refine law_arg hc hz hX hbl hbA hb hN (pc := 1156) (k := 3) (by decide) (by decide +kernel) (by omega) ?_
  refine LW.callG (M' := m_M_sheet) (idx := 145) (n := 3) (As := [.int (xs (i + 1)), .int (xs (i + 2)), .int (xs (i + 3))]) (b := 0) (ci := 4) (rest := [.int _]) hz eL2 (mW r0 sa kt sb vw kp sh tb (nI a) tk fm tt va fa fd) zm_M_sheet (List.mem_of_getElem? (i := 1204) (by decide +kernel)) (by decide) rfl (Nat.le_of_ble_eq_true rfl) ((zl_c1 rfl (zl_c1 rfl (zl_c1 rfl zl_nil)))) (by decide +kernel) ((show 1 + 0 ≤ 8 by decide)) rfl (by decide) (by decide) rfl l2_sl rfl ?_
  refine c_M_sheet  (fun sa2 sb2 vw2 tk2 fm2 tt2 va2 fa2 => ?_)
  refine LW.eq rfl rfl l2_put ?_
  refine LW.icmp_eq hc (tgt := 1406) (off := 242) (by decide +kernel) (by decide) (fun _ => ?_) (fun hx => absurd rfl hx)
  exact kk _ _ _ _ _ _ _ _ _ _ _ _ _ _ _ _ _ _ ⟨⟨n, y, h⟩, q_Sheet ho, hT, hx, hkt⟩
set_option maxHeartbeats 4000000 in
theorem law_write {p : Program} {l : Launch} {e : Env} {R : Room} {s : State} {m : MethodId} {args : Array Value} {below : List Frame} {meth : Method} {c : Code} {cells slots : Nat} {ad : Nat → Nat} {cI cR : ClassId} {D : va_G} {A : Nat → Prop} {Z : State → Prop} {b N i : Nat} {xs : Nat → Int32} {r0 r1 r2 kt : Nat → Int32} {kp : Int32} {sh : tyS} {tb : Nat → Int32} {a : Nat} {tr : Int32 × Int32 × Int32 × Int32} {fd sa sb vw : Nat → Int32} {tk fm tt va fa : Int32} (hc : LC m_law p s m args c cI cR D A) (hz : zC m_law p R s m args c cells slots ad cI cR D A) (hX : va_X b N xs s s.heap) (hbl : b < s.heap.size) (hbA : ¬ A b) (hb : ad 4000 = b) (hN : N ≤ 3072) (hi : i + 5 < N) (hI : iOK r0 r2 kt kp sh tb a) (kk : ∀ (r0 r1 r2 kt : Nat → Int32) (kp : Int32) (sh : tyS) (tb : Nat → Int32) (a : Nat) (tr : Int32 × Int32 × Int32 × Int32) (fd sa sb vw : Nat → Int32) (tk fm tt va fa : Int32), iOK r0 r2 kt kp sh tb a → LW m_law p l e R s m args below meth c cI cR D A Z cells slots ad 1406 [.ref 4000, .ref 0, .ref 39, .int (nI i)] [] (lwW r0 r1 r2 kp sh (tb, nI a, tr) fd (mW r0 sa kt sb vw kp sh tb (nI a) tk fm tt va fa fd))) : LW m_law p l e R s m args below meth c cI cR D A Z cells slots ad 1169 [.ref 4000, .ref 0, .ref 39, .int (nI i)] [] (lwW r0 r1 r2 kp sh (tb, nI a, tr) fd (mW r0 sa kt sb vw kp sh tb (nI a) tk fm tt va fa fd)) := by
  obtain ⟨⟨n, y, h⟩, ho, hT, hx, hkt⟩ := hI
  refine LW.aload_n hc (i := 1) (by decide +kernel) rfl ?_
  refine law_arg hc hz hX hbl hbA hb hN (pc := 1170) (k := 1) (by decide) (by decide +kernel) (by omega) ?_
  refine law_arg hc hz hX hbl hbA hb hN (pc := 1175) (k := 2) (by decide) (by decide +kernel) (by omega) ?_
  refine law_arg hc hz hX hbl hbA hb hN (pc := 1180) (k := 3) (by decide) (by decide +kernel) (by omega) ?_
  refine LW.callG (M' := m_K_write) (idx := 146) (n := 3) (As := [.int (xs (i + 1)), .int (xs (i + 2)), .int (xs (i + 3))]) (b := 0) (ci := 3) (rest := []) hz eL1 (kW r0 r1 r2 kp sh (tb, nI a, tr) fd) zm_K_write (List.mem_of_getElem? (i := 708) (by decide +kernel)) (by decide) rfl (Nat.le_of_ble_eq_true rfl) ((zl_c1 rfl (zl_c1 rfl (zl_c1 rfl zl_nil)))) (by decide +kernel) (Nat.zero_le _) rfl (by decide) (by decide) rfl l1_sl rfl ?_
  refine c_K_write ho ?_
  unfold eQS
  refine LW.eq rfl rfl l1_put ?_
  refine LW.aload_n hc (i := 2) (by decide +kernel) rfl ?_
  refine law_arg hc hz hX hbl hbA hb hN (pc := 1189) (k := 1) (by decide) (by decide +kernel) (by omega) ?_
  refine law_arg hc hz hX hbl hbA hb hN (pc := 1194) (k := 2) (by decide) (by decide +kernel) (by omega) ?_
  refine law_arg hc hz hX hbl hbA hb hN (pc := 1199) (k := 3) (by decide) (by decide +kernel) (by omega) ?_
  refine LW.callG (M' := m_M_write) (idx := 149) (n := 3) (As := [.int (xs (i + 1)), .int (xs (i + 2)), .int (xs (i + 3))]) (b := 0) (ci := 4) (rest := [.int _]) hz eL2 (mW r0 sa kt sb vw kp sh tb (nI a) tk fm tt va fa fd) zm_M_write (List.mem_of_getElem? (i := 1209) (by decide +kernel)) (by decide) rfl (Nat.le_of_ble_eq_true rfl) ((zl_c1 rfl (zl_c1 rfl (zl_c1 rfl zl_nil)))) (by decide +kernel) ((show 1 + 0 ≤ 8 by decide)) rfl (by decide) (by decide) rfl l2_sl rfl ?_
  refine c_M_write ho (fun sa2 sb2 vw2 tk2 fm2 tt2 va2 fa2 => ?_)
  refine LW.eq rfl rfl l2_put ?_
  refine LW.icmp_eq hc (tgt := 1406) (off := 199) (by decide +kernel) (by decide) (fun _ => ?_) (fun hx => absurd rfl hx)
  exact kk _ _ _ _ _ _ _ _ _ _ _ _ _ _ _ _ _ _ ⟨⟨n, y, h⟩, q_Write ho, hT, hx, hkt⟩
set_option maxHeartbeats 4000000 in
theorem law_copy {p : Program} {l : Launch} {e : Env} {R : Room} {s : State} {m : MethodId} {args : Array Value} {below : List Frame} {meth : Method} {c : Code} {cells slots : Nat} {ad : Nat → Nat} {cI cR : ClassId} {D : va_G} {A : Nat → Prop} {Z : State → Prop} {b N i : Nat} {xs : Nat → Int32} {r0 r1 r2 kt : Nat → Int32} {kp : Int32} {sh : tyS} {tb : Nat → Int32} {a : Nat} {tr : Int32 × Int32 × Int32 × Int32} {fd sa sb vw : Nat → Int32} {tk fm tt va fa : Int32} (hc : LC m_law p s m args c cI cR D A) (hz : zC m_law p R s m args c cells slots ad cI cR D A) (hX : va_X b N xs s s.heap) (hbl : b < s.heap.size) (hbA : ¬ A b) (hb : ad 4000 = b) (hN : N ≤ 3072) (hi : i + 5 < N) (hI : iOK r0 r2 kt kp sh tb a) (kk : ∀ (r0 r1 r2 kt : Nat → Int32) (kp : Int32) (sh : tyS) (tb : Nat → Int32) (a : Nat) (tr : Int32 × Int32 × Int32 × Int32) (fd sa sb vw : Nat → Int32) (tk fm tt va fa : Int32), iOK r0 r2 kt kp sh tb a → LW m_law p l e R s m args below meth c cI cR D A Z cells slots ad 1406 [.ref 4000, .ref 0, .ref 39, .int (nI i)] [] (lwW r0 r1 r2 kp sh (tb, nI a, tr) fd (mW r0 sa kt sb vw kp sh tb (nI a) tk fm tt va fa fd))) : LW m_law p l e R s m args below meth c cI cR D A Z cells slots ad 1212 [.ref 4000, .ref 0, .ref 39, .int (nI i)] [] (lwW r0 r1 r2 kp sh (tb, nI a, tr) fd (mW r0 sa kt sb vw kp sh tb (nI a) tk fm tt va fa fd)) := by
  obtain ⟨⟨n, y, h⟩, ho, hT, hx, hkt⟩ := hI
  refine LW.aload_n hc (i := 1) (by decide +kernel) rfl ?_
  refine law_arg hc hz hX hbl hbA hb hN (pc := 1213) (k := 1) (by decide) (by decide +kernel) (by omega) ?_
  refine law_arg hc hz hX hbl hbA hb hN (pc := 1218) (k := 2) (by decide) (by decide +kernel) (by omega) ?_
  refine law_arg hc hz hX hbl hbA hb hN (pc := 1223) (k := 3) (by decide) (by decide +kernel) (by omega) ?_
  refine law_arg hc hz hX hbl hbA hb hN (pc := 1228) (k := 4) (by decide) (by decide +kernel) (by omega) ?_
  refine law_arg hc hz hX hbl hbA hb hN (pc := 1233) (k := 5) (by decide) (by decide +kernel) (by omega) ?_
  refine LW.callG (M' := m_K_copy) (idx := 150) (n := 5) (As := [.int (xs (i + 1)), .int (xs (i + 2)), .int (xs (i + 3)), .int (xs (i + 4)), .int (xs (i + 5))]) (b := 0) (ci := 3) (rest := []) hz eL1 (kW r0 r1 r2 kp sh (tb, nI a, tr) fd) zm_K_copy (List.mem_of_getElem? (i := 720) (by decide +kernel)) (by decide) rfl (Nat.le_of_ble_eq_true rfl) ((zl_c1 rfl (zl_c1 rfl (zl_c1 rfl (zl_c1 rfl (zl_c1 rfl zl_nil)))))) (by decide +kernel) (Nat.zero_le _) rfl (by decide) (by decide) rfl l1_sl rfl ?_
  refine c_K_copy ho ?_
  unfold eQS
  refine LW.eq rfl rfl l1_put ?_
  refine LW.aload_n hc (i := 2) (by decide +kernel) rfl ?_
  refine law_arg hc hz hX hbl hbA hb hN (pc := 1242) (k := 1) (by decide) (by decide +kernel) (by omega) ?_
  refine law_arg hc hz hX hbl hbA hb hN (pc := 1247) (k := 2) (by decide) (by decide +kernel) (by omega) ?_
  refine law_arg hc hz hX hbl hbA hb hN (pc := 1252) (k := 3) (by decide) (by decide +kernel) (by omega) ?_
  refine law_arg hc hz hX hbl hbA hb hN (pc := 1257) (k := 4) (by decide) (by decide +kernel) (by omega) ?_
  refine law_arg hc hz hX hbl hbA hb hN (pc := 1262) (k := 5) (by decide) (by decide +kernel) (by omega) ?_
  refine LW.callG (M' := m_M_copy) (idx := 154) (n := 5) (As := [.int (xs (i + 1)), .int (xs (i + 2)), .int (xs (i + 3)), .int (xs (i + 4)), .int (xs (i + 5))]) (b := 0) (ci := 4) (rest := [.int _]) hz eL2 (mW r0 sa kt sb vw kp sh tb (nI a) tk fm tt va fa fd) zm_M_copy (List.mem_of_getElem? (i := 1213) (by decide +kernel)) (by decide) rfl (Nat.le_of_ble_eq_true rfl) ((zl_c1 rfl (zl_c1 rfl (zl_c1 rfl (zl_c1 rfl (zl_c1 rfl zl_nil)))))) (by decide +kernel) ((show 1 + 0 ≤ 8 by decide)) rfl (by decide) (by decide) rfl l2_sl rfl ?_
  refine c_M_copy ho (fun sa2 sb2 vw2 tk2 fm2 tt2 va2 fa2 => ?_)
  refine LW.eq rfl rfl l2_put ?_
  refine LW.icmp_eq hc (tgt := 1406) (off := 136) (by decide +kernel) (by decide) (fun _ => ?_) (fun hx => absurd rfl hx)
  exact kk _ _ _ _ _ _ _ _ _ _ _ _ _ _ _ _ _ _ ⟨⟨n, y, h⟩, q_Copy ho, hT, hx, hkt⟩
set_option maxHeartbeats 4000000 in
theorem law_load {p : Program} {l : Launch} {e : Env} {R : Room} {s : State} {m : MethodId} {args : Array Value} {below : List Frame} {meth : Method} {c : Code} {cells slots : Nat} {ad : Nat → Nat} {cI cR : ClassId} {D : va_G} {A : Nat → Prop} {Z : State → Prop} {b N i : Nat} {xs : Nat → Int32} {r0 r1 r2 kt : Nat → Int32} {kp : Int32} {sh : tyS} {tb : Nat → Int32} {a : Nat} {tr : Int32 × Int32 × Int32 × Int32} {fd sa sb vw : Nat → Int32} {tk fm tt va fa : Int32} (hc : LC m_law p s m args c cI cR D A) (hz : zC m_law p R s m args c cells slots ad cI cR D A) (hX : va_X b N xs s s.heap) (hbl : b < s.heap.size) (hbA : ¬ A b) (hb : ad 4000 = b) (hN : N ≤ 3072) (hi : i + 5 < N) (hI : iOK r0 r2 kt kp sh tb a) (kk : ∀ (r0 r1 r2 kt : Nat → Int32) (kp : Int32) (sh : tyS) (tb : Nat → Int32) (a : Nat) (tr : Int32 × Int32 × Int32 × Int32) (fd sa sb vw : Nat → Int32) (tk fm tt va fa : Int32), iOK r0 r2 kt kp sh tb a → LW m_law p l e R s m args below meth c cI cR D A Z cells slots ad 1406 [.ref 4000, .ref 0, .ref 39, .int (nI i)] [] (lwW r0 r1 r2 kp sh (tb, nI a, tr) fd (mW r0 sa kt sb vw kp sh tb (nI a) tk fm tt va fa fd))) : LW m_law p l e R s m args below meth c cI cR D A Z cells slots ad 1275 [.ref 4000, .ref 0, .ref 39, .int (nI i)] [] (lwW r0 r1 r2 kp sh (tb, nI a, tr) fd (mW r0 sa kt sb vw kp sh tb (nI a) tk fm tt va fa fd)) := by
  obtain ⟨⟨n, y, h⟩, ho, hT, hx, hkt⟩ := hI
  refine LW.aload_n hc (i := 1) (by decide +kernel) rfl ?_
  refine law_arg hc hz hX hbl hbA hb hN (pc := 1276) (k := 1) (by decide) (by decide +kernel) (by omega) ?_
  refine LW.callG (M' := m_K_load) (idx := 155) (n := 1) (As := [.int (xs (i + 1))]) (b := 0) (ci := 3) (rest := []) hz eL1 (kW r0 r1 r2 kp sh (tb, nI a, tr) fd) zm_K_load (List.mem_of_getElem? (i := 738) (by decide +kernel)) (by decide) rfl (Nat.le_of_ble_eq_true rfl) ((zl_c1 rfl zl_nil)) (by decide +kernel) (Nat.zero_le _) rfl (by decide) (by decide) rfl l1_sl rfl ?_
  refine c_K_load h ho (fun r1' => ?_)
  refine LW.eq rfl rfl l1_put ?_
  refine LW.aload_n hc (i := 2) (by decide +kernel) rfl ?_
  refine law_arg hc hz hX hbl hbA hb hN (pc := 1285) (k := 1) (by decide) (by decide +kernel) (by omega) ?_
  refine LW.callG (M' := m_M_load) (idx := 158) (n := 1) (As := [.int (xs (i + 1))]) (b := 0) (ci := 4) (rest := [.int _]) hz eL2 (mW r0 sa kt sb vw kp sh tb (nI a) tk fm tt va fa fd) zm_M_load (List.mem_of_getElem? (i := 1217) (by decide +kernel)) (by decide) rfl (Nat.le_of_ble_eq_true rfl) ((zl_c1 rfl zl_nil)) (by decide +kernel) ((show 1 + 0 ≤ 8 by decide)) rfl (by decide) (by decide) rfl l2_sl rfl ?_
  refine c_M_load h ho (fun sa2 sb2 vw2 tk2 fm2 tt2 va2 fa2 => ?_)
  refine LW.eq rfl rfl l2_put ?_
  refine LW.icmp_eq hc (tgt := 1406) (off := 113) (by decide +kernel) (by decide) (fun _ => ?_) (fun hx => absurd rfl hx)
  exact kk _ _ _ _ _ _ _ _ _ _ _ _ _ _ _ _ _ _ ⟨q_Load h, ho, hT, hx, hkt⟩
