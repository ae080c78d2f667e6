/-! the law's cases -/
theorem lg_same {x : Int64} : lg_cmp x x = nI 0 := by
  unfold lg_cmp
  simp
  rfl
set_option maxHeartbeats 4000000 in
theorem law_kinds {p : Program} {l : Launch} {e : Env} {R : Room} {s : State} {m : MethodId} {args : Array Value} {below : List Frame} {meth : Method} {c : Code} {cells slots : Nat} {ad : Nat → Nat} {cI cR : ClassId} {D : va_G} {A : Nat → Prop} {Z : State → Prop} {b N i : Nat} {xs : Nat → Int32} {r0 r1 r2 kt : Nat → Int32} {kp : Int32} {sh : tyS} {tb : Nat → Int32} {a : Nat} {tr : Int32 × Int32 × Int32 × Int32} {fd sa sb vw : Nat → Int32} {tk fm tt va fa : Int32} (hc : LC m_law p s m args c cI cR D A) (hz : zC m_law p R s m args c cells slots ad cI cR D A) (hX : va_X b N xs s s.heap) (hbl : b < s.heap.size) (hbA : ¬ A b) (hb : ad 4000 = b) (hN : N ≤ 3072) (hi : i + 5 < N) (hI : iOK r0 r2 kt kp sh tb a) (kk : ∀ (r0 r1 r2 kt : Nat → Int32) (kp : Int32) (sh : tyS) (tb : Nat → Int32) (a : Nat) (tr : Int32 × Int32 × Int32 × Int32) (fd sa sb vw : Nat → Int32) (tk fm tt va fa : Int32), iOK r0 r2 kt kp sh tb a → LW m_law p l e R s m args below meth c cI cR D A Z cells slots ad 1406 [.ref 4000, .ref 0, .ref 39, .int (nI i)] [] (lwW r0 r1 r2 kp sh (tb, nI a, tr) fd (mW r0 sa kt sb vw kp sh tb (nI a) tk fm tt va fa fd))) : LW m_law p l e R s m args below meth c cI cR D A Z cells slots ad 855 [.ref 4000, .ref 0, .ref 39, .int (nI i)] [] (lwW r0 r1 r2 kp sh (tb, nI a, tr) fd (mW r0 sa kt sb vw kp sh tb (nI a) tk fm tt va fa fd)) := by
  obtain ⟨⟨n, y, h⟩, ho, hT, hx, hkt⟩ := hI
  refine LW.aload_n hc (i := 1) (by decide +kernel) rfl ?_
  refine law_arg hc hz hX hbl hbA hb hN (pc := 856) (k := 1) (by decide) (by decide +kernel) (by omega) ?_
  refine law_arg hc hz hX hbl hbA hb hN (pc := 861) (k := 2) (by decide) (by decide +kernel) (by omega) ?_
  refine LW.callG (M' := m_K_kinds) (idx := 101) (n := 2) (As := [.int (xs (i + 1)), .int (xs (i + 2))]) (b := 0) (ci := 3) (rest := []) hz eL1 (kW r0 r1 r2 kp sh (tb, nI a, tr) fd) zm_K_kinds (List.mem_of_getElem? (i := 495) (by decide +kernel)) (by decide) rfl (Nat.le_of_ble_eq_true rfl) ((zl_c1 rfl (zl_c1 rfl zl_nil))) (by decide +kernel) (Nat.zero_le _) rfl (by decide) (by decide) rfl l1_sl rfl ?_
  refine c_K_kinds h ho (fun r1' => ?_)
  refine LW.eq rfl rfl l1_put ?_
  refine LW.aload_n hc (i := 2) (by decide +kernel) rfl ?_
  refine law_arg hc hz hX hbl hbA hb hN (pc := 870) (k := 1) (by decide) (by decide +kernel) (by omega) ?_
  refine law_arg hc hz hX hbl hbA hb hN (pc := 875) (k := 2) (by decide) (by decide +kernel) (by omega) ?_
  refine LW.callG (M' := m_M_kinds) (idx := 104) (n := 2) (As := [.int (xs (i + 1)), .int (xs (i + 2))]) (b := 0) (ci := 4) (rest := [.int _]) hz eL2 (mW r0 sa kt sb vw kp sh tb (nI a) tk fm tt va fa fd) zm_M_kinds (List.mem_of_getElem? (i := 1084) (by decide +kernel)) (by decide) rfl (Nat.le_of_ble_eq_true rfl) ((zl_c1 rfl (zl_c1 rfl zl_nil))) (by decide +kernel) ((show 1 + 0 ≤ 8 by decide)) rfl (by decide) (by decide) rfl l2_sl rfl ?_
  refine c_M_kinds h ho (fun sa2 sb2 vw2 tk2 fm2 tt2 va2 fa2 => ?_)
  refine LW.eq rfl rfl l2_put ?_
  refine LW.icmp_eq hc (tgt := 1406) (off := 523) (by decide +kernel) (by decide) (fun _ => ?_) (fun hx => absurd rfl hx)
  exact kk _ _ _ _ _ _ _ _ _ _ _ _ _ _ _ _ _ _ ⟨(by rw [p_Told]; exact ⟨n, y, h⟩), ho, hT, hx, hkt⟩
set_option maxHeartbeats 4000000 in
theorem law_spots {p : Program} {l : Launch} {e : Env} {R : Room} {s : State} {m : MethodId} {args : Array Value} {below : List Frame} {meth : Method} {c : Code} {cells slots : Nat} {ad : Nat → Nat} {cI cR : ClassId} {D : va_G} {A : Nat → Prop} {Z : State → Prop} {b N i : Nat} {xs : Nat → Int32} {r0 r1 r2 kt : Nat → Int32} {kp : Int32} {sh : tyS} {tb : Nat → Int32} {a : Nat} {tr : Int32 × Int32 × Int32 × Int32} {fd sa sb vw : Nat → Int32} {tk fm tt va fa : Int32} (hc : LC m_law p s m args c cI cR D A) (hz : zC m_law p R s m args c cells slots ad cI cR D A) (hX : va_X b N xs s s.heap) (hbl : b < s.heap.size) (hbA : ¬ A b) (hb : ad 4000 = b) (hN : N ≤ 3072) (hi : i + 5 < N) (hI : iOK r0 r2 kt kp sh tb a) (kk : ∀ (r0 r1 r2 kt : Nat → Int32) (kp : Int32) (sh : tyS) (tb : Nat → Int32) (a : Nat) (tr : Int32 × Int32 × Int32 × Int32) (fd sa sb vw : Nat → Int32) (tk fm tt va fa : Int32), iOK r0 r2 kt kp sh tb a → LW m_law p l e R s m args below meth c cI cR D A Z cells slots ad 1406 [.ref 4000, .ref 0, .ref 39, .int (nI i)] [] (lwW r0 r1 r2 kp sh (tb, nI a, tr) fd (mW r0 sa kt sb vw kp sh tb (nI a) tk fm tt va fa fd))) : LW m_law p l e R s m args below meth c cI cR D A Z cells slots ad 888 [.ref 4000, .ref 0, .ref 39, .int (nI i)] [] (lwW r0 r1 r2 kp sh (tb, nI a, tr) fd (mW r0 sa kt sb vw kp sh tb (nI a) tk fm tt va fa fd)) := by
  obtain ⟨⟨n, y, h⟩, ho, hT, hx, hkt⟩ := hI
  refine LW.aload_n hc (i := 1) (by decide +kernel) rfl ?_
  refine law_arg hc hz hX hbl hbA hb hN (pc := 889) (k := 1) (by decide) (by decide +kernel) (by omega) ?_
  refine law_arg hc hz hX hbl hbA hb hN (pc := 894) (k := 2) (by decide) (by decide +kernel) (by omega) ?_
  refine LW.callG (M' := m_K_spots) (idx := 105) (n := 2) (As := [.int (xs (i + 1)), .int (xs (i + 2))]) (b := 0) (ci := 3) (rest := []) hz eL1 (kW r0 r1 r2 kp sh (tb, nI a, tr) fd) zm_K_spots (List.mem_of_getElem? (i := 499) (by decide +kernel)) (by decide) rfl (Nat.le_of_ble_eq_true rfl) ((zl_c1 rfl (zl_c1 rfl zl_nil))) (by decide +kernel) (Nat.zero_le _) rfl (by decide) (by decide) rfl l1_sl rfl ?_
  refine c_K_spots h ho (fun r1' => ?_)
  refine LW.eq rfl rfl l1_put ?_
  refine LW.aload_n hc (i := 2) (by decide +kernel) rfl ?_
  refine law_arg hc hz hX hbl hbA hb hN (pc := 903) (k := 1) (by decide) (by decide +kernel) (by omega) ?_
  refine law_arg hc hz hX hbl hbA hb hN (pc := 908) (k := 2) (by decide) (by decide +kernel) (by omega) ?_
  refine LW.callG (M' := m_M_spots) (idx := 108) (n := 2) (As := [.int (xs (i + 1)), .int (xs (i + 2))]) (b := 0) (ci := 4) (rest := [.int _]) hz eL2 (mW r0 sa kt sb vw kp sh tb (nI a) tk fm tt va fa fd) zm_M_spots (List.mem_of_getElem? (i := 1088) (by decide +kernel)) (by decide) rfl (Nat.le_of_ble_eq_true rfl) ((zl_c1 rfl (zl_c1 rfl zl_nil))) (by decide +kernel) ((show 1 + 0 ≤ 8 by decide)) rfl (by decide) (by decide) rfl l2_sl rfl ?_
  refine c_M_spots h ho (fun sa2 sb2 vw2 tk2 fm2 tt2 va2 fa2 => ?_)
  refine LW.eq rfl rfl l2_put ?_
  refine LW.icmp_eq hc (tgt := 1406) (off := 490) (by decide +kernel) (by decide) (fun _ => ?_) (fun hx => absurd rfl hx)
  exact kk _ _ _ _ _ _ _ _ _ _ _ _ _ _ _ _ _ _ ⟨(by rw [p_Spots]; exact ⟨n, y, h⟩), ho, hT, hx, hkt⟩
set_option maxHeartbeats 4000000 in
theorem law_moles {p : Program} {l : Launch} {e : Env} {R : Room} {s : State} {m : MethodId} {args : Array Value} {below : List Frame} {meth : Method} {c : Code} {cells slots : Nat} {ad : Nat → Nat} {cI cR : ClassId} {D : va_G} {A : Nat → Prop} {Z : State → Prop} {b N i : Nat} {xs : Nat → Int32} {r0 r1 r2 kt : Nat → Int32} {kp : Int32} {sh : tyS} {tb : Nat → Int32} {a : Nat} {tr : Int32 × Int32 × Int32 × Int32} {fd sa sb vw : Nat → Int32} {tk fm tt va fa : Int32} (hc : LC m_law p s m args c cI cR D A) (hz : zC m_law p R s m args c cells slots ad cI cR D A) (hX : va_X b N xs s s.heap) (hbl : b < s.heap.size) (hbA : ¬ A b) (hb : ad 4000 = b) (hN : N ≤ 3072) (hi : i + 5 < N) (hI : iOK r0 r2 kt kp sh tb a) (kk : ∀ (r0 r1 r2 kt : Nat → Int32) (kp : Int32) (sh : tyS) (tb : Nat → Int32) (a : Nat) (tr : Int32 × Int32 × Int32 × Int32) (fd sa sb vw : Nat → Int32) (tk fm tt va fa : Int32), iOK r0 r2 kt kp sh tb a → LW m_law p l e R s m args below meth c cI cR D A Z cells slots ad 1406 [.ref 4000, .ref 0, .ref 39, .int (nI i)] [] (lwW r0 r1 r2 kp sh (tb, nI a, tr) fd (mW r0 sa kt sb vw kp sh tb (nI a) tk fm tt va fa fd))) : LW m_law p l e R s m args below meth c cI cR D A Z cells slots ad 921 [.ref 4000, .ref 0, .ref 39, .int (nI i)] [] (lwW r0 r1 r2 kp sh (tb, nI a, tr) fd (mW r0 sa kt sb vw kp sh tb (nI a) tk fm tt va fa fd)) := by
  obtain ⟨⟨n, y, h⟩, ho, hT, hx, hkt⟩ := hI
  refine LW.aload_n hc (i := 1) (by decide +kernel) rfl ?_
  refine law_arg hc hz hX hbl hbA hb hN (pc := 922) (k := 1) (by decide) (by decide +kernel) (by omega) ?_
  refine LW.callG (M' := m_K_moles) (idx := 109) (n := 1) (As := [.int (xs (i + 1))]) (b := 0) (ci := 3) (rest := []) hz eL1 (kW r0 r1 r2 kp sh (tb, nI a, tr) fd) zm_K_moles (List.mem_of_getElem? (i := 507) (by decide +kernel)) (by decide) rfl (Nat.le_of_ble_eq_true rfl) ((zl_c1 rfl zl_nil)) (by decide +kernel) (Nat.zero_le _) rfl (by decide) (by decide) rfl l1_sl rfl ?_
  refine c_K_moles h (fun r1' => ?_)
  refine LW.eq rfl rfl l1_put ?_
  refine LW.aload_n hc (i := 2) (by decide +kernel) rfl ?_
  refine law_arg hc hz hX hbl hbA hb hN (pc := 931) (k := 1) (by decide) (by decide +kernel) (by omega) ?_
  refine LW.callG (M' := m_M_moles) (idx := 112) (n := 1) (As := [.int (xs (i + 1))]) (b := 0) (ci := 4) (rest := [.int _]) hz eL2 (mW r0 sa kt sb vw kp sh tb (nI a) tk fm tt va fa fd) zm_M_moles (List.mem_of_getElem? (i := 1092) (by decide +kernel)) (by decide) rfl (Nat.le_of_ble_eq_true rfl) ((zl_c1 rfl zl_nil)) (by decide +kernel) ((show 1 + 0 ≤ 8 by decide)) rfl (by decide) (by decide) rfl l2_sl rfl ?_
  refine c_M_moles h (fun sa2 sb2 vw2 tk2 fm2 tt2 va2 fa2 => ?_)
  refine LW.eq rfl rfl l2_put ?_
  refine LW.icmp_eq hc (tgt := 1406) (off := 467) (by decide +kernel) (by decide) (fun _ => ?_) (fun hx => absurd rfl hx)
  exact kk _ _ _ _ _ _ _ _ _ _ _ _ _ _ _ _ _ _ ⟨q_Moles h, ho, hT, hx, hkt⟩
set_option maxHeartbeats 4000000 in
theorem law_odds {p : Program} {l : Launch} {e : Env} {R : Room} {s : State} {m : MethodId} {args : Array Value} {below : List Frame} {meth : Method} {c : Code} {cells slots : Nat} {ad : Nat → Nat} {cI cR : ClassId} {D : va_G} {A : Nat → Prop} {Z : State → Prop} {b N i : Nat} {xs : Nat → Int32} {r0 r1 r2 kt : Nat → Int32} {kp : Int32} {sh : tyS} {tb : Nat → Int32} {a : Nat} {tr : Int32 × Int32 × Int32 × Int32} {fd sa sb vw : Nat → Int32} {tk fm tt va fa : Int32} (hc : LC m_law p s m args c cI cR D A) (hz : zC m_law p R s m args c cells slots ad cI cR D A) (hX : va_X b N xs s s.heap) (hbl : b < s.heap.size) (hbA : ¬ A b) (hb : ad 4000 = b) (hN : N ≤ 3072) (hi : i + 5 < N) (hI : iOK r0 r2 kt kp sh tb a) (kk : ∀ (r0 r1 r2 kt : Nat → Int32) (kp : Int32) (sh : tyS) (tb : Nat → Int32) (a : Nat) (tr : Int32 × Int32 × Int32 × Int32) (fd sa sb vw : Nat → Int32) (tk fm tt va fa : Int32), iOK r0 r2 kt kp sh tb a → LW m_law p l e R s m args below meth c cI cR D A Z cells slots ad 1406 [.ref 4000, .ref 0, .ref 39, .int (nI i)] [] (lwW r0 r1 r2 kp sh (tb, nI a, tr) fd (mW r0 sa kt sb vw kp sh tb (nI a) tk fm tt va fa fd))) : LW m_law p l e R s m args below meth c cI cR D A Z cells slots ad 944 [.ref 4000, .ref 0, .ref 39, .int (nI i)] [] (lwW r0 r1 r2 kp sh (tb, nI a, tr) fd (mW r0 sa kt sb vw kp sh tb (nI a) tk fm tt va fa fd)) := by
  obtain ⟨⟨n, y, h⟩, ho, hT, hx, hkt⟩ := hI
  refine LW.aload_n hc (i := 1) (by decide +kernel) rfl ?_
  refine law_arg hc hz hX hbl hbA hb hN (pc := 945) (k := 1) (by decide) (by decide +kernel) (by omega) ?_
  refine law_arg hc hz hX hbl hbA hb hN (pc := 950) (k := 2) (by decide) (by decide +kernel) (by omega) ?_
  refine LW.callG (M' := m_K_odds) (idx := 113) (n := 2) (As := [.int (xs (i + 1)), .int (xs (i + 2))]) (b := 0) (ci := 3) (rest := []) hz eL1 (kW r0 r1 r2 kp sh (tb, nI a, tr) fd) zm_K_odds (List.mem_of_getElem? (i := 516) (by decide +kernel)) (by decide) rfl (Nat.le_of_ble_eq_true rfl) ((zl_c1 rfl (zl_c1 rfl zl_nil))) (by decide +kernel) (Nat.zero_le _) rfl (by decide) (by decide) rfl l1_sl rfl ?_
  refine c_K_odds h ?_
  refine LW.eq rfl rfl l1_put ?_
  refine LW.aload_n hc (i := 2) (by decide +kernel) rfl ?_
  refine law_arg hc hz hX hbl hbA hb hN (pc := 959) (k := 1) (by decide) (by decide +kernel) (by omega) ?_
  refine law_arg hc hz hX hbl hbA hb hN (pc := 964) (k := 2) (by decide) (by decide +kernel) (by omega) ?_
  refine LW.callG (M' := m_M_odds) (idx := 117) (n := 2) (As := [.int (xs (i + 1)), .int (xs (i + 2))]) (b := 0) (ci := 4) (rest := [.long _]) hz eL2 (mW r0 sa kt sb vw kp sh tb (nI a) tk fm tt va fa fd) zm_M_odds (List.mem_of_getElem? (i := 1102) (by decide +kernel)) (by decide) rfl (Nat.le_of_ble_eq_true rfl) ((zl_c1 rfl (zl_c1 rfl zl_nil))) (by decide +kernel) ((show 2 + 0 ≤ 8 by decide)) rfl (by decide) (by decide) rfl l2_sl rfl ?_
  refine c_M_odds h ?_
  refine LW.eq rfl rfl l2_put ?_
  refine LW.lcmp hc (by decide +kernel) (LW.pI (z := nI 0) lg_same ?_)
  refine LW.if_eq hc (tgt := 1406) (off := 433) (by decide +kernel) (by decide) (fun _ => ?_) (fun hx => absurd rfl hx)
  exact kk _ _ _ _ _ _ _ _ _ _ _ _ _ _ _ _ _ _ ⟨⟨n, y, h⟩, ho, hT, hx, hkt⟩
set_option maxHeartbeats 4000000 in
theorem law_seed {p : Program} {l : Launch} {e : Env} {R : Room} {s : State} {m : MethodId} {args : Array Value} {below : List Frame} {meth : Method} {c : Code} {cells slots : Nat} {ad : Nat → Nat} {cI cR : ClassId} {D : va_G} {A : Nat → Prop} {Z : State → Prop} {b N i : Nat} {xs : Nat → Int32} {r0 r1 r2 kt : Nat → Int32} {kp : Int32} {sh : tyS} {tb : Nat → Int32} {a : Nat} {tr : Int32 × Int32 × Int32 × Int32} {fd sa sb vw : Nat → Int32} {tk fm tt va fa : Int32} (hc : LC m_law p s m args c cI cR D A) (hz : zC m_law p R s m args c cells slots ad cI cR D A) (hX : va_X b N xs s s.heap) (hbl : b < s.heap.size) (hbA : ¬ A b) (hb : ad 4000 = b) (hN : N ≤ 3072) (hi : i + 5 < N) (hI : iOK r0 r2 kt kp sh tb a) (kk : ∀ (r0 r1 r2 kt : Nat → Int32) (kp : Int32) (sh : tyS) (tb : Nat → Int32) (a : Nat) (tr : Int32 × Int32 × Int32 × Int32) (fd sa sb vw : Nat → Int32) (tk fm tt va fa : Int32), iOK r0 r2 kt kp sh tb a → LW m_law p l e R s m args below meth c cI cR D A Z cells slots ad 1406 [.ref 4000, .ref 0, .ref 39, .int (nI i)] [] (lwW r0 r1 r2 kp sh (tb, nI a, tr) fd (mW r0 sa kt sb vw kp sh tb (nI a) tk fm tt va fa fd))) : LW m_law p l e R s m args below meth c cI cR D A Z cells slots ad 978 [.ref 4000, .ref 0, .ref 39, .int (nI i)] [] (lwW r0 r1 r2 kp sh (tb, nI a, tr) fd (mW r0 sa kt sb vw kp sh tb (nI a) tk fm tt va fa fd)) := by
  obtain ⟨⟨n, y, h⟩, ho, hT, hx, hkt⟩ := hI
  refine LW.aload_n hc (i := 1) (by decide +kernel) rfl ?_
  refine law_arg hc hz hX hbl hbA hb hN (pc := 979) (k := 1) (by decide) (by decide +kernel) (by omega) ?_
  refine LW.callG (M' := m_K_seed) (idx := 118) (n := 1) (As := [.int (xs (i + 1))]) (b := 0) (ci := 3) (rest := []) hz eL1 (kW r0 r1 r2 kp sh (tb, nI a, tr) fd) zm_K_seed (List.mem_of_getElem? (i := 523) (by decide +kernel)) (by decide) rfl (Nat.le_of_ble_eq_true rfl) ((zl_c1 rfl zl_nil)) (by decide +kernel) (Nat.zero_le _) rfl (by decide) (by decide) rfl l1_sl rfl ?_
  refine c_K_seed  (fun r1' => ?_)
  refine LW.eq rfl rfl l1_put ?_
  refine LW.aload_n hc (i := 2) (by decide +kernel) rfl ?_
  refine law_arg hc hz hX hbl hbA hb hN (pc := 988) (k := 1) (by decide) (by decide +kernel) (by omega) ?_
  refine LW.callG (M' := m_M_seed) (idx := 121) (n := 1) (As := [.int (xs (i + 1))]) (b := 0) (ci := 4) (rest := [.int _]) hz eL2 (mW r0 sa kt sb vw kp sh tb (nI a) tk fm tt va fa fd) zm_M_seed (List.mem_of_getElem? (i := 1108) (by decide +kernel)) (by decide) rfl (Nat.le_of_ble_eq_true rfl) ((zl_c1 rfl zl_nil)) (by decide +kernel) ((show 1 + 0 ≤ 8 by decide)) rfl (by decide) (by decide) rfl l2_sl rfl ?_
  refine c_M_seed  (fun sa2 sb2 vw2 tk2 fm2 tt2 va2 fa2 => ?_)
  refine LW.eq rfl rfl l2_put ?_
  refine LW.icmp_eq hc (tgt := 1406) (off := 410) (by decide +kernel) (by decide) (fun _ => ?_) (fun hx => absurd rfl hx)
  exact kk _ _ _ _ _ _ _ _ _ _ _ _ _ _ _ _ _ _ ⟨q_Seed h, ho, hT, hx, hkt⟩
set_option maxHeartbeats 4000000 in
theorem law_feed {p : Program} {l : Launch} {e : Env} {R : Room} {s : State} {m : MethodId} {args : Array Value} {below : List Frame} {meth : Method} {c : Code} {cells slots : Nat} {ad : Nat → Nat} {cI cR : ClassId} {D : va_G} {A : Nat → Prop} {Z : State → Prop} {b N i : Nat} {xs : Nat → Int32} {r0 r1 r2 kt : Nat → Int32} {kp : Int32} {sh : tyS} {tb : Nat → Int32} {a : Nat} {tr : Int32 × Int32 × Int32 × Int32} {fd sa sb vw : Nat → Int32} {tk fm tt va fa : Int32} (hc : LC m_law p s m args c cI cR D A) (hz : zC m_law p R s m args c cells slots ad cI cR D A) (hX : va_X b N xs s s.heap) (hbl : b < s.heap.size) (hbA : ¬ A b) (hb : ad 4000 = b) (hN : N ≤ 3072) (hi : i + 5 < N) (hI : iOK r0 r2 kt kp sh tb a) (kk : ∀ (r0 r1 r2 kt : Nat → Int32) (kp : Int32) (sh : tyS) (tb : Nat → Int32) (a : Nat) (tr : Int32 × Int32 × Int32 × Int32) (fd sa sb vw : Nat → Int32) (tk fm tt va fa : Int32), iOK r0 r2 kt kp sh tb a → LW m_law p l e R s m args below meth c cI cR D A Z cells slots ad 1406 [.ref 4000, .ref 0, .ref 39, .int (nI i)] [] (lwW r0 r1 r2 kp sh (tb, nI a, tr) fd (mW r0 sa kt sb vw kp sh tb (nI a) tk fm tt va fa fd))) : LW m_law p l e R s m args below meth c cI cR D A Z cells slots ad 1001 [.ref 4000, .ref 0, .ref 39, .int (nI i)] [] (lwW r0 r1 r2 kp sh (tb, nI a, tr) fd (mW r0 sa kt sb vw kp sh tb (nI a) tk fm tt va fa fd)) := by
  obtain ⟨⟨n, y, h⟩, ho, hT, hx, hkt⟩ := hI
  obtain ⟨v, tb2, a2, fd2, hT2, hF⟩ := sFeed_ok hT fd (xs (i + 1)) (xs (i + 2))
  refine LW.aload_n hc (i := 1) (by decide +kernel) rfl ?_
  refine law_arg hc hz hX hbl hbA hb hN (pc := 1002) (k := 1) (by decide) (by decide +kernel) (by omega) ?_
  refine law_arg hc hz hX hbl hbA hb hN (pc := 1007) (k := 2) (by decide) (by decide +kernel) (by omega) ?_
  refine LW.callG (M' := m_K_feed) (idx := 122) (n := 2) (As := [.int (xs (i + 1)), .int (xs (i + 2))]) (b := 0) (ci := 3) (rest := []) hz eL1 (kW r0 r1 r2 kp sh (tb, nI a, tr) fd) zm_K_feed (List.mem_of_getElem? (i := 535) (by decide +kernel)) (by decide) rfl (Nat.le_of_ble_eq_true rfl) ((zl_c1 rfl (zl_c1 rfl zl_nil))) (by decide +kernel) (Nat.zero_le _) rfl (by decide) (by decide) rfl l1_sl rfl ?_
  refine c_K_feed rfl hT.1 ?_
  rw [hF tr]
  dsimp only
  refine LW.eq rfl rfl l1_put ?_
  refine LW.aload_n hc (i := 2) (by decide +kernel) rfl ?_
  refine law_arg hc hz hX hbl hbA hb hN (pc := 1016) (k := 1) (by decide) (by decide +kernel) (by omega) ?_
  refine law_arg hc hz hX hbl hbA hb hN (pc := 1021) (k := 2) (by decide) (by decide +kernel) (by omega) ?_
  refine LW.callG (M' := m_M_feed) (idx := 125) (n := 2) (As := [.int (xs (i + 1)), .int (xs (i + 2))]) (b := 0) (ci := 4) (rest := [.int _]) hz eL2 (mW r0 sa kt sb vw kp sh tb (nI a) tk fm tt va fa fd) zm_M_feed (List.mem_of_getElem? (i := 1112) (by decide +kernel)) (by decide) rfl (Nat.le_of_ble_eq_true rfl) ((zl_c1 rfl (zl_c1 rfl zl_nil))) (by decide +kernel) ((show 1 + 0 ≤ 8 by decide)) rfl (by decide) (by decide) rfl l2_sl rfl ?_
  refine c_M_feed hT.1 ?_
  rw [hF (0, 0, 0, 0)]
  dsimp only
  refine LW.eq rfl rfl l2_put ?_
  refine LW.icmp_eq hc (tgt := 1406) (off := 377) (by decide +kernel) (by decide) (fun _ => ?_) (fun hx => absurd rfl hx)
  exact kk _ _ _ _ _ _ _ _ _ _ _ _ _ _ _ _ _ _ ⟨⟨n, y, h⟩, ho, hT2, hx, hkt⟩
set_option maxHeartbeats 4000000 in
theorem law_wipe {p : Program} {l : Launch} {e : Env} {R : Room} {s : State} {m : MethodId} {args : Array Value} {below : List Frame} {meth : Method} {c : Code} {cells slots : Nat} {ad : Nat → Nat} {cI cR : ClassId} {D : va_G} {A : Nat → Prop} {Z : State → Prop} {b N i : Nat} {xs : Nat → Int32} {r0 r1 r2 kt : Nat → Int32} {kp : Int32} {sh : tyS} {tb : Nat → Int32} {a : Nat} {tr : Int32 × Int32 × Int32 × Int32} {fd sa sb vw : Nat → Int32} {tk fm tt va fa : Int32} (hc : LC m_law p s m args c cI cR D A) (hz : zC m_law p R s m args c cells slots ad cI cR D A) (hX : va_X b N xs s s.heap) (hbl : b < s.heap.size) (hbA : ¬ A b) (hb : ad 4000 = b) (hN : N ≤ 3072) (hi : i + 5 < N) (hI : iOK r0 r2 kt kp sh tb a) (kk : ∀ (r0 r1 r2 kt : Nat → Int32) (kp : Int32) (sh : tyS) (tb : Nat → Int32) (a : Nat) (tr : Int32 × Int32 × Int32 × Int32) (fd sa sb vw : Nat → Int32) (tk fm tt va fa : Int32), iOK r0 r2 kt kp sh tb a → LW m_law p l e R s m args below meth c cI cR D A Z cells slots ad 1406 [.ref 4000, .ref 0, .ref 39, .int (nI i)] [] (lwW r0 r1 r2 kp sh (tb, nI a, tr) fd (mW r0 sa kt sb vw kp sh tb (nI a) tk fm tt va fa fd))) : LW m_law p l e R s m args below meth c cI cR D A Z cells slots ad 1034 [.ref 4000, .ref 0, .ref 39, .int (nI i)] [] (lwW r0 r1 r2 kp sh (tb, nI a, tr) fd (mW r0 sa kt sb vw kp sh tb (nI a) tk fm tt va fa fd)) := by
  obtain ⟨⟨n, y, h⟩, ho, hT, hx, hkt⟩ := hI
  refine LW.aload_n hc (i := 1) (by decide +kernel) rfl ?_
  refine LW.callG (M' := m_K_wipe) (idx := 126) (n := 0) (As := []) (b := 0) (ci := 3) (rest := []) hz eL1 (kW r0 r1 r2 kp sh (tb, nI a, tr) fd) zm_K_wipe (List.mem_of_getElem? (i := 548) (by decide +kernel)) (by decide) rfl (Nat.le_of_ble_eq_true rfl) (zl_nil) (by decide +kernel) (Nat.zero_le _) rfl (by decide) (by decide) rfl l1_sl rfl ?_
  refine c_K_wipe  ?_
  refine LW.eq rfl rfl l1_put ?_
  refine LW.aload_n hc (i := 2) (by decide +kernel) rfl ?_
  refine LW.callG (M' := m_M_wipe) (idx := 129) (n := 0) (As := []) (b := 0) (ci := 4) (rest := [.int _]) hz eL2 (mW r0 sa kt sb vw kp sh tb (nI a) tk fm tt va fa fd) zm_M_wipe (List.mem_of_getElem? (i := 1117) (by decide +kernel)) (by decide) rfl (Nat.le_of_ble_eq_true rfl) (zl_nil) (by decide +kernel) ((show 1 + 0 ≤ 8 by decide)) rfl (by decide) (by decide) rfl l2_sl rfl ?_
  refine c_M_wipe  ?_
  refine LW.eq rfl rfl l2_put ?_
  refine LW.icmp_eq hc (tgt := 1406) (off := 364) (by decide +kernel) (by decide) (fun _ => ?_) (fun hx => absurd rfl hx)
  exact kk _ _ _ _ _ _ _ _ _ _ _ _ _ _ _ _ _ _ ⟨⟨n, y, h⟩, ho, ⟨Nat.zero_le _, fun i hi => absurd hi (Nat.not_lt_zero i)⟩, hx, hkt⟩
