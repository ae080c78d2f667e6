/-! the law: its loop -/
set_option maxHeartbeats 8000000 in
theorem law_loop {p : Program} {l : Launch} {e : Env} {R : Room} {s : State} {m : MethodId} {args : Array Value} {below : List Frame} {meth : Method} {c : Code} {cells slots : Nat} {ad : Nat → Nat} {cI cR : ClassId} {D : va_G} {A : Nat → Prop} {Z : State → Prop} {b N : Nat} {xs : Nat → Int32} (hc : LC m_law p s m args c cI cR D A) (hz : zC m_law p R s m args c cells slots ad cI cR D A) (hX : va_X b N xs s s.heap) (hbl : b < s.heap.size) (hbA : ¬ A b) (hb : ad 4000 = b) (hN : N ≤ 3072) (kend : ∀ (i : Nat) (h : List sE), LW m_law p l e R s m args below meth c cI cR D A Z cells slots ad 1412 [.ref 4000, .ref 0, .ref 39, .int (nI i)] [] h) : ∀ (d i : Nat), N ≤ i + d → i ≤ N + 6 → ∀ (r0 r1 r2 kt : Nat → Int32) (kp : Int32) (sh : tyS) (tb : Nat → Int32) (a : Nat) (tr : Int32 × Int32 × Int32 × Int32) (fd sa sb vw : Nat → Int32) (tk fm tt va fa : Int32), iOK r0 r2 kt kp sh tb a → LW m_law p l e R s m args below meth c cI cR D A Z cells slots ad 18 [.ref 4000, .ref 0, .ref 39, .int (nI i)] [] (lwW r0 r1 r2 kp sh (tb, nI a, tr) fd (mW r0 sa kt sb vw kp sh tb (nI a) tk fm tt va fa fd)) := by
  intro d
  induction d with
  | zero =>
    intro i h1 h2 r0 r1 r2 kt kp sh tb a tr fd sa sb vw tk fm tt va fa hI
    refine LW.iload_n hc (i := 3) (by decide +kernel) rfl ?_
    refine LW.aload_n hc (i := 0) (by decide +kernel) rfl ?_
    refine LW.slen hc hX hbl hbA hb (by decide +kernel) ?_
    refine LW.bipush hc (n := 6) (by decide +kernel) (LW.pI (z := nI 6) (by decide) ?_)
    refine LW.isub hc (by decide +kernel) ?_
    exact LW.icmp_gt hc (tgt := 1412) (off := 1388) (by decide +kernel) (by decide) (fun _ => kend _ _) (fun hx => absurd ((hd_lt hN (by omega)).mpr (by omega)) hx)
  | succ d ih =>
    intro i h1 h2 r0 r1 r2 kt kp sh tb a tr fd sa sb vw tk fm tt va fa hI
    refine LW.iload_n hc (i := 3) (by decide +kernel) rfl ?_
    refine LW.aload_n hc (i := 0) (by decide +kernel) rfl ?_
    refine LW.slen hc hX hbl hbA hb (by decide +kernel) ?_
    refine LW.bipush hc (n := 6) (by decide +kernel) (LW.pI (z := nI 6) (by decide) ?_)
    refine LW.isub hc (by decide +kernel) ?_
    refine LW.icmp_gt hc (tgt := 1412) (off := 1388) (by decide +kernel) (by decide) (fun _ => kend _ _) (fun hx => ?_)
    have hi : i + 5 < N := by
      have : ¬ N < i + 6 := fun q => hx ((hd_lt hN (by omega)).mpr q)
      omega
    have kk : ∀ (r0 r1 r2 kt : Nat → Int32) (kp : Int32) (sh : tyS) (tb : Nat → Int32) (a : Nat) (tr : Int32 × Int32 × Int32 × Int32) (fd sa sb vw : Nat → Int32) (tk fm tt va fa : Int32), iOK r0 r2 kt kp sh tb a → LW m_law p l e R s m args below meth c cI cR D A Z cells slots ad 1406 [.ref 4000, .ref 0, .ref 39, .int (nI i)] [] (lwW r0 r1 r2 kp sh (tb, nI a, tr) fd (mW r0 sa kt sb vw kp sh tb (nI a) tk fm tt va fa fd)) := by
      intro r0 r1 r2 kt kp sh tb a tr fd sa sb vw tk fm tt va fa hI
      refine LW.iinc hc (i := 3) (n := 6) (by decide +kernel) (by decide) rfl rfl ?_
      rw [show nI i + Int32.ofInt 6 = nI (i + 6) from nI_add i 6]
      exact LW.goto hc (tgt := 18) (off := -1391) (by decide +kernel) (by decide) (ih (i + 6) (by omega) (by omega) r0 r1 r2 kt kp sh tb a tr fd sa sb vw tk fm tt va fa hI)
    refine LW.aload_n hc (i := 0) (by decide +kernel) rfl ?_
    refine LW.iload_n hc (i := 3) (by decide +kernel) rfl ?_
    refine LW.sld hc hX hbl hbA hb (vp_in_nI (by omega) (by omega)) (by decide +kernel) ?_
    rw [nI_cl (by omega)]
    refine LW.bipush hc (n := 63) (by decide +kernel) (LW.pI (z := nI 63) (by decide) ?_)
    obtain ⟨v, hv, ev⟩ := by_63 (xs i)
    refine LW.iand hc (by decide +kernel) (LW.pI ev ?_)
    clear ev
    by_cases c0 : v = 0
    · subst c0
      exact LW.tableIn hc (dflt := 1373) (lo := 0) (hi := 40) (offs := #[179, 212, 245, 288, 331, 354, 387, 430, 453, 476, 519, 542, 565, 588, 631, 664, 697, 710, 743, 756, 789, 822, 855, 888, 911, 945, 968, 1001, 1014, 1027, 1060, 1093, 1136, 1179, 1242, 1265, 1288, 1301, 1314, 1327, 1350]) (len := 179) (off := 179) (tgt := 212) (by decide +kernel) (by decide) (by decide) (by decide) (by decide) (law_kin hc hz hX hbl hbA hb hN hi hI kk)
    by_cases c1 : v = 1
    · subst c1
      exact LW.tableIn hc (dflt := 1373) (lo := 0) (hi := 40) (offs := #[179, 212, 245, 288, 331, 354, 387, 430, 453, 476, 519, 542, 565, 588, 631, 664, 697, 710, 743, 756, 789, 822, 855, 888, 911, 945, 968, 1001, 1014, 1027, 1060, 1093, 1136, 1179, 1242, 1265, 1288, 1301, 1314, 1327, 1350]) (len := 179) (off := 212) (tgt := 245) (by decide +kernel) (by decide) (by decide) (by decide) (by decide) (law_of hc hz hX hbl hbA hb hN hi hI kk)
    by_cases c2 : v = 2
    · subst c2
      exact LW.tableIn hc (dflt := 1373) (lo := 0) (hi := 40) (offs := #[179, 212, 245, 288, 331, 354, 387, 430, 453, 476, 519, 542, 565, 588, 631, 664, 697, 710, 743, 756, 789, 822, 855, 888, 911, 945, 968, 1001, 1014, 1027, 1060, 1093, 1136, 1179, 1242, 1265, 1288, 1301, 1314, 1327, 1350]) (len := 179) (off := 245) (tgt := 278) (by decide +kernel) (by decide) (by decide) (by decide) (by decide) (law_change hc hz hX hbl hbA hb hN hi hI kk)
    by_cases c3 : v = 3
    · subst c3
      exact LW.tableIn hc (dflt := 1373) (lo := 0) (hi := 40) (offs := #[179, 212, 245, 288, 331, 354, 387, 430, 453, 476, 519, 542, 565, 588, 631, 664, 697, 710, 743, 756, 789, 822, 855, 888, 911, 945, 968, 1001, 1014, 1027, 1060, 1093, 1136, 1179, 1242, 1265, 1288, 1301, 1314, 1327, 1350]) (len := 179) (off := 288) (tgt := 321) (by decide +kernel) (by decide) (by decide) (by decide) (by decide) (law_birth hc hz hX hbl hbA hb hN hi hI kk)
    by_cases c4 : v = 4
    · subst c4
      exact LW.tableIn hc (dflt := 1373) (lo := 0) (hi := 40) (offs := #[179, 212, 245, 288, 331, 354, 387, 430, 453, 476, 519, 542, 565, 588, 631, 664, 697, 710, 743, 756, 789, 822, 855, 888, 911, 945, 968, 1001, 1014, 1027, 1060, 1093, 1136, 1179, 1242, 1265, 1288, 1301, 1314, 1327, 1350]) (len := 179) (off := 331) (tgt := 364) (by decide +kernel) (by decide) (by decide) (by decide) (by decide) (law_who hc hz hX hbl hbA hb hN hi hI kk)
    by_cases c5 : v = 5
    · subst c5
      exact LW.tableIn hc (dflt := 1373) (lo := 0) (hi := 40) (offs := #[179, 212, 245, 288, 331, 354, 387, 430, 453, 476, 519, 542, 565, 588, 631, 664, 697, 710, 743, 756, 789, 822, 855, 888, 911, 945, 968, 1001, 1014, 1027, 1060, 1093, 1136, 1179, 1242, 1265, 1288, 1301, 1314, 1327, 1350]) (len := 179) (off := 354) (tgt := 387) (by decide +kernel) (by decide) (by decide) (by decide) (by decide) (law_common hc hz hX hbl hbA hb hN hi hI kk)
    by_cases c6 : v = 6
    · subst c6
      exact LW.tableIn hc (dflt := 1373) (lo := 0) (hi := 40) (offs := #[179, 212, 245, 288, 331, 354, 387, 430, 453, 476, 519, 542, 565, 588, 631, 664, 697, 710, 743, 756, 789, 822, 855, 888, 911, 945, 968, 1001, 1014, 1027, 1060, 1093, 1136, 1179, 1242, 1265, 1288, 1301, 1314, 1327, 1350]) (len := 179) (off := 387) (tgt := 420) (by decide +kernel) (by decide) (by decide) (by decide) (by decide) (law_turned hc hz hX hbl hbA hb hN hi hI kk)
    by_cases c7 : v = 7
    · subst c7
      exact LW.tableIn hc (dflt := 1373) (lo := 0) (hi := 40) (offs := #[179, 212, 245, 288, 331, 354, 387, 430, 453, 476, 519, 542, 565, 588, 631, 664, 697, 710, 743, 756, 789, 822, 855, 888, 911, 945, 968, 1001, 1014, 1027, 1060, 1093, 1136, 1179, 1242, 1265, 1288, 1301, 1314, 1327, 1350]) (len := 179) (off := 430) (tgt := 463) (by decide +kernel) (by decide) (by decide) (by decide) (by decide) (law_go hc hz hX hbl hbA hb hN hi hI kk)
    by_cases c8 : v = 8
    · subst c8
      exact LW.tableIn hc (dflt := 1373) (lo := 0) (hi := 40) (offs := #[179, 212, 245, 288, 331, 354, 387, 430, 453, 476, 519, 542, 565, 588, 631, 664, 697, 710, 743, 756, 789, 822, 855, 888, 911, 945, 968, 1001, 1014, 1027, 1060, 1093, 1136, 1179, 1242, 1265, 1288, 1301, 1314, 1327, 1350]) (len := 179) (off := 453) (tgt := 486) (by decide +kernel) (by decide) (by decide) (by decide) (by decide) (law_now hc hz hX hbl hbA hb hN hi hI kk)
    by_cases c9 : v = 9
    · subst c9
      exact LW.tableIn hc (dflt := 1373) (lo := 0) (hi := 40) (offs := #[179, 212, 245, 288, 331, 354, 387, 430, 453, 476, 519, 542, 565, 588, 631, 664, 697, 710, 743, 756, 789, 822, 855, 888, 911, 945, 968, 1001, 1014, 1027, 1060, 1093, 1136, 1179, 1242, 1265, 1288, 1301, 1314, 1327, 1350]) (len := 179) (off := 476) (tgt := 509) (by decide +kernel) (by decide) (by decide) (by decide) (by decide) (law_ahead hc hz hX hbl hbA hb hN hi hI kk)
    by_cases c10 : v = 10
    · subst c10
      exact LW.tableIn hc (dflt := 1373) (lo := 0) (hi := 40) (offs := #[179, 212, 245, 288, 331, 354, 387, 430, 453, 476, 519, 542, 565, 588, 631, 664, 697, 710, 743, 756, 789, 822, 855, 888, 911, 945, 968, 1001, 1014, 1027, 1060, 1093, 1136, 1179, 1242, 1265, 1288, 1301, 1314, 1327, 1350]) (len := 179) (off := 519) (tgt := 552) (by decide +kernel) (by decide) (by decide) (by decide) (by decide) (law_known hc hz hX hbl hbA hb hN hi hI kk)
    by_cases c11 : v = 11
    · subst c11
      exact LW.tableIn hc (dflt := 1373) (lo := 0) (hi := 40) (offs := #[179, 212, 245, 288, 331, 354, 387, 430, 453, 476, 519, 542, 565, 588, 631, 664, 697, 710, 743, 756, 789, 822, 855, 888, 911, 945, 968, 1001, 1014, 1027, 1060, 1093, 1136, 1179, 1242, 1265, 1288, 1301, 1314, 1327, 1350]) (len := 179) (off := 542) (tgt := 575) (by decide +kernel) (by decide) (by decide) (by decide) (by decide) (law_when hc hz hX hbl hbA hb hN hi hI kk)
    by_cases c12 : v = 12
    · subst c12
      exact LW.tableIn hc (dflt := 1373) (lo := 0) (hi := 40) (offs := #[179, 212, 245, 288, 331, 354, 387, 430, 453, 476, 519, 542, 565, 588, 631, 664, 697, 710, 743, 756, 789, 822, 855, 888, 911, 945, 968, 1001, 1014, 1027, 1060, 1093, 1136, 1179, 1242, 1265, 1288, 1301, 1314, 1327, 1350]) (len := 179) (off := 565) (tgt := 598) (by decide +kernel) (by decide) (by decide) (by decide) (by decide) (law_many hc hz hX hbl hbA hb hN hi hI kk)
    by_cases c13 : v = 13
    · subst c13
      exact LW.tableIn hc (dflt := 1373) (lo := 0) (hi := 40) (offs := #[179, 212, 245, 288, 331, 354, 387, 430, 453, 476, 519, 542, 565, 588, 631, 664, 697, 710, 743, 756, 789, 822, 855, 888, 911, 945, 968, 1001, 1014, 1027, 1060, 1093, 1136, 1179, 1242, 1265, 1288, 1301, 1314, 1327, 1350]) (len := 179) (off := 588) (tgt := 621) (by decide +kernel) (by decide) (by decide) (by decide) (by decide) (law_match hc hz hX hbl hbA hb hN hi hI kk)
    by_cases c14 : v = 14
    · subst c14
      exact LW.tableIn hc (dflt := 1373) (lo := 0) (hi := 40) (offs := #[179, 212, 245, 288, 331, 354, 387, 430, 453, 476, 519, 542, 565, 588, 631, 664, 697, 710, 743, 756, 789, 822, 855, 888, 911, 945, 968, 1001, 1014, 1027, 1060, 1093, 1136, 1179, 1242, 1265, 1288, 1301, 1314, 1327, 1350]) (len := 179) (off := 631) (tgt := 664) (by decide +kernel) (by decide) (by decide) (by decide) (by decide) (law_turnFor hc hz hX hbl hbA hb hN hi hI kk)
    by_cases c15 : v = 15
    · subst c15
      exact LW.tableIn hc (dflt := 1373) (lo := 0) (hi := 40) (offs := #[179, 212, 245, 288, 331, 354, 387, 430, 453, 476, 519, 542, 565, 588, 631, 664, 697, 710, 743, 756, 789, 822, 855, 888, 911, 945, 968, 1001, 1014, 1027, 1060, 1093, 1136, 1179, 1242, 1265, 1288, 1301, 1314, 1327, 1350]) (len := 179) (off := 664) (tgt := 697) (by decide +kernel) (by decide) (by decide) (by decide) (by decide) (law_kindFor hc hz hX hbl hbA hb hN hi hI kk)
    by_cases c16 : v = 16
    · subst c16
      exact LW.tableIn hc (dflt := 1373) (lo := 0) (hi := 40) (offs := #[179, 212, 245, 288, 331, 354, 387, 430, 453, 476, 519, 542, 565, 588, 631, 664, 697, 710, 743, 756, 789, 822, 855, 888, 911, 945, 968, 1001, 1014, 1027, 1060, 1093, 1136, 1179, 1242, 1265, 1288, 1301, 1314, 1327, 1350]) (len := 179) (off := 697) (tgt := 730) (by decide +kernel) (by decide) (by decide) (by decide) (by decide) (law_cover hc hz hX hbl hbA hb hN hi hI kk)
    by_cases c17 : v = 17
    · subst c17
      exact LW.tableIn hc (dflt := 1373) (lo := 0) (hi := 40) (offs := #[179, 212, 245, 288, 331, 354, 387, 430, 453, 476, 519, 542, 565, 588, 631, 664, 697, 710, 743, 756, 789, 822, 855, 888, 911, 945, 968, 1001, 1014, 1027, 1060, 1093, 1136, 1179, 1242, 1265, 1288, 1301, 1314, 1327, 1350]) (len := 179) (off := 710) (tgt := 743) (by decide +kernel) (by decide) (by decide) (by decide) (by decide) (law_hide hc hz hX hbl hbA hb hN hi hI kk)
    by_cases c18 : v = 18
    · subst c18
      exact LW.tableIn hc (dflt := 1373) (lo := 0) (hi := 40) (offs := #[179, 212, 245, 288, 331, 354, 387, 430, 453, 476, 519, 542, 565, 588, 631, 664, 697, 710, 743, 756, 789, 822, 855, 888, 911, 945, 968, 1001, 1014, 1027, 1060, 1093, 1136, 1179, 1242, 1265, 1288, 1301, 1314, 1327, 1350]) (len := 179) (off := 743) (tgt := 776) (by decide +kernel) (by decide) (by decide) (by decide) (by decide) (law_marry hc hz hX hbl hbA hb hN hi hI kk)
    by_cases c19 : v = 19
    · subst c19
      exact LW.tableIn hc (dflt := 1373) (lo := 0) (hi := 40) (offs := #[179, 212, 245, 288, 331, 354, 387, 430, 453, 476, 519, 542, 565, 588, 631, 664, 697, 710, 743, 756, 789, 822, 855, 888, 911, 945, 968, 1001, 1014, 1027, 1060, 1093, 1136, 1179, 1242, 1265, 1288, 1301, 1314, 1327, 1350]) (len := 179) (off := 756) (tgt := 789) (by decide +kernel) (by decide) (by decide) (by decide) (by decide) (law_shows hc hz hX hbl hbA hb hN hi hI kk)
    by_cases c20 : v = 20
    · subst c20
      exact LW.tableIn hc (dflt := 1373) (lo := 0) (hi := 40) (offs := #[179, 212, 245, 288, 331, 354, 387, 430, 453, 476, 519, 542, 565, 588, 631, 664, 697, 710, 743, 756, 789, 822, 855, 888, 911, 945, 968, 1001, 1014, 1027, 1060, 1093, 1136, 1179, 1242, 1265, 1288, 1301, 1314, 1327, 1350]) (len := 179) (off := 789) (tgt := 822) (by decide +kernel) (by decide) (by decide) (by decide) (by decide) (law_fits hc hz hX hbl hbA hb hN hi hI kk)
    by_cases c21 : v = 21
    · subst c21
      exact LW.tableIn hc (dflt := 1373) (lo := 0) (hi := 40) (offs := #[179, 212, 245, 288, 331, 354, 387, 430, 453, 476, 519, 542, 565, 588, 631, 664, 697, 710, 743, 756, 789, 822, 855, 888, 911, 945, 968, 1001, 1014, 1027, 1060, 1093, 1136, 1179, 1242, 1265, 1288, 1301, 1314, 1327, 1350]) (len := 179) (off := 822) (tgt := 855) (by decide +kernel) (by decide) (by decide) (by decide) (by decide) (law_kinds hc hz hX hbl hbA hb hN hi hI kk)
    by_cases c22 : v = 22
    · subst c22
      exact LW.tableIn hc (dflt := 1373) (lo := 0) (hi := 40) (offs := #[179, 212, 245, 288, 331, 354, 387, 430, 453, 476, 519, 542, 565, 588, 631, 664, 697, 710, 743, 756, 789, 822, 855, 888, 911, 945, 968, 1001, 1014, 1027, 1060, 1093, 1136, 1179, 1242, 1265, 1288, 1301, 1314, 1327, 1350]) (len := 179) (off := 855) (tgt := 888) (by decide +kernel) (by decide) (by decide) (by decide) (by decide) (law_spots hc hz hX hbl hbA hb hN hi hI kk)
    by_cases c23 : v = 23
    · subst c23
      exact LW.tableIn hc (dflt := 1373) (lo := 0) (hi := 40) (offs := #[179, 212, 245, 288, 331, 354, 387, 430, 453, 476, 519, 542, 565, 588, 631, 664, 697, 710, 743, 756, 789, 822, 855, 888, 911, 945, 968, 1001, 1014, 1027, 1060, 1093, 1136, 1179, 1242, 1265, 1288, 1301, 1314, 1327, 1350]) (len := 179) (off := 888) (tgt := 921) (by decide +kernel) (by decide) (by decide) (by decide) (by decide) (law_moles hc hz hX hbl hbA hb hN hi hI kk)
    by_cases c24 : v = 24
    · subst c24
      exact LW.tableIn hc (dflt := 1373) (lo := 0) (hi := 40) (offs := #[179, 212, 245, 288, 331, 354, 387, 430, 453, 476, 519, 542, 565, 588, 631, 664, 697, 710, 743, 756, 789, 822, 855, 888, 911, 945, 968, 1001, 1014, 1027, 1060, 1093, 1136, 1179, 1242, 1265, 1288, 1301, 1314, 1327, 1350]) (len := 179) (off := 911) (tgt := 944) (by decide +kernel) (by decide) (by decide) (by decide) (by decide) (law_odds hc hz hX hbl hbA hb hN hi hI kk)
    by_cases c25 : v = 25
    · subst c25
      exact LW.tableIn hc (dflt := 1373) (lo := 0) (hi := 40) (offs := #[179, 212, 245, 288, 331, 354, 387, 430, 453, 476, 519, 542, 565, 588, 631, 664, 697, 710, 743, 756, 789, 822, 855, 888, 911, 945, 968, 1001, 1014, 1027, 1060, 1093, 1136, 1179, 1242, 1265, 1288, 1301, 1314, 1327, 1350]) (len := 179) (off := 945) (tgt := 978) (by decide +kernel) (by decide) (by decide) (by decide) (by decide) (law_seed hc hz hX hbl hbA hb hN hi hI kk)
    by_cases c26 : v = 26
    · subst c26
      exact LW.tableIn hc (dflt := 1373) (lo := 0) (hi := 40) (offs := #[179, 212, 245, 288, 331, 354, 387, 430, 453, 476, 519, 542, 565, 588, 631, 664, 697, 710, 743, 756, 789, 822, 855, 888, 911, 945, 968, 1001, 1014, 1027, 1060, 1093, 1136, 1179, 1242, 1265, 1288, 1301, 1314, 1327, 1350]) (len := 179) (off := 968) (tgt := 1001) (by decide +kernel) (by decide) (by decide) (by decide) (by decide) (law_feed hc hz hX hbl hbA hb hN hi hI kk)
    by_cases c27 : v = 27
    · subst c27
      exact LW.tableIn hc (dflt := 1373) (lo := 0) (hi := 40) (offs := #[179, 212, 245, 288, 331, 354, 387, 430, 453, 476, 519, 542, 565, 588, 631, 664, 697, 710, 743, 756, 789, 822, 855, 888, 911, 945, 968, 1001, 1014, 1027, 1060, 1093, 1136, 1179, 1242, 1265, 1288, 1301, 1314, 1327, 1350]) (len := 179) (off := 1001) (tgt := 1034) (by decide +kernel) (by decide) (by decide) (by decide) (by decide) (law_wipe hc hz hX hbl hbA hb hN hi hI kk)
    by_cases c28 : v = 28
    · subst c28
      exact LW.tableIn hc (dflt := 1373) (lo := 0) (hi := 40) (offs := #[179, 212, 245, 288, 331, 354, 387, 430, 453, 476, 519, 542, 565, 588, 631, 664, 697, 710, 743, 756, 789, 822, 855, 888, 911, 945, 968, 1001, 1014, 1027, 1060, 1093, 1136, 1179, 1242, 1265, 1288, 1301, 1314, 1327, 1350]) (len := 179) (off := 1014) (tgt := 1047) (by decide +kernel) (by decide) (by decide) (by decide) (by decide) (law_text hc hz hX hbl hbA hb hN hi hI kk)
    by_cases c29 : v = 29
    · subst c29
      exact LW.tableIn hc (dflt := 1373) (lo := 0) (hi := 40) (offs := #[179, 212, 245, 288, 331, 354, 387, 430, 453, 476, 519, 542, 565, 588, 631, 664, 697, 710, 743, 756, 789, 822, 855, 888, 911, 945, 968, 1001, 1014, 1027, 1060, 1093, 1136, 1179, 1242, 1265, 1288, 1301, 1314, 1327, 1350]) (len := 179) (off := 1027) (tgt := 1060) (by decide +kernel) (by decide) (by decide) (by decide) (by decide) (law_hold hc hz hX hbl hbA hb hN hi hI kk)
    by_cases c30 : v = 30
    · subst c30
      exact LW.tableIn hc (dflt := 1373) (lo := 0) (hi := 40) (offs := #[179, 212, 245, 288, 331, 354, 387, 430, 453, 476, 519, 542, 565, 588, 631, 664, 697, 710, 743, 756, 789, 822, 855, 888, 911, 945, 968, 1001, 1014, 1027, 1060, 1093, 1136, 1179, 1242, 1265, 1288, 1301, 1314, 1327, 1350]) (len := 179) (off := 1060) (tgt := 1093) (by decide +kernel) (by decide) (by decide) (by decide) (by decide) (law_as hc hz hX hbl hbA hb hN hi hI kk)
    by_cases c31 : v = 31
    · subst c31
      exact LW.tableIn hc (dflt := 1373) (lo := 0) (hi := 40) (offs := #[179, 212, 245, 288, 331, 354, 387, 430, 453, 476, 519, 542, 565, 588, 631, 664, 697, 710, 743, 756, 789, 822, 855, 888, 911, 945, 968, 1001, 1014, 1027, 1060, 1093, 1136, 1179, 1242, 1265, 1288, 1301, 1314, 1327, 1350]) (len := 179) (off := 1093) (tgt := 1126) (by decide +kernel) (by decide) (by decide) (by decide) (by decide) (law_sheet hc hz hX hbl hbA hb hN hi hI kk)
    by_cases c32 : v = 32
    · subst c32
      exact LW.tableIn hc (dflt := 1373) (lo := 0) (hi := 40) (offs := #[179, 212, 245, 288, 331, 354, 387, 430, 453, 476, 519, 542, 565, 588, 631, 664, 697, 710, 743, 756, 789, 822, 855, 888, 911, 945, 968, 1001, 1014, 1027, 1060, 1093, 1136, 1179, 1242, 1265, 1288, 1301, 1314, 1327, 1350]) (len := 179) (off := 1136) (tgt := 1169) (by decide +kernel) (by decide) (by decide) (by decide) (by decide) (law_write hc hz hX hbl hbA hb hN hi hI kk)
    by_cases c33 : v = 33
    · subst c33
      exact LW.tableIn hc (dflt := 1373) (lo := 0) (hi := 40) (offs := #[179, 212, 245, 288, 331, 354, 387, 430, 453, 476, 519, 542, 565, 588, 631, 664, 697, 710, 743, 756, 789, 822, 855, 888, 911, 945, 968, 1001, 1014, 1027, 1060, 1093, 1136, 1179, 1242, 1265, 1288, 1301, 1314, 1327, 1350]) (len := 179) (off := 1179) (tgt := 1212) (by decide +kernel) (by decide) (by decide) (by decide) (by decide) (law_copy hc hz hX hbl hbA hb hN hi hI kk)
    by_cases c34 : v = 34
    · subst c34
      exact LW.tableIn hc (dflt := 1373) (lo := 0) (hi := 40) (offs := #[179, 212, 245, 288, 331, 354, 387, 430, 453, 476, 519, 542, 565, 588, 631, 664, 697, 710, 743, 756, 789, 822, 855, 888, 911, 945, 968, 1001, 1014, 1027, 1060, 1093, 1136, 1179, 1242, 1265, 1288, 1301, 1314, 1327, 1350]) (len := 179) (off := 1242) (tgt := 1275) (by decide +kernel) (by decide) (by decide) (by decide) (by decide) (law_load hc hz hX hbl hbA hb hN hi hI kk)
    by_cases c35 : v = 35
    · subst c35
      exact LW.tableIn hc (dflt := 1373) (lo := 0) (hi := 40) (offs := #[179, 212, 245, 288, 331, 354, 387, 430, 453, 476, 519, 542, 565, 588, 631, 664, 697, 710, 743, 756, 789, 822, 855, 888, 911, 945, 968, 1001, 1014, 1027, 1060, 1093, 1136, 1179, 1242, 1265, 1288, 1301, 1314, 1327, 1350]) (len := 179) (off := 1265) (tgt := 1298) (by decide +kernel) (by decide) (by decide) (by decide) (by decide) (law_judge hc hz hX hbl hbA hb hN hi hI kk)
    by_cases c36 : v = 36
    · subst c36
      exact LW.tableIn hc (dflt := 1373) (lo := 0) (hi := 40) (offs := #[179, 212, 245, 288, 331, 354, 387, 430, 453, 476, 519, 542, 565, 588, 631, 664, 697, 710, 743, 756, 789, 822, 855, 888, 911, 945, 968, 1001, 1014, 1027, 1060, 1093, 1136, 1179, 1242, 1265, 1288, 1301, 1314, 1327, 1350]) (len := 179) (off := 1288) (tgt := 1321) (by decide +kernel) (by decide) (by decide) (by decide) (by decide) (law_image hc hz hX hbl hbA hb hN hi hI kk)
    by_cases c37 : v = 37
    · subst c37
      exact LW.tableIn hc (dflt := 1373) (lo := 0) (hi := 40) (offs := #[179, 212, 245, 288, 331, 354, 387, 430, 453, 476, 519, 542, 565, 588, 631, 664, 697, 710, 743, 756, 789, 822, 855, 888, 911, 945, 968, 1001, 1014, 1027, 1060, 1093, 1136, 1179, 1242, 1265, 1288, 1301, 1314, 1327, 1350]) (len := 179) (off := 1301) (tgt := 1334) (by decide +kernel) (by decide) (by decide) (by decide) (by decide) (law_undo hc hz hX hbl hbA hb hN hi hI kk)
    by_cases c38 : v = 38
    · subst c38
      exact LW.tableIn hc (dflt := 1373) (lo := 0) (hi := 40) (offs := #[179, 212, 245, 288, 331, 354, 387, 430, 453, 476, 519, 542, 565, 588, 631, 664, 697, 710, 743, 756, 789, 822, 855, 888, 911, 945, 968, 1001, 1014, 1027, 1060, 1093, 1136, 1179, 1242, 1265, 1288, 1301, 1314, 1327, 1350]) (len := 179) (off := 1314) (tgt := 1347) (by decide +kernel) (by decide) (by decide) (by decide) (by decide) (law_tear hc hz hX hbl hbA hb hN hi hI kk)
    by_cases c39 : v = 39
    · subst c39
      exact LW.tableIn hc (dflt := 1373) (lo := 0) (hi := 40) (offs := #[179, 212, 245, 288, 331, 354, 387, 430, 453, 476, 519, 542, 565, 588, 631, 664, 697, 710, 743, 756, 789, 822, 855, 888, 911, 945, 968, 1001, 1014, 1027, 1060, 1093, 1136, 1179, 1242, 1265, 1288, 1301, 1314, 1327, 1350]) (len := 179) (off := 1327) (tgt := 1360) (by decide +kernel) (by decide) (by decide) (by decide) (by decide) (law_count hc hz hX hbl hbA hb hN hi hI kk)
    by_cases c40 : v = 40
    · subst c40
      exact LW.tableIn hc (dflt := 1373) (lo := 0) (hi := 40) (offs := #[179, 212, 245, 288, 331, 354, 387, 430, 453, 476, 519, 542, 565, 588, 631, 664, 697, 710, 743, 756, 789, 822, 855, 888, 911, 945, 968, 1001, 1014, 1027, 1060, 1093, 1136, 1179, 1242, 1265, 1288, 1301, 1314, 1327, 1350]) (len := 179) (off := 1350) (tgt := 1383) (by decide +kernel) (by decide) (by decide) (by decide) (by decide) (law_status hc hz hX hbl hbA hb hN hi hI kk)
    exact LW.tableOut hc (dflt := 1373) (lo := 0) (hi := 40) (offs := #[179, 212, 245, 288, 331, 354, 387, 430, 453, 476, 519, 542, 565, 588, 631, 664, 697, 710, 743, 756, 789, 822, 855, 888, 911, 945, 968, 1001, 1014, 1027, 1060, 1093, 1136, 1179, 1242, 1265, 1288, 1301, 1314, 1327, 1350]) (len := 179) (tgt := 1406) (by decide +kernel) (Or.inr (by rw [nI_toInt (by omega)]; omega)) (by decide) (kk r0 r1 r2 kt kp sh tb a tr fd sa sb vw tk fm tt va fa hI)
