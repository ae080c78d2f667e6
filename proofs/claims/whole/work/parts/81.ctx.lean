/-! what the law's start gives -/
section CTX
variable {s : State} {b : Nat}
theorem law_K {args : Array Value} (hts : ∀ w ∈ lw_tbl, w.before args s = true) : ∃ (D : va_G) (cI cR : ClassId), va_K D classes (zTy cI cR) s := by
  obtain ⟨c0, i0, k0⟩ := u_known (n := 5) hts lay_F (hts _ (List.mem_of_getElem? (i := 90) (by decide +kernel)))
  obtain ⟨c1, i1, k1⟩ := u_known (n := 3) hts lay_S (hts _ (List.mem_of_getElem? (i := 115) (by decide +kernel)))
  obtain ⟨c2, i2, k2⟩ := u_known (n := 6) hts lay_T (hts _ (List.mem_of_getElem? (i := 132) (by decide +kernel)))
  obtain ⟨c3, i3, k3⟩ := u_known (n := 7) hts lay_K (hts _ (List.mem_of_getElem? (i := 82) (by decide +kernel)))
  obtain ⟨c4, i4, k4⟩ := u_known (n := 17) hts lay_M (hts _ (List.mem_of_getElem? (i := 783) (by decide +kernel)))
  obtain ⟨cI, kI, compI, hI1, hI2, hI3⟩ := Cond.arrayClass_spec (hts _ w_arrI)
  obtain ⟨compR, cR, kR, hR1, hR2, hR3, hR4⟩ := mm_over (hts _ (List.mem_of_getElem? (i := 96) (by decide +kernel)))
  refine ⟨(fun c => match c with | 0 => c0 | 1 => c1 | 2 => c2 | 3 => c3 | _ => c4, fun c => match c with | 0 => i0 | 1 => i1 | 2 => i2 | 3 => i3 | _ => i4), cI, cR, fun c q hq => ?_, fun k q hq => ?_⟩
  · rcases c with _ | _ | _ | _ | _ | c
    · cases hq; exact k0
    · cases hq; exact k1
    · cases hq; exact k2
    · cases hq; exact k3
    · cases hq; exact k4
    · cases hq
  · rcases k with _ | _ | k
    · cases hq; exact ⟨fun n z => ⟨fun k h => (by cases h), kI, hI2, compI, hI3⟩, hI1⟩
    · cases hq; exact ⟨fun n z => ⟨fun k h => (by cases h), kR, hR2, compR, hR3⟩, hR4⟩
    · cases hq
def tmS (i : Nat) : Term := .string "SkinLands$Tape" (zSi.getD i 0)
abbrev fl1 : List Cond := flatC (Jvm.Cond.and given_1 narrow_1)
theorem cx_1 : ∀ i, i < 12 → Cond.exactly (tmS i) "java/lang/String" ∈ fl1 := by decide +kernel
theorem cx_2 : ∀ i, i < 12 → Cond.eq (.field (tmS i) "java/lang/String" "coder" "B") (.int 0) ∈ fl1 := by decide +kernel
theorem cx_3 : ∀ i, i < 12 → Cond.arrayOf (.field (tmS i) "java/lang/String" "value" "[B") .byte ∈ fl1 := by decide +kernel
theorem cx_4 : ∀ i, i < 12 → Cond.eq (.length (.field (tmS i) "java/lang/String" "value" "[B")) (.int (Int32.ofNat (zSl.getD i 0))) ∈ fl1 := by decide +kernel
theorem cx_5 : ∀ i, i < 12 → ∀ j, j < zSl.getD i 0 → Cond.eq (.elem (.field (tmS i) "java/lang/String" "value" "[B") (.int (Int32.ofNat j))) (.int ((zSb.getD i []).getD j 0)) ∈ fl1 := by decide +kernel
theorem cx_6 : ∀ i, i < 12 → ∀ j, j < 12 → i ≠ j → Cond.not (Cond.eq (tmS i) (tmS j)) ∈ fl1 ∨ Cond.not (Cond.eq (tmS j) (tmS i)) ∈ fl1 := by decide +kernel
theorem cx_7 : Cond.eq (.static "java/lang/String" "COMPACT_STRINGS" "Z") (.int 1) ∈ fl1 := by decide +kernel
theorem cx_8 : Cond.isRef (.static "jdk/internal/util/Preconditions" "SIOOBE_FORMATTER" "Ljava/util/function/BiFunction;") ∈ fl1 := by decide +kernel
theorem cx_9 : ∀ i, i < 12 → Cond.stringRef "SkinLands$Tape" (zSi.getD i 0) (zSt.getD i "") ∈ lw_tbl := by decide +kernel
theorem law_zK (hts : ∀ w ∈ lw_tbl, w.before #[Value.ref b] s = true) (hgv : (Jvm.Cond.and given_1 narrow_1).before #[Value.ref b] s = true) {A : Nat → Prop} (hA : ∀ a : Nat, a < s.heap.size → ¬ A a) : ∃ ad0 : Nat → Nat, ad0 4000 = b ∧ zK s ad0 A s.heap := by
  have hs := flat_of_before _ hgv
  obtain ⟨adK, adV, hS, hE⟩ := vk_Sof (N := 12) (tm := tmS) (len := zSl) (byt := zSb) (A := A) (args := #[Value.ref b]) (s := s)
    (by decide +kernel) (fun i hi => hs _ (cx_1 i hi)) (fun i hi => hs _ (cx_2 i hi)) (fun i hi => hs _ (cx_3 i hi)) (fun i hi => hs _ (cx_4 i hi)) (fun i hi j hj => hs _ (cx_5 i hi j hj)) (fun i j hi hj hij => (cx_6 i hi j hj hij).imp (hs _) (hs _)) hA
  have hC := va_Zof (v := .int 1) (hts _ (List.mem_of_getElem? (i := 598) (by decide +kernel))) (hts _ (List.mem_of_getElem? (i := 77) (by decide +kernel))) (va_eqi (hs _ cx_7)) hA
  obtain ⟨v, hv, hvr⟩ := Cond.isRef_spec (hs _ cx_8)
  have hF := va_Zof (hts _ (List.mem_of_getElem? (i := 614) (by decide +kernel))) (hts _ (List.mem_of_getElem? (i := 79) (by decide +kernel))) hv hA
  have hx : ∃ q : Nat, v = .null ∨ v = .ref q := by
    cases v <;> first | exact ⟨0, Or.inl rfl⟩ | exact ⟨_, Or.inr rfl⟩ | cases hvr
  obtain ⟨q, hq⟩ := hx
  refine ⟨fun k => if k = 4000 then b else if k = 3000 then q else if 2000 ≤ k then adV (k - 2000) else adK (k - 1000), if_pos rfl, ?_, fun i hi => ?_, hC, ?_⟩
  · have e1 : ∀ i, i < 12 → (fun k => if k = 4000 then b else if k = 3000 then q else if 2000 ≤ k then adV (k - 2000) else adK (k - 1000)) (1000 + i) = adK i := fun i hi => by
      dsimp only
      rw [if_neg (by omega), if_neg (by omega), if_neg (by omega), show 1000 + i - 1000 = i by omega]
    have e2 : ∀ i, i < 12 → (fun k => if k = 4000 then b else if k = 3000 then q else if 2000 ≤ k then adV (k - 2000) else adK (k - 1000)) (2000 + i) = adV i := fun i hi => by
      dsimp only
      rw [if_neg (by omega), if_neg (by omega), if_pos (by omega), show 2000 + i - 2000 = i by omega]
    refine ⟨fun i hi => ?_, fun i j hi hj e => ?_⟩
    · have h := hS.1 i hi
      dsimp only at e1 e2 ⊢
      rw [e1 i hi, e2 i hi]
      exact h
    · dsimp only at e1 e2 e
      rw [e1 i hi, e1 j hj] at e
      exact hS.2 i j hi hj e
  · dsimp only
    rw [if_neg (by omega), if_neg (by omega), if_neg (by omega), show 1000 + i - 1000 = i by omega]
    exact vk_R.of (hts _ (cx_9 i hi)) (hE i hi)
  · rcases hq with e | e
    · subst e; exact Or.inl hF
    · subst e; exact Or.inr hF
theorem law_AO {args : Array Value} (hts : ∀ w ∈ lw_tbl, w.before args s = true) : zAO s := ⟨hts (.arrayOver (.array .int)) (List.mem_of_getElem? (i := 96) (by decide +kernel)), va_Nw.of rfl (hts _ (List.mem_of_getElem? (i := 116) (by decide +kernel))), va_Nw.of rfl (hts _ (List.mem_of_getElem? (i := 133) (by decide +kernel)))⟩
end CTX
