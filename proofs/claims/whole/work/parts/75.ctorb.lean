theorem va_nd_of : ∀ l : List Nat, l.Nodup → va_nd l = true
  | [], _ => rfl
  | a :: l, h => by
    rw [List.nodup_cons] at h
    simp only [va_nd, Bool.and_eq_true, decide_eq_true_eq]
    exact ⟨h.1, va_nd_of l h.2⟩
theorem va_nd_range (n : Nat) : va_nd (List.range n) = true := va_nd_of _ List.nodup_range
section CB
variable {p : Program} {R : Room} {s : State} {args : Array Value} {M' : MI} {n idx mc ms : Nat} {own : String}
theorem zWords (hts : ∀ w ∈ gtbl, w.before args s = true) (g1 : Cond.code M'.1 M'.2.1 M'.2.2.1 M'.2.2.2.1 ∈ lw_tbl) : ∀ w ∈ zws M', ∀ (a' : Array Value) (U : State), s.WarmedH U.vm → w.before a' U = true := fun w hw a' U hW => by
  have hw' : w ∈ gtbl := by
    rcases List.mem_cons.mp hw with e | e
    · rw [e]; exact g_in g1 rfl
    · exact e
  exact word_at hW (good_of_word (z_good w hw')) (hts w hw')
theorem cBI (hts : ∀ w ∈ gtbl, w.before args s = true) (hM : zMb M' n) (hnm : M'.1.name = "<init>") (hret : M'.2.2.2.1 = none) (hinst : Cond.instanceMethod M'.1 ∈ lw_tbl) (hl : Cond.methodLink own idx M'.1 ∈ lw_tbl) (hR : M'.2.2.2.2 + 1 ≤ R.frames ∧ 8 + (M'.2.2.1 + 11) + 40 * M'.2.2.2.2 ≤ R.locals) :
    CallB R s args own idx M'.1 M'.2.1 M'.2.2.1 none (zws M') (zrI M' mc ms) mc ms n ∧ M'.1.name = "<init>" ∧ (Cond.instanceMethod M'.1).before args s = true := by
  obtain ⟨g1, g2, g3, g4, g5⟩ := hM
  rw [hret] at g1
  have g1' : Cond.code M'.1 M'.2.1 M'.2.2.1 M'.2.2.2.1 ∈ lw_tbl := by rw [hret]; exact g1
  have hcode : Cond.code M'.1 M'.2.1 M'.2.2.1 none ∈ zws M' := by
    unfold zws
    rw [hret]
    exact List.mem_cons_self
  refine ⟨⟨rfl, rfl, hR.1, hR.2, fun w hw a' U hW => zWords hts g1' w hw a' U hW, hcode, hts _ (g_in g1 rfl), hts _ (g_in g2 rfl), ⟨g3.1, g3.2.1⟩, fun sig h => ?_, hts _ (g_in hl rfl)⟩, hnm, hts _ (g_in hinst rfl)⟩
  have h2 := g3.2.2
  rw [h] at h2
  exact (Option.some.inj h2).symm
theorem cBN {host : String} (hts : ∀ w ∈ gtbl, w.before args s = true) (hM : zMb M' n) (hnm : M'.1.name = "<init>") (hret : M'.2.2.2.1 = none) (hinst : Cond.instanceMethod M'.1 ∈ lw_tbl) (hl : va_Nw (.methodLinkNest own idx M'.1 host) s) (hR : M'.2.2.2.2 + 1 ≤ R.frames ∧ 8 + (M'.2.2.1 + 11) + 40 * M'.2.2.2.2 ≤ R.locals) :
    va_CN R s args own idx M'.1 host M'.2.1 M'.2.2.1 none (zws M') (zrI M' mc ms) mc ms n ∧ M'.1.name = "<init>" ∧ (Cond.instanceMethod M'.1).before args s = true := by
  obtain ⟨g1, g2, g3, g4, g5⟩ := hM
  rw [hret] at g1
  have g1' : Cond.code M'.1 M'.2.1 M'.2.2.1 M'.2.2.2.1 ∈ lw_tbl := by rw [hret]; exact g1
  have hcode : Cond.code M'.1 M'.2.1 M'.2.2.1 none ∈ zws M' := by
    unfold zws
    rw [hret]
    exact List.mem_cons_self
  refine ⟨⟨⟨rfl, rfl, hR.1, hR.2, fun w hw a' U hW => zWords hts g1' w hw a' U hW, hcode⟩, hts _ (g_in g1 rfl), hts _ (g_in g2 rfl), ⟨g3.1, g3.2.1⟩, fun sig h => ?_, va_Nw.use rfl hl⟩, hnm, hts _ (g_in hinst rfl)⟩
  have h2 := g3.2.2
  rw [h] at h2
  exact (Option.some.inj h2).symm
end CB
section CMET
variable {M : MI} {ci mc ms : Nat} {fs : List Value} {hC : List sE}
theorem zPi_blind {D : va_G} {cI cR : ClassId} {h0 sz : Nat} : FrameBlind (zPi D cI cR ci fs h0 sz) := fun a U g mk q => by
  obtain ⟨q0, q1, qP, qK, qD, qO⟩ := q
  exact ⟨q0, q1, qP, va_K.moved (u := U) (U := U.calling g mk a) (Vm.Alike.refl U.vm) qK, qD, zAO_same (u := U) (U := U.calling g mk a) rfl qO⟩
theorem ctor_met (l : Launch) (hpl : plainName M.1.cls = true) (hret : M.2.2.2.1 = none) (hml : 1 ≤ M.2.2.1) (hnm : M.1.name = "<init>") (hfs : ∀ v ∈ fs, ∀ a, v ≠ .ref a)
    (run : ∀ (p : Program) (e : Env) (R : Room) (s : State) (m : MethodId) (args : Array Value) (below : List Frame) (meth : Method) (c : Code) (cI cR : ClassId) (D : va_G) (A : Nat → Prop) (ad : Nat → Nat) (Z : State → Prop), mc ≤ R.cells ∧ ms ≤ R.slots ∧ M.2.2.2.2 ≤ R.frames ∧ 40 * M.2.2.2.2 ≤ R.locals → LC M p s m args c cI cR D A → zAO s → meth.name = "<init>" →
      (∀ (ad' : Nat → Nat) (pc' : Nat) (L : List Value), decode M.2.1 pc' = .ok (.return_, 1) → ad' 0 = ad 0 → LW M p l e R s m args below meth c cI cR D A Z mc ms ad' pc' L [] hC) →
      LW M p l e R s m args below meth c cI cR D A Z 0 0 ad 0 (zent M.2.2.1 [.ref 0]) [] [.inr (.inr (ci, fs))])
    (D : va_G) (cI cR : ClassId) (h0 sz : Nat) : Met l M.1 (zws M) (zrI M mc ms) (zPi D cI cR ci fs h0 sz) (zQi D cI cR ci fs h0 sz hC) mc ms (va_A [(h0, .inr (ci, fs))] sz) := by
  refine Met.ofW (cc := M.2.1) (maxL := M.2.2.1) (ret := none) hpl (by unfold zws; rw [hret]) ?_
  intro p e s m args below meth c s₁ B hml2 hpc
  obtain ⟨rfl, hsz, hP, hK, hD0, hO⟩ := hpc
  have hx := B.exec
  have hb := B.bytes
  have hr := B.returns
  have hts := atoms_spec (ws := zws M) B.pre
  have hown : s.vm.findClass M.1.cls = some m.cls := findClass_of_methodNamed B.named
  have hin : meth.name = M.1.name := (name_of_methodNamed B.named B.method).1
  rw [hnm] at hin
  subst hsz
  have hD := hD0.self (sz := s.heap.size)
  have hl := lv_entry ([.ref h0]) (n := M.2.2.1) hml
  rw [lg_entry_eq]
  generalize (lg_sl ([.ref h0]) ++ List.replicate (M.2.2.1 - (lg_sl ([.ref h0])).length) Slot.unset).toArray = ls at hl ⊢
  have ew : zW (fun _ => h0) cI cR [.inr (.inr (ci, fs))] = [(h0, .inr (ci, fs))] := by
    have ez : zE (fun _ => h0) cI cR (.inr (.inr (ci, fs))) = .inr (ci, fs) := by
      show (Sum.inr (ci, fs.map (zA _)) : va_E) = _
      rw [zA_nr hfs]
    show [(h0, zE (fun _ => h0) cI cR (.inr (.inr (ci, fs))))] = _
    rw [ez]
  have hl2 : lv_has ls M.2.2.1 (zl (fun _ => h0) (zent M.2.2.1 [.ref 0])) := ⟨hl.1, hl.2.1, fun q hq => hl.2.2 q (zl_entry (fun _ => h0) [.ref 0] 0 _ q (fun v hv h2 => by
    rcases List.mem_cons.mp hv with e | e
    · rw [e] at h2; cases h2
    · cases e) hq)⟩
  refine run p e _ s m _ below meth c cI cR D (va_A [(h0, .inr (ci, fs))] s.heap.size) (fun _ => h0) _ ⟨Nat.le_refl _, Nat.le_refl _, Nat.le_refl _, Nat.le_refl _⟩ ⟨hx, hb, hml2, hown, fun w hw => hts w (List.mem_cons_of_mem _ hw), hK, fun q h => Or.inr h, trivial⟩ hO hin ?_ s.heap [] ls hl2 (by rw [ew]; exact hP) (by rw [ew]; exact hD) va_S.rf
  intro ad' pc' L hd had H locs ls hls hP hD hS
  exact W.vret hx hb hr (fun t ht hW => ⟨⟨ad', rfl, had, by rw [ht]; exact hP, hD⟩, hS.F ht⟩) hS.2.2 hd
end CMET
section LCALL
variable {M M' : MI} {p : Program} {l : Launch} {e : Env} {R : Room} {s : State} {m : MethodId} {args : Array Value} {below : List Frame} {meth : Method} {c : Code} {cells slots : Nat} {ad : Nat → Nat} {cI cR : ClassId} {D : va_G} {A : Nat → Prop} {Z : State → Prop}
variable {pc : Nat} {L S : List Value} {h1 : List sE}
/-- a new object's constructor: the object is the last cell -/
theorem LW.callI {idx ci mc ms : Nat} {fs : List Value} {hC : List sE} (hc : LC M p s m args c cI cR D A) (hO : zAO s) (hret : M'.2.2.2.1 = none) (hfs : ∀ v ∈ fs, ∀ a, v ≠ .ref a)
    (hM : ∀ (h0 sz : Nat), Met l M'.1 (zws M') (zrI M' mc ms) (zPi D cI cR ci fs h0 sz) (zQi D cI cR ci fs h0 sz hC) mc ms (va_A [(h0, .inr (ci, fs))] sz))
    (hcall : (CallB R s args M.1.cls idx M'.1 M'.2.1 M'.2.2.1 none (zws M') (zrI M' mc ms) mc ms 0 ∧ M'.1.name = "<init>" ∧ (Cond.instanceMethod M'.1).before args s = true) ∨ ∃ host, (va_CN R s args M.1.cls idx M'.1 host M'.2.1 M'.2.2.1 none (zws M') (zrI M' mc ms) mc ms 0 ∧ M'.1.name = "<init>" ∧ (Cond.instanceMethod M'.1).before args s = true))
    (hd : decode M.2.1 pc = .ok (.invokespecial idx, 3)) (hcat : (S.map fun v => v.category).sum ≤ 8) (hroom : cells + mc ≤ R.cells ∧ slots + ms ≤ R.slots)
    (e1 : h1.all (elt h1.length) = true) (e2 : hC.all (elt (1000 - h1.length)) = true) (e3 : h1.length + hC.length ≤ 1000) (e4 : L.all (vlx (h1.length + 1)) = true) (e5 : S.all (vlx (h1.length + 1)) = true) (hC0 : 0 < hC.length)
    (k : ∀ ad2 : Nat → Nat, LW M p l e R s m args below meth c cI cR D A Z (cells + mc) (slots + ms) (adj ad h1.length ad2) (pc + 3) L S (h1 ++ hC.map (zre (fun k => k + h1.length)))) : LW M p l e R s m args below meth c cI cR D A Z cells slots ad pc L (.ref h1.length :: S) (h1 ++ [.inr (.inr (ci, fs))]) := by
  intro H locs ls hls hP hD hS
  have hlen : (h1 ++ [(Sum.inr (Sum.inr (ci, fs)) : sE)])[h1.length]? = some (.inr (.inr (ci, fs))) := by
    rw [List.getElem?_append_right (Nat.le_refl _), Nat.sub_self]
    rfl
  have ez : zE ad cI cR (.inr (.inr (ci, fs))) = .inr (ci, fs) := by
    show (Sum.inr (ci, fs.map (zA _)) : va_E) = _
    rw [zA_nr hfs]
  have hat : (zW ad cI cR (h1 ++ [.inr (.inr (ci, fs))]))[h1.length]? = some (ad h1.length, .inr (ci, fs)) := by
    rw [zW_at hlen, ez]
  have isC : [h1.length].map (fun i => (zW ad cI cR (h1 ++ [.inr (.inr (ci, fs))]))[i]?) = [(ad h1.length, .inr (ci, fs))].map some := by
    show [(zW ad cI cR (h1 ++ [.inr (.inr (ci, fs))]))[h1.length]?] = _
    rw [hat]
    rfl
  have hPc : va_P D classes [(ad h1.length, .inr (ci, fs))] H := fun k q hq => by
    cases k with
    | zero => cases hq; exact hP h1.length _ hat
    | succ k => cases hq
  have hDc : va_D A [(ad h1.length, .inr (ci, fs))] := by
    refine ⟨fun i j x y hi hj _ => ?_, fun k q hq => ?_⟩
    · cases i with
      | zero => cases j with
        | zero => rfl
        | succ j => cases hj
      | succ i => cases hi
    · cases k with
      | zero => cases hq; exact hD.2 h1.length _ hat
      | succ k => cases hq
  have hF := va_free (wc := [(ad h1.length, .inr (ci, fs))]) hD hS hc.2.2.2.2.2.2.1 [h1.length] isC
  have hpre : PreS s H (zPi D cI cR ci fs (ad h1.length) H.size) (Value.ref (ad h1.length) :: []) := ⟨zPi_blind, fun U hU hW => ⟨rfl, by rw [hU], by rw [hU]; exact hPc, va_K.moved hW.alike hc.2.2.2.2.2.1, hDc.weaken (fun _ _ _ _ => trivial), zAO_warm hW hO⟩⟩
  have hrun : va_Run p l e R s m args below meth c H locs cells slots mc ms (F0 m pc ls ((Value.ref h1.length :: S).map (zA ad))) (S.map (zA ad)) (zQi D cI cR ci fs (ad h1.length) H.size hC (Value.ref (ad h1.length) :: []).toArray) (va_A [(ad h1.length, .inr (ci, fs))] H.size) := by
    rcases hcall with hcw | ⟨host, hcw⟩
    · exact va_runI (As := []) (n := 0) ⟨hc.1, hc.2.1, hc.2.2.1, hc.2.2.2.1, hc.2.2.2.2.1⟩ (hM (ad h1.length) H.size) hcw hpre rfl rfl hls.1 rfl (lv_room (by rw [zcats]; exact hcat)) hd hroom
    · exact va_runIN (As := []) (n := 0) ⟨hc.1, hc.2.1, hc.2.2.1, hc.2.2.2.1, hc.2.2.2.2.1⟩ (hM (ad h1.length) H.size) hcw hpre rfl rfl hls.1 rfl (lv_room (by rw [zcats]; exact hcat)) hd hroom
  refine va_callv hrun hS (fun q _ hq => hF q hq) hF (fun ad2 t H1 locs1 ht hvm hw hB hz1 hk1 hS1 => ?_)
  obtain ⟨hP1, hD1⟩ := hB
  rw [ht] at hP1
  have hlenW : (zW ad cI cR (h1 ++ [.inr (.inr (ci, fs))])).length = h1.length + 1 := by rw [zW_len, List.length_append]; rfl
  have hR : (List.range h1.length).map (fun i => (zW ad cI cR (h1 ++ [.inr (.inr (ci, fs))]))[i]?) = (zW ad cI cR h1).map some := by
    apply List.ext_getElem?
    intro i
    rw [List.getElem?_map, List.getElem?_map]
    by_cases hi : i < h1.length
    · have a1 : (h1 ++ [(Sum.inr (Sum.inr (ci, fs)) : sE)])[i]? = some h1[i] := by rw [List.getElem?_append_left hi, List.getElem?_eq_getElem hi]
      rw [List.getElem?_range hi, zW_at (List.getElem?_eq_getElem hi)]
      show some ((zW ad cI cR (h1 ++ [(Sum.inr (Sum.inr (ci, fs)) : sE)]))[i]?) = _
      rw [zW_at a1]
      rfl
    · rw [List.getElem?_eq_none (by rw [List.length_range]; omega), List.getElem?_eq_none (by rw [zW_len]; omega)]
      rfl
  have hnd : va_nd (List.range h1.length) = true := va_nd_range _
  obtain ⟨hP2, hD2⟩ := va_join (wr := zW ad cI cR h1) (w1 := zW ad2 cI cR hC) hP hD [h1.length] (List.range h1.length) isC hR hnd (fun i hi => by
    have := List.mem_range.mp hi
    simp
    omega) hk1 hF hP1 hD1
  have ee := zW_join (ad := ad) (ad2 := ad2) (cI := cI) (cR := cR) e1 e2 e3
  have same : ∀ j, j < h1.length + 1 → adj ad h1.length ad2 j = ad j := fun j hj => by
    by_cases cj : j < h1.length
    · exact adj_l cj
    · have : j = h1.length := by omega
      subst this
      have e9 := adj_r (ad := ad) (ad2 := ad2) (n := h1.length) (k := 0) (by omega)
      rw [Nat.zero_add] at e9
      rw [e9]
      exact hw
  have kk := k ad2 H1 locs1 ls (by rw [zl_samx same (fun k hk => adj_h (by omega) hk) e4]; exact hls) (by rw [ee]; exact hP2) (by rw [ee]; exact hD2) hS1
  rw [zS_samx same (fun k hk => adj_h (by omega) hk) e5] at kk
  exact kk
/-- an object made, left on the stack -/
theorem LW.mkL {pc idn idx ci mc ms n : Nat} {fs : List Value} {hC h0 h2 : List sE} (hc : LC M p s m args c cI cR D A) (hO : zAO s) (hret : M'.2.2.2.1 = none) (hfs : ∀ v ∈ fs, ∀ a, v ≠ .ref a)
    (hM : ∀ (h0 sz : Nat), Met l M'.1 (zws M') (zrI M' mc ms) (zPi D cI cR ci fs h0 sz) (zQi D cI cR ci fs h0 sz hC) mc ms (va_A [(h0, .inr (ci, fs))] sz))
    (hcall : (CallB R s args M.1.cls idx M'.1 M'.2.1 M'.2.2.1 none (zws M') (zrI M' mc ms) mc ms 0 ∧ M'.1.name = "<init>" ∧ (Cond.instanceMethod M'.1).before args s = true) ∨ ∃ host, (va_CN R s args M.1.cls idx M'.1 host M'.2.1 M'.2.2.1 none (zws M') (zrI M' mc ms) mc ms 0 ∧ M'.1.name = "<init>" ∧ (Cond.instanceMethod M'.1).before args s = true))
    (hN : zNw M.1.cls idn ci fs) (d1 : decode M.2.1 pc = .ok (.new idn, 3)) (d2 : decode M.2.1 (pc + 3) = .ok (.dup, 1)) (d3 : decode M.2.1 (pc + 3 + 1) = .ok (.invokespecial idx, 3))
    (hn : h0.length = n) (e1 : h0.all (ene n) = true) (eL1 : L.all (vne n) = true) (e2 : h0.all (elt n) = true) (e3 : hC.all (elt (1000 - n)) = true) (e4 : n + hC.length ≤ 1000) (e5 : 0 < hC.length) (eL : L.all (vlx (n + 1)) = true) (hr1 : cells + 1 + mc ≤ R.cells) (hr2 : slots + fs.length + ms ≤ R.slots)
    (hw : h0 ++ hC.map (zre (fun k => k + n)) = h2)
    (k : ∀ ad' : Nat → Nat, (∀ j, 1000 ≤ j → ad' j = ad j) → LW M p l e R s m args below meth c cI cR D A Z (cells + 1 + mc) (slots + fs.length + ms) ad' (pc + 3 + 1 + 3) L [.ref n] h2) : LW M p l e R s m args below meth c cI cR D A Z cells slots ad pc L [] h0 := by
  subst hn
  subst hw
  have a3 : ([Value.ref h0.length] : List Value).all (vlx (h0.length + 1)) = true := by simp [vlx]
  refine LW.new hc hN (by omega) (by omega) d1 e1 eL1 rfl (fun q => ?_)
  refine LW.dup hc d2 rfl ?_
  refine LW.callI (M' := M') (h1 := h0) hc hO hret hfs hM hcall d3 (show 1 + 0 ≤ 8 by decide) ⟨by omega, by omega⟩ e2 e3 e4 eL a3 e5 (fun ad2 => ?_)
  exact k _ (fun j hj => (adj_h (by omega) hj).trans (adx_o (by omega)))
end LCALL
