/-! the law: its own rules, its world -/
abbrev m_law : MI := (x, code, 4, ret, 10)
section LWL
variable {M M' : MI} {p : Program} {l : Launch} {e : Env} {R : Room} {s : State} {m : MethodId} {args : Array Value} {below : List Frame} {meth : Method} {c : Code} {cells slots : Nat} {ad : Nat → Nat} {cI cR : ClassId} {D : va_G} {A : Nat → Prop} {Z : State → Prop}
variable {pc : Nat} {L S rest As : List Value} {h : List sE} {n idx : Nat} {Q : Option Value → List sE → Prop}
theorem LW.astore_n (hc : LC M p s m args c cI cR D A) {i : Fin 4} {a : Nat} (hd : decode M.2.1 pc = .ok (.astore_n i, 1)) (hn : (i : Nat) < M.2.2.1) (hz : zok (i : Nat) L = true) (k : LW M p l e R s m args below meth c cI cR D A Z cells slots ad (pc + 1) (L.set (i : Nat) (.ref a)) S h) : LW M p l e R s m args below meth c cI cR D A Z cells slots ad pc L (.ref a :: S) h :=
  fun H locs ls hls hP hD hS => lv_astore_n hc.1 hc.2.1 hd rfl hls hn rfl (fun ls hls => k H locs ls (zl_store (v := .ref a) hz hls) hP hD hS)
theorem LW.sld (hc : LC M p s m args c cI cR D A) {b N : Nat} {xs : Nat → Int32} (hX : va_X b N xs s s.heap) (hbl : b < s.heap.size) (hbA : ¬ A b) (hb : ad 4000 = b) {i : Int32} (hin : vp_in i N) (hd : decode M.2.1 pc = .ok (.iaload, 1)) (k : LW M p l e R s m args below meth c cI cR D A Z cells slots ad (pc + 1) L (.int (xs i.toNatClampNeg) :: S) h) : LW M p l e R s m args below meth c cI cR D A Z cells slots ad pc L (.int i :: .ref 4000 :: S) h := fun H locs ls hls hP hD hS => by
  have k1 := va_sld hc.1 hc.2.1 hX hbl hbA hS hin hd (k H locs ls hls hP hD hS)
  show W p l e R s m args below meth c H locs cells slots Z (F0 m pc ls (.int i :: .ref (ad 4000) :: S.map (zA ad)))
  rw [hb]
  exact k1
theorem LW.slen (hc : LC M p s m args c cI cR D A) {b N : Nat} {xs : Nat → Int32} (hX : va_X b N xs s s.heap) (hbl : b < s.heap.size) (hbA : ¬ A b) (hb : ad 4000 = b) (hd : decode M.2.1 pc = .ok (.arraylength, 1)) (k : LW M p l e R s m args below meth c cI cR D A Z cells slots ad (pc + 1) L (.int (nI N) :: S) h) : LW M p l e R s m args below meth c cI cR D A Z cells slots ad pc L (.ref 4000 :: S) h := fun H locs ls hls hP hD hS => by
  have k1 := va_slen hc.1 hc.2.1 hX hbl hbA hS hd (k H locs ls hls hP hD hS)
  show W p l e R s m args below meth c H locs cells slots Z (F0 m pc ls (.ref (ad 4000) :: S.map (zA ad)))
  rw [hb]
  exact k1
theorem LW.callG {b ci : Nat} {fs : List Value} (hc : zC M p R s m args c cells slots ad cI cR D A) (emb : List Nat) (hc0 : List sE) (hM : zMv M' n) (hl : Cond.methodLink M.1.cls idx M'.1 ∈ lw_tbl) (hdep : M'.2.2.2.2 + 1 ≤ M.2.2.2.2) (hn : As.length = n) (hlen : (lg_sl (.ref b :: As)).length ≤ M'.2.2.1) (hA : ∀ v ∈ As, v.category = 2 → ∃ x, v = .long x) (hd : decode M.2.1 pc = .ok (.invokevirtual idx, 3)) (hcat : (rest.map fun v => v.category).sum ≤ 8) (hci : (classes[ci]?).map (fun r => r.1) = some M'.1.cls)
    (hnd : va_nd emb = true) (hle : emb.length ≤ 1000) (hst : S = ((.ref b :: As).map (zA (em emb))).reverse ++ rest) (hsl : emb.map (fun i => h[i]?) = hc0.map (fun e => some (zre (em emb) e))) (hb : hc0[b]? = some (.inr (.inr (ci, fs))))
    (hv : V M' 0 (zent M'.2.2.1 (.ref b :: As)) [] hc0 (fun r h' => LW M p l e R s m args below meth c cI cR D A Z cells slots ad (pc + 3) L (r.toList ++ rest) (zput emb h (h'.map (zre (em emb)))))) : LW M p l e R s m args below meth c cI cR D A Z cells slots ad pc L S h := by
  intro H locs ls hls hP hD hS
  subst hst
  have hs := zSub_em (ad := ad) (cI := cI) (cR := cR) hnd hle hsl
  obtain ⟨r0, hr0, hr1⟩ := Option.map_eq_some_iff.mp hci
  have hrecv := va_recv hc.2.2.2.2.2.1 (hs.P hP) hr0 (zW_at hb)
  rw [hr1] at hrecv
  have e1 : ∀ v : Value, zA ad (zA (em emb) v) = zA (fun k => ad (em emb k)) v := fun v => by cases v <;> rfl
  have hst : (((.ref b :: As).map (zA (em emb))).reverse ++ rest).map (zA ad) = (As.map (zA (fun k => ad (em emb k)))).reverse ++ .ref ((fun k => ad (em emb k)) b) :: rest.map (zA ad) := by
    rw [List.map_append, List.map_reverse, List.map_map, List.map_cons, List.reverse_cons, List.append_assoc]
    congr 1
    congr 1
    exact List.map_congr_left (fun v _ => e1 v)
  have hg := zGoV (l := l) (e := e) (below := below) (meth := meth) (ls := ls) hc hs hP hD hS hls.1 hM hl hdep hn hst hcat hd hrecv (by rw [zlg]; exact hlen) hA hv
  exact hg.on hS (fun q hq => hs.free hD hS hc.2.2.2.2.2.2.1 q hq) (fun r h' H1 locs1 hnr hq hlen hP1 hz hk hS1 => by
    have hl2 : (zput emb h (h'.map (zre (em emb)))).length = h.length := zput_len _ _ _
    have k := hq H1 locs1 ls hls (zput_P hnd hle hsl hP hD hlen hP1 hk) (zD_len hD hl2) hS1
    rw [ztoList (M := M) hnr] at k
    exact k)
end LWL
/-- both objects in one world -/
def eL1 : List Nat := [0, 1, 2, 3, 4, 5, 6, 7, 8, 9, 10, 11, 12, 13, 14, 15, 16, 17, 18, 19, 20, 21, 22, 23, 24, 25, 26, 27, 28, 29, 30, 31, 32, 33, 34, 35, 36, 37, 38]
def eL2 : List Nat := [39, 40, 41, 42, 43, 44, 45, 46, 47, 48, 49]
def lwW (r0 r1 r2 : Nat → Int32) (kp : Int32) (sh : tyS) (tp : tyP) (fd : Nat → Int32) (w2 : List sE) : List sE := kW r0 r1 r2 kp sh tp fd ++ w2.map (zre (fun k => k + 39))
theorem zput_pre : ∀ (x pre old suf : List sE), old.length = x.length → zput (List.range' pre.length x.length) (pre ++ old ++ suf) x = pre ++ x ++ suf
  | [], pre, old, suf, h => by
    have : old = [] := List.length_eq_zero_iff.mp h
    subst this
    rfl
  | e :: y, pre, [], suf, h => by cases h
  | e :: y, pre, o :: old, suf, h => by
    have h1 : (pre ++ (o :: old) ++ suf).set pre.length e = (pre ++ [e]) ++ old ++ suf := by
      rw [List.append_assoc, List.append_assoc, List.append_assoc, List.set_append_right _ _ (Nat.le_refl _), Nat.sub_self]
      rfl
    have h2 := zput_pre y (pre ++ [e]) old suf (Nat.succ.inj h)
    rw [List.length_append, List.length_singleton] at h2
    show zput (List.range' (pre.length + 1) y.length) ((pre ++ (o :: old) ++ suf).set pre.length e) y = _
    rw [h1, h2, List.append_assoc pre [e] y]
    rfl
section LWW
variable {r0 r1 r2 r0' r1' r2' : Nat → Int32} {kp kp' : Int32} {sh sh' : tyS} {tp tp' : tyP} {fd fd' : Nat → Int32} {w2 : List sE}
variable {s sa kt sb vw s' sa' kt' sb' vw' tb tb' : Nat → Int32} {ik ik' : Int32} {ta tk fm tt va fa ta' tk' fm' tt' va' fa' : Int32}
theorem l1_sl : eL1.map (fun i => (lwW r0 r1 r2 kp sh tp fd w2)[i]?) = (kW r0 r1 r2 kp sh tp fd).map (fun e => some (zre (em eL1) e)) := rfl
theorem l1_re : (kW r0 r1 r2 kp sh tp fd).map (zre (em eL1)) = kW r0 r1 r2 kp sh tp fd := rfl
theorem l2_re : (mW s sa kt sb vw ik sh' tb ta tk fm tt va fa fd').map (zre (em eL2)) = (mW s sa kt sb vw ik sh' tb ta tk fm tt va fa fd').map (zre (fun k => k + 39)) := rfl
theorem l1_put : zput eL1 (lwW r0 r1 r2 kp sh tp fd w2) ((kW r0' r1' r2' kp' sh' tp' fd').map (zre (em eL1))) = lwW r0' r1' r2' kp' sh' tp' fd' w2 := by
  rw [l1_re]
  exact zput_pre (kW r0' r1' r2' kp' sh' tp' fd') [] (kW r0 r1 r2 kp sh tp fd) (w2.map (zre (fun k => k + 39))) rfl
theorem l2_sl : eL2.map (fun i => (lwW r0 r1 r2 kp sh tp fd (mW s sa kt sb vw ik sh' tb ta tk fm tt va fa fd'))[i]?) = (mW s sa kt sb vw ik sh' tb ta tk fm tt va fa fd').map (fun e => some (zre (em eL2) e)) := rfl
theorem l2_put : zput eL2 (lwW r0 r1 r2 kp sh tp fd (mW s sa kt sb vw ik sh' tb ta tk fm tt va fa fd')) ((mW s' sa' kt' sb' vw' ik' sh tb' ta' tk' fm' tt' va' fa' fd).map (zre (em eL2))) = lwW r0 r1 r2 kp sh tp fd (mW s' sa' kt' sb' vw' ik' sh tb' ta' tk' fm' tt' va' fa' fd) := by
  rw [l2_re]
  have h := zput_pre ((mW s' sa' kt' sb' vw' ik' sh tb' ta' tk' fm' tt' va' fa' fd).map (zre (fun k => k + 39))) (kW r0 r1 r2 kp sh tp fd) ((mW s sa kt sb vw ik sh' tb ta tk fm tt va fa fd').map (zre (fun k => k + 39))) [] rfl
  rw [List.append_nil, List.append_nil] at h
  exact h
end LWW
