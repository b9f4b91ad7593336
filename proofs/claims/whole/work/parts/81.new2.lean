/-! ===== making the objects: calls of constructors ===== -/
theorem n_joinL {D : va_G} {cl : List vw_C} {A : Nat → Prop} {w0 wc w1 : va_W} {H H1 : Heap} (hP : va_P D cl (w0 ++ wc) H) (hD : va_D A (w0 ++ wc)) (hk : ∀ q : Nat, q < H.size → ¬ va_A wc H.size q → H1[q]? = H[q]?) (hF : ∀ q, va_A wc H.size q → A q) (hP1 : va_P D cl w1 H1) (hD1 : va_D (va_A wc H.size) w1) : va_P D cl (w0 ++ w1) H1 ∧ va_D A (w0 ++ w1) := by
  have lf : ∀ (k : Nat) (q : Nat × va_E), w0[k]? = some q → k < w0.length ∧ (w0 ++ wc)[k]? = some q := by
    intro k q hq
    have hl := (List.getElem?_eq_some_iff.mp hq).1
    exact ⟨hl, by rw [List.getElem?_append_left hl]; exact hq⟩
  have apart : ∀ (k : Nat) (q : Nat × va_E), w0[k]? = some q → q.1 < H.size ∧ ¬ va_A wc H.size q.1 := by
    intro k q hq
    obtain ⟨hl, h2⟩ := lf k q hq
    have hlt := (hP k q h2).lt
    refine ⟨hlt, fun h => ?_⟩
    rcases h with ⟨k2, e, h⟩ | h
    · have h3 : (w0 ++ wc)[w0.length + k2]? = some (q.1, e) := by
        rw [List.getElem?_append_right (by omega), Nat.add_sub_cancel_left]
        exact h
      have := hD.1 k (w0.length + k2) q (q.1, e) h2 h3 rfl
      omega
    · omega
  refine ⟨va_P.app (fun k q hq => ?_) hP1, va_D.app ⟨fun i j a b hi hj hab => hD.1 i j a b (lf i a hi).2 (lf j b hj).2 hab, fun k q hq => hD.2 k q (lf k q hq).2⟩ (hD1.weaken (fun k q _ h => hF q.1 h)) (fun i j a b ha hb hab => ?_)⟩
  · obtain ⟨g1, g2⟩ := apart k q hq
    exact (hP k q (lf k q hq).2).kept (hk q.1 g1 g2)
  · exact (apart i a ha).2 (by rw [hab]; exact hD1.2 j b hb)
/-- the callee's cells, cut out -/
theorem n_cut {D : va_G} {cl : List vw_C} {w0 wc : va_W} {H : Heap} (hP : va_P D cl (w0 ++ wc) H) : va_P D cl wc H := fun k q hk => hP (w0.length + k) q (by rw [List.getElem?_append_right (by omega), Nat.add_sub_cancel_left]; exact hk)
theorem n_cutD {A : Nat → Prop} {w0 wc : va_W} (hD : va_D A (w0 ++ wc)) : va_D A wc := by
  have h : ∀ (k : Nat) (q : Nat × va_E), wc[k]? = some q → (w0 ++ wc)[w0.length + k]? = some q := fun k q hk => by rw [List.getElem?_append_right (by omega), Nat.add_sub_cancel_left]; exact hk
  refine ⟨fun i j a b hi hj hab => ?_, fun k q hk => hD.2 _ q (h k q hk)⟩
  have := hD.1 _ _ a b (h i a hi) (h j b hj) hab
  omega
theorem n_free {A : Nat → Prop} {w0 wc : va_W} {H0 H : Heap} {locs : List Loc} (hD : va_D A (w0 ++ wc)) (hS : va_S A H0 H locs) (hA : ∀ q, H0.size ≤ q → A q) : ∀ q, va_A wc H.size q → A q := by
  intro q h
  rcases h with ⟨k, e, h⟩ | h
  · exact (n_cutD hD).2 k (q, e) h
  · exact hA q (Nat.le_trans hS.1 h)
theorem inOI : Cond.instanceMethod objectInit ∈ TB := tbP1 21 rfl rfl
theorem inOC : Cond.code objectInit ⟨#[0xb1]⟩ 1 none ∈ TB := tbP1 22 rfl rfl
section NEW2
variable {p : Program} {l : Launch} {e : Env} {rm : Room} {s : State} {m : MethodId} {args : Array Value} {below : List Frame} {meth : Method} {c : Code} {H : Heap} {locs : List Loc} {cells slots : Nat} {Q : State → Prop} {G : Gh} {own : String} {cc : ByteArray} {nL pc : Nat} {ls : Array Slot} {st : List Value} {A : Nat → Prop} {ws w0 : va_W}
theorem n_oi (C : CC G own cc nL p s m args c) {h0 idx : Nat} (hl : lv_has ls nL [(0, .ref h0)]) (d0 : decode cc pc = .ok (.aload_n 0, 1)) (d1 : decode cc (pc + 1) = .ok (.invokespecial idx, 3)) (hk : Cond.methodLink own idx objectInit ∈ TB) (hf : 1 ≤ rm.frames) (hlo : 12 ≤ rm.locals) (kk : W p l e rm s m args below meth c H locs cells slots Q (F0 m (pc + 1 + 3) ls [])) : W p l e rm s m args below meth c H locs cells slots Q (F0 m pc ls []) := by
  refine n_al C hl d0 ?_
  refine W.objInit C.1.1 C.1.2.1 C.1.2.2.2.1 (C.1.2.2.2.2 _ hk) (C.1.2.2.2.2 _ inOI) (C.1.2.2.2.2 _ inOC) rfl (by rw [C.1.2.2.1]; exact hl.1) rfl d1 hf (by show 2 * 0 + 0 + 12 ≤ rm.locals; omega) ?_
  exact W.eq (g2 := F0 m (pc + 1 + 3) ls []) rfl kk
theorem n_newobj (C : CC G own cc nL p s m args c) (hNw : NWs s) (hA : ∀ q, s.heap.size ≤ q → A q) {i1 i2 ci N : Nat} {fs0 : List Value} {y : MethodName} {cc' : ByteArray} {rm' : Room} {wof : Nat → (Nat → Nat) → va_W} (hsz : ls.size = nL) (h8 : 1 + (st.map fun v => v.category).sum ≤ 8) (hW : WN G A s H locs w0) (hO : NO own i1 ci N fs0) (hI : LI own i2 y cc') (hT : NT G l y cc' rm' ci fs0 wof) (d1 : decode cc pc = .ok (.new i1, 3)) (d2 : decode cc (pc + 3) = .ok (.dup, 1)) (d3 : decode cc (pc + 3 + 1) = .ok (.invokespecial i2, 3)) (hR : rm'.frames + 1 ≤ rm.frames ∧ 8 + (1 + 11) + rm'.locals ≤ rm.locals) (hcells : cells + 1 + rm'.cells ≤ rm.cells) (hslots : slots + N + rm'.slots ≤ rm.slots)
    (kk : ∀ (q : Nat) (u : Nat → Nat) (H1 : Heap) (locs1 : List Loc), WN G A s H1 locs1 (w0 ++ wof q u) → W p l e rm s m args below meth c H1 locs1 (cells + 1 + rm'.cells) (slots + N + rm'.slots) Q (F0 m (pc + 3 + 1 + 3) ls (.ref q :: st))) : W p l e rm s m args below meth c H locs cells slots Q (F0 m pc ls st) := by
  obtain ⟨C0, T, ty, h1, h2, h3, h4, h5, h6, h7⟩ := hO
  obtain ⟨c1, c2, c3, c4, c5, c6⟩ := hI
  have hts := C.1.2.2.2.2
  refine va_new (ci := ci) (fs := fs0) (C := C0) (T := T) (N := N) C.1.1 C.1.2.1 hts h2 ty h3 C.1.2.2.2.1 (hts _ h4) (hts _ h5) (hts _ h6) C.2 hW.1 hW.2.1 hW.2.2 hA h1 h7 (by omega) (by omega) d1 (fun q H1 hP hD hS => ?_)
  refine lv_dup C.1.1 C.1.2.1 d2 rfl ?_
  have hPx := n_cut hP
  have hF := n_free hD hS hA
  have bl : FrameBlind (va_Pc [.ref q] (fun U => U.heap.size = H1.size ∧ va_P (gD G) vwCl [(q, .inr (ci, fs0))] U.heap ∧ va_K (gD G) vwCl (gT G) U ∧ NWs U)) := fun a U g mk h => ⟨h.1, h.2.1, h.2.2.1, va_K.moved (u := U) (U := U.calling g mk a) (Vm.Alike.refl U.vm) h.2.2.2.1, va_Nw.same (u := U) rfl rfl h.2.2.2.2.1, va_Nw.same (u := U) rfl rfl h.2.2.2.2.2⟩
  have pr : ∀ (U : State), U.heap = H1 → s.WarmedH U.vm → va_Pc [.ref q] (fun U => U.heap.size = H1.size ∧ va_P (gD G) vwCl [(q, .inr (ci, fs0))] U.heap ∧ va_K (gD G) vwCl (gT G) U ∧ NWs U) (Value.ref q :: ([] : List Value)).toArray U := fun U hU hWm => ⟨rfl, by rw [hU], by rw [hU]; exact hPx, va_K.moved hWm.alike C.2, hNw.warm hWm⟩
  have h9 : ((.ref q :: st).map fun v : Value => v.category).sum ≤ 8 := by
    rw [List.map_cons, List.sum_cons]
    exact h8
  have hrun : va_Run p l e rm s m args below meth c H1 locs (cells + 1) (slots + N) rm'.cells rm'.slots (F0 m (pc + 3 + 1) ls (.ref q :: .ref q :: st)) (.ref q :: st) (va_Qv (fun _ : Nat → Nat => True) (fun u t => va_P (gD G) vwCl (wof q u) t.heap ∧ va_D (va_A [(q, .inr (ci, fs0))] H1.size) (wof q u)) (va_A [(q, .inr (ci, fs0))] H1.size) (Value.ref q :: ([] : List Value)).toArray) (va_A [(q, .inr (ci, fs0))] H1.size) := by
    rcases c1 with hl | hl
    · exact va_runI (As := []) (rest := .ref q :: st) C.1 (hT q H1.size) (cwI 0 hts (goodTB (inTB1 c4)) rfl rfl rfl (hts _ c3) (hts _ hl) (hts _ c2) c5 c6 hR) ⟨bl, pr⟩ rfl rfl hsz rfl (lv_room h9) d3 ⟨hcells, hslots⟩
    · exact va_runIN (As := []) (rest := .ref q :: st) C.1 (hT q H1.size) ⟨va_cnB 0 hts (goodTB (inTB1 c4)) rfl rfl rfl (hl s hNw) (hts _ c3) c6 hR, c5, hts _ c2⟩ ⟨bl, pr⟩ rfl rfl hsz rfl (lv_room h9) d3 ⟨hcells, hslots⟩
  refine va_callv hrun hS (fun z _ h => hF z h) hF (fun u t H2 locs2 ht hvm _ hB hz1 hk1 hS2 => ?_)
  obtain ⟨hP2, hD2⟩ := hB
  rw [ht] at hP2
  obtain ⟨hP3, hD3⟩ := n_joinL hP hD hk1 hF hP2 hD2
  exact kk q u H2 locs2 ⟨hP3, hD3, hS2⟩
/-- aload_0, new, dup, the constructor, putfield -/
theorem n_obj (C : CC G own cc nL p s m args c) (hNw : NWs s) (hn : meth.name = "<init>") (hA : ∀ q, s.heap.size ≤ q → A q) {h0 co j i1 i2 i3 ci N : Nat} {fs fs0 : List Value} {ty : FieldType} {y : MethodName} {cc' : ByteArray} {rm' : Room} {wof : Nat → (Nat → Nat) → va_W} (hl : lv_has ls nL [(0, .ref h0)]) (hW : WN G A s H locs ((h0, .inr (co, fs)) :: ws)) (hO : NO own i1 ci N fs0) (hI : LI own i2 y cc') (hT : NT G l y cc' rm' ci fs0 wof) (hF : FF own i3 co j ty) (hty : ∀ q, narrow ty (.ref q) = .ref q ∧ fits ty (.ref q) = true) (hj : j < fs.length) (d0 : decode cc pc = .ok (.aload_n 0, 1)) (d1 : decode cc (pc + 1) = .ok (.new i1, 3)) (d2 : decode cc (pc + 1 + 3) = .ok (.dup, 1)) (d3 : decode cc (pc + 1 + 3 + 1) = .ok (.invokespecial i2, 3)) (d4 : decode cc (pc + 1 + 3 + 1 + 3) = .ok (.putfield i3, 3)) (hR : rm'.frames + 1 ≤ rm.frames ∧ 8 + (1 + 11) + rm'.locals ≤ rm.locals) (hcells : cells + 1 + rm'.cells ≤ rm.cells) (hslots : slots + N + rm'.slots ≤ rm.slots)
    (kk : ∀ (q : Nat) (u : Nat → Nat) (H1 : Heap) (locs1 : List Loc), WN G A s H1 locs1 ((h0, .inr (co, fs.set j (.ref q))) :: (ws ++ wof q u)) → W p l e rm s m args below meth c H1 locs1 (cells + 1 + rm'.cells) (slots + N + rm'.slots) Q (F0 m (pc + 1 + 3 + 1 + 3 + 3) ls [])) : W p l e rm s m args below meth c H locs cells slots Q (F0 m pc ls []) := by
  refine n_al C hl d0 ?_
  refine n_newobj C hNw hA hl.1 (by show 1 + (1 + 0) ≤ 8; omega) hW hO hI hT d1 d2 d3 hR hcells hslots (fun q u H1 locs1 hW1 => ?_)
  exact n_pF C hn hW1 hF (hty q) hj d4 (fun H2 locs2 hW2 => kk q u H2 locs2 hW2)
end NEW2
theorem nt_of {G : Gh} {l : Launch} {y : MethodName} {cc : ByteArray} {rm : Room} {ci : Nat} {fs0 : List Value} {wof : Nat → (Nat → Nat) → va_W} (hy : plainName y.cls = true) (hyn : y.name = "<init>")
    (body : ∀ (p : Program) (e : Env) (s : State) (m : MethodId) (below : List Frame) (meth : Method) (c : Code) (h0 : Nat) (ls : Array Slot) (A : Nat → Prop) (Q : State → Prop), CC G y.cls cc 1 p s m #[.ref h0] c → NWs s → meth.name = "<init>" → (∀ q, s.heap.size ≤ q → A q) → WN G A s s.heap [] [(h0, .inr (ci, fs0))] → lv_has ls 1 [(0, .ref h0)] → (∀ (H' : Heap) (locs' : List Loc) (pc' : Nat) (ls' : Array Slot) (u : Nat → Nat), WN G A s H' locs' (wof h0 u) → decode cc pc' = .ok (.return_, 1) → W p l e rm s m #[.ref h0] below meth c H' locs' rm.cells rm.slots Q (F0 m pc' ls' [])) → W p l e rm s m #[.ref h0] below meth c s.heap [] 0 0 Q (F0 m 0 ls [])) : NT G l y cc rm ci fs0 wof := by
  intro h0 sz
  refine Met.ofW (cc := cc) (maxL := 1) (ret := none) hy rfl ?_
  intro p e s m args below meth c s₁ B hml hv
  obtain ⟨rfl, hsz, hP, hK, hN⟩ := hv
  subst hsz
  have hts := atoms_spec (ws := .code y cc 1 none :: TB) B.pre
  have hown : s.vm.findClass y.cls = some m.cls := findClass_of_methodNamed B.named
  have hin : meth.name = "<init>" := (name_of_methodNamed B.named B.method).1.trans hyn
  have hl := lv_entry ([.ref h0]) (n := 1) (Nat.le_of_ble_eq_true rfl)
  rw [lg_entry_eq]
  refine body p e s m below meth c h0 _ (va_A [(h0, .inr (ci, fs0))] s.heap.size) _ ⟨⟨B.exec, B.bytes, hml, hown, fun w hw => hts w (List.mem_cons_of_mem _ hw)⟩, hK⟩ hN hin (fun q h => Or.inr h) ⟨hP, va_D.one (Or.inl ⟨0, _, rfl⟩), va_S.rf⟩ hl (fun H' locs' pc' ls' u hW hd => ?_)
  exact W.vret (hlocks := B.notSynchronized) B.exec B.bytes B.returns (fun t ht hWm => ⟨⟨u, rfl, trivial, by rw [ht]; exact hW.1, hW.2.1⟩, hW.2.2.F ht⟩) hW.2.2.2.2 hd
