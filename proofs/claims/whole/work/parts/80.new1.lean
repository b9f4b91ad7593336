/-! ===== making the objects: a world that grows ===== -/
def NWs (U : State) : Prop := va_Nw (.methodLinkNest RX4 27 yX3_init RX4) U ∧ va_Nw (.methodLinkNest RX4 34 yX1_init RX4) U
theorem NWs.warm {s U : State} (hW : s.WarmedH U.vm) (h : NWs s) : NWs U := ⟨va_Nw.warmM hW h.1, va_Nw.warmM hW h.2⟩
def CC (G : Gh) (own : String) (cc : ByteArray) (nL : Nat) (p : Program) (s : State) (m : MethodId) (args : Array Value) (c : Code) : Prop := CallFix p m c cc nL s args TB own ∧ va_K (gD G) vwCl (gT G) s
def WN (G : Gh) (A : Nat → Prop) (s : State) (H : Heap) (locs : List Loc) (ws : va_W) : Prop := va_P (gD G) vwCl ws H ∧ va_D A ws ∧ va_S A s.heap H locs
def psh (cc : ByteArray) (pc : Nat) (v : Int) (k : Nat) : Prop := (decode cc pc = .ok (.iconst v, 1) ∧ k = 1) ∨ (decode cc pc = .ok (.bipush v, 2) ∧ (Int8.ofInt v).toInt32 = Int32.ofInt v ∧ k = 2) ∨ (decode cc pc = .ok (.sipush v, 3) ∧ (Int16.ofInt v).toInt32 = Int32.ofInt v ∧ k = 3)
def nty (t : Nat) : ArrayType := match t with
  | 0 => .int
  | 1 => .byte
  | _ => .boolean
theorem inA0 : Cond.arrayClass .int ∈ TB := tbP1 103 rfl rfl
theorem inA1 : Cond.arrayClass .byte ∈ TB := tbP1 145 rfl rfl
theorem inA2 : Cond.arrayClass .boolean ∈ TB := tbP4 80 rfl rfl
theorem inA {t : Nat} (h : t < 3) : Cond.arrayClass (Jvm.Op.newarray.typeOf (nty t)) ∈ TB := by
  rcases (show t = 0 ∨ t = 1 ∨ t = 2 by omega) with rfl | rfl | rfl
  · exact inA0
  · exact inA1
  · exact inA2
theorem dv0 {t : Nat} (h : t < 3) : defaultValue (Jvm.Op.newarray.typeOf (nty t)) = .int 0 := by
  rcases (show t = 0 ∨ t = 1 ∨ t = 2 by omega) with rfl | rfl | rfl <;> rfl
theorem cb8 {t : Nat} (h : t < 3) : componentBytes (Jvm.Op.newarray.typeOf (nty t)) ≤ 8 := by
  rcases (show t = 0 ∨ t = 1 ∨ t = 2 by omega) with rfl | rfl | rfl <;> decide
/-- a final field: its link, its type -/
def FF (own : String) (index ci j : Nat) (ty : FieldType) : Prop := ∃ (C : String) (T : u_T) (N : Nat) (ty0 : Nat → FieldType), vwCl[ci]? = some (C, T, N) ∧ j < N ∧ (∀ w ∈ u_ws C T N, w ∈ TB) ∧ Cond.fieldLink own index (T j).1 (T j).2.1 (T j).2.2.1 ∈ TB ∧ (∀ k, k < N → parseFieldDescriptor (T k).2.2.1 = some (ty0 k)) ∧ (∀ a, a < N → ∀ b, b < N → a ≠ b → (T a).2.1 ≠ (T b).2.1) ∧ ((T j).2.2.2 = true ∧ (T j).1 = own) ∧ ty0 j = ty
/-- a class that is made -/
def NO (own : String) (index ci N : Nat) (fs : List Value) : Prop := ∃ (C : String) (T : u_T) (ty : Nat → FieldType), vwCl[ci]? = some (C, T, N) ∧ (∀ w ∈ u_ws C T N, w ∈ TB) ∧ (∀ k, k < N → parseFieldDescriptor (T k).2.2.1 = some (ty k)) ∧ Cond.classLink own index C ∈ TB ∧ Cond.instantiable C N ∈ TB ∧ Cond.initialized C ∈ TB ∧ ∀ j, j < N → defaultValue (ty j) = vp_V fs j
/-- what a constructor's call wants -/
def LI (own : String) (index : Nat) (y : MethodName) (cc : ByteArray) : Prop := (Cond.methodLink own index y ∈ TB ∨ ∀ U, NWs U → va_Nw (.methodLinkNest own index y RX4) U) ∧ Cond.instanceMethod y ∈ TB ∧ Cond.initialized y.cls ∈ TB ∧ Cond.code y cc 1 none ∈ TB ∧ y.name = "<init>" ∧ (y.cls ≠ "java/lang/invoke/MethodHandle" ∧ y.cls ≠ "java/lang/invoke/VarHandle" ∧ (parseMethodDescriptor y.desc).map (fun d => d.parameters.length) = some 0)
/-- a constructor's contract -/
def NT (G : Gh) (l : Launch) (y : MethodName) (cc : ByteArray) (rm : Room) (ci : Nat) (fs0 : List Value) (wof : Nat → (Nat → Nat) → va_W) : Prop := ∀ (h0 sz : Nat), Met l y (.code y cc 1 none :: TB) rm (va_Pc [.ref h0] (fun U => U.heap.size = sz ∧ va_P (gD G) vwCl [(h0, .inr (ci, fs0))] U.heap ∧ va_K (gD G) vwCl (gT G) U ∧ NWs U)) (va_Qv (fun _ : Nat → Nat => True) (fun u t => va_P (gD G) vwCl (wof h0 u) t.heap ∧ va_D (va_A [(h0, .inr (ci, fs0))] sz) (wof h0 u)) (va_A [(h0, .inr (ci, fs0))] sz)) rm.cells rm.slots (va_A [(h0, .inr (ci, fs0))] sz)
theorem va_D.one {A : Nat → Prop} {x : Nat × va_E} (h : A x.1) : va_D A [x] := by
  have key : ∀ (i : Nat) (q : Nat × va_E), [x][i]? = some q → i = 0 ∧ q = x := by
    intro i q hq
    match i, hq with
    | 0, hq => cases hq; exact ⟨rfl, rfl⟩
    | i + 1, hq => simp at hq
  exact ⟨fun i j p q hi hj _ => by rw [(key i p hi).1, (key j q hj).1], fun k q hk => by rw [(key k q hk).2]; exact h⟩
theorem n_join {D : va_G} {cl : List vw_C} {A : Nat → Prop} {w0 w1 : va_W} {x : Nat × va_E} {H H1 : Heap} (hP : va_P D cl (w0 ++ [x]) H) (hD : va_D A (w0 ++ [x])) (hk : ∀ q : Nat, q < H.size → ¬ va_A [x] H.size q → H1[q]? = H[q]?) (hF : ∀ q, va_A [x] H.size q → A q) (hP1 : va_P D cl w1 H1) (hD1 : va_D (va_A [x] H.size) w1) : va_P D cl (w0 ++ w1) H1 ∧ va_D A (w0 ++ w1) := by
  have lf : ∀ (k : Nat) (q : Nat × va_E), w0[k]? = some q → k < w0.length ∧ (w0 ++ [x])[k]? = some q := by
    intro k q hq
    have hl := (List.getElem?_eq_some_iff.mp hq).1
    exact ⟨hl, by rw [List.getElem?_append_left hl]; exact hq⟩
  have hx : (w0 ++ [x])[w0.length]? = some x := by simp
  have apart : ∀ (k : Nat) (q : Nat × va_E), w0[k]? = some q → q.1 < H.size ∧ ¬ va_A [x] H.size q.1 := by
    intro k q hq
    obtain ⟨hl, h2⟩ := lf k q hq
    have hlt := (hP k q h2).lt
    refine ⟨hlt, fun h => ?_⟩
    rcases h with ⟨k2, e, h⟩ | h
    · have hk2 : k2 = 0 := by
        have := (List.getElem?_eq_some_iff.mp h).1
        simp at this
        exact this
      subst hk2
      have h' : x = (q.1, e) := by simpa using h
      have := hD.1 k w0.length q x h2 hx (by rw [h'])
      omega
    · omega
  refine ⟨va_P.app (fun k q hq => ?_) hP1, va_D.app ⟨fun i j a b hi hj hab => hD.1 i j a b (lf i a hi).2 (lf j b hj).2 hab, fun k q hq => hD.2 k q (lf k q hq).2⟩ (hD1.weaken (fun k q _ h => hF q.1 h)) (fun i j a b ha hb hab => ?_)⟩
  · obtain ⟨g1, g2⟩ := apart k q hq
    exact (hP k q (lf k q hq).2).kept (hk q.1 g1 g2)
  · exact (apart i a ha).2 (by rw [hab]; exact hD1.2 j b hb)
section NEW
variable {p : Program} {l : Launch} {e : Env} {rm : Room} {s : State} {m : MethodId} {args : Array Value} {below : List Frame} {meth : Method} {c : Code} {H : Heap} {locs : List Loc} {cells slots : Nat} {Q : State → Prop} {G : Gh} {own : String} {cc : ByteArray} {nL pc : Nat} {ls : Array Slot} {st : List Value} {A : Nat → Prop} {ws w0 : va_W}
theorem n_psh (C : CC G own cc nL p s m args c) {v : Int} {k : Nat} (h : psh cc pc v k) (kk : W p l e rm s m args below meth c H locs cells slots Q (F0 m (pc + k) ls (vi v :: st))) : W p l e rm s m args below meth c H locs cells slots Q (F0 m pc ls st) := by
  rcases h with ⟨h, rfl⟩ | ⟨h, hn, rfl⟩ | ⟨h, hn, rfl⟩
  · exact lv_iconst C.1.1 C.1.2.1 h rfl kk
  · exact lv_bipush C.1.1 C.1.2.1 h hn kk
  · exact lv_sipush C.1.1 C.1.2.1 h hn kk
theorem n_newa (C : CC G own cc nL p s m args c) (hA : ∀ q, s.heap.size ≤ q → A q) (hW : WN G A s H locs ws) {t N : Nat} (ht : t < 3) (hN : N < 100000) (hcells : cells + 1 ≤ rm.cells) (hslots : slots + N ≤ rm.slots) (hdg : decode cc pc = .ok (.newarray (nty t), 2)) (kk : ∀ (q : Nat) (H1 : Heap), WN G A s H1 locs (ws ++ [(q, .inl (gC G t, N, .inl (fun _ => 0)))]) → W p l e rm s m args below meth c H1 locs (cells + 1) (slots + N) Q (F0 m (pc + 2) ls (.ref q :: st))) : W p l e rm s m args below meth c H locs cells slots Q (F0 m pc ls (vi N :: st)) := by
  refine va_newa (N' := N) (a0 := (N, .inl fun _ => 0)) C.1.1 C.1.2.1 (C.1.2.2.2.2 _ (inA ht)) rfl C.2 hW.1 hW.2.1 hW.2.2 hA ?_ ?_ ?_ ?_ hcells hslots hdg (fun q cA H1 hK1 hP1 hD1 hS1 => ?_)
  · intro cA
    rw [vp_cell_i, dv0 ht]
  · rw [i32_lt0, wr_of (by omega) (by omega)]; omega
  · exact i32_clamp (by omega)
  · exact Nat.le_trans (Nat.mul_le_mul_left N (cb8 ht)) (by omega)
  · have e1 : cA = gC G t := by
      rcases (show t = 0 ∨ t = 1 ∨ t = 2 by omega) with rfl | rfl | rfl
      · have a1 : s.vm.findClass ("[" ++ FieldType.int.toString) = some cA := (hK1.2 3 _ rfl).2
        have a2 : s.vm.findClass ("[" ++ FieldType.int.toString) = some (gC G 0) := (C.2.2 0 _ rfl).2
        exact Option.some.inj (a1.symm.trans a2)
      · have a1 : s.vm.findClass ("[" ++ FieldType.byte.toString) = some cA := (hK1.2 3 _ rfl).2
        have a2 : s.vm.findClass ("[" ++ FieldType.byte.toString) = some (gC G 1) := (C.2.2 1 _ rfl).2
        exact Option.some.inj (a1.symm.trans a2)
      · have a1 : s.vm.findClass ("[" ++ FieldType.boolean.toString) = some cA := (hK1.2 3 _ rfl).2
        have a2 : s.vm.findClass ("[" ++ FieldType.boolean.toString) = some (gC G 2) := (C.2.2 2 _ rfl).2
        exact Option.some.inj (a1.symm.trans a2)
    rw [e1] at hP1 hD1
    exact kk q H1 ⟨hP1, hD1, hS1⟩
theorem n_pF (C : CC G own cc nL p s m args c) (hn : meth.name = "<init>") {h0 ci j idx q : Nat} {fs : List Value} {ty : FieldType} (hW : WN G A s H locs ((h0, .inr (ci, fs)) :: ws)) (hF : FF own idx ci j ty) (hty : narrow ty (.ref q) = .ref q ∧ fits ty (.ref q) = true) (hj : j < fs.length) (hdg : decode cc pc = .ok (.putfield idx, 3)) (kk : ∀ (H1 : Heap) (locs1 : List Loc), WN G A s H1 locs1 ((h0, .inr (ci, fs.set j (.ref q))) :: ws) → W p l e rm s m args below meth c H1 locs1 cells slots Q (F0 m (pc + 3) ls st)) : W p l e rm s m args below meth c H locs cells slots Q (F0 m pc ls (.ref q :: .ref h0 :: st)) := by
  obtain ⟨C0, T, N, ty0, h1, h3, h4, h5, h6, h7, ⟨h8, h9⟩, h10⟩ := hF
  exact va_putF (D := gD G) (ci := ci) (v := .ref q) (ty := ty) C.1.1 C.1.2.1 C.1.2.2.2.2 h4 ty0 h6 h7 C.1.2.2.2.1 C.2 hW.1 hW.2.1 hW.2.2 0 rfl h1 j h3 (C.1.2.2.2.2 _ h5) (fun _ z => z) h8 hn h9 (by rw [h6 j h3, h10]) hty.1 hty.2 hj hdg (fun H1 locs1 hP hD hS => kk H1 locs1 ⟨hP, hD, hS⟩)
theorem n_al (C : CC G own cc nL p s m args c) {h0 : Nat} (hl : lv_has ls nL [(0, .ref h0)]) (hdg : decode cc pc = .ok (.aload_n 0, 1)) (kk : W p l e rm s m args below meth c H locs cells slots Q (F0 m (pc + 1) ls (.ref h0 :: st))) : W p l e rm s m args below meth c H locs cells slots Q (F0 m pc ls st) :=
  lv_aload_n C.1.1 C.1.2.1 hdg rfl (lv_at hl 0 rfl) kk
/-- aload_0, a length, newarray, putfield -/
theorem n_nf (C : CC G own cc nL p s m args c) (hn : meth.name = "<init>") (hA : ∀ q, s.heap.size ≤ q → A q) {h0 ci j idx t N k : Nat} {fs : List Value} {ty : FieldType} (hl : lv_has ls nL [(0, .ref h0)]) (hW : WN G A s H locs ((h0, .inr (ci, fs)) :: ws)) (d0 : decode cc pc = .ok (.aload_n 0, 1)) (h1 : psh cc (pc + 1) N k) (d2 : decode cc (pc + 1 + k) = .ok (.newarray (nty t), 2)) (d3 : decode cc (pc + 1 + k + 2) = .ok (.putfield idx, 3)) (hF : FF own idx ci j ty) (hty : ∀ q, narrow ty (.ref q) = .ref q ∧ fits ty (.ref q) = true) (hj : j < fs.length) (ht : t < 3) (hN : N < 100000) (hcells : cells + 1 ≤ rm.cells) (hslots : slots + N ≤ rm.slots)
    (kk : ∀ (q : Nat) (H1 : Heap) (locs1 : List Loc), WN G A s H1 locs1 ((h0, .inr (ci, fs.set j (.ref q))) :: (ws ++ [(q, .inl (gC G t, N, .inl (fun _ => 0)))])) → W p l e rm s m args below meth c H1 locs1 (cells + 1) (slots + N) Q (F0 m (pc + 1 + k + 2 + 3) ls st)) : W p l e rm s m args below meth c H locs cells slots Q (F0 m pc ls st) := by
  refine n_al C hl d0 (n_psh C h1 (n_newa C hA hW ht hN hcells hslots d2 (fun q H1 hW1 => ?_)))
  exact n_pF C hn hW1 hF (hty q) hj d3 (fun H2 locs2 hW2 => kk q H2 locs2 hW2)
/-- what an array holds when n of its numbers are set -/
def tbf (g : Nat → Int) (n : Nat) : Nat → Int32 := fun j => if j < n then Int32.ofInt (g j) else 0
theorem tbf_0 (g : Nat → Int) : (fun _ => 0 : Nat → Int32) = tbf g 0 := by
  funext j
  simp [tbf]
theorem n_ist (C : CC G own cc nL p s m args c) {a N n k1 k2 : Nat} {g : Nat → Int} {v : Int} (hW : WN G A s H locs (w0 ++ [(a, .inl (gC G 0, N, .inl (tbf g n)))])) (hv : g n = v) (hn : n < N) (hN : N < 100000) (d0 : decode cc pc = .ok (.dup, 1)) (h1 : psh cc (pc + 1) n k1) (h2 : psh cc (pc + 1 + k1) v k2) (d3 : decode cc (pc + 1 + k1 + k2) = .ok (.iastore, 1))
    (kk : ∀ (H1 : Heap) (locs1 : List Loc), WN G A s H1 locs1 (w0 ++ [(a, .inl (gC G 0, N, .inl (tbf g (n + 1))))]) → W p l e rm s m args below meth c H1 locs1 cells slots Q (F0 m (pc + 1 + k1 + k2 + 1) ls (.ref a :: st))) : W p l e rm s m args below meth c H locs cells slots Q (F0 m pc ls (.ref a :: st)) := by
  subst hv
  have ec : (Int32.ofInt (n : Int)).toNatClampNeg = n := i32_clamp (by omega)
  refine lv_dup C.1.1 C.1.2.1 d0 rfl (n_psh C h1 (n_psh C h2 ?_))
  refine va_iast C.1.1 C.1.2.1 C.2 hW.1 hW.2.1 hW.2.2 w0.length 0 (cA := gC G 0) (n := N) (f := tbf g n) (by simp) rfl ?_ d3 (fun H1 locs1 hP hD hS => ?_)
  · intro z
    rw [ec] at z
    rcases z with z | z
    · rw [i32_lt0, wr_of (by omega) (by omega)] at z; omega
    · omega
  · have e1 : upd (tbf g n) n (Int32.ofInt (g n)) = tbf g (n + 1) := by
      funext j
      unfold upd tbf
      by_cases c1 : j = n
      · subst c1; simp
      · by_cases c2 : j < n
        · rw [if_neg c1, if_pos c2, if_pos (by omega)]
        · rw [if_neg c1, if_neg c2, if_neg (by omega)]
    have e2 : (w0 ++ [(a, (.inl (gC G 0, N, .inl (tbf g n)) : va_E))]).set w0.length (a, .inl (gC G 0, N, .inl (upd (tbf g n) (Int32.ofInt (n : Int)).toNatClampNeg (Int32.ofInt (g n))))) = w0 ++ [(a, .inl (gC G 0, N, .inl (tbf g (n + 1))))] := by
      rw [ec, e1]
      simp
    rw [e2] at hP hD
    exact kk H1 locs1 ⟨hP, hD, hS⟩
end NEW
