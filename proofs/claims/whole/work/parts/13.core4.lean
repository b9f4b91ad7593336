/-! ===== contracts out of SW, and calls ===== -/
theorem goodTB {ws : List Cond} (h : ∀ w ∈ ws, w ∈ TB) : GoodIn TB ws := fun w hw => ⟨h w hw, good_of_word (List.mem_filter.mp (h w hw)).2⟩
/-- the contract of a method at these arguments and cells: where the function says some r, r's answer and cells -/
def MT (G : Gh) (l : Launch) (y : MethodName) (cc : ByteArray) (nL : Nat) (ret : Option FieldType) (rm : Room) (As : List Value) {ρ : Type} (w : ρ → Option Value × St) (σ : St) (o : Option ρ) : Prop :=
  ∀ r, o = some r → Met l y (.code y cc nL ret :: TB) rm (va_Pc As (fun U => KG G U ∧ va_P (gD G) vwCl (wd G σ) U.heap)) (fun _ st oc t => (oc = .returned (w r).1 ∧ va_P (gD G) vwCl (wd G (w r).2) t.heap) ∧ va_F (AD G) st t) 0 0 (AD G)
def arL : List Value → List (Option Value)
  | [] => []
  | v :: vs => if v.category = 2 then some v :: none :: arL vs else some v :: arL vs
theorem arL_mem : ∀ (vs : List Value) (n i0 i : Nat) (v : Value), (arL vs ++ List.replicate n none)[i]? = some (some v) → (i0 + i, v) ∈ lv_args i0 vs := by
  intro vs
  induction vs with
  | nil =>
    intro n i0 i v h
    simp only [arL, List.nil_append, List.getElem?_replicate] at h
    split at h <;> cases h
  | cons u vs ih =>
    intro n i0 i v h
    by_cases hc : u.category = 2
    · simp only [arL, hc, if_true, List.cons_append] at h
      simp only [lv_args, hc, if_true]
      match i, h with
      | 0, h => simp at h; subst h; exact List.mem_cons_self
      | 1, h => simp at h
      | i + 2, h =>
        have h1 := ih n (i0 + 2) i v (by simpa using h)
        rw [show i0 + (i + 2) = i0 + 2 + i by omega]
        exact List.mem_cons_of_mem _ h1
    · simp only [arL, hc, if_false, List.cons_append] at h
      simp only [lv_args, hc, if_false]
      match i, h with
      | 0, h => simp at h; subst h; exact List.mem_cons_self
      | i + 1, h =>
        have h1 := ih n (i0 + 1) i v (by simpa using h)
        rw [show i0 + (i + 1) = i0 + 1 + i by omega]
        exact List.mem_cons_of_mem _ h1
theorem arL_has (vs : List Value) {n : Nat} {L : List (Option Value)} (h : (lg_sl vs).length ≤ n) (hL : arL vs ++ List.replicate (n - (arL vs).length) none = L) : lv_has ((lg_sl vs ++ List.replicate (n - (lg_sl vs).length) Slot.unset).toArray) n (lvO 0 L) := by
  subst hL
  exact lvO_sub (lv_entry vs h) (fun i v hi => by have := arL_mem vs _ 0 i v hi; rwa [Nat.zero_add] at this)
section MTS
variable {G : Gh} {l : Launch} {y : MethodName} {cc : ByteArray} {nL : Nat} {rm : Room} {As : List Value} {L : List (Option Value)} {σ : St}
theorem mt_I {o : Option (Int × St)} (hy : plainName y.cls = true) (hl : (lg_sl As).length ≤ nL) (hL : arL As ++ List.replicate (nL - (arL As).length) none = L) (h : SW G l y.cls cc nL rm wI 0 L [] σ o) : MT G l y cc nL (some .int) rm As wI σ o := by
  intro r hr
  refine Met.ofW (cc := cc) (maxL := nL) (ret := (some .int)) hy rfl ?_
  intro p e s m args below meth c s₁ B hml hv
  obtain ⟨rfl, hK, hP⟩ := hv
  have hts := atoms_spec (ws := .code y cc nL (some .int) :: TB) B.pre
  have hown : s.vm.findClass y.cls = some m.cls := findClass_of_methodNamed B.named
  rw [lg_entry_eq]
  refine h r hr p e s m _ below meth c s.heap [] 0 0 _ _ ⟨⟨B.exec, B.bytes, hml, hown, fun w hw => hts w (List.mem_cons_of_mem _ hw)⟩, hK⟩ ⟨hP, va_S.rf⟩ (arL_has As hl hL) ⟨Nat.zero_le _, Nat.zero_le _⟩ ?_
  intro H' locs' pc' ls' hW hd
  exact W.iret (hlocks := B.notSynchronized) B.exec B.bytes B.returns (fun t ht hWm => ⟨⟨rfl, by rw [ht]; exact hW.1⟩, hW.2.F ht⟩) hW.2.2.2 hd
theorem mt_B {o : Option (Bool × St)} (hy : plainName y.cls = true) (hl : (lg_sl As).length ≤ nL) (hL : arL As ++ List.replicate (nL - (arL As).length) none = L) (h : SW G l y.cls cc nL rm wB 0 L [] σ o) : MT G l y cc nL (some .boolean) rm As wB σ o := by
  intro r hr
  refine Met.ofW (cc := cc) (maxL := nL) (ret := (some .boolean)) hy rfl ?_
  intro p e s m args below meth c s₁ B hml hv
  obtain ⟨rfl, hK, hP⟩ := hv
  have hts := atoms_spec (ws := .code y cc nL (some .boolean) :: TB) B.pre
  have hown : s.vm.findClass y.cls = some m.cls := findClass_of_methodNamed B.named
  rw [lg_entry_eq]
  refine h r hr p e s m _ below meth c s.heap [] 0 0 _ _ ⟨⟨B.exec, B.bytes, hml, hown, fun w hw => hts w (List.mem_cons_of_mem _ hw)⟩, hK⟩ ⟨hP, va_S.rf⟩ (arL_has As hl hL) ⟨Nat.zero_le _, Nat.zero_le _⟩ ?_
  intro H' locs' pc' ls' hW hd
  have hn : narrow .boolean (vi (bi r.1)) = vi (bi r.1) := by cases r.1 <;> rfl
  exact W.zret (hlocks := B.notSynchronized) B.exec B.bytes B.returns hn (fun t ht hWm => ⟨⟨rfl, by rw [ht]; exact hW.1⟩, hW.2.F ht⟩) hW.2.2.2 hd
theorem mt_L {o : Option (Int × St)} (hy : plainName y.cls = true) (hl : (lg_sl As).length ≤ nL) (hL : arL As ++ List.replicate (nL - (arL As).length) none = L) (h : SW G l y.cls cc nL rm wL 0 L [] σ o) : MT G l y cc nL (some .long) rm As wL σ o := by
  intro r hr
  refine Met.ofW (cc := cc) (maxL := nL) (ret := (some .long)) hy rfl ?_
  intro p e s m args below meth c s₁ B hml hv
  obtain ⟨rfl, hK, hP⟩ := hv
  have hts := atoms_spec (ws := .code y cc nL (some .long) :: TB) B.pre
  have hown : s.vm.findClass y.cls = some m.cls := findClass_of_methodNamed B.named
  rw [lg_entry_eq]
  refine h r hr p e s m _ below meth c s.heap [] 0 0 _ _ ⟨⟨B.exec, B.bytes, hml, hown, fun w hw => hts w (List.mem_cons_of_mem _ hw)⟩, hK⟩ ⟨hP, va_S.rf⟩ (arL_has As hl hL) ⟨Nat.zero_le _, Nat.zero_le _⟩ ?_
  intro H' locs' pc' ls' hW hd
  exact W.lret (hlocks := B.notSynchronized) B.exec B.bytes B.returns (fun t ht hWm => ⟨⟨rfl, by rw [ht]; exact hW.1⟩, hW.2.F ht⟩) hW.2.2.2 hd
theorem mt_V {o : Option (St)} (hy : plainName y.cls = true) (hl : (lg_sl As).length ≤ nL) (hL : arL As ++ List.replicate (nL - (arL As).length) none = L) (h : SW G l y.cls cc nL rm wV 0 L [] σ o) : MT G l y cc nL none rm As wV σ o := by
  intro r hr
  refine Met.ofW (cc := cc) (maxL := nL) (ret := none) hy rfl ?_
  intro p e s m args below meth c s₁ B hml hv
  obtain ⟨rfl, hK, hP⟩ := hv
  have hts := atoms_spec (ws := .code y cc nL none :: TB) B.pre
  have hown : s.vm.findClass y.cls = some m.cls := findClass_of_methodNamed B.named
  rw [lg_entry_eq]
  refine h r hr p e s m _ below meth c s.heap [] 0 0 _ _ ⟨⟨B.exec, B.bytes, hml, hown, fun w hw => hts w (List.mem_cons_of_mem _ hw)⟩, hK⟩ ⟨hP, va_S.rf⟩ (arL_has As hl hL) ⟨Nat.zero_le _, Nat.zero_le _⟩ ?_
  intro H' locs' pc' ls' hW hd
  exact W.vret (hlocks := B.notSynchronized) B.exec B.bytes B.returns (fun t ht hWm => ⟨⟨rfl, by rw [ht]; exact hW.1⟩, hW.2.F ht⟩) hW.2.2.2 hd
theorem mt_R {C : String} {o : Option (Nat × St)} (hy : plainName y.cls = true) (hl : (lg_sl As).length ≤ nL) (hL : arL As ++ List.replicate (nL - (arL As).length) none = L) (h : SW G l y.cls cc nL rm (wR G) 0 L [] σ o) : MT G l y cc nL (some (.object C)) rm As (wR G) σ o := by
  intro r hr
  refine Met.ofW (cc := cc) (maxL := nL) (ret := (some (.object C))) hy rfl ?_
  intro p e s m args below meth c s₁ B hml hv
  obtain ⟨rfl, hK, hP⟩ := hv
  have hts := atoms_spec (ws := .code y cc nL (some (.object C)) :: TB) B.pre
  have hown : s.vm.findClass y.cls = some m.cls := findClass_of_methodNamed B.named
  rw [lg_entry_eq]
  refine h r hr p e s m _ below meth c s.heap [] 0 0 _ _ ⟨⟨B.exec, B.bytes, hml, hown, fun w hw => hts w (List.mem_cons_of_mem _ hw)⟩, hK⟩ ⟨hP, va_S.rf⟩ (arL_has As hl hL) ⟨Nat.zero_le _, Nat.zero_le _⟩ ?_
  intro H' locs' pc' ls' hW hd
  exact W.aret (hlocks := B.notSynchronized) B.exec B.bytes B.returns (Or.inl ⟨_, rfl⟩) (Or.inr ⟨_, rfl⟩) (fun t ht hWm => ⟨⟨rfl, by rw [ht]; exact hW.1⟩, hW.2.F ht⟩) hW.2.2.2 hd
/-! answers of type char and byte -/
theorem nac_nar (x : Int) : narrow .char (vi (nac x)) = vi (nac x) := by
  unfold nac
  rw [vi_toInt, vp_nar_char]
  exact pk_nc_ _
theorem mt_C {o : Option (Int × St)} (hy : plainName y.cls = true) (hl : (lg_sl As).length ≤ nL) (hL : arL As ++ List.replicate (nL - (arL As).length) none = L) (h : SW G l y.cls cc nL rm wC 0 L [] σ o) : MT G l y cc nL (some .char) rm As wC σ o := by
  intro r hr
  refine Met.ofW (cc := cc) (maxL := nL) (ret := (some .char)) hy rfl ?_
  intro p e s m args below meth c s₁ B hml hv
  obtain ⟨rfl, hK, hP⟩ := hv
  have hts := atoms_spec (ws := .code y cc nL (some .char) :: TB) B.pre
  have hown : s.vm.findClass y.cls = some m.cls := findClass_of_methodNamed B.named
  rw [lg_entry_eq]
  refine h r hr p e s m _ below meth c s.heap [] 0 0 _ _ ⟨⟨B.exec, B.bytes, hml, hown, fun w hw => hts w (List.mem_cons_of_mem _ hw)⟩, hK⟩ ⟨hP, va_S.rf⟩ (arL_has As hl hL) ⟨Nat.zero_le _, Nat.zero_le _⟩ ?_
  intro H' locs' pc' ls' hW hd
  exact W.zret (hlocks := B.notSynchronized) B.exec B.bytes B.returns (nac_nar r.1) (fun t ht hWm => ⟨⟨rfl, by rw [ht]; exact hW.1⟩, hW.2.F ht⟩) hW.2.2.2 hd
theorem nab_nar (x : Int) : narrow .byte (vi (nab x)) = vi (nab x) := by
  unfold nab
  rw [vi_toInt, vp_nar_byte]
  exact pk_nb _
theorem mt_Y {o : Option (Int × St)} (hy : plainName y.cls = true) (hl : (lg_sl As).length ≤ nL) (hL : arL As ++ List.replicate (nL - (arL As).length) none = L) (h : SW G l y.cls cc nL rm wY 0 L [] σ o) : MT G l y cc nL (some .byte) rm As wY σ o := by
  intro r hr
  refine Met.ofW (cc := cc) (maxL := nL) (ret := (some .byte)) hy rfl ?_
  intro p e s m args below meth c s₁ B hml hv
  obtain ⟨rfl, hK, hP⟩ := hv
  have hts := atoms_spec (ws := .code y cc nL (some .byte) :: TB) B.pre
  have hown : s.vm.findClass y.cls = some m.cls := findClass_of_methodNamed B.named
  rw [lg_entry_eq]
  refine h r hr p e s m _ below meth c s.heap [] 0 0 _ _ ⟨⟨B.exec, B.bytes, hml, hown, fun w hw => hts w (List.mem_cons_of_mem _ hw)⟩, hK⟩ ⟨hP, va_S.rf⟩ (arL_has As hl hL) ⟨Nat.zero_le _, Nat.zero_le _⟩ ?_
  intro H' locs' pc' ls' hW hd
  exact W.zret (hlocks := B.notSynchronized) B.exec B.bytes B.returns (nab_nar r.1) (fun t ht hWm => ⟨⟨rfl, by rw [ht]; exact hW.1⟩, hW.2.F ht⟩) hW.2.2.2 hd
end MTS
/-- the words of a call: of a static method; of a method of an object of class ci; of a static nest mate -/
def CS (own : String) (idx : Nat) (y : MethodName) (cc : ByteArray) (nL : Nat) (ret : Option FieldType) (n : Nat) : Prop := Cond.methodLink own idx y ∈ TB ∧ Cond.static y ∈ TB ∧ Cond.initialized y.cls ∈ TB ∧ Cond.code y cc nL ret ∈ TB ∧ (y.cls ≠ "java/lang/invoke/MethodHandle" ∧ y.cls ≠ "java/lang/invoke/VarHandle" ∧ (parseMethodDescriptor y.desc).map (fun d => d.parameters.length) = some n)
def CN (own : String) (idx : Nat) (y : MethodName) (host : String) (cc : ByteArray) (nL : Nat) (ret : Option FieldType) (n : Nat) : Prop := (∀ (G : Gh) (U : State), KG G U → va_Nw (.methodLinkNest own idx y host) U) ∧ Cond.static y ∈ TB ∧ Cond.initialized y.cls ∈ TB ∧ Cond.code y cc nL ret ∈ TB ∧ (y.cls ≠ "java/lang/invoke/MethodHandle" ∧ y.cls ≠ "java/lang/invoke/VarHandle" ∧ (parseMethodDescriptor y.desc).map (fun d => d.parameters.length) = some n)
def CV (own : String) (idx ci : Nat) (y : MethodName) (cc : ByteArray) (nL : Nat) (ret : Option FieldType) (n : Nat) : Prop := Cond.methodLink own idx y ∈ TB ∧ Cond.instanceMethod y ∈ TB ∧ Cond.selects y.cls y y ∈ TB ∧ Cond.initialized y.cls ∈ TB ∧ Cond.code y cc nL ret ∈ TB ∧ (y.cls = y.cls ∧ y.cls ≠ "java/lang/invoke/MethodHandle" ∧ y.cls ≠ "java/lang/invoke/VarHandle" ∧ (parseMethodDescriptor y.desc).map (fun d => d.parameters.length) = some n) ∧ ci < 6 ∧ ∃ (T : u_T) (N : Nat), vwCl[ci]? = some (y.cls, T, N)
def CK (own : String) (idx : Nat) (y : MethodName) (cc : ByteArray) (nL : Nat) (ret : Option FieldType) (n : Nat) : Prop := Cond.methodLink own idx y ∈ TB ∧ Cond.instanceMethod y ∈ TB ∧ Cond.selects "java/lang/String" y y ∈ TB ∧ Cond.initialized "java/lang/String" ∈ TB ∧ Cond.code y cc nL ret ∈ TB ∧ (y.cls = "java/lang/String" ∧ y.cls ≠ "java/lang/invoke/MethodHandle" ∧ y.cls ≠ "java/lang/invoke/VarHandle" ∧ (parseMethodDescriptor y.desc).map (fun d => d.parameters.length) = some n)
/-- does a callee's room fit -/
def fitR (rc rm : Room) (nL : Nat) : Bool := decide (rc.cells = 0) && decide (rc.slots = 0) && decide (rc.frames + 1 ≤ rm.frames) && decide (8 + (nL + 11) + rc.locals ≤ rm.locals)
theorem fitR_of {rc rm : Room} {nL : Nat} (h : fitR rc rm nL = true) : rc.cells = 0 ∧ rc.slots = 0 ∧ (rc.frames + 1 ≤ rm.frames ∧ 8 + (nL + 11) + rc.locals ≤ rm.locals) := by
  simp only [fitR, Bool.and_eq_true, decide_eq_true_eq] at h
  exact ⟨h.1.1.1, h.1.1.2, h.1.2, h.2⟩
def cat8 (rest : List Value) : Bool := decide ((rest.map fun v => v.category).sum ≤ 8)
section SWC
variable {G : Gh} {l : Launch} {own : String} {cc : ByteArray} {nL : Nat} {rm : Room} {ρ : Type} {w : ρ → Option Value × St} {pc pc' : Nat} {L : List (Option Value)} {st rest : List Value} {σ : St}
  {α : Type} {w' : α → Option Value × St} {y : MethodName} {cc' : ByteArray} {nL' : Nat} {ret' : Option FieldType} {rm' : Room} {As : List Value} {idx n : Nat}
theorem pcBlind : FrameBlind (va_Pc As (fun U => KG G U ∧ va_P (gD G) vwCl (wd G σ) U.heap)) := fun a U g mk h => ⟨h.1, KG.same (u := U) rfl rfl h.2.1, h.2.2⟩
/-- behind a call -/
theorem callW {q : α} {p : Program} {e : Env} {s : State} {m : MethodId} {args : Array Value} {below : List Frame} {meth : Method} {c : Code} {H : Heap} {locs : List Loc} {cells slots : Nat} {Q : State → Prop} {ls : Array Slot}
    (hrun : va_Run p l e rm s m args below meth c H locs cells slots 0 0 (F0 m pc ls st) rest (fun st oc t => (oc = .returned (w' q).1 ∧ va_P (gD G) vwCl (wd G (w' q).2) t.heap) ∧ va_F (AD G) st t) (AD G)) (hW : WD G σ s.heap H locs)
    (kk : ∀ (H1 : Heap) (locs1 : List Loc), WD G (w' q).2 s.heap H1 locs1 → W p l e rm s m args below meth c H1 locs1 cells slots Q (F0 m (pc + 3) ls ((w' q).1.toList ++ rest))) : W p l e rm s m args below meth c H locs cells slots Q (F0 m pc ls st) := by
  intro T hT X
  obtain ⟨v, st₀, t, T', L', h0, X', hL, e1, e2, ⟨⟨hv, hP'⟩, hz, hk⟩, stp⟩ := hrun T hT X
  cases hv
  rw [h0] at hz hk
  obtain ⟨t2, a1, b1⟩ := kk T'.heap (locs ++ L') ⟨by rw [e1]; exact hP', Nat.le_trans hW.2.1 (by rw [e1]; exact hz), fun q h1 h2 => by rw [e1, hk q (Nat.lt_of_lt_of_le h1 hW.2.1) h2]; exact hW.2.2.1 q h1 h2, fun q hq => by
      rcases List.mem_append.mp hq with h | h
      · exact hW.2.2.2 q h
      · exact hL q h⟩ T' rfl X'
  exact ⟨t2, stp t2 a1, b1⟩
theorem inTB3 {a b c d : Cond} (ha : a ∈ TB) (hb : b ∈ TB) (hc : c ∈ TB) (hd : d ∈ TB) : ∀ w ∈ ([a, b, c] : List Cond) ++ (d :: TB), w ∈ TB := by
  intro w hw
  simp only [List.cons_append, List.nil_append, List.mem_cons] at hw
  rcases hw with rfl | rfl | rfl | rfl | hw <;> assumption
theorem inTB4 {a b c d x : Cond} (ha : a ∈ TB) (hb : b ∈ TB) (hc : c ∈ TB) (hx : x ∈ TB) (hd : d ∈ TB) : ∀ w ∈ ([a, b, c, x] : List Cond) ++ (d :: TB), w ∈ TB := by
  intro w hw
  simp only [List.cons_append, List.nil_append, List.mem_cons] at hw
  rcases hw with rfl | rfl | rfl | rfl | rfl | hw <;> assumption
theorem inTB1 {d : Cond} (hd : d ∈ TB) : ∀ w ∈ (d :: TB), w ∈ TB := by
  intro w hw
  rcases List.mem_cons.mp hw with rfl | hw <;> assumption
theorem sw_callS {o' : Option α} {kf : α → Option ρ} (hd : decode cc pc = .ok (.invokestatic idx, 3)) (hc : CS own idx y cc' nL' ret' n) (hM : MT G l y cc' nL' ret' rm' As w' σ o') (hn : As.length = n) (hR : fitR rm' rm nL' = true) (hst : st = As.reverse ++ rest) (h8 : cat8 rest = true) (hp : pc' = pc + 3)
    (kk : ∀ q, SW G l own cc nL rm w pc' L ((w' q).1.toList ++ rest) (w' q).2 (kf q)) : SW G l own cc nL rm w pc L st σ (bV o' kf) := by
  subst hp
  intro r hr p e s m args below meth c H locs cells slots Q ls hC hW hl hcs hRet
  obtain ⟨c1, c2, c3, c4, c5⟩ := hc
  obtain ⟨r1, r2, r3⟩ := fitR_of hR
  cases o' with
  | none => cases hr
  | some q =>
    have hrun := va_runS (H := H) (g := F0 m pc ls st) (rest := rest) (e := e) (below := below) (meth := meth) (locs := locs) (cells := cells) (slots := slots) hC.1 (hM q rfl) (va_cwS n hC.1.2.2.2.2 (goodTB (inTB3 c1 c2 c3 c4)) rfl r1 r2 c5 r3) ⟨pcBlind, fun U hU hWm => ⟨rfl, KG.warm hWm (fun q h1 h2 => by rw [hU]; exact hW.2.2.1 q h1 h2) hC.2, by rw [hU]; exact hW.1⟩⟩ rfl hn hl.1 hst (lv_room (of_decide_eq_true h8)) hd hcs
    exact callW hrun hW (fun H1 locs1 hW1 => kk q r hr p e s m args below meth c H1 locs1 cells slots Q ls hC hW1 hl hcs hRet)
theorem sw_callN {host : String} {o' : Option α} {kf : α → Option ρ} (hd : decode cc pc = .ok (.invokestatic idx, 3)) (hc : CN own idx y host cc' nL' ret' n) (hM : MT G l y cc' nL' ret' rm' As w' σ o') (hn : As.length = n) (hR : fitR rm' rm nL' = true) (hst : st = As.reverse ++ rest) (h8 : cat8 rest = true) (hp : pc' = pc + 3)
    (kk : ∀ q, SW G l own cc nL rm w pc' L ((w' q).1.toList ++ rest) (w' q).2 (kf q)) : SW G l own cc nL rm w pc L st σ (bV o' kf) := by
  subst hp
  intro r hr p e s m args below meth c H locs cells slots Q ls hC hW hl hcs hRet
  obtain ⟨c1, c2, c3, c4, c5⟩ := hc
  obtain ⟨r1, r2, r3⟩ := fitR_of hR
  cases o' with
  | none => cases hr
  | some q =>
    have hrun := va_runSN (H := H) (g := F0 m pc ls st) (rest := rest) (e := e) (below := below) (meth := meth) (locs := locs) (cells := cells) (slots := slots) hC.1 (hM q rfl) ⟨va_cnB n hC.1.2.2.2.2 (goodTB (inTB1 c4)) rfl r1 r2 (c1 G s hC.2) (hC.1.2.2.2.2 _ c3) c5 r3, hC.1.2.2.2.2 _ c2, trivial⟩ ⟨pcBlind, fun U hU hWm => ⟨rfl, KG.warm hWm (fun q h1 h2 => by rw [hU]; exact hW.2.2.1 q h1 h2) hC.2, by rw [hU]; exact hW.1⟩⟩ rfl hn hl.1 hst (lv_room (of_decide_eq_true h8)) hd hcs
    exact callW hrun hW (fun H1 locs1 hW1 => kk q r hr p e s m args below meth c H1 locs1 cells slots Q ls hC hW1 hl hcs hRet)
theorem sw_callV {k ci : Nat} {fl : List (Option Nat)} {o' : Option α} {kf : α → Option ρ} (hd : decode cc pc = .ok (.invokevirtual idx, 3)) (hc : CV own idx ci y cc' nL' ret' n) (ht : tb k = .inr (ci, fl)) (hM : MT G l y cc' nL' ret' rm' (.ref (ad G k) :: As) w' σ o') (hn : As.length = n) (hR : fitR rm' rm nL' = true) (hst : st = As.reverse ++ .ref (ad G k) :: rest) (h8 : cat8 rest = true) (hp : pc' = pc + 3)
    (kk : ∀ q, SW G l own cc nL rm w pc' L ((w' q).1.toList ++ rest) (w' q).2 (kf q)) : SW G l own cc nL rm w pc L st σ (bV o' kf) := by
  subst hp
  intro r hr p e s m args below meth c H locs cells slots Q ls hC hW hl hcs hRet
  obtain ⟨c1, c2, c3, c4, c5, c6, c7, T, N, c8⟩ := hc
  obtain ⟨r1, r2, r3⟩ := fitR_of hR
  cases o' with
  | none => cases hr
  | some q =>
    have hrun := va_runV (H := H) (C := y.cls) (b := ad G k) (g := F0 m pc ls st) (rest := rest) (e := e) (below := below) (meth := meth) (locs := locs) (cells := cells) (slots := slots) hC.1 (hM q rfl) (cwV n hC.1.2.2.2.2 (goodTB (inTB4 c1 c2 c3 c4 c5)) rfl r1 r2 c6 r3) ⟨pcBlind, va_recv hC.2.1 hW.1 c8 (wd_gobj ht c7), fun U hU hWm => ⟨rfl, KG.warm hWm (fun q h1 h2 => by rw [hU]; exact hW.2.2.1 q h1 h2) hC.2, by rw [hU]; exact hW.1⟩⟩ rfl hn hl.1 hst (lv_room (of_decide_eq_true h8)) hd hcs
    exact callW hrun hW (fun H1 locs1 hW1 => kk q r hr p e s m args below meth c H1 locs1 cells slots Q ls hC hW1 hl hcs hRet)
theorem sw_callK {i : Nat} {o' : Option α} {kf : α → Option ρ} (hi : i < 7) (hd : decode cc pc = .ok (.invokevirtual idx, 3)) (hc : CK own idx y cc' nL' ret' n) (hM : MT G l y cc' nL' ret' rm' (.ref (gK G i) :: As) w' σ o') (hn : As.length = n) (hR : fitR rm' rm nL' = true) (hst : st = As.reverse ++ .ref (gK G i) :: rest) (h8 : cat8 rest = true) (hp : pc' = pc + 3)
    (kk : ∀ q, SW G l own cc nL rm w pc' L ((w' q).1.toList ++ rest) (w' q).2 (kf q)) : SW G l own cc nL rm w pc L st σ (bV o' kf) := by
  subst hp
  intro r hr p e s m args below meth c H locs cells slots Q ls hC hW hl hcs hRet
  obtain ⟨c1, c2, c3, c4, c5, c6⟩ := hc
  obtain ⟨r1, r2, r3⟩ := fitR_of hR
  cases o' with
  | none => cases hr
  | some q =>
    have hrun := va_runV (H := H) (C := "java/lang/String") (b := gK G i) (g := F0 m pc ls st) (rest := rest) (e := e) (below := below) (meth := meth) (locs := locs) (cells := cells) (slots := slots) hC.1 (hM q rfl) (cwV n hC.1.2.2.2.2 (goodTB (inTB4 c1 c2 c3 c4 c5)) rfl r1 r2 c6 r3) ⟨pcBlind, vk_recv hC.2.2.2.2.2.1 hi hW.2, fun U hU hWm => ⟨rfl, KG.warm hWm (fun q h1 h2 => by rw [hU]; exact hW.2.2.1 q h1 h2) hC.2, by rw [hU]; exact hW.1⟩⟩ rfl hn hl.1 hst (lv_room (of_decide_eq_true h8)) hd hcs
    exact callW hrun hW (fun H1 locs1 hW1 => kk q r hr p e s m args below meth c H1 locs1 cells slots Q ls hC hW1 hl hcs hRet)
theorem bI_bV {β : Type} (o' : Option (β × St)) (kf : β → St → Option ρ) : bI o' kf = bV o' (fun q => kf q.1 q.2) := by
  cases o' with
  | none => rfl
  | some q => rfl
theorem sw_callSI {o' : Option (Int × St)} {kf : Int → St → Option ρ} (hd : decode cc pc = .ok (.invokestatic idx, 3)) (hc : CS own idx y cc' nL' ret' n) (hM : MT G l y cc' nL' ret' rm' As wI σ o') (hn : As.length = n) (hR : fitR rm' rm nL' = true) (hst : st = As.reverse ++ rest) (h8 : cat8 rest = true) (hp : pc' = pc + 3)
    (kk : ∀ v τ, SW G l own cc nL rm w pc' L (vi v :: rest) τ (kf v τ)) : SW G l own cc nL rm w pc L st σ (bI o' kf) := by
  rw [bI_bV]
  exact sw_callS hd hc hM hn hR hst h8 hp (fun q => kk q.1 q.2)
theorem sw_callSB {o' : Option (Bool × St)} {kf : Bool → St → Option ρ} (hd : decode cc pc = .ok (.invokestatic idx, 3)) (hc : CS own idx y cc' nL' ret' n) (hM : MT G l y cc' nL' ret' rm' As wB σ o') (hn : As.length = n) (hR : fitR rm' rm nL' = true) (hst : st = As.reverse ++ rest) (h8 : cat8 rest = true) (hp : pc' = pc + 3)
    (kk : ∀ v τ, SW G l own cc nL rm w pc' L (vi (bi v) :: rest) τ (kf v τ)) : SW G l own cc nL rm w pc L st σ (bI o' kf) := by
  rw [bI_bV]
  exact sw_callS hd hc hM hn hR hst h8 hp (fun q => kk q.1 q.2)
theorem sw_callSL {o' : Option (Int × St)} {kf : Int → St → Option ρ} (hd : decode cc pc = .ok (.invokestatic idx, 3)) (hc : CS own idx y cc' nL' ret' n) (hM : MT G l y cc' nL' ret' rm' As wL σ o') (hn : As.length = n) (hR : fitR rm' rm nL' = true) (hst : st = As.reverse ++ rest) (h8 : cat8 rest = true) (hp : pc' = pc + 3)
    (kk : ∀ v τ, SW G l own cc nL rm w pc' L (vl v :: rest) τ (kf v τ)) : SW G l own cc nL rm w pc L st σ (bI o' kf) := by
  rw [bI_bV]
  exact sw_callS hd hc hM hn hR hst h8 hp (fun q => kk q.1 q.2)
theorem sw_callSR {o' : Option (Nat × St)} {kf : Nat → St → Option ρ} (hd : decode cc pc = .ok (.invokestatic idx, 3)) (hc : CS own idx y cc' nL' ret' n) (hM : MT G l y cc' nL' ret' rm' As (wR G) σ o') (hn : As.length = n) (hR : fitR rm' rm nL' = true) (hst : st = As.reverse ++ rest) (h8 : cat8 rest = true) (hp : pc' = pc + 3)
    (kk : ∀ v τ, SW G l own cc nL rm w pc' L (.ref (ad G v) :: rest) τ (kf v τ)) : SW G l own cc nL rm w pc L st σ (bI o' kf) := by
  rw [bI_bV]
  exact sw_callS hd hc hM hn hR hst h8 hp (fun q => kk q.1 q.2)
theorem sw_callSV {o' : Option St} {kf : St → Option ρ} (hd : decode cc pc = .ok (.invokestatic idx, 3)) (hc : CS own idx y cc' nL' ret' n) (hM : MT G l y cc' nL' ret' rm' As wV σ o') (hn : As.length = n) (hR : fitR rm' rm nL' = true) (hst : st = As.reverse ++ rest) (h8 : cat8 rest = true) (hp : pc' = pc + 3)
    (kk : ∀ τ, SW G l own cc nL rm w pc' L rest τ (kf τ)) : SW G l own cc nL rm w pc L st σ (bV o' kf) :=
  sw_callS hd hc hM hn hR hst h8 hp (fun q => kk q)
theorem sw_callNI {host : String} {o' : Option (Int × St)} {kf : Int → St → Option ρ} (hd : decode cc pc = .ok (.invokestatic idx, 3)) (hc : CN own idx y host cc' nL' ret' n) (hM : MT G l y cc' nL' ret' rm' As wI σ o') (hn : As.length = n) (hR : fitR rm' rm nL' = true) (hst : st = As.reverse ++ rest) (h8 : cat8 rest = true) (hp : pc' = pc + 3)
    (kk : ∀ v τ, SW G l own cc nL rm w pc' L (vi v :: rest) τ (kf v τ)) : SW G l own cc nL rm w pc L st σ (bI o' kf) := by
  rw [bI_bV]
  exact sw_callN hd hc hM hn hR hst h8 hp (fun q => kk q.1 q.2)
theorem sw_callNB {host : String} {o' : Option (Bool × St)} {kf : Bool → St → Option ρ} (hd : decode cc pc = .ok (.invokestatic idx, 3)) (hc : CN own idx y host cc' nL' ret' n) (hM : MT G l y cc' nL' ret' rm' As wB σ o') (hn : As.length = n) (hR : fitR rm' rm nL' = true) (hst : st = As.reverse ++ rest) (h8 : cat8 rest = true) (hp : pc' = pc + 3)
    (kk : ∀ v τ, SW G l own cc nL rm w pc' L (vi (bi v) :: rest) τ (kf v τ)) : SW G l own cc nL rm w pc L st σ (bI o' kf) := by
  rw [bI_bV]
  exact sw_callN hd hc hM hn hR hst h8 hp (fun q => kk q.1 q.2)
theorem sw_callNL {host : String} {o' : Option (Int × St)} {kf : Int → St → Option ρ} (hd : decode cc pc = .ok (.invokestatic idx, 3)) (hc : CN own idx y host cc' nL' ret' n) (hM : MT G l y cc' nL' ret' rm' As wL σ o') (hn : As.length = n) (hR : fitR rm' rm nL' = true) (hst : st = As.reverse ++ rest) (h8 : cat8 rest = true) (hp : pc' = pc + 3)
    (kk : ∀ v τ, SW G l own cc nL rm w pc' L (vl v :: rest) τ (kf v τ)) : SW G l own cc nL rm w pc L st σ (bI o' kf) := by
  rw [bI_bV]
  exact sw_callN hd hc hM hn hR hst h8 hp (fun q => kk q.1 q.2)
theorem sw_callNR {host : String} {o' : Option (Nat × St)} {kf : Nat → St → Option ρ} (hd : decode cc pc = .ok (.invokestatic idx, 3)) (hc : CN own idx y host cc' nL' ret' n) (hM : MT G l y cc' nL' ret' rm' As (wR G) σ o') (hn : As.length = n) (hR : fitR rm' rm nL' = true) (hst : st = As.reverse ++ rest) (h8 : cat8 rest = true) (hp : pc' = pc + 3)
    (kk : ∀ v τ, SW G l own cc nL rm w pc' L (.ref (ad G v) :: rest) τ (kf v τ)) : SW G l own cc nL rm w pc L st σ (bI o' kf) := by
  rw [bI_bV]
  exact sw_callN hd hc hM hn hR hst h8 hp (fun q => kk q.1 q.2)
theorem sw_callNV {host : String} {o' : Option St} {kf : St → Option ρ} (hd : decode cc pc = .ok (.invokestatic idx, 3)) (hc : CN own idx y host cc' nL' ret' n) (hM : MT G l y cc' nL' ret' rm' As wV σ o') (hn : As.length = n) (hR : fitR rm' rm nL' = true) (hst : st = As.reverse ++ rest) (h8 : cat8 rest = true) (hp : pc' = pc + 3)
    (kk : ∀ τ, SW G l own cc nL rm w pc' L rest τ (kf τ)) : SW G l own cc nL rm w pc L st σ (bV o' kf) :=
  sw_callN hd hc hM hn hR hst h8 hp (fun q => kk q)
theorem sw_callVI {k ci : Nat} {fl : List (Option Nat)} {o' : Option (Int × St)} {kf : Int → St → Option ρ} (hd : decode cc pc = .ok (.invokevirtual idx, 3)) (hc : CV own idx ci y cc' nL' ret' n) (ht : tb k = .inr (ci, fl)) (hM : MT G l y cc' nL' ret' rm' (.ref (ad G k) :: As) wI σ o') (hn : As.length = n) (hR : fitR rm' rm nL' = true) (hst : st = As.reverse ++ .ref (ad G k) :: rest) (h8 : cat8 rest = true) (hp : pc' = pc + 3)
    (kk : ∀ v τ, SW G l own cc nL rm w pc' L (vi v :: rest) τ (kf v τ)) : SW G l own cc nL rm w pc L st σ (bI o' kf) := by
  rw [bI_bV]
  exact sw_callV hd hc ht hM hn hR hst h8 hp (fun q => kk q.1 q.2)
theorem sw_callVB {k ci : Nat} {fl : List (Option Nat)} {o' : Option (Bool × St)} {kf : Bool → St → Option ρ} (hd : decode cc pc = .ok (.invokevirtual idx, 3)) (hc : CV own idx ci y cc' nL' ret' n) (ht : tb k = .inr (ci, fl)) (hM : MT G l y cc' nL' ret' rm' (.ref (ad G k) :: As) wB σ o') (hn : As.length = n) (hR : fitR rm' rm nL' = true) (hst : st = As.reverse ++ .ref (ad G k) :: rest) (h8 : cat8 rest = true) (hp : pc' = pc + 3)
    (kk : ∀ v τ, SW G l own cc nL rm w pc' L (vi (bi v) :: rest) τ (kf v τ)) : SW G l own cc nL rm w pc L st σ (bI o' kf) := by
  rw [bI_bV]
  exact sw_callV hd hc ht hM hn hR hst h8 hp (fun q => kk q.1 q.2)
theorem sw_callVL {k ci : Nat} {fl : List (Option Nat)} {o' : Option (Int × St)} {kf : Int → St → Option ρ} (hd : decode cc pc = .ok (.invokevirtual idx, 3)) (hc : CV own idx ci y cc' nL' ret' n) (ht : tb k = .inr (ci, fl)) (hM : MT G l y cc' nL' ret' rm' (.ref (ad G k) :: As) wL σ o') (hn : As.length = n) (hR : fitR rm' rm nL' = true) (hst : st = As.reverse ++ .ref (ad G k) :: rest) (h8 : cat8 rest = true) (hp : pc' = pc + 3)
    (kk : ∀ v τ, SW G l own cc nL rm w pc' L (vl v :: rest) τ (kf v τ)) : SW G l own cc nL rm w pc L st σ (bI o' kf) := by
  rw [bI_bV]
  exact sw_callV hd hc ht hM hn hR hst h8 hp (fun q => kk q.1 q.2)
theorem sw_callVR {k ci : Nat} {fl : List (Option Nat)} {o' : Option (Nat × St)} {kf : Nat → St → Option ρ} (hd : decode cc pc = .ok (.invokevirtual idx, 3)) (hc : CV own idx ci y cc' nL' ret' n) (ht : tb k = .inr (ci, fl)) (hM : MT G l y cc' nL' ret' rm' (.ref (ad G k) :: As) (wR G) σ o') (hn : As.length = n) (hR : fitR rm' rm nL' = true) (hst : st = As.reverse ++ .ref (ad G k) :: rest) (h8 : cat8 rest = true) (hp : pc' = pc + 3)
    (kk : ∀ v τ, SW G l own cc nL rm w pc' L (.ref (ad G v) :: rest) τ (kf v τ)) : SW G l own cc nL rm w pc L st σ (bI o' kf) := by
  rw [bI_bV]
  exact sw_callV hd hc ht hM hn hR hst h8 hp (fun q => kk q.1 q.2)
theorem sw_callVV {k ci : Nat} {fl : List (Option Nat)} {o' : Option St} {kf : St → Option ρ} (hd : decode cc pc = .ok (.invokevirtual idx, 3)) (hc : CV own idx ci y cc' nL' ret' n) (ht : tb k = .inr (ci, fl)) (hM : MT G l y cc' nL' ret' rm' (.ref (ad G k) :: As) wV σ o') (hn : As.length = n) (hR : fitR rm' rm nL' = true) (hst : st = As.reverse ++ .ref (ad G k) :: rest) (h8 : cat8 rest = true) (hp : pc' = pc + 3)
    (kk : ∀ τ, SW G l own cc nL rm w pc' L rest τ (kf τ)) : SW G l own cc nL rm w pc L st σ (bV o' kf) :=
  sw_callV hd hc ht hM hn hR hst h8 hp (fun q => kk q)
theorem sw_callKI {i : Nat} {o' : Option (Int × St)} {kf : Int → St → Option ρ} (hi : i < 7) (hd : decode cc pc = .ok (.invokevirtual idx, 3)) (hc : CK own idx y cc' nL' ret' n) (hM : MT G l y cc' nL' ret' rm' (.ref (gK G i) :: As) wI σ o') (hn : As.length = n) (hR : fitR rm' rm nL' = true) (hst : st = As.reverse ++ .ref (gK G i) :: rest) (h8 : cat8 rest = true) (hp : pc' = pc + 3)
    (kk : ∀ v τ, SW G l own cc nL rm w pc' L (vi v :: rest) τ (kf v τ)) : SW G l own cc nL rm w pc L st σ (bI o' kf) := by
  rw [bI_bV]
  exact sw_callK hi hd hc hM hn hR hst h8 hp (fun q => kk q.1 q.2)
theorem sw_callKB {i : Nat} {o' : Option (Bool × St)} {kf : Bool → St → Option ρ} (hi : i < 7) (hd : decode cc pc = .ok (.invokevirtual idx, 3)) (hc : CK own idx y cc' nL' ret' n) (hM : MT G l y cc' nL' ret' rm' (.ref (gK G i) :: As) wB σ o') (hn : As.length = n) (hR : fitR rm' rm nL' = true) (hst : st = As.reverse ++ .ref (gK G i) :: rest) (h8 : cat8 rest = true) (hp : pc' = pc + 3)
    (kk : ∀ v τ, SW G l own cc nL rm w pc' L (vi (bi v) :: rest) τ (kf v τ)) : SW G l own cc nL rm w pc L st σ (bI o' kf) := by
  rw [bI_bV]
  exact sw_callK hi hd hc hM hn hR hst h8 hp (fun q => kk q.1 q.2)
theorem sw_callKC {i : Nat} {o' : Option (Int × St)} {kf : Int → St → Option ρ} (hi : i < 7) (hd : decode cc pc = .ok (.invokevirtual idx, 3)) (hc : CK own idx y cc' nL' ret' n) (hM : MT G l y cc' nL' ret' rm' (.ref (gK G i) :: As) wC σ o') (hn : As.length = n) (hR : fitR rm' rm nL' = true) (hst : st = As.reverse ++ .ref (gK G i) :: rest) (h8 : cat8 rest = true) (hp : pc' = pc + 3)
    (kk : ∀ v τ, SW G l own cc nL rm w pc' L (vi (nac v) :: rest) τ (kf v τ)) : SW G l own cc nL rm w pc L st σ (bI o' kf) := by
  rw [bI_bV]
  exact sw_callK hi hd hc hM hn hR hst h8 hp (fun q => kk q.1 q.2)
theorem sw_callKY {i : Nat} {o' : Option (Int × St)} {kf : Int → St → Option ρ} (hi : i < 7) (hd : decode cc pc = .ok (.invokevirtual idx, 3)) (hc : CK own idx y cc' nL' ret' n) (hM : MT G l y cc' nL' ret' rm' (.ref (gK G i) :: As) wY σ o') (hn : As.length = n) (hR : fitR rm' rm nL' = true) (hst : st = As.reverse ++ .ref (gK G i) :: rest) (h8 : cat8 rest = true) (hp : pc' = pc + 3)
    (kk : ∀ v τ, SW G l own cc nL rm w pc' L (vi (nab v) :: rest) τ (kf v τ)) : SW G l own cc nL rm w pc L st σ (bI o' kf) := by
  rw [bI_bV]
  exact sw_callK hi hd hc hM hn hR hst h8 hp (fun q => kk q.1 q.2)
theorem sw_callSC {o' : Option (Int × St)} {kf : Int → St → Option ρ} (hd : decode cc pc = .ok (.invokestatic idx, 3)) (hc : CS own idx y cc' nL' ret' n) (hM : MT G l y cc' nL' ret' rm' As wC σ o') (hn : As.length = n) (hR : fitR rm' rm nL' = true) (hst : st = As.reverse ++ rest) (h8 : cat8 rest = true) (hp : pc' = pc + 3)
    (kk : ∀ v τ, SW G l own cc nL rm w pc' L (vi (nac v) :: rest) τ (kf v τ)) : SW G l own cc nL rm w pc L st σ (bI o' kf) := by
  rw [bI_bV]
  exact sw_callS hd hc hM hn hR hst h8 hp (fun q => kk q.1 q.2)
theorem sw_callSY {o' : Option (Int × St)} {kf : Int → St → Option ρ} (hd : decode cc pc = .ok (.invokestatic idx, 3)) (hc : CS own idx y cc' nL' ret' n) (hM : MT G l y cc' nL' ret' rm' As wY σ o') (hn : As.length = n) (hR : fitR rm' rm nL' = true) (hst : st = As.reverse ++ rest) (h8 : cat8 rest = true) (hp : pc' = pc + 3)
    (kk : ∀ v τ, SW G l own cc nL rm w pc' L (vi (nab v) :: rest) τ (kf v τ)) : SW G l own cc nL rm w pc L st σ (bI o' kf) := by
  rw [bI_bV]
  exact sw_callS hd hc hM hn hR hst h8 hp (fun q => kk q.1 q.2)
end SWC
