/-! ===== the context, the judgement SW, a rule an instruction ===== -/
def TB : List Cond := lw_tbl.filter goodWord
theorem mTB {w : Cond} (h : w ∈ lw_tbl) (hg : goodWord w = true) : w ∈ TB := List.mem_filter.mpr ⟨h, hg⟩
theorem tb_at {w : Cond} (i : Nat) (h : lw_tbl[i]? = some w) (hg : goodWord w = true) : w ∈ TB := mTB (List.mem_of_getElem? h) hg
theorem tbP1 {w : Cond} (j : Nat) (h : tables_1_1[j]? = some w) (hg : goodWord w = true) : w ∈ TB := mTB (List.mem_append_right _ (List.mem_append_left _ (List.mem_of_getElem? h))) hg
theorem tbP2 {w : Cond} (j : Nat) (h : tables_1_2[j]? = some w) (hg : goodWord w = true) : w ∈ TB := mTB (List.mem_append_right _ (List.mem_append_right _ (List.mem_append_left _ (List.mem_of_getElem? h)))) hg
theorem tbP3 {w : Cond} (j : Nat) (h : tables_1_3[j]? = some w) (hg : goodWord w = true) : w ∈ TB := mTB (List.mem_append_right _ (List.mem_append_right _ (List.mem_append_right _ (List.mem_append_left _ (List.mem_of_getElem? h))))) hg
theorem tbP4 {w : Cond} (j : Nat) (h : tables_1_4[j]? = some w) (hg : goodWord w = true) : w ∈ TB := mTB (List.mem_append_right _ (List.mem_append_right _ (List.mem_append_right _ (List.mem_append_right _ (List.mem_append_left _ (List.mem_of_getElem? h)))))) hg
theorem tbP5 {w : Cond} (j : Nat) (h : tables_1_5[j]? = some w) (hg : goodWord w = true) : w ∈ TB := mTB (List.mem_append_right _ (List.mem_append_right _ (List.mem_append_right _ (List.mem_append_right _ (List.mem_append_right _ (List.mem_of_getElem? h)))))) hg
/-! the seven words of HorseSigns$Tape, by their order -/
def wLen : List Nat := [5, 7, 7, 5, 5, 5, 2]
def wByt : List (List Int32) := [[112, 108, 97, 105, 110], [109, 97, 114, 115, 104, 97, 108], [117, 115, 117, 114, 112, 101, 114], [113, 117, 105, 101, 116], [98, 101, 97, 114, 115], [116, 114, 117, 115, 116], [111, 110]]
def wIdx : List Nat := [75, 85, 87, 89, 91, 96, 101]
def wTxt : List String := ["plain", "marshal", "usurper", "quiet", "bears", "trust", "on"]
def gK (G : Gh) (i : Nat) : Nat := G.2.2.2.1 i
def gV (G : Gh) (i : Nat) : Nat := G.2.2.2.2 i
/-- what holds at every state: the classes, the cells apart, the nest's links, the words, the statics that are read -/
def KG (G : Gh) (U : State) : Prop := va_K (gD G) vwCl (gT G) U ∧ (∀ i j : Nat, i < 63 → j < 63 → ad G i = ad G j → i = j) ∧ va_Nw (.methodLinkNest "HorseSigns$Square" 73 yX4_reading "HorseSigns") U ∧ va_Nw (.methodLinkNest "HorseSigns$Square" 77 yX4_legsDown "HorseSigns") U ∧
  vk_S 7 wLen wByt (gK G) (gV G) (AD G) U U.heap ∧ va_Z "java/lang/String" "COMPACT_STRINGS" "Z" (.int 1) (AD G) U U.heap ∧ (∃ z : Option Nat, va_Z "jdk/internal/util/Preconditions" "SIOOBE_FORMATTER" "Ljava/util/function/BiFunction;" (va_rf z) (AD G) U U.heap) ∧ ∀ i, i < 7 → vk_R "HorseSigns$Tape" (wIdx.getD i 0) (wTxt.getD i "") (gK G i) U
theorem KG.warm {G : Gh} {s U : State} (hW : s.WarmedH U.vm) (hH : ∀ q : Nat, q < s.heap.size → ¬ AD G q → U.heap[q]? = s.heap[q]?) (h : KG G s) : KG G U :=
  ⟨va_K.moved hW.alike h.1, h.2.1, va_Nw.warmM hW h.2.2.1, va_Nw.warmM hW h.2.2.2.1, (vk_S.moved hW.alike h.2.2.2.2.1).kept hH, (va_Z.moved hW.alike h.2.2.2.2.2.1).kept hH, h.2.2.2.2.2.2.1.imp (fun _ hz => (va_Z.moved hW.alike hz).kept hH), fun i hi => vk_R.warm hW (h.2.2.2.2.2.2.2 i hi)⟩
theorem KG.same {G : Gh} {u U : State} (hv : u.vm = U.vm) (hh : u.heap = U.heap) (h : KG G u) : KG G U := by
  have ha : u.vm.Alike U.vm := by rw [hv]; exact Vm.Alike.refl U.vm
  refine ⟨va_K.moved ha h.1, h.2.1, va_Nw.same rfl hv h.2.2.1, va_Nw.same rfl hv h.2.2.2.1, ?_, ?_, ?_, fun i hi => vk_R.same hv.symm (h.2.2.2.2.2.2.2 i hi)⟩
  · rw [← hh]; exact vk_S.moved ha h.2.2.2.2.1
  · rw [← hh]; exact va_Z.moved ha h.2.2.2.2.2.1
  · rw [← hh]; exact h.2.2.2.2.2.2.1.imp (fun _ hz => va_Z.moved ha hz)
theorem KG.D {G : Gh} {U : State} (h : KG G U) (σ : St) : va_D (AD G) (wd G σ) := by
  have at' : ∀ (i : Nat) (p : Nat × va_E), (wd G σ)[i]? = some p → i < 63 ∧ p.1 = ad G i := by
    intro i p hp
    have hl : i < 63 := by
      have := (List.getElem?_eq_some_iff.mp hp).1
      simpa [wd] using this
    rw [wd_get G σ hl] at hp
    cases hp
    exact ⟨hl, rfl⟩
  refine ⟨fun i j p q hp hq e => ?_, fun k q hq => ?_⟩
  · obtain ⟨a1, a2⟩ := at' i p hp
    obtain ⟨b1, b2⟩ := at' j q hq
    exact h.2.1 i j a1 b1 (by rw [← a2, ← b2, e])
  · obtain ⟨a1, a2⟩ := at' k q hq
    exact ⟨k, a1, a2⟩
def Cx (G : Gh) (own : String) (cc : ByteArray) (nL : Nat) (p : Program) (s : State) (m : MethodId) (args : Array Value) (c : Code) : Prop :=
  CallFix p m c cc nL s args TB own ∧ KG G s
def WD (G : Gh) (σ : St) (H0 H : Heap) (locs : List Loc) : Prop := va_P (gD G) vwCl (wd G σ) H ∧ va_S (AD G) H0 H locs
/-- locals: a place each, none where nothing is known -/
def lvO : Nat → List (Option Value) → List (Nat × Value)
  | _, [] => []
  | i, none :: L => lvO (i + 1) L
  | i, some v :: L => (i, v) :: lvO (i + 1) L
theorem lvO_mem (L : List (Option Value)) : ∀ (i0 i : Nat) (v : Value), (i, v) ∈ lvO i0 L ↔ ∃ k, i = i0 + k ∧ L[k]? = some (some v) := by
  induction L with
  | nil => intro i0 i v; simp [lvO]
  | cons a L ih =>
    intro i0 i v
    cases a with
    | none =>
      simp only [lvO]
      rw [ih]
      constructor
      · rintro ⟨k, h1, h2⟩
        exact ⟨k + 1, by omega, by simpa using h2⟩
      · rintro ⟨k, h1, h2⟩
        cases k with
        | zero => simp at h2
        | succ k => exact ⟨k, by omega, by simpa using h2⟩
    | some u =>
      simp only [lvO, List.mem_cons]
      rw [ih]
      constructor
      · rintro (h | ⟨k, h1, h2⟩)
        · cases h
          exact ⟨0, by omega, rfl⟩
        · exact ⟨k + 1, by omega, by simpa using h2⟩
      · rintro ⟨k, h1, h2⟩
        cases k with
        | zero =>
          simp at h2
          left
          rw [h1, h2]
          rfl
        | succ k => exact Or.inr ⟨k, by omega, by simpa using h2⟩
theorem lvO_at {ls : Array Slot} {nL : Nat} {L : List (Option Value)} {i : Nat} {v : Value} (h : lv_has ls nL (lvO 0 L)) (hi : L[i]? = some (some v)) : ls[i]? = some (.val v) :=
  h.2.2 (i, v) ((lvO_mem L 0 i v).mpr ⟨i, by omega, hi⟩)
theorem lvO_sub {ls : Array Slot} {nL : Nat} {l : List (Nat × Value)} {L : List (Option Value)} (h : lv_has ls nL l) (hs : ∀ (i : Nat) (v : Value), L[i]? = some (some v) → (i, v) ∈ l) : lv_has ls nL (lvO 0 L) := by
  refine ⟨h.1, h.2.1, fun q hq => ?_⟩
  obtain ⟨k, h1, h2⟩ := (lvO_mem L 0 q.1 q.2).mp hq
  exact h.2.2 q (by have := hs k q.2 h2; rw [Nat.zero_add] at h1; rw [← h1] at this; exact this)
/-- may a number be put at i: what is at i - 1 isn't a long -/
def okS (L : List (Option Value)) (i : Nat) : Bool := match i with
  | 0 => true
  | i + 1 => match L[i]? with
    | some (some u) => u.category == 1
    | _ => true
theorem lvO_store {ls : Array Slot} {nL : Nat} {L : List (Option Value)} {i : Nat} {v : Value} (ho : okS L i = true) (h : lv_has ls nL ((i, v) :: (lvO 0 L).filter (fun q => !(q.1 == i) && !(q.1 + 1 == i && q.2.category == 2)))) : lv_has ls nL (lvO 0 (L.set i (some v))) := by
  refine lvO_sub h (fun j u hj => ?_)
  rw [List.getElem?_set] at hj
  by_cases he : i = j
  · subst he
    rw [if_pos rfl] at hj
    split at hj
    · cases hj
      exact List.mem_cons_self
    · cases hj
  · rw [if_neg he] at hj
    refine List.mem_cons_of_mem _ (List.mem_filter.mpr ⟨(lvO_mem L 0 j u).mpr ⟨j, by omega, hj⟩, ?_⟩)
    have e1 : (j == i) = false := by simpa using fun e => he e.symm
    by_cases h2 : j + 1 = i
    · subst h2
      simp only [okS, hj] at ho
      have : u.category = 1 := by simpa using ho
      simp [e1, this]
    · simp [e1, h2]
theorem lvO_store2 {ls : Array Slot} {nL : Nat} {L : List (Option Value)} {i : Nat} {v : Value} (ho : okS L i = true) (h : lv_has ls nL ((i, v) :: (lvO 0 L).filter (fun q => !(q.1 == i) && (!(q.1 == i + 1) && !(q.1 + 1 == i && q.2.category == 2))))) : lv_has ls nL (lvO 0 ((L.set i (some v)).set (i + 1) none)) := by
  refine lvO_sub h (fun j u hj => ?_)
  rw [List.getElem?_set] at hj
  by_cases he1 : i + 1 = j
  · rw [if_pos he1] at hj
    split at hj <;> cases hj
  rw [if_neg he1, List.getElem?_set] at hj
  by_cases he : i = j
  · subst he
    rw [if_pos rfl] at hj
    split at hj
    · cases hj
      exact List.mem_cons_self
    · cases hj
  · rw [if_neg he] at hj
    refine List.mem_cons_of_mem _ (List.mem_filter.mpr ⟨(lvO_mem L 0 j u).mpr ⟨j, by omega, hj⟩, ?_⟩)
    have e1 : (j == i) = false := by simpa using fun e => he e.symm
    have e3 : (j == i + 1) = false := by simpa using fun e => he1 e.symm
    by_cases h2 : j + 1 = i
    · subst h2
      simp only [okS, hj] at ho
      have : u.category = 1 := by simpa using ho
      simp [e1, e3, this]
    · simp [e1, e3, h2]
def rIn (v : Option Value) : Instr := match v with
  | none => .return_
  | some (.int _) => .ireturn
  | some (.long _) => .lreturn
  | some _ => .areturn
/-- from this state of a method's frame, if the function says some r, the machine comes to r's answer and cells -/
def SW (G : Gh) (l : Launch) (own : String) (cc : ByteArray) (nL : Nat) (rm : Room) {ρ : Type} (w : ρ → Option Value × St) (pc : Nat) (L : List (Option Value)) (st : List Value) (σ : St) (o : Option ρ) : Prop :=
  ∀ r, o = some r → ∀ (p : Program) (e : Env) (s : State) (m : MethodId) (args : Array Value) (below : List Frame) (meth : Method) (c : Code) (H : Heap) (locs : List Loc) (cells slots : Nat) (Q : State → Prop) (ls : Array Slot),
    Cx G own cc nL p s m args c → WD G σ s.heap H locs → lv_has ls nL (lvO 0 L) → (cells ≤ rm.cells ∧ slots ≤ rm.slots) →
    (∀ (H' : Heap) (locs' : List Loc) (pc' : Nat) (ls' : Array Slot), WD G (w r).2 s.heap H' locs' → decode cc pc' = .ok (rIn (w r).1, 1) → W p l e rm s m args below meth c H' locs' cells slots Q (F0 m pc' ls' (w r).1.toList)) →
    W p l e rm s m args below meth c H locs cells slots Q (F0 m pc ls st)
section SWR
variable {G : Gh} {l : Launch} {own : String} {cc : ByteArray} {nL : Nat} {rm : Room} {ρ : Type} {w : ρ → Option Value × St} {pc pc' : Nat} {L : List (Option Value)} {st : List Value} {σ : St} {o : Option ρ}
theorem sw_none : SW G l own cc nL rm w pc L st σ none := fun r h => by cases h
theorem sw_iconst {n : Int} (hd : decode cc pc = .ok (.iconst n, 1)) (hp : pc' = pc + 1) (k : SW G l own cc nL rm w pc' L (vi n :: st) σ o) : SW G l own cc nL rm w pc L st σ o := by
  subst hp
  intro r hr p e s m args below meth c H locs cells slots Q ls hC hW hl hcs hR
  exact lv_iconst hC.1.1 hC.1.2.1 hd rfl (k r hr p e s m args below meth c H locs cells slots Q ls hC hW hl hcs hR)
theorem sw_bipush {n : Int} (hd : decode cc pc = .ok (.bipush n, 2)) (hn : (Int8.ofInt n).toInt32 = Int32.ofInt n) (hp : pc' = pc + 2) (k : SW G l own cc nL rm w pc' L (vi n :: st) σ o) : SW G l own cc nL rm w pc L st σ o := by
  subst hp
  intro r hr p e s m args below meth c H locs cells slots Q ls hC hW hl hcs hR
  exact lv_bipush hC.1.1 hC.1.2.1 hd hn (k r hr p e s m args below meth c H locs cells slots Q ls hC hW hl hcs hR)
theorem sw_sipush {n : Int} (hd : decode cc pc = .ok (.sipush n, 3)) (hn : (Int16.ofInt n).toInt32 = Int32.ofInt n) (hp : pc' = pc + 3) (k : SW G l own cc nL rm w pc' L (vi n :: st) σ o) : SW G l own cc nL rm w pc L st σ o := by
  subst hp
  intro r hr p e s m args below meth c H locs cells slots Q ls hC hW hl hcs hR
  exact lv_sipush hC.1.1 hC.1.2.1 hd hn (k r hr p e s m args below meth c H locs cells slots Q ls hC hW hl hcs hR)
theorem sw_lconst {n : Fin 2} {x : Int} (hd : decode cc pc = .ok (.lconst n, 1)) (hn : Int64.ofNat (n : Nat) = Int64.ofInt x) (hp : pc' = pc + 1) (k : SW G l own cc nL rm w pc' L (vl x :: st) σ o) : SW G l own cc nL rm w pc L st σ o := by
  subst hp
  intro r hr p e s m args below meth c H locs cells slots Q ls hC hW hl hcs hR
  exact lv_lconst hC.1.1 hC.1.2.1 hd hn (k r hr p e s m args below meth c H locs cells slots Q ls hC hW hl hcs hR)
theorem sw_ldc {n : Int} {i : Nat} (hd : decode cc pc = .ok (.ldc i, 2)) (hc : Cond.constant own i (Int32.ofInt n) ∈ TB) (hp : pc' = pc + 2) (k : SW G l own cc nL rm w pc' L (vi n :: st) σ o) : SW G l own cc nL rm w pc L st σ o := by
  subst hp
  intro r hr p e s m args below meth c H locs cells slots Q ls hC hW hl hcs hR
  exact lv_ldc hC.1.1 hC.1.2.1 hC.1.2.2.2.1 (hC.1.2.2.2.2 _ hc) hd (k r hr p e s m args below meth c H locs cells slots Q ls hC hW hl hcs hR)
theorem sw_ldcw {n : Int} {i : Nat} (hd : decode cc pc = .ok (.ldc_w i, 3)) (hc : Cond.constant own i (Int32.ofInt n) ∈ TB) (hp : pc' = pc + 3) (k : SW G l own cc nL rm w pc' L (vi n :: st) σ o) : SW G l own cc nL rm w pc L st σ o := by
  subst hp
  intro r hr p e s m args below meth c H locs cells slots Q ls hC hW hl hcs hR
  exact lv_ldcw hC.1.1 hC.1.2.1 hC.1.2.2.2.1 (hC.1.2.2.2.2 _ hc) hd (k r hr p e s m args below meth c H locs cells slots Q ls hC hW hl hcs hR)
theorem sw_ldc2 {n : Int} {i : Nat} (hd : decode cc pc = .ok (.ldc2_w i, 3)) (hc : Cond.constantLong own i (Int64.ofInt n) ∈ TB) (hp : pc' = pc + 3) (k : SW G l own cc nL rm w pc' L (vl n :: st) σ o) : SW G l own cc nL rm w pc L st σ o := by
  subst hp
  intro r hr p e s m args below meth c H locs cells slots Q ls hC hW hl hcs hR
  exact lv_ldc2 hC.1.1 hC.1.2.1 hC.1.2.2.2.1 (hC.1.2.2.2.2 _ hc) hd (k r hr p e s m args below meth c H locs cells slots Q ls hC hW hl hcs hR)
theorem sw_iload_n {i : Fin 4} {x : Int} (hd : decode cc pc = .ok (.iload_n i, 1)) (hp : pc' = pc + 1) (hx : L[(i : Nat)]? = some (some (vi x))) (k : SW G l own cc nL rm w pc' L (vi x :: st) σ o) : SW G l own cc nL rm w pc L st σ o := by
  subst hp
  intro r hr p e s m args below meth c H locs cells slots Q ls hC hW hl hcs hR
  exact lv_iload_n hC.1.1 hC.1.2.1 hd rfl (lvO_at hl hx) (k r hr p e s m args below meth c H locs cells slots Q ls hC hW hl hcs hR)
theorem sw_iload {i : Nat} {x : Int} (hd : decode cc pc = .ok (.iload i, 2)) (hp : pc' = pc + 2) (hx : L[i]? = some (some (vi x))) (k : SW G l own cc nL rm w pc' L (vi x :: st) σ o) : SW G l own cc nL rm w pc L st σ o := by
  subst hp
  intro r hr p e s m args below meth c H locs cells slots Q ls hC hW hl hcs hR
  exact lv_iload hC.1.1 hC.1.2.1 hd (lvO_at hl hx) (k r hr p e s m args below meth c H locs cells slots Q ls hC hW hl hcs hR)
theorem sw_lload_n {i : Fin 4} {x : Int} (hd : decode cc pc = .ok (.lload_n i, 1)) (hp : pc' = pc + 1) (hx : L[(i : Nat)]? = some (some (vl x))) (k : SW G l own cc nL rm w pc' L (vl x :: st) σ o) : SW G l own cc nL rm w pc L st σ o := by
  subst hp
  intro r hr p e s m args below meth c H locs cells slots Q ls hC hW hl hcs hR
  exact lv_lload_n hC.1.1 hC.1.2.1 hd rfl (lvO_at hl hx) (k r hr p e s m args below meth c H locs cells slots Q ls hC hW hl hcs hR)
theorem sw_lload {i : Nat} {x : Int} (hd : decode cc pc = .ok (.lload i, 2)) (hp : pc' = pc + 2) (hx : L[i]? = some (some (vl x))) (k : SW G l own cc nL rm w pc' L (vl x :: st) σ o) : SW G l own cc nL rm w pc L st σ o := by
  subst hp
  intro r hr p e s m args below meth c H locs cells slots Q ls hC hW hl hcs hR
  exact lv_lload hC.1.1 hC.1.2.1 hd (lvO_at hl hx) (k r hr p e s m args below meth c H locs cells slots Q ls hC hW hl hcs hR)
theorem sw_aload_n {i : Fin 4} {x : Nat} (hd : decode cc pc = .ok (.aload_n i, 1)) (hp : pc' = pc + 1) (hx : L[(i : Nat)]? = some (some (.ref x))) (k : SW G l own cc nL rm w pc' L (.ref x :: st) σ o) : SW G l own cc nL rm w pc L st σ o := by
  subst hp
  intro r hr p e s m args below meth c H locs cells slots Q ls hC hW hl hcs hR
  exact lv_aload_n hC.1.1 hC.1.2.1 hd rfl (lvO_at hl hx) (k r hr p e s m args below meth c H locs cells slots Q ls hC hW hl hcs hR)
theorem sw_istore_n {i : Fin 4} {x : Int} {L' : List (Option Value)} (hd : decode cc pc = .ok (.istore_n i, 1)) (hp : pc' = pc + 1) (hi : (i : Nat) < nL) (ho : okS L i = true) (hL : L.set i (some (vi x)) = L') (k : SW G l own cc nL rm w pc' L' st σ o) : SW G l own cc nL rm w pc L (vi x :: st) σ o := by
  subst hp
  subst hL
  intro r hr p e s m args below meth c H locs cells slots Q ls hC hW hl hcs hR
  exact lv_istore_n hC.1.1 hC.1.2.1 hd rfl hl hi rfl (fun ls' hl' => k r hr p e s m args below meth c H locs cells slots Q ls' hC hW (lvO_store ho hl') hcs hR)
theorem sw_istore {i : Nat} {x : Int} {L' : List (Option Value)} (hd : decode cc pc = .ok (.istore i, 2)) (hp : pc' = pc + 2) (hi : i < nL) (ho : okS L i = true) (hL : L.set i (some (vi x)) = L') (k : SW G l own cc nL rm w pc' L' st σ o) : SW G l own cc nL rm w pc L (vi x :: st) σ o := by
  subst hp
  subst hL
  intro r hr p e s m args below meth c H locs cells slots Q ls hC hW hl hcs hR
  exact lv_istore hC.1.1 hC.1.2.1 hd hl hi rfl (fun ls' hl' => k r hr p e s m args below meth c H locs cells slots Q ls' hC hW (lvO_store ho hl') hcs hR)
theorem sw_lstore_n {i : Fin 4} {x : Int} {L' : List (Option Value)} (hd : decode cc pc = .ok (.lstore_n i, 1)) (hp : pc' = pc + 1) (hi : (i : Nat) + 1 < nL) (ho : okS L i = true) (hL : (L.set i (some (vl x))).set (i + 1) none = L') (k : SW G l own cc nL rm w pc' L' st σ o) : SW G l own cc nL rm w pc L (vl x :: st) σ o := by
  subst hp
  subst hL
  intro r hr p e s m args below meth c H locs cells slots Q ls hC hW hl hcs hR
  exact lv_lstore_n hC.1.1 hC.1.2.1 hd rfl hl hi rfl (fun ls' hl' => k r hr p e s m args below meth c H locs cells slots Q ls' hC hW (lvO_store2 ho hl') hcs hR)
theorem sw_lstore {i : Nat} {x : Int} {L' : List (Option Value)} (hd : decode cc pc = .ok (.lstore i, 2)) (hp : pc' = pc + 2) (hi : i + 1 < nL) (ho : okS L i = true) (hL : (L.set i (some (vl x))).set (i + 1) none = L') (k : SW G l own cc nL rm w pc' L' st σ o) : SW G l own cc nL rm w pc L (vl x :: st) σ o := by
  subst hp
  subst hL
  intro r hr p e s m args below meth c H locs cells slots Q ls hC hW hl hcs hR
  exact lv_lstore hC.1.1 hC.1.2.1 hd hl hi rfl (fun ls' hl' => k r hr p e s m args below meth c H locs cells slots Q ls' hC hW (lvO_store2 ho hl') hcs hR)
theorem sw_iinc {i : Nat} {n x : Int} {L' : List (Option Value)} (hd : decode cc pc = .ok (.iinc i n, 3)) (hp : pc' = pc + 3) (hi : i < nL) (ho : okS L i = true) (hx : L[i]? = some (some (vi x))) (hL : L.set i (some (vi (x + n))) = L') (k : SW G l own cc nL rm w pc' L' st σ o) : SW G l own cc nL rm w pc L st σ o := by
  subst hp
  subst hL
  intro r hr p e s m args below meth c H locs cells slots Q ls hC hW hl hcs hR
  have hm : (i, vi x) ∈ lvO 0 L := (lvO_mem L 0 i (vi x)).mpr ⟨i, by omega, hx⟩
  obtain ⟨k0, hk0⟩ := List.getElem?_of_mem hm
  exact lv_iinc (v := Int32.ofInt (x + n)) hC.1.1 hC.1.2.1 hd hl hk0 (by rw [Int32.ofInt_add]) hi rfl (fun ls' hl' => k r hr p e s m args below meth c H locs cells slots Q ls' hC hW (lvO_store ho hl') hcs hR)
/-- fewer locals -/
def msk : List Bool → List (Option Value) → List (Option Value)
  | [], L => L
  | _, [] => []
  | b :: bs, v :: L => (if b then v else none) :: msk bs L
theorem msk_at : ∀ (bs : List Bool) (L : List (Option Value)) (i : Nat) (v : Value), (msk bs L)[i]? = some (some v) → L[i]? = some (some v) := by
  intro bs
  induction bs with
  | nil => intro L i v h; cases L <;> exact h
  | cons b bs ih =>
    intro L i v h
    cases L with
    | nil => exact h
    | cons a L =>
      cases i with
      | zero =>
        cases b with
        | true => exact h
        | false => simp [msk] at h
      | succ i =>
        have h1 : (msk bs L)[i]? = some (some v) := by simpa [msk] using h
        simpa using ih L i v h1
theorem sw_msk (bs : List Bool) {L' : List (Option Value)} (hL : msk bs L = L') (k : SW G l own cc nL rm w pc L' st σ o) : SW G l own cc nL rm w pc L st σ o := by
  subst hL
  intro r hr p e s m args below meth c H locs cells slots Q ls hC hW hl hcs hR
  exact k r hr p e s m args below meth c H locs cells slots Q ls hC hW (lvO_sub hl (fun i v h => (lvO_mem L 0 i v).mpr ⟨i, by omega, msk_at bs L i v h⟩)) hcs hR
theorem sw_iadd {x y : Int} (hd : decode cc pc = .ok (.iadd, 1)) (hp : pc' = pc + 1) (k : SW G l own cc nL rm w pc' L (vi (x + y) :: st) σ o) : SW G l own cc nL rm w pc L (vi y :: vi x :: st) σ o := by
  subst hp
  intro r hr p e s m args below meth c H locs cells slots Q ls hC hW hl hcs hR
  have h := k r hr p e s m args below meth c H locs cells slots Q ls hC hW hl hcs hR
  unfold vi at h
  rw [Int32.ofInt_add] at h
  exact lv_iadd hC.1.1 hC.1.2.1 hd h
theorem sw_isub {x y : Int} (hd : decode cc pc = .ok (.isub, 1)) (hp : pc' = pc + 1) (k : SW G l own cc nL rm w pc' L (vi (x - y) :: st) σ o) : SW G l own cc nL rm w pc L (vi y :: vi x :: st) σ o := by
  subst hp
  intro r hr p e s m args below meth c H locs cells slots Q ls hC hW hl hcs hR
  have h := k r hr p e s m args below meth c H locs cells slots Q ls hC hW hl hcs hR
  unfold vi at h
  rw [Int32.ofInt_sub] at h
  exact lv_isub hC.1.1 hC.1.2.1 hd h
theorem sw_imul {x y : Int} (hd : decode cc pc = .ok (.imul, 1)) (hp : pc' = pc + 1) (k : SW G l own cc nL rm w pc' L (vi (x * y) :: st) σ o) : SW G l own cc nL rm w pc L (vi y :: vi x :: st) σ o := by
  subst hp
  intro r hr p e s m args below meth c H locs cells slots Q ls hC hW hl hcs hR
  have h := k r hr p e s m args below meth c H locs cells slots Q ls hC hW hl hcs hR
  unfold vi at h
  rw [Int32.ofInt_mul] at h
  exact lv_imul hC.1.1 hC.1.2.1 hd h
theorem sw_ladd {x y : Int} (hd : decode cc pc = .ok (.ladd, 1)) (hp : pc' = pc + 1) (k : SW G l own cc nL rm w pc' L (vl (x + y) :: st) σ o) : SW G l own cc nL rm w pc L (vl y :: vl x :: st) σ o := by
  subst hp
  intro r hr p e s m args below meth c H locs cells slots Q ls hC hW hl hcs hR
  have h := k r hr p e s m args below meth c H locs cells slots Q ls hC hW hl hcs hR
  unfold vl at h
  rw [Int64.ofInt_add] at h
  exact lv_ladd hC.1.1 hC.1.2.1 hd h
theorem sw_lmul {x y : Int} (hd : decode cc pc = .ok (.lmul, 1)) (hp : pc' = pc + 1) (k : SW G l own cc nL rm w pc' L (vl (x * y) :: st) σ o) : SW G l own cc nL rm w pc L (vl y :: vl x :: st) σ o := by
  subst hp
  intro r hr p e s m args below meth c H locs cells slots Q ls hC hW hl hcs hR
  have h := k r hr p e s m args below meth c H locs cells slots Q ls hC hW hl hcs hR
  unfold vl at h
  rw [Int64.ofInt_mul] at h
  exact lv_lmul hC.1.1 hC.1.2.1 hd h
theorem sw_ineg {x : Int} (hd : decode cc pc = .ok (.ineg, 1)) (hp : pc' = pc + 1) (k : SW G l own cc nL rm w pc' L (vi (0 - x) :: st) σ o) : SW G l own cc nL rm w pc L (vi x :: st) σ o := by
  subst hp
  intro r hr p e s m args below meth c H locs cells slots Q ls hC hW hl hcs hR
  have h := k r hr p e s m args below meth c H locs cells slots Q ls hC hW hl hcs hR
  unfold vi at h
  rw [Int32.ofInt_sub] at h
  exact lv_ineg hC.1.1 hC.1.2.1 hd (by first | exact h | simpa using h)
theorem sw_iand {x y : Int} (hd : decode cc pc = .ok (.iand, 1)) (hp : pc' = pc + 1) (k : SW G l own cc nL rm w pc' L (vi (iad x y) :: st) σ o) : SW G l own cc nL rm w pc L (vi y :: vi x :: st) σ o := by
  subst hp
  intro r hr p e s m args below meth c H locs cells slots Q ls hC hW hl hcs hR
  have h := k r hr p e s m args below meth c H locs cells slots Q ls hC hW hl hcs hR
  unfold iad at h
  rw [vi_toInt] at h
  exact lv_iand hC.1.1 hC.1.2.1 hd h
theorem sw_ior {x y : Int} (hd : decode cc pc = .ok (.ior, 1)) (hp : pc' = pc + 1) (k : SW G l own cc nL rm w pc' L (vi (iod x y) :: st) σ o) : SW G l own cc nL rm w pc L (vi y :: vi x :: st) σ o := by
  subst hp
  intro r hr p e s m args below meth c H locs cells slots Q ls hC hW hl hcs hR
  have h := k r hr p e s m args below meth c H locs cells slots Q ls hC hW hl hcs hR
  unfold iod at h
  rw [vi_toInt] at h
  exact lv_ior hC.1.1 hC.1.2.1 hd h
theorem sw_ixor {x y : Int} (hd : decode cc pc = .ok (.ixor, 1)) (hp : pc' = pc + 1) (k : SW G l own cc nL rm w pc' L (vi (ixd x y) :: st) σ o) : SW G l own cc nL rm w pc L (vi y :: vi x :: st) σ o := by
  subst hp
  intro r hr p e s m args below meth c H locs cells slots Q ls hC hW hl hcs hR
  have h := k r hr p e s m args below meth c H locs cells slots Q ls hC hW hl hcs hR
  unfold ixd at h
  rw [vi_toInt] at h
  exact lv_ixor hC.1.1 hC.1.2.1 hd h
theorem sw_ishl {x y : Int} (hd : decode cc pc = .ok (.ishl, 1)) (hp : pc' = pc + 1) (k : SW G l own cc nL rm w pc' L (vi (isl x y) :: st) σ o) : SW G l own cc nL rm w pc L (vi y :: vi x :: st) σ o := by
  subst hp
  intro r hr p e s m args below meth c H locs cells slots Q ls hC hW hl hcs hR
  have h := k r hr p e s m args below meth c H locs cells slots Q ls hC hW hl hcs hR
  unfold isl at h
  rw [vi_toInt] at h
  exact lv_ishl hC.1.1 hC.1.2.1 hd h
theorem sw_ishr {x y : Int} (hd : decode cc pc = .ok (.ishr, 1)) (hp : pc' = pc + 1) (k : SW G l own cc nL rm w pc' L (vi (isr x y) :: st) σ o) : SW G l own cc nL rm w pc L (vi y :: vi x :: st) σ o := by
  subst hp
  intro r hr p e s m args below meth c H locs cells slots Q ls hC hW hl hcs hR
  have h := k r hr p e s m args below meth c H locs cells slots Q ls hC hW hl hcs hR
  unfold isr at h
  rw [vi_toInt] at h
  exact lv_ishr hC.1.1 hC.1.2.1 hd h
theorem sw_iushr {x y : Int} (hd : decode cc pc = .ok (.iushr, 1)) (hp : pc' = pc + 1) (k : SW G l own cc nL rm w pc' L (vi (ius x y) :: st) σ o) : SW G l own cc nL rm w pc L (vi y :: vi x :: st) σ o := by
  subst hp
  intro r hr p e s m args below meth c H locs cells slots Q ls hC hW hl hcs hR
  have h := k r hr p e s m args below meth c H locs cells slots Q ls hC hW hl hcs hR
  unfold ius at h
  rw [vi_toInt] at h
  exact lv_iushr hC.1.1 hC.1.2.1 hd rfl h
theorem sw_i2b {x : Int} (hd : decode cc pc = .ok (.i2b, 1)) (hp : pc' = pc + 1) (k : SW G l own cc nL rm w pc' L (vi (nby x) :: st) σ o) : SW G l own cc nL rm w pc L (vi x :: st) σ o := by
  subst hp
  intro r hr p e s m args below meth c H locs cells slots Q ls hC hW hl hcs hR
  have h := k r hr p e s m args below meth c H locs cells slots Q ls hC hW hl hcs hR
  unfold nby at h
  rw [vi_toInt] at h
  exact lv_i2b hC.1.1 hC.1.2.1 hd rfl h
theorem sw_i2s {x : Int} (hd : decode cc pc = .ok (.i2s, 1)) (hp : pc' = pc + 1) (k : SW G l own cc nL rm w pc' L (vi (nsh x) :: st) σ o) : SW G l own cc nL rm w pc L (vi x :: st) σ o := by
  subst hp
  intro r hr p e s m args below meth c H locs cells slots Q ls hC hW hl hcs hR
  have h := k r hr p e s m args below meth c H locs cells slots Q ls hC hW hl hcs hR
  unfold nsh at h
  rw [vi_toInt] at h
  exact lv_i2s hC.1.1 hC.1.2.1 hd rfl h
theorem sw_i2c {x : Int} (hd : decode cc pc = .ok (.i2c, 1)) (hp : pc' = pc + 1) (k : SW G l own cc nL rm w pc' L (vi (nch x) :: st) σ o) : SW G l own cc nL rm w pc L (vi x :: st) σ o := by
  subst hp
  intro r hr p e s m args below meth c H locs cells slots Q ls hC hW hl hcs hR
  have h := k r hr p e s m args below meth c H locs cells slots Q ls hC hW hl hcs hR
  unfold nch at h
  rw [vi_toInt] at h
  exact lv_i2c hC.1.1 hC.1.2.1 hd rfl h
theorem sw_i2l {x : Int} (hd : decode cc pc = .ok (.i2l, 1)) (hp : pc' = pc + 1) (k : SW G l own cc nL rm w pc' L (vl (wr x) :: st) σ o) : SW G l own cc nL rm w pc L (vi x :: st) σ o := by
  subst hp
  intro r hr p e s m args below meth c H locs cells slots Q ls hC hW hl hcs hR
  have h := k r hr p e s m args below meth c H locs cells slots Q ls hC hW hl hcs hR
  refine lv_i2l (v := Int64.ofInt (wr x)) hC.1.1 hC.1.2.1 hd ?_ h
  apply Int64.toInt_inj.mp
  rw [Int32.toInt_toInt64, Int64.toInt_ofInt]
  have h1 := wr_ge x
  have h2 := wr_le x
  show wr x = Int.bmod (wr x) 18446744073709551616
  exact (Int.bmod_eq_of_le (by omega) (by omega)).symm
theorem sw_idiv {x y : Int} {kf : Int → Option ρ} (hd : decode cc pc = .ok (.idiv, 1)) (hp : pc' = pc + 1) (k : ∀ v, SW G l own cc nL rm w pc' L (vi v :: st) σ (kf v)) : SW G l own cc nL rm w pc L (vi y :: vi x :: st) σ (bV (idv x y) kf) := by
  subst hp
  intro r hr p e s m args below meth c H locs cells slots Q ls hC hW hl hcs hR
  unfold idv at hr
  by_cases hz : wr y = 0
  · rw [if_pos hz] at hr; cases hr
  rw [if_neg hz] at hr
  have h := k _ r hr p e s m args below meth c H locs cells slots Q ls hC hW hl hcs hR
  rw [vi_toInt] at h
  exact lv_idiv hC.1.1 hC.1.2.1 hd (fun e => hz (by unfold wr; rw [e]; rfl)) h
theorem sw_irem {x y : Int} {kf : Int → Option ρ} (hd : decode cc pc = .ok (.irem, 1)) (hp : pc' = pc + 1) (k : ∀ v, SW G l own cc nL rm w pc' L (vi v :: st) σ (kf v)) : SW G l own cc nL rm w pc L (vi y :: vi x :: st) σ (bV (irm x y) kf) := by
  subst hp
  intro r hr p e s m args below meth c H locs cells slots Q ls hC hW hl hcs hR
  unfold irm at hr
  by_cases hz : wr y = 0
  · rw [if_pos hz] at hr; cases hr
  rw [if_neg hz] at hr
  have h := k _ r hr p e s m args below meth c H locs cells slots Q ls hC hW hl hcs hR
  rw [vi_toInt] at h
  exact lv_irem hC.1.1 hC.1.2.1 hd (fun e => hz (by unfold wr; rw [e]; rfl)) h
theorem sw_ldiv {x y : Int} {kf : Int → Option ρ} (hd : decode cc pc = .ok (.ldiv, 1)) (hp : pc' = pc + 1) (k : ∀ v, SW G l own cc nL rm w pc' L (vl v :: st) σ (kf v)) : SW G l own cc nL rm w pc L (vl y :: vl x :: st) σ (bV (ldv x y) kf) := by
  subst hp
  intro r hr p e s m args below meth c H locs cells slots Q ls hC hW hl hcs hR
  unfold ldv at hr
  by_cases hz : wl y = 0
  · rw [if_pos hz] at hr; cases hr
  rw [if_neg hz] at hr
  have h := k _ r hr p e s m args below meth c H locs cells slots Q ls hC hW hl hcs hR
  rw [vl_toInt] at h
  exact lv_ldiv hC.1.1 hC.1.2.1 hd (fun e => hz (by unfold wl; rw [e]; rfl)) h
theorem sw_lrem {x y : Int} {kf : Int → Option ρ} (hd : decode cc pc = .ok (.lrem, 1)) (hp : pc' = pc + 1) (k : ∀ v, SW G l own cc nL rm w pc' L (vl v :: st) σ (kf v)) : SW G l own cc nL rm w pc L (vl y :: vl x :: st) σ (bV (lrm x y) kf) := by
  subst hp
  intro r hr p e s m args below meth c H locs cells slots Q ls hC hW hl hcs hR
  unfold lrm at hr
  by_cases hz : wl y = 0
  · rw [if_pos hz] at hr; cases hr
  rw [if_neg hz] at hr
  have h := k _ r hr p e s m args below meth c H locs cells slots Q ls hC hW hl hcs hR
  rw [vl_toInt] at h
  exact lv_lrem hC.1.1 hC.1.2.1 hd (fun e => hz (by unfold wl; rw [e]; rfl)) h
theorem lcm_eq (x y : Int) : Int32.ofInt (lcm x y) = lg_cmp (Int64.ofInt x) (Int64.ofInt y) := by
  unfold lcm lg_cmp wl
  by_cases h1 : (Int64.ofInt y).toInt < (Int64.ofInt x).toInt
  · rw [if_pos h1, if_pos (Int64.lt_iff_toInt_lt.mpr h1)]
    rfl
  · rw [if_neg h1, if_neg (fun e => h1 (Int64.lt_iff_toInt_lt.mp e))]
    by_cases h2 : (Int64.ofInt x).toInt = (Int64.ofInt y).toInt
    · rw [if_pos h2, if_pos (Int64.toInt_inj.mp h2)]
      rfl
    · rw [if_neg h2, if_neg (fun e => h2 (by rw [e]))]
      rfl
theorem sw_lcmp {x y : Int} (hd : decode cc pc = .ok (.lcmp, 1)) (hp : pc' = pc + 1) (k : SW G l own cc nL rm w pc' L (vi (lcm x y) :: st) σ o) : SW G l own cc nL rm w pc L (vl y :: vl x :: st) σ o := by
  subst hp
  intro r hr p e s m args below meth c H locs cells slots Q ls hC hW hl hcs hR
  have h := k r hr p e s m args below meth c H locs cells slots Q ls hC hW hl hcs hR
  unfold vi at h
  rw [lcm_eq] at h
  exact W.lcmp hC.1.1 hC.1.2.1 hd h
theorem sw_dup {v : Value} (hd : decode cc pc = .ok (.dup, 1)) (hp : pc' = pc + 1) (hv : v.category = 1) (k : SW G l own cc nL rm w pc' L (v :: v :: st) σ o) : SW G l own cc nL rm w pc L (v :: st) σ o := by
  subst hp
  intro r hr p e s m args below meth c H locs cells slots Q ls hC hW hl hcs hR
  exact lv_dup hC.1.1 hC.1.2.1 hd hv (k r hr p e s m args below meth c H locs cells slots Q ls hC hW hl hcs hR)
theorem sw_dup2 {v u : Value} (hd : decode cc pc = .ok (.dup2, 1)) (hp : pc' = pc + 1) (hv : v.category = 1) (hu : u.category = 1) (k : SW G l own cc nL rm w pc' L (v :: u :: v :: u :: st) σ o) : SW G l own cc nL rm w pc L (v :: u :: st) σ o := by
  subst hp
  intro r hr p e s m args below meth c H locs cells slots Q ls hC hW hl hcs hR
  exact lv_dup2_11 hC.1.1 hC.1.2.1 hd hv hu (k r hr p e s m args below meth c H locs cells slots Q ls hC hW hl hcs hR)
theorem sw_pop {v : Value} (hd : decode cc pc = .ok (.pop, 1)) (hp : pc' = pc + 1) (hv : v.category = 1) (k : SW G l own cc nL rm w pc' L st σ o) : SW G l own cc nL rm w pc L (v :: st) σ o := by
  subst hp
  intro r hr p e s m args below meth c H locs cells slots Q ls hC hW hl hcs hR
  exact lv_pop hC.1.1 hC.1.2.1 hd hv (k r hr p e s m args below meth c H locs cells slots Q ls hC hW hl hcs hR)
theorem sw_goto {off : Int} (hd : decode cc pc = .ok (.goto off, 3)) (hp : (pc : Int) + off = (pc' : Int)) (k : SW G l own cc nL rm w pc' L st σ o) : SW G l own cc nL rm w pc L st σ o := by
  intro r hr p e s m args below meth c H locs cells slots Q ls hC hW hl hcs hR
  exact lv_goto hC.1.1 hC.1.2.1 hd hp (k r hr p e s m args below meth c H locs cells slots Q ls hC hW hl hcs hR)
end SWR
