/-! ===== what holds at the start ===== -/
def tmS (i : Nat) : Term := .string "HorseSigns$Tape" (wIdx.getD i 0)
theorem nr_ex : ((List.range 7).all fun i => decide (Cond.exactly (tmS i) "java/lang/String" ∈ flatC (Jvm.Cond.and given_1 narrow_1))) = true := by decide +kernel
theorem nr_co : ((List.range 7).all fun i => decide (Cond.eq (.field (tmS i) "java/lang/String" "coder" "B") (.int 0) ∈ flatC (Jvm.Cond.and given_1 narrow_1))) = true := by decide +kernel
theorem nr_ar : ((List.range 7).all fun i => decide (Cond.arrayOf (.field (tmS i) "java/lang/String" "value" "[B") .byte ∈ flatC (Jvm.Cond.and given_1 narrow_1))) = true := by decide +kernel
theorem nr_le : ((List.range 7).all fun i => decide (Cond.eq (.length (.field (tmS i) "java/lang/String" "value" "[B")) (.int (Int32.ofNat (wLen.getD i 0))) ∈ flatC (Jvm.Cond.and given_1 narrow_1))) = true := by decide +kernel
theorem nr_el : ((List.range 7).all fun i => (List.range (wLen.getD i 0)).all fun j => decide (Cond.eq (.elem (.field (tmS i) "java/lang/String" "value" "[B") (.int (Int32.ofNat j))) (.int ((wByt.getD i []).getD j 0)) ∈ flatC (Jvm.Cond.and given_1 narrow_1))) = true := by decide +kernel
theorem nr_ne : ((List.range 7).all fun i => (List.range i).all fun j => decide (Cond.not (Cond.eq (tmS j) (tmS i)) ∈ flatC (Jvm.Cond.and given_1 narrow_1))) = true := by decide +kernel
theorem nr_sr : ((List.range 7).all fun i => decide (Cond.stringRef "HorseSigns$Tape" (wIdx.getD i 0) (wTxt.getD i "") ∈ lw_tbl)) = true := by decide +kernel
theorem nr_cs : Cond.eq (.static "java/lang/String" "COMPACT_STRINGS" "Z") (.int 1) ∈ flatC (Jvm.Cond.and given_1 narrow_1) := by decide +kernel
theorem nr_sf : Cond.isRef (.static "jdk/internal/util/Preconditions" "SIOOBE_FORMATTER" "Ljava/util/function/BiFunction;") ∈ flatC (Jvm.Cond.and given_1 narrow_1) := by decide +kernel
theorem ls_cs : Cond.laysStatic "java/lang/String" "COMPACT_STRINGS" "Z" ∈ lw_tbl := by decide +kernel
theorem ls_sf : Cond.laysStatic "jdk/internal/util/Preconditions" "SIOOBE_FORMATTER" "Ljava/util/function/BiFunction;" ∈ lw_tbl := by decide +kernel
theorem in_cs : Cond.initialized "java/lang/String" ∈ lw_tbl := by decide +kernel
theorem in_sf : Cond.initialized "jdk/internal/util/Preconditions" ∈ lw_tbl := by decide +kernel
theorem nw_27 : Cond.methodLinkNest RX4 27 yX3_init RX4 ∈ lw_tbl := List.mem_append_right _ (List.mem_append_left _ (List.mem_of_getElem? (i := 106) rfl))
theorem nw_34 : Cond.methodLinkNest RX4 34 yX1_init RX4 ∈ lw_tbl := List.mem_append_right _ (List.mem_append_left _ (List.mem_of_getElem? (i := 148) rfl))
theorem nw_73 : Cond.methodLinkNest "HorseSigns$Square" 73 yX4_reading "HorseSigns" ∈ lw_tbl := List.mem_append_right _ (List.mem_append_right _ (List.mem_append_left _ (List.mem_of_getElem? (i := 151) rfl)))
theorem nw_77 : Cond.methodLinkNest "HorseSigns$Square" 77 yX4_legsDown "HorseSigns" ∈ lw_tbl := List.mem_append_right _ (List.mem_append_right _ (List.mem_append_left _ (List.mem_of_getElem? (i := 174) rfl)))
theorem all7 {f : Nat → Bool} (h : ((List.range 7).all f) = true) {i : Nat} (hi : i < 7) : f i = true := List.all_eq_true.mp h i (List.mem_range.mpr hi)
theorem alln {f : Nat → Bool} {n : Nat} (h : ((List.range n).all f) = true) {i : Nat} (hi : i < n) : f i = true := List.all_eq_true.mp h i (List.mem_range.mpr hi)
theorem arr_cls {args : Array Value} {s : State} {ty : FieldType} (h : (Cond.arrayClass ty).before args s = true) : ∃ cA, ArrOfT s cA ty ∧ s.vm.findClass ("[" ++ ty.toString) = some cA := by
  obtain ⟨cA, k, comp, h1, h2, h3⟩ := Cond.arrayClass_spec (args := args) (first := s) (o := none) (s := s) (idx := []) h
  exact ⟨cA, fun n z => ⟨fun k h => (by cases h), k, h2, comp, h3⟩, h1⟩
theorem st_gh {p : Program} {s : State} {m : MethodId} {meth : Method} {c : Code} {b L : Nat} {xs : Nat → Int32} (C0 : lw_At p s m meth c b L xs) : ∃ G : Gh, va_K (gD G) vwCl (gT G) s ∧ vk_S 7 wLen wByt (gK G) (gV G) (fun q => s.heap.size ≤ q) s s.heap ∧ ∀ i, i < 7 → vk_R "HorseSigns$Tape" (wIdx.getD i 0) (wTxt.getD i "") (gK G i) s := by
  obtain ⟨hx, hb, hr, hml, hown, hts, hX, hbl, hlocks, hgv⟩ := C0
  have htB : ∀ w ∈ TB, w.before #[Value.ref b] s = true := fun w hw => hts w (List.mem_filter.mp hw).1
  have fl := flat_of_before _ hgv
  obtain ⟨c0, i0, k0⟩ := u_known (C := RX0) (T := TX0) (N := 3) (n := 3) htB inT0 (htB _ (tbP1 167 rfl rfl))
  obtain ⟨c1, i1, k1⟩ := u_known (C := RX1) (T := TX1) (N := 4) (n := 4) htB inT1 (htB _ (tbP1 147 rfl rfl))
  obtain ⟨c2, i2, k2⟩ := u_known (C := RX2) (T := TX2) (N := 15) (n := 15) htB inT2 (htB _ (tbP1 24 rfl rfl))
  obtain ⟨c3, i3, k3⟩ := u_known (C := RX3) (T := TX3) (N := 10) (n := 10) htB inT3 (htB _ (tbP1 105 rfl rfl))
  obtain ⟨c4, i4, k4⟩ := u_known (C := RX4) (T := TX4) (N := 10) (n := 10) htB inT4 (htB _ (tbP1 16 rfl rfl))
  obtain ⟨c5, i5, k5⟩ := u_known (C := RX5) (T := TX5) (N := 30) (n := 30) htB inT5 (htB _ (tbP3 224 rfl rfl))
  obtain ⟨dC, dI, hKc⟩ : ∃ (dC : Nat → ClassId) (dI : Nat → Nat → Nat), ∀ (k : Nat) (q : vw_C), vwCl[k]? = some q → u_Kn s q.1 q.2.1 q.2.2 (dC k) (dI k) := by
    refine ⟨fun k => if k = 0 then c0 else if k = 1 then c1 else if k = 2 then c2 else if k = 3 then c3 else if k = 4 then c4 else c5, fun k => if k = 0 then i0 else if k = 1 then i1 else if k = 2 then i2 else if k = 3 then i3 else if k = 4 then i4 else i5, ?_⟩
    intro k q hq
    match k, hq with
    | 0, hq => cases hq; exact k0
    | 1, hq => cases hq; exact k1
    | 2, hq => cases hq; exact k2
    | 3, hq => cases hq; exact k3
    | 4, hq => cases hq; exact k4
    | 5, hq => cases hq; exact k5
    | k + 6, hq => simp [vwCl] at hq
  obtain ⟨a0, x0, y0⟩ := arr_cls (htB _ inA0)
  obtain ⟨a1, x1, y1⟩ := arr_cls (htB _ inA1)
  obtain ⟨a2, x2, y2⟩ := arr_cls (htB _ inA2)
  obtain ⟨adK, adV, hS, hE⟩ := vk_Sof (args := #[Value.ref b]) (s := s) (N := 7) (tm := tmS) (len := wLen) (byt := wByt) (A := fun q => s.heap.size ≤ q)
    (fun i hi => of_decide_eq_true (all7 (f := fun i => decide (wLen.getD i 0 < 2 ^ 31)) (by decide +kernel) hi))
    (fun i hi => fl _ (of_decide_eq_true (all7 nr_ex hi))) (fun i hi => fl _ (of_decide_eq_true (all7 nr_co hi))) (fun i hi => fl _ (of_decide_eq_true (all7 nr_ar hi))) (fun i hi => fl _ (of_decide_eq_true (all7 nr_le hi)))
    (fun i hi j hj => fl _ (of_decide_eq_true (alln (all7 nr_el hi) hj)))
    (fun i j hi hj hij => by
      rcases Nat.lt_or_gt_of_ne hij with h | h
      · exact Or.inl (fl _ (of_decide_eq_true (alln (all7 nr_ne hj) h)))
      · exact Or.inr (fl _ (of_decide_eq_true (alln (all7 nr_ne hi) h))))
    (fun a ha => Nat.not_le.mpr ha)
  refine ⟨((fun _ => 0), (dC, dI), (a0, a1, a2), adK, adV), ⟨hKc, ?_⟩, hS, fun i hi => vk_R.of (hts _ (of_decide_eq_true (all7 nr_sr hi))) (hE i hi)⟩
  intro k q hq
  match k, hq with
  | 0, hq =>
    have e : (a0, FieldType.int) = q := Option.some.inj hq
    subst e
    exact ⟨x0, y0⟩
  | 1, hq =>
    have e : (a1, FieldType.byte) = q := Option.some.inj hq
    subst e
    exact ⟨x1, y1⟩
  | 2, hq =>
    have e : (a2, FieldType.boolean) = q := Option.some.inj hq
    subst e
    exact ⟨x2, y2⟩
  | k + 3, hq => simp [gT] at hq
