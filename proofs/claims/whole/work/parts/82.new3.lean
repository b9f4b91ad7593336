/-! ===== Arrays.fill and makeNew over a small world ===== -/
def fll (i : Nat) (V : Int32) (f : Nat → Int32) : Nat → Int32 := fun j => if j < i then V else f j
theorem fll_0 (V : Int32) (f : Nat → Int32) : fll 0 V f = f := by
  funext j
  simp [fll]
theorem fll_s (i : Nat) (V : Int32) (f : Nat → Int32) : upd (fll i V f) i V = fll (i + 1) V f := by
  funext j
  unfold upd fll
  by_cases c1 : j = i
  · subst c1; simp
  · by_cases c2 : j < i
    · rw [if_neg c1, if_pos c2, if_pos (by omega)]
    · rw [if_neg c1, if_neg c2, if_neg (by omega)]
section NEW3
variable {p : Program} {l : Launch} {e : Env} {rm : Room} {s : State} {m : MethodId} {args : Array Value} {below : List Frame} {meth : Method} {c : Code} {H : Heap} {locs : List Loc} {cells slots : Nat} {Q : State → Prop} {G : Gh} {own : String} {cc : ByteArray} {nL pc : Nat} {ls : Array Slot} {st : List Value} {A : Nat → Prop} {ws w0 : va_W}
theorem w_fill (hx : p.tables.exec = Jvm.exec) (hb : c.code = cJ7_fill_53178) (hK : va_K (gD G) vwCl (gT G) s) {a n : Nat} {V : Int} {f : Nat → Int32} (hn : n < 100000) (hend : ∀ (H' : Heap) (locs' : List Loc) (ls' : Array Slot), WN G A s H' locs' [(a, .inl (gC G 0, n, .inl (fll n (Int32.ofInt V) f)))] → W p l e rm s m args below meth c H' locs' cells slots Q (F0 m 20 ls' [])) :
    ∀ (k i : Nat) (H : Heap) (locs : List Loc) (ls : Array Slot), i + k = n → WN G A s H locs [(a, .inl (gC G 0, n, .inl (fll i (Int32.ofInt V) f)))] → lv_has ls 4 [(2, vi (i : Int)), (0, .ref a), (1, vi V), (3, vi (n : Int))] → W p l e rm s m args below meth c H locs cells slots Q (F0 m 5 ls []) := by
  intro k
  induction k with
  | zero =>
    intro i H locs ls hi hW hl
    refine lv_iload_n hx hb dJ7_fill_53178_5 rfl (lv_at hl 0 rfl) ?_
    refine lv_iload_n hx hb dJ7_fill_53178_6 rfl (lv_at hl 3 rfl) ?_
    refine lv_icmp_ge (tgt := 20) hx hb dJ7_fill_53178_7 (by decide) (fun _ => ?_) (fun h => ?_)
    · rw [show i = n by omega] at hW
      exact hend H locs ls hW
    · exact absurd ((i32_le n i).mpr (by rw [wr_of (by omega) (by omega), wr_of (by omega) (by omega)]; omega)) h
  | succ k ih =>
    intro i H locs ls hi hW hl
    have ec : (Int32.ofInt (i : Int)).toNatClampNeg = i := i32_clamp (by omega)
    refine lv_iload_n hx hb dJ7_fill_53178_5 rfl (lv_at hl 0 rfl) ?_
    refine lv_iload_n hx hb dJ7_fill_53178_6 rfl (lv_at hl 3 rfl) ?_
    refine lv_icmp_ge (tgt := 20) hx hb dJ7_fill_53178_7 (by decide) (fun h => ?_) (fun _ => ?_)
    · have h' := (i32_le n i).mp h
      rw [wr_of (by omega) (by omega), wr_of (by omega) (by omega)] at h'
      omega
    · refine lv_aload_n hx hb dJ7_fill_53178_10 rfl (lv_at hl 1 rfl) ?_
      refine lv_iload_n hx hb dJ7_fill_53178_11 rfl (lv_at hl 0 rfl) ?_
      refine lv_iload_n hx hb dJ7_fill_53178_12 rfl (lv_at hl 2 rfl) ?_
      refine va_iast hx hb hK hW.1 hW.2.1 hW.2.2 0 0 (cA := gC G 0) (n := n) (f := fll i (Int32.ofInt V) f) rfl rfl ?_ dJ7_fill_53178_13 (fun H1 locs1 hP hD hS => ?_)
      · intro z
        rw [ec] at z
        rcases z with z | z
        · rw [i32_lt0, wr_of (by omega) (by omega)] at z; omega
        · omega
      · rw [ec, fll_s] at hP hD
        refine lv_iinc (v := Int32.ofInt ((i : Int) + 1)) (lv' := [(2, vi ((i : Int) + 1)), (0, .ref a), (1, vi V), (3, vi (n : Int))]) hx hb dJ7_fill_53178_14 hl (k := 0) rfl (by rw [Int32.ofInt_add]) (by decide) rfl (fun ls hl => ?_)
        refine lv_goto (tgt := 5) hx hb dJ7_fill_53178_17 (by decide) ?_
        exact ih (i + 1) H1 locs1 ls (by omega) ⟨hP, hD, hS⟩ (by rw [show ((i + 1 : Nat) : Int) = (i : Int) + 1 by omega]; exact hl)
theorem c_fill (l : Launch) (G : Gh) (a sz n : Nat) (V : Int) (f : Nat → Int32) (hn : n < 100000) : Met l yJ7_fill_53178 (.code yJ7_fill_53178 cJ7_fill_53178 4 none :: TB) rm_J7_fill_53178 (va_Pc [.ref a, vi V] (fun U => U.heap.size = sz ∧ va_P (gD G) vwCl [(a, .inl (gC G 0, n, .inl f))] U.heap ∧ va_K (gD G) vwCl (gT G) U)) (va_Qv (fun _ : Unit => True) (fun _ t => va_P (gD G) vwCl [(a, .inl (gC G 0, n, .inl (fll n (Int32.ofInt V) f)))] t.heap) (va_A [(a, .inl (gC G 0, n, .inl f))] sz)) 0 0 (va_A [(a, .inl (gC G 0, n, .inl f))] sz) := by
  refine Met.ofW (cc := cJ7_fill_53178) (maxL := 4) (ret := none) (by decide) rfl ?_
  intro p e s m args below meth c s₁ B hml hv
  obtain ⟨rfl, hsz, hP, hK⟩ := hv
  subst hsz
  have hx := B.exec
  have hb := B.bytes
  have hl := lv_entry ([.ref a, vi V]) (n := 4) (Nat.le_of_ble_eq_true rfl)
  rw [lg_entry_eq]
  generalize (lg_sl ([.ref a, vi V]) ++ List.replicate (4 - (lg_sl ([.ref a, vi V])).length) Slot.unset).toArray = ls at hl ⊢
  have hl : lv_has ls 4 [(0, .ref a), (1, vi V)] := hl
  refine lv_iconst (v := Int32.ofInt 0) hx hb dJ7_fill_53178_0 rfl ?_
  refine lv_istore_n (lv' := [(2, vi 0), (0, .ref a), (1, vi V)]) hx hb dJ7_fill_53178_1 rfl hl (by decide) rfl (fun ls hl => ?_)
  refine lv_aload_n hx hb dJ7_fill_53178_2 rfl (lv_at hl 1 rfl) ?_
  refine va_alen (v := Int32.ofInt (n : Int)) hx hb hK hP 0 0 (cA := gC G 0) rfl (ty := .int) rfl (by rw [Int32.ofInt_eq_ofNat]) dJ7_fill_53178_3 ?_
  refine lv_istore_n (lv' := [(3, vi (n : Int)), (2, vi 0), (0, .ref a), (1, vi V)]) hx hb dJ7_fill_53178_4 rfl hl (by decide) rfl (fun ls hl => ?_)
  refine w_fill (G := G) (A := va_A [(a, .inl (gC G 0, n, .inl f))] s.heap.size) (V := V) (f := f) hx hb hK hn (fun H' locs' ls' hW => ?_) n 0 s.heap [] ls (by omega) ⟨by rw [fll_0]; exact hP, va_D.one (Or.inl ⟨0, _, rfl⟩), va_S.rf⟩ (lv_sub hl [1, 2, 3, 0] rfl)
  exact W.vret (hlocks := B.notSynchronized) hx hb B.returns (fun t ht hWm => ⟨⟨(), rfl, trivial, by show va_P _ _ _ t.heap; rw [ht]; exact hW.1⟩, hW.2.2.F ht⟩) hW.2.2.2.2 dJ7_fill_53178_20
theorem n_fill (C : CC G own cc nL p s m args c) (hA : ∀ q, s.heap.size ≤ q → A q) {a n idx : Nat} {V : Int} {f : Nat → Int32} (hsz : ls.size = nL) (hn : n < 100000) (h8 : (st.map fun v => v.category).sum ≤ 8) (hW : WN G A s H locs (w0 ++ [(a, .inl (gC G 0, n, .inl f))])) (hc : CS own idx yJ7_fill_53178 cJ7_fill_53178 4 none 2) (hR : 1 ≤ rm.frames ∧ 23 ≤ rm.locals) (hcs : cells ≤ rm.cells ∧ slots ≤ rm.slots) (hdg : decode cc pc = .ok (.invokestatic idx, 3))
    (kk : ∀ (H1 : Heap) (locs1 : List Loc), WN G A s H1 locs1 (w0 ++ [(a, .inl (gC G 0, n, .inl (fll n (Int32.ofInt V) f)))]) → W p l e rm s m args below meth c H1 locs1 cells slots Q (F0 m (pc + 3) ls st)) : W p l e rm s m args below meth c H locs cells slots Q (F0 m pc ls (vi V :: .ref a :: st)) := by
  obtain ⟨c1, c2, c3, c4, c5⟩ := hc
  have hF := n_free hW.2.1 hW.2.2 hA
  have hrun := va_runS (H := H) (g := F0 m pc ls (vi V :: .ref a :: st)) (As := [.ref a, vi V]) (rest := st) (e := e) (below := below) (meth := meth) (locs := locs) (cells := cells) (slots := slots) (R := rm) C.1 (c_fill l G a H.size n V f hn) (va_cwS 2 C.1.2.2.2.2 (goodTB (inTB3 c1 c2 c3 c4)) rfl rfl rfl c5 ⟨hR.1, hR.2⟩) ⟨fun a U g mk h => ⟨h.1, h.2.1, h.2.2.1, va_K.moved (u := U) (U := U.calling g mk a) (Vm.Alike.refl U.vm) h.2.2.2⟩, fun U hU hWm => ⟨rfl, by rw [hU], by rw [hU]; exact n_cut hW.1, va_K.moved hWm.alike C.2⟩⟩ rfl rfl hsz rfl (lv_room h8) hdg hcs
  refine va_callv hrun hW.2.2 (fun z _ h => hF z h) hF (fun u t H2 locs2 ht hvm _ hB hz1 hk1 hS2 => ?_)
  rw [ht] at hB
  obtain ⟨hP3, hD3⟩ := n_joinL hW.1 hW.2.1 hk1 hF hB (va_D.one (Or.inl ⟨0, _, rfl⟩))
  exact kk H2 locs2 ⟨hP3, hD3, hS2⟩
theorem n_pI (C : CC G own cc nL p s m args c) {h0 ci j idx : Nat} {fs : List Value} {x : Int} (hW : WN G A s H locs ((h0, .inr (ci, fs)) :: ws)) (hF : FP own idx ci j .int) (hj : j < fs.length) (hdg : decode cc pc = .ok (.putfield idx, 3)) (kk : ∀ (H1 : Heap) (locs1 : List Loc), WN G A s H1 locs1 ((h0, .inr (ci, fs.set j (vi x))) :: ws) → W p l e rm s m args below meth c H1 locs1 cells slots Q (F0 m (pc + 3) ls st)) : W p l e rm s m args below meth c H locs cells slots Q (F0 m pc ls (vi x :: .ref h0 :: st)) := by
  obtain ⟨C0, T, N, ty0, h1, h2, h3, h4, h5, h6, h7, h8, h9⟩ := hF
  exact va_put (ty := .int) (v := vi x) C.1.1 C.1.2.1 C.1.2.2.2.2 h4 ty0 h6 h7 C.1.2.2.2.1 C.2 hW.1 hW.2.1 hW.2.2 0 rfl h1 j h3 (C.1.2.2.2.2 _ h5) (fun _ z => z) h8 (by rw [h6 j h3, h9]) rfl rfl hj hdg (fun H1 locs1 hP hD hS => kk H1 locs1 ⟨hP, hD, hS⟩)
theorem n_gR (C : CC G own cc nL p s m args c) {h0 ci j idx : Nat} {fs : List Value} {v : Value} (hW : WN G A s H locs ((h0, .inr (ci, fs)) :: ws)) (hF : FL own idx ci j) (hv : fs[j]? = some v) (hdg : decode cc pc = .ok (.getfield idx, 3)) (kk : W p l e rm s m args below meth c H locs cells slots Q (F0 m (pc + 3) ls (v :: st))) : W p l e rm s m args below meth c H locs cells slots Q (F0 m pc ls (.ref h0 :: st)) := by
  obtain ⟨C0, T, N, h1, h2, h3, h4, h5⟩ := hF
  exact va_get C.1.1 C.1.2.1 C.1.2.2.2.2 h4 C.1.2.2.2.1 C.2 hW.1 0 rfl h1 j h3 (C.1.2.2.2.2 _ h5) (fun _ z => z) hv hdg kk
end NEW3
def fsq0 (u : Nat → Nat) : List Value := [.int 0, .ref (u 1), .ref (u 2), .ref (u 3), .int 0, .ref (u 4), .int 0, .ref (u 5), .ref (u 6), .ref (u 7), .ref (u 8), .int 0, .int 0, .int 0, .ref (u 9)]
def fsq1 (u : Nat → Nat) : List Value := [vi 0, .ref (u 1), .ref (u 2), .ref (u 3), vi 25, .ref (u 4), vi 0, .ref (u 5), .ref (u 6), .ref (u 7), .ref (u 8), vi 0, vi 0, vi 0, .ref (u 9)]
def rmMk : Room := { frames := 1, cells := 0, slots := 0, locals := 23 }
def wMk0 (G : Gh) (q : Nat) (u : Nat → Nat) : va_W := [(q, .inr (2, fsq0 u)), (u 4, .inl (gC G 0, 4, .inl (fun _ => 0)))]
def wMk1 (G : Gh) (q : Nat) (u : Nat → Nat) : va_W := [(q, .inr (2, fsq1 u)), (u 4, .inl (gC G 0, 4, .inl (fll 4 (Int32.ofInt 1) (fun _ => 0))))]
theorem c_mk (l : Launch) (G : Gh) (q sz : Nat) (u : Nat → Nat) : Met l yX2_makeNew (.code yX2_makeNew cX2_makeNew 1 none :: TB) rmMk (va_Pc [.ref q] (fun U => U.heap.size = sz ∧ va_P (gD G) vwCl (wMk0 G q u) U.heap ∧ va_K (gD G) vwCl (gT G) U ∧ va_D (fun _ => True) (wMk0 G q u))) (va_Qv (fun _ : Unit => True) (fun _ t => va_P (gD G) vwCl (wMk1 G q u) t.heap ∧ va_D (va_A (wMk0 G q u) sz) (wMk1 G q u)) (va_A (wMk0 G q u) sz)) 0 0 (va_A (wMk0 G q u) sz) := by
  refine Met.ofW (cc := cX2_makeNew) (maxL := 1) (ret := none) (by decide) rfl ?_
  intro p e s m args below meth c s₁ B hml hv
  obtain ⟨rfl, hsz, hP, hK, hD0⟩ := hv
  subst hsz
  have hts := atoms_spec (ws := .code yX2_makeNew cX2_makeNew 1 none :: TB) B.pre
  have hown : s.vm.findClass yX2_makeNew.cls = some m.cls := findClass_of_methodNamed B.named
  have C : CC G RX2 cX2_makeNew 1 p s m #[.ref q] c := ⟨⟨B.exec, B.bytes, hml, hown, fun w hw => hts w (List.mem_cons_of_mem _ hw)⟩, hK⟩
  have hl := lv_entry ([.ref q]) (n := 1) (Nat.le_of_ble_eq_true rfl)
  rw [lg_entry_eq]
  generalize (lg_sl ([.ref q]) ++ List.replicate (1 - (lg_sl ([.ref q])).length) Slot.unset).toArray = ls at hl ⊢
  have hl : lv_has ls 1 [(0, .ref q)] := hl
  have hA : ∀ z, s.heap.size ≤ z → va_A (wMk0 G q u) s.heap.size z := fun z h => Or.inr h
  have hW : WN G (va_A (wMk0 G q u) s.heap.size) s s.heap [] (wMk0 G q u) := ⟨hP, hD0.self, va_S.rf⟩
  refine n_al C hl dX2_makeNew_0 (n_psh C (Or.inl ⟨dX2_makeNew_1, rfl⟩) (n_pI C hW fp_X2_42 (Nat.le_of_ble_eq_true rfl) dX2_makeNew_2 (fun H1 locs1 hW => ?_)))
  refine n_al C hl dX2_makeNew_5 (n_psh C (Or.inr (Or.inl ⟨dX2_makeNew_6, rfl, rfl⟩)) (n_pI C hW fp_X2_46 (Nat.le_of_ble_eq_true rfl) dX2_makeNew_8 (fun H1 locs1 hW => ?_)))
  refine n_al C hl dX2_makeNew_11 (n_gR C hW fl_X2_21 rfl dX2_makeNew_12 (n_psh C (Or.inl ⟨dX2_makeNew_15, rfl⟩) ?_))
  refine n_fill (w0 := [_]) C hA hl.1 (by omega) (Nat.le_of_ble_eq_true rfl) hW cs_X2_49 ⟨Nat.le_of_ble_eq_true rfl, Nat.le_of_ble_eq_true rfl⟩ ⟨Nat.zero_le _, Nat.zero_le _⟩ dX2_makeNew_16 (fun H1 locs1 hW => ?_)
  refine n_al C hl dX2_makeNew_19 (n_psh C (Or.inl ⟨dX2_makeNew_20, rfl⟩) (n_pI C hW fp_X2_55 (Nat.le_of_ble_eq_true rfl) dX2_makeNew_21 (fun H1 locs1 hW => ?_)))
  refine n_al C hl dX2_makeNew_24 (n_psh C (Or.inl ⟨dX2_makeNew_25, rfl⟩) (n_pI C hW fp_X2_58 (Nat.le_of_ble_eq_true rfl) dX2_makeNew_26 (fun H1 locs1 hW => ?_)))
  refine n_al C hl dX2_makeNew_29 (n_psh C (Or.inl ⟨dX2_makeNew_30, rfl⟩) (n_pI C hW fp_X2_61 (Nat.le_of_ble_eq_true rfl) dX2_makeNew_31 (fun H1 locs1 hW => ?_)))
  refine n_al C hl dX2_makeNew_34 (n_psh C (Or.inl ⟨dX2_makeNew_35, rfl⟩) (n_pI C hW fp_X2_64 (Nat.le_of_ble_eq_true rfl) dX2_makeNew_36 (fun H1 locs1 hW => ?_)))
  have hW : WN G (va_A (wMk0 G q u) s.heap.size) s H1 locs1 (wMk1 G q u) := hW
  exact W.vret (hlocks := B.notSynchronized) B.exec B.bytes B.returns (fun t ht hWm => ⟨⟨(), rfl, trivial, by rw [ht]; exact hW.1, hW.2.1⟩, hW.2.2.F ht⟩) hW.2.2.2.2 dX2_makeNew_39
section NEW4
variable {p : Program} {l : Launch} {e : Env} {rm : Room} {s : State} {m : MethodId} {args : Array Value} {below : List Frame} {meth : Method} {c : Code} {H : Heap} {locs : List Loc} {cells slots : Nat} {Q : State → Prop} {G : Gh} {own : String} {cc : ByteArray} {nL pc : Nat} {ls : Array Slot} {st : List Value} {A : Nat → Prop} {ws w0 : va_W}
theorem n_mk (C : CC G own cc nL p s m args c) (hA : ∀ q, s.heap.size ≤ q → A q) {q idx : Nat} {u : Nat → Nat} (hsz : ls.size = nL) (h8 : (st.map fun v => v.category).sum ≤ 8) (hW : WN G A s H locs (w0 ++ wMk0 G q u)) (hc : CV own idx 2 yX2_makeNew cX2_makeNew 1 none 0) (hR : 2 ≤ rm.frames ∧ 43 ≤ rm.locals) (hcs : cells ≤ rm.cells ∧ slots ≤ rm.slots) (hdg : decode cc pc = .ok (.invokevirtual idx, 3))
    (kk : ∀ (H1 : Heap) (locs1 : List Loc), WN G A s H1 locs1 (w0 ++ wMk1 G q u) → W p l e rm s m args below meth c H1 locs1 cells slots Q (F0 m (pc + 3) ls st)) : W p l e rm s m args below meth c H locs cells slots Q (F0 m pc ls (.ref q :: st)) := by
  obtain ⟨c1, c2, c3, c4, c5, c6, c7, T, N, c8⟩ := hc
  have hF := n_free hW.2.1 hW.2.2 hA
  have hPc := n_cut hW.1
  have hDc := n_cutD hW.2.1
  have hrun := va_runV (H := H) (C := RX2) (b := q) (g := F0 m pc ls (.ref q :: st)) (As := []) (rest := st) (e := e) (below := below) (meth := meth) (locs := locs) (cells := cells) (slots := slots) (R := rm) C.1 (c_mk l G q H.size u) (cwV 0 C.1.2.2.2.2 (goodTB (inTB4 c1 c2 c3 c4 c5)) rfl rfl rfl c6 ⟨hR.1, hR.2⟩) ⟨fun a U g mk h => ⟨h.1, h.2.1, h.2.2.1, va_K.moved (u := U) (U := U.calling g mk a) (Vm.Alike.refl U.vm) h.2.2.2.1, h.2.2.2.2⟩, va_recv C.2 hPc (ci := 2) (q0 := 0) rfl rfl, fun U hU hWm => ⟨rfl, by rw [hU], by rw [hU]; exact hPc, va_K.moved hWm.alike C.2, hDc.weaken (fun _ _ _ _ => trivial)⟩⟩ rfl rfl hsz rfl (lv_room h8) hdg hcs
  refine va_callv hrun hW.2.2 (fun z _ h => hF z h) hF (fun u1 t H2 locs2 ht hvm _ hB hz1 hk1 hS2 => ?_)
  obtain ⟨hP2, hD2⟩ := hB
  rw [ht] at hP2
  obtain ⟨hP3, hD3⟩ := n_joinL hW.1 hW.2.1 hk1 hF hP2 hD2
  exact kk H2 locs2 ⟨hP3, hD3, hS2⟩
end NEW4
