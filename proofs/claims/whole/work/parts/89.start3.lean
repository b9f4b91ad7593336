/-! ===== THE LAW, from its entry ===== -/
set_option maxHeartbeats 4000000 in
set_option maxRecDepth 100000 in
theorem whole_start {p : Program} {e : Env} {s : State} {m : MethodId} {below : List Frame} {meth : Method} {c : Code} (l : Launch) {b L : Nat} {xs : Nat → Int32} (hL : L ≤ 384) (C0 : lw_At p s m meth c b L xs) : W p l e room_1 s m #[Value.ref b] below meth c s.heap [] 0 0 (lw_Z below #[Value.ref b] s) (entryFrame m ([Value.ref b] : List Value).toArray 4) := by
  obtain ⟨G, hK, hS, hR⟩ := st_gh C0
  obtain ⟨hx, hb, hr, hml, hown, hts, hX, hbl, hlocks, hgv⟩ := C0
  have htB : ∀ w ∈ TB, w.before #[Value.ref b] s = true := fun w hw => hts w (List.mem_filter.mp hw).1
  have fl := flat_of_before _ hgv
  have C : CC G RL code 4 p s m #[Value.ref b] c := ⟨⟨hx, hb, hml, hown, htB⟩, hK⟩
  have hNw : NWs s := ⟨va_Nw.of rfl (hts _ nw_27), va_Nw.of rfl (hts _ nw_34)⟩
  have hA : ∀ q : Nat, s.heap.size ≤ q → (fun q : Nat => s.heap.size ≤ q) q := fun _ h => h
  have hW : WN G (fun q : Nat => s.heap.size ≤ q) s s.heap [] [] := ⟨fun k q h => by simp at h, ⟨fun i j p q h => by simp at h, fun k q h => by simp at h⟩, va_S.rf⟩
  have hl := lv_entry ([.ref b]) (n := 4) (Nat.le_of_ble_eq_true rfl)
  rw [lg_entry_eq]
  generalize (lg_sl ([.ref b]) ++ List.replicate (4 - (lg_sl ([.ref b])).length) Slot.unset).toArray = ls at hl ⊢
  have hl : lv_has ls 4 [(0, .ref b)] := hl
  refine n_newobj (pc := 0) C hNw hA hl.1 (Nat.le_of_ble_eq_true rfl) hW no_L_X4 li_L_X4 (nt_X4 G l) dL_law_0 dL_law_3 dL_law_4 ⟨Nat.le_of_ble_eq_true rfl, Nat.le_of_ble_eq_true rfl⟩ (Nat.le_of_ble_eq_true rfl) (Nat.le_of_ble_eq_true rfl) (fun q u H locs hW => ?_)
  refine lv_astore_n (lv' := [(1, .ref q), (0, .ref b)]) hx hb dL_law_7 rfl hl (by decide) rfl (fun ls hl => ?_)
  refine n_newobj (pc := 8) C hNw hA hl.1 (Nat.le_of_ble_eq_true rfl) hW no_L_X5 li_L_X5 (nt_X5 G l) dL_law_8 dL_law_11 dL_law_12 ⟨Nat.le_of_ble_eq_true rfl, Nat.le_of_ble_eq_true rfl⟩ (Nat.le_of_ble_eq_true rfl) (Nat.le_of_ble_eq_true rfl) (fun r v H locs hW => ?_)
  refine lv_astore_n (lv' := [(2, .ref r), (1, .ref q), (0, .ref b)]) hx hb dL_law_15 rfl hl (by decide) rfl (fun ls hl => ?_)
  refine lv_iconst (v := Int32.ofInt 0) hx hb dL_law_16 rfl ?_
  refine lv_istore_n (lv' := [(3, vi 0), (2, .ref r), (1, .ref q), (0, .ref b)]) hx hb dL_law_17 rfl hl (by decide) rfl (fun ls hl => ?_)
  refine W.widen (k := 63) (n := 3140) (Nat.le_of_ble_eq_true rfl) (Nat.le_of_ble_eq_true rfl) ?_
  refine va_forget (fun z hz => hW.2.2.2.2 z hz) ?_
  have hP : va_P (gD (gI G q u r v)) vwCl (wd (gI G q u r v) sgI) H := by
    rw [wd_I]
    exact hW.1
  have hD : va_D (fun q : Nat => s.heap.size ≤ q) (wd (gI G q u r v) sgI) := by
    rw [wd_I]
    exact hW.2.1
  have hAD : ∀ z, AD (gI G q u r v) z → s.heap.size ≤ z := by
    rintro z ⟨k, hk, rfl⟩
    exact hD.2 k _ (wd_get _ _ hk)
  have kg : KG (gI G q u r v) s := by
    refine ⟨hK, fun i j hi hj hij => hD.1 i j _ _ (wd_get _ _ hi) (wd_get _ _ hj) hij, va_Nw.of rfl (hts _ nw_73), va_Nw.of rfl (hts _ nw_77), hS.narrow hAD, ?_, ?_, hR⟩
    · exact va_Zof (hts _ ls_cs) (hts _ in_cs) (va_eqt (fl _ nr_cs)) (fun a ha z => absurd (hAD a z) (Nat.not_le.mpr ha))
    · rcases va_Zqof (A := AD (gI G q u r v)) (hts _ ls_sf) (hts _ in_sf) (fl _ nr_sf) (fun a ha z => absurd (hAD a z) (Nat.not_le.mpr ha)) with h | ⟨t, h⟩
      · exact ⟨none, h⟩
      · exact ⟨some t, h⟩
  exact la_loop hL L 0 sgI abI (by omega) (by omega) abI_ok vcI vmI p e s m below meth c H [] ls ⟨⟨⟨hx, hb, hml, hown, htB⟩, kg⟩, ⟨hX, hbl, fun z => absurd (hAD b z) (Nat.not_le.mpr hbl)⟩, ⟨hr, hlocks⟩, hAD⟩ ⟨hP, hW.2.2.1, fun z h1 h2 => hW.2.2.2.1 z h1 (Nat.not_le.mpr h1), fun z hz => by cases hz⟩ (show lv_has ls 4 [(0, .ref b), (1, .ref q), (2, .ref r), (3, vi 0)] from lv_sub hl [3, 2, 1, 0] rfl)
