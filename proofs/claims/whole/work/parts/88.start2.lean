/-! ===== the first state ===== -/
def sgI : St := fun k j => if (k = 1 ∨ k = 11 ∨ k = 21 ∨ k = 31) ∧ j = 4 then 25 else if (k = 5 ∨ k = 15 ∨ k = 25 ∨ k = 35) ∧ j < 4 then 1 else if k = 49 ∧ j < 4 then -1 else if k = 55 ∧ j < 8 then endsT j else if k = 56 ∧ j < 36 then lettT j else if k = 60 ∧ j < 4 then -4 else 0
def adr (q : Nat) (u : Nat → Nat) (r : Nat) (v : Nat → Nat) : Nat → Nat := fun k => if k = 0 then q else if k ≤ 50 then u k else if k = 51 then r else v (k - 51)
def gI (G : Gh) (q : Nat) (u : Nat → Nat) (r : Nat) (v : Nat → Nat) : Gh := (adr q u r v, G.2)
theorem i0z : Int32.ofInt 0 = 0 := by decide
theorem vi_z : vi 0 = .int 0 := congrArg Value.int i0z
theorem sgI_z {k j : Nat} (h1 : ¬ (k = 1 ∨ k = 11 ∨ k = 21 ∨ k = 31)) (h2 : ¬ (k = 5 ∨ k = 15 ∨ k = 25 ∨ k = 35)) (h3 : ¬ (k = 49 ∨ k = 55 ∨ k = 56 ∨ k = 60)) : sgI k j = 0 := by
  unfold sgI
  rw [if_neg (fun z => h1 z.1), if_neg (fun z => h2 z.1), if_neg (by omega), if_neg (by omega), if_neg (by omega), if_neg (by omega)]
theorem sgI_q {k j : Nat} (h1 : k = 1 ∨ k = 11 ∨ k = 21 ∨ k = 31) : sgI k j = if j = 4 then 25 else 0 := by
  unfold sgI
  by_cases c : j = 4
  · rw [if_pos ⟨h1, c⟩, if_pos c]
  · rw [if_neg (fun z => c z.2), if_neg c, if_neg (by omega), if_neg (by omega), if_neg (by omega), if_neg (by omega), if_neg (by omega)]
theorem sgI_t {k j : Nat} (h1 : k = 5 ∨ k = 15 ∨ k = 25 ∨ k = 35) : sgI k j = if j < 4 then 1 else 0 := by
  unfold sgI
  rw [if_neg (by omega)]
  by_cases c : j < 4
  · rw [if_pos ⟨h1, c⟩, if_pos c]
  · rw [if_neg (fun z => c z.2), if_neg c, if_neg (by omega), if_neg (by omega), if_neg (by omega), if_neg (by omega)]
theorem sgI_49 {j : Nat} : sgI 49 j = if j < 4 then -1 else 0 := by
  unfold sgI
  rw [if_neg (by omega), if_neg (by omega)]
  by_cases c : j < 4
  · rw [if_pos ⟨rfl, c⟩, if_pos c]
  · rw [if_neg (fun z => c z.2), if_neg c, if_neg (by omega), if_neg (by omega), if_neg (by omega)]
theorem sgI_55 {j : Nat} : sgI 55 j = if j < 8 then endsT j else 0 := by
  unfold sgI
  rw [if_neg (by omega), if_neg (by omega), if_neg (by omega)]
  by_cases c : j < 8
  · rw [if_pos ⟨rfl, c⟩, if_pos c]
  · rw [if_neg (fun z => c z.2), if_neg c, if_neg (by omega), if_neg (by omega)]
theorem sgI_56 {j : Nat} : sgI 56 j = if j < 36 then lettT j else 0 := by
  unfold sgI
  rw [if_neg (by omega), if_neg (by omega), if_neg (by omega), if_neg (by omega)]
  by_cases c : j < 36
  · rw [if_pos ⟨rfl, c⟩, if_pos c]
  · rw [if_neg (fun z => c z.2), if_neg c, if_neg (by omega)]
theorem sgI_60 {j : Nat} : sgI 60 j = if j < 4 then -4 else 0 := by
  unfold sgI
  rw [if_neg (by omega), if_neg (by omega), if_neg (by omega), if_neg (by omega), if_neg (by omega)]
  by_cases c : j < 4
  · rw [if_pos ⟨rfl, c⟩, if_pos c]
  · rw [if_neg (fun z => c z.2), if_neg c]
section EI
variable {G : Gh} {q r : Nat} {u v : Nat → Nat}
theorem en_A {k t n : Nat} {f : Nat → Int32} (h : tb k = .inl (t, n)) (hf : ∀ j, Int32.ofInt (sgI k j) = f j) : ent (gI G q u r v) sgI k = .inl (gC G t, n, .inl f) := by
  rw [ent_arr h, show (fun j => Int32.ofInt (sgI k j)) = f from funext hf]
  rfl
theorem en_Z {k t n : Nat} (h : tb k = .inl (t, n)) (h1 : ¬ (k = 1 ∨ k = 11 ∨ k = 21 ∨ k = 31)) (h2 : ¬ (k = 5 ∨ k = 15 ∨ k = 25 ∨ k = 35)) (h3 : ¬ (k = 49 ∨ k = 55 ∨ k = 56 ∨ k = 60)) : ent (gI G q u r v) sgI k = .inl (gC G t, n, .inl (fun _ => 0)) := en_A h (fun j => by rw [sgI_z h1 h2 h3, i0z])
theorem en_T {k t n : Nat} (h : tb k = .inl (t, n)) (h1 : k = 5 ∨ k = 15 ∨ k = 25 ∨ k = 35) : ent (gI G q u r v) sgI k = .inl (gC G t, n, .inl (fll 4 (Int32.ofInt 1) (fun _ => 0))) := en_A h (fun j => by
  rw [sgI_t h1]
  unfold fll
  by_cases c : j < 4
  · rw [if_pos c, if_pos c]
  · rw [if_neg c, if_neg c, i0z])
theorem en_49 : ent (gI G q u r v) sgI 49 = .inl (gC G 0, 4, .inl (fll 4 (Int32.ofInt (-1)) (fun _ => 0))) := en_A tbk_49 (fun j => by
  rw [sgI_49]
  unfold fll
  by_cases c : j < 4
  · rw [if_pos c, if_pos c]
  · rw [if_neg c, if_neg c, i0z])
theorem en_55 : ent (gI G q u r v) sgI 55 = .inl (gC G 0, 8, .inl (tbf endsT 8)) := en_A tbk_55 (fun j => by
  rw [sgI_55]
  unfold tbf
  by_cases c : j < 8
  · rw [if_pos c, if_pos c]
  · rw [if_neg c, if_neg c, i0z])
theorem en_56 : ent (gI G q u r v) sgI 56 = .inl (gC G 0, 36, .inl (tbf lettT 36)) := en_A tbk_56 (fun j => by
  rw [sgI_56]
  unfold tbf
  by_cases c : j < 36
  · rw [if_pos c, if_pos c]
  · rw [if_neg c, if_neg c, i0z])
theorem en_60 : ent (gI G q u r v) sgI 60 = .inl (gC G 0, 4, .inl (tbf (fun _ => -4) 4)) := en_A tbk_60 (fun j => by
  rw [sgI_60]
  unfold tbf
  by_cases c : j < 4
  · rw [if_pos c, if_pos c]
  · rw [if_neg c, if_neg c, i0z])
theorem en_0 : ent (gI G q u r v) sgI 0 = .inr (4, [.ref (u 1), .ref (u 11), .ref (u 21), .ref (u 31), .ref (u 41), .ref (u 43), .ref (u 47), .int 0, .int 0, .int 0]) := by
  rw [ent_obj tbk_0]
  show Sum.inr (4, [.ref (u 1), .ref (u 11), .ref (u 21), .ref (u 31), .ref (u 41), .ref (u 43), .ref (u 47), vi (sgI 0 7), vi (sgI 0 8), vi (sgI 0 9)]) = _
  simp only [sgI_z (k := 0) (j := _) (by omega) (by omega) (by omega), vi_z]
theorem en_41 : ent (gI G q u r v) sgI 41 = .inr (3, [.ref (u 42), .int 0, .int 0, .int 0, .int 0, .int 0, .int 0, .int 0, .int 0, .int 0]) := by
  rw [ent_obj tbk_41]
  show Sum.inr (3, [.ref (u 42), vi (sgI 41 1), vi (sgI 41 2), vi (sgI 41 3), vi (sgI 41 4), vi (sgI 41 5), vi (sgI 41 6), vi (sgI 41 7), vi (sgI 41 8), vi (sgI 41 9)]) = _
  simp only [sgI_z (k := 41) (j := _) (by omega) (by omega) (by omega), vi_z]
theorem en_43 : ent (gI G q u r v) sgI 43 = .inr (1, [.int 0, .ref (u 44), .ref (u 45), .ref (u 46)]) := by
  rw [ent_obj tbk_43]
  show Sum.inr (1, [vi (sgI 43 0), .ref (u 44), .ref (u 45), .ref (u 46)]) = _
  simp only [sgI_z (k := 43) (j := _) (by omega) (by omega) (by omega), vi_z]
theorem en_47 : ent (gI G q u r v) sgI 47 = .inr (0, [.ref (u 48), .ref (u 49), .ref (u 50)]) := by
  rw [ent_obj tbk_47]
  rfl
theorem en_51 : ent (gI G q u r v) sgI 51 = .inr (5, [.ref (v 1), .int 0, .ref (v 2), .int 0, .int 0, .int 0, .int 0, .ref (v 3), .int 0, .int 0, .int 0, .int 0, .int 0, .int 0, .int 0, .int 0, .ref (v 4), .ref (v 5), .int 0, .int 0, .int 0, .int 0, .ref (v 6), .int 0, .ref (v 7), .ref (v 8), .ref (v 9), .ref (v 10), .ref (v 11), .int 0]) := by
  rw [ent_obj tbk_51]
  show Sum.inr (5, [.ref (v 1), vi (sgI 51 1), .ref (v 2), vi (sgI 51 3), vi (sgI 51 4), vi (sgI 51 5), vi (sgI 51 6), .ref (v 3), vi (sgI 51 8), vi (sgI 51 9), vi (sgI 51 10), vi (sgI 51 11), vi (sgI 51 12), vi (sgI 51 13), vi (sgI 51 14), vi (sgI 51 15), .ref (v 4), .ref (v 5), vi (sgI 51 18), vi (sgI 51 19), vi (sgI 51 20), vi (sgI 51 21), .ref (v 6), vi (sgI 51 23), .ref (v 7), .ref (v 8), .ref (v 9), .ref (v 10), .ref (v 11), vi (sgI 51 29)]) = _
  simp only [sgI_z (k := 51) (j := _) (by omega) (by omega) (by omega), vi_z]
theorem en_1 : ent (gI G q u r v) sgI 1 = .inr (2, fsq1 (fun i => u (1 + i))) := by
  rw [ent_obj tbk_1]
  show Sum.inr (2, [vi (sgI 1 0), .ref (u 2), .ref (u 3), .ref (u 4), vi (sgI 1 4), .ref (u 5), vi (sgI 1 6), .ref (u 6), .ref (u 7), .ref (u 8), .ref (u 9), vi (sgI 1 11), vi (sgI 1 12), vi (sgI 1 13), .ref (u 10)]) = _
  rw [show sgI 1 0 = 0 from sgI_q (by omega), show sgI 1 4 = 25 from sgI_q (by omega), show sgI 1 6 = 0 from sgI_q (by omega), show sgI 1 11 = 0 from sgI_q (by omega), show sgI 1 12 = 0 from sgI_q (by omega), show sgI 1 13 = 0 from sgI_q (by omega)]
  rfl
theorem en_11 : ent (gI G q u r v) sgI 11 = .inr (2, fsq1 (fun i => u (11 + i))) := by
  rw [ent_obj tbk_11]
  show Sum.inr (2, [vi (sgI 11 0), .ref (u 12), .ref (u 13), .ref (u 14), vi (sgI 11 4), .ref (u 15), vi (sgI 11 6), .ref (u 16), .ref (u 17), .ref (u 18), .ref (u 19), vi (sgI 11 11), vi (sgI 11 12), vi (sgI 11 13), .ref (u 20)]) = _
  rw [show sgI 11 0 = 0 from sgI_q (by omega), show sgI 11 4 = 25 from sgI_q (by omega), show sgI 11 6 = 0 from sgI_q (by omega), show sgI 11 11 = 0 from sgI_q (by omega), show sgI 11 12 = 0 from sgI_q (by omega), show sgI 11 13 = 0 from sgI_q (by omega)]
  rfl
theorem en_21 : ent (gI G q u r v) sgI 21 = .inr (2, fsq1 (fun i => u (21 + i))) := by
  rw [ent_obj tbk_21]
  show Sum.inr (2, [vi (sgI 21 0), .ref (u 22), .ref (u 23), .ref (u 24), vi (sgI 21 4), .ref (u 25), vi (sgI 21 6), .ref (u 26), .ref (u 27), .ref (u 28), .ref (u 29), vi (sgI 21 11), vi (sgI 21 12), vi (sgI 21 13), .ref (u 30)]) = _
  rw [show sgI 21 0 = 0 from sgI_q (by omega), show sgI 21 4 = 25 from sgI_q (by omega), show sgI 21 6 = 0 from sgI_q (by omega), show sgI 21 11 = 0 from sgI_q (by omega), show sgI 21 12 = 0 from sgI_q (by omega), show sgI 21 13 = 0 from sgI_q (by omega)]
  rfl
theorem en_31 : ent (gI G q u r v) sgI 31 = .inr (2, fsq1 (fun i => u (31 + i))) := by
  rw [ent_obj tbk_31]
  show Sum.inr (2, [vi (sgI 31 0), .ref (u 32), .ref (u 33), .ref (u 34), vi (sgI 31 4), .ref (u 35), vi (sgI 31 6), .ref (u 36), .ref (u 37), .ref (u 38), .ref (u 39), vi (sgI 31 11), vi (sgI 31 12), vi (sgI 31 13), .ref (u 40)]) = _
  rw [show sgI 31 0 = 0 from sgI_q (by omega), show sgI 31 4 = 25 from sgI_q (by omega), show sgI 31 6 = 0 from sgI_q (by omega), show sgI 31 11 = 0 from sgI_q (by omega), show sgI 31 12 = 0 from sgI_q (by omega), show sgI 31 13 = 0 from sgI_q (by omega)]
  rfl
set_option maxRecDepth 100000 in
theorem wd_I : wd (gI G q u r v) sgI = wHS G q u ++ wMo G r v := by
  show [(q, ent (gI G q u r v) sgI 0), (u 1, ent (gI G q u r v) sgI 1), (u 2, ent (gI G q u r v) sgI 2), (u 3, ent (gI G q u r v) sgI 3), (u 4, ent (gI G q u r v) sgI 4), (u 5, ent (gI G q u r v) sgI 5), (u 6, ent (gI G q u r v) sgI 6), (u 7, ent (gI G q u r v) sgI 7), (u 8, ent (gI G q u r v) sgI 8), (u 9, ent (gI G q u r v) sgI 9), (u 10, ent (gI G q u r v) sgI 10), (u 11, ent (gI G q u r v) sgI 11), (u 12, ent (gI G q u r v) sgI 12), (u 13, ent (gI G q u r v) sgI 13), (u 14, ent (gI G q u r v) sgI 14), (u 15, ent (gI G q u r v) sgI 15), (u 16, ent (gI G q u r v) sgI 16), (u 17, ent (gI G q u r v) sgI 17), (u 18, ent (gI G q u r v) sgI 18), (u 19, ent (gI G q u r v) sgI 19), (u 20, ent (gI G q u r v) sgI 20), (u 21, ent (gI G q u r v) sgI 21), (u 22, ent (gI G q u r v) sgI 22), (u 23, ent (gI G q u r v) sgI 23), (u 24, ent (gI G q u r v) sgI 24), (u 25, ent (gI G q u r v) sgI 25), (u 26, ent (gI G q u r v) sgI 26), (u 27, ent (gI G q u r v) sgI 27), (u 28, ent (gI G q u r v) sgI 28), (u 29, ent (gI G q u r v) sgI 29), (u 30, ent (gI G q u r v) sgI 30), (u 31, ent (gI G q u r v) sgI 31), (u 32, ent (gI G q u r v) sgI 32), (u 33, ent (gI G q u r v) sgI 33), (u 34, ent (gI G q u r v) sgI 34), (u 35, ent (gI G q u r v) sgI 35), (u 36, ent (gI G q u r v) sgI 36), (u 37, ent (gI G q u r v) sgI 37), (u 38, ent (gI G q u r v) sgI 38), (u 39, ent (gI G q u r v) sgI 39), (u 40, ent (gI G q u r v) sgI 40), (u 41, ent (gI G q u r v) sgI 41), (u 42, ent (gI G q u r v) sgI 42), (u 43, ent (gI G q u r v) sgI 43), (u 44, ent (gI G q u r v) sgI 44), (u 45, ent (gI G q u r v) sgI 45), (u 46, ent (gI G q u r v) sgI 46), (u 47, ent (gI G q u r v) sgI 47), (u 48, ent (gI G q u r v) sgI 48), (u 49, ent (gI G q u r v) sgI 49), (u 50, ent (gI G q u r v) sgI 50), (r, ent (gI G q u r v) sgI 51), (v 1, ent (gI G q u r v) sgI 52), (v 2, ent (gI G q u r v) sgI 53), (v 3, ent (gI G q u r v) sgI 54), (v 4, ent (gI G q u r v) sgI 55), (v 5, ent (gI G q u r v) sgI 56), (v 6, ent (gI G q u r v) sgI 57), (v 7, ent (gI G q u r v) sgI 58), (v 8, ent (gI G q u r v) sgI 59), (v 9, ent (gI G q u r v) sgI 60), (v 10, ent (gI G q u r v) sgI 61), (v 11, ent (gI G q u r v) sgI 62)] = _
  rw [en_0, en_1, en_Z tbk_2 (by omega) (by omega) (by omega), en_Z tbk_3 (by omega) (by omega) (by omega), en_Z tbk_4 (by omega) (by omega) (by omega), en_T tbk_5 (by omega), en_Z tbk_6 (by omega) (by omega) (by omega), en_Z tbk_7 (by omega) (by omega) (by omega), en_Z tbk_8 (by omega) (by omega) (by omega), en_Z tbk_9 (by omega) (by omega) (by omega), en_Z tbk_10 (by omega) (by omega) (by omega), en_11, en_Z tbk_12 (by omega) (by omega) (by omega), en_Z tbk_13 (by omega) (by omega) (by omega), en_Z tbk_14 (by omega) (by omega) (by omega), en_T tbk_15 (by omega), en_Z tbk_16 (by omega) (by omega) (by omega), en_Z tbk_17 (by omega) (by omega) (by omega), en_Z tbk_18 (by omega) (by omega) (by omega), en_Z tbk_19 (by omega) (by omega) (by omega), en_Z tbk_20 (by omega) (by omega) (by omega), en_21, en_Z tbk_22 (by omega) (by omega) (by omega), en_Z tbk_23 (by omega) (by omega) (by omega), en_Z tbk_24 (by omega) (by omega) (by omega), en_T tbk_25 (by omega), en_Z tbk_26 (by omega) (by omega) (by omega), en_Z tbk_27 (by omega) (by omega) (by omega), en_Z tbk_28 (by omega) (by omega) (by omega), en_Z tbk_29 (by omega) (by omega) (by omega), en_Z tbk_30 (by omega) (by omega) (by omega), en_31, en_Z tbk_32 (by omega) (by omega) (by omega), en_Z tbk_33 (by omega) (by omega) (by omega), en_Z tbk_34 (by omega) (by omega) (by omega), en_T tbk_35 (by omega), en_Z tbk_36 (by omega) (by omega) (by omega), en_Z tbk_37 (by omega) (by omega) (by omega), en_Z tbk_38 (by omega) (by omega) (by omega), en_Z tbk_39 (by omega) (by omega) (by omega), en_Z tbk_40 (by omega) (by omega) (by omega), en_41, en_Z tbk_42 (by omega) (by omega) (by omega), en_43, en_Z tbk_44 (by omega) (by omega) (by omega), en_Z tbk_45 (by omega) (by omega) (by omega), en_Z tbk_46 (by omega) (by omega) (by omega), en_47, en_Z tbk_48 (by omega) (by omega) (by omega), en_49, en_Z tbk_50 (by omega) (by omega) (by omega), en_51, en_Z tbk_52 (by omega) (by omega) (by omega), en_Z tbk_53 (by omega) (by omega) (by omega), en_Z tbk_54 (by omega) (by omega) (by omega), en_55, en_56, en_Z tbk_57 (by omega) (by omega) (by omega), en_Z tbk_58 (by omega) (by omega) (by omega), en_Z tbk_59 (by omega) (by omega) (by omega), en_60, en_Z tbk_61 (by omega) (by omega) (by omega), en_Z tbk_62 (by omega) (by omega) (by omega)]
  rfl
end EI
/-! both sides at first -/
theorem cv_newP {σ : St} {q : Nat} (z0 : σ q 0 = 0) (z4 : σ q 4 = 25) (z6 : σ q 6 = 0) (z12 : σ q 12 = 0) (z13 : σ q 13 = 0) (zt : ∀ i : Int, 0 ≤ i → i < 4 → rd σ (q + 4) i = 1) : cv σ q = newP := by
  funext r i
  unfold newP
  match r with
  | 0 =>
    simp only [cv, z0, z4, z6, z12, z13]
    by_cases c : i = 1
    · subst c; simp
    · simp [c]
  | 1 => simp only [cv, z0]; rw [if_neg (by omega), if_neg (by omega), if_neg (by omega)]
  | 2 => simp only [cv, z0]; rw [if_neg (by omega), if_neg (by omega), if_neg (by omega)]
  | 3 => simp only [cv, z0]; rw [if_neg (by omega), if_neg (by omega), if_neg (by omega)]
  | 4 =>
    simp only [cv]
    by_cases c : 0 ≤ i ∧ i < 4
    · rw [if_pos c, zt i c.1 c.2, if_neg (by omega), if_pos ⟨trivial, c⟩]
    · rw [if_neg c, if_neg (by omega), if_neg (fun z => c z.2)]
  | 5 => simp only [cv, z6]; rw [if_neg (by omega), if_neg (by omega), if_neg (by omega)]
  | 6 => simp only [cv, z6]; rw [if_neg (by omega), if_neg (by omega), if_neg (by omega)]
  | 7 => simp only [cv, z6]; rw [if_neg (by omega), if_neg (by omega), if_neg (by omega)]
  | 8 => simp only [cv, z6]; rw [if_neg (by omega), if_neg (by omega), if_neg (by omega)]
  | n + 9 => simp [cv]
def abI : Ab := (newP, (0, fun _ => 0, fun _ => 0, fun _ => 0), fun _ => newP, fun _ => 0, (0, fun _ => 0), (fun _ => -4, fun _ => 0, fun _ => 0), 0, 0)
theorem abI_ok : OKA abI := by
  refine ⟨⟨newP_wf, by decide⟩, ⟨by decide, fun i a b => ?_⟩, ⟨Or.inl rfl, Or.inl rfl, fun z => ?_, fun z => ?_⟩, ⟨by decide, fun i a b => ?_⟩, ⟨fun k a b => ⟨Or.inl rfl, fun z => absurd rfl z⟩, fun i a b => ?_⟩⟩
  · have b' : i < 0 := b
    omega
  · have z' : (0 : Int) = 1 := z
    omega
  · have z' : (0 : Int) = 1 := z
    omega
  · have b' : i < 0 := b
    omega
  · show IR 0
    omega
theorem vcI : Vc sgI abI := by
  refine ⟨⟨cv_newP (sgI_q (by omega)) (sgI_q (by omega)) (sgI_q (by omega)) (sgI_q (by omega)) (sgI_q (by omega)) (fun i a b => ?_), sgI_q (by omega)⟩, ⟨sgI_z (by omega) (by omega) (by omega), fun i a b => ?_⟩, ⟨?_, fun z => ?_, fun z => ?_⟩, ⟨sgI_z (by omega) (by omega) (by omega), fun i a b => ?_⟩, ⟨fun k a b => ⟨fun _ => ?_, fun z => absurd rfl z⟩, fun i a b => ?_⟩, sgI_z (by omega) (by omega) (by omega), sgI_z (by omega) (by omega) (by omega)⟩
  · show sgI 5 i.toNat = 1
    rw [sgI_t (by omega), if_pos (by omega)]
  · have b' : i < 0 := b
    omega
  · show sgI 0 7 = 0 + 2 * 0
    rw [sgI_z (by omega) (by omega) (by omega)]
    rfl
  · have z' : (0 : Int) = 1 := z
    omega
  · have z' : (0 : Int) = 1 := z
    omega
  · have b' : i < 0 := b
    omega
  · show sgI 49 k.toNat = -1
    rw [sgI_49, if_pos (by omega)]
  · exact sgI_z (by omega) (by omega) (by omega)
theorem vmI : Vm sgI abI := by
  refine ⟨⟨mv_new (sgI_z (by omega) (by omega) (by omega)) (fun x a b => sgI_z (by omega) (by omega) (by omega)), sgI_z (by omega) (by omega) (by omega)⟩, ⟨sgI_z (by omega) (by omega) (by omega), fun i a b => ?_⟩, ⟨⟨sgI_z (by omega) (by omega) (by omega), sgI_z (by omega) (by omega) (by omega)⟩, fun z => ?_, fun z => ?_⟩, ⟨sgI_z (by omega) (by omega) (by omega), fun i a b => ?_⟩, ⟨fun k a b => ⟨?_, fun z => absurd rfl z⟩, fun i a b => sgI_z (by omega) (by omega) (by omega)⟩, ⟨sgI_z (by omega) (by omega) (by omega), sgI_z (by omega) (by omega) (by omega)⟩, fun i hi => ?_, fun i hi => ?_⟩
  · have b' : i < 0 := b
    omega
  · have z' : (0 : Int) = 1 := z
    omega
  · have z' : (0 : Int) = 1 := z
    omega
  · have b' : i < 0 := b
    omega
  · show sgI 60 k.toNat = -4
    rw [sgI_60, if_pos (by omega)]
  · rw [sgI_55, if_pos hi]
  · rw [sgI_56, if_pos hi]
