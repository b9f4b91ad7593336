set_option maxHeartbeats 4000000 in
set_option maxRecDepth 100000 in
theorem nt_X2 (G : Gh) (l : Launch) : NT G l yX2_init cX2_init rmSq 2 fs0_X2 (wSq G) := by
  refine nt_of (by decide) rfl ?_
  intro p e s m below meth c h0 ls A Q C hNw hn hA hW hl kk
  refine n_oi (pc := 0) C hl dX2_init_0 dX2_init_1 oi_X2 (Nat.le_of_ble_eq_true rfl) (Nat.le_of_ble_eq_true rfl) ?_
  refine n_nf (pc := 4) (t := 0) (N := 5) C hn hA hl hW dX2_init_4 (Or.inl ⟨dX2_init_5, rfl⟩) dX2_init_6 dX2_init_8 ff_X2_9 (fty_a _) (Nat.le_of_ble_eq_true rfl) (by decide) (by decide) (Nat.le_of_ble_eq_true rfl) (Nat.le_of_ble_eq_true rfl) (fun q1 H locs hW => ?_)
  refine n_nf (pc := 11) (t := 0) (N := 5) C hn hA hl hW dX2_init_11 (Or.inl ⟨dX2_init_12, rfl⟩) dX2_init_13 dX2_init_15 ff_X2_15 (fty_a _) (Nat.le_of_ble_eq_true rfl) (by decide) (by decide) (Nat.le_of_ble_eq_true rfl) (Nat.le_of_ble_eq_true rfl) (fun q2 H locs hW => ?_)
  refine n_nf (pc := 18) (t := 0) (N := 5) C hn hA hl hW dX2_init_18 (Or.inl ⟨dX2_init_19, rfl⟩) dX2_init_20 dX2_init_22 ff_X2_18 (fty_a _) (Nat.le_of_ble_eq_true rfl) (by decide) (by decide) (Nat.le_of_ble_eq_true rfl) (Nat.le_of_ble_eq_true rfl) (fun q3 H locs hW => ?_)
  refine n_nf (pc := 25) (t := 0) (N := 4) C hn hA hl hW dX2_init_25 (Or.inl ⟨dX2_init_26, rfl⟩) dX2_init_27 dX2_init_29 ff_X2_21 (fty_a _) (Nat.le_of_ble_eq_true rfl) (by decide) (by decide) (Nat.le_of_ble_eq_true rfl) (Nat.le_of_ble_eq_true rfl) (fun q4 H locs hW => ?_)
  refine n_nf (pc := 32) (t := 0) (N := 8) C hn hA hl hW dX2_init_32 (Or.inr (Or.inl ⟨dX2_init_33, rfl, rfl⟩)) dX2_init_35 dX2_init_37 ff_X2_24 (fty_a _) (Nat.le_of_ble_eq_true rfl) (by decide) (by decide) (Nat.le_of_ble_eq_true rfl) (Nat.le_of_ble_eq_true rfl) (fun q5 H locs hW => ?_)
  refine n_nf (pc := 40) (t := 0) (N := 8) C hn hA hl hW dX2_init_40 (Or.inr (Or.inl ⟨dX2_init_41, rfl, rfl⟩)) dX2_init_43 dX2_init_45 ff_X2_27 (fty_a _) (Nat.le_of_ble_eq_true rfl) (by decide) (by decide) (Nat.le_of_ble_eq_true rfl) (Nat.le_of_ble_eq_true rfl) (fun q6 H locs hW => ?_)
  refine n_nf (pc := 48) (t := 0) (N := 8) C hn hA hl hW dX2_init_48 (Or.inr (Or.inl ⟨dX2_init_49, rfl, rfl⟩)) dX2_init_51 dX2_init_53 ff_X2_30 (fty_a _) (Nat.le_of_ble_eq_true rfl) (by decide) (by decide) (Nat.le_of_ble_eq_true rfl) (Nat.le_of_ble_eq_true rfl) (fun q7 H locs hW => ?_)
  refine n_nf (pc := 56) (t := 0) (N := 8) C hn hA hl hW dX2_init_56 (Or.inr (Or.inl ⟨dX2_init_57, rfl, rfl⟩)) dX2_init_59 dX2_init_61 ff_X2_33 (fty_a _) (Nat.le_of_ble_eq_true rfl) (by decide) (by decide) (Nat.le_of_ble_eq_true rfl) (Nat.le_of_ble_eq_true rfl) (fun q8 H locs hW => ?_)
  refine n_nf (pc := 64) (t := 0) (N := 4) C hn hA hl hW dX2_init_64 (Or.inl ⟨dX2_init_65, rfl⟩) dX2_init_66 dX2_init_68 ff_X2_36 (fty_a _) (Nat.le_of_ble_eq_true rfl) (by decide) (by decide) (Nat.le_of_ble_eq_true rfl) (Nat.le_of_ble_eq_true rfl) (fun q9 H locs hW => ?_)
  have hW2 : WN G A s H locs ([(q1, .inl (gC G 0, 5, .inl (fun _ => 0))), (q2, .inl (gC G 0, 5, .inl (fun _ => 0))), (q3, .inl (gC G 0, 5, .inl (fun _ => 0))), (q5, .inl (gC G 0, 8, .inl (fun _ => 0))), (q6, .inl (gC G 0, 8, .inl (fun _ => 0))), (q7, .inl (gC G 0, 8, .inl (fun _ => 0))), (q8, .inl (gC G 0, 8, .inl (fun _ => 0))), (q9, .inl (gC G 0, 4, .inl (fun _ => 0)))] ++ wMk0 G h0 (fun k => ([0, q1, q2, q3, q4, q5, q6, q7, q8, q9] : List Nat).getD k 0)) := ⟨hW.1.sub [1, 2, 3, 5, 6, 7, 8, 9, 0, 4] rfl, hW.2.1.sub [1, 2, 3, 5, 6, 7, 8, 9, 0, 4] (by decide) rfl, hW.2.2⟩
  refine n_al (pc := 71) C hl dX2_init_71 (n_mk C hA hl.1 (Nat.le_of_ble_eq_true rfl) hW2 cv_X2_39 ⟨(Nat.le_of_ble_eq_true rfl), (Nat.le_of_ble_eq_true rfl)⟩ ⟨(Nat.le_of_ble_eq_true rfl), (Nat.le_of_ble_eq_true rfl)⟩ dX2_init_72 (fun H locs hW => ?_))
  have hW3 : WN G A s H locs (wSq G h0 (fun k => ([0, q1, q2, q3, q4, q5, q6, q7, q8, q9] : List Nat).getD k 0)) := ⟨hW.1.sub [8, 0, 1, 2, 9, 3, 4, 5, 6, 7] rfl, hW.2.1.sub [8, 0, 1, 2, 9, 3, 4, 5, 6, 7] (by decide) rfl, hW.2.2⟩
  exact W.widen (Nat.le_of_ble_eq_true rfl) (Nat.le_of_ble_eq_true rfl) (kk H locs 75 ls _ hW3 dX2_init_75)
set_option maxHeartbeats 4000000 in
set_option maxRecDepth 100000 in
theorem nt_X3 (G : Gh) (l : Launch) : NT G l yX3_init cX3_init rmTp 3 fs0_X3 (wTp G) := by
  refine nt_of (by decide) rfl ?_
  intro p e s m below meth c h0 ls A Q C hNw hn hA hW hl kk
  refine n_oi (pc := 0) C hl dX3_init_0 dX3_init_1 oi_X3 (Nat.le_of_ble_eq_true rfl) (Nat.le_of_ble_eq_true rfl) ?_
  refine n_nf (pc := 4) (t := 1) (N := 160) C hn hA hl hW dX3_init_4 (Or.inr (Or.inr ⟨dX3_init_5, rfl, rfl⟩)) dX3_init_8 dX3_init_10 ff_X3_11 (fty_a _) (Nat.le_of_ble_eq_true rfl) (by decide) (by decide) (Nat.le_of_ble_eq_true rfl) (Nat.le_of_ble_eq_true rfl) (fun q1 H locs hW => ?_)
  exact W.widen (Nat.le_of_ble_eq_true rfl) (Nat.le_of_ble_eq_true rfl) (kk H locs 13 ls (fun k => ([0, q1] : List Nat).getD k 0) hW dX3_init_13)
set_option maxHeartbeats 4000000 in
set_option maxRecDepth 100000 in
theorem nt_X1 (G : Gh) (l : Launch) : NT G l yX1_init cX1_init rmSg 1 fs0_X1 (wSg G) := by
  refine nt_of (by decide) rfl ?_
  intro p e s m below meth c h0 ls A Q C hNw hn hA hW hl kk
  refine n_oi (pc := 0) C hl dX1_init_0 dX1_init_1 oi_X1 (Nat.le_of_ble_eq_true rfl) (Nat.le_of_ble_eq_true rfl) ?_
  refine n_nf (pc := 4) (t := 0) (N := 6) C hn hA hl hW dX1_init_4 (Or.inr (Or.inl ⟨dX1_init_5, rfl, rfl⟩)) dX1_init_7 dX1_init_9 ff_X1_9 (fty_a _) (Nat.le_of_ble_eq_true rfl) (by decide) (by decide) (Nat.le_of_ble_eq_true rfl) (Nat.le_of_ble_eq_true rfl) (fun q1 H locs hW => ?_)
  refine n_nf (pc := 12) (t := 0) (N := 6) C hn hA hl hW dX1_init_12 (Or.inr (Or.inl ⟨dX1_init_13, rfl, rfl⟩)) dX1_init_15 dX1_init_17 ff_X1_13 (fty_a _) (Nat.le_of_ble_eq_true rfl) (by decide) (by decide) (Nat.le_of_ble_eq_true rfl) (Nat.le_of_ble_eq_true rfl) (fun q2 H locs hW => ?_)
  refine n_nf (pc := 20) (t := 0) (N := 6) C hn hA hl hW dX1_init_20 (Or.inr (Or.inl ⟨dX1_init_21, rfl, rfl⟩)) dX1_init_23 dX1_init_25 ff_X1_16 (fty_a _) (Nat.le_of_ble_eq_true rfl) (by decide) (by decide) (Nat.le_of_ble_eq_true rfl) (Nat.le_of_ble_eq_true rfl) (fun q3 H locs hW => ?_)
  exact W.widen (Nat.le_of_ble_eq_true rfl) (Nat.le_of_ble_eq_true rfl) (kk H locs 28 ls (fun k => ([0, q1, q2, q3] : List Nat).getD k 0) hW dX1_init_28)
set_option maxHeartbeats 4000000 in
set_option maxRecDepth 100000 in
theorem nt_X0 (G : Gh) (l : Launch) : NT G l yX0_init cX0_init rmSh 0 fs0_X0 (wSh G) := by
  refine nt_of (by decide) rfl ?_
  intro p e s m below meth c h0 ls A Q C hNw hn hA hW hl kk
  refine n_oi (pc := 0) C hl dX0_init_0 dX0_init_1 oi_X0 (Nat.le_of_ble_eq_true rfl) (Nat.le_of_ble_eq_true rfl) ?_
  refine n_nf (pc := 4) (t := 0) (N := 4) C hn hA hl hW dX0_init_4 (Or.inl ⟨dX0_init_5, rfl⟩) dX0_init_6 dX0_init_8 ff_X0_11 (fty_a _) (Nat.le_of_ble_eq_true rfl) (by decide) (by decide) (Nat.le_of_ble_eq_true rfl) (Nat.le_of_ble_eq_true rfl) (fun q1 H locs hW => ?_)
  refine n_nf (pc := 11) (t := 0) (N := 4) C hn hA hl hW dX0_init_11 (Or.inl ⟨dX0_init_12, rfl⟩) dX0_init_13 dX0_init_15 ff_X0_15 (fty_a _) (Nat.le_of_ble_eq_true rfl) (by decide) (by decide) (Nat.le_of_ble_eq_true rfl) (Nat.le_of_ble_eq_true rfl) (fun q2 H locs hW => ?_)
  refine n_nf (pc := 18) (t := 0) (N := 160) C hn hA hl hW dX0_init_18 (Or.inr (Or.inr ⟨dX0_init_19, rfl, rfl⟩)) dX0_init_22 dX0_init_24 ff_X0_18 (fty_a _) (Nat.le_of_ble_eq_true rfl) (by decide) (by decide) (Nat.le_of_ble_eq_true rfl) (Nat.le_of_ble_eq_true rfl) (fun q3 H locs hW => ?_)
  refine n_al (pc := 27) C hl dX0_init_27 (n_gR C hW fl_X0_15 rfl dX0_init_28 (n_psh C (Or.inl ⟨dX0_init_31, rfl⟩) ?_))
  have hW2 : WN G A s H locs ([(h0, .inr (0, [.ref q1, .ref q2, .ref q3])), (q1, .inl (gC G 0, 4, .inl (fun _ => 0))), (q3, .inl (gC G 0, 160, .inl (fun _ => 0)))] ++ [(q2, .inl (gC G 0, 4, .inl (fun _ => 0)))]) := ⟨hW.1.sub [0, 1, 3, 2] rfl, hW.2.1.sub [0, 1, 3, 2] (by decide) rfl, hW.2.2⟩
  refine n_fill (pc := 32) C hA hl.1 (by omega) (Nat.le_of_ble_eq_true rfl) hW2 cs_X0_21 ⟨(Nat.le_of_ble_eq_true rfl), (Nat.le_of_ble_eq_true rfl)⟩ ⟨(Nat.le_of_ble_eq_true rfl), (Nat.le_of_ble_eq_true rfl)⟩ dX0_init_32 (fun H locs hW => ?_)
  have hW3 : WN G A s H locs (wSh G h0 (fun k => ([0, q1, q2, q3] : List Nat).getD k 0)) := ⟨hW.1.sub [0, 1, 3, 2] rfl, hW.2.1.sub [0, 1, 3, 2] (by decide) rfl, hW.2.2⟩
  exact W.widen (Nat.le_of_ble_eq_true rfl) (Nat.le_of_ble_eq_true rfl) (kk H locs 35 ls _ hW3 dX0_init_35)
