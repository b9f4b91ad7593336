theorem ff_X0_11 : FF RX0 11 0 0 (.array .int) := ⟨_, _, _, _, rfl, by decide, inT0, tbP1 173 rfl rfl, tyX0_ok, nmX0, ⟨rfl, rfl⟩, rfl⟩
theorem ff_X0_15 : FF RX0 15 0 1 (.array .int) := ⟨_, _, _, _, rfl, by decide, inT0, tbP1 175 rfl rfl, tyX0_ok, nmX0, ⟨rfl, rfl⟩, rfl⟩
theorem ff_X0_18 : FF RX0 18 0 2 (.array .int) := ⟨_, _, _, _, rfl, by decide, inT0, tbP1 177 rfl rfl, tyX0_ok, nmX0, ⟨rfl, rfl⟩, rfl⟩
theorem oi_X0 : Cond.methodLink RX0 3 objectInit ∈ TB := tbP1 171 rfl rfl
theorem ff_X1_9 : FF RX1 9 1 1 (.array .int) := ⟨_, _, _, _, rfl, by decide, inT1, tbP1 154 rfl rfl, tyX1_ok, nmX1, ⟨rfl, rfl⟩, rfl⟩
theorem ff_X1_13 : FF RX1 13 1 2 (.array .int) := ⟨_, _, _, _, rfl, by decide, inT1, tbP1 155 rfl rfl, tyX1_ok, nmX1, ⟨rfl, rfl⟩, rfl⟩
theorem ff_X1_16 : FF RX1 16 1 3 (.array .int) := ⟨_, _, _, _, rfl, by decide, inT1, tbP1 156 rfl rfl, tyX1_ok, nmX1, ⟨rfl, rfl⟩, rfl⟩
theorem oi_X1 : Cond.methodLink RX1 1 objectInit ∈ TB := tbP1 151 rfl rfl
theorem ff_X2_9 : FF RX2 9 2 1 (.array .int) := ⟨_, _, _, _, rfl, by decide, inT2, tbP1 39 rfl rfl, tyX2_ok, nmX2, ⟨rfl, rfl⟩, rfl⟩
theorem ff_X2_15 : FF RX2 15 2 2 (.array .int) := ⟨_, _, _, _, rfl, by decide, inT2, tbP1 41 rfl rfl, tyX2_ok, nmX2, ⟨rfl, rfl⟩, rfl⟩
theorem ff_X2_18 : FF RX2 18 2 3 (.array .int) := ⟨_, _, _, _, rfl, by decide, inT2, tbP1 44 rfl rfl, tyX2_ok, nmX2, ⟨rfl, rfl⟩, rfl⟩
theorem ff_X2_21 : FF RX2 21 2 5 (.array .int) := ⟨_, _, _, _, rfl, by decide, inT2, tbP1 49 rfl rfl, tyX2_ok, nmX2, ⟨rfl, rfl⟩, rfl⟩
theorem ff_X2_24 : FF RX2 24 2 7 (.array .int) := ⟨_, _, _, _, rfl, by decide, inT2, tbP1 55 rfl rfl, tyX2_ok, nmX2, ⟨rfl, rfl⟩, rfl⟩
theorem ff_X2_27 : FF RX2 27 2 8 (.array .int) := ⟨_, _, _, _, rfl, by decide, inT2, tbP1 57 rfl rfl, tyX2_ok, nmX2, ⟨rfl, rfl⟩, rfl⟩
theorem ff_X2_30 : FF RX2 30 2 9 (.array .int) := ⟨_, _, _, _, rfl, by decide, inT2, tbP1 59 rfl rfl, tyX2_ok, nmX2, ⟨rfl, rfl⟩, rfl⟩
theorem ff_X2_33 : FF RX2 33 2 10 (.array .int) := ⟨_, _, _, _, rfl, by decide, inT2, tbP1 62 rfl rfl, tyX2_ok, nmX2, ⟨rfl, rfl⟩, rfl⟩
theorem ff_X2_36 : FF RX2 36 2 14 (.array .int) := ⟨_, _, _, _, rfl, by decide, inT2, tbP1 70 rfl rfl, tyX2_ok, nmX2, ⟨rfl, rfl⟩, rfl⟩
theorem oi_X2 : Cond.methodLink RX2 3 objectInit ∈ TB := tbP1 28 rfl rfl
theorem ff_X3_11 : FF RX3 11 3 0 (.array .byte) := ⟨_, _, _, _, rfl, by decide, inT3, tbP1 110 rfl rfl, tyX3_ok, nmX3, ⟨rfl, rfl⟩, rfl⟩
theorem oi_X3 : Cond.methodLink RX3 3 objectInit ∈ TB := tbP1 109 rfl rfl
theorem ff_X4_10 : FF RX4 10 4 0 (.object "HorseSigns$Square") := ⟨_, _, _, _, rfl, by decide, inT4, tbP1 185 rfl rfl, tyX4_ok, nmX4, ⟨rfl, rfl⟩, rfl⟩
theorem ff_X4_16 : FF RX4 16 4 1 (.object "HorseSigns$Square") := ⟨_, _, _, _, rfl, by decide, inT4, tbP1 186 rfl rfl, tyX4_ok, nmX4, ⟨rfl, rfl⟩, rfl⟩
theorem ff_X4_19 : FF RX4 19 4 2 (.object "HorseSigns$Square") := ⟨_, _, _, _, rfl, by decide, inT4, tbP1 187 rfl rfl, tyX4_ok, nmX4, ⟨rfl, rfl⟩, rfl⟩
theorem ff_X4_22 : FF RX4 22 4 3 (.object "HorseSigns$Square") := ⟨_, _, _, _, rfl, by decide, inT4, tbP1 188 rfl rfl, tyX4_ok, nmX4, ⟨rfl, rfl⟩, rfl⟩
theorem ff_X4_28 : FF RX4 28 4 4 (.object "HorseSigns$Tape") := ⟨_, _, _, _, rfl, by decide, inT4, tbP1 189 rfl rfl, tyX4_ok, nmX4, ⟨rfl, rfl⟩, rfl⟩
theorem ff_X4_35 : FF RX4 35 4 5 (.object "HorseSigns$Sightings") := ⟨_, _, _, _, rfl, by decide, inT4, tbP1 190 rfl rfl, tyX4_ok, nmX4, ⟨rfl, rfl⟩, rfl⟩
theorem ff_X4_42 : FF RX4 42 4 6 (.object "HorseSigns$Sheets") := ⟨_, _, _, _, rfl, by decide, inT4, tbP1 191 rfl rfl, tyX4_ok, nmX4, ⟨rfl, rfl⟩, rfl⟩
theorem oi_X4 : Cond.methodLink RX4 1 objectInit ∈ TB := tbP1 20 rfl rfl
theorem ff_X5_7 : FF RX5 7 5 0 (.array .int) := ⟨_, _, _, _, rfl, by decide, inT5, tbP3 229 rfl rfl, tyX5_ok, nmX5, ⟨rfl, rfl⟩, rfl⟩
theorem ff_X5_13 : FF RX5 13 5 2 (.array .int) := ⟨_, _, _, _, rfl, by decide, inT5, tbP3 231 rfl rfl, tyX5_ok, nmX5, ⟨rfl, rfl⟩, rfl⟩
theorem ff_X5_16 : FF RX5 16 5 7 (.array .int) := ⟨_, _, _, _, rfl, by decide, inT5, tbP3 236 rfl rfl, tyX5_ok, nmX5, ⟨rfl, rfl⟩, rfl⟩
theorem ff_X5_19 : FF RX5 19 5 16 (.array .int) := ⟨_, _, _, _, rfl, by decide, inT5, tbP4 5 rfl rfl, tyX5_ok, nmX5, ⟨rfl, rfl⟩, rfl⟩
theorem ff_X5_22 : FF RX5 22 5 17 (.array .int) := ⟨_, _, _, _, rfl, by decide, inT5, tbP4 6 rfl rfl, tyX5_ok, nmX5, ⟨rfl, rfl⟩, rfl⟩
theorem ff_X5_25 : FF RX5 25 5 22 (.array .int) := ⟨_, _, _, _, rfl, by decide, inT5, tbP4 11 rfl rfl, tyX5_ok, nmX5, ⟨rfl, rfl⟩, rfl⟩
theorem ff_X5_28 : FF RX5 28 5 24 (.array .int) := ⟨_, _, _, _, rfl, by decide, inT5, tbP4 13 rfl rfl, tyX5_ok, nmX5, ⟨rfl, rfl⟩, rfl⟩
theorem ff_X5_31 : FF RX5 31 5 25 (.array .boolean) := ⟨_, _, _, _, rfl, by decide, inT5, tbP4 14 rfl rfl, tyX5_ok, nmX5, ⟨rfl, rfl⟩, rfl⟩
theorem ff_X5_35 : FF RX5 35 5 26 (.array .int) := ⟨_, _, _, _, rfl, by decide, inT5, tbP4 15 rfl rfl, tyX5_ok, nmX5, ⟨rfl, rfl⟩, rfl⟩
theorem ff_X5_38 : FF RX5 38 5 27 (.array .int) := ⟨_, _, _, _, rfl, by decide, inT5, tbP4 16 rfl rfl, tyX5_ok, nmX5, ⟨rfl, rfl⟩, rfl⟩
theorem ff_X5_41 : FF RX5 41 5 28 (.array .int) := ⟨_, _, _, _, rfl, by decide, inT5, tbP4 17 rfl rfl, tyX5_ok, nmX5, ⟨rfl, rfl⟩, rfl⟩
theorem oi_X5 : Cond.methodLink RX5 1 objectInit ∈ TB := tbP3 228 rfl rfl
theorem fty_a (t : FieldType) : ∀ q, narrow (.array t) (.ref q) = .ref q ∧ fits (.array t) (.ref q) = true := fun _ => ⟨rfl, rfl⟩
theorem fty_o (t : String) : ∀ q, narrow (.object t) (.ref q) = .ref q ∧ fits (.object t) (.ref q) = true := fun _ => ⟨rfl, rfl⟩
theorem cv_X2_39 : CV RX2 39 2 yX2_makeNew cX2_makeNew 1 none 0 := ⟨tbP1 29 rfl rfl, tbP1 30 rfl rfl, tbP1 31 rfl rfl, tbP1 2 rfl rfl, tbP1 32 rfl rfl, ⟨rfl, by decide, by decide, by decide +kernel⟩, by decide, _, _, rfl⟩
theorem cs_X0_21 : CS RX0 21 yJ7_fill_53178 cJ7_fill_53178 4 none 2 := ⟨tbP1 172 rfl rfl, tbP1 34 rfl rfl, tbP1 3 rfl rfl, tbP1 35 rfl rfl, ⟨by decide, by decide, by decide +kernel⟩⟩
def fs0_X0 : List Value := [.null, .null, .null]
def fs0_X1 : List Value := [.int 0, .null, .null, .null]
def fs0_X2 : List Value := [.int 0, .null, .null, .null, .int 0, .null, .int 0, .null, .null, .null, .null, .int 0, .int 0, .int 0, .null]
def fs0_X3 : List Value := [.null, .int 0, .int 0, .int 0, .int 0, .int 0, .int 0, .int 0, .int 0, .int 0]
def fs0_X4 : List Value := [.null, .null, .null, .null, .null, .null, .null, .int 0, .int 0, .int 0]
def fs0_X5 : List Value := [.null, .int 0, .null, .int 0, .int 0, .int 0, .int 0, .null, .int 0, .int 0, .int 0, .int 0, .int 0, .int 0, .int 0, .int 0, .null, .null, .int 0, .int 0, .int 0, .int 0, .null, .int 0, .null, .null, .null, .null, .null, .int 0]
theorem no_X4_X2 : NO RX4 7 2 15 fs0_X2 := ⟨RX2, TX2, tyX2, rfl, inT2, tyX2_ok, tbP1 23 rfl rfl, tbP1 24 rfl rfl, tbP1 2 rfl rfl, fun j hj => by rcases (show j = 0 ∨ j = 1 ∨ j = 2 ∨ j = 3 ∨ j = 4 ∨ j = 5 ∨ j = 6 ∨ j = 7 ∨ j = 8 ∨ j = 9 ∨ j = 10 ∨ j = 11 ∨ j = 12 ∨ j = 13 ∨ j = 14 by omega) with rfl | rfl | rfl | rfl | rfl | rfl | rfl | rfl | rfl | rfl | rfl | rfl | rfl | rfl | rfl <;> rfl⟩
theorem li_X4_X2 : LI RX4 9 yX2_init cX2_init := ⟨Or.inl (tbP1 25 rfl rfl), tbP1 26 rfl rfl, tbP1 2 rfl rfl, tbP1 27 rfl rfl, rfl, by decide, by decide, by decide +kernel⟩
theorem no_X4_X3 : NO RX4 25 3 10 fs0_X3 := ⟨RX3, TX3, tyX3, rfl, inT3, tyX3_ok, tbP1 104 rfl rfl, tbP1 105 rfl rfl, tbP1 4 rfl rfl, fun j hj => by rcases (show j = 0 ∨ j = 1 ∨ j = 2 ∨ j = 3 ∨ j = 4 ∨ j = 5 ∨ j = 6 ∨ j = 7 ∨ j = 8 ∨ j = 9 by omega) with rfl | rfl | rfl | rfl | rfl | rfl | rfl | rfl | rfl | rfl <;> rfl⟩
theorem li_X4_X3 : LI RX4 27 yX3_init cX3_init := ⟨Or.inr (fun _ h => h.1), tbP1 107 rfl rfl, tbP1 4 rfl rfl, tbP1 108 rfl rfl, rfl, by decide, by decide, by decide +kernel⟩
theorem no_X4_X1 : NO RX4 32 1 4 fs0_X1 := ⟨RX1, TX1, tyX1, rfl, inT1, tyX1_ok, tbP1 146 rfl rfl, tbP1 147 rfl rfl, tbP1 5 rfl rfl, fun j hj => by rcases (show j = 0 ∨ j = 1 ∨ j = 2 ∨ j = 3 by omega) with rfl | rfl | rfl | rfl <;> rfl⟩
theorem li_X4_X1 : LI RX4 34 yX1_init cX1_init := ⟨Or.inr (fun _ h => h.2), tbP1 149 rfl rfl, tbP1 5 rfl rfl, tbP1 150 rfl rfl, rfl, by decide, by decide, by decide +kernel⟩
theorem no_X4_X0 : NO RX4 39 0 3 fs0_X0 := ⟨RX0, TX0, tyX0, rfl, inT0, tyX0_ok, tbP1 166 rfl rfl, tbP1 167 rfl rfl, tbP1 6 rfl rfl, fun j hj => by rcases (show j = 0 ∨ j = 1 ∨ j = 2 by omega) with rfl | rfl | rfl <;> rfl⟩
theorem li_X4_X0 : LI RX4 41 yX0_init cX0_init := ⟨Or.inl (tbP1 168 rfl rfl), tbP1 169 rfl rfl, tbP1 6 rfl rfl, tbP1 170 rfl rfl, rfl, by decide, by decide, by decide +kernel⟩
theorem no_L_X4 : NO RL 7 4 10 fs0_X4 := ⟨RX4, TX4, tyX4, rfl, inT4, tyX4_ok, tbP1 15 rfl rfl, tbP1 16 rfl rfl, tbP1 1 rfl rfl, fun j hj => by rcases (show j = 0 ∨ j = 1 ∨ j = 2 ∨ j = 3 ∨ j = 4 ∨ j = 5 ∨ j = 6 ∨ j = 7 ∨ j = 8 ∨ j = 9 by omega) with rfl | rfl | rfl | rfl | rfl | rfl | rfl | rfl | rfl | rfl <;> rfl⟩
theorem li_L_X4 : LI RL 9 yX4_init cX4_init := ⟨Or.inl (tbP1 17 rfl rfl), tbP1 18 rfl rfl, tbP1 1 rfl rfl, tbP1 19 rfl rfl, rfl, by decide, by decide, by decide +kernel⟩
theorem no_L_X5 : NO RL 10 5 30 fs0_X5 := ⟨RX5, TX5, tyX5, rfl, inT5, tyX5_ok, tbP3 223 rfl rfl, tbP3 224 rfl rfl, tbP1 7 rfl rfl, fun j hj => by rcases (show j = 0 ∨ j = 1 ∨ j = 2 ∨ j = 3 ∨ j = 4 ∨ j = 5 ∨ j = 6 ∨ j = 7 ∨ j = 8 ∨ j = 9 ∨ j = 10 ∨ j = 11 ∨ j = 12 ∨ j = 13 ∨ j = 14 ∨ j = 15 ∨ j = 16 ∨ j = 17 ∨ j = 18 ∨ j = 19 ∨ j = 20 ∨ j = 21 ∨ j = 22 ∨ j = 23 ∨ j = 24 ∨ j = 25 ∨ j = 26 ∨ j = 27 ∨ j = 28 ∨ j = 29 by omega) with rfl | rfl | rfl | rfl | rfl | rfl | rfl | rfl | rfl | rfl | rfl | rfl | rfl | rfl | rfl | rfl | rfl | rfl | rfl | rfl | rfl | rfl | rfl | rfl | rfl | rfl | rfl | rfl | rfl | rfl <;> rfl⟩
theorem li_L_X5 : LI RL 12 yX5_init cX5_init := ⟨Or.inl (tbP3 225 rfl rfl), tbP3 226 rfl rfl, tbP1 7 rfl rfl, tbP3 227 rfl rfl, rfl, by decide, by decide, by decide +kernel⟩
def wSq (G : Gh) (q : Nat) (u : Nat → Nat) : va_W := [(q, .inr (2, fsq1 u)), (u 1, .inl (gC G 0, 5, .inl (fun _ => 0))), (u 2, .inl (gC G 0, 5, .inl (fun _ => 0))), (u 3, .inl (gC G 0, 5, .inl (fun _ => 0))), (u 4, .inl (gC G 0, 4, .inl (fll 4 (Int32.ofInt 1) (fun _ => 0)))), (u 5, .inl (gC G 0, 8, .inl (fun _ => 0))), (u 6, .inl (gC G 0, 8, .inl (fun _ => 0))), (u 7, .inl (gC G 0, 8, .inl (fun _ => 0))), (u 8, .inl (gC G 0, 8, .inl (fun _ => 0))), (u 9, .inl (gC G 0, 4, .inl (fun _ => 0)))]
def wTp (G : Gh) (q : Nat) (u : Nat → Nat) : va_W := [(q, .inr (3, [.ref (u 1), .int 0, .int 0, .int 0, .int 0, .int 0, .int 0, .int 0, .int 0, .int 0])), (u 1, .inl (gC G 1, 160, .inl (fun _ => 0)))]
def wSg (G : Gh) (q : Nat) (u : Nat → Nat) : va_W := [(q, .inr (1, [.int 0, .ref (u 1), .ref (u 2), .ref (u 3)])), (u 1, .inl (gC G 0, 6, .inl (fun _ => 0))), (u 2, .inl (gC G 0, 6, .inl (fun _ => 0))), (u 3, .inl (gC G 0, 6, .inl (fun _ => 0)))]
def wSh (G : Gh) (q : Nat) (u : Nat → Nat) : va_W := [(q, .inr (0, [.ref (u 1), .ref (u 2), .ref (u 3)])), (u 1, .inl (gC G 0, 4, .inl (fun _ => 0))), (u 2, .inl (gC G 0, 4, .inl (fll 4 (Int32.ofInt (-1)) (fun _ => 0)))), (u 3, .inl (gC G 0, 160, .inl (fun _ => 0)))]
def wMo (G : Gh) (q : Nat) (u : Nat → Nat) : va_W := [(q, .inr (5, [.ref (u 1), .int 0, .ref (u 2), .int 0, .int 0, .int 0, .int 0, .ref (u 3), .int 0, .int 0, .int 0, .int 0, .int 0, .int 0, .int 0, .int 0, .ref (u 4), .ref (u 5), .int 0, .int 0, .int 0, .int 0, .ref (u 6), .int 0, .ref (u 7), .ref (u 8), .ref (u 9), .ref (u 10), .ref (u 11), .int 0])), (u 1, .inl (gC G 0, 330, .inl (fun _ => 0))), (u 2, .inl (gC G 0, 55, .inl (fun _ => 0))), (u 3, .inl (gC G 0, 160, .inl (fun _ => 0))), (u 4, .inl (gC G 0, 8, .inl (tbf endsT 8))), (u 5, .inl (gC G 0, 36, .inl (tbf lettT 36))), (u 6, .inl (gC G 0, 18, .inl (fun _ => 0))), (u 7, .inl (gC G 0, 1680, .inl (fun _ => 0))), (u 8, .inl (gC G 2, 2, .inl (fun _ => 0))), (u 9, .inl (gC G 0, 4, .inl (tbf (fun _ => -4) 4))), (u 10, .inl (gC G 0, 4, .inl (fun _ => 0))), (u 11, .inl (gC G 0, 160, .inl (fun _ => 0)))]
def wHS (G : Gh) (q : Nat) (u : Nat → Nat) : va_W := [(q, .inr (4, [.ref (u 1), .ref (u 11), .ref (u 21), .ref (u 31), .ref (u 41), .ref (u 43), .ref (u 47), .int 0, .int 0, .int 0])), (u 1, .inr (2, fsq1 (fun i => u (1 + i)))), (u 2, .inl (gC G 0, 5, .inl (fun _ => 0))), (u 3, .inl (gC G 0, 5, .inl (fun _ => 0))), (u 4, .inl (gC G 0, 5, .inl (fun _ => 0))), (u 5, .inl (gC G 0, 4, .inl (fll 4 (Int32.ofInt 1) (fun _ => 0)))), (u 6, .inl (gC G 0, 8, .inl (fun _ => 0))), (u 7, .inl (gC G 0, 8, .inl (fun _ => 0))), (u 8, .inl (gC G 0, 8, .inl (fun _ => 0))), (u 9, .inl (gC G 0, 8, .inl (fun _ => 0))), (u 10, .inl (gC G 0, 4, .inl (fun _ => 0))), (u 11, .inr (2, fsq1 (fun i => u (11 + i)))), (u 12, .inl (gC G 0, 5, .inl (fun _ => 0))), (u 13, .inl (gC G 0, 5, .inl (fun _ => 0))), (u 14, .inl (gC G 0, 5, .inl (fun _ => 0))), (u 15, .inl (gC G 0, 4, .inl (fll 4 (Int32.ofInt 1) (fun _ => 0)))), (u 16, .inl (gC G 0, 8, .inl (fun _ => 0))), (u 17, .inl (gC G 0, 8, .inl (fun _ => 0))), (u 18, .inl (gC G 0, 8, .inl (fun _ => 0))), (u 19, .inl (gC G 0, 8, .inl (fun _ => 0))), (u 20, .inl (gC G 0, 4, .inl (fun _ => 0))), (u 21, .inr (2, fsq1 (fun i => u (21 + i)))), (u 22, .inl (gC G 0, 5, .inl (fun _ => 0))), (u 23, .inl (gC G 0, 5, .inl (fun _ => 0))), (u 24, .inl (gC G 0, 5, .inl (fun _ => 0))), (u 25, .inl (gC G 0, 4, .inl (fll 4 (Int32.ofInt 1) (fun _ => 0)))), (u 26, .inl (gC G 0, 8, .inl (fun _ => 0))), (u 27, .inl (gC G 0, 8, .inl (fun _ => 0))), (u 28, .inl (gC G 0, 8, .inl (fun _ => 0))), (u 29, .inl (gC G 0, 8, .inl (fun _ => 0))), (u 30, .inl (gC G 0, 4, .inl (fun _ => 0))), (u 31, .inr (2, fsq1 (fun i => u (31 + i)))), (u 32, .inl (gC G 0, 5, .inl (fun _ => 0))), (u 33, .inl (gC G 0, 5, .inl (fun _ => 0))), (u 34, .inl (gC G 0, 5, .inl (fun _ => 0))), (u 35, .inl (gC G 0, 4, .inl (fll 4 (Int32.ofInt 1) (fun _ => 0)))), (u 36, .inl (gC G 0, 8, .inl (fun _ => 0))), (u 37, .inl (gC G 0, 8, .inl (fun _ => 0))), (u 38, .inl (gC G 0, 8, .inl (fun _ => 0))), (u 39, .inl (gC G 0, 8, .inl (fun _ => 0))), (u 40, .inl (gC G 0, 4, .inl (fun _ => 0))), (u 41, .inr (3, [.ref (u 42), .int 0, .int 0, .int 0, .int 0, .int 0, .int 0, .int 0, .int 0, .int 0])), (u 42, .inl (gC G 1, 160, .inl (fun _ => 0))), (u 43, .inr (1, [.int 0, .ref (u 44), .ref (u 45), .ref (u 46)])), (u 44, .inl (gC G 0, 6, .inl (fun _ => 0))), (u 45, .inl (gC G 0, 6, .inl (fun _ => 0))), (u 46, .inl (gC G 0, 6, .inl (fun _ => 0))), (u 47, .inr (0, [.ref (u 48), .ref (u 49), .ref (u 50)])), (u 48, .inl (gC G 0, 4, .inl (fun _ => 0))), (u 49, .inl (gC G 0, 4, .inl (fll 4 (Int32.ofInt (-1)) (fun _ => 0)))), (u 50, .inl (gC G 0, 160, .inl (fun _ => 0)))]
def rmSq : Room := { frames := 2, cells := 9, slots := 55, locals := 43 }
def rmTp : Room := { frames := 1, cells := 1, slots := 160, locals := 12 }
def rmSg : Room := { frames := 1, cells := 3, slots := 18, locals := 12 }
def rmSh : Room := { frames := 1, cells := 3, slots := 168, locals := 23 }
def rmHS : Room := { frames := 3, cells := 50, slots := 643, locals := 63 }
def rmMo : Room := { frames := 1, cells := 11, slots := 2457, locals := 12 }
theorem n_tb0 {G : Gh} {A : Nat → Prop} {s : State} {H : Heap} {locs : List Loc} {w0 : va_W} {a N : Nat} {cA : ClassId} (g : Nat → Int) (hW : WN G A s H locs (w0 ++ [(a, .inl (cA, N, .inl (fun _ => 0)))])) : WN G A s H locs (w0 ++ [(a, .inl (cA, N, .inl (tbf g 0)))]) := by
  rw [← tbf_0]
  exact hW
