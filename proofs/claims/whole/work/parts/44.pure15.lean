/-! ===== pure part 15: swap, need ===== -/
def swP (P : Pg) (i j : Int) : Pg := upP (upP P 7 i (P 7 j)) 7 j (P 7 i)
def inF (g : Nat → Nat → Int) (i : Nat) : Nat → Nat → Int → Int → Int × Int
  | 0, _, v, w => (v, w)
  | c + 1, j, v, w => if v < g i j then inF g i c (j + 1) (g i j) (10 * i + j) else inF g i c (j + 1) v w
def outF (g : Nat → Nat → Int) (M : Nat) : Nat → Nat → Int → Int → Int × Int
  | 0, _, v, w => (v, w)
  | c + 1, i, v, w => outF g M c (i + 1) (inF g i (M - (i + 1)) (i + 1) v w).1 (inF g i (M - (i + 1)) (i + 1) v w).2
theorem wf_sw {P : Pg} (wf : WF P) {i j : Int} (hi : 0 ≤ i ∧ i < P 0 2) (hj : 0 ≤ j ∧ j < P 0 2) : WF (swP P i j) := by
  obtain ⟨w0, w1, w2, w3, w4, w5, w6, w7⟩ := wf
  refine ⟨w0, w1, w2, w3, w4, w5, w6, ?_⟩
  intro k h0 h1
  obtain ⟨a5, a6, a7, a8⟩ := w7 k h0 h1
  refine ⟨a5, a6, ?_, a8⟩
  have z1 := (w7 i hi.1 hi.2).2.2.1
  have z2 := (w7 j hj.1 hj.2).2.2.1
  show 0 ≤ (if (7 : Nat) = 7 ∧ k = j then P 7 i else if (7 : Nat) = 7 ∧ k = i then P 7 j else P 7 k) ∧ (if (7 : Nat) = 7 ∧ k = j then P 7 i else if (7 : Nat) = 7 ∧ k = i then P 7 j else P 7 k) < 5
  split
  · exact z1
  · split
    · exact z2
    · exact a7
theorem sw_day (P : Pg) (i j : Int) : swP P i j 0 3 = P 0 3 := rfl
def S_swap (n w : Int) (P : Pg) : Int := if 0 ≤ n ∧ n ≤ 60 then (if 0 ≤ w ∧ w ≤ 1 then finW w (outF (fun i j => abM (swP P i j) 0 n.toNat) (P 0 2).toNat (P 0 2).toNat 0 (abM P 0 n.toNat) (-4)) else -1) else -1
theorem c_swap {x w : Int} (hx : IR x) (hw : IR w) {σ : St} (I : Ic σ) : ∃ σ1, f_X4_swap x w σ = some (S_swap x w (cv σ 1), σ1) ∧ Qc σ σ1 := by
  have wm : wr (-4) = -4 := by decide
  have wf := I.1
  have hd := I.2.1
  have hM := wf.2.2.1
  unfold f_X4_swap S_swap
  rw [c_isRun hx, bI_s, c_isChoice hw, bI_s]
  by_cases g : 0 ≤ x ∧ x ≤ 60
  · rw [if_pos (by simp [g]), if_pos g]
    by_cases g2 : 0 ≤ w ∧ w ≤ 1
    · rw [if_pos (by simp [g2]), if_pos g2]
      obtain ⟨σ1, b1, b2, b3, b4⟩ := c_trial I
      obtain ⟨σ2, b5, b6⟩ := c_ab wf hd b3 b4 g
      rw [b1, bV_s, b5, bI_s]
      have s0 := abM_bd wf 0 x.toNat (by omega)
      have inn : ∀ (K : Int → Int → Int → Int → Int → St → Option (Int × St)) (i : Nat), (i : Int) < cv σ 1 0 2 → ∀ (k j n : Nat) (v u : Int) (τ : St), j + k = (cv σ 1 0 2).toNat → i < j → k < n → Qc σ τ → 0 ≤ v ∧ v ≤ 5 → -4 ≤ u ∧ u ≤ 100 → ∃ τ', Qc σ τ' ∧ f_X4_swap_58 K n x w v u i j τ = K x w (inF (fun i j => abM (swP (cv σ 1) i j) 0 x.toNat) i k j v u).1 (inF (fun i j => abM (swP (cv σ 1) i j) 0 x.toNat) i k j v u).2 ((i : Int) + 1) τ' ∧ (0 ≤ (inF (fun i j => abM (swP (cv σ 1) i j) 0 x.toNat) i k j v u).1 ∧ (inF (fun i j => abM (swP (cv σ 1) i j) 0 x.toNat) i k j v u).1 ≤ 5) ∧ (-4 ≤ (inF (fun i j => abM (swP (cv σ 1) i j) 0 x.toNat) i k j v u).2 ∧ (inF (fun i j => abM (swP (cv σ 1) i j) 0 x.toNat) i k j v u).2 ≤ 100) := by
        intro K i hiM k
        induction k with
        | zero =>
          intro j n v u τ hj hij hn hq hv hu
          obtain ⟨n, rfl⟩ : ∃ z, n = z + 1 := ⟨n - 1, by omega⟩
          have e6 : τ 1 6 = cv σ 1 0 2 := hq 1 6 (by omega)
          refine ⟨τ, hq, ?_, hv, hu⟩
          rw [f_X4_swap_58, e6, wr_of (x := (j : Int)) (by omega) (by omega), wr_of (x := cv σ 1 0 2) (by omega) (by omega), if_neg (by omega)]
          rfl
        | succ k ih =>
          intro j n v u τ hj hij hn hq hv hu
          obtain ⟨n, rfl⟩ : ∃ z, n = z + 1 := ⟨n - 1, by omega⟩
          have hjM : (j : Int) < cv σ 1 0 2 := by omega
          have e6 : τ 1 6 = cv σ 1 0 2 := hq 1 6 (by omega)
          obtain ⟨τ1, c1, c2, c3, c4⟩ := c_trial (I.q hq)
          rw [hq.cv] at c3
          have q1 : Qc σ τ1 := hq.tr c2
          have e7 : ∀ y : Int, 0 ≤ y → y < cv σ 1 0 2 → rd τ1 8 y = cv σ 1 7 y := by
            intro y h0 h1
            have : cv τ1 1 = cv σ 1 := q1.cv
            rw [← this]
            exact cv_ro (q := 1) h0 (by rw [this]; exact h1)
          have l6 : τ1 11 6 = cv σ 1 0 2 := by rw [← cv_2 τ1 11, c3]
          have cs1 : cv (ups τ1 18 i (cv σ 1 7 j)) 11 = upP (cv σ 1) 7 i (cv σ 1 7 j) := by
            have z := cv_setR (σ := τ1) (q := 11) (r0 := 7) (i0 := i) (v := cv σ 1 7 j) (by omega) (by omega) (show 0 ≤ (i : Int) ∧ (i : Int) < τ1 11 6 by rw [l6]; omega)
            rw [c3] at z
            exact z
          have l6' : ups τ1 18 i (cv σ 1 7 j) 11 6 = cv σ 1 0 2 := by rw [ups_at (by decide)]; exact l6
          have cs2 : cv (ups (ups τ1 18 i (cv σ 1 7 j)) 18 j (cv σ 1 7 i)) 11 = swP (cv σ 1) i j := by
            have z := cv_setR (σ := ups τ1 18 i (cv σ 1 7 j)) (q := 11) (r0 := 7) (i0 := j) (v := cv σ 1 7 i) (by omega) (by omega) (show 0 ≤ (j : Int) ∧ (j : Int) < ups τ1 18 i (cv σ 1 7 j) 11 6 by rw [l6']; omega)
            rw [cs1] at z
            exact z
          have wf2 : WF (swP (cv σ 1) i j) := wf_sw wf (by omega) (by omega)
          obtain ⟨τ2, d1, d2⟩ := c_ab (un := 0) wf2 hd cs2 (by rw [ups_at (by decide), ups_at (by decide)]; exact c4) g
          have sb := abM_bd wf2 0 x.toNat (by rw [sw_day]; omega)
          have er : rd (ups τ1 18 (i : Int) (cv σ 1 7 j)) 8 i = cv σ 1 7 i := by
            unfold rd; rw [ups_at (by decide)]; exact e7 i (by omega) hiM
          rw [f_X4_swap_58, e6, wr_of (x := (j : Int)) (by omega) (by omega), wr_of (x := cv σ 1 0 2) (by omega) (by omega), if_pos (by omega), c1, bV_s, ld_of (by omega) (by omega) (by omega), bV_s, e7 j (by omega) hjM, sv_of (by omega) (by omega) (by omega), bV_s, ld_of (by omega) (by omega) (by omega), bV_s, er, sv_of (by omega) (by omega) (by omega), bV_s, d1, bI_s, wr_of (x := abM (swP (cv σ 1) i j) 0 x.toNat) (by omega) (by omega), wr_of (x := v) (by omega) (by omega)]
          unfold f_X4_swap_147
          rw [show (j : Int) + 1 = ((j + 1 : Nat) : Int) by omega]
          have hq2 : Qc σ τ2 := ((q1.tr (Qc.t (by omega))).tr (Qc.t (by omega))).tr d2
          simp only [inF]
          by_cases c : v < abM (swP (cv σ 1) i j) 0 x.toNat
          · simp only [c, if_true]
            exact ih (j + 1) n _ _ τ2 (by omega) (by omega) (by omega) hq2 (by omega) (by omega)
          · simp only [c, if_false]
            exact ih (j + 1) n _ _ τ2 (by omega) (by omega) (by omega) hq2 hv hu
      have out : ∀ (k i n : Nat) (v u : Int) (τ : St), i + k = (cv σ 1 0 2).toNat → k < n → Qc σ τ → 0 ≤ v ∧ v ≤ 5 → -4 ≤ u ∧ u ≤ 100 → ∃ τ', f_X4_swap_40 n x w v u i τ = some (finW w (outF (fun i j => abM (swP (cv σ 1) i j) 0 x.toNat) (cv σ 1 0 2).toNat k i v u), τ') ∧ Qc σ τ' := by
        intro k
        induction k with
        | zero =>
          intro i n v u τ hi hn hq hv hu
          obtain ⟨n, rfl⟩ : ∃ z, n = z + 1 := ⟨n - 1, by omega⟩
          have e6 : τ 1 6 = cv σ 1 0 2 := hq 1 6 (by omega)
          refine ⟨τ, ?_, hq⟩
          rw [f_X4_swap_40, e6, wr_of (x := (i : Int)) (by omega) (by omega), wr_of (x := cv σ 1 0 2) (by omega) (by omega), if_neg (by omega), wrI hw, wm, wr_of (x := u) (by omega) (by omega)]
          unfold f_X4_swap_170
          exact fin_c
        | succ k ih =>
          intro i n v u τ hi hn hq hv hu
          obtain ⟨n, rfl⟩ : ∃ z, n = z + 1 := ⟨n - 1, by omega⟩
          have e6 : τ 1 6 = cv σ 1 0 2 := hq 1 6 (by omega)
          obtain ⟨τ2, d1, d2, d3, d4⟩ := inn (f_X4_swap_40 n) i (by omega) ((cv σ 1 0 2).toNat - (i + 1)) (i + 1) FU v u τ (by omega) (by omega) (by unfold FU; omega) hq hv hu
          rw [f_X4_swap_40, e6, wr_of (x := (i : Int)) (by omega) (by omega), wr_of (x := cv σ 1 0 2) (by omega) (by omega), if_pos (by omega), show (i : Int) + 1 = ((i + 1 : Nat) : Int) by omega, d2, show (i : Int) + 1 = ((i + 1 : Nat) : Int) by omega]
          simp only [outF]
          exact ih (i + 1) n _ _ τ2 (by omega) (by omega) d1 d3 d4
      exact out (cv σ 1 0 2).toNat 0 FU _ _ σ2 (by omega) (by unfold FU; omega) (b2.tr b6) s0 (by omega)
    · rw [if_neg (by simp only [decide_eq_true_eq]; exact g2), if_neg g2]; exact ⟨σ, rfl, Qc.rf σ⟩
  · rw [if_neg (by simp only [decide_eq_true_eq]; exact g), if_neg g]; exact ⟨σ, rfl, Qc.rf σ⟩
theorem m_swap {x w : Int} (hx : IR x) (hw : IR w) {σ : St} (I : Im σ) : ∃ σ1, f_X5_swap x w σ = some (S_swap x w (mv σ 0), σ1) ∧ Qm σ σ1 := by
  have wm : wr (-4) = -4 := by decide
  have wf := I.1
  have hd := I.2.1
  have hM := wf.2.2.1
  unfold f_X5_swap S_swap
  rw [m_inw hx (by omega) (by omega), bI_s, m_inw hw (by omega) (by omega), bI_s]
  by_cases g : 0 ≤ x ∧ x ≤ 60
  · rw [if_pos (by simp [g]), if_pos g]
    by_cases g2 : 0 ≤ w ∧ w ≤ 1
    · rw [if_pos (by simp [g2]), if_pos g2]
      obtain ⟨σ2, b5, b6⟩ := m_ab (τ := σ) (a := 0) (by omega) wf hd rfl I.2.2 g
      have b5' : f_X5_agreeBehind 0 x σ = some (abM (mv σ 0) 0 x.toNat, σ2) := b5
      rw [b5', bI_s]
      have s0 := abM_bd wf 0 x.toNat (by omega)
      have inn : ∀ (K : Int → Int → Int → Int → Int → St → Option (Int × St)) (i : Nat), (i : Int) < mv σ 0 0 2 → ∀ (k j n : Nat) (v u : Int) (τ : St), j + k = (mv σ 0 0 2).toNat → i < j → k < n → Qm σ τ → 0 ≤ v ∧ v ≤ 5 → -4 ≤ u ∧ u ≤ 100 → ∃ τ', Qm σ τ' ∧ f_X5_swap_56 K n x w v u i j τ = K x w (inF (fun i j => abM (swP (mv σ 0) i j) 0 x.toNat) i k j v u).1 (inF (fun i j => abM (swP (mv σ 0) i j) 0 x.toNat) i k j v u).2 ((i : Int) + 1) τ' ∧ (0 ≤ (inF (fun i j => abM (swP (mv σ 0) i j) 0 x.toNat) i k j v u).1 ∧ (inF (fun i j => abM (swP (mv σ 0) i j) 0 x.toNat) i k j v u).1 ≤ 5) ∧ (-4 ≤ (inF (fun i j => abM (swP (mv σ 0) i j) 0 x.toNat) i k j v u).2 ∧ (inF (fun i j => abM (swP (mv σ 0) i j) 0 x.toNat) i k j v u).2 ≤ 100) := by
        intro K i hiM k
        induction k with
        | zero =>
          intro j n v u τ hj hij hn hq hv hu
          obtain ⟨n, rfl⟩ : ∃ z, n = z + 1 := ⟨n - 1, by omega⟩
          have e6 : rd τ 52 52 = mv σ 0 0 2 := hq.2.2 52 (by omega) (by omega)
          refine ⟨τ, hq, ?_, hv, hu⟩
          rw [f_X5_swap_56, ld_of (by omega) (by omega) (by omega), bV_s, e6, wr_of (x := (j : Int)) (by omega) (by omega), wr_of (x := mv σ 0 0 2) (by omega) (by omega), if_neg (by omega)]
          rfl
        | succ k ih =>
          intro j n v u τ hj hij hn hq hv hu
          obtain ⟨n, rfl⟩ : ∃ z, n = z + 1 := ⟨n - 1, by omega⟩
          have hjM : (j : Int) < mv σ 0 0 2 := by omega
          have e6 : rd τ 52 52 = mv σ 0 0 2 := hq.2.2 52 (by omega) (by omega)
          obtain ⟨It, et⟩ := I.q hq
          have ec : f_X5_copies 0 275 τ = some (cpM τ 0 275) := m_copies (a := 0) (b := 275) (by omega) (by omega) (by omega) τ
          have c3 : mv (cpM τ 0 275) 275 = mv σ 0 := by
            have e := cpM_mv (a := 0) (b := 275) (σ := τ) It.1.1.2 It.1.2.2.1.2
            have e' : mv (cpM τ 0 275) 275 = mv τ 0 := e
            rw [e', et]
          have r1 : cpM τ 0 275 51 1 = mv σ 0 0 0 := by rw [← mv_0 (cpM τ 0 275) 275, c3]
          have r2 : rd (cpM τ 0 275) 52 (275 + 52) = mv σ 0 0 2 := by rw [← mv_2 (cpM τ 0 275) 275, c3]
          have e7 : ∀ y : Int, 0 ≤ y → y < mv σ 0 0 2 → rd (cpM τ 0 275) 52 (36 + y) = mv σ 0 7 y := by
            intro y h0 h1
            rw [cpM_rd (by omega) (by omega), hq.2.2 (36 + y) (by omega) (by omega)]
            exact mv_ro (p := 0) h0 h1
          have cs1 : mv (ups (cpM τ 0 275) 52 (311 + (i : Int)) (mv σ 0 7 j)) 275 = upP (mv σ 0) 7 i (mv σ 0 7 j) := by
            rw [mv_set (r0 := 7) (i0 := i) (by omega) (by rw [r1]; exact wf.1.2) (by rw [r2]; exact wf.2.2.1.2) (show 0 ≤ (i : Int) ∧ (i : Int) < rd (cpM τ 0 275) 52 (275 + 52) by rw [r2]; omega) (by simp [lcM]; omega) (by omega), c3]
            simp [acM]
          have r1' : ups (cpM τ 0 275) 52 (311 + (i : Int)) (mv σ 0 7 j) 51 1 = mv σ 0 0 0 := by rw [ups_at (by decide)]; exact r1
          have r2' : rd (ups (cpM τ 0 275) 52 (311 + (i : Int)) (mv σ 0 7 j)) 52 (275 + 52) = mv σ 0 0 2 := by rw [rd_ups (by omega) (by omega), if_neg (by omega)]; exact r2
          have cs2 : mv (ups (ups (cpM τ 0 275) 52 (311 + (i : Int)) (mv σ 0 7 j)) 52 (311 + (j : Int)) (mv σ 0 7 i)) 275 = swP (mv σ 0) i j := by
            rw [mv_set (r0 := 7) (i0 := j) (by omega) (by rw [r1']; exact wf.1.2) (by rw [r2']; exact wf.2.2.1.2) (show 0 ≤ (j : Int) ∧ (j : Int) < rd (ups (cpM τ 0 275) 52 (311 + (i : Int)) (mv σ 0 7 j)) 52 (275 + 52) by rw [r2']; omega) (by simp [lcM]; omega) (by omega), cs1]
            simp [acM, swP]
          have wf2 : WF (swP (mv σ 0) i j) := wf_sw wf (by omega) (by omega)
          obtain ⟨τ2, d1, d2⟩ := m_ab (a := 275) (un := 0) (by omega) wf2 hd cs2 (by rw [ups_at (by decide), ups_at (by decide), cpM_at (by decide)]; exact It.2.2) g
          have d1' : f_X5_agreeBehind 275 x (ups (ups (cpM τ 0 275) 52 (311 + (i : Int)) (mv σ 0 7 j)) 52 (311 + (j : Int)) (mv σ 0 7 i)) = some (abM (swP (mv σ 0) i j) 0 x.toNat, τ2) := d1
          have sb := abM_bd wf2 0 x.toNat (by rw [sw_day]; omega)
          have er : rd (ups (cpM τ 0 275) 52 (311 + (i : Int)) (mv σ 0 7 j)) 52 (36 + (i : Int)) = mv σ 0 7 i := by
            rw [rd_ups (by omega) (by omega), if_neg (by omega)]; exact e7 i (by omega) hiM
          rw [f_X5_swap_56, ld_of (by omega) (by omega) (by omega), bV_s, e6, wr_of (x := (j : Int)) (by omega) (by omega), wr_of (x := mv σ 0 0 2) (by omega) (by omega), if_pos (by omega), ec, bV_s, ld_of (by omega) (by omega) (by omega), bV_s, e7 j (by omega) hjM, sv_of (by omega) (by omega) (by omega), bV_s, ld_of (by omega) (by omega) (by omega), bV_s, er, sv_of (by omega) (by omega) (by omega), bV_s, d1', bI_s, wr_of (x := abM (swP (mv σ 0) i j) 0 x.toNat) (by omega) (by omega), wr_of (x := v) (by omega) (by omega)]
          unfold f_X5_swap_147 f_X5_swap_161
          rw [wr_of (x := abM (swP (mv σ 0) i j) 0 x.toNat) (by omega) (by omega), wr_of (x := v) (by omega) (by omega), show (j : Int) + 1 = ((j + 1 : Nat) : Int) by omega]
          have hq2 : Qm σ τ2 := (((hq.tr (Qm.cp (by omega) τ)).tr (Qm.ups (by omega))).tr (Qm.ups (by omega))).tr d2.Q
          simp only [inF]
          by_cases c : v < abM (swP (mv σ 0) i j) 0 x.toNat
          · simp only [c, if_true]
            exact ih (j + 1) n _ _ τ2 (by omega) (by omega) (by omega) hq2 (by omega) (by omega)
          · simp only [c, if_false]
            exact ih (j + 1) n _ _ τ2 (by omega) (by omega) (by omega) hq2 hv hu
      have out : ∀ (k i n : Nat) (v u : Int) (τ : St), i + k = (mv σ 0 0 2).toNat → k < n → Qm σ τ → 0 ≤ v ∧ v ≤ 5 → -4 ≤ u ∧ u ≤ 100 → ∃ τ', f_X5_swap_38 n x w v u i τ = some (finW w (outF (fun i j => abM (swP (mv σ 0) i j) 0 x.toNat) (mv σ 0 0 2).toNat k i v u), τ') ∧ Qm σ τ' := by
        intro k
        induction k with
        | zero =>
          intro i n v u τ hi hn hq hv hu
          obtain ⟨n, rfl⟩ : ∃ z, n = z + 1 := ⟨n - 1, by omega⟩
          have e6 : rd τ 52 52 = mv σ 0 0 2 := hq.2.2 52 (by omega) (by omega)
          refine ⟨τ, ?_, hq⟩
          rw [f_X5_swap_38, ld_of (by omega) (by omega) (by omega), bV_s, e6, wr_of (x := (i : Int)) (by omega) (by omega), wr_of (x := mv σ 0 0 2) (by omega) (by omega), if_neg (by omega), wrI hw, wm, wr_of (x := u) (by omega) (by omega)]
          unfold f_X5_swap_185
          exact fin_m
        | succ k ih =>
          intro i n v u τ hi hn hq hv hu
          obtain ⟨n, rfl⟩ : ∃ z, n = z + 1 := ⟨n - 1, by omega⟩
          have e6 : rd τ 52 52 = mv σ 0 0 2 := hq.2.2 52 (by omega) (by omega)
          obtain ⟨τ2, d1, d2, d3, d4⟩ := inn (f_X5_swap_38 n) i (by omega) ((mv σ 0 0 2).toNat - (i + 1)) (i + 1) FU v u τ (by omega) (by omega) (by unfold FU; omega) hq hv hu
          rw [f_X5_swap_38, ld_of (by omega) (by omega) (by omega), bV_s, e6, wr_of (x := (i : Int)) (by omega) (by omega), wr_of (x := mv σ 0 0 2) (by omega) (by omega), if_pos (by omega), show (i : Int) + 1 = ((i + 1 : Nat) : Int) by omega, d2, show (i : Int) + 1 = ((i + 1 : Nat) : Int) by omega]
          simp only [outF]
          exact ih (i + 1) n _ _ τ2 (by omega) (by omega) d1 d3 d4
      exact out (mv σ 0 0 2).toNat 0 FU _ _ σ2 (by omega) (by unfold FU; omega) b6.Q s0 (by omega)
    · rw [if_neg (by simp only [decide_eq_true_eq]; exact g2), if_neg g2]; exact ⟨σ, rfl, Qm.rf σ⟩
  · rw [if_neg (by simp only [decide_eq_true_eq]; exact g), if_neg g]; exact ⟨σ, rfl, Qm.rf σ⟩
theorem q_swap {x w : Int} (hx : IR x) (hw : IR w) : Qry (f_X4_swap x w) (f_X5_swap x w) (S_swap x w) := ⟨fun _ I => c_swap hx hw I, fun _ I => m_swap hx hw I⟩
/-! need -/
def neF (P : Pg) : Nat → Nat → Int
  | 0, _ => -4
  | c + 1, b => if stB (upP P 0 1 b) = isl 1 (P 0 0) - 1 then (b : Int) else neF P c (b + 1)
def S_need (P : Pg) : Int := neF P 99 1
theorem stB_all {P : Pg} (wf : WF P) : stB P = isl 1 (P 0 0) - 1 ↔ ∀ h : Nat, (h : Int) < P 0 0 → ¬ (P 0 1 * (4 - legs (P 2 h)) < P 3 h) := by
  have hR := wf.1
  have e : ((P 0 0).toNat : Int) = P 0 0 := by omega
  have b := (bitN_5 (fun h => decide (¬ (P 0 1 * (4 - legs (P 2 h)) < P 3 h))) (n := (P 0 0).toNat) (by omega)).2
  rw [e] at b
  refine b.trans ⟨fun h i hi => by have := h i (by omega); simpa using this, fun h i hi => by have := h i (by omega); simpa using this⟩
theorem q_need : Qry f_X4_need f_X5_need S_need := by
  have w99 : wr 99 = 99 := by decide
  refine ⟨fun σ I => ?_, fun σ I => ?_⟩
  · have wf := I.1
    have hR := wf.1
    unfold f_X4_need S_need
    obtain ⟨σ1, b1, b2, b3, b4⟩ := c_trial I
    have e0 : σ1 1 0 = cv σ 1 0 0 := b2 1 0 (by omega)
    have il : 0 ≤ isl 1 (cv σ 1 0 0) ∧ isl 1 (cv σ 1 0 0) ≤ 32 := by
      have := all_lt 6 (fun x => decide (0 ≤ isl 1 x ∧ isl 1 x ≤ 32)) (by decide +kernel) hR.1 (by omega)
      exact of_decide_eq_true this
    rw [b1, bV_s, e0]
    have lp : ∀ (k b n : Nat) (τ : St), b + k = 100 → 1 ≤ b → k < n → (∃ v, cv τ 11 = upP (cv σ 1) 0 1 v) → ∃ τ', f_X4_need_25 n (isl 1 (cv σ 1 0 0) - 1) b τ = some (neF (cv σ 1) k b, τ') ∧ Qc τ τ' := by
      intro k
      induction k with
      | zero =>
        intro b n τ hb hb1 hn hv
        obtain ⟨n, rfl⟩ : ∃ z, n = z + 1 := ⟨n - 1, by omega⟩
        refine ⟨τ, ?_, Qc.rf τ⟩
        rw [f_X4_need_25, w99, wr_of (x := (b : Int)) (by omega) (by omega), if_pos (by omega)]
        rfl
      | succ k ih =>
        intro b n τ hb hb1 hn hv
        obtain ⟨n, rfl⟩ : ∃ z, n = z + 1 := ⟨n - 1, by omega⟩
        obtain ⟨v, hv⟩ := hv
        have cs : cv (up τ 11 4 b) 11 = upP (cv σ 1) 0 1 b := by
          rw [cv_upS (i := 1) (by simp), hv, upP2]
        have wf2 : WF (upP (cv σ 1) 0 1 b) := wf_upb wf (by omega)
        have d1 := c_stand (q := 11) (σ := up τ 11 4 b) (by rw [cs]; exact wf2)
        rw [cs] at d1
        have sb := (bitN_5 (fun h => decide (¬ (upP (cv σ 1) 0 1 b 0 1 * (4 - legs (upP (cv σ 1) 0 1 b 2 h)) < upP (cv σ 1) 0 1 b 3 h))) (n := (upP (cv σ 1) 0 1 b 0 0).toNat) (by show (cv σ 1 0 0).toNat ≤ 5; omega)).1
        have sb : 0 ≤ stB (upP (cv σ 1) 0 1 b) ∧ stB (upP (cv σ 1) 0 1 b) < 32 := sb
        rw [f_X4_need_25, w99, wr_of (x := (b : Int)) (by omega) (by omega), if_neg (by omega)]
        unfold pf
        rw [bV_s, d1, bI_s, wr_of (x := stB (upP (cv σ 1) 0 1 b)) (by omega) (by omega), wr_of (x := isl 1 (cv σ 1 0 0) - 1) (by omega) (by omega)]
        simp only [neF]
        by_cases c : stB (upP (cv σ 1) 0 1 b) = isl 1 (cv σ 1 0 0) - 1
        · rw [if_pos c, if_pos c]; exact ⟨_, rfl, Qc.p (by omega)⟩
        · rw [if_neg c, if_neg c]
          obtain ⟨τ', f1, f2⟩ := ih (b + 1) n (up τ 11 4 b) (by omega) (by omega) (by omega) ⟨_, cs⟩
          exact ⟨τ', f1, (Qc.p (by omega)).tr f2⟩
    obtain ⟨τ', f1, f2⟩ := lp 99 1 FU σ1 (by omega) (by omega) (by unfold FU; omega) ⟨cv σ 1 0 1, by
      rw [b3]
      funext a b
      unfold upP
      split
      · rename_i c; obtain ⟨rfl, rfl⟩ := c; rfl
      · rfl⟩
    exact ⟨τ', f1, b2.tr f2⟩
  · have wf := I.1
    have hR := wf.1
    unfold f_X5_need S_need
    have ec : f_X5_copies 0 275 σ = some (cpM σ 0 275) := m_copies (a := 0) (b := 275) (by omega) (by omega) (by omega) σ
    rw [ec, bV_s]
    have inn : ∀ (K : Int → St → Option (Int × St)) (P : Pg) (b : Nat) (τ : St), WF P → mv τ 275 = P → ∀ (k i n : Nat) (a : Int), i + k = (P 0 0).toNat → k < n → (a = 0 ∨ a = 1) → (a = 1 ↔ ∀ h : Nat, h < i → ¬ (P 0 1 * (4 - legs (P 2 h)) < P 3 h)) → f_X5_need_32 K n b a i τ = if stB P = isl 1 (P 0 0) - 1 then some ((b : Int), τ) else K ((b : Int) + 1) τ := by
      intro K P b τ wfP hv k
      have hRP := wfP.1
      have e0 : τ 51 1 = P 0 0 := by rw [← mv_0 τ 275, hv]
      have w0 : wr 0 = 0 := by decide
      have w1 : wr 1 = 1 := by decide
      induction k with
      | zero =>
        intro i n a hi hn ha hA
        obtain ⟨n, rfl⟩ : ∃ z, n = z + 1 := ⟨n - 1, by omega⟩
        rw [f_X5_need_32, e0, wr_of (x := (i : Int)) (by omega) (by omega), wr_of (x := P 0 0) (by omega) (by omega), if_neg (by omega)]
        have hs := stB_all wfP
        by_cases c : stB P = isl 1 (P 0 0) - 1
        · have : a = 1 := hA.mpr (fun h hh => hs.mp c h (by omega))
          subst this
          rw [w1, if_neg (by omega), if_pos c]
        · have : a = 0 := by
            rcases ha with h | h
            · exact h
            · exact absurd (hs.mpr (fun j hj => hA.mp h j (by omega))) c
          subst this
          rw [w0, if_pos rfl, if_neg c]
      | succ k ih =>
        intro i n a hi hn ha hA
        obtain ⟨n, rfl⟩ : ∃ z, n = z + 1 := ⟨n - 1, by omega⟩
        have st := m_stands (σ := τ) (p := 275) (h := i) (by omega) (by rw [hv]; exact wfP) (by omega) (by rw [hv]; omega)
        rw [hv] at st
        rw [f_X5_need_32, e0, wr_of (x := (i : Int)) (by omega) (by omega), wr_of (x := P 0 0) (by omega) (by omega), if_pos (by omega), st, bI_s]
        unfold f_X5_need_59 f_X5_need_60
        rw [show (i : Int) + 1 = ((i + 1 : Nat) : Int) by omega]
        rcases ha with rfl | rfl
        · rw [w0, if_pos rfl]
          refine ih (i + 1) n 0 (by omega) (by omega) (Or.inl rfl) ⟨fun h => by omega, fun h => ?_⟩
          have : (0 : Int) = 1 := hA.mpr (fun j hj => h j (by omega))
          omega
        · rw [w1, if_neg (by omega)]
          by_cases c : P 0 1 * (4 - legs (P 2 i)) < P 3 i
          · simp only [c, not_true_eq_false, decide_false, Bool.false_eq_true, if_false]
            refine ih (i + 1) n 0 (by omega) (by omega) (Or.inl rfl) ⟨fun h => by omega, fun h => absurd c (h i (by omega))⟩
          · simp only [c, not_false_eq_true, decide_true, if_true]
            refine ih (i + 1) n 1 (by omega) (by omega) (Or.inr rfl) ⟨fun _ j hj => ?_, fun _ => rfl⟩
            by_cases e : j = i
            · subst e; exact c
            · exact hA.mp rfl j (by omega)
    have lp : ∀ (k b n : Nat) (τ : St), b + k = 100 → 1 ≤ b → k < n → (∃ v, mv τ 275 = upP (mv σ 0) 0 1 v) → ∃ τ', f_X5_need_10 n b τ = some (neF (mv σ 0) k b, τ') ∧ Qm τ τ' := by
      intro k
      induction k with
      | zero =>
        intro b n τ hb hb1 hn hv
        obtain ⟨n, rfl⟩ : ∃ z, n = z + 1 := ⟨n - 1, by omega⟩
        refine ⟨τ, ?_, Qm.rf τ⟩
        rw [f_X5_need_10, w99, wr_of (x := (b : Int)) (by omega) (by omega), if_pos (by omega)]
        rfl
      | succ k ih =>
        intro b n τ hb hb1 hn hv
        obtain ⟨n, rfl⟩ : ∃ z, n = z + 1 := ⟨n - 1, by omega⟩
        obtain ⟨v, hv⟩ := hv
        have r1 : τ 51 1 = mv σ 0 0 0 := by rw [← mv_0 τ 275, hv]; rfl
        have r2 : rd τ 52 (275 + 52) = mv σ 0 0 2 := by rw [← mv_2 τ 275, hv]; rfl
        have cs : mv (ups τ 52 290 ((b : Int) - 25)) 275 = upP (mv σ 0) 0 1 b := by
          rw [mv_set (r0 := 0) (i0 := 1) (by omega) (by rw [r1]; exact wf.1.2) (by rw [r2]; exact wf.2.2.1.2) (by simp [lvM]) (by simp [lcM]) (by omega), hv, upP2]
          simp [acM]
        have wf2 : WF (upP (mv σ 0) 0 1 b) := wf_upb wf (by omega)
        have il := inn (f_X5_need_10 n) (upP (mv σ 0) 0 1 b) b _ wf2 cs (upP (mv σ 0) 0 1 b 0 0).toNat 0 FU 1 (by omega) (by unfold FU; have := wf2.1; omega) (Or.inr rfl) ⟨fun _ h hh => by omega, fun _ => rfl⟩
        have il : f_X5_need_32 (f_X5_need_10 n) FU b 1 0 (ups τ 52 290 ((b : Int) - 25)) = if stB (upP (mv σ 0) 0 1 b) = isl 1 (mv σ 0 0 0) - 1 then some ((b : Int), ups τ 52 290 ((b : Int) - 25)) else f_X5_need_10 n ((b : Int) + 1) (ups τ 52 290 ((b : Int) - 25)) := il
        rw [f_X5_need_10, w99, wr_of (x := (b : Int)) (by omega) (by omega), if_neg (by omega), sv_of (by omega) (by omega) (by omega), bV_s, il]
        simp only [neF]
        by_cases c : stB (upP (mv σ 0) 0 1 b) = isl 1 (mv σ 0 0 0) - 1
        · rw [if_pos c, if_pos c]; exact ⟨_, rfl, Qm.ups (by omega)⟩
        · rw [if_neg c, if_neg c]
          obtain ⟨τ', f1, f2⟩ := ih (b + 1) n _ (by omega) (by omega) (by omega) ⟨_, cs⟩
          exact ⟨τ', f1, (Qm.ups (by omega)).tr f2⟩
    obtain ⟨τ', f1, f2⟩ := lp 99 1 FU (cpM σ 0 275) (by omega) (by omega) (by unfold FU; omega) ⟨mv σ 0 0 1, by
      have e := cpM_mv (a := 0) (b := 275) (σ := σ) wf.1.2 wf.2.2.1.2
      have e' : mv (cpM σ 0 275) 275 = mv σ 0 := e
      rw [e']
      funext a b
      unfold upP
      split
      · rename_i c; obtain ⟨rfl, rfl⟩ := c; rfl
      · rfl⟩
    exact ⟨τ', f1, (Qm.cp (by omega) σ).tr f2⟩
