/-! ===== pure part 11: questions by days ===== -/
theorem c_trial {σ : St} (I : Ic σ) : ∃ σ1, f_X2_copyFrom 11 1 σ = some σ1 ∧ Qc σ σ1 ∧ cv σ1 11 = cv σ 1 ∧ σ1 11 11 = 0 := by
  obtain ⟨wf, hd, hu⟩ := I
  obtain ⟨σ1, b1, b2, b3, b4, -⟩ := c_copy (q := 11) (r := 1) (σ := σ) (by omega) wf.1.2 wf.2.2.1.2
  exact ⟨σ1, b1, fun k j hk => b2 k j (by omega), b3, by rw [b4]; exact hu⟩
theorem Ic.q {σ σ1 : St} (I : Ic σ) (h : Qc σ σ1) : Ic σ1 := by
  obtain ⟨wf, hd, hu⟩ := I
  refine ⟨by rw [h.cv]; exact wf, by rw [h.cv]; exact hd, by rw [h.un]; exact hu⟩
theorem Im.q {σ σ1 : St} (I : Im σ) (h : Qm σ σ1) : Im σ1 ∧ mv σ1 0 = mv σ 0 := by
  obtain ⟨wf, hd, hu⟩ := I
  have e := h.mv (p := 0) (by omega) wf.1.2 wf.2.2.1.2
  exact ⟨⟨by rw [e]; exact wf, by rw [e]; exact hd, by rw [h.2.1 18 (by omega) (by omega) (by omega)]; exact hu⟩, e⟩
def S_runs (n w : Int) (P : Pg) : Int := if 0 ≤ n ∧ n ≤ 60 then (if 0 ≤ w ∧ w ≤ 3 then (if w = 0 then sumR P 0 n.toNat else if w = 1 then agB (itD P 0 n.toNat) 0 else if w = 2 then loudN P 0 n.toNat else firstL P 0 n.toNat) else -1) else -1
theorem c_runs_loop {P : Pg} (wf : WF P) {N : Nat} (hN : P 0 3 + N ≤ 5000) (hN2 : N ≤ 2000) {w : Int} (hw : 0 ≤ w ∧ w ≤ 3) : ∀ (k m n : Nat) (σ : St), m + k = N → k < n → cv σ 11 = itD P 0 m → σ 11 11 = 0 →
    ∃ σ', f_X4_runs_41 n N w (sumR P 0 m) (loudN P 0 m) (firstL P 0 m) ((m : Int) + 1) σ = some ((if w = 0 then sumR P 0 N else if w = 1 then agB (itD P 0 N) 0 else if w = 2 then loudN P 0 N else firstL P 0 N), σ') ∧ Qc σ σ' := by
  intro k
  have ww : wr w = w := wr_of (by omega) (by omega)
  induction k with
  | zero =>
    intro m n σ hm hn hv hu
    obtain ⟨n, rfl⟩ : ∃ z, n = z + 1 := ⟨n - 1, by omega⟩
    obtain rfl : m = N := by omega
    obtain ⟨σ1, b1, b2⟩ := c_agree (q := 11) (σ := σ) (by rw [hv]; exact itD_wf wf 0 m (by omega))
    rw [hv, hu] at b1
    rw [f_X4_runs_41, wr_of (x := (m : Int)) (by omega) (by omega), wr_of (x := (m : Int) + 1) (by omega) (by omega), if_pos (by omega), ww, b1, bI_s]
    by_cases c1 : w = 1
    · subst c1; exact ⟨σ1, rfl, b2.Q11⟩
    · refine ⟨σ, ?_, Qc.rf σ⟩
      rw [if_neg c1, if_neg c1]
      repeat' split
      all_goals rfl
  | succ k ih =>
    intro m n σ hm hn hv hu
    obtain ⟨n, rfl⟩ : ∃ z, n = z + 1 := ⟨n - 1, by omega⟩
    have wfm : WF (itD P 0 m) := itD_wf wf 0 m (by omega)
    obtain ⟨σ1, b1, b2, b3⟩ := c_day (q := 11) (σ := σ) (by rw [hv]; exact wfm)
    rw [hv, hu] at b1 b2
    have rb := rung_b wfm 0
    have fbd := first_bd P 0 m
    have w4 : wr (-4) = -4 := by decide
    rw [f_X4_runs_41, wr_of (x := (N : Int)) (by omega) (by omega), wr_of (x := (m : Int) + 1) (by omega) (by omega), if_neg (by omega), b1, bI_s, wr_of (x := rung (itD P 0 m) 0) (by omega) (by omega)]
    unfold f_X4_runs_73 f_X4_runs_93 f_X4_runs_95
    rw [wr_of (x := rung (itD P 0 m) 0) (by omega) (by omega), wr_of (x := firstL P 0 m) (by omega) (by omega), w4]
    obtain ⟨σ', d1, d2⟩ := ih (m + 1) n σ1 (by omega) (by omega) b2 (by rw [b3.2 11 (by omega) (by omega)]; exact hu)
    refine ⟨σ', ?_, b3.Q.tr d2⟩
    rw [show (m : Int) + 1 + 1 = ((m + 1 : Nat) : Int) + 1 by omega]
    rw [← d1]
    have es : sumR P 0 (m + 1) = sumR P 0 m + rung (itD P 0 m) 0 := rfl
    have el : loudN P 0 (m + 1) = loudN P 0 m + (if 0 < rung (itD P 0 m) 0 then 1 else 0) := rfl
    have ef : firstL P 0 (m + 1) = if firstL P 0 m = -4 then (if 0 < rung (itD P 0 m) 0 then (m : Int) + 1 else -4) else firstL P 0 m := rfl
    rw [es, el, ef]
    by_cases c : 0 < rung (itD P 0 m) 0
    · simp only [c, if_true]
      by_cases c4 : firstL P 0 m = -4
      · simp only [c4, if_true]
      · simp only [c4, if_false]
    · simp only [c, if_false]
      by_cases c4 : firstL P 0 m = -4
      · simp only [c4, if_true]
      · simp only [c4, if_false]
theorem q_runs {x w : Int} (hx : IR x) (hw : IR w) : Qry (f_X4_runs x w) (f_X5_runs x w) (S_runs x w) := by
  refine ⟨fun σ I => ?_, fun σ I => ?_⟩
  · have hd := I.2.1
    unfold f_X4_runs S_runs
    rw [c_isRun hx, bI_s, c_win hw (by omega) (by omega), bI_s]
    by_cases g : 0 ≤ x ∧ x ≤ 60
    · rw [if_pos (by simp [g]), if_pos g]
      by_cases g2 : 0 ≤ w ∧ w ≤ 3
      · rw [if_pos (by simp [g2]), if_pos g2]
        obtain ⟨σ1, b1, b2, b3, b4⟩ := c_trial I
        rw [b1, bV_s]
        obtain ⟨σ', d1, d2⟩ := c_runs_loop I.1 (N := x.toNat) (by omega) (by omega) g2 x.toNat 0 FU σ1 (by omega) (by unfold FU; omega) b3 b4
        rw [show ((x.toNat : Nat) : Int) = x by omega] at d1
        exact ⟨σ', d1, b2.tr d2⟩
      · rw [if_neg (by simp only [decide_eq_true_eq]; exact g2), if_neg g2]; exact ⟨σ, rfl, Qc.rf σ⟩
    · rw [if_neg (by simp only [decide_eq_true_eq]; exact g), if_neg g]; exact ⟨σ, rfl, Qc.rf σ⟩
  · obtain ⟨wf, hd, hu⟩ := I
    unfold f_X5_runs S_runs
    rw [m_inw hx (by omega) (by omega), bI_s, m_inw hw (by omega) (by omega), bI_s]
    by_cases g : 0 ≤ x ∧ x ≤ 60
    · rw [if_pos (by simp [g]), if_pos g]
      by_cases g2 : 0 ≤ w ∧ w ≤ 3
      · rw [if_pos (by simp [g2]), if_pos g2]
        obtain ⟨σ', d1, d2, d3, d4, d5⟩ := m_daysGo (σ := σ) (a := 0) (N := x.toNat) (by omega) wf (by show mv σ 0 0 3 + _ ≤ _; omega) (by omega)
        rw [show ((x.toNat : Nat) : Int) = x by omega] at d1
        have d1' : f_X5_daysGo 0 x σ = some (sumR (mv σ 0) (σ 51 18) x.toNat, σ') := d1
        have d2' : mv σ' 220 = itD (mv σ 0) (σ 51 18) x.toNat := d2
        have d3' : σ' 51 20 = loudN (mv σ 0) (σ 51 18) x.toNat := d3
        have d4' : σ' 51 21 = firstL (mv σ 0) (σ 51 18) x.toNat := d4
        rw [hu] at d1' d2' d3' d4'
        have u' : σ' 51 18 = 0 := by rw [d5.2.1 18 (by omega) (by omega) (by omega)]; exact hu
        have w1 : wr 1 = 1 := by decide
        have w2 : wr 2 = 2 := by decide
        rw [d1', bI_s, wrI hw, w1, w2, m_agree (p := 220) (by omega) (by rw [d2']; exact itD_wf wf 0 x.toNat (by omega)), bI_s, d2', d3', d4', u']
        refine ⟨σ', ?_, d5.Q⟩
        repeat' split
        all_goals rfl
      · rw [if_neg (by simp only [decide_eq_true_eq]; exact g2), if_neg g2]; exact ⟨σ, rfl, Qm.rf σ⟩
    · rw [if_neg (by simp only [decide_eq_true_eq]; exact g), if_neg g]; exact ⟨σ, rfl, Qm.rf σ⟩
/-- days of the trial, from a copy of now; days of the page TRIED, from the page 0 -/
theorem c_try {σ : St} (I : Ic σ) {x : Int} (hx : 0 ≤ x ∧ x ≤ 60) : ∃ σ1 σ2, f_X2_copyFrom 11 1 σ = some σ1 ∧ f_X2_passDays 11 x σ1 = some (sumR (cv σ 1) 0 x.toNat, σ2) ∧ cv σ2 11 = itD (cv σ 1) 0 x.toNat ∧ σ2 11 11 = 0 ∧ Qc σ σ2 := by
  have hd := I.2.1
  obtain ⟨σ1, b1, b2, b3, b4⟩ := c_trial I
  obtain ⟨σ2, d1, d2, d3⟩ := c_days (q := 11) (σ := σ1) (N := x.toNat) (by rw [b3]; exact I.1) (by rw [b3]; omega) (by omega)
  rw [b3, b4, show ((x.toNat : Nat) : Int) = x by omega] at d1
  rw [b3, b4] at d2
  exact ⟨σ1, σ2, b1, d1, d2, by rw [d3.2 11 (by omega) (by omega)]; exact b4, b2.tr d3.Q⟩
theorem m_try {σ : St} (I : Im σ) {x : Int} (hx : 0 ≤ x ∧ x ≤ 60) : ∃ σ', f_X5_daysGo 0 x σ = some (sumR (mv σ 0) 0 x.toNat, σ') ∧ mv σ' 220 = itD (mv σ 0) 0 x.toNat ∧ σ' 51 18 = 0 ∧ FrT σ σ' := by
  obtain ⟨wf, hd, hu⟩ := I
  obtain ⟨σ', d1, d2, d3, d4, d5⟩ := m_daysGo (σ := σ) (a := 0) (N := x.toNat) (by omega) wf (by show mv σ 0 0 3 + _ ≤ _; omega) (by omega)
  rw [show ((x.toNat : Nat) : Int) = x by omega] at d1
  have d1' : f_X5_daysGo 0 x σ = some (sumR (mv σ 0) (σ 51 18) x.toNat, σ') := d1
  have d2' : mv σ' 220 = itD (mv σ 0) (σ 51 18) x.toNat := d2
  rw [hu] at d1' d2'
  exact ⟨σ', d1', d2', by rw [d5.2.1 18 (by omega) (by omega) (by omega)]; exact hu, d5⟩
def S_ahead (h n w : Int) (P : Pg) : Int := if 0 ≤ h ∧ h < P 0 0 then (if 0 ≤ n ∧ n ≤ 60 then (if 0 ≤ w ∧ w ≤ 1 then (if w = 0 then itD P 0 n.toNat 2 h else reads (itD P 0 n.toNat 1 h) (itD P 0 n.toNat 2 h)) else -1) else -1) else -1
theorem q_ahead {h x w : Int} (hh : IR h) (hx : IR x) (hw : IR w) : Qry (f_X4_ahead h x w) (f_X5_ahead h x w) (S_ahead h x w) := by
  refine ⟨fun σ I => ?_, fun σ I => ?_⟩
  · have hd := I.2.1
    have hR := I.1.1
    unfold f_X4_ahead S_ahead
    rw [c_isRider hh hR, bI_s, c_isRun hx, bI_s, c_isChoice hw, bI_s]
    by_cases g0 : 0 ≤ h ∧ h < cv σ 1 0 0
    · rw [if_pos (by simp [g0]), if_pos g0]
      by_cases g : 0 ≤ x ∧ x ≤ 60
      · rw [if_pos (by simp [g]), if_pos g]
        by_cases g2 : 0 ≤ w ∧ w ≤ 1
        · rw [if_pos (by simp [g2]), if_pos g2]
          obtain ⟨σ1, σ2, b1, b2, b3, b4, b5⟩ := c_try I g
          have wfn : WF (itD (cv σ 1) 0 x.toNat) := itD_wf I.1 0 x.toNat (by omega)
          have h1 : h < cv σ2 11 0 0 := by rw [b3, itD_0]; exact g0.2
          have e : rd σ2 13 h = cv σ2 11 2 h := cv_u (q := 11) g0.1 h1
          rw [b1, bV_s, b2, bI_s, wrI hw, ld_of (by omega) (by omega) (by omega), bV_s, e, c_readingOf (q := 11) (by rw [b3]; exact wfn) g0.1 h1, bI_s, b3]
          refine ⟨σ2, ?_, b5⟩
          split <;> rfl
        · rw [if_neg (by simp only [decide_eq_true_eq]; exact g2), if_neg g2]; exact ⟨σ, rfl, Qc.rf σ⟩
      · rw [if_neg (by simp only [decide_eq_true_eq]; exact g), if_neg g]; exact ⟨σ, rfl, Qc.rf σ⟩
    · rw [if_neg (by simp only [decide_eq_true_eq]; exact g0), if_neg g0]; exact ⟨σ, rfl, Qc.rf σ⟩
  · have hd := I.2.1
    have hR := I.1.1
    unfold f_X5_ahead S_ahead
    rw [m_isRider (p := 0) hh hR, bI_s, m_inw hx (by omega) (by omega), bI_s, m_inw hw (by omega) (by omega), bI_s]
    by_cases g0 : 0 ≤ h ∧ h < mv σ 0 0 0
    · rw [if_pos (by simp [g0]), if_pos g0]
      by_cases g : 0 ≤ x ∧ x ≤ 60
      · rw [if_pos (by simp [g]), if_pos g]
        by_cases g2 : 0 ≤ w ∧ w ≤ 1
        · rw [if_pos (by simp [g2]), if_pos g2]
          obtain ⟨σ2, b2, b3, b4, b5⟩ := m_try I g
          have wfn : WF (itD (mv σ 0) 0 x.toNat) := itD_wf I.1 0 x.toNat (by omega)
          have h1 : h < mv σ2 220 0 0 := by rw [b3, itD_0]; exact g0.2
          have e : rd σ2 52 (225 + h) = mv σ2 220 2 h := mv_u (p := 220) g0.1 h1
          rw [b2, bI_s, wrI hw, ld_of (by omega) (by omega) (by omega), bV_s, e, m_readsOn (p := 220) (by omega) (by rw [b3]; exact wfn) g0.1 h1, bI_s, b3]
          refine ⟨σ2, ?_, b5.Q⟩
          split <;> rfl
        · rw [if_neg (by simp only [decide_eq_true_eq]; exact g2), if_neg g2]; exact ⟨σ, rfl, Qm.rf σ⟩
      · rw [if_neg (by simp only [decide_eq_true_eq]; exact g), if_neg g]; exact ⟨σ, rfl, Qm.rf σ⟩
    · rw [if_neg (by simp only [decide_eq_true_eq]; exact g0), if_neg g0]; exact ⟨σ, rfl, Qm.rf σ⟩
def agF (P : Pg) (h : Int) : Nat → Nat → Int
  | 0, _ => -4
  | m + 1, d => if bel (itD P 0 d) 0 h (itD P 0 d 0 3) = -4 ∨ bel (itD P 0 d) 0 h (itD P 0 d 0 3) = reads (itD P 0 d 1 h) (itD P 0 d 2 h) then (d : Int) else agF P h m (d + 1)
theorem c_agrees_loop {P : Pg} (wf : WF P) (hN : P 0 3 ≤ 999) {h : Int} (h0 : 0 ≤ h) (h1 : h < P 0 0) : ∀ (k d n : Nat) (σ : St), d + k = 61 → k < n → cv σ 11 = itD P 0 d → σ 11 11 = 0 → ∃ σ', f_X4_agrees_23 n h d σ = some (agF P h k d, σ') ∧ Qc σ σ' := by
  intro k
  have w60 : wr 60 = 60 := by decide
  induction k with
  | zero =>
    intro d n σ hd hn hv hu
    obtain ⟨n, rfl⟩ : ∃ z, n = z + 1 := ⟨n - 1, by omega⟩
    refine ⟨σ, ?_, Qc.rf σ⟩
    rw [f_X4_agrees_23, w60, wr_of (x := (d : Int)) (by omega) (by omega), if_pos (by omega)]
    rfl
  | succ k ih =>
    intro d n σ hd hn hv hu
    obtain ⟨n, rfl⟩ : ∃ z, n = z + 1 := ⟨n - 1, by omega⟩
    have wfd : WF (itD P 0 d) := itD_wf wf 0 d (by omega)
    obtain ⟨σ1, b1, b2⟩ := c_content (q := 11) (σ := σ) (by rw [hv]; exact wfd) h0 (by rw [hv, itD_0]; exact h1)
    rw [hv, hu] at b1
    have hv1 : cv σ1 11 = itD P 0 d := by rw [b2.cv]; exact hv
    have hu1 : σ1 11 11 = 0 := by rw [b2 11 11 (by omega)]; exact hu
    obtain ⟨σ2, c1, c2, c3⟩ := c_day (q := 11) (σ := σ1) (by rw [hv1]; exact wfd)
    rw [hv1, hu1] at c1 c2
    rw [f_X4_agrees_23, w60, wr_of (x := (d : Int)) (by omega) (by omega), if_neg (by omega), b1, bI_s, c1, bI_s]
    simp only [agF, decide_eq_true_eq]
    by_cases c : bel (itD P 0 d) 0 h (itD P 0 d 0 3) = -4 ∨ bel (itD P 0 d) 0 h (itD P 0 d 0 3) = reads (itD P 0 d 1 h) (itD P 0 d 2 h)
    · rw [if_pos c, if_pos c]; exact ⟨σ1, rfl, b2.Q11⟩
    · rw [if_neg c, if_neg c]
      obtain ⟨σ', d1, d2⟩ := ih (d + 1) n σ2 (by omega) (by omega) c2 (by rw [c3.2 11 (by omega) (by omega)]; exact hu1)
      exact ⟨σ', d1, (b2.Q11.tr c3.Q).tr d2⟩
theorem m_agrees_loop {P : Pg} (wf : WF P) (hN : P 0 3 ≤ 999) {h : Int} (h0 : 0 ≤ h) (h1 : h < P 0 0) : ∀ (k d n : Nat) (σ : St), d + k = 61 → k < n → mv σ 220 = itD P 0 d → σ 51 18 = 0 → ∃ σ', f_X5_agrees_20 n h d σ = some (agF P h k d, σ') ∧ Qm σ σ' := by
  intro k
  have w60 : wr 60 = 60 := by decide
  induction k with
  | zero =>
    intro d n σ hd hn hv hu
    obtain ⟨n, rfl⟩ : ∃ z, n = z + 1 := ⟨n - 1, by omega⟩
    refine ⟨σ, ?_, Qm.rf σ⟩
    rw [f_X5_agrees_20, w60, wr_of (x := (d : Int)) (by omega) (by omega), if_pos (by omega)]
    rfl
  | succ k ih =>
    intro d n σ hd hn hv hu
    obtain ⟨n, rfl⟩ : ∃ z, n = z + 1 := ⟨n - 1, by omega⟩
    have wfd : WF (itD P 0 d) := itD_wf wf 0 d (by omega)
    have b1 := m_agrees (σ := σ) (p := 220) (by omega) (by rw [hv]; exact wfd) h0 (by rw [hv, itD_0]; exact h1)
    rw [hv, hu] at b1
    obtain ⟨σ2, c1, c2, -, c3⟩ := m_day (p := 220) (σ := σ) (by omega) (by rw [hv]; exact wfd)
    rw [hv, hu] at c2
    rw [f_X5_agrees_20, w60, wr_of (x := (d : Int)) (by omega) (by omega), if_neg (by omega), b1, bI_s, c1, bV_s]
    simp only [agF, decide_eq_true_eq]
    by_cases c : bel (itD P 0 d) 0 h (itD P 0 d 0 3) = -4 ∨ bel (itD P 0 d) 0 h (itD P 0 d 0 3) = reads (itD P 0 d 1 h) (itD P 0 d 2 h)
    · rw [if_pos c, if_pos c]; exact ⟨σ, rfl, Qm.rf σ⟩
    · rw [if_neg c, if_neg c]
      obtain ⟨σ', d1, d2⟩ := ih (d + 1) n σ2 (by omega) (by omega) c2 (by rw [c3.2.1 18 (by omega)]; exact hu)
      exact ⟨σ', d1, c3.T.Q.tr d2⟩
def S_agrees (h : Int) (P : Pg) : Int := if 0 ≤ h ∧ h < P 0 0 then agF P h 61 0 else -1
theorem q_agrees {h : Int} (hh : IR h) : Qry (f_X4_agrees h) (f_X5_agrees h) (S_agrees h) := by
  refine ⟨fun σ I => ?_, fun σ I => ?_⟩
  · have hR := I.1.1
    unfold f_X4_agrees S_agrees
    rw [c_isRider hh hR, bI_s]
    by_cases g0 : 0 ≤ h ∧ h < cv σ 1 0 0
    · rw [if_pos (by simp [g0]), if_pos g0]
      obtain ⟨σ1, b1, b2, b3, b4⟩ := c_trial I
      rw [b1, bV_s]
      obtain ⟨σ', d1, d2⟩ := c_agrees_loop I.1 I.2.1 g0.1 g0.2 61 0 FU σ1 (by omega) (by unfold FU; omega) b3 b4
      exact ⟨σ', d1, b2.tr d2⟩
    · rw [if_neg (by simp only [decide_eq_true_eq]; exact g0), if_neg g0]; exact ⟨σ, rfl, Qc.rf σ⟩
  · have hR := I.1.1
    unfold f_X5_agrees S_agrees
    rw [m_isRider (p := 0) hh hR, bI_s]
    by_cases g0 : 0 ≤ h ∧ h < mv σ 0 0 0
    · rw [if_pos (by simp [g0]), if_pos g0]
      have ec : f_X5_copies 0 220 σ = some (cpM σ 0 220) := m_copies (a := 0) (b := 220) (by omega) (by omega) (by omega) σ
      rw [ec, bV_s]
      obtain ⟨σ', d1, d2⟩ := m_agrees_loop I.1 I.2.1 g0.1 g0.2 61 0 FU (cpM σ 0 220) (by omega) (by unfold FU; omega) (cpM_mv (a := 0) (b := 220) I.1.1.2 I.1.2.2.1.2) (by rw [cpM_at (by decide)]; exact I.2.2)
      exact ⟨σ', d1, (FrT.cp σ).Q.tr d2⟩
    · rw [if_neg (by simp only [decide_eq_true_eq]; exact g0), if_neg g0]; exact ⟨σ, rfl, Qm.rf σ⟩
