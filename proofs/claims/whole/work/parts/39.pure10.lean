/-! ===== pure part 10: questions, first group ===== -/
def Ic (σ : St) : Prop := WF (cv σ 1) ∧ cv σ 1 0 3 ≤ 999 ∧ σ 1 11 = 0
def Im (σ : St) : Prop := WF (mv σ 0) ∧ mv σ 0 0 3 ≤ 999 ∧ σ 51 18 = 0
/-- a question: both sides answer by one function of the page -/
def Qry (f g : St → Option (Int × St)) (S : Pg → Int) : Prop := (∀ σ, Ic σ → ∃ σ1, f σ = some (S (cv σ 1), σ1) ∧ Qc σ σ1) ∧ (∀ σ, Im σ → ∃ σ2, g σ = some (S (mv σ 0), σ2) ∧ Qm σ σ2)
theorem mv0 (σ : St) (r : Nat) (i : Int) : mv σ 0 r i = mv σ 0 r i := rfl
theorem mv_k0 {σ : St} {h : Int} (h0 : 0 ≤ h) (h1 : h < mv σ 0 0 0) : rd σ 52 h = mv σ 0 1 h := by have := mv_k (p := 0) h0 h1; rwa [Int.zero_add] at this
theorem mv_u0 {σ : St} {h : Int} (h0 : 0 ≤ h) (h1 : h < mv σ 0 0 0) : rd σ 52 (5 + h) = mv σ 0 2 h := mv_u (p := 0) h0 h1
theorem mv_w0 {σ : St} {h : Int} (h0 : 0 ≤ h) (h1 : h < mv σ 0 0 0) : rd σ 52 (10 + h) = mv σ 0 3 h := mv_w (p := 0) h0 h1
def S_rule (x : Int) (P : Pg) : Int := if x = 0 then P 0 0 else if x = 1 then P 0 2 else if x = 2 then P 0 3 else if x = 3 then P 0 4 else if x = 4 then P 0 1 else if x = 5 then agB P 0 else if x = 6 then stB P else -1
theorem m_rule_loop {σ : St} (I : Im σ) {x : Int} (hx : IR x) : ∀ (k i n : Nat), i + k = (mv σ 0 0 0).toNat → k < n → f_X5_rule_4 n x (bitN (fun h => decide (¬ (mv σ 0 0 1 * (4 - legs (mv σ 0 2 h)) < mv σ 0 3 h))) i) i σ = some (S_rule x (mv σ 0), σ) := by
  intro k
  obtain ⟨wf, hd, hu⟩ := I
  have hR := wf.1
  have e0 : σ 51 1 = mv σ 0 0 0 := rfl
  induction k with
  | zero =>
    intro i n hi hn
    obtain ⟨n, rfl⟩ : ∃ m, n = m + 1 := ⟨n - 1, by omega⟩
    rw [f_X5_rule_4, e0, wr_of (x := (i : Int)) (by omega) (by omega), wr_of (x := mv σ 0 0 0) (by omega) (by omega), if_neg (by omega), wrI hx, m_agree (by omega) wf, bI_s, ld_of (by omega) (by omega) (by omega), bV_s, ld_of (by omega) (by omega) (by omega), bV_s, ld_of (by omega) (by omega) (by omega), bV_s, ld_of (by omega) (by omega) (by omega), bV_s, hu]
    unfold S_rule stB
    rw [show (mv σ 0 0 0).toNat = i by omega]
    repeat' split
    all_goals rfl
  | succ k ih =>
    intro i n hi hn
    obtain ⟨n, rfl⟩ : ∃ m, n = m + 1 := ⟨n - 1, by omega⟩
    have nx := ih (i + 1) n (by omega) (by omega)
    rw [f_X5_rule_4, e0, wr_of (x := (i : Int)) (by omega) (by omega), wr_of (x := mv σ 0 0 0) (by omega) (by omega), if_pos (by omega), m_stands (by omega) wf (by omega) (by omega), bI_s]
    unfold f_X5_rule_29
    rw [show (i : Int) + 1 = ((i + 1 : Nat) : Int) by omega]
    simp only [bitN] at nx
    by_cases c : mv σ 0 0 1 * (4 - legs (mv σ 0 2 i)) < mv σ 0 3 i
    · simp only [c, not_true_eq_false, decide_false, Bool.false_eq_true, if_false] at nx ⊢
      exact nx
    · simp only [c, not_false_eq_true, decide_true, if_true] at nx ⊢
      exact nx
theorem q_rule {x : Int} (hx : IR x) : Qry (f_X4_rule x) (f_X5_rule x) (S_rule x) := by
  refine ⟨fun σ I => ?_, fun σ I => ⟨σ, ?_, Qm.rf σ⟩⟩
  · obtain ⟨wf, hd, hu⟩ := I
    obtain ⟨σ1, b1, b2⟩ := c_agree wf
    rw [hu] at b1
    unfold f_X4_rule S_rule
    rw [wrI hx, b1, bI_s, c_stand wf, bI_s]
    by_cases c5 : x = 5
    · subst c5
      exact ⟨σ1, rfl, b2.Q1⟩
    · refine ⟨σ, ?_, Qc.rf σ⟩
      rw [if_neg c5, if_neg c5]
      repeat' split
      all_goals rfl
  · have hR := I.1.1
    exact m_rule_loop I hx (mv σ 0 0 0).toNat 0 FU (by omega) (by unfold FU; omega)
def S_rider (x y : Int) (P : Pg) : Int := if 0 ≤ x ∧ x < P 0 0 then (if y = 0 then P 1 x else if y = 1 then P 2 x else if y = 2 then P 3 x else if y = 3 then reads (P 1 x) (P 2 x) else if y = 4 then bel P 0 x (P 0 3) else if y = 5 then (if ¬ (P 0 1 * (4 - legs (P 2 x)) < P 3 x) then 1 else 0) else -1) else -1
theorem q_rider {x y : Int} (hx : IR x) (hy : IR y) : Qry (f_X4_rider x y) (f_X5_rider x y) (S_rider x y) := by
  refine ⟨fun σ I => ?_, fun σ I => ⟨σ, ?_, Qm.rf σ⟩⟩
  · obtain ⟨wf, hd, hu⟩ := I
    have hR := wf.1
    unfold f_X4_rider S_rider
    rw [c_isRider hx hR, bI_s, wrI hy]
    by_cases g : 0 ≤ x ∧ x < cv σ 1 0 0
    · obtain ⟨a1, a2, a3⟩ := wf.2.2.2.2.2.1 x g.1 g.2
      obtain ⟨σ1, b1, b2⟩ := c_bel wf (h := x) (d := cv σ 1 0 3) (by omega) wf.2.2.2.1
      rw [hu] at b1
      rw [if_pos (by simp [g]), if_pos g, ← cv_3 σ 1, b1, bI_s, c_readingOf wf g.1 g.2, bI_s]
      by_cases c4 : y = 4
      · subst c4
        exact ⟨σ1, rfl, b2.Q1⟩
      · refine ⟨σ, ?_, Qc.rf σ⟩
        rw [if_neg c4, if_neg c4]
        rw [ld_of (by omega) (by omega) (by omega), bV_s, ld_of (by omega) (by omega) (by omega), bV_s, bV_s, ld_of (by omega) (by omega) (by omega), bV_s, bV_s]
        have e1 : rd σ 2 x = cv σ 1 1 x := cv_k g.1 g.2
        have e2 : rd σ 3 x = cv σ 1 2 x := cv_u g.1 g.2
        have e3 : rd σ 4 x = cv σ 1 3 x := cv_w g.1 g.2
        rw [e1, e2, e3, c_holds wf.2.1 a2 (by omega), bI_s, ← cv_1 σ 1]
        simp only [decide_eq_true_eq]
        repeat' split
        all_goals rfl
    · rw [if_neg (by simp only [decide_eq_true_eq]; exact g), if_neg g]
      exact ⟨σ, rfl, Qc.rf σ⟩
  · obtain ⟨wf, hd, hu⟩ := I
    have hR := wf.1
    unfold f_X5_rider S_rider
    have w3 : wr 3 = 3 := by decide
    have w4 : wr 4 = 4 := by decide
    rw [m_isRider (p := 0) hx hR, bI_s, m_inw hy (by omega) (by omega), bI_s, wrI hy, w3, w4]
    by_cases g : 0 ≤ x ∧ x < mv σ 0 0 0
    · obtain ⟨a1, a2, a3⟩ := wf.2.2.2.2.2.1 x g.1 g.2
      rw [if_pos (by simp [g]), if_pos g]
      by_cases g2 : 0 ≤ y ∧ y ≤ 5
      · rw [if_pos (by simp [g2]), m_readsOn (by omega) wf g.1 g.2, bI_s, ld_of (by omega) (by omega) (by omega), bV_s, ld_of (by omega) (by omega) (by omega), bV_s, show rd σ 52 53 = mv σ 0 0 3 from rfl, m_bel (by omega) wf (by omega) wf.2.2.2.1, bI_s, hu, m_stands (by omega) wf g.1 g.2, bI_s]
        rcases (show y = 0 ∨ y = 1 ∨ y = 2 ∨ y = 3 ∨ y = 4 ∨ y = 5 by omega) with rfl | rfl | rfl | rfl | rfl | rfl
        · simp only [show (0 : Int) < 3 by decide, if_true, show (5 : Int) * 0 + x = x by omega]; rw [mv_k0 g.1 g.2]
        · simp only [show (1 : Int) < 3 by decide, if_true, show ¬ (1 : Int) = 0 by decide, if_false, show (5 : Int) * 1 + x = 5 + x by omega]; rw [mv_u0 g.1 g.2]
        · simp only [show (2 : Int) < 3 by decide, if_true, show ¬ (2 : Int) = 0 by decide, show ¬ (2 : Int) = 1 by decide, if_false, show (5 : Int) * 2 + x = 10 + x by omega]; rw [mv_w0 g.1 g.2]
        · simp
        · simp
        · by_cases c : mv σ 0 0 1 * (4 - legs (mv σ 0 2 x)) < mv σ 0 3 x <;> simp [c]
      · rw [if_neg (by simp only [decide_eq_true_eq]; exact g2), if_neg (by omega), if_neg (by omega), if_neg (by omega), if_neg (by omega), if_neg (by omega), if_neg (by omega)]
    · rw [if_neg (by simp only [decide_eq_true_eq]; exact g), if_neg g]
def S_report (x y : Int) (P : Pg) : Int := if 0 ≤ x ∧ x < P 0 2 then (if y = 0 then P 5 x else if y = 1 then P 6 x else if y = 2 then P 7 x else if y = 3 then P 8 x else -1) else -1
theorem q_report {x y : Int} (hx : IR x) (hy : IR y) : Qry (f_X4_report x y) (f_X5_report x y) (S_report x y) := by
  refine ⟨fun σ I => ⟨σ, ?_, Qc.rf σ⟩, fun σ I => ⟨σ, ?_, Qm.rf σ⟩⟩
  · obtain ⟨wf, hd, hu⟩ := I
    have hM := wf.2.2.1
    unfold f_X4_report S_report
    rw [← cv_2 σ 1, c_win hx (by omega) (by omega), bI_s, wrI hy]
    by_cases g : 0 ≤ x ∧ x < cv σ 1 0 2
    · rw [if_pos (by simp only [decide_eq_true_eq]; omega), if_pos g, ld_of (by omega) (by omega) (by omega), bV_s, ld_of (by omega) (by omega) (by omega), bV_s, ld_of (by omega) (by omega) (by omega), bV_s, ld_of (by omega) (by omega) (by omega), bV_s]
      have e1 : rd σ 6 x = cv σ 1 5 x := cv_rd g.1 g.2
      have e2 : rd σ 7 x = cv σ 1 6 x := cv_rb g.1 g.2
      have e3 : rd σ 8 x = cv σ 1 7 x := cv_ro g.1 g.2
      have e4 : rd σ 9 x = cv σ 1 8 x := cv_re g.1 g.2
      rw [e1, e2, e3, e4]
      repeat' split
      all_goals rfl
    · rw [if_neg (by simp only [decide_eq_true_eq]; omega), if_neg g]
  · obtain ⟨wf, hd, hu⟩ := I
    have hM := wf.2.2.1
    unfold f_X5_report f_X5_isReport S_report
    rw [ld_of (by omega) (by omega) (by omega), bV_s, show rd σ 52 52 = mv σ 0 0 2 from rfl, wr_of (x := mv σ 0 0 2 - 1) (by omega) (by omega), m_inw hx (by omega) (by omega), bI_s, bI_s, m_inw hy (by omega) (by omega), bI_s]
    by_cases g : 0 ≤ x ∧ x < mv σ 0 0 2
    · rw [if_pos (by simp only [decide_eq_true_eq]; omega), if_pos g]
      by_cases g2 : 0 ≤ y ∧ y ≤ 3
      · rw [if_pos (by simp [g2]), ld_of (by omega) (by omega) (by omega), bV_s]
        rcases (show y = 0 ∨ y = 1 ∨ y = 2 ∨ y = 3 by omega) with rfl | rfl | rfl | rfl
        · have : rd σ 52 (20 + 8 * 0 + x) = mv σ 0 5 x := mv_rd (p := 0) g.1 g.2
          rw [this]; rfl
        · have : rd σ 52 (20 + 8 * 1 + x) = mv σ 0 6 x := mv_rb (p := 0) g.1 g.2
          rw [this]; rfl
        · have : rd σ 52 (20 + 8 * 2 + x) = mv σ 0 7 x := mv_ro (p := 0) g.1 g.2
          rw [this]; rfl
        · have : rd σ 52 (20 + 8 * 3 + x) = mv σ 0 8 x := mv_re (p := 0) g.1 g.2
          rw [this]; rfl
      · rw [if_neg (by simp only [decide_eq_true_eq]; exact g2), if_neg (by omega), if_neg (by omega), if_neg (by omega), if_neg (by omega)]
    · rw [if_neg (by simp only [decide_eq_true_eq]; omega), if_neg g]
def S_trust (x : Int) (P : Pg) : Int := if 0 ≤ x ∧ x ≤ 3 then P 4 x else -1
theorem q_trust {x : Int} (hx : IR x) : Qry (f_X4_trust x) (f_X5_trust x) (S_trust x) := by
  refine ⟨fun σ I => ⟨σ, ?_, Qc.rf σ⟩, fun σ I => ⟨σ, ?_, Qm.rf σ⟩⟩
  · unfold f_X4_trust S_trust
    rw [c_isReporter hx, bI_s]
    by_cases g : 0 ≤ x ∧ x ≤ 3
    · have e : rd σ 5 x = cv σ 1 4 x := cv_t (q := 1) g.1 (by omega)
      rw [if_pos (by simp [g]), if_pos g, ld_of (by omega) (by omega) (by omega), bV_s, e]
    · rw [if_neg (by simp only [decide_eq_true_eq]; exact g), if_neg g]
  · unfold f_X5_trust S_trust
    rw [m_isReporter hx, bI_s]
    by_cases g : 0 ≤ x ∧ x ≤ 3
    · have e : rd σ 52 (16 + x) + 1 = mv σ 0 4 x := mv_t (p := 0) g.1 (by omega)
      rw [if_pos (by simp [g]), if_pos g, ld_of (by omega) (by omega) (by omega), bV_s, e]
    · rw [if_neg (by simp only [decide_eq_true_eq]; exact g), if_neg g]
def S_told (x y d : Int) (P : Pg) : Int := if 0 ≤ x ∧ x < P 0 0 then (if 0 ≤ y ∧ y ≤ 3 then (if 0 ≤ d ∧ d ≤ 99 then told P 0 x y d else -1) else -1) else -1
theorem q_told {x y d : Int} (hx : IR x) (hy : IR y) (hd : IR d) : Qry (f_X4_told x y d) (f_X5_told x y d) (S_told x y d) := by
  refine ⟨fun σ I => ?_, fun σ I => ⟨σ, ?_, Qm.rf σ⟩⟩
  · obtain ⟨wf, hd9, hu⟩ := I
    have hR := wf.1
    unfold f_X4_told S_told
    rw [c_isRider hx hR, bI_s, c_isEnd hy, bI_s, c_isDay hd, bI_s]
    by_cases g : 0 ≤ x ∧ x < cv σ 1 0 0
    · rw [if_pos (by simp [g]), if_pos g]
      by_cases g2 : 0 ≤ y ∧ y ≤ 3
      · rw [if_pos (by simp [g2]), if_pos g2]
        by_cases g3 : 0 ≤ d ∧ d ≤ 99
        · obtain ⟨σ1, b1, b2, b3⟩ := c_sum wf (h := x) (d := d) (by omega) (by omega)
          have e := b3 y g2.1 (by omega)
          rw [hu] at e
          rw [if_pos (by simp [g3]), if_pos g3, b1, bV_s, ld_of (by omega) (by omega) (by omega), bV_s, e]
          exact ⟨σ1, rfl, b2.Q1⟩
        · rw [if_neg (by simp only [decide_eq_true_eq]; exact g3), if_neg g3]; exact ⟨σ, rfl, Qc.rf σ⟩
      · rw [if_neg (by simp only [decide_eq_true_eq]; exact g2), if_neg g2]; exact ⟨σ, rfl, Qc.rf σ⟩
    · rw [if_neg (by simp only [decide_eq_true_eq]; exact g), if_neg g]; exact ⟨σ, rfl, Qc.rf σ⟩
  · obtain ⟨wf, hd9, hu⟩ := I
    have hR := wf.1
    unfold f_X5_told S_told
    rw [m_isRider (p := 0) hx hR, bI_s, m_isEnd hy, bI_s, m_isDay hd, bI_s]
    by_cases g : 0 ≤ x ∧ x < mv σ 0 0 0
    · rw [if_pos (by simp [g]), if_pos g]
      by_cases g2 : 0 ≤ y ∧ y ≤ 3
      · rw [if_pos (by simp [g2]), if_pos g2]
        by_cases g3 : 0 ≤ d ∧ d ≤ 99
        · rw [if_pos (by simp [g3]), if_pos g3, m_told (by omega) wf (by omega) (by omega) (by omega), bI_s, hu]
        · rw [if_neg (by simp only [decide_eq_true_eq]; exact g3), if_neg g3]
      · rw [if_neg (by simp only [decide_eq_true_eq]; exact g2), if_neg g2]
    · rw [if_neg (by simp only [decide_eq_true_eq]; exact g), if_neg g]
def S_believed (x d : Int) (P : Pg) : Int := if 0 ≤ x ∧ x < P 0 0 then (if 0 ≤ d ∧ d ≤ 99 then bel P 0 x d else -1) else -1
theorem q_believed {x d : Int} (hx : IR x) (hd : IR d) : Qry (f_X4_believed x d) (f_X5_believed x d) (S_believed x d) := by
  refine ⟨fun σ I => ?_, fun σ I => ⟨σ, ?_, Qm.rf σ⟩⟩
  · obtain ⟨wf, hd9, hu⟩ := I
    have hR := wf.1
    unfold f_X4_believed S_believed
    rw [c_isRider hx hR, bI_s, c_isDay hd, bI_s]
    by_cases g : 0 ≤ x ∧ x < cv σ 1 0 0
    · rw [if_pos (by simp [g]), if_pos g]
      by_cases g3 : 0 ≤ d ∧ d ≤ 99
      · obtain ⟨σ1, b1, b2⟩ := c_bel wf (h := x) (d := d) (by omega) (by omega)
        rw [hu] at b1
        rw [if_pos (by simp [g3]), if_pos g3, b1, bI_s]
        exact ⟨σ1, rfl, b2.Q1⟩
      · rw [if_neg (by simp only [decide_eq_true_eq]; exact g3), if_neg g3]; exact ⟨σ, rfl, Qc.rf σ⟩
    · rw [if_neg (by simp only [decide_eq_true_eq]; exact g), if_neg g]; exact ⟨σ, rfl, Qc.rf σ⟩
  · obtain ⟨wf, hd9, hu⟩ := I
    have hR := wf.1
    unfold f_X5_believed S_believed
    rw [m_isRider (p := 0) hx hR, bI_s, m_isDay hd, bI_s]
    by_cases g : 0 ≤ x ∧ x < mv σ 0 0 0
    · rw [if_pos (by simp [g]), if_pos g]
      by_cases g3 : 0 ≤ d ∧ d ≤ 99
      · rw [if_pos (by simp [g3]), if_pos g3, m_bel (by omega) wf (by omega) (by omega), bI_s, hu]
      · rw [if_neg (by simp only [decide_eq_true_eq]; exact g3), if_neg g3]
    · rw [if_neg (by simp only [decide_eq_true_eq]; exact g), if_neg g]
