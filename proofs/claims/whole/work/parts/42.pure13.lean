/-! ===== pure part 13: liar, kind, lose, need ===== -/
def mnF (g : Nat → Int) : Nat → Nat → Int → Int → Int × Int
  | 0, _, v, w => (v, w)
  | c + 1, i, v, w => if g i < v then mnF g c (i + 1) (g i) i else mnF g c (i + 1) v w
def mxF (g : Nat → Int) : Nat → Nat → Int → Int → Int × Int
  | 0, _, v, w => (v, w)
  | c + 1, i, v, w => if v < g i then mxF g c (i + 1) (g i) i else mxF g c (i + 1) v w
def finW (w : Int) (a : Int × Int) : Int := if w = 0 ∨ a.2 = -4 then a.2 else a.1
theorem fin_c {w v u : Int} {σ : St} : (if w = 0 then some (u, σ) else if u = -4 then some (u, σ) else some (v, σ)) = some (finW w (v, u), σ) := by
  unfold finW
  by_cases c1 : w = 0
  · simp [c1]
  · by_cases c2 : u = -4 <;> simp [c1, c2]
theorem fin_m {w v u : Int} {σ : St} : (if u = -4 then some (u, σ) else if w = 0 then some (u, σ) else some (v, σ)) = some (finW w (v, u), σ) := by
  unfold finW
  by_cases c1 : w = 0
  · simp [c1]
  · by_cases c2 : u = -4 <;> simp [c1, c2]
def S_liar (n w : Int) (P : Pg) : Int := if 0 ≤ n ∧ n ≤ 60 then (if 0 ≤ w ∧ w ≤ 1 then finW w (mnF (fun r => sumR (upP P 4 r 0) 0 n.toNat) 4 0 (sumR P 0 n.toNat) (-4)) else -1) else -1
theorem up4_day (P : Pg) (r v : Int) : upP P 4 r v 0 3 = P 0 3 := rfl
theorem q_liar {x w : Int} (hx : IR x) (hw : IR w) : Qry (f_X4_liar x w) (f_X5_liar x w) (S_liar x w) := by
  have w4 : wr 4 = 4 := by decide
  have wm : wr (-4) = -4 := by decide
  refine ⟨fun σ I => ?_, fun σ I => ?_⟩
  · have wf := I.1
    have hd := I.2.1
    unfold f_X4_liar S_liar
    rw [c_isRun hx, bI_s, c_isChoice hw, bI_s]
    by_cases g : 0 ≤ x ∧ x ≤ 60
    · rw [if_pos (by simp [g]), if_pos g]
      by_cases g2 : 0 ≤ w ∧ w ≤ 1
      · rw [if_pos (by simp [g2]), if_pos g2]
        obtain ⟨σ1, σ2, b1, b2, b3, b4, b5⟩ := c_try I g
        rw [b1, bV_s, b2, bI_s]
        have s0 := sumR_bd wf 0 x.toNat (by omega)
        have lp : ∀ (k i n : Nat) (v u : Int) (τ : St), i + k = 4 → k < n → Qc σ τ → 0 ≤ v ∧ v ≤ 300 → -4 ≤ u ∧ u ≤ 4 → ∃ τ', f_X4_liar_43 n x w v u i τ = some (finW w (mnF (fun r => sumR (upP (cv σ 1) 4 r 0) 0 x.toNat) k i v u), τ') ∧ Qc σ τ' := by
          intro k
          induction k with
          | zero =>
            intro i n v u τ hi hn hq hv hu
            obtain ⟨n, rfl⟩ : ∃ z, n = z + 1 := ⟨n - 1, by omega⟩
            refine ⟨τ, ?_, hq⟩
            rw [f_X4_liar_43, w4, wr_of (x := (i : Int)) (by omega) (by omega), if_neg (by omega), wrI hw, wm, wr_of (x := u) (by omega) (by omega)]
            unfold f_X4_liar_111
            exact fin_c
          | succ k ih =>
            intro i n v u τ hi hn hq hv hu
            obtain ⟨n, rfl⟩ : ∃ z, n = z + 1 := ⟨n - 1, by omega⟩
            obtain ⟨τ1, c1, c2, c3, c4⟩ := c_trial (I.q hq)
            rw [hq.cv] at c3
            have cs : cv (ups τ1 15 i 0) 11 = upP (cv σ 1) 4 i 0 := by
              have z := cv_setR (σ := τ1) (q := 11) (r0 := 4) (i0 := i) (v := 0) (by omega) (by omega) (show 0 ≤ (i : Int) ∧ (i : Int) < 4 by omega)
              rw [c3] at z
              exact z
            have wf2 : WF (upP (cv σ 1) 4 i 0) := wf_up4 wf (by omega)
            obtain ⟨τ2, d1, d2, d3⟩ := c_days (q := 11) (σ := ups τ1 15 i 0) (N := x.toNat) (by rw [cs]; exact wf2) (by rw [cs, up4_day]; omega) (by omega)
            rw [cs, ups_at (by decide), c4, show ((x.toNat : Nat) : Int) = x by omega] at d1
            have sb := sumR_bd wf2 0 x.toNat (by rw [up4_day]; omega)
            rw [f_X4_liar_43, w4, wr_of (x := (i : Int)) (by omega) (by omega), if_pos (by omega), c1, bV_s, sv_of (by omega) (by omega) (by omega), bV_s, d1, bI_s, wr_of (x := sumR (upP (cv σ 1) 4 i 0) 0 x.toNat) (by omega) (by omega), wr_of (x := v) (by omega) (by omega)]
            unfold f_X4_liar_94
            rw [show (i : Int) + 1 = ((i + 1 : Nat) : Int) by omega]
            have hq2 : Qc σ τ2 := ((hq.tr c2).tr (Qc.t (by omega))).tr d3.Q
            simp only [mnF]
            by_cases c : sumR (upP (cv σ 1) 4 i 0) 0 x.toNat < v
            · rw [if_pos c, if_pos c]
              exact ih (i + 1) n _ _ τ2 (by omega) (by omega) hq2 (by omega) (by omega)
            · rw [if_neg c, if_neg c]
              exact ih (i + 1) n _ _ τ2 (by omega) (by omega) hq2 hv hu
        exact lp 4 0 FU _ _ σ2 (by omega) (by unfold FU; omega) b5 (by omega) (by omega)
      · rw [if_neg (by simp only [decide_eq_true_eq]; exact g2), if_neg g2]; exact ⟨σ, rfl, Qc.rf σ⟩
    · rw [if_neg (by simp only [decide_eq_true_eq]; exact g), if_neg g]; exact ⟨σ, rfl, Qc.rf σ⟩
  · have wf := I.1
    have hd := I.2.1
    unfold f_X5_liar S_liar
    rw [m_inw hx (by omega) (by omega), bI_s, m_inw hw (by omega) (by omega), bI_s]
    by_cases g : 0 ≤ x ∧ x ≤ 60
    · rw [if_pos (by simp [g]), if_pos g]
      by_cases g2 : 0 ≤ w ∧ w ≤ 1
      · rw [if_pos (by simp [g2]), if_pos g2]
        obtain ⟨σ2, b2, b3, b4, b5⟩ := m_try I g
        rw [b2, bI_s]
        have s0 := sumR_bd wf 0 x.toNat (by omega)
        have lp : ∀ (k i n : Nat) (v u : Int) (τ : St), i + k = 4 → k < n → Qm σ τ → 0 ≤ v ∧ v ≤ 300 → -4 ≤ u ∧ u ≤ 4 → ∃ τ', f_X5_liar_38 n x w v u i τ = some (finW w (mnF (fun r => sumR (upP (mv σ 0) 4 r 0) 0 x.toNat) k i v u), τ') ∧ Qm σ τ' := by
          intro k
          induction k with
          | zero =>
            intro i n v u τ hi hn hq hv hu
            obtain ⟨n, rfl⟩ : ∃ z, n = z + 1 := ⟨n - 1, by omega⟩
            refine ⟨τ, ?_, hq⟩
            rw [f_X5_liar_38, w4, wr_of (x := (i : Int)) (by omega) (by omega), if_neg (by omega), wrI hw, wm, wr_of (x := u) (by omega) (by omega)]
            unfold f_X5_liar_119
            exact fin_m
          | succ k ih =>
            intro i n v u τ hi hn hq hv hu
            obtain ⟨n, rfl⟩ : ∃ z, n = z + 1 := ⟨n - 1, by omega⟩
            obtain ⟨It, et⟩ := I.q hq
            have ec : f_X5_copies 0 275 τ = some (cpM τ 0 275) := m_copies (a := 0) (b := 275) (by omega) (by omega) (by omega) τ
            have c3 : mv (cpM τ 0 275) 275 = mv σ 0 := by
              have e := cpM_mv (a := 0) (b := 275) (σ := τ) It.1.1.2 It.1.2.2.1.2
              have e' : mv (cpM τ 0 275) 275 = mv τ 0 := e
              rw [e', et]
            have r1 : cpM τ 0 275 51 1 = mv σ 0 0 0 := by rw [← mv_0 (cpM τ 0 275) 275, c3]
            have r2 : rd (cpM τ 0 275) 52 (275 + 52) = mv σ 0 0 2 := by rw [← mv_2 (cpM τ 0 275) 275, c3]
            have cs : mv (ups (cpM τ 0 275) 52 (291 + (i : Int)) (-1)) 275 = upP (mv σ 0) 4 i 0 := by
              rw [mv_set (r0 := 4) (i0 := i) (by omega) (by rw [r1]; exact wf.1.2) (by rw [r2]; exact wf.2.2.1.2) (show 0 ≤ (i : Int) ∧ (i : Int) < 4 by omega) (by simp [lcM]; omega) (by omega), c3]
              simp [acM]
            have wf2 : WF (upP (mv σ 0) 4 i 0) := wf_up4 wf (by omega)
            obtain ⟨τ2, d1, -, -, -, d3⟩ := m_daysGo (σ := ups (cpM τ 0 275) 52 (291 + (i : Int)) (-1)) (a := 275) (N := x.toNat) (by omega) (by show WF (mv _ 275); rw [cs]; exact wf2) (by show mv _ 275 0 3 + _ ≤ _; rw [cs, up4_day]; omega) (by omega)
            have d1' : f_X5_daysGo 275 x (ups (cpM τ 0 275) 52 (291 + (i : Int)) (-1)) = some (sumR (upP (mv σ 0) 4 i 0) 0 x.toNat, τ2) := by
              have u2 : ups (cpM τ 0 275) 52 (291 + (i : Int)) (-1) 51 18 = 0 := by rw [ups_at (by decide), cpM_at (by decide)]; exact It.2.2
              rw [show ((x.toNat : Nat) : Int) = x by omega, u2] at d1
              have d1 : f_X5_daysGo 275 x (ups (cpM τ 0 275) 52 (291 + (i : Int)) (-1)) = some (sumR (mv (ups (cpM τ 0 275) 52 (291 + (i : Int)) (-1)) 275) 0 x.toNat, τ2) := d1
              rw [cs] at d1
              exact d1
            have sb := sumR_bd wf2 0 x.toNat (by rw [up4_day]; omega)
            rw [f_X5_liar_38, w4, wr_of (x := (i : Int)) (by omega) (by omega), if_pos (by omega), ec, bV_s, sv_of (by omega) (by omega) (by omega), bV_s, d1', bI_s, wr_of (x := sumR (upP (mv σ 0) 4 i 0) 0 x.toNat) (by omega) (by omega), wr_of (x := v) (by omega) (by omega)]
            unfold f_X5_liar_87 f_X5_liar_101
            rw [wr_of (x := sumR (upP (mv σ 0) 4 i 0) 0 x.toNat) (by omega) (by omega), wr_of (x := v) (by omega) (by omega), show (i : Int) + 1 = ((i + 1 : Nat) : Int) by omega]
            have hq2 : Qm σ τ2 := ((hq.tr (Qm.cp (by omega) τ)).tr (Qm.ups (by omega))).tr d3.Q
            simp only [mnF]
            by_cases c : sumR (upP (mv σ 0) 4 i 0) 0 x.toNat < v
            · simp only [c, if_true]
              exact ih (i + 1) n _ _ τ2 (by omega) (by omega) hq2 (by omega) (by omega)
            · simp only [c, if_false]
              exact ih (i + 1) n _ _ τ2 (by omega) (by omega) hq2 hv hu
        exact lp 4 0 FU _ _ σ2 (by omega) (by unfold FU; omega) b5.Q (by omega) (by omega)
      · rw [if_neg (by simp only [decide_eq_true_eq]; exact g2), if_neg g2]; exact ⟨σ, rfl, Qm.rf σ⟩
    · rw [if_neg (by simp only [decide_eq_true_eq]; exact g), if_neg g]; exact ⟨σ, rfl, Qm.rf σ⟩
/-! kind -/
def finK (w : Int) (a : Int × Int) : Int := if w = 0 then a.2 else a.1
def S_kind (h n w : Int) (P : Pg) : Int := if 0 ≤ h ∧ h < P 0 0 then (if 0 ≤ n ∧ n ≤ 60 then (if 0 ≤ w ∧ w ≤ 1 then finK w (mnF (fun k => sumR (upP P 1 h k) 0 n.toNat) 4 0 301 0) else -1) else -1) else -1
theorem mnF_big {g : Nat → Int} {c i : Nat} {v v' u u' : Int} (h : g i < v) (h' : g i < v') : mnF g (c + 1) i v u = mnF g (c + 1) i v' u' := by
  simp only [mnF]
  rw [if_pos h, if_pos h']
theorem up1_day (P : Pg) (r v : Int) : upP P 1 r v 0 3 = P 0 3 := rfl
theorem q_kind {h x w : Int} (hh : IR h) (hx : IR x) (hw : IR w) : Qry (f_X4_kind h x w) (f_X5_kind h x w) (S_kind h x w) := by
  have w4 : wr 4 = 4 := by decide
  refine ⟨fun σ I => ?_, fun σ I => ?_⟩
  · have wf := I.1
    have hR := wf.1
    have hd := I.2.1
    unfold f_X4_kind S_kind
    rw [c_isRider hh hR, bI_s, c_isRun hx, bI_s, c_isChoice hw, bI_s]
    by_cases g0 : 0 ≤ h ∧ h < cv σ 1 0 0
    · rw [if_pos (by simp [g0]), if_pos g0]
      by_cases g : 0 ≤ x ∧ x ≤ 60
      · rw [if_pos (by simp [g]), if_pos g]
        by_cases g2 : 0 ≤ w ∧ w ≤ 1
        · rw [if_pos (by simp [g2]), if_pos g2]
          have lp : ∀ (k i n : Nat) (v u : Int) (τ : St), i + k = 4 → k < n → Qc σ τ → 0 ≤ v ∧ v ≤ 301 → 0 ≤ u ∧ u ≤ 4 → ∃ τ', f_X4_kind_35 n h x w v u i τ = some (finK w (mnF (fun k => sumR (upP (cv σ 1) 1 h k) 0 x.toNat) k i v u), τ') ∧ Qc σ τ' := by
            intro k
            induction k with
            | zero =>
              intro i n v u τ hi hn hq hv hu
              obtain ⟨n, rfl⟩ : ∃ z, n = z + 1 := ⟨n - 1, by omega⟩
              refine ⟨τ, ?_, hq⟩
              rw [f_X4_kind_35, w4, wr_of (x := (i : Int)) (by omega) (by omega), if_neg (by omega), wrI hw]
              unfold finK mnF
              split <;> rfl
            | succ k ih =>
              intro i n v u τ hi hn hq hv hu
              obtain ⟨n, rfl⟩ : ∃ z, n = z + 1 := ⟨n - 1, by omega⟩
              obtain ⟨τ1, c1, c2, c3, c4⟩ := c_trial (I.q hq)
              rw [hq.cv] at c3
              have q0 : τ1 11 0 = cv σ 1 0 0 := by rw [← cv_0 τ1 11, c3]
              have cs : cv (ups τ1 12 h i) 11 = upP (cv σ 1) 1 h i := by
                have z := cv_setR (σ := τ1) (q := 11) (r0 := 1) (i0 := h) (v := i) (by omega) g0.1 (show 0 ≤ h ∧ h < τ1 11 0 by rw [q0]; exact g0)
                rw [c3] at z
                exact z
              have wf2 : WF (upP (cv σ 1) 1 h i) := wf_up1 wf (by omega)
              obtain ⟨τ2, d1, d2, d3⟩ := c_days (q := 11) (σ := ups τ1 12 h i) (N := x.toNat) (by rw [cs]; exact wf2) (by rw [cs, up1_day]; omega) (by omega)
              rw [cs, ups_at (by decide), c4, show ((x.toNat : Nat) : Int) = x by omega] at d1
              have sb := sumR_bd wf2 0 x.toNat (by rw [up1_day]; omega)
              rw [f_X4_kind_35, w4, wr_of (x := (i : Int)) (by omega) (by omega), if_pos (by omega), c1, bV_s, sv_of (by omega) (by omega) (by omega), bV_s, d1, bI_s, wr_of (x := sumR (upP (cv σ 1) 1 h i) 0 x.toNat) (by omega) (by omega), wr_of (x := v) (by omega) (by omega)]
              unfold f_X4_kind_88
              rw [show (i : Int) + 1 = ((i + 1 : Nat) : Int) by omega]
              have hq2 : Qc σ τ2 := ((hq.tr c2).tr (Qc.t (by omega))).tr d3.Q
              simp only [mnF]
              by_cases c : sumR (upP (cv σ 1) 1 h i) 0 x.toNat < v
              · rw [if_pos c, if_pos c]
                exact ih (i + 1) n _ _ τ2 (by omega) (by omega) hq2 (by omega) (by omega)
              · rw [if_neg c, if_neg c]
                exact ih (i + 1) n _ _ τ2 (by omega) (by omega) hq2 hv hu
          exact lp 4 0 FU 301 0 σ (by omega) (by unfold FU; omega) (Qc.rf σ) (by omega) (by omega)
        · rw [if_neg (by simp only [decide_eq_true_eq]; exact g2), if_neg g2]; exact ⟨σ, rfl, Qc.rf σ⟩
      · rw [if_neg (by simp only [decide_eq_true_eq]; exact g), if_neg g]; exact ⟨σ, rfl, Qc.rf σ⟩
    · rw [if_neg (by simp only [decide_eq_true_eq]; exact g0), if_neg g0]; exact ⟨σ, rfl, Qc.rf σ⟩
  · have wf := I.1
    have hR := wf.1
    have hd := I.2.1
    unfold f_X5_kind S_kind
    rw [m_isRider (p := 0) hh hR, bI_s, m_inw hx (by omega) (by omega), bI_s, m_inw hw (by omega) (by omega), bI_s]
    by_cases g0 : 0 ≤ h ∧ h < mv σ 0 0 0
    · rw [if_pos (by simp [g0]), if_pos g0]
      by_cases g : 0 ≤ x ∧ x ≤ 60
      · rw [if_pos (by simp [g]), if_pos g]
        by_cases g2 : 0 ≤ w ∧ w ≤ 1
        · rw [if_pos (by simp [g2]), if_pos g2]
          have lp : ∀ (k i n : Nat) (v u : Int) (τ : St), i + k = 4 → k < n → Qm σ τ → 0 ≤ v ∧ v ≤ 1000000 → 0 ≤ u ∧ u ≤ 4 → ∃ τ', f_X5_kind_42 n h x w v u i τ = some (finK w (mnF (fun k => sumR (upP (mv σ 0) 1 h k) 0 x.toNat) k i v u), τ') ∧ Qm σ τ' := by
            intro k
            induction k with
            | zero =>
              intro i n v u τ hi hn hq hv hu
              obtain ⟨n, rfl⟩ : ∃ z, n = z + 1 := ⟨n - 1, by omega⟩
              refine ⟨τ, ?_, hq⟩
              rw [f_X5_kind_42, w4, wr_of (x := (i : Int)) (by omega) (by omega), if_neg (by omega), wrI hw]
              unfold finK mnF
              split <;> rfl
            | succ k ih =>
              intro i n v u τ hi hn hq hv hu
              obtain ⟨n, rfl⟩ : ∃ z, n = z + 1 := ⟨n - 1, by omega⟩
              obtain ⟨It, et⟩ := I.q hq
              have ec : f_X5_copies 0 275 τ = some (cpM τ 0 275) := m_copies (a := 0) (b := 275) (by omega) (by omega) (by omega) τ
              have c3 : mv (cpM τ 0 275) 275 = mv σ 0 := by
                have e := cpM_mv (a := 0) (b := 275) (σ := τ) It.1.1.2 It.1.2.2.1.2
                have e' : mv (cpM τ 0 275) 275 = mv τ 0 := e
                rw [e', et]
              have r1 : cpM τ 0 275 51 1 = mv σ 0 0 0 := by rw [← mv_0 (cpM τ 0 275) 275, c3]
              have r2 : rd (cpM τ 0 275) 52 (275 + 52) = mv σ 0 0 2 := by rw [← mv_2 (cpM τ 0 275) 275, c3]
              have cs : mv (ups (cpM τ 0 275) 52 (275 + h) i) 275 = upP (mv σ 0) 1 h i := by
                rw [mv_set (r0 := 1) (i0 := h) (by omega) (by rw [r1]; exact wf.1.2) (by rw [r2]; exact wf.2.2.1.2) (show 0 ≤ h ∧ h < cpM τ 0 275 51 1 by rw [r1]; exact g0) (by simp [lcM]) (by omega), c3]
                simp [acM]
              have wf2 : WF (upP (mv σ 0) 1 h i) := wf_up1 wf (by omega)
              obtain ⟨τ2, d1, -, -, -, d3⟩ := m_daysGo (σ := ups (cpM τ 0 275) 52 (275 + h) i) (a := 275) (N := x.toNat) (by omega) (by show WF (mv _ 275); rw [cs]; exact wf2) (by show mv _ 275 0 3 + _ ≤ _; rw [cs, up1_day]; omega) (by omega)
              have d1' : f_X5_daysGo 275 x (ups (cpM τ 0 275) 52 (275 + h) i) = some (sumR (upP (mv σ 0) 1 h i) 0 x.toNat, τ2) := by
                have u2 : ups (cpM τ 0 275) 52 (275 + h) i 51 18 = 0 := by rw [ups_at (by decide), cpM_at (by decide)]; exact It.2.2
                rw [show ((x.toNat : Nat) : Int) = x by omega, u2] at d1
                have d1 : f_X5_daysGo 275 x (ups (cpM τ 0 275) 52 (275 + h) i) = some (sumR (mv (ups (cpM τ 0 275) 52 (275 + h) i) 275) 0 x.toNat, τ2) := d1
                rw [cs] at d1
                exact d1
              have sb := sumR_bd wf2 0 x.toNat (by rw [up1_day]; omega)
              rw [f_X5_kind_42, w4, wr_of (x := (i : Int)) (by omega) (by omega), if_pos (by omega), ec, bV_s, sv_of (by omega) (by omega) (by omega), bV_s, d1', bI_s, wr_of (x := sumR (upP (mv σ 0) 1 h i) 0 x.toNat) (by omega) (by omega), wr_of (x := v) (by omega) (by omega)]
              unfold f_X5_kind_92 f_X5_kind_108
              rw [wr_of (x := sumR (upP (mv σ 0) 1 h i) 0 x.toNat) (by omega) (by omega), wr_of (x := v) (by omega) (by omega), show (i : Int) + 1 = ((i + 1 : Nat) : Int) by omega]
              have hq2 : Qm σ τ2 := ((hq.tr (Qm.cp (by omega) τ)).tr (Qm.ups (by omega))).tr d3.Q
              simp only [mnF]
              by_cases c : sumR (upP (mv σ 0) 1 h i) 0 x.toNat < v
              · simp only [c, if_true]
                exact ih (i + 1) n _ _ τ2 (by omega) (by omega) hq2 (by omega) (by omega)
              · simp only [c, if_false]
                exact ih (i + 1) n _ _ τ2 (by omega) (by omega) hq2 hv hu
          have sb := sumR_bd (wf_up1 wf (h := h) (v := ((0 : Nat) : Int)) (by omega)) 0 x.toNat (by rw [up1_day]; omega)
          have r := lp 4 0 FU 1000000 0 σ (by omega) (by unfold FU; omega) (Qm.rf σ) (by omega) (by omega)
          rw [mnF_big (v' := 301) (u' := 0) (by show sumR (upP (mv σ 0) 1 h ((0 : Nat) : Int)) 0 x.toNat < _; omega) (by show sumR (upP (mv σ 0) 1 h ((0 : Nat) : Int)) 0 x.toNat < _; omega)] at r
          exact r
        · rw [if_neg (by simp only [decide_eq_true_eq]; exact g2), if_neg g2]; exact ⟨σ, rfl, Qm.rf σ⟩
      · rw [if_neg (by simp only [decide_eq_true_eq]; exact g), if_neg g]; exact ⟨σ, rfl, Qm.rf σ⟩
    · rw [if_neg (by simp only [decide_eq_true_eq]; exact g0), if_neg g0]; exact ⟨σ, rfl, Qm.rf σ⟩
