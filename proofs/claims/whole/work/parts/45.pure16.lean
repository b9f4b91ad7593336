/-! ===== pure part 16: drift ===== -/
theorem idv_of {x y : Int} (h0 : 0 ≤ x) (h1 : x ≤ 2147483647) (h2 : 0 < y) (h3 : y ≤ 2147483647) : idv x y = some (x / y) := by
  unfold idv
  rw [wr_of (by omega) (by omega), if_neg (by omega)]
  have ex : Int32.ofInt x = nI x.toNat := by
    show _ = Int32.ofNat x.toNat
    rw [← Int32.ofInt_eq_ofNat]
    congr 1
    omega
  have ey : Int32.ofInt y = nI y.toNat := by
    show _ = Int32.ofNat y.toNat
    rw [← Int32.ofInt_eq_ofNat]
    congr 1
    omega
  rw [ex, ey, pk_div (by omega) (by omega) (by omega), nI_toInt (by
    have := Nat.div_le_self x.toNat y.toNat
    omega)]
  congr 1
  rw [Int.natCast_ediv]
  congr 1 <;> omega
theorem got_bd (z : Int) : 0 ≤ iad (isr z 16) 32767 ∧ iad (isr z 16) 32767 < 32768 := by
  unfold iad
  rw [pk_and _ 15 (by decide)]
  have h : (Int32.ofInt (isr z 16)).toBitVec.toNat % 2 ^ 15 < 32768 := Nat.mod_lt _ (by decide)
  rw [nI_toInt (by omega)]
  omega
theorem got_eq (z : Int) : iad (ius z 16) 32767 = iad (isr z 16) 32767 := by
  unfold iad ius isr
  rw [Int32.ofInt_toInt, Int32.ofInt_toInt]
  congr 1
  apply Int32.toBitVec_inj.mp
  apply BitVec.eq_of_getLsbD_eq
  intro i hi
  have e1 : ((Int32.ofInt 16).toUInt32 &&& Int32.toUInt32 31) = 16 := by decide
  have e2 : (Int32.ofInt 16 &&& 31) = 16 := by decide
  rw [e1, e2]
  have hm : (Int32.ofInt 32767).toBitVec.getLsbD i = decide (i < 15) := by
    have := all_lt 32 (fun i => (Int32.ofInt 32767).toBitVec.getLsbD i.toNat == decide (i < 15)) (by decide +kernel) (x := i) (by omega) (by omega)
    simp only [beq_iff_eq] at this
    rw [show ((i : Int)).toNat = i by omega] at this
    rw [this]
    congr 1
    apply propext
    omega
  have hs : ((16 : Int32).toBitVec.smod 32).toNat = 16 := by decide
  simp only [Int32.toBitVec_and, BitVec.getLsbD_and, hm]
  by_cases c : i < 15
  · simp only [c, decide_true, Bool.and_true]
    have a1 : ((Int32.ofInt z).toUInt32 >>> (16 : UInt32)).toInt32.toBitVec = (Int32.ofInt z).toBitVec >>> 16 := by
      rfl
    have a2 : (Int32.ofInt z >>> (16 : Int32)).toBitVec = (Int32.ofInt z).toBitVec.sshiftRight 16 := by
      rfl
    have h32 : 16 + i < 32 := by omega
    have hn : ¬ 32 ≤ i := by omega
    rw [a1, a2, BitVec.getLsbD_ushiftRight, BitVec.getLsbD_sshiftRight]
    simp [h32, hn]
  · simp [c]
/-- the days by a seed: the page, the clangs -/
def drP (P : Pg) (z : Int) : Pg := upP P 2 (iad (isr (z * 1103515245 + 12345) 16) 32767 % P 0 0) (iad (isr (z * 1103515245 + 12345) 16) 32767 / 16 % 16)
def drD : Nat → Pg → Int → Int → Pg × Int
  | 0, P, _, a => (P, a)
  | n + 1, P, z, a => drD n (dayP (drP P z) 0) (z * 1103515245 + 12345) (a + rung (drP P z) 0)
def S_drift (s n w : Int) (P : Pg) : Int := if 1 ≤ n ∧ n ≤ 60 then (if 0 ≤ w ∧ w ≤ 1 then (if P 0 0 = 0 then -2 else if w = 0 then (drD n.toNat P s 0).2 else agB (drD n.toNat P s 0).1 0) else -1) else -1
theorem wf_up2 {P : Pg} (wf : WF P) {h v : Int} (hv : 0 ≤ v ∧ v < 16) : WF (upP P 2 h v) := by
  obtain ⟨w0, w1, w2, w3, w4, w5, w6, w7⟩ := wf
  refine ⟨w0, w1, w2, w3, w4, ?_, w6, w7⟩
  intro i h0 h1
  obtain ⟨a1, a2, a3⟩ := w5 i h0 h1
  refine ⟨a1, ?_, a3⟩
  show 0 ≤ (if (2 : Nat) = 2 ∧ i = h then v else P 2 i) ∧ (if (2 : Nat) = 2 ∧ i = h then v else P 2 i) < 16
  split
  · exact hv
  · exact a2
theorem drP_wf {P : Pg} (wf : WF P) (z : Int) : WF (drP P z) := by
  have := got_bd (z * 1103515245 + 12345)
  exact wf_up2 wf (by omega)
theorem q_drift {s x w : Int} (hs : IR s) (hx : IR x) (hw : IR w) : Qry (f_X4_drift s x w) (f_X5_drift s x w) (S_drift s x w) := by
  refine ⟨fun σ I => ?_, fun σ I => ?_⟩
  · have wf := I.1
    have hR := wf.1
    have hd := I.2.1
    unfold f_X4_drift S_drift
    rw [c_win hx (by omega) (by omega), bI_s, c_isChoice hw, bI_s]
    by_cases g : 1 ≤ x ∧ x ≤ 60
    · rw [if_pos (by simp [g]), if_pos g]
      by_cases g2 : 0 ≤ w ∧ w ≤ 1
      · rw [if_pos (by simp [g2]), if_pos g2, ← cv_0 σ 1, wr_of (x := cv σ 1 0 0) (by omega) (by omega)]
        by_cases g3 : cv σ 1 0 0 = 0
        · rw [if_pos g3, if_pos g3]; exact ⟨σ, rfl, Qc.rf σ⟩
        · rw [if_neg g3, if_neg g3]
          obtain ⟨σ1, b1, b2, b3, b4⟩ := c_trial I
          rw [b1, bV_s]
          have lp : ∀ (k i n : Nat) (P : Pg) (z a : Int) (τ : St), i + k = x.toNat → k < n → WF P → P 0 0 = cv σ 1 0 0 → P 0 3 + k ≤ 5000 → cv τ 11 = P → τ 11 11 = 0 → τ 1 0 = cv σ 1 0 0 → ∃ τ', f_X4_drift_52 n x w a z i τ = some ((if w = 0 then (drD k P z a).2 else agB (drD k P z a).1 0), τ') ∧ Qc τ τ' := by
            intro k
            induction k with
            | zero =>
              intro i n P z a τ hi hn wfP h0 hk hv hu h1
              obtain ⟨n, rfl⟩ : ∃ y, n = y + 1 := ⟨n - 1, by omega⟩
              obtain ⟨τ1, d1, d2⟩ := c_agree (q := 11) (σ := τ) (by rw [hv]; exact wfP)
              rw [hv, hu] at d1
              rw [f_X4_drift_52, wr_of (x := (i : Int)) (by omega) (by omega), wrI hx, if_neg (by omega), wrI hw, d1, bI_s]
              by_cases c : w = 0
              · rw [if_pos c, if_pos c]; exact ⟨τ, rfl, Qc.rf τ⟩
              · rw [if_neg c, if_neg c]; exact ⟨τ1, rfl, d2.Q11⟩
            | succ k ih =>
              intro i n P z a τ hi hn wfP h0 hk hv hu h1
              obtain ⟨n, rfl⟩ : ∃ y, n = y + 1 := ⟨n - 1, by omega⟩
              have gb := got_bd (z * 1103515245 + 12345)
              have m1 : 0 ≤ iad (isr (z * 1103515245 + 12345) 16) 32767 % P 0 0 ∧ iad (isr (z * 1103515245 + 12345) 16) 32767 % P 0 0 < P 0 0 := ⟨Int.emod_nonneg _ (by omega), Int.emod_lt_of_pos _ (by omega)⟩
              have q0 : τ 11 0 = P 0 0 := by rw [← cv_0 τ 11, hv]
              have cs : cv (ups τ 13 (iad (isr (z * 1103515245 + 12345) 16) 32767 % P 0 0) (iad (isr (z * 1103515245 + 12345) 16) 32767 / 16 % 16)) 11 = drP P z := by
                have zz := cv_setR (σ := τ) (q := 11) (r0 := 2) (i0 := iad (isr (z * 1103515245 + 12345) 16) 32767 % P 0 0) (v := iad (isr (z * 1103515245 + 12345) 16) 32767 / 16 % 16) (by omega) m1.1 (show 0 ≤ _ ∧ _ < τ 11 0 by rw [q0]; exact m1)
                rw [hv] at zz
                exact zz
              have wf2 := drP_wf wfP z
              obtain ⟨τ2, d1, d2, d3⟩ := c_day (q := 11) (σ := ups τ 13 (iad (isr (z * 1103515245 + 12345) 16) 32767 % P 0 0) (iad (isr (z * 1103515245 + 12345) 16) 32767 / 16 % 16)) (by rw [cs]; exact wf2)
              have u2 : ups τ 13 (iad (isr (z * 1103515245 + 12345) 16) 32767 % P 0 0) (iad (isr (z * 1103515245 + 12345) 16) 32767 / 16 % 16) 11 11 = 0 := by rw [ups_at (by decide)]; exact hu
              rw [cs, u2] at d1 d2
              rw [f_X4_drift_52, wr_of (x := (i : Int)) (by omega) (by omega), wrI hx, if_pos (by omega), got_eq, h1, ← h0, irm_of (by omega) (by omega) (by omega) (by omega), bV_s, idv_of (by omega) (by omega) (by omega) (by omega), bV_s, irm_of (by omega) (by omega) (by omega) (by omega), bV_s, sv_of (by omega) (by omega) (by omega), bV_s, d1, bI_s, show (i : Int) + 1 = ((i + 1 : Nat) : Int) by omega]
              obtain ⟨τ', f1, f2⟩ := ih (i + 1) n (dayP (drP P z) 0) (z * 1103515245 + 12345) (a + rung (drP P z) 0) τ2 (by omega) (by omega) (dayP_wf wf2 (by show P 0 3 < 5000; omega) 0) h0 (by show P 0 3 + 1 + k ≤ 5000; omega) d2 (by rw [d3.2 11 (by omega) (by omega)]; exact u2) (by rw [d3.1 1 0 (by omega) (by omega) (by omega), ups_at (by decide)]; exact h1)
              exact ⟨τ', f1, ((Qc.t (by omega)).tr d3.Q).tr f2⟩
          obtain ⟨τ', f1, f2⟩ := lp x.toNat 0 FU (cv σ 1) s 0 σ1 (by omega) (by unfold FU; omega) wf rfl (by omega) b3 b4 (b2 1 0 (by omega))
          exact ⟨τ', f1, b2.tr f2⟩
      · rw [if_neg (by simp only [decide_eq_true_eq]; exact g2), if_neg g2]; exact ⟨σ, rfl, Qc.rf σ⟩
    · rw [if_neg (by simp only [decide_eq_true_eq]; exact g), if_neg g]; exact ⟨σ, rfl, Qc.rf σ⟩
  · have wf := I.1
    have hR := wf.1
    have hd := I.2.1
    unfold f_X5_drift S_drift
    rw [m_inw hx (by omega) (by omega), bI_s, m_inw hw (by omega) (by omega), bI_s]
    by_cases g : 1 ≤ x ∧ x ≤ 60
    · rw [if_pos (by simp [g]), if_pos g]
      by_cases g2 : 0 ≤ w ∧ w ≤ 1
      · rw [if_pos (by simp [g2]), if_pos g2, ← mv_0 σ 0, wr_of (x := mv σ 0 0 0) (by omega) (by omega)]
        by_cases g3 : mv σ 0 0 0 = 0
        · rw [if_pos g3, if_pos g3]; exact ⟨σ, rfl, Qm.rf σ⟩
        · rw [if_neg g3, if_neg g3]
          have ec : f_X5_copies 0 220 σ = some (cpM σ 0 220) := m_copies (a := 0) (b := 220) (by omega) (by omega) (by omega) σ
          unfold pf
          rw [ec, bV_s, bV_s]
          have lp : ∀ (k i n : Nat) (P : Pg) (z a : Int) (τ : St), i + k = x.toNat → k < n → WF P → P 0 0 = mv σ 0 0 0 → P 0 3 + k ≤ 5000 → mv τ 220 = P → τ 51 18 = 0 → τ 51 19 = a → ∃ τ', f_X5_drift_53 n x w z i τ = some ((if w = 0 then (drD k P z a).2 else agB (drD k P z a).1 0), τ') ∧ Qm τ τ' := by
            intro k
            induction k with
            | zero =>
              intro i n P z a τ hi hn wfP h0 hk hv hu h19
              obtain ⟨n, rfl⟩ : ∃ y, n = y + 1 := ⟨n - 1, by omega⟩
              have d1 := m_agree (p := 220) (σ := τ) (by omega) (by rw [hv]; exact wfP)
              rw [hv, hu] at d1
              refine ⟨τ, ?_, Qm.rf τ⟩
              rw [f_X5_drift_53, wr_of (x := (i : Int)) (by omega) (by omega), wrI hx, if_neg (by omega), wrI hw, d1, bI_s, h19]
              split <;> rfl
            | succ k ih =>
              intro i n P z a τ hi hn wfP h0 hk hv hu h19
              obtain ⟨n, rfl⟩ : ∃ y, n = y + 1 := ⟨n - 1, by omega⟩
              have gb := got_bd (z * 1103515245 + 12345)
              have m1 : 0 ≤ iad (isr (z * 1103515245 + 12345) 16) 32767 % P 0 0 ∧ iad (isr (z * 1103515245 + 12345) 16) 32767 % P 0 0 < P 0 0 := ⟨Int.emod_nonneg _ (by omega), Int.emod_lt_of_pos _ (by omega)⟩
              have r1 : τ 51 1 = P 0 0 := by rw [← mv_0 τ 220, hv]
              have r2 : rd τ 52 (220 + 52) = P 0 2 := by rw [← mv_2 τ 220, hv]
              have cs : mv (ups τ 52 (225 + iad (isr (z * 1103515245 + 12345) 16) 32767 % P 0 0) (iad (isr (z * 1103515245 + 12345) 16) 32767 / 16 % 16)) 220 = drP P z := by
                rw [mv_set (r0 := 2) (i0 := iad (isr (z * 1103515245 + 12345) 16) 32767 % P 0 0) (by omega) (by rw [r1]; exact wfP.1.2) (by rw [r2]; exact wfP.2.2.1.2) (show 0 ≤ _ ∧ _ < τ 51 1 by rw [r1]; exact m1) (by simp [lcM]; omega) (by omega), hv]
                simp [acM, drP]
              have wf2 := drP_wf wfP z
              obtain ⟨τ2, d1, d2, d4, d3⟩ := m_day (p := 220) (σ := ups τ 52 (225 + iad (isr (z * 1103515245 + 12345) 16) 32767 % P 0 0) (iad (isr (z * 1103515245 + 12345) 16) 32767 / 16 % 16)) (by omega) (by rw [cs]; exact wf2)
              have u2 : ups τ 52 (225 + iad (isr (z * 1103515245 + 12345) 16) 32767 % P 0 0) (iad (isr (z * 1103515245 + 12345) 16) 32767 / 16 % 16) 51 18 = 0 := by rw [ups_at (by decide)]; exact hu
              rw [cs, u2] at d2 d4
              rw [ups_at (by decide), h19] at d4
              rw [f_X5_drift_53, wr_of (x := (i : Int)) (by omega) (by omega), wrI hx, if_pos (by omega), r1, irm_of (by omega) (by omega) (by omega) (by omega), bV_s, idv_of (by omega) (by omega) (by omega) (by omega), bV_s, irm_of (by omega) (by omega) (by omega) (by omega), bV_s, sv_of (by omega) (by omega) (by omega), bV_s, d1, bV_s, show (i : Int) + 1 = ((i + 1 : Nat) : Int) by omega]
              obtain ⟨τ', f1, f2⟩ := ih (i + 1) n (dayP (drP P z) 0) (z * 1103515245 + 12345) (a + rung (drP P z) 0) τ2 (by omega) (by omega) (dayP_wf wf2 (by show P 0 3 < 5000; omega) 0) h0 (by show P 0 3 + 1 + k ≤ 5000; omega) d2 (by rw [d3.2.1 18 (by omega)]; exact u2) d4
              exact ⟨τ', f1, ((Qm.ups (by omega)).tr d3.T.Q).tr f2⟩
          obtain ⟨τ', f1, f2⟩ := lp x.toNat 0 FU (mv σ 0) s 0 (up (cpM σ 0 220) 51 19 0) (by omega) (by unfold FU; omega) wf rfl (by omega) (by
            rw [mv_pf (k := 51) (j := 19) (by decide) (by decide)]
            exact cpM_mv (a := 0) (b := 220) I.1.1.2 I.1.2.2.1.2) (by rw [up_at, if_neg (by omega), cpM_at (by decide)]; exact I.2.2) (by rw [up_at, if_pos ⟨rfl, rfl⟩])
          exact ⟨τ', f1, ((FrT.cp σ).Q.tr (Qm.up (by omega))).tr f2⟩
      · rw [if_neg (by simp only [decide_eq_true_eq]; exact g2), if_neg g2]; exact ⟨σ, rfl, Qm.rf σ⟩
    · rw [if_neg (by simp only [decide_eq_true_eq]; exact g), if_neg g]; exact ⟨σ, rfl, Qm.rf σ⟩
