/-! ===== pure part 14: lose, swap, need ===== -/
theorem bitN_5 (c : Nat → Bool) {n : Nat} (hn : n ≤ 5) : (0 ≤ bitN c n ∧ bitN c n < 32) ∧ (bitN c n = isl 1 n - 1 ↔ ∀ i, i < n → c i = true) := by
  have h0 : ∀ b0 b1 b2 b3 b4 : Bool, (0 ≤ iod (iod (iod (iod (iod 0 (if b0 then isl 1 (0 : Nat) else 0)) (if b1 then isl 1 (1 : Nat) else 0)) (if b2 then isl 1 (2 : Nat) else 0)) (if b3 then isl 1 (3 : Nat) else 0)) (if b4 then isl 1 (4 : Nat) else 0) ∧ iod (iod (iod (iod (iod 0 (if b0 then isl 1 (0 : Nat) else 0)) (if b1 then isl 1 (1 : Nat) else 0)) (if b2 then isl 1 (2 : Nat) else 0)) (if b3 then isl 1 (3 : Nat) else 0)) (if b4 then isl 1 (4 : Nat) else 0) < 32) ∧ (iod (iod (iod (iod (iod 0 (if b0 then isl 1 (0 : Nat) else 0)) (if b1 then isl 1 (1 : Nat) else 0)) (if b2 then isl 1 (2 : Nat) else 0)) (if b3 then isl 1 (3 : Nat) else 0)) (if b4 then isl 1 (4 : Nat) else 0) = isl 1 (5 : Nat) - 1 ↔ (b0 = true ∧ b1 = true ∧ b2 = true ∧ b3 = true ∧ b4 = true)) := by decide +kernel
  have h4 : ∀ b0 b1 b2 b3 : Bool, (0 ≤ iod (iod (iod (iod 0 (if b0 then isl 1 (0 : Nat) else 0)) (if b1 then isl 1 (1 : Nat) else 0)) (if b2 then isl 1 (2 : Nat) else 0)) (if b3 then isl 1 (3 : Nat) else 0) ∧ iod (iod (iod (iod 0 (if b0 then isl 1 (0 : Nat) else 0)) (if b1 then isl 1 (1 : Nat) else 0)) (if b2 then isl 1 (2 : Nat) else 0)) (if b3 then isl 1 (3 : Nat) else 0) < 32) ∧ (iod (iod (iod (iod 0 (if b0 then isl 1 (0 : Nat) else 0)) (if b1 then isl 1 (1 : Nat) else 0)) (if b2 then isl 1 (2 : Nat) else 0)) (if b3 then isl 1 (3 : Nat) else 0) = isl 1 (4 : Nat) - 1 ↔ (b0 = true ∧ b1 = true ∧ b2 = true ∧ b3 = true)) := by decide +kernel
  have h3 : ∀ b0 b1 b2 : Bool, (0 ≤ iod (iod (iod 0 (if b0 then isl 1 (0 : Nat) else 0)) (if b1 then isl 1 (1 : Nat) else 0)) (if b2 then isl 1 (2 : Nat) else 0) ∧ iod (iod (iod 0 (if b0 then isl 1 (0 : Nat) else 0)) (if b1 then isl 1 (1 : Nat) else 0)) (if b2 then isl 1 (2 : Nat) else 0) < 32) ∧ (iod (iod (iod 0 (if b0 then isl 1 (0 : Nat) else 0)) (if b1 then isl 1 (1 : Nat) else 0)) (if b2 then isl 1 (2 : Nat) else 0) = isl 1 (3 : Nat) - 1 ↔ (b0 = true ∧ b1 = true ∧ b2 = true)) := by decide +kernel
  have h2 : ∀ b0 b1 : Bool, (0 ≤ iod (iod 0 (if b0 then isl 1 (0 : Nat) else 0)) (if b1 then isl 1 (1 : Nat) else 0) ∧ iod (iod 0 (if b0 then isl 1 (0 : Nat) else 0)) (if b1 then isl 1 (1 : Nat) else 0) < 32) ∧ (iod (iod 0 (if b0 then isl 1 (0 : Nat) else 0)) (if b1 then isl 1 (1 : Nat) else 0) = isl 1 (2 : Nat) - 1 ↔ (b0 = true ∧ b1 = true)) := by decide +kernel
  have h1 : ∀ b0 : Bool, (0 ≤ iod 0 (if b0 then isl 1 (0 : Nat) else 0) ∧ iod 0 (if b0 then isl 1 (0 : Nat) else 0) < 32) ∧ (iod 0 (if b0 then isl 1 (0 : Nat) else 0) = isl 1 (1 : Nat) - 1 ↔ b0 = true) := by decide +kernel
  rcases (show n = 0 ∨ n = 1 ∨ n = 2 ∨ n = 3 ∨ n = 4 ∨ n = 5 by omega) with rfl | rfl | rfl | rfl | rfl | rfl
  · refine ⟨(show 0 ≤ (0 : Int) ∧ (0 : Int) < 32 by decide), ?_⟩
    constructor
    · intro _ i hi; omega
    · intro _; show (0 : Int) = isl 1 ((0 : Nat) : Int) - 1; decide
  · obtain ⟨a, b⟩ := h1 (c 0)
    refine ⟨a, b.trans ?_⟩
    constructor
    · intro h i hi
      obtain rfl : i = 0 := by omega
      exact h
    · intro h; exact h 0 (by omega)
  · obtain ⟨a, b⟩ := h2 (c 0) (c 1)
    refine ⟨a, b.trans ?_⟩
    constructor
    · intro h i hi
      rcases (show i = 0 ∨ i = 1 by omega) with rfl | rfl
      · exact h.1
      · exact h.2
    · intro h; exact ⟨h 0 (by omega), h 1 (by omega)⟩
  · obtain ⟨a, b⟩ := h3 (c 0) (c 1) (c 2)
    refine ⟨a, b.trans ?_⟩
    constructor
    · intro h i hi
      rcases (show i = 0 ∨ i = 1 ∨ i = 2 by omega) with rfl | rfl | rfl
      · exact h.1
      · exact h.2.1
      · exact h.2.2
    · intro h; exact ⟨h 0 (by omega), h 1 (by omega), h 2 (by omega)⟩
  · obtain ⟨a, b⟩ := h4 (c 0) (c 1) (c 2) (c 3)
    refine ⟨a, b.trans ?_⟩
    constructor
    · intro h i hi
      rcases (show i = 0 ∨ i = 1 ∨ i = 2 ∨ i = 3 by omega) with rfl | rfl | rfl | rfl
      · exact h.1
      · exact h.2.1
      · exact h.2.2.1
      · exact h.2.2.2
    · intro h; exact ⟨h 0 (by omega), h 1 (by omega), h 2 (by omega), h 3 (by omega)⟩
  · obtain ⟨a, b⟩ := h0 (c 0) (c 1) (c 2) (c 3) (c 4)
    refine ⟨a, b.trans ?_⟩
    constructor
    · intro h i hi
      rcases (show i = 0 ∨ i = 1 ∨ i = 2 ∨ i = 3 ∨ i = 4 by omega) with rfl | rfl | rfl | rfl | rfl
      · exact h.1
      · exact h.2.1
      · exact h.2.2.1
      · exact h.2.2.2.1
      · exact h.2.2.2.2
    · intro h; exact ⟨h 0 (by omega), h 1 (by omega), h 2 (by omega), h 3 (by omega), h 4 (by omega)⟩
theorem agB_bd {P : Pg} (wf : WF P) (un : Int) : 0 ≤ agB P un ∧ agB P un < 32 := by
  have := wf.1
  exact (bitN_5 _ (by omega)).1
theorem bc_bd {x : Int} (h0 : 0 ≤ x) (h1 : x < 32) : 0 ≤ bc x ∧ bc x ≤ 5 := by
  have := all_lt 32 (fun x => decide (0 ≤ bc x ∧ bc x ≤ 5)) (by decide +kernel) h0 h1
  exact of_decide_eq_true this
def z0 : St := fun _ _ => 0
theorem bits_st (σ : St) : ∀ (n : Nat) (a x : Int), f_X5_bitsOf_4 n a x σ = (f_X5_bitsOf_4 n a x z0).map (fun r => (r.1, σ)) := by
  intro n
  induction n with
  | zero => intro a x; rfl
  | succ n ih =>
    intro a x
    simp only [f_X5_bitsOf_4]
    split
    · exact ih _ _
    · rfl
theorem bits_mono : ∀ (n m : Nat) (a x : Int) (r : Int × St), f_X5_bitsOf_4 n a x z0 = some r → n ≤ m → f_X5_bitsOf_4 m a x z0 = some r := by
  intro n
  induction n with
  | zero => intro m a x r h; cases h
  | succ n ih =>
    intro m a x r h hm
    obtain ⟨m, rfl⟩ : ∃ z, m = z + 1 := ⟨m - 1, by omega⟩
    simp only [f_X5_bitsOf_4] at h ⊢
    split at h
    · rename_i c; rw [if_pos c]; exact ih m _ _ _ h (by omega)
    · rename_i c; rw [if_neg c]; exact h
theorem m_bits {x : Int} (h0 : 0 ≤ x) (h1 : x < 32) (σ : St) : f_X5_bitsOf x σ = some (bc x, σ) := by
  have h := all_lt 32 (fun x => decide ((f_X5_bitsOf_4 8 0 x z0).map Prod.fst = some (bc x))) (by decide +kernel) h0 h1
  have h := of_decide_eq_true h
  unfold f_X5_bitsOf
  rw [bits_st]
  cases e : f_X5_bitsOf_4 8 0 x z0 with
  | none => rw [e] at h; cases h
  | some r =>
    rw [e] at h
    rw [bits_mono 8 FU 0 x r e (by unfold FU; omega)]
    simp only [Option.map_some, Option.some.injEq] at h ⊢
    rw [h]
def abM (P : Pg) (un : Int) (n : Nat) : Int := bc (agB (itD P un n) un)
theorem abM_bd {P : Pg} (wf : WF P) (un : Int) (n : Nat) (h : P 0 3 + n ≤ 5000) : 0 ≤ abM P un n ∧ abM P un n ≤ 5 := by
  have := agB_bd (itD_wf wf un n h) un
  exact bc_bd this.1 this.2
theorem c_ab {τ : St} {P : Pg} {un x : Int} (wf : WF P) (hd : P 0 3 ≤ 999) (hv : cv τ 11 = P) (hu : τ 11 11 = un) (hx : 0 ≤ x ∧ x ≤ 60) : ∃ τ', f_X4_agreeingBehind x τ = some (abM P un x.toNat, τ') ∧ Qc τ τ' := by
  obtain ⟨τ2, d1, d2, d3⟩ := c_days (q := 11) (σ := τ) (N := x.toNat) (by rw [hv]; exact wf) (by rw [hv]; omega) (by omega)
  rw [hv, hu] at d1 d2
  rw [show ((x.toNat : Nat) : Int) = x by omega] at d1
  obtain ⟨τ3, e1, e2⟩ := c_agree (q := 11) (σ := τ2) (by rw [d2]; exact itD_wf wf un _ (by omega))
  rw [d2, d3.2 11 (by omega) (by omega), hu] at e1
  refine ⟨τ3, ?_, d3.Q.tr e2.Q11⟩
  unfold f_X4_agreeingBehind
  rw [d1, bI_s, e1, bI_s, bc_eq, bI_s]
  rfl
theorem m_ab {τ : St} {P : Pg} {un x : Int} {a : Nat} (ha : a + 55 ≤ 220 ∨ a = 275) (wf : WF P) (hd : P 0 3 ≤ 999) (hv : mv τ a = P) (hu : τ 51 18 = un) (hx : 0 ≤ x ∧ x ≤ 60) : ∃ τ', f_X5_agreeBehind a x τ = some (abM P un x.toNat, τ') ∧ FrT τ τ' := by
  obtain ⟨τ2, d1, d2, -, -, d3⟩ := m_daysGo (σ := τ) (a := a) (N := x.toNat) ha (by rw [hv]; exact wf) (by rw [hv]; omega) (by omega)
  rw [hv, hu] at d1 d2
  rw [show ((x.toNat : Nat) : Int) = x by omega] at d1
  have wfn : WF (itD P un x.toNat) := itD_wf wf un _ (by omega)
  have e1 := m_agree (p := 220) (σ := τ2) (by omega) (by rw [d2]; exact wfn)
  rw [d2, d3.2.1 18 (by omega) (by omega) (by omega), hu] at e1
  have ab := agB_bd wfn un
  refine ⟨τ2, ?_, d3⟩
  unfold f_X5_agreeBehind
  rw [d1, bI_s, e1, bI_s, m_bits ab.1 ab.2, bI_s]
  rfl
def S_lose (n w : Int) (P : Pg) : Int := if 0 ≤ n ∧ n ≤ 60 then (if 0 ≤ w ∧ w ≤ 1 then finW w (mxF (fun i => abM P (isl 1 i) n.toNat) (P 0 2).toNat 0 (abM P 0 n.toNat) (-4)) else -1) else -1
theorem q_lose {x w : Int} (hx : IR x) (hw : IR w) : Qry (f_X4_lose x w) (f_X5_lose x w) (S_lose x w) := by
  have wm : wr (-4) = -4 := by decide
  refine ⟨fun σ I => ?_, fun σ I => ?_⟩
  · have wf := I.1
    have hd := I.2.1
    have hM := wf.2.2.1
    unfold f_X4_lose S_lose
    rw [c_isRun hx, bI_s, c_isChoice hw, bI_s]
    by_cases g : 0 ≤ x ∧ x ≤ 60
    · rw [if_pos (by simp [g]), if_pos g]
      by_cases g2 : 0 ≤ w ∧ w ≤ 1
      · rw [if_pos (by simp [g2]), if_pos g2]
        obtain ⟨σ1, b1, b2, b3, b4⟩ := c_trial I
        obtain ⟨σ2, b5, b6⟩ := c_ab wf hd b3 b4 g
        rw [b1, bV_s, b5, bI_s]
        have s0 := abM_bd wf 0 x.toNat (by omega)
        have lp : ∀ (k i n : Nat) (v u : Int) (τ : St), i + k = (cv σ 1 0 2).toNat → k < n → Qc σ τ → 0 ≤ v ∧ v ≤ 5 → -4 ≤ u ∧ u ≤ 8 → ∃ τ', f_X4_lose_40 n x w v u i τ = some (finW w (mxF (fun i => abM (cv σ 1) (isl 1 i) x.toNat) k i v u), τ') ∧ Qc σ τ' := by
          intro k
          induction k with
          | zero =>
            intro i n v u τ hi hn hq hv hu
            obtain ⟨n, rfl⟩ : ∃ z, n = z + 1 := ⟨n - 1, by omega⟩
            have e6 : τ 1 6 = cv σ 1 0 2 := hq 1 6 (by omega)
            refine ⟨τ, ?_, hq⟩
            rw [f_X4_lose_40, e6, wr_of (x := (i : Int)) (by omega) (by omega), wr_of (x := cv σ 1 0 2) (by omega) (by omega), if_neg (by omega), wrI hw, wm, wr_of (x := u) (by omega) (by omega)]
            unfold f_X4_lose_111
            exact fin_c
          | succ k ih =>
            intro i n v u τ hi hn hq hv hu
            obtain ⟨n, rfl⟩ : ∃ z, n = z + 1 := ⟨n - 1, by omega⟩
            have e6 : τ 1 6 = cv σ 1 0 2 := hq 1 6 (by omega)
            obtain ⟨τ1, c1, c2, c3, c4⟩ := c_trial (I.q hq)
            rw [hq.cv] at c3
            have cs : cv (up τ1 11 11 (isl 1 i)) 11 = cv σ 1 := by
              rw [← c3]
              exact cv_ext (fun r j hr h0 => by rw [up_at, if_neg (by omega)])
            obtain ⟨τ2, d1, d2⟩ := c_ab (un := isl 1 i) wf hd cs (by rw [up_at, if_pos ⟨rfl, rfl⟩]) g
            have sb := abM_bd wf (isl 1 i) x.toNat (by omega)
            rw [f_X4_lose_40, e6, wr_of (x := (i : Int)) (by omega) (by omega), wr_of (x := cv σ 1 0 2) (by omega) (by omega), if_pos (by omega), c1, bV_s]
            unfold pf
            rw [bV_s, d1, bI_s, wr_of (x := abM (cv σ 1) (isl 1 i) x.toNat) (by omega) (by omega), wr_of (x := v) (by omega) (by omega)]
            unfold f_X4_lose_94
            rw [show (i : Int) + 1 = ((i + 1 : Nat) : Int) by omega]
            have hq2 : Qc σ τ2 := ((hq.tr c2).tr (Qc.p (by omega))).tr d2
            simp only [mxF]
            by_cases c : v < abM (cv σ 1) (isl 1 i) x.toNat
            · rw [if_pos c, if_pos c]
              exact ih (i + 1) n _ _ τ2 (by omega) (by omega) hq2 (by omega) (by omega)
            · rw [if_neg c, if_neg c]
              exact ih (i + 1) n _ _ τ2 (by omega) (by omega) hq2 hv hu
        exact lp (cv σ 1 0 2).toNat 0 FU _ _ σ2 (by omega) (by unfold FU; omega) (b2.tr b6) s0 (by omega)
      · rw [if_neg (by simp only [decide_eq_true_eq]; exact g2), if_neg g2]; exact ⟨σ, rfl, Qc.rf σ⟩
    · rw [if_neg (by simp only [decide_eq_true_eq]; exact g), if_neg g]; exact ⟨σ, rfl, Qc.rf σ⟩
  · have wf := I.1
    have hd := I.2.1
    have hM := wf.2.2.1
    unfold f_X5_lose S_lose
    rw [m_inw hx (by omega) (by omega), bI_s, m_inw hw (by omega) (by omega), bI_s]
    by_cases g : 0 ≤ x ∧ x ≤ 60
    · rw [if_pos (by simp [g]), if_pos g]
      by_cases g2 : 0 ≤ w ∧ w ≤ 1
      · rw [if_pos (by simp [g2]), if_pos g2]
        obtain ⟨σ2, b5, b6⟩ := m_ab (τ := σ) (a := 0) (by omega) wf hd rfl I.2.2 g
        have b5' : f_X5_agreeBehind 0 x σ = some (abM (mv σ 0) 0 x.toNat, σ2) := b5
        rw [b5', bI_s]
        have s0 := abM_bd wf 0 x.toNat (by omega)
        have lp : ∀ (k i n : Nat) (v u : Int) (τ : St), i + k = (mv σ 0 0 2).toNat → k < n → Qm σ τ → 0 ≤ v ∧ v ≤ 5 → -4 ≤ u ∧ u ≤ 8 → ∃ τ', f_X5_lose_38 n x w v u i τ = some (finW w (mxF (fun i => abM (mv σ 0) (isl 1 i) x.toNat) k i v u), τ') ∧ Qm σ τ' := by
          intro k
          induction k with
          | zero =>
            intro i n v u τ hi hn hq hv hu
            obtain ⟨n, rfl⟩ : ∃ z, n = z + 1 := ⟨n - 1, by omega⟩
            have e6 : rd τ 52 52 = mv σ 0 0 2 := hq.2.2 52 (by omega) (by omega)
            refine ⟨τ, ?_, hq⟩
            rw [f_X5_lose_38, ld_of (by omega) (by omega) (by omega), bV_s, e6, wr_of (x := (i : Int)) (by omega) (by omega), wr_of (x := mv σ 0 0 2) (by omega) (by omega), if_neg (by omega), wrI hw, wm, wr_of (x := u) (by omega) (by omega)]
            unfold f_X5_lose_116
            exact fin_m
          | succ k ih =>
            intro i n v u τ hi hn hq hv hu
            obtain ⟨n, rfl⟩ : ∃ z, n = z + 1 := ⟨n - 1, by omega⟩
            have e6 : rd τ 52 52 = mv σ 0 0 2 := hq.2.2 52 (by omega) (by omega)
            obtain ⟨It, et⟩ := I.q hq
            obtain ⟨τ2, d1, d2⟩ := m_ab (τ := up τ 51 18 (isl 1 i)) (a := 0) (un := isl 1 i) (P := mv σ 0) (by omega) wf hd (by
              show mv _ 0 = _
              rw [mv_pf (k := 51) (j := 18) (by decide) (by decide)]
              exact et) (by rw [up_at, if_pos ⟨rfl, rfl⟩]) g
            have d1' : f_X5_agreeBehind 0 x (up τ 51 18 (isl 1 i)) = some (abM (mv σ 0) (isl 1 i) x.toNat, τ2) := d1
            have sb := abM_bd wf (isl 1 i) x.toNat (by omega)
            rw [f_X5_lose_38, ld_of (by omega) (by omega) (by omega), bV_s, e6, wr_of (x := (i : Int)) (by omega) (by omega), wr_of (x := mv σ 0 0 2) (by omega) (by omega), if_pos (by omega)]
            unfold pf
            rw [bV_s, d1', bI_s, bV_s, wr_of (x := abM (mv σ 0) (isl 1 i) x.toNat) (by omega) (by omega), wr_of (x := v) (by omega) (by omega)]
            unfold f_X5_lose_84 f_X5_lose_98
            rw [wr_of (x := abM (mv σ 0) (isl 1 i) x.toNat) (by omega) (by omega), wr_of (x := v) (by omega) (by omega), show (i : Int) + 1 = ((i + 1 : Nat) : Int) by omega]
            have hq2 : Qm σ (up τ2 51 18 0) := by
              refine ⟨fun k j h1 h2 h3 => ?_, fun j h1 h2 h3 => ?_, fun y h1 h2 => ?_⟩
              · rw [up_at, if_neg (by omega), d2.1 k j h1 h2, up_at, if_neg (by omega)]
                exact hq.1 k j h1 h2 h3
              · by_cases c : j = 18
                · subst c
                  rw [up_at, if_pos ⟨rfl, rfl⟩]
                  exact I.2.2.symm
                · rw [up_at, if_neg (by omega), d2.2.1 j h1 h2 h3, up_at, if_neg (by omega)]
                  exact hq.2.1 j h1 h2 h3
              · rw [rd_up (by decide), d2.2.2 y h1 (by omega), rd_up (by decide)]
                exact hq.2.2 y h1 h2
            simp only [mxF]
            by_cases c : v < abM (mv σ 0) (isl 1 i) x.toNat
            · simp only [c, if_true]
              exact ih (i + 1) n _ _ _ (by omega) (by omega) hq2 (by omega) (by omega)
            · simp only [c, if_false]
              exact ih (i + 1) n _ _ _ (by omega) (by omega) hq2 hv hu
        exact lp (mv σ 0 0 2).toNat 0 FU _ _ σ2 (by omega) (by unfold FU; omega) b6.Q s0 (by omega)
      · rw [if_neg (by simp only [decide_eq_true_eq]; exact g2), if_neg g2]; exact ⟨σ, rfl, Qm.rf σ⟩
    · rw [if_neg (by simp only [decide_eq_true_eq]; exact g), if_neg g]; exact ⟨σ, rfl, Qm.rf σ⟩
