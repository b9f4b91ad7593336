/-! ===== pure part 12: what is best ===== -/
theorem cv_setR {σ : St} {q r0 : Nat} {i0 v : Int} (h1 : 1 ≤ r0) (h0 : 0 ≤ i0) (hl : lvM (σ q 0) (σ q 6) r0 i0) : cv (ups σ (q + r0) i0 v) q = upP (cv σ q) r0 i0 v := by
  have s : ∀ j, ups σ (q + r0) i0 v q j = σ q j := fun j => ups_at (by omega)
  have rr : ∀ r y, 0 ≤ y → rd (ups σ (q + r0) i0 v) (q + r) y = if r = r0 ∧ y = i0 then v else rd σ (q + r) y := fun r y hy => by
    rw [rd_ups h0 hy]
    have : (q + r = q + r0 ∧ y = i0) ↔ (r = r0 ∧ y = i0) := by omega
    simp only [this]
  have key : ∀ r (i B : Int), (r = r0 → i = i0 → (0 ≤ i ∧ i < B)) → (if 0 ≤ i ∧ i < B then rd (ups σ (q + r0) i0 v) (q + r) i else 0) = if r = r0 ∧ i = i0 then v else (if 0 ≤ i ∧ i < B then rd σ (q + r) i else 0) := by
    intro r i B hb
    by_cases c : 0 ≤ i ∧ i < B
    · rw [if_pos c, rr r i c.1, if_pos c]
    · rw [if_neg c, if_neg c, if_neg (fun z => c (hb z.1 z.2))]
  funext r i
  unfold upP
  match r with
  | 0 =>
    rw [if_neg (by omega)]
    simp only [cv, s]
  | 1 => simp only [cv, s]; exact key 1 i _ (fun e e2 => by subst e; subst e2; exact hl)
  | 2 => simp only [cv, s]; exact key 2 i _ (fun e e2 => by subst e; subst e2; exact hl)
  | 3 => simp only [cv, s]; exact key 3 i _ (fun e e2 => by subst e; subst e2; exact hl)
  | 4 => simp only [cv]; exact key 4 i _ (fun e e2 => by subst e; subst e2; exact hl)
  | 5 => simp only [cv, s]; exact key 5 i _ (fun e e2 => by subst e; subst e2; exact hl)
  | 6 => simp only [cv, s]; exact key 6 i _ (fun e e2 => by subst e; subst e2; exact hl)
  | 7 => simp only [cv, s]; exact key 7 i _ (fun e e2 => by subst e; subst e2; exact hl)
  | 8 => simp only [cv, s]; exact key 8 i _ (fun e e2 => by subst e; subst e2; exact hl)
  | n + 9 =>
    rw [if_neg]
    · rfl
    · rintro ⟨rfl, -⟩
      exact hl
theorem Qc.t {σ : St} {k : Nat} {x v : Int} (h : 10 ≤ k ∧ k ≤ 20) : Qc σ (ups σ k x v) := fun b j hb => ups_at (by omega)
theorem Qc.p {σ : St} {k j : Nat} {v : Int} (h : 10 ≤ k ∧ k ≤ 20) : Qc σ (up σ k j v) := fun b i hb => by rw [up_at, if_neg (by omega)]
theorem wf_up4 {P : Pg} (wf : WF P) {r v : Int} (hv : 0 ≤ v ∧ v ≤ 9) : WF (upP P 4 r v) := by
  obtain ⟨w0, w1, w2, w3, w4, w5, w6, w7⟩ := wf
  refine ⟨w0, w1, w2, w3, w4, w5, ?_, w7⟩
  intro i h0 h1
  show 0 ≤ (if (4 : Nat) = 4 ∧ i = r then v else P 4 i) ∧ (if (4 : Nat) = 4 ∧ i = r then v else P 4 i) ≤ 9
  split
  · exact hv
  · exact w6 i h0 h1
theorem wf_up1 {P : Pg} (wf : WF P) {h v : Int} (hv : 0 ≤ v ∧ v < 4) : WF (upP P 1 h v) := by
  obtain ⟨w0, w1, w2, w3, w4, w5, w6, w7⟩ := wf
  refine ⟨w0, w1, w2, w3, w4, ?_, w6, w7⟩
  intro i h0 h1
  obtain ⟨a1, a2, a3⟩ := w5 i h0 h1
  refine ⟨?_, a2, a3⟩
  show 0 ≤ (if (1 : Nat) = 1 ∧ i = h then v else P 1 i) ∧ (if (1 : Nat) = 1 ∧ i = h then v else P 1 i) < 4
  split
  · exact hv
  · exact a1
theorem wf_upb {P : Pg} (wf : WF P) {v : Int} (hv : 1 ≤ v ∧ v ≤ 99) : WF (upP P 0 1 v) := by
  obtain ⟨w0, w1, w2, w3, w4, w5, w6, w7⟩ := wf
  exact ⟨w0, hv, w2, w3, w4, w5, w6, w7⟩
/-! pose -/
def poF (P : Pg) (h e : Int) : Nat → Nat → Int
  | 0, _ => -4
  | c + 1, u => if reads (P 1 h) u = e ∧ ¬ (P 0 1 * (4 - legs u) < P 3 h) then (u : Int) else poF P h e c (u + 1)
def S_pose (h e : Int) (P : Pg) : Int := if 0 ≤ h ∧ h < P 0 0 then (if 0 ≤ e ∧ e ≤ 3 then poF P h e 16 0 else -1) else -1
theorem q_pose {h e : Int} (hh : IR h) (he : IR e) : Qry (f_X4_pose h e) (f_X5_pose h e) (S_pose h e) := by
  have w16 : wr 16 = 16 := by decide
  refine ⟨fun σ I => ⟨σ, ?_, Qc.rf σ⟩, fun σ I => ⟨σ, ?_, Qm.rf σ⟩⟩
  · have wf := I.1
    have hR := wf.1
    unfold f_X4_pose S_pose
    rw [c_isRider hh hR, bI_s, c_isEnd he, bI_s]
    by_cases g0 : 0 ≤ h ∧ h < cv σ 1 0 0
    · rw [if_pos (by simp [g0]), if_pos g0]
      by_cases g : 0 ≤ e ∧ e ≤ 3
      · rw [if_pos (by simp [g]), if_pos g]
        obtain ⟨a1, a2, a3⟩ := wf.2.2.2.2.2.1 h g0.1 g0.2
        have e1 : rd σ 2 h = cv σ 1 1 h := cv_k g0.1 g0.2
        have e3 : rd σ 4 h = cv σ 1 3 h := cv_w g0.1 g0.2
        have lp : ∀ (k u n : Nat), u + k = 16 → k < n → f_X4_pose_19 n h e u σ = some (poF (cv σ 1) h e k u, σ) := by
          intro k
          induction k with
          | zero =>
            intro u n hu hn
            obtain ⟨n, rfl⟩ : ∃ z, n = z + 1 := ⟨n - 1, by omega⟩
            rw [f_X4_pose_19, w16, wr_of (x := (u : Int)) (by omega) (by omega), if_neg (by omega)]
            rfl
          | succ k ih =>
            intro u n hu hn
            obtain ⟨n, rfl⟩ : ∃ z, n = z + 1 := ⟨n - 1, by omega⟩
            have nx := ih (u + 1) n (by omega) (by omega)
            have rb := reads_bd (k := cv σ 1 1 h) (u := u) (by omega) (by omega)
            rw [f_X4_pose_19, w16, wr_of (x := (u : Int)) (by omega) (by omega), if_pos (by omega), ld_of (by omega) (by omega) (by omega), bV_s, e1, c_reading a1 (by omega), bI_s, wr_of (x := reads (cv σ 1 1 h) u) (by omega) (by omega), wrI he, ld_of (by omega) (by omega) (by omega), bV_s, e3, c_holds wf.2.1 (by omega) (by omega), bI_s, ← cv_1 σ 1]
            unfold f_X4_pose_64
            rw [show (u : Int) + 1 = ((u + 1 : Nat) : Int) by omega, nx]
            simp only [poF, decide_eq_true_eq]
            by_cases c1 : reads (cv σ 1 1 h) u = e
            · by_cases c2 : cv σ 1 0 1 * (4 - legs u) < cv σ 1 3 h <;> simp [c1, c2]
            · simp [c1]
        exact lp 16 0 FU (by omega) (by unfold FU; omega)
      · rw [if_neg (by simp only [decide_eq_true_eq]; exact g), if_neg g]
    · rw [if_neg (by simp only [decide_eq_true_eq]; exact g0), if_neg g0]
  · have wf := I.1
    have hR := wf.1
    unfold f_X5_pose S_pose
    rw [m_isRider (p := 0) hh hR, bI_s, m_isEnd he, bI_s]
    by_cases g0 : 0 ≤ h ∧ h < mv σ 0 0 0
    · rw [if_pos (by simp [g0]), if_pos g0]
      by_cases g : 0 ≤ e ∧ e ≤ 3
      · rw [if_pos (by simp [g]), if_pos g]
        obtain ⟨a1, a2, a3⟩ := wf.2.2.2.2.2.1 h g0.1 g0.2
        have lp : ∀ (k u n : Nat), u + k = 16 → k < n → f_X5_pose_19 n h e u σ = some (poF (mv σ 0) h e k u, σ) := by
          intro k
          induction k with
          | zero =>
            intro u n hu hn
            obtain ⟨n, rfl⟩ : ∃ z, n = z + 1 := ⟨n - 1, by omega⟩
            rw [f_X5_pose_19, w16, wr_of (x := (u : Int)) (by omega) (by omega), if_neg (by omega)]
            rfl
          | succ k ih =>
            intro u n hu hn
            obtain ⟨n, rfl⟩ : ∃ z, n = z + 1 := ⟨n - 1, by omega⟩
            have nx := ih (u + 1) n (by omega) (by omega)
            have rb := reads_bd (k := mv σ 0 1 h) (u := u) (by omega) (by omega)
            rw [f_X5_pose_19, w16, wr_of (x := (u : Int)) (by omega) (by omega), if_pos (by omega), ld_of (by omega) (by omega) (by omega), bV_s, mv_k0 g0.1 g0.2, m_readsOf a1 (by omega), bI_s, wr_of (x := reads (mv σ 0 1 h) u) (by omega) (by omega), wrI he, m_upright (by omega) wf g0.1 g0.2 (by omega), bI_s]
            unfold f_X5_pose_51
            rw [show (u : Int) + 1 = ((u + 1 : Nat) : Int) by omega, nx]
            simp only [poF, decide_eq_true_eq]
            by_cases c1 : reads (mv σ 0 1 h) u = e
            · by_cases c2 : mv σ 0 0 1 * (4 - legs u) < mv σ 0 3 h <;> simp [c1, c2]
            · simp [c1]
        exact lp 16 0 FU (by omega) (by unfold FU; omega)
      · rw [if_neg (by simp only [decide_eq_true_eq]; exact g), if_neg g]
    · rw [if_neg (by simp only [decide_eq_true_eq]; exact g0), if_neg g0]
/-! heavy -/
def hvF (P : Pg) (h e : Int) : Nat → Nat → Int → Int
  | 0, _, a => a
  | c + 1, u, a => hvF P h e c (u + 1) (if reads (P 1 h) u = e then (if a < P 0 1 * (4 - legs u) then P 0 1 * (4 - legs u) else a) else a)
def hvE (a : Int) : Int := if a = 0 then -4 else if 99 < a then 99 else a
def S_heavy (h e : Int) (P : Pg) : Int := if 0 ≤ h ∧ h < P 0 0 then (if 0 ≤ e ∧ e ≤ 3 then hvE (hvF P h e 16 0 0) else -1) else -1
theorem q_heavy {h e : Int} (hh : IR h) (he : IR e) : Qry (f_X4_heavy h e) (f_X5_heavy h e) (S_heavy h e) := by
  have w16 : wr 16 = 16 := by decide
  have w99 : wr 99 = 99 := by decide
  refine ⟨fun σ I => ⟨σ, ?_, Qc.rf σ⟩, fun σ I => ⟨σ, ?_, Qm.rf σ⟩⟩
  · have wf := I.1
    have hR := wf.1
    unfold f_X4_heavy S_heavy
    rw [c_isRider hh hR, bI_s, c_isEnd he, bI_s]
    by_cases g0 : 0 ≤ h ∧ h < cv σ 1 0 0
    · rw [if_pos (by simp [g0]), if_pos g0]
      by_cases g : 0 ≤ e ∧ e ≤ 3
      · rw [if_pos (by simp [g]), if_pos g]
        obtain ⟨a1, a2, a3⟩ := wf.2.2.2.2.2.1 h g0.1 g0.2
        have e1 : rd σ 2 h = cv σ 1 1 h := cv_k g0.1 g0.2
        have lp : ∀ (k u n : Nat) (a : Int), u + k = 16 → k < n → 0 ≤ a ∧ a ≤ 400 → f_X4_heavy_22 n h e a u σ = some (hvE (hvF (cv σ 1) h e k u a), σ) := by
          intro k
          induction k with
          | zero =>
            intro u n a hu hn ha
            obtain ⟨n, rfl⟩ : ∃ z, n = z + 1 := ⟨n - 1, by omega⟩
            rw [f_X4_heavy_22, w16, wr_of (x := (u : Int)) (by omega) (by omega), if_neg (by omega), wr_of (x := a) (by omega) (by omega), imn_of (by omega) (by omega)]
            unfold hvE hvF
            split <;> rfl
          | succ k ih =>
            intro u n a hu hn ha
            obtain ⟨n, rfl⟩ : ∃ z, n = z + 1 := ⟨n - 1, by omega⟩
            have rb := reads_bd (k := cv σ 1 1 h) (u := u) (by omega) (by omega)
            have lb := legs_bd (u := u) (by omega) (by omega)
            have mb := mul_bd wf.2.1 lb
            have em : (4 - legs u) * σ 1 4 = cv σ 1 0 1 * (4 - legs u) := Int.mul_comm _ _
            rw [f_X4_heavy_22, w16, wr_of (x := (u : Int)) (by omega) (by omega), if_pos (by omega), ld_of (by omega) (by omega) (by omega), bV_s, e1, c_reading a1 (by omega), bI_s, wr_of (x := reads (cv σ 1 1 h) u) (by omega) (by omega), wrI he]
            unfold f_X4_legsDown f_X4_heavy_65
            rw [bc_eq, bI_s, bI_s, bc_legs (by omega) (by omega), em, imx_of (by omega) (by omega), show (u : Int) + 1 = ((u + 1 : Nat) : Int) by omega]
            simp only [hvF]
            by_cases c1 : reads (cv σ 1 1 h) u = e
            · rw [if_pos c1, if_pos c1]
              exact ih (u + 1) n _ (by omega) (by omega) (by split <;> omega)
            · rw [if_neg c1, if_neg c1]
              exact ih (u + 1) n _ (by omega) (by omega) ha
        exact lp 16 0 FU 0 (by omega) (by unfold FU; omega) (by omega)
      · rw [if_neg (by simp only [decide_eq_true_eq]; exact g), if_neg g]
    · rw [if_neg (by simp only [decide_eq_true_eq]; exact g0), if_neg g0]
  · have wf := I.1
    have hR := wf.1
    unfold f_X5_heavy S_heavy
    rw [m_isRider (p := 0) hh hR, bI_s, m_isEnd he, bI_s]
    by_cases g0 : 0 ≤ h ∧ h < mv σ 0 0 0
    · rw [if_pos (by simp [g0]), if_pos g0]
      by_cases g : 0 ≤ e ∧ e ≤ 3
      · rw [if_pos (by simp [g]), if_pos g]
        obtain ⟨a1, a2, a3⟩ := wf.2.2.2.2.2.1 h g0.1 g0.2
        have lp : ∀ (k u n : Nat) (a : Int), u + k = 16 → k < n → 0 ≤ a ∧ a ≤ 400 → f_X5_heavy_22 n h e a u σ = some (hvE (hvF (mv σ 0) h e k u a), σ) := by
          intro k
          induction k with
          | zero =>
            intro u n a hu hn ha
            obtain ⟨n, rfl⟩ : ∃ z, n = z + 1 := ⟨n - 1, by omega⟩
            rw [f_X5_heavy_22, w16, w99, wr_of (x := (u : Int)) (by omega) (by omega), if_neg (by omega), wr_of (x := a) (by omega) (by omega)]
            unfold hvE hvF
            split
            · rfl
            · split <;> rfl
          | succ k ih =>
            intro u n a hu hn ha
            obtain ⟨n, rfl⟩ : ∃ z, n = z + 1 := ⟨n - 1, by omega⟩
            have rb := reads_bd (k := mv σ 0 1 h) (u := u) (by omega) (by omega)
            have lb := legs_bd (u := u) (by omega) (by omega)
            have mb := mul_bd wf.2.1 lb
            have el : f_X5_legsOf u σ = some (legs u, σ) := rfl
            have e15 : rd σ 52 15 + 25 = mv σ 0 0 1 := rfl
            rw [f_X5_heavy_22, w16, wr_of (x := (u : Int)) (by omega) (by omega), if_pos (by omega), ld_of (by omega) (by omega) (by omega), bV_s, el, bI_s, ld_of (by omega) (by omega) (by omega), bV_s, mv_k0 g0.1 g0.2, m_readsOf a1 (by omega), bI_s, e15, wr_of (x := reads (mv σ 0 1 h) u) (by omega) (by omega), wrI he, wr_of (x := mv σ 0 0 1 * (4 - legs u)) (by omega) (by omega), wr_of (x := a) (by omega) (by omega)]
            unfold f_X5_heavy_75 f_X5_heavy_76
            rw [show (u : Int) + 1 = ((u + 1 : Nat) : Int) by omega]
            simp only [hvF]
            by_cases c1 : reads (mv σ 0 1 h) u = e
            · rw [if_pos c1, if_pos c1]
              by_cases c2 : a < mv σ 0 0 1 * (4 - legs u)
              · rw [if_pos c2, if_pos c2]
                exact ih (u + 1) n _ (by omega) (by omega) (by omega)
              · rw [if_neg c2, if_neg c2]
                exact ih (u + 1) n _ (by omega) (by omega) ha
            · rw [if_neg c1, if_neg c1]
              exact ih (u + 1) n _ (by omega) (by omega) ha
        exact lp 16 0 FU 0 (by omega) (by unfold FU; omega) (by omega)
      · rw [if_neg (by simp only [decide_eq_true_eq]; exact g), if_neg g]
    · rw [if_neg (by simp only [decide_eq_true_eq]; exact g0), if_neg g0]
/-! gain -/
def gnF (P : Pg) (r h e d : Int) : Nat → Nat → Int
  | 0, _ => -4
  | c + 1, t => if bel (upP P 4 r t) 0 h d = e then (t : Int) else gnF P r h e d c (t + 1)
def S_gain (r h e d : Int) (P : Pg) : Int := if 0 ≤ r ∧ r ≤ 3 then (if 0 ≤ h ∧ h < P 0 0 then (if 0 ≤ e ∧ e ≤ 3 then (if 0 ≤ d ∧ d ≤ 99 then gnF P r h e d 10 0 else -1) else -1) else -1) else -1
theorem q_gain {r h e d : Int} (hr : IR r) (hh : IR h) (he : IR e) (hd : IR d) : Qry (f_X4_gain r h e d) (f_X5_gain r h e d) (S_gain r h e d) := by
  have w9 : wr 9 = 9 := by decide
  refine ⟨fun σ I => ?_, fun σ I => ?_⟩
  · have wf := I.1
    have hR := wf.1
    unfold f_X4_gain S_gain
    rw [c_isReporter hr, bI_s, c_isRider hh hR, bI_s, c_isEnd he, bI_s, c_isDay hd, bI_s]
    by_cases g1 : 0 ≤ r ∧ r ≤ 3
    · rw [if_pos (by simp [g1]), if_pos g1]
      by_cases g0 : 0 ≤ h ∧ h < cv σ 1 0 0
      · rw [if_pos (by simp [g0]), if_pos g0]
        by_cases g : 0 ≤ e ∧ e ≤ 3
        · rw [if_pos (by simp [g]), if_pos g]
          by_cases g3 : 0 ≤ d ∧ d ≤ 99
          · rw [if_pos (by simp [g3]), if_pos g3]
            obtain ⟨σ1, b1, b2, b3, b4⟩ := c_trial I
            rw [b1, bV_s]
            have lp : ∀ (k t n : Nat) (τ : St), t + k = 10 → k < n → (∃ v, cv τ 11 = upP (cv σ 1) 4 r v) → τ 11 11 = 0 → ∃ τ', f_X4_gain_46 n r h e d t τ = some (gnF (cv σ 1) r h e d k t, τ') ∧ Qc τ τ' := by
              intro k
              induction k with
              | zero =>
                intro t n τ ht hn hv hu
                obtain ⟨n, rfl⟩ : ∃ z, n = z + 1 := ⟨n - 1, by omega⟩
                refine ⟨τ, ?_, Qc.rf τ⟩
                rw [f_X4_gain_46, w9, wr_of (x := (t : Int)) (by omega) (by omega), if_pos (by omega)]
                rfl
              | succ k ih =>
                intro t n τ ht hn hv hu
                obtain ⟨n, rfl⟩ : ∃ z, n = z + 1 := ⟨n - 1, by omega⟩
                obtain ⟨v, hv⟩ := hv
                have cs : cv (ups τ 15 r t) 11 = upP (cv σ 1) 4 r t := by
                  have z := cv_setR (σ := τ) (q := 11) (r0 := 4) (i0 := r) (v := t) (by omega) g1.1 (show 0 ≤ r ∧ r < 4 by omega)
                  rw [hv, upP2] at z
                  exact z
                have wf2 : WF (cv (ups τ 15 r t) 11) := by rw [cs]; exact wf_up4 wf (by omega)
                obtain ⟨τ1, d1, d2⟩ := c_bel wf2 (h := h) (d := d) (by omega) (by omega)
                have u2 : ups τ 15 r t 11 11 = 0 := by rw [ups_at (by decide)]; exact hu
                rw [cs, u2] at d1
                have bb := bel_bd (wf_up4 wf (r := r) (v := t) (by omega)) 0 h d
                rw [f_X4_gain_46, w9, wr_of (x := (t : Int)) (by omega) (by omega), if_neg (by omega), sv_of (by omega) (by omega) (by omega), bV_s, d1, bI_s, wr_of (x := bel (upP (cv σ 1) 4 r t) 0 h d) (by omega) (by omega), wrI he]
                simp only [gnF]
                by_cases c : bel (upP (cv σ 1) 4 r t) 0 h d = e
                · rw [if_pos c, if_pos c]
                  exact ⟨τ1, rfl, (Qc.t (by omega)).tr d2.Q11⟩
                · rw [if_neg c, if_neg c]
                  obtain ⟨τ', f1, f2⟩ := ih (t + 1) n τ1 (by omega) (by omega) ⟨_, by rw [d2.cv]; exact cs⟩ (by rw [d2 11 11 (by omega)]; exact u2)
                  exact ⟨τ', f1, ((Qc.t (by omega)).tr d2.Q11).tr f2⟩
            obtain ⟨τ', f1, f2⟩ := lp 10 0 FU σ1 (by omega) (by unfold FU; omega) ⟨cv σ 1 4 r, by
              rw [b3]
              funext a b
              unfold upP
              split
              · rename_i c; obtain ⟨rfl, rfl⟩ := c; rfl
              · rfl⟩ b4
            exact ⟨τ', f1, b2.tr f2⟩
          · rw [if_neg (by simp only [decide_eq_true_eq]; exact g3), if_neg g3]; exact ⟨σ, rfl, Qc.rf σ⟩
        · rw [if_neg (by simp only [decide_eq_true_eq]; exact g), if_neg g]; exact ⟨σ, rfl, Qc.rf σ⟩
      · rw [if_neg (by simp only [decide_eq_true_eq]; exact g0), if_neg g0]; exact ⟨σ, rfl, Qc.rf σ⟩
    · rw [if_neg (by simp only [decide_eq_true_eq]; exact g1), if_neg g1]; exact ⟨σ, rfl, Qc.rf σ⟩
  · have wf := I.1
    have hR := wf.1
    unfold f_X5_gain S_gain
    rw [m_isReporter hr, bI_s, m_isRider (p := 0) hh hR, bI_s, m_isEnd he, bI_s, m_isDay hd, bI_s]
    by_cases g1 : 0 ≤ r ∧ r ≤ 3
    · rw [if_pos (by simp [g1]), if_pos g1]
      by_cases g0 : 0 ≤ h ∧ h < mv σ 0 0 0
      · rw [if_pos (by simp [g0]), if_pos g0]
        by_cases g : 0 ≤ e ∧ e ≤ 3
        · rw [if_pos (by simp [g]), if_pos g]
          by_cases g3 : 0 ≤ d ∧ d ≤ 99
          · rw [if_pos (by simp [g3]), if_pos g3]
            have ec : f_X5_copies 0 275 σ = some (cpM σ 0 275) := m_copies (a := 0) (b := 275) (by omega) (by omega) (by omega) σ
            rw [ec, bV_s]
            have lp : ∀ (k t n : Nat) (τ : St), t + k = 10 → k < n → (∃ v, mv τ 275 = upP (mv σ 0) 4 r v) → τ 51 18 = 0 → ∃ τ', f_X5_gain_43 n r h e d t τ = some (gnF (mv σ 0) r h e d k t, τ') ∧ Qm τ τ' := by
              intro k
              induction k with
              | zero =>
                intro t n τ ht hn hv hu
                obtain ⟨n, rfl⟩ : ∃ z, n = z + 1 := ⟨n - 1, by omega⟩
                refine ⟨τ, ?_, Qm.rf τ⟩
                rw [f_X5_gain_43, w9, wr_of (x := (t : Int)) (by omega) (by omega), if_pos (by omega)]
                rfl
              | succ k ih =>
                intro t n τ ht hn hv hu
                obtain ⟨n, rfl⟩ : ∃ z, n = z + 1 := ⟨n - 1, by omega⟩
                obtain ⟨v, hv⟩ := hv
                have r1 : τ 51 1 = mv σ 0 0 0 := by rw [← mv_0 τ 275, hv]; rfl
                have r2 : rd τ 52 (275 + 52) = mv σ 0 0 2 := by rw [← mv_2 τ 275, hv]; rfl
                have cs : mv (ups τ 52 (291 + r) (t - 1)) 275 = upP (mv σ 0) 4 r t := by
                  rw [mv_set (r0 := 4) (i0 := r) (by omega) (by omega) (by rw [r2]; exact wf.2.2.1.2) (show 0 ≤ r ∧ r < 4 by omega) (by simp [lcM]; omega) (by omega), hv, upP2]
                  simp [acM]
                have wf2 : WF (mv (ups τ 52 (291 + r) (t - 1)) 275) := by rw [cs]; exact wf_up4 wf (by omega)
                have d1 := m_bel (p := 275) (by omega) wf2 (h := h) (d := d) (by omega) (by omega)
                have u2 : ups τ 52 (291 + r) (t - 1) 51 18 = 0 := by rw [ups_at (by decide)]; exact hu
                rw [cs, u2] at d1
                have bb := bel_bd (wf_up4 wf (r := r) (v := t) (by omega)) 0 h d
                rw [f_X5_gain_43, w9, wr_of (x := (t : Int)) (by omega) (by omega), if_neg (by omega), sv_of (by omega) (by omega) (by omega), bV_s, d1, bI_s, wr_of (x := bel (upP (mv σ 0) 4 r t) 0 h d) (by omega) (by omega), wrI he]
                simp only [gnF]
                by_cases c : bel (upP (mv σ 0) 4 r t) 0 h d = e
                · rw [if_pos c, if_pos c]
                  exact ⟨_, rfl, Qm.ups (by omega)⟩
                · rw [if_neg c, if_neg c]
                  obtain ⟨τ', f1, f2⟩ := ih (t + 1) n _ (by omega) (by omega) ⟨_, cs⟩ u2
                  exact ⟨τ', f1, (Qm.ups (by omega)).tr f2⟩
            obtain ⟨τ', f1, f2⟩ := lp 10 0 FU (cpM σ 0 275) (by omega) (by unfold FU; omega) ⟨mv σ 0 4 r, by
              have e := cpM_mv (a := 0) (b := 275) (σ := σ) wf.1.2 wf.2.2.1.2
              have e' : mv (cpM σ 0 275) 275 = mv σ 0 := e
              rw [e']
              funext a b
              unfold upP
              split
              · rename_i c; obtain ⟨rfl, rfl⟩ := c; rfl
              · rfl⟩ (by rw [cpM_at (by decide)]; exact I.2.2)
            exact ⟨τ', f1, (Qm.cp (by omega) σ).tr f2⟩
          · rw [if_neg (by simp only [decide_eq_true_eq]; exact g3), if_neg g3]; exact ⟨σ, rfl, Qm.rf σ⟩
        · rw [if_neg (by simp only [decide_eq_true_eq]; exact g), if_neg g]; exact ⟨σ, rfl, Qm.rf σ⟩
      · rw [if_neg (by simp only [decide_eq_true_eq]; exact g0), if_neg g0]; exact ⟨σ, rfl, Qm.rf σ⟩
    · rw [if_neg (by simp only [decide_eq_true_eq]; exact g1), if_neg g1]; exact ⟨σ, rfl, Qm.rf σ⟩
