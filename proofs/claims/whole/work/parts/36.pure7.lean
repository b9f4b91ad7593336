/-! ===== pure part 7: days one behind another ===== -/
def itD (P : Pg) (un : Int) : Nat → Pg
  | 0 => P
  | n + 1 => dayP (itD P un n) un
def sumR (P : Pg) (un : Int) (n : Nat) : Int := sumN (fun k => rung (itD P un k) un) n
theorem rung_b {P : Pg} (wf : WF P) (un : Int) : 0 ≤ rung P un ∧ rung P un ≤ 5 := by
  have := rung_bd wf.1.2 un (P 0 0).toNat (by have := wf.1; omega)
  exact this
theorem dayP_wf {P : Pg} (wf : WF P) (hd : P 0 3 < 5000) (un : Int) : WF (dayP P un) := by
  have hr := rung_b wf un
  obtain ⟨w0, w1, w2, w3, w4, w5, w6, w7⟩ := wf
  refine ⟨w0, w1, w2, ?_, ?_, ?_, w6, w7⟩
  · show 0 ≤ P 0 3 + 1 ∧ P 0 3 + 1 ≤ 5000
    omega
  · show 0 ≤ (if P 0 4 + rung P un < 9999 then P 0 4 + rung P un else 9999) ∧ (if P 0 4 + rung P un < 9999 then P 0 4 + rung P un else 9999) ≤ 9999
    split <;> omega
  · intro h h0 h1
    obtain ⟨a1, a2, a3⟩ := w5 h h0 h1
    refine ⟨a1, ?_, a3⟩
    show 0 ≤ (if 0 ≤ h ∧ h < P 0 0 then upd1 P un h else P 2 h) ∧ (if 0 ≤ h ∧ h < P 0 0 then upd1 P un h else P 2 h) < 16
    split
    · exact mvu_bd a2
    · exact a2
theorem itD_day (P : Pg) (un : Int) : ∀ n : Nat, itD P un n 0 3 = P 0 3 + n := by
  intro n
  induction n with
  | zero => simp [itD]
  | succ n ih =>
    show itD P un n 0 3 + 1 = _
    rw [ih]
    omega
theorem itD_wf {P : Pg} (wf : WF P) (un : Int) : ∀ n : Nat, P 0 3 + n ≤ 5000 → WF (itD P un n) := by
  intro n
  induction n with
  | zero => intro _; exact wf
  | succ n ih =>
    intro h
    exact dayP_wf (ih (by omega)) (by rw [itD_day]; omega) un
theorem itD_0 (P : Pg) (un : Int) : ∀ n : Nat, itD P un n 0 0 = P 0 0 := by
  intro n
  induction n with
  | zero => rfl
  | succ n ih => exact ih
theorem itD_2 (P : Pg) (un : Int) : ∀ n : Nat, itD P un n 0 2 = P 0 2 := by
  intro n
  induction n with
  | zero => rfl
  | succ n ih => exact ih
theorem itD_5 (P : Pg) (un i : Int) : ∀ n : Nat, itD P un n 5 i = P 5 i := by
  intro n
  induction n with
  | zero => rfl
  | succ n ih => exact ih
theorem sumR_bd {P : Pg} (wf : WF P) (un : Int) (n : Nat) (h : P 0 3 + n ≤ 5000) : 0 ≤ sumR P un n ∧ sumR P un n ≤ n * 5 :=
  sumN_bd (fun i hi => rung_b (itD_wf wf un i (by omega)) un)
/-! a day on which nothing moves -/
theorem sumN_0 {g : Nat → Int} {n : Nat} (h : ∀ i, 0 ≤ g i) : sumN g n = 0 → ∀ i, i < n → g i = 0 := by
  induction n with
  | zero => intro _ i hi; omega
  | succ n ih =>
    intro h0 i hi
    simp only [sumN] at h0
    have h1 : 0 ≤ sumN g n := by
      clear ih h0 hi
      induction n with
      | zero => simp [sumN]
      | succ n ih => simp only [sumN]; have := h n; omega
    have h2 := h n
    by_cases c : i = n
    · subst c; omega
    · exact ih (by omega) i (by omega)
theorem ring_0 {k u w b e : Int} (h : ring k u w b e = 0) : mvu k u w b e = u := by
  unfold ring at h
  unfold mvu
  by_cases c : e = -4 ∨ e = reads k u
  · rw [if_pos c]
  · rw [if_neg c] at h ⊢
    by_cases c2 : legF k u w b e 4 = -4
    · rw [if_pos c2]
    · rw [if_neg c2] at h
      omega
theorem quiet1 {P : Pg} (wf : WF P) {un : Int} (h : rung P un = 0) : dayP P un = upP P 0 3 (P 0 3 + 1) := by
  have h0 := sumN_0 (g := rung1 P un) (fun i => (ring_bd _ _ _ _ _).1) h
  funext r i
  unfold dayP upP
  by_cases c2 : r = 2
  · subst c2
    rw [if_pos rfl, if_neg (show ¬ ((2 : Nat) = 0 ∧ i = 3) by omega)]
    split
    · rename_i c
      have hR := wf.1
      have := h0 i.toNat (by omega)
      unfold rung1 at this
      rw [show ((i.toNat : Nat) : Int) = i by omega] at this
      exact ring_0 this
    · rfl
  · rw [if_neg c2, h]
    by_cases c3 : r = 0 ∧ i = 3
    · rw [if_pos c3, if_pos c3]
    · rw [if_neg c3, if_neg c3]
      by_cases c4 : r = 0 ∧ i = 4
      · obtain ⟨rfl, rfl⟩ := c4
        have := wf.2.2.2.2.1
        rw [if_pos ⟨rfl, rfl⟩, Int.add_zero]
        split <;> omega
      · rw [if_neg c4]
theorem quiet2 {P : Pg} (wf : WF P) {un d : Int} (h : rung P un = 0) (hd : P 0 3 ≤ d) (hn : ∀ i, 0 ≤ i → i < P 0 2 → ¬ (P 0 3 < P 5 i ∧ P 5 i ≤ d)) : rung (upP P 0 3 d) un = 0 := by
  have hM := wf.2.2.1
  have et : ∀ h e, told (upP P 0 3 d) un h e d = told P un h e (P 0 3) := by
    intro h e
    unfold told
    show sumN _ (P 0 2).toNat = _
    refine sumN_ext (fun i hi => ?_)
    unfold tg
    show (if P 7 i = h then (if P 8 i = e then (if d < P 5 i then 0 else _) else 0) else 0) = _
    have := hn i (by omega) (by omega)
    by_cases c : d < P 5 i
    · rw [if_pos c, if_pos (show P 0 3 < P 5 i by omega)]
    · rw [if_neg c, if_neg (show ¬ P 0 3 < P 5 i by omega)]
      rfl
  have eb : ∀ h, bel (upP P 0 3 d) un h d = bel P un h (P 0 3) := by
    intro h
    unfold bel
    congr 1
    congr 1
    funext e
    exact et h e
  rw [← h]
  unfold rung
  show sumN _ (P 0 0).toNat = _
  refine sumN_ext (fun i _ => ?_)
  unfold rung1
  show ring (P 1 i) (P 2 i) (P 3 i) (P 0 1) (bel (upP P 0 3 d) un i d) = _
  rw [eb]
theorem upP2 (P : Pg) (r : Nat) (i v w : Int) : upP (upP P r i v) r i w = upP P r i w := by
  funext r' i'
  unfold upP
  split <;> simp_all
theorem upP_wf3 {P : Pg} (wf : WF P) {d : Int} (h : 0 ≤ d ∧ d ≤ 5000) : WF (upP P 0 3 d) := by
  obtain ⟨w0, w1, w2, w3, w4, w5, w6, w7⟩ := wf
  exact ⟨w0, w1, w2, h, w4, w5, w6, w7⟩
/-- from a quiet day on nothing moves as long as no report has its day -/
theorem quiet {P : Pg} (wf : WF P) {un : Int} (h : rung P un = 0) : ∀ n : Nat, P 0 3 + n ≤ 5000 → (∀ i, 0 ≤ i → i < P 0 2 → ¬ (P 0 3 < P 5 i ∧ P 5 i < P 0 3 + n)) → itD P un n = upP P 0 3 (P 0 3 + n) ∧ sumR P un n = 0 := by
  intro n
  induction n with
  | zero =>
    intro _ _
    refine ⟨?_, rfl⟩
    funext r i
    unfold upP itD
    split
    · rename_i c; obtain ⟨rfl, rfl⟩ := c; simp
    · rfl
  | succ n ih =>
    intro hn hi
    obtain ⟨e1, e2⟩ := ih (by omega) (fun i h0 h1 => by have := hi i h0 h1; omega)
    have w := wf.2.2.2.1
    have q : rung (upP P 0 3 (P 0 3 + n)) un = 0 := quiet2 wf h (by omega) (fun i h0 h1 => by have := hi i h0 h1; omega)
    constructor
    · show dayP (itD P un n) un = _
      rw [e1, quiet1 (upP_wf3 wf (by omega)) q, upP2]
      congr 1
      show P 0 3 + n + 1 = _
      omega
    · unfold sumR at e2 ⊢
      simp only [sumN]
      rw [e2, e1, q]
      omega
theorem itD_add (P : Pg) (un : Int) (m : Nat) : ∀ n : Nat, itD P un (m + n) = itD (itD P un m) un n := by
  intro n
  induction n with
  | zero => rfl
  | succ n ih =>
    show dayP (itD P un (m + n)) un = dayP (itD (itD P un m) un n) un
    rw [ih]
theorem sumR_add (P : Pg) (un : Int) (m : Nat) : ∀ n : Nat, sumR P un (m + n) = sumR P un m + sumR (itD P un m) un n := by
  intro n
  induction n with
  | zero => simp [sumR, sumN]
  | succ n ih =>
    show sumR P un (m + n) + rung (itD P un (m + n)) un = sumR P un m + (sumR (itD P un m) un n + rung (itD (itD P un m) un n) un)
    rw [ih, itD_add]
    omega
section DAYS
variable {q : Nat}
theorem c_next_loop {P : Pg} (wf : WF P) {σ : St} (hv : cv σ q = P) {lim : Int} (hl : 0 ≤ lim ∧ lim ≤ 5000) : ∀ (k i n : Nat) (v : Int), i + k = (P 0 2).toNat → k < n → v ≤ lim → (P 0 3 ≤ lim → P 0 3 ≤ v) → (∀ j : Nat, j < i → P 0 3 ≤ P 5 j → v ≤ P 5 j) → 0 ≤ v → ∃ v', f_X2_dayOfNextReport_4 q n v i σ = some (v', σ) ∧ v' ≤ lim ∧ (P 0 3 ≤ lim → P 0 3 ≤ v') ∧ ∀ j : Nat, j < (P 0 2).toNat → P 0 3 ≤ P 5 j → v' ≤ P 5 j := by
  intro k
  have hM := wf.2.2.1
  have hd := wf.2.2.2.1
  have e6 : σ q 6 = P 0 2 := by rw [← hv]; rfl
  have e12 : σ q 12 = P 0 3 := by rw [← hv]; rfl
  induction k with
  | zero =>
    intro i n v hi hn h1 h2 h3 h4
    obtain ⟨n, rfl⟩ : ∃ m, n = m + 1 := ⟨n - 1, by omega⟩
    refine ⟨v, ?_, h1, h2, fun j hj => h3 j (by omega)⟩
    rw [f_X2_dayOfNextReport_4, e6, wr_of (x := (i : Int)) (by omega) (by omega), wr_of (x := P 0 2) (by omega) (by omega), if_neg (by omega)]
  | succ k ih =>
    intro i n v hi hn h1 h2 h3 h4
    obtain ⟨n, rfl⟩ : ∃ m, n = m + 1 := ⟨n - 1, by omega⟩
    have hi2 : (i : Int) < P 0 2 := by omega
    obtain ⟨a5, -, -, -⟩ := wf.2.2.2.2.2.2.2 i (by omega) hi2
    rw [f_X2_dayOfNextReport_4, e6, wr_of (x := (i : Int)) (by omega) (by omega), wr_of (x := P 0 2) (by omega) (by omega), if_pos hi2, ld_of (by omega) (by omega) (by omega), bV_s, bV_s, bV_s, cv_rd (by omega) (by rw [hv]; exact hi2), hv, e12, wr_of (x := P 5 i) (by omega) (by omega), wr_of (x := P 0 3) (by omega) (by omega), wr_of (x := v) (by omega) (by omega)]
    unfold f_X2_dayOfNextReport_42
    rw [show (i : Int) + 1 = ((i + 1 : Nat) : Int) by omega]
    by_cases c1 : P 5 i < P 0 3
    · rw [if_pos c1]
      exact ih (i + 1) n v (by omega) (by omega) h1 h2 (fun j hj hp => by
        by_cases c : j = i
        · subst c; omega
        · exact h3 j (by omega) hp) h4
    · rw [if_neg c1]
      by_cases c2 : P 5 i < v
      · rw [if_pos c2]
        exact ih (i + 1) n (P 5 i) (by omega) (by omega) (by omega) (by omega) (fun j hj hp => by
          by_cases c : j = i
          · subst c; omega
          · have := h3 j (by omega) hp; omega) (by omega)
      · rw [if_neg c2]
        exact ih (i + 1) n v (by omega) (by omega) h1 h2 (fun j hj hp => by
          by_cases c : j = i
          · subst c; omega
          · exact h3 j (by omega) hp) h4
theorem c_days_loop {P : Pg} (wf : WF P) {un : Int} {N : Nat} (hN : P 0 3 + N ≤ 5000) (hN2 : N ≤ 2000) : ∀ (k m d n : Nat) (σ : St), m + k = N → k < n → d ≤ m → cv σ q = itD P un m → σ q 11 = un → ∃ σ', f_X2_passDays_12 q n N (P 0 3 + N) (sumR P un m) d σ = some (sumR P un N, σ') ∧ cv σ' q = itD P un N ∧ FrD q σ σ' := by
  intro k
  have hd := wf.2.2.2.1
  induction k using Nat.strongRecOn with
  | _ k ih =>
    intro m d n σ hm hn hdm hv hu
    obtain ⟨n, rfl⟩ : ∃ z, n = z + 1 := ⟨n - 1, by omega⟩
    have e12 : σ q 12 = P 0 3 + m := by rw [← cv_3 σ q, hv, itD_day]
    rw [f_X2_passDays_12, e12, wr_of (x := (d : Int)) (by omega) (by omega), wr_of (x := (N : Int)) (by omega) (by omega), wr_of (x := P 0 3 + m) (by omega) (by omega), wr_of (x := P 0 3 + N) (by omega) (by omega)]
    by_cases ck : k = 0
    · obtain rfl : m = N := by omega
      rw [if_neg (show ¬ P 0 3 + (m : Int) < P 0 3 + m by omega)]
      refine ⟨σ, ?_, hv, FrD.rf q σ⟩
      split <;> rfl
    · have wfm : WF (itD P un m) := itD_wf wf un m (by omega)
      have wfv : WF (cv σ q) := by rw [hv]; exact wfm
      obtain ⟨σ1, b1, b2, b3⟩ := c_day wfv
      rw [if_pos (by omega), if_pos (by omega), b1, bI_s, hv, hu]
      have hr := rung_b wfm un
      rw [wr_of (x := rung (itD P un m) un) (by omega) (by omega)]
      have es : sumR P un m + rung (itD P un m) un = sumR P un (m + 1) := rfl
      rw [es]
      have b2' : cv σ1 q = itD P un (m + 1) := by rw [b2, hv, hu]; rfl
      have u1 : σ1 q 11 = un := by rw [b3.2 11 (by omega) (by omega)]; exact hu
      unfold f_X2_passDays_51
      rw [show (d : Int) + 1 = ((d + 1 : Nat) : Int) by omega]
      by_cases c0 : rung (itD P un m) un = 0
      · rw [if_pos c0]
        have wf1 : WF (itD P un (m + 1)) := itD_wf wf un (m + 1) (by omega)
        obtain ⟨v, g1, g2, g3, g4⟩ := c_next_loop wf1 b2' (lim := P 0 3 + N) (by omega) (itD P un (m + 1) 0 2).toNat 0 FU (P 0 3 + N) (by omega) (by unfold FU; have := wf1.2.2.1; omega) (by omega) (fun h => h) (fun j hj => by omega) (by omega)
        have g1' : f_X2_dayOfNextReport q (P 0 3 + N) σ1 = some (v, σ1) := g1
        rw [itD_day] at g3
        have g3' := g3 (by omega)
        rw [g1', bI_s]
        unfold pf
        rw [bV_s]
        obtain ⟨s, hs⟩ : ∃ s : Nat, v = P 0 3 + ((m + 1 + s : Nat) : Int) := ⟨(v - P 0 3 - m - 1).toNat, by omega⟩
        -- days that are skipped
        have qm := quiet (P := itD P un m) wfm c0 (s + 1) (by rw [itD_day]; omega) (fun i h0 h1 => by
          rw [itD_day, itD_5]
          rw [itD_2] at h1
          have := g4 i.toNat (by rw [itD_2]; omega)
          rw [itD_day, itD_5, show ((i.toNat : Nat) : Int) = i by omega] at this
          omega)
        have e1 : itD P un (m + 1 + s) = upP (itD P un (m + 1)) 0 3 v := by
          rw [show m + 1 + s = m + (s + 1) by omega, itD_add, qm.1]
          have q1 := quiet1 wfm c0
          show _ = upP (dayP (itD P un m) un) 0 3 v
          rw [q1, upP2, itD_day, hs]
          congr 1
          omega
        have e2 : sumR P un (m + 1 + s) = sumR P un (m + 1) := by
          rw [show m + 1 + s = m + (s + 1) by omega, sumR_add, qm.2, ← es, c0]
        obtain ⟨σ', d1, d2, d3⟩ := ih (k - 1 - s) (by omega) (m + 1 + s) (d + 1) n (up σ1 q 12 v) (by omega) (by omega) (by omega) (by rw [cv_upS (i := 3) (by simp), b2', e1]) (by rw [up_at, if_neg (by omega)]; exact u1)
        rw [e2] at d1
        exact ⟨σ', d1, d2, (b3.tr (FrD.up (Or.inl rfl))).tr d3⟩
      · rw [if_neg c0]
        obtain ⟨σ', d1, d2, d3⟩ := ih (k - 1) (by omega) (m + 1) (d + 1) n σ1 (by omega) (by omega) (by omega) b2' u1
        exact ⟨σ', d1, d2, b3.tr d3⟩
theorem c_days {σ : St} (wf : WF (cv σ q)) {N : Nat} (hN : cv σ q 0 3 + N ≤ 5000) (hN2 : N ≤ 2000) : ∃ σ', f_X2_passDays q N σ = some (sumR (cv σ q) (σ q 11) N, σ') ∧ cv σ' q = itD (cv σ q) (σ q 11) N ∧ FrD q σ σ' := by
  unfold f_X2_passDays
  exact c_days_loop wf hN hN2 N 0 0 FU σ (by omega) (by unfold FU; omega) (by omega) rfl rfl
end DAYS
