/-! ===== pure part 4: the model's day ===== -/
theorem ixd_bd {u l : Int} (hu : 0 ≤ u ∧ u < 16) (hl : 0 ≤ l ∧ l < 4) : 0 ≤ ixd u (isl 1 l) ∧ ixd u (isl 1 l) < 16 := by
  have := all_lt2 16 4 (fun u l => decide (0 ≤ ixd u (isl 1 l) ∧ ixd u (isl 1 l) < 16)) (by decide +kernel) hu.1 hu.2 hl.1 hl.2
  exact of_decide_eq_true this
theorem ixd_ne {u l : Int} (hu : 0 ≤ u ∧ u < 16) (hl : 0 ≤ l ∧ l < 4) : ixd u (isl 1 l) ≠ u := by
  have := all_lt2 16 4 (fun u l => decide (ixd u (isl 1 l) ≠ u)) (by decide +kernel) hu.1 hu.2 hl.1 hl.2
  exact of_decide_eq_true this
theorem legF_bd (k u w b e : Int) : ∀ n : Nat, n ≤ 4 → (legF k u w b e n = -4 ∨ (0 ≤ legF k u w b e n ∧ legF k u w b e n < 4)) := by
  intro n
  induction n with
  | zero => intro _; left; rfl
  | succ n ih =>
    intro hn
    simp only [legF]
    split
    · right; omega
    · exact ih (by omega)
theorem mvu_bd {k u w b e : Int} (hu : 0 ≤ u ∧ u < 16) : 0 ≤ mvu k u w b e ∧ mvu k u w b e < 16 := by
  unfold mvu
  split
  · exact hu
  · split
    · exact hu
    · rename_i h1 h2
      rcases legF_bd k u w b e 4 (by omega) with h | h
      · exact absurd h h2
      · exact ixd_bd hu h
theorem ring_bd (k u w b e : Int) : 0 ≤ ring k u w b e ∧ ring k u w b e ≤ 1 := by
  unfold ring
  split
  · omega
  · split <;> omega
theorem rung_bd {P : Pg} (hR : P 0 0 ≤ 5) (un : Int) (n : Nat) (hn : n ≤ 5) : 0 ≤ sumN (rung1 P un) n ∧ sumN (rung1 P un) n ≤ 5 := by
  have := sumN_bd (g := rung1 P un) (B := 1) (n := n) (fun i _ => ring_bd _ _ _ _ _)
  omega
theorem mul_bd {b l : Int} (hb : 1 ≤ b ∧ b ≤ 99) (hl : 0 ≤ l ∧ l ≤ 4) : 0 ≤ b * (4 - l) ∧ b * (4 - l) ≤ 396 := by
  rcases (show l = 0 ∨ l = 1 ∨ l = 2 ∨ l = 3 ∨ l = 4 by omega) with rfl | rfl | rfl | rfl | rfl <;> omega
section MODEL2
variable {σ : St} {p : Int}
theorem m_readsOn (hp : 0 ≤ p ∧ p ≤ 275) (wf : WF (mv σ p)) {h : Int} (h0 : 0 ≤ h) (h1 : h < mv σ p 0 0) : f_X5_readsOn p h σ = some (reads (mv σ p 1 h) (mv σ p 2 h), σ) := by
  have hR := wf.1
  obtain ⟨a1, a2, a3⟩ := wf.2.2.2.2.2.1 h h0 h1
  unfold f_X5_readsOn
  rw [ld_of (by omega) (by omega) (by omega), bV_s, ld_of (by omega) (by omega) (by omega), bV_s, mv_k h0 h1, mv_u h0 h1, m_readsOf a1 a2, bI_s]
theorem m_upright (hp : 0 ≤ p ∧ p ≤ 275) (wf : WF (mv σ p)) {h u : Int} (h0 : 0 ≤ h) (h1 : h < mv σ p 0 0) (hu : 0 ≤ u ∧ u < 16) : f_X5_isUpright p h u σ = some (decide (¬ (mv σ p 0 1 * (4 - legs u) < mv σ p 3 h)), σ) := by
  have hR := wf.1
  have hb := wf.2.1
  obtain ⟨a1, a2, a3⟩ := wf.2.2.2.2.2.1 h h0 h1
  have hl := legs_bd hu.1 hu.2
  have hm := mul_bd hb hl
  have e : f_X5_legsOf u σ = some (legs u, σ) := rfl
  unfold f_X5_isUpright
  rw [ld_of (by omega) (by omega) (by omega), bV_s, ld_of (by omega) (by omega) (by omega), bV_s, mv_w h0 h1, ← mv_1, e, bI_s, wr_of (x := mv σ p 0 1 * (4 - legs u)) (by omega) (by omega), wr_of (x := mv σ p 3 h) (by omega) (by omega)]
  by_cases c : mv σ p 0 1 * (4 - legs u) < mv σ p 3 h
  · rw [if_pos c]; simp [c]
  · rw [if_neg c]; simp [c]
theorem m_agrees (hp : 0 ≤ p ∧ p ≤ 275) (wf : WF (mv σ p)) {h : Int} (h0 : 0 ≤ h) (h1 : h < mv σ p 0 0) : f_X5_agreesOn p h σ = some (decide (bel (mv σ p) (σ 51 18) h (mv σ p 0 3) = -4 ∨ bel (mv σ p) (σ 51 18) h (mv σ p 0 3) = reads (mv σ p 1 h) (mv σ p 2 h)), σ) := by
  have hR := wf.1
  have hd := wf.2.2.2.1
  obtain ⟨a1, a2, a3⟩ := wf.2.2.2.2.2.1 h h0 h1
  have hb := bel_bd wf (σ 51 18) h (mv σ p 0 3)
  have hr := reads_bd (k := mv σ p 1 h) a2.1 a2.2
  have w4 : wr (-4) = -4 := by decide
  unfold f_X5_agreesOn f_X5_agreesOn_32
  rw [ld_of (by omega) (by omega) (by omega), bV_s, ← mv_3, m_bel hp wf ⟨h0, by omega⟩ hd, bI_s, w4, wr_of (x := bel (mv σ p) (σ 51 18) h (mv σ p 0 3)) (by omega) (by omega), m_readsOn hp wf h0 h1, bI_s, wr_of (x := reads (mv σ p 1 h) (mv σ p 2 h)) (by omega) (by omega)]
  by_cases c : bel (mv σ p) (σ 51 18) h (mv σ p 0 3) = -4
  · rw [if_pos c]; simp [c]
  · rw [if_neg c]
    by_cases c2 : bel (mv σ p) (σ 51 18) h (mv σ p 0 3) = reads (mv σ p 1 h) (mv σ p 2 h)
    · rw [if_pos c2]; simp [c2]
    · rw [if_neg c2]; simp [c, c2]
theorem m_apart {a b : Int} (ha : -1000 ≤ a ∧ a ≤ 1000) (hb : -1000 ≤ b ∧ b ≤ 1000) : f_X5_apart a b σ = some (dist a b, σ) := by
  unfold f_X5_apart dist
  rw [wr_of (by omega) (by omega), wr_of (by omega) (by omega)]
  split <;> rfl
theorem dist_bd {a b : Int} (ha : -10 ≤ a ∧ a ≤ 10) (hb : -10 ≤ b ∧ b ≤ 10) : 0 ≤ dist a b ∧ dist a b ≤ 20 := by
  unfold dist
  split <;> omega
theorem m_leg_loop (hp : 0 ≤ p ∧ p ≤ 275) (wf : WF (mv σ p)) {h e : Int} (h0 : 0 ≤ h) (h1 : h < mv σ p 0 0) (he : -4 ≤ e ∧ e < 4) : ∀ (k i n : Nat), i + k = 4 → k < n → f_X5_legOn_43 n p h e (mv σ p 2 h) (dist (reads (mv σ p 1 h) (mv σ p 2 h)) e) i σ = some (legF (mv σ p 1 h) (mv σ p 2 h) (mv σ p 3 h) (mv σ p 0 1) e k, σ) := by
  intro k
  have hR := wf.1
  obtain ⟨a1, a2, a3⟩ := wf.2.2.2.2.2.1 h h0 h1
  have hr := reads_bd (k := mv σ p 1 h) a2.1 a2.2
  induction k with
  | zero =>
    intro i n hi hn
    obtain ⟨n, rfl⟩ : ∃ m, n = m + 1 := ⟨n - 1, by omega⟩
    obtain rfl : i = 4 := by omega
    rw [f_X5_legOn_43, if_neg (by decide)]
    rfl
  | succ k ih =>
    intro i n hi hn
    obtain ⟨n, rfl⟩ : ∃ m, n = m + 1 := ⟨n - 1, by omega⟩
    have nx := ih (i + 1) n (by omega) (by omega)
    rw [show ((i + 1 : Nat) : Int) = (i : Int) + 1 by omega] at nx
    have w4 : wr 4 = 4 := by decide
    have hx := ixd_bd a2 (l := i) (by omega)
    have hr2 := reads_bd (k := mv σ p 1 h) hx.1 hx.2
    have hd1 := dist_bd (a := reads (mv σ p 1 h) (mv σ p 2 h)) (b := e) (by omega) (by omega)
    have hd2 := dist_bd (a := reads (mv σ p 1 h) (ixd (mv σ p 2 h) (isl 1 i))) (b := e) (by omega) (by omega)
    have ei : 3 - (k : Int) = i := by omega
    rw [f_X5_legOn_43, w4, wr_of (x := (i : Int)) (by omega) (by omega), if_pos (by omega), ld_of (by omega) (by omega) (by omega), bV_s, mv_k h0 h1, m_readsOf a1 hx, bI_s, m_apart (by omega) (by omega), bI_s, wr_of (x := dist (reads (mv σ p 1 h) (ixd (mv σ p 2 h) (isl 1 i))) e) (by omega) (by omega), wr_of (x := dist (reads (mv σ p 1 h) (mv σ p 2 h)) e) (by omega) (by omega), m_upright hp wf h0 h1 hx, bI_s]
    unfold f_X5_legOn_94
    simp only [legF]
    rw [ei]
    by_cases c1 : dist (reads (mv σ p 1 h) (ixd (mv σ p 2 h) (isl 1 i))) e < dist (reads (mv σ p 1 h) (mv σ p 2 h)) e
    · by_cases c2 : mv σ p 0 1 * (4 - legs (ixd (mv σ p 2 h) (isl 1 i))) < mv σ p 3 h
      · simp only [c1, c2, if_true, not_true_eq_false, decide_false, Bool.false_eq_true, if_false, and_false]
        exact nx
      · simp only [c1, c2, if_true, not_false_eq_true, decide_true, and_self]
    · simp only [c1, if_false, false_and]
      exact nx
theorem m_leg (hp : 0 ≤ p ∧ p ≤ 275) (wf : WF (mv σ p)) {h : Int} (h0 : 0 ≤ h) (h1 : h < mv σ p 0 0) : f_X5_legOn p h σ = some (legF (mv σ p 1 h) (mv σ p 2 h) (mv σ p 3 h) (mv σ p 0 1) (bel (mv σ p) (σ 51 18) h (mv σ p 0 3)) 4, σ) := by
  have hR := wf.1
  have hd := wf.2.2.2.1
  obtain ⟨a1, a2, a3⟩ := wf.2.2.2.2.2.1 h h0 h1
  have hb := bel_bd wf (σ 51 18) h (mv σ p 0 3)
  have hr := reads_bd (k := mv σ p 1 h) a2.1 a2.2
  unfold f_X5_legOn
  rw [ld_of (by omega) (by omega) (by omega), bV_s, ← mv_3, m_bel hp wf ⟨h0, by omega⟩ hd, bI_s, ld_of (by omega) (by omega) (by omega), bV_s, mv_u h0 h1, m_readsOn hp wf h0 h1, bI_s, m_apart (by omega) (by omega), bI_s]
  exact m_leg_loop hp wf h0 h1 (by omega) 4 0 FU (by omega) (by unfold FU; omega)
/-! the day, rider by rider -/
def dayH (P : Pg) (un : Int) (n : Nat) : Pg := fun r i => if r = 2 then (if 0 ≤ i ∧ i < (n : Int) then upd1 P un i else P 2 i) else if r = 0 ∧ i = 4 then (if P 0 4 + sumN (rung1 P un) n < 9999 then P 0 4 + sumN (rung1 P un) n else 9999) else P r i
theorem dayH_bel (P : Pg) (un : Int) (n : Nat) (un2 h d : Int) : bel (dayH P un n) un2 h d = bel P un2 h d := rfl
theorem dayH_wf {P : Pg} (wf : WF P) (un : Int) (n : Nat) (hn : (n : Int) ≤ P 0 0) : WF (dayH P un n) := by
  obtain ⟨w0, w1, w2, w3, w4, w5, w6, w7⟩ := wf
  have hs := rung_bd w0.2 un n (by omega)
  refine ⟨w0, w1, w2, w3, ?_, ?_, w6, w7⟩
  · show 0 ≤ (if P 0 4 + sumN (rung1 P un) n < 9999 then P 0 4 + sumN (rung1 P un) n else 9999) ∧ (if P 0 4 + sumN (rung1 P un) n < 9999 then P 0 4 + sumN (rung1 P un) n else 9999) ≤ 9999
    split <;> omega
  · intro h h0 h1
    obtain ⟨a1, a2, a3⟩ := w5 h h0 h1
    refine ⟨a1, ?_, a3⟩
    show 0 ≤ (if 0 ≤ h ∧ h < (n : Int) then upd1 P un h else P 2 h) ∧ (if 0 ≤ h ∧ h < (n : Int) then upd1 P un h else P 2 h) < 16
    split
    · exact mvu_bd a2
    · exact a2
/-- what a day of the model leaves alone -/
def FrM (p : Int) (σ σ' : St) : Prop := (∀ k j, k ≠ 51 → k ≠ 52 → σ' k j = σ k j) ∧ (∀ j, j ≠ 19 → σ' 51 j = σ 51 j) ∧ ∀ x, 0 ≤ x → (x < p ∨ p + 55 ≤ x) → rd σ' 52 x = rd σ 52 x
theorem FrM.rf (p : Int) (σ : St) : FrM p σ σ := ⟨fun _ _ _ _ => rfl, fun _ _ => rfl, fun _ _ _ => rfl⟩
theorem FrM.tr {p : Int} {a b c : St} (h1 : FrM p a b) (h2 : FrM p b c) : FrM p a c := ⟨fun k j x y => (h2.1 k j x y).trans (h1.1 k j x y), fun j x => (h2.2.1 j x).trans (h1.2.1 j x), fun x y z => (h2.2.2 x y z).trans (h1.2.2 x y z)⟩
theorem FrM.ups {p x v : Int} {σ : St} (hx : p ≤ x ∧ x < p + 55) (hp : 0 ≤ p) : FrM p σ (ups σ 52 x v) := ⟨fun k j _ h => ups_at h, fun j _ => ups_at (by decide), fun y hy h => by rw [rd_ups (by omega) hy, if_neg (by omega)]⟩
theorem FrM.up {p v : Int} {σ : St} : FrM p σ (up σ 51 19 v) := ⟨fun k j h _ => up_at.trans (if_neg (by omega)), fun j h => up_at.trans (if_neg (by omega)), fun y _ _ => rd_up (by decide)⟩
theorem m_day_loop (hp : 0 ≤ p ∧ p ≤ 275) {P : Pg} (wf : WF P) (un : Int) : ∀ (k i n : Nat) (σ : St), i + k = (P 0 0).toNat → k < n → mv σ p = dayH P un i → σ 51 18 = un → ∃ σ', f_X5_dayOn_2 n p i σ = some σ' ∧ mv σ' p = dayP P un ∧ σ' 51 19 = σ 51 19 + (sumN (rung1 P un) (P 0 0).toNat - sumN (rung1 P un) i) ∧ FrM p σ σ' := by
  intro k
  have hR := wf.1
  induction k with
  | zero =>
    intro i n σ hi hn hv hu
    obtain ⟨n, rfl⟩ : ∃ m, n = m + 1 := ⟨n - 1, by omega⟩
    have e0 : σ 51 1 = P 0 0 := by rw [← mv_0 σ p, hv]; rfl
    have e3 : rd σ 52 (p + 53) = P 0 3 := by rw [← mv_3 σ p, hv]; rfl
    have e2 : rd σ 52 (p + 52) = P 0 2 := by rw [← mv_2 σ p, hv]; rfl
    have h2 := wf.2.2.1
    refine ⟨ups σ 52 (p + 53) (P 0 3 + 1), ?_, ?_, ?_, FrM.ups (by omega) hp.1⟩
    · rw [f_X5_dayOn_2, e0, wr_of (x := (i : Int)) (by omega) (by omega), wr_of (x := P 0 0) (by omega) (by omega), if_neg (by omega), ld_of (by omega) (by omega) (by omega), bV_s, sv_of (by omega) (by omega) (by omega), bV_s, e3]
    · rw [mv_set (r0 := 0) (i0 := 3) hp.1 (by omega) (by omega) (by simp [lvM]) (by simp [lcM]) (by omega), hv]
      funext r j
      unfold upP dayH dayP rung
      have en : (i : Int) = P 0 0 := by omega
      by_cases c : r = 0 ∧ j = 3
      · obtain ⟨rfl, rfl⟩ := c
        simp [acM]
      · rw [if_neg c]
        by_cases c2 : r = 2
        · simp only [c2, if_true, en]
        · simp only [c2, if_false]
          rw [if_neg c, show (P 0 0).toNat = i by omega]
    · rw [ups_at (by decide), show (P 0 0).toNat = i by omega]; omega
  | succ k ih =>
    intro i n σ hi hn hv hu
    obtain ⟨n, rfl⟩ : ∃ m, n = m + 1 := ⟨n - 1, by omega⟩
    have e0 : σ 51 1 = P 0 0 := by rw [← mv_0 σ p, hv]; rfl
    have e4 : rd σ 52 (p + 54) = dayH P un i 0 4 := by rw [← mv_4 σ p, hv]
    have e2 : rd σ 52 (p + 52) = P 0 2 := by rw [← mv_2 σ p, hv]; rfl
    have h2 := wf.2.2.1
    have hi2 : (i : Int) < P 0 0 := by omega
    have wfi : WF (mv σ p) := by rw [hv]; exact dayH_wf wf un i (by omega)
    have hi3 : (i : Int) < mv σ p 0 0 := by rw [mv_0, e0]; exact hi2
    obtain ⟨a1, a2, a3⟩ := wf.2.2.2.2.2.1 i (by omega) hi2
    have u1 : mv σ p 1 i = P 1 i := by rw [hv]; rfl
    have u2 : mv σ p 2 i = P 2 i := by rw [hv]; show (if 0 ≤ (i : Int) ∧ (i : Int) < (i : Int) then _ else _) = _; rw [if_neg (by omega)]
    have u3 : mv σ p 3 i = P 3 i := by rw [hv]; rfl
    have ub : mv σ p 0 1 = P 0 1 := by rw [hv]; rfl
    have ue : bel (mv σ p) (σ 51 18) i (mv σ p 0 3) = bel P un i (P 0 3) := by rw [hv, hu]; rfl
    rw [f_X5_dayOn_2, e0, wr_of (x := (i : Int)) (by omega) (by omega), wr_of (x := P 0 0) (by omega) (by omega), if_pos hi2, m_agrees hp wfi (by omega) hi3, bI_s, m_leg hp wfi (by omega) hi3, bI_s, ue, u1, u2, u3, ub]
    have w4 : wr (-4) = -4 := by decide
    unfold f_X5_dayOn_30 f_X5_dayOn_95
    have hsum : sumN (rung1 P un) (i + 1) = sumN (rung1 P un) i + rung1 P un i := rfl
    have ei : ((i + 1 : Nat) : Int) = (i : Int) + 1 := by omega
    -- nothing moves
    have still : upd1 P un i = P 2 i → rung1 P un i = 0 → ∃ σ', f_X5_dayOn_2 n p ((i : Int) + 1) σ = some σ' ∧ mv σ' p = dayP P un ∧ σ' 51 19 = σ 51 19 + (sumN (rung1 P un) (P 0 0).toNat - sumN (rung1 P un) i) ∧ FrM p σ σ' := by
      intro q1 q2
      have := ih (i + 1) n σ (by omega) (by omega) ?_ hu
      · rw [ei, hsum, q2] at this
        simpa using this
      · rw [hv]
        funext r j
        unfold dayH
        rw [hsum, q2, Int.add_zero]
        by_cases c2 : r = 2
        · simp only [c2, if_true]
          by_cases cj : j = (i : Int)
          · subst cj
            rw [if_neg (by omega), if_pos (by omega), q1]
          · by_cases cl : 0 ≤ j ∧ j < (i : Int)
            · rw [if_pos cl, if_pos (by omega)]
            · rw [if_neg cl, if_neg (by omega)]
        · simp only [c2, if_false]
    by_cases ca : bel P un i (P 0 3) = -4 ∨ bel P un i (P 0 3) = reads (P 1 i) (P 2 i)
    · simp only [ca, decide_true, if_true]
      exact still (by unfold upd1 mvu; rw [if_pos ca]) (by unfold rung1 ring; rw [if_pos ca])
    · simp only [ca, decide_false, Bool.false_eq_true, if_false, w4]
      by_cases cl : legF (P 1 i) (P 2 i) (P 3 i) (P 0 1) (bel P un i (P 0 3)) 4 = -4
      · rw [cl, w4, if_pos rfl]
        exact still (by unfold upd1 mvu; rw [if_neg ca, if_pos cl]) (by unfold rung1 ring; rw [if_neg ca, if_pos cl])
      · have hl := (legF_bd (P 1 i) (P 2 i) (P 3 i) (P 0 1) (bel P un i (P 0 3)) 4 (by omega)).resolve_left cl
        have q1 : upd1 P un i = ixd (P 2 i) (isl 1 (legF (P 1 i) (P 2 i) (P 3 i) (P 0 1) (bel P un i (P 0 3)) 4)) := by unfold upd1 mvu; rw [if_neg ca, if_neg cl]
        have q2 : rung1 P un i = 1 := by unfold rung1 ring; rw [if_neg ca, if_neg cl]
        rw [wr_of (x := legF (P 1 i) (P 2 i) (P 3 i) (P 0 1) (bel P un i (P 0 3)) 4) (by omega) (by omega), if_neg (by omega), ld_of (by omega) (by omega) (by omega), bV_s, mv_u (by omega) hi3, u2, ← q1, sv_of (by omega) (by omega) (by omega), bV_s, ld_of (by omega) (by omega) (by omega), bV_s, bV_s]
        have hs := rung_bd hR.2 un i (by omega)
        have h4 := wf.2.2.2.2.1
        have d4 : dayH P un i 0 4 = if P 0 4 + sumN (rung1 P un) i < 9999 then P 0 4 + sumN (rung1 P un) i else 9999 := rfl
        have e4' : rd (ups σ 52 (p + 5 + (i : Int)) (upd1 P un i)) 52 (p + 54) = dayH P un i 0 4 := by rw [rd_ups (by omega) (by omega), if_neg (by omega), e4]
        have w9 : wr 9999 = 9999 := by decide
        rw [e4', w9, wr_of (x := dayH P un i 0 4) (by rw [d4]; split <;> omega) (by rw [d4]; split <;> omega)]
        have go : ∀ t, (if P 0 4 + sumN (rung1 P un) (i + 1) < 9999 then P 0 4 + sumN (rung1 P un) (i + 1) else 9999) = dayH P un i 0 4 + t → ∃ σ', f_X5_dayOn_83 (f_X5_dayOn_2 n) p i 52 (p + 54) (dayH P un i 0 4) t (ups σ 52 (p + 5 + (i : Int)) (upd1 P un i)) = some σ' ∧ mv σ' p = dayP P un ∧ σ' 51 19 = σ 51 19 + (sumN (rung1 P un) (P 0 0).toNat - sumN (rung1 P un) i) ∧ FrM p σ σ' := by
          intro t ht
          unfold f_X5_dayOn_83 f_X5_dayOn_95
          rw [sv_of (by omega) (by omega) (by omega), bV_s]
          unfold pf
          rw [bV_s]
          have m1 : mv (ups σ 52 (p + 5 + (i : Int)) (upd1 P un i)) p = upP (mv σ p) 2 i (upd1 P un i) := by
            rw [mv_set (r0 := 2) (i0 := i) hp.1 (by omega) (by omega) (by simp [lvM]; omega) (by simp [lcM]; omega) (by omega)]
            simp [acM]
          have f1 : ups σ 52 (p + 5 + (i : Int)) (upd1 P un i) 51 1 = P 0 0 := by rw [ups_at (by decide)]; exact e0
          have f2 : rd (ups σ 52 (p + 5 + (i : Int)) (upd1 P un i)) 52 (p + 52) = P 0 2 := by rw [rd_ups (by omega) (by omega), if_neg (by omega), e2]
          have m2 : mv (ups (ups σ 52 (p + 5 + (i : Int)) (upd1 P un i)) 52 (p + 54) (dayH P un i 0 4 + t)) p = upP (upP (mv σ p) 2 i (upd1 P un i)) 0 4 (dayH P un i 0 4 + t) := by
            rw [mv_set (r0 := 0) (i0 := 4) hp.1 (by omega) (by omega) (by simp [lvM]) (by simp [lcM]) (by omega), m1]
            simp [acM]
          have nx := ih (i + 1) n (up (ups (ups σ 52 (p + 5 + (i : Int)) (upd1 P un i)) 52 (p + 54) (dayH P un i 0 4 + t)) 51 19 ((ups (ups σ 52 (p + 5 + (i : Int)) (upd1 P un i)) 52 (p + 54) (dayH P un i 0 4 + t)) 51 19 + 1)) (by omega) (by omega) ?_ ?_
          · obtain ⟨σ', b1, b2, b3, b4⟩ := nx
            refine ⟨σ', ?_, b2, ?_, ((FrM.ups (by omega) hp.1).tr (FrM.ups (by omega) hp.1)).tr (FrM.up.tr b4)⟩
            · rw [← ei]; exact b1
            · rw [b3, hsum, q2]
              have : up (ups (ups σ 52 (p + 5 + (i : Int)) (upd1 P un i)) 52 (p + 54) (dayH P un i 0 4 + t)) 51 19 ((ups (ups σ 52 (p + 5 + (i : Int)) (upd1 P un i)) 52 (p + 54) (dayH P un i 0 4 + t)) 51 19 + 1) 51 19 = σ 51 19 + 1 := by
                rw [up_at, if_pos ⟨rfl, rfl⟩, ups_at (by decide), ups_at (by decide)]
              rw [this]
              omega
          · rw [mv_pf (k := 51) (j := 19) (by decide) (by decide), m2, hv]
            funext r j
            rw [← ht]
            unfold upP dayH
            by_cases c0 : r = 0 ∧ j = 4
            · obtain ⟨rfl, rfl⟩ := c0
              simp
            · rw [if_neg c0]
              by_cases c2 : r = 2
              · subst c2
                simp only [true_and, if_true]
                by_cases cj : j = (i : Int)
                · subst cj
                  rw [if_pos rfl, if_pos (by omega)]
                · rw [if_neg cj]
                  by_cases cl : 0 ≤ j ∧ j < (i : Int)
                  · rw [if_pos cl, if_pos (by omega)]
                  · rw [if_neg cl, if_neg (by omega)]
              · rw [if_neg (by omega), if_neg c2, if_neg c2, if_neg c0, if_neg c0]
          · rw [up_at, if_neg (by decide), ups_at (by decide), ups_at (by decide)]
            exact hu
        by_cases c9 : dayH P un i 0 4 < 9999
        · rw [if_pos c9]
          refine go 1 ?_
          rw [hsum, q2]
          rw [d4] at c9 ⊢
          split at c9 <;> split <;> omega
        · rw [if_neg c9]
          refine go 0 ?_
          rw [hsum, q2]
          rw [d4] at c9 ⊢
          split at c9 <;> split <;> omega
theorem m_day (hp : 0 ≤ p ∧ p ≤ 275) (wf : WF (mv σ p)) : ∃ σ', f_X5_dayOn p σ = some σ' ∧ mv σ' p = dayP (mv σ p) (σ 51 18) ∧ σ' 51 19 = σ 51 19 + rung (mv σ p) (σ 51 18) ∧ FrM p σ σ' := by
  have hR := wf.1
  obtain ⟨σ', h1, h2, h3, h4⟩ := m_day_loop hp wf (σ 51 18) (mv σ p 0 0).toNat 0 FU σ (by omega) (by unfold FU; omega) (by
    funext r i
    unfold dayH
    by_cases c2 : r = 2
    · subst c2; rw [if_pos rfl, if_neg (by omega)]
    · rw [if_neg c2]
      by_cases c0 : r = 0 ∧ i = 4
      · obtain ⟨rfl, rfl⟩ := c0
        have := wf.2.2.2.2.1
        rw [if_pos ⟨rfl, rfl⟩]
        simp only [sumN, Int.add_zero]
        split <;> omega
      · rw [if_neg c0]) rfl
  refine ⟨σ', h1, h2, ?_, h4⟩
  rw [h3]
  simp [sumN, rung]
end MODEL2
