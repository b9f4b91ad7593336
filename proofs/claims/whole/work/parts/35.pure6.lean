/-! ===== pure part 6: the class's day ===== -/
def bc (x : Int) : Int := ((f_J6_bitCount_0f7a4 x (fun _ _ => 0)).getD (0, fun _ _ => 0)).1
theorem bc_eq (x : Int) (σ : St) : f_J6_bitCount_0f7a4 x σ = some (bc x, σ) := rfl
theorem bc_legs {u : Int} (h0 : 0 ≤ u) (h1 : u < 16) : bc u = legs u := by
  have := all_lt 16 (fun u => decide (bc u = legs u)) (by decide +kernel) h0 h1
  exact of_decide_eq_true this
theorem imn_of {x y : Int} (hx : -2147483648 ≤ x ∧ x ≤ 2147483647) (hy : -2147483648 ≤ y ∧ y ≤ 2147483647) : imn x y = if y < x then y else x := by
  unfold imn; rw [wr_of hx.1 hx.2, wr_of hy.1 hy.2]
theorem imx_of {x y : Int} (hx : -2147483648 ≤ x ∧ x ≤ 2147483647) (hy : -2147483648 ≤ y ∧ y ≤ 2147483647) : imx x y = if x < y then y else x := by
  unfold imx; rw [wr_of hx.1 hx.2, wr_of hy.1 hy.2]
theorem c_reading {k u : Int} {σ : St} (hk : 0 ≤ k ∧ k < 4) (hu : 0 ≤ u ∧ u < 16) : f_X4_reading k u σ = some (reads k u, σ) := by
  have hl := legs_bd hu.1 hu.2
  unfold f_X4_reading
  rw [bc_eq, bI_s, bc_legs hu.1 hu.2, imn_of (by omega) (by omega), wr_of (x := k) (by omega) (by omega)]
  have e1 : (if legs u < 3 then legs u else 3) - 1 ≥ -1 := by split <;> omega
  have e2 : (if legs u < 3 then legs u else 3) - 1 ≤ 2 := by split <;> omega
  rw [imx_of (by omega) (by omega), irm_of (by split <;> omega) (by split <;> omega) (by omega) (by omega), bV_s]
  unfold reads
  have e3 : (if 0 < (if legs u < 3 then legs u else 3) - 1 then (if legs u < 3 then legs u else 3) - 1 else 0) = (if 0 < (if legs u < 3 then legs u else 3) then (if legs u < 3 then legs u else 3) - 1 else 0) := by
    split <;> split <;> omega
  rw [e3]
  split
  · rfl
  · split
    · rfl
    · split <;> rfl
section CLASS2
variable {q : Nat}
theorem c_readingOf {σ : St} (wf : WF (cv σ q)) {h : Int} (h0 : 0 ≤ h) (h1 : h < cv σ q 0 0) : f_X2_readingOf q h σ = some (reads (cv σ q 1 h) (cv σ q 2 h), σ) := by
  have hR := wf.1
  obtain ⟨a1, a2, a3⟩ := wf.2.2.2.2.2.1 h h0 h1
  unfold f_X2_readingOf
  rw [ld_of (by omega) (by omega) (by omega), bV_s, ld_of (by omega) (by omega) (by omega), bV_s, cv_k h0 h1, cv_u h0 h1, c_reading a1 a2, bI_s]
theorem c_holds {σ : St} {u wg : Int} (hb : 1 ≤ σ q 4 ∧ σ q 4 ≤ 99) (hu : 0 ≤ u ∧ u < 16) (hw : 0 ≤ wg ∧ wg ≤ 99) : f_X2_holds q u wg σ = some (decide (¬ (σ q 4 * (4 - legs u) < wg)), σ) := by
  have hl := legs_bd hu.1 hu.2
  have hm := mul_bd hb hl
  have e : (4 - legs u) * σ q 4 = σ q 4 * (4 - legs u) := Int.mul_comm _ _
  unfold f_X2_holds f_X4_legsDown
  rw [bc_eq, bI_s, bI_s, bc_legs hu.1 hu.2, e, wr_of (x := σ q 4 * (4 - legs u)) (by omega) (by omega), wr_of (x := wg) (by omega) (by omega)]
  by_cases c : σ q 4 * (4 - legs u) < wg
  · rw [if_pos c]; simp [c]
  · rw [if_neg c]; simp [c]
theorem iab_of {a b : Int} (ha : -10 ≤ a ∧ a ≤ 10) (hb : -10 ≤ b ∧ b ≤ 10) : iab (a - b) = dist a b := by
  unfold iab dist
  rw [wr_of (by omega) (by omega)]
  split <;> split <;> omega
theorem dist_0 {a b : Int} : dist a b = 0 ↔ a = b := by
  unfold dist
  split <;> omega
/-- a square's own numbers have changed alone: its UP, its sums -/
def FrU (q : Nat) (σ σ' : St) : Prop := ∀ k j, k ≠ q + 9 → k ≠ q + 2 → σ' k j = σ k j
theorem FrU.rf (q : Nat) (σ : St) : FrU q σ σ := fun _ _ _ _ => rfl
theorem FrU.tr {q : Nat} {a b c : St} (h1 : FrU q a b) (h2 : FrU q b c) : FrU q a c := fun k j h h' => (h2 k j h h').trans (h1 k j h h')
theorem FrS.U {q : Nat} {a b : St} (h : FrS q a b) : FrU q a b := fun k j h1 _ => h k j h1
theorem cv_setU {σ : St} {h v : Int} (h0 : 0 ≤ h) (h1 : h < σ q 0) : cv (ups σ (q + 2) h v) q = upP (cv σ q) 2 h v := by
  have s : ∀ j, ups σ (q + 2) h v q j = σ q j := fun j => ups_at (by omega)
  have rr : ∀ r, r ≠ 2 → ∀ y, rd (ups σ (q + 2) h v) (q + r) y = rd σ (q + r) y := fun r hr y => by unfold rd; rw [ups_at (by omega)]
  funext r i
  unfold upP
  match r with
  | 0 => simp [cv, s]
  | 1 => simp [cv, s, rr 1]
  | 2 =>
    simp only [cv, s, true_and]
    by_cases c : 0 ≤ i ∧ i < σ q 0
    · rw [if_pos c, rd_ups h0 c.1, if_pos c]
      simp
    · rw [if_neg c, if_neg c, if_neg (by omega)]
  | 3 => simp [cv, s, rr 3]
  | 4 => simp [cv, rr 4]
  | 5 => simp [cv, s, rr 5]
  | 6 => simp [cv, s, rr 6]
  | 7 => simp [cv, s, rr 7]
  | 8 => simp [cv, s, rr 8]
  | n + 9 => simp [cv]
theorem c_hoof_loop {σ : St} (wf : WF (cv σ q)) {h e : Int} (h0 : 0 ≤ h) (h1 : h < cv σ q 0 0) (he : -4 ≤ e ∧ e < 4) : ∀ (k i n : Nat), i + k = 4 → k < n → f_X2_moveHoof_36 q n h e (dist (reads (cv σ q 1 h) (cv σ q 2 h)) e) i σ = if legF (cv σ q 1 h) (cv σ q 2 h) (cv σ q 3 h) (cv σ q 0 1) e k = -4 then some (0, σ) else some (1, ups σ (q + 2) h (ixd (cv σ q 2 h) (isl 1 (legF (cv σ q 1 h) (cv σ q 2 h) (cv σ q 3 h) (cv σ q 0 1) e k)))) := by
  intro k
  have hR := wf.1
  obtain ⟨a1, a2, a3⟩ := wf.2.2.2.2.2.1 h h0 h1
  have hr := reads_bd (k := cv σ q 1 h) a2.1 a2.2
  induction k with
  | zero =>
    intro i n hi hn
    obtain ⟨n, rfl⟩ : ∃ m, n = m + 1 := ⟨n - 1, by omega⟩
    obtain rfl : i = 4 := by omega
    rw [f_X2_moveHoof_36, if_neg (by decide)]
    rfl
  | succ k ih =>
    intro i n hi hn
    obtain ⟨n, rfl⟩ : ∃ m, n = m + 1 := ⟨n - 1, by omega⟩
    have nx := ih (i + 1) n (by omega) (by omega)
    rw [show ((i + 1 : Nat) : Int) = (i : Int) + 1 by omega] at nx
    have w4 : wr 4 = 4 := by decide
    have hx := ixd_bd a2 (l := i) (by omega)
    have hr2 := reads_bd (k := cv σ q 1 h) hx.1 hx.2
    have hd1 := dist_bd (a := reads (cv σ q 1 h) (cv σ q 2 h)) (b := e) (by omega) (by omega)
    have hd2 := dist_bd (a := reads (cv σ q 1 h) (ixd (cv σ q 2 h) (isl 1 i))) (b := e) (by omega) (by omega)
    have ei : 3 - (k : Int) = i := by omega
    rw [f_X2_moveHoof_36, w4, wr_of (x := (i : Int)) (by omega) (by omega), if_pos (by omega), ld_of (by omega) (by omega) (by omega), bV_s, cv_u h0 h1, ld_of (by omega) (by omega) (by omega), bV_s, cv_k h0 h1, c_reading a1 hx, bI_s, iab_of (by omega) (by omega), wr_of (x := dist (reads (cv σ q 1 h) (ixd (cv σ q 2 h) (isl 1 i))) e) (by omega) (by omega), wr_of (x := dist (reads (cv σ q 1 h) (cv σ q 2 h)) e) (by omega) (by omega), ld_of (by omega) (by omega) (by omega), bV_s, cv_w h0 h1, c_holds wf.2.1 hx (by omega), bI_s, ← cv_1 σ q]
    unfold f_X2_moveHoof_100
    simp only [legF, ei]
    by_cases c1 : dist (reads (cv σ q 1 h) (ixd (cv σ q 2 h) (isl 1 i))) e < dist (reads (cv σ q 1 h) (cv σ q 2 h)) e
    · by_cases c2 : cv σ q 0 1 * (4 - legs (ixd (cv σ q 2 h) (isl 1 i))) < cv σ q 3 h
      · simp only [c1, c2, if_true, not_true_eq_false, decide_false, Bool.false_eq_true, if_false, and_false]
        exact nx
      · simp only [c1, c2, if_true, not_false_eq_true, decide_true, and_self]
        rw [if_neg (by omega), sv_of (by omega) (by omega) (by omega), bV_s]
    · simp only [c1, if_false, false_and]
      exact nx
theorem c_hoof {σ : St} (wf : WF (cv σ q)) {h : Nat} (h1 : (h : Int) < cv σ q 0 0) : ∃ σ', f_X2_moveHoof q h σ = some (rung1 (cv σ q) (σ q 11) h, σ') ∧ cv σ' q = upP (cv σ q) 2 h (upd1 (cv σ q) (σ q 11) h) ∧ FrU q σ σ' := by
  have hR := wf.1
  have h0 : (0 : Int) ≤ h := by omega
  have hd := wf.2.2.2.1
  obtain ⟨a1, a2, a3⟩ := wf.2.2.2.2.2.1 h h0 h1
  have hb := bel_bd wf (σ q 11) h (cv σ q 0 3)
  have hr := reads_bd (k := cv σ q 1 h) a2.1 a2.2
  obtain ⟨σ1, b1, b2⟩ := c_bel wf (h := h) (d := cv σ q 0 3) ⟨h0, by omega⟩ hd
  have ec := b2.cv
  have wf1 : WF (cv σ1 q) := by rw [ec]; exact wf
  have w4 : wr (-4) = -4 := by decide
  have same : upP (cv σ q) 2 h (cv σ q 2 h) = cv σ q := by
    funext r i
    unfold upP
    split
    · rename_i c; obtain ⟨rfl, rfl⟩ := c; rfl
    · rfl
  unfold f_X2_moveHoof
  rw [← cv_3 σ q, b1, bI_s, c_readingOf wf1 h0 (by rw [ec]; exact h1), bI_s, ec, w4, wr_of (x := bel (cv σ q) (σ q 11) h (cv σ q 0 3)) (by omega) (by omega), iab_of (by omega) (by omega)]
  have hd1 := dist_bd (a := reads (cv σ q 1 h) (cv σ q 2 h)) (b := bel (cv σ q) (σ q 11) h (cv σ q 0 3)) (by omega) (by omega)
  rw [wr_of (x := dist (reads (cv σ q 1 h) (cv σ q 2 h)) (bel (cv σ q) (σ q 11) h (cv σ q 0 3))) (by omega) (by omega)]
  by_cases c1 : bel (cv σ q) (σ q 11) h (cv σ q 0 3) = -4
  · rw [if_pos c1]
    refine ⟨σ1, ?_, ?_, b2.U⟩
    · unfold rung1 ring; rw [if_pos (Or.inl c1)]
    · unfold upd1 mvu; rw [if_pos (Or.inl c1), same, ec]
  · rw [if_neg c1]
    by_cases c2 : dist (reads (cv σ q 1 h) (cv σ q 2 h)) (bel (cv σ q) (σ q 11) h (cv σ q 0 3)) = 0
    · have c3 := (dist_0.mp c2).symm
      rw [if_pos c2]
      refine ⟨σ1, ?_, ?_, b2.U⟩
      · unfold rung1 ring; rw [if_pos (Or.inr c3)]
      · unfold upd1 mvu; rw [if_pos (Or.inr c3), same, ec]
    · have c3 : ¬ (bel (cv σ q) (σ q 11) h (cv σ q 0 3) = -4 ∨ bel (cv σ q) (σ q 11) h (cv σ q 0 3) = reads (cv σ q 1 h) (cv σ q 2 h)) := by
        rintro (z | z)
        · exact c1 z
        · exact c2 (dist_0.mpr z.symm)
      rw [if_neg c2]
      have lp := c_hoof_loop wf1 h0 (by rw [ec]; exact h1) (e := bel (cv σ q) (σ q 11) h (cv σ q 0 3)) (by omega) 4 0 FU (by omega) (by unfold FU; omega)
      rw [ec] at lp
      rw [show ((0 : Nat) : Int) = 0 by rfl] at lp
      rw [lp]
      by_cases cl : legF (cv σ q 1 h) (cv σ q 2 h) (cv σ q 3 h) (cv σ q 0 1) (bel (cv σ q) (σ q 11) h (cv σ q 0 3)) 4 = -4
      · rw [if_pos cl]
        refine ⟨σ1, ?_, ?_, b2.U⟩
        · unfold rung1 ring; rw [if_neg c3, if_pos cl]
        · unfold upd1 mvu; rw [if_neg c3, if_pos cl, same, ec]
      · rw [if_neg cl]
        refine ⟨_, by unfold rung1 ring; rw [if_neg c3, if_neg cl], ?_, ?_⟩
        · unfold upd1 mvu
          rw [if_neg c3, if_neg cl, cv_setU h0 (by rw [← cv_0 σ1 q, ec]; exact h1), ec]
        · exact b2.U.tr (fun k j _ hk => ups_at hk)
/-- what a day of a square leaves alone -/
def FrD (q : Nat) (σ σ' : St) : Prop := (∀ k j, k ≠ q → k ≠ q + 9 → k ≠ q + 2 → σ' k j = σ k j) ∧ ∀ j, j ≠ 12 → j ≠ 13 → σ' q j = σ q j
theorem FrU.D {q : Nat} {a b : St} (h : FrU q a b) : FrD q a b := ⟨fun k j _ h1 h2 => h k j h1 h2, fun j _ _ => h q j (by omega) (by omega)⟩
theorem FrD.tr {q : Nat} {a b c : St} (h1 : FrD q a b) (h2 : FrD q b c) : FrD q a c := ⟨fun k j x y z => (h2.1 k j x y z).trans (h1.1 k j x y z), fun j x y => (h2.2 j x y).trans (h1.2 j x y)⟩
theorem FrD.rf (q : Nat) (σ : St) : FrD q σ σ := ⟨fun _ _ _ _ _ => rfl, fun _ _ _ => rfl⟩
theorem FrD.up {q j : Nat} {v : Int} {σ : St} (h : j = 12 ∨ j = 13) : FrD q σ (up σ q j v) := ⟨fun k i h1 _ _ => by rw [up_at, if_neg (by omega)], fun i h1 h2 => by rw [up_at, if_neg (by omega)]⟩
theorem cv_upS {σ : St} {j : Nat} {i v : Int} (h : (j = 4 ∧ i = 1) ∨ (j = 12 ∧ i = 3) ∨ (j = 13 ∧ i = 4)) : cv (up σ q j v) q = upP (cv σ q) 0 i v := by
  have rr : ∀ r, 1 ≤ r → ∀ y, rd (up σ q j v) (q + r) y = rd σ (q + r) y := fun r hr y => rd_up (by omega)
  have s0 : up σ q j v q 0 = σ q 0 := by rw [up_at, if_neg (by omega)]
  have s6 : up σ q j v q 6 = σ q 6 := by rw [up_at, if_neg (by omega)]
  funext r z
  unfold upP
  match r with
  | 0 =>
    rcases h with ⟨rfl, rfl⟩ | ⟨rfl, rfl⟩ | ⟨rfl, rfl⟩
    · simp only [cv, up_at, true_and]
      by_cases c : z = 1
      · subst c; simp
      · simp [c]
    · simp only [cv, up_at, true_and]
      by_cases c : z = 3
      · subst c; simp
      · simp [c]
    · simp only [cv, up_at, true_and]
      by_cases c : z = 4
      · subst c; simp
      · simp [c]
  | 1 => simp [cv, s0, rr 1]
  | 2 => simp [cv, s0, rr 2]
  | 3 => simp [cv, s0, rr 3]
  | 4 => simp [cv, rr 4]
  | 5 => simp [cv, s6, rr 5]
  | 6 => simp [cv, s6, rr 6]
  | 7 => simp [cv, s6, rr 7]
  | 8 => simp [cv, s6, rr 8]
  | n + 9 => simp [cv]
/-- ups of the first n riders moved, no more -/
def dayU (P : Pg) (un : Int) (n : Nat) : Pg := fun r i => if r = 2 then (if 0 ≤ i ∧ i < (n : Int) then upd1 P un i else P 2 i) else P r i
theorem dayU_wf {P : Pg} (wf : WF P) (un : Int) (n : Nat) : WF (dayU P un n) := by
  obtain ⟨w0, w1, w2, w3, w4, w5, w6, w7⟩ := wf
  refine ⟨w0, w1, w2, w3, w4, ?_, w6, w7⟩
  intro h h0 h1
  obtain ⟨a1, a2, a3⟩ := w5 h h0 h1
  refine ⟨a1, ?_, a3⟩
  show 0 ≤ (if 0 ≤ h ∧ h < (n : Int) then upd1 P un h else P 2 h) ∧ (if 0 ≤ h ∧ h < (n : Int) then upd1 P un h else P 2 h) < 16
  split
  · exact mvu_bd a2
  · exact a2
theorem c_day_loop {P : Pg} (wf : WF P) (un : Int) : ∀ (k i n : Nat) (σ : St), i + k = (P 0 0).toNat → k < n → cv σ q = dayU P un i → σ q 11 = un → ∃ σ', f_X2_passDay_4 q n (sumN (rung1 P un) i) i σ = some (rung P un, σ') ∧ cv σ' q = dayP P un ∧ FrD q σ σ' := by
  intro k
  have hR := wf.1
  induction k with
  | zero =>
    intro i n σ hi hn hv hu
    obtain ⟨n, rfl⟩ : ∃ m, n = m + 1 := ⟨n - 1, by omega⟩
    have e0 : σ q 0 = P 0 0 := by rw [← cv_0 σ q, hv]; rfl
    have e13 : σ q 13 = P 0 4 := by rw [← cv_4 σ q, hv]; rfl
    have e12 : σ q 12 = P 0 3 := by rw [← cv_3 σ q, hv]; rfl
    have h4 := wf.2.2.2.2.1
    have hs := rung_bd hR.2 un i (by omega)
    have er : sumN (rung1 P un) i = rung P un := by unfold rung; rw [show (P 0 0).toNat = i by omega]
    rw [f_X2_passDay_4, e0, wr_of (x := (i : Int)) (by omega) (by omega), wr_of (x := P 0 0) (by omega) (by omega), if_neg (by omega), e13, imn_of (by omega) (by omega)]
    unfold pf
    rw [bV_s, bV_s]
    have s12 : up σ q 13 (if P 0 4 + sumN (rung1 P un) i < 9999 then P 0 4 + sumN (rung1 P un) i else 9999) q 12 = P 0 3 := by rw [up_at, if_neg (by omega), e12]
    rw [s12, er]
    refine ⟨_, rfl, ?_, (FrD.up (Or.inr rfl)).tr (FrD.up (Or.inl rfl))⟩
    rw [cv_upS (i := 3) (by simp), cv_upS (i := 4) (by simp), hv]
    funext r j
    have en : (i : Int) = P 0 0 := by omega
    unfold upP dayU dayP
    by_cases c3 : r = 0 ∧ j = 3
    · obtain ⟨rfl, rfl⟩ := c3
      simp
    · rw [if_neg c3]
      by_cases c4 : r = 0 ∧ j = 4
      · obtain ⟨rfl, rfl⟩ := c4
        simp
      · rw [if_neg c4]
        by_cases c2 : r = 2
        · simp only [c2, if_true, en]
        · simp only [c2, if_false]
          rw [if_neg c3, if_neg c4]
  | succ k ih =>
    intro i n σ hi hn hv hu
    obtain ⟨n, rfl⟩ : ∃ m, n = m + 1 := ⟨n - 1, by omega⟩
    have e0 : σ q 0 = P 0 0 := by rw [← cv_0 σ q, hv]; rfl
    have hi2 : (i : Int) < P 0 0 := by omega
    have wfi : WF (cv σ q) := by rw [hv]; exact dayU_wf wf un i
    obtain ⟨σ1, b1, b2, b3⟩ := c_hoof wfi (h := i) (by rw [cv_0, e0]; exact hi2)
    have r1 : rung1 (cv σ q) (σ q 11) i = rung1 P un i := by
      rw [hv, hu]
      unfold rung1
      have : dayU P un i 2 i = P 2 i := by show (if 0 ≤ (i : Int) ∧ (i : Int) < (i : Int) then _ else _) = _; rw [if_neg (by omega)]
      rw [this]
      rfl
    have r2 : upd1 (cv σ q) (σ q 11) i = upd1 P un i := by
      rw [hv, hu]
      unfold upd1
      have : dayU P un i 2 i = P 2 i := by show (if 0 ≤ (i : Int) ∧ (i : Int) < (i : Int) then _ else _) = _; rw [if_neg (by omega)]
      rw [this]
      rfl
    rw [f_X2_passDay_4, e0, wr_of (x := (i : Int)) (by omega) (by omega), wr_of (x := P 0 0) (by omega) (by omega), if_pos hi2, b1, bI_s, r1]
    have nx := ih (i + 1) n σ1 (by omega) (by omega) ?_ (by rw [b3 q 11 (by omega) (by omega)]; exact hu)
    · obtain ⟨σ', d1, d2, d3⟩ := nx
      rw [show (i : Int) + 1 = ((i + 1 : Nat) : Int) by omega]
      exact ⟨σ', d1, d2, b3.D.tr d3⟩
    · rw [b2, r2, hv]
      funext r j
      unfold upP dayU
      by_cases c2 : r = 2
      · subst c2
        simp only [true_and, if_true]
        by_cases cj : j = (i : Int)
        · subst cj
          rw [if_pos rfl, if_pos (by omega)]
        · rw [if_neg cj]
          by_cases cl : 0 ≤ j ∧ j < (i : Int)
          · rw [if_pos cl, if_pos (by omega)]
          · rw [if_neg cl, if_neg (by omega)]
      · rw [if_neg (by omega), if_neg c2, if_neg c2]
theorem c_day {σ : St} (wf : WF (cv σ q)) : ∃ σ', f_X2_passDay q σ = some (rung (cv σ q) (σ q 11), σ') ∧ cv σ' q = dayP (cv σ q) (σ q 11) ∧ FrD q σ σ' := by
  have hR := wf.1
  exact c_day_loop wf (σ q 11) (cv σ q 0 0).toNat 0 FU σ (by omega) (by unfold FU; omega) (by
    funext r i
    unfold dayU
    by_cases c2 : r = 2
    · subst c2; rw [if_pos rfl, if_neg (by omega)]
    · rw [if_neg c2]) rfl
end CLASS2
