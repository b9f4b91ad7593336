/-! ===== pure part 9: what both answer: bounds, bits, questions without days ===== -/
abbrev IR (x : Int) : Prop := -2147483648 ≤ x ∧ x ≤ 2147483647
theorem wrI {x : Int} (h : IR x) : wr x = x := wr_of h.1 h.2
/-- what questions of the class may change: the trial, the sums of now -/
def Qc (σ σ' : St) : Prop := ∀ k j, (k ≤ 9 ∨ 21 ≤ k) → σ' k j = σ k j
theorem Qc.rf (σ : St) : Qc σ σ := fun _ _ _ => rfl
theorem Qc.tr {a b c : St} (h1 : Qc a b) (h2 : Qc b c) : Qc a c := fun k j h => (h2 k j h).trans (h1 k j h)
theorem FrS.Q1 {a b : St} (h : FrS 1 a b) : Qc a b := fun k j hk => h k j (by omega)
theorem FrD.Q {a b : St} (h : FrD 11 a b) : Qc a b := fun k j hk => h.1 k j (by omega) (by omega) (by omega)
theorem FrS.Q11 {a b : St} (h : FrS 11 a b) : Qc a b := fun k j hk => h k j (by omega)
theorem Qc.cv {σ σ' : St} (h : Qc σ σ') : cv σ' 1 = cv σ 1 := cv_ext (fun r j hr _ => h (1 + r) j (by omega))
theorem Qc.un {σ σ' : St} (h : Qc σ σ') : σ' 1 11 = σ 1 11 := h 1 11 (by omega)
/-- squares that agree on the numbers that are in use -/
theorem cv_ext2 {σ σ' : St} {q q' : Nat} (hR : σ q 0 ≤ 5) (hM : σ q 6 ≤ 8) (h0 : ∀ j, j = 0 ∨ j = 4 ∨ j = 6 ∨ j = 12 ∨ j = 13 → σ' q' j = σ q j) (h3 : ∀ r j, 1 ≤ r → r ≤ 3 → j < 5 → σ' (q' + r) j = σ (q + r) j) (h4 : ∀ j, j < 4 → σ' (q' + 4) j = σ (q + 4) j) (h8 : ∀ r j, 5 ≤ r → r ≤ 8 → j < 8 → σ' (q' + r) j = σ (q + r) j) : cv σ' q' = cv σ q := by
  have s0 := h0 0 (by omega)
  have s4 := h0 4 (by omega)
  have s6 := h0 6 (by omega)
  have s12 := h0 12 (by omega)
  have s13 := h0 13 (by omega)
  have a3 : ∀ r i, 1 ≤ r → r ≤ 3 → (if 0 ≤ i ∧ i < σ' q' 0 then rd σ' (q' + r) i else 0) = (if 0 ≤ i ∧ i < σ q 0 then rd σ (q + r) i else 0) := by
    intro r i h1 h2
    rw [s0]
    by_cases c : 0 ≤ i ∧ i < σ q 0
    · rw [if_pos c, if_pos c]; exact h3 r _ h1 h2 (by omega)
    · rw [if_neg c, if_neg c]
  have a8 : ∀ r i, 5 ≤ r → r ≤ 8 → (if 0 ≤ i ∧ i < σ' q' 6 then rd σ' (q' + r) i else 0) = (if 0 ≤ i ∧ i < σ q 6 then rd σ (q + r) i else 0) := by
    intro r i h1 h2
    rw [s6]
    by_cases c : 0 ≤ i ∧ i < σ q 6
    · rw [if_pos c, if_pos c]; exact h8 r _ h1 h2 (by omega)
    · rw [if_neg c, if_neg c]
  funext r i
  match r with
  | 0 => simp only [cv, s0, s4, s6, s12, s13]
  | 1 => exact a3 1 i (by omega) (by omega)
  | 2 => exact a3 2 i (by omega) (by omega)
  | 3 => exact a3 3 i (by omega) (by omega)
  | 4 =>
    show (if 0 ≤ i ∧ i < 4 then rd σ' (q' + 4) i else 0) = (if 0 ≤ i ∧ i < 4 then rd σ (q + 4) i else 0)
    by_cases c : 0 ≤ i ∧ i < 4
    · rw [if_pos c, if_pos c]; exact h4 _ (by omega)
    · rw [if_neg c, if_neg c]
  | 5 => exact a8 5 i (by omega) (by omega)
  | 6 => exact a8 6 i (by omega) (by omega)
  | 7 => exact a8 7 i (by omega) (by omega)
  | 8 => exact a8 8 i (by omega) (by omega)
  | n + 9 => rfl
set_option maxRecDepth 4000 in
theorem c_copy {q r : Nat} {σ : St} (hd : q + 10 ≤ r ∨ r + 10 ≤ q) (hR : σ r 0 ≤ 5) (hM : σ r 6 ≤ 8) : ∃ σ', f_X2_copyFrom q r σ = some σ' ∧ (∀ k j, (k < q ∨ q + 9 ≤ k) → σ' k j = σ k j) ∧ cv σ' q = cv σ r ∧ σ' q 11 = σ r 11 ∧ (∀ k j, 1 ≤ k → k ≤ 3 → j < 5 → σ' (q + k) j = σ (r + k) j) ∧ (∀ j, j < 4 → σ' (q + 4) j = σ (r + 4) j) ∧ (∀ k j, 5 ≤ k → k ≤ 8 → j < 8 → σ' (q + k) j = σ (r + k) j) := by
  unfold f_X2_copyFrom pf cpf
  simp only [bV_s]
  have e3 : ∀ (k j : Nat), 1 ≤ k → k ≤ 3 → k = 1 ∨ k = 2 ∨ k = 3 := fun k j h1 h2 => by omega
  have e8 : ∀ (k j : Nat), 5 ≤ k → k ≤ 8 → k = 5 ∨ k = 6 ∨ k = 7 ∨ k = 8 := fun k j h1 h2 => by omega
  refine ⟨_, rfl, ?_, ?_, ?_, ?_, ?_, ?_⟩
  · intro k j hk
    simp only [up]
    have n0 : ¬ k = q := by omega
    have n1 : ¬ k = q + 1 := by omega
    have n2 : ¬ k = q + 2 := by omega
    have n3 : ¬ k = q + 3 := by omega
    have n4 : ¬ k = q + 4 := by omega
    have n5 : ¬ k = q + 5 := by omega
    have n6 : ¬ k = q + 6 := by omega
    have n7 : ¬ k = q + 7 := by omega
    have n8 : ¬ k = q + 8 := by omega
    simp [n0, n1, n2, n3, n4, n5, n6, n7, n8]
  · have x0 : ∀ i, i < 10 → ¬ r + i = q := fun i hi => by omega
    have xr : ¬ r = q := by omega
    have xs : ∀ i, 1 ≤ i → i < 10 → ¬ r = q + i := fun i h1 h2 => by omega
    have y : ∀ i j, i < 10 → j < 10 → ¬ r + i = q + j := fun i j h1 h2 => by omega
    refine cv_ext2 hR hM ?_ ?_ ?_ ?_
    · rintro j (rfl | rfl | rfl | rfl | rfl) <;> simp [up, xr, xs]
    · intro k j h1 h2 hj
      rcases e3 k j h1 h2 with rfl | rfl | rfl <;> simp [up, hj, y, x0]
    · intro j hj
      simp [up, hj, y, x0]
    · intro k j h1 h2 hj
      rcases e8 k j h1 h2 with rfl | rfl | rfl | rfl <;> simp [up, hj, y, x0]
  · have xr : ¬ r = q := by omega
    have xs : ∀ i, 1 ≤ i → i < 10 → ¬ r = q + i := fun i h1 h2 => by omega
    simp [up, xr, xs]
  · have x0 : ∀ i, i < 10 → ¬ r + i = q := fun i hi => by omega
    have y : ∀ i j, i < 10 → j < 10 → ¬ r + i = q + j := fun i j h1 h2 => by omega
    intro k j h1 h2 hj
    rcases e3 k j h1 h2 with rfl | rfl | rfl <;> simp [up, hj, y, x0]
  · have x0 : ∀ i, i < 10 → ¬ r + i = q := fun i hi => by omega
    have y : ∀ i j, i < 10 → j < 10 → ¬ r + i = q + j := fun i j h1 h2 => by omega
    intro j hj
    simp [up, hj, y, x0]
  · have x0 : ∀ i, i < 10 → ¬ r + i = q := fun i hi => by omega
    have y : ∀ i j, i < 10 → j < 10 → ¬ r + i = q + j := fun i j h1 h2 => by omega
    intro k j h1 h2 hj
    rcases e8 k j h1 h2 with rfl | rfl | rfl | rfl <;> simp [up, hj, y, x0]
/-! bits -/
def bitN (c : Nat → Bool) : Nat → Int
  | 0 => 0
  | n + 1 => iod (bitN c n) (if c n then isl 1 n else 0)
def agB (P : Pg) (un : Int) : Int := bitN (fun h => decide (bel P un h (P 0 3) = -4 ∨ bel P un h (P 0 3) = reads (P 1 h) (P 2 h))) (P 0 0).toNat
def stB (P : Pg) : Int := bitN (fun h => decide (¬ (P 0 1 * (4 - legs (P 2 h)) < P 3 h))) (P 0 0).toNat
section ASK
variable {q : Nat}
theorem c_content {σ : St} (wf : WF (cv σ q)) {h : Int} (h0 : 0 ≤ h) (h1 : h < cv σ q 0 0) : ∃ σ', f_X2_isContent q h σ = some (decide (bel (cv σ q) (σ q 11) h (cv σ q 0 3) = -4 ∨ bel (cv σ q) (σ q 11) h (cv σ q 0 3) = reads (cv σ q 1 h) (cv σ q 2 h)), σ') ∧ FrS q σ σ' := by
  have hR := wf.1
  have hd := wf.2.2.2.1
  obtain ⟨a1, a2, a3⟩ := wf.2.2.2.2.2.1 h h0 h1
  have hb := bel_bd wf (σ q 11) h (cv σ q 0 3)
  have hr := reads_bd (k := cv σ q 1 h) a2.1 a2.2
  obtain ⟨σ1, b1, b2⟩ := c_bel wf (h := h) (d := cv σ q 0 3) ⟨h0, by omega⟩ hd
  have ec := b2.cv
  have w4 : wr (-4) = -4 := by decide
  refine ⟨σ1, ?_, b2⟩
  unfold f_X2_isContent f_X2_isContent_25
  rw [← cv_3 σ q, b1, bI_s, c_readingOf (σ := σ1) (by rw [ec]; exact wf) h0 (by rw [ec]; exact h1), bI_s, ec, w4, wr_of (x := bel (cv σ q) (σ q 11) h (cv σ q 0 3)) (by omega) (by omega), wr_of (x := reads (cv σ q 1 h) (cv σ q 2 h)) (by omega) (by omega)]
  by_cases c : bel (cv σ q) (σ q 11) h (cv σ q 0 3) = -4
  · rw [if_pos c]; simp [c]
  · rw [if_neg c]
    by_cases c2 : bel (cv σ q) (σ q 11) h (cv σ q 0 3) = reads (cv σ q 1 h) (cv σ q 2 h)
    · rw [if_pos c2]; simp [c2]
    · rw [if_neg c2]; simp [c, c2]
theorem c_agree_loop {P : Pg} (wf : WF P) (un : Int) : ∀ (k i n : Nat) (σ : St), i + k = (P 0 0).toNat → k < n → cv σ q = P → σ q 11 = un → ∃ σ', f_X2_agreeing_4 q n (bitN (fun h => decide (bel P un h (P 0 3) = -4 ∨ bel P un h (P 0 3) = reads (P 1 h) (P 2 h))) i) i σ = some (agB P un, σ') ∧ FrS q σ σ' := by
  intro k
  have hR := wf.1
  induction k with
  | zero =>
    intro i n σ hi hn hv hu
    obtain ⟨n, rfl⟩ : ∃ m, n = m + 1 := ⟨n - 1, by omega⟩
    have e0 : σ q 0 = P 0 0 := by rw [← hv]; rfl
    refine ⟨σ, ?_, FrS.rf q σ⟩
    rw [f_X2_agreeing_4, e0, wr_of (x := (i : Int)) (by omega) (by omega), wr_of (x := P 0 0) (by omega) (by omega), if_neg (by omega)]
    unfold agB
    rw [show (P 0 0).toNat = i by omega]
  | succ k ih =>
    intro i n σ hi hn hv hu
    obtain ⟨n, rfl⟩ : ∃ m, n = m + 1 := ⟨n - 1, by omega⟩
    have e0 : σ q 0 = P 0 0 := by rw [← hv]; rfl
    obtain ⟨σ1, b1, b2⟩ := c_content (σ := σ) (q := q) (by rw [hv]; exact wf) (h := i) (by omega) (by rw [hv]; omega)
    rw [hv, hu] at b1
    rw [f_X2_agreeing_4, e0, wr_of (x := (i : Int)) (by omega) (by omega), wr_of (x := P 0 0) (by omega) (by omega), if_pos (by omega), b1, bI_s]
    obtain ⟨σ', d1, d2⟩ := ih (i + 1) n σ1 (by omega) (by omega) (by rw [b2.cv]; exact hv) (by rw [b2 q 11 (by omega)]; exact hu)
    refine ⟨σ', ?_, b2.tr d2⟩
    unfold f_X2_agreeing_28
    rw [show (i : Int) + 1 = ((i + 1 : Nat) : Int) by omega]
    simp only [bitN] at d1
    by_cases c : (bel P un i (P 0 3) = -4 ∨ bel P un i (P 0 3) = reads (P 1 i) (P 2 i))
    · simp only [c, decide_true, if_true] at d1 ⊢
      exact d1
    · simp only [c, decide_false, Bool.false_eq_true, if_false] at d1 ⊢
      exact d1
theorem c_agree {σ : St} (wf : WF (cv σ q)) : ∃ σ', f_X2_agreeing q σ = some (agB (cv σ q) (σ q 11), σ') ∧ FrS q σ σ' := by
  have hR := wf.1
  exact c_agree_loop wf (σ q 11) (cv σ q 0 0).toNat 0 FU σ (by omega) (by unfold FU; omega) rfl rfl
theorem c_stand_loop {P : Pg} (wf : WF P) {σ : St} (hv : cv σ q = P) : ∀ (k i n : Nat), i + k = (P 0 0).toNat → k < n → f_X2_standing_4 q n (bitN (fun h => decide (¬ (P 0 1 * (4 - legs (P 2 h)) < P 3 h))) i) i σ = some (stB P, σ) := by
  intro k
  have hR := wf.1
  have e0 : σ q 0 = P 0 0 := by rw [← hv]; rfl
  have e4 : σ q 4 = P 0 1 := by rw [← hv]; rfl
  induction k with
  | zero =>
    intro i n hi hn
    obtain ⟨n, rfl⟩ : ∃ m, n = m + 1 := ⟨n - 1, by omega⟩
    rw [f_X2_standing_4, e0, wr_of (x := (i : Int)) (by omega) (by omega), wr_of (x := P 0 0) (by omega) (by omega), if_neg (by omega)]
    unfold stB
    rw [show (P 0 0).toNat = i by omega]
  | succ k ih =>
    intro i n hi hn
    obtain ⟨n, rfl⟩ : ∃ m, n = m + 1 := ⟨n - 1, by omega⟩
    have hi2 : (i : Int) < P 0 0 := by omega
    obtain ⟨a1, a2, a3⟩ := wf.2.2.2.2.2.1 i (by omega) hi2
    have hi3 : (i : Int) < cv σ q 0 0 := by rw [hv]; exact hi2
    rw [f_X2_standing_4, e0, wr_of (x := (i : Int)) (by omega) (by omega), wr_of (x := P 0 0) (by omega) (by omega), if_pos (by omega), ld_of (by omega) (by omega) (by omega), bV_s, ld_of (by omega) (by omega) (by omega), bV_s, cv_u (by omega) hi3, cv_w (by omega) hi3, hv, c_holds (by rw [e4]; exact wf.2.1) a2 (by omega), bI_s, e4]
    have nx := ih (i + 1) n (by omega) (by omega)
    unfold f_X2_standing_39
    rw [show (i : Int) + 1 = ((i + 1 : Nat) : Int) by omega]
    simp only [bitN] at nx
    by_cases c : P 0 1 * (4 - legs (P 2 i)) < P 3 i
    · simp only [c, not_true_eq_false, decide_false, Bool.false_eq_true, if_false] at nx ⊢
      exact nx
    · simp only [c, not_false_eq_true, decide_true, if_true] at nx ⊢
      exact nx
theorem c_stand {σ : St} (wf : WF (cv σ q)) : f_X2_standing q σ = some (stB (cv σ q), σ) := by
  have hR := wf.1
  exact c_stand_loop wf rfl (cv σ q 0 0).toNat 0 FU (by omega) (by unfold FU; omega)
theorem m_agree_loop {σ : St} {p : Int} (hp : 0 ≤ p ∧ p ≤ 275) (wf : WF (mv σ p)) : ∀ (k i n : Nat), i + k = (mv σ p 0 0).toNat → k < n → f_X5_agreeOn_4 n p (bitN (fun h => decide (bel (mv σ p) (σ 51 18) h (mv σ p 0 3) = -4 ∨ bel (mv σ p) (σ 51 18) h (mv σ p 0 3) = reads (mv σ p 1 h) (mv σ p 2 h))) i) i σ = some (agB (mv σ p) (σ 51 18), σ) := by
  intro k
  have hR := wf.1
  have e0 : σ 51 1 = mv σ p 0 0 := rfl
  induction k with
  | zero =>
    intro i n hi hn
    obtain ⟨n, rfl⟩ : ∃ m, n = m + 1 := ⟨n - 1, by omega⟩
    rw [f_X5_agreeOn_4, e0, wr_of (x := (i : Int)) (by omega) (by omega), wr_of (x := mv σ p 0 0) (by omega) (by omega), if_neg (by omega)]
    unfold agB
    rw [show (mv σ p 0 0).toNat = i by omega]
  | succ k ih =>
    intro i n hi hn
    obtain ⟨n, rfl⟩ : ∃ m, n = m + 1 := ⟨n - 1, by omega⟩
    have nx := ih (i + 1) n (by omega) (by omega)
    rw [f_X5_agreeOn_4, e0, wr_of (x := (i : Int)) (by omega) (by omega), wr_of (x := mv σ p 0 0) (by omega) (by omega), if_pos (by omega), m_agrees hp wf (by omega) (by omega), bI_s]
    unfold f_X5_agreeOn_29
    rw [show (i : Int) + 1 = ((i + 1 : Nat) : Int) by omega]
    simp only [bitN] at nx
    by_cases c : (bel (mv σ p) (σ 51 18) i (mv σ p 0 3) = -4 ∨ bel (mv σ p) (σ 51 18) i (mv σ p 0 3) = reads (mv σ p 1 i) (mv σ p 2 i))
    · simp only [c, decide_true, if_true] at nx ⊢
      exact nx
    · simp only [c, decide_false, Bool.false_eq_true, if_false] at nx ⊢
      exact nx
theorem m_agree {σ : St} {p : Int} (hp : 0 ≤ p ∧ p ≤ 275) (wf : WF (mv σ p)) : f_X5_agreeOn p σ = some (agB (mv σ p) (σ 51 18), σ) := by
  have hR := wf.1
  exact m_agree_loop hp wf (mv σ p 0 0).toNat 0 FU (by omega) (by unfold FU; omega)
theorem m_stands {σ : St} {p h : Int} (hp : 0 ≤ p ∧ p ≤ 275) (wf : WF (mv σ p)) (h0 : 0 ≤ h) (h1 : h < mv σ p 0 0) : f_X5_standsOn p h σ = some (decide (¬ (mv σ p 0 1 * (4 - legs (mv σ p 2 h)) < mv σ p 3 h)), σ) := by
  have hR := wf.1
  obtain ⟨a1, a2, a3⟩ := wf.2.2.2.2.2.1 h h0 h1
  unfold f_X5_standsOn
  rw [ld_of (by omega) (by omega) (by omega), bV_s, mv_u h0 h1, m_upright hp wf h0 h1 a2, bI_s]
end ASK
/-! bounds -/
theorem c_isRider {x : Int} {σ : St} (hx : IR x) (hR : 0 ≤ cv σ 1 0 0 ∧ cv σ 1 0 0 ≤ 5) : f_X4_isRider x σ = some (decide (0 ≤ x ∧ x < cv σ 1 0 0), σ) := by
  unfold f_X4_isRider
  have w0 : wr 0 = 0 := by decide
  rw [c_within, bI_s, wrI hx, w0, ← cv_0 σ 1, wr_of (x := cv σ 1 0 0 - 1) (by omega) (by omega)]
  congr 3
  apply propext
  omega
theorem m_isRider {x p : Int} {σ : St} (hx : IR x) (hR : 0 ≤ mv σ p 0 0 ∧ mv σ p 0 0 ≤ 5) : f_X5_isRider x σ = some (decide (0 ≤ x ∧ x < mv σ p 0 0), σ) := by
  unfold f_X5_isRider
  rw [← mv_0 σ p, wrI hx, wr_of (x := mv σ p 0 0 - 1) (by omega) (by omega), m_in (by omega) (by omega) (by omega), bI_s]
  congr 3
  apply propext
  omega
theorem c_win {x a b : Int} {σ : St} (hx : IR x) (ha : IR a) (hb : IR b) : f_X4_within x a b σ = some (decide (a ≤ x ∧ x ≤ b), σ) := by
  rw [c_within, wrI hx, wrI ha, wrI hb]
theorem m_inw {x a b : Int} {σ : St} (hx : IR x) (ha : IR a) (hb : IR b) : f_X5_in (wr x) a b σ = some (decide (a ≤ x ∧ x ≤ b), σ) := by
  rw [wrI hx]; exact m_in (by omega) (by omega) (by omega)
theorem c_isReporter {x : Int} {σ : St} (hx : IR x) : f_X4_isReporter x σ = some (decide (0 ≤ x ∧ x ≤ 3), σ) := by unfold f_X4_isReporter; rw [c_win hx (by omega) (by omega), bI_s]
theorem c_isEnd {x : Int} {σ : St} (hx : IR x) : f_X4_isEnd x σ = some (decide (0 ≤ x ∧ x ≤ 3), σ) := by unfold f_X4_isEnd; rw [c_win hx (by omega) (by omega), bI_s]
theorem c_isDay {x : Int} {σ : St} (hx : IR x) : f_X4_isDay x σ = some (decide (0 ≤ x ∧ x ≤ 99), σ) := by unfold f_X4_isDay; rw [c_win hx (by omega) (by omega), bI_s]
theorem c_isRun {x : Int} {σ : St} (hx : IR x) : f_X4_isRunAhead x σ = some (decide (0 ≤ x ∧ x ≤ 60), σ) := by unfold f_X4_isRunAhead; rw [c_win hx (by omega) (by omega), bI_s]
theorem c_isChoice {x : Int} {σ : St} (hx : IR x) : f_X4_isChoice x σ = some (decide (0 ≤ x ∧ x ≤ 1), σ) := by unfold f_X4_isChoice; rw [c_win hx (by omega) (by omega), bI_s]
theorem c_isOdds {x : Int} {σ : St} (hx : IR x) : f_X4_isOdds x σ = some (decide (0 ≤ x ∧ x ≤ 10), σ) := by unfold f_X4_isOdds; rw [c_win hx (by omega) (by omega), bI_s]
theorem c_isImage {x : Int} {σ : St} (hx : IR x) : f_X4_isImage x σ = some (decide (0 ≤ x ∧ x ≤ 1), σ) := by unfold f_X4_isImage; rw [c_win hx (by omega) (by omega), bI_s]
theorem m_isReporter {x : Int} {σ : St} (hx : IR x) : f_X5_isReporter x σ = some (decide (0 ≤ x ∧ x ≤ 3), σ) := by unfold f_X5_isReporter; rw [m_inw hx (by omega) (by omega), bI_s]
theorem m_isEnd {x : Int} {σ : St} (hx : IR x) : f_X5_isEnd x σ = some (decide (0 ≤ x ∧ x ≤ 3), σ) := by unfold f_X5_isEnd; rw [m_inw hx (by omega) (by omega), bI_s]
theorem m_isDay {x : Int} {σ : St} (hx : IR x) : f_X5_isDay x σ = some (decide (0 ≤ x ∧ x ≤ 99), σ) := by unfold f_X5_isDay; rw [m_inw hx (by omega) (by omega), bI_s]
