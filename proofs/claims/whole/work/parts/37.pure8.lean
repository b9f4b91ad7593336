/-! ===== pure part 8: copies, the model's days, bounds that are asked ===== -/
theorem cp_loop {a b : Nat} (hd : a + 55 ≤ b ∨ b + 55 ≤ a) (ha : a ≤ 275) (hb : b ≤ 275) (σ0 : St) : ∀ (k i n : Nat) (σ : St), i + k = 55 → k < n → (∀ c j, σ c j = if c = 52 ∧ b ≤ j ∧ j < b + i then σ0 52 (j - b + a) else σ0 c j) → f_X5_copies_2 n a b i σ = some (fun c j => if c = 52 ∧ b ≤ j ∧ j < b + 55 then σ0 52 (j - b + a) else σ0 c j) := by
  intro k
  have w55 : wr 55 = 55 := by decide
  induction k with
  | zero =>
    intro i n σ hi hn hs
    obtain ⟨n, rfl⟩ : ∃ m, n = m + 1 := ⟨n - 1, by omega⟩
    obtain rfl : i = 55 := by omega
    rw [f_X5_copies_2, if_neg (by decide)]
    congr 1
    funext c j
    exact hs c j
  | succ k ih =>
    intro i n σ hi hn hs
    obtain ⟨n, rfl⟩ : ∃ m, n = m + 1 := ⟨n - 1, by omega⟩
    rw [f_X5_copies_2, w55, wr_of (x := (i : Int)) (by omega) (by omega), if_pos (by omega), ld_of (by omega) (by omega) (by omega), bV_s, sv_of (by omega) (by omega) (by omega), bV_s, show (i : Int) + 1 = ((i + 1 : Nat) : Int) by omega]
    refine ih (i + 1) n _ (by omega) (by omega) (fun c j => ?_)
    unfold ups up rd
    rw [show ((b : Int) + (i : Int)).toNat = b + i by omega, show ((a : Int) + (i : Int)).toNat = a + i by omega, hs c j, hs 52 (a + i)]
    by_cases c1 : c = 52 ∧ j = b + i
    · obtain ⟨rfl, rfl⟩ := c1
      rw [if_pos ⟨rfl, rfl⟩, if_neg (by omega), if_pos (by omega)]
      congr 1
      omega
    · rw [if_neg c1]
      by_cases c2 : c = 52 ∧ b ≤ j ∧ j < b + i
      · rw [if_pos c2, if_pos (by omega)]
      · rw [if_neg c2, if_neg (by omega)]
def cpM (σ : St) (a b : Nat) : St := fun c j => if c = 52 ∧ b ≤ j ∧ j < b + 55 then σ 52 (j - b + a) else σ c j
theorem m_copies {a b : Nat} (hd : a + 55 ≤ b ∨ b + 55 ≤ a) (ha : a ≤ 275) (hb : b ≤ 275) (σ : St) : f_X5_copies a b σ = some (cpM σ a b) :=
  cp_loop hd ha hb σ 55 0 FU σ (by omega) (by unfold FU; omega) (fun c j => by rw [if_neg (by omega)])
theorem cpM_mv {a b : Nat} {σ : St} (hR : σ 51 1 ≤ 5) (hM : rd σ 52 ((a : Int) + 52) ≤ 8) : mv (cpM σ a b) b = mv σ a := by
  refine mv_ext ?_ hR hM (fun x h0 h1 => ?_)
  · unfold cpM; rw [if_neg (by omega)]
  · unfold rd cpM
    rw [if_pos (by omega)]
    congr 1
    omega
theorem cpM_at {a b c j : Nat} {σ : St} (h : c ≠ 52) : cpM σ a b c j = σ c j := by unfold cpM; rw [if_neg (by omega)]
theorem cpM_rd {a b : Nat} {σ : St} {x : Int} (h0 : 0 ≤ x) (h : x < b ∨ (b : Int) + 55 ≤ x) : rd (cpM σ a b) 52 x = rd σ 52 x := by
  unfold rd cpM
  rw [if_neg (by omega)]
/-- how many of the first n days are loud; behind how many there is the first clang -/
def loudN (P : Pg) (un : Int) : Nat → Int
  | 0 => 0
  | n + 1 => loudN P un n + (if 0 < rung (itD P un n) un then 1 else 0)
def firstL (P : Pg) (un : Int) : Nat → Int
  | 0 => -4
  | n + 1 => if firstL P un n = -4 then (if 0 < rung (itD P un n) un then (n : Int) + 1 else -4) else firstL P un n
theorem loud_bd (P : Pg) (un : Int) : ∀ n : Nat, 0 ≤ loudN P un n ∧ loudN P un n ≤ n := by
  intro n
  induction n with
  | zero => simp [loudN]
  | succ n ih => simp only [loudN]; split <;> omega
theorem first_bd (P : Pg) (un : Int) : ∀ n : Nat, firstL P un n = -4 ∨ (1 ≤ firstL P un n ∧ firstL P un n ≤ n) := by
  intro n
  induction n with
  | zero => simp [firstL]
  | succ n ih =>
    simp only [firstL]
    split
    · split <;> omega
    · omega
/-- the first clang is where the sum is above 0 first -/
theorem first_sum {P : Pg} (wf : WF P) (un : Int) : ∀ n : Nat, P 0 3 + n ≤ 5000 → (firstL P un n = -4 ↔ sumR P un n = 0) := by
  intro n
  induction n with
  | zero => intro _; simp [firstL, sumR, sumN]
  | succ n ih =>
    intro h
    have i1 := ih (by omega)
    have s0 := sumR_bd wf un n (by omega)
    have r0 := rung_b (itD_wf wf un n (by omega)) un
    have es : sumR P un (n + 1) = sumR P un n + rung (itD P un n) un := rfl
    simp only [firstL]
    rw [es]
    by_cases c : firstL P un n = -4
    · rw [if_pos c]
      have := i1.mp c
      by_cases c2 : 0 < rung (itD P un n) un
      · rw [if_pos c2]; omega
      · rw [if_neg c2]; omega
    · rw [if_neg c]
      have : ¬ sumR P un n = 0 := fun e => c (i1.mpr e)
      constructor
      · intro e; exact absurd e c
      · intro e; omega
/-- what questions of the model may change: page TRIED and those behind it, their counters -/
def Qm (σ σ' : St) : Prop := (∀ k j, k ≠ 51 → k ≠ 52 → k ≠ 58 → σ' k j = σ k j) ∧ (∀ j, j ≠ 19 → j ≠ 20 → j ≠ 21 → σ' 51 j = σ 51 j) ∧ ∀ x, 0 ≤ x → x < 165 → rd σ' 52 x = rd σ 52 x
theorem Qm.rf (σ : St) : Qm σ σ := ⟨fun _ _ _ _ _ => rfl, fun _ _ _ _ => rfl, fun _ _ _ => rfl⟩
theorem Qm.tr {a b c : St} (h1 : Qm a b) (h2 : Qm b c) : Qm a c := ⟨fun k j x y z => (h2.1 k j x y z).trans (h1.1 k j x y z), fun j x y z => (h2.2.1 j x y z).trans (h1.2.1 j x y z), fun x y z => (h2.2.2 x y z).trans (h1.2.2 x y z)⟩
theorem FrM.Q {p : Int} (hp : 165 ≤ p) {a b : St} (h : FrM p a b) : Qm a b := ⟨fun k j x y _ => h.1 k j x y, fun j x _ _ => h.2.1 j x, fun x y z => h.2.2 x y (by omega)⟩
theorem Qm.cp {a b : Nat} (hb : 165 ≤ b) (σ : St) : Qm σ (cpM σ a b) := ⟨fun k j _ h _ => cpM_at h, fun j _ _ _ => cpM_at (by decide), fun x h0 h1 => cpM_rd h0 (by omega)⟩
theorem Qm.up {j : Nat} {v : Int} {σ : St} (h : j = 19 ∨ j = 20 ∨ j = 21) : Qm σ (up σ 51 j v) := ⟨fun k i h1 _ _ => by rw [up_at, if_neg (by omega)], fun i h1 h2 h3 => by rw [up_at, if_neg (by omega)], fun x _ _ => rd_up (by decide)⟩
theorem Qm.ups {x v : Int} {σ : St} (h : 165 ≤ x) : Qm σ (ups σ 52 x v) := ⟨fun k i _ h1 _ => ups_at h1, fun i _ _ _ => ups_at (by decide), fun y h0 h1 => by rw [rd_ups (by omega) h0, if_neg (by omega)]⟩
theorem Qm.mv {σ σ' : St} (h : Qm σ σ') {p : Int} (hp : 0 ≤ p ∧ p + 55 ≤ 165) (hR : σ 51 1 ≤ 5) (hM : rd σ 52 (p + 52) ≤ 8) : mv σ' p = mv σ p :=
  mv_ext (h.2.1 1 (by omega) (by omega) (by omega)) hR hM (fun x h0 h1 => h.2.2 (p + x) (by omega) (by omega))
/-- days of the model change the page TRIED and the counters alone -/
def FrT (σ σ' : St) : Prop := (∀ k j, k ≠ 51 → k ≠ 52 → σ' k j = σ k j) ∧ (∀ j, j ≠ 19 → j ≠ 20 → j ≠ 21 → σ' 51 j = σ 51 j) ∧ ∀ x, 0 ≤ x → (x < 220 ∨ 275 ≤ x) → rd σ' 52 x = rd σ 52 x
theorem FrT.rf (σ : St) : FrT σ σ := ⟨fun _ _ _ _ => rfl, fun _ _ _ _ => rfl, fun _ _ _ => rfl⟩
theorem FrT.tr {a b c : St} (h1 : FrT a b) (h2 : FrT b c) : FrT a c := ⟨fun k j x y => (h2.1 k j x y).trans (h1.1 k j x y), fun j x y z => (h2.2.1 j x y z).trans (h1.2.1 j x y z), fun x y z => (h2.2.2 x y z).trans (h1.2.2 x y z)⟩
theorem FrM.T {a b : St} (h : FrM 220 a b) : FrT a b := ⟨fun k j x y => h.1 k j x y, fun j x _ _ => h.2.1 j x, fun x y z => h.2.2 x y (by omega)⟩
theorem FrT.cp {a : Nat} (σ : St) : FrT σ (cpM σ a 220) := ⟨fun k j _ h => cpM_at h, fun j _ _ _ => cpM_at (by decide), fun x h0 h1 => cpM_rd h0 (by omega)⟩
theorem FrT.up {j : Nat} {v : Int} {σ : St} (h : j = 19 ∨ j = 20 ∨ j = 21) : FrT σ (up σ 51 j v) := ⟨fun k i h1 _ => by rw [up_at, if_neg (by omega)], fun i h1 h2 h3 => by rw [up_at, if_neg (by omega)], fun x _ _ => rd_up (by decide)⟩
theorem FrT.Q {a b : St} (h : FrT a b) : Qm a b := ⟨fun k j x y _ => h.1 k j x y, h.2.1, fun x y z => h.2.2 x y (by omega)⟩
theorem m_daysGo_loop {P : Pg} (wf : WF P) {un : Int} {N : Nat} (hN : P 0 3 + N ≤ 5000) (hN2 : N ≤ 2000) : ∀ (k m n : Nat) (σ : St), m + k = N → k < n → mv σ 220 = itD P un m → σ 51 18 = un → σ 51 19 = sumR P un m → σ 51 20 = loudN P un m → σ 51 21 = firstL P un m →
    ∃ σ', f_X5_daysGo_26 n N ((m : Int) + 1) σ = some (sumR P un N, σ') ∧ mv σ' 220 = itD P un N ∧ σ' 51 20 = loudN P un N ∧ σ' 51 21 = firstL P un N ∧ FrT σ σ' := by
  intro k
  induction k with
  | zero =>
    intro m n σ hm hn hv hu h19 h20 h21
    obtain ⟨n, rfl⟩ : ∃ z, n = z + 1 := ⟨n - 1, by omega⟩
    obtain rfl : m = N := by omega
    refine ⟨σ, ?_, hv, h20, h21, FrT.rf σ⟩
    rw [f_X5_daysGo_26, wr_of (x := (m : Int)) (by omega) (by omega), wr_of (x := (m : Int) + 1) (by omega) (by omega), if_pos (by omega), h19]
  | succ k ih =>
    intro m n σ hm hn hv hu h19 h20 h21
    obtain ⟨n, rfl⟩ : ∃ z, n = z + 1 := ⟨n - 1, by omega⟩
    have wfm : WF (itD P un m) := itD_wf wf un m (by omega)
    obtain ⟨σ1, b1, b2, b3, b4⟩ := m_day (σ := σ) (p := 220) (by omega) (by rw [hv]; exact wfm)
    rw [hv, hu] at b2 b3
    rw [h19] at b3
    have sb := sumR_bd wf un m (by omega)
    have rb := rung_b wfm un
    have lb := loud_bd P un m
    have fbd := first_bd P un m
    have es : sumR P un m + rung (itD P un m) un = sumR P un (m + 1) := rfl
    have c20 : σ1 51 20 = loudN P un m := by rw [b4.2.1 20 (by omega)]; exact h20
    have c21 : σ1 51 21 = firstL P un m := by rw [b4.2.1 21 (by omega)]; exact h21
    have c18 : σ1 51 18 = un := by rw [b4.2.1 18 (by omega)]; exact hu
    have w4 : wr (-4) = -4 := by decide
    rw [f_X5_daysGo_26, wr_of (x := (N : Int)) (by omega) (by omega), wr_of (x := (m : Int) + 1) (by omega) (by omega), if_neg (by omega), b1, bV_s, h19, b3, c20, wr_of (x := sumR P un m) (by omega) (by omega), wr_of (x := sumR P un m + rung (itD P un m) un) (by omega) (by omega)]
    have fin : ∀ t, t = (if 0 < rung (itD P un m) un then (1 : Int) else 0) → ∃ σ', f_X5_daysGo_63 (f_X5_daysGo_26 n) N ((m : Int) + 1) 51 (loudN P un m) t σ1 = some (sumR P un N, σ') ∧ mv σ' 220 = itD P un N ∧ σ' 51 20 = loudN P un N ∧ σ' 51 21 = firstL P un N ∧ FrT σ σ' := by
      intro t ht
      unfold f_X5_daysGo_63 f_X5_daysGo_88 f_X5_daysGo_92 pf
      simp only [bV_s]
      have s21 : up σ1 51 20 (loudN P un m + t) 51 21 = firstL P un m := by rw [up_at, if_neg (by omega), c21]
      have s19 : up σ1 51 20 (loudN P un m + t) 51 19 = sumR P un (m + 1) := by rw [up_at, if_neg (by omega), b3, es]
      rw [s21, s19, w4, wr_of (x := firstL P un m) (by omega) (by omega), wr_of (x := sumR P un (m + 1)) (by omega) (by omega)]
      have go : ∀ f, f = firstL P un (m + 1) → ∃ σ', f_X5_daysGo_26 n N ((m : Int) + 1 + 1) (up (up σ1 51 20 (loudN P un m + t)) 51 21 f) = some (sumR P un N, σ') ∧ mv σ' 220 = itD P un N ∧ σ' 51 20 = loudN P un N ∧ σ' 51 21 = firstL P un N ∧ FrT σ σ' := by
        intro f hf
        have nx := ih (m + 1) n (up (up σ1 51 20 (loudN P un m + t)) 51 21 f) (by omega) (by omega) (by rw [mv_pf (k := 51) (j := 21) (by decide) (by decide), mv_pf (k := 51) (j := 20) (by decide) (by decide)]; exact b2) (by rw [up_at, if_neg (by omega), up_at, if_neg (by omega)]; exact c18) (by rw [up_at, if_neg (by omega), s19]) (by rw [up_at, if_neg (by omega), up_at, if_pos ⟨rfl, rfl⟩, ht]; rfl) (by rw [up_at, if_pos ⟨rfl, rfl⟩]; exact hf)
        obtain ⟨σ', d1, d2, d3, d4, d5⟩ := nx
        refine ⟨σ', ?_, d2, d3, d4, b4.T.tr (((FrT.up (by omega)).tr (FrT.up (by omega))).tr d5)⟩
        rw [show (m : Int) + 1 + 1 = ((m + 1 : Nat) : Int) + 1 by omega]
        exact d1
      have ef : firstL P un (m + 1) = if firstL P un m = -4 then (if 0 < rung (itD P un m) un then (m : Int) + 1 else -4) else firstL P un m := rfl
      by_cases c4 : firstL P un m = -4
      · rw [if_pos c4]
        have z := (first_sum wf un m (by omega)).mp c4
        rw [if_pos c4] at ef
        by_cases cs : 0 < sumR P un (m + 1)
        · rw [if_pos cs]
          rw [if_pos (by omega)] at ef
          exact go _ ef.symm
        · rw [if_neg cs]
          rw [if_neg (by omega)] at ef
          exact go _ (by rw [ef]; exact c4)
      · rw [if_neg c4]
        rw [if_neg c4] at ef
        exact go _ ef.symm
    by_cases c : sumR P un m < sumR P un m + rung (itD P un m) un
    · rw [if_pos c]; exact fin 1 (by rw [if_pos (by omega)])
    · rw [if_neg c]; exact fin 0 (by rw [if_neg (by omega)])
theorem m_daysGo {σ : St} {a N : Nat} (ha : a + 55 ≤ 220 ∨ a = 275) (wf : WF (mv σ a)) (hN : mv σ a 0 3 + N ≤ 5000) (hN2 : N ≤ 2000) : ∃ σ', f_X5_daysGo a N σ = some (sumR (mv σ a) (σ 51 18) N, σ') ∧ mv σ' 220 = itD (mv σ a) (σ 51 18) N ∧ σ' 51 20 = loudN (mv σ a) (σ 51 18) N ∧ σ' 51 21 = firstL (mv σ a) (σ 51 18) N ∧ FrT σ σ' := by
  have hR := wf.1
  have hM := wf.2.2.1
  unfold f_X5_daysGo pf
  have ec : f_X5_copies (a : Int) 220 σ = some (cpM σ a 220) := m_copies (b := 220) (by omega) (by omega) (by omega) σ
  rw [ec, bV_s, bV_s, bV_s, bV_s]
  obtain ⟨σ', d1, d2, d3, d4, d5⟩ := m_daysGo_loop wf (un := σ 51 18) hN hN2 N 0 FU (up (up (up (cpM σ a 220) 51 19 0) 51 20 0) 51 21 (-4)) (by omega) (by unfold FU; omega) (by
      rw [mv_pf (k := 51) (j := 21) (by decide) (by decide), mv_pf (k := 51) (j := 20) (by decide) (by decide), mv_pf (k := 51) (j := 19) (by decide) (by decide)]
      exact cpM_mv (b := 220) hR.2 hM.2) rfl rfl rfl rfl
  exact ⟨σ', d1, d2, d3, d4, (((FrT.cp σ).tr (FrT.up (by omega))).tr ((FrT.up (by omega)).tr (FrT.up (by omega)))).tr d5⟩
/-! what is asked of a number -/
theorem lcm_lt {x y : Int} : wr (lcm x y) < 0 ↔ wl x < wl y := by
  unfold lcm
  by_cases h1 : wl y < wl x
  · rw [if_pos h1]
    have : wr 1 = 1 := by decide
    omega
  · rw [if_neg h1]
    by_cases h2 : wl x = wl y
    · rw [if_pos h2]
      have : wr 0 = 0 := by decide
      omega
    · rw [if_neg h2]
      have : wr (-1) = -1 := by decide
      omega
theorem lcm_gt {x y : Int} : 0 < wr (lcm x y) ↔ wl y < wl x := by
  unfold lcm
  by_cases h1 : wl y < wl x
  · rw [if_pos h1]
    have : wr 1 = 1 := by decide
    omega
  · rw [if_neg h1]
    by_cases h2 : wl x = wl y
    · rw [if_pos h2]
      have : wr 0 = 0 := by decide
      omega
    · rw [if_neg h2]
      have : wr (-1) = -1 := by decide
      omega
theorem m_in {x a b : Int} {σ : St} (hx : -9000000000000000000 ≤ x ∧ x ≤ 9000000000000000000) (ha : -9000000000000000000 ≤ a ∧ a ≤ 9000000000000000000) (hb : -9000000000000000000 ≤ b ∧ b ≤ 9000000000000000000) : f_X5_in x a b σ = some (decide (a ≤ x ∧ x ≤ b), σ) := by
  unfold f_X5_in
  have e1 : wr (lcm x a) < 0 ↔ x < a := by rw [lcm_lt, wl_of (by omega) (by omega), wl_of (by omega) (by omega)]
  have e2 : 0 < wr (lcm x b) ↔ b < x := by rw [lcm_gt, wl_of (by omega) (by omega), wl_of (by omega) (by omega)]
  by_cases c1 : x < a
  · rw [if_pos (e1.mpr c1)]; simp [show ¬ (a ≤ x ∧ x ≤ b) by omega]
  · rw [if_neg (fun z => c1 (e1.mp z))]
    by_cases c2 : b < x
    · rw [if_pos (e2.mpr c2)]; simp [show ¬ (a ≤ x ∧ x ≤ b) by omega]
    · rw [if_neg (fun z => c2 (e2.mp z))]; simp [show (a ≤ x ∧ x ≤ b) by omega]
theorem c_within {x a b : Int} {σ : St} : f_X4_within x a b σ = some (decide (wr a ≤ wr x ∧ wr x ≤ wr b), σ) := by
  unfold f_X4_within
  by_cases c1 : wr x < wr a
  · rw [if_pos c1]; simp [show ¬ (wr a ≤ wr x ∧ wr x ≤ wr b) by omega]
  · rw [if_neg c1]
    by_cases c2 : wr b < wr x
    · rw [if_pos c2]; simp [show ¬ (wr a ≤ wr x ∧ wr x ≤ wr b) by omega]
    · rw [if_neg c2]; simp [show (wr a ≤ wr x ∧ wr x ≤ wr b) by omega]
