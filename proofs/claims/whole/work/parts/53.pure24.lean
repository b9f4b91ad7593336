/-! ===== pure part 24: mean ===== -/
theorem itD_row (P : Pg) (un : Int) {r : Nat} {i : Int} (h2 : r ≠ 2) (h0 : ¬ (r = 0 ∧ (i = 3 ∨ i = 4))) : ∀ n : Nat, itD P un n r i = P r i := by
  intro n
  induction n with
  | zero => rfl
  | succ n ih =>
    show dayP (itD P un n) un r i = _
    unfold dayP
    rw [if_neg h2, if_neg (by omega), if_neg (by omega)]
    exact ih
theorem bel_rows {P Q : Pg} (h02 : Q 0 2 = P 0 2) (h4 : ∀ i, Q 4 i = P 4 i) (h5 : ∀ i, Q 5 i = P 5 i) (h6 : ∀ i, Q 6 i = P 6 i) (h7 : ∀ i, Q 7 i = P 7 i) (h8 : ∀ i, Q 8 i = P 8 i) (un h d : Int) : bel Q un h d = bel P un h d := by
  have t : ∀ e : Int, told Q un h e d = told P un h e d := by
    intro e
    unfold told
    rw [h02]
    refine sumN_ext (fun i hi => ?_)
    unfold tg
    rw [h4, h5, h6, h7, h8]
  unfold bel
  simp only [t]
theorem bel_it (P : Pg) (un h d : Int) (n : Nat) : bel (itD P un n) un h d = bel P un h d :=
  bel_rows (itD_row P un (by omega) (by omega) n) (fun i => itD_row P un (by omega) (by omega) n) (fun i => itD_row P un (by omega) (by omega) n) (fun i => itD_row P un (by omega) (by omega) n) (fun i => itD_row P un (by omega) (by omega) n) (fun i => itD_row P un (by omega) (by omega) n) un h d
/-- one rider's legs alone -/
def uS (P : Pg) (un h : Int) : Nat → Int
  | 0 => P 2 h
  | d + 1 => mvu (P 1 h) (uS P un h d) (P 3 h) (P 0 1) (bel P un h (P 0 3 + (d : Int)))
def rS (P : Pg) (un h : Int) (d : Nat) : Int := ring (P 1 h) (uS P un h d) (P 3 h) (P 0 1) (bel P un h (P 0 3 + (d : Int)))
def clS (P : Pg) (un h : Int) (n : Nat) : Int := sumN (rS P un h) n
theorem itD_u (P : Pg) (un : Int) {h : Int} (h0 : 0 ≤ h) (h1 : h < P 0 0) : ∀ n : Nat, itD P un n 2 h = uS P un h n := by
  intro n
  induction n with
  | zero => rfl
  | succ n ih =>
    show dayP (itD P un n) un 2 h = _
    unfold dayP
    rw [if_pos rfl, if_pos ⟨h0, by rw [itD_0]; exact h1⟩]
    unfold upd1
    rw [bel_it, itD_day, ih, itD_row P un (by omega) (by omega), itD_row P un (by omega) (by omega), itD_row P un (by omega) (by omega)]
    rfl
theorem rung_it (P : Pg) (un : Int) (d : Nat) : rung (itD P un d) un = sumN (fun h => rS P un h d) (P 0 0).toNat := by
  unfold rung
  rw [itD_0]
  refine sumN_ext (fun h hh => ?_)
  unfold rung1 rS
  rw [bel_it, itD_day, itD_u P un (by omega) (by omega), itD_row P un (by omega) (by omega), itD_row P un (by omega) (by omega), itD_row P un (by omega) (by omega)]
theorem sumN_pt (f f' : Nat → Int) : ∀ R : Nat, sumN f R + sumN f' R = sumN (fun h => f h + f' h) R := by
  intro R
  induction R with
  | zero => rfl
  | succ R ih => rw [sumN, sumN, sumN, ← ih]; omega
theorem sumN_swap (f : Nat → Nat → Int) (R : Nat) : ∀ n : Nat, sumN (fun k => sumN (fun h => f h k) R) n = sumN (fun h => sumN (fun k => f h k) n) R := by
  intro n
  induction n with
  | zero =>
    show (0 : Int) = sumN (fun h => 0) R
    induction R with
    | zero => rfl
    | succ R ih => rw [sumN, ← ih]; rfl
  | succ n ih =>
    rw [sumN, ih, sumN_pt]
    rfl
theorem sumR_cl (P : Pg) (un : Int) (n : Nat) : sumR P un n = sumN (fun h => clS P un h n) (P 0 0).toNat := by
  unfold sumR
  rw [sumN_ext (g' := fun k => sumN (fun h => rS P un h k) (P 0 0).toNat) (fun k _ => rung_it P un k), sumN_swap (fun h k => rS P un h k)]
  rfl
theorem uS_cong {P : Pg} {un un' h : Int} (e : ∀ x, bel P un h x = bel P un' h x) : ∀ d, uS P un h d = uS P un' h d := by
  intro d
  induction d with
  | zero => rfl
  | succ d ih => rw [uS, uS, ih, e]
theorem clS_cong {P : Pg} {un un' h : Int} (e : ∀ x, bel P un h x = bel P un' h x) (n : Nat) : clS P un h n = clS P un' h n := by
  refine sumN_ext (fun d _ => ?_)
  unfold rS
  rw [uS_cong e, e]
theorem ring_bd1 (k u w b e : Int) : 0 ≤ ring k u w b e ∧ ring k u w b e ≤ 1 := by
  unfold ring
  split
  · omega
  · split <;> omega
theorem clS_bd (P : Pg) (un h : Int) (n : Nat) : 0 ≤ clS P un h n ∧ clS P un h n ≤ n := by
  have := sumN_bd (g := rS P un h) (B := 1) (n := n) (fun i _ => ring_bd1 _ _ _ _ _)
  unfold clS
  omega
theorem bel_none {P : Pg} {un h : Int} (e : ∀ i : Nat, (i : Int) < P 0 2 → P 7 i = h → ¬ wr (iad (isr un (i : Int)) 1) = 0) (d : Int) : bel P un h d = -4 := by
  have t : ∀ x : Int, told P un h x d = 0 := by
    intro x
    unfold told
    have z : ∀ n : Nat, (n : Int) ≤ P 0 2 → sumN (tg P un h x d) n = 0 := by
      intro n
      induction n with
      | zero => intro _; rfl
      | succ n ih =>
        intro hn
        rw [sumN, ih (by omega)]
        have : tg P un h x d n = 0 := by
          unfold tg
          by_cases c : P 7 n = h
          · have q := e n (by omega) c
            rw [if_pos c, if_neg q]
            split
            · split <;> rfl
            · rfl
          · rw [if_neg c]
        rw [this]; rfl
    by_cases c : 0 ≤ P 0 2
    · exact z _ (by omega)
    · have : (P 0 2).toNat = 0 := by omega
      rw [this]; rfl
  unfold bel
  simp only [t]
  decide
theorem clS_none {P : Pg} {un h : Int} (e : ∀ d, bel P un h d = -4) (n : Nat) : clS P un h n = 0 := by
  unfold clS
  induction n with
  | zero => rfl
  | succ n ih =>
    rw [sumN, ih]
    unfold rS ring
    rw [e, if_pos (Or.inl rfl)]
    rfl
theorem sumN_single {g : Nat → Int} {j : Nat} : ∀ n, (∀ i, i < n → i ≠ j → g i = 0) → sumN g n = if j < n then g j else 0 := by
  intro n
  induction n with
  | zero => intro _; rfl
  | succ n ih =>
    intro h
    rw [sumN, ih (fun i hi => h i (by omega))]
    by_cases c : n = j
    · subst c; rw [if_neg (by omega), if_pos (by omega)]; omega
    · rw [h n (by omega) c]
      by_cases c2 : j < n
      · rw [if_pos c2, if_pos (by omega)]; omega
      · rw [if_neg c2, if_neg (by omega)]; omega
/-- with all others unheard -/
theorem sumR_mask {P : Pg} (wf : WF P) {h : Nat} (hh : (h : Int) < P 0 0) {s : Nat} (hs : s < 256) (n : Nat) : sumR P (iod (s : Int) (ixd (bN (ownB P h) 8 : Int) (-1))) n = clS P (bN (bo s) 8 : Int) h n := by
  have hM := wf.2.2.1
  have eo : bo (bN (ownB P h) 8) = ownB P h := bo_bN (fun i hi => ownB_hi (by omega))
  rw [sumR_cl, sumN_single (j := h), if_pos (by omega)]
  · refine clS_cong (fun x => bel_cong (fun i hi hb => ?_)) n
    rw [mask_bit (by omega), eo, bN_bo 8 s (by omega), nat_bit (by omega)]
    have : ownB P h i = true := decide_eq_true ⟨hi, hb⟩
    rw [this]
    simp
  · intro h' hh' ne
    refine clS_none (fun x => bel_none (fun i hi hb => ?_) x) n
    rw [mask_bit (by omega), eo]
    have : ownB P h i = false := by
      unfold ownB
      rw [decide_eq_false_iff_not]
      intro z
      have := z.2
      omega
    rw [this]
    simp
def gH (P : Pg) (n : Nat) (h : Nat) : (Nat → Bool) → Int := fun b => clS P (bN b 8 : Int) h n
def GM (P : Pg) (n : Nat) : (Nat → Bool) → Int := fun b => sumN (fun h => gH P n h b) (P 0 0).toNat
def S_mean (v n w : Int) (P : Pg) : Int := if 0 ≤ v ∧ v ≤ 10 then (if 0 ≤ n ∧ n ≤ 20 then (if 0 ≤ w ∧ w ≤ 1 then lowT (EX (pM v) (GM P n.toNat) (P 0 2).toNat (fun _ => false)).toNat (10 ^ (P 0 2).toNat) w else -1) else -1) else -1
theorem gH_own {P : Pg} (wf : WF P) {n h : Nat} : ∀ b b' : Nat → Bool, (∀ i, ownB P h i = true → b i = b' i) → gH P n h b = gH P n h b' := fun b b' hb => clS_cong (fun x => bel_own wf hb) n
theorem GM_bd {P : Pg} (wf : WF P) {n : Nat} (hn : n ≤ 20) (b : Nat → Bool) : 0 ≤ GM P n b ∧ GM P n b ≤ 300 := by
  have hR := wf.1
  have := sumN_bd (g := fun h => gH P n h b) (B := 20) (n := (P 0 0).toNat) (fun i _ => by have := clS_bd P (bN b 8 : Int) i n; unfold gH; omega)
  unfold GM
  omega
theorem c_clangs {σ : St} (I : Ic σ) {v : Int} (hv : 0 ≤ v ∧ v ≤ 10) {h : Nat} (hh : (h : Int) < cv σ 1 0 0) {N : Nat} (hN : N ≤ 20) : ∃ σ', f_X4_clangsByOdds v h N σ = some (EX (pO v (ownB (cv σ 1) h)) (gH (cv σ 1) N h) 8 (fun _ => false), σ') ∧ Qc σ σ' := by
  have w256 : wr 256 = 256 := by decide
  have wf := I.1
  have hR := wf.1
  have hM := wf.2.2.1
  have hd := I.2.1
  unfold f_X4_clangsByOdds
  rw [c_reportsOn (q := 1) wf (by omega), bI_s]
  have ol : bN (ownB (cv σ 1) h) 8 < 256 := bN_lt _ 8
  have eo : bo (bN (ownB (cv σ 1) h) 8) = ownB (cv σ 1) h := bo_bN (fun i hi => ownB_hi (by omega))
  have sumE := sum_EX (pO v (ownB (cv σ 1) h)) (gH (cv σ 1) N h) 8 (fun _ => false)
  have lp : ∀ (k s n : Nat) (τ : St), s + k = 256 → k < n → Qc σ τ → ∃ τ', f_X4_clangsByOdds_16 n v N (bN (ownB (cv σ 1) h) 8 : Int) (sumN (fun s => prodN (fun i => pO v (ownB (cv σ 1) h) i (bo s i)) 8 * gH (cv σ 1) N h (mix 8 (bo s) (fun _ => false))) s) s τ = some (EX (pO v (ownB (cv σ 1) h)) (gH (cv σ 1) N h) 8 (fun _ => false), τ') ∧ Qc σ τ' := by
    intro k
    induction k with
    | zero =>
      intro s n τ hs hn hq
      obtain ⟨n, rfl⟩ : ∃ y, n = y + 1 := ⟨n - 1, by omega⟩
      obtain rfl : s = 256 := by omega
      refine ⟨τ, ?_, hq⟩
      rw [show (2 : Nat) ^ 8 = 256 from rfl] at sumE
      rw [f_X4_clangsByOdds_16, if_neg (by decide), sumE]
    | succ k ih =>
      intro s n τ hs hn hq
      obtain ⟨n, rfl⟩ : ∃ y, n = y + 1 := ⟨n - 1, by omega⟩
      rw [f_X4_clangsByOdds_16, w256, wr_of (x := (s : Int)) (by omega) (by omega), if_pos (by omega)]
      unfold f_X4_clangsByOdds_82
      rw [show (s : Int) + 1 = ((s + 1 : Nat) : Int) by omega]
      by_cases c : wr (iad (s : Int) (ixd (bN (ownB (cv σ 1) h) 8 : Int) (-1))) = 0
      · rw [if_pos c]
        have sub := (sub_iff (by omega) ol).mp c
        rw [eo] at sub
        obtain ⟨τ1, c1, c2, c3, c4⟩ := c_trial (I.q hq)
        rw [hq.cv] at c3
        have cs : cv (up τ1 11 11 (iod (s : Int) (ixd (bN (ownB (cv σ 1) h) 8 : Int) (-1)))) 11 = cv σ 1 := by
          rw [← c3]
          exact cv_ext (fun r j hr h0 => by rw [up_at, if_neg (by omega)])
        obtain ⟨τ2, d1, d2, d3⟩ := c_days (q := 11) (σ := up τ1 11 11 (iod (s : Int) (ixd (bN (ownB (cv σ 1) h) 8 : Int) (-1)))) (N := N) (by rw [cs]; exact wf) (by rw [cs]; omega) (by omega)
        rw [cs, up_at, if_pos ⟨rfl, rfl⟩, sumR_mask wf hh (by omega)] at d1
        have cb := clS_bd (cv σ 1) (bN (bo s) 8 : Int) h N
        rw [c1, bV_s]
        unfold pf
        rw [bV_s, c_odds hv (by omega) ol eo sub, bI_s, d1, bI_s, wr_of (x := clS (cv σ 1) (bN (bo s) 8 : Int) h N) (by omega) (by omega)]
        obtain ⟨τ', f1, f2⟩ := ih (s + 1) n τ2 (by omega) (by omega) (((hq.tr c2).tr (Qc.p (by omega))).tr d3.Q)
        rw [sumN, mix_bo (show s < 2 ^ 8 by omega)] at f1
        exact ⟨τ', f1, f2⟩
      · rw [if_neg c]
        have nsub : ∃ i, i < 8 ∧ bo s i = true ∧ ownB (cv σ 1) h i = false := by
          apply Classical.byContradiction
          intro hn
          apply c
          rw [sub_iff (by omega) ol, eo]
          intro i hi hb
          cases ho : ownB (cv σ 1) h i with
          | true => rfl
          | false => exact absurd ⟨i, hi, hb, ho⟩ hn
        obtain ⟨i, hi, hb, ho⟩ := nsub
        obtain ⟨τ', f1, f2⟩ := ih (s + 1) n τ (by omega) (by omega) hq
        rw [sumN, prodO_0 8 i hi hb ho, Int.zero_mul, Int.add_zero] at f1
        exact ⟨τ', f1, f2⟩
  exact lp 256 0 FU σ (by omega) (by unfold FU; omega) (Qc.rf σ)
theorem low_mean {P : Pg} (wf : WF P) {v : Int} {n : Nat} : sumN (fun h => EX (pO v (ownB P h)) (gH P n h) 8 (fun _ => false) * 10 ^ (8 - cN (ownB P h) 8)) (P 0 0).toNat = 10 ^ (8 - (P 0 2).toNat) * EX (pM v) (GM P n) (P 0 2).toNat (fun _ => false) := by
  have hM := wf.2.2.1
  generalize eM : (P 0 2).toNat = M at *
  have h8 : M + (8 - M) = 8 := by omega
  have es : EX (pM v) (GM P n) M (fun _ => false) = sumN (fun h => EX (pM v) (gH P n h) M (fun _ => false)) (P 0 0).toNat := EX_sum (pM v) (gH P n) _ M _
  rw [es, ← sumN_mul]
  refine sumN_ext (fun h hh => ?_)
  have m1 := EX_more (G := gH P n h) (own := ownB P h) v (M := M) (fun i hi => ownB_hi (by omega)) (8 - M)
  have m2 := cN_more (c := ownB P h) (M := M) (fun i hi => ownB_hi (by omega)) (8 - M)
  rw [h8] at m1 m2
  have nn := nno_cN (ownB P h) M
  rw [m1, m2, EX_own v (gH_own wf) M, ← Int.mul_assoc, ← Int.pow_add, Int.mul_comm]
  congr 2
  omega
theorem q_mean {v n w : Int} (hv : IR v) (hn : IR n) (hw : IR w) : Qry (f_X4_mean v n w) (f_X5_mean v n w) (S_mean v n w) := by
  refine ⟨fun σ I => ?_, fun σ I => ?_⟩
  · have wf := I.1
    have hR := wf.1
    have hM := wf.2.2.1
    unfold f_X4_mean S_mean
    rw [c_isOdds hv, bI_s]
    by_cases g1 : 0 ≤ v ∧ v ≤ 10
    case neg => rw [if_neg (by simp only [decide_eq_true_eq]; exact g1), if_neg g1]; exact ⟨σ, rfl, Qc.rf σ⟩
    rw [if_pos (by simp [g1]), if_pos g1, c_win hn (by omega) (by omega), bI_s]
    by_cases g2 : 0 ≤ n ∧ n ≤ 20
    case neg => rw [if_neg (by simp only [decide_eq_true_eq]; exact g2), if_neg g2]; exact ⟨σ, rfl, Qc.rf σ⟩
    rw [if_pos (by simp [g2]), if_pos g2, c_isChoice hw, bI_s]
    by_cases g5 : 0 ≤ w ∧ w ≤ 1
    case neg => rw [if_neg (by simp only [decide_eq_true_eq]; exact g5), if_neg g5]; exact ⟨σ, rfl, Qc.rf σ⟩
    rw [if_pos (by simp [g5]), if_pos g5]
    have lm := low_mean wf (v := v) (n := n.toNat)
    have eb := EX_bd (p := pM v) (G := GM (cv σ 1) n.toNat) (B := 300) (by omega) (fun i x => by unfold pM; split <;> omega) (fun i => by simp [pM]) (GM_bd wf (by omega)) (cv σ 1 0 2).toNat (fun _ => false)
    have lp : ∀ (k h m : Nat) (τ : St), h + k = (cv σ 1 0 0).toNat → k < m → Qc σ τ → ∃ τ', f_X4_mean_34 m v n w (sumN (fun h => EX (pO v (ownB (cv σ 1) h)) (gH (cv σ 1) n.toNat h) 8 (fun _ => false) * 10 ^ (8 - cN (ownB (cv σ 1) h) 8)) h) h τ = some (lowT (EX (pM v) (GM (cv σ 1) n.toNat) (cv σ 1 0 2).toNat (fun _ => false)).toNat (10 ^ (cv σ 1 0 2).toNat) w, τ') ∧ Qc σ τ' := by
      intro k
      induction k with
      | zero =>
        intro h m τ hh hm hq
        obtain ⟨m, rfl⟩ : ∃ y, m = y + 1 := ⟨m - 1, by omega⟩
        have e0 : τ 1 0 = cv σ 1 0 0 := hq 1 0 (by omega)
        obtain rfl : h = (cv σ 1 0 0).toNat := by omega
        refine ⟨τ, ?_, hq⟩
        have p8 : f_X4_power 10 8 τ = some (10 ^ 8, τ) := c_pow (e := 8) (by omega) τ (by omega)
        rw [f_X4_mean_34, e0, wr_of (x := ((cv σ 1 0 0).toNat : Int)) (by omega) (by omega), wr_of (x := cv σ 1 0 0) (by omega) (by omega), if_neg (by omega), p8, bI_s, lm]
        generalize hX : EX (pM v) (GM (cv σ 1) n.toNat) (cv σ 1 0 2).toNat (fun _ => false) = X at *
        generalize hMM : (cv σ 1 0 2).toNat = M at *
        have h8 : 8 - M + M = 8 := by omega
        obtain ⟨z, hz⟩ := Int.eq_ofNat_of_zero_le eb.1
        rw [hz] at eb ⊢
        have e1 : (10 : Int) ^ (8 - M) * (z : Int) = ((10 ^ (8 - M) * z : Nat) : Int) := by
          rw [Int.natCast_mul, Int.natCast_pow]; rfl
        have e3 : z ≤ 10 ^ M * 300 := by
          have h2 := eb.2
          have h3 : (10 : Int) ^ M * 300 = ((10 ^ M * 300 : Nat) : Int) := by rw [Int.natCast_mul, Int.natCast_pow]; rfl
          have h4 : ((z : Nat) : Int) ≤ ((10 ^ M * 300 : Nat) : Int) := by rw [← h3]; exact h2
          exact Int.ofNat_le.mp h4
        have e4 : 10 ^ (8 - M) * z ≤ 10 ^ 8 * 300 := by
          have h1 : 10 ^ (8 - M) * z ≤ 10 ^ (8 - M) * (10 ^ M * 300) := Nat.mul_le_mul_left _ e3
          rw [← Nat.mul_assoc, ← Nat.pow_add, h8] at h1
          exact h1
        have l := c_low (u := 10 ^ (8 - M) * z) (d := 10 ^ 8) (by omega) (by omega) (by omega) hw τ
        have e5 : lowT (10 ^ (8 - M) * z) (10 ^ 8) w = lowT z (10 ^ M) w := by
          have := lowT_mul (10 ^ (8 - M)) (Nat.pow_pos (by omega)) z (10 ^ M) w
          rw [← Nat.pow_add, h8] at this
          exact this
        rw [e5] at l
        rw [e1]
        have l' : f_X4_lowestTerms ((10 ^ (8 - M) * z : Nat) : Int) (10 ^ 8) w τ = _ := l
        rw [l', bI_s]
        rfl
      | succ k ih =>
        intro h m τ hh hm hq
        obtain ⟨m, rfl⟩ : ∃ y, m = y + 1 := ⟨m - 1, by omega⟩
        have e0 : τ 1 0 = cv σ 1 0 0 := hq 1 0 (by omega)
        have ecv := hq.cv
        have ol : bN (ownB (cv σ 1) h) 8 < 256 := bN_lt _ 8
        have eo : bo (bN (ownB (cv σ 1) h) 8) = ownB (cv σ 1) h := bo_bN (fun i hi => ownB_hi (by omega))
        have l1 := cN_le (ownB (cv σ 1) h) 8
        obtain ⟨τ1, c1, c2⟩ := c_clangs (σ := τ) (I.q hq) g1 (h := h) (N := n.toNat) (by rw [ecv]; omega) (by omega)
        rw [ecv, show ((n.toNat : Nat) : Int) = n by omega] at c1
        rw [f_X4_mean_34, e0, wr_of (x := (h : Int)) (by omega) (by omega), wr_of (x := cv σ 1 0 0) (by omega) (by omega), if_pos (by omega), c_reportsOn (q := 1) (by rw [ecv]; exact wf) (by omega), bI_s, ecv, bc_eq, bI_s, bc_8 ol, eo, c1, bI_s, show (8 : Int) - (cN (ownB (cv σ 1) h) 8 : Int) = ((8 - cN (ownB (cv σ 1) h) 8 : Nat) : Int) by omega, c_pow (by omega) τ1 (by omega), bI_s, show (h : Int) + 1 = ((h + 1 : Nat) : Int) by omega]
        exact ih (h + 1) m τ1 (by omega) (by omega) (hq.tr c2)
    exact lp (cv σ 1 0 0).toNat 0 FU σ (by omega) (by unfold FU; omega) (Qc.rf σ)
  · have wf := I.1
    have hR := wf.1
    unfold f_X5_mean S_mean
    rw [m_inw hv (by omega) (by omega), bI_s]
    by_cases g1 : 0 ≤ v ∧ v ≤ 10
    case neg => rw [if_neg (by simp only [decide_eq_true_eq]; exact g1), if_neg g1]; exact ⟨σ, rfl, Qm.rf σ⟩
    rw [if_pos (by simp [g1]), if_pos g1, m_inw hn (by omega) (by omega), bI_s]
    by_cases g2 : 0 ≤ n ∧ n ≤ 20
    case neg => rw [if_neg (by simp only [decide_eq_true_eq]; exact g2), if_neg g2]; exact ⟨σ, rfl, Qm.rf σ⟩
    rw [if_pos (by simp [g2]), if_pos g2, m_inw hw (by omega) (by omega), bI_s]
    by_cases g5 : 0 ≤ w ∧ w ≤ 1
    case neg => rw [if_neg (by simp only [decide_eq_true_eq]; exact g5), if_neg g5]; exact ⟨σ, rfl, Qm.rf σ⟩
    rw [if_pos (by simp [g5]), if_pos g5]
    have hM := wf.2.2.1
    have hd := I.2.1
    have p8 : 2 ^ (mv σ 0 0 2).toNat ≤ 2 ^ 8 := Nat.pow_le_pow_right (by omega) (by omega)
    obtain ⟨τ', f1, f2⟩ := m_by I (v := v) (h := -4) (e := 0) (d := n) (w := w) g1 hw (GM_bd wf (n := n.toNat) (by omega)) (fun s hs τ hq h18 => by
      have em := hq.mv I
      obtain ⟨τ2, d1, -, -, -, d3⟩ := m_daysGo (σ := τ) (a := 0) (N := n.toNat) (by omega) (by show WF (mv τ 0); rw [em]; exact wf) (by show mv τ 0 0 3 + _ ≤ _; rw [em]; omega) (by omega)
      refine ⟨τ2, ?_, hq.tr d3.Q.F⟩
      unfold evM
      rw [if_pos rfl]
      have d1' : f_X5_daysGo 0 (n.toNat : Int) τ = some (sumR (mv τ 0) (τ 51 18) n.toNat, τ2) := d1
      rw [show ((n.toNat : Nat) : Int) = n by omega, em, h18, sumR_cl] at d1'
      rw [d1']
      unfold GM gH
      rw [bN_bo 8 s (by omega)])
    rw [f1, bI_s]
    exact ⟨τ', rfl, f2⟩
