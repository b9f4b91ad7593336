/-! ===== pure part 23: luck, both sides ===== -/
def Qf (σ σ' : St) : Prop := (∀ k j, k ≠ 51 → k ≠ 52 → k ≠ 58 → σ' k j = σ k j) ∧ (∀ j, j ≠ 18 → j ≠ 19 → j ≠ 20 → j ≠ 21 → σ' 51 j = σ 51 j) ∧ ∀ x, 0 ≤ x → x < 165 → rd σ' 52 x = rd σ 52 x
theorem Qf.rf (σ : St) : Qf σ σ := ⟨fun _ _ _ _ _ => rfl, fun _ _ _ _ _ => rfl, fun _ _ _ => rfl⟩
theorem Qf.tr {a b c : St} (h1 : Qf a b) (h2 : Qf b c) : Qf a c := ⟨fun k j x y z => (h2.1 k j x y z).trans (h1.1 k j x y z), fun j x y z w => (h2.2.1 j x y z w).trans (h1.2.1 j x y z w), fun x y z => (h2.2.2 x y z).trans (h1.2.2 x y z)⟩
theorem Qm.F {a b : St} (h : Qm a b) : Qf a b := ⟨h.1, fun j _ x y z => h.2.1 j x y z, h.2.2⟩
theorem Qf.p (v : Int) (σ : St) : Qf σ (up σ 51 18 v) := ⟨fun k j x _ _ => by rw [up_at, if_neg (by omega)], fun j x _ _ _ => by rw [up_at, if_neg (by omega)], fun x _ _ => rd_up (by decide)⟩
theorem Qf.m {σ τ : St} (h : Qf σ τ) (h0 : σ 51 18 = 0) : Qm σ (up τ 51 18 0) := by
  refine ⟨fun k j x y z => ?_, fun j x y z => ?_, fun x y z => ?_⟩
  · rw [up_at, if_neg (by omega)]; exact h.1 k j x y z
  · by_cases c : j = 18
    · subst c; rw [up_at, if_pos ⟨rfl, rfl⟩, h0]
    · rw [up_at, if_neg (by omega)]; exact h.2.1 j c x y z
  · rw [rd_up (by decide)]; exact h.2.2 x y z
theorem Qf.mv {σ τ : St} (h : Qf σ τ) (I : Im σ) : mv τ 0 = mv σ 0 :=
  mv_ext (h.2.1 1 (by omega) (by omega) (by omega) (by omega)) I.1.1.2 I.1.2.2.1.2 (fun x h0 h1 => by rw [Int.zero_add]; exact h.2.2 x h0 (by omega))
/-- what one set of false reports makes -/
def evM (h e d : Int) (τ : St) : Option (Int × St) := if wr h = wr (-4) then f_X5_daysGo 0 d τ else bI (f_X5_believedOn 0 h d τ) fun v s => if wr v = wr e then some (1, s) else some (0, s)
theorem by_end (K : Int → Int → Int → Int → Int → Int → Int → Int → St → Option (Int × St)) (v h e d w up8 den s odds : Int) (τ : St) : (if wr h = wr (-4) then bI (f_X5_daysGo 0 d τ) fun v122 s122 => f_X5_byFalse_145 K v h e d w den s up8 odds v122 s122 else bI (f_X5_believedOn 0 h d τ) fun v133 s133 => if wr v133 = wr e then f_X5_byFalse_145 K v h e d w den s up8 odds 1 s133 else f_X5_byFalse_145 K v h e d w den s up8 odds 0 s133) = bI (evM h e d τ) fun x t => f_X5_byFalse_145 K v h e d w den s up8 odds x t := by
  unfold evM
  by_cases c : wr h = wr (-4)
  · rw [if_pos c, if_pos c]
  · rw [if_neg c, if_neg c]
    cases f_X5_believedOn 0 h d τ with
    | none => rfl
    | some p =>
      obtain ⟨x, t⟩ := p
      rw [bI_s, bI_s]
      by_cases c2 : wr x = wr e
      · rw [if_pos c2, if_pos c2, bI_s]
      · rw [if_neg c2, if_neg c2, bI_s]
theorem m_by {σ : St} (I : Im σ) {v h e d w : Int} (hv : 0 ≤ v ∧ v ≤ 10) (hw : IR w) {G : (Nat → Bool) → Int} (hG : ∀ b, 0 ≤ G b ∧ G b ≤ 300)
    (hev : ∀ s : Nat, s < 2 ^ (mv σ 0 0 2).toNat → ∀ τ, Qf σ τ → τ 51 18 = s → ∃ τ', evM h e d τ = some (G (bo s), τ') ∧ Qf σ τ') :
    ∃ τ', f_X5_byFalse v h e d w σ = some (lowT (EX (pM v) G (mv σ 0 0 2).toNat (fun _ => false)).toNat (10 ^ (mv σ 0 0 2).toNat) w, τ') ∧ Qm σ τ' := by
  have hM := I.1.2.2.1
  generalize eM : (mv σ 0 0 2).toNat = M at *
  have hM8 : M ≤ 8 := by omega
  have p8 : 2 ^ M ≤ 2 ^ 8 := Nat.pow_le_pow_right (by omega) hM8
  have M2 : ∀ τ, Qf σ τ → rd τ 52 52 = M := by
    intro τ hq
    rw [hq.2.2 52 (by omega) (by omega)]
    have : rd σ 52 52 = mv σ 0 0 2 := rfl
    omega
  -- the odds of one set
  have odds : ∀ (K : Int → Int → Int → Int → Int → Int → Int → Int → St → Option (Int × St)) (s : Nat) (up8 den : Int) (τ : St), s < 2 ^ M → Qf σ τ → ∀ (k i n : Nat), i + k = M → k < n → f_X5_byFalse_58 K n v h e d w up8 den s (prodN (fun i => pM v i (bo s i)) i) i τ = bI (evM h e d (up τ 51 18 s)) fun x t => f_X5_byFalse_145 K v h e d w den s up8 (prodN (fun i => pM v i (bo s i)) M) x t := by
    intro K s up8 den τ hs hq k
    induction k with
    | zero =>
      intro i n hi hn
      obtain ⟨n, rfl⟩ : ∃ y, n = y + 1 := ⟨n - 1, by omega⟩
      obtain rfl : i = M := by omega
      rw [f_X5_byFalse_58, ld_of (by omega) (by omega) (by omega), bV_s, M2 τ hq, if_neg (by omega)]
      unfold pf
      rw [bV_s, by_end]
    | succ k ih =>
      intro i n hi hn
      obtain ⟨n, rfl⟩ : ∃ y, n = y + 1 := ⟨n - 1, by omega⟩
      have h1 := ih (i + 1) n (by omega) (by omega)
      rw [prodN] at h1
      rw [f_X5_byFalse_58, ld_of (by omega) (by omega) (by omega), bV_s, M2 τ hq, wr_of (x := (i : Int)) (by omega) (by omega), wr_of (x := (M : Int)) (by omega) (by omega), if_pos (by omega)]
      unfold f_X5_byFalse_93
      rw [show (i : Int) + 1 = ((i + 1 : Nat) : Int) by omega, wr_of (x := v) (by omega) (by omega), wr_of (x := 10 - v) (by omega) (by omega)]
      cases hb : bo s i with
      | true =>
        rw [if_pos ((nat_bit1 (by omega) (by omega)).mpr hb)]
        rw [hb] at h1
        exact h1
      | false =>
        rw [if_neg (fun z => by rw [(nat_bit1 (by omega) (by omega)).mp z] at hb; cases hb)]
        rw [hb] at h1
        exact h1
  have eb := EX_bd (p := pM v) (G := G) (B := 300) (by omega) (fun i x => by unfold pM; split <;> omega) (fun i => by simp [pM]) hG M (fun _ => false)
  have pw : (10 : Int) ^ M ≤ 10 ^ 8 := by
    have z : (10 : Nat) ^ M ≤ 10 ^ 8 := Nat.pow_le_pow_right (by omega) hM8
    exact_mod_cast z
  have pw0 : (0 : Int) < 10 ^ M := Int.pow_pos (by omega)
  have sumE := sum_EX (pM v) G M (fun _ => false)
  have sums : ∀ (k s n : Nat) (τ : St), s + k = 2 ^ M → k < n → Qf σ τ → ∃ τ', f_X5_byFalse_38 n v h e d w (sumN (fun s => prodN (fun i => pM v i (bo s i)) M * G (mix M (bo s) (fun _ => false))) s) (10 ^ M) s τ = some (lowT (EX (pM v) G M (fun _ => false)).toNat (10 ^ M) w, τ') ∧ Qm σ τ' := by
    intro k
    induction k with
    | zero =>
      intro s n τ hs hn hq
      obtain ⟨n, rfl⟩ : ∃ y, n = y + 1 := ⟨n - 1, by omega⟩
      obtain rfl : s = 2 ^ M := by omega
      refine ⟨up τ 51 18 0, ?_, hq.m I.2.2⟩
      rw [f_X5_byFalse_38, ld_of (by omega) (by omega) (by omega), bV_s, M2 τ hq, islN (by omega), if_neg (by omega)]
      unfold pf
      rw [bV_s, sumE]
      have l := m_low (u := (EX (pM v) G M (fun _ => false)).toNat) (d := 10 ^ M) (by have : (10 : Int) ^ M * 300 ≤ 10 ^ 8 * 300 := Int.mul_le_mul_of_nonneg_right pw (by omega); omega) (Nat.pow_pos (by omega)) (by
        have : 10 ^ M ≤ 10 ^ 8 := Nat.pow_le_pow_right (by omega) hM8
        omega) hw (up τ 51 18 0)
      rw [show (((EX (pM v) G M (fun _ => false)).toNat : Nat) : Int) = EX (pM v) G M (fun _ => false) by omega, Int.natCast_pow] at l
      have l' : f_X5_lowest (EX (pM v) G M fun x => false) (10 ^ M) w (up τ 51 18 0) = _ := l
      rw [l', bI_s]
    | succ k ih =>
      intro s n τ hs hn hq
      obtain ⟨n, rfl⟩ : ∃ y, n = y + 1 := ⟨n - 1, by omega⟩
      obtain ⟨τ1, a1, a2⟩ := hev s (by omega) (up τ 51 18 s) (hq.tr (Qf.p _ τ)) (by rw [up_at, if_pos ⟨rfl, rfl⟩])
      have o := odds (f_X5_byFalse_38 n) s (sumN (fun s => prodN (fun i => pM v i (bo s i)) M * G (mix M (bo s) (fun _ => false))) s) (10 ^ M) τ (by omega) hq M 0 FU (by omega) (by unfold FU; omega)
      have o' : f_X5_byFalse_58 (f_X5_byFalse_38 n) FU v h e d w (sumN (fun s => prodN (fun i => pM v i (bo s i)) M * G (mix M (bo s) (fun _ => false))) s) (10 ^ M) s 1 0 τ = _ := o
      have gb := hG (bo s)
      rw [f_X5_byFalse_38, ld_of (by omega) (by omega) (by omega), bV_s, M2 τ hq, islN (by omega), wr_of (x := (s : Int)) (by omega) (by omega), wr_of (x := ((2 ^ M : Nat) : Int)) (by omega) (by omega), if_pos (by omega), o', a1, bI_s]
      unfold f_X5_byFalse_145
      rw [wr_of (x := G (bo s)) (by omega) (by omega), show (s : Int) + 1 = ((s + 1 : Nat) : Int) by omega]
      have h1 := ih (s + 1) n τ1 (by omega) (by omega) a2
      rw [sumN, mix_bo (show s < 2 ^ M by omega)] at h1
      exact h1
  have tens : ∀ (k i n : Nat), i + k = M → k < n → f_X5_byFalse_9 n v h e d w 0 (10 ^ i) i σ = f_X5_byFalse_38 FU v h e d w 0 (10 ^ M) 0 σ := by
    intro k
    induction k with
    | zero =>
      intro i n hi hn
      obtain ⟨n, rfl⟩ : ∃ y, n = y + 1 := ⟨n - 1, by omega⟩
      obtain rfl : i = M := by omega
      rw [f_X5_byFalse_9, ld_of (by omega) (by omega) (by omega), bV_s, M2 σ (Qf.rf σ), if_neg (by omega)]
    | succ k ih =>
      intro i n hi hn
      obtain ⟨n, rfl⟩ : ∃ y, n = y + 1 := ⟨n - 1, by omega⟩
      rw [f_X5_byFalse_9, ld_of (by omega) (by omega) (by omega), bV_s, M2 σ (Qf.rf σ), wr_of (x := (i : Int)) (by omega) (by omega), wr_of (x := (M : Int)) (by omega) (by omega), if_pos (by omega), show (i : Int) + 1 = ((i + 1 : Nat) : Int) by omega, ← Int.pow_succ]
      exact ih (i + 1) n (by omega) (by omega)
  have t := tens M 0 FU (by omega) (by unfold FU; omega)
  have t' : f_X5_byFalse_9 FU v h e d w 0 1 0 σ = _ := t
  unfold f_X5_byFalse
  rw [t']
  exact sums (2 ^ M) 0 FU σ (by omega) (by unfold FU; omega) (Qf.rf σ)
def S_luck (v h e d w : Int) (P : Pg) : Int := if 0 ≤ v ∧ v ≤ 10 then (if 0 ≤ h ∧ h < P 0 0 then (if 0 ≤ e ∧ e ≤ 3 then (if 0 ≤ d ∧ d ≤ 99 then (if 0 ≤ w ∧ w ≤ 1 then lowT (EX (pM v) (GL P h d e) (P 0 2).toNat (fun _ => false)).toNat (10 ^ (P 0 2).toNat) w else -1) else -1) else -1) else -1) else -1
theorem GL_bd (P : Pg) (h d e : Int) (b : Nat → Bool) : 0 ≤ GL P h d e b ∧ GL P h d e b ≤ 300 := by unfold GL; split <;> omega
theorem GL_own {P : Pg} (wf : WF P) {h d e : Int} : ∀ b b' : Nat → Bool, (∀ i, ownB P h i = true → b i = b' i) → GL P h d e b = GL P h d e b' := by
  intro b b' hb
  unfold GL
  rw [bel_own wf hb]
/-- own reports alone: the same terms -/
theorem low_own {P : Pg} (wf : WF P) {h v : Int} (hv : 0 ≤ v ∧ v ≤ 10) {G : (Nat → Bool) → Int} (hb : ∀ b, 0 ≤ G b ∧ G b ≤ 300) (hG : ∀ b b' : Nat → Bool, (∀ i, ownB P h i = true → b i = b' i) → G b = G b') (w : Int) : lowT (EX (pO v (ownB P h)) G 8 (fun _ => false)).toNat (10 ^ (cN (ownB P h) 8)) w = lowT (EX (pM v) G (P 0 2).toNat (fun _ => false)).toNat (10 ^ (P 0 2).toNat) w := by
  have hM := wf.2.2.1
  generalize eM : (P 0 2).toNat = M at *
  have h8 : M + (8 - M) = 8 := by omega
  have m1 := EX_more (G := G) (own := ownB P h) v (M := M) (fun i hi => ownB_hi (by omega)) (8 - M)
  have m2 := cN_more (c := ownB P h) (M := M) (fun i hi => ownB_hi (by omega)) (8 - M)
  rw [h8] at m1 m2
  have eo := EX_own v hG M (fun _ => false)
  have b := EX_bd (p := pO v (ownB P h)) (G := G) (B := 300) (by omega) (fun i x => by unfold pO; split <;> split <;> omega) (fun i => by simp only [pO]; split <;> simp <;> omega) hb M (fun _ => false)
  have nn := nno_cN (ownB P h) M
  have e10 : (10 : Nat) ^ M = 10 ^ (nno (ownB P h) M) * 10 ^ (cN (ownB P h) M) := by
    rw [← Nat.pow_add, nn]
  rw [m1, m2, eo, e10]
  have et : (10 ^ nno (ownB P h) M * EX (pO v (ownB P h)) G M (fun _ => false)).toNat = 10 ^ nno (ownB P h) M * (EX (pO v (ownB P h)) G M (fun _ => false)).toNat := by
    obtain ⟨z, hz⟩ := Int.eq_ofNat_of_zero_le b.1
    rw [hz]
    have : (10 : Int) ^ nno (ownB P h) M * (z : Int) = ((10 ^ nno (ownB P h) M * z : Nat) : Int) := by
      rw [Int.natCast_mul, Int.natCast_pow]; rfl
    rw [this, Int.toNat_natCast, Int.toNat_natCast]
  rw [et, lowT_mul _ (Nat.pow_pos (by omega))]
theorem q_luck {v h e d w : Int} (hv : IR v) (hh : IR h) (he : IR e) (hd : IR d) (hw : IR w) : Qry (f_X4_luck v h e d w) (f_X5_luck v h e d w) (S_luck v h e d w) := by
  have w256 : wr 256 = 256 := by decide
  refine ⟨fun σ I => ?_, fun σ I => ?_⟩
  · have wf := I.1
    have hR := wf.1
    unfold f_X4_luck S_luck
    rw [c_isOdds hv, bI_s]
    by_cases g1 : 0 ≤ v ∧ v ≤ 10
    case neg => rw [if_neg (by simp only [decide_eq_true_eq]; exact g1), if_neg g1]; exact ⟨σ, rfl, Qc.rf σ⟩
    rw [if_pos (by simp [g1]), if_pos g1, c_isRider hh hR, bI_s]
    by_cases g2 : 0 ≤ h ∧ h < cv σ 1 0 0
    case neg => rw [if_neg (by simp only [decide_eq_true_eq]; exact g2), if_neg g2]; exact ⟨σ, rfl, Qc.rf σ⟩
    rw [if_pos (by simp [g2]), if_pos g2, c_isEnd he, bI_s]
    by_cases g3 : 0 ≤ e ∧ e ≤ 3
    case neg => rw [if_neg (by simp only [decide_eq_true_eq]; exact g3), if_neg g3]; exact ⟨σ, rfl, Qc.rf σ⟩
    rw [if_pos (by simp [g3]), if_pos g3, c_isDay hd, bI_s]
    by_cases g4 : 0 ≤ d ∧ d ≤ 99
    case neg => rw [if_neg (by simp only [decide_eq_true_eq]; exact g4), if_neg g4]; exact ⟨σ, rfl, Qc.rf σ⟩
    rw [if_pos (by simp [g4]), if_pos g4, c_isChoice hw, bI_s]
    by_cases g5 : 0 ≤ w ∧ w ≤ 1
    case neg => rw [if_neg (by simp only [decide_eq_true_eq]; exact g5), if_neg g5]; exact ⟨σ, rfl, Qc.rf σ⟩
    rw [if_pos (by simp [g5]), if_pos g5]
    obtain ⟨σ1, b1, b2, b3, b4⟩ := c_trial I
    have e1 : cv σ1 1 = cv σ 1 := b2.cv
    rw [b1, bV_s, c_reportsOn (q := 1) (σ := σ1) (by rw [e1]; exact wf) hh, bI_s, e1]
    have ol : bN (ownB (cv σ 1) h) 8 < 256 := bN_lt _ 8
    have eo : bo (bN (ownB (cv σ 1) h) 8) = ownB (cv σ 1) h := bo_bN (fun i hi => ownB_hi (by have := wf.2.2.1; omega))
    generalize hP : cv σ 1 = P at *
    generalize hown : ownB P h = own at *
    have lo := low_own wf (h := h) g1 (GL_bd P h d e) (GL_own wf) w
    rw [hown] at lo
    rw [← lo]
    have b := EX_bd (p := pO v own) (G := GL P h d e) (B := 300) (by omega) (fun i x => by unfold pO; split <;> split <;> omega) (fun i => by simp only [pO]; split <;> simp <;> omega) (GL_bd P h d e) 8 (fun _ => false)
    have sumE := sum_EX (pO v own) (GL P h d e) 8 (fun _ => false)
    have lp : ∀ (k s n : Nat) (τ : St), s + k = 256 → k < n → cv τ 11 = P → ∃ τ', f_X4_luck_69 n v h e d w (bN own 8 : Int) (sumN (fun s => prodN (fun i => pO v own i (bo s i)) 8 * GL P h d e (mix 8 (bo s) (fun _ => false))) s) s τ = some (lowT (EX (pO v own) (GL P h d e) 8 (fun _ => false)).toNat (10 ^ (cN own 8)) w, τ') ∧ Qc τ τ' := by
      intro k
      induction k with
      | zero =>
        intro s n τ hs hn hv11
        obtain ⟨n, rfl⟩ : ∃ y, n = y + 1 := ⟨n - 1, by omega⟩
        obtain rfl : s = 256 := by omega
        have l1 := cN_le own 8
        refine ⟨τ, ?_, Qc.rf τ⟩
        rw [f_X4_luck_69, if_neg (by decide), bc_eq, bI_s, bc_8 ol, eo, c_pow (by omega) τ (by omega), bI_s]
        rw [show (2 : Nat) ^ 8 = 256 from rfl] at sumE
        rw [sumE]
        have l := c_low (u := (EX (pO v own) (GL P h d e) 8 (fun _ => false)).toNat) (d := 10 ^ (cN own 8)) (by omega) (Nat.pow_pos (by omega)) (by
          have : 10 ^ (cN own 8) ≤ 10 ^ 8 := Nat.pow_le_pow_right (by omega) l1
          omega) hw τ
        rw [show (((EX (pO v own) (GL P h d e) 8 (fun _ => false)).toNat : Nat) : Int) = EX (pO v own) (GL P h d e) 8 (fun _ => false) by omega, Int.natCast_pow] at l
        have l' : f_X4_lowestTerms (EX (pO v own) (GL P h d e) 8 (fun _ => false)) (10 ^ cN own 8) w τ = _ := l
        rw [l', bI_s]
      | succ k ih =>
        intro s n τ hs hn hv11
        obtain ⟨n, rfl⟩ : ∃ y, n = y + 1 := ⟨n - 1, by omega⟩
        have cs : cv (up τ 11 11 s) 11 = P := by
          rw [← hv11]
          exact cv_ext (fun r j hr h0 => by rw [up_at, if_neg (by omega)])
        rw [f_X4_luck_69, w256, wr_of (x := (s : Int)) (by omega) (by omega), if_pos (by omega)]
        unfold pf
        rw [bV_s]
        unfold f_X4_luck_123
        rw [show (s : Int) + 1 = ((s + 1 : Nat) : Int) by omega]
        have q1 : Qc τ (up τ 11 11 s) := Qc.p (by omega)
        by_cases c : wr (iad (s : Int) (ixd (bN own 8 : Int) (-1))) = 0
        · rw [if_pos c]
          have sub := (sub_iff (by omega) ol).mp c
          rw [eo] at sub
          obtain ⟨τ2, d1, d2⟩ := c_bel (q := 11) (σ := up τ 11 11 s) (by rw [cs]; exact wf) (h := h) (d := d) (by omega) (by omega)
          rw [cs, up_at, if_pos ⟨rfl, rfl⟩] at d1
          have bb := bel_bd wf (s : Int) h d
          rw [d1, bI_s, wr_of (x := bel P s h d) (by omega) (by omega), wrI he]
          have eG : GL P h d e (mix 8 (bo s) (fun _ => false)) = if bel P s h d = e then 1 else 0 := by
            rw [mix_bo (show s < 2 ^ 8 by omega)]
            unfold GL
            rw [bN_bo 8 s (by omega)]
          obtain ⟨τ', f1, f2⟩ := ih (s + 1) n τ2 (by omega) (by omega) (by rw [d2.cv]; exact cs)
          rw [sumN, eG] at f1
          refine ⟨τ', ?_, (q1.tr d2.Q11).tr f2⟩
          by_cases c2 : bel P s h d = e
          · rw [if_pos c2, c_odds g1 (by omega) ol eo sub, bI_s]
            rw [if_pos c2, Int.mul_one] at f1
            exact f1
          · rw [if_neg c2]
            rw [if_neg c2, Int.mul_zero, Int.add_zero] at f1
            exact f1
        · rw [if_neg c]
          have nsub : ∃ i, i < 8 ∧ bo s i = true ∧ own i = false := by
            apply Classical.byContradiction
            intro hn
            apply c
            rw [sub_iff (by omega) ol, eo]
            intro i hi hb
            cases ho : own i with
            | true => rfl
            | false => exact absurd ⟨i, hi, hb, ho⟩ hn
          obtain ⟨i, hi, hb, ho⟩ := nsub
          obtain ⟨τ', f1, f2⟩ := ih (s + 1) n (up τ 11 11 s) (by omega) (by omega) cs
          rw [sumN, prodO_0 8 i hi hb ho, Int.zero_mul, Int.add_zero] at f1
          exact ⟨τ', f1, q1.tr f2⟩
    obtain ⟨τ', f1, f2⟩ := lp 256 0 FU σ1 (by omega) (by unfold FU; omega) b3
    exact ⟨τ', f1, b2.tr f2⟩
  · have wf := I.1
    have hR := wf.1
    unfold f_X5_luck S_luck
    rw [m_inw hv (by omega) (by omega), bI_s]
    by_cases g1 : 0 ≤ v ∧ v ≤ 10
    case neg => rw [if_neg (by simp only [decide_eq_true_eq]; exact g1), if_neg g1]; exact ⟨σ, rfl, Qm.rf σ⟩
    rw [if_pos (by simp [g1]), if_pos g1, m_isRider (p := 0) hh hR, bI_s]
    by_cases g2 : 0 ≤ h ∧ h < mv σ 0 0 0
    case neg => rw [if_neg (by simp only [decide_eq_true_eq]; exact g2), if_neg g2]; exact ⟨σ, rfl, Qm.rf σ⟩
    rw [if_pos (by simp [g2]), if_pos g2, m_isEnd he, bI_s]
    by_cases g3 : 0 ≤ e ∧ e ≤ 3
    case neg => rw [if_neg (by simp only [decide_eq_true_eq]; exact g3), if_neg g3]; exact ⟨σ, rfl, Qm.rf σ⟩
    rw [if_pos (by simp [g3]), if_pos g3, m_isDay hd, bI_s]
    by_cases g4 : 0 ≤ d ∧ d ≤ 99
    case neg => rw [if_neg (by simp only [decide_eq_true_eq]; exact g4), if_neg g4]; exact ⟨σ, rfl, Qm.rf σ⟩
    rw [if_pos (by simp [g4]), if_pos g4, m_inw hw (by omega) (by omega), bI_s]
    by_cases g5 : 0 ≤ w ∧ w ≤ 1
    case neg => rw [if_neg (by simp only [decide_eq_true_eq]; exact g5), if_neg g5]; exact ⟨σ, rfl, Qm.rf σ⟩
    rw [if_pos (by simp [g5]), if_pos g5]
    have hM := wf.2.2.1
    have p8 : 2 ^ (mv σ 0 0 2).toNat ≤ 2 ^ 8 := Nat.pow_le_pow_right (by omega) (by omega)
    obtain ⟨τ', f1, f2⟩ := m_by I (v := v) (h := h) (e := e) (d := d) (w := w) g1 hw (GL_bd (mv σ 0) h d e) (fun s hs τ hq h18 => by
      refine ⟨τ, ?_, hq⟩
      have em := hq.mv I
      unfold evM
      rw [if_neg (by rw [wrI hh]; have : wr (-4) = -4 := by decide
                     omega)]
      have mb := m_bel (p := 0) (σ := τ) (by omega) (by rw [em]; exact wf) (h := h) (d := d) (by omega) (by omega)
      rw [em, h18] at mb
      have bb := bel_bd wf (s : Int) h d
      rw [mb, bI_s, wr_of (x := bel (mv σ 0) s h d) (by omega) (by omega), wrI he]
      unfold GL
      rw [bN_bo 8 s (by omega)]
      split <;> rfl)
    rw [f1, bI_s]
    exact ⟨τ', rfl, f2⟩
