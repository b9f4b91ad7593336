/-! ===== pure part 26: changes of the page ===== -/
theorem FrM.p0 {a b : St} (h : FrM 0 a b) : Qp a b := ⟨fun k j x y _ => h.1 k j x y, fun j x _ _ => h.2.1 j x, fun x y z => h.2.2 x (by omega) (by omega)⟩
theorem Qk.u {σ : St} {k : Nat} {x v : Int} (h : 1 ≤ k ∧ k ≤ 20) : Qk σ (ups σ k x v) := fun b j hb => ups_at (by omega)
theorem Qk.p {σ : St} {k j : Nat} {v : Int} (h : 1 ≤ k ∧ k ≤ 20) : Qk σ (up σ k j v) := fun b i hb => by rw [up_at, if_neg (by omega)]
theorem wf_up3 {P : Pg} (wf : WF P) {h v : Int} (hv : 1 ≤ v ∧ v ≤ 99) : WF (upP P 3 h v) := by
  obtain ⟨w0, w1, w2, w3, w4, w5, w6, w7⟩ := wf
  refine ⟨w0, w1, w2, w3, w4, ?_, w6, w7⟩
  intro i h0 h1
  obtain ⟨a1, a2, a3⟩ := w5 i h0 h1
  refine ⟨a1, a2, ?_⟩
  show 1 ≤ (if (3 : Nat) = 3 ∧ i = h then v else P 3 i) ∧ (if (3 : Nat) = 3 ∧ i = h then v else P 3 i) ≤ 99
  split
  · exact hv
  · exact a3
/-- a row's place in use is exchanged: class -/
theorem c_exch {σ : St} (I : Ic σ) {r0 : Nat} {n : Nat} {h v : Int} (hr : 1 ≤ r0 ∧ r0 ≤ 3 ∧ n = 5) (h0 : 0 ≤ h) (h1 : h < cv σ 1 0 0) : ∃ σ', f_X4_exchange (1 + r0) n h v σ = some (cv σ 1 r0 h, σ') ∧ cv σ' 1 = upP (cv σ 1) r0 h v ∧ σ' 1 11 = 0 ∧ Qk σ σ' := by
  have hR := I.1.1
  have lv : lvM (σ 1 0) (σ 1 6) r0 h := by
    rcases (show r0 = 1 ∨ r0 = 2 ∨ r0 = 3 by omega) with rfl | rfl | rfl <;> exact ⟨h0, h1⟩
  have e : rd σ (1 + r0) h = cv σ 1 r0 h := by
    rcases (show r0 = 1 ∨ r0 = 2 ∨ r0 = 3 by omega) with rfl | rfl | rfl
    · exact cv_k h0 h1
    · exact cv_u h0 h1
    · exact cv_w h0 h1
  refine ⟨ups σ (1 + r0) h v, ?_, cv_setR (by omega) h0 lv, by rw [ups_at (by omega)]; exact I.2.2, Qk.u (by omega)⟩
  unfold f_X4_exchange
  rw [hr.2.2, ld_of h0 (by omega) (by omega), bV_s, sv_of h0 (by omega) (by omega), bV_s, e]
theorem m_puts0 {x y z : Int} {σ : St} : f_X5_puts 0 x y z σ = some (-1, σ) := by
  unfold f_X5_puts
  rw [if_pos (by decide)]
theorem m_puts1 {x y z : Int} {σ : St} (h0 : 0 ≤ x ∧ x < 330) : f_X5_puts 1 x y z σ = some (rd σ 52 x + z, ups σ 52 x (y - z)) := by
  unfold f_X5_puts
  rw [if_neg (by decide), ld_of h0.1 (by omega) (by omega), bV_s, sv_of h0.1 (by omega) (by omega), bV_s]
def gA (h w v : Int) (P : Pg) : Prop := (0 ≤ h ∧ h < P 0 0) ∧ ((w = 0 ∧ 0 ≤ v ∧ v ≤ 3) ∨ (w = 1 ∧ 0 ≤ v ∧ v ≤ 15) ∨ (w = 2 ∧ 1 ≤ v ∧ v ≤ 99))
theorem gA_dec (h w v : Int) (P : Pg) : gA h w v P ∨ ¬ gA h w v P := Classical.em _
noncomputable def R_alter (h w v : Int) (P : Pg) : Int := @ite _ (gA h w v P) (Classical.propDecidable _) (P (w + 1).toNat h) (-1)
noncomputable def T_alter (h w v : Int) (P : Pg) : Pg := @ite _ (gA h w v P) (Classical.propDecidable _) (upP P (w + 1).toNat h v) P
theorem u_alter {h w v : Int} (hh : IR h) (hw : IR w) (hv : IR v) : Upd (f_X4_alter h w v) (f_X5_alter h w v) (R_alter h w v) (T_alter h w v) := by
  have yes : ∀ P, gA h w v P → R_alter h w v P = P (w + 1).toNat h ∧ T_alter h w v P = upP P (w + 1).toNat h v := fun P g => ⟨by unfold R_alter; rw [if_pos g], by unfold T_alter; rw [if_pos g]⟩
  have no : ∀ P, ¬ gA h w v P → R_alter h w v P = -1 ∧ T_alter h w v P = P := fun P g => ⟨by unfold R_alter; rw [if_neg g], by unfold T_alter; rw [if_neg g]⟩
  have w1 : wr 1 = 1 := by decide
  have w2 : wr 2 = 2 := by decide
  refine ⟨fun P wf hd => ?_, fun σ I => ?_, fun σ I => ?_⟩
  · rcases gA_dec h w v P with g | g
    · rw [(yes P g).2]
      rcases g.2 with ⟨rfl, c⟩ | ⟨rfl, c⟩ | ⟨rfl, c⟩
      · exact ⟨wf_up1 wf (by omega), hd, rfl⟩
      · exact ⟨wf_up2 wf (by omega), hd, rfl⟩
      · exact ⟨wf_up3 wf (by omega), hd, rfl⟩
    · rw [(no P g).2]
      exact ⟨wf, hd, rfl⟩
  · have hR := I.1.1
    have bad : ¬ gA h w v (cv σ 1) → ∃ σ', (some ((-1 : Int), σ) : Option (Int × St)) = some (R_alter h w v (cv σ 1), σ') ∧ cv σ' 1 = T_alter h w v (cv σ 1) ∧ σ' 1 11 = 0 ∧ Qk σ σ' := fun g => by
      rw [(no _ g).1, (no _ g).2]
      exact ⟨σ, rfl, rfl, I.2.2, Qk.rf σ⟩
    unfold f_X4_alter
    rw [c_isRider hh hR, bI_s, wrI hw]
    by_cases g : 0 ≤ h ∧ h < cv σ 1 0 0
    case neg => rw [if_neg (by simp only [decide_eq_true_eq]; exact g)]; exact bad (fun z => g z.1)
    rw [if_pos (by simp [g])]
    by_cases c0 : w = 0
    · rw [if_pos c0, c_win hv (by omega) (by omega), bI_s]
      by_cases g2 : 0 ≤ v ∧ v ≤ 3
      · have ga : gA h w v (cv σ 1) := ⟨g, Or.inl ⟨c0, g2⟩⟩
        obtain ⟨σ', a, b, c, d⟩ := c_exch I (r0 := 1) (n := 5) (v := v) (by omega) g.1 g.2
        rw [if_pos (by simp [g2]), (yes _ ga).1, (yes _ ga).2, a, bI_s, c0]
        exact ⟨σ', rfl, b, c, d⟩
      · rw [if_neg (by simp only [decide_eq_true_eq]; exact g2)]; exact bad (fun z => by have := z.2; omega)
    rw [if_neg c0]
    by_cases c1 : w = 1
    · rw [if_pos c1, c_win hv (by omega) (by omega), bI_s]
      by_cases g2 : 0 ≤ v ∧ v ≤ 15
      · have ga : gA h w v (cv σ 1) := ⟨g, Or.inr (Or.inl ⟨c1, g2⟩)⟩
        obtain ⟨σ', a, b, c, d⟩ := c_exch I (r0 := 2) (n := 5) (v := v) (by omega) g.1 g.2
        rw [if_pos (by simp [g2]), (yes _ ga).1, (yes _ ga).2, a, bI_s, c1]
        exact ⟨σ', rfl, b, c, d⟩
      · rw [if_neg (by simp only [decide_eq_true_eq]; exact g2)]; exact bad (fun z => by have := z.2; omega)
    rw [if_neg c1]
    by_cases c2 : w = 2
    · rw [if_pos c2, c_win hv (by omega) (by omega), bI_s]
      by_cases g2 : 1 ≤ v ∧ v ≤ 99
      · have ga : gA h w v (cv σ 1) := ⟨g, Or.inr (Or.inr ⟨c2, g2⟩)⟩
        obtain ⟨σ', a, b, c, d⟩ := c_exch I (r0 := 3) (n := 5) (v := v) (by omega) g.1 g.2
        rw [if_pos (by simp [g2]), (yes _ ga).1, (yes _ ga).2, a, bI_s, c2]
        exact ⟨σ', rfl, b, c, d⟩
      · rw [if_neg (by simp only [decide_eq_true_eq]; exact g2)]; exact bad (fun z => by have := z.2; omega)
    rw [if_neg c2]
    exact bad (fun z => by have := z.2; omega)
  · have hR := I.1.1
    have hM := I.1.2.2.1
    have bad : ¬ gA h w v (mv σ 0) → ∃ σ', (some ((-1 : Int), σ) : Option (Int × St)) = some (R_alter h w v (mv σ 0), σ') ∧ mv σ' 0 = T_alter h w v (mv σ 0) ∧ Qp σ σ' := fun g => by
      rw [(no _ g).1, (no _ g).2]
      exact ⟨σ, rfl, rfl, Qp.rf σ⟩
    have fin : ∀ b : Bool, ((b = true ∧ (0 ≤ h ∧ h < mv σ 0 0 0)) ↔ gA h w v (mv σ 0)) → (b = true → w = 0 ∨ w = 1 ∨ w = 2) → ∃ σ', f_X5_alter_55 h w v (bi b) σ = some (R_alter h w v (mv σ 0), σ') ∧ mv σ' 0 = T_alter h w v (mv σ 0) ∧ Qp σ σ' := by
      intro b hb hb2
      unfold f_X5_alter_55 f_X5_alter_75 f_X5_alter_76
      rw [m_isRider (p := 0) hh hR, bI_s]
      by_cases g : 0 ≤ h ∧ h < mv σ 0 0 0
      case neg =>
        rw [if_neg (by simp only [decide_eq_true_eq]; exact g), m_puts0, bI_s]
        exact bad (fun z => g z.1)
      rw [if_pos (by simp [g])]
      cases hbb : b with
      | false =>
        rw [if_pos (by decide), m_puts0, bI_s]
        exact bad (fun z => by have := (hb.mpr z).1; rw [hbb] at this; cases this)
      | true =>
        have ga : gA h w v (mv σ 0) := hb.mp ⟨hbb, g⟩
        have w3 := hb2 hbb
        rw [if_neg (by decide), m_puts1 (by omega), bI_s, (yes _ ga).1, (yes _ ga).2]
        have lv : lvM (σ 51 1) (rd σ 52 (0 + 52)) (w + 1).toNat h := by
          rcases w3 with rfl | rfl | rfl <;> exact g
        have e1 : 5 * w + h = 0 + lcM (w + 1).toNat h := by
          rcases w3 with rfl | rfl | rfl <;> simp [lcM]
        have e2 : rd σ 52 (5 * w + h) + 0 = mv σ 0 (w + 1).toNat h := by
          rw [mv_in lv, e1]
          rcases w3 with rfl | rfl | rfl <;> rfl
        refine ⟨_, by rw [e2], ?_, Qp.u (by omega)⟩
        rw [mv_set (Int.le_refl 0) hR.2 hM.2 lv e1 (by omega)]
        rcases w3 with rfl | rfl | rfl <;> simp [acM]
    unfold f_X5_alter
    rw [wrI hw, w1, w2]
    by_cases c0 : w = 0
    · rw [if_pos c0, m_inw hv (by omega) (by omega), bI_s]
      exact fin _ ⟨fun z => ⟨z.2, Or.inl ⟨c0, of_decide_eq_true z.1⟩⟩, fun z => ⟨decide_eq_true (by have := z.2; omega), z.1⟩⟩ (fun _ => Or.inl c0)
    rw [if_neg c0]
    by_cases c1 : w = 1
    · rw [if_pos c1, m_inw hv (by omega) (by omega), bI_s]
      exact fin _ ⟨fun z => ⟨z.2, Or.inr (Or.inl ⟨c1, of_decide_eq_true z.1⟩)⟩, fun z => ⟨decide_eq_true (by have := z.2; omega), z.1⟩⟩ (fun _ => Or.inr (Or.inl c1))
    rw [if_neg c1]
    unfold f_X5_alter_54
    by_cases c2 : w = 2
    · rw [if_pos c2, m_inw hv (by omega) (by omega), bI_s]
      by_cases g2 : 1 ≤ v ∧ v ≤ 99
      · rw [if_pos (by simp [g2])]
        exact fin true ⟨fun z => ⟨z.2, Or.inr (Or.inr ⟨c2, g2⟩)⟩, fun z => ⟨rfl, z.1⟩⟩ (fun _ => Or.inr (Or.inr c2))
      · rw [if_neg (by simp only [decide_eq_true_eq]; exact g2)]
        exact fin false ⟨fun z => (by cases z.1), fun z => absurd z.2 (by omega)⟩ (fun z => by cases z)
    · rw [if_neg c2]
      exact fin false ⟨fun z => (by cases z.1), fun z => absurd z.2 (by omega)⟩ (fun z => by cases z)
def R_rely (r v : Int) (P : Pg) : Int := if (0 ≤ r ∧ r ≤ 3) ∧ 0 ≤ v ∧ v ≤ 9 then P 4 r else -1
def T_rely (r v : Int) (P : Pg) : Pg := if (0 ≤ r ∧ r ≤ 3) ∧ 0 ≤ v ∧ v ≤ 9 then upP P 4 r v else P
theorem u_rely {r v : Int} (hr : IR r) (hv : IR v) : Upd (f_X4_rely r v) (f_X5_rely r v) (R_rely r v) (T_rely r v) := by
  refine ⟨fun P wf hd => ?_, fun σ I => ?_, fun σ I => ?_⟩
  · unfold T_rely
    split
    · exact ⟨wf_up4 wf (by omega), hd, rfl⟩
    · exact ⟨wf, hd, rfl⟩
  · unfold f_X4_rely R_rely T_rely
    rw [c_isReporter hr, bI_s]
    by_cases g : 0 ≤ r ∧ r ≤ 3
    case neg => rw [if_neg (by simp only [decide_eq_true_eq]; exact g), if_neg (fun z => g z.1), if_neg (fun z => g z.1)]; exact ⟨σ, rfl, rfl, I.2.2, Qk.rf σ⟩
    rw [if_pos (by simp [g]), c_win hv (by omega) (by omega), bI_s]
    by_cases g2 : 0 ≤ v ∧ v ≤ 9
    case neg => rw [if_neg (by simp only [decide_eq_true_eq]; exact g2), if_neg (fun z => g2 z.2), if_neg (fun z => g2 z.2)]; exact ⟨σ, rfl, rfl, I.2.2, Qk.rf σ⟩
    rw [if_pos (by simp [g2]), if_pos ⟨g, g2⟩, if_pos ⟨g, g2⟩]
    unfold f_X4_exchange
    rw [ld_of g.1 (by omega) (by omega), bV_s, sv_of g.1 (by omega) (by omega), bV_s, bI_s]
    exact ⟨_, by rw [cv_t (q := 1) g.1 (by omega)], cv_setR (q := 1) (r0 := 4) (by omega) g.1 (show 0 ≤ r ∧ r < 4 by omega), by rw [ups_at (by omega)]; exact I.2.2, Qk.u (by omega)⟩
  · have hR := I.1.1
    have hM := I.1.2.2.1
    unfold f_X5_rely f_X5_rely_24 f_X5_rely_25 R_rely T_rely
    rw [m_isReporter hr, bI_s]
    by_cases g : 0 ≤ r ∧ r ≤ 3
    case neg => rw [if_neg (by simp only [decide_eq_true_eq]; exact g), if_neg (fun z => g z.1), if_neg (fun z => g z.1), m_puts0, bI_s]; exact ⟨σ, rfl, rfl, Qp.rf σ⟩
    rw [if_pos (by simp [g]), m_inw hv (by omega) (by omega), bI_s]
    by_cases g2 : 0 ≤ v ∧ v ≤ 9
    case neg => rw [if_neg (by simp only [decide_eq_true_eq]; exact g2), if_neg (fun z => g2 z.2), if_neg (fun z => g2 z.2), m_puts0, bI_s]; exact ⟨σ, rfl, rfl, Qp.rf σ⟩
    rw [if_pos (by simp [g2]), if_pos ⟨g, g2⟩, if_pos ⟨g, g2⟩, m_puts1 (by omega), bI_s]
    refine ⟨ups σ 52 (16 + r) (v - 1), ?_, ?_, Qp.u (by omega)⟩
    · rw [← mv_t (σ := σ) (p := 0) g.1 (by omega)]
      rfl
    · rw [mv_set (r0 := 4) (i0 := r) (Int.le_refl 0) hR.2 hM.2 (show 0 ≤ r ∧ r < 4 by omega) (by simp [lcM]) (by omega)]
      show upP _ 4 r (v - 1 + 1) = _
      rw [show v - 1 + 1 = v by omega]
def R_cast (v : Int) (P : Pg) : Int := if 1 ≤ v ∧ v ≤ 99 then P 0 1 else -1
def T_cast (v : Int) (P : Pg) : Pg := if 1 ≤ v ∧ v ≤ 99 then upP P 0 1 v else P
theorem u_cast {v : Int} (hv : IR v) : Upd (f_X4_cast v) (f_X5_cast v) (R_cast v) (T_cast v) := by
  refine ⟨fun P wf hd => ?_, fun σ I => ?_, fun σ I => ?_⟩
  · unfold T_cast
    split
    · exact ⟨wf_upb wf (by omega), hd, rfl⟩
    · exact ⟨wf, hd, rfl⟩
  · unfold f_X4_cast R_cast T_cast
    rw [c_win hv (by omega) (by omega), bI_s]
    by_cases g : 1 ≤ v ∧ v ≤ 99
    case neg => rw [if_neg (by simp only [decide_eq_true_eq]; exact g), if_neg g, if_neg g]; exact ⟨σ, rfl, rfl, I.2.2, Qk.rf σ⟩
    rw [if_pos (by simp [g]), if_pos g, if_pos g]
    unfold pf
    rw [bV_s]
    exact ⟨_, rfl, cv_upS (Or.inl ⟨rfl, rfl⟩), by rw [up_at, if_neg (by omega)]; exact I.2.2, Qk.p (by omega)⟩
  · have hR := I.1.1
    have hM := I.1.2.2.1
    unfold f_X5_cast R_cast T_cast
    rw [m_inw hv (by omega) (by omega), bI_s]
    by_cases g : 1 ≤ v ∧ v ≤ 99
    case neg =>
      rw [show decide (1 ≤ v ∧ v ≤ 99) = false from decide_eq_false g, if_neg g, if_neg g]
      show ∃ σ', bI (f_X5_puts 0 15 v 25 σ) _ = _ ∧ _
      rw [m_puts0, bI_s]; exact ⟨σ, rfl, rfl, Qp.rf σ⟩
    rw [show decide (1 ≤ v ∧ v ≤ 99) = true from decide_eq_true g, if_pos g, if_pos g]
    show ∃ σ', bI (f_X5_puts 1 15 v 25 σ) _ = _ ∧ _
    rw [m_puts1 (by omega), bI_s]
    refine ⟨_, rfl, ?_, Qp.u (by omega)⟩
    rw [mv_set (r0 := 0) (i0 := 1) (Int.le_refl 0) hR.2 hM.2 (Or.inl rfl) (by simp [lcM]) (by omega)]
    show upP _ 0 1 (v - 25 + 25) = _
    rw [show v - 25 + 25 = v by omega]
/-! reports that are burnt -/
def burnP (P : Pg) (n : Int) : Pg := fun r i => if r = 0 ∧ i = 2 then n else if (5 ≤ r ∧ r ≤ 8) ∧ n ≤ i then 0 else P r i
theorem burn_wf {P : Pg} (wf : WF P) {n : Int} (h : 0 ≤ n ∧ n ≤ P 0 2) : WF (burnP P n) := by
  obtain ⟨w0, w1, w2, w3, w4, w5, w6, w7⟩ := wf
  refine ⟨w0, w1, ?_, w3, w4, w5, w6, ?_⟩
  · show 0 ≤ n ∧ n ≤ 8
    omega
  · intro i h0 h1
    have h1' : i < n := h1
    have e : ∀ r, 5 ≤ r → r ≤ 8 → burnP P n r i = P r i := fun r a b => by unfold burnP; rw [if_neg (by omega), if_neg (by omega)]
    rw [e 5 (by omega) (by omega), e 6 (by omega) (by omega), e 7 (by omega) (by omega), e 8 (by omega) (by omega)]
    exact w7 i h0 (by omega)
theorem cv_burn {σ : St} {q : Nat} {n : Int} (h : n ≤ σ q 6) : cv (up σ q 6 n) q = burnP (cv σ q) n := by
  have s : ∀ j, j ≠ 6 → up σ q 6 n q j = σ q j := fun j hj => by rw [up_at, if_neg (by omega)]
  have s6 : up σ q 6 n q 6 = n := by rw [up_at, if_pos ⟨rfl, rfl⟩]
  have rr : ∀ r, 1 ≤ r → ∀ y, rd (up σ q 6 n) (q + r) y = rd σ (q + r) y := fun r hr y => rd_up (by omega)
  have key : ∀ r (i : Int), 5 ≤ r → r ≤ 8 → (if 0 ≤ i ∧ i < n then rd σ (q + r) i else 0) = if (5 ≤ r ∧ r ≤ 8) ∧ n ≤ i then 0 else (if 0 ≤ i ∧ i < σ q 6 then rd σ (q + r) i else 0) := by
    intro r i a b
    by_cases c : n ≤ i
    · rw [if_neg (by omega), if_pos (by omega)]
    · rw [if_neg (show ¬ ((5 ≤ r ∧ r ≤ 8) ∧ n ≤ i) by omega)]
      by_cases c2 : 0 ≤ i
      · rw [if_pos (by omega), if_pos (by omega)]
      · rw [if_neg (by omega), if_neg (by omega)]
  funext r i
  unfold burnP
  match r with
  | 0 =>
    simp only [cv, s6, s 0 (by omega), s 4 (by omega), s 12 (by omega), s 13 (by omega)]
    by_cases c : i = 2
    · subst c; simp
    · simp [c]
  | 1 => simp [cv, s 0, rr 1]
  | 2 => simp [cv, s 0, rr 2]
  | 3 => simp [cv, s 0, rr 3]
  | 4 => simp [cv, rr 4]
  | 5 => simp only [cv, s6, rr 5 (by omega)]; rw [if_neg (show ¬ ((5 : Nat) = 0 ∧ i = 2) by omega)]; exact key 5 i (by omega) (by omega)
  | 6 => simp only [cv, s6, rr 6 (by omega)]; rw [if_neg (show ¬ ((6 : Nat) = 0 ∧ i = 2) by omega)]; exact key 6 i (by omega) (by omega)
  | 7 => simp only [cv, s6, rr 7 (by omega)]; rw [if_neg (show ¬ ((7 : Nat) = 0 ∧ i = 2) by omega)]; exact key 7 i (by omega) (by omega)
  | 8 => simp only [cv, s6, rr 8 (by omega)]; rw [if_neg (show ¬ ((8 : Nat) = 0 ∧ i = 2) by omega)]; exact key 8 i (by omega) (by omega)
  | n + 9 => simp [cv]
theorem mv_burn {σ : St} {n : Int} (h : n ≤ rd σ 52 52) (h8 : n ≤ 8) (hR : σ 51 1 ≤ 5) : mv (ups σ 52 52 n) 0 = burnP (mv σ 0) n := by
  have s1 : ups σ 52 52 n 51 1 = σ 51 1 := ups_at (by decide)
  have s6 : rd (ups σ 52 52 n) 52 52 = n := by rw [rd_ups (by omega) (by omega), if_pos ⟨rfl, rfl⟩]
  have s6' : rd (ups σ 52 52 n) 52 (0 + 52) = n := s6
  have rr : ∀ y : Int, 0 ≤ y → y ≠ 52 → rd (ups σ 52 52 n) 52 y = rd σ 52 y := fun y hy hn => by rw [rd_ups (by omega) hy, if_neg (by omega)]
  have key : ∀ (r : Nat) (b i : Int), 5 ≤ r → r ≤ 8 → 0 ≤ b → b + 8 ≤ 52 → (if 0 ≤ i ∧ i < n then rd (ups σ 52 52 n) 52 ((0 + b) + i) else 0) = if (5 ≤ r ∧ r ≤ 8) ∧ n ≤ i then 0 else (if 0 ≤ i ∧ i < rd σ 52 (0 + 52) then rd σ 52 ((0 + b) + i) else 0) := by
    intro r b i a c d e
    have z : rd σ 52 (0 + 52) = rd σ 52 52 := rfl
    rw [z]
    by_cases c1 : n ≤ i
    · rw [if_neg (by omega), if_pos (by omega)]
    · rw [if_neg (show ¬ ((5 ≤ r ∧ r ≤ 8) ∧ n ≤ i) by omega)]
      by_cases c2 : 0 ≤ i
      · rw [if_pos (by omega), if_pos (by omega), rr _ (by omega) (by omega)]
      · rw [if_neg (by omega), if_neg (by omega)]
  have key2 : ∀ (b i B : Int), 0 ≤ b → B ≤ 5 → b ≤ 20 → (if 0 ≤ i ∧ i < B then rd (ups σ 52 52 n) 52 ((0 + b) + i) else 0) = (if 0 ≤ i ∧ i < B then rd σ 52 ((0 + b) + i) else 0) := by
    intro b i B a c d
    by_cases c1 : 0 ≤ i ∧ i < B
    · rw [if_pos c1, if_pos c1, rr _ (by omega) (by omega)]
    · rw [if_neg c1, if_neg c1]
  funext r i
  unfold burnP
  match r with
  | 0 =>
    simp only [mv, s6', s1]
    rw [rr (0 + 15) (by omega) (by omega), rr (0 + 53) (by omega) (by omega), rr (0 + 54) (by omega) (by omega)]
    by_cases c : i = 2
    · subst c; simp
    · simp [c]
  | 1 =>
    simp only [mv, s1]
    rw [if_neg (show ¬ ((1 : Nat) = 0 ∧ i = 2) by omega), if_neg (show ¬ ((5 ≤ 1 ∧ 1 ≤ 8) ∧ n ≤ i) by omega)]
    by_cases c1 : 0 ≤ i ∧ i < σ 51 1
    · rw [if_pos c1, if_pos c1, rr _ (by omega) (by omega)]
    · rw [if_neg c1, if_neg c1]
  | 2 => simp only [mv, s1]; rw [if_neg (show ¬ ((2 : Nat) = 0 ∧ i = 2) by omega), if_neg (show ¬ ((5 ≤ 2 ∧ 2 ≤ 8) ∧ n ≤ i) by omega)]; exact key2 5 i _ (by omega) hR (by omega)
  | 3 => simp only [mv, s1]; rw [if_neg (show ¬ ((3 : Nat) = 0 ∧ i = 2) by omega), if_neg (show ¬ ((5 ≤ 3 ∧ 3 ≤ 8) ∧ n ≤ i) by omega)]; exact key2 10 i _ (by omega) hR (by omega)
  | 4 =>
    simp only [mv]
    rw [if_neg (show ¬ ((4 : Nat) = 0 ∧ i = 2) by omega), if_neg (show ¬ ((5 ≤ 4 ∧ 4 ≤ 8) ∧ n ≤ i) by omega)]
    by_cases c1 : 0 ≤ i ∧ i < 4
    · rw [if_pos c1, if_pos c1, rr _ (by omega) (by omega)]
    · rw [if_neg c1, if_neg c1]
  | 5 => simp only [mv, s6']; rw [if_neg (show ¬ ((5 : Nat) = 0 ∧ i = 2) by omega)]; exact key 5 20 i (by omega) (by omega) (by omega) (by omega)
  | 6 => simp only [mv, s6']; rw [if_neg (show ¬ ((6 : Nat) = 0 ∧ i = 2) by omega)]; exact key 6 28 i (by omega) (by omega) (by omega) (by omega)
  | 7 => simp only [mv, s6']; rw [if_neg (show ¬ ((7 : Nat) = 0 ∧ i = 2) by omega)]; exact key 7 36 i (by omega) (by omega) (by omega) (by omega)
  | 8 => simp only [mv, s6']; rw [if_neg (show ¬ ((8 : Nat) = 0 ∧ i = 2) by omega)]; exact key 8 44 i (by omega) (by omega) (by omega) (by omega)
  | n + 9 => simp [mv]
def R_burn (n : Int) (P : Pg) : Int := if 0 ≤ n ∧ n ≤ P 0 2 then P 0 2 else -1
def T_burn (n : Int) (P : Pg) : Pg := if 0 ≤ n ∧ n ≤ P 0 2 then burnP P n else P
theorem u_burn {n : Int} (hn : IR n) : Upd (f_X4_burn n) (f_X5_burn n) (R_burn n) (T_burn n) := by
  refine ⟨fun P wf hd => ?_, fun σ I => ?_, fun σ I => ?_⟩
  · unfold T_burn
    split
    · rename_i g
      exact ⟨burn_wf wf g, hd, rfl⟩
    · exact ⟨wf, hd, rfl⟩
  · have hM := I.1.2.2.1
    unfold f_X4_burn R_burn T_burn
    rw [← cv_2 σ 1, c_win hn (by omega) (by omega), bI_s]
    by_cases g : 0 ≤ n ∧ n ≤ cv σ 1 0 2
    case neg => rw [if_neg (by simp only [decide_eq_true_eq]; exact g), if_neg g, if_neg g]; exact ⟨σ, rfl, rfl, I.2.2, Qk.rf σ⟩
    rw [if_pos (by simp [g]), if_pos g, if_pos g]
    unfold pf
    rw [bV_s]
    exact ⟨_, rfl, cv_burn g.2, by rw [up_at, if_neg (by omega)]; exact I.2.2, Qk.p (by omega)⟩
  · have hR := I.1.1
    have hM := I.1.2.2.1
    have e : rd σ 52 52 = mv σ 0 0 2 := rfl
    unfold f_X5_burn R_burn T_burn
    rw [ld_of (by omega) (by omega) (by omega), bV_s, e, wr_of (x := mv σ 0 0 2) (by omega) (by omega), m_inw hn (by omega) (by omega), bI_s]
    by_cases g : 0 ≤ n ∧ n ≤ mv σ 0 0 2
    case neg =>
      rw [show decide (0 ≤ n ∧ n ≤ mv σ 0 0 2) = false from decide_eq_false g, if_neg g, if_neg g]
      show ∃ σ', bI (f_X5_puts 0 52 n 0 σ) _ = _ ∧ _
      rw [m_puts0, bI_s]; exact ⟨σ, rfl, rfl, Qp.rf σ⟩
    rw [show decide (0 ≤ n ∧ n ≤ mv σ 0 0 2) = true from decide_eq_true g, if_pos g, if_pos g]
    show ∃ σ', bI (f_X5_puts 1 52 n 0 σ) _ = _ ∧ _
    rw [m_puts1 (by omega), bI_s, Int.add_zero, Int.sub_zero]
    exact ⟨_, rfl, mv_burn g.2 (by omega) hR.2, Qp.u (by omega)⟩
/-! days -/
def R_days (n : Int) (P : Pg) : Int := if 0 ≤ n ∧ n ≤ 30 then (if P 0 3 + n < 1000 then sumR P 0 n.toNat else -3) else -1
def T_days (n : Int) (P : Pg) : Pg := if 0 ≤ n ∧ n ≤ 30 then (if P 0 3 + n < 1000 then itD P 0 n.toNat else P) else P
theorem u_days {n : Int} (hn : IR n) : Upd (f_X4_days n) (f_X5_days n) (R_days n) (T_days n) := by
  have w1000 : wr 1000 = 1000 := by decide
  have w999 : wr 999 = 999 := by decide
  refine ⟨fun P wf hd => ?_, fun σ I => ?_, fun σ I => ?_⟩
  · unfold T_days
    split
    · split
      · exact ⟨itD_wf wf 0 _ (by omega), by rw [itD_day]; omega, itD_0 P 0 _⟩
      · exact ⟨wf, hd, rfl⟩
    · exact ⟨wf, hd, rfl⟩
  · have hd := I.1.2.2.2.1
    unfold f_X4_days R_days T_days
    rw [c_win hn (by omega) (by omega), bI_s]
    by_cases g : 0 ≤ n ∧ n ≤ 30
    case neg => rw [if_neg (by simp only [decide_eq_true_eq]; exact g), if_neg g, if_neg g]; exact ⟨σ, rfl, rfl, I.2.2, Qk.rf σ⟩
    rw [if_pos (by simp [g]), if_pos g, if_pos g, ← cv_3 σ 1, w1000, wr_of (x := cv σ 1 0 3 + n) (by omega) (by omega)]
    by_cases g2 : cv σ 1 0 3 + n < 1000
    case neg => rw [if_neg g2, if_neg g2, if_neg g2]; exact ⟨σ, rfl, rfl, I.2.2, Qk.rf σ⟩
    rw [if_pos g2, if_pos g2, if_pos g2]
    obtain ⟨σ', a, b, c⟩ := c_days (q := 1) (σ := σ) (N := n.toNat) I.1 (by omega) (by omega)
    rw [I.2.2, show ((n.toNat : Nat) : Int) = n by omega] at a
    rw [I.2.2] at b
    rw [a, bI_s]
    exact ⟨σ', rfl, b, by rw [c.2 11 (by omega) (by omega)]; exact I.2.2, fun k j hk => c.1 k j (by omega) (by omega) (by omega)⟩
  · have hd := I.1.2.2.2.1
    unfold f_X5_days R_days T_days
    rw [m_inw hn (by omega) (by omega), bI_s]
    by_cases g : 0 ≤ n ∧ n ≤ 30
    case neg => rw [if_neg (by simp only [decide_eq_true_eq]; exact g), if_neg g, if_neg g]; exact ⟨σ, rfl, rfl, Qp.rf σ⟩
    rw [if_pos (by simp [g]), if_pos g, if_pos g, ld_of (by omega) (by omega) (by omega), bV_s, show rd σ 52 53 = mv σ 0 0 3 from rfl, w999, wr_of (x := mv σ 0 0 3 + n) (by omega) (by omega)]
    by_cases g2 : mv σ 0 0 3 + n < 1000
    case neg => rw [if_pos (by omega), if_neg g2, if_neg g2]; exact ⟨σ, rfl, rfl, Qp.rf σ⟩
    rw [if_neg (by omega), if_pos g2, if_pos g2]
    have lp : ∀ (k i m : Nat) (τ : St), i + k = n.toNat → k < m → mv τ 0 = itD (mv σ 0) 0 i → τ 51 18 = 0 → τ 51 19 = sumR (mv σ 0) 0 i → ∃ τ', f_X5_days_39 m n i τ = some (sumR (mv σ 0) 0 n.toNat, τ') ∧ mv τ' 0 = itD (mv σ 0) 0 n.toNat ∧ Qp τ τ' := by
      intro k
      induction k with
      | zero =>
        intro i m τ hi hm hv hu h19
        obtain ⟨m, rfl⟩ : ∃ y, m = y + 1 := ⟨m - 1, by omega⟩
        obtain rfl : i = n.toNat := by omega
        refine ⟨τ, ?_, hv, Qp.rf τ⟩
        rw [f_X5_days_39, wr_of (x := ((n.toNat : Nat) : Int)) (by omega) (by omega), wrI hn, if_neg (by omega), h19]
      | succ k ih =>
        intro i m τ hi hm hv hu h19
        obtain ⟨m, rfl⟩ : ∃ y, m = y + 1 := ⟨m - 1, by omega⟩
        obtain ⟨τ1, d1, d2, d3, d4⟩ := m_day (p := 0) (σ := τ) (by omega) (by rw [hv]; exact itD_wf I.1 0 i (by omega))
        rw [hv, hu] at d2 d3
        rw [f_X5_days_39, wr_of (x := (i : Int)) (by omega) (by omega), wrI hn, if_pos (by omega), d1, bV_s, show (i : Int) + 1 = ((i + 1 : Nat) : Int) by omega]
        obtain ⟨τ', f1, f2, f3⟩ := ih (i + 1) m τ1 (by omega) (by omega) d2 (by rw [d4.2.1 18 (by omega)]; exact hu) (by rw [d3, h19]; rfl)
        exact ⟨τ', f1, f2, d4.p0.tr f3⟩
    unfold pf
    rw [bV_s]
    obtain ⟨τ', f1, f2, f3⟩ := lp n.toNat 0 FU (up σ 51 19 0) (by omega) (by unfold FU; omega) (mv_pf (by decide) (by decide)) (by rw [up_at, if_neg (by omega)]; exact I.2.2) (by rw [up_at, if_pos ⟨rfl, rfl⟩]; rfl)
    exact ⟨τ', f1, f2, (Qm.up (by omega)).p.tr f3⟩
