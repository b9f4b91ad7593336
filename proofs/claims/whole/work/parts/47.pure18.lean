/-! ===== pure part 18: kinds, ups ===== -/
noncomputable def seenB (P : Pg) (S : Sg) : Bool := @decide (seen P S) (Classical.propDecidable _)
theorem seenB_iff {P : Pg} {S : Sg} : seenB P S = true ↔ seen P S := by
  unfold seenB
  exact @decide_eq_true_iff (seen P S) (Classical.propDecidable _)
theorem seenB_of {P : Pg} {S : Sg} {b : Bool} (h : b = true ↔ seen P S) : b = seenB P S := by
  have : (b = true) = (seenB P S = true) := propext (h.trans seenB_iff.symm)
  cases b <;> cases hh : seenB P S <;> simp_all
def QryS (f g : St → Option (Int × St)) (F : Pg → Sg → Int) : Prop := (∀ σ S, Ic σ → SgOK (cv σ 1) S → cSg σ S → ∃ σ1, f σ = some (F (cv σ 1) S, σ1) ∧ Qc σ σ1) ∧ (∀ σ S, Im σ → SgOK (mv σ 0) S → mSg σ S → ∃ σ2, g σ = some (F (mv σ 0) S, σ2) ∧ Qm σ σ2)
theorem c_fit {σ : St} {S : Sg} (I : Ic σ) (ok : SgOK (cv σ 1) S) (hs : cSg σ S) {r0 : Nat} (hr : r0 = 1 ∨ r0 = 2) {h v : Int} (h0 : 0 ≤ h) (h1 : h < cv σ 1 0 0) (wfv : WF (upP (cv σ 1) r0 h v)) : ∃ s1 s2, f_X2_copyFrom 11 1 σ = some s1 ∧ f_X1_comeTrueIn 11 (ups s1 (11 + r0) h v) = some (seenB (upP (cv σ 1) r0 h v) S, s2) ∧ Qc σ s2 := by
  obtain ⟨s1, b1, b2, b3, b4⟩ := c_trial I
  have e0 : s1 11 0 = cv σ 1 0 0 := by rw [← cv_0 s1 11, b3]
  have cs : cv (ups s1 (11 + r0) h v) 11 = upP (cv σ 1) r0 h v := by
    rw [cv_setR (by omega) h0 (by rw [e0]; rcases hr with rfl | rfl <;> exact ⟨h0, h1⟩), b3]
  have q1 : Qc σ (ups s1 (11 + r0) h v) := b2.tr (Qc.t (by omega))
  have ok' : SgOK (upP (cv σ 1) r0 h v) S := by rcases hr with rfl | rfl <;> exact ok
  have hd' : upP (cv σ 1) r0 h v 0 3 ≤ 999 := by rcases hr with rfl | rfl <;> exact I.2.1
  obtain ⟨s2, b, f1, f2, f3⟩ := c_comeTrue wfv hd' ok' (q1.sg hs) cs (by rw [ups_at (by omega)]; exact b4)
  exact ⟨s1, s2, b1, by rw [f1, seenB_of f2], q1.tr f3⟩
def Qx (z : Int) (σ τ : St) : Prop := (∀ k j, k ≠ 51 → k ≠ 52 → k ≠ 58 → τ k j = σ k j) ∧ (∀ j, j ≠ 19 → j ≠ 20 → j ≠ 21 → τ 51 j = σ 51 j) ∧ (∀ x, 0 ≤ x → x ≠ z → (x < 220 ∨ 275 ≤ x) → rd τ 52 x = rd σ 52 x)
theorem Qx.rf (z : Int) (σ : St) : Qx z σ σ := ⟨fun _ _ _ _ _ => rfl, fun _ _ _ _ => rfl, fun _ _ _ _ => rfl⟩
theorem Qx.u {z v : Int} {σ τ : St} (hz : 0 ≤ z) (h : Qx z σ τ) : Qx z σ (ups τ 52 z v) := ⟨fun k j x y w => (ups_at y).trans (h.1 k j x y w), fun j x y w => (ups_at (by decide)).trans (h.2.1 j x y w), fun x x0 x1 x2 => by rw [rd_ups hz x0, if_neg (by omega)]; exact h.2.2 x x0 x1 x2⟩
theorem Qx.t {z : Int} {σ τ τ' : St} (h : Qx z σ τ) (h2 : Qu τ τ') : Qx z σ τ' := ⟨fun k j x y w => (h2.1 k j x y w).trans (h.1 k j x y w), fun j x y w => (h2.2.1 j x y w).trans (h.2.1 j x y w), fun x x0 x1 x2 => (h2.2.2 x x0 x2).trans (h.2.2 x x0 x1 x2)⟩
theorem Qx.m {z : Int} {σ τ : St} (hz : 0 ≤ z) (h : Qx z σ τ) : Qm σ (ups τ 52 z (rd σ 52 z)) := by
  refine ⟨fun k j x y w => (ups_at y).trans (h.1 k j x y w), fun j x y w => (ups_at (by decide)).trans (h.2.1 j x y w), fun x x0 x1 => ?_⟩
  rw [rd_ups hz x0]
  by_cases c : x = z
  · rw [if_pos ⟨rfl, c⟩, c]
  · rw [if_neg (by omega)]; exact h.2.2 x x0 c (by omega)
theorem mSg.of {σ σ' : St} {S : Sg} (h1 : σ' 51 23 = σ 51 23) (h2 : ∀ j, σ' 57 j = σ 57 j) (hs : mSg σ S) : mSg σ' S := by
  refine ⟨h1.trans hs.1, fun i a b => ?_⟩
  have := hs.2 i a b
  exact ⟨(h2 _).trans this.1, (h2 _).trans this.2.1, (h2 _).trans this.2.2⟩
theorem m_fit {σ τ : St} {S : Sg} (I : Im σ) (ok : SgOK (mv σ 0) S) (hs : mSg σ S) {r0 : Nat} (hr : r0 = 1 ∨ r0 = 2) {h v z row : Int} (h0 : 0 ≤ h) (h1 : h < mv σ 0 0 0) (hz : z = lcM r0 h) (wfv : WF (upP (mv σ 0) r0 h v)) (hq : Qx z σ τ) (hrow : 0 ≤ row ∧ row < 16) :
    ∃ τ', f_X5_isAsSeen row (ups τ 52 z v) = some (seenB (upP (mv σ 0) r0 h v) S, τ') ∧ Qx z σ τ' ∧ (∀ d g : Nat, d ≤ 20 → (g : Int) < mv σ 0 0 0 → rd τ' 58 (105 * row + 5 * d + g) = itD (upP (mv σ 0) r0 h v) 0 d 2 g) ∧ (∀ y, 0 ≤ y → (y < 105 * row ∨ 105 * row + 105 ≤ y) → rd τ' 58 y = rd τ 58 y) := by
  have hR := I.1.1
  have hM := I.1.2.2.1
  have e0 : σ 51 1 = mv σ 0 0 0 := rfl
  have e2 : rd σ 52 (0 + 52) = mv σ 0 0 2 := rfl
  have z0 : 0 ≤ z ∧ z < 15 := by
    rcases hr with rfl | rfl
    · simp only [lcM] at hz; omega
    · simp only [lcM] at hz; omega
  have lv : lvM (σ 51 1) (rd σ 52 (0 + 52)) r0 h := by rcases hr with rfl | rfl <;> exact ⟨h0, h1⟩
  have m1 : mv (ups σ 52 z v) 0 = upP (mv σ 0) r0 h v := by
    have := mv_set (v := v) (Int.le_refl 0) (by rw [e0]; exact hR.2) (by rw [e2]; exact hM.2) lv (show z = 0 + lcM r0 h by omega) (by omega)
    rw [this]
    rcases hr with rfl | rfl <;> simp [acM]
  have m2 : mv (ups τ 52 z v) 0 = mv (ups σ 52 z v) 0 := by
    refine mv_ext ?_ ?_ ?_ ?_
    · rw [ups_at (by decide), ups_at (by decide)]; exact hq.2.1 1 (by omega) (by omega) (by omega)
    · rw [ups_at (by decide), e0]; exact hR.2
    · rw [rd_ups z0.1 (by omega), if_neg (by omega), e2]; exact hM.2
    · intro x x0 x1
      rw [rd_ups z0.1 (by omega), rd_ups z0.1 (by omega)]
      by_cases c : 0 + x = z
      · rw [if_pos ⟨rfl, c⟩, if_pos ⟨rfl, c⟩]
      · rw [if_neg (by omega), if_neg (by omega)]; exact hq.2.2 _ (by omega) c (by omega)
  have ok' : SgOK (upP (mv σ 0) r0 h v) S := by rcases hr with rfl | rfl <;> exact ok
  have hd' : upP (mv σ 0) r0 h v 0 3 ≤ 999 := by rcases hr with rfl | rfl <;> exact I.2.1
  have q1 : Qx z σ (ups τ 52 z v) := hq.u z0.1
  obtain ⟨τ', b, f1, f2, f3, f4, f5⟩ := m_asSeen wfv hd' ok' (σ := ups τ 52 z v) (mSg.of (q1.2.1 23 (by omega) (by omega) (by omega)) (fun j => q1.1 57 j (by omega) (by omega) (by omega)) hs) (m2.trans m1) (by rw [q1.2.1 18 (by omega) (by omega) (by omega)]; exact I.2.2) hrow
  refine ⟨τ', by rw [f1, seenB_of f2], q1.t f3, fun d g hd hg => f4 d g hd (by rcases hr with rfl | rfl <;> exact hg), fun y y0 y1 => ?_⟩
  rw [f5 y y0 y1]
  unfold rd
  rw [ups_at (by decide)]
noncomputable def kdB (h : Int) (P : Pg) (S : Sg) : Int := bitN (fun k => seenB (upP P 1 h k) S) 4
noncomputable def upB (h : Int) (P : Pg) (S : Sg) : Int := bitN (fun k => seenB (upP P 2 h k) S) 16
noncomputable def S_kinds (h : Int) (P : Pg) (S : Sg) : Int := if 0 ≤ h ∧ h < P 0 0 then kdB h P S else -1
noncomputable def S_ups (h : Int) (P : Pg) (S : Sg) : Int := if 0 ≤ h ∧ h < P 0 0 then upB h P S else -1
theorem q_kinds {h : Int} (hh : IR h) : QryS (f_X4_kinds h) (f_X5_kinds h) (S_kinds h) := by
  have w4 : wr 4 = 4 := by decide
  refine ⟨fun σ S I ok hs => ?_, fun σ S I ok hs => ?_⟩
  · have wf := I.1
    unfold f_X4_kinds S_kinds
    rw [c_isRider hh wf.1, bI_s]
    by_cases g : 0 ≤ h ∧ h < cv σ 1 0 0
    · rw [if_pos (by simp [g]), if_pos g]
      have lp : ∀ (k i n : Nat) (τ : St), i + k = 4 → k < n → Qc σ τ → ∃ τ', f_X4_kinds_14 n h (bitN (fun k => seenB (upP (cv σ 1) 1 h k) S) i) i τ = some (kdB h (cv σ 1) S, τ') ∧ Qc σ τ' := by
        intro k
        induction k with
        | zero =>
          intro i n τ hi hn hq
          obtain ⟨n, rfl⟩ : ∃ y, n = y + 1 := ⟨n - 1, by omega⟩
          obtain rfl : i = 4 := by omega
          refine ⟨τ, ?_, hq⟩
          rw [f_X4_kinds_14, if_neg (by decide)]
          rfl
        | succ k ih =>
          intro i n τ hi hn hq
          obtain ⟨n, rfl⟩ : ∃ y, n = y + 1 := ⟨n - 1, by omega⟩
          have e := hq.cv
          obtain ⟨s1, s2, a1, a2, a3⟩ := c_fit (σ := τ) (S := S) (I.q hq) (by rw [e]; exact ok) (hq.sg hs) (Or.inl rfl) (h := h) (v := i) g.1 (by rw [e]; exact g.2) (by rw [e]; exact wf_up1 wf (by omega))
          rw [e] at a2
          rw [f_X4_kinds_14, w4, wr_of (x := (i : Int)) (by omega) (by omega), if_pos (by omega), a1, bV_s, sv_of (by omega) (by have := wf.1; omega) (by omega), bV_s, a2, bI_s]
          unfold f_X4_kinds_62
          rw [show (i : Int) + 1 = ((i + 1 : Nat) : Int) by omega]
          obtain ⟨τ', f1, f2⟩ := ih (i + 1) n s2 (by omega) (by omega) (hq.tr a3)
          refine ⟨τ', ?_, f2⟩
          rw [bitN] at f1
          cases hb : seenB (upP (cv σ 1) 1 h i) S with
          | true => rw [hb] at f1; exact f1
          | false => rw [hb] at f1; exact f1
      exact lp 4 0 FU σ (by omega) (by unfold FU; omega) (Qc.rf σ)
    · rw [if_neg (by simp only [decide_eq_true_eq]; exact g), if_neg g]; exact ⟨σ, rfl, Qc.rf σ⟩
  · have wf := I.1
    have hR := wf.1
    unfold f_X5_kinds S_kinds
    rw [m_isRider (p := 0) hh wf.1, bI_s]
    by_cases g : 0 ≤ h ∧ h < mv σ 0 0 0
    · rw [if_pos (by simp [g]), if_pos g, ld_of (by omega) (by omega) (by omega), bV_s]
      have lp : ∀ (k i n : Nat) (τ : St), i + k = 4 → k < n → Qx h σ τ → ∃ τ', f_X5_kinds_22 n h (rd σ 52 h) (bitN (fun k => seenB (upP (mv σ 0) 1 h k) S) i) i τ = some (kdB h (mv σ 0) S, τ') ∧ Qm σ τ' := by
        intro k
        induction k with
        | zero =>
          intro i n τ hi hn hq
          obtain ⟨n, rfl⟩ : ∃ y, n = y + 1 := ⟨n - 1, by omega⟩
          obtain rfl : i = 4 := by omega
          refine ⟨_, ?_, hq.m g.1⟩
          rw [f_X5_kinds_22, if_neg (by decide), sv_of (by omega) (by omega) (by omega), bV_s]
          rfl
        | succ k ih =>
          intro i n τ hi hn hq
          obtain ⟨n, rfl⟩ : ∃ y, n = y + 1 := ⟨n - 1, by omega⟩
          obtain ⟨s2, a2, a3, -, -⟩ := m_fit (τ := τ) (S := S) I ok hs (Or.inl rfl) (h := h) (v := i) (z := h) (row := 0) g.1 g.2 (by simp [lcM]) (wf_up1 wf (by omega)) hq (by omega)
          rw [f_X5_kinds_22, w4, wr_of (x := (i : Int)) (by omega) (by omega), if_pos (by omega), sv_of (by omega) (by omega) (by omega), bV_s, a2, bI_s]
          unfold f_X5_kinds_53
          rw [show (i : Int) + 1 = ((i + 1 : Nat) : Int) by omega]
          obtain ⟨τ', f1, f2⟩ := ih (i + 1) n s2 (by omega) (by omega) a3
          refine ⟨τ', ?_, f2⟩
          rw [bitN] at f1
          cases hb : seenB (upP (mv σ 0) 1 h i) S with
          | true => rw [hb] at f1; exact f1
          | false => rw [hb] at f1; exact f1
      exact lp 4 0 FU σ (by omega) (by unfold FU; omega) (Qx.rf h σ)
    · rw [if_neg (by simp only [decide_eq_true_eq]; exact g), if_neg g]; exact ⟨σ, rfl, Qm.rf σ⟩
theorem c_ups {σ : St} {S : Sg} (I : Ic σ) (ok : SgOK (cv σ 1) S) (hs : cSg σ S) {h : Int} (g : 0 ≤ h ∧ h < cv σ 1 0 0) : ∃ τ', f_X4_fittingUps h σ = some (upB h (cv σ 1) S, τ') ∧ Qc σ τ' := by
  have wf := I.1
  have w4 : wr 16 = 16 := by decide
  have lp : ∀ (k i n : Nat) (τ : St), i + k = 16 → k < n → Qc σ τ → ∃ τ', f_X4_fittingUps_4 n h (bitN (fun k => seenB (upP (cv σ 1) 2 h k) S) i) i τ = some (upB h (cv σ 1) S, τ') ∧ Qc σ τ' := by
    intro k
    induction k with
    | zero =>
      intro i n τ hi hn hq
      obtain ⟨n, rfl⟩ : ∃ y, n = y + 1 := ⟨n - 1, by omega⟩
      obtain rfl : i = 16 := by omega
      refine ⟨τ, ?_, hq⟩
      rw [f_X4_fittingUps_4, if_neg (by decide)]
      rfl
    | succ k ih =>
      intro i n τ hi hn hq
      obtain ⟨n, rfl⟩ : ∃ y, n = y + 1 := ⟨n - 1, by omega⟩
      have e := hq.cv
      obtain ⟨s1, s2, a1, a2, a3⟩ := c_fit (σ := τ) (S := S) (I.q hq) (by rw [e]; exact ok) (hq.sg hs) (Or.inr rfl) (h := h) (v := i) g.1 (by rw [e]; exact g.2) (by rw [e]; exact wf_up2 wf (by omega))
      rw [e] at a2
      rw [f_X4_fittingUps_4, w4, wr_of (x := (i : Int)) (by omega) (by omega), if_pos (by omega), a1, bV_s, sv_of (by omega) (by have := wf.1; omega) (by omega), bV_s, a2, bI_s]
      unfold f_X4_fittingUps_53
      rw [show (i : Int) + 1 = ((i + 1 : Nat) : Int) by omega]
      obtain ⟨τ', f1, f2⟩ := ih (i + 1) n s2 (by omega) (by omega) (hq.tr a3)
      refine ⟨τ', ?_, f2⟩
      rw [bitN] at f1
      cases hb : seenB (upP (cv σ 1) 2 h i) S with
      | true => rw [hb] at f1; exact f1
      | false => rw [hb] at f1; exact f1
  exact lp 16 0 FU σ (by omega) (by unfold FU; omega) (Qc.rf σ)
theorem m_ups {σ : St} {S : Sg} (I : Im σ) (ok : SgOK (mv σ 0) S) (hs : mSg σ S) {h : Int} (g : 0 ≤ h ∧ h < mv σ 0 0 0) : ∃ τ', f_X5_upsOf h σ = some (upB h (mv σ 0) S, τ') ∧ Qm σ τ' ∧ ∀ u d g : Nat, u < 16 → d ≤ 20 → (g : Int) < mv σ 0 0 0 → rd τ' 58 (105 * u + 5 * d + g) = itD (upP (mv σ 0) 2 h u) 0 d 2 g := by
  have wf := I.1
  have hR := wf.1
  have w4 : wr 16 = 16 := by decide
  unfold f_X5_upsOf
  rw [ld_of (by omega) (by omega) (by omega), bV_s]
  have lp : ∀ (k i n : Nat) (τ : St), i + k = 16 → k < n → Qx (5 + h) σ τ → (∀ u d g : Nat, u < i → d ≤ 20 → (g : Int) < mv σ 0 0 0 → rd τ 58 (105 * u + 5 * d + g) = itD (upP (mv σ 0) 2 h u) 0 d 2 g) → ∃ τ', f_X5_upsOf_14 n h (rd σ 52 (5 + h)) (bitN (fun k => seenB (upP (mv σ 0) 2 h k) S) i) i τ = some (upB h (mv σ 0) S, τ') ∧ Qm σ τ' ∧ ∀ u d g : Nat, u < 16 → d ≤ 20 → (g : Int) < mv σ 0 0 0 → rd τ' 58 (105 * u + 5 * d + g) = itD (upP (mv σ 0) 2 h u) 0 d 2 g := by
    intro k
    induction k with
    | zero =>
      intro i n τ hi hn hq hrow
      obtain ⟨n, rfl⟩ : ∃ y, n = y + 1 := ⟨n - 1, by omega⟩
      obtain rfl : i = 16 := by omega
      refine ⟨_, ?_, hq.m (by omega), fun u d g hu hd hg => ?_⟩
      · rw [f_X5_upsOf_14, if_neg (by decide), sv_of (by omega) (by omega) (by omega), bV_s]
        rfl
      · rw [show rd (ups τ 52 (5 + h) (rd σ 52 (5 + h))) 58 (105 * (u : Int) + 5 * d + g) = rd τ 58 (105 * (u : Int) + 5 * d + g) from ups_at (by decide)]
        exact hrow u d g hu hd hg
    | succ k ih =>
      intro i n τ hi hn hq hrow
      obtain ⟨n, rfl⟩ : ∃ y, n = y + 1 := ⟨n - 1, by omega⟩
      obtain ⟨s2, a2, a3, a4, a5⟩ := m_fit (τ := τ) (S := S) I ok hs (Or.inr rfl) (h := h) (v := i) (z := 5 + h) (row := i) g.1 g.2 (by simp [lcM]) (wf_up2 wf (by omega)) hq (by omega)
      rw [f_X5_upsOf_14, w4, wr_of (x := (i : Int)) (by omega) (by omega), if_pos (by omega), sv_of (by omega) (by omega) (by omega), bV_s, a2, bI_s]
      unfold f_X5_upsOf_49
      rw [show (i : Int) + 1 = ((i + 1 : Nat) : Int) by omega]
      obtain ⟨τ', f1, f2⟩ := ih (i + 1) n s2 (by omega) (by omega) a3 (fun u d g hu hd hg => by
        by_cases c : u = i
        · subst c; exact a4 d g hd hg
        · rw [a5 _ (by omega) (by omega)]; exact hrow u d g (by omega) hd hg)
      refine ⟨τ', ?_, f2⟩
      rw [bitN] at f1
      cases hb : seenB (upP (mv σ 0) 2 h i) S with
      | true => rw [hb] at f1; exact f1
      | false => rw [hb] at f1; exact f1
  exact lp 16 0 FU σ (by omega) (by unfold FU; omega) (Qx.rf _ σ) (fun u d g hu => by omega)
theorem q_ups {h : Int} (hh : IR h) : QryS (f_X4_ups h) (f_X5_ups h) (S_ups h) := by
  refine ⟨fun σ S I ok hs => ?_, fun σ S I ok hs => ?_⟩
  · unfold f_X4_ups S_ups
    rw [c_isRider hh I.1.1, bI_s]
    by_cases g : 0 ≤ h ∧ h < cv σ 1 0 0
    · obtain ⟨τ', f1, f2⟩ := c_ups I ok hs g
      rw [if_pos (by simp [g]), if_pos g, f1, bI_s]
      exact ⟨τ', rfl, f2⟩
    · rw [if_neg (by simp only [decide_eq_true_eq]; exact g), if_neg g]; exact ⟨σ, rfl, Qc.rf σ⟩
  · unfold f_X5_ups S_ups
    rw [m_isRider (p := 0) hh I.1.1, bI_s]
    by_cases g : 0 ≤ h ∧ h < mv σ 0 0 0
    · obtain ⟨τ', f1, f2, -⟩ := m_ups I ok hs g
      rw [if_pos (by simp [g]), if_pos g, f1, bI_s]
      exact ⟨τ', rfl, f2⟩
    · rw [if_neg (by simp only [decide_eq_true_eq]; exact g), if_neg g]; exact ⟨σ, rfl, Qm.rf σ⟩
