/-! ===== pure part 29: count, keep, back ===== -/
theorem c_sumF {a0 n0 : Nat} {σ : St} {g : Nat → Int} {x : Int} (hx : 0 ≤ x ∧ x ≤ n0) (hn : n0 ≤ 2000) (hg : ∀ i : Nat, (i : Int) < x → rd σ a0 i = g i) : f_X4_sumOfFirst a0 n0 x σ = some (sumN g x.toNat, σ) := by
  have lp : ∀ (k i m : Nat), i + k = x.toNat → k < m → f_X4_sumOfFirst_4 a0 n0 m x (sumN g i) i σ = some (sumN g x.toNat, σ) := by
    intro k
    induction k with
    | zero =>
      intro i m hi hm
      obtain ⟨m, rfl⟩ : ∃ y, m = y + 1 := ⟨m - 1, by omega⟩
      obtain rfl : i = x.toNat := by omega
      rw [f_X4_sumOfFirst_4, wr_of (x := ((x.toNat : Nat) : Int)) (by omega) (by omega), wr_of (x := x) (by omega) (by omega), if_neg (by omega)]
    | succ k ih =>
      intro i m hi hm
      obtain ⟨m, rfl⟩ : ∃ y, m = y + 1 := ⟨m - 1, by omega⟩
      rw [f_X4_sumOfFirst_4, wr_of (x := (i : Int)) (by omega) (by omega), wr_of (x := x) (by omega) (by omega), wr_of (x := (n0 : Int)) (by omega) (by omega), if_pos (by omega), if_pos (by omega), ld_of (by omega) (by omega) (by omega), bV_s, hg i (by omega), show (i : Int) + 1 = ((i + 1 : Nat) : Int) by omega]
      exact ih (i + 1) m (by omega) (by omega)
  exact lp x.toNat 0 FU (by omega) (by unfold FU; omega)
def R_count (w : Int) (A : Ab) : Int := if w = 0 then A.2.1.1 else if w = 1 then A.2.2.2.1 0 + A.2.2.2.1 1 else if w = 2 then A.2.2.2.2.1.1 else if w = 3 then (if A.2.2.2.2.2.1.1 0 = -4 then -4 else A.2.2.2.2.2.1.2.1 0) else if w = 4 then sumN (fun h => A.1 3 h) (A.1 0 0).toNat else if w = 5 then sumN (fun r => A.1 4 r) 4 else -1
theorem o_count {w : Int} (hw : IR w) : Op (f_X4_count w) (f_X5_count w) (R_count w) id := by
  have w4 : wr 4 = 4 := by decide
  have wm : wr (-4) = -4 := by decide
  refine ⟨fun A a => a, fun σ A ok v => ⟨σ, ?_, v, fun _ _ _ => rfl⟩, fun σ A ok v => ⟨σ, ?_, v, fun _ _ _ => rfl⟩⟩
  · have hR := ok.1.1.1
    have e1 := v.1.1
    unfold f_X4_count R_count
    rw [wrI hw]
    by_cases c0 : w = 0
    · rw [if_pos c0, if_pos c0, v.2.1.1]
    rw [if_neg c0, if_neg c0]
    by_cases c1 : w = 1
    · rw [if_pos c1, if_pos c1, v.2.2.1.1, bc_eq, bI_s]
      rcases ok.2.2.1.1 with b0 | b0 <;> rcases ok.2.2.1.2.1 with b1 | b1 <;> rw [b0, b1] <;> congr 2 <;> decide
    rw [if_neg c1, if_neg c1]
    by_cases c2 : w = 2
    · rw [if_pos c2, if_pos c2, v.2.2.2.1.1]
    rw [if_neg c2, if_neg c2]
    by_cases c3 : w = 3
    · rw [if_pos c3, if_pos c3, ld_of (by omega) (by omega) (by omega), bV_s]
      have h1 := v.2.2.2.2.1.1 0 (by omega) (by omega)
      have h2 := (ok.2.2.2.2.1 0 (by omega) (by omega)).2
      by_cases c : A.2.2.2.2.2.1.1 0 = -4
      · rw [if_pos c, h1.1 c, if_pos (by decide)]
      · have := h2 c
        rw [if_neg c, (h1.2 c).2, wr_of (x := A.2.2.2.2.2.1.2.1 0) (by omega) (by omega), if_neg (by omega), bV_s]
    rw [if_neg c3, if_neg c3]
    by_cases c4 : w = 4
    · have q := c_sumF (a0 := 4) (n0 := 5) (σ := σ) (g := fun h => A.1 3 h) (x := σ 1 0) (by rw [← cv_0 σ 1, e1]; omega) (by omega) (fun i hi => by
        rw [← e1]
        exact cv_w (q := 1) (by omega) hi)
      rw [if_pos c4, if_pos c4, q, bI_s, ← cv_0 σ 1, e1]
    rw [if_neg c4, if_neg c4]
    by_cases c5 : w = 5
    · have q := c_sumF (a0 := 5) (n0 := 4) (σ := σ) (g := fun h => A.1 4 h) (x := 4) (by omega) (by omega) (fun i hi => by
        rw [← e1]
        exact cv_t (q := 1) (by omega) hi)
      rw [if_pos c5, if_pos c5, q, bI_s]
      rfl
    rw [if_neg c5, if_neg c5]
  · have hR := ok.1.1.1
    have e1 := v.1.1
    have e0 : σ 51 1 = A.1 0 0 := by rw [← e1]; rfl
    have fin : ∀ x3 : Int, x3 = sumN (fun r => A.1 4 r) 4 → ∀ m : Nat, f_X5_count_38 (m + 1) w (sumN (fun h => A.1 3 h) (A.1 0 0).toNat) x3 4 σ = some (R_count w A, σ) := by
      intro x3 h3 m
      rw [f_X5_count_38, if_neg (by decide)]
      unfold R_count
      rw [wrI hw]
      by_cases c0 : w = 0
      · rw [if_pos c0, if_pos c0, v.2.1.1]
      rw [if_neg c0, if_neg c0]
      by_cases c1 : w = 1
      · have k := v.2.2.1.1
        rw [if_pos c1, if_pos c1, ld_of (by omega) (by omega) (by omega), bV_s, k.1]
        unfold f_X5_count_123
        rw [ld_of (by omega) (by omega) (by omega), bV_s, k.2]
        rcases ok.2.2.1.1 with b0 | b0 <;> rcases ok.2.2.1.2.1 with b1 | b1 <;> rw [b0, b1] <;> rfl
      rw [if_neg c1, if_neg c1]
      by_cases c2 : w = 2
      · rw [if_pos c2, if_pos c2, v.2.2.2.1.1]
      rw [if_neg c2, if_neg c2]
      by_cases c3 : w = 3
      · have h1 := v.2.2.2.2.1.1 0 (by omega) (by omega)
        have h2 := (ok.2.2.2.2.1 0 (by omega) (by omega)).1
        rw [if_pos c3, if_pos c3, ld_of (by omega) (by omega) (by omega), bV_s, h1.1, wm, wr_of (x := A.2.2.2.2.2.1.1 0) (by omega) (by omega)]
        by_cases c : A.2.2.2.2.2.1.1 0 = -4
        · rw [if_pos c, if_pos c]
        · rw [if_neg c, if_neg c, ld_of (by omega) (by omega) (by omega), bV_s, h1.2 c]
      rw [if_neg c3, if_neg c3]
      by_cases c4 : w = 4
      · rw [if_pos c4, if_pos c4]
      rw [if_neg c4, if_neg c4]
      by_cases c5 : w = 5
      · rw [if_pos c5, if_pos c5, h3]
      rw [if_neg c5, if_neg c5]
    have tr : ∀ (k i m : Nat), i + k = 4 → k < m → f_X5_count_38 m w (sumN (fun h => A.1 3 h) (A.1 0 0).toNat) (sumN (fun r => A.1 4 r) i) i σ = some (R_count w A, σ) := by
      intro k
      induction k with
      | zero =>
        intro i m hi hm
        obtain ⟨m, rfl⟩ : ∃ y, m = y + 1 := ⟨m - 1, by omega⟩
        obtain rfl : i = 4 := by omega
        exact fin _ rfl m
      | succ k ih =>
        intro i m hi hm
        obtain ⟨m, rfl⟩ : ∃ y, m = y + 1 := ⟨m - 1, by omega⟩
        have q : rd σ 52 (16 + (i : Int)) + 1 = A.1 4 i := by
          rw [← e1]
          exact mv_t (σ := σ) (p := 0) (by omega) (by omega)
        rw [f_X5_count_38, w4, wr_of (x := (i : Int)) (by omega) (by omega), if_pos (by omega), ld_of (by omega) (by omega) (by omega), bV_s, q, show (i : Int) + 1 = ((i + 1 : Nat) : Int) by omega]
        exact ih (i + 1) m (by omega) (by omega)
    have wt : ∀ (k i m : Nat), i + k = (A.1 0 0).toNat → k < m → f_X5_count_7 m w (sumN (fun h => A.1 3 h) i) 0 i σ = some (R_count w A, σ) := by
      intro k
      induction k with
      | zero =>
        intro i m hi hm
        obtain ⟨m, rfl⟩ : ∃ y, m = y + 1 := ⟨m - 1, by omega⟩
        obtain rfl : i = (A.1 0 0).toNat := by omega
        rw [f_X5_count_7, e0, wr_of (x := (((A.1 0 0).toNat : Nat) : Int)) (by omega) (by omega), wr_of (x := A.1 0 0) (by omega) (by omega), if_neg (by omega)]
        exact tr 4 0 FU (by omega) (by unfold FU; omega)
      | succ k ih =>
        intro i m hi hm
        obtain ⟨m, rfl⟩ : ∃ y, m = y + 1 := ⟨m - 1, by omega⟩
        have q : rd σ 52 (10 + (i : Int)) = A.1 3 i := by
          rw [← e1]
          exact mv_w (σ := σ) (p := 0) (by omega) (by rw [e1]; omega)
        rw [f_X5_count_7, e0, wr_of (x := (i : Int)) (by omega) (by omega), wr_of (x := A.1 0 0) (by omega) (by omega), if_pos (by omega), ld_of (by omega) (by omega) (by omega), bV_s, q, show (i : Int) + 1 = ((i + 1 : Nat) : Int) by omega]
        exact ih (i + 1) m (by omega) (by omega)
    exact wt (A.1 0 0).toNat 0 FU (by omega) (by unfold FU; omega)
/-! images -/
def putK (K : Int → Pg) (k : Int) (P : Pg) : Int → Pg := fun j => if j = k then P else K j
def putB (B : Int → Int) (k : Int) : Int → Int := fun j => if j = k then 1 else B j
def R_keep (k : Int) (A : Ab) : Int := if 0 ≤ k ∧ k ≤ 1 then A.2.2.2.1 k else -1
def T_keep (k : Int) (A : Ab) : Ab := if 0 ≤ k ∧ k ≤ 1 then (A.1, A.2.1, putK A.2.2.1 k A.1, putB A.2.2.2.1 k, A.2.2.2.2) else A
theorem c_img {k : Int} {σ : St} (hk : k = 0 ∨ k = 1) : f_X4_image k σ = some ((if k = 0 then 21 else 31), σ) := by
  unfold f_X4_image
  rcases hk with rfl | rfl <;> rfl
theorem o_keep {k : Int} (hk : IR k) : Op (f_X4_keep k) (f_X5_keep k) (R_keep k) (T_keep k) := by
  refine ⟨fun A ok => ?_, fun σ A ok v => ?_, fun σ A ok v => ?_⟩
  · unfold T_keep
    split
    · rename_i g
      refine ⟨ok.1, ok.2.1, ?_, ok.2.2.2⟩
      obtain ⟨i1, i2, i3, i4⟩ := ok.2.2.1
      rcases (show k = 0 ∨ k = 1 by omega) with rfl | rfl
      · exact ⟨Or.inr rfl, i2, fun _ => ⟨ok.1.1, ok.1.2, rfl⟩, i4⟩
      · exact ⟨i1, Or.inr rfl, i3, fun _ => ⟨ok.1.1, ok.1.2, rfl⟩⟩
    · exact ok
  · have I := v.ic ok
    unfold f_X4_keep R_keep T_keep
    rw [c_isImage hk, bI_s]
    by_cases g : 0 ≤ k ∧ k ≤ 1
    case neg => rw [if_neg (by simp only [decide_eq_true_eq]; exact g), if_neg g, if_neg g]; exact ⟨σ, rfl, v, fun _ _ _ => rfl⟩
    rw [if_pos (by simp [g]), if_pos g, if_pos g, c_img (by omega), bI_s]
    obtain ⟨i1, i2, i3, i4⟩ := ok.2.2.1
    obtain ⟨⟨a1, a2⟩, b, ⟨c1, c2, c3⟩, d, e, f1, f2⟩ := v
    rcases (show k = 0 ∨ k = 1 by omega) with rfl | rfl
    · obtain ⟨τ, h1, h2, h3, h4, -⟩ := c_copy (q := 21) (r := 1) (σ := σ) (by omega) (by rw [← cv_0 σ 1]; exact I.1.1.2) (by rw [← cv_2 σ 1]; exact I.1.2.2.1.2)
      rw [if_pos rfl]
      unfold sqc pf
      rw [if_pos (by omega), bV_s, h1, bV_s, bV_s, h2 0 7 (by omega), c1]
      have q1 : iad (isr (A.2.2.2.1 0 + 2 * A.2.2.2.1 1) 0) 1 = A.2.2.2.1 0 := by
        rcases i1 with b0 | b0 <;> rcases i2 with b1 | b1 <;> rw [b0, b1] <;> decide
      have q2 : iod (A.2.2.2.1 0 + 2 * A.2.2.2.1 1) (isl 1 0) = 1 + 2 * A.2.2.2.1 1 := by
        rcases i1 with b0 | b0 <;> rcases i2 with b1 | b1 <;> rw [b0, b1] <;> decide
      rw [q1, q2]
      have fr : ∀ k j, (k < 21 ∨ 30 ≤ k) → ¬ (k = 0 ∧ j = 7) → up τ 0 7 (1 + 2 * A.2.2.2.1 1) k j = σ k j := fun k j x y => by rw [up_at, if_neg y]; exact h2 k j x
      refine ⟨_, rfl, ⟨⟨(cv_ext (fun r j hr _ => fr (1 + r) j (by omega) (by omega))).trans a1, (fr 1 11 (by omega) (by omega)).trans a2⟩, b.ext (fun k j _ _ => fr k j (by omega) (by omega)), ⟨?_, fun _ => ?_, fun hb => ?_⟩, d.ext (fr 41 1 (by omega) (by omega)) (fun j => fr 42 j (by omega) (by omega)), e.ext (fun k j _ _ => fr k j (by omega) (by omega)), (fr 0 8 (by omega) (by omega)).trans f1, (fr 0 9 (by omega) (by omega)).trans f2⟩, fun k j hk => fr k j (by omega) (by omega)⟩
      · rw [up_at, if_pos ⟨rfl, rfl⟩]; rfl
      · refine ⟨?_, ?_⟩
        · rw [cv_ext (σ := τ) (q := 21) (fun r j hr _ => by rw [up_at, if_neg (by omega)]), h3, a1]; rfl
        · rw [up_at, if_neg (by omega), h4, a2]
      · have := c3 hb
        refine ⟨(cv_ext (fun r j hr _ => fr (31 + r) j (by omega) (by omega))).trans this.1, (fr 31 11 (by omega) (by omega)).trans this.2⟩
    · obtain ⟨τ, h1, h2, h3, h4, -⟩ := c_copy (q := 31) (r := 1) (σ := σ) (by omega) (by rw [← cv_0 σ 1]; exact I.1.1.2) (by rw [← cv_2 σ 1]; exact I.1.2.2.1.2)
      rw [if_neg (by omega)]
      unfold sqc pf
      rw [if_pos (by omega), bV_s, h1, bV_s, bV_s, h2 0 7 (by omega), c1]
      have q1 : iad (isr (A.2.2.2.1 0 + 2 * A.2.2.2.1 1) 1) 1 = A.2.2.2.1 1 := by
        rcases i1 with b0 | b0 <;> rcases i2 with b1 | b1 <;> rw [b0, b1] <;> decide
      have q2 : iod (A.2.2.2.1 0 + 2 * A.2.2.2.1 1) (isl 1 1) = A.2.2.2.1 0 + 2 * 1 := by
        rcases i1 with b0 | b0 <;> rcases i2 with b1 | b1 <;> rw [b0, b1] <;> decide
      rw [q1, q2]
      have fr : ∀ k j, (k < 31 ∨ 40 ≤ k) → ¬ (k = 0 ∧ j = 7) → up τ 0 7 (A.2.2.2.1 0 + 2 * 1) k j = σ k j := fun k j x y => by rw [up_at, if_neg y]; exact h2 k j x
      refine ⟨_, rfl, ⟨⟨(cv_ext (fun r j hr _ => fr (1 + r) j (by omega) (by omega))).trans a1, (fr 1 11 (by omega) (by omega)).trans a2⟩, b.ext (fun k j _ _ => fr k j (by omega) (by omega)), ⟨?_, fun hb => ?_, fun _ => ?_⟩, d.ext (fr 41 1 (by omega) (by omega)) (fun j => fr 42 j (by omega) (by omega)), e.ext (fun k j _ _ => fr k j (by omega) (by omega)), (fr 0 8 (by omega) (by omega)).trans f1, (fr 0 9 (by omega) (by omega)).trans f2⟩, fun k j hk => fr k j (by omega) (by omega)⟩
      · rw [up_at, if_pos ⟨rfl, rfl⟩]; rfl
      · have := c2 hb
        refine ⟨(cv_ext (fun r j hr _ => fr (21 + r) j (by omega) (by omega))).trans this.1, (fr 21 11 (by omega) (by omega)).trans this.2⟩
      · refine ⟨?_, ?_⟩
        · rw [cv_ext (σ := τ) (q := 31) (fun r j hr _ => by rw [up_at, if_neg (by omega)]), h3, a1]; rfl
        · rw [up_at, if_neg (by omega), h4, a2]
  · have I := v.im ok
    have nz : naz 1 = 1 := by decide
    unfold f_X5_keep R_keep T_keep
    rw [m_inw hk (by omega) (by omega), bI_s]
    by_cases g : 0 ≤ k ∧ k ≤ 1
    case neg => rw [if_neg (by simp only [decide_eq_true_eq]; exact g), if_neg g, if_neg g]; exact ⟨σ, rfl, v, fun _ _ _ => rfl⟩
    rw [if_pos (by simp [g]), if_pos g, if_pos g]
    obtain ⟨i1, i2, i3, i4⟩ := ok.2.2.1
    obtain ⟨⟨a1, a2⟩, b, ⟨⟨c0, c1⟩, c2, c3⟩, d, e, ⟨f1, f2⟩, mc⟩ := v
    have wb : ∀ x : Int, (x = 0 ∨ x = 1) → (wr x = 0 ↔ x = 0) := fun x hx => by rw [wr_of (by omega) (by omega)]
    have cpy : ∀ a : Nat, 55 ≤ a → a ≤ 275 → mv (cpM σ 0 a) a = A.1 ∧ mv (cpM σ 0 a) 0 = A.1 := by
      intro a h1 h2
      refine ⟨?_, ?_⟩
      · have := cpM_mv (a := 0) (b := a) (σ := σ) (show mv σ 0 0 0 ≤ 5 from I.1.1.2) (show mv σ 0 0 2 ≤ 8 from I.1.2.2.1.2)
        rw [this]; exact a1
      · rw [← a1]
        exact mv_ext (cpM_at (by decide)) I.1.1.2 I.1.2.2.1.2 (fun x h0 h1' => by rw [cpM_rd (by omega) (by omega)])
    rcases (show k = 0 ∨ k = 1 by omega) with rfl | rfl
    · have ec : f_X5_copies 0 (55 * (0 + 1)) σ = some (cpM σ 0 55) := m_copies (a := 0) (b := 55) (by omega) (by omega) (by omega) σ
      have l0 : rd (cpM σ 0 55) 59 0 = A.2.2.2.1 0 := by rw [← c0]; exact cpM_at (by decide)
      rw [ec, bV_s, ld_of (by omega) (by omega) (by omega), bV_s, l0]
      unfold f_X5_keep_37
      rw [sv_of (by omega) (by omega) (by omega), bV_s, bV_s, nz]
      have fr : ∀ k j, k ≠ 52 → k ≠ 59 → ups (cpM σ 0 55) 59 0 1 k j = σ k j := fun k j x y => by rw [ups_at y, cpM_at x]
      have fr52 : ∀ x, rd (ups (cpM σ 0 55) 59 0 1) 52 x = rd (cpM σ 0 55) 52 x := fun x => ups_at (by decide)
      refine ⟨ups (cpM σ 0 55) 59 0 1, ?_, ⟨⟨?_, (fr 51 18 (by omega) (by omega)).trans a2⟩, mSg.of (fr 51 23 (by omega) (by omega)) (fun j => fr 57 j (by omega) (by omega)) b, ⟨⟨?_, ?_⟩, fun _ => ?_, fun hb => ?_⟩, d.ext (fr 51 8 (by omega) (by omega)) (fun j => fr 54 j (by omega) (by omega)), e.ext (fun k j _ _ => fr k j (by omega) (by omega)), ⟨(fr 51 9 (by omega) (by omega)).trans f1, (fr 51 29 (by omega) (by omega)).trans f2⟩, mc.ext (fun k j x => fr k j (by omega) (by omega))⟩, fun k j hk => fr k j (by omega) (by omega)⟩
      · rcases i1 with b0 | b0 <;> rw [b0] <;> rfl
      · rw [show ups (cpM σ 0 55) 59 0 1 = up (cpM σ 0 55) 59 (0 : Int).toNat 1 from rfl, mv_pf (k := 59) (by decide) (by omega)]
        exact (cpy 55 (by omega) (by omega)).2
      · rw [rd_ups (by omega) (by omega), if_pos ⟨rfl, rfl⟩]; rfl
      · rw [rd_ups (by omega) (by omega), if_neg (by omega)]
        rw [show rd (cpM σ 0 55) 59 1 = rd σ 59 1 from cpM_at (by decide), c1]; rfl
      · rw [show ups (cpM σ 0 55) 59 0 1 = up (cpM σ 0 55) 59 (0 : Int).toNat 1 from rfl, mv_pf (k := 59) (by decide) (by omega)]
        exact (cpy 55 (by omega) (by omega)).1
      · have hb' : A.2.2.2.1 1 = 1 := hb
        have k1 := i4 hb'
        have e := c3 hb'
        rw [show ups (cpM σ 0 55) 59 0 1 = up (cpM σ 0 55) 59 (0 : Int).toNat 1 from rfl, mv_pf (k := 59) (by decide) (by omega)]
        show _ = A.2.2.1 1
        rw [← e]
        exact mv_ext (cpM_at (by decide)) (by rw [← mv_0 σ 110, e]; exact k1.1.1.2) (by rw [← mv_2 σ 110, e]; exact k1.1.2.2.1.2) (fun x h0 h1' => by rw [cpM_rd (by omega) (by omega)])
    · have ec : f_X5_copies 0 (55 * (1 + 1)) σ = some (cpM σ 0 110) := m_copies (a := 0) (b := 110) (by omega) (by omega) (by omega) σ
      have l0 : rd (cpM σ 0 110) 59 1 = A.2.2.2.1 1 := by rw [← c1]; exact cpM_at (by decide)
      rw [ec, bV_s, ld_of (by omega) (by omega) (by omega), bV_s, l0]
      unfold f_X5_keep_37
      rw [sv_of (by omega) (by omega) (by omega), bV_s, bV_s, nz]
      have fr : ∀ k j, k ≠ 52 → k ≠ 59 → ups (cpM σ 0 110) 59 1 1 k j = σ k j := fun k j x y => by rw [ups_at y, cpM_at x]
      refine ⟨ups (cpM σ 0 110) 59 1 1, ?_, ⟨⟨?_, (fr 51 18 (by omega) (by omega)).trans a2⟩, mSg.of (fr 51 23 (by omega) (by omega)) (fun j => fr 57 j (by omega) (by omega)) b, ⟨⟨?_, ?_⟩, fun hb => ?_, fun _ => ?_⟩, d.ext (fr 51 8 (by omega) (by omega)) (fun j => fr 54 j (by omega) (by omega)), e.ext (fun k j _ _ => fr k j (by omega) (by omega)), ⟨(fr 51 9 (by omega) (by omega)).trans f1, (fr 51 29 (by omega) (by omega)).trans f2⟩, mc.ext (fun k j x => fr k j (by omega) (by omega))⟩, fun k j hk => fr k j (by omega) (by omega)⟩
      · rcases i2 with b0 | b0 <;> rw [b0] <;> rfl
      · rw [show ups (cpM σ 0 110) 59 1 1 = up (cpM σ 0 110) 59 (1 : Int).toNat 1 from rfl, mv_pf (k := 59) (by decide) (by omega)]
        exact (cpy 110 (by omega) (by omega)).2
      · rw [rd_ups (by omega) (by omega), if_neg (by omega)]
        rw [show rd (cpM σ 0 110) 59 0 = rd σ 59 0 from cpM_at (by decide), c0]; rfl
      · rw [rd_ups (by omega) (by omega), if_pos ⟨rfl, rfl⟩]; rfl
      · have hb' : A.2.2.2.1 0 = 1 := hb
        have k1 := i3 hb'
        have e := c2 hb'
        rw [show ups (cpM σ 0 110) 59 1 1 = up (cpM σ 0 110) 59 (1 : Int).toNat 1 from rfl, mv_pf (k := 59) (by decide) (by omega)]
        show _ = A.2.2.1 0
        rw [← e]
        exact mv_ext (cpM_at (by decide)) (by rw [← mv_0 σ 55, e]; exact k1.1.1.2) (by rw [← mv_2 σ 55, e]; exact k1.1.2.2.1.2) (fun x h0 h1' => by rw [cpM_rd (by omega) (by omega)])
      · rw [show ups (cpM σ 0 110) 59 1 1 = up (cpM σ 0 110) 59 (1 : Int).toNat 1 from rfl, mv_pf (k := 59) (by decide) (by omega)]
        exact (cpy 110 (by omega) (by omega)).1
def R_back (k : Int) (A : Ab) : Int := if 0 ≤ k ∧ k ≤ 1 then (if A.2.2.2.1 k = 0 then -2 else A.2.2.1 k 0 3) else -1
def T_back (k : Int) (A : Ab) : Ab := if 0 ≤ k ∧ k ≤ 1 then (if A.2.2.2.1 k = 0 then A else (A.2.2.1 k, A.2)) else A
theorem o_back {k : Int} (hk : IR k) : Op (f_X4_back k) (f_X5_back k) (R_back k) (T_back k) := by
  refine ⟨fun A ok => ?_, fun σ A ok v => ?_, fun σ A ok v => ?_⟩
  · unfold T_back
    split
    · split
      · exact ok
      · rename_i g g2
        obtain ⟨i1, i2, i3, i4⟩ := ok.2.2.1
        rcases (show k = 0 ∨ k = 1 by omega) with rfl | rfl
        · obtain ⟨a, b, c⟩ := i3 (by omega)
          exact ok.p a b c
        · obtain ⟨a, b, c⟩ := i4 (by omega)
          exact ok.p a b c
    · exact ok
  · unfold f_X4_back R_back T_back
    rw [c_isImage hk, bI_s]
    by_cases g : 0 ≤ k ∧ k ≤ 1
    case neg => rw [if_neg (by simp only [decide_eq_true_eq]; exact g), if_neg g, if_neg g]; exact ⟨σ, rfl, v, fun _ _ _ => rfl⟩
    rw [if_pos (by simp [g]), if_pos g, if_pos g, c_img (by omega), bI_s]
    obtain ⟨i1, i2, i3, i4⟩ := ok.2.2.1
    have ⟨c1, c2, c3⟩ := v.2.2.1
    have q1 : (wr (iad (isr (σ 0 7) k) 1) = 0) ↔ A.2.2.2.1 k = 0 := by
      rw [c1]
      rcases (show k = 0 ∨ k = 1 by omega) with rfl | rfl <;> rcases i1 with b0 | b0 <;> rcases i2 with b1 | b1 <;> rw [b0, b1] <;> decide
    by_cases c : A.2.2.2.1 k = 0
    · rw [if_pos (q1.mpr c), if_pos c, if_pos c]; exact ⟨σ, rfl, v, fun _ _ _ => rfl⟩
    rw [if_neg (fun z => c (q1.mp z)), if_neg c, if_neg c]
    have go : ∀ r : Nat, (r = 21 ∨ r = 31) → cv σ r = A.2.2.1 k → σ r 11 = 0 → WF (A.2.2.1 k) → ∃ σ', (bV (sqc r) fun _ => bV (f_X2_copyFrom 1 r σ) fun s32 => some ((s32 1 12), s32)) = some (A.2.2.1 k 0 3, σ') ∧ Vc σ' (A.2.2.1 k, A.2) ∧ FC σ σ' := by
      intro r hr e1 e2 wf
      obtain ⟨τ, h1, h2, h3, h4, -⟩ := c_copy (q := 1) (r := r) (σ := σ) (by omega) (by rw [← cv_0 σ r, e1]; exact wf.1.2) (by rw [← cv_2 σ r, e1]; exact wf.2.2.1.2)
      unfold sqc
      rw [if_pos (by omega), bV_s, h1, bV_s]
      refine ⟨τ, ?_, v.k (fun k j hk => h2 k j (by omega)) (h3.trans e1) (h4.trans e2), fun k j hk => h2 k j (by omega)⟩
      rw [← cv_3 τ 1, h3, e1]
    rcases (show k = 0 ∨ k = 1 by omega) with rfl | rfl
    · have b1 : A.2.2.2.1 0 = 1 := by omega
      rw [if_pos rfl]
      exact go 21 (Or.inl rfl) (c2 b1).1 (c2 b1).2 (i3 b1).1
    · have b1 : A.2.2.2.1 1 = 1 := by omega
      rw [if_neg (by omega)]
      exact go 31 (Or.inr rfl) (c3 b1).1 (c3 b1).2 (i4 b1).1
  · unfold f_X5_back R_back T_back
    rw [m_inw hk (by omega) (by omega), bI_s]
    by_cases g : 0 ≤ k ∧ k ≤ 1
    case neg => rw [if_neg (by simp only [decide_eq_true_eq]; exact g), if_neg g, if_neg g]; exact ⟨σ, rfl, v, fun _ _ _ => rfl⟩
    obtain ⟨i1, i2, i3, i4⟩ := ok.2.2.1
    have ⟨⟨c0, c1⟩, c2, c3⟩ := v.2.2.1
    have bk : A.2.2.2.1 k = 0 ∨ A.2.2.2.1 k = 1 := by rcases (show k = 0 ∨ k = 1 by omega) with rfl | rfl <;> assumption
    have ek : rd σ 59 k = A.2.2.2.1 k := by rcases (show k = 0 ∨ k = 1 by omega) with rfl | rfl <;> assumption
    rw [if_pos (by simp [g]), if_pos g, if_pos g, ld_of g.1 (by omega) (by omega), bV_s, ek, wr_of (x := A.2.2.2.1 k) (by omega) (by omega)]
    by_cases c : A.2.2.2.1 k = 0
    · rw [if_pos c, if_pos c, if_pos c]; exact ⟨σ, rfl, v, fun _ _ _ => rfl⟩
    rw [if_neg c, if_neg c, if_neg c]
    have go : ∀ r : Nat, (r = 55 ∨ r = 110) → mv σ r = A.2.2.1 k → WF (A.2.2.1 k) → ∃ σ', (bV (f_X5_copies r 0 σ) fun s32 => bV (ld s32 52 330 53) fun v41 => some (v41, s32)) = some (A.2.2.1 k 0 3, σ') ∧ Vm σ' (A.2.2.1 k, A.2) ∧ FM σ σ' := by
      intro r hr e1 wf
      have ec : f_X5_copies r 0 σ = some (cpM σ r 0) := m_copies (a := r) (b := 0) (by omega) (by omega) (by omega) σ
      have em := cpM_mv (a := r) (b := 0) (σ := σ) (by rw [← mv_0 σ r, e1]; exact wf.1.2) (by rw [← mv_2 σ r, e1]; exact wf.2.2.1.2)
      have em' : mv (cpM σ r 0) 0 = A.2.2.1 k := em.trans e1
      rw [ec, bV_s, ld_of (by omega) (by omega) (by omega), bV_s]
      have qp : Qp σ (cpM σ r 0) := ⟨fun k j _ x _ => cpM_at x, fun j _ _ _ => cpM_at (by decide), fun x h0 h1 => cpM_rd (by omega) (by omega)⟩
      refine ⟨_, ?_, Vm.p ok qp v em', qp.fm⟩
      rw [show rd (cpM σ r 0) 52 53 = mv (cpM σ r 0) 0 0 3 from rfl, em']
    rcases (show k = 0 ∨ k = 1 by omega) with rfl | rfl
    · have b1 : A.2.2.2.1 0 = 1 := by omega
      exact go 55 (Or.inl rfl) (c2 b1) (i3 b1).1
    · have b1 : A.2.2.2.1 1 = 1 := by omega
      exact go 110 (Or.inr rfl) (c3 b1) (i4 b1).1
