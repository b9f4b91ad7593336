/-! ===== pure part 28: feed, end, see, forget, fault, torn, count ===== -/
theorem o_fault : Op f_X4_fault f_X5_fault (fun A => A.2.2.2.2.2.2.1) id := by
  refine ⟨fun A a => a, fun σ A ok v => ⟨σ, ?_, v, fun _ _ _ => rfl⟩, fun σ A ok v => ⟨σ, ?_, v, fun _ _ _ => rfl⟩⟩
  · unfold f_X4_fault; rw [v.2.2.2.2.2.1]
  · unfold f_X5_fault; rw [v.2.2.2.2.2.1.1]
theorem o_torn : Op f_X4_torn f_X5_torn (fun A => A.2.2.2.2.2.2.2) id := by
  refine ⟨fun A a => a, fun σ A ok v => ⟨σ, ?_, v, fun _ _ _ => rfl⟩, fun σ A ok v => ⟨σ, ?_, v, fun _ _ _ => rfl⟩⟩
  · unfold f_X4_torn; rw [v.2.2.2.2.2.2]
  · unfold f_X5_torn; rw [v.2.2.2.2.2.1.2]
/-- class and model with the tape changed -/
theorem Vc.t {σ σ' : St} {A : Ab} {T' : Int × (Int → Int)} (v : Vc σ A) (h : ∀ k j, k ≠ 41 → k ≠ 42 → σ' k j = σ k j) (ht : cTp σ' T') : Vc σ' (A.1, A.2.1, A.2.2.1, A.2.2.2.1, T', A.2.2.2.2.2) := by
  obtain ⟨⟨a1, a2⟩, b, c, d, e, f1, f2⟩ := v
  exact ⟨⟨(cv_ext (fun r j hr _ => h (1 + r) j (by omega) (by omega))).trans a1, (h 1 11 (by omega) (by omega)).trans a2⟩, b.ext (fun k j _ _ => h k j (by omega) (by omega)), c.ext (h 0 7 (by omega) (by omega)) (fun k j _ _ => h k j (by omega) (by omega)), ht, e.ext (fun k j _ _ => h k j (by omega) (by omega)), (h 0 8 (by omega) (by omega)).trans f1, (h 0 9 (by omega) (by omega)).trans f2⟩
theorem Vm.t {σ σ' : St} {A : Ab} {T' : Int × (Int → Int)} (ok : OKA A) (v : Vm σ A) (h : ∀ k j, k ≠ 54 → ¬ (k = 51 ∧ j = 8) → σ' k j = σ k j) (ht : mTp σ' T') : Vm σ' (A.1, A.2.1, A.2.2.1, A.2.2.2.1, T', A.2.2.2.2.2) := by
  obtain ⟨⟨a1, a2⟩, b, c, d, e, ⟨f1, f2⟩, g⟩ := v
  have e0 : σ 51 1 = A.1 0 0 := by rw [← a1]; rfl
  have e2 : rd σ 52 (0 + 52) = A.1 0 2 := by rw [← a1]; rfl
  have w := ok.1.1
  exact ⟨⟨(mv_ext (h 51 1 (by omega) (by omega)) (by rw [e0]; exact w.1.2) (by rw [e2]; exact w.2.2.1.2) (fun x _ _ => h 52 _ (by omega) (by omega))).trans a1, (h 51 18 (by omega) (by omega)).trans a2⟩, mSg.of (h 51 23 (by omega) (by omega)) (fun j => h 57 j (by omega) (by omega)) b, c.ext ok.2.2.1 w.1.2 (h 51 1 (by omega) (by omega)) (fun j => h 59 j (by omega) (by omega)) (fun x _ _ => h 52 _ (by omega) (by omega)), ht, e.ext (fun k j x _ => h k j (by omega) (by omega)), ⟨(h 51 9 (by omega) (by omega)).trans f1, (h 51 29 (by omega) (by omega)).trans f2⟩, g.ext (fun k j x => h k j (by omega) (by omega))⟩
theorem OKA.t {A : Ab} {T' : Int × (Int → Int)} (ok : OKA A) (h : okT T') : OKA (A.1, A.2.1, A.2.2.1, A.2.2.2.1, T', A.2.2.2.2.2) := ⟨ok.1, ok.2.1, ok.2.2.1, h, ok.2.2.2.2⟩
def putT (T : Int × (Int → Int)) (c : Int) : Int × (Int → Int) := (T.1 + 1, fun i => if i = T.1 then c else T.2 i)
def R_feed (c : Int) (A : Ab) : Int := if 0 ≤ c ∧ c ≤ 127 then (if A.2.2.2.2.1.1 < 160 then A.2.2.2.2.1.1 + 1 else -3) else -1
def T_feed (c : Int) (A : Ab) : Ab := if 0 ≤ c ∧ c ≤ 127 then (if A.2.2.2.2.1.1 < 160 then (A.1, A.2.1, A.2.2.1, A.2.2.2.1, putT A.2.2.2.2.1 c, A.2.2.2.2.2) else A) else A
theorem nab_of {c : Int} (h0 : 0 ≤ c) (h1 : c ≤ 127) : nab (nby c) = c := by
  have := all_lt 128 (fun c => nab (nby c) == c) (by decide +kernel) h0 (show c < (128 : Nat) by omega)
  simpa using this
theorem o_feed {c : Int} (hc : IR c) : Op (f_X4_feed c) (f_X5_feed c) (R_feed c) (T_feed c) := by
  have w160 : wr 160 = 160 := by decide
  refine ⟨fun A ok => ?_, fun σ A ok v => ?_, fun σ A ok v => ?_⟩
  · have hT := ok.2.2.2.1
    unfold T_feed
    split
    · split
      · refine ok.t ⟨?_, fun i h0 h1 => ?_⟩
        · show 0 ≤ A.2.2.2.2.1.1 + 1 ∧ A.2.2.2.2.1.1 + 1 ≤ 160
          have := hT.1
          omega
        · show 0 ≤ (if i = A.2.2.2.2.1.1 then c else A.2.2.2.2.1.2 i) ∧ (if i = A.2.2.2.2.1.1 then c else A.2.2.2.2.1.2 i) ≤ 127
          have h1' : i < A.2.2.2.2.1.1 + 1 := h1
          split
          · omega
          · exact hT.2 i h0 (by omega)
      · exact ok
    · exact ok
  · have hT := ok.2.2.2.1.1
    obtain ⟨t1, t2⟩ := v.2.2.2.1
    unfold f_X4_feed R_feed T_feed
    rw [c_win hc (by omega) (by omega), bI_s]
    by_cases g : 0 ≤ c ∧ c ≤ 127
    case neg => rw [if_neg (by simp only [decide_eq_true_eq]; exact g), if_neg g, if_neg g]; exact ⟨σ, rfl, v, fun _ _ _ => rfl⟩
    rw [if_pos (by simp [g]), if_pos g, if_pos g]
    unfold f_X3_append
    rw [t1, w160, wr_of (x := A.2.2.2.2.1.1) (by omega) (by omega)]
    by_cases g2 : A.2.2.2.2.1.1 < 160
    case neg => rw [if_neg g2, if_neg g2, if_neg g2]; exact ⟨σ, rfl, v, fun _ _ _ => rfl⟩
    rw [if_pos g2, if_pos g2, if_pos g2, sv_of hT.1 (by omega) (by omega), bV_s, ups_at (by omega), t1, nab_of g.1 g.2]
    unfold pf
    rw [bV_s, bI_s]
    refine ⟨up (ups σ 42 A.2.2.2.2.1.1 c) 41 1 (A.2.2.2.2.1.1 + 1), ?_, v.t (fun k j h1 h2 => by rw [up_at, if_neg (by omega), ups_at h2]) ⟨?_, fun i h0 h1 => ?_⟩, fun k j hk => by rw [up_at, if_neg (by omega), ups_at (by omega)]⟩
    · simp only [if_true]
      rw [up_at, if_pos ⟨rfl, rfl⟩]
    · rw [up_at, if_pos ⟨rfl, rfl⟩]; rfl
    · have h1' : i < A.2.2.2.2.1.1 + 1 := h1
      rw [rd_up (by omega), rd_ups hT.1 h0]
      show _ = (if i = A.2.2.2.2.1.1 then c else A.2.2.2.2.1.2 i)
      by_cases e : i = A.2.2.2.2.1.1
      · rw [if_pos ⟨rfl, e⟩, if_pos e]
      · rw [if_neg (by omega), if_neg e]; exact t2 i h0 (by omega)
  · have hT := ok.2.2.2.1.1
    obtain ⟨t1, t2⟩ := v.2.2.2.1
    unfold f_X5_feed R_feed T_feed
    rw [m_inw hc (by omega) (by omega), bI_s]
    by_cases g : 0 ≤ c ∧ c ≤ 127
    case neg => rw [if_neg (by simp only [decide_eq_true_eq]; exact g), if_neg g, if_neg g]; exact ⟨σ, rfl, v, fun _ _ _ => rfl⟩
    rw [if_pos (by simp [g]), if_pos g, if_pos g, t1, w160, wr_of (x := A.2.2.2.2.1.1) (by omega) (by omega)]
    by_cases g2 : A.2.2.2.2.1.1 < 160
    case neg => rw [if_pos (by omega), if_neg g2, if_neg g2]; exact ⟨σ, rfl, v, fun _ _ _ => rfl⟩
    rw [if_neg (by omega), if_pos g2, if_pos g2, sv_of hT.1 (by omega) (by omega), bV_s, ups_at (by omega), t1]
    unfold pf
    rw [bV_s]
    refine ⟨up (ups σ 54 A.2.2.2.2.1.1 c) 51 8 (A.2.2.2.2.1.1 + 1), ?_, Vm.t ok v (fun k j h1 h2 => by rw [up_at, if_neg (by omega), ups_at h1]) ⟨?_, fun i h0 h1 => ?_⟩, fun k j hk => by rw [up_at, if_neg (by omega), ups_at (by omega)]⟩
    · rw [up_at, if_pos ⟨rfl, rfl⟩]
    · rw [up_at, if_pos ⟨rfl, rfl⟩]; rfl
    · have h1' : i < A.2.2.2.2.1.1 + 1 := h1
      rw [rd_up (by omega), rd_ups hT.1 h0]
      show _ = (if i = A.2.2.2.2.1.1 then c else A.2.2.2.2.1.2 i)
      by_cases e : i = A.2.2.2.2.1.1
      · rw [if_pos ⟨rfl, e⟩, if_pos e]
      · rw [if_neg (by omega), if_neg e]; exact t2 i h0 (by omega)
def R_end (n : Int) (A : Ab) : Int := if 0 ≤ n ∧ n ≤ A.2.2.2.2.1.1 then A.2.2.2.2.1.1 else -1
def T_end (n : Int) (A : Ab) : Ab := if 0 ≤ n ∧ n ≤ A.2.2.2.2.1.1 then (A.1, A.2.1, A.2.2.1, A.2.2.2.1, (n, A.2.2.2.2.1.2), A.2.2.2.2.2) else A
theorem o_end {n : Int} (hn : IR n) : Op (f_X4_end n) (f_X5_end n) (R_end n) (T_end n) := by
  refine ⟨fun A ok => ?_, fun σ A ok v => ?_, fun σ A ok v => ?_⟩
  · have hT := ok.2.2.2.1
    unfold T_end
    split
    · rename_i g
      refine ok.t ⟨?_, fun i h0 h1 => ?_⟩
      · show 0 ≤ n ∧ n ≤ 160
        have := hT.1
        omega
      · have h1' : i < n := h1
        exact hT.2 i h0 (by omega)
    · exact ok
  · have hT := ok.2.2.2.1.1
    obtain ⟨t1, t2⟩ := v.2.2.2.1
    unfold f_X4_end R_end T_end
    rw [t1, c_win hn (by omega) (by omega), bI_s]
    by_cases g : 0 ≤ n ∧ n ≤ A.2.2.2.2.1.1
    case neg => rw [if_neg (by simp only [decide_eq_true_eq]; exact g), if_neg g, if_neg g]; exact ⟨σ, rfl, v, fun _ _ _ => rfl⟩
    rw [if_pos (by simp [g]), if_pos g, if_pos g]
    unfold pf
    rw [bV_s, t1]
    refine ⟨up σ 41 1 n, rfl, v.t (fun k j h1 h2 => by rw [up_at, if_neg (by omega)]) ⟨?_, fun i h0 h1 => ?_⟩, fun k j hk => by rw [up_at, if_neg (by omega)]⟩
    · rw [up_at, if_pos ⟨rfl, rfl⟩]
    · have h1' : i < n := h1
      rw [rd_up (by omega)]
      exact t2 i h0 (by omega)
  · have hT := ok.2.2.2.1.1
    obtain ⟨t1, t2⟩ := v.2.2.2.1
    unfold f_X5_end R_end T_end
    rw [t1, wr_of (x := A.2.2.2.2.1.1) (by omega) (by omega), m_inw hn (by omega) (by omega), bI_s]
    by_cases g : 0 ≤ n ∧ n ≤ A.2.2.2.2.1.1
    case neg => rw [if_neg (by simp only [decide_eq_true_eq]; exact g), if_neg g, if_neg g]; exact ⟨σ, rfl, v, fun _ _ _ => rfl⟩
    rw [if_pos (by simp [g]), if_pos g, if_pos g]
    unfold pf
    rw [bV_s, t1]
    refine ⟨up σ 51 8 n, rfl, Vm.t ok v (fun k j h1 h2 => by rw [up_at, if_neg (by omega)]) ⟨?_, fun i h0 h1 => ?_⟩, fun k j hk => by rw [up_at, if_neg (by omega)]⟩
    · rw [up_at, if_pos ⟨rfl, rfl⟩]
    · have h1' : i < n := h1
      rw [rd_up (by omega)]
      exact t2 i h0 (by omega)
/-! what is seen -/
theorem Vc.s {σ σ' : St} {A : Ab} {S' : Sg} (v : Vc σ A) (h : ∀ k j, (k < 43 ∨ 46 < k) → σ' k j = σ k j) (ht : cSg σ' S') : Vc σ' (A.1, S', A.2.2) := by
  obtain ⟨⟨a1, a2⟩, b, c, d, e, f1, f2⟩ := v
  exact ⟨⟨(cv_ext (fun r j hr _ => h (1 + r) j (by omega))).trans a1, (h 1 11 (by omega)).trans a2⟩, ht, c.ext (h 0 7 (by omega)) (fun k j _ _ => h k j (by omega)), d.ext (h 41 1 (by omega)) (fun j => h 42 j (by omega)), e.ext (fun k j _ _ => h k j (by omega)), (h 0 8 (by omega)).trans f1, (h 0 9 (by omega)).trans f2⟩
theorem Vm.s {σ σ' : St} {A : Ab} {S' : Sg} (ok : OKA A) (v : Vm σ A) (h : ∀ k j, k ≠ 57 → ¬ (k = 51 ∧ j = 23) → σ' k j = σ k j) (ht : mSg σ' S') : Vm σ' (A.1, S', A.2.2) := by
  obtain ⟨⟨a1, a2⟩, b, c, d, e, ⟨f1, f2⟩, g⟩ := v
  have e0 : σ 51 1 = A.1 0 0 := by rw [← a1]; rfl
  have e2 : rd σ 52 (0 + 52) = A.1 0 2 := by rw [← a1]; rfl
  have w := ok.1.1
  exact ⟨⟨(mv_ext (h 51 1 (by omega) (by omega)) (by rw [e0]; exact w.1.2) (by rw [e2]; exact w.2.2.1.2) (fun x _ _ => h 52 _ (by omega) (by omega))).trans a1, (h 51 18 (by omega) (by omega)).trans a2⟩, ht, c.ext ok.2.2.1 w.1.2 (h 51 1 (by omega) (by omega)) (fun j => h 59 j (by omega) (by omega)) (fun x _ _ => h 52 _ (by omega) (by omega)), d.ext (h 51 8 (by omega) (by omega)) (fun j => h 54 j (by omega) (by omega)), e.ext (fun k j x _ => h k j (by omega) (by omega)), ⟨(h 51 9 (by omega) (by omega)).trans f1, (h 51 29 (by omega) (by omega)).trans f2⟩, g.ext (fun k j x => h k j (by omega) (by omega))⟩
def putS (S : Sg) (n h u : Int) : Sg := (S.1 + 1, fun i => if i = S.1 then n else S.2.1 i, fun i => if i = S.1 then h else S.2.2.1 i, fun i => if i = S.1 then u else S.2.2.2 i)
def gE (n h u : Int) (A : Ab) : Prop := (0 ≤ n ∧ n ≤ 20) ∧ (0 ≤ h ∧ h < A.1 0 0) ∧ (0 ≤ u ∧ u ≤ 15)
noncomputable def R_see (n h u : Int) (A : Ab) : Int := @ite _ (gE n h u A) (Classical.propDecidable _) (if A.2.1.1 < 6 then A.2.1.1 + 1 else -3) (-1)
noncomputable def T_see (n h u : Int) (A : Ab) : Ab := @ite _ (gE n h u A) (Classical.propDecidable _) (if A.2.1.1 < 6 then (A.1, putS A.2.1 n h u, A.2.2) else A) A
theorem see_y {n h u : Int} {A : Ab} (g : gE n h u A) : R_see n h u A = (if A.2.1.1 < 6 then A.2.1.1 + 1 else -3) ∧ T_see n h u A = (if A.2.1.1 < 6 then (A.1, putS A.2.1 n h u, A.2.2) else A) := ⟨by unfold R_see; rw [if_pos g], by unfold T_see; rw [if_pos g]⟩
theorem see_n {n h u : Int} {A : Ab} (g : ¬ gE n h u A) : R_see n h u A = -1 ∧ T_see n h u A = A := ⟨by unfold R_see; rw [if_neg g], by unfold T_see; rw [if_neg g]⟩
theorem o_see {n h u : Int} (hn : IR n) (hh : IR h) (hu : IR u) : Op (f_X4_see n h u) (f_X5_see n h u) (R_see n h u) (T_see n h u) := by
  have w6 : wr 6 = 6 := by decide
  refine ⟨fun A ok => ?_, fun σ A ok v => ?_, fun σ A ok v => ?_⟩
  · rcases Classical.em (gE n h u A) with g | g
    · rw [(see_y g).2]
      split
      · have hS := ok.2.1
        refine ⟨ok.1, ⟨?_, fun i h0 h1 => ?_⟩, ok.2.2⟩
        · show 0 ≤ A.2.1.1 + 1 ∧ A.2.1.1 + 1 ≤ 6
          have := hS.1
          omega
        · have h1' : i < A.2.1.1 + 1 := h1
          show (0 ≤ (if i = A.2.1.1 then n else A.2.1.2.1 i) ∧ (if i = A.2.1.1 then n else A.2.1.2.1 i) ≤ 20) ∧ (0 ≤ (if i = A.2.1.1 then h else A.2.1.2.2.1 i) ∧ (if i = A.2.1.1 then h else A.2.1.2.2.1 i) < A.1 0 0) ∧ (0 ≤ (if i = A.2.1.1 then u else A.2.1.2.2.2 i) ∧ (if i = A.2.1.1 then u else A.2.1.2.2.2 i) < 16)
          obtain ⟨g1, g2, g3⟩ := g
          by_cases c : i = A.2.1.1
          · rw [if_pos c, if_pos c, if_pos c]; omega
          · rw [if_neg c, if_neg c, if_neg c]; exact hS.2 i h0 (by omega)
      · exact ok
    · rw [(see_n g).2]; exact ok
  · have hS := ok.2.1.1
    have hR := (v.ic ok).1.1
    obtain ⟨t1, t2⟩ := v.2.1
    have e1 := v.1.1
    have bad : ¬ gE n h u A → ∃ σ', (some ((-1 : Int), σ) : Option (Int × St)) = some (R_see n h u A, σ') ∧ Vc σ' (T_see n h u A) ∧ FC σ σ' := fun g => by
      rw [(see_n g).1, (see_n g).2]
      exact ⟨σ, rfl, v, fun _ _ _ => rfl⟩
    unfold f_X4_see
    rw [c_win hn (by omega) (by omega), bI_s]
    by_cases g1 : 0 ≤ n ∧ n ≤ 20
    case neg => rw [if_neg (by simp only [decide_eq_true_eq]; exact g1)]; exact bad (fun z => g1 z.1)
    rw [if_pos (by simp [g1]), c_isRider hh hR, bI_s, e1]
    by_cases g2 : 0 ≤ h ∧ h < A.1 0 0
    case neg => rw [if_neg (by simp only [decide_eq_true_eq]; exact g2)]; exact bad (fun z => g2 z.2.1)
    rw [if_pos (by simp [g2]), c_win hu (by omega) (by omega), bI_s]
    by_cases g3 : 0 ≤ u ∧ u ≤ 15
    case neg => rw [if_neg (by simp only [decide_eq_true_eq]; exact g3)]; exact bad (fun z => g3 z.2.2)
    have g : gE n h u A := ⟨g1, g2, g3⟩
    rw [if_pos (by simp [g3]), (see_y g).1, (see_y g).2]
    unfold f_X1_append
    rw [t1, w6, wr_of (x := A.2.1.1) (by omega) (by omega)]
    by_cases g4 : A.2.1.1 < 6
    case neg => rw [if_neg g4, if_neg g4, if_neg g4]; exact ⟨σ, rfl, v, fun _ _ _ => rfl⟩
    rw [if_pos g4, if_pos g4, if_pos g4, sv_of hS.1 (by omega) (by omega), bV_s, ups_at (by omega), t1, sv_of hS.1 (by omega) (by omega), bV_s, ups_at (by omega), ups_at (by omega), t1, sv_of hS.1 (by omega) (by omega), bV_s, ups_at (by omega), ups_at (by omega), ups_at (by omega), t1]
    unfold pf
    rw [bV_s, bI_s]
    refine ⟨up (ups (ups (ups σ 44 A.2.1.1 n) 45 A.2.1.1 h) 46 A.2.1.1 u) 43 0 (A.2.1.1 + 1), ?_, v.s (fun k j hk => by rw [up_at, if_neg (by omega), ups_at (by omega), ups_at (by omega), ups_at (by omega)]) ⟨?_, fun i h0 h1 => ?_⟩, fun k j hk => by rw [up_at, if_neg (by omega), ups_at (by omega), ups_at (by omega), ups_at (by omega)]⟩
    · simp only [if_true]
      rw [up_at, if_pos ⟨rfl, rfl⟩]
    · rw [up_at, if_pos ⟨rfl, rfl⟩]; rfl
    · have h1' : i < A.2.1.1 + 1 := h1
      have z : ∀ (k : Nat) (y : Int), k ≠ 43 → 0 ≤ y → rd (up (ups (ups (ups σ 44 A.2.1.1 n) 45 A.2.1.1 h) 46 A.2.1.1 u) 43 0 (A.2.1.1 + 1)) k y = if k = 46 ∧ y = A.2.1.1 then u else if k = 45 ∧ y = A.2.1.1 then h else if k = 44 ∧ y = A.2.1.1 then n else rd σ k y := by
        intro k y hk hy
        rw [rd_up hk, rd_ups hS.1 hy, rd_ups hS.1 hy, rd_ups hS.1 hy]
      rw [z _ _ (by omega) h0, z _ _ (by omega) h0, z _ _ (by omega) h0]
      show _ = (if i = A.2.1.1 then n else A.2.1.2.1 i) ∧ _ = (if i = A.2.1.1 then h else A.2.1.2.2.1 i) ∧ _ = (if i = A.2.1.1 then u else A.2.1.2.2.2 i)
      by_cases c : i = A.2.1.1
      · simp [c]
      · have := t2 i h0 (by omega)
        simp [c, this.1, this.2.1, this.2.2]
  · have hS := ok.2.1.1
    have hR := (v.im ok).1.1
    obtain ⟨t1, t2⟩ := v.2.1
    have e1 := v.1.1
    have bad : ¬ gE n h u A → ∃ σ', (some ((-1 : Int), σ) : Option (Int × St)) = some (R_see n h u A, σ') ∧ Vm σ' (T_see n h u A) ∧ FM σ σ' := fun g => by
      rw [(see_n g).1, (see_n g).2]
      exact ⟨σ, rfl, v, fun _ _ _ => rfl⟩
    unfold f_X5_see
    rw [m_inw hn (by omega) (by omega), bI_s]
    by_cases g1 : 0 ≤ n ∧ n ≤ 20
    case neg => rw [if_neg (by simp only [decide_eq_true_eq]; exact g1)]; exact bad (fun z => g1 z.1)
    rw [if_pos (by simp [g1]), m_isRider (p := 0) hh hR, bI_s, e1]
    by_cases g2 : 0 ≤ h ∧ h < A.1 0 0
    case neg => rw [if_neg (by simp only [decide_eq_true_eq]; exact g2)]; exact bad (fun z => g2 z.2.1)
    rw [if_pos (by simp [g2]), m_inw hu (by omega) (by omega), bI_s]
    by_cases g3 : 0 ≤ u ∧ u ≤ 15
    case neg => rw [if_neg (by simp only [decide_eq_true_eq]; exact g3)]; exact bad (fun z => g3 z.2.2)
    have g : gE n h u A := ⟨g1, g2, g3⟩
    rw [if_pos (by simp [g3]), (see_y g).1, (see_y g).2, t1, w6, wr_of (x := A.2.1.1) (by omega) (by omega)]
    by_cases g4 : A.2.1.1 < 6
    case neg => rw [if_pos (by omega), if_neg g4, if_neg g4]; exact ⟨σ, rfl, v, fun _ _ _ => rfl⟩
    rw [if_neg (by omega), if_pos g4, if_pos g4, sv_of (by omega) (by omega) (by omega), bV_s, ups_at (by omega), t1, sv_of (by omega) (by omega) (by omega), bV_s, ups_at (by omega), ups_at (by omega), t1, sv_of (by omega) (by omega) (by omega), bV_s, ups_at (by omega), ups_at (by omega), ups_at (by omega), t1]
    unfold pf
    rw [bV_s]
    refine ⟨up (ups (ups (ups σ 57 (3 * A.2.1.1) n) 57 (3 * A.2.1.1 + 1) h) 57 (3 * A.2.1.1 + 2) u) 51 23 (A.2.1.1 + 1), ?_, Vm.s ok v (fun k j hk hj => by rw [up_at, if_neg (by omega), ups_at (by omega), ups_at (by omega), ups_at (by omega)]) ⟨?_, fun i h0 h1 => ?_⟩, fun k j hk => by rw [up_at, if_neg (by omega), ups_at (by omega), ups_at (by omega), ups_at (by omega)]⟩
    · rw [up_at, if_pos ⟨rfl, rfl⟩]
    · rw [up_at, if_pos ⟨rfl, rfl⟩]; rfl
    · have h1' : i < A.2.1.1 + 1 := h1
      have z : ∀ y : Int, 0 ≤ y → rd (up (ups (ups (ups σ 57 (3 * A.2.1.1) n) 57 (3 * A.2.1.1 + 1) h) 57 (3 * A.2.1.1 + 2) u) 51 23 (A.2.1.1 + 1)) 57 y = if y = 3 * A.2.1.1 + 2 then u else if y = 3 * A.2.1.1 + 1 then h else if y = 3 * A.2.1.1 then n else rd σ 57 y := by
        intro y hy
        rw [rd_up (by omega), rd_ups (by omega) hy, rd_ups (by omega) hy, rd_ups (by omega) hy]
        simp
      rw [z _ (by omega), z _ (by omega), z _ (by omega)]
      show _ = (if i = A.2.1.1 then n else A.2.1.2.1 i) ∧ _ = (if i = A.2.1.1 then h else A.2.1.2.2.1 i) ∧ _ = (if i = A.2.1.1 then u else A.2.1.2.2.2 i)
      by_cases c : i = A.2.1.1
      · rw [if_pos c, if_pos c, if_pos c, if_neg (by omega), if_neg (by omega), if_pos (by omega), if_neg (by omega), if_pos (by omega), if_pos (by omega)]
        exact ⟨rfl, rfl, rfl⟩
      · have q := t2 i h0 (by omega)
        rw [if_neg c, if_neg c, if_neg c, if_neg (by omega), if_neg (by omega), if_neg (by omega), if_neg (by omega), if_neg (by omega), if_neg (by omega), if_neg (by omega), if_neg (by omega), if_neg (by omega)]
        exact q
def R_forget (n : Int) (A : Ab) : Int := if 0 ≤ n ∧ n ≤ A.2.1.1 then A.2.1.1 else -1
def T_forget (n : Int) (A : Ab) : Ab := if 0 ≤ n ∧ n ≤ A.2.1.1 then (A.1, (n, A.2.1.2), A.2.2) else A
theorem o_forget {n : Int} (hn : IR n) : Op (f_X4_forget n) (f_X5_forget n) (R_forget n) (T_forget n) := by
  refine ⟨fun A ok => ?_, fun σ A ok v => ?_, fun σ A ok v => ?_⟩
  · have hS := ok.2.1
    unfold T_forget
    split
    · rename_i g
      refine ⟨ok.1, ⟨?_, fun i h0 h1 => ?_⟩, ok.2.2⟩
      · show 0 ≤ n ∧ n ≤ 6
        have := hS.1
        omega
      · have h1' : i < n := h1
        exact hS.2 i h0 (by omega)
    · exact ok
  · have hS := ok.2.1.1
    obtain ⟨t1, t2⟩ := v.2.1
    unfold f_X4_forget R_forget T_forget
    rw [t1, c_win hn (by omega) (by omega), bI_s]
    by_cases g : 0 ≤ n ∧ n ≤ A.2.1.1
    case neg => rw [if_neg (by simp only [decide_eq_true_eq]; exact g), if_neg g, if_neg g]; exact ⟨σ, rfl, v, fun _ _ _ => rfl⟩
    rw [if_pos (by simp [g]), if_pos g, if_pos g]
    unfold pf
    rw [bV_s, t1]
    refine ⟨up σ 43 0 n, rfl, v.s (fun k j h1 => by rw [up_at, if_neg (by omega)]) ⟨?_, fun i h0 h1 => ?_⟩, fun k j hk => by rw [up_at, if_neg (by omega)]⟩
    · rw [up_at, if_pos ⟨rfl, rfl⟩]
    · have h1' : i < n := h1
      rw [rd_up (by omega), rd_up (by omega), rd_up (by omega)]
      exact t2 i h0 (by omega)
  · have hS := ok.2.1.1
    obtain ⟨t1, t2⟩ := v.2.1
    unfold f_X5_forget R_forget T_forget
    rw [t1, wr_of (x := A.2.1.1) (by omega) (by omega), m_inw hn (by omega) (by omega), bI_s]
    by_cases g : 0 ≤ n ∧ n ≤ A.2.1.1
    case neg => rw [if_neg (by simp only [decide_eq_true_eq]; exact g), if_neg g, if_neg g]; exact ⟨σ, rfl, v, fun _ _ _ => rfl⟩
    rw [if_pos (by simp [g]), if_pos g, if_pos g]
    unfold pf
    rw [bV_s, t1]
    refine ⟨up σ 51 23 n, rfl, Vm.s ok v (fun k j h1 h2 => by rw [up_at, if_neg (by omega)]) ⟨?_, fun i h0 h1 => ?_⟩, fun k j hk => by rw [up_at, if_neg (by omega)]⟩
    · rw [up_at, if_pos ⟨rfl, rfl⟩]
    · have h1' : i < n := h1
      rw [rd_up (by omega), rd_up (by omega), rd_up (by omega)]
      exact t2 i h0 (by omega)
