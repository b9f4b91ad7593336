/-! ===== pure part 30: sheet, lay ===== -/
theorem ir_toInt (x : Int32) : IR x.toInt := ⟨by have := Int32.le_toInt x; omega, by have := Int32.toInt_lt x; omega⟩
theorem shl_shr (x : Int) (k : Nat) (hk : k = 24 ∨ k = 16) : isr (isl x (k : Int)) (k : Int) = (if k = 24 then nby x else nsh x) := by
  have sm : ∀ z : Int32, (Int32.ofInt 24 &&& 31) = 24 ∧ (Int32.ofInt 16 &&& 31) = 16 := fun _ => by decide
  have a2 : ∀ y : Int32, (y >>> (24 : Int32)).toBitVec = y.toBitVec.sshiftRight 24 := fun y => rfl
  have a3 : ∀ y : Int32, (y >>> (16 : Int32)).toBitVec = y.toBitVec.sshiftRight 16 := fun y => rfl
  have b2 : ∀ y : Int32, (y <<< (24 : Int32)).toBitVec = y.toBitVec <<< 24 := fun y => rfl
  have b3 : ∀ y : Int32, (y <<< (16 : Int32)).toBitVec = y.toBitVec <<< 16 := fun y => rfl
  have c2 : ∀ y : Int32, y.toInt8.toInt32.toBitVec = (y.toBitVec.signExtend 8).signExtend 32 := fun y => rfl
  have c3 : ∀ y : Int32, y.toInt16.toInt32.toBitVec = (y.toBitVec.signExtend 16).signExtend 32 := fun y => rfl
  unfold isr isl nby nsh
  rw [Int32.ofInt_toInt]
  generalize Int32.ofInt x = y
  rcases hk with rfl | rfl
  · rw [if_pos rfl]
    refine congrArg Int32.toInt (Int32.toBitVec_inj.mp ?_)
    rw [show Int32.ofInt ((24 : Nat) : Int) &&& 31 = 24 by decide, a2, b2, c2]
    apply BitVec.eq_of_getLsbD_eq
    intro i hi
    rw [BitVec.getLsbD_sshiftRight, BitVec.getLsbD_signExtend]
    by_cases c : i < 8
    · have h1 : 24 + i < 32 := by omega
      simp only [h1, c, if_true, hi, decide_true, Bool.true_and]
      rw [BitVec.getLsbD_shiftLeft, BitVec.getLsbD_signExtend]
      simp [h1, c, hi, show ¬ 32 ≤ i by omega]
    · have h1 : ¬ 24 + i < 32 := by omega
      simp only [h1, c, if_false, hi, decide_true, Bool.true_and]
      rw [BitVec.msb_eq_getLsbD_last, BitVec.msb_eq_getLsbD_last, BitVec.getLsbD_shiftLeft, BitVec.getLsbD_signExtend]
      simp [show ¬ 32 ≤ i by omega]
  · rw [if_neg (by decide)]
    refine congrArg Int32.toInt (Int32.toBitVec_inj.mp ?_)
    rw [show Int32.ofInt ((16 : Nat) : Int) &&& 31 = 16 by decide, a3, b3, c3]
    apply BitVec.eq_of_getLsbD_eq
    intro i hi
    rw [BitVec.getLsbD_sshiftRight, BitVec.getLsbD_signExtend]
    by_cases c : i < 16
    · have h1 : 16 + i < 32 := by omega
      simp only [h1, c, if_true, hi, decide_true, Bool.true_and]
      rw [BitVec.getLsbD_shiftLeft, BitVec.getLsbD_signExtend]
      simp [h1, c, hi, show ¬ 32 ≤ i by omega]
    · have h1 : ¬ 16 + i < 32 := by omega
      simp only [h1, c, if_false, hi, decide_true, Bool.true_and]
      rw [BitVec.msb_eq_getLsbD_last, BitVec.msb_eq_getLsbD_last, BitVec.getLsbD_shiftLeft, BitVec.getLsbD_signExtend]
      simp [show ¬ 32 ≤ i by omega]
theorem c_isSheet {x : Int} {σ : St} (hx : IR x) : f_X0_isSheet x σ = some (decide (0 ≤ x ∧ x ≤ 3), σ) := by
  have w4 : wr 4 = 4 := by decide
  unfold f_X0_isSheet
  rw [wrI hx, w4]
  by_cases c : x < 0
  · rw [if_pos c, decide_eq_false (by omega)]
  · rw [if_neg c]
    by_cases c2 : x < 4
    · rw [if_pos c2, decide_eq_true (by omega)]
    · rw [if_neg c2, decide_eq_false (by omega)]
theorem c_isLane {x : Int} {σ : St} (hx : IR x) : f_X0_isLane x σ = some (decide (0 ≤ x ∧ x ≤ 2), σ) := by
  have w4 : wr 3 = 3 := by decide
  unfold f_X0_isLane
  rw [wrI hx, w4]
  by_cases c : x < 0
  · rw [if_pos c, decide_eq_false (by omega)]
  · rw [if_neg c]
    by_cases c2 : x < 3
    · rw [if_pos c2, decide_eq_true (by omega)]
    · rw [if_neg c2, decide_eq_false (by omega)]
abbrev Hs : Type := (Int → Int) × (Int → Int) × (Int → Int)
theorem Vc.h {σ σ' : St} {A : Ab} {H' : Hs} (v : Vc σ A) (h : ∀ k j, (k < 48 ∨ 50 < k) → σ' k j = σ k j) (ht : cSh σ' H') : Vc σ' (A.1, A.2.1, A.2.2.1, A.2.2.2.1, A.2.2.2.2.1, H', A.2.2.2.2.2.2) := by
  obtain ⟨⟨a1, a2⟩, b, c, d, e, f1, f2⟩ := v
  exact ⟨⟨(cv_ext (fun r j hr _ => h (1 + r) j (by omega))).trans a1, (h 1 11 (by omega)).trans a2⟩, b.ext (fun k j _ _ => h k j (by omega)), c.ext (h 0 7 (by omega)) (fun k j _ _ => h k j (by omega)), d.ext (h 41 1 (by omega)) (fun j => h 42 j (by omega)), ht, (h 0 8 (by omega)).trans f1, (h 0 9 (by omega)).trans f2⟩
theorem Vm.h {σ σ' : St} {A : Ab} {H' : Hs} (ok : OKA A) (v : Vm σ A) (h : ∀ k j, (k < 60 ∨ 62 < k) → σ' k j = σ k j) (ht : mSh σ' H') : Vm σ' (A.1, A.2.1, A.2.2.1, A.2.2.2.1, A.2.2.2.2.1, H', A.2.2.2.2.2.2) := by
  obtain ⟨⟨a1, a2⟩, b, c, d, e, ⟨f1, f2⟩, g⟩ := v
  have e0 : σ 51 1 = A.1 0 0 := by rw [← a1]; rfl
  have e2 : rd σ 52 (0 + 52) = A.1 0 2 := by rw [← a1]; rfl
  have w := ok.1.1
  exact ⟨⟨(mv_ext (h 51 1 (by omega)) (by rw [e0]; exact w.1.2) (by rw [e2]; exact w.2.2.1.2) (fun x _ _ => h 52 _ (by omega))).trans a1, (h 51 18 (by omega)).trans a2⟩, mSg.of (h 51 23 (by omega)) (fun j => h 57 j (by omega)) b, c.ext ok.2.2.1 w.1.2 (h 51 1 (by omega)) (fun j => h 59 j (by omega)) (fun x _ _ => h 52 _ (by omega)), d.ext (h 51 8 (by omega)) (fun j => h 54 j (by omega)), ht, ⟨(h 51 9 (by omega)).trans f1, (h 51 29 (by omega)).trans f2⟩, g.ext (fun k j x => h k j (by omega))⟩
theorem OKA.h {A : Ab} {H' : Hs} (ok : OKA A) (h : okH H') : OKA (A.1, A.2.1, A.2.2.1, A.2.2.2.1, A.2.2.2.2.1, H', A.2.2.2.2.2.2) := ⟨ok.1, ok.2.1, ok.2.2.1, ok.2.2.2.1, h⟩
def newH (H : Hs) (k lane n : Int) : Hs := (fun j => if j = k then lane else H.1 j, fun j => if j = k then n else H.2.1 j, fun i => if 40 * k ≤ i ∧ i < 40 * k + 40 then 0 else H.2.2 i)
def gH3 (k lane n : Int) : Prop := (0 ≤ k ∧ k ≤ 3) ∧ (0 ≤ lane ∧ lane ≤ 2) ∧ n ≤ 40
def R_sheet (k lane n : Int) (_ : Ab) : Int := if 0 ≤ k ∧ k ≤ 3 then (if 0 ≤ lane ∧ lane ≤ 2 then (if 40 < n then -1 else if n < 0 then -14 else 1) else -1) else -1
def T_sheet (k lane n : Int) (A : Ab) : Ab := if 0 ≤ k ∧ k ≤ 3 then (if 0 ≤ lane ∧ lane ≤ 2 then (if 40 < n then A else if n < 0 then A else (A.1, A.2.1, A.2.2.1, A.2.2.2.1, A.2.2.2.2.1, newH A.2.2.2.2.2.1 k lane n, A.2.2.2.2.2.2)) else A) else A
theorem c_renew {k : Int} (hk : 0 ≤ k ∧ k ≤ 3) : ∀ (j i m : Nat) (τ : St), i + j = 40 → j < m → ∃ τ', f_X0_renew_17 m k i τ = some τ' ∧ (∀ c x, c ≠ 50 → τ' c x = τ c x) ∧ ∀ y, 0 ≤ y → rd τ' 50 y = if 40 * k + i ≤ y ∧ y < 40 * k + 40 then 0 else rd τ 50 y := by
  have w40 : wr 40 = 40 := by decide
  intro j
  induction j with
  | zero =>
    intro i m τ hi hm
    obtain ⟨m, rfl⟩ : ∃ y, m = y + 1 := ⟨m - 1, by omega⟩
    obtain rfl : i = 40 := by omega
    refine ⟨τ, by rw [f_X0_renew_17, if_neg (by decide)], fun _ _ _ => rfl, fun y _ => by rw [if_neg (by omega)]⟩
  | succ j ih =>
    intro i m τ hi hm
    obtain ⟨m, rfl⟩ : ∃ y, m = y + 1 := ⟨m - 1, by omega⟩
    obtain ⟨τ', f1, f2, f3⟩ := ih (i + 1) m (ups τ 50 (k * 40 + (i : Int)) 0) (by omega) (by omega)
    refine ⟨τ', ?_, fun c x hc => (f2 c x hc).trans (ups_at hc), fun y hy => ?_⟩
    · rw [f_X0_renew_17, w40, wr_of (x := (i : Int)) (by omega) (by omega), if_pos (by omega), sv_of (by omega) (by omega) (by omega), bV_s, show (i : Int) + 1 = ((i + 1 : Nat) : Int) by omega]
      exact f1
    · rw [f3 y hy, rd_ups (by omega) hy]
      by_cases c : 40 * k + ((i + 1 : Nat) : Int) ≤ y ∧ y < 40 * k + 40
      · rw [if_pos c, if_pos (by omega)]
      · rw [if_neg c]
        by_cases c2 : y = k * 40 + i
        · rw [if_pos ⟨rfl, c2⟩, if_pos (by omega)]
        · rw [if_neg (by omega), if_neg (by omega)]
theorem m_renew {k : Int} (hk : 0 ≤ k ∧ k ≤ 3) : ∀ (j i m : Nat) (τ : St), i + j = 40 → j < m → ∃ τ', f_X5_sheet_56 m k i τ = some (1, τ') ∧ (∀ c x, c ≠ 62 → τ' c x = τ c x) ∧ ∀ y, 0 ≤ y → rd τ' 62 y = if 40 * k + i ≤ y ∧ y < 40 * k + 40 then 0 else rd τ 62 y := by
  have w40 : wr 40 = 40 := by decide
  intro j
  induction j with
  | zero =>
    intro i m τ hi hm
    obtain ⟨m, rfl⟩ : ∃ y, m = y + 1 := ⟨m - 1, by omega⟩
    obtain rfl : i = 40 := by omega
    refine ⟨τ, by rw [f_X5_sheet_56, if_neg (by decide)], fun _ _ _ => rfl, fun y _ => by rw [if_neg (by omega)]⟩
  | succ j ih =>
    intro i m τ hi hm
    obtain ⟨m, rfl⟩ : ∃ y, m = y + 1 := ⟨m - 1, by omega⟩
    obtain ⟨τ', f1, f2, f3⟩ := ih (i + 1) m (ups τ 62 (40 * k + (i : Int)) 0) (by omega) (by omega)
    refine ⟨τ', ?_, fun c x hc => (f2 c x hc).trans (ups_at hc), fun y hy => ?_⟩
    · rw [f_X5_sheet_56, w40, wr_of (x := (i : Int)) (by omega) (by omega), if_pos (by omega), sv_of (by omega) (by omega) (by omega), bV_s, show (i : Int) + 1 = ((i + 1 : Nat) : Int) by omega]
      exact f1
    · rw [f3 y hy, rd_ups (by omega) hy]
      by_cases c : 40 * k + ((i + 1 : Nat) : Int) ≤ y ∧ y < 40 * k + 40
      · rw [if_pos c, if_pos (by omega)]
      · rw [if_neg c]
        by_cases c2 : y = 40 * k + i
        · rw [if_pos ⟨rfl, c2⟩, if_pos (by omega)]
        · rw [if_neg (by omega), if_neg (by omega)]
theorem o_sheet {k lane n : Int} (hk : IR k) (hl : IR lane) (hn : IR n) : Op (f_X4_sheet k lane n) (f_X5_sheet k lane n) (R_sheet k lane n) (T_sheet k lane n) := by
  have w40 : wr 40 = 40 := by decide
  refine ⟨fun A ok => ?_, fun σ A ok v => ?_, fun σ A ok v => ?_⟩
  · unfold T_sheet
    split
    · split
      · split
        · exact ok
        · split
          · exact ok
          · refine ok.h ⟨fun j h0 h1 => ?_, fun i h0 h1 => ?_⟩
            · have q := ok.2.2.2.2.1 j h0 h1
              show ((if j = k then lane else A.2.2.2.2.2.1.1 j) = -4 ∨ (0 ≤ (if j = k then lane else A.2.2.2.2.2.1.1 j) ∧ (if j = k then lane else A.2.2.2.2.2.1.1 j) ≤ 2)) ∧ ((if j = k then lane else A.2.2.2.2.2.1.1 j) ≠ -4 → 0 ≤ (if j = k then n else A.2.2.2.2.2.1.2.1 j) ∧ (if j = k then n else A.2.2.2.2.2.1.2.1 j) ≤ 40)
              by_cases c : j = k
              · rw [if_pos c, if_pos c]; omega
              · rw [if_neg c, if_neg c]; exact q
            · show IR (if 40 * k ≤ i ∧ i < 40 * k + 40 then 0 else A.2.2.2.2.2.1.2.2 i)
              split
              · omega
              · exact ok.2.2.2.2.2 i h0 h1
      · exact ok
    · exact ok
  · have ⟨s1, s2⟩ := v.2.2.2.2.1
    unfold f_X4_sheet R_sheet T_sheet
    rw [c_isSheet hk, bI_s]
    by_cases g1 : 0 ≤ k ∧ k ≤ 3
    case neg => rw [if_neg (by simp only [decide_eq_true_eq]; exact g1), if_neg g1, if_neg g1]; exact ⟨σ, rfl, v, fun _ _ _ => rfl⟩
    rw [if_pos (by simp [g1]), if_pos g1, if_pos g1, c_isLane hl, bI_s]
    by_cases g2 : 0 ≤ lane ∧ lane ≤ 2
    case neg => rw [if_neg (by simp only [decide_eq_true_eq]; exact g2), if_neg g2, if_neg g2]; exact ⟨σ, rfl, v, fun _ _ _ => rfl⟩
    rw [if_pos (by simp [g2]), if_pos g2, if_pos g2, w40, wrI hn]
    by_cases g3 : 40 < n
    · rw [if_pos g3, if_pos g3, if_pos g3]; exact ⟨σ, rfl, v, fun _ _ _ => rfl⟩
    rw [if_neg g3, if_neg g3, if_neg g3]
    by_cases g4 : n < 0
    · rw [if_pos g4, if_pos g4, if_pos g4]; exact ⟨σ, rfl, v, fun _ _ _ => rfl⟩
    rw [if_neg g4, if_neg g4, if_neg g4]
    unfold f_X0_renew
    rw [sv_of g1.1 (by omega) (by omega), bV_s, sv_of g1.1 (by omega) (by omega), bV_s]
    obtain ⟨τ', f1, f2, f3⟩ := c_renew g1 40 0 FU (ups (ups σ 48 k lane) 49 k n) (by omega) (by unfold FU; omega)
    have f1' : f_X0_renew_17 FU k 0 (ups (ups σ 48 k lane) 49 k n) = some τ' := f1
    rw [f1', bV_s]
    have e48 : ∀ j, 0 ≤ j → rd τ' 48 j = if j = k then lane else rd σ 48 j := by
      intro j hj
      rw [show rd τ' 48 j = rd (ups (ups σ 48 k lane) 49 k n) 48 j from f2 48 _ (by omega), rd_ups g1.1 hj, if_neg (by omega), rd_ups g1.1 hj]
      simp
    have e49 : ∀ j, 0 ≤ j → rd τ' 49 j = if j = k then n else rd σ 49 j := by
      intro j hj
      rw [show rd τ' 49 j = rd (ups (ups σ 48 k lane) 49 k n) 49 j from f2 49 _ (by omega), rd_ups g1.1 hj, rd_ups g1.1 hj]
      simp
    refine ⟨τ', rfl, v.h (fun c j hc => by rw [f2 c j (by omega), ups_at (by omega), ups_at (by omega)]) ⟨fun j h0 h1 => ?_, fun i h0 h1 => ?_⟩, fun c j hc => by rw [f2 c j (by omega), ups_at (by omega), ups_at (by omega)]⟩
    · rw [e48 j h0, e49 j h0]
      show ((if j = k then lane else A.2.2.2.2.2.1.1 j) = -4 → _) ∧ ((if j = k then lane else A.2.2.2.2.2.1.1 j) ≠ -4 → _ = (if j = k then lane else A.2.2.2.2.2.1.1 j) ∧ _ = (if j = k then n else A.2.2.2.2.2.1.2.1 j))
      by_cases c : j = k
      · simp only [c, if_true]
        exact ⟨fun z => by omega, fun _ => ⟨trivial, trivial⟩⟩
      · simp only [c, if_false]; exact s1 j h0 h1
    · rw [f3 i h0]
      show _ = (if 40 * k ≤ i ∧ i < 40 * k + 40 then 0 else A.2.2.2.2.2.1.2.2 i)
      by_cases c : 40 * k ≤ i ∧ i < 40 * k + 40
      · rw [if_pos c, if_pos (by omega)]
      · rw [if_neg c, if_neg (by omega), show rd (ups (ups σ 48 k lane) 49 k n) 50 i = rd σ 50 i from by unfold rd; rw [ups_at (by omega), ups_at (by omega)]]
        exact s2 i h0 h1
  · have ⟨s1, s2⟩ := v.2.2.2.2.1
    unfold f_X5_sheet R_sheet T_sheet
    rw [m_inw hk (by omega) (by omega), bI_s]
    by_cases g1 : 0 ≤ k ∧ k ≤ 3
    case neg => rw [if_neg (by simp only [decide_eq_true_eq]; exact g1), if_neg g1, if_neg g1]; exact ⟨σ, rfl, v, fun _ _ _ => rfl⟩
    rw [if_pos (by simp [g1]), if_pos g1, if_pos g1, m_inw hl (by omega) (by omega), bI_s]
    by_cases g2 : 0 ≤ lane ∧ lane ≤ 2
    case neg => rw [if_neg (by simp only [decide_eq_true_eq]; exact g2), if_neg g2, if_neg g2]; exact ⟨σ, rfl, v, fun _ _ _ => rfl⟩
    rw [if_pos (by simp [g2]), if_pos g2, if_pos g2, w40, wrI hn]
    by_cases g3 : 40 < n
    · rw [if_pos g3, if_pos g3, if_pos g3]; exact ⟨σ, rfl, v, fun _ _ _ => rfl⟩
    rw [if_neg g3, if_neg g3, if_neg g3]
    by_cases g4 : n < 0
    · rw [if_pos g4, if_pos g4, if_pos g4]; exact ⟨σ, rfl, v, fun _ _ _ => rfl⟩
    rw [if_neg g4, if_neg g4, if_neg g4, sv_of g1.1 (by omega) (by omega), bV_s, sv_of g1.1 (by omega) (by omega), bV_s]
    obtain ⟨τ', f1, f2, f3⟩ := m_renew g1 40 0 FU (ups (ups σ 60 k lane) 61 k n) (by omega) (by unfold FU; omega)
    have f1' : f_X5_sheet_56 FU k 0 (ups (ups σ 60 k lane) 61 k n) = some (1, τ') := f1
    rw [f1']
    have e48 : ∀ j, 0 ≤ j → rd τ' 60 j = if j = k then lane else rd σ 60 j := by
      intro j hj
      rw [show rd τ' 60 j = rd (ups (ups σ 60 k lane) 61 k n) 60 j from f2 60 _ (by omega), rd_ups g1.1 hj, if_neg (by omega), rd_ups g1.1 hj]
      simp
    have e49 : ∀ j, 0 ≤ j → rd τ' 61 j = if j = k then n else rd σ 61 j := by
      intro j hj
      rw [show rd τ' 61 j = rd (ups (ups σ 60 k lane) 61 k n) 61 j from f2 61 _ (by omega), rd_ups g1.1 hj, rd_ups g1.1 hj]
      simp
    refine ⟨τ', rfl, Vm.h ok v (fun c j hc => by rw [f2 c j (by omega), ups_at (by omega), ups_at (by omega)]) ⟨fun j h0 h1 => ?_, fun i h0 h1 => ?_⟩, fun c j hc => by rw [f2 c j (by omega), ups_at (by omega), ups_at (by omega)]⟩
    · rw [e48 j h0, e49 j h0]
      show _ = (if j = k then lane else A.2.2.2.2.2.1.1 j) ∧ ((if j = k then lane else A.2.2.2.2.2.1.1 j) ≠ -4 → _ = (if j = k then n else A.2.2.2.2.2.1.2.1 j))
      by_cases c : j = k
      · simp only [c, if_true]
        exact ⟨trivial, fun _ => trivial⟩
      · simp only [c, if_false]; exact s1 j h0 h1
    · rw [f3 i h0]
      show _ = (if 40 * k ≤ i ∧ i < 40 * k + 40 then 0 else A.2.2.2.2.2.1.2.2 i)
      by_cases c : 40 * k ≤ i ∧ i < 40 * k + 40
      · rw [if_pos c, if_pos (by omega)]
      · rw [if_neg c, if_neg (by omega), show rd (ups (ups σ 60 k lane) 61 k n) 62 i = rd σ 62 i from by unfold rd; rw [ups_at (by omega), ups_at (by omega)]]
        exact s2 i h0 h1
def conv (l v : Int) : Int := if l = 0 then nby v else if l = 1 then nsh v else v
def layH (H : Hs) (k i v : Int) : Hs := (H.1, H.2.1, fun j => if j = 40 * k + i then conv (H.1 k) v else H.2.2 j)
def R_lay (k i : Int) (A : Ab) : Int := if 0 ≤ k ∧ k ≤ 3 then (if A.2.2.2.2.2.1.1 k = -4 then -11 else if 0 ≤ i ∧ i ≤ A.2.2.2.2.2.1.2.1 k - 1 then 1 else -12) else -1
def T_lay (k i v : Int) (A : Ab) : Ab := if 0 ≤ k ∧ k ≤ 3 then (if A.2.2.2.2.2.1.1 k = -4 then A else if 0 ≤ i ∧ i ≤ A.2.2.2.2.2.1.2.1 k - 1 then (A.1, A.2.1, A.2.2.1, A.2.2.2.1, A.2.2.2.2.1, layH A.2.2.2.2.2.1 k i v, A.2.2.2.2.2.2) else A) else A
theorem c_faultOf {σ : St} {H : Hs} (ok : okH H) (s : cSh σ H) {k lane at' m : Int} (hk : 0 ≤ k ∧ k ≤ 3) (hl : IR lane) (ha : IR at') (hm : 1 ≤ m ∧ m ≤ 4) : f_X0_faultOf k lane at' m σ = some ((if H.1 k = -4 then 1 else if H.1 k = lane then (if 0 ≤ at' ∧ at' ≤ H.2.1 k - m then 0 else 2) else 3), σ) := by
  have wm : wr (-1) = -1 := by decide
  have q := ok.1 k hk.1 (by omega)
  have h1 := s.1 k hk.1 (by omega)
  unfold f_X0_faultOf f_X0_faultOf_41
  rw [ld_of hk.1 (by omega) (by omega), bV_s, wm]
  by_cases c : H.1 k = -4
  · rw [h1.1 c, wm, if_pos rfl, if_pos c]
  · have n := q.2 c
    rw [(h1.2 c).2, wr_of (x := H.2.1 k) (by omega) (by omega), if_neg (by omega), if_neg c, ld_of hk.1 (by omega) (by omega), bV_s, (h1.2 c).1, wr_of (x := H.1 k) (by omega) (by omega), wrI hl]
    by_cases c2 : H.1 k = lane
    · rw [if_pos c2, if_pos c2, wrI ha]
      by_cases c3 : at' < 0
      · rw [if_pos c3, if_neg (by omega)]
      · rw [if_neg c3, bV_s, wr_of (x := H.2.1 k - m) (by omega) (by omega)]
        by_cases c4 : H.2.1 k - m < at'
        · rw [if_pos c4, if_neg (by omega)]
        · rw [if_neg c4, if_pos (by omega)]
    · rw [if_neg c2, if_neg c2]
theorem conv_ir {l v : Int} (hv : IR v) : IR (conv l v) := by
  unfold conv
  split
  · exact ir_toInt _
  · split
    · exact ir_toInt _
    · exact hv
theorem o_lay {k i x : Int} (hk : IR k) (hi : IR i) (hx : IR x) : Op (f_X4_lay k i x) (f_X5_lay k i x) (R_lay k i) (T_lay k i x) := by
  have w1 : wr 1 = 1 := by decide
  have wm : wr (-4) = -4 := by decide
  refine ⟨fun A ok => ?_, fun σ A ok v => ?_, fun σ A ok v => ?_⟩
  · unfold T_lay
    split
    · split
      · exact ok
      · split
        · refine ok.h ⟨ok.2.2.2.2.1, fun j h0 h1 => ?_⟩
          show IR (if j = 40 * k + i then conv (A.2.2.2.2.2.1.1 k) x else A.2.2.2.2.2.1.2.2 j)
          split
          · exact conv_ir hx
          · exact ok.2.2.2.2.2 j h0 h1
        · exact ok
    · exact ok
  · have s := v.2.2.2.2.1
    have okh := ok.2.2.2.2
    unfold f_X4_lay R_lay T_lay
    rw [c_isSheet hk, bI_s]
    by_cases g1 : 0 ≤ k ∧ k ≤ 3
    case neg => rw [if_neg (by simp only [decide_eq_true_eq]; exact g1), if_neg g1, if_neg g1]; exact ⟨σ, rfl, v, fun _ _ _ => rfl⟩
    rw [if_pos (by simp [g1]), if_pos g1, if_pos g1, ld_of g1.1 (by omega) (by omega), bV_s]
    have q := okh.1 k g1.1 (by omega)
    have h1 := s.1 k g1.1 (by omega)
    by_cases c : A.2.2.2.2.2.1.1 k = -4
    · have z : f_X0_faultOf k (rd σ 48 k) i 1 σ = some (1, σ) := by
        unfold f_X0_faultOf
        rw [ld_of g1.1 (by omega) (by omega), bV_s, h1.1 c, if_pos rfl]
      rw [z, bI_s, w1, if_neg (by omega), if_pos c, if_pos c]
      exact ⟨σ, rfl, v, fun _ _ _ => rfl⟩
    rw [(h1.2 c).1, c_faultOf okh s g1 (by have := q.1; omega) hi (by omega), bI_s, if_neg c, if_pos rfl, if_neg c, if_neg c]
    have qn := q.2 c
    by_cases g : 0 ≤ i ∧ i ≤ A.2.2.2.2.2.1.2.1 k - 1
    case neg => rw [if_neg g, if_neg g, if_neg g, if_neg (by decide)]; exact ⟨σ, rfl, v, fun _ _ _ => rfl⟩
    rw [if_pos g, if_pos g, if_pos g, if_pos (by decide)]
    have z : f_X0_put k i x σ = some (ups σ 50 (k * 40 + i) (conv (A.2.2.2.2.2.1.1 k) x)) := by
      unfold f_X0_put f_X0_put_30 conv
      rw [ld_of g1.1 (by omega) (by omega), bV_s, (h1.2 c).1, wr_of (x := A.2.2.2.2.2.1.1 k) (by omega) (by omega), bV_s, wr_of (x := A.2.2.2.2.2.1.1 k) (by omega) (by omega), w1, sv_of (by omega) (by omega) (by omega), bV_s, sv_of (by omega) (by omega) (by omega), bV_s, sv_of (by omega) (by omega) (by omega), bV_s]
      split
      · rfl
      · split <;> rfl
    rw [z, bV_s]
    refine ⟨_, rfl, v.h (fun c j hc => ups_at (by omega)) ⟨fun j h0 h1' => ?_, fun j h0 h1' => ?_⟩, fun c j hc => ups_at (by omega)⟩
    · have := s.1 j h0 h1'
      unfold rd
      rw [ups_at (by omega), ups_at (by omega)]
      exact this
    · rw [rd_ups (by omega) h0]
      show _ = (if j = 40 * k + i then conv (A.2.2.2.2.2.1.1 k) x else A.2.2.2.2.2.1.2.2 j)
      by_cases e : j = 40 * k + i
      · rw [if_pos (by omega), if_pos e]
      · rw [if_neg (by omega), if_neg e]; exact s.2 j h0 h1'
  · have s := v.2.2.2.2.1
    have okh := ok.2.2.2.2
    unfold f_X5_lay R_lay T_lay
    rw [m_inw hk (by omega) (by omega), bI_s]
    by_cases g1 : 0 ≤ k ∧ k ≤ 3
    case neg => rw [if_neg (by simp only [decide_eq_true_eq]; exact g1), if_neg g1, if_neg g1]; exact ⟨σ, rfl, v, fun _ _ _ => rfl⟩
    have q := okh.1 k g1.1 (by omega)
    have h1 := s.1 k g1.1 (by omega)
    rw [if_pos (by simp [g1]), if_pos g1, if_pos g1, ld_of g1.1 (by omega) (by omega), bV_s, h1.1, wm, wr_of (x := A.2.2.2.2.2.1.1 k) (by omega) (by omega)]
    by_cases c : A.2.2.2.2.2.1.1 k = -4
    · rw [if_pos c, if_pos c, if_pos c]; exact ⟨σ, rfl, v, fun _ _ _ => rfl⟩
    have qn := q.2 c
    rw [if_neg c, if_neg c, if_neg c, ld_of g1.1 (by omega) (by omega), bV_s, h1.2 c, wr_of (x := A.2.2.2.2.2.1.2.1 k - 1) (by omega) (by omega), m_inw hi (by omega) (by omega), bI_s]
    by_cases g : 0 ≤ i ∧ i ≤ A.2.2.2.2.2.1.2.1 k - 1
    case neg => rw [if_neg (by simp only [decide_eq_true_eq]; exact g), if_neg g, if_neg g]; exact ⟨σ, rfl, v, fun _ _ _ => rfl⟩
    have z24 : isr (isl x 24) 24 = nby x := shl_shr x 24 (Or.inl rfl)
    have z16 : isr (isl x 16) 16 = nsh x := shl_shr x 16 (Or.inr rfl)
    rw [if_pos (by simp [g]), if_pos g, if_pos g, ld_of g1.1 (by omega) (by omega), bV_s, bV_s, h1.1, wr_of (x := A.2.2.2.2.2.1.1 k) (by omega) (by omega), w1, z24, z16]
    unfold f_X5_lay_99
    rw [sv_of (by omega) (by omega) (by omega), bV_s, sv_of (by omega) (by omega) (by omega), bV_s, sv_of (by omega) (by omega) (by omega), bV_s]
    refine ⟨ups σ 62 (40 * k + i) (conv (A.2.2.2.2.2.1.1 k) x), ?_, Vm.h ok v (fun c j hc => ups_at (by omega)) ⟨fun j h0 h1' => ?_, fun j h0 h1' => ?_⟩, fun c j hc => ups_at (by omega)⟩
    · unfold conv
      split
      · rfl
      · split <;> rfl
    · have := s.1 j h0 h1'
      unfold rd
      rw [ups_at (by omega), ups_at (by omega)]
      exact this
    · rw [rd_ups (by omega) h0]
      show _ = (if j = 40 * k + i then conv (A.2.2.2.2.2.1.1 k) x else A.2.2.2.2.2.1.2.2 j)
      by_cases e : j = 40 * k + i
      · rw [if_pos ⟨rfl, e⟩, if_pos e]
      · rw [if_neg (by omega), if_neg e]; exact s.2 j h0 h1'
