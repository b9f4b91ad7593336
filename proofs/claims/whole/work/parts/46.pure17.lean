/-! ===== pure part 17: what was seen: kinds, ups ===== -/
/-- sightings: how many, behind, whose, up -/
abbrev Sg : Type := Int × (Int → Int) × (Int → Int) × (Int → Int)
def SgOK (P : Pg) (S : Sg) : Prop := (0 ≤ S.1 ∧ S.1 ≤ 6) ∧ ∀ i, 0 ≤ i → i < S.1 → (0 ≤ S.2.1 i ∧ S.2.1 i ≤ 20) ∧ (0 ≤ S.2.2.1 i ∧ S.2.2.1 i < P 0 0) ∧ (0 ≤ S.2.2.2 i ∧ S.2.2.2 i < 16)
def cSg (σ : St) (S : Sg) : Prop := σ 43 0 = S.1 ∧ ∀ i, 0 ≤ i → i < S.1 → rd σ 44 i = S.2.1 i ∧ rd σ 45 i = S.2.2.1 i ∧ rd σ 46 i = S.2.2.2 i
def mSg (σ : St) (S : Sg) : Prop := σ 51 23 = S.1 ∧ ∀ i, 0 ≤ i → i < S.1 → rd σ 57 (3 * i) = S.2.1 i ∧ rd σ 57 (3 * i + 1) = S.2.2.1 i ∧ rd σ 57 (3 * i + 2) = S.2.2.2 i
/-- all that was seen on day d is so on the page Q -/
def seenOn (Q : Pg) (S : Sg) (d : Int) : Prop := ∀ i : Nat, (i : Int) < S.1 → S.2.1 i = d → Q 2 (S.2.2.1 i) = S.2.2.2 i
/-- all comes true -/
def seen (P : Pg) (S : Sg) : Prop := ∀ d : Nat, d ≤ 20 → seenOn (itD P 0 d) S d
theorem Qc.sg {σ σ' : St} {S : Sg} (h : Qc σ σ') (hs : cSg σ S) : cSg σ' S := by
  refine ⟨by rw [h 43 0 (by omega)]; exact hs.1, fun i h0 h1 => ?_⟩
  have := hs.2 i h0 h1
  refine ⟨?_, ?_, ?_⟩
  · rw [show rd σ' 44 i = rd σ 44 i from h 44 _ (by omega)]; exact this.1
  · rw [show rd σ' 45 i = rd σ 45 i from h 45 _ (by omega)]; exact this.2.1
  · rw [show rd σ' 46 i = rd σ 46 i from h 46 _ (by omega)]; exact this.2.2
theorem c_areTrue {q : Nat} {σ : St} {P Q : Pg} {S : Sg} (wfQ : WF Q) (hQ : Q 0 0 = P 0 0) (ok : SgOK P S) (hs : cSg σ S) (hv : cv σ q = Q) {d : Int} (hd : 0 ≤ d ∧ d ≤ 20) (b : Bool) (hb : b = true ↔ seenOn Q S d) : f_X1_areTrueOn d q σ = some (b, σ) := by
  have hS := ok.1
  have e0 : σ q 0 = Q 0 0 := by rw [← hv]; rfl
  have lp : ∀ (k i n : Nat), i + k = S.1.toNat → k < n → (∀ j : Nat, j < i → S.2.1 j = d → Q 2 (S.2.2.1 j) = S.2.2.2 j) → f_X1_areTrueOn_2 q n d i σ = some (b, σ) := by
    intro k
    induction k with
    | zero =>
      intro i n hi hn hj
      obtain ⟨n, rfl⟩ : ∃ m, n = m + 1 := ⟨n - 1, by omega⟩
      rw [f_X1_areTrueOn_2, hs.1, wr_of (x := (i : Int)) (by omega) (by omega), wr_of (x := S.1) (by omega) (by omega), if_neg (by omega)]
      rw [hb.mpr (fun j hj1 => hj j (by omega))]
    | succ k ih =>
      intro i n hi hn hj
      obtain ⟨n, rfl⟩ : ∃ m, n = m + 1 := ⟨n - 1, by omega⟩
      obtain ⟨a1, a2, a3⟩ := ok.2 i (by omega) (by omega)
      obtain ⟨s1, s2, s3⟩ := hs.2 i (by omega) (by omega)
      have hh : S.2.2.1 i < cv σ q 0 0 := by rw [hv, hQ]; exact a2.2
      have hR := wfQ.1
      have u := (wfQ.2.2.2.2.2.1 (S.2.2.1 i) a2.1 (by rw [hQ]; exact a2.2)).2.1
      rw [f_X1_areTrueOn_2, hs.1, wr_of (x := (i : Int)) (by omega) (by omega), wr_of (x := S.1) (by omega) (by omega), if_pos (by omega), ld_of (by omega) (by omega) (by omega), bV_s, s1, wr_of (x := S.2.1 i) (by omega) (by omega), wr_of (x := d) (by omega) (by omega), ld_of (by omega) (by omega) (by omega), bV_s, s2, ld_of (by omega) (by omega) (by omega), bV_s, cv_u a2.1 hh, hv, ld_of (by omega) (by omega) (by omega), bV_s, s3, wr_of (x := Q 2 (S.2.2.1 i)) (by omega) (by omega), wr_of (x := S.2.2.2 i) (by omega) (by omega)]
      unfold f_X1_areTrueOn_42
      rw [show (i : Int) + 1 = ((i + 1 : Nat) : Int) by omega]
      by_cases c1 : S.2.1 i = d
      · rw [if_pos c1]
        by_cases c2 : Q 2 (S.2.2.1 i) = S.2.2.2 i
        · rw [if_pos c2]
          exact ih (i + 1) n (by omega) (by omega) (fun j hj1 hj2 => by
            by_cases c : j = i
            · subst c; exact c2
            · exact hj j (by omega) hj2)
        · rw [if_neg c2]
          have : b = false := by
            cases hbb : b with
            | false => rfl
            | true => exact absurd (hb.mp hbb i (by omega) c1) c2
          rw [this]
      · rw [if_neg c1]
        exact ih (i + 1) n (by omega) (by omega) (fun j hj1 hj2 => by
          by_cases c : j = i
          · subst c; exact absurd hj2 c1
          · exact hj j (by omega) hj2)
  unfold f_X1_areTrueOn
  exact lp S.1.toNat 0 FU (by omega) (by unfold FU; omega) (fun j hj => by omega)
theorem c_lastDay {σ : St} {P : Pg} {S : Sg} (ok : SgOK P S) (hs : cSg σ S) : ∃ v, f_X1_lastDay σ = some (v, σ) ∧ (-1 ≤ v ∧ v ≤ 20) ∧ ∀ i : Nat, (i : Int) < S.1 → S.2.1 i ≤ v := by
  have hS := ok.1
  have lp : ∀ (k i n : Nat) (v : Int), i + k = S.1.toNat → k < n → (-1 ≤ v ∧ v ≤ 20) → (∀ j : Nat, j < i → S.2.1 j ≤ v) → ∃ v', f_X1_lastDay_4 n v i σ = some (v', σ) ∧ (-1 ≤ v' ∧ v' ≤ 20) ∧ ∀ i : Nat, (i : Int) < S.1 → S.2.1 i ≤ v' := by
    intro k
    induction k with
    | zero =>
      intro i n v hi hn hv hj
      obtain ⟨n, rfl⟩ : ∃ m, n = m + 1 := ⟨n - 1, by omega⟩
      refine ⟨v, ?_, hv, fun j h => hj j (by omega)⟩
      rw [f_X1_lastDay_4, hs.1, wr_of (x := (i : Int)) (by omega) (by omega), wr_of (x := S.1) (by omega) (by omega), if_neg (by omega)]
    | succ k ih =>
      intro i n v hi hn hv hj
      obtain ⟨n, rfl⟩ : ∃ m, n = m + 1 := ⟨n - 1, by omega⟩
      obtain ⟨a1, a2, a3⟩ := ok.2 i (by omega) (by omega)
      obtain ⟨s1, s2, s3⟩ := hs.2 i (by omega) (by omega)
      rw [f_X1_lastDay_4, hs.1, wr_of (x := (i : Int)) (by omega) (by omega), wr_of (x := S.1) (by omega) (by omega), if_pos (by omega), ld_of (by omega) (by omega) (by omega), bV_s, s1, imx_of (by omega) (by omega), show (i : Int) + 1 = ((i + 1 : Nat) : Int) by omega]
      refine ih (i + 1) n _ (by omega) (by omega) (by split <;> omega) (fun j hj1 => ?_)
      by_cases c : j = i
      · subst c; split <;> omega
      · have := hj j (by omega)
        split <;> omega
  unfold f_X1_lastDay
  exact lp S.1.toNat 0 FU (-1) (by omega) (by unfold FU; omega) (by omega) (fun j hj => by omega)
theorem c_comeTrue {σ : St} {P : Pg} {S : Sg} (wf : WF P) (hd : P 0 3 ≤ 999) (ok : SgOK P S) (hs : cSg σ S) (hv : cv σ 11 = P) (hu : σ 11 11 = 0) : ∃ σ' b, f_X1_comeTrueIn 11 σ = some (b, σ') ∧ (b = true ↔ seen P S) ∧ Qc σ σ' := by
  obtain ⟨last, l1, l2, l3⟩ := c_lastDay ok hs
  have lp : ∀ (k d n : Nat) (τ : St), (d : Int) + k = last + 1 → k < n → cv τ 11 = itD P 0 d → τ 11 11 = 0 → cSg τ S → (∀ e : Nat, e < d → seenOn (itD P 0 e) S e) → ∃ τ' b, f_X1_comeTrueIn_7 11 n last d τ = some (b, τ') ∧ (b = true ↔ seen P S) ∧ Qc τ τ' := by
    intro k
    induction k with
    | zero =>
      intro d n τ hk hn hvt hut hst hse
      obtain ⟨n, rfl⟩ : ∃ m, n = m + 1 := ⟨n - 1, by omega⟩
      refine ⟨τ, true, ?_, ?_, Qc.rf τ⟩
      · rw [f_X1_comeTrueIn_7, wr_of (x := last) (by omega) (by omega), wr_of (x := (d : Int)) (by omega) (by omega), if_pos (by omega)]
      · refine ⟨fun _ e he => ?_, fun _ => rfl⟩
        by_cases c : e < d
        · exact hse e c
        · intro i hi hb
          have := l3 i hi
          omega
    | succ k ih =>
      intro d n τ hk hn hvt hut hst hse
      obtain ⟨n, rfl⟩ : ∃ m, n = m + 1 := ⟨n - 1, by omega⟩
      have wfd : WF (itD P 0 d) := itD_wf wf 0 d (by omega)
      obtain ⟨τ2, d1, d2, d3⟩ := c_day (q := 11) (σ := τ) (by rw [hvt]; exact wfd)
      rw [hvt, hut] at d1 d2
      rw [f_X1_comeTrueIn_7, wr_of (x := last) (by omega) (by omega), wr_of (x := (d : Int)) (by omega) (by omega), if_neg (by omega)]
      by_cases c : seenOn (itD P 0 d) S d
      · rw [c_areTrue (P := P) wfd (itD_0 P 0 d) ok hst hvt (by omega) true ⟨fun _ => c, fun _ => rfl⟩, bI_s, if_pos rfl, d1, bI_s, show (d : Int) + 1 = ((d + 1 : Nat) : Int) by omega]
        obtain ⟨τ', b, f1, f2, f3⟩ := ih (d + 1) n τ2 (by omega) (by omega) d2 (by rw [d3.2 11 (by omega) (by omega)]; exact hut) (d3.Q.sg hst) (fun e he => by
          by_cases ce : e = d
          · subst ce; exact c
          · exact hse e (by omega))
        exact ⟨τ', b, f1, f2, d3.Q.tr f3⟩
      · rw [c_areTrue (P := P) wfd (itD_0 P 0 d) ok hst hvt (by omega) false ⟨fun h => (by cases h), fun h => absurd h c⟩, bI_s]
        refine ⟨τ, false, rfl, ⟨fun h => (by cases h), fun h => absurd (h d (by omega)) c⟩, Qc.rf τ⟩
  unfold f_X1_comeTrueIn
  rw [l1, bI_s]
  obtain ⟨τ', b, f1, f2, f3⟩ := lp (last + 1).toNat 0 FU σ (by omega) (by unfold FU; omega) hv hu hs (fun e he => by omega)
  exact ⟨τ', b, f1, f2, f3⟩
/-! the model's look, with its record of ups -/
def Qu (σ σ' : St) : Prop := (∀ k j, k ≠ 51 → k ≠ 52 → k ≠ 58 → σ' k j = σ k j) ∧ (∀ j, j ≠ 19 → j ≠ 20 → j ≠ 21 → σ' 51 j = σ 51 j) ∧ (∀ x, 0 ≤ x → (x < 220 ∨ 275 ≤ x) → rd σ' 52 x = rd σ 52 x)
theorem Qu.rf (σ : St) : Qu σ σ := ⟨fun _ _ _ _ _ => rfl, fun _ _ _ _ => rfl, fun _ _ _ => rfl⟩
theorem Qu.tr {a b c : St} (h1 : Qu a b) (h2 : Qu b c) : Qu a c := ⟨fun k j x y z => (h2.1 k j x y z).trans (h1.1 k j x y z), fun j x y z => (h2.2.1 j x y z).trans (h1.2.1 j x y z), fun x y z => (h2.2.2 x y z).trans (h1.2.2 x y z)⟩
theorem FrT.U {a b : St} (h : FrT a b) : Qu a b := ⟨fun k j x y _ => h.1 k j x y, h.2.1, h.2.2⟩
theorem Qu.u {σ : St} {x v : Int} : Qu σ (ups σ 58 x v) := ⟨fun k j _ _ h => ups_at h, fun j _ _ _ => ups_at (by decide), fun y _ _ => by unfold rd; rw [ups_at (by decide)]⟩
theorem Qu.sg {σ σ' : St} {S : Sg} (h : Qu σ σ') (hs : mSg σ S) : mSg σ' S := by
  refine ⟨by rw [h.2.1 23 (by omega) (by omega) (by omega)]; exact hs.1, fun i h0 h1 => ?_⟩
  have := hs.2 i h0 h1
  refine ⟨?_, ?_, ?_⟩
  · rw [show rd σ' 57 (3 * i) = rd σ 57 (3 * i) from h.1 57 _ (by omega) (by omega) (by omega)]; exact this.1
  · rw [show rd σ' 57 (3 * i + 1) = rd σ 57 (3 * i + 1) from h.1 57 _ (by omega) (by omega) (by omega)]; exact this.2.1
  · rw [show rd σ' 57 (3 * i + 2) = rd σ 57 (3 * i + 2) from h.1 57 _ (by omega) (by omega) (by omega)]; exact this.2.2
theorem m_record {Q : Pg} (wfQ : WF Q) (K : Int → Int → Int → St → Option (Bool × St)) {row d a : Int} (hr : 0 ≤ row ∧ row < 16) (hd : 0 ≤ d ∧ d ≤ 20) : ∀ (k i n : Nat) (τ : St), i + k = (Q 0 0).toNat → k < n → mv τ 220 = Q → ∃ τ', f_X5_isAsSeen_21 K n row a d i τ = f_X5_isAsSeen_66 K FU row a d 0 τ' ∧ Qu τ τ' ∧ mv τ' 220 = Q ∧ (∀ x, 0 ≤ x → rd τ' 52 x = rd τ 52 x) ∧ (∀ j, τ' 51 j = τ 51 j) ∧ (∀ y, 0 ≤ y → (∀ h : Nat, i ≤ h → (h : Int) < Q 0 0 → y ≠ 105 * row + 5 * d + h) → rd τ' 58 y = rd τ 58 y) ∧ (∀ h : Nat, i ≤ h → (h : Int) < Q 0 0 → rd τ' 58 (105 * row + 5 * d + h) = Q 2 h) := by
  intro k
  have hR := wfQ.1
  induction k with
  | zero =>
    intro i n τ hi hn hv
    obtain ⟨n, rfl⟩ : ∃ m, n = m + 1 := ⟨n - 1, by omega⟩
    have e0 : τ 51 1 = Q 0 0 := by rw [← mv_0 τ 220, hv]
    refine ⟨τ, ?_, Qu.rf τ, hv, fun _ _ => rfl, fun _ => rfl, fun _ _ _ => rfl, fun h h1 h2 => by omega⟩
    rw [f_X5_isAsSeen_21, e0, wr_of (x := (i : Int)) (by omega) (by omega), wr_of (x := Q 0 0) (by omega) (by omega), if_neg (by omega)]
  | succ k ih =>
    intro i n τ hi hn hv
    obtain ⟨n, rfl⟩ : ∃ m, n = m + 1 := ⟨n - 1, by omega⟩
    have e0 : τ 51 1 = Q 0 0 := by rw [← mv_0 τ 220, hv]
    have eu : rd τ 52 (225 + (i : Int)) = Q 2 i := by
      have := mv_u (σ := τ) (p := 220) (h := i) (by omega) (by rw [hv]; omega)
      rw [hv] at this
      exact this
    have hv' : mv (ups τ 58 (105 * row + 5 * d + (i : Int)) (Q 2 i)) 220 = Q := by
      rw [show ups τ 58 (105 * row + 5 * d + (i : Int)) (Q 2 i) = up τ 58 (105 * row + 5 * d + (i : Int)).toNat (Q 2 i) from rfl, mv_pf (k := 58) (by decide) (by omega)]
      exact hv
    obtain ⟨τ', f1, f2, f3, f4, f5, f6, f7⟩ := ih (i + 1) n (ups τ 58 (105 * row + 5 * d + (i : Int)) (Q 2 i)) (by omega) (by omega) hv'
    refine ⟨τ', ?_, Qu.u.tr f2, f3, fun x hx => (f4 x hx).trans (by unfold rd; rw [ups_at (by decide)]), fun j => (f5 j).trans (ups_at (by decide)), fun y hy hn => ?_, fun h h1 h2 => ?_⟩
    · rw [f_X5_isAsSeen_21, e0, wr_of (x := (i : Int)) (by omega) (by omega), wr_of (x := Q 0 0) (by omega) (by omega), if_pos (by omega), ld_of (by omega) (by omega) (by omega), bV_s, eu, sv_of (by omega) (by omega) (by omega), bV_s, show (i : Int) + 1 = ((i + 1 : Nat) : Int) by omega]
      exact f1
    · rw [f6 y hy (fun h h1 h2 => hn h (by omega) h2), rd_ups (by omega) hy, if_neg]
      intro z
      exact hn i (by omega) (by omega) z.2
    · by_cases c : h = i
      · subst c
        rw [f6 _ (by omega) (fun h' h1' h2' => by omega), rd_ups (by omega) (by omega), if_pos ⟨rfl, rfl⟩]
      · exact f7 h (by omega) h2
theorem m_check {P Q : Pg} {S : Sg} (wfQ : WF Q) (hQ : Q 0 0 = P 0 0) (ok : SgOK P S) (K : Int → Int → Int → St → Option (Bool × St)) {row d : Int} (hd : 0 ≤ d ∧ d ≤ 20) {τ : St} (hs : mSg τ S) (hv : mv τ 220 = Q) : ∀ (k i n : Nat) (a : Int), i + k = S.1.toNat → k < n → (a = 0 ∨ a = 1) → ∃ a', f_X5_isAsSeen_66 K n row a d i τ = bV (f_X5_dayOn 220 τ) (fun s => K row a' (d + 1) s) ∧ (a' = 0 ∨ a' = 1) ∧ (a' = 1 ↔ a = 1 ∧ ∀ j : Nat, i ≤ j → (j : Int) < S.1 → S.2.1 j = d → Q 2 (S.2.2.1 j) = S.2.2.2 j) := by
  intro k
  have hS := ok.1
  have w0 : wr 0 = 0 := by decide
  have w1 : ¬ wr 1 = 0 := by decide
  induction k with
  | zero =>
    intro i n a hi hn ha
    obtain ⟨n, rfl⟩ : ∃ m, n = m + 1 := ⟨n - 1, by omega⟩
    refine ⟨a, ?_, ha, ⟨fun h => ⟨h, fun j h1 h2 => by omega⟩, fun h => h.1⟩⟩
    rw [f_X5_isAsSeen_66, hs.1, wr_of (x := (i : Int)) (by omega) (by omega), wr_of (x := S.1) (by omega) (by omega), if_neg (by omega)]
  | succ k ih =>
    intro i n a hi hn ha
    obtain ⟨n, rfl⟩ : ∃ m, n = m + 1 := ⟨n - 1, by omega⟩
    obtain ⟨a1, a2, a3⟩ := ok.2 i (by omega) (by omega)
    obtain ⟨s1, s2, s3⟩ := hs.2 i (by omega) (by omega)
    have hR := wfQ.1
    have hh : S.2.2.1 i < mv τ 220 0 0 := by rw [hv, hQ]; exact a2.2
    have u := (wfQ.2.2.2.2.2.1 (S.2.2.1 i) a2.1 (by rw [hQ]; exact a2.2)).2.1
    have eu : rd τ 52 (225 + S.2.2.1 i) = Q 2 (S.2.2.1 i) := by
      have := mv_u (σ := τ) (p := 220) a2.1 hh
      rw [hv] at this
      exact this
    rw [f_X5_isAsSeen_66, hs.1, wr_of (x := (i : Int)) (by omega) (by omega), wr_of (x := S.1) (by omega) (by omega), if_pos (by omega)]
    unfold f_X5_isAsSeen_126 f_X5_isAsSeen_130 f_X5_isAsSeen_131
    rw [show (i : Int) + 1 = ((i + 1 : Nat) : Int) by omega]
    rcases ha with rfl | rfl
    · rw [w0, if_pos rfl]
      obtain ⟨a', f1, f2, f3⟩ := ih (i + 1) n 0 (by omega) (by omega) (Or.inl rfl)
      exact ⟨a', f1, f2, f3.trans ⟨fun h => by omega, fun h => by omega⟩⟩
    · rw [if_neg w1, ld_of (by omega) (by omega) (by omega), bV_s, s1, wr_of (x := S.2.1 i) (by omega) (by omega), wr_of (x := d) (by omega) (by omega), ld_of (by omega) (by omega) (by omega), bV_s, s2, ld_of (by omega) (by omega) (by omega), bV_s, eu, ld_of (by omega) (by omega) (by omega), bV_s, s3, wr_of (x := Q 2 (S.2.2.1 i)) (by omega) (by omega), wr_of (x := S.2.2.2 i) (by omega) (by omega)]
      by_cases c1 : S.2.1 i = d
      · rw [if_pos c1]
        by_cases c2 : Q 2 (S.2.2.1 i) = S.2.2.2 i
        · rw [if_pos c2]
          obtain ⟨a', f1, f2, f3⟩ := ih (i + 1) n 1 (by omega) (by omega) (Or.inr rfl)
          refine ⟨a', f1, f2, f3.trans ⟨fun h => ⟨rfl, fun j h1 h2 h3 => ?_⟩, fun h => ⟨rfl, fun j h1 h2 h3 => h.2 j (by omega) h2 h3⟩⟩⟩
          by_cases c : j = i
          · subst c; exact c2
          · exact h.2 j (by omega) h2 h3
        · rw [if_neg c2]
          obtain ⟨a', f1, f2, f3⟩ := ih (i + 1) n 0 (by omega) (by omega) (Or.inl rfl)
          exact ⟨a', f1, f2, f3.trans ⟨fun h => by omega, fun h => absurd (h.2 i (by omega) (by omega) c1) c2⟩⟩
      · rw [if_neg c1]
        obtain ⟨a', f1, f2, f3⟩ := ih (i + 1) n 1 (by omega) (by omega) (Or.inr rfl)
        refine ⟨a', f1, f2, f3.trans ⟨fun h => ⟨rfl, fun j h1 h2 h3 => ?_⟩, fun h => ⟨rfl, fun j h1 h2 h3 => h.2 j (by omega) h2 h3⟩⟩⟩
        by_cases c : j = i
        · subst c; exact absurd h3 c1
        · exact h.2 j (by omega) h2 h3
/-- isAsSeen: true iff all comes true; the row of ups is that of the days -/
theorem m_asSeen {P : Pg} {S : Sg} (wf : WF P) (hd : P 0 3 ≤ 999) (ok : SgOK P S) {σ : St} (hs : mSg σ S) (hv : mv σ 0 = P) (hu : σ 51 18 = 0) {row : Int} (hr : 0 ≤ row ∧ row < 16) : ∃ σ' b, f_X5_isAsSeen row σ = some (b, σ') ∧ (b = true ↔ seen P S) ∧ Qu σ σ' ∧ (∀ d h : Nat, d ≤ 20 → (h : Int) < P 0 0 → rd σ' 58 (105 * row + 5 * d + h) = itD P 0 d 2 h) ∧ (∀ y, 0 ≤ y → (y < 105 * row ∨ 105 * row + 105 ≤ y) → rd σ' 58 y = rd σ 58 y) := by
  have hR := wf.1
  have w20 : wr 20 = 20 := by decide
  have lp : ∀ (k d n : Nat) (a : Int) (τ : St), d + k = 21 → k < n → (a = 0 ∨ a = 1) → mv τ 220 = itD P 0 d → τ 51 18 = 0 → mSg τ S → ∃ τ' b, f_X5_isAsSeen_12 n row a d τ = some (b, τ') ∧ (b = true ↔ a = 1 ∧ ∀ e : Nat, d ≤ e → e ≤ 20 → seenOn (itD P 0 e) S e) ∧ Qu τ τ' ∧ (∀ e h : Nat, d ≤ e → e ≤ 20 → (h : Int) < P 0 0 → rd τ' 58 (105 * row + 5 * e + h) = itD P 0 e 2 h) ∧ (∀ y, 0 ≤ y → (y < 105 * row + 5 * d ∨ 105 * row + 105 ≤ y) → rd τ' 58 y = rd τ 58 y) := by
    intro k
    induction k with
    | zero =>
      intro d n a τ hk hn ha hvt hut hst
      obtain ⟨n, rfl⟩ : ∃ m, n = m + 1 := ⟨n - 1, by omega⟩
      have w0 : wr 0 = 0 := by decide
      have w1 : wr 1 = 1 := by decide
      rw [f_X5_isAsSeen_12, w20, wr_of (x := (d : Int)) (by omega) (by omega), if_pos (by omega)]
      rcases ha with rfl | rfl
      · refine ⟨τ, false, by rw [w0, if_pos rfl], ⟨fun h => (by cases h), fun h => by omega⟩, Qu.rf τ, fun e h h1 h2 => by omega, fun _ _ _ => rfl⟩
      · refine ⟨τ, true, by rw [w1, if_neg (by omega), if_pos rfl], ⟨fun _ => ⟨rfl, fun e h1 h2 => by omega⟩, fun _ => rfl⟩, Qu.rf τ, fun e h h1 h2 => by omega, fun _ _ _ => rfl⟩
    | succ k ih =>
      intro d n a τ hk hn ha hvt hut hst
      obtain ⟨n, rfl⟩ : ∃ m, n = m + 1 := ⟨n - 1, by omega⟩
      have wfd : WF (itD P 0 d) := itD_wf wf 0 d (by omega)
      have h0d := itD_0 P 0 d
      obtain ⟨τ1, r1, r2, r3, r4, r5, r6, r7⟩ := m_record wfd (f_X5_isAsSeen_12 n) (row := row) (d := d) (a := a) hr (by omega) (itD P 0 d 0 0).toNat 0 FU τ (by omega) (by unfold FU; omega) hvt
      obtain ⟨a', c1, c2, c3⟩ := m_check wfd h0d ok (f_X5_isAsSeen_12 n) (row := row) (d := d) (by omega) (r2.sg hst) r3 S.1.toNat 0 FU a (by omega) (by unfold FU; have := ok.1; omega) ha
      obtain ⟨τ2, d1, d2, -, d3⟩ := m_day (p := 220) (σ := τ1) (by omega) (by rw [r3]; exact wfd)
      rw [r3, r5 18, hut] at d2
      have c1 : f_X5_isAsSeen_66 (f_X5_isAsSeen_12 n) FU row a d 0 τ1 = bV (f_X5_dayOn 220 τ1) (fun s => f_X5_isAsSeen_12 n row a' ((d : Int) + 1) s) := c1
      have r1 : f_X5_isAsSeen_21 (f_X5_isAsSeen_12 n) FU row a d 0 τ = f_X5_isAsSeen_66 (f_X5_isAsSeen_12 n) FU row a d 0 τ1 := r1
      rw [f_X5_isAsSeen_12, w20, wr_of (x := (d : Int)) (by omega) (by omega), if_neg (by omega), r1, c1, d1, bV_s, show (d : Int) + 1 = ((d + 1 : Nat) : Int) by omega]
      obtain ⟨τ', b, f1, f2, f3, f4, f5⟩ := ih (d + 1) n a' τ2 (by omega) (by omega) c2 d2 (by rw [d3.2.1 18 (by omega), r5 18]; exact hut) (d3.T.U.sg (r2.sg hst))
      refine ⟨τ', b, f1, f2.trans ?_, (r2.tr d3.T.U).tr f3, fun e h h1 h2 h3 => ?_, fun y hy hn => ?_⟩
      · rw [c3]
        constructor
        · rintro ⟨⟨h1, h2⟩, h3⟩
          refine ⟨h1, fun e he1 he2 => ?_⟩
          by_cases c : e = d
          · subst c; exact fun i hi hb => h2 i (by omega) hi hb
          · exact h3 e (by omega) he2
        · rintro ⟨h1, h2⟩
          exact ⟨⟨h1, fun j _ hj hb => h2 d (by omega) (by omega) j hj hb⟩, fun e he1 he2 => h2 e (by omega) he2⟩
      · by_cases c : e = d
        · subst c
          rw [f5 _ (by omega) (by omega), show rd τ2 58 (105 * row + 5 * (e : Int) + h) = rd τ1 58 (105 * row + 5 * (e : Int) + h) from d3.1 58 _ (by omega) (by omega)]
          exact r7 h (by omega) (by rw [h0d]; exact h3)
        · exact f4 e h (by omega) h2 h3
      · rw [f5 y hy (by omega), show rd τ2 58 y = rd τ1 58 y from d3.1 58 _ (by omega) (by omega)]
        exact r6 y hy (fun h h1 h2 => by rw [h0d] at h2; omega)
  unfold f_X5_isAsSeen
  have ec : f_X5_copies 0 220 σ = some (cpM σ 0 220) := m_copies (a := 0) (b := 220) (by omega) (by omega) (by omega) σ
  have cv0 : mv (cpM σ 0 220) 220 = P := by
    have e := cpM_mv (a := 0) (b := 220) (σ := σ) (show mv σ 0 0 0 ≤ 5 by rw [hv]; exact wf.1.2) (show mv σ 0 0 2 ≤ 8 by rw [hv]; exact wf.2.2.1.2)
    have e' : mv (cpM σ 0 220) 220 = mv σ 0 := e
    rw [e', hv]
  rw [ec, bV_s]
  obtain ⟨τ', b, f1, f2, f3, f4, f5⟩ := lp 21 0 FU 1 (cpM σ 0 220) (by omega) (by unfold FU; omega) (Or.inr rfl) cv0 (by rw [cpM_at (by decide)]; exact hu) ((FrT.cp σ).U.sg hs)
  refine ⟨τ', b, f1, f2.trans ⟨fun h d hd => h.2 d (by omega) hd, fun h => ⟨rfl, fun e _ he => h e he⟩⟩, (FrT.cp σ).U.tr f3, fun d h hd1 hh => f4 d h (by omega) hd1 hh, fun y hy hn => ?_⟩
  rw [f5 y hy (by omega)]
  unfold rd
  rw [cpM_at (by decide)]
