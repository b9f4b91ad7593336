/-! ===== pure part 36: a line and the whole reading, the class ===== -/
theorem c_line {L : Int} {T : Int → Int} (ok : okT (L, T)) {σ : St} {s : Ls} (lo : LsOK s) (h : cTp σ (L, T)) (cr : CR σ s) {p : Int} (hp : 0 ≤ p ∧ p ≤ L) (k0 : tK L T p ≠ 0) (k1 : tK L T p ≠ -1) (hs : CLk L T σ (.inr p)) : ∃ σ', f_X3_takeLine 11 σ = some σ' ∧ CTk σ' (lnR L T s p) ∧ (∀ q, lnR L T s p = .inr q → CR σ' (lnS L T s p)) ∧ Fq σ σ' := by
  have hL : 0 ≤ L ∧ L ≤ 160 := ok.1
  have a := tF_bd (T := T) hp.2
  have b := tT_bd (T := T) hp.2
  have hs' : (if tK L T p = -1 then CTk σ (.inl (1, tF L T p)) else σ 41 2 = 0 ∧ σ 41 5 = tK L T p ∧ σ 41 6 = tF L T p ∧ σ 41 7 = tT L T p) := hs
  rw [if_neg k1] at hs'
  obtain ⟨u2, u5, u6, u7⟩ := hs'
  have nd := fun (w : Nat) (hw : w < 7) => c_named ok hw hp h u5 u6 u7
  have g : RsOK L (.inr (tT L T p)) := ⟨by omega, by omega⟩
  have ct : CTk σ (.inr (tT L T p)) := ⟨u2, u7⟩
  have e0 : σ 11 0 = s.1 0 0 := by rw [← cr.1]; rfl
  have e6 : σ 11 6 = s.1 0 2 := by rw [← cr.1]; rfl
  have hR := lo.1.1
  have hM := lo.1.2.2.1
  have rid : ∀ k : Nat, kn L T p = k → k ≤ 3 → ∃ σ', f_X3_takeRider 11 (k : Int) σ = some σ' ∧ CTk σ' (lnR L T s p) ∧ (∀ q, lnR L T s p = .inr q → CR σ' (lnS L T s p)) ∧ Fq σ σ' := by
    intro k hk k3
    unfold lnR lnS
    rw [hk, if_pos k3, if_pos k3]
    unfold f_X3_takeRider x0R
    rw [e0, show wr 5 = 5 by decide, wr_of (x := s.1 0 0) (by omega) (by omega)]
    by_cases c : s.1 0 0 < 5
    · rw [if_pos c, if_pos c]
      exact c_rider17 ok h cr lo g ct (fun _ _ => c)
    · rw [if_neg c, if_neg c, c_fail0 u2, bV_s, u6]
      have f1 : Ft σ (up (up σ 41 2 5) 41 3 (tF L T p)) := (Ft.u (by omega)).tr (Ft.u (by omega))
      obtain ⟨σ', z1, z2, z3, z4⟩ := c_rider17 (k := (k : Int)) ok (f1.tp h) (cr.ft f1) lo (x := .inl (5, tF L T p)) trivial (c_failS (by omega) (by omega)) (fun q z => (by cases z))
      exact ⟨σ', z1, z2, z3, f1.q.tr z4⟩
  unfold f_X3_takeLine
  have v : ∀ (c : Bool), (decide (tK L T p = 1) && c) = if tK L T p = 1 then c else false := by
    intro c
    by_cases d : tK L T p = 1
    · rw [if_pos d, decide_eq_true d, Bool.true_and]
    · rw [if_neg d, decide_eq_false d, Bool.false_and]
  rw [nd 0 (by omega), bI_s, nd 1 (by omega), bI_s, nd 2 (by omega), bI_s, nd 3 (by omega), bI_s, nd 4 (by omega), bI_s, nd 5 (by omega), bI_s, nd 6 (by omega), bI_s, v, v, v, v, v, v, v]
  have fin : kn L T p = 7 → ∃ σ', (bV (f_X3_fail 2 (σ 41 6) σ) fun s129 => some s129) = some σ' ∧ CTk σ' (lnR L T s p) ∧ (∀ q, lnR L T s p = .inr q → CR σ' (lnS L T s p)) ∧ Fq σ σ' := by
    intro hk
    have e : lnR L T s p = .inl (2, tF L T p) := by
      unfold lnR
      rw [hk, if_neg (by omega), if_neg (by omega), if_neg (by omega), if_neg (by omega)]
    rw [c_fail0 u2, bV_s, u6, e]
    exact ⟨_, rfl, c_failS (by omega) (by omega), fun q z => (by cases z), ((Ft.u (by omega)).tr (Ft.u (by omega))).q⟩
  by_cases d : tK L T p = 1
  · rw [if_pos d, if_pos d, if_pos d, if_pos d, if_pos d, if_pos d, if_pos d]
    have kd : kn L T p = (if isW L T p 0 = true then 0 else if isW L T p 1 = true then 1 else if isW L T p 2 = true then 2 else if isW L T p 3 = true then 3 else if isW L T p 4 = true then 4 else if isW L T p 5 = true then 5 else if isW L T p 6 = true then 6 else 7) := by unfold kn; rw [if_pos d]
    by_cases c0 : isW L T p 0 = true
    · rw [if_pos c0] at kd ⊢
      obtain ⟨σ', z1, z2⟩ := rid 0 kd (by omega)
      exact ⟨σ', by rw [show ((0 : Nat) : Int) = 0 from rfl] at z1; rw [z1, bV_s], z2⟩
    · rw [if_neg c0] at kd ⊢
      by_cases c1 : isW L T p 1 = true
      · rw [if_pos c1] at kd ⊢
        obtain ⟨σ', z1, z2⟩ := rid 1 kd (by omega)
        exact ⟨σ', by rw [show ((1 : Nat) : Int) = 1 from rfl] at z1; rw [z1, bV_s], z2⟩
      · rw [if_neg c1] at kd ⊢
        by_cases c2 : isW L T p 2 = true
        · rw [if_pos c2] at kd ⊢
          obtain ⟨σ', z1, z2⟩ := rid 2 kd (by omega)
          exact ⟨σ', by rw [show ((2 : Nat) : Int) = 2 from rfl] at z1; rw [z1, bV_s], z2⟩
        · rw [if_neg c2] at kd ⊢
          by_cases c3 : isW L T p 3 = true
          · rw [if_pos c3] at kd ⊢
            obtain ⟨σ', z1, z2⟩ := rid 3 kd (by omega)
            exact ⟨σ', by rw [show ((3 : Nat) : Int) = 3 from rfl] at z1; rw [z1, bV_s], z2⟩
          · rw [if_neg c3] at kd ⊢
            by_cases c4 : isW L T p 4 = true
            · rw [if_pos c4] at kd ⊢
              have e : lnR L T s p = rsB L T (x0B L T s.2.2 p) := by unfold lnR; rw [kd, if_neg (by omega), if_pos rfl]
              have e' : lnS L T s p = (pgB L T s.1 (x0B L T s.2.2 p), s.2.1, 1) := by unfold lnS; rw [kd, if_neg (by omega), if_pos rfl]
              rw [e, e']
              unfold f_X3_takeBearing x0B
              rw [show σ 41 8 = s.2.2 from cr.2.2.2]
              rcases lo.2.2 with c | c
              · rw [c, if_pos (by decide), if_pos rfl]
                obtain ⟨σ', z1, z2, z3, z4⟩ := c_bears16 ok h cr g ct
                exact ⟨σ', by rw [z1, bV_s], z2, fun _ _ => z3, z4⟩
              · rw [c, if_neg (by decide), if_neg (by decide), c_fail0 u2, bV_s, u6]
                have f1 : Ft σ (up (up σ 41 2 4) 41 3 (tF L T p)) := (Ft.u (by omega)).tr (Ft.u (by omega))
                obtain ⟨σ', z1, z2, z3, z4⟩ := c_bears16 ok (f1.tp h) (cr.ft f1) (x := .inl (4, tF L T p)) trivial (c_failS (by omega) (by omega))
                exact ⟨σ', by rw [z1, bV_s], z2, fun _ _ => z3, f1.q.tr z4⟩
            · rw [if_neg c4] at kd ⊢
              by_cases c5 : isW L T p 5 = true
              · rw [if_pos c5] at kd ⊢
                have e : lnR L T s p = rsT L T (x2T L T s.2.1 p) := by unfold lnR; rw [kd, if_neg (by omega), if_neg (by omega), if_pos rfl]
                have e' : lnS L T s p = (pgT L T s.1 (trR L T p) (x2T L T s.2.1 p), iod s.2.1 (isl 1 (trR L T p)), s.2.2) := by unfold lnS; rw [kd, if_neg (by omega), if_neg (by omega), if_pos rfl]
                rw [e, e']
                obtain ⟨σ1, a1, a2, a3, a4⟩ := c_num ok (lo := 0) (hi := 3) (by omega) (by omega) h g ct
                have cr1 := cr.ft a3
                have rb : 0 ≤ trR L T p ∧ trR L T p ≤ 3 := nmV_bd (by omega) _
                unfold f_X3_takeTrust
                rw [a1, bI_s, show σ1 41 9 = s.2.1 from cr1.2.2.1]
                have key : ∃ σ2, (if wr (iad (isr s.2.1 (nmV L T 0 3 (.inr (tT L T p)))) 1) = wr 1 then bV (f_X3_fail 4 (σ1 41 6) σ1) fun s25 => f_X3_takeTrust_28 11 (nmV L T 0 3 (.inr (tT L T p))) s25 else f_X3_takeTrust_28 11 (nmV L T 0 3 (.inr (tT L T p))) σ1) = f_X3_takeTrust_28 11 (nmV L T 0 3 (.inr (tT L T p))) σ2 ∧ Ft σ1 σ2 ∧ CTk σ2 (x2T L T s.2.1 p) := by
                  have cf := tF_bd (T := T) (p := tT L T p) b.2.1
                  unfold x2T
                  have hx := nmX_ok (T := T) (lo := 0) (hi := 3) g
                  rcases hq : nmX L T 0 3 (.inr (tT L T p)) with e2 | q
                  · rw [hq] at a2
                    rw [c_fail1 a2, bV_s]
                    exact ⟨σ1, by split <;> rfl, Ft.rf σ1, a2⟩
                  · rw [hq] at a2
                    have k2 : tK L T (tT L T p) = 2 := by
                      have hq' : nmR L T 0 3 (tT L T p) = .inr q := hq
                      unfold nmR at hq'
                      by_cases y : tK L T (tT L T p) = -1
                      · rw [if_pos y] at hq'; cases hq'
                      · rw [if_neg y] at hq'
                        by_cases y2 : tK L T (tT L T p) = 2
                        · exact y2
                        · rw [if_neg y2] at hq'; cases hq'
                    have a6 := a4 (tT L T p) rfl k2
                    show ∃ σ2, _ ∧ _ ∧ CTk σ2 (if wr (iad (isr s.2.1 (trR L T p)) 1) = wr 1 then .inl (4, tF L T (tT L T p)) else .inr q)
                    by_cases y : wr (iad (isr s.2.1 (trR L T p)) 1) = wr 1
                    · rw [if_pos y, if_pos (show wr (iad (isr s.2.1 (nmV L T 0 3 (.inr (tT L T p)))) 1) = wr 1 from y), c_fail0 a2.1, bV_s, a6]
                      exact ⟨_, rfl, (Ft.u (by omega)).tr (Ft.u (by omega)), c_failS (by omega) (by omega)⟩
                    · rw [if_neg y, if_neg (show ¬ wr (iad (isr s.2.1 (nmV L T 0 3 (.inr (tT L T p)))) 1) = wr 1 from y)]
                      exact ⟨σ1, rfl, Ft.rf σ1, a2⟩
                obtain ⟨σ2, y1, y2, y3⟩ := key
                rw [y1]
                have gx : RsOK L (x2T L T s.2.1 p) := (RG.t (RG.nm (a := 0) (show RG L 0 (.inr (tT L T p)) from g))).ok (Int.le_refl 0)
                obtain ⟨σ', z1, z2, z3, z4⟩ := c_trust28 ok (y2.tp (a3.tp h)) (cr1.ft y2) (r := trR L T p) rb gx y3
                exact ⟨σ', by rw [show nmV L T 0 3 (.inr (tT L T p)) = trR L T p from rfl, z1, bV_s], z2, fun _ _ => z3, (a3.q.tr y2.q).tr z4⟩
              · rw [if_neg c5] at kd ⊢
                by_cases c6 : isW L T p 6 = true
                · rw [if_pos c6] at kd ⊢
                  have e : lnR L T s p = rsS L T (x0S L T s.1 p) := by unfold lnR; rw [kd, if_neg (by omega), if_neg (by omega), if_neg (by omega), if_pos rfl]
                  have e' : lnS L T s p = (pgS L T s.1 (x0S L T s.1 p), s.2) := by unfold lnS; rw [kd, if_neg (by omega), if_neg (by omega), if_neg (by omega), if_pos rfl]
                  rw [e, e']
                  unfold f_X3_takeReport x0S
                  rw [e6, show wr 8 = 8 by decide, wr_of (x := s.1 0 2) (by omega) (by omega)]
                  by_cases c : s.1 0 2 < 8
                  · rw [if_pos c, if_pos c]
                    obtain ⟨σ', z1, z2, z3, z4⟩ := c_report18 ok h cr lo g ct (fun _ _ => c)
                    exact ⟨σ', by rw [z1, bV_s], z2, z3, z4⟩
                  · rw [if_neg c, if_neg c, c_fail0 u2, bV_s, u6]
                    have f1 : Ft σ (up (up σ 41 2 5) 41 3 (tF L T p)) := (Ft.u (by omega)).tr (Ft.u (by omega))
                    obtain ⟨σ', z1, z2, z3, z4⟩ := c_report18 ok (f1.tp h) (cr.ft f1) lo (x := .inl (5, tF L T p)) trivial (c_failS (by omega) (by omega)) (fun q z => (by cases z))
                    exact ⟨σ', by rw [z1, bV_s], z2, z3, f1.q.tr z4⟩
                · rw [if_neg c6] at kd ⊢
                  exact fin kd
  · rw [if_neg d, if_neg d, if_neg d, if_neg d, if_neg d, if_neg d, if_neg d]
    exact fin (by unfold kn; rw [if_neg d])
/-! lines one behind another -/
def hiN (g : Int → Int) : Nat → Int
  | 0 => -1
  | n + 1 => if hiN g n < g n then g n else hiN g n
def hiP (D : Pg) : Int := hiN (fun i => D 7 i) (D 0 2).toNat
theorem hiN_ext {g g' : Int → Int} : ∀ {n : Nat}, (∀ i : Nat, i < n → g i = g' i) → hiN g n = hiN g' n := by
  intro n
  induction n with
  | zero => intro _; rfl
  | succ n ih => intro h; simp only [hiN]; rw [ih (fun i hi => h i (by omega)), h n (by omega)]
theorem hiN_lt {g : Int → Int} {R : Int} (hR : 0 ≤ R) : ∀ n : Nat, hiN g n < R ↔ ∀ i : Nat, i < n → g i < R := by
  intro n
  induction n with
  | zero => exact ⟨fun _ i hi => by omega, fun _ => by show (-1 : Int) < R; omega⟩
  | succ n ih =>
    simp only [hiN]
    constructor
    · intro h i hi
      by_cases c : i = n
      · subst c; split at h <;> omega
      · exact ih.mp (by split at h <;> omega) i (by omega)
    · intro h
      have := ih.mpr (fun i hi => h i (by omega))
      have := h n (by omega)
      split <;> omega
/-- what comes of it: a fault, or page and lines -/
def endR (L : Int) (s : Ls) (n : Int) : (Int × Int) ⊕ (Pg × Int) := if hiP s.1 < s.1 0 0 then .inr (s.1, n) else .inl (6, L)
def prs (L : Int) (T : Int → Int) : Nat → Rs → Ls → Int → (Int × Int) ⊕ (Pg × Int)
  | 0, _, _, _ => .inl (1, 0)
  | m + 1, x, s, n => match x with
    | .inl e => .inl e
    | .inr p => if tK L T p = -1 then .inl (1, tF L T p) else if tK L T p = 0 then endR L s n else prs L T m (lnR L T s p) (lnS L T s p) (n + 1)
def CE (σ : St) (n : Int) (r : (Int × Int) ⊕ (Pg × Int)) : Prop := match r with
  | .inl e => CTk σ (.inl e)
  | .inr y => σ 41 2 = 0 ∧ cv σ 11 = y.1 ∧ σ 11 11 = 0 ∧ σ 41 4 = y.2
theorem c_missing {σ : St} {D : Pg} (wf : WF D) (hv : cv σ 11 = D) : ∀ (j i m : Nat), i + j = (D 0 2).toNat → j < m → (∀ i' : Nat, i' < i → D 7 i' < D 0 0) → f_X3_tellsOfMissingRider_2 11 m i σ = some (decide (¬ hiP D < D 0 0), σ) := by
  have hM := wf.2.2.1
  have hR := wf.1
  have e6 : σ 11 6 = D 0 2 := by rw [← hv]; rfl
  have e0 : σ 11 0 = D 0 0 := by rw [← hv]; rfl
  intro j
  induction j with
  | zero =>
    intro i m hi hm ha
    obtain ⟨m, rfl⟩ : ∃ y, m = y + 1 := ⟨m - 1, by omega⟩
    have : hiP D < D 0 0 := (hiN_lt hR.1 _).mpr (fun i' h' => ha i' (by omega))
    rw [f_X3_tellsOfMissingRider_2, e6, wr_of (x := (i : Int)) (by omega) (by omega), wr_of (x := D 0 2) (by omega) (by omega), if_neg (by omega), decide_eq_false (fun z => z this)]
  | succ j ih =>
    intro i m hi hm ha
    obtain ⟨m, rfl⟩ : ∃ y, m = y + 1 := ⟨m - 1, by omega⟩
    have ro : rd σ (11 + 7) (i : Int) = D 7 i := by rw [cv_ro (q := 11) (by omega) (by rw [hv]; omega), hv]
    have rb := (wf.2.2.2.2.2.2.2 i (by omega) (by omega)).2.2.1
    rw [f_X3_tellsOfMissingRider_2, e6, wr_of (x := (i : Int)) (by omega) (by omega), wr_of (x := D 0 2) (by omega) (by omega), if_pos (by omega), ld_of (by omega) (by omega) (by omega), bV_s, ro, e0, wr_of (x := D 7 i) (by omega) (by omega), wr_of (x := D 0 0) (by omega) (by omega)]
    by_cases c : D 7 i < D 0 0
    · rw [if_pos c]
      exact ih (i + 1) m (by omega) (by omega) (fun i' h' => by
        by_cases q : i' = i
        · rw [q]; exact c
        · exact ha i' (by omega))
    · have nn : ¬ hiP D < D 0 0 := fun z => c ((hiN_lt (g := fun i => D 7 i) hR.1 (D 0 2).toNat).mp z i (by omega))
      rw [if_neg c, decide_eq_true nn]
theorem c_prs {L : Int} {T : Int → Int} (ok : okT (L, T)) : ∀ (m i : Nat) (m2 : Nat) (σ : St) (x : Rs) (s : Ls), 161 ≤ i + m → i ≤ 160 → m ≤ m2 → cTp σ (L, T) → RG L i x → CLk L T σ x → (∀ p, x = .inr p → LsOK s ∧ CR σ s) → σ 41 4 = i → ∃ σ', f_X3_parse_40 11 m2 i σ = some σ' ∧ CE σ' i (prs L T m x s i) ∧ (∀ k j, ¬ (11 ≤ k ∧ k ≤ 20) → ¬ (k = 41 ∧ 2 ≤ j) → σ' k j = σ k j) := by
  have hL : 0 ≤ L ∧ L ≤ 160 := ok.1
  have w160 : wr 160 = 160 := by decide
  have flt : ∀ (σ : St) (e : Int × Int), CTk σ (.inl e) → f_X3_parse_86 11 σ = some σ := by
    intro σ e he
    unfold f_X3_parse_86
    rw [if_neg he.nz]
  intro m
  induction m with
  | zero => intro i m2 σ x s h1 h2; omega
  | succ m ih =>
    intro i m2 σ x s h1 h2 h3 h rg hs hc h4
    obtain ⟨m2, rfl⟩ : ∃ y, m2 = y + 1 := ⟨m2 - 1, by omega⟩
    have bad : ∀ e, CTk σ (.inl e) → ∃ σ', f_X3_parse_40 11 (m2 + 1) i σ = some σ' ∧ CE σ' i (.inl e) ∧ (∀ k j, ¬ (11 ≤ k ∧ k ≤ 20) → ¬ (k = 41 ∧ 2 ≤ j) → σ' k j = σ k j) := by
      intro e he
      refine ⟨σ, ?_, he, fun _ _ _ _ => rfl⟩
      rw [f_X3_parse_40]
      split
      · rw [if_neg he.nz]; exact flt σ e he
      · exact flt σ e he
    match x, rg, hs, hc with
    | .inl e, _, hs, _ => exact bad e hs
    | .inr p, rg, hs, hc =>
      have rg' : (i : Int) ≤ p ∧ p ≤ L := rg
      have a := tF_bd (T := T) rg'.2
      have hs' : (if tK L T p = -1 then CTk σ (.inl (1, tF L T p)) else σ 41 2 = 0 ∧ σ 41 5 = tK L T p ∧ σ 41 6 = tF L T p ∧ σ 41 7 = tT L T p) := hs
      show ∃ σ', _ ∧ CE σ' i (if tK L T p = -1 then .inl (1, tF L T p) else if tK L T p = 0 then endR L s i else prs L T m (lnR L T s p) (lnS L T s p) (i + 1)) ∧ _
      by_cases k1 : tK L T p = -1
      · rw [if_pos k1] at hs' ⊢
        exact bad _ hs'
      · rw [if_neg k1] at hs' ⊢
        obtain ⟨u2, u5, u6, u7⟩ := hs'
        obtain ⟨lo, cr⟩ := hc p rfl
        by_cases k0 : tK L T p = 0
        · rw [if_pos k0]
          have pe : f_X3_parse_40 11 (m2 + 1) i σ = f_X3_parse_86 11 σ := by
            rw [f_X3_parse_40, u2, u5, k0, if_pos (show wr 0 = 0 by decide), if_pos (show wr 0 = 0 by decide)]
            split <;> rfl
          rw [pe]
          unfold f_X3_parse_86 f_X3_tellsOfMissingRider
          have mi := c_missing lo.1 cr.1 (s.1 0 2).toNat 0 FU (by omega) (by have := lo.1.2.2.1; unfold FU; omega) (fun _ z => by omega)
          rw [u2, if_pos (by decide), show f_X3_tellsOfMissingRider_2 11 FU 0 σ = _ from mi, bI_s]
          unfold endR
          by_cases c : hiP s.1 < s.1 0 0
          · rw [decide_eq_false (fun z => z c), if_pos c]
            exact ⟨σ, rfl, ⟨u2, cr.1, cr.2.1, h4⟩, fun _ _ _ _ => rfl⟩
          · rw [decide_eq_true c, if_neg c, if_pos rfl, c_fail0 u2, bV_s, h.1]
            exact ⟨_, rfl, c_failS (by omega) (by show 0 ≤ L ∧ L ≤ 160; omega), fun k j x y => by rw [up_at, if_neg (by omega), up_at, if_neg (by omega)]⟩
        · rw [if_neg k0]
          have kb := tK_1 rg'.2 k0
          have kr := tK_rg L p T
          obtain ⟨σ1, a1, a2, a3, a4⟩ := c_line ok lo h cr ⟨by omega, rg'.2⟩ k0 k1 hs
          have g1 : RG L ((i : Int) + 1) (lnR L T s p) := by
            have := lnR_ge (T := T) s rg'.2 k0
            match hq : lnR L T s p, this with
            | .inl _, _ => exact trivial
            | .inr q, w => exact ⟨by have : p + 1 ≤ q := w.1; omega, w.2⟩
          have t1 : CTk (up σ1 41 4 (i + 1)) (lnR L T s p) := CTk.e (fun j hj => by rw [up_at, if_neg (by omega)]) a2
          have tp1 : cTp (up σ1 41 4 (i + 1)) (L, T) := (a4.tp h).u (by omega)
          obtain ⟨σ2, b1, b2, b3⟩ := c_take ok tp1 (g1.ok (by omega)) t1
          obtain ⟨σ', c1, c2, c3⟩ := ih (i + 1) m2 σ2 (lnR L T s p) (lnS L T s p) (by omega) (by omega) (by omega) (b3.tp tp1) (by exact_mod_cast g1) b2 (fun q hq => ⟨lnS_ok lo hq, (show CR (up σ1 41 4 (i + 1)) (lnS L T s p) from by
            obtain ⟨y1, y2, y3, y4⟩ := a3 q hq
            exact ⟨(cv_ext (fun r j hr _ => by rw [up_at, if_neg (by omega)])).trans y1, by rw [up_at, if_neg (by omega)]; exact y2, by rw [up_at, if_neg (by omega)]; exact y3, by rw [up_at, if_neg (by omega)]; exact y4⟩).ft b3⟩) (by rw [b3 41 4 (by omega), up_at, if_pos ⟨rfl, rfl⟩]; simp)
          refine ⟨σ', ?_, by exact_mod_cast c2, fun k j x y => ?_⟩
          · rw [f_X3_parse_40, w160, wr_of (x := (i : Int)) (by omega) (by omega), if_pos (by omega), u2, if_pos (by decide), u5, wr_of (x := tK L T p) (by omega) (by omega), if_neg k0, a1, bV_s]
            unfold pf
            rw [bV_s, a4 41 4 (by omega) (by omega), h4, b1, bV_s]
            exact_mod_cast c1
          · rw [c3 k j x y, b3 k j (by omega), up_at, if_neg (by omega), a4 k j x (by omega)]
