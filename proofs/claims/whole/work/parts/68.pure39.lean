/-! ===== pure part 39: a line and the whole reading, the model ===== -/
theorem m_rm_T {L : Int} {T : Int → Int} (ok : okT (L, T)) {σ : St} {s : Ls} (h : mTp σ (L, T)) (mr : MR σ s) (lo : LsOK s) {p : Int} (hp : 0 ≤ p ∧ p ≤ L) (k1 : tK L T p ≠ -1) (hs : MLk L T σ (.inr p)) : ∃ σ', f_X5_readMore 5 σ = some σ' ∧ MLk L T σ' (nmX L T 0 9 (andT s.2.1 (nmV L T 0 3 (.inr p)) (tF L T p) (nmX L T 0 3 (.inr p)))) ∧ (∀ q, nmX L T 0 9 (andT s.2.1 (nmV L T 0 3 (.inr p)) (tF L T p) (nmX L T 0 3 (.inr p))) = .inr q → MR σ' (pgT L T s.1 (nmV L T 0 3 (.inr p)) (andT s.2.1 (nmV L T 0 3 (.inr p)) (tF L T p) (nmX L T 0 3 (.inr p))), iod s.2.1 (isl 1 (nmV L T 0 3 (.inr p))), s.2.2)) ∧ Fk σ σ' := by
  have hL : 0 ≤ L ∧ L ≤ 160 := ok.1
  have a := tF_bd (T := T) hp.2
  have hs' : (if tK L T p = -1 then MF σ (1, tF L T p) else σ 51 10 = 0 ∧ σ 51 14 = tK L T p ∧ σ 51 13 = tF L T p ∧ σ 51 12 = tT L T p ∧ (tK L T p = 2 → σ 51 15 = tV L T p)) := hs
  rw [if_neg k1] at hs'
  obtain ⟨u10, u14, u13, u12, u15⟩ := hs'
  have kr := tK_rg L p T
  have pl : andT s.2.1 (nmV L T 0 3 (.inr p)) (tF L T p) (nmX L T 0 3 (.inr p)) = nmX L T 0 3 (.inr p) → ∃ σ', (bV (f_X5_readTrust_50 σ) fun s83 => some s83) = some σ' ∧ MLk L T σ' (nmX L T 0 9 (andT s.2.1 (nmV L T 0 3 (.inr p)) (tF L T p) (nmX L T 0 3 (.inr p)))) ∧ (∀ q, nmX L T 0 9 (andT s.2.1 (nmV L T 0 3 (.inr p)) (tF L T p) (nmX L T 0 3 (.inr p))) = .inr q → MR σ' (pgT L T s.1 (nmV L T 0 3 (.inr p)) (andT s.2.1 (nmV L T 0 3 (.inr p)) (tF L T p) (nmX L T 0 3 (.inr p))), iod s.2.1 (isl 1 (nmV L T 0 3 (.inr p))), s.2.2)) ∧ Fk σ σ' := by
    intro hA
    rw [hA]
    obtain ⟨σ1, a1, a2, a3, a4⟩ := m_rt50 ok h mr lo (x := .inr p) hp hs
    exact ⟨σ1, by rw [a1, bV_s], a2, fun _ _ => a3, a4⟩
  unfold f_X5_readMore f_X5_readTrust
  rw [if_pos (by decide), if_neg (by decide), if_pos rfl, u10, if_pos (by decide), u14, show wr 2 = 2 by decide, wr_of (x := tK L T p) (by omega) (by omega)]
  by_cases d : tK L T p = 2
  · have vb := tV_bd d
    rw [if_pos d, u15 d, m_inw (by omega) (by omega) (by omega), bI_s]
    by_cases g : 0 ≤ tV L T p ∧ tV L T p ≤ 3
    · have rv : nmV L T 0 3 (.inr p) = tV L T p := by
        show (if tK L T p = 2 ∧ 0 ≤ tV L T p ∧ tV L T p ≤ 3 then tV L T p else 0) = _
        rw [if_pos ⟨d, g⟩]
      have nx : nmX L T 0 3 (.inr p) = .inr (tT L T p) := by
        show nmR L T 0 3 p = _
        unfold nmR
        rw [if_neg k1, if_pos d, if_pos g]
      rw [if_pos (decide_eq_true g), mr.2.1, u15 d]
      by_cases y : wr (iad (isr s.2.1 (tV L T p)) 1) = wr 1
      · rw [if_pos y, m_fails0 u10, bV_s]
        have mf := m_failsS (σ := σ) (c := 4) (pl := tF L T p) (by omega) u13 (by omega)
        have hA : andT s.2.1 (nmV L T 0 3 (.inr p)) (tF L T p) (nmX L T 0 3 (.inr p)) = .inl (4, tF L T p) := by
          rw [nx, rv]
          show (if wr (iad (isr s.2.1 (tV L T p)) 1) = wr 1 then (.inl (4, tF L T p) : Rs) else .inr (tT L T p)) = _
          rw [if_pos y]
        obtain ⟨σ1, a1, a2, a3, a4⟩ := m_rt50 ok (Fm.fails.tp h) (mr.fm Fm.fails) lo (x := .inl (4, tF L T p)) trivial mf
        rw [hA]
        exact ⟨σ1, by rw [a1, bV_s], a2, fun q z => (by cases z), Fm.fails.k.tr a4⟩
      · rw [if_neg y]
        refine pl ?_
        rw [nx, rv]
        show (if wr (iad (isr s.2.1 (tV L T p)) 1) = wr 1 then (.inl (4, tF L T p) : Rs) else .inr (tT L T p)) = _
        rw [if_neg y]
    · rw [if_neg (fun z => g (of_decide_eq_true z))]
      refine pl ?_
      have nx : nmX L T 0 3 (.inr p) = .inl (3, tF L T p) := by
        show nmR L T 0 3 p = _
        unfold nmR
        rw [if_neg k1, if_pos d, if_neg g]
      rw [nx]
      rfl
  · rw [if_neg d]
    refine pl ?_
    have nx : nmX L T 0 3 (.inr p) = .inl (2, tF L T p) := by
      show nmR L T 0 3 p = _
      unfold nmR
      rw [if_neg k1, if_neg d]
    rw [nx]
    rfl
/-! a line with a fault -/
theorem m_95F {σ : St} {e : Int × Int} {x1 t : Int} (h : MF σ e) (ht : t = 0 ∨ t = 1) : ∃ σ', f_X5_readLine_95 x1 51 t σ = some σ' ∧ MF σ' e ∧ Fk σ σ' := by
  have h1 : MF (up σ 51 5 t) e := h.fm (fun j hj => by rw [up_at, if_neg (by omega)])
  have w : wr t = 0 ∨ wr t = 1 := by rcases ht with c | c <;> subst c <;> decide
  unfold f_X5_readLine_95 pz
  rw [if_pos w, bV_s]
  unfold f_X5_step
  rw [if_pos h1.ps, bV_s, if_pos h1.ps]
  exact ⟨_, rfl, h1, Fk.u (by omega)⟩
theorem m_76F {σ : St} {e : Int × Int} {x1 : Int} (h : MF σ e) : ∃ σ', f_X5_readLine_76 x1 σ = some σ' ∧ MF σ' e ∧ Fk σ σ' := by
  unfold f_X5_readLine_76 f_X5_readLine_90
  split
  · split
    · exact m_95F h (Or.inr rfl)
    · exact m_95F h (Or.inl rfl)
  · exact m_95F h (Or.inr rfl)
theorem m_58F {σ : St} {e : Int × Int} {x1 : Int} (h : MF σ e) : ∃ σ', f_X5_readLine_58 x1 σ = some σ' ∧ MF σ' e ∧ Fk σ σ' := by
  unfold f_X5_readLine_58
  rw [m_fails1 h, bV_s]
  split
  · split
    · exact m_76F h
    · exact m_76F h
  · exact m_76F h
theorem m_76n {σ : St} {x1 b : Int} (hx : ¬ wr x1 = wr 6) (h5 : σ 51 5 = b) (hb : b = 0 ∨ b = 1) : f_X5_readLine_76 x1 σ = f_X5_readLine_95 x1 51 b σ := by
  unfold f_X5_readLine_76 f_X5_readLine_90
  rw [if_neg hx, h5]
  rcases hb with c | c
  · rw [c, if_pos (by decide)]
  · rw [c, if_neg (by decide)]
theorem m_76y {σ : St} : f_X5_readLine_76 6 σ = f_X5_readLine_95 6 51 1 σ := by
  unfold f_X5_readLine_76 f_X5_readLine_90
  rw [if_pos rfl]
  split <;> rfl
theorem m_95 {L : Int} {T : Int → Int} (ok : okT (L, T)) {σ : St} {p : Int} (hp : 0 ≤ p ∧ p ≤ L) (h : mTp σ (L, T)) (u10 : σ 51 10 = 0) (u12 : σ 51 12 = tT L T p) {x1 t : Int} (ht : t = 0 ∨ t = 1) {s1 s2 : Ls} {y : Rs} (mr : MR (up σ 51 5 t) s1)
    (hm : ∀ σ1, mTp σ1 (L, T) → MR σ1 s1 → MLk L T σ1 (.inr (tT L T p)) → tK L T (tT L T p) ≠ -1 → ∃ σ', f_X5_readMore x1 σ1 = some σ' ∧ MLk L T σ' y ∧ (∀ q, y = .inr q → MR σ' s2) ∧ Fk σ1 σ')
    (hy : tK L T (tT L T p) = -1 → y = .inl (1, tF L T (tT L T p))) (hyo : RsOK L y) :
    ∃ σ', f_X5_readLine_95 x1 51 t σ = some σ' ∧ MLk L T σ' (smX L T y) ∧ (∀ q, smX L T y = .inr q → MR σ' s2) ∧ Fk σ σ' := by
  have b := tT_bd (T := T) hp.2
  have a := tF_bd (T := T) hp.2
  have w : wr t = 0 ∨ wr t = 1 := by rcases ht with c | c <;> subst c <;> decide
  have f0 : Fk σ (up σ 51 5 t) := Fk.u (by omega)
  have h0 := f0.tp h
  obtain ⟨σ1, t1, t2, t3⟩ := m_step ok (x := .inr (tT L T p)) h0 ⟨by omega, b.2.1⟩ ⟨by rw [up_at, if_neg (by omega)]; exact u10, by rw [up_at, if_neg (by omega)]; exact u12⟩
  have h1 := t3.tp h0
  have f1 : Fk σ σ1 := f0.tr t3.k
  unfold f_X5_readLine_95 pz
  rw [if_pos w, bV_s, t1, bV_s]
  by_cases c : tK L T (tT L T p) = -1
  · have t2' : (if tK L T (tT L T p) = -1 then MF σ1 (1, tF L T (tT L T p)) else σ1 51 10 = 0 ∧ σ1 51 14 = tK L T (tT L T p) ∧ σ1 51 13 = tF L T (tT L T p) ∧ σ1 51 12 = tT L T (tT L T p) ∧ (tK L T (tT L T p) = 2 → σ1 51 15 = tV L T (tT L T p))) := t2
    rw [if_pos c] at t2'
    rw [if_pos t2'.ps, hy c]
    exact ⟨σ1, rfl, t2', fun q z => (by cases z), f1⟩
  · have t2' : (if tK L T (tT L T p) = -1 then MF σ1 (1, tF L T (tT L T p)) else σ1 51 10 = 0 ∧ σ1 51 14 = tK L T (tT L T p) ∧ σ1 51 13 = tF L T (tT L T p) ∧ σ1 51 12 = tT L T (tT L T p) ∧ (tK L T (tT L T p) = 2 → σ1 51 15 = tV L T (tT L T p))) := t2
    rw [if_neg c] at t2'
    rw [t2'.1, if_neg (by decide)]
    obtain ⟨σ2, b1, b2, b3, b4⟩ := hm σ1 h1 (mr.fm t3) t2 c
    obtain ⟨σ3, c1, c2, c3⟩ := m_semi ok (b4.tp h1) hyo b2
    rw [b1, bV_s]
    refine ⟨σ3, c1, c2, fun q hq => ?_, (f1.tr b4).tr c3.k⟩
    obtain ⟨q1, e1⟩ := sm_inr hq
    exact (b3 q1 e1).fm c3
theorem nm_m1 {L : Int} {T : Int → Int} {lo hi p : Int} (h : tK L T p = -1) : nmX L T lo hi (.inr p) = .inl (1, tF L T p) := by
  show nmR L T lo hi p = _
  unfold nmR
  rw [if_pos h]
theorem m_line {L : Int} {T : Int → Int} (ok : okT (L, T)) {σ : St} {s : Ls} (lo : LsOK s) (h : mTp σ (L, T)) (mr : MR σ s) {p : Int} (hp : 0 ≤ p ∧ p ≤ L) (k1 : tK L T p ≠ -1) (hs : MLk L T σ (.inr p)) : ∃ σ', f_X5_readLine σ = some σ' ∧ MLk L T σ' (lnR L T s p) ∧ (∀ q, lnR L T s p = .inr q → MR σ' (lnS L T s p)) ∧ Fk σ σ' := by
  have hL : 0 ≤ L ∧ L ≤ 160 := ok.1
  have a := tF_bd (T := T) hp.2
  have b := tT_bd (T := T) hp.2
  have hs' : (if tK L T p = -1 then MF σ (1, tF L T p) else σ 51 10 = 0 ∧ σ 51 14 = tK L T p ∧ σ 51 13 = tF L T p ∧ σ 51 12 = tT L T p ∧ (tK L T p = 2 → σ 51 15 = tV L T p)) := hs
  rw [if_neg k1] at hs'
  obtain ⟨u10, u14, u13, u12, u15⟩ := hs'
  have hR := lo.1.1
  have hM := lo.1.2.2.1
  have e3 : σ 51 3 = s.1 0 0 := by rw [← mr.1]; rfl
  have e52 : rd σ 53 52 = s.1 0 2 := by rw [← mr.1]; rfl
  have e5 : σ 51 5 = s.2.2 := mr.2.2.1
  have mr5 : MR (up σ 51 5 s.2.2) s := by rw [up_self e5]; exact mr
  have g : RsOK L (.inr (tT L T p)) := ⟨by omega, by omega⟩
  have bad : ∀ (c : Int), 1 ≤ c ∧ c ≤ 6 → MF (up (up σ 51 10 c) 51 11 (σ 51 13)) (c, tF L T p) := fun c hc => m_failsS hc u13 (by omega)
  have kb : kn L T p ≤ 3 ∨ kn L T p = 4 ∨ kn L T p = 5 ∨ kn L T p = 6 ∨ kn L T p = 7 := by
    unfold kn
    repeat' split
    all_goals omega
  unfold f_X5_readLine
  rw [m_name ok hp h mr.2.2.2.2 u14 u13 u12, bI_s]
  rcases kb with k | k | k | k | k
  · generalize hk : kn L T p = kk at *
    have ek : knM kk = (kk : Int) := by unfold knM; rw [if_pos k]
    have e : lnR L T s p = rsR L T (x0R L T s.1 p) := by unfold lnR; rw [hk, if_pos k]
    have e' : lnS L T s p = (pgR L T s.1 (kk : Int) (x0R L T s.1 p), s.2) := by unfold lnS; rw [hk, if_pos k]
    rw [e, e', ek, m_inw (by omega) (by omega) (by omega), bI_s, if_pos (decide_eq_true (by omega))]
    have wk : wr (kk : Int) = kk := wr_of (by omega) (by omega)
    have w3 : wr 3 = 3 := by decide
    have w4 : wr 4 = 4 := by decide
    have w6 : wr 6 = 6 := by decide
    rw [if_neg (by rw [wk, w3]; omega), e3, wr_of (x := s.1 0 0) (by omega) (by omega), show wr 5 = 5 by decide]
    unfold x0R
    by_cases c : s.1 0 0 < 5
    · rw [if_pos c, if_neg (by omega)]
      unfold f_X5_readLine_36 f_X5_readLine_58
      rw [if_neg (by rw [wk, w4]; omega), if_neg (by rw [wk, w6]; omega), m_76n (by rw [wk, w6]; omega) e5 lo.2.2]
      exact m_95 ok hp h u10 u12 lo.2.2 mr5 (fun σ1 z1 z2 z3 z4 => by
        obtain ⟨σ2, y1, y2, y3, y4⟩ := m_rm_R ok z1 z2 lo (k := (kk : Int)) (by omega) g z3 c
        exact ⟨σ2, y1, y2, fun _ _ => y3, y4⟩) (fun z => by rw [nm_m1 z]; rfl) (nmX_ok (nmX_ok g))
    · rw [if_neg c, if_pos (by omega)]
      unfold f_X5_readLine_53
      rw [m_fails0 u10, bV_s]
      obtain ⟨σ2, y1, y2, y3⟩ := m_58F (x1 := (kk : Int)) (bad 5 (by omega))
      exact ⟨σ2, y1, y2, fun q z => (by cases z), Fm.fails.k.tr y3⟩
  · have e : lnR L T s p = rsB L T (x0B L T s.2.2 p) := by unfold lnR; rw [k, if_neg (by omega), if_pos rfl]
    have e' : lnS L T s p = (pgB L T s.1 (x0B L T s.2.2 p), s.2.1, 1) := by unfold lnS; rw [k, if_neg (by omega), if_pos rfl]
    rw [e, e', k, show knM 4 = 6 from rfl, m_inw (by omega) (by omega) (by omega), bI_s, if_pos (by decide), if_pos (by decide)]
    unfold f_X5_readLine_36 f_X5_readLine_58 x0B
    rw [if_neg (by decide), if_pos rfl, e5]
    rcases lo.2.2 with c | c
    · rw [c, if_pos (by decide), if_pos rfl, m_76y]
      have mr1 : MR (up σ 51 5 1) (s.1, s.2.1, 1) := ⟨by rw [hv_upj (by omega)]; exact mr.1, by rw [up_at, if_neg (by omega)]; exact mr.2.1, by rw [up_at, if_pos ⟨rfl, rfl⟩], by rw [up_at, if_neg (by omega)]; exact mr.2.2.2.1, mr.2.2.2.2.ext (fun k j x => by rw [up_at, if_neg (by omega)])⟩
      have lo1 : LsOK (s.1, s.2.1, 1) := ⟨lo.1, lo.2.1, Or.inr rfl⟩
      exact m_95 ok hp h u10 u12 (Or.inr rfl) mr1 (fun σ1 z1 z2 z3 z4 => by
        obtain ⟨σ2, y1, y2, y3, y4⟩ := m_rm_B ok z1 z2 lo1 g z3
        exact ⟨σ2, y1, y2, fun _ _ => y3, y4⟩) (fun z => by rw [nm_m1 z]) (nmX_ok g)
    · rw [c, if_neg (by decide), if_neg (by decide), m_fails0 u10, bV_s]
      obtain ⟨σ2, y1, y2, y3⟩ := m_76F (x1 := 6) (bad 4 (by omega))
      exact ⟨σ2, y1, y2, fun q z => (by cases z), Fm.fails.k.tr y3⟩
  · have e : lnR L T s p = rsT L T (x2T L T s.2.1 p) := by unfold lnR; rw [k, if_neg (by omega), if_neg (by omega), if_pos rfl]
    have e' : lnS L T s p = (pgT L T s.1 (trR L T p) (x2T L T s.2.1 p), iod s.2.1 (isl 1 (trR L T p)), s.2.2) := by unfold lnS; rw [k, if_neg (by omega), if_neg (by omega), if_pos rfl]
    rw [e, e', k, show knM 5 = 5 from rfl, m_inw (by omega) (by omega) (by omega), bI_s, if_pos (by decide), if_pos (by decide)]
    unfold f_X5_readLine_36 f_X5_readLine_58
    rw [if_neg (by decide), if_neg (by decide), m_76n (by decide) e5 lo.2.2]
    unfold x2T trR rsT
    have gx : RsOK L (andT s.2.1 (nmV L T 0 3 (.inr (tT L T p))) (tF L T (tT L T p)) (nmX L T 0 3 (.inr (tT L T p)))) := (RG.t (RG.nm (a := 0) (show RG L 0 (.inr (tT L T p)) from g))).ok (Int.le_refl 0)
    exact m_95 ok hp h u10 u12 lo.2.2 mr5 (fun σ1 z1 z2 z3 z4 => m_rm_T ok z1 z2 lo g z4 z3) (fun z => by rw [nm_m1 z]; rfl) (nmX_ok gx)
  · have e : lnR L T s p = rsS L T (x0S L T s.1 p) := by unfold lnR; rw [k, if_neg (by omega), if_neg (by omega), if_neg (by omega), if_pos rfl]
    have e' : lnS L T s p = (pgS L T s.1 (x0S L T s.1 p), s.2) := by unfold lnS; rw [k, if_neg (by omega), if_neg (by omega), if_neg (by omega), if_pos rfl]
    rw [e, e', k, show knM 6 = 4 from rfl, m_inw (by omega) (by omega) (by omega), bI_s, if_pos (by decide), if_pos (by decide)]
    unfold f_X5_readLine_36 x0S
    rw [if_pos rfl, ld_of (by omega) (by omega) (by omega), bV_s, e52, show wr 8 = 8 by decide, wr_of (x := s.1 0 2) (by omega) (by omega)]
    by_cases c : s.1 0 2 < 8
    · rw [if_neg (by omega), if_pos c]
      unfold f_X5_readLine_58
      rw [if_neg (by decide), m_76n (by decide) e5 lo.2.2]
      exact m_95 ok hp h u10 u12 lo.2.2 mr5 (fun σ1 z1 z2 z3 z4 => by
        obtain ⟨σ2, y1, y2, y3, y4⟩ := m_rm_S ok z1 z2 lo g z3 c
        exact ⟨σ2, y1, y2, fun _ _ => y3, y4⟩) (fun z => by rw [nm_m1 z]; rfl) (nmX_ok (nmX_ok (nmX_ok (nmX_ok g))))
    · rw [if_pos (by omega), if_neg c]
      unfold f_X5_readLine_53
      rw [m_fails0 u10, bV_s]
      obtain ⟨σ2, y1, y2, y3⟩ := m_58F (x1 := 4) (bad 5 (by omega))
      exact ⟨σ2, y1, y2, fun q z => (by cases z), Fm.fails.k.tr y3⟩
  · have e : lnR L T s p = .inl (2, tF L T p) := by unfold lnR; rw [k, if_neg (by omega), if_neg (by omega), if_neg (by omega), if_neg (by omega)]
    rw [e, k, show knM 7 = -4 from rfl, m_inw (by omega) (by omega) (by omega), bI_s, if_neg (by decide), m_fails0 u10, bV_s]
    exact ⟨_, rfl, bad 2 (by omega), fun q z => (by cases z), Fm.fails.k⟩
/-! lines one behind another -/
def ME (σ : St) (n : Int) (r : (Int × Int) ⊕ (Pg × Int)) : Prop := match r with
  | .inl e => MF σ e
  | .inr y => σ 51 10 = 0 ∧ mv (hv σ) 0 = y.1 ∧ n = y.2
theorem hiP_bd {P : Pg} (wf : WF P) : -1 ≤ hiP P ∧ hiP P < 5 := by
  have hR := wf.2.2.1
  refine ⟨?_, (hiN_lt (by omega) _).mpr (fun i hi => (wf.2.2.2.2.2.2.2 i (by omega) (by omega)).2.2.1.2)⟩
  have : ∀ (g : Int → Int) (n : Nat), -1 ≤ hiN g n := by
    intro g n
    induction n with
    | zero => exact Int.le_refl _
    | succ n ih => simp only [hiN]; split <;> omega
  exact this _ _
theorem m_prs {L : Int} {T : Int → Int} (ok : okT (L, T)) : ∀ (m i : Nat) (m2 : Nat) (σ : St) (x : Rs) (s : Ls), 161 ≤ i + m → i ≤ 160 → m ≤ m2 → mTp σ (L, T) → RG L i x → MLk L T σ x → (∀ p, x = .inr p → LsOK s ∧ MR σ s) → ∃ n σ', f_X5_text_57 m2 i σ = f_X5_text_105 n σ' ∧ ME σ' n (prs L T m x s i) ∧ Fk σ σ' := by
  have hL : 0 ≤ L ∧ L ≤ 160 := ok.1
  intro m
  induction m with
  | zero => intro i m2 σ x s h1 h2; omega
  | succ m ih =>
    intro i m2 σ x s h1 h2 h3 h rg hs hc
    obtain ⟨m2, rfl⟩ : ∃ y, m2 = y + 1 := ⟨m2 - 1, by omega⟩
    have bad : ∀ e, MF σ e → ∃ n σ', f_X5_text_57 (m2 + 1) i σ = f_X5_text_105 n σ' ∧ ME σ' n (.inl e) ∧ Fk σ σ' := by
      intro e he
      refine ⟨i, σ, ?_, he, Fk.rf σ⟩
      rw [f_X5_text_57, if_neg he.nz]
      unfold f_X5_text_81
      rw [if_neg he.nz]
    match x, rg, hs, hc with
    | .inl e, _, hs, _ => exact bad e hs
    | .inr p, rg, hs, hc =>
      have rg' : (i : Int) ≤ p ∧ p ≤ L := rg
      have a := tF_bd (T := T) rg'.2
      have hs' : (if tK L T p = -1 then MF σ (1, tF L T p) else σ 51 10 = 0 ∧ σ 51 14 = tK L T p ∧ σ 51 13 = tF L T p ∧ σ 51 12 = tT L T p ∧ (tK L T p = 2 → σ 51 15 = tV L T p)) := hs
      show ∃ n σ', _ ∧ ME σ' n (if tK L T p = -1 then .inl (1, tF L T p) else if tK L T p = 0 then endR L s i else prs L T m (lnR L T s p) (lnS L T s p) (i + 1)) ∧ _
      by_cases k1 : tK L T p = -1
      · rw [if_pos k1] at hs' ⊢
        exact bad _ hs'
      · rw [if_neg k1] at hs' ⊢
        obtain ⟨u10, u14, u13, u12, u15⟩ := hs'
        obtain ⟨lo, mr⟩ := hc p rfl
        have kr := tK_rg L p T
        rw [f_X5_text_57, u10, if_pos (by decide), u14, wr_of (x := tK L T p) (by omega) (by omega)]
        by_cases k0 : tK L T p = 0
        · rw [if_pos k0, if_pos k0]
          have hR := lo.1.1
          have hb := hiP_bd lo.1
          have e3 : σ 51 3 = s.1 0 0 := by rw [← mr.1]; rfl
          have ef : tF L T p = L := by
            have : L ≤ tF L T p := by
              by_cases c : L ≤ tF L T p
              · exact c
              · exfalso
                unfold tK at k0
                rw [if_neg c] at k0
                repeat' split at k0
                all_goals omega
            omega
          unfold f_X5_text_81 endR
          rw [u10, if_pos (by decide), e3, mr.2.2.2.1, wr_of (x := hiP s.1) (by omega) (by omega), wr_of (x := s.1 0 0) (by omega) (by omega)]
          by_cases c : hiP s.1 < s.1 0 0
          · rw [if_pos c, if_pos c]
            exact ⟨i, σ, rfl, ⟨u10, mr.1, rfl⟩, Fk.rf σ⟩
          · rw [if_neg c, if_neg c, m_fails0 u10, bV_s]
            exact ⟨i, _, rfl, m_failsS (by omega) (u13.trans ef) (by omega), Fm.fails.k⟩
        · rw [if_neg k0, if_neg k0]
          obtain ⟨σ1, a1, a2, a3, a4⟩ := m_line ok lo h mr ⟨by omega, rg'.2⟩ k1 hs
          have g1 : RG L ((i : Int) + 1) (lnR L T s p) := by
            have := lnR_ge (T := T) s rg'.2 k0
            match hq : lnR L T s p, this with
            | .inl _, _ => exact trivial
            | .inr q, w => exact ⟨by have : p + 1 ≤ q := w.1; omega, w.2⟩
          have kb := tK_1 rg'.2 k0
          obtain ⟨n, σ', c1, c2, c3⟩ := ih (i + 1) m2 σ1 (lnR L T s p) (lnS L T s p) (by omega) (by omega) (by omega) (a4.tp h) (by exact_mod_cast g1) a2 (fun q hq => ⟨lnS_ok lo hq, a3 q hq⟩)
          refine ⟨n, σ', ?_, by exact_mod_cast c2, a4.tr c3⟩
          rw [a1, bV_s]
          exact_mod_cast c1
