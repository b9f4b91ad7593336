/-! ===== pure part 38: lines, the model ===== -/
def hv (σ : St) : St := fun k j => if k = 52 then σ 53 j else if k = 51 ∧ j = 1 then σ 51 3 else 0
theorem hv_cong {σ σ' : St} (h3 : σ' 51 3 = σ 51 3) (h : ∀ j, σ' 53 j = σ 53 j) : hv σ' = hv σ := by
  funext k j
  unfold hv
  rw [h3, h]
theorem hv_fm {σ σ' : St} (f : Fm σ σ') : hv σ' = hv σ := hv_cong (f 51 3 (by omega)) (fun j => f 53 j (by omega))
theorem hv_ups {σ : St} {x v : Int} : hv (ups σ 53 x v) = ups (hv σ) 52 x v := by
  funext k j
  unfold hv ups up
  by_cases c : k = 52
  · subst c; simp
  · simp [c]
theorem hv_up3 {σ : St} {v : Int} : hv (up σ 51 3 v) = up (hv σ) 51 1 v := by
  funext k j
  unfold hv up
  by_cases c : k = 52
  · subst c; simp
  · by_cases d : k = 51 ∧ j = 1
    · simp [d]
    · simp [c, d]
theorem hv_upj {σ : St} {j : Nat} {v : Int} (h : j ≠ 3) : hv (up σ 51 j v) = hv σ := hv_cong (by rw [up_at, if_neg (by omega)]) (fun i => by rw [up_at, if_neg (by omega)])
theorem hv_1 (σ : St) : hv σ 51 1 = σ 51 3 := rfl
theorem hv_rd (σ : St) (y : Int) : rd (hv σ) 52 y = rd σ 53 y := rfl
theorem mv_rid {σ : St} {M k u w : Int} (hM : σ 51 1 = M) (h0 : 0 ≤ M) (h5 : M < 5) : mv (up (ups (ups (ups σ 52 M k) 52 (5 + M) u) 52 (10 + M) w) 51 1 (M + 1)) 0 = ridP (mv σ 0) k u w := by
  generalize hs' : up (ups (ups (ups σ 52 M k) 52 (5 + M) u) 52 (10 + M) w) 51 1 (M + 1) = σ' at *
  have s1 : σ' 51 1 = M + 1 := by rw [← hs', up_at, if_pos ⟨rfl, rfl⟩]
  have rr : ∀ y : Int, 0 ≤ y → rd σ' 52 y = if y = 10 + M then w else if y = 5 + M then u else if y = M then k else rd σ 52 y := by
    intro y hy
    rw [← hs', rd_up (by decide), rd_ups (by omega) hy, rd_ups (by omega) hy, rd_ups (by omega) hy]
    simp
  have low : ∀ (y : Int), 15 ≤ y → rd σ' 52 y = rd σ 52 y := by
    intro y a
    rw [rr y (by omega), if_neg (by omega), if_neg (by omega), if_neg (by omega)]
  have hi : ∀ (o i v : Int), 0 ≤ o → (∀ y, 0 ≤ y → y < 5 → rd σ' 52 (o + y) = if y = M then v else rd σ 52 (o + y)) → (if 0 ≤ i ∧ i < M + 1 then rd σ' 52 (o + i) else 0) = if i = M then v else (if 0 ≤ i ∧ i < M then rd σ 52 (o + i) else 0) := by
    intro o i v ho h1
    by_cases c : i = M
    · rw [if_pos (by omega), h1 i (by omega) (by omega), if_pos c, if_pos c]
    · rw [if_neg c]
      by_cases c2 : 0 ≤ i ∧ i < M
      · rw [if_pos (by omega), h1 i c2.1 (by omega), if_neg c, if_pos c2]
      · rw [if_neg (by omega), if_neg c2]
  have e00 : mv σ 0 0 0 = M := hM
  have l52 : rd σ' 52 (0 + 52) = rd σ 52 (0 + 52) := low _ (by omega)
  funext r i
  unfold ridP
  rw [e00]
  match r with
  | 0 =>
    simp only [mv, s1, l52, low (0 + 15) (by omega), low (0 + 53) (by omega), low (0 + 54) (by omega)]
    by_cases c : i = 0
    · subst c; simp
    · simp [c]
  | 1 =>
    simp only [mv, s1, hM]
    rw [hi 0 i k (by omega) (fun y h1 h2 => by
      rw [rr _ (by omega), if_neg (by omega), if_neg (by omega)]
      by_cases c : y = M
      · rw [if_pos (by omega), if_pos c]
      · rw [if_neg (by omega), if_neg c])]
    simp
  | 2 =>
    simp only [mv, s1, hM]
    rw [hi (0 + 5) i u (by omega) (fun y h1 h2 => by
      rw [rr _ (by omega), if_neg (by omega)]
      by_cases c : y = M
      · rw [if_pos (by omega), if_pos c]
      · rw [if_neg (by omega), if_neg (by omega), if_neg c])]
    simp
  | 3 =>
    simp only [mv, s1, hM]
    rw [hi (0 + 10) i w (by omega) (fun y h1 h2 => by
      rw [rr _ (by omega)]
      by_cases c : y = M
      · rw [if_pos (by omega), if_pos c]
      · rw [if_neg (by omega), if_neg (by omega), if_neg (by omega), if_neg c])]
    simp
  | 4 =>
    simp only [mv]
    by_cases c : 0 ≤ i ∧ i < 4
    · rw [if_pos c, if_pos c, low _ (by omega)]; simp
    · rw [if_neg c, if_neg c]; simp
  | 5 =>
    simp only [mv, l52]
    by_cases c : 0 ≤ i ∧ i < rd σ 52 (0 + 52)
    · rw [if_pos c, if_pos c, low _ (by omega)]; simp
    · rw [if_neg c, if_neg c]; simp
  | 6 =>
    simp only [mv, l52]
    by_cases c : 0 ≤ i ∧ i < rd σ 52 (0 + 52)
    · rw [if_pos c, if_pos c, low _ (by omega)]; simp
    · rw [if_neg c, if_neg c]; simp
  | 7 =>
    simp only [mv, l52]
    by_cases c : 0 ≤ i ∧ i < rd σ 52 (0 + 52)
    · rw [if_pos c, if_pos c, low _ (by omega)]; simp
    · rw [if_neg c, if_neg c]; simp
  | 8 =>
    simp only [mv, l52]
    by_cases c : 0 ≤ i ∧ i < rd σ 52 (0 + 52)
    · rw [if_pos c, if_pos c, low _ (by omega)]; simp
    · rw [if_neg c, if_neg c]; simp
  | n + 9 => simp [mv]
def MR (σ : St) (s : Ls) : Prop := mv (hv σ) 0 = s.1 ∧ σ 51 4 = s.2.1 ∧ σ 51 5 = s.2.2 ∧ σ 51 6 = hiP s.1 ∧ mCo σ
theorem MR.fm {σ σ' : St} {s : Ls} (f : Fm σ σ') (h : MR σ s) : MR σ' s := ⟨by rw [hv_fm f]; exact h.1, (f 51 4 (by omega)).trans h.2.1, (f 51 5 (by omega)).trans h.2.2.1, (f 51 6 (by omega)).trans h.2.2.2.1, h.2.2.2.2.ext (fun k j x => f k j (by omega))⟩
def Fk (σ σ' : St) : Prop := ∀ k j, k ≠ 53 → ¬ (k = 51 ∧ ((3 ≤ j ∧ j ≤ 6) ∨ (10 ≤ j ∧ j ≤ 15))) → σ' k j = σ k j
theorem Fk.rf (σ : St) : Fk σ σ := fun _ _ _ _ => rfl
theorem Fk.tr {a b c : St} (h1 : Fk a b) (h2 : Fk b c) : Fk a c := fun k j x y => (h2 k j x y).trans (h1 k j x y)
theorem Fm.k {a b : St} (h : Fm a b) : Fk a b := fun k j _ y => h k j (by omega)
theorem Fk.us {σ : St} {i v : Int} : Fk σ (ups σ 53 i v) := fun a b x y => ups_at x
theorem Fk.u {σ : St} {j : Nat} {v : Int} (h : 3 ≤ j ∧ j ≤ 6) : Fk σ (up σ 51 j v) := fun a b x y => by rw [up_at, if_neg (by omega)]
theorem Fk.tp {σ σ' : St} {T : Int × (Int → Int)} (h : Fk σ σ') (t : mTp σ T) : mTp σ' T := t.ext (h 51 8 (by omega) (by omega)) (fun j => h 54 j (by omega) (by omega))
theorem Fk.co {σ σ' : St} (h : Fk σ σ') (c : mCo σ) : mCo σ' := c.ext (fun k j x => h k j (by omega) (by omega))
theorem MLk.e {L : Int} {T : Int → Int} {σ σ' : St} {x : Rs} (f : ∀ j, 10 ≤ j → j ≤ 15 → σ' 51 j = σ 51 j) (h : MLk L T σ x) : MLk L T σ' x := by
  match x, h with
  | .inl e, h => exact MF.fm h (fun j hj => f j (by omega) (by omega))
  | .inr p, h =>
    have h' : (if tK L T p = -1 then MF σ (1, tF L T p) else σ 51 10 = 0 ∧ σ 51 14 = tK L T p ∧ σ 51 13 = tF L T p ∧ σ 51 12 = tT L T p ∧ (tK L T p = 2 → σ 51 15 = tV L T p)) := h
    show (if tK L T p = -1 then MF σ' (1, tF L T p) else σ' 51 10 = 0 ∧ σ' 51 14 = tK L T p ∧ σ' 51 13 = tF L T p ∧ σ' 51 12 = tT L T p ∧ (tK L T p = 2 → σ' 51 15 = tV L T p))
    by_cases c : tK L T p = -1
    · rw [if_pos c] at h' ⊢
      exact MF.fm h' (fun j hj => f j (by omega) (by omega))
    · rw [if_neg c] at h' ⊢
      rw [f 10 (by omega) (by omega), f 14 (by omega) (by omega), f 13 (by omega) (by omega), f 12 (by omega) (by omega), f 15 (by omega) (by omega)]
      exact h'
theorem MLk.us {L : Int} {T : Int → Int} {σ : St} {x : Rs} {i v : Int} (h : MLk L T σ x) : MLk L T (ups σ 53 i v) x := MLk.e (fun j _ _ => ups_at (by decide)) h
theorem MLk.u {L : Int} {T : Int → Int} {σ : St} {x : Rs} {j : Nat} {v : Int} (hj : j < 10) (h : MLk L T σ x) : MLk L T (up σ 51 j v) x := MLk.e (fun i _ _ => by rw [up_at, if_neg (by omega)]) h
theorem m_rm_R {L : Int} {T : Int → Int} (ok : okT (L, T)) {σ : St} {s : Ls} (h : mTp σ (L, T)) (mr : MR σ s) (lo : LsOK s) {x : Rs} {k : Int} (hk : 0 ≤ k ∧ k ≤ 3) (hx : RsOK L x) (hs : MLk L T σ x) (h5 : s.1 0 0 < 5) : ∃ σ', f_X5_readMore k σ = some σ' ∧ MLk L T σ' (nmX L T 1 99 (nmX L T 0 15 x)) ∧ MR σ' (pgR L T s.1 k x, s.2) ∧ Fk σ σ' := by
  have hR := lo.1.1
  have e3 : σ 51 3 = s.1 0 0 := by rw [← mr.1]; rfl
  generalize hM : s.1 0 0 = M at *
  obtain ⟨σ1, a1, a2, a3⟩ := m_num ok (lo := 0) (hi := 15) (by omega) (by omega) (Fk.us.tp h) hx (hs.us (i := M) (v := k))
  have q1 : σ1 51 3 = M := by rw [a3 51 3 (by omega), ups_at (by decide), e3]
  have f1 : Fk σ σ1 := Fk.us.tr a3.k
  generalize hv1 : nmV L T 0 15 x = v1 at *
  obtain ⟨σ2, b1, b2, b3⟩ := m_num ok (lo := 1) (hi := 99) (by omega) (by omega) ((f1.tr Fk.us).tp h) (nmX_ok hx) (a2.us (i := 5 + M) (v := v1))
  have q2 : σ2 51 3 = M := by rw [b3 51 3 (by omega), ups_at (by decide), q1]
  generalize hv2 : nmV L T 1 99 (nmX L T 0 15 x) = v2 at *
  have f2 : Fk σ σ2 := (f1.tr Fk.us).tr b3.k
  have wk : ¬ wr 3 < wr k := by rw [wr_of (x := k) (by omega) (by omega), show wr 3 = 3 by decide]; omega
  unfold f_X5_readMore
  rw [if_neg wk, e3, sv_of (by omega) (by omega) (by omega), bV_s, a1, bI_s, ups_at (by decide), e3, sv_of (by omega) (by omega) (by omega), bV_s, b1, bI_s, ups_at (by decide), q1, sv_of (by omega) (by omega) (by omega), bV_s]
  unfold pf
  rw [bV_s, ups_at (by decide), q2]
  have eh : hv (up (ups σ2 53 (10 + M) v2) 51 3 (M + 1)) = up (ups (ups (ups (hv σ) 52 M k) 52 (5 + M) v1) 52 (10 + M) v2) 51 1 (M + 1) := by
    rw [hv_up3, hv_ups, hv_fm b3, hv_ups, hv_fm a3, hv_ups]
  have z := mv_rid (σ := hv σ) (M := M) (k := k) (u := v1) (w := v2) (by rw [hv_1, e3]) (by omega) h5
  rw [mr.1, ← eh] at z
  have ff : Fk σ (up (ups σ2 53 (10 + M) v2) 51 3 (M + 1)) := (f2.tr Fk.us).tr (Fk.u (by omega))
  have at' : ∀ j, 4 ≤ j → j ≤ 6 → up (ups σ2 53 (10 + M) v2) 51 3 (M + 1) 51 j = σ 51 j := by
    intro j j1 j2
    rw [up_at, if_neg (by omega), ups_at (by decide), b3 51 j (by omega), ups_at (by decide), a3 51 j (by omega), ups_at (by decide)]
  refine ⟨_, rfl, (b2.us).u (by omega), ⟨?_, ?_, ?_, ?_, ff.co mr.2.2.2.2⟩, ff⟩
  · show _ = ridP s.1 k (nmV L T 0 15 x) (nmV L T 1 99 (nmX L T 0 15 x))
    rw [hv1, hv2]
    exact z
  · exact (at' 4 (by omega) (by omega)).trans mr.2.1
  · exact (at' 5 (by omega) (by omega)).trans mr.2.2.1
  · rw [at' 6 (by omega) (by omega), mr.2.2.2.1]
    show hiP s.1 = hiP (ridP s.1 k _ _)
    unfold hiP
    have e2 : ∀ u w, ridP s.1 k u w 0 2 = s.1 0 2 := fun u w => by simp [ridP]
    have e7 : ∀ u w, (fun i => ridP s.1 k u w 7 i) = (fun i => s.1 7 i) := fun u w => by funext i; simp [ridP]
    rw [e2, e7]
theorem m_rm_S {L : Int} {T : Int → Int} (ok : okT (L, T)) {σ : St} {s : Ls} (h : mTp σ (L, T)) (mr : MR σ s) (lo : LsOK s) {x : Rs} (hx : RsOK L x) (hs : MLk L T σ x) (h8 : s.1 0 2 < 8) : ∃ σ', f_X5_readMore 4 σ = some σ' ∧ MLk L T σ' (nmX L T 0 3 (nmX L T 0 4 (nmX L T 0 3 (nmX L T 0 99 x)))) ∧ MR σ' (pgS L T s.1 x, s.2) ∧ Fk σ σ' := by
  have hR := lo.1.2.2.1
  have hR5 : hv σ 51 1 ≤ 5 := by
    have : hv σ 51 1 = s.1 0 0 := by rw [← mr.1]; rfl
    rw [this]; exact lo.1.1.2
  have e52 : rd σ 53 52 = s.1 0 2 := by rw [← mr.1]; rfl
  obtain ⟨σ1, a1, a2, a3⟩ := m_num ok (lo := 0) (hi := 99) (by omega) (by omega) h hx hs
  have f1 : Fk σ σ1 := a3.k
  have c1 := nmV_bd (L := L) (T := T) (lo := 0) (hi := 99) (by omega) x
  generalize hv1 : nmV L T 0 99 x = v1 at *
  generalize hM : s.1 0 2 = M at *
  obtain ⟨σ2, b1, b2, b3⟩ := m_num ok (lo := 0) (hi := 3) (by omega) (by omega) ((f1.tr Fk.us).tp h) (nmX_ok hx) (a2.us (i := 20 + M) (v := v1))
  have f2 : Fk σ σ2 := (f1.tr Fk.us).tr b3.k
  generalize hv2 : nmV L T 0 3 (nmX L T 0 99 x) = v2 at *
  obtain ⟨σ3, d1, d2, d3⟩ := m_num ok (lo := 0) (hi := 4) (by omega) (by omega) ((f2.tr Fk.us).tp h) (nmX_ok (nmX_ok hx)) (b2.us (i := 28 + M) (v := v2))
  have f3 : Fk σ σ3 := (f2.tr Fk.us).tr d3.k
  have c3 := nmV_bd (L := L) (T := T) (lo := 0) (hi := 4) (by omega) (nmX L T 0 3 (nmX L T 0 99 x))
  generalize hv3 : nmV L T 0 4 (nmX L T 0 3 (nmX L T 0 99 x)) = v3 at *
  have q6 : σ3 51 6 = hiP s.1 := by rw [d3 51 6 (by omega), ups_at (by decide), b3 51 6 (by omega), ups_at (by decide), a3 51 6 (by omega), mr.2.2.2.1]
  have hb : -1 ≤ hiP s.1 ∧ hiP s.1 < 5 := by
    refine ⟨?_, (hiN_lt (by omega) _).mpr (fun i hi => (lo.1.2.2.2.2.2.2.2 i (by omega) (by omega)).2.2.1.2)⟩
    have : ∀ (g : Int → Int) (n : Nat), -1 ≤ hiN g n := by
      intro g n
      induction n with
      | zero => exact Int.le_refl _
      | succ n ih => simp only [hiN]; split <;> omega
    exact this _ _
  have e4 : ¬ wr 4 ≤ wr 3 := by decide
  have tail : ∀ t, t = (if hiP s.1 < v3 then v3 else hiP s.1) → ∃ σ', (bV (f_X5_readReport_63 M v3 51 t σ3) fun s71 => some s71) = some σ' ∧ MLk L T σ' (nmX L T 0 3 (nmX L T 0 4 (nmX L T 0 3 (nmX L T 0 99 x)))) ∧ MR σ' (pgS L T s.1 x, s.2) ∧ Fk σ σ' := by
    intro t ht
    have f4 : Fk σ (ups (up σ3 51 6 t) 53 (36 + M) v3) := (f3.tr (Fk.u (by omega))).tr Fk.us
    obtain ⟨σ5, g1, g2, g3⟩ := m_num ok (lo := 0) (hi := 3) (by omega) (by omega) (f4.tp h) (nmX_ok (nmX_ok (nmX_ok hx))) ((d2.u (j := 6) (v := t) (by omega)).us (i := 36 + M) (v := v3))
    generalize hv4 : nmV L T 0 3 (nmX L T 0 4 (nmX L T 0 3 (nmX L T 0 99 x))) = v4 at *
    have f5 : Fk σ σ5 := f4.tr g3.k
    have r52 : rd (ups σ5 53 (44 + M) v4) 53 52 = M := by
      rw [rd_ups (by omega) (by omega), if_neg (by omega)]
      show σ5 53 52 = M
      rw [g3 53 52 (by omega)]
      show rd (ups (up σ3 51 6 t) 53 (36 + M) v3) 53 52 = M
      rw [rd_ups (by omega) (by omega), if_neg (by omega), rd_up (by decide)]
      show σ3 53 52 = M
      rw [d3 53 52 (by omega)]
      show rd (ups σ2 53 (28 + M) v2) 53 52 = M
      rw [rd_ups (by omega) (by omega), if_neg (by omega)]
      show σ2 53 52 = M
      rw [b3 53 52 (by omega)]
      show rd (ups σ1 53 (20 + M) v1) 53 52 = M
      rw [rd_ups (by omega) (by omega), if_neg (by omega)]
      show σ1 53 52 = M
      rw [a3 53 52 (by omega)]
      exact e52
    unfold f_X5_readReport_63 pf
    rw [bV_s, sv_of (by omega) (by omega) (by omega), bV_s, g1, bI_s, sv_of (by omega) (by omega) (by omega), bV_s, ld_of (by omega) (by omega) (by omega), bV_s, r52, sv_of (by omega) (by omega) (by omega), bV_s, bV_s]
    have eh : hv (ups (ups σ5 53 (44 + M) v4) 53 52 (M + 1)) = ups (ups (ups (ups (ups (hv σ) 52 (20 + M) v1) 52 (28 + M) v2) 52 (36 + M) v3) 52 (44 + M) v4) 52 52 (M + 1) := by
      rw [hv_ups, hv_ups, hv_fm g3, hv_ups, hv_upj (by omega), hv_fm d3, hv_ups, hv_fm b3, hv_ups, hv_fm a3]
    have z := mv_send (σ := hv σ) (M := M) (d := v1) (b := v2) (h := v3) (e := v4) (by rw [hv_rd, e52]) (by omega) (by omega) hR5
    rw [mr.1, ← eh] at z
    have ff : Fk σ (ups (ups σ5 53 (44 + M) v4) 53 52 (M + 1)) := (f5.tr Fk.us).tr Fk.us
    have at' : ∀ j, 4 ≤ j → j ≤ 5 → ups (ups σ5 53 (44 + M) v4) 53 52 (M + 1) 51 j = σ 51 j := by
      intro j j1 j2
      rw [ups_at (by decide), ups_at (by decide), g3 51 j (by omega), ups_at (by decide), up_at, if_neg (by omega), d3 51 j (by omega), ups_at (by decide), b3 51 j (by omega), ups_at (by decide), a3 51 j (by omega)]
    refine ⟨_, rfl, g2.us.us, ⟨?_, (at' 4 (by omega) (by omega)).trans mr.2.1, (at' 5 (by omega) (by omega)).trans mr.2.2.1, ?_, ff.co mr.2.2.2.2⟩, ff⟩
    · show _ = sendP s.1 (nmV L T 0 99 x) (nmV L T 0 3 (nmX L T 0 99 x)) (nmV L T 0 4 (nmX L T 0 3 (nmX L T 0 99 x))) (nmV L T 0 3 (nmX L T 0 4 (nmX L T 0 3 (nmX L T 0 99 x))))
      rw [hv1, hv2, hv3, hv4]
      exact z
    · rw [ups_at (by decide), ups_at (by decide), g3 51 6 (by omega), ups_at (by decide), up_at, if_pos ⟨rfl, rfl⟩, ht]
      show _ = hiP (sendP s.1 (nmV L T 0 99 x) (nmV L T 0 3 (nmX L T 0 99 x)) (nmV L T 0 4 (nmX L T 0 3 (nmX L T 0 99 x))) (nmV L T 0 3 (nmX L T 0 4 (nmX L T 0 3 (nmX L T 0 99 x)))))
      rw [hv1, hv2, hv3, hv4]
      have e2 : sendP s.1 v1 v2 v3 v4 0 2 = M + 1 := by simp [sendP, hM]
      have e7 : ∀ i, sendP s.1 v1 v2 v3 v4 7 i = if i = M then v3 else s.1 7 i := fun i => by simp [sendP, hM]
      unfold hiP
      rw [e2, hM, show (M + 1).toNat = M.toNat + 1 by omega, hiN]
      have ex : hiN (fun i => sendP s.1 v1 v2 v3 v4 7 i) M.toNat = hiN (fun i => s.1 7 i) M.toNat := hiN_ext (fun i hi => by show sendP s.1 v1 v2 v3 v4 7 i = _; rw [e7, if_neg (by omega)])
      rw [ex, e7, if_pos (show ((M.toNat : Nat) : Int) = M by omega)]
  unfold f_X5_readMore f_X5_readReport
  rw [if_pos (by decide), if_pos rfl, ld_of (by omega) (by omega) (by omega), bV_s, e52, a1, bI_s, sv_of (by omega) (by omega) (by omega), bV_s, b1, bI_s, sv_of (by omega) (by omega) (by omega), bV_s, d1, bI_s, q6, wr_of (x := hiP s.1) (by omega) (by omega), wr_of (x := v3) (by omega) (by omega)]
  by_cases c : hiP s.1 < v3
  · rw [if_pos c]
    exact tail v3 (by rw [if_pos c])
  · rw [if_neg c]
    exact tail (hiP s.1) (by rw [if_neg c])
theorem m_rm_B {L : Int} {T : Int → Int} (ok : okT (L, T)) {σ : St} {s : Ls} (h : mTp σ (L, T)) (mr : MR σ s) (lo : LsOK s) {x : Rs} (hx : RsOK L x) (hs : MLk L T σ x) : ∃ σ', f_X5_readMore 6 σ = some σ' ∧ MLk L T σ' (nmX L T 1 99 x) ∧ MR σ' (pgB L T s.1 x, s.2) ∧ Fk σ σ' := by
  have h0 : hv σ 51 1 = s.1 0 0 := by rw [← mr.1]; rfl
  have h2 : rd (hv σ) 52 (0 + 52) = s.1 0 2 := by rw [← mr.1]; rfl
  obtain ⟨σ1, a1, a2, a3⟩ := m_num ok (lo := 1) (hi := 99) (by omega) (by omega) h hx hs
  generalize hv1 : nmV L T 1 99 x = v1 at *
  unfold f_X5_readMore
  rw [if_pos (by decide), if_neg (by decide), if_neg (by decide), a1, bI_s, sv_of (by omega) (by omega) (by omega), bV_s]
  have ff : Fk σ (ups σ1 53 15 (v1 - 25)) := a3.k.tr Fk.us
  have at' : ∀ j, 4 ≤ j → j ≤ 6 → ups σ1 53 15 (v1 - 25) 51 j = σ 51 j := fun j j1 j2 => by rw [ups_at (by decide), a3 51 j (by omega)]
  refine ⟨_, rfl, a2.us, ⟨?_, (at' 4 (by omega) (by omega)).trans mr.2.1, (at' 5 (by omega) (by omega)).trans mr.2.2.1, ?_, ff.co mr.2.2.2.2⟩, ff⟩
  · show _ = upP s.1 0 1 (nmV L T 1 99 x)
    rw [hv1, hv_ups, hv_fm a3, mv_set (r0 := 0) (i0 := 1) (Int.le_refl 0) (by rw [h0]; exact lo.1.1.2) (by rw [h2]; exact lo.1.2.2.1.2) (Or.inl rfl) (by simp [lcM]) (by omega), mr.1]
    show upP _ 0 1 (v1 - 25 + 25) = _
    rw [show v1 - 25 + 25 = v1 by omega]
  · rw [at' 6 (by omega) (by omega)]
    exact mr.2.2.2.1
theorem m_rt50 {L : Int} {T : Int → Int} (ok : okT (L, T)) {σ : St} {s : Ls} (h : mTp σ (L, T)) (mr : MR σ s) (lo : LsOK s) {x : Rs} (hx : RsOK L x) (hs : MLk L T σ x) : ∃ σ', f_X5_readTrust_50 σ = some σ' ∧ MLk L T σ' (nmX L T 0 9 (nmX L T 0 3 x)) ∧ MR σ' (upP s.1 4 (nmV L T 0 3 x) (nmV L T 0 9 (nmX L T 0 3 x)), iod s.2.1 (isl 1 (nmV L T 0 3 x)), s.2.2) ∧ Fk σ σ' := by
  have h0 : hv σ 51 1 = s.1 0 0 := by rw [← mr.1]; rfl
  have h2 : rd (hv σ) 52 (0 + 52) = s.1 0 2 := by rw [← mr.1]; rfl
  obtain ⟨σ1, a1, a2, a3⟩ := m_num ok (lo := 0) (hi := 3) (by omega) (by omega) h hx hs
  have c1 := nmV_bd (L := L) (T := T) (lo := 0) (hi := 3) (by omega) x
  generalize hv1 : nmV L T 0 3 x = r at *
  have q4 : σ1 51 4 = s.2.1 := (a3 51 4 (by omega)).trans mr.2.1
  have f2 : Fk σ (up σ1 51 4 (iod s.2.1 (isl 1 r))) := a3.k.tr (Fk.u (by omega))
  obtain ⟨σ2, b1, b2, b3⟩ := m_num ok (lo := 0) (hi := 9) (by omega) (by omega) (f2.tp h) (nmX_ok hx) (a2.u (j := 4) (v := iod s.2.1 (isl 1 r)) (by omega))
  generalize hv2 : nmV L T 0 9 (nmX L T 0 3 x) = v at *
  unfold f_X5_readTrust_50 pf
  rw [a1, bI_s, bV_s, q4, b1, bI_s, sv_of (by omega) (by omega) (by omega), bV_s]
  have ff : Fk σ (ups σ2 53 (16 + r) (v - 1)) := (f2.tr b3.k).tr Fk.us
  refine ⟨_, rfl, b2.us, ⟨?_, ?_, ?_, ?_, ff.co mr.2.2.2.2⟩, ff⟩
  · rw [hv_ups, hv_fm b3, hv_upj (by omega), hv_fm a3, mv_set (r0 := 4) (i0 := r) (Int.le_refl 0) (by rw [h0]; exact lo.1.1.2) (by rw [h2]; exact lo.1.2.2.1.2) (show 0 ≤ r ∧ r < 4 by omega) (by simp [lcM]) (by omega), mr.1]
    show upP _ 4 r (v - 1 + 1) = _
    rw [show v - 1 + 1 = v by omega]
  · rw [ups_at (by decide), b3 51 4 (by omega), up_at, if_pos ⟨rfl, rfl⟩]
  · rw [ups_at (by decide), b3 51 5 (by omega), up_at, if_neg (by omega), a3 51 5 (by omega)]; exact mr.2.2.1
  · rw [ups_at (by decide), b3 51 6 (by omega), up_at, if_neg (by omega), a3 51 6 (by omega)]; exact mr.2.2.2.1
