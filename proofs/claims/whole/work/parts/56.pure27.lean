/-! ===== pure part 27: send ===== -/
def sendP (P : Pg) (d b h e : Int) : Pg := fun r i => if r = 0 ∧ i = 2 then P 0 2 + 1 else if r = 5 ∧ i = P 0 2 then d else if r = 6 ∧ i = P 0 2 then b else if r = 7 ∧ i = P 0 2 then h else if r = 8 ∧ i = P 0 2 then e else P r i
theorem send_wf {P : Pg} (wf : WF P) {d b h e : Int} (h8 : P 0 2 < 8) (hd : 0 ≤ d ∧ d ≤ 99) (hb : 0 ≤ b ∧ b ≤ 3) (hh : 0 ≤ h ∧ h < 5) (he : 0 ≤ e ∧ e ≤ 3) : WF (sendP P d b h e) := by
  obtain ⟨w0, w1, w2, w3, w4, w5, w6, w7⟩ := wf
  refine ⟨w0, w1, ?_, w3, w4, w5, w6, ?_⟩
  · show 0 ≤ P 0 2 + 1 ∧ P 0 2 + 1 ≤ 8
    omega
  · intro i h0 h1
    have h1' : i < P 0 2 + 1 := h1
    have e5 : sendP P d b h e 5 i = if i = P 0 2 then d else P 5 i := by simp [sendP]
    have e6 : sendP P d b h e 6 i = if i = P 0 2 then b else P 6 i := by simp [sendP]
    have e7 : sendP P d b h e 7 i = if i = P 0 2 then h else P 7 i := by simp [sendP]
    have e8 : sendP P d b h e 8 i = if i = P 0 2 then e else P 8 i := by simp [sendP]
    rw [e5, e6, e7, e8]
    by_cases c : i = P 0 2
    · rw [if_pos c, if_pos c, if_pos c, if_pos c]; omega
    · rw [if_neg c, if_neg c, if_neg c, if_neg c]; exact w7 i h0 (by omega)
theorem cv_send {σ : St} {q : Nat} {d b h e : Int} (h0 : 0 ≤ σ q 6) : cv (up (ups (ups (ups (ups σ (q + 5) (σ q 6) d) (q + 6) (σ q 6) b) (q + 7) (σ q 6) h) (q + 8) (σ q 6) e) q 6 (σ q 6 + 1)) q = sendP (cv σ q) d b h e := by
  generalize hM : σ q 6 = M at *
  generalize hs' : up (ups (ups (ups (ups σ (q + 5) M d) (q + 6) M b) (q + 7) M h) (q + 8) M e) q 6 (M + 1) = σ' at *
  have s : ∀ j, j ≠ 6 → σ' q j = σ q j := fun j hj => by
    rw [← hs', up_at, if_neg (by omega), ups_at (by omega), ups_at (by omega), ups_at (by omega), ups_at (by omega)]
  have s6 : σ' q 6 = M + 1 := by rw [← hs', up_at, if_pos ⟨rfl, rfl⟩]
  have rr : ∀ r, 1 ≤ r → r < 9 → ∀ y, 0 ≤ y → rd σ' (q + r) y = if r = 8 ∧ y = M then e else if r = 7 ∧ y = M then h else if r = 6 ∧ y = M then b else if r = 5 ∧ y = M then d else rd σ (q + r) y := by
    intro r h1 h2 y hy
    rw [← hs', rd_up (by omega), rd_ups h0 hy, rd_ups h0 hy, rd_ups h0 hy, rd_ups h0 hy]
    have e8 : (q + r = q + 8 ∧ y = M) ↔ (r = 8 ∧ y = M) := by omega
    have e7 : (q + r = q + 7 ∧ y = M) ↔ (r = 7 ∧ y = M) := by omega
    have e6 : (q + r = q + 6 ∧ y = M) ↔ (r = 6 ∧ y = M) := by omega
    have e5 : (q + r = q + 5 ∧ y = M) ↔ (r = 5 ∧ y = M) := by omega
    simp only [e8, e7, e6, e5]
  have e02 : cv σ q 0 2 = M := hM
  have low : ∀ r (i B : Int), 1 ≤ r → r ≤ 4 → (if 0 ≤ i ∧ i < B then rd σ' (q + r) i else 0) = (if 0 ≤ i ∧ i < B then rd σ (q + r) i else 0) := by
    intro r i B h1 h2
    by_cases c : 0 ≤ i ∧ i < B
    · rw [if_pos c, if_pos c, rr r h1 (by omega) i c.1, if_neg (by omega), if_neg (by omega), if_neg (by omega), if_neg (by omega)]
    · rw [if_neg c, if_neg c]
  have hi : ∀ r (i v : Int), (∀ y, 0 ≤ y → rd σ' (q + r) y = if y = M then v else rd σ (q + r) y) → (if 0 ≤ i ∧ i < M + 1 then rd σ' (q + r) i else 0) = if i = M then v else (if 0 ≤ i ∧ i < M then rd σ (q + r) i else 0) := by
    intro r i v h1
    by_cases c : i = M
    · rw [if_pos (by omega), h1 i (by omega), if_pos c, if_pos c]
    · rw [if_neg c]
      by_cases c2 : 0 ≤ i ∧ i < M
      · rw [if_pos (by omega), h1 i c2.1, if_neg c, if_pos c2]
      · rw [if_neg (by omega), if_neg c2]
  funext r i
  unfold sendP
  rw [e02]
  match r with
  | 0 =>
    simp only [cv, s6, s 0 (by omega), s 4 (by omega), s 12 (by omega), s 13 (by omega)]
    by_cases c : i = 2
    · subst c; simp
    · simp [c]
  | 1 => simp only [cv, s 0 (by omega)]; rw [low 1 i _ (by omega) (by omega)]; simp
  | 2 => simp only [cv, s 0 (by omega)]; rw [low 2 i _ (by omega) (by omega)]; simp
  | 3 => simp only [cv, s 0 (by omega)]; rw [low 3 i _ (by omega) (by omega)]; simp
  | 4 => simp only [cv]; rw [low 4 i _ (by omega) (by omega)]; simp
  | 5 => simp only [cv, s6, hM]; rw [hi 5 i d (fun y hy => by rw [rr 5 (by omega) (by omega) y hy]; simp)]; simp
  | 6 => simp only [cv, s6, hM]; rw [hi 6 i b (fun y hy => by rw [rr 6 (by omega) (by omega) y hy]; simp)]; simp
  | 7 => simp only [cv, s6, hM]; rw [hi 7 i h (fun y hy => by rw [rr 7 (by omega) (by omega) y hy]; simp)]; simp
  | 8 => simp only [cv, s6, hM]; rw [hi 8 i e (fun y hy => by rw [rr 8 (by omega) (by omega) y hy]; simp)]; simp
  | n + 9 => simp [cv]
theorem mv_send {σ : St} {M d b h e : Int} (hM : rd σ 52 52 = M) (h0 : 0 ≤ M) (h8 : M < 8) (hR : σ 51 1 ≤ 5) : mv (ups (ups (ups (ups (ups σ 52 (20 + M) d) 52 (28 + M) b) 52 (36 + M) h) 52 (44 + M) e) 52 52 (M + 1)) 0 = sendP (mv σ 0) d b h e := by
  generalize hs' : ups (ups (ups (ups (ups σ 52 (20 + M) d) 52 (28 + M) b) 52 (36 + M) h) 52 (44 + M) e) 52 52 (M + 1) = σ' at *
  have s1 : σ' 51 1 = σ 51 1 := by rw [← hs', ups_at (by decide), ups_at (by decide), ups_at (by decide), ups_at (by decide), ups_at (by decide)]
  have rr : ∀ y : Int, 0 ≤ y → rd σ' 52 y = if y = 52 then M + 1 else if y = 44 + M then e else if y = 36 + M then h else if y = 28 + M then b else if y = 20 + M then d else rd σ 52 y := by
    intro y hy
    rw [← hs', rd_ups (by omega) hy, rd_ups (by omega) hy, rd_ups (by omega) hy, rd_ups (by omega) hy, rd_ups (by omega) hy]
    simp
  have s6 : rd σ' 52 (0 + 52) = M + 1 := by rw [rr _ (by omega), if_pos (by omega)]
  have hM' : rd σ 52 (0 + 52) = M := hM
  have low : ∀ (y : Int), 0 ≤ y → y < 20 → rd σ' 52 y = rd σ 52 y := by
    intro y a c
    rw [rr y a, if_neg (by omega), if_neg (by omega), if_neg (by omega), if_neg (by omega), if_neg (by omega)]
  have hi : ∀ (o i v : Int), 0 ≤ o → (∀ y, 0 ≤ y → y < 8 → rd σ' 52 ((0 + o) + y) = if y = M then v else rd σ 52 ((0 + o) + y)) → (if 0 ≤ i ∧ i < M + 1 then rd σ' 52 ((0 + o) + i) else 0) = if i = M then v else (if 0 ≤ i ∧ i < M then rd σ 52 ((0 + o) + i) else 0) := by
    intro o i v ho h1
    by_cases c : i = M
    · rw [if_pos (by omega), h1 i (by omega) (by omega), if_pos c, if_pos c]
    · rw [if_neg c]
      by_cases c2 : 0 ≤ i ∧ i < M
      · rw [if_pos (by omega), h1 i c2.1 (by omega), if_neg c, if_pos c2]
      · rw [if_neg (by omega), if_neg c2]
  have e02 : mv σ 0 0 2 = M := hM
  funext r i
  unfold sendP
  rw [e02]
  match r with
  | 0 =>
    simp only [mv, s6, s1]
    have q3 : rd σ' 52 (0 + 53) = rd σ 52 (0 + 53) := by
      rw [rr _ (by omega), if_neg (by omega), if_neg (by omega), if_neg (by omega), if_neg (by omega), if_neg (by omega)]
    have q4 : rd σ' 52 (0 + 54) = rd σ 52 (0 + 54) := by
      rw [rr _ (by omega), if_neg (by omega), if_neg (by omega), if_neg (by omega), if_neg (by omega), if_neg (by omega)]
    rw [low (0 + 15) (by omega) (by omega), q3, q4]
    by_cases c : i = 2
    · subst c; simp
    · simp [c]
  | 1 =>
    simp only [mv, s1]
    by_cases c : 0 ≤ i ∧ i < σ 51 1
    · rw [if_pos c, if_pos c, low _ (by omega) (by omega)]; simp
    · rw [if_neg c, if_neg c]; simp
  | 2 =>
    simp only [mv, s1]
    by_cases c : 0 ≤ i ∧ i < σ 51 1
    · rw [if_pos c, if_pos c, low _ (by omega) (by omega)]; simp
    · rw [if_neg c, if_neg c]; simp
  | 3 =>
    simp only [mv, s1]
    by_cases c : 0 ≤ i ∧ i < σ 51 1
    · rw [if_pos c, if_pos c, low _ (by omega) (by omega)]; simp
    · rw [if_neg c, if_neg c]; simp
  | 4 =>
    simp only [mv]
    by_cases c : 0 ≤ i ∧ i < 4
    · rw [if_pos c, if_pos c, low _ (by omega) (by omega)]; simp
    · rw [if_neg c, if_neg c]; simp
  | 5 =>
    simp only [mv, s6, hM']
    rw [hi 20 i d (by omega) (fun y h1 h2 => by
      rw [rr _ (by omega), if_neg (by omega), if_neg (by omega), if_neg (by omega), if_neg (by omega)]
      by_cases c : y = M
      · rw [if_pos (by omega), if_pos c]
      · rw [if_neg (by omega), if_neg c])]
    simp
  | 6 =>
    simp only [mv, s6, hM']
    rw [hi 28 i b (by omega) (fun y h1 h2 => by
      rw [rr _ (by omega), if_neg (by omega), if_neg (by omega), if_neg (by omega)]
      by_cases c : y = M
      · rw [if_pos (by omega), if_pos c]
      · rw [if_neg (by omega), if_neg (by omega), if_neg c])]
    simp
  | 7 =>
    simp only [mv, s6, hM']
    rw [hi 36 i h (by omega) (fun y h1 h2 => by
      rw [rr _ (by omega), if_neg (by omega), if_neg (by omega)]
      by_cases c : y = M
      · rw [if_pos (by omega), if_pos c]
      · rw [if_neg (by omega), if_neg (by omega), if_neg (by omega), if_neg c])]
    simp
  | 8 =>
    simp only [mv, s6, hM']
    rw [hi 44 i e (by omega) (fun y h1 h2 => by
      rw [rr _ (by omega), if_neg (by omega)]
      by_cases c : y = M
      · rw [if_pos (by omega), if_pos c]
      · rw [if_neg (by omega), if_neg (by omega), if_neg (by omega), if_neg (by omega), if_neg c])]
    simp
  | n + 9 => simp [mv]
def gS (d b h e : Int) (P : Pg) : Prop := (0 ≤ d ∧ d ≤ 99) ∧ (0 ≤ b ∧ b ≤ 3) ∧ (0 ≤ h ∧ h < P 0 0) ∧ (0 ≤ e ∧ e ≤ 3)
noncomputable def R_send (d b h e : Int) (P : Pg) : Int := @ite _ (gS d b h e P) (Classical.propDecidable _) (if P 0 2 < 8 then P 0 2 + 1 else -3) (-1)
noncomputable def T_send (d b h e : Int) (P : Pg) : Pg := @ite _ (gS d b h e P) (Classical.propDecidable _) (if P 0 2 < 8 then sendP P d b h e else P) P
theorem send_y {d b h e : Int} {P : Pg} (g : gS d b h e P) : R_send d b h e P = (if P 0 2 < 8 then P 0 2 + 1 else -3) ∧ T_send d b h e P = (if P 0 2 < 8 then sendP P d b h e else P) := ⟨by unfold R_send; rw [if_pos g], by unfold T_send; rw [if_pos g]⟩
theorem send_n {d b h e : Int} {P : Pg} (g : ¬ gS d b h e P) : R_send d b h e P = -1 ∧ T_send d b h e P = P := ⟨by unfold R_send; rw [if_neg g], by unfold T_send; rw [if_neg g]⟩
def Qs (σ σ' : St) : Prop := (∀ k j, k ≠ 51 → k ≠ 52 → k ≠ 58 → σ' k j = σ k j) ∧ (∀ j, j ≠ 19 → j ≠ 20 → j ≠ 21 → σ' 51 j = σ 51 j) ∧ ∀ x, 55 ≤ x → rd σ' 52 x = rd σ 52 x
theorem Qs.rf (σ : St) : Qs σ σ := ⟨fun _ _ _ _ _ => rfl, fun _ _ _ _ => rfl, fun _ _ => rfl⟩
theorem Qs.tr {a b c : St} (h1 : Qs a b) (h2 : Qs b c) : Qs a c := ⟨fun k j x y z => (h2.1 k j x y z).trans (h1.1 k j x y z), fun j x y z => (h2.2.1 j x y z).trans (h1.2.1 j x y z), fun x y => (h2.2.2 x y).trans (h1.2.2 x y)⟩
theorem Qs.u {σ : St} {x v : Int} (hx : 0 ≤ x ∧ x < 55) : Qs σ (ups σ 52 x v) := ⟨fun k j _ h _ => ups_at h, fun j _ _ _ => ups_at (by decide), fun y a => by rw [rd_ups hx.1 (by omega), if_neg (by omega)]⟩
theorem Qs.p {σ σ' : St} (h : Qs σ σ') : Qp σ σ' := ⟨h.1, h.2.1, fun x y _ => h.2.2 x y⟩
theorem m_sends {d b h e : Int} (hd : IR d) (hb : IR b) (hh : IR h) (he : IR e) {σ : St} (I : Im σ) : ∃ σ', f_X5_sends d b h e σ = some (R_send d b h e (mv σ 0), σ') ∧ mv σ' 0 = T_send d b h e (mv σ 0) ∧ Qs σ σ' := by
  have w8 : wr 8 = 8 := by decide
  have hR := I.1.1
  have hM := I.1.2.2.1
  have bad : ¬ gS d b h e (mv σ 0) → ∃ σ', (some ((-1 : Int), σ) : Option (Int × St)) = some (R_send d b h e (mv σ 0), σ') ∧ mv σ' 0 = T_send d b h e (mv σ 0) ∧ Qs σ σ' := fun g => by
    rw [(send_n g).1, (send_n g).2]
    exact ⟨σ, rfl, rfl, Qs.rf σ⟩
  unfold f_X5_sends
  rw [m_isDay hd, bI_s]
  by_cases g1 : 0 ≤ d ∧ d ≤ 99
  case neg => rw [if_neg (by simp only [decide_eq_true_eq]; exact g1)]; exact bad (fun z => g1 z.1)
  rw [if_pos (by simp [g1]), m_isReporter hb, bI_s]
  by_cases g2 : 0 ≤ b ∧ b ≤ 3
  case neg => rw [if_neg (by simp only [decide_eq_true_eq]; exact g2)]; exact bad (fun z => g2 z.2.1)
  rw [if_pos (by simp [g2]), m_isRider (p := 0) hh hR, bI_s]
  by_cases g3 : 0 ≤ h ∧ h < mv σ 0 0 0
  case neg => rw [if_neg (by simp only [decide_eq_true_eq]; exact g3)]; exact bad (fun z => g3 z.2.2.1)
  rw [if_pos (by simp [g3]), m_isEnd he, bI_s]
  by_cases g4 : 0 ≤ e ∧ e ≤ 3
  case neg => rw [if_neg (by simp only [decide_eq_true_eq]; exact g4)]; exact bad (fun z => g4 z.2.2.2)
  have ga : gS d b h e (mv σ 0) := ⟨g1, g2, g3, g4⟩
  have e6 : rd σ 52 52 = mv σ 0 0 2 := rfl
  rw [if_pos (by simp [g4]), (send_y ga).1, (send_y ga).2, ld_of (by omega) (by omega) (by omega), bV_s, e6, w8, wr_of (x := mv σ 0 0 2) (by omega) (by omega)]
  by_cases g5 : mv σ 0 0 2 < 8
  case neg => rw [if_pos (by omega), if_neg g5, if_neg g5]; exact ⟨σ, rfl, rfl, Qs.rf σ⟩
  rw [if_neg (by omega), if_pos g5, if_pos g5, sv_of (by omega) (by omega) (by omega), bV_s, sv_of (by omega) (by omega) (by omega), bV_s, sv_of (by omega) (by omega) (by omega), bV_s, sv_of (by omega) (by omega) (by omega), bV_s, ld_of (by omega) (by omega) (by omega), bV_s]
  have em : rd (ups (ups (ups (ups σ 52 (20 + mv σ 0 0 2) d) 52 (28 + mv σ 0 0 2) b) 52 (36 + mv σ 0 0 2) h) 52 (44 + mv σ 0 0 2) e) 52 52 = mv σ 0 0 2 := by
    rw [rd_ups (by omega) (by omega), if_neg (by omega), rd_ups (by omega) (by omega), if_neg (by omega), rd_ups (by omega) (by omega), if_neg (by omega), rd_ups (by omega) (by omega), if_neg (by omega)]
    rfl
  rw [em, sv_of (by omega) (by omega) (by omega), bV_s, ld_of (by omega) (by omega) (by omega), bV_s]
  refine ⟨_, ?_, mv_send (σ := σ) rfl (show 0 ≤ rd σ 52 52 by omega) (show rd σ 52 52 < 8 by omega) hR.2, ?_⟩
  · rw [rd_ups (by omega) (by omega), if_pos ⟨rfl, rfl⟩]
    rfl
  · exact ((Qs.u (by rw [e6]; omega)).tr (Qs.u (by rw [e6]; omega))).tr ((Qs.u (by rw [e6]; omega)).tr ((Qs.u (by rw [e6]; omega)).tr (Qs.u (by omega))))
theorem u_sends {d b h e : Int} (hd : IR d) (hb : IR b) (hh : IR h) (he : IR e) : Upd (f_X4_send d b h e) (f_X5_sends d b h e) (R_send d b h e) (T_send d b h e) := by
  have w8 : wr 8 = 8 := by decide
  refine ⟨fun P wf hdd => ?_, fun σ I => ?_, fun σ I => ?_⟩
  · rcases Classical.em (gS d b h e P) with g | g
    · rw [(send_y g).2]
      split
      · exact ⟨send_wf wf (by omega) g.1 g.2.1 ⟨g.2.2.1.1, by have := wf.1; have := g.2.2.1.2; omega⟩ g.2.2.2, hdd, rfl⟩
      · exact ⟨wf, hdd, rfl⟩
    · rw [(send_n g).2]
      exact ⟨wf, hdd, rfl⟩
  · have hR := I.1.1
    have hM := I.1.2.2.1
    have bad : ¬ gS d b h e (cv σ 1) → ∃ σ', (some ((-1 : Int), σ) : Option (Int × St)) = some (R_send d b h e (cv σ 1), σ') ∧ cv σ' 1 = T_send d b h e (cv σ 1) ∧ σ' 1 11 = 0 ∧ Qk σ σ' := fun g => by
      rw [(send_n g).1, (send_n g).2]
      exact ⟨σ, rfl, rfl, I.2.2, Qk.rf σ⟩
    unfold f_X4_send
    rw [c_isDay hd, bI_s]
    by_cases g1 : 0 ≤ d ∧ d ≤ 99
    case neg => rw [if_neg (by simp only [decide_eq_true_eq]; exact g1)]; exact bad (fun z => g1 z.1)
    rw [if_pos (by simp [g1]), c_isReporter hb, bI_s]
    by_cases g2 : 0 ≤ b ∧ b ≤ 3
    case neg => rw [if_neg (by simp only [decide_eq_true_eq]; exact g2)]; exact bad (fun z => g2 z.2.1)
    rw [if_pos (by simp [g2]), c_isRider hh hR, bI_s]
    by_cases g3 : 0 ≤ h ∧ h < cv σ 1 0 0
    case neg => rw [if_neg (by simp only [decide_eq_true_eq]; exact g3)]; exact bad (fun z => g3 z.2.2.1)
    rw [if_pos (by simp [g3]), c_isEnd he, bI_s]
    by_cases g4 : 0 ≤ e ∧ e ≤ 3
    case neg => rw [if_neg (by simp only [decide_eq_true_eq]; exact g4)]; exact bad (fun z => g4 z.2.2.2)
    have ga : gS d b h e (cv σ 1) := ⟨g1, g2, g3, g4⟩
    rw [if_pos (by simp [g4]), (send_y ga).1, (send_y ga).2]
    unfold f_X2_addReport
    have e6 : σ 1 6 = cv σ 1 0 2 := rfl
    rw [w8, e6, wr_of (x := cv σ 1 0 2) (by omega) (by omega)]
    by_cases g5 : cv σ 1 0 2 < 8
    case neg => rw [if_neg g5, if_neg g5, if_neg g5]; exact ⟨σ, rfl, rfl, I.2.2, Qk.rf σ⟩
    rw [if_pos g5, if_pos g5, if_pos g5, sv_of (by omega) (by omega) (by omega), bV_s, ups_at (by omega), e6, sv_of (by omega) (by omega) (by omega), bV_s, ups_at (by omega), ups_at (by omega), e6, sv_of (by omega) (by omega) (by omega), bV_s, ups_at (by omega), ups_at (by omega), ups_at (by omega), e6, sv_of (by omega) (by omega) (by omega), bV_s, ups_at (by omega), ups_at (by omega), ups_at (by omega), ups_at (by omega), e6]
    unfold pf
    rw [bV_s, bI_s]
    refine ⟨_, ?_, cv_send (σ := σ) (q := 1) (show 0 ≤ σ 1 6 by omega), ?_, ((Qk.u (by omega)).tr (Qk.u (by omega))).tr ((Qk.u (by omega)).tr ((Qk.u (by omega)).tr (Qk.p (by omega))))⟩
    · simp only [if_true]
      rw [up_at, if_pos ⟨rfl, rfl⟩]
      rfl
    · rw [up_at, if_neg (by omega), ups_at (by omega), ups_at (by omega), ups_at (by omega), ups_at (by omega)]
      exact I.2.2
  · obtain ⟨σ', a, b', c⟩ := m_sends hd hb hh he I
    exact ⟨σ', a, b', c.p⟩
theorem u_send {d b h e : Int} (hd : IR d) (hb : IR b) (hh : IR h) (he : IR e) : Upd (f_X4_send d b h e) (f_X5_send d b h e) (R_send d b h e) (T_send d b h e) := by
  have u := u_sends hd hb hh he
  refine ⟨u.1, u.2.1, fun σ I => ?_⟩
  obtain ⟨σ', a, b'⟩ := u.2.2 σ I
  exact ⟨σ', by unfold f_X5_send; rw [a, bI_s], b'⟩
