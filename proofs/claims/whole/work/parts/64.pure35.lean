/-! ===== pure part 35: lines, the class ===== -/
def ridP (P : Pg) (k u w : Int) : Pg := fun r i => if r = 0 ∧ i = 0 then P 0 0 + 1 else if r = 1 ∧ i = P 0 0 then k else if r = 2 ∧ i = P 0 0 then u else if r = 3 ∧ i = P 0 0 then w else P r i
theorem rid_wf {P : Pg} (wf : WF P) {k u w : Int} (h5 : P 0 0 < 5) (hk : 0 ≤ k ∧ k ≤ 3) (hu : 0 ≤ u ∧ u ≤ 15) (hw : 1 ≤ w ∧ w ≤ 99) : WF (ridP P k u w) := by
  obtain ⟨w0, w1, w2, w3, w4, w5, w6, w7⟩ := wf
  refine ⟨?_, w1, w2, w3, w4, ?_, w6, w7⟩
  · show 0 ≤ P 0 0 + 1 ∧ P 0 0 + 1 ≤ 5
    omega
  · intro i h0 h1
    have h1' : i < P 0 0 + 1 := h1
    have e1 : ridP P k u w 1 i = if i = P 0 0 then k else P 1 i := by simp [ridP]
    have e2 : ridP P k u w 2 i = if i = P 0 0 then u else P 2 i := by simp [ridP]
    have e3 : ridP P k u w 3 i = if i = P 0 0 then w else P 3 i := by simp [ridP]
    rw [e1, e2, e3]
    by_cases c : i = P 0 0
    · rw [if_pos c, if_pos c, if_pos c]; omega
    · rw [if_neg c, if_neg c, if_neg c]; exact w5 i h0 (by omega)
theorem cv_rid {σ : St} {q : Nat} {k u w : Int} (h0 : 0 ≤ σ q 0) : cv (up (ups (ups (ups σ (q + 1) (σ q 0) k) (q + 2) (σ q 0) u) (q + 3) (σ q 0) w) q 0 (σ q 0 + 1)) q = ridP (cv σ q) k u w := by
  generalize hM : σ q 0 = M at *
  generalize hs' : up (ups (ups (ups σ (q + 1) M k) (q + 2) M u) (q + 3) M w) q 0 (M + 1) = σ' at *
  have s : ∀ j, j ≠ 0 → σ' q j = σ q j := fun j hj => by
    rw [← hs', up_at, if_neg (by omega), ups_at (by omega), ups_at (by omega), ups_at (by omega)]
  have s0 : σ' q 0 = M + 1 := by rw [← hs', up_at, if_pos ⟨rfl, rfl⟩]
  have rr : ∀ r, 1 ≤ r → r < 9 → ∀ y, 0 ≤ y → rd σ' (q + r) y = if r = 3 ∧ y = M then w else if r = 2 ∧ y = M then u else if r = 1 ∧ y = M then k else rd σ (q + r) y := by
    intro r h1 h2 y hy
    rw [← hs', rd_up (by omega), rd_ups h0 hy, rd_ups h0 hy, rd_ups h0 hy]
    have e3 : (q + r = q + 3 ∧ y = M) ↔ (r = 3 ∧ y = M) := by omega
    have e2 : (q + r = q + 2 ∧ y = M) ↔ (r = 2 ∧ y = M) := by omega
    have e1 : (q + r = q + 1 ∧ y = M) ↔ (r = 1 ∧ y = M) := by omega
    simp only [e3, e2, e1]
  have e00 : cv σ q 0 0 = M := hM
  have low : ∀ r (i B : Int), 4 ≤ r → r < 9 → (if 0 ≤ i ∧ i < B then rd σ' (q + r) i else 0) = (if 0 ≤ i ∧ i < B then rd σ (q + r) i else 0) := by
    intro r i B h1 h2
    by_cases c : 0 ≤ i ∧ i < B
    · rw [if_pos c, if_pos c, rr r (by omega) h2 i c.1, if_neg (by omega), if_neg (by omega), if_neg (by omega)]
    · rw [if_neg c, if_neg c]
  have hi : ∀ r (i v : Int), (∀ y, 0 ≤ y → rd σ' (q + r) y = if y = M then v else rd σ (q + r) y) → (if 0 ≤ i ∧ i < M + 1 then rd σ' (q + r) i else 0) = if i = M then v else (if 0 ≤ i ∧ i < M then rd σ (q + r) i else 0) := by
    intro r i v h1
    by_cases c : i = M
    · rw [if_pos (by omega), h1 i (by omega), if_pos c, if_pos c]
    · rw [if_neg c]
      by_cases c2 : 0 ≤ i ∧ i < M
      · rw [if_pos (by omega), h1 i c2.1, if_neg c, if_pos c2]
      · rw [if_neg (by omega), if_neg c2]
  funext r i
  unfold ridP
  rw [e00]
  match r with
  | 0 =>
    simp only [cv, s0, s 6 (by omega), s 4 (by omega), s 12 (by omega), s 13 (by omega)]
    by_cases c : i = 0
    · subst c; simp
    · simp [c]
  | 1 => simp only [cv, s0, hM]; rw [hi 1 i k (fun y hy => by rw [rr 1 (by omega) (by omega) y hy]; simp)]; simp
  | 2 => simp only [cv, s0, hM]; rw [hi 2 i u (fun y hy => by rw [rr 2 (by omega) (by omega) y hy]; simp)]; simp
  | 3 => simp only [cv, s0, hM]; rw [hi 3 i w (fun y hy => by rw [rr 3 (by omega) (by omega) y hy]; simp)]; simp
  | 4 => simp only [cv]; rw [low 4 i _ (by omega) (by omega)]; simp
  | 5 => simp only [cv, s 6 (by omega)]; rw [low 5 i _ (by omega) (by omega)]; simp
  | 6 => simp only [cv, s 6 (by omega)]; rw [low 6 i _ (by omega) (by omega)]; simp
  | 7 => simp only [cv, s 6 (by omega)]; rw [low 7 i _ (by omega) (by omega)]; simp
  | 8 => simp only [cv, s 6 (by omega)]; rw [low 8 i _ (by omega) (by omega)]; simp
  | n + 9 => simp [cv]
/-! what a line tells -/
abbrev Ls : Type := Pg × Int × Int
section LN
variable (L : Int) (T : Int → Int)
def x0R (D : Pg) (p : Int) : Rs := if D 0 0 < 5 then .inr (tT L T p) else .inl (5, tF L T p)
def x0S (D : Pg) (p : Int) : Rs := if D 0 2 < 8 then .inr (tT L T p) else .inl (5, tF L T p)
def x0B (bt p : Int) : Rs := if bt = 0 then .inr (tT L T p) else .inl (4, tF L T p)
def toldR (tt r : Int) : Prop := wr (iad (isr tt r) 1) = wr 1
def andT (tt r pl : Int) (x : Rs) : Rs := match x with
  | .inl e => .inl e
  | .inr q => if wr (iad (isr tt r) 1) = wr 1 then .inl (4, pl) else .inr q
def trR (p : Int) : Int := nmV L T 0 3 (.inr (tT L T p))
def x2T (tt p : Int) : Rs := andT tt (trR L T p) (tF L T (tT L T p)) (nmX L T 0 3 (.inr (tT L T p)))
def rsR (x : Rs) : Rs := smX L T (nmX L T 1 99 (nmX L T 0 15 x))
def pgR (D : Pg) (k : Int) (x : Rs) : Pg := ridP D k (nmV L T 0 15 x) (nmV L T 1 99 (nmX L T 0 15 x))
def rsS (x : Rs) : Rs := smX L T (nmX L T 0 3 (nmX L T 0 4 (nmX L T 0 3 (nmX L T 0 99 x))))
def pgS (D : Pg) (x : Rs) : Pg := sendP D (nmV L T 0 99 x) (nmV L T 0 3 (nmX L T 0 99 x)) (nmV L T 0 4 (nmX L T 0 3 (nmX L T 0 99 x))) (nmV L T 0 3 (nmX L T 0 4 (nmX L T 0 3 (nmX L T 0 99 x))))
def rsB (x : Rs) : Rs := smX L T (nmX L T 1 99 x)
def pgB (D : Pg) (x : Rs) : Pg := upP D 0 1 (nmV L T 1 99 x)
def rsT (x : Rs) : Rs := smX L T (nmX L T 0 9 x)
def pgT (D : Pg) (r : Int) (x : Rs) : Pg := upP D 4 r (nmV L T 0 9 x)
def lnR (s : Ls) (p : Int) : Rs := if kn L T p ≤ 3 then rsR L T (x0R L T s.1 p) else if kn L T p = 4 then rsB L T (x0B L T s.2.2 p) else if kn L T p = 5 then rsT L T (x2T L T s.2.1 p) else if kn L T p = 6 then rsS L T (x0S L T s.1 p) else .inl (2, tF L T p)
def lnS (s : Ls) (p : Int) : Ls := if kn L T p ≤ 3 then (pgR L T s.1 (kn L T p) (x0R L T s.1 p), s.2) else if kn L T p = 4 then (pgB L T s.1 (x0B L T s.2.2 p), s.2.1, 1) else if kn L T p = 5 then (pgT L T s.1 (trR L T p) (x2T L T s.2.1 p), iod s.2.1 (isl 1 (trR L T p)), s.2.2) else if kn L T p = 6 then (pgS L T s.1 (x0S L T s.1 p), s.2) else s
end LN
/-- of a place, from a to L -/
def RG (L a : Int) (x : Rs) : Prop := match x with
  | .inl _ => True
  | .inr p => a ≤ p ∧ p ≤ L
theorem RG.ok {L a : Int} {x : Rs} (h : RG L a x) (ha : 0 ≤ a) : RsOK L x := by
  match x, h with
  | .inl _, _ => exact trivial
  | .inr p, h => exact ⟨Int.le_trans ha h.1, h.2⟩
theorem RG.nm {L a : Int} {T : Int → Int} {lo hi : Int} {x : Rs} (h : RG L a x) : RG L a (nmX L T lo hi x) := by
  match x, h with
  | .inl e, _ => exact trivial
  | .inr p, h =>
    have h' : a ≤ p ∧ p ≤ L := h
    have a := tF_bd (T := T) h'.2
    have b := tT_bd (T := T) h'.2
    show RG L _ (nmR L T lo hi p)
    unfold nmR
    split
    · exact trivial
    · split
      · split
        · exact ⟨by omega, by omega⟩
        · exact trivial
      · exact trivial
theorem RG.sm {L a : Int} {T : Int → Int} {x : Rs} (h : RG L a x) : RG L a (smX L T x) := by
  match x, h with
  | .inl e, _ => exact trivial
  | .inr p, h =>
    have h' : a ≤ p ∧ p ≤ L := h
    have a := tF_bd (T := T) h'.2
    have b := tT_bd (T := T) h'.2
    show RG L _ (smR L T p)
    unfold smR
    split
    · exact trivial
    · split
      · exact ⟨by omega, by omega⟩
      · exact trivial
theorem RG.t {L a tt r pl : Int} {x : Rs} (h : RG L a x) : RG L a (andT tt r pl x) := by
  match x, h with
  | .inl e, _ => exact trivial
  | .inr p, h =>
    show RG L a (if _ then _ else _)
    split
    · exact trivial
    · exact h
theorem nm_inr {L : Int} {T : Int → Int} {lo hi q : Int} {x : Rs} (h : nmX L T lo hi x = .inr q) : ∃ q', x = .inr q' := by
  match x, h with
  | .inl e, h => cases h
  | .inr p, _ => exact ⟨p, rfl⟩
theorem sm_inr {L : Int} {T : Int → Int} {q : Int} {x : Rs} (h : smX L T x = .inr q) : ∃ q', x = .inr q' := by
  match x, h with
  | .inl e, h => cases h
  | .inr p, _ => exact ⟨p, rfl⟩
theorem tK_1 {L p : Int} {T : Int → Int} (hp : p ≤ L) (h : tK L T p ≠ 0) : tF L T p < L ∧ tF L T p < tT L T p := by
  have b := tT_bd (T := T) hp
  have c : ¬ L ≤ tF L T p := fun c => h (by unfold tK; rw [if_pos c])
  omega
theorem lnR_ge {L p : Int} {T : Int → Int} (s : Ls) (hp : p ≤ L) (h : tK L T p ≠ 0) : RG L (p + 1) (lnR L T s p) := by
  have a := tF_bd (T := T) hp
  have b := tT_bd (T := T) hp
  have c := tK_1 hp h
  have g : RG L (p + 1) (.inr (tT L T p)) := ⟨by omega, by omega⟩
  unfold lnR
  split
  · refine RG.sm (RG.nm (RG.nm ?_))
    unfold x0R
    split
    · exact g
    · exact trivial
  · split
    · refine RG.sm (RG.nm ?_)
      unfold x0B
      split
      · exact g
      · exact trivial
    · split
      · exact RG.sm (RG.nm (RG.t (RG.nm g)))
      · split
        · refine RG.sm (RG.nm (RG.nm (RG.nm (RG.nm ?_))))
          unfold x0S
          split
          · exact g
          · exact trivial
        · exact trivial
def LsOK (s : Ls) : Prop := WF s.1 ∧ s.1 0 3 = 0 ∧ (s.2.2 = 0 ∨ s.2.2 = 1)
theorem wf_upT {P : Pg} (wf : WF P) {r v : Int} (hv : 0 ≤ v ∧ v ≤ 9) : WF (upP P 4 r v) := by
  obtain ⟨w0, w1, w2, w3, w4, w5, w6, w7⟩ := wf
  refine ⟨w0, w1, w2, w3, w4, w5, ?_, w7⟩
  intro i h0 h1
  show 0 ≤ (if (4 : Nat) = 4 ∧ i = r then v else P 4 i) ∧ (if (4 : Nat) = 4 ∧ i = r then v else P 4 i) ≤ 9
  split
  · exact hv
  · exact w6 i h0 h1
theorem lnS_ok {L p q : Int} {T : Int → Int} {s : Ls} (ok : LsOK s) (h : lnR L T s p = .inr q) : LsOK (lnS L T s p) := by
  obtain ⟨wf, d0, b⟩ := ok
  unfold lnR at h
  unfold lnS
  by_cases c1 : kn L T p ≤ 3
  · rw [if_pos c1] at h ⊢
    obtain ⟨q1, h1⟩ := sm_inr h
    obtain ⟨q2, h2⟩ := nm_inr h1
    obtain ⟨q3, h3⟩ := nm_inr h2
    have h5 : s.1 0 0 < 5 := by
      by_cases c : s.1 0 0 < 5
      · exact c
      · unfold x0R at h3; rw [if_neg c] at h3; cases h3
    exact ⟨rid_wf wf h5 (by omega) (nmV_bd (by omega) _) (nmV_bd (by omega) _), d0, b⟩
  · rw [if_neg c1] at h ⊢
    by_cases c2 : kn L T p = 4
    · rw [if_pos c2] at h ⊢
      exact ⟨wf_upb wf (nmV_bd (by omega) _), d0, Or.inr rfl⟩
    · rw [if_neg c2] at h ⊢
      by_cases c3 : kn L T p = 5
      · rw [if_pos c3] at h ⊢
        exact ⟨wf_upT wf (nmV_bd (by omega) _), d0, b⟩
      · rw [if_neg c3] at h ⊢
        by_cases c4 : kn L T p = 6
        · rw [if_pos c4] at h ⊢
          obtain ⟨q1, h1⟩ := sm_inr h
          obtain ⟨q2, h2⟩ := nm_inr h1
          obtain ⟨q3, h3⟩ := nm_inr h2
          obtain ⟨q4, h4⟩ := nm_inr h3
          obtain ⟨q5, h6⟩ := nm_inr h4
          have h5 : s.1 0 2 < 8 := by
            by_cases c : s.1 0 2 < 8
            · exact c
            · unfold x0S at h6; rw [if_neg c] at h6; cases h6
          have hb := nmV_bd (L := L) (T := T) (lo := 0) (hi := 4) (by omega) (nmX L T 0 3 (nmX L T 0 99 (x0S L T s.1 p)))
          exact ⟨send_wf wf h5 (nmV_bd (by omega) _) (nmV_bd (by omega) _) (by omega) (nmV_bd (by omega) _), d0, b⟩
        · rw [if_neg c4] at h; cases h
/-! the class's lines -/
def CR (σ : St) (s : Ls) : Prop := cv σ 11 = s.1 ∧ σ 11 11 = 0 ∧ σ 41 9 = s.2.1 ∧ σ 41 8 = s.2.2
theorem CR.ft {σ σ' : St} {s : Ls} (f : Ft σ σ') (h : CR σ s) : CR σ' s := ⟨(cv_ext (fun r j hr _ => f (11 + r) j (by omega))).trans h.1, (f 11 11 (by omega)).trans h.2.1, (f 41 9 (by omega)).trans h.2.2.1, (f 41 8 (by omega)).trans h.2.2.2⟩
def Fq (σ σ' : St) : Prop := ∀ k j, ¬ (11 ≤ k ∧ k ≤ 20) → ¬ (k = 41 ∧ (j = 2 ∨ j = 3 ∨ (5 ≤ j ∧ j ≤ 9))) → σ' k j = σ k j
theorem Fq.rf (σ : St) : Fq σ σ := fun _ _ _ _ => rfl
theorem Fq.tr {a b c : St} (h1 : Fq a b) (h2 : Fq b c) : Fq a c := fun k j x y => (h2 k j x y).trans (h1 k j x y)
theorem Ft.q {a b : St} (h : Ft a b) : Fq a b := fun k j _ y => h k j (by omega)
theorem Fq.u {σ : St} {k j : Nat} {v : Int} (h : 11 ≤ k ∧ k ≤ 20) : Fq σ (up σ k j v) := fun a b x y => by rw [up_at, if_neg (by omega)]
theorem Fq.us {σ : St} {k : Nat} {i v : Int} (h : 11 ≤ k ∧ k ≤ 20) : Fq σ (ups σ k i v) := Fq.u h
theorem Fq.u41 {σ : St} {j : Nat} {v : Int} (h : j = 8 ∨ j = 9) : Fq σ (up σ 41 j v) := fun a b x y => by rw [up_at, if_neg (by omega)]
theorem Fq.tp {σ σ' : St} {T : Int × (Int → Int)} (h : Fq σ σ') (t : cTp σ T) : cTp σ' T := t.ext (h 41 1 (by omega) (by omega)) (fun j => h 42 j (by omega) (by omega))
theorem CTk.e {σ σ' : St} {x : Rs} (f : ∀ j, j = 2 ∨ j = 3 ∨ j = 7 → σ' 41 j = σ 41 j) (h : CTk σ x) : CTk σ' x := by
  match x, h with
  | .inl e, h => exact CTk.ft h (fun j hj => f j (by omega))
  | .inr p, h => exact ⟨(f 2 (by omega)).trans h.1, (f 7 (by omega)).trans h.2⟩
theorem CTk.z {σ : St} {q : Int} (h : CTk σ (.inr q)) : wr (σ 41 2) = 0 := by
  have : σ 41 2 = 0 := h.1
  rw [this]; decide
theorem ctk_if {σ : St} {x : Rs} (h : CTk σ x) {α : Type} (a b : α) : (∃ q, x = .inr q ∧ (if wr (σ 41 2) = 0 then a else b) = a) ∨ (∃ e, x = .inl e ∧ (if wr (σ 41 2) = 0 then a else b) = b) := by
  match x, h with
  | .inl e, h => exact Or.inr ⟨e, rfl, by rw [if_neg (CTk.nz h)]⟩
  | .inr q, h => exact Or.inl ⟨q, rfl, by rw [if_pos (CTk.z h)]⟩
theorem c_rider17 {L : Int} {T : Int → Int} (ok : okT (L, T)) {σ : St} {s : Ls} (h : cTp σ (L, T)) (cr : CR σ s) (lo : LsOK s) {x : Rs} {k : Int} (hx : RsOK L x) (hs : CTk σ x) (h5 : ∀ q, x = .inr q → s.1 0 0 < 5) : ∃ σ', f_X3_takeRider_17 11 k σ = some σ' ∧ CTk σ' (rsR L T x) ∧ (∀ q, rsR L T x = .inr q → CR σ' (pgR L T s.1 k x, s.2)) ∧ Fq σ σ' := by
  have hR := lo.1.1
  obtain ⟨σ1, a1, a2, a3, -⟩ := c_num ok (lo := 0) (hi := 15) (by omega) (by omega) h hx hs
  obtain ⟨σ2, b1, b2, b3, -⟩ := c_num ok (lo := 1) (hi := 99) (by omega) (by omega) (a3.tp h) (nmX_ok hx) a2
  obtain ⟨σ3, c1, c2, c3⟩ := c_semi ok (b3.tp (a3.tp h)) (nmX_ok (nmX_ok hx)) b2
  have f3 : Ft σ σ3 := (a3.tr b3).tr c3
  have cr3 : CR σ3 s := cr.ft f3
  unfold f_X3_takeRider_17
  rw [a1, bI_s, b1, bI_s, c1, bV_s]
  rcases ctk_if c2 (bV (f_X2_addRider 11 k (nmV L T 0 15 x) (nmV L T 1 99 (nmX L T 0 15 x)) σ3) fun s50 => some s50) (some σ3) with ⟨q, e, f⟩ | ⟨e', e, f⟩
  · rw [f]
    obtain ⟨q1, h1⟩ := sm_inr e
    obtain ⟨q2, h2⟩ := nm_inr h1
    obtain ⟨q3, h3⟩ := nm_inr h2
    have r5 := h5 q3 h3
    have e0 : σ3 11 0 = s.1 0 0 := by rw [← cr3.1]; rfl
    have w5 : wr 5 = 5 := by decide
    unfold f_X2_addRider
    rw [e0, w5, wr_of (x := s.1 0 0) (by omega) (by omega), if_pos r5, sv_of (by omega) (by omega) (by omega), bV_s, ups_at (by decide), e0, sv_of (by omega) (by omega) (by omega), bV_s, ups_at (by decide), ups_at (by decide), e0, sv_of (by omega) (by omega) (by omega), bV_s, ups_at (by decide), ups_at (by decide), ups_at (by decide), e0]
    unfold pf
    rw [bV_s, bV_s]
    have z := cv_rid (σ := σ3) (q := 11) (k := k) (u := nmV L T 0 15 x) (w := nmV L T 1 99 (nmX L T 0 15 x)) (by omega)
    rw [e0, cr3.1] at z
    refine ⟨_, rfl, ?_, fun q hq => ⟨z, ?_, ?_, ?_⟩, f3.q.tr ((((Fq.us (by omega)).tr (Fq.us (by omega))).tr (Fq.us (by omega))).tr (Fq.u (by omega)))⟩
    · exact CTk.e (fun j hj => by rw [up_at, if_neg (by omega), ups_at (by decide), ups_at (by decide), ups_at (by decide)]) c2
    · rw [up_at, if_neg (by omega), ups_at (by decide), ups_at (by decide), ups_at (by decide)]; exact cr3.2.1
    · rw [up_at, if_neg (by omega), ups_at (by decide), ups_at (by decide), ups_at (by decide)]; exact cr3.2.2.1
    · rw [up_at, if_neg (by omega), ups_at (by decide), ups_at (by decide), ups_at (by decide)]; exact cr3.2.2.2
  · rw [f]
    exact ⟨σ3, rfl, c2, fun q hq => (by rw [show rsR L T x = .inl e' from e] at hq; cases hq), f3.q⟩
theorem c_report18 {L : Int} {T : Int → Int} (ok : okT (L, T)) {σ : St} {s : Ls} (h : cTp σ (L, T)) (cr : CR σ s) (lo : LsOK s) {x : Rs} (hx : RsOK L x) (hs : CTk σ x) (h5 : ∀ q, x = .inr q → s.1 0 2 < 8) : ∃ σ', f_X3_takeReport_18 11 σ = some σ' ∧ CTk σ' (rsS L T x) ∧ (∀ q, rsS L T x = .inr q → CR σ' (pgS L T s.1 x, s.2)) ∧ Fq σ σ' := by
  have hR := lo.1.2.2.1
  obtain ⟨σ1, a1, a2, a3, -⟩ := c_num ok (lo := 0) (hi := 99) (by omega) (by omega) h hx hs
  obtain ⟨σ2, b1, b2, b3, -⟩ := c_num ok (lo := 0) (hi := 3) (by omega) (by omega) (a3.tp h) (nmX_ok hx) a2
  obtain ⟨σ4, d1, d2, d3, -⟩ := c_num ok (lo := 0) (hi := 4) (by omega) (by omega) (b3.tp (a3.tp h)) (nmX_ok (nmX_ok hx)) b2
  obtain ⟨σ5, g1, g2, g3, -⟩ := c_num ok (lo := 0) (hi := 3) (by omega) (by omega) (d3.tp (b3.tp (a3.tp h))) (nmX_ok (nmX_ok (nmX_ok hx))) d2
  obtain ⟨σ3, c1, c2, c3⟩ := c_semi ok (g3.tp (d3.tp (b3.tp (a3.tp h)))) (nmX_ok (nmX_ok (nmX_ok (nmX_ok hx)))) g2
  have f3 : Ft σ σ3 := (((a3.tr b3).tr d3).tr g3).tr c3
  have cr3 : CR σ3 s := cr.ft f3
  unfold f_X3_takeReport_18
  rw [a1, bI_s, b1, bI_s, d1, bI_s, g1, bI_s, c1, bV_s]
  rcases ctk_if c2 (bI (f_X2_addReport 11 (nmV L T 0 99 x) (nmV L T 0 3 (nmX L T 0 99 x)) (nmV L T 0 4 (nmX L T 0 3 (nmX L T 0 99 x))) (nmV L T 0 3 (nmX L T 0 4 (nmX L T 0 3 (nmX L T 0 99 x)))) σ3) fun v67 s67 => some s67) (some σ3) with ⟨q, e, f⟩ | ⟨e', e, f⟩
  · rw [f]
    obtain ⟨q1, h1⟩ := sm_inr e
    obtain ⟨q2, h2⟩ := nm_inr h1
    obtain ⟨q3, h3⟩ := nm_inr h2
    obtain ⟨q4, h4⟩ := nm_inr h3
    obtain ⟨q5, h6⟩ := nm_inr h4
    have r5 := h5 q5 h6
    have e0 : σ3 11 6 = s.1 0 2 := by rw [← cr3.1]; rfl
    have w5 : wr 8 = 8 := by decide
    unfold f_X2_addReport
    rw [e0, w5, wr_of (x := s.1 0 2) (by omega) (by omega), if_pos r5, sv_of (by omega) (by omega) (by omega), bV_s, ups_at (by decide), e0, sv_of (by omega) (by omega) (by omega), bV_s, ups_at (by decide), ups_at (by decide), e0, sv_of (by omega) (by omega) (by omega), bV_s, ups_at (by decide), ups_at (by decide), ups_at (by decide), e0, sv_of (by omega) (by omega) (by omega), bV_s, ups_at (by decide), ups_at (by decide), ups_at (by decide), ups_at (by decide), e0]
    unfold pf
    rw [bV_s, bI_s]
    have z := cv_send (σ := σ3) (q := 11) (d := nmV L T 0 99 x) (b := nmV L T 0 3 (nmX L T 0 99 x)) (h := nmV L T 0 4 (nmX L T 0 3 (nmX L T 0 99 x))) (e := nmV L T 0 3 (nmX L T 0 4 (nmX L T 0 3 (nmX L T 0 99 x)))) (by omega)
    rw [e0, cr3.1] at z
    refine ⟨_, rfl, ?_, fun q hq => ⟨z, ?_, ?_, ?_⟩, f3.q.tr (((((Fq.us (by omega)).tr (Fq.us (by omega))).tr (Fq.us (by omega))).tr (Fq.us (by omega))).tr (Fq.u (by omega)))⟩
    · exact CTk.e (fun j hj => by rw [up_at, if_neg (by omega), ups_at (by decide), ups_at (by decide), ups_at (by decide), ups_at (by decide)]) c2
    · rw [up_at, if_neg (by omega), ups_at (by decide), ups_at (by decide), ups_at (by decide), ups_at (by decide)]; exact cr3.2.1
    · rw [up_at, if_neg (by omega), ups_at (by decide), ups_at (by decide), ups_at (by decide), ups_at (by decide)]; exact cr3.2.2.1
    · rw [up_at, if_neg (by omega), ups_at (by decide), ups_at (by decide), ups_at (by decide), ups_at (by decide)]; exact cr3.2.2.2
  · rw [f]
    exact ⟨σ3, rfl, c2, fun q hq => (by rw [show rsS L T x = .inl e' from e] at hq; cases hq), f3.q⟩
theorem c_bears16 {L : Int} {T : Int → Int} (ok : okT (L, T)) {σ : St} {s : Ls} (h : cTp σ (L, T)) (cr : CR σ s) {x : Rs} (hx : RsOK L x) (hs : CTk σ x) : ∃ σ', f_X3_takeBearing_16 11 σ = some σ' ∧ CTk σ' (rsB L T x) ∧ CR σ' (pgB L T s.1 x, s.2.1, 1) ∧ Fq σ σ' := by
  obtain ⟨σ1, a1, a2, a3, -⟩ := c_num ok (lo := 1) (hi := 99) (by omega) (by omega) h hx hs
  have cr1 := cr.ft a3
  generalize hv : nmV L T 1 99 x = v at *
  have t2 : CTk (up σ1 11 4 v) (nmX L T 1 99 x) := CTk.e (fun j _ => by rw [up_at, if_neg (by omega)]) a2
  have f2 : Fq σ (up σ1 11 4 v) := a3.q.tr (Fq.u (by omega))
  have z := cv_upS (q := 11) (σ := σ1) (j := 4) (i := 1) (v := v) (Or.inl ⟨rfl, rfl⟩)
  rw [cr1.1] at z
  have cr2 : CR (up σ1 11 4 v) (upP s.1 0 1 v, s.2) := ⟨z, by rw [up_at, if_neg (by omega)]; exact cr1.2.1, by rw [up_at, if_neg (by omega)]; exact cr1.2.2.1, by rw [up_at, if_neg (by omega)]; exact cr1.2.2.2⟩
  obtain ⟨σ3, c1, c2, c3⟩ := c_semi ok (f2.tp h) (nmX_ok hx) t2
  have cr3 := cr2.ft c3
  unfold f_X3_takeBearing_16
  rw [a1, bI_s]
  unfold pf pz
  rw [bV_s, c1, bV_s, if_pos (by decide), bV_s]
  refine ⟨_, rfl, CTk.e (fun j _ => by rw [up_at, if_neg (by omega)]) c2, ⟨?_, ?_, ?_, ?_⟩, (f2.tr c3.q).tr (Fq.u41 (by omega))⟩
  · show _ = upP s.1 0 1 (nmV L T 1 99 x)
    rw [hv]
    exact (cv_ext (fun r j hr _ => by rw [up_at, if_neg (by omega)])).trans cr3.1
  · rw [up_at, if_neg (by omega)]; exact cr3.2.1
  · rw [up_at, if_neg (by omega)]; exact cr3.2.2.1
  · rw [up_at, if_pos ⟨rfl, rfl⟩]
theorem c_trust28 {L : Int} {T : Int → Int} (ok : okT (L, T)) {σ : St} {s : Ls} (h : cTp σ (L, T)) (cr : CR σ s) {x : Rs} {r : Int} (hr : 0 ≤ r ∧ r ≤ 3) (hx : RsOK L x) (hs : CTk σ x) : ∃ σ', f_X3_takeTrust_28 11 r σ = some σ' ∧ CTk σ' (rsT L T x) ∧ CR σ' (pgT L T s.1 r x, iod s.2.1 (isl 1 r), s.2.2) ∧ Fq σ σ' := by
  obtain ⟨σ1, a1, a2, a3, -⟩ := c_num ok (lo := 0) (hi := 9) (by omega) (by omega) h hx hs
  have cr1 := cr.ft a3
  generalize hv : nmV L T 0 9 x = v at *
  have t2 : CTk (ups σ1 15 r v) (nmX L T 0 9 x) := CTk.e (fun j _ => ups_at (by decide)) a2
  have f2 : Fq σ (ups σ1 15 r v) := a3.q.tr (Fq.us (by omega))
  have z := cv_setR (σ := σ1) (q := 11) (r0 := 4) (i0 := r) (v := v) (by omega) hr.1 (show 0 ≤ r ∧ r < 4 by omega)
  rw [cr1.1] at z
  have cr2 : CR (ups σ1 15 r v) (upP s.1 4 r v, s.2) := ⟨z, by rw [ups_at (by decide)]; exact cr1.2.1, by rw [ups_at (by decide)]; exact cr1.2.2.1, by rw [ups_at (by decide)]; exact cr1.2.2.2⟩
  obtain ⟨σ3, c1, c2, c3⟩ := c_semi ok (f2.tp h) (nmX_ok hx) t2
  have cr3 := cr2.ft c3
  unfold f_X3_takeTrust_28
  rw [a1, bI_s, sv_of hr.1 (by omega) (by omega), bV_s, c1, bV_s]
  unfold pf
  rw [bV_s, show σ3 41 9 = s.2.1 from cr3.2.2.1]
  refine ⟨_, rfl, CTk.e (fun j _ => by rw [up_at, if_neg (by omega)]) c2, ⟨?_, ?_, ?_, ?_⟩, (f2.tr c3.q).tr (Fq.u41 (by omega))⟩
  · show _ = upP s.1 4 r (nmV L T 0 9 x)
    rw [hv]
    exact (cv_ext (fun r j hr _ => by rw [up_at, if_neg (by omega)])).trans cr3.1
  · rw [up_at, if_neg (by omega)]; exact cr3.2.1
  · rw [up_at, if_pos ⟨rfl, rfl⟩]
  · rw [up_at, if_neg (by omega)]; exact cr3.2.2.2
