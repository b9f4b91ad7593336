/-! ===== pure part 31: read ===== -/
def okF (H : Hs) (k lane x : Int) : Bool := decide (H.1 k ≠ -4 ∧ H.1 k = lane ∧ 0 ≤ x ∧ x ≤ H.2.1 k - 4)
def codeF (H : Hs) (k lane : Int) : Int := if H.1 k = -4 then 1 else if H.1 k = lane then 2 else 3
noncomputable def rdL (H : Hs) (k lane f : Int) (P0 : Pg) : Nat → Nat → Pg → Int × Pg × Option Int
  | 0, i, P => ((i : Int), P, some 0)
  | j + 1, i, P => if okF H k lane (f + 4 * (i : Int)) then (if R_send (H.2.2 (40 * k + (f + 4 * (i : Int)))) (H.2.2 (40 * k + (f + 4 * (i : Int)) + 1)) (H.2.2 (40 * k + (f + 4 * (i : Int)) + 2)) (H.2.2 (40 * k + (f + 4 * (i : Int)) + 3)) P < 0 then (-20 - (i : Int), P0, none) else rdL H k lane f P0 j (i + 1) (T_send (H.2.2 (40 * k + (f + 4 * (i : Int)))) (H.2.2 (40 * k + (f + 4 * (i : Int)) + 1)) (H.2.2 (40 * k + (f + 4 * (i : Int)) + 2)) (H.2.2 (40 * k + (f + 4 * (i : Int)) + 3)) P)) else ((i : Int), P, some (codeF H k lane))
/-- what stays, while reports come -/
def rdI (P0 P : Pg) : Prop := WF P ∧ P 0 3 ≤ 999 ∧ P 0 0 = P0 0 0 ∧ P0 0 2 ≤ P 0 2 ∧ burnP P (P0 0 2) = P0
theorem burn_send {P : Pg} {n d b h e : Int} (hn : n ≤ P 0 2) : burnP (sendP P d b h e) n = burnP P n := by
  funext r i
  unfold burnP
  by_cases c : r = 0 ∧ i = 2
  · rw [if_pos c, if_pos c]
  · rw [if_neg c, if_neg c]
    by_cases c2 : (5 ≤ r ∧ r ≤ 8) ∧ n ≤ i
    · rw [if_pos c2, if_pos c2]
    · rw [if_neg c2, if_neg c2]
      unfold sendP
      rw [if_neg c, if_neg (by omega), if_neg (by omega), if_neg (by omega), if_neg (by omega)]
theorem rdI.s {P0 P : Pg} (h : rdI P0 P) {d b x e : Int} : rdI P0 (T_send d b x e P) := by
  obtain ⟨a, b', c, d', f⟩ := h
  rcases Classical.em (gS d b x e P) with g | g
  · rw [(send_y g).2]
    split
    · refine ⟨send_wf a (by omega) g.1 g.2.1 ⟨g.2.2.1.1, by have := a.1; have := g.2.2.1.2; omega⟩ g.2.2.2, b', c, ?_, ?_⟩
      · show P0 0 2 ≤ P 0 2 + 1
        omega
      · rw [burn_send d']; exact f
    · exact ⟨a, b', c, d', f⟩
  · rw [(send_n g).2]
    exact ⟨a, b', c, d', f⟩
theorem send_neg {P : Pg} {d b x e : Int} (wf : WF P) (h : R_send d b x e P < 0) : T_send d b x e P = P := by
  rcases Classical.em (gS d b x e P) with g | g
  · rw [(send_y g).1] at h
    rw [(send_y g).2]
    by_cases c : P 0 2 < 8
    · rw [if_pos c] at h
      have := wf.2.2.1
      omega
    · rw [if_neg c]
  · rw [(send_n g).2]
theorem R_send_ir {P : Pg} {d b x e : Int} (wf : WF P) : IR (R_send d b x e P) := by
  have := wf.2.2.1
  rcases Classical.em (gS d b x e P) with g | g
  · rw [(send_y g).1]; split <;> omega
  · rw [(send_n g).1]; omega
def tornA (A : Ab) (t : Int) : Ab := (A.1, A.2.1, A.2.2.1, A.2.2.2.1, A.2.2.2.2.1, A.2.2.2.2.2.1, A.2.2.2.2.2.2.1, t)
def resA (A : Ab) (r : Int × Pg × Option Int) : Ab := tornA (r.2.1, A.2) (r.2.2.getD A.2.2.2.2.2.2.2)
theorem Vc.n {σ : St} {A : Ab} (t : Int) (v : Vc σ A) : Vc (up σ 0 9 t) (tornA A t) := by
  obtain ⟨⟨a1, a2⟩, b, c, d, e, f1, f2⟩ := v
  have h : ∀ k j, ¬ (k = 0 ∧ j = 9) → up σ 0 9 t k j = σ k j := fun k j x => by rw [up_at, if_neg x]
  exact ⟨⟨(cv_ext (fun r j hr _ => h (1 + r) j (by omega))).trans a1, (h 1 11 (by omega)).trans a2⟩, b.ext (fun k j _ _ => h k j (by omega)), c.ext (h 0 7 (by omega)) (fun k j _ _ => h k j (by omega)), d.ext (h 41 1 (by omega)) (fun j => h 42 j (by omega)), e.ext (fun k j _ _ => h k j (by omega)), (h 0 8 (by omega)).trans f1, by rw [up_at, if_pos ⟨rfl, rfl⟩]; rfl⟩
theorem Vm.n {σ : St} {A : Ab} (t : Int) (ok : OKA A) (v : Vm σ A) : Vm (up σ 51 29 t) (tornA A t) := by
  obtain ⟨⟨a1, a2⟩, b, c, d, e, ⟨f1, f2⟩, g⟩ := v
  have h : ∀ k j, ¬ (k = 51 ∧ j = 29) → up σ 51 29 t k j = σ k j := fun k j x => by rw [up_at, if_neg x]
  exact ⟨⟨(mv_pf (by decide) (by decide)).trans a1, (h 51 18 (by omega)).trans a2⟩, mSg.of (h 51 23 (by omega)) (fun j => h 57 j (by omega)) b, c.ext ok.2.2.1 ok.1.1.1.2 (h 51 1 (by omega)) (fun j => h 59 j (by omega)) (fun x _ _ => h 52 _ (by omega)), d.ext (h 51 8 (by omega)) (fun j => h 54 j (by omega)), e.ext (fun k j _ _ => h k j (by omega)), ⟨(h 51 9 (by omega)).trans f1, by rw [up_at, if_pos ⟨rfl, rfl⟩]; rfl⟩, g.ext (fun k j x => h k j (by omega))⟩
theorem OKA.n {A : Ab} (t : Int) (ok : OKA A) : OKA (tornA A t) := ok
theorem rd_ok {A : Ab} (ok : OKA A) {H : Hs} {k lane f : Int} : ∀ (j i : Nat) (P : Pg), rdI A.1 P → OKA (resA A (rdL H k lane f A.1 j i P)) := by
  intro j
  induction j with
  | zero => intro i P h; exact (ok.p h.1 h.2.1 h.2.2.1).n _
  | succ j ih =>
    intro i P h
    rw [rdL]
    split
    · split
      · exact ok
      · exact ih _ _ h.s
    · exact (ok.p h.1 h.2.1 h.2.2.1).n _
theorem c_read_loop {A : Ab} (ok : OKA A) {k lane f n : Int} (hk : 0 ≤ k ∧ k ≤ 3) (hl : IR lane) (hf : IR f) (hn : 0 ≤ n ∧ n ≤ 10) : ∀ (j i m : Nat) (τ : St) (P : Pg), (i : Int) + j = n → j < m → Vc τ (P, A.2) → rdI A.1 P → (i = 0 ∨ (0 ≤ f ∧ f + 4 * (i : Int) ≤ 40)) → ∃ τ', f_X4_read_47 m k lane f n (A.1 0 2) i τ = some ((rdL A.2.2.2.2.2.1 k lane f A.1 j i P).1, τ') ∧ Vc τ' (resA A (rdL A.2.2.2.2.2.1 k lane f A.1 j i P)) ∧ FC τ τ' := by
  intro j
  have okh := ok.2.2.2.2
  induction j with
  | zero =>
    intro i m τ P hi hm v hI hf0
    obtain ⟨m, rfl⟩ : ∃ y, m = y + 1 := ⟨m - 1, by omega⟩
    refine ⟨up τ 0 9 0, ?_, v.n 0, fun c x hc => by rw [up_at, if_neg (by omega)]⟩
    rw [f_X4_read_47, wr_of (x := (i : Int)) (by omega) (by omega), wr_of (x := n) (by omega) (by omega), if_neg (by omega)]
    unfold pf
    rw [bV_s]
    show some (n, _) = some ((i : Int), _)
    rw [show (i : Int) = n by omega]
  | succ j ih =>
    intro i m τ P hi hm v hI hf0
    obtain ⟨m, rfl⟩ : ∃ y, m = y + 1 := ⟨m - 1, by omega⟩
    have s : cSh τ A.2.2.2.2.2.1 := v.2.2.2.2.1
    have q := okh.1 k hk.1 (by omega)
    have hx : IR (f + 4 * (i : Int)) := by
      rcases hf0 with rfl | h
      · have : f + 4 * ((0 : Nat) : Int) = f := by omega
        rw [this]; exact hf
      · omega
    rw [f_X4_read_47, wr_of (x := (i : Int)) (by omega) (by omega), wr_of (x := n) (by omega) (by omega), if_pos (by omega), c_faultOf okh s hk hl hx (by omega), bI_s, rdL]
    by_cases g : okF A.2.2.2.2.2.1 k lane (f + 4 * (i : Int)) = true
    · obtain ⟨g1, g2, g3, g4⟩ := of_decide_eq_true g
      have qn := q.2 g1
      have wfP : WF P := hI.1
      have I : Ic τ := ⟨by rw [v.1.1]; exact hI.1, by rw [v.1.1]; exact hI.2.1, v.1.2⟩
      have e0 : (if A.2.2.2.2.2.1.1 k = -4 then (1 : Int) else if A.2.2.2.2.2.1.1 k = lane then (if 0 ≤ f + 4 * (i : Int) ∧ f + 4 * (i : Int) ≤ A.2.2.2.2.2.1.2.1 k - 4 then 0 else 2) else 3) = 0 := by rw [if_neg g1, if_pos g2, if_pos ⟨g3, g4⟩]
      rw [if_pos g, e0, if_pos (show wr 0 = 0 by decide)]
      have cell : ∀ t : Int, 0 ≤ t → t ≤ 3 → f_X0_cell k (f + 4 * (i : Int) + t) τ = some (A.2.2.2.2.2.1.2.2 (40 * k + (f + 4 * (i : Int)) + t), τ) := by
        intro t t0 t1
        unfold f_X0_cell
        rw [ld_of (by omega) (by omega) (by omega), bV_s, show k * 40 + (f + 4 * (i : Int) + t) = 40 * k + (f + 4 * (i : Int)) + t by omega, s.2 _ (by omega) (by omega)]
      have c0 := cell 0 (by omega) (by omega)
      rw [Int.add_zero, Int.add_zero] at c0
      have ir : ∀ t : Int, 0 ≤ t → t ≤ 3 → IR (A.2.2.2.2.2.1.2.2 (40 * k + (f + 4 * (i : Int)) + t)) := fun t t0 t1 => okh.2 _ (by omega) (by omega)
      have ir0 := ir 0 (by omega) (by omega)
      rw [Int.add_zero] at ir0
      obtain ⟨τ1, d1, d2, d3, d4⟩ := (u_sends ir0 (ir 1 (by omega) (by omega)) (ir 2 (by omega) (by omega)) (ir 3 (by omega) (by omega))).2.1 τ I
      have eP : cv τ 1 = P := v.1.1
      rw [eP] at d1 d2
      unfold f_X4_sendFrom
      rw [c0, bI_s, cell 1 (by omega) (by omega), bI_s, cell 2 (by omega) (by omega), bI_s, cell 3 (by omega) (by omega), bI_s, d1, bI_s, bI_s]
      have v1 := v.k d4 d2 d3
      rw [wrI (R_send_ir wfP)]
      by_cases c : R_send (A.2.2.2.2.2.1.2.2 (40 * k + (f + 4 * (i : Int)))) (A.2.2.2.2.2.1.2.2 (40 * k + (f + 4 * (i : Int)) + 1)) (A.2.2.2.2.2.1.2.2 (40 * k + (f + 4 * (i : Int)) + 2)) (A.2.2.2.2.2.1.2.2 (40 * k + (f + 4 * (i : Int)) + 3)) P < 0
      · rw [if_pos c, if_pos c]
        rw [send_neg wfP c] at d2 v1
        unfold pf
        rw [bV_s]
        have e6 : τ1 1 6 = P 0 2 := by rw [← cv_2 τ1 1, d2]
        refine ⟨up τ1 1 6 (A.1 0 2), rfl, ?_, fun c x hc => by rw [up_at, if_neg (by omega)]; exact d4 c x (by omega)⟩
        have pg : cv (up τ1 1 6 (A.1 0 2)) 1 = A.1 := by
          rw [cv_burn (by rw [e6]; exact hI.2.2.2.1), d2]
          exact hI.2.2.2.2
        exact Vc.k (A := (P, A.2)) (Qk.p (by omega)) v1 pg (by rw [up_at, if_neg (by omega)]; exact d3)
      · rw [if_neg c, if_neg c, show (i : Int) + 1 = ((i + 1 : Nat) : Int) by omega]
        obtain ⟨τ', f1, f2, f3⟩ := ih (i + 1) m τ1 _ (by omega) (by omega) v1 hI.s (Or.inr (by omega))
        exact ⟨τ', f1, f2, fun c x hc => (f3 c x hc).trans (d4 c x (by omega))⟩
    · have g' : ¬ (A.2.2.2.2.2.1.1 k ≠ -4 ∧ A.2.2.2.2.2.1.1 k = lane ∧ 0 ≤ f + 4 * (i : Int) ∧ f + 4 * (i : Int) ≤ A.2.2.2.2.2.1.2.1 k - 4) := fun z => g (decide_eq_true z)
      rw [if_neg g]
      have e : (if A.2.2.2.2.2.1.1 k = -4 then 1 else if A.2.2.2.2.2.1.1 k = lane then (if 0 ≤ f + 4 * (i : Int) ∧ f + 4 * (i : Int) ≤ A.2.2.2.2.2.1.2.1 k - 4 then 0 else 2) else 3) = codeF A.2.2.2.2.2.1 k lane := by
        unfold codeF
        by_cases c : A.2.2.2.2.2.1.1 k = -4
        · rw [if_pos c, if_pos c]
        · rw [if_neg c, if_neg c]
          by_cases c2 : A.2.2.2.2.2.1.1 k = lane
          · rw [if_pos c2, if_pos c2, if_neg (by omega)]
          · rw [if_neg c2, if_neg c2]
      have e2 : ¬ wr (codeF A.2.2.2.2.2.1 k lane) = 0 := by
        unfold codeF
        split
        · decide
        · split <;> decide
      rw [e, if_neg e2]
      unfold pf
      rw [bV_s]
      exact ⟨_, rfl, v.n _, fun c x hc => by rw [up_at, if_neg (by omega)]⟩
theorem Qs.mv {σ σ' : St} {P : Pg} (h : Qs σ σ') (wf : WF P) (e : mv σ 165 = P) : mv σ' 165 = P := by
  rw [← e]
  exact mv_ext (h.2.1 1 (by omega) (by omega) (by omega)) (by rw [← mv_0 σ 165, e]; exact wf.1.2) (by rw [← mv_2 σ 165, e]; exact wf.2.2.1.2) (fun x h0 h1 => h.2.2 _ (by omega))
theorem m_exit {k lane f n c : Int} (hc : ¬ wr c = 0) (m : Nat) (came y : Int) (τ : St) : f_X5_read_56 (m + 1) k lane f n c came y τ = some (came, up τ 51 29 c) := by
  rw [f_X5_read_56]
  unfold f_X5_read_216 pf
  rw [if_neg hc, bV_s]
  split <;> rfl
theorem m_read_loop {A : Ab} (ok : OKA A) {k lane f n : Int} (hk : 0 ≤ k ∧ k ≤ 3) (hl : IR lane) (hf : IR f) (hn : 0 ≤ n ∧ n ≤ 10) : ∀ (j i m : Nat) (τ : St) (P : Pg), (i : Int) + j = n → 4 * j + 2 < m → Vm τ (P, A.2) → rdI A.1 P → mv τ 165 = A.1 → (i = 0 ∨ (0 ≤ f ∧ f + 4 * (i : Int) ≤ 40)) → ∃ τ', f_X5_read_56 m k lane f n 0 i (4 * (i : Int)) τ = some ((rdL A.2.2.2.2.2.1 k lane f A.1 j i P).1, τ') ∧ Vm τ' (resA A (rdL A.2.2.2.2.2.1 k lane f A.1 j i P)) ∧ FM τ τ' := by
  intro j
  have okh := ok.2.2.2.2
  have w0 : wr 0 = 0 := by decide
  have wm : wr (-4) = -4 := by decide
  have w3 : wr 3 = 3 := by decide
  have q := okh.1 k hk.1 (by omega)
  have e2 : ¬ wr (codeF A.2.2.2.2.2.1 k lane) = 0 := by
    unfold codeF
    split
    · decide
    · split <;> decide
  -- one place
  have place : ∀ (m y : Nat) (came : Int) (τ : St), mSh τ A.2.2.2.2.2.1 → (y : Int) < 4 * n → f_X5_read_56 (m + 1) k lane f n 0 came y τ = f_X5_read_126 (f_X5_read_56 m) k lane f n came y (if A.2.2.2.2.2.1.1 k ≠ -4 ∧ A.2.2.2.2.2.1.1 k = lane ∧ 0 ≤ f + (y : Int) ∧ f + (y : Int) ≤ A.2.2.2.2.2.1.2.1 k - 1 then 0 else codeF A.2.2.2.2.2.1 k lane) τ := by
    intro m y came τ s hy
    have h1 := s.1 k hk.1 (by omega)
    rw [f_X5_read_56, wr_of (x := (y : Int)) (by omega) (by omega), wr_of (x := 4 * n) (by omega) (by omega), if_pos (by omega), w0, if_pos rfl, ld_of hk.1 (by omega) (by omega), bV_s, h1.1, wm, wr_of (x := A.2.2.2.2.2.1.1 k) (by omega) (by omega)]
    unfold codeF
    by_cases c : A.2.2.2.2.2.1.1 k = -4
    · rw [if_pos c, if_pos c, if_neg (by omega)]
    · have qn := q.2 c
      rw [if_neg c, if_neg c, bV_s, wr_of (x := A.2.2.2.2.2.1.1 k) (by omega) (by omega), wrI hl]
      by_cases c2 : A.2.2.2.2.2.1.1 k = lane
      · rw [if_pos c2, if_pos c2, ld_of hk.1 (by omega) (by omega), bV_s, h1.2 c, wrI hf, wr_of (x := A.2.2.2.2.2.1.2.1 k - 1) (by omega) (by omega), m_in (by omega) (by omega) (by omega), bI_s]
        by_cases c3 : 0 ≤ f + (y : Int) ∧ f + (y : Int) ≤ A.2.2.2.2.2.1.2.1 k - 1
        · rw [if_pos (by simp [c3]), if_pos ⟨c, c2, c3⟩]
        · rw [if_neg (by simp only [decide_eq_true_eq]; exact c3), if_neg (fun z => c3 z.2.2)]
      · rw [if_neg c2, if_neg c2, if_neg (fun z => c2 z.2.1)]
  have bad : ∀ (m y : Nat) (came : Int) (τ : St), mSh τ A.2.2.2.2.2.1 → (y : Int) < 4 * n → ¬ (A.2.2.2.2.2.1.1 k ≠ -4 ∧ A.2.2.2.2.2.1.1 k = lane ∧ 0 ≤ f + (y : Int) ∧ f + (y : Int) ≤ A.2.2.2.2.2.1.2.1 k - 1) → f_X5_read_56 (m + 2) k lane f n 0 came y τ = some (came, up τ 51 29 (codeF A.2.2.2.2.2.1 k lane)) := by
    intro m y came τ s hy hb
    rw [place (m + 1) y came τ s hy, if_neg hb]
    unfold f_X5_read_126 f_X5_read_210
    rw [if_neg e2]
    exact m_exit e2 m came _ τ
  have good : ∀ (m y : Nat) (came : Int) (τ : St), mSh τ A.2.2.2.2.2.1 → (y : Int) < 4 * n → (A.2.2.2.2.2.1.1 k ≠ -4 ∧ A.2.2.2.2.2.1.1 k = lane ∧ 0 ≤ f + (y : Int) ∧ f + (y : Int) ≤ A.2.2.2.2.2.1.2.1 k - 1) → ¬ y % 4 = 3 → f_X5_read_56 (m + 1) k lane f n 0 came y τ = f_X5_read_56 m k lane f n 0 came ((y + 1 : Nat) : Int) τ := by
    intro m y came τ s hy hb h3
    rw [place m y came τ s hy, if_pos hb]
    unfold f_X5_read_126 f_X5_read_210
    rw [w0, if_pos rfl, irm_of (by omega) (by omega) (by omega) (by omega), bV_s, w3, wr_of (x := (y : Int) % 4) (by omega) (by omega), if_neg (by omega)]
    rfl
  induction j with
  | zero =>
    intro i m τ P hi hm v hI hS hf0
    obtain ⟨m, rfl⟩ : ∃ y, m = y + 1 := ⟨m - 1, by omega⟩
    have okP : OKA (P, A.2) := ok.p hI.1 hI.2.1 hI.2.2.1
    refine ⟨up τ 51 29 0, ?_, Vm.n 0 okP v, fun c x hc => by rw [up_at, if_neg (by omega)]⟩
    rw [f_X5_read_56, wr_of (x := 4 * (i : Int)) (by omega) (by omega), wr_of (x := 4 * n) (by omega) (by omega), if_neg (by omega)]
    unfold f_X5_read_216 pf
    rw [bV_s]
    rfl
  | succ j ih =>
    intro i m τ P hi hm v hI hS hf0
    obtain ⟨m, rfl⟩ : ∃ y, m = y + 5 := ⟨m - 5, by omega⟩
    have okP : OKA (P, A.2) := ok.p hI.1 hI.2.1 hI.2.2.1
    have s : mSh τ A.2.2.2.2.2.1 := v.2.2.2.2.1
    have wfP : WF P := hI.1
    rw [show 4 * (i : Int) = ((4 * i : Nat) : Int) by omega, rdL]
    have fin : ∀ c : Int, ¬ wr c = 0 → ∃ τ', (some ((i : Int), up τ 51 29 c) : Option (Int × St)) = some ((i : Int), τ') ∧ Vm τ' (resA A ((i : Int), P, some c)) ∧ FM τ τ' := fun c hc => ⟨_, rfl, Vm.n c okP v, fun k x hk => by rw [up_at, if_neg (by omega)]⟩
    by_cases g : okF A.2.2.2.2.2.1 k lane (f + 4 * (i : Int)) = true
    · obtain ⟨g1, g2, g3, g4⟩ := of_decide_eq_true g
      have qn := q.2 g1
      have I : Im τ := ⟨by rw [v.1.1]; exact hI.1, by rw [v.1.1]; exact hI.2.1, v.1.2⟩
      rw [if_pos g, good (m + 4) (4 * i) i τ s (by omega) ⟨g1, g2, by omega, by omega⟩ (by omega), good (m + 3) (4 * i + 1) i τ s (by omega) ⟨g1, g2, by omega, by omega⟩ (by omega), good (m + 2) (4 * i + 1 + 1) i τ s (by omega) ⟨g1, g2, by omega, by omega⟩ (by omega), place (m + 1) (4 * i + 1 + 1 + 1) i τ s (by omega), if_pos ⟨g1, g2, by omega, by omega⟩]
      unfold f_X5_read_126 f_X5_read_210
      have cell : ∀ t x : Int, 0 ≤ t → t ≤ 3 → x = 40 * k + (f + 4 * (i : Int)) + t → ld τ 62 160 x = some (A.2.2.2.2.2.1.2.2 (40 * k + (f + 4 * (i : Int)) + t)) := by
        intro t x t0 t1 hx
        subst hx
        rw [ld_of (by omega) (by omega) (by omega), s.2 _ (by omega) (by omega)]
      have ir : ∀ t : Int, 0 ≤ t → t ≤ 3 → IR (A.2.2.2.2.2.1.2.2 (40 * k + (f + 4 * (i : Int)) + t)) := fun t t0 t1 => okh.2 _ (by omega) (by omega)
      have ir0 := ir 0 (by omega) (by omega)
      rw [Int.add_zero] at ir0
      have c0 := cell 0 (40 * k + f + ((4 * i + 1 + 1 + 1 : Nat) : Int) - 3) (by omega) (by omega) (by omega)
      rw [Int.add_zero] at c0
      obtain ⟨τ1, d1, d2, d3⟩ := m_sends ir0 (ir 1 (by omega) (by omega)) (ir 2 (by omega) (by omega)) (ir 3 (by omega) (by omega)) I
      have eP : mv τ 0 = P := v.1.1
      rw [eP] at d1 d2
      rw [w0, if_pos rfl, irm_of (by omega) (by omega) (by omega) (by omega), bV_s, w3, wr_of (x := ((4 * i + 1 + 1 + 1 : Nat) : Int) % 4) (by omega) (by omega), if_pos (by omega), c0, bV_s, cell 1 _ (by omega) (by omega) (by omega), bV_s, cell 2 _ (by omega) (by omega) (by omega), bV_s, cell 3 _ (by omega) (by omega) (by omega), bV_s, d1, bI_s]
      have v1 := Vm.p okP d3.p v d2
      have hS1 := d3.mv ok.1.1 hS
      rw [wrI (R_send_ir wfP)]
      by_cases c : R_send (A.2.2.2.2.2.1.2.2 (40 * k + (f + 4 * (i : Int)))) (A.2.2.2.2.2.1.2.2 (40 * k + (f + 4 * (i : Int)) + 1)) (A.2.2.2.2.2.1.2.2 (40 * k + (f + 4 * (i : Int)) + 2)) (A.2.2.2.2.2.1.2.2 (40 * k + (f + 4 * (i : Int)) + 3)) P < 0
      · rw [if_pos c, if_pos c]
        have w := ok.1.1
        have ec : f_X5_copies 165 0 τ1 = some (cpM τ1 165 0) := m_copies (a := 165) (b := 0) (by omega) (by omega) (by omega) τ1
        have em := cpM_mv (a := 165) (b := 0) (σ := τ1) (by rw [← mv_0 τ1 165, hS1]; exact w.1.2) (by
          show rd τ1 52 (165 + 52) ≤ 8
          rw [← mv_2 τ1 165, hS1]; exact w.2.2.1.2)
        have em' : mv (cpM τ1 165 0) 0 = A.1 := em.trans hS1
        have qp : Qp τ1 (cpM τ1 165 0) := ⟨fun k j _ x _ => cpM_at x, fun j _ _ _ => cpM_at (by decide), fun x h0 h1 => cpM_rd (by omega) (by omega)⟩
        rw [ec, bV_s]
        refine ⟨_, rfl, ?_, fun c x hc => (qp.fm c x hc).trans (d3.p.fm c x hc)⟩
        have hIs : rdI A.1 _ := hI.s (d := A.2.2.2.2.2.1.2.2 (40 * k + (f + 4 * (i : Int)))) (b := A.2.2.2.2.2.1.2.2 (40 * k + (f + 4 * (i : Int)) + 1)) (x := A.2.2.2.2.2.1.2.2 (40 * k + (f + 4 * (i : Int)) + 2)) (e := A.2.2.2.2.2.1.2.2 (40 * k + (f + 4 * (i : Int)) + 3))
        have okQ := ok.p hIs.1 hIs.2.1 hIs.2.2.1
        have z := Vm.p okQ qp v1 em'
        exact z
      · rw [if_neg c, if_neg c]
        have nx := ih (i + 1) (m + 1) τ1 _ (by omega) (by omega) v1 hI.s hS1 (Or.inr (by omega))
        obtain ⟨τ', f1, f2, f3⟩ := nx
        refine ⟨τ', ?_, f2, fun c x hc => (f3 c x hc).trans (d3.p.fm c x hc)⟩
        rw [show (i : Int) + 1 = ((i + 1 : Nat) : Int) by omega, show ((4 * i + 1 + 1 + 1 : Nat) : Int) + 1 = 4 * ((i + 1 : Nat) : Int) by omega]
        exact f1
    · have g' : ¬ (A.2.2.2.2.2.1.1 k ≠ -4 ∧ A.2.2.2.2.2.1.1 k = lane ∧ 0 ≤ f + 4 * (i : Int) ∧ f + 4 * (i : Int) ≤ A.2.2.2.2.2.1.2.1 k - 4) := fun z => g (decide_eq_true z)
      rw [if_neg g]
      by_cases b0 : A.2.2.2.2.2.1.1 k ≠ -4 ∧ A.2.2.2.2.2.1.1 k = lane ∧ 0 ≤ f + ((4 * i : Nat) : Int) ∧ f + ((4 * i : Nat) : Int) ≤ A.2.2.2.2.2.1.2.1 k - 1
      case neg => rw [bad (m + 3) (4 * i) i τ s (by omega) b0]; exact fin _ e2
      rw [good (m + 4) (4 * i) i τ s (by omega) b0 (by omega)]
      by_cases b1 : A.2.2.2.2.2.1.1 k ≠ -4 ∧ A.2.2.2.2.2.1.1 k = lane ∧ 0 ≤ f + ((4 * i + 1 : Nat) : Int) ∧ f + ((4 * i + 1 : Nat) : Int) ≤ A.2.2.2.2.2.1.2.1 k - 1
      case neg => rw [bad (m + 2) (4 * i + 1) i τ s (by omega) b1]; exact fin _ e2
      rw [good (m + 3) (4 * i + 1) i τ s (by omega) b1 (by omega)]
      by_cases b2 : A.2.2.2.2.2.1.1 k ≠ -4 ∧ A.2.2.2.2.2.1.1 k = lane ∧ 0 ≤ f + ((4 * i + 1 + 1 : Nat) : Int) ∧ f + ((4 * i + 1 + 1 : Nat) : Int) ≤ A.2.2.2.2.2.1.2.1 k - 1
      case neg => rw [bad (m + 1) (4 * i + 1 + 1) i τ s (by omega) b2]; exact fin _ e2
      rw [good (m + 2) (4 * i + 1 + 1) i τ s (by omega) b2 (by omega), bad m (4 * i + 1 + 1 + 1) i τ s (by omega) (by omega)]
      exact fin _ e2
noncomputable def R_read (k lane f n : Int) (A : Ab) : Int := if 0 ≤ k ∧ k ≤ 3 then (if 0 ≤ lane ∧ lane ≤ 2 then (if 0 ≤ n ∧ n ≤ 10 then (rdL A.2.2.2.2.2.1 k lane f A.1 n.toNat 0 A.1).1 else -1) else -1) else -1
/-- nothing stands behind the reports -/
def tidy (P : Pg) : Prop := burnP P (P 0 2) = P
theorem cv_tidy (σ : St) (q : Nat) : tidy (cv σ q) := by
  unfold tidy
  funext r i
  unfold burnP
  rw [cv_2]
  by_cases c : r = 0 ∧ i = 2
  · rw [if_pos c, c.1, c.2]; rfl
  · rw [if_neg c]
    by_cases c2 : (5 ≤ r ∧ r ≤ 8) ∧ σ q 6 ≤ i
    · rw [if_pos c2]
      rcases (show r = 5 ∨ r = 6 ∨ r = 7 ∨ r = 8 by omega) with rfl | rfl | rfl | rfl <;> simp only [cv] <;> rw [if_neg (by omega)]
    · rw [if_neg c2]
theorem mv_tidy (σ : St) (p : Int) : tidy (mv σ p) := by
  unfold tidy
  funext r i
  unfold burnP
  rw [mv_2]
  by_cases c : r = 0 ∧ i = 2
  · rw [if_pos c, c.1, c.2]; rfl
  · rw [if_neg c]
    by_cases c2 : (5 ≤ r ∧ r ≤ 8) ∧ rd σ 52 (p + 52) ≤ i
    · rw [if_pos c2]
      rcases (show r = 5 ∨ r = 6 ∨ r = 7 ∨ r = 8 by omega) with rfl | rfl | rfl | rfl <;> simp only [mv] <;> rw [if_neg (by omega)]
    · rw [if_neg c2]
noncomputable def T_read (k lane f n : Int) (A : Ab) : Ab := @ite _ (tidy A.1) (Classical.propDecidable _) (if 0 ≤ k ∧ k ≤ 3 then (if 0 ≤ lane ∧ lane ≤ 2 then (if 0 ≤ n ∧ n ≤ 10 then resA A (rdL A.2.2.2.2.2.1 k lane f A.1 n.toNat 0 A.1) else A) else A) else A) A
theorem o_read {k lane f n : Int} (hk : IR k) (hl : IR lane) (hf : IR f) (hn : IR n) : Op (f_X4_read k lane f n) (f_X5_read k lane f n) (R_read k lane f n) (T_read k lane f n) := by
  have st : ∀ A : Ab, OKA A → tidy A.1 → rdI A.1 A.1 := fun A ok t => ⟨ok.1.1, ok.1.2, rfl, Int.le_refl _, t⟩
  refine ⟨fun A ok => ?_, fun σ A ok v => ?_, fun σ A ok v => ?_⟩
  · unfold T_read
    by_cases t : tidy A.1
    · rw [if_pos t]
      split
      · split
        · split
          · exact rd_ok ok _ _ _ (st A ok t)
          · exact ok
        · exact ok
      · exact ok
    · rw [if_neg t]; exact ok
  · have t : tidy A.1 := by rw [← v.1.1]; exact cv_tidy σ 1
    unfold f_X4_read R_read T_read
    rw [if_pos t, c_isSheet hk, bI_s]
    by_cases g1 : 0 ≤ k ∧ k ≤ 3
    case neg => rw [if_neg (by simp only [decide_eq_true_eq]; exact g1), if_neg g1, if_neg g1]; exact ⟨σ, rfl, v, fun _ _ _ => rfl⟩
    rw [if_pos (by simp [g1]), if_pos g1, if_pos g1, c_isLane hl, bI_s]
    by_cases g2 : 0 ≤ lane ∧ lane ≤ 2
    case neg => rw [if_neg (by simp only [decide_eq_true_eq]; exact g2), if_neg g2, if_neg g2]; exact ⟨σ, rfl, v, fun _ _ _ => rfl⟩
    rw [if_pos (by simp [g2]), if_pos g2, if_pos g2, c_win hn (by omega) (by omega), bI_s]
    by_cases g3 : 0 ≤ n ∧ n ≤ 10
    case neg => rw [if_neg (by simp only [decide_eq_true_eq]; exact g3), if_neg g3, if_neg g3]; exact ⟨σ, rfl, v, fun _ _ _ => rfl⟩
    rw [if_pos (by simp [g3]), if_pos g3, if_pos g3, ← cv_2 σ 1, v.1.1]
    exact c_read_loop ok g1 hl hf g3 n.toNat 0 FU σ A.1 (by omega) (by unfold FU; omega) v (st A ok t) (Or.inl rfl)
  · have t : tidy A.1 := by rw [← v.1.1]; exact mv_tidy σ 0
    unfold f_X5_read R_read T_read
    rw [if_pos t, m_inw hk (by omega) (by omega), bI_s]
    by_cases g1 : 0 ≤ k ∧ k ≤ 3
    case neg => rw [if_neg (by simp only [decide_eq_true_eq]; exact g1), if_neg g1, if_neg g1]; exact ⟨σ, rfl, v, fun _ _ _ => rfl⟩
    rw [if_pos (by simp [g1]), if_pos g1, if_pos g1, m_inw hl (by omega) (by omega), bI_s]
    by_cases g2 : 0 ≤ lane ∧ lane ≤ 2
    case neg => rw [if_neg (by simp only [decide_eq_true_eq]; exact g2), if_neg g2, if_neg g2]; exact ⟨σ, rfl, v, fun _ _ _ => rfl⟩
    rw [if_pos (by simp [g2]), if_pos g2, if_pos g2, m_inw hn (by omega) (by omega), bI_s]
    by_cases g3 : 0 ≤ n ∧ n ≤ 10
    case neg => rw [if_neg (by simp only [decide_eq_true_eq]; exact g3), if_neg g3, if_neg g3]; exact ⟨σ, rfl, v, fun _ _ _ => rfl⟩
    have I := v.im ok
    have ec : f_X5_copies 0 165 σ = some (cpM σ 0 165) := m_copies (a := 0) (b := 165) (by omega) (by omega) (by omega) σ
    have em : mv (cpM σ 0 165) 165 = A.1 := by
      have := cpM_mv (a := 0) (b := 165) (σ := σ) (show mv σ 0 0 0 ≤ 5 from I.1.1.2) (show mv σ 0 0 2 ≤ 8 from I.1.2.2.1.2)
      exact this.trans v.1.1
    rw [if_pos (by simp [g3]), if_pos g3, if_pos g3, ec, bV_s]
    have qm : Qm σ (cpM σ 0 165) := Qm.cp (by omega) σ
    obtain ⟨τ', f1, f2, f3⟩ := m_read_loop ok g1 hl hf g3 n.toNat 0 FU (cpM σ 0 165) A.1 (by omega) (by unfold FU; omega) (Vm.q ok qm v) (st A ok t) em (Or.inl rfl)
    exact ⟨τ', f1, f2, fun c x hc => (f3 c x hc).trans (qm.p.fm c x hc)⟩
