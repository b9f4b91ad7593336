/-! ===== pure part 5: the class's squares: what is told, believed ===== -/
def cv (σ : St) (q : Nat) : Pg := fun r i => match r with
  | 0 => if i = 0 then σ q 0 else if i = 1 then σ q 4 else if i = 2 then σ q 6 else if i = 3 then σ q 12 else if i = 4 then σ q 13 else 0
  | 1 => if 0 ≤ i ∧ i < σ q 0 then rd σ (q + 1) i else 0
  | 2 => if 0 ≤ i ∧ i < σ q 0 then rd σ (q + 2) i else 0
  | 3 => if 0 ≤ i ∧ i < σ q 0 then rd σ (q + 3) i else 0
  | 4 => if 0 ≤ i ∧ i < 4 then rd σ (q + 4) i else 0
  | 5 => if 0 ≤ i ∧ i < σ q 6 then rd σ (q + 5) i else 0
  | 6 => if 0 ≤ i ∧ i < σ q 6 then rd σ (q + 6) i else 0
  | 7 => if 0 ≤ i ∧ i < σ q 6 then rd σ (q + 7) i else 0
  | 8 => if 0 ≤ i ∧ i < σ q 6 then rd σ (q + 8) i else 0
  | _ => 0
theorem cv_0 (σ : St) (q : Nat) : cv σ q 0 0 = σ q 0 := rfl
theorem cv_1 (σ : St) (q : Nat) : cv σ q 0 1 = σ q 4 := rfl
theorem cv_2 (σ : St) (q : Nat) : cv σ q 0 2 = σ q 6 := rfl
theorem cv_3 (σ : St) (q : Nat) : cv σ q 0 3 = σ q 12 := rfl
theorem cv_4 (σ : St) (q : Nat) : cv σ q 0 4 = σ q 13 := rfl
theorem cv_k {σ : St} {q : Nat} {h : Int} (h0 : 0 ≤ h) (h1 : h < cv σ q 0 0) : rd σ (q + 1) h = cv σ q 1 h := (if_pos ⟨h0, h1⟩).symm
theorem cv_u {σ : St} {q : Nat} {h : Int} (h0 : 0 ≤ h) (h1 : h < cv σ q 0 0) : rd σ (q + 2) h = cv σ q 2 h := (if_pos ⟨h0, h1⟩).symm
theorem cv_w {σ : St} {q : Nat} {h : Int} (h0 : 0 ≤ h) (h1 : h < cv σ q 0 0) : rd σ (q + 3) h = cv σ q 3 h := (if_pos ⟨h0, h1⟩).symm
theorem cv_t {σ : St} {q : Nat} {h : Int} (h0 : 0 ≤ h) (h1 : h < 4) : rd σ (q + 4) h = cv σ q 4 h := (if_pos ⟨h0, h1⟩).symm
theorem cv_rd {σ : St} {q : Nat} {h : Int} (h0 : 0 ≤ h) (h1 : h < cv σ q 0 2) : rd σ (q + 5) h = cv σ q 5 h := (if_pos ⟨h0, h1⟩).symm
theorem cv_rb {σ : St} {q : Nat} {h : Int} (h0 : 0 ≤ h) (h1 : h < cv σ q 0 2) : rd σ (q + 6) h = cv σ q 6 h := (if_pos ⟨h0, h1⟩).symm
theorem cv_ro {σ : St} {q : Nat} {h : Int} (h0 : 0 ≤ h) (h1 : h < cv σ q 0 2) : rd σ (q + 7) h = cv σ q 7 h := (if_pos ⟨h0, h1⟩).symm
theorem cv_re {σ : St} {q : Nat} {h : Int} (h0 : 0 ≤ h) (h1 : h < cv σ q 0 2) : rd σ (q + 8) h = cv σ q 8 h := (if_pos ⟨h0, h1⟩).symm
/-- two squares of two states are one, if their cells are -/
theorem cv_ext {σ σ' : St} {q q' : Nat} (h : ∀ r j, r < 9 → (r = 0 → j = 0 ∨ j = 4 ∨ j = 6 ∨ j = 12 ∨ j = 13) → σ' (q' + r) j = σ (q + r) j) : cv σ' q' = cv σ q := by
  have s0 := h 0 0 (by omega) (by omega)
  have s4 := h 0 4 (by omega) (by omega)
  have s6 := h 0 6 (by omega) (by omega)
  have s12 := h 0 12 (by omega) (by omega)
  have s13 := h 0 13 (by omega) (by omega)
  simp only [Nat.add_zero] at s0 s4 s6 s12 s13
  have rr : ∀ r, 1 ≤ r → r < 9 → ∀ y, rd σ' (q' + r) y = rd σ (q + r) y := fun r h1 h2 y => h r _ h2 (by omega)
  funext r i
  match r with
  | 0 => simp only [cv, s0, s4, s6, s12, s13]
  | 1 => simp only [cv, s0, rr 1 (by omega) (by omega)]
  | 2 => simp only [cv, s0, rr 2 (by omega) (by omega)]
  | 3 => simp only [cv, s0, rr 3 (by omega) (by omega)]
  | 4 => simp only [cv, rr 4 (by omega) (by omega)]
  | 5 => simp only [cv, s6, rr 5 (by omega) (by omega)]
  | 6 => simp only [cv, s6, rr 6 (by omega) (by omega)]
  | 7 => simp only [cv, s6, rr 7 (by omega) (by omega)]
  | 8 => simp only [cv, s6, rr 8 (by omega) (by omega)]
  | n + 9 => rfl
/-- only the sums of a square have changed -/
def FrS (q : Nat) (σ σ' : St) : Prop := ∀ k j, k ≠ q + 9 → σ' k j = σ k j
theorem FrS.rf (q : Nat) (σ : St) : FrS q σ σ := fun _ _ _ => rfl
theorem FrS.tr {q : Nat} {a b c : St} (h1 : FrS q a b) (h2 : FrS q b c) : FrS q a c := fun k j h => (h2 k j h).trans (h1 k j h)
theorem FrS.cv {q : Nat} {σ σ' : St} (h : FrS q σ σ') : cv σ' q = cv σ q := cv_ext (fun r j hr _ => h (q + r) j (by omega))
theorem fill_loop {a n : Nat} {v : Int} (hn : n ≤ 2000) : ∀ (k i m : Nat) (σ : St), i + k = n → k < m → f_J7_fill_53178_5 a n m v i n σ = some (fun b j => if b = a ∧ i ≤ j ∧ j < n then v else σ b j) := by
  intro k
  induction k with
  | zero =>
    intro i m σ hi hm
    obtain ⟨m, rfl⟩ : ∃ z, m = z + 1 := ⟨m - 1, by omega⟩
    rw [f_J7_fill_53178_5, wr_of (x := (i : Int)) (by omega) (by omega), wr_of (x := (n : Int)) (by omega) (by omega), if_neg (by omega)]
    congr 1
    funext b j
    rw [if_neg (by omega)]
  | succ k ih =>
    intro i m σ hi hm
    obtain ⟨m, rfl⟩ : ∃ z, m = z + 1 := ⟨m - 1, by omega⟩
    rw [f_J7_fill_53178_5, wr_of (x := (i : Int)) (by omega) (by omega), wr_of (x := (n : Int)) (by omega) (by omega), if_pos (by omega), sv_of (by omega) (by omega) hn, bV_s, show (i : Int) + 1 = ((i + 1 : Nat) : Int) by omega, ih (i + 1) m _ (by omega) (by omega)]
    congr 1
    funext b j
    unfold ups up
    rw [show ((i : Int)).toNat = i by omega]
    by_cases c : b = a
    · by_cases c2 : j = i
      · subst c2; subst c
        rw [if_neg (by omega), if_pos ⟨rfl, rfl⟩, if_pos (by omega)]
      · by_cases c3 : i + 1 ≤ j ∧ j < n
        · rw [if_pos ⟨c, c3⟩, if_pos (by omega)]
        · rw [if_neg (by omega), if_neg (by omega), if_neg (by omega)]
    · rw [if_neg (by omega), if_neg (by omega), if_neg (by omega)]
theorem fill_eq {a n : Nat} {v : Int} (hn : n ≤ 2000) (σ : St) : f_J7_fill_53178 a n v σ = some (fun b j => if b = a ∧ j < n then v else σ b j) := by
  unfold f_J7_fill_53178
  have := fill_loop (a := a) (v := v) hn n 0 FU σ (by omega) (by unfold FU; omega)
  rw [show ((0 : Nat) : Int) = 0 by rfl] at this
  rw [this]
  simp
section CLASS
variable {q : Nat}
theorem c_sum_loop {P : Pg} (wf : WF P) {un h d : Int} (hh : 0 ≤ h ∧ h < 5) (hd : 0 ≤ d ∧ d ≤ 5000) : ∀ (k i n : Nat) (σ : St), i + k = (P 0 2).toNat → k < n → cv σ q = P → σ q 11 = un → (∀ e : Int, 0 ≤ e → e < 4 → rd σ (q + 9) e = sumN (tg P un h e d) i) → ∃ σ', f_X2_sumTrust_10 q n h d i σ = some σ' ∧ FrS q σ σ' ∧ ∀ e : Int, 0 ≤ e → e < 4 → rd σ' (q + 9) e = told P un h e d := by
  intro k
  have hM := wf.2.2.1
  have wh : wr h = h := wr_of (by omega) (by omega)
  have wd : wr d = d := wr_of (by omega) (by omega)
  induction k with
  | zero =>
    intro i n σ hi hn hv hu hs
    obtain ⟨n, rfl⟩ : ∃ m, n = m + 1 := ⟨n - 1, by omega⟩
    have e6 : σ q 6 = P 0 2 := by rw [← hv]; rfl
    refine ⟨σ, ?_, FrS.rf q σ, fun e h0 h1 => ?_⟩
    · rw [f_X2_sumTrust_10, e6, wr_of (x := (i : Int)) (by omega) (by omega), wr_of (x := P 0 2) (by omega) (by omega), if_neg (by omega)]
    · rw [hs e h0 h1]
      unfold told
      rw [show (P 0 2).toNat = i by omega]
  | succ k ih =>
    intro i n σ hi hn hv hu hs
    obtain ⟨n, rfl⟩ : ∃ m, n = m + 1 := ⟨n - 1, by omega⟩
    have e6 : σ q 6 = P 0 2 := by rw [← hv]; rfl
    have hi2 : (i : Int) < P 0 2 := by omega
    have hi3 : (i : Int) < cv σ q 0 2 := by rw [hv]; exact hi2
    obtain ⟨a5, a6, a7, a8⟩ := wf.2.2.2.2.2.2.2 i (by omega) hi2
    have a4 := wf.2.2.2.2.2.2.1 (P 6 i) a6.1 a6.2
    rw [f_X2_sumTrust_10, e6, wr_of (x := (i : Int)) (by omega) (by omega), wr_of (x := P 0 2) (by omega) (by omega), if_pos hi2, ld_of (by omega) (by omega) (by omega), bV_s, cv_ro (by omega) hi3, hv, wr_of (x := P 7 i) (by omega) (by omega), wh]
    unfold f_X2_sumTrust_74
    have ei : (i : Int) + 1 = ((i + 1 : Nat) : Int) := by omega
    have z : (∀ e, tg P un h e d i = 0) → ∃ σ', f_X2_sumTrust_10 q n h d ((i : Int) + 1) σ = some σ' ∧ FrS q σ σ' ∧ ∀ e : Int, 0 ≤ e → e < 4 → rd σ' (q + 9) e = told P un h e d := by
      intro hz
      rw [ei]
      exact ih (i + 1) n σ (by omega) (by omega) hv hu (fun e h0 h1 => by rw [hs e h0 h1]; simp only [sumN]; rw [hz e]; omega)
    by_cases c7 : P 7 i = h
    · rw [if_pos c7, ld_of (by omega) (by omega) (by omega), bV_s, cv_rd (by omega) hi3, hv, wr_of (x := P 5 i) (by omega) (by omega), wd]
      by_cases c5 : d < P 5 i
      · rw [if_pos c5]
        exact z (fun e => by unfold tg; rw [if_pos c7, if_pos c5]; split <;> rfl)
      · rw [if_neg c5, hu]
        by_cases ch : wr (iad (isr un i) 1) = 0
        · rw [if_pos ch, ld_of (by omega) (by omega) (by omega), bV_s, cv_re (by omega) hi3, hv, ld_of (by omega) (by omega) (by omega), bV_s, hs _ a8.1 a8.2, ld_of (by omega) (by omega) (by omega), bV_s, cv_rb (by omega) hi3, hv, ld_of (by omega) (by omega) (by omega), bV_s, cv_t (by omega) (by omega), hv, sv_of (by omega) (by omega) (by omega), bV_s]
          have fr : FrS q σ (ups σ (q + 9) (P 8 i) (sumN (tg P un h (P 8 i) d) i + P 4 (P 6 i))) := fun k j hk => ups_at hk
          have nx := ih (i + 1) n (ups σ (q + 9) (P 8 i) (sumN (tg P un h (P 8 i) d) i + P 4 (P 6 i))) (by omega) (by omega) (by rw [fr.cv]; exact hv) (by rw [fr q 11 (by omega)]; exact hu) (fun e h0 h1 => by
            rw [rd_ups a8.1 h0]
            simp only [sumN]
            by_cases c8 : e = P 8 i
            · rw [if_pos ⟨trivial, c8⟩, c8]
              have : tg P un h (P 8 i) d i = P 4 (P 6 i) := by unfold tg; rw [if_pos c7, if_pos rfl, if_neg c5, if_pos ch]
              rw [this]
            · rw [if_neg (fun w => c8 w.2), hs e h0 h1]
              have : tg P un h e d i = 0 := by unfold tg; rw [if_pos c7, if_neg (fun w => c8 w.symm)]
              rw [this]; omega)
          rw [ei]
          obtain ⟨σ', b1, b2, b3⟩ := nx
          exact ⟨σ', b1, fr.tr b2, b3⟩
        · rw [if_neg ch]
          exact z (fun e => by unfold tg; rw [if_pos c7, if_neg c5, if_neg ch]; split <;> rfl)
    · rw [if_neg c7]
      exact z (fun e => by unfold tg; rw [if_neg c7])
theorem c_sum {σ : St} (wf : WF (cv σ q)) {h d : Int} (hh : 0 ≤ h ∧ h < 5) (hd : 0 ≤ d ∧ d ≤ 5000) : ∃ σ', f_X2_sumTrust q h d σ = some σ' ∧ FrS q σ σ' ∧ ∀ e : Int, 0 ≤ e → e < 4 → rd σ' (q + 9) e = told (cv σ q) (σ q 11) h e d := by
  have hM := wf.2.2.1
  unfold f_X2_sumTrust
  rw [fill_eq (by omega), bV_s]
  have fr : FrS q σ (fun b j => if b = q + 9 ∧ j < 4 then 0 else σ b j) := fun k j hk => by simp only; rw [if_neg (by omega)]
  obtain ⟨σ', b1, b2, b3⟩ := c_sum_loop wf hh hd (cv σ q 0 2).toNat 0 FU (fun b j => if b = q + 9 ∧ j < 4 then 0 else σ b j) (by omega) (by unfold FU; omega) fr.cv (fr q 11 (by omega)) (fun e h0 h1 => by
    show (if q + 9 = q + 9 ∧ e.toNat < 4 then (0 : Int) else σ (q + 9) e.toNat) = 0
    rw [if_pos ⟨rfl, by omega⟩])
  exact ⟨σ', b1, fr.tr b2, b3⟩
theorem c_bel_loop {P : Pg} (wf : WF P) {un h d : Int} {σ : St} (hs : ∀ e : Int, 0 ≤ e → e < 4 → rd σ (q + 9) e = told P un h e d) : ∀ (k i n : Nat), i + k = 4 → k < n → f_X2_beliefOf_15 q n (fb (fun e => told P un h e d) i).2 (fb (fun e => told P un h e d) i).1 i σ = some (bel P un h d, σ) := by
  intro k
  induction k with
  | zero =>
    intro i n hi hn
    obtain ⟨n, rfl⟩ : ∃ m, n = m + 1 := ⟨n - 1, by omega⟩
    obtain rfl : i = 4 := by omega
    rw [f_X2_beliefOf_15, if_neg (by decide)]
    rfl
  | succ k ih =>
    intro i n hi hn
    obtain ⟨n, rfl⟩ : ∃ m, n = m + 1 := ⟨n - 1, by omega⟩
    have nx := ih (i + 1) n (by omega) (by omega)
    rw [show ((i + 1 : Nat) : Int) = (i : Int) + 1 by omega] at nx
    simp only [fb] at nx
    have w4 : wr 4 = 4 := by decide
    have hb := fb_bd (s := fun e => told P un h e d) (B := 72) (by omega) (fun e => told_bd wf _ h e d) i
    have ht := told_bd wf un h i d
    rw [f_X2_beliefOf_15, w4, wr_of (x := (i : Int)) (by omega) (by omega), if_pos (by omega), ld_of (by omega) (by omega) (by omega), bV_s, hs i (by omega) (by omega), bV_s]
    unfold f_X2_beliefOf_44
    rw [wr_of (x := told P un h i d) (by omega) (by omega), wr_of (x := (fb (fun e => told P un h e d) i).2) (by omega) (by omega)]
    by_cases c : (fb (fun e => told P un h e d) i).2 < told P un h i d
    · simp only [c, if_true] at nx ⊢
      exact nx
    · simp only [c, if_false] at nx ⊢
      exact nx
theorem c_bel {σ : St} (wf : WF (cv σ q)) {h d : Int} (hh : 0 ≤ h ∧ h < 5) (hd : 0 ≤ d ∧ d ≤ 5000) : ∃ σ', f_X2_beliefOf q h d σ = some (bel (cv σ q) (σ q 11) h d, σ') ∧ FrS q σ σ' := by
  obtain ⟨σ', b1, b2, b3⟩ := c_sum wf hh hd
  refine ⟨σ', ?_, b2⟩
  unfold f_X2_beliefOf
  rw [b1, bV_s]
  exact c_bel_loop wf b3 4 0 FU (by omega) (by unfold FU; omega)
end CLASS
