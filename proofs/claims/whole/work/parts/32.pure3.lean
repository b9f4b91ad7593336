/-! ===== pure part 3: the model's pages when they are written; its day ===== -/
def lcM (r : Nat) (i : Int) : Int := match r with
  | 0 => if i = 1 then 15 else if i = 2 then 52 else if i = 3 then 53 else 54
  | 1 => i
  | 2 => 5 + i
  | 3 => 10 + i
  | 4 => 16 + i
  | 5 => 20 + i
  | 6 => 28 + i
  | 7 => 36 + i
  | _ => 44 + i
def rowM (x : Int) : Nat × Int :=
  if x < 5 then (1, x) else if x < 10 then (2, x - 5) else if x < 15 then (3, x - 10) else if x = 15 then (0, 1) else if x < 20 then (4, x - 16) else if x < 28 then (5, x - 20) else if x < 36 then (6, x - 28) else if x < 44 then (7, x - 36) else if x < 52 then (8, x - 44) else if x = 52 then (0, 2) else if x = 53 then (0, 3) else (0, 4)
/-- a place of a page that is in use: R riders, M reports -/
def lvM (R M : Int) (r : Nat) (i : Int) : Prop := match r with
  | 0 => i = 1 ∨ i = 2 ∨ i = 3 ∨ i = 4
  | 1 => 0 ≤ i ∧ i < R
  | 2 => 0 ≤ i ∧ i < R
  | 3 => 0 ≤ i ∧ i < R
  | 4 => 0 ≤ i ∧ i < 4
  | 5 => 0 ≤ i ∧ i < M
  | 6 => 0 ≤ i ∧ i < M
  | 7 => 0 ≤ i ∧ i < M
  | 8 => 0 ≤ i ∧ i < M
  | _ => False
def acM (r : Nat) (i : Int) : Int := match r with
  | 0 => if i = 1 then 25 else 0
  | 4 => 1
  | _ => 0
theorem row_lc {R M : Int} (hR : R ≤ 5) (hM : M ≤ 8) {r : Nat} {i : Int} (h : lvM R M r i) : rowM (lcM r i) = (r, i) := by
  match r, h with
  | 0, h =>
    rcases h with rfl | rfl | rfl | rfl <;> rfl
  | 1, h => simp only [lvM] at h; simp only [lcM, rowM]; rw [if_pos (by omega)]
  | 2, h => simp only [lvM] at h; simp only [lcM, rowM]; rw [if_neg (by omega), if_pos (by omega)]; congr 1; omega
  | 3, h => simp only [lvM] at h; simp only [lcM, rowM]; rw [if_neg (by omega), if_neg (by omega), if_pos (by omega)]; congr 1; omega
  | 4, h => simp only [lvM] at h; simp only [lcM, rowM]; rw [if_neg (by omega), if_neg (by omega), if_neg (by omega), if_neg (by omega), if_pos (by omega)]; congr 1; omega
  | 5, h => simp only [lvM] at h; simp only [lcM, rowM]; rw [if_neg (by omega), if_neg (by omega), if_neg (by omega), if_neg (by omega), if_neg (by omega), if_pos (by omega)]; congr 1; omega
  | 6, h => simp only [lvM] at h; simp only [lcM, rowM]; rw [if_neg (by omega), if_neg (by omega), if_neg (by omega), if_neg (by omega), if_neg (by omega), if_neg (by omega), if_pos (by omega)]; congr 1; omega
  | 7, h => simp only [lvM] at h; simp only [lcM, rowM]; rw [if_neg (by omega), if_neg (by omega), if_neg (by omega), if_neg (by omega), if_neg (by omega), if_neg (by omega), if_neg (by omega), if_pos (by omega)]; congr 1; omega
  | 8, h => simp only [lvM] at h; simp only [lcM, rowM]; rw [if_neg (by omega), if_neg (by omega), if_neg (by omega), if_neg (by omega), if_neg (by omega), if_neg (by omega), if_neg (by omega), if_neg (by omega), if_pos (by omega)]; congr 1; omega
  | n + 9, h => exact h.elim
theorem lc_bd {R M : Int} (hR : R ≤ 5) (hM : M ≤ 8) {r : Nat} {i : Int} (h : lvM R M r i) : 0 ≤ lcM r i ∧ lcM r i < 55 := by
  match r, h with
  | 0, h => rcases h with rfl | rfl | rfl | rfl <;> decide
  | 1, h => simp only [lvM] at h; simp only [lcM]; omega
  | 2, h => simp only [lvM] at h; simp only [lcM]; omega
  | 3, h => simp only [lvM] at h; simp only [lcM]; omega
  | 4, h => simp only [lvM] at h; simp only [lcM]; omega
  | 5, h => simp only [lvM] at h; simp only [lcM]; omega
  | 6, h => simp only [lvM] at h; simp only [lcM]; omega
  | 7, h => simp only [lvM] at h; simp only [lcM]; omega
  | 8, h => simp only [lvM] at h; simp only [lcM]; omega
  | n + 9, h => exact h.elim
/-- a place in use is read -/
theorem mv_in {σ : St} {p : Int} {r : Nat} {i : Int} (h : lvM (σ 51 1) (rd σ 52 (p + 52)) r i) : mv σ p r i = rd σ 52 (p + lcM r i) + acM r i := by
  match r, h with
  | 0, h => rcases h with rfl | rfl | rfl | rfl <;> simp [mv, lcM, acM]
  | 1, h => simp only [lvM] at h; simp only [mv, if_pos h, lcM, acM]; omega
  | 2, h => simp only [lvM] at h; simp only [mv, if_pos h, lcM, acM]; rw [Int.add_assoc]; omega
  | 3, h => simp only [lvM] at h; simp only [mv, if_pos h, lcM, acM]; rw [Int.add_assoc]; omega
  | 4, h => simp only [lvM] at h; simp only [mv, if_pos h, lcM, acM]; rw [Int.add_assoc]
  | 5, h => simp only [lvM] at h; simp only [mv, if_pos h, lcM, acM]; rw [Int.add_assoc]; omega
  | 6, h => simp only [lvM] at h; simp only [mv, if_pos h, lcM, acM]; rw [Int.add_assoc]; omega
  | 7, h => simp only [lvM] at h; simp only [mv, if_pos h, lcM, acM]; rw [Int.add_assoc]; omega
  | 8, h => simp only [lvM] at h; simp only [mv, if_pos h, lcM, acM]; rw [Int.add_assoc]; omega
  | n + 9, h => exact h.elim
/-- any other is 0, but the number of riders -/
theorem mv_out {σ : St} {p : Int} {r : Nat} {i : Int} (h : ¬ lvM (σ 51 1) (rd σ 52 (p + 52)) r i) : mv σ p r i = if r = 0 ∧ i = 0 then σ 51 1 else 0 := by
  match r, h with
  | 0, h =>
    simp only [lvM] at h
    simp only [mv]
    by_cases h0 : i = 0
    · simp [h0]
    · rw [if_neg h0, if_neg (by omega), if_neg (by omega), if_neg (by omega), if_neg (by omega), if_neg (by omega)]
  | 1, h => simp only [lvM] at h; simp [mv, if_neg h]
  | 2, h => simp only [lvM] at h; simp [mv, if_neg h]
  | 3, h => simp only [lvM] at h; simp [mv, if_neg h]
  | 4, h => simp only [lvM] at h; simp [mv, if_neg h]
  | 5, h => simp only [lvM] at h; simp [mv, if_neg h]
  | 6, h => simp only [lvM] at h; simp [mv, if_neg h]
  | 7, h => simp only [lvM] at h; simp [mv, if_neg h]
  | 8, h => simp only [lvM] at h; simp [mv, if_neg h]
  | n + 9, h => simp [mv]
/-- two pages of two states are one, if their places in use are -/
theorem mv_ext {σ σ' : St} {p p' : Int} (h1 : σ' 51 1 = σ 51 1) (hR : σ 51 1 ≤ 5) (hM : rd σ 52 (p + 52) ≤ 8) (h : ∀ x, 0 ≤ x → x < 55 → rd σ' 52 (p' + x) = rd σ 52 (p + x)) : mv σ' p' = mv σ p := by
  have h2 : rd σ' 52 (p' + 52) = rd σ 52 (p + 52) := h 52 (by omega) (by omega)
  funext r i
  by_cases hl : lvM (σ 51 1) (rd σ 52 (p + 52)) r i
  · have hb := lc_bd hR hM hl
    rw [mv_in hl, mv_in (by rw [h1, h2]; exact hl), h _ hb.1 hb.2]
  · rw [mv_out hl, mv_out (by rw [h1, h2]; exact hl), h1]
/-- a place in use is written (not the number of reports) -/
theorem mv_set {σ : St} {p x v : Int} {r0 : Nat} {i0 : Int} (hp : 0 ≤ p) (hR : σ 51 1 ≤ 5) (hM : rd σ 52 (p + 52) ≤ 8) (hl0 : lvM (σ 51 1) (rd σ 52 (p + 52)) r0 i0) (hx : x = p + lcM r0 i0) (hn : ¬ (r0 = 0 ∧ i0 = 2)) : mv (ups σ 52 x v) p = upP (mv σ p) r0 i0 (v + acM r0 i0) := by
  subst hx
  have hb0 := lc_bd hR hM hl0
  have e0 := row_lc hR hM hl0
  have r1 : ups σ 52 (p + lcM r0 i0) v 51 1 = σ 51 1 := ups_at (by decide)
  have h52 : ¬ 52 = lcM r0 i0 := by
    intro e
    rw [← e] at e0
    have : ((0, 2) : Nat × Int) = (r0, i0) := e0
    exact hn ⟨(Prod.mk.inj this).1.symm, (Prod.mk.inj this).2.symm⟩
  have r2 : rd (ups σ 52 (p + lcM r0 i0) v) 52 (p + 52) = rd σ 52 (p + 52) := by
    rw [rd_ups (by omega) (by omega), if_neg (by omega)]
  funext r i
  unfold upP
  by_cases hl : lvM (σ 51 1) (rd σ 52 (p + 52)) r i
  · have hb := lc_bd hR hM hl
    have e := row_lc hR hM hl
    rw [mv_in (by rw [r1, r2]; exact hl), rd_ups (by omega) (by omega)]
    by_cases c : r = r0 ∧ i = i0
    · obtain ⟨rfl, rfl⟩ := c
      rw [if_pos ⟨rfl, rfl⟩, if_pos ⟨rfl, rfl⟩]
    · rw [if_neg c, if_neg, mv_in hl]
      intro z
      have : lcM r i = lcM r0 i0 := by omega
      rw [this] at e
      have := e0.symm.trans e
      exact c ⟨(Prod.mk.inj this).1.symm, (Prod.mk.inj this).2.symm⟩
  · have c : ¬ (r = r0 ∧ i = i0) := by
      rintro ⟨rfl, rfl⟩
      exact hl hl0
    rw [mv_out (by rw [r1, r2]; exact hl), r1, if_neg c, mv_out hl]
/-- something outside of a page is written -/
theorem mv_off {σ : St} {p x v : Int} (hp : 0 ≤ p) (hx : 0 ≤ x) (hR : σ 51 1 ≤ 5) (hM : rd σ 52 (p + 52) ≤ 8) (h : x < p ∨ p + 55 ≤ x) : mv (ups σ 52 x v) p = mv σ p :=
  mv_ext (ups_at (by decide)) hR hM (fun y h0 h1 => by rw [rd_ups hx (by omega), if_neg (by omega)])
theorem mv_pf {σ : St} {p v : Int} {k j : Nat} (h : k ≠ 52) (h1 : ¬ (k = 51 ∧ j = 1)) : mv (up σ k j v) p = mv σ p := by
  have e1 : up σ k j v 51 1 = σ 51 1 := by unfold up; rw [if_neg (by omega)]
  have e2 : ∀ y, rd (up σ k j v) 52 y = rd σ 52 y := fun y => rd_up (by omega)
  funext r i
  unfold mv
  simp only [e1, e2]
