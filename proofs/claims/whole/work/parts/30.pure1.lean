/-! ===== pure part 1: small laws of the functions' own words ===== -/
theorem bV_s {α ρ : Type} (a : α) (k : α → Option ρ) : bV (some a) k = k a := rfl
theorem bI_s {α ρ : Type} (a : α) (s : St) (k : α → St → Option ρ) : bI (some (a, s)) k = k a s := rfl
def rd (σ : St) (a : Nat) (x : Int) : Int := σ a x.toNat
theorem ld_of {σ : St} {a n : Nat} {x : Int} (h0 : 0 ≤ x) (h1 : x < n) (h2 : n ≤ 2000) : ld σ a n x = some (rd σ a x) := by
  unfold ld
  rw [wr_of (by omega) (by omega), if_pos ⟨h0, h1⟩]
  rfl
def ups (σ : St) (a : Nat) (x v : Int) : St := up σ a x.toNat v
theorem sv_of {σ : St} {a n : Nat} {x v : Int} (h0 : 0 ≤ x) (h1 : x < n) (h2 : n ≤ 2000) : sv σ a n x v = some (ups σ a x v) := by
  unfold sv
  rw [wr_of (by omega) (by omega), if_pos ⟨h0, h1⟩]
  rfl
theorem rd_ups {σ : St} {a b : Nat} {x y v : Int} (hx : 0 ≤ x) (hy : 0 ≤ y) : rd (ups σ a x v) b y = if b = a ∧ y = x then v else rd σ b y := by
  unfold rd ups up
  have e : (y.toNat = x.toNat) ↔ (y = x) := by omega
  simp only [e]
theorem ups_at {σ : St} {a b j : Nat} {x v : Int} (h : b ≠ a) : ups σ a x v b j = σ b j := by
  unfold ups up
  rw [if_neg (by omega)]
theorem rd_up {σ : St} {a b j : Nat} {y v : Int} (h : b ≠ a) : rd (up σ a j v) b y = rd σ b y := by
  unfold rd up
  rw [if_neg (by omega)]
theorem rd_upN {σ : St} {a b j : Nat} {y v : Int} (hy : 0 ≤ y) : rd (up σ a j v) b y = if b = a ∧ y = (j : Int) then v else rd σ b y := by
  unfold rd up
  have e : (y.toNat = j) ↔ (y = (j : Int)) := by omega
  simp only [e]
theorem up_at {σ : St} {a b i j : Nat} {v : Int} : up σ a j v b i = if b = a ∧ i = j then v else σ b i := rfl
theorem all_lt (N : Nat) (Q : Int → Bool) (h : (List.range N).all (fun n => Q (n : Int)) = true) {x : Int} (h0 : 0 ≤ x) (h1 : x < N) : Q x = true := by
  have := List.all_eq_true.mp h x.toNat (by simp; omega)
  rwa [show ((x.toNat : Nat) : Int) = x by omega] at this
theorem all_lt2 (N M : Nat) (Q : Int → Int → Bool) (h : (List.range N).all (fun n => (List.range M).all (fun m => Q (n : Int) (m : Int))) = true) {x y : Int} (h0 : 0 ≤ x) (h1 : x < N) (h2 : 0 ≤ y) (h3 : y < M) : Q x y = true := by
  have := List.all_eq_true.mp h x.toNat (by simp; omega)
  have := List.all_eq_true.mp this y.toNat (by simp; omega)
  rwa [show ((x.toNat : Nat) : Int) = x by omega, show ((y.toNat : Nat) : Int) = y by omega] at this
theorem irm_of {x y : Int} (h0 : 0 ≤ x) (h1 : x ≤ 2147483647) (h2 : 0 < y) (h3 : y ≤ 2147483647) : irm x y = some (x % y) := by
  unfold irm
  rw [wr_of (by omega) (by omega), if_neg (by omega), rem_toInt]
  have ex : (Int32.ofInt x).toInt = x := wr_of (by omega) (by omega)
  have ey : (Int32.ofInt y).toInt = y := wr_of (by omega) (by omega)
  rw [ex, ey, Int.tmod_eq_emod_of_nonneg h0]
/-! sums -/
def sumN (g : Nat → Int) : Nat → Int
  | 0 => 0
  | n + 1 => sumN g n + g n
theorem sumN_ext {g g' : Nat → Int} : ∀ {n : Nat}, (∀ i, i < n → g i = g' i) → sumN g n = sumN g' n := by
  intro n
  induction n with
  | zero => intro _; rfl
  | succ n ih => intro h; simp only [sumN]; rw [ih (fun i hi => h i (by omega)), h n (by omega)]
theorem sumN_bd {g : Nat → Int} {B : Int} : ∀ {n : Nat}, (∀ i, i < n → 0 ≤ g i ∧ g i ≤ B) → 0 ≤ sumN g n ∧ sumN g n ≤ n * B := by
  intro n
  induction n with
  | zero => intro _; simp [sumN]
  | succ n ih =>
    intro h
    have h1 := ih (fun i hi => h i (by omega))
    have h2 := h n (by omega)
    simp only [sumN]
    have : ((n + 1 : Nat) : Int) * B = n * B + B := by
      rw [Int.natCast_add, Int.add_mul]; simp
    omega
/-! ===== the page: rows 0 numbers (riders, bears, reports, day, clangs), 1 kind, 2 up, 3 weight, 4 trust, 5 day, 6 by, 7 on, 8 end ===== -/
abbrev Pg : Type := Nat → Int → Int
def upP (P : Pg) (r : Nat) (i v : Int) : Pg := fun r' i' => if r' = r ∧ i' = i then v else P r' i'
def legs (u : Int) : Int := ((((iad u 1) + (iad (isr u 1) 1)) + (iad (isr u 2) 1)) + (iad (isr u 3) 1))
def reads (k u : Int) : Int :=
  if k = 0 then (if legs u < 3 then legs u else 3)
  else if k = 1 then (if 0 < (if legs u < 3 then legs u else 3) then (if legs u < 3 then legs u else 3) - 1 else 0)
  else if k = 2 then 3 - (if legs u < 3 then legs u else 3)
  else ((if 0 < (if legs u < 3 then legs u else 3) then (if legs u < 3 then legs u else 3) - 1 else 0) + 2) % 4
theorem legs_bd {u : Int} (h0 : 0 ≤ u) (h1 : u < 16) : 0 ≤ legs u ∧ legs u ≤ 4 := by
  have := all_lt 16 (fun u => decide (0 ≤ legs u ∧ legs u ≤ 4)) (by decide +kernel) h0 h1
  exact of_decide_eq_true this
theorem reads_bd {k u : Int} (h0 : 0 ≤ u) (h1 : u < 16) : 0 ≤ reads k u ∧ reads k u ≤ 3 := by
  have := legs_bd h0 h1
  unfold reads
  split <;> (try split) <;> (try split) <;> omega
theorem m_readsOf {k u : Int} {σ : St} (hk : 0 ≤ k ∧ k < 4) (hu : 0 ≤ u ∧ u < 16) : f_X5_readsOf k u σ = some (reads k u, σ) := by
  have hl := legs_bd hu.1 hu.2
  have e : f_X5_legsOf u σ = some (legs u, σ) := rfl
  unfold f_X5_readsOf
  simp only [e, bI_s]
  unfold f_X5_readsOf_16 f_X5_readsOf_28 reads
  have w3 : wr 3 = 3 := by decide
  have w1 : wr 1 = 1 := by decide
  have w2 : wr 2 = 2 := by decide
  have wk : wr k = k := wr_of (by omega) (by omega)
  have wl : wr (legs u) = legs u := wr_of (by omega) (by omega)
  simp only [w3, w1, w2, wk, wl]
  by_cases h3 : legs u < 3
  · simp only [h3, if_true]
    by_cases h0 : 0 < legs u
    · simp only [wl, h0, if_true]
      rw [irm_of (by omega) (by omega) (by omega) (by omega)]
      simp only [bV_s]
      repeat' split <;> try rfl
    · simp only [wl, h0, if_false]
      rw [irm_of (by omega) (by omega) (by omega) (by omega)]
      simp only [bV_s]
      repeat' split <;> try rfl
  · simp only [h3, if_false]
    simp only [w3, show (0 : Int) < 3 by decide, if_true]
    rw [irm_of (by omega) (by omega) (by omega) (by omega)]
    simp only [bV_s]
    repeat' split <;> try rfl
