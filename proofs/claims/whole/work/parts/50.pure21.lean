/-! ===== pure part 21: lowest terms; powers; sums over sets of reports ===== -/
theorem ofL (n : Nat) : Int64.ofInt (n : Int) = lN n := by
  show _ = Int64.ofNat n
  rw [← Int64.ofInt_eq_ofNat]
theorem lrm_N {a b : Nat} (ha : a < 2 ^ 62) (h0 : 0 < b) (hb : b < 2 ^ 62) : lrm (a : Int) (b : Int) = some ((a % b : Nat) : Int) := by
  unfold lrm
  have l : a % b < b := Nat.mod_lt _ h0
  rw [wl_of (by omega) (by omega), if_neg (by omega), ofL, ofL, pk_lRem (by omega) h0 (by omega), ← ofL]
  exact congrArg some (wl_of (by omega) (by omega))
theorem ldv_N {a b : Nat} (ha : a < 2 ^ 62) (h0 : 0 < b) (hb : b < 2 ^ 62) : ldv (a : Int) (b : Int) = some ((a / b : Nat) : Int) := by
  unfold ldv
  have l := Nat.div_le_self a b
  rw [wl_of (by omega) (by omega), if_neg (by omega), ofL, ofL, pk_lDiv (by omega) h0 (by omega), ← ofL]
  generalize a / b = q at *
  exact congrArg some (wl_of (by omega) (by omega))
theorem lcm_0 {a : Nat} (ha : a < 2 ^ 62) : wr (lcm (a : Int) 0) = 0 ↔ a = 0 := by
  have w0 : wr 0 = 0 := by decide
  have w1 : wr 1 = 1 := by decide
  unfold lcm
  rw [wl_of (x := (a : Int)) (by omega) (by omega), wl_of (x := 0) (by omega) (by omega)]
  by_cases c : a = 0
  · subst c
    exact ⟨fun _ => rfl, fun _ => by rw [if_neg (by omega), if_pos (by omega)]; exact w0⟩
  · rw [if_pos (by omega), w1]
    exact ⟨fun h => by omega, fun h => absurd h c⟩
/-- a part of the lowest terms -/
def lowT (u d : Nat) (w : Int) : Int := if w = 0 then ((u / Nat.gcd u d : Nat) : Int) else ((d / Nat.gcd u d : Nat) : Int)
theorem c_low_loop {u d : Nat} (hu : u < 2 ^ 62) (hd : d < 2 ^ 62) {w : Int} (hw : IR w) (σ : St) (hg : 0 < Nat.gcd u d) : ∀ (k n i a r : Nat), r ≤ a → a < 2 ^ 62 → a * r < 2 ^ k → i + k ≤ 98 → k < n → Nat.gcd a r = Nat.gcd u d → f_X4_lowestTerms_9 n u d w a r i σ = some (lowT u d w, σ) := by
  have w100 : wr 100 = 100 := by decide
  have fin : ∀ a : Nat, a < 2 ^ 62 → a = Nat.gcd u d → f_X4_lowestTerms_44 u d w a σ = some (lowT u d w, σ) := by
    intro a ha e
    unfold f_X4_lowestTerms_44 f_X4_lowestTerms_54 lowT
    have hz : ¬ wr (lcm (a : Int) 0) = 0 := fun z => by have := (lcm_0 ha).mp z; omega
    rw [if_neg hz, if_neg hz, ldv_N hu (by omega) ha, ldv_N hd (by omega) ha, bV_s, bV_s, wrI hw, e]
    split <;> rfl
  intro k
  induction k with
  | zero =>
    intro n i a r h1 h2 h3 h4 h5 h6
    obtain ⟨n, rfl⟩ : ∃ y, n = y + 1 := ⟨n - 1, by omega⟩
    have r0 : r = 0 := by
      rcases Nat.eq_zero_or_pos r with h | h
      · exact h
      · have := Nat.mul_pos (show 0 < a by omega) h
        omega
    subst r0
    rw [Nat.gcd_zero_right] at h6
    rw [f_X4_lowestTerms_9, w100, wr_of (x := (i : Int)) (by omega) (by omega), if_pos (by omega), if_pos ((lcm_0 (by omega)).mpr rfl)]
    exact fin a h2 h6
  | succ k ih =>
    intro n i a r h1 h2 h3 h4 h5 h6
    obtain ⟨n, rfl⟩ : ∃ y, n = y + 1 := ⟨n - 1, by omega⟩
    rw [f_X4_lowestTerms_9, w100, wr_of (x := (i : Int)) (by omega) (by omega), if_pos (by omega)]
    by_cases c : r = 0
    · subst c
      rw [Nat.gcd_zero_right] at h6
      rw [if_pos ((lcm_0 (by omega)).mpr rfl)]
      exact fin a h2 h6
    · rw [if_neg (fun z => c ((lcm_0 (by omega)).mp z)), lrm_N h2 (by omega) (by omega), bV_s, show (i : Int) + 1 = ((i + 1 : Nat) : Int) by omega]
      have l : a % r < r := Nat.mod_lt _ (by omega)
      have q : 1 ≤ a / r := (Nat.le_div_iff_mul_le (by omega)).mpr (by omega)
      have e := Nat.div_add_mod a r
      have q2 : r * 1 ≤ r * (a / r) := Nat.mul_le_mul_left r q
      have h : r * (a % r) * 2 < 2 ^ k * 2 := by
        have z : r * (a % r) * 2 ≤ a * r := by
          rw [Nat.mul_assoc, Nat.mul_comm a r]
          exact Nat.mul_le_mul_left r (by omega)
        rw [Nat.pow_succ] at h3
        omega
      exact ih n (i + 1) r (a % r) (by omega) (by omega) (by omega) (by omega) (by omega) (by rw [← h6, Nat.gcd_comm a r, Nat.gcd_rec r a, Nat.gcd_comm])
theorem pow_lt62 {k : Nat} (h : k ≤ 61) : 2 ^ k < 2 ^ 62 := Nat.pow_lt_pow_right (by omega) (by omega)
theorem c_low {u d : Nat} (hu : u < 2 ^ 45) (hd0 : 0 < d) (hd : d < 2 ^ 45) {w : Int} (hw : IR w) (σ : St) : f_X4_lowestTerms u d w σ = some (lowT u d w, σ) := by
  have w100 : wr 100 = 100 := by decide
  have g : 0 < Nat.gcd u d := Nat.gcd_pos_of_pos_right _ hd0
  have pr : ∀ x y : Nat, x < 2 ^ 45 → y < 2 ^ 45 → x * y < 2 ^ 90 := by
    intro x y hx hy
    have h1 : x * y ≤ x * 2 ^ 45 := Nat.mul_le_mul_left x (by omega)
    have h2 : x * 2 ^ 45 < 2 ^ 45 * 2 ^ 45 := Nat.mul_lt_mul_of_pos_right hx (by omega)
    have h3 : (2 : Nat) ^ 45 * 2 ^ 45 = 2 ^ 90 := by decide
    omega
  unfold f_X4_lowestTerms
  by_cases c : u ≤ d
  · exact c_low_loop (by omega) (by omega) hw σ g 90 FU 0 d u c (by omega) (pr d u hd hu) (by omega) (by unfold FU; omega) (Nat.gcd_comm d u)
  · show f_X4_lowestTerms_9 (3999 + 1) u d w d u 0 σ = _
    rw [f_X4_lowestTerms_9, if_pos (by decide), if_neg (fun z => by have := (lcm_0 (show u < 2 ^ 62 by omega)).mp z; omega), lrm_N (by omega) (by omega) (by omega), bV_s, Nat.mod_eq_of_lt (by omega)]
    exact c_low_loop (by omega) (by omega) hw σ g 90 3999 1 u d (by omega) (by omega) (pr u d hu hd) (by omega) (by omega) rfl
theorem m_low_loop {u d : Nat} (hu : u < 2 ^ 62) (hd : d < 2 ^ 62) {w : Int} (hw : IR w) (σ : St) (hg : 0 < Nat.gcd u d) : ∀ (k n a r : Nat), r ≤ a → a < 2 ^ 62 → a * r < 2 ^ k → k < n → Nat.gcd a r = Nat.gcd u d → f_X5_lowest_6 n u d w a r σ = some (lowT u d w, σ) := by
  have fin : ∀ (n a : Nat), a < 2 ^ 62 → a = Nat.gcd u d → f_X5_lowest_6 (n + 1) u d w a (0 : Nat) σ = some (lowT u d w, σ) := by
    intro n a ha e
    rw [f_X5_lowest_6, if_pos ((lcm_0 (by omega)).mpr rfl), ldv_N hu (by omega) ha, ldv_N hd (by omega) ha, bV_s, bV_s, wrI hw, e]
    unfold lowT
    split <;> rfl
  intro k
  induction k with
  | zero =>
    intro n a r h1 h2 h3 h5 h6
    obtain ⟨n, rfl⟩ : ∃ y, n = y + 1 := ⟨n - 1, by omega⟩
    have r0 : r = 0 := by
      rcases Nat.eq_zero_or_pos r with h | h
      · exact h
      · have := Nat.mul_pos (show 0 < a by omega) h
        omega
    subst r0
    rw [Nat.gcd_zero_right] at h6
    exact fin n a h2 h6
  | succ k ih =>
    intro n a r h1 h2 h3 h5 h6
    obtain ⟨n, rfl⟩ : ∃ y, n = y + 1 := ⟨n - 1, by omega⟩
    by_cases c : r = 0
    · subst c
      rw [Nat.gcd_zero_right] at h6
      exact fin n a h2 h6
    · rw [f_X5_lowest_6, if_neg (fun z => c ((lcm_0 (by omega)).mp z)), lrm_N h2 (by omega) (by omega), bV_s]
      have l : a % r < r := Nat.mod_lt _ (by omega)
      have q : 1 ≤ a / r := (Nat.le_div_iff_mul_le (by omega)).mpr (by omega)
      have e := Nat.div_add_mod a r
      have q2 : r * 1 ≤ r * (a / r) := Nat.mul_le_mul_left r q
      have h : r * (a % r) * 2 < 2 ^ k * 2 := by
        have z : r * (a % r) * 2 ≤ a * r := by
          rw [Nat.mul_assoc, Nat.mul_comm a r]
          exact Nat.mul_le_mul_left r (by omega)
        rw [Nat.pow_succ] at h3
        omega
      exact ih n r (a % r) (by omega) (by omega) (by omega) (by omega) (by rw [← h6, Nat.gcd_comm a r, Nat.gcd_rec r a, Nat.gcd_comm])
theorem m_low {u d : Nat} (hu : u < 2 ^ 45) (hd0 : 0 < d) (hd : d < 2 ^ 45) {w : Int} (hw : IR w) (σ : St) : f_X5_lowest u d w σ = some (lowT u d w, σ) := by
  have g : 0 < Nat.gcd u d := Nat.gcd_pos_of_pos_right _ hd0
  have pr : ∀ x y : Nat, x < 2 ^ 45 → y < 2 ^ 45 → x * y < 2 ^ 90 := by
    intro x y hx hy
    have h1 : x * y ≤ x * 2 ^ 45 := Nat.mul_le_mul_left x (by omega)
    have h2 : x * 2 ^ 45 < 2 ^ 45 * 2 ^ 45 := Nat.mul_lt_mul_of_pos_right hx (by omega)
    have h3 : (2 : Nat) ^ 45 * 2 ^ 45 = 2 ^ 90 := by decide
    omega
  unfold f_X5_lowest
  by_cases c : d ≤ u
  · exact m_low_loop (by omega) (by omega) hw σ g 90 FU u d c (by omega) (pr u d hu hd) (by unfold FU; omega) rfl
  · show f_X5_lowest_6 (3999 + 1) u d w u d σ = _
    rw [f_X5_lowest_6, if_neg (fun z => by have := (lcm_0 (show d < 2 ^ 62 by omega)).mp z; omega), lrm_N (by omega) (by omega) (by omega), bV_s, Nat.mod_eq_of_lt (by omega)]
    exact m_low_loop (by omega) (by omega) hw σ g 90 3999 d u (by omega) (by omega) (pr d u hd hu) (by omega) (Nat.gcd_comm d u)
theorem lowT_mul (k : Nat) (hk : 0 < k) (u d : Nat) (w : Int) : lowT (k * u) (k * d) w = lowT u d w := by
  unfold lowT
  rw [Nat.gcd_mul_left, Nat.mul_div_mul_left _ _ hk, Nat.mul_div_mul_left _ _ hk]
theorem c_power {b : Int} (hb : IR b) (σ : St) : ∀ (k i n : Nat) (a : Int) (e : Nat), i + k = e → e ≤ 1000 → k < n → f_X4_power_5 n b e a i σ = some (a * b ^ k, σ) := by
  intro k
  induction k with
  | zero =>
    intro i n a e h1 h2 h3
    obtain ⟨n, rfl⟩ : ∃ y, n = y + 1 := ⟨n - 1, by omega⟩
    rw [f_X4_power_5, wr_of (x := (i : Int)) (by omega) (by omega), wr_of (x := (e : Int)) (by omega) (by omega), if_neg (by omega), Int.pow_zero, Int.mul_one]
  | succ k ih =>
    intro i n a e h1 h2 h3
    obtain ⟨n, rfl⟩ : ∃ y, n = y + 1 := ⟨n - 1, by omega⟩
    rw [f_X4_power_5, wr_of (x := (i : Int)) (by omega) (by omega), wr_of (x := (e : Int)) (by omega) (by omega), if_pos (by omega), wrI hb, show (i : Int) + 1 = ((i + 1 : Nat) : Int) by omega, ih (i + 1) n _ e (by omega) h2 (by omega), Int.pow_succ]
    congr 2
    rw [Int.mul_assoc, Int.mul_comm b]
theorem c_pow {b : Int} (hb : IR b) (σ : St) {e : Nat} (he : e ≤ 1000) : f_X4_power b e σ = some (b ^ e, σ) := by
  unfold f_X4_power
  have := c_power hb σ e 0 FU 1 e (by omega) he (by unfold FU; omega)
  rw [Int.one_mul] at this
  exact this
/-! sums over sets -/
def bo (s i : Nat) : Bool := decide (s / 2 ^ i % 2 = 1)
theorem bN_bo : ∀ (n s : Nat), s < 2 ^ n → bN (bo s) n = s := by
  intro n
  induction n with
  | zero => intro s h; simp [bN]; omega
  | succ n ih =>
    intro s h
    rw [Nat.pow_succ] at h
    rw [bN_half]
    have e : (fun i => bo s (i + 1)) = bo (s / 2) := by
      funext i
      unfold bo
      rw [Nat.pow_succ, Nat.mul_comm (2 ^ i) 2, ← Nat.div_div_eq_div_mul]
    rw [e, ih (s / 2) (by omega)]
    unfold bo
    rw [Nat.pow_zero, Nat.div_one]
    by_cases c : s % 2 = 1
    · simp [c]; omega
    · simp [c]; omega
theorem bo_lo {n s : Nat} (h : s < 2 ^ n) {i : Nat} (hi : n ≤ i) : bo s i = false := by
  have p : 2 ^ n ≤ 2 ^ i := Nat.pow_le_pow_right (by omega) hi
  unfold bo
  rw [Nat.div_eq_of_lt (by omega)]
  rfl
theorem bo_hi {n s : Nat} (h : s < 2 ^ n) : bo (2 ^ n + s) n = true := by
  unfold bo
  have p := Nat.two_pow_pos n
  rw [Nat.add_div_left _ p, Nat.div_eq_of_lt h]
  rfl
theorem bo_add {n s i : Nat} (hi : i < n) : bo (2 ^ n + s) i = bo s i := by
  unfold bo
  have p := Nat.two_pow_pos i
  have e : 2 ^ n = 2 ^ i * (2 * 2 ^ (n - i - 1)) := by
    rw [← Nat.pow_succ', ← Nat.pow_add]
    congr 1
    omega
  rw [e, Nat.mul_add_div p]
  congr 2
  omega
def prodN (p : Nat → Int) : Nat → Int
  | 0 => 1
  | n + 1 => prodN p n * p n
theorem prodN_ext {p p' : Nat → Int} : ∀ {n : Nat}, (∀ i, i < n → p i = p' i) → prodN p n = prodN p' n := by
  intro n
  induction n with
  | zero => intro _; rfl
  | succ n ih => intro h; rw [prodN, prodN, ih (fun i hi => h i (by omega)), h n (by omega)]
def stb (t : Nat → Bool) (n : Nat) (x : Bool) : Nat → Bool := fun i => if i = n then x else t i
def mix (n : Nat) (a t : Nat → Bool) : Nat → Bool := fun i => if i < n then a i else t i
def EX (p : Nat → Bool → Int) (G : (Nat → Bool) → Int) : Nat → (Nat → Bool) → Int
  | 0, t => G t
  | n + 1, t => p n false * EX p G n (stb t n false) + p n true * EX p G n (stb t n true)
theorem sumN_add (g : Nat → Int) (a : Nat) : ∀ b, sumN g (a + b) = sumN g a + sumN (fun i => g (a + i)) b := by
  intro b
  induction b with
  | zero => simp [sumN]
  | succ b ih => rw [← Nat.add_assoc, sumN, ih, sumN]; omega
theorem sumN_mul (c : Int) (g : Nat → Int) : ∀ n, sumN (fun i => c * g i) n = c * sumN g n := by
  intro n
  induction n with
  | zero => simp [sumN]
  | succ n ih => rw [sumN, ih, sumN, Int.mul_add]
theorem sum_EX (p : Nat → Bool → Int) (G : (Nat → Bool) → Int) : ∀ (n : Nat) (t : Nat → Bool), sumN (fun s => prodN (fun i => p i (bo s i)) n * G (mix n (bo s) t)) (2 ^ n) = EX p G n t := by
  intro n
  induction n with
  | zero =>
    intro t
    have e : mix 0 (bo 0) t = t := by funext i; unfold mix; rw [if_neg (by omega)]
    show (0 : Int) + 1 * G (mix 0 (bo 0) t) = G t
    rw [e]; omega
  | succ n ih =>
    intro t
    rw [Nat.pow_succ, Nat.mul_two, sumN_add, EX, ← ih, ← ih, ← sumN_mul, ← sumN_mul]
    congr 1
    · refine sumN_ext (fun s hs => ?_)
      have e : mix (n + 1) (bo s) t = mix n (bo s) (stb t n false) := by
        funext i
        unfold mix stb
        by_cases c : i < n
        · rw [if_pos (by omega), if_pos c]
        · by_cases c2 : i = n
          · subst c2; rw [if_pos (by omega), if_neg c, if_pos rfl, bo_lo hs (Nat.le_refl _)]
          · rw [if_neg (by omega), if_neg c, if_neg c2]
      rw [e, prodN, bo_lo hs (Nat.le_refl _), Int.mul_comm (prodN _ n), Int.mul_assoc]
    · refine sumN_ext (fun s hs => ?_)
      have e : mix (n + 1) (bo (2 ^ n + s)) t = mix n (bo s) (stb t n true) := by
        funext i
        unfold mix stb
        by_cases c : i < n
        · rw [if_pos (by omega), if_pos c, bo_add c]
        · by_cases c2 : i = n
          · subst c2; rw [if_pos (by omega), if_neg c, if_pos rfl, bo_hi hs]
          · rw [if_neg (by omega), if_neg c, if_neg c2]
      rw [e, prodN, bo_hi hs, prodN_ext (p' := fun i => p i (bo s i)) (fun i hi => by rw [bo_add hi]), Int.mul_comm (prodN _ n), Int.mul_assoc]
theorem EX_sum (p : Nat → Bool → Int) (g : Nat → (Nat → Bool) → Int) (R : Nat) : ∀ (n : Nat) (t : Nat → Bool), EX p (fun b => sumN (fun h => g h b) R) n t = sumN (fun h => EX p (g h) n t) R := by
  have ad : ∀ (f f' : Nat → Int) (R : Nat), sumN f R + sumN f' R = sumN (fun h => f h + f' h) R := by
    intro f f' R
    induction R with
    | zero => rfl
    | succ R ih => rw [sumN, sumN, sumN, ← ih]; omega
  intro n
  induction n with
  | zero => intro t; rfl
  | succ n ih =>
    intro t
    rw [EX, ih, ih, ← sumN_mul, ← sumN_mul, ad]
    rfl
def pM (v : Int) : Nat → Bool → Int := fun _ x => if x then v else 10 - v
def pO (v : Int) (own : Nat → Bool) : Nat → Bool → Int := fun i x => if own i then (if x then v else 10 - v) else (if x then 0 else 1)
def nno (own : Nat → Bool) : Nat → Nat
  | 0 => 0
  | n + 1 => nno own n + (if own n then 0 else 1)
theorem EX_cong {p : Nat → Bool → Int} {G : (Nat → Bool) → Int} {own : Nat → Bool} (hG : ∀ b b', (∀ i, own i = true → b i = b' i) → G b = G b') : ∀ (n : Nat) (t t' : Nat → Bool), (∀ i, own i = true → n ≤ i → t i = t' i) → EX p G n t = EX p G n t' := by
  intro n
  induction n with
  | zero => intro t t' h; exact hG t t' (fun i hi => h i hi (by omega))
  | succ n ih =>
    intro t t' h
    have : ∀ x, ∀ i, own i = true → n ≤ i → stb t n x i = stb t' n x i := by
      intro x i hi hn
      unfold stb
      by_cases c : i = n
      · rw [if_pos c, if_pos c]
      · rw [if_neg c, if_neg c]; exact h i hi (by omega)
    rw [EX, EX, ih _ _ (this false), ih _ _ (this true)]
theorem EX_own {G : (Nat → Bool) → Int} {own : Nat → Bool} (v : Int) (hG : ∀ b b', (∀ i, own i = true → b i = b' i) → G b = G b') : ∀ (n : Nat) (t : Nat → Bool), EX (pM v) G n t = 10 ^ (nno own n) * EX (pO v own) G n t := by
  intro n
  induction n with
  | zero => intro t; simp [EX, nno]
  | succ n ih =>
    intro t
    rw [EX, ih, ih, EX, nno]
    by_cases c : own n = true
    · simp only [pM, pO, c, if_true, if_false, Bool.false_eq_true, Nat.add_zero]
      rw [Int.mul_add]
      congr 1 <;> rw [Int.mul_left_comm]
    · have e : EX (pO v own) G n (stb t n true) = EX (pO v own) G n (stb t n false) := EX_cong hG n _ _ (fun i hi hn => by
        unfold stb
        by_cases k : i = n
        · subst k; exact absurd hi c
        · rw [if_neg k, if_neg k])
      simp only [pM, pO, c, if_true, if_false, Bool.false_eq_true]
      rw [e, Int.pow_succ, ← Int.add_mul, Int.zero_mul, Int.add_zero, Int.one_mul, show (10 - v + v : Int) = 10 by omega, Int.mul_comm (10 ^ nno own n) 10, Int.mul_assoc]
theorem EX_more {G : (Nat → Bool) → Int} {own : Nat → Bool} (v : Int) {M : Nat} (ho : ∀ i, M ≤ i → own i = false) : ∀ k, EX (pO v own) G (M + k) (fun _ => false) = EX (pO v own) G M (fun _ => false) := by
  intro k
  induction k with
  | zero => rfl
  | succ k ih =>
    have e : stb (fun _ => false) (M + k) false = fun _ => false := by funext i; unfold stb; split <;> rfl
    show EX (pO v own) G ((M + k) + 1) _ = _
    rw [EX, e, ih]
    simp [pO, ho (M + k) (by omega)]
theorem EX_bd {p : Nat → Bool → Int} {G : (Nat → Bool) → Int} {B : Int} (hB : 0 ≤ B) (hp : ∀ i x, 0 ≤ p i x) (hs : ∀ i, p i false + p i true ≤ 10) (hG : ∀ b, 0 ≤ G b ∧ G b ≤ B) : ∀ (n : Nat) (t : Nat → Bool), 0 ≤ EX p G n t ∧ EX p G n t ≤ 10 ^ n * B := by
  intro n
  induction n with
  | zero => intro t; have := hG t; simp [EX]; omega
  | succ n ih =>
    intro t
    have a := ih (stb t n false)
    have b := ih (stb t n true)
    have h1 := hp n false
    have h2 := hp n true
    have h3 := hs n
    have z : (0 : Int) ≤ 10 ^ n * B := Int.mul_nonneg (Int.pow_nonneg (by omega)) hB
    rw [EX]
    have m1 := Int.mul_nonneg h1 a.1
    have m2 := Int.mul_nonneg h2 b.1
    have u1 := Int.mul_le_mul_of_nonneg_left a.2 h1
    have u2 := Int.mul_le_mul_of_nonneg_left b.2 h2
    have u3 := Int.mul_le_mul_of_nonneg_right h3 z
    rw [Int.add_mul] at u3
    refine ⟨by omega, ?_⟩
    rw [Int.pow_succ, Int.mul_comm (10 ^ n) 10, Int.mul_assoc]
    omega
