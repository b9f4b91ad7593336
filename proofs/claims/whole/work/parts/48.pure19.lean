/-! ===== pure part 19: bits of naturals; ask ===== -/
theorem ofI (n : Nat) : Int32.ofInt (n : Int) = nI n := by
  show _ = Int32.ofNat n
  rw [← Int32.ofInt_eq_ofNat]
theorem and_lt31 {a b : Nat} (ha : a < 2 ^ 31) : a &&& b < 2 ^ 31 := Nat.lt_of_le_of_lt Nat.and_le_left ha
theorem iadN {a b : Nat} (ha : a < 2 ^ 31) (hb : b < 2 ^ 31) : iad (a : Int) (b : Int) = ((a &&& b : Nat) : Int) := by
  unfold iad
  rw [ofI, ofI]
  have e : nI a &&& nI b = nI (a &&& b) := by
    apply Int32.toBitVec_inj.mp
    apply BitVec.eq_of_toNat_eq
    have := and_lt31 (b := b) ha
    rw [Int32.toBitVec_and, BitVec.toNat_and, pk_tn (by omega), pk_tn (by omega), pk_tn (by omega)]
  rw [e, nI_toInt (and_lt31 ha)]
theorem iodN {a b : Nat} (ha : a < 2 ^ 31) (hb : b < 2 ^ 31) : iod (a : Int) (b : Int) = ((a ||| b : Nat) : Int) := by
  unfold iod
  rw [ofI, ofI]
  have h31 := Nat.or_lt_two_pow ha hb
  have e : nI a ||| nI b = nI (a ||| b) := by
    apply Int32.toBitVec_inj.mp
    apply BitVec.eq_of_toNat_eq
    rw [Int32.toBitVec_or, BitVec.toNat_or, pk_tn (by omega), pk_tn (by omega), pk_tn (by omega)]
  rw [e, nI_toInt h31]
theorem isrN {a k : Nat} (ha : a < 2 ^ 31) (hk : k < 32) : isr (a : Int) (k : Int) = ((a / 2 ^ k : Nat) : Int) := by
  unfold isr
  rw [ofI]
  have hs : ((Int32.ofInt (k : Int) &&& 31).toBitVec.smod 32).toNat = k := by
    have := all_lt 32 (fun i => ((Int32.ofInt i &&& 31).toBitVec.smod 32).toNat == i.toNat) (by decide +kernel) (x := (k : Int)) (by omega) (by omega)
    simp only [beq_iff_eq] at this
    rw [this]; omega
  have := Nat.div_le_self a (2 ^ k)
  rw [pk_shrN ha _ k hs, nI_toInt (by omega)]
theorem iusN {a k : Nat} (ha : a < 2 ^ 31) (hk : k < 32) : ius (a : Int) (k : Int) = ((a / 2 ^ k : Nat) : Int) := by
  unfold ius
  rw [ofI]
  have hs : (((Int32.ofInt (k : Int)).toUInt32 &&& Int32.toUInt32 31).toBitVec % 32).toNat = k := by
    have := all_lt 32 (fun i => (((Int32.ofInt i).toUInt32 &&& Int32.toUInt32 31).toBitVec % 32).toNat == i.toNat) (by decide +kernel) (x := (k : Int)) (by omega) (by omega)
    simp only [beq_iff_eq] at this
    rw [this]; omega
  have := Nat.div_le_self a (2 ^ k)
  rw [pk_ushrN (by omega) _ k hs, nI_toInt (by omega)]
theorem islN {k : Nat} (hk : k < 31) : isl 1 (k : Int) = ((2 ^ k : Nat) : Int) := by
  have := all_lt 31 (fun i => isl 1 i == ((2 ^ i.toNat : Nat) : Int)) (by decide +kernel) (x := (k : Int)) (by omega) (by omega)
  simp only [beq_iff_eq] at this
  rw [this]
  congr 2
/-- bits as a natural -/
def bN (c : Nat → Bool) : Nat → Nat
  | 0 => 0
  | n + 1 => bN c n + (if c n then 2 ^ n else 0)
theorem bN_lt (c : Nat → Bool) : ∀ n, bN c n < 2 ^ n := by
  intro n
  induction n with
  | zero => simp [bN]
  | succ n ih =>
    rw [bN, Nat.pow_succ]
    split <;> omega
theorem pow31 {n : Nat} (h : n < 31) : 2 ^ n ≤ 2 ^ 30 := Nat.pow_le_pow_right (by omega) (by omega)
theorem bitN_bN (c : Nat → Bool) : ∀ n, n ≤ 31 → bitN c n = (bN c n : Int) := by
  intro n
  induction n with
  | zero => intro _; rfl
  | succ n ih =>
    intro hn
    have p := pow31 (n := n) (by omega)
    have l := bN_lt c n
    rw [bitN, ih (by omega), bN]
    by_cases h : c n = true
    · rw [if_pos h, if_pos h, islN (by omega), iodN (by omega) (by omega)]
      have := Nat.two_pow_add_eq_or_of_lt l 1
      rw [Nat.mul_one] at this
      rw [Nat.or_comm, ← this, Nat.add_comm]
    · rw [if_neg h, if_neg h]
      have : iod (bN c n : Int) ((0 : Nat) : Int) = ((bN c n ||| 0 : Nat) : Int) := iodN (by omega) (by omega)
      rw [Nat.or_zero] at this
      exact this
theorem bN_half (c : Nat → Bool) : ∀ n, bN c (n + 1) = 2 * bN (fun i => c (i + 1)) n + (if c 0 then 1 else 0) := by
  intro n
  induction n with
  | zero => simp [bN]
  | succ n ih =>
    rw [bN, ih, bN, Nat.pow_succ]
    by_cases h : c (n + 1) = true
    · rw [if_pos h, if_pos h]; omega
    · rw [if_neg h, if_neg h]; omega
theorem bN_bit : ∀ (n i : Nat) (c : Nat → Bool), i < n → bN c n / 2 ^ i % 2 = if c i then 1 else 0 := by
  intro n
  induction n with
  | zero => intro i c h; omega
  | succ n ih =>
    intro i c h
    rw [bN_half]
    cases i with
    | zero => rw [Nat.pow_zero, Nat.div_one]; split <;> omega
    | succ i =>
      rw [Nat.pow_succ, Nat.mul_comm (2 ^ i) 2, ← Nat.div_div_eq_div_mul]
      have : (2 * bN (fun i => c (i + 1)) n + (if c 0 = true then 1 else 0)) / 2 = bN (fun i => c (i + 1)) n := by split <;> omega
      rw [this]
      exact ih i _ (by omega)
theorem bit_c (c : Nat → Bool) {n i : Nat} (hn : n ≤ 31) (hi : i < n) : iad (isr (bitN c n) (i : Int)) 1 = if c i then 1 else 0 := by
  have p : 2 ^ n ≤ 2 ^ 31 := Nat.pow_le_pow_right (by omega) (by omega)
  have l := bN_lt c n
  have := Nat.div_le_self (bN c n) (2 ^ i)
  rw [bitN_bN c n hn, isrN (by omega) (by omega)]
  have e : iad ((bN c n / 2 ^ i : Nat) : Int) ((1 : Nat) : Int) = _ := iadN (by omega) (by omega)
  have e2 : iad ((bN c n / 2 ^ i : Nat) : Int) 1 = (((bN c n / 2 ^ i) &&& 1 : Nat) : Int) := e
  rw [e2, Nat.and_one_is_mod, bN_bit n i c hi]
  split <;> rfl
def cnt (c : Nat → Bool) (n : Nat) : Int := sumN (fun i => if c i then 1 else 0) n
theorem cnt_bd (c : Nat → Bool) (n : Nat) : 0 ≤ cnt c n ∧ cnt c n ≤ n := by
  have := sumN_bd (g := fun i => if c i then (1 : Int) else 0) (B := 1) (n := n) (fun i _ => by split <;> omega)
  unfold cnt
  omega
theorem sumN_shift (g : Nat → Int) : ∀ n, sumN g (n + 1) = g 0 + sumN (fun i => g (i + 1)) n := by
  intro n
  induction n with
  | zero => simp [sumN]
  | succ n ih => rw [sumN, ih, sumN]; omega
/-- the model's count of bits -/
theorem m_bitsN (σ : St) : ∀ (n m : Nat) (c : Nat → Bool) (a : Int), n ≤ 31 → n < m → f_X5_bitsOf_4 m a (bN c n : Int) σ = some (a + cnt c n, σ) := by
  intro n
  induction n with
  | zero =>
    intro m c a h1 h2
    obtain ⟨m, rfl⟩ : ∃ y, m = y + 1 := ⟨m - 1, by omega⟩
    show f_X5_bitsOf_4 (m + 1) a 0 σ = _
    rw [f_X5_bitsOf_4, if_neg (by decide)]
    simp [cnt, sumN]
  | succ n ih =>
    intro m c a h1 h2
    obtain ⟨m, rfl⟩ : ∃ y, m = y + 1 := ⟨m - 1, by omega⟩
    have p : 2 ^ (n + 1) ≤ 2 ^ 31 := Nat.pow_le_pow_right (by omega) (by omega)
    have l := bN_lt c (n + 1)
    have e1 : iad (bN c (n + 1) : Int) 1 = (((bN c (n + 1)) &&& 1 : Nat) : Int) := iadN (b := 1) (by omega) (by omega)
    have e2 : isr (bN c (n + 1) : Int) 1 = ((bN c (n + 1) / 2 ^ 1 : Nat) : Int) := isrN (k := 1) (by omega) (by omega)
    have h := bN_half c n
    have ec : cnt c (n + 1) = (if c 0 then 1 else 0) + cnt (fun i => c (i + 1)) n := sumN_shift _ n
    rw [f_X5_bitsOf_4, wr_of (by omega) (by omega)]
    by_cases z : bN c (n + 1) = 0
    · rw [z, if_neg (by decide)]
      have hz : ∀ (n : Nat) (c : Nat → Bool), bN c n = 0 → cnt c n = 0 := by
        intro n
        induction n with
        | zero => intro c _; rfl
        | succ n ihn =>
          intro c hc
          rw [bN] at hc
          have a1 : bN c n = 0 := by omega
          have a2 : ¬ c n = true := by
            intro hh
            rw [if_pos hh] at hc
            have := Nat.two_pow_pos n
            omega
          show sumN _ (n + 1) = 0
          rw [sumN]
          have := ihn c a1
          unfold cnt at this
          rw [this]
          simp [a2]
      rw [hz _ _ z, Int.add_zero]
    · rw [if_pos (by omega), e1, e2, Nat.and_one_is_mod]
      have e3 : bN c (n + 1) / 2 ^ 1 = bN (fun i => c (i + 1)) n := by
        rw [h, Nat.pow_one]; split <;> omega
      have e4 : bN c (n + 1) % 2 = if c 0 then 1 else 0 := by
        rw [h]; split <;> omega
      rw [e3, e4, ih m _ _ (by omega) (by omega), ec]
      congr 2
      split <;> simp <;> omega
theorem m_bitsC (c : Nat → Bool) {n : Nat} (hn : n ≤ 31) (σ : St) : f_X5_bitsOf (bitN c n) σ = some (cnt c n, σ) := by
  unfold f_X5_bitsOf
  rw [bitN_bN c n hn, m_bitsN σ n FU c 0 hn (by unfold FU; omega), Int.zero_add]
/-- the class's count of bits, of sixteen -/
def bc1 (x : Nat) : Nat := x - ((x / 2 ^ 1) &&& 1431655765)
def bc2 (x : Nat) : Nat := (x &&& 858993459) + ((x / 2 ^ 2) &&& 858993459)
def bc3 (x : Nat) : Nat := (x + x / 2 ^ 4) &&& 252645135
def bc4 (x : Nat) : Nat := x + x / 2 ^ 8
def bc5 (x : Nat) : Nat := (x + x / 2 ^ 16) &&& 63
def bcT : Nat → Nat → Nat → Bool
  | 0, x, c => Nat.beq (bc5 (bc4 (bc3 (bc2 (bc1 x))))) c
  | n + 1, x, c => bcT n (2 * x) c && bcT n (2 * x + 1) (c + 1)
theorem bcT_ok : bcT 16 0 0 = true := by decide +kernel
