/-! ===== pure part 22: luck ===== -/
theorem tb_bo (a i : Nat) : a.testBit i = bo a i := by
  unfold bo
  rw [Nat.testBit_eq_decide_div_mod_eq]
theorem nI_bit {a i : Nat} (hi : i < 32) : (nI a).toBitVec.getLsbD i = bo a i := by
  have e : (nI a).toBitVec = BitVec.ofNat 32 a := rfl
  rw [e, BitVec.getLsbD_ofNat, tb_bo]
  simp [hi]
theorem bitG {z : Int} {i : Nat} (hi : i < 32) : wr (iad (isr z (i : Int)) 1) = 0 ↔ (Int32.ofInt z).toBitVec.getLsbD i = false := by
  have hs : ((Int32.ofInt (i : Int) &&& 31).toBitVec.smod 32).toNat = i := by
    have := all_lt 32 (fun i => ((Int32.ofInt i &&& 31).toBitVec.smod 32).toNat == i.toNat) (by decide +kernel) (x := (i : Int)) (by omega) (by omega)
    simp only [beq_iff_eq] at this
    rw [this]; omega
  unfold wr iad isr
  rw [Int32.ofInt_toInt, Int32.ofInt_toInt, pk_and _ 1 (by decide), Nat.pow_one]
  have l : (Int32.ofInt z >>> (Int32.ofInt (i : Int) &&& 31)).toBitVec.toNat % 2 < 2 := Nat.mod_lt _ (by omega)
  rw [nI_toInt (by omega)]
  have e1 : (Int32.ofInt z >>> (Int32.ofInt (i : Int) &&& 31)).toBitVec.getLsbD 0 = (Int32.ofInt z).toBitVec.getLsbD i := by
    rw [Int32.toBitVec_shiftRight, BitVec.sshiftRight_eq', hs, BitVec.getLsbD_sshiftRight]
    simp [hi]
  have e2 : (Int32.ofInt z >>> (Int32.ofInt (i : Int) &&& 31)).toBitVec.getLsbD 0 = decide ((Int32.ofInt z >>> (Int32.ofInt (i : Int) &&& 31)).toBitVec.toNat % 2 = 1) := by
    rw [BitVec.getLsbD, Nat.testBit_zero]
  rw [← e1, e2, decide_eq_false_iff_not]
  omega
theorem neg1_bit {i : Nat} (hi : i < 32) : (Int32.ofInt (-1)).toBitVec.getLsbD i = true := by
  have := all_lt 32 (fun i => (Int32.ofInt (-1)).toBitVec.getLsbD i.toNat) (by decide +kernel) (x := (i : Int)) (by omega) (by omega)
  rw [show ((i : Int)).toNat = i by omega] at this
  exact this
theorem sub_iff {a o : Nat} (ha : a < 256) (ho : o < 256) : wr (iad (a : Int) (ixd (o : Int) (-1))) = 0 ↔ ∀ i, i < 8 → bo a i = true → bo o i = true := by
  unfold wr iad ixd
  rw [Int32.ofInt_toInt, Int32.ofInt_toInt, ofI, ofI]
  have e : (nI a &&& (nI o ^^^ Int32.ofInt (-1))).toInt = 0 ↔ (nI a &&& (nI o ^^^ Int32.ofInt (-1))).toBitVec = 0#32 := by
    constructor
    · intro h
      have : nI a &&& (nI o ^^^ Int32.ofInt (-1)) = Int32.ofInt 0 := by rw [← h, Int32.ofInt_toInt]
      rw [this]; rfl
    · intro h
      have : nI a &&& (nI o ^^^ Int32.ofInt (-1)) = Int32.ofInt 0 := Int32.toBitVec_inj.mp h
      rw [this]; rfl
  rw [e]
  constructor
  · intro h i hi hb
    have g : (nI a &&& (nI o ^^^ Int32.ofInt (-1))).toBitVec.getLsbD i = false := by rw [h]; simp
    rw [Int32.toBitVec_and, Int32.toBitVec_xor, BitVec.getLsbD_and, BitVec.getLsbD_xor, nI_bit (by omega), nI_bit (by omega), neg1_bit (by omega), hb] at g
    cases hh : bo o i with
    | true => rfl
    | false => rw [hh] at g; cases g
  · intro h
    apply BitVec.eq_of_getLsbD_eq
    intro i hi
    rw [Int32.toBitVec_and, Int32.toBitVec_xor, BitVec.getLsbD_and, BitVec.getLsbD_xor, nI_bit (by omega), nI_bit (by omega), neg1_bit (by omega)]
    by_cases c : i < 8
    · cases hh : bo a i with
      | true => rw [h i c hh]; simp
      | false => simp
    · rw [bo_lo (n := 8) ha (by omega)]; simp
theorem mask_bit {a o i : Nat} (hi : i < 32) : wr (iad (isr (iod (a : Int) (ixd (o : Int) (-1))) (i : Int)) 1) = 0 ↔ (bo o i = true ∧ bo a i = false) := by
  rw [bitG hi]
  unfold iod ixd
  rw [Int32.ofInt_toInt, Int32.ofInt_toInt, ofI, ofI, Int32.toBitVec_or, Int32.toBitVec_xor, BitVec.getLsbD_or, BitVec.getLsbD_xor, nI_bit hi, nI_bit hi, neg1_bit hi]
  cases bo a i <;> cases bo o i <;> simp
theorem nat_bit {a i : Nat} (hi : i < 32) : wr (iad (isr (a : Int) (i : Int)) 1) = 0 ↔ bo a i = false := by
  rw [bitG hi, ofI, nI_bit hi]
theorem nat_bit1 {a i : Nat} (ha : a < 2 ^ 31) (hi : i < 32) : wr (iad (isr (a : Int) (i : Int)) 1) = wr 1 ↔ bo a i = true := by
  have w1 : wr 1 = 1 := by decide
  have l := Nat.div_le_self a (2 ^ i)
  have e : iad (isr (a : Int) (i : Int)) 1 = (((a / 2 ^ i) % 2 : Nat) : Int) := by
    rw [isrN ha hi]
    have := iadN (a := a / 2 ^ i) (b := 1) (by omega) (by omega)
    rw [Nat.and_one_is_mod] at this
    exact this
  have l2 : a / 2 ^ i % 2 < 2 := Nat.mod_lt _ (by omega)
  rw [e, w1]
  unfold bo
  rw [decide_eq_true_iff]
  generalize a / 2 ^ i % 2 = z at *
  rw [wr_of (by omega) (by omega)]
  omega
/-! counts -/
def cN (c : Nat → Bool) : Nat → Nat
  | 0 => 0
  | n + 1 => cN c n + (if c n then 1 else 0)
theorem cnt_cN (c : Nat → Bool) : ∀ n, cnt c n = (cN c n : Int) := by
  intro n
  induction n with
  | zero => rfl
  | succ n ih =>
    have e : cnt c (n + 1) = cnt c n + (if c n then 1 else 0) := rfl
    rw [e, ih, cN]
    split <;> omega
theorem cN_le (c : Nat → Bool) : ∀ n, cN c n ≤ n := by
  intro n
  induction n with
  | zero => exact Nat.le_refl 0
  | succ n ih => rw [cN]; split <;> omega
theorem cN_more {c : Nat → Bool} {M : Nat} (h : ∀ i, M ≤ i → c i = false) : ∀ k, cN c (M + k) = cN c M := by
  intro k
  induction k with
  | zero => rfl
  | succ k ih =>
    show cN c (M + k) + (if c (M + k) then 1 else 0) = cN c M
    rw [ih, h (M + k) (by omega)]
    rfl
theorem bN_more {c : Nat → Bool} {M : Nat} (h : ∀ i, M ≤ i → c i = false) : ∀ k, bN c (M + k) = bN c M := by
  intro k
  induction k with
  | zero => rfl
  | succ k ih =>
    show bN c (M + k) + (if c (M + k) then 2 ^ (M + k) else 0) = bN c M
    rw [ih, h (M + k) (by omega)]
    rfl
theorem nno_cN (c : Nat → Bool) : ∀ n, nno c n + cN c n = n := by
  intro n
  induction n with
  | zero => rfl
  | succ n ih => rw [nno, cN]; split <;> omega
theorem bo_bN {c : Nat → Bool} {n : Nat} (h : ∀ i, n ≤ i → c i = false) : bo (bN c n) = c := by
  funext i
  by_cases k : i < n
  · unfold bo
    rw [bN_bit n i c k]
    cases hh : c i <;> simp
  · rw [bo_lo (bN_lt c n) (by omega), h i (by omega)]
/-- the class's count of the bits of a byte -/
theorem bc_8 {s : Nat} (hs : s < 256) : bc (s : Int) = (cN (bo s) 8 : Int) := by
  obtain ⟨y, k, h1, h2, h3⟩ := bcT_bN 16 0 0 (bo s) bcT_ok
  rw [bN_bo 16 s (by omega)] at h1
  have : y = s := by omega
  subst this
  rw [bc_nat (by omega), h3, h2, cnt_cN, show (16 : Nat) = 8 + 8 from rfl, cN_more (c := bo y) (M := 8) (fun i hi => bo_lo (n := 8) hs hi)]
  omega
theorem prodO {v : Int} {own a : Nat → Bool} : ∀ n, (∀ i, i < n → a i = true → own i = true) → cN a n ≤ cN own n ∧ prodN (fun i => pO v own i (a i)) n = v ^ (cN a n) * (10 - v) ^ (cN own n - cN a n) := by
  intro n
  induction n with
  | zero => intro _; simp [cN, prodN]
  | succ n ih =>
    intro h
    obtain ⟨l, e⟩ := ih (fun i hi => h i (by omega))
    have hn := h n (by omega)
    rw [prodN, e, cN, cN]
    cases h1 : own n with
    | true =>
      cases h2 : a n with
      | true =>
        refine ⟨by simp; omega, ?_⟩
        simp only [pO, h1, if_true]
        rw [show cN own n + 1 - (cN a n + 1) = cN own n - cN a n by omega, Int.pow_succ, Int.mul_right_comm]
      | false =>
        refine ⟨by simp; omega, ?_⟩
        simp only [pO, h1, if_true, if_false, Bool.false_eq_true, Nat.add_zero]
        rw [show cN own n + 1 - cN a n = (cN own n - cN a n) + 1 by omega, Int.pow_succ, Int.mul_assoc]
    | false =>
      cases h2 : a n with
      | true => exact absurd (hn h2) (by rw [h1]; decide)
      | false =>
        refine ⟨by simp; omega, ?_⟩
        simp only [pO, h1, if_false, Bool.false_eq_true, Nat.add_zero]
        rw [Int.mul_one]
theorem prodO_0 {v : Int} {own a : Nat → Bool} : ∀ n i, i < n → a i = true → own i = false → prodN (fun i => pO v own i (a i)) n = 0 := by
  intro n
  induction n with
  | zero => intro i h; omega
  | succ n ih =>
    intro i hi h1 h2
    rw [prodN]
    by_cases c : i = n
    · subst c
      simp [pO, h1, h2]
    · rw [ih i (by omega) h1 h2, Int.zero_mul]
theorem mix_bo {n s : Nat} (h : s < 2 ^ n) : mix n (bo s) (fun _ => false) = bo s := by
  funext i
  unfold mix
  by_cases c : i < n
  · rw [if_pos c]
  · rw [if_neg c, bo_lo h (by omega)]
theorem c_odds {v : Int} (hv : 0 ≤ v ∧ v ≤ 10) {own : Nat → Bool} {s o : Nat} (hs : s < 256) (ho : o < 256) (eo : bo o = own) (sub : ∀ i, i < 8 → bo s i = true → own i = true) (σ : St) : f_X4_oddsOf v s o σ = some (prodN (fun i => pO v own i (bo s i)) 8, σ) := by
  obtain ⟨l, e⟩ := prodO (v := v) 8 sub
  have l1 := cN_le (bo s) 8
  have l2 := cN_le own 8
  unfold f_X4_oddsOf
  rw [bc_eq, bI_s, bc_8 hs, c_pow (by omega) σ (by omega), bI_s, bc_eq, bI_s, bc_8 ho, eo, show (cN own 8 : Int) - (cN (bo s) 8 : Int) = ((cN own 8 - cN (bo s) 8 : Nat) : Int) by omega, c_pow (by omega) σ (by omega), bI_s, e]
/-! what is told of one rider alone -/
def ownB (P : Pg) (h : Int) : Nat → Bool := fun i => decide ((i : Int) < P 0 2 ∧ P 7 i = h)
theorem ownB_hi {P : Pg} {h : Int} {i : Nat} (hi : (P 0 2).toNat ≤ i) : ownB P h i = false := by
  unfold ownB
  rw [decide_eq_false_iff_not]
  omega
theorem bel_cong {P : Pg} {un un' h d : Int} (e : ∀ i : Nat, (i : Int) < P 0 2 → P 7 i = h → (wr (iad (isr un (i : Int)) 1) = 0 ↔ wr (iad (isr un' (i : Int)) 1) = 0)) : bel P un h d = bel P un' h d := by
  have t : ∀ x : Int, told P un h x d = told P un' h x d := by
    intro x
    refine sumN_ext (fun i hi => ?_)
    unfold tg
    by_cases c : P 7 i = h
    · have := e i (by omega) c
      simp only [this]
    · rw [if_neg c, if_neg c]
  unfold bel
  simp only [t]
def GL (P : Pg) (h d e : Int) : (Nat → Bool) → Int := fun b => if bel P (bN b 8 : Int) h d = e then 1 else 0
theorem bel_own {P : Pg} (wf : WF P) {h d : Int} {b b' : Nat → Bool} (e : ∀ i, ownB P h i = true → b i = b' i) : bel P (bN b 8 : Int) h d = bel P (bN b' 8 : Int) h d := by
  have hM := wf.2.2.1
  refine bel_cong (fun i hi hh => ?_)
  rw [nat_bit (by omega), nat_bit (by omega)]
  have q : ownB P h i = true := decide_eq_true ⟨hi, hh⟩
  have := e i q
  have z : ∀ c : Nat → Bool, bo (bN c 8) i = c i := by
    intro c
    unfold bo
    rw [bN_bit 8 i c (by omega)]
    cases c i <;> simp
  rw [z, z, this]
theorem c_reportsOn {q : Nat} {σ : St} (wf : WF (cv σ q)) {h : Int} (hh : IR h) : f_X2_reportsOn q h σ = some ((bN (ownB (cv σ q) h) 8 : Int), σ) := by
  have hM := wf.2.2.1
  have e6 : σ q 6 = cv σ q 0 2 := rfl
  have lp : ∀ (k i n : Nat), i + k = (cv σ q 0 2).toNat → k < n → f_X2_reportsOn_4 q n h (bitN (ownB (cv σ q) h) i) i σ = some (bitN (ownB (cv σ q) h) (cv σ q 0 2).toNat, σ) := by
    intro k
    induction k with
    | zero =>
      intro i n hi hn
      obtain ⟨n, rfl⟩ : ∃ y, n = y + 1 := ⟨n - 1, by omega⟩
      rw [f_X2_reportsOn_4, e6, wr_of (x := (i : Int)) (by omega) (by omega), wr_of (x := cv σ q 0 2) (by omega) (by omega), if_neg (by omega)]
      rw [show i = (cv σ q 0 2).toNat by omega]
    | succ k ih =>
      intro i n hi hn
      obtain ⟨n, rfl⟩ : ∃ y, n = y + 1 := ⟨n - 1, by omega⟩
      have h1 := ih (i + 1) n (by omega) (by omega)
      have a := (wf.2.2.2.2.2.2.2 i (by omega) (by omega)).2.2.1
      rw [f_X2_reportsOn_4, e6, wr_of (x := (i : Int)) (by omega) (by omega), wr_of (x := cv σ q 0 2) (by omega) (by omega), if_pos (by omega), ld_of (by omega) (by omega) (by omega), bV_s, cv_ro (by omega) (by omega), wr_of (x := cv σ q 7 i) (by omega) (by omega), wrI hh]
      unfold f_X2_reportsOn_30
      rw [show (i : Int) + 1 = ((i + 1 : Nat) : Int) by omega]
      rw [bitN] at h1
      by_cases c : cv σ q 7 i = h
      · have o : ownB (cv σ q) h i = true := decide_eq_true ⟨by omega, c⟩
        rw [o, if_pos rfl] at h1
        rw [if_pos c]
        exact h1
      · have o : ¬ ownB (cv σ q) h i = true := fun z => c (of_decide_eq_true z).2
        rw [if_neg o] at h1
        rw [if_neg c]
        exact h1
  unfold f_X2_reportsOn
  have z := lp (cv σ q 0 2).toNat 0 FU (by omega) (by unfold FU; omega)
  have z' : f_X2_reportsOn_4 q FU h 0 0 σ = _ := z
  rw [z', bitN_bN _ _ (by omega)]
  have m := bN_more (c := ownB (cv σ q) h) (M := (cv σ q 0 2).toNat) (fun i hi => ownB_hi hi) (8 - (cv σ q 0 2).toNat)
  rw [show (cv σ q 0 2).toNat + (8 - (cv σ q 0 2).toNat) = 8 by omega] at m
  rw [m]
