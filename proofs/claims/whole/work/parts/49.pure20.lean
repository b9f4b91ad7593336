/-! ===== pure part 20: ask ===== -/
theorem bcT_bN : ∀ (n x a : Nat) (c : Nat → Bool), bcT n x a = true → ∃ y k : Nat, y = x * 2 ^ n + bN c n ∧ (k : Int) = a + cnt c n ∧ bc5 (bc4 (bc3 (bc2 (bc1 y)))) = k := by
  intro n
  induction n with
  | zero =>
    intro x a c h
    exact ⟨x, a, by simp [bN], by simp [cnt, sumN], Nat.eq_of_beq_eq_true h⟩
  | succ n ih =>
    intro x a c h
    rw [bcT, Bool.and_eq_true] at h
    have e : bN c (n + 1) = bN c n + (if c n then 2 ^ n else 0) := rfl
    have f : cnt c (n + 1) = cnt c n + (if c n then 1 else 0) := rfl
    by_cases hc : c n = true
    · obtain ⟨y, k, h1, h2, h3⟩ := ih (2 * x + 1) (a + 1) c h.2
      refine ⟨y, k, ?_, ?_, h3⟩
      · rw [h1, e, if_pos hc, Nat.pow_succ, Nat.add_mul]
        have : 2 * x * 2 ^ n = x * (2 ^ n * 2) := by rw [Nat.mul_comm 2 x, Nat.mul_assoc, Nat.mul_comm 2]
        omega
      · rw [h2, f, if_pos hc]; omega
    · obtain ⟨y, k, h1, h2, h3⟩ := ih (2 * x) a c h.1
      refine ⟨y, k, ?_, ?_, h3⟩
      · rw [h1, e, if_neg hc, Nat.pow_succ]
        have : 2 * x * 2 ^ n = x * (2 ^ n * 2) := by rw [Nat.mul_comm 2 x, Nat.mul_assoc, Nat.mul_comm 2]
        omega
      · rw [h2, f, if_neg hc]; omega
theorem bc_nat {x : Nat} (hx : x < 65536) : bc (x : Int) = (bc5 (bc4 (bc3 (bc2 (bc1 x)))) : Int) := by
  have i1 : ∀ a b : Nat, a < 2 ^ 31 → b < 2 ^ 31 → iad (a : Int) (b : Int) = ((a &&& b : Nat) : Int) := fun a b => iadN
  have s1 : ius (x : Int) 1 = ((x / 2 ^ 1 : Nat) : Int) := iusN (k := 1) (by omega) (by omega)
  have e1 : (x : Int) - iad (ius (x : Int) 1) 1431655765 = (bc1 x : Int) := by
    have z : iad ((x / 2 ^ 1 : Nat) : Int) 1431655765 = ((x / 2 ^ 1 &&& 1431655765 : Nat) : Int) := iadN (b := 1431655765) (by omega) (by omega)
    have l : x / 2 ^ 1 &&& 1431655765 ≤ x / 2 ^ 1 := Nat.and_le_left
    rw [s1, z]
    unfold bc1
    omega
  have b1 : bc1 x < 65536 := by unfold bc1; omega
  have e2 : iad (bc1 x : Int) 858993459 + iad (ius (bc1 x : Int) 2) 858993459 = (bc2 (bc1 x) : Int) := by
    have s2 : ius (bc1 x : Int) 2 = ((bc1 x / 2 ^ 2 : Nat) : Int) := iusN (k := 2) (by omega) (by omega)
    have z1 : iad (bc1 x : Int) 858993459 = ((bc1 x &&& 858993459 : Nat) : Int) := iadN (b := 858993459) (by omega) (by omega)
    have z2 : iad ((bc1 x / 2 ^ 2 : Nat) : Int) 858993459 = ((bc1 x / 2 ^ 2 &&& 858993459 : Nat) : Int) := iadN (b := 858993459) (by omega) (by omega)
    rw [s2, z1, z2]
    unfold bc2
    omega
  have b2 : bc2 (bc1 x) < 200000 := by
    have l1 : bc1 x &&& 858993459 ≤ bc1 x := Nat.and_le_left
    have l2 : bc1 x / 2 ^ 2 &&& 858993459 ≤ bc1 x / 2 ^ 2 := Nat.and_le_left
    unfold bc2
    omega
  have e3 : iad ((bc2 (bc1 x) : Int) + ius (bc2 (bc1 x) : Int) 4) 252645135 = (bc3 (bc2 (bc1 x)) : Int) := by
    have s2 : ius (bc2 (bc1 x) : Int) 4 = ((bc2 (bc1 x) / 2 ^ 4 : Nat) : Int) := iusN (k := 4) (by omega) (by omega)
    have z1 : iad ((bc2 (bc1 x) + bc2 (bc1 x) / 2 ^ 4 : Nat) : Int) 252645135 = ((bc2 (bc1 x) + bc2 (bc1 x) / 2 ^ 4 &&& 252645135 : Nat) : Int) := iadN (b := 252645135) (by omega) (by omega)
    rw [s2, ← Int.natCast_add, z1]
    rfl
  have b3 : bc3 (bc2 (bc1 x)) < 400000 := by
    have l1 : bc2 (bc1 x) + bc2 (bc1 x) / 2 ^ 4 &&& 252645135 ≤ bc2 (bc1 x) + bc2 (bc1 x) / 2 ^ 4 := Nat.and_le_left
    unfold bc3
    omega
  have e4 : (bc3 (bc2 (bc1 x)) : Int) + ius (bc3 (bc2 (bc1 x)) : Int) 8 = (bc4 (bc3 (bc2 (bc1 x))) : Int) := by
    have s2 : ius (bc3 (bc2 (bc1 x)) : Int) 8 = ((bc3 (bc2 (bc1 x)) / 2 ^ 8 : Nat) : Int) := iusN (k := 8) (by omega) (by omega)
    rw [s2]
    unfold bc4
    omega
  have b4 : bc4 (bc3 (bc2 (bc1 x))) < 800000 := by unfold bc4; omega
  have e5 : iad ((bc4 (bc3 (bc2 (bc1 x))) : Int) + ius (bc4 (bc3 (bc2 (bc1 x))) : Int) 16) 63 = (bc5 (bc4 (bc3 (bc2 (bc1 x)))) : Int) := by
    have s2 : ius (bc4 (bc3 (bc2 (bc1 x))) : Int) 16 = ((bc4 (bc3 (bc2 (bc1 x))) / 2 ^ 16 : Nat) : Int) := iusN (k := 16) (by omega) (by omega)
    have z1 : iad ((bc4 (bc3 (bc2 (bc1 x))) + bc4 (bc3 (bc2 (bc1 x))) / 2 ^ 16 : Nat) : Int) 63 = ((bc4 (bc3 (bc2 (bc1 x))) + bc4 (bc3 (bc2 (bc1 x))) / 2 ^ 16 &&& 63 : Nat) : Int) := iadN (b := 63) (by omega) (by omega)
    rw [s2, ← Int.natCast_add, z1]
    rfl
  unfold bc f_J6_bitCount_0f7a4
  simp only [Option.getD_some, e1, e2, e3, e4, e5]
theorem bc_16 (c : Nat → Bool) : bc (bitN c 16) = cnt c 16 := by
  have l := bN_lt c 16
  obtain ⟨y, k, h1, h2, h3⟩ := bcT_bN 16 0 0 c bcT_ok
  rw [bitN_bN c 16 (by omega), bc_nat (by omega)]
  have : y = bN c 16 := by omega
  subst this
  rw [h3, h2]
  omega
/-! the worst of a look -/
def alN (c : Nat → Bool) (U : Nat → Int) (a : Nat) : Nat → Int := sumN (fun b => if c b = true ∧ U a = U b then 1 else 0)
def alF (c : Nat → Bool) (U : Nat → Int) (a : Nat) : Int := if c a then alN c U a 16 else 0
def wF (c : Nat → Bool) (U : Nat → Int) : Nat → Int
  | 0 => 0
  | n + 1 => if wF c U n < alF c U n then alF c U n else wF c U n
theorem alN_bd (c : Nat → Bool) (U : Nat → Int) (a n : Nat) : 0 ≤ alN c U a n ∧ alN c U a n ≤ n := by
  have := sumN_bd (g := fun b => if c b = true ∧ U a = U b then (1 : Int) else 0) (B := 1) (n := n) (fun i _ => by split <;> omega)
  unfold alN
  omega
theorem alF_bd (c : Nat → Bool) (U : Nat → Int) (a : Nat) : 0 ≤ alF c U a ∧ alF c U a ≤ 16 := by
  have := alN_bd c U a 16
  unfold alF
  split <;> omega
theorem wF_bd (c : Nat → Bool) (U : Nat → Int) : ∀ n, 0 ≤ wF c U n ∧ wF c U n ≤ 16 := by
  intro n
  induction n with
  | zero => simp [wF]
  | succ n ih =>
    have := alF_bd c U n
    rw [wF]
    split <;> omega
theorem wF_le (c : Nat → Bool) (U : Nat → Int) {hi : Int} (h0 : 0 ≤ hi) : ∀ n, (∀ a, a < n → c a = true → alF c U a ≤ hi) → wF c U n ≤ hi := by
  intro n
  induction n with
  | zero => intro _; exact h0
  | succ n ih =>
    intro h
    have i := ih (fun a ha => h a (by omega))
    rw [wF]
    split
    · by_cases hc : c n = true
      · exact h n (by omega) hc
      · unfold alF; rw [if_neg hc]; exact h0
    · exact i
theorem wF_ge (c : Nat → Bool) (U : Nat → Int) : ∀ n a, a < n → alF c U a ≤ wF c U n := by
  intro n
  induction n with
  | zero => intro a h; omega
  | succ n ih =>
    intro a h
    rw [wF]
    by_cases e : a = n
    · subst e; split <;> omega
    · have := ih a (by omega)
      split <;> omega
theorem cnt_pos {c : Nat → Bool} {n : Nat} (h : 0 < cnt c n) : ∃ a, a < n ∧ c a = true := by
  by_cases e : ∃ a, a < n ∧ c a = true
  · exact e
  · exfalso
    have : cnt c n = 0 := by
      unfold cnt
      have z : ∀ m, m ≤ n → sumN (fun i => if c i then (1 : Int) else 0) m = 0 := by
        intro m
        induction m with
        | zero => intro _; rfl
        | succ m ih =>
          intro hm
          rw [sumN, ih (by omega), if_neg (fun hc => e ⟨m, by omega, hc⟩)]
          rfl
      exact z n (Nat.le_refl n)
    omega
theorem sumN_ge {g : Nat → Int} (h : ∀ i, 0 ≤ g i) : ∀ n a, a < n → g a ≤ sumN g n := by
  intro n
  induction n with
  | zero => intro a ha; omega
  | succ n ih =>
    intro a ha
    rw [sumN]
    have z : 0 ≤ sumN g n := by
      clear ih ha
      induction n with
      | zero => exact Int.le_refl 0
      | succ n ih => rw [sumN]; have := h n; omega
    by_cases e : a = n
    · subst e; omega
    · have := ih a (by omega)
      have := h n
      omega
theorem alF_1 {c : Nat → Bool} (U : Nat → Int) {a : Nat} (ha : a < 16) (hc : c a = true) : 1 ≤ alF c U a := by
  unfold alF
  rw [if_pos hc]
  have := sumN_ge (g := fun b => if c b = true ∧ U a = U b then (1 : Int) else 0) (fun i => by split <;> omega) 16 a ha
  rw [if_pos ⟨hc, rfl⟩] at this
  exact this
def one (N : Int) : Int := if 0 < N then 1 else 0
/-- every look: at least one -/
theorem wF_one (c : Nat → Bool) (U : Nat → Int) : one (cnt c 16) ≤ wF c U 16 := by
  unfold one
  split
  · rename_i h
    obtain ⟨a, ha, hc⟩ := cnt_pos h
    have := wF_ge c U 16 a ha
    have := alF_1 U ha hc
    omega
  · exact (wF_bd c U 16).1
/-- a look at another: all alike -/
theorem wF_all {c : Nat → Bool} {U : Nat → Int} (h : ∀ a b, a < 16 → b < 16 → U a = U b) : wF c U 16 = cnt c 16 := by
  have e : ∀ a, a < 16 → alN c U a 16 = cnt c 16 := fun a ha => sumN_ext (fun b hb => by
    have := h a b ha hb
    by_cases k : c b = true
    · simp [this, k]
    · simp [k])
  have b := cnt_bd c 16
  have le := wF_le c U (hi := cnt c 16) b.1 16 (fun a ha hc => by unfold alF; rw [if_pos hc, e a ha]; exact Int.le_refl _)
  by_cases p : 0 < cnt c 16
  · obtain ⟨a, ha, hc⟩ := cnt_pos p
    have := wF_ge c U 16 a ha
    unfold alF at this
    rw [if_pos hc, e a ha] at this
    omega
  · have := (wF_bd c U 16).1
    omega
/-- a look that tells all apart -/
theorem wF_inj {c : Nat → Bool} {U : Nat → Int} (h : ∀ a b, a < 16 → b < 16 → U a = U b → a = b) : wF c U 16 = one (cnt c 16) := by
  have e : ∀ a, a < 16 → ∀ n, n ≤ 16 → alN c U a n ≤ (if a < n then 1 else 0) := by
    intro a ha n
    induction n with
    | zero => intro _; exact Int.le_refl 0
    | succ n ih =>
      intro hn
      have i := ih (by omega)
      show sumN _ (n + 1) ≤ _
      rw [sumN]
      unfold alN at i
      by_cases k : c n = true ∧ U a = U n
      · have := h a n ha (by omega) k.2
        subst this
        rw [if_pos k, if_pos (by omega)]
        rw [if_neg (by omega)] at i
        omega
      · rw [if_neg k]
        by_cases k2 : a < n
        · rw [if_pos (by omega)]; rw [if_pos k2] at i; omega
        · rw [if_neg k2] at i
          split <;> omega
  have g := wF_one c U
  have b := cnt_bd c 16
  by_cases p : 0 < cnt c 16
  · have o : one (cnt c 16) = 1 := if_pos p
    have le := wF_le c U (hi := 1) (by omega) 16 (fun a ha hc => by
      unfold alF
      rw [if_pos hc]
      have := e a ha 16 (by omega)
      rw [if_pos ha] at this
      exact this)
    omega
  · have o : one (cnt c 16) = 0 := if_neg p
    have le := wF_le c U (hi := 0) (by omega) 16 (fun a ha hc => by
      exfalso
      have := sumN_ge (g := fun i => if c i then (1 : Int) else 0) (fun i => by split <;> omega) 16 a ha
      rw [if_pos hc] at this
      unfold cnt at p
      omega)
    omega
theorem m_worst {σ : St} (c : Nat → Bool) {pl : Int} (hp : 0 ≤ pl ∧ pl < 105) (hU : ∀ a : Nat, a < 16 → IR (rd σ 58 (105 * a + pl))) : f_X5_worstAt (bitN c 16) pl σ = some (wF c (fun a => rd σ 58 (105 * a + pl)) 16, σ) := by
  have w16 : wr 16 = 16 := by decide
  have w1 : wr 1 = 1 := by decide
  have w0 : wr 0 = 0 := by decide
  have bit : ∀ a : Nat, a < 16 → (wr (iad (isr (bitN c 16) (a : Int)) 1) = 1 ↔ c a = true) := by
    intro a ha
    rw [bit_c c (by omega) ha]
    by_cases k : c a = true
    · rw [if_pos k, w1]; exact ⟨fun _ => k, fun _ => rfl⟩
    · rw [if_neg k, w0]; exact ⟨fun h => by omega, fun h => absurd h k⟩
  have lp2 : ∀ (K : Int → Int → Int → Int → St → Option (Int × St)) (w : Int) (a : Nat), a < 16 → c a = true → ∀ (k b n : Nat), b + k = 16 → k < n → f_X5_worstAt_18 K n (bitN c 16) pl w a (alN c (fun a => rd σ 58 (105 * a + pl)) a b) b σ = f_X5_worstAt_88 K (bitN c 16) pl w a (alN c (fun a => rd σ 58 (105 * a + pl)) a 16) σ := by
    intro K w a ha hc k
    induction k with
    | zero =>
      intro b n hb hn
      obtain ⟨n, rfl⟩ : ∃ y, n = y + 1 := ⟨n - 1, by omega⟩
      obtain rfl : b = 16 := by omega
      rw [f_X5_worstAt_18, if_neg (by decide)]
    | succ k ih =>
      intro b n hb hn
      obtain ⟨n, rfl⟩ : ∃ y, n = y + 1 := ⟨n - 1, by omega⟩
      have h1 := ih (b + 1) n (by omega) (by omega)
      have e : alN c (fun a => rd σ 58 (105 * a + pl)) a (b + 1) = alN c (fun a => rd σ 58 (105 * a + pl)) a b + (if c b = true ∧ rd σ 58 (105 * a + pl) = rd σ 58 (105 * b + pl) then 1 else 0) := rfl
      have ia := hU a ha
      have ib := hU b (by omega)
      rw [f_X5_worstAt_18, w16, wr_of (x := (b : Int)) (by omega) (by omega), if_pos (by omega), w1, if_pos ((bit a ha).mpr hc)]
      unfold f_X5_worstAt_78 f_X5_worstAt_79
      rw [show (b : Int) + 1 = ((b + 1 : Nat) : Int) by omega]
      by_cases k1 : c b = true
      · rw [if_pos ((bit b (by omega)).mpr k1), ld_of (by omega) (by omega) (by omega), bV_s, ld_of (by omega) (by omega) (by omega), bV_s, wrI ia, wrI ib]
        by_cases k2 : rd σ 58 (105 * a + pl) = rd σ 58 (105 * b + pl)
        · rw [if_pos k2]; rw [e, if_pos ⟨k1, k2⟩] at h1; exact h1
        · rw [if_neg k2]; rw [e, if_neg (fun z => k2 z.2)] at h1; exact h1
      · rw [if_neg (fun z => k1 ((bit b (by omega)).mp z))]
        rw [e, if_neg (fun z => k1 z.1)] at h1; exact h1
  have lp : ∀ (k a n : Nat), a + k = 16 → k < n → f_X5_worstAt_5 n (bitN c 16) pl (wF c (fun a => rd σ 58 (105 * a + pl)) a) a σ = some (wF c (fun a => rd σ 58 (105 * a + pl)) 16, σ) := by
    intro k
    induction k with
    | zero =>
      intro a n hb hn
      obtain ⟨n, rfl⟩ : ∃ y, n = y + 1 := ⟨n - 1, by omega⟩
      obtain rfl : a = 16 := by omega
      rw [f_X5_worstAt_5, if_neg (by decide)]
    | succ k ih =>
      intro a n hb hn
      obtain ⟨n, rfl⟩ : ∃ y, n = y + 1 := ⟨n - 1, by omega⟩
      have h1 := ih (a + 1) n (by omega) (by omega)
      have wb := wF_bd c (fun a => rd σ 58 (105 * a + pl)) a
      have ab := alN_bd c (fun a => rd σ 58 (105 * a + pl)) a 16
      rw [wF] at h1
      unfold alF at h1
      rw [f_X5_worstAt_5, w16, wr_of (x := (a : Int)) (by omega) (by omega), if_pos (by omega)]
      by_cases k1 : c a = true
      · have q := lp2 (f_X5_worstAt_5 n) (wF c (fun a => rd σ 58 (105 * a + pl)) a) a (by omega) k1 16 0 FU (by omega) (by unfold FU; omega)
        have q' : f_X5_worstAt_18 (f_X5_worstAt_5 n) FU (bitN c 16) pl (wF c (fun a => rd σ 58 (105 * a + pl)) a) a 0 0 σ = _ := q
        rw [q']
        unfold f_X5_worstAt_88 f_X5_worstAt_100
        rw [wr_of (x := wF c (fun a => rd σ 58 (105 * a + pl)) a) (by omega) (by omega), wr_of (x := alN c (fun a => rd σ 58 (105 * a + pl)) a 16) (by omega) (by omega), show (a : Int) + 1 = ((a + 1 : Nat) : Int) by omega]
        rw [if_pos k1] at h1
        by_cases k2 : wF c (fun a => rd σ 58 (105 * a + pl)) a < alN c (fun a => rd σ 58 (105 * a + pl)) a 16
        · rw [if_pos k2]; rw [if_pos k2] at h1; exact h1
        · rw [if_neg k2]; rw [if_neg k2] at h1; exact h1
      · have q : f_X5_worstAt_18 (f_X5_worstAt_5 n) FU (bitN c 16) pl (wF c (fun a => rd σ 58 (105 * a + pl)) a) a 0 0 σ = f_X5_worstAt_88 (f_X5_worstAt_5 n) (bitN c 16) pl (wF c (fun a => rd σ 58 (105 * a + pl)) a) a 0 σ := by
          show f_X5_worstAt_18 (f_X5_worstAt_5 n) (3999 + 1) _ _ _ _ _ _ _ = _
          rw [f_X5_worstAt_18, if_pos (by decide), w1, if_neg (fun z => k1 ((bit a (by omega)).mp z))]
        rw [q]
        unfold f_X5_worstAt_88 f_X5_worstAt_100
        rw [wr_of (x := wF c (fun a => rd σ 58 (105 * a + pl)) a) (by omega) (by omega), w0, if_neg (by omega), show (a : Int) + 1 = ((a + 1 : Nat) : Int) by omega]
        rw [if_neg k1, if_neg (by omega)] at h1
        exact h1
  exact lp 16 0 FU (by omega) (by unfold FU; omega)
noncomputable def S_ask (h w : Int) (P : Pg) (S : Sg) : Int := if 0 ≤ h ∧ h < P 0 0 then (if 0 ≤ w ∧ w ≤ 1 then (if cnt (fun k => seenB (upP P 2 h k) S) 16 < 2 then -4 else if w = 0 then h else 1) else -1) else -1
theorem q_ask {h w : Int} (hh : IR h) (hw : IR w) : QryS (f_X4_ask h w) (f_X5_ask h w) (S_ask h w) := by
  have w2 : wr 2 = 2 := by decide
  have w20 : wr 20 = 20 := by decide
  have w4 : wr (-4) = -4 := by decide
  refine ⟨fun σ S I ok hs => ?_, fun σ S I ok hs => ?_⟩
  · unfold f_X4_ask S_ask
    rw [c_isRider hh I.1.1, bI_s, c_isChoice hw, bI_s]
    by_cases g : 0 ≤ h ∧ h < cv σ 1 0 0
    · by_cases g2 : 0 ≤ w ∧ w ≤ 1
      · obtain ⟨τ', f1, f2⟩ := c_ups I ok hs g
        have eb : bc (upB h (cv σ 1) S) = cnt (fun k => seenB (upP (cv σ 1) 2 h k) S) 16 := bc_16 _
        have b := cnt_bd (fun k => seenB (upP (cv σ 1) 2 h k) S) 16
        rw [if_pos (by simp [g]), if_pos g, if_pos (by simp [g2]), if_pos g2, f1, bI_s, bc_eq, bI_s, eb, w2, wr_of (x := cnt (fun k => seenB (upP (cv σ 1) 2 h k) S) 16) (by omega) (by omega), wrI hw]
        refine ⟨τ', ?_, f2⟩
        split
        · rfl
        · split <;> rfl
      · rw [if_pos (by simp [g]), if_pos g, if_neg (by simp only [decide_eq_true_eq]; exact g2), if_neg g2]; exact ⟨σ, rfl, Qc.rf σ⟩
    · rw [if_neg (by simp only [decide_eq_true_eq]; exact g), if_neg g]; exact ⟨σ, rfl, Qc.rf σ⟩
  · have hR := I.1.1
    unfold f_X5_ask S_ask
    rw [m_isRider (p := 0) hh I.1.1, bI_s, m_inw hw (by omega) (by omega), bI_s]
    by_cases g : 0 ≤ h ∧ h < mv σ 0 0 0
    · by_cases g2 : 0 ≤ w ∧ w ≤ 1
      · obtain ⟨τ, f1, f2, f3⟩ := m_ups I ok hs g
        rw [if_pos (by simp [g]), if_pos g, if_pos (by simp [g2]), if_pos g2, f1, bI_s]
        unfold upB
        rw [m_bitsC _ (by omega), bI_s]
        have r1 : τ 51 1 = mv σ 0 0 0 := f2.2.1 1 (by omega) (by omega) (by omega)
        generalize hc : (fun k : Nat => seenB (upP (mv σ 0) 2 h k) S) = c
        have b := cnt_bd c 16
        have wfu : ∀ u : Nat, u < 16 → WF (upP (mv σ 0) 2 h u) := fun u hu => wf_up2 I.1 (by omega)
        have rows : ∀ u d e : Nat, u < 16 → d ≤ 20 → (e : Int) < mv σ 0 0 0 → rd τ 58 (105 * u + (5 * d + e)) = itD (upP (mv σ 0) 2 h u) 0 d 2 e := by
          intro u d e hu hd he
          rw [← f3 u d e hu hd he, Int.add_assoc]
        have irs : ∀ u d e : Nat, u < 16 → d ≤ 20 → (e : Int) < mv σ 0 0 0 → IR (rd τ 58 (105 * u + (5 * d + e))) := by
          intro u d e hu hd he
          rw [rows u d e hu hd he]
          have wfd : WF (itD (upP (mv σ 0) 2 h u) 0 d) := itD_wf (wfu u hu) 0 d (by show mv σ 0 0 3 + d ≤ 5000; have := I.2.1; omega)
          have := (wfd.2.2.2.2.2.1 e (by omega) (by rw [itD_0]; exact he)).2.1
          exact ⟨by omega, by omega⟩
        have one_le : one (cnt c 16) = (if 0 < cnt c 16 then 1 else 0) := rfl
        -- a place
        have plc : ∀ d e : Nat, d ≤ 20 → (e : Int) < mv σ 0 0 0 → ∃ v, f_X5_worstAt (bitN c 16) (5 * (d : Int) + e) τ = some (v, τ) ∧ (0 ≤ v ∧ v ≤ 16) ∧ one (cnt c 16) ≤ v ∧ (d = 0 → (e : Int) = h → v = one (cnt c 16)) ∧ (d = 0 → (e : Int) ≠ h → v = cnt c 16) := by
          intro d e hd he
          refine ⟨_, m_worst c (by omega) (fun a ha => irs a d e ha hd he), wF_bd _ _ _, wF_one _ _, ?_, ?_⟩
          · rintro rfl eh
            apply wF_inj
            intro a b' ha hb hab
            have x1 := rows a 0 e ha hd he
            have x2 := rows b' 0 e hb hd he
            have hab' : rd τ 58 (105 * (a : Int) + (5 * ((0 : Nat) : Int) + e)) = rd τ 58 (105 * (b' : Int) + (5 * ((0 : Nat) : Int) + e)) := hab
            rw [x1, x2] at hab'
            have y1 : itD (upP (mv σ 0) 2 h a) 0 0 2 e = a := by show (if (2 : Nat) = 2 ∧ (e : Int) = h then _ else _) = _; rw [if_pos ⟨rfl, eh⟩]
            have y2 : itD (upP (mv σ 0) 2 h b') 0 0 2 e = b' := by show (if (2 : Nat) = 2 ∧ (e : Int) = h then _ else _) = _; rw [if_pos ⟨rfl, eh⟩]
            omega
          · rintro rfl eh
            apply wF_all
            intro a b' ha hb
            have x1 := rows a 0 e ha hd he
            have x2 := rows b' 0 e hb hd he
            show rd τ 58 (105 * (a : Int) + (5 * ((0 : Nat) : Int) + e)) = rd τ 58 (105 * (b' : Int) + (5 * ((0 : Nat) : Int) + e))
            rw [x1, x2]
            show (if (2 : Nat) = 2 ∧ (e : Int) = h then _ else _) = (if (2 : Nat) = 2 ∧ (e : Int) = h then _ else _)
            rw [if_neg (fun z => eh z.2), if_neg (fun z => eh z.2)]
        -- the looks of a day, when all is told
        have fin : ∀ (K : Int → Int → Int → Int → Int → St → Option (Int × St)) (wh : Int) (d : Nat), d ≤ 20 → (d = 0 → wh = wh) → ∀ (k e n : Nat), (e : Int) + k = mv σ 0 0 0 → k < n → (d = 0 → h < e) → f_X5_ask_49 K n w (bitN c 16) (one (cnt c 16)) wh d e τ = K w (bitN c 16) (one (cnt c 16)) wh ((d : Int) + 1) τ := by
          intro K wh d hd _ k
          have o : 0 ≤ one (cnt c 16) ∧ one (cnt c 16) ≤ 1 := by unfold one; split <;> omega
          induction k with
          | zero =>
            intro e n he hn hd0
            obtain ⟨n, rfl⟩ : ∃ y, n = y + 1 := ⟨n - 1, by omega⟩
            rw [f_X5_ask_49, r1, wr_of (x := (e : Int)) (by omega) (by omega), wr_of (x := mv σ 0 0 0) (by omega) (by omega), if_neg (by omega)]
          | succ k ih =>
            intro e n he hn hd0
            obtain ⟨n, rfl⟩ : ∃ y, n = y + 1 := ⟨n - 1, by omega⟩
            obtain ⟨v, v1, v2, v3, v4, v5⟩ := plc d e hd (by omega)
            rw [f_X5_ask_49, r1, wr_of (x := (e : Int)) (by omega) (by omega), wr_of (x := mv σ 0 0 0) (by omega) (by omega), if_pos (by omega), v1, bI_s, wr_of (x := v) (by omega) (by omega), wr_of (x := one (cnt c 16)) (by omega) (by omega), if_neg (by omega)]
            unfold f_X5_ask_92 f_X5_ask_108
            rw [wr_of (x := v) (by omega) (by omega), wr_of (x := one (cnt c 16)) (by omega) (by omega), if_neg (by omega), show (e : Int) + 1 = ((e + 1 : Nat) : Int) by omega]
            exact ih (e + 1) n (by omega) (by omega) (fun _ => by have := hd0; omega)
        have whB : (if 2 ≤ cnt c 16 then h else -4) = (if cnt c 16 < 2 then -4 else h) := by split <;> split <;> omega
        -- the first day
        have first : ∀ (K : Int → Int → Int → Int → Int → St → Option (Int × St)), ∀ (k e n : Nat), (e : Int) + k = mv σ 0 0 0 → k < n → (e : Int) ≤ h → f_X5_ask_49 K n w (bitN c 16) (cnt c 16) (-4) ((0 : Nat) : Int) e τ = K w (bitN c 16) (one (cnt c 16)) (if cnt c 16 < 2 then -4 else h) (((0 : Nat) : Int) + 1) τ := by
          intro K k
          induction k with
          | zero => intro e n he hn hd0; omega
          | succ k ih =>
            intro e n he hn hd0
            obtain ⟨n, rfl⟩ : ∃ y, n = y + 1 := ⟨n - 1, by omega⟩
            obtain ⟨v, v1, v2, v3, v4, v5⟩ := plc 0 e (by omega) (by omega)
            rw [f_X5_ask_49, r1, wr_of (x := (e : Int)) (by omega) (by omega), wr_of (x := mv σ 0 0 0) (by omega) (by omega), if_pos (by omega), v1, bI_s, wr_of (x := v) (by omega) (by omega), wr_of (x := cnt c 16) (by omega) (by omega)]
            unfold f_X5_ask_92 f_X5_ask_108
            rw [wr_of (x := v) (by omega) (by omega), wr_of (x := cnt c 16) (by omega) (by omega), show (e : Int) + 1 = ((e + 1 : Nat) : Int) by omega]
            by_cases eh : (e : Int) = h
            · have vv := v4 rfl eh
              have fn := fin K (if cnt c 16 < 2 then -4 else h) 0 (by omega) (fun _ => rfl) k (e + 1) n (by omega) (by omega) (fun _ => by omega)
              rw [vv]
              by_cases k2 : cnt c 16 < 2
              · have e1 : one (cnt c 16) = cnt c 16 := by unfold one; split <;> omega
                rw [if_pos k2, e1] at fn
                rw [e1, if_neg (by omega), if_neg (by omega), if_pos k2]
                exact fn
              · have e1 : one (cnt c 16) < cnt c 16 := by unfold one; split <;> omega
                rw [if_neg k2] at fn
                rw [if_pos e1, if_pos e1, if_neg k2, show 10 * ((0 : Nat) : Int) + (e : Int) = h by omega]
                exact fn
            · have vv := v5 rfl eh
              rw [vv, if_neg (by omega), if_neg (by omega)]
              exact ih (e + 1) n (by omega) (by omega) (by omega)
        have o : 0 ≤ one (cnt c 16) ∧ one (cnt c 16) ≤ 1 := by unfold one; split <;> omega
        have days : ∀ (k d n : Nat), d + k = 21 → k < n → 1 ≤ d → f_X5_ask_39 n w (bitN c 16) (one (cnt c 16)) (if cnt c 16 < 2 then -4 else h) d τ = some ((if cnt c 16 < 2 then -4 else if w = 0 then h else 1), τ) := by
          intro k
          induction k with
          | zero =>
            intro d n hd hn h1
            obtain ⟨n, rfl⟩ : ∃ y, n = y + 1 := ⟨n - 1, by omega⟩
            rw [f_X5_ask_39, w20, wr_of (x := (d : Int)) (by omega) (by omega), if_pos (by omega), w4, wrI hw]
            unfold f_X5_ask_133
            by_cases k2 : cnt c 16 < 2
            · rw [if_pos k2, if_pos k2, w4, if_pos rfl]
            · rw [if_neg k2, if_neg k2, wrI hh, if_neg (by omega)]
              by_cases k3 : w = 0
              · rw [if_pos k3, if_pos k3]
              · rw [if_neg k3, if_neg k3]
                have : one (cnt c 16) = 1 := by unfold one; rw [if_pos (by omega)]
                rw [this]
          | succ k ih =>
            intro d n hd hn h1
            obtain ⟨n, rfl⟩ : ∃ y, n = y + 1 := ⟨n - 1, by omega⟩
            rw [f_X5_ask_39, w20, wr_of (x := (d : Int)) (by omega) (by omega), if_neg (by omega)]
            have fn := fin (f_X5_ask_39 n) (if cnt c 16 < 2 then -4 else h) d (by omega) (fun _ => rfl) (mv σ 0 0 0).toNat 0 FU (by omega) (by unfold FU; omega) (fun _ => by omega)
            have fn' : f_X5_ask_49 (f_X5_ask_39 n) FU w (bitN c 16) (one (cnt c 16)) (if cnt c 16 < 2 then -4 else h) d 0 τ = _ := fn
            rw [fn', show (d : Int) + 1 = ((d + 1 : Nat) : Int) by omega]
            exact ih (d + 1) n (by omega) (by omega) (by omega)
        refine ⟨τ, ?_, f2⟩
        show f_X5_ask_39 (3999 + 1) w (bitN c 16) (cnt c 16) (-4) 0 τ = _
        rw [f_X5_ask_39, if_neg (by decide)]
        have fs := first (f_X5_ask_39 3999) (mv σ 0 0 0).toNat 0 FU (by omega) (by unfold FU; omega) (by omega)
        have fs' : f_X5_ask_49 (f_X5_ask_39 3999) FU w (bitN c 16) (cnt c 16) (-4) 0 0 τ = _ := fs
        rw [fs']
        exact days 20 1 3999 (by omega) (by omega) (by omega)
      · rw [if_pos (by simp [g]), if_pos g, if_neg (by simp only [decide_eq_true_eq]; exact g2), if_neg g2]; exact ⟨σ, rfl, Qm.rf σ⟩
    · rw [if_neg (by simp only [decide_eq_true_eq]; exact g), if_neg g]; exact ⟨σ, rfl, Qm.rf σ⟩
