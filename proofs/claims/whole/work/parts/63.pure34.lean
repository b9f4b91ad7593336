/-! ===== pure part 34: names ===== -/
def wCh (w i : Nat) : Int := ((wByt.getD w []).getD i 0).toInt
def wLn (w : Nat) : Nat := wLen.getD w 0
theorem wCh_bd {w i : Nat} (hw : w < 7) (hi : i < wLn w) : 97 ≤ wCh w i ∧ wCh w i ≤ 122 := by
  have h : ((List.range 7).all fun w => (List.range (wLn w)).all fun i => decide (97 ≤ wCh w i ∧ wCh w i ≤ 122)) = true := by decide +kernel
  have := List.all_eq_true.mp h w (by simp; omega)
  have := List.all_eq_true.mp this i (by simp; omega)
  exact of_decide_eq_true this
theorem wLn_bd {w : Nat} (hw : w < 7) : 2 ≤ wLn w ∧ wLn w ≤ 7 := by
  have h : ((List.range 7).all fun w => decide (2 ≤ wLn w ∧ wLn w ≤ 7)) = true := by decide +kernel
  exact of_decide_eq_true (List.all_eq_true.mp h w (by simp; omega))
theorem wln_eq (w : Nat) : wln w = (wLn w : Int) := rfl
theorem ch_nums {c : Int} (h0 : 97 ≤ c) (h1 : c ≤ 122) : nch (iad c 255) = c ∧ nac c = c := by
  have := all_lt 128 (fun c => decide (nch (iad c 255) = c ∧ nac c = c)) (by decide +kernel) (x := c) (by omega) (by omega)
  exact of_decide_eq_true this
theorem c_len {w : Nat} (hw : w < 7) (σ : St) : f_J0_length_8abf5 w σ = some ((wLn w : Int), σ) := by
  have h : ((List.range 7).all fun w => decide (isr (wln w) (nab 0) = (wLn w : Int))) = true := by decide +kernel
  have e := of_decide_eq_true (List.all_eq_true.mp h w (by simp; omega))
  unfold f_J0_length_8abf5 f_J0_coder_7d493
  rw [if_neg (by decide), if_pos (by decide), bI_s, e]
theorem c_char {w i : Nat} (hw : w < 7) (hi : i < wLn w) (σ : St) : f_J0_charAt_5068e w (i : Int) σ = some (wCh w i, σ) := by
  have lb := wLn_bd hw
  have cb := wCh_bd hw hi
  obtain ⟨n1, n2⟩ := ch_nums cb.1 cb.2
  have wi : wr (i : Int) = i := wr_of (by omega) (by omega)
  have wl' : wr (wln w) = (wLn w : Int) := by rw [wln_eq]; exact wr_of (by omega) (by omega)
  have wc : wr (wCh w i) = wCh w i := wr_of (by omega) (by omega)
  unfold f_J0_charAt_5068e f_J0_isLatin1_aae02
  rw [if_neg (by decide), if_pos (by decide), bI_s, if_pos rfl]
  unfold f_J1_charAt_3b067 f_J0_checkIndex_df160 f_J3_checkIndex_8e157
  rw [wi, wl', if_neg (by omega), if_pos (by omega), bI_s, bV_s]
  unfold wby
  rw [wi, wln_eq, if_pos (by omega), bV_s]
  have e : ((wByt.getD w []).getD ((i : Int)).toNat 0).toInt = wCh w i := by rw [Int.toNat_natCast]; rfl
  rw [e, n1, n2, wc, if_pos rfl, bI_s, n2, n2, wc, if_pos rfl]
/-- the bytes from f + i on are those of g from i on, j of them -/
def eqN (T : Int → Int) (f : Int) (g : Nat → Int) : Nat → Nat → Bool
  | 0, _ => true
  | j + 1, i => if T (f + i) = g i then eqN T f g j (i + 1) else false
def isW (L : Int) (T : Int → Int) (p : Int) (w : Nat) : Bool := if tT L T p - tF L T p = (wLn w : Int) then eqN T (tF L T p) (wCh w) (wLn w) 0 else false
theorem c_name_loop {L : Int} {T : Int → Int} (ok : okT (L, T)) {w : Nat} (hw : w < 7) {f : Int} (hf : 0 ≤ f ∧ f + wLn w ≤ L) {σ : St} (h : cTp σ (L, T)) (h6 : σ 41 6 = f) : ∀ (j i m : Nat), i + j = wLn w → j < m → f_X3_isNamed_28 w m i σ = some (eqN T f (wCh w) j i, σ) := by
  have hL : 0 ≤ L ∧ L ≤ 160 := ok.1
  have lb := wLn_bd hw
  intro j
  induction j with
  | zero =>
    intro i m hi hm
    obtain ⟨m, rfl⟩ : ∃ y, m = y + 1 := ⟨m - 1, by omega⟩
    rw [f_X3_isNamed_28, c_len hw, bI_s, wr_of (x := (i : Int)) (by omega) (by omega), wr_of (x := (wLn w : Int)) (by omega) (by omega), if_neg (by omega)]
    rfl
  | succ j ih =>
    intro i m hi hm
    obtain ⟨m, rfl⟩ : ∃ y, m = y + 1 := ⟨m - 1, by omega⟩
    have cb := wCh_bd (i := i) hw (by omega)
    have hb' : 0 ≤ T (f + i) ∧ T (f + i) ≤ 127 := ok.2 (f + i) (by omega) (show f + i < L by omega)
    rw [f_X3_isNamed_28, c_len hw, bI_s, wr_of (x := (i : Int)) (by omega) (by omega), wr_of (x := (wLn w : Int)) (by omega) (by omega), if_pos (by omega), h6, c_byteL h hL (by omega) (by omega), bI_s, c_char hw (by omega), bI_s, (ch_nums cb.1 cb.2).2, wr_of (x := T (f + i)) (by omega) (by omega), wr_of (x := wCh w i) (by omega) (by omega), eqN]
    by_cases c : T (f + i) = wCh w i
    · rw [if_pos c, if_pos c]
      exact ih (i + 1) m (by omega) (by omega)
    · rw [if_neg c, if_neg c]
theorem c_named {L : Int} {T : Int → Int} (ok : okT (L, T)) {w : Nat} (hw : w < 7) {p : Int} (hp : 0 ≤ p ∧ p ≤ L) {σ : St} (h : cTp σ (L, T)) (h5 : σ 41 5 = tK L T p) (h6 : σ 41 6 = tF L T p) (h7 : σ 41 7 = tT L T p) : f_X3_isNamed w σ = some (decide (tK L T p = 1) && isW L T p w, σ) := by
  have hL : 0 ≤ L ∧ L ≤ 160 := ok.1
  have a := tF_bd (T := T) hp.2
  have b := tT_bd (T := T) hp.2
  have lb := wLn_bd hw
  have kr := tK_rg L p T
  unfold f_X3_isNamed isW
  rw [h5, show wr 1 = 1 by decide, wr_of (x := tK L T p) (by omega) (by omega)]
  by_cases c : tK L T p = 1
  · rw [if_pos c, decide_eq_true c, Bool.true_and, c_len hw, bI_s, h6, h7, wr_of (x := (wLn w : Int)) (by omega) (by omega), wr_of (x := tT L T p - tF L T p) (by omega) (by omega)]
    by_cases d : tT L T p - tF L T p = (wLn w : Int)
    · rw [if_pos d, if_pos d]
      exact c_name_loop ok hw (by omega) h h6 (wLn w) 0 FU (by omega) (by unfold FU; omega)
    · rw [if_neg d, if_neg d]
  · rw [if_neg c, decide_eq_false c, Bool.false_and]
/-! the model's order of names -/
def pmW (n : Nat) : Nat := if n = 4 then 6 else if n = 6 then 4 else n
theorem m_name_loop {L : Int} {T : Int → Int} (ok : okT (L, T)) {n : Nat} (hn : n < 7) {f t : Int} (hf : 0 ≤ f ∧ t = f + wLn (pmW n) ∧ t ≤ L) {σ : St} (h : mTp σ (L, T)) (co : mCo σ) (h12 : σ 51 12 = t) (h13 : σ 51 13 = f) (k2 : Int → St → Option (Int × St)) : ∀ (j i m : Nat), i + j = wLn (pmW n) → j + 1 < m → f_X5_nameHere_51 k2 m n 1 i σ = if eqN T f (wCh (pmW n)) j i = true then some ((n : Int), σ) else k2 (n + 1) σ := by
  have hL : 0 ≤ L ∧ L ≤ 160 := ok.1
  have hpm : pmW n < 7 := by unfold pmW; split <;> (try split) <;> omega
  have lb := wLn_bd hpm
  have w1 : ¬ wr 1 = 0 := by decide
  intro j
  induction j with
  | zero =>
    intro i m hi hm
    obtain ⟨m, rfl⟩ : ∃ y, m = y + 1 := ⟨m - 1, by omega⟩
    rw [f_X5_nameHere_51, if_neg w1, h12, h13, wr_of (x := (i : Int)) (by omega) (by omega), wr_of (x := t - f) (by omega) (by omega), if_neg (by omega)]
    unfold f_X5_nameHere_106
    rw [if_neg w1]
    rfl
  | succ j ih =>
    intro i m hi hm
    obtain ⟨m, rfl⟩ : ∃ y, m = y + 2 := ⟨m - 2, by omega⟩
    have cb := wCh_bd (i := i) hpm (by omega)
    have hb' : 0 ≤ T (f + i) ∧ T (f + i) ≤ 127 := ok.2 (f + i) (by omega) (show f + i < L by omega)
    have tab : ((List.range 7).all fun n => (List.range (wLn (pmW n))).all fun i => decide (0 ≤ endsT n ∧ endsT n + i < 36 ∧ lettT (endsT n + i).toNat = wCh (pmW n) i)) = true := by decide +kernel
    obtain ⟨e1, e2, e3⟩ := of_decide_eq_true (List.all_eq_true.mp (List.all_eq_true.mp tab n (by simp; omega)) i (by simp; omega))
    have en : rd σ 55 (n : Int) = endsT n := by unfold rd; rw [Int.toNat_natCast]; exact co.1 n (by omega)
    have el : rd σ 56 (endsT n + i) = wCh (pmW n) i := by
      unfold rd
      rw [co.2 _ (by omega), e3]
    rw [f_X5_nameHere_51, if_neg w1, h12, h13, wr_of (x := (i : Int)) (by omega) (by omega), wr_of (x := t - f) (by omega) (by omega), if_pos (by omega), m_byte h hL (by omega) (by omega), bI_s, if_pos (show f + (i : Int) < L by omega), ld_of (by omega) (by omega) (by omega), bV_s, en, ld_of (by omega) (by omega) (by omega), bV_s, el, wr_of (x := T (f + i)) (by omega) (by omega), wr_of (x := wCh (pmW n) i) (by omega) (by omega), eqN]
    unfold f_X5_nameHere_99
    by_cases c : T (f + i) = wCh (pmW n) i
    · rw [if_pos c, if_pos c]
      exact ih (i + 1) (m + 1) (by omega) (by omega)
    · rw [if_neg c, if_neg c, f_X5_nameHere_51, if_pos (by decide), if_neg (by decide)]
      unfold f_X5_nameHere_106
      rw [if_pos (by decide)]
theorem m_name_step {L : Int} {T : Int → Int} (ok : okT (L, T)) {n : Nat} (hn : n < 7) {p : Int} (hp : 0 ≤ p ∧ p ≤ L) {σ : St} (h : mTp σ (L, T)) (co : mCo σ) (h14 : σ 51 14 = 1) (h13 : σ 51 13 = tF L T p) (h12 : σ 51 12 = tT L T p) (m : Nat) : f_X5_nameHere_2 (m + 1) n σ = if isW L T p (pmW n) = true then some ((n : Int), σ) else f_X5_nameHere_2 m (n + 1) σ := by
  have hL : 0 ≤ L ∧ L ≤ 160 := ok.1
  have a := tF_bd (T := T) hp.2
  have b := tT_bd (T := T) hp.2
  have hpm : pmW n < 7 := by unfold pmW; split <;> (try split) <;> omega
  have lb := wLn_bd hpm
  have tab : ((List.range 7).all fun n => decide (endsT (n + 1) - endsT n = (wLn (pmW n) : Int))) = true := by decide +kernel
  have e1 := of_decide_eq_true (List.all_eq_true.mp tab n (by simp; omega))
  have en : rd σ 55 (n : Int) = endsT n := by unfold rd; rw [Int.toNat_natCast]; exact co.1 n (by omega)
  have en1 : rd σ 55 ((n : Int) + 1) = endsT (n + 1) := by
    unfold rd
    rw [show ((n : Int) + 1).toNat = n + 1 by omega]
    exact co.1 (n + 1) (by omega)
  unfold isW
  rw [f_X5_nameHere_2, wr_of (x := (n : Int)) (by omega) (by omega), show wr 7 = 7 by decide, if_pos (by omega), h14, if_pos rfl, ld_of (by omega) (by omega) (by omega), bV_s, ld_of (by omega) (by omega) (by omega), bV_s, en, en1, e1, h12, h13, wr_of (x := tT L T p - tF L T p) (by omega) (by omega), wr_of (x := (wLn (pmW n) : Int)) (by omega) (by omega)]
  unfold f_X5_nameHere_48
  by_cases d : tT L T p - tF L T p = (wLn (pmW n) : Int)
  · rw [if_pos d, if_pos d]
    exact m_name_loop ok hn (t := tT L T p) (by omega) h co h12 h13 _ (wLn (pmW n)) 0 FU (by omega) (by unfold FU; omega)
  · rw [if_neg d, if_neg d, if_neg (by decide)]
    obtain ⟨y, hy⟩ : ∃ y, FU = y + 1 := ⟨3999, rfl⟩
    rw [hy, f_X5_nameHere_51, if_pos (by decide)]
    unfold f_X5_nameHere_106
    rw [if_pos (by decide)]
/-- which line: 0 to 3 riders, 4 bears, 5 trust, 6 on, 7 none -/
def kn (L : Int) (T : Int → Int) (p : Int) : Nat := if tK L T p = 1 then (if isW L T p 0 = true then 0 else if isW L T p 1 = true then 1 else if isW L T p 2 = true then 2 else if isW L T p 3 = true then 3 else if isW L T p 4 = true then 4 else if isW L T p 5 = true then 5 else if isW L T p 6 = true then 6 else 7) else 7
def knM (k : Nat) : Int := if k ≤ 3 then (k : Int) else if k = 4 then 6 else if k = 5 then 5 else if k = 6 then 4 else -4
theorem isW_ex {L p : Int} {T : Int → Int} : (isW L T p 4 = true → isW L T p 5 = false ∧ isW L T p 6 = false) ∧ (isW L T p 5 = true → isW L T p 6 = false) := by
  have l4 : (wLn 4 : Int) = 5 := rfl
  have l5 : (wLn 5 : Int) = 5 := rfl
  have l6 : (wLn 6 : Int) = 2 := rfl
  have c4 : wCh 4 0 = 98 := by decide +kernel
  have c5 : wCh 5 0 = 116 := by decide +kernel
  unfold isW
  rw [l4, l5, l6]
  by_cases a : tT L T p - tF L T p = 5
  · rw [if_pos a, if_pos a, if_neg (by omega)]
    refine ⟨fun z => ⟨?_, rfl⟩, fun _ => rfl⟩
    have z' : (if T (tF L T p + (0 : Nat)) = wCh 4 0 then eqN T (tF L T p) (wCh 4) 4 1 else false) = true := z
    show (if T (tF L T p + (0 : Nat)) = wCh 5 0 then eqN T (tF L T p) (wCh 5) 4 1 else false) = false
    rw [c4] at z'
    rw [c5]
    by_cases c : T (tF L T p + (0 : Nat)) = 98
    · rw [if_neg (by omega)]
    · rw [if_neg c] at z'; cases z'
  · rw [if_neg a, if_neg a]
    exact ⟨fun z => (by cases z), fun z => (by cases z)⟩
theorem m_name {L : Int} {T : Int → Int} (ok : okT (L, T)) {p : Int} (hp : 0 ≤ p ∧ p ≤ L) {σ : St} (h : mTp σ (L, T)) (co : mCo σ) (h14 : σ 51 14 = tK L T p) (h13 : σ 51 13 = tF L T p) (h12 : σ 51 12 = tT L T p) : f_X5_nameHere σ = some (knM (kn L T p), σ) := by
  have kr := tK_rg L p T
  unfold f_X5_nameHere kn
  by_cases c : tK L T p = 1
  · rw [c] at h14
    rw [if_pos c]
    obtain ⟨y, hy⟩ : ∃ y, FU = y + 8 := ⟨3992, rfl⟩
    have st := fun (n : Nat) (hn : n < 7) (m : Nat) => m_name_step ok hn hp h co h14 h13 h12 m
    have s0 := st 0 (by omega) (y + 7)
    have s1 := st 1 (by omega) (y + 6)
    have s2 := st 2 (by omega) (y + 5)
    have s3 := st 3 (by omega) (y + 4)
    have s4 := st 4 (by omega) (y + 3)
    have s5 := st 5 (by omega) (y + 2)
    have s6 := st 6 (by omega) (y + 1)
    have s7 : f_X5_nameHere_2 (y + 1) (((6 : Nat) : Int) + 1) σ = some (-4, σ) := by
      rw [f_X5_nameHere_2, if_neg (by decide)]
    rw [s7] at s6
    rw [show (((5 : Nat) : Int) + 1) = ((6 : Nat) : Int) by decide, s6] at s5
    rw [show (((4 : Nat) : Int) + 1) = ((5 : Nat) : Int) by decide, s5] at s4
    rw [show (((3 : Nat) : Int) + 1) = ((4 : Nat) : Int) by decide, s4] at s3
    rw [show (((2 : Nat) : Int) + 1) = ((3 : Nat) : Int) by decide, s3] at s2
    rw [show (((1 : Nat) : Int) + 1) = ((2 : Nat) : Int) by decide, s2] at s1
    rw [show (((0 : Nat) : Int) + 1) = ((1 : Nat) : Int) by decide, s1] at s0
    rw [hy]
    refine Eq.trans s0 ?_
    rw [show pmW 0 = 0 from rfl, show pmW 1 = 1 from rfl, show pmW 2 = 2 from rfl, show pmW 3 = 3 from rfl, show pmW 4 = 6 from rfl, show pmW 5 = 5 from rfl, show pmW 6 = 4 from rfl]
    have ex := isW_ex (L := L) (T := T) (p := p)
    by_cases c0 : isW L T p 0 = true
    · rw [if_pos c0, if_pos c0]; rfl
    · rw [if_neg c0, if_neg c0]
      by_cases c1 : isW L T p 1 = true
      · rw [if_pos c1, if_pos c1]; rfl
      · rw [if_neg c1, if_neg c1]
        by_cases c2 : isW L T p 2 = true
        · rw [if_pos c2, if_pos c2]; rfl
        · rw [if_neg c2, if_neg c2]
          by_cases c3 : isW L T p 3 = true
          · rw [if_pos c3, if_pos c3]; rfl
          · rw [if_neg c3, if_neg c3]
            by_cases c4 : isW L T p 4 = true
            · obtain ⟨x5, x6⟩ := ex.1 c4
              rw [if_neg (by rw [x6]; decide), if_neg (by rw [x5]; decide), if_pos c4, if_pos c4]; rfl
            · by_cases c5 : isW L T p 5 = true
              · have x6 := ex.2 c5
                rw [if_neg (by rw [x6]; decide), if_pos c5, if_neg c4, if_pos c5]; rfl
              · by_cases c6 : isW L T p 6 = true
                · rw [if_pos c6, if_neg c4, if_neg c5, if_pos c6]; rfl
                · rw [if_neg c6, if_neg c5, if_neg c4, if_neg c4, if_neg c5, if_neg c6]; rfl
  · rw [if_neg c]
    obtain ⟨y, hy⟩ : ∃ y, FU = y + 1 := ⟨3999, rfl⟩
    rw [hy, f_X5_nameHere_2, if_pos (by decide), h14, wr_of (x := tK L T p) (by omega) (by omega), show wr 1 = 1 by decide, if_neg c]
    rfl
