/-! ===== pure part 32: the text's tokens ===== -/
abbrev Rs : Type := Sum (Int × Int) Int
theorem up_up {σ : St} {k j : Nat} {a b : Int} : up (up σ k j a) k j b = up σ k j b := by
  funext c i
  rw [up_at, up_at, up_at]
  split <;> rfl
theorem up_self {σ : St} {k j : Nat} {a : Int} (h : σ k j = a) : up σ k j a = σ := by
  funext c i
  rw [up_at]
  split
  · rename_i e
    rw [e.1, e.2, h]
  · rfl
def scn (T : Int → Int) (p : Int → Bool) : Nat → Int → Int
  | 0, i => i
  | n + 1, i => if p (T i) then scn T p n (i + 1) else i
theorem scn_bd (T : Int → Int) (p : Int → Bool) : ∀ (n : Nat) (i : Int), i ≤ scn T p n i ∧ scn T p n i ≤ i + n := by
  intro n
  induction n with
  | zero => intro i; simp [scn]
  | succ n ih =>
    intro i
    rw [scn]
    split
    · have := ih (i + 1); omega
    · omega
theorem scn_in (T : Int → Int) (p : Int → Bool) : ∀ (n : Nat) (i j : Int), i ≤ j → j < scn T p n i → p (T j) = true := by
  intro n
  induction n with
  | zero => intro i j h1 h2; simp [scn] at h2; omega
  | succ n ih =>
    intro i j h1 h2
    rw [scn] at h2
    by_cases c : p (T i) = true
    · rw [if_pos c] at h2
      by_cases e : j = i
      · rw [e]; exact c
      · exact ih (i + 1) j (by omega) h2
    · rw [if_neg c] at h2; omega
theorem scn_end (T : Int → Int) (p : Int → Bool) : ∀ (n : Nat) (i : Int), scn T p n i < i + n → p (T (scn T p n i)) = false := by
  intro n
  induction n with
  | zero => intro i h; simp [scn] at h
  | succ n ih =>
    intro i h
    rw [scn] at h ⊢
    by_cases c : p (T i) = true
    · rw [if_pos c] at h ⊢
      exact ih (i + 1) (by omega)
    · rw [if_neg c]
      exact Bool.eq_false_iff.mpr c
def run (L : Int) (T : Int → Int) (p : Int → Bool) (i : Int) : Int := scn T p (L - i).toNat i
theorem run_bd {L : Int} {T : Int → Int} {p : Int → Bool} {i : Int} (h : i ≤ L) : i ≤ run L T p i ∧ run L T p i ≤ L := by
  have := scn_bd T p (L - i).toNat i
  unfold run
  omega
theorem run_end {L : Int} {T : Int → Int} {p : Int → Bool} {i : Int} (h : i ≤ L) (h1 : run L T p i < L) : p (T (run L T p i)) = false := scn_end T p _ i (by unfold run at h1; omega)
theorem run_y {L : Int} {T : Int → Int} {p : Int → Bool} {i : Int} (h : i < L) (c : p (T i) = true) : run L T p i = run L T p (i + 1) := by
  unfold run
  rw [show (L - i).toNat = (L - (i + 1)).toNat + 1 by omega, scn, if_pos c]
theorem run_n {L : Int} {T : Int → Int} {p : Int → Bool} {i : Int} (c : ¬ (i < L ∧ p (T i) = true)) : run L T p i = i := by
  unfold run
  by_cases h : i < L
  · rw [show (L - i).toNat = (L - (i + 1)).toNat + 1 by omega, scn, if_neg (fun z => c ⟨h, z⟩)]
  · rw [show (L - i).toNat = 0 by omega, scn]
def isL (c : Int) : Bool := decide (97 ≤ c ∧ c ≤ 122)
def isD (c : Int) : Bool := decide (48 ≤ c ∧ c ≤ 57)
def isB (c : Int) : Bool := decide (c = 32)
def tF (L : Int) (T : Int → Int) (p : Int) : Int := run L T isB p
def tK (L : Int) (T : Int → Int) (p : Int) : Int := if L ≤ tF L T p then 0 else if isL (T (tF L T p)) = true then 1 else if isD (T (tF L T p)) = true then (if 2 < run L T isD (tF L T p) - tF L T p then -1 else 2) else if T (tF L T p) = 59 then 3 else -1
def tT (L : Int) (T : Int → Int) (p : Int) : Int := if L ≤ tF L T p then tF L T p else if isL (T (tF L T p)) = true then run L T isL (tF L T p) else if isD (T (tF L T p)) = true then run L T isD (tF L T p) else tF L T p + 1
/-- the number of figures from f to t -/
def vF (T : Int → Int) (f t : Int) : Int := if t ≤ f then 0 else if t = f + 1 then T f - 48 else 10 * (T f - 48) + T (f + 1) - 48
def tV (L : Int) (T : Int → Int) (p : Int) : Int := vF T (tF L T p) (tT L T p)
theorem tF_bd {L p : Int} {T : Int → Int} (h : p ≤ L) : p ≤ tF L T p ∧ tF L T p ≤ L := run_bd h
theorem tT_bd {L p : Int} {T : Int → Int} (h : p ≤ L) : tF L T p ≤ tT L T p ∧ tT L T p ≤ L ∧ (tF L T p < L → tF L T p < tT L T p) := by
  have a := tF_bd (T := T) h
  unfold tT
  by_cases c : L ≤ tF L T p
  · rw [if_pos c]; omega
  · rw [if_neg c]
    by_cases c1 : isL (T (tF L T p)) = true
    · have := run_bd (T := T) (p := isL) (i := tF L T p + 1) (L := L) (by omega)
      rw [if_pos c1, run_y (by omega) c1]; omega
    · rw [if_neg c1]
      by_cases c2 : isD (T (tF L T p)) = true
      · have := run_bd (T := T) (p := isD) (i := tF L T p + 1) (L := L) (by omega)
        rw [if_pos c2, run_y (by omega) c2]; omega
      · rw [if_neg c2]; omega
/-! the class takes -/
theorem cTp.u {σ : St} {T : Int × (Int → Int)} {j : Nat} {v : Int} (hj : j ≠ 1) (h : cTp σ T) : cTp (up σ 41 j v) T := h.ext (by rw [up_at, if_neg (by omega)]) (fun i => by rw [up_at, if_neg (by omega)])
theorem c_byte {σ : St} {L i : Int} {T : Int → Int} (h : cTp σ (L, T)) (hL : 0 ≤ L ∧ L ≤ 160) (h0 : 0 ≤ i) (h1 : i ≤ 400) : f_X3_byteAt i σ = some ((if i < L then T i else -1), σ) := by
  have w : wr 160 = 160 := by decide
  have e1 : σ 41 1 = L := h.1
  unfold f_X3_byteAt
  rw [wr_of (x := i) (by omega) (by omega), if_neg (by omega), e1, wr_of (x := L) (by omega) (by omega), w]
  by_cases c : i < L
  · rw [if_pos c, if_pos (by omega), if_pos c, ld_of h0 (by omega) (by omega), bV_s, h.2 i h0 c]
  · rw [if_neg c, if_neg c]
theorem c_byteL {σ : St} {L i : Int} {T : Int → Int} (h : cTp σ (L, T)) (hL : 0 ≤ L ∧ L ≤ 160) (h0 : 0 ≤ i) (h1 : i < L) : f_X3_byteAt i σ = some (T i, σ) := by
  rw [c_byte h hL h0 (by omega), if_pos h1]
theorem c_isL {c : Int} (hc : IR c) (σ : St) : f_X3_isLetter c σ = some (isL c, σ) := by
  have w1 : wr 97 = 97 := by decide
  have w2 : wr 122 = 122 := by decide
  unfold f_X3_isLetter isL
  rw [wrI hc, w1, w2]
  by_cases a : c < 97
  · rw [if_pos a, decide_eq_false (by omega)]
  · rw [if_neg a]
    by_cases b : 122 < c
    · rw [if_pos b, decide_eq_false (by omega)]
    · rw [if_neg b, decide_eq_true (by omega)]
theorem c_isD {c : Int} (hc : IR c) (σ : St) : f_X3_isFigure c σ = some (isD c, σ) := by
  have w1 : wr 48 = 48 := by decide
  have w2 : wr 57 = 57 := by decide
  unfold f_X3_isFigure isD
  rw [wrI hc, w1, w2]
  by_cases a : c < 48
  · rw [if_pos a, decide_eq_false (by omega)]
  · rw [if_neg a]
    by_cases b : 57 < c
    · rw [if_pos b, decide_eq_false (by omega)]
    · rw [if_neg b, decide_eq_true (by omega)]
theorem c_skip {L : Int} {T : Int → Int} (ok : okT (L, T)) : ∀ (n m : Nat) (σ : St) (i : Int), cTp σ (L, T) → σ 41 6 = i → 0 ≤ i → i ≤ L → (L - i).toNat = n → n < m → f_X3_take_16 m σ = f_X3_take_53 (up σ 41 6 (tF L T i)) := by
  have hL : 0 ≤ L ∧ L ≤ 160 := ok.1
  have w : wr 32 = 32 := by decide
  intro n
  induction n with
  | zero =>
    intro m σ i h e h0 h1 hn hm
    obtain ⟨m, rfl⟩ : ∃ y, m = y + 1 := ⟨m - 1, by omega⟩
    have e1 : σ 41 1 = L := h.1
    rw [f_X3_take_16, e, e1, wr_of (x := i) (by omega) (by omega), wr_of (x := L) (by omega) (by omega), if_neg (by omega)]
    unfold tF
    rw [run_n (by omega), up_self e]
  | succ n ih =>
    intro m σ i h e h0 h1 hn hm
    obtain ⟨m, rfl⟩ : ∃ y, m = y + 1 := ⟨m - 1, by omega⟩
    have e1 : σ 41 1 = L := h.1
    have hb := ok.2 i h0 (show i < L by omega)
    have hb' : 0 ≤ T i ∧ T i ≤ 127 := hb
    rw [f_X3_take_16, e, e1, wr_of (x := i) (by omega) (by omega), wr_of (x := L) (by omega) (by omega), if_pos (by omega), c_byteL h hL h0 (by omega), bI_s, w, wr_of (x := T i) (by omega) (by omega)]
    unfold tF
    by_cases c : T i = 32
    · unfold pf
      rw [if_pos c, bV_s, e, ih m (up σ 41 6 (i + 1)) (i + 1) (h.u (by omega)) (by rw [up_at, if_pos ⟨rfl, rfl⟩]) (by omega) (by omega) (by omega) (by omega), up_up, run_y (by omega) (decide_eq_true c)]
      rfl
    · rw [if_neg c, run_n (fun z => c (of_decide_eq_true z.2)), up_self e]
theorem c_letters {L : Int} {T : Int → Int} (ok : okT (L, T)) : ∀ (n m : Nat) (σ : St) (i : Int), cTp σ (L, T) → σ 41 7 = i → 0 ≤ i → i ≤ L → (L - i).toNat = n → n < m → f_X3_take_101 m σ = some (up σ 41 7 (run L T isL i)) := by
  have hL : 0 ≤ L ∧ L ≤ 160 := ok.1
  intro n
  induction n with
  | zero =>
    intro m σ i h e h0 h1 hn hm
    obtain ⟨m, rfl⟩ : ∃ y, m = y + 1 := ⟨m - 1, by omega⟩
    have e1 : σ 41 1 = L := h.1
    rw [f_X3_take_101, e, e1, wr_of (x := i) (by omega) (by omega), wr_of (x := L) (by omega) (by omega), if_neg (by omega), run_n (by omega), up_self e]
  | succ n ih =>
    intro m σ i h e h0 h1 hn hm
    obtain ⟨m, rfl⟩ : ∃ y, m = y + 1 := ⟨m - 1, by omega⟩
    have e1 : σ 41 1 = L := h.1
    have hb' : 0 ≤ T i ∧ T i ≤ 127 := ok.2 i h0 (show i < L by omega)
    rw [f_X3_take_101, e, e1, wr_of (x := i) (by omega) (by omega), wr_of (x := L) (by omega) (by omega), if_pos (by omega), c_byteL h hL h0 (by omega), bI_s, c_isL (by omega), bI_s]
    by_cases c : isL (T i) = true
    · unfold pf
      rw [if_pos c, bV_s, e, ih m (up σ 41 7 (i + 1)) (i + 1) (h.u (by omega)) (by rw [up_at, if_pos ⟨rfl, rfl⟩]) (by omega) (by omega) (by omega) (by omega), up_up, run_y (by omega) c]
    · rw [if_neg c, run_n (fun z => c z.2), up_self e]
theorem c_figures {L : Int} {T : Int → Int} (ok : okT (L, T)) : ∀ (n m : Nat) (σ : St) (i : Int), cTp σ (L, T) → σ 41 7 = i → 0 ≤ i → i ≤ L → (L - i).toNat = n → n < m → f_X3_take_151 m σ = f_X3_take_189 (up σ 41 7 (run L T isD i)) := by
  have hL : 0 ≤ L ∧ L ≤ 160 := ok.1
  intro n
  induction n with
  | zero =>
    intro m σ i h e h0 h1 hn hm
    obtain ⟨m, rfl⟩ : ∃ y, m = y + 1 := ⟨m - 1, by omega⟩
    have e1 : σ 41 1 = L := h.1
    rw [f_X3_take_151, e, e1, wr_of (x := i) (by omega) (by omega), wr_of (x := L) (by omega) (by omega), if_neg (by omega), run_n (by omega), up_self e]
  | succ n ih =>
    intro m σ i h e h0 h1 hn hm
    obtain ⟨m, rfl⟩ : ∃ y, m = y + 1 := ⟨m - 1, by omega⟩
    have e1 : σ 41 1 = L := h.1
    have hb' : 0 ≤ T i ∧ T i ≤ 127 := ok.2 i h0 (show i < L by omega)
    rw [f_X3_take_151, e, e1, wr_of (x := i) (by omega) (by omega), wr_of (x := L) (by omega) (by omega), if_pos (by omega), c_byteL h hL h0 (by omega), bI_s, c_isD (by omega), bI_s]
    by_cases c : isD (T i) = true
    · unfold pf
      rw [if_pos c, bV_s, e, ih m (up σ 41 7 (i + 1)) (i + 1) (h.u (by omega)) (by rw [up_at, if_pos ⟨rfl, rfl⟩]) (by omega) (by omega) (by omega) (by omega), up_up, run_y (by omega) c]
    · rw [if_neg c, run_n (fun z => c z.2), up_self e]
/-- what the class's taking may change -/
def Ft (σ σ' : St) : Prop := ∀ k j, ¬ (k = 41 ∧ (j = 2 ∨ j = 3 ∨ j = 5 ∨ j = 6 ∨ j = 7)) → σ' k j = σ k j
theorem Ft.rf (σ : St) : Ft σ σ := fun _ _ _ => rfl
theorem Ft.tr {a b c : St} (h1 : Ft a b) (h2 : Ft b c) : Ft a c := fun k j h => (h2 k j h).trans (h1 k j h)
theorem Ft.u {σ : St} {j : Nat} {v : Int} (h : j = 2 ∨ j = 3 ∨ j = 5 ∨ j = 6 ∨ j = 7) : Ft σ (up σ 41 j v) := fun k i hk => by rw [up_at, if_neg (by omega)]
theorem Ft.tp {σ σ' : St} {T : Int × (Int → Int)} (h : Ft σ σ') (t : cTp σ T) : cTp σ' T := t.ext (h 41 1 (by omega)) (fun j => h 42 j (by omega))
/-- a fault, or what is taken: up to p -/
def CTk (σ : St) (x : Rs) : Prop := match x with
  | .inl e => (σ 41 2 = e.1 ∧ σ 41 3 = e.2) ∧ (1 ≤ e.1 ∧ e.1 ≤ 6) ∧ (0 ≤ e.2 ∧ e.2 ≤ 160)
  | .inr p => σ 41 2 = 0 ∧ σ 41 7 = p
/-- a fault, or the token behind p is at hand -/
def CLk (L : Int) (T : Int → Int) (σ : St) (x : Rs) : Prop := match x with
  | .inl e => CTk σ (.inl e)
  | .inr p => if tK L T p = -1 then CTk σ (.inl (1, tF L T p)) else σ 41 2 = 0 ∧ σ 41 5 = tK L T p ∧ σ 41 6 = tF L T p ∧ σ 41 7 = tT L T p
def RsOK (L : Int) (x : Rs) : Prop := match x with
  | .inl _ => True
  | .inr p => 0 ≤ p ∧ p ≤ L
theorem c_fail0 {σ : St} {c pl : Int} (h : σ 41 2 = 0) : f_X3_fail c pl σ = some (up (up σ 41 2 c) 41 3 pl) := by
  unfold f_X3_fail pf
  rw [h, if_pos (by decide), bV_s, bV_s]
theorem c_fail1 {σ : St} {c pl : Int} {e : Int × Int} (h : CTk σ (.inl e)) : f_X3_fail c pl σ = some σ := by
  obtain ⟨⟨a, b⟩, d, f⟩ := h
  unfold f_X3_fail
  rw [a, if_neg (by rw [wr_of (by omega) (by omega)]; omega)]
theorem c_failS {σ : St} {c pl : Int} (hc : 1 ≤ c ∧ c ≤ 6) (hp : 0 ≤ pl ∧ pl ≤ 160) : CTk (up (up σ 41 2 c) 41 3 pl) (.inl (c, pl)) := by
  refine ⟨⟨?_, ?_⟩, hc, hp⟩
  · rw [up_at, if_neg (by omega), up_at, if_pos ⟨rfl, rfl⟩]
  · rw [up_at, if_pos ⟨rfl, rfl⟩]
theorem c_take {L : Int} {T : Int → Int} (ok : okT (L, T)) {σ : St} {x : Rs} (h : cTp σ (L, T)) (hx : RsOK L x) (hs : CTk σ x) : ∃ σ', f_X3_take σ = some σ' ∧ CLk L T σ' x ∧ Ft σ σ' := by
  have hL : 0 ≤ L ∧ L ≤ 160 := ok.1
  match x, hx, hs with
  | .inl e, _, hs =>
    refine ⟨σ, ?_, hs, Ft.rf σ⟩
    obtain ⟨⟨a, b⟩, d, f⟩ := hs
    unfold f_X3_take
    rw [a, if_neg (by rw [wr_of (by omega) (by omega)]; omega)]
  | .inr p, hp, hs =>
    have hp' : 0 ≤ p ∧ p ≤ L := hp
    obtain ⟨a, b⟩ := hs
    have fb := tF_bd (T := T) hp'.2
    unfold f_X3_take
    rw [a, if_pos (by decide)]
    unfold pf
    rw [bV_s, b, c_skip ok (L - p).toNat FU (up σ 41 6 p) p (h.u (by omega)) (by rw [up_at, if_pos ⟨rfl, rfl⟩]) hp'.1 hp'.2 rfl (by unfold FU; omega), up_up]
    generalize hF : tF L T p = F at *
    have h1 : cTp (up (up σ 41 6 F) 41 7 F) (L, T) := (h.u (by omega)).u (by omega)
    have e6 : up σ 41 6 F 41 6 = F := by rw [up_at, if_pos ⟨rfl, rfl⟩]
    have e6' : up (up σ 41 6 F) 41 7 F 41 6 = F := by rw [up_at, if_neg (by omega), e6]
    have e1 : up (up σ 41 6 F) 41 7 F 41 1 = L := h1.1
    have e2 : up (up σ 41 6 F) 41 7 F 41 2 = 0 := by rw [up_at, if_neg (by omega), up_at, if_neg (by omega), a]
    have e7 : up (up σ 41 6 F) 41 7 F 41 7 = F := by rw [up_at, if_pos ⟨rfl, rfl⟩]
    have f1 : Ft σ (up (up σ 41 6 F) 41 7 F) := (Ft.u (by omega)).tr (Ft.u (by omega))
    unfold f_X3_take_53 pf
    rw [bV_s, e6, e6', c_byte h1 hL (by omega) (by omega), bI_s, e6', e1, wr_of (x := F) (by omega) (by omega), wr_of (x := L) (by omega) (by omega)]
    generalize hτ : up (up σ 41 6 F) 41 7 F = τ at *
    show ∃ σ', _ = some σ' ∧ (if tK L T p = -1 then CTk σ' (.inl (1, tF L T p)) else σ' 41 2 = 0 ∧ σ' 41 5 = tK L T p ∧ σ' 41 6 = tF L T p ∧ σ' 41 7 = tT L T p) ∧ Ft σ σ'
    unfold tK tT
    rw [hF]
    by_cases c0 : L ≤ F
    · rw [if_neg (by omega), bV_s]
      refine ⟨up τ 41 5 0, rfl, ?_, f1.tr (Ft.u (by omega))⟩
      rw [if_pos c0, if_pos c0, if_neg (by omega)]
      exact ⟨by rw [up_at, if_neg (by omega), e2], by rw [up_at, if_pos ⟨rfl, rfl⟩], by rw [up_at, if_neg (by omega), e6'], by rw [up_at, if_neg (by omega), e7]⟩
    · have hb' : 0 ≤ T F ∧ T F ≤ 127 := ok.2 F (by omega) (show F < L by omega)
      rw [if_pos (by omega), if_pos (by omega), if_neg c0, if_neg c0, c_isL (by omega), bI_s]
      by_cases c1 : isL (T F) = true
      · rw [if_pos c1, bV_s, c_letters ok (L - F).toNat FU (up τ 41 5 1) F (h1.u (by omega)) (by rw [up_at, if_neg (by omega), e7]) (by omega) (by omega) rfl (by unfold FU; omega)]
        refine ⟨_, rfl, ?_, f1.tr ((Ft.u (by omega)).tr (Ft.u (by omega)))⟩
        rw [if_pos c1, if_pos c1, if_neg (by omega)]
        exact ⟨by rw [up_at, if_neg (by omega), up_at, if_neg (by omega), e2], by rw [up_at, if_neg (by omega), up_at, if_pos ⟨rfl, rfl⟩], by rw [up_at, if_neg (by omega), up_at, if_neg (by omega), e6'], by rw [up_at, if_pos ⟨rfl, rfl⟩]⟩
      · rw [if_neg c1, if_neg c1, if_neg c1, c_isD (by omega), bI_s]
        by_cases c2 : isD (T F) = true
        · have rb := run_bd (T := T) (p := isD) (i := F) (L := L) (by omega)
          rw [if_pos c2, bV_s, c_figures ok (L - F).toNat FU (up τ 41 5 2) F (h1.u (by omega)) (by rw [up_at, if_neg (by omega), e7]) (by omega) (by omega) rfl (by unfold FU; omega), if_pos c2, if_pos c2]
          generalize hE : run L T isD F = E at *
          have g6 : up (up τ 41 5 2) 41 7 E 41 6 = F := by rw [up_at, if_neg (by omega), up_at, if_neg (by omega), e6']
          have g7 : up (up τ 41 5 2) 41 7 E 41 7 = E := by rw [up_at, if_pos ⟨rfl, rfl⟩]
          have g2 : up (up τ 41 5 2) 41 7 E 41 2 = 0 := by rw [up_at, if_neg (by omega), up_at, if_neg (by omega), e2]
          have g5 : up (up τ 41 5 2) 41 7 E 41 5 = 2 := by rw [up_at, if_neg (by omega), up_at, if_pos ⟨rfl, rfl⟩]
          have w2 : wr 2 = 2 := by decide
          unfold f_X3_take_189
          rw [g6, g7, w2, wr_of (x := E - F) (by omega) (by omega)]
          by_cases c3 : 2 < E - F
          · rw [if_pos c3, c_fail0 g2, bV_s, if_pos c3]
            exact ⟨_, rfl, by rw [if_pos rfl]; exact c_failS (by omega) (by omega), ((f1.tr ((Ft.u (by omega)).tr (Ft.u (by omega)))).tr (Ft.u (by omega))).tr (Ft.u (by omega))⟩
          · rw [if_neg c3, if_neg c3]
            exact ⟨_, rfl, by rw [if_neg (by omega)]; exact ⟨g2, g5, g6, g7⟩, f1.tr ((Ft.u (by omega)).tr (Ft.u (by omega)))⟩
        · have w59 : wr 59 = 59 := by decide
          rw [if_neg c2, if_neg c2, if_neg c2, w59, wr_of (x := T F) (by omega) (by omega)]
          by_cases c3 : T F = 59
          · rw [if_pos c3, bV_s, bV_s, if_pos c3]
            have q7 : up τ 41 5 3 41 7 = F := by rw [up_at, if_neg (by omega), e7]
            rw [q7]
            refine ⟨_, rfl, by rw [if_neg (by omega)]; exact ⟨by rw [up_at, if_neg (by omega), up_at, if_neg (by omega), e2], by rw [up_at, if_neg (by omega), up_at, if_pos ⟨rfl, rfl⟩], by rw [up_at, if_neg (by omega), up_at, if_neg (by omega), e6'], by rw [up_at, if_pos ⟨rfl, rfl⟩]⟩, f1.tr ((Ft.u (by omega)).tr (Ft.u (by omega)))⟩
          · rw [if_neg c3, if_neg c3, c_fail0 e2, bV_s, e6']
            exact ⟨_, rfl, by rw [if_pos rfl]; exact c_failS (by omega) (by omega), f1.tr ((Ft.u (by omega)).tr (Ft.u (by omega)))⟩
