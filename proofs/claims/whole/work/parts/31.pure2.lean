/-! ===== pure part 2: what is told, believed, which hoof moves: in mathematics, and by the model ===== -/
def hd (un : Int) (i : Nat) : Prop := wr (iad (isr un (i : Int)) 1) = 0
def tg (P : Pg) (un h e d : Int) (i : Nat) : Int := if P 7 i = h then (if P 8 i = e then (if d < P 5 i then 0 else (if wr (iad (isr un (i : Int)) 1) = 0 then P 4 (P 6 i) else 0)) else 0) else 0
def told (P : Pg) (un h e d : Int) : Int := sumN (tg P un h e d) (P 0 2).toNat
def fb (s : Nat → Int) : Nat → Int × Int
  | 0 => (-4, 0)
  | n + 1 => if (fb s n).2 < s n then ((n : Int), s n) else fb s n
def bel (P : Pg) (un h d : Int) : Int := (fb (fun e => told P un h e d) 4).1
def stnd (b u w : Int) : Prop := ¬ (b * (4 - legs u) < w)
def dist (a b : Int) : Int := if b < a then a - b else b - a
/-- the first leg (from l on) that is changed, or -4 -/
def legF (k u w b e : Int) : Nat → Int
  | 0 => -4
  | n + 1 => if dist (reads k (ixd u (isl 1 (3 - (n : Int))))) e < dist (reads k u) e ∧ ¬ (b * (4 - legs (ixd u (isl 1 (3 - (n : Int))))) < w) then 3 - (n : Int) else legF k u w b e n
/-- what UP becomes on a day -/
def mvu (k u w b e : Int) : Int := if e = -4 ∨ e = reads k u then u else if legF k u w b e 4 = -4 then u else ixd u (isl 1 (legF k u w b e 4))
def ring (k u w b e : Int) : Int := if e = -4 ∨ e = reads k u then 0 else if legF k u w b e 4 = -4 then 0 else 1
def agr (P : Pg) (un h : Int) : Prop := bel P un h (P 0 3) = -4 ∨ bel P un h (P 0 3) = reads (P 1 h) (P 2 h)
def rung1 (P : Pg) (un : Int) (h : Nat) : Int := ring (P 1 h) (P 2 h) (P 3 h) (P 0 1) (bel P un h (P 0 3))
def rung (P : Pg) (un : Int) : Int := sumN (rung1 P un) (P 0 0).toNat
def upd1 (P : Pg) (un : Int) (h : Int) : Int := mvu (P 1 h) (P 2 h) (P 3 h) (P 0 1) (bel P un h (P 0 3))
/-- a day -/
def dayP (P : Pg) (un : Int) : Pg := fun r i => if r = 2 then (if 0 ≤ i ∧ i < P 0 0 then upd1 P un i else P 2 i) else if r = 0 ∧ i = 3 then P 0 3 + 1 else if r = 0 ∧ i = 4 then (if P 0 4 + rung P un < 9999 then P 0 4 + rung P un else 9999) else P r i
/-- a page whose numbers are in their bounds -/
def WF (P : Pg) : Prop := (0 ≤ P 0 0 ∧ P 0 0 ≤ 5) ∧ (1 ≤ P 0 1 ∧ P 0 1 ≤ 99) ∧ (0 ≤ P 0 2 ∧ P 0 2 ≤ 8) ∧ (0 ≤ P 0 3 ∧ P 0 3 ≤ 5000) ∧ (0 ≤ P 0 4 ∧ P 0 4 ≤ 9999) ∧
  (∀ h, 0 ≤ h → h < P 0 0 → (0 ≤ P 1 h ∧ P 1 h < 4) ∧ (0 ≤ P 2 h ∧ P 2 h < 16) ∧ (1 ≤ P 3 h ∧ P 3 h ≤ 99)) ∧ (∀ r, 0 ≤ r → r < 4 → 0 ≤ P 4 r ∧ P 4 r ≤ 9) ∧
  (∀ i, 0 ≤ i → i < P 0 2 → (0 ≤ P 5 i ∧ P 5 i ≤ 99) ∧ (0 ≤ P 6 i ∧ P 6 i < 4) ∧ (0 ≤ P 7 i ∧ P 7 i < 5) ∧ (0 ≤ P 8 i ∧ P 8 i < 4))
theorem told_bd {P : Pg} (wf : WF P) (un h e d : Int) : 0 ≤ told P un h e d ∧ told P un h e d ≤ 72 := by
  obtain ⟨_, _, h2, _, _, _, h4, h8⟩ := wf
  have : ∀ i, i < (P 0 2).toNat → 0 ≤ tg P un h e d i ∧ tg P un h e d i ≤ 9 := by
    intro i hi
    have a := h8 i (by omega) (by omega)
    have b := h4 (P 6 i) a.2.1.1 a.2.1.2
    unfold tg
    repeat' split
    all_goals omega
  have h := sumN_bd this
  unfold told
  have h3 : (P 0 2).toNat ≤ 8 := by omega
  omega
theorem fb_bd {s : Nat → Int} {B : Int} (hB : 0 ≤ B) (h : ∀ e, 0 ≤ s e ∧ s e ≤ B) : ∀ n, (-4 ≤ (fb s n).1 ∧ (fb s n).1 < n ∧ ((fb s n).1 < 0 → (fb s n).1 = -4)) ∧ 0 ≤ (fb s n).2 ∧ (fb s n).2 ≤ B := by
  intro n
  induction n with
  | zero => simp [fb]; omega
  | succ n ih =>
    simp only [fb]
    have := h n
    split
    · simp only; omega
    · omega
theorem bel_bd {P : Pg} (wf : WF P) (un h d : Int) : -4 ≤ bel P un h d ∧ bel P un h d < 4 ∧ (bel P un h d < 0 → bel P un h d = -4) := by
  have := fb_bd (s := fun e => told P un h e d) (B := 72) (by omega) (fun e => told_bd wf un h e d) 4
  exact this.1
/-! the model's view of a page -/
def mv (σ : St) (p : Int) : Pg := fun r i => match r with
  | 0 => if i = 0 then σ 51 1 else if i = 1 then rd σ 52 (p + 15) + 25 else if i = 2 then rd σ 52 (p + 52) else if i = 3 then rd σ 52 (p + 53) else if i = 4 then rd σ 52 (p + 54) else 0
  | 1 => if 0 ≤ i ∧ i < σ 51 1 then rd σ 52 (p + i) else 0
  | 2 => if 0 ≤ i ∧ i < σ 51 1 then rd σ 52 ((p + 5) + i) else 0
  | 3 => if 0 ≤ i ∧ i < σ 51 1 then rd σ 52 ((p + 10) + i) else 0
  | 4 => if 0 ≤ i ∧ i < 4 then rd σ 52 ((p + 16) + i) + 1 else 0
  | 5 => if 0 ≤ i ∧ i < rd σ 52 (p + 52) then rd σ 52 ((p + 20) + i) else 0
  | 6 => if 0 ≤ i ∧ i < rd σ 52 (p + 52) then rd σ 52 ((p + 28) + i) else 0
  | 7 => if 0 ≤ i ∧ i < rd σ 52 (p + 52) then rd σ 52 ((p + 36) + i) else 0
  | 8 => if 0 ≤ i ∧ i < rd σ 52 (p + 52) then rd σ 52 ((p + 44) + i) else 0
  | _ => 0
theorem mv_0 (σ : St) (p : Int) : mv σ p 0 0 = σ 51 1 := rfl
theorem mv_1 (σ : St) (p : Int) : mv σ p 0 1 = rd σ 52 (p + 15) + 25 := rfl
theorem mv_2 (σ : St) (p : Int) : mv σ p 0 2 = rd σ 52 (p + 52) := rfl
theorem mv_3 (σ : St) (p : Int) : mv σ p 0 3 = rd σ 52 (p + 53) := rfl
theorem mv_4 (σ : St) (p : Int) : mv σ p 0 4 = rd σ 52 (p + 54) := rfl
theorem mv_k {σ : St} {p h : Int} (h0 : 0 ≤ h) (h1 : h < mv σ p 0 0) : rd σ 52 (p + h) = mv σ p 1 h := (if_pos ⟨h0, h1⟩).symm
theorem mv_u {σ : St} {p h : Int} (h0 : 0 ≤ h) (h1 : h < mv σ p 0 0) : rd σ 52 ((p + 5) + h) = mv σ p 2 h := (if_pos ⟨h0, h1⟩).symm
theorem mv_w {σ : St} {p h : Int} (h0 : 0 ≤ h) (h1 : h < mv σ p 0 0) : rd σ 52 ((p + 10) + h) = mv σ p 3 h := (if_pos ⟨h0, h1⟩).symm
theorem mv_t {σ : St} {p h : Int} (h0 : 0 ≤ h) (h1 : h < 4) : rd σ 52 ((p + 16) + h) + 1 = mv σ p 4 h := (if_pos ⟨h0, h1⟩).symm
theorem mv_rd {σ : St} {p h : Int} (h0 : 0 ≤ h) (h1 : h < mv σ p 0 2) : rd σ 52 ((p + 20) + h) = mv σ p 5 h := (if_pos ⟨h0, h1⟩).symm
theorem mv_rb {σ : St} {p h : Int} (h0 : 0 ≤ h) (h1 : h < mv σ p 0 2) : rd σ 52 ((p + 28) + h) = mv σ p 6 h := (if_pos ⟨h0, h1⟩).symm
theorem mv_ro {σ : St} {p h : Int} (h0 : 0 ≤ h) (h1 : h < mv σ p 0 2) : rd σ 52 ((p + 36) + h) = mv σ p 7 h := (if_pos ⟨h0, h1⟩).symm
theorem mv_re {σ : St} {p h : Int} (h0 : 0 ≤ h) (h1 : h < mv σ p 0 2) : rd σ 52 ((p + 44) + h) = mv σ p 8 h := (if_pos ⟨h0, h1⟩).symm
section MODEL
variable {σ : St} {p : Int}
theorem m_told_loop (hp : 0 ≤ p ∧ p ≤ 275) (wf : WF (mv σ p)) {h e d : Int} (hh : 0 ≤ h ∧ h < 5) (he : 0 ≤ e ∧ e < 4) (hd : 0 ≤ d ∧ d ≤ 5000) : ∀ (k i n : Nat), i + k = (mv σ p 0 2).toNat → k < n → f_X5_toldOn_6 n p h e d (sumN (tg (mv σ p) (σ 51 18) h e d) i) i σ = some (told (mv σ p) (σ 51 18) h e d, σ) := by
  intro k
  have hM := wf.2.2.1
  have w2 : wr (mv σ p 0 2) = mv σ p 0 2 := wr_of (by omega) (by omega)
  have wh : wr h = h := wr_of (by omega) (by omega)
  have we : wr e = e := wr_of (by omega) (by omega)
  have wd : wr d = d := wr_of (by omega) (by omega)
  induction k with
  | zero =>
    intro i n hi hn
    obtain ⟨n, rfl⟩ : ∃ m, n = m + 1 := ⟨n - 1, by omega⟩
    rw [f_X5_toldOn_6, ld_of (by omega) (by omega) (by omega), bV_s, ← mv_2, w2, wr_of (x := (i : Int)) (by omega) (by omega), if_neg (by omega)]
    unfold told
    rw [show (mv σ p 0 2).toNat = i by omega]
  | succ k ih =>
    intro i n hi hn
    obtain ⟨n, rfl⟩ : ∃ m, n = m + 1 := ⟨n - 1, by omega⟩
    have hi2 : (i : Int) < mv σ p 0 2 := by omega
    obtain ⟨a5, a6, a7, a8⟩ := wf.2.2.2.2.2.2.2 i (by omega) hi2
    have a4 := wf.2.2.2.2.2.2.1 (mv σ p 6 i) a6.1 a6.2
    have nx := ih (i + 1) n (by omega) (by omega)
    have ei : ((i + 1 : Nat) : Int) = (i : Int) + 1 := by omega
    rw [ei] at nx
    rw [f_X5_toldOn_6, ld_of (by omega) (by omega) (by omega), bV_s, ← mv_2, w2, wr_of (x := (i : Int)) (by omega) (by omega), if_pos hi2]
    rw [ld_of (by omega) (by omega) (by omega), bV_s, mv_ro (by omega) hi2, wr_of (x := mv σ p 7 i) (by omega) (by omega), wh]
    simp only [sumN] at nx
    unfold f_X5_toldOn_73 f_X5_toldOn_74 f_X5_toldOn_122 f_X5_toldOn_123
    have w0 : wr 0 = 0 := by decide
    have w1 : ¬ wr 1 = 0 := by decide
    simp only [w0, w1, if_true, if_false]
    have z : tg (mv σ p) (σ 51 18) h e d i = 0 → f_X5_toldOn_6 n p h e d (sumN (tg (mv σ p) (σ 51 18) h e d) i + 0) (↑i + 1) σ = some (told (mv σ p) (σ 51 18) h e d, σ) := fun q => by rw [← q]; exact nx
    by_cases c7 : mv σ p 7 i = h
    · rw [if_pos c7, ld_of (by omega) (by omega) (by omega), bV_s, mv_re (by omega) hi2, wr_of (x := mv σ p 8 i) (by omega) (by omega), we]
      by_cases c8 : mv σ p 8 i = e
      · rw [if_pos c8, ld_of (by omega) (by omega) (by omega), bV_s, mv_rd (by omega) hi2, wr_of (x := mv σ p 5 i) (by omega) (by omega), wd]
        by_cases c5 : d < mv σ p 5 i
        · rw [if_pos c5]
          exact z (by unfold tg; rw [if_pos c7, if_pos c8, if_pos c5])
        · rw [if_neg c5]
          by_cases ch : wr (iad (isr (σ 51 18) i) 1) = 0
          · rw [if_pos ch, ld_of (by omega) (by omega) (by omega), bV_s, mv_rb (by omega) hi2, ld_of (by omega) (by omega) (by omega), bV_s, mv_t a6.1 a6.2]
            have q : tg (mv σ p) (σ 51 18) h e d i = mv σ p 4 (mv σ p 6 i) := by unfold tg; rw [if_pos c7, if_pos c8, if_neg c5, if_pos ch]
            rw [q] at nx
            exact nx
          · rw [if_neg ch]
            exact z (by unfold tg; rw [if_pos c7, if_pos c8, if_neg c5, if_neg ch])
      · rw [if_neg c8]
        exact z (by unfold tg; rw [if_pos c7, if_neg c8])
    · rw [if_neg c7]
      exact z (by unfold tg; rw [if_neg c7])
theorem m_told (hp : 0 ≤ p ∧ p ≤ 275) (wf : WF (mv σ p)) {h e d : Int} (hh : 0 ≤ h ∧ h < 5) (he : 0 ≤ e ∧ e < 4) (hd : 0 ≤ d ∧ d ≤ 5000) : f_X5_toldOn p h e d σ = some (told (mv σ p) (σ 51 18) h e d, σ) := by
  have hM := wf.2.2.1
  exact m_told_loop hp wf hh he hd (mv σ p 0 2).toNat 0 FU (by omega) (by unfold FU; omega)
theorem m_bel_loop (hp : 0 ≤ p ∧ p ≤ 275) (wf : WF (mv σ p)) {h d : Int} (hh : 0 ≤ h ∧ h < 5) (hd : 0 ≤ d ∧ d ≤ 5000) : ∀ (k i n : Nat), i + k = 4 → k < n → f_X5_believedOn_10 n p h d (fb (fun e => told (mv σ p) (σ 51 18) h e d) i).1 (fb (fun e => told (mv σ p) (σ 51 18) h e d) i).2 i σ = some (bel (mv σ p) (σ 51 18) h d, σ) := by
  intro k
  induction k with
  | zero =>
    intro i n hi hn
    obtain ⟨n, rfl⟩ : ∃ m, n = m + 1 := ⟨n - 1, by omega⟩
    obtain rfl : i = 4 := by omega
    rw [f_X5_believedOn_10, if_neg (by decide)]
    rfl
  | succ k ih =>
    intro i n hi hn
    obtain ⟨n, rfl⟩ : ∃ m, n = m + 1 := ⟨n - 1, by omega⟩
    have nx := ih (i + 1) n (by omega) (by omega)
    rw [show ((i + 1 : Nat) : Int) = (i : Int) + 1 by omega] at nx
    simp only [fb] at nx
    have w4 : wr 4 = 4 := by decide
    have hb := fb_bd (s := fun e => told (mv σ p) (σ 51 18) h e d) (B := 72) (by omega) (fun e => told_bd wf _ h e d) i
    have ht := told_bd wf (σ 51 18) h i d
    rw [f_X5_believedOn_10, w4, wr_of (x := (i : Int)) (by omega) (by omega), if_pos (by omega), m_told hp wf hh (by omega) hd, bI_s]
    unfold f_X5_believedOn_41 f_X5_believedOn_57
    rw [wr_of (x := told (mv σ p) (σ 51 18) h i d) (by omega) (by omega), wr_of (x := (fb (fun e => told (mv σ p) (σ 51 18) h e d) i).2) (by omega) (by omega)]
    by_cases c : (fb (fun e => told (mv σ p) (σ 51 18) h e d) i).2 < told (mv σ p) (σ 51 18) h i d
    · simp only [c, if_true] at nx ⊢
      exact nx
    · simp only [c, if_false] at nx ⊢
      exact nx
theorem m_bel (hp : 0 ≤ p ∧ p ≤ 275) (wf : WF (mv σ p)) {h d : Int} (hh : 0 ≤ h ∧ h < 5) (hd : 0 ≤ d ∧ d ≤ 5000) : f_X5_believedOn p h d σ = some (bel (mv σ p) (σ 51 18) h d, σ) :=
  m_bel_loop hp wf hh hd 4 0 FU (by omega) (by unfold FU; omega)
end MODEL
