/-! ===== pure part 37: the class's text ===== -/
def newP : Pg := fun r i => if r = 0 ∧ i = 1 then 25 else if r = 4 ∧ 0 ≤ i ∧ i < 4 then 1 else 0
theorem newP_wf : WF newP := by
  refine ⟨by decide, by decide, by decide, by decide, by decide, fun h a b => ?_, fun r a b => ?_, fun i a b => ?_⟩
  · have b' : h < 0 := b
    omega
  · have e : newP 4 r = 1 := by unfold newP; rw [if_neg (by omega), if_pos ⟨rfl, a, b⟩]
    rw [e]; omega
  · have b' : i < 0 := b
    omega
def s0L : Ls := (newP, 0, 0)
theorem s0_ok : LsOK s0L := ⟨newP_wf, rfl, Or.inl rfl⟩
def txR (T : Int × (Int → Int)) : (Int × Int) ⊕ (Pg × Int) := prs T.1 T.2 161 (.inr 0) s0L 0
/-- what is forgotten and kept at a text that is read -/
def R_text (A : Ab) : Int := match txR A.2.2.2.2.1 with
  | .inl e => -10 - e.2
  | .inr y => y.2
def T_text (A : Ab) : Ab := match txR A.2.2.2.2.1 with
  | .inl e => (A.1, A.2.1, A.2.2.1, A.2.2.2.1, (0, A.2.2.2.2.1.2), A.2.2.2.2.2.1, e.1, A.2.2.2.2.2.2.2)
  | .inr y => (y.1, (0, A.2.1.2), A.2.2.1, fun _ => 0, (0, A.2.2.2.2.1.2), A.2.2.2.2.2.1, 0, A.2.2.2.2.2.2.2)
theorem c_new {σ : St} : ∃ σ', f_X2_makeNew 11 σ = some σ' ∧ cv σ' 11 = newP ∧ σ' 11 11 = 0 ∧ (∀ k j, k ≠ 11 → k ≠ 15 → σ' k j = σ k j) := by
  unfold f_X2_makeNew pf
  rw [bV_s, bV_s, fill_eq (by omega), bV_s, bV_s, bV_s, bV_s, bV_s]
  refine ⟨_, rfl, ?_, ?_, ?_⟩
  · generalize hs' : up (up (up (up (fun b j => if b = 11 + 4 ∧ j < 4 then (1 : Int) else up (up σ 11 0 0) 11 4 25 b j) 11 6 0) 11 11 0) 11 12 0) 11 13 0 = σ'
    have z0 : σ' 11 0 = 0 := by rw [← hs']; rfl
    have z4 : σ' 11 4 = 25 := by rw [← hs']; rfl
    have z6 : σ' 11 6 = 0 := by rw [← hs']; rfl
    have z12 : σ' 11 12 = 0 := by rw [← hs']; rfl
    have z13 : σ' 11 13 = 0 := by rw [← hs']; rfl
    have zt : ∀ i : Int, 0 ≤ i → i < 4 → rd σ' (11 + 4) i = 1 := by
      intro i a b
      rw [← hs']
      unfold rd
      rw [up_at, if_neg (by omega), up_at, if_neg (by omega), up_at, if_neg (by omega), up_at, if_neg (by omega)]
      show (if 11 + 4 = 11 + 4 ∧ i.toNat < 4 then (1 : Int) else _) = 1
      rw [if_pos (by omega)]
    funext r i
    unfold newP
    match r with
    | 0 =>
      simp only [cv, z0, z4, z6, z12, z13]
      by_cases c : i = 1
      · subst c; simp
      · simp [c]
    | 1 => simp only [cv, z0]; rw [if_neg (by omega), if_neg (by omega), if_neg (by omega)]
    | 2 => simp only [cv, z0]; rw [if_neg (by omega), if_neg (by omega), if_neg (by omega)]
    | 3 => simp only [cv, z0]; rw [if_neg (by omega), if_neg (by omega), if_neg (by omega)]
    | 4 =>
      simp only [cv]
      by_cases c : 0 ≤ i ∧ i < 4
      · rw [if_pos c, zt i c.1 c.2, if_neg (by omega), if_pos ⟨trivial, c⟩]
      · rw [if_neg c, if_neg (by omega), if_neg (fun z => c z.2)]
    | 5 => simp only [cv, z6]; rw [if_neg (by omega), if_neg (by omega), if_neg (by omega)]
    | 6 => simp only [cv, z6]; rw [if_neg (by omega), if_neg (by omega), if_neg (by omega)]
    | 7 => simp only [cv, z6]; rw [if_neg (by omega), if_neg (by omega), if_neg (by omega)]
    | 8 => simp only [cv, z6]; rw [if_neg (by omega), if_neg (by omega), if_neg (by omega)]
    | n + 9 => simp [cv]
  · rfl
  · intro k j h1 h2
    rw [up_at, if_neg (by omega), up_at, if_neg (by omega), up_at, if_neg (by omega), up_at, if_neg (by omega)]
    show (if k = 11 + 4 ∧ j < 4 then (1 : Int) else _) = _
    rw [if_neg (by omega), up_at, if_neg (by omega), up_at, if_neg (by omega)]
theorem c_parse {L : Int} {T : Int → Int} (ok : okT (L, T)) {σ : St} (h : cTp σ (L, T)) : ∃ σ', f_X3_parse 11 σ = some σ' ∧ CE σ' 0 (txR (L, T)) ∧ (∀ k j, ¬ (11 ≤ k ∧ k ≤ 20) → ¬ (k = 41 ∧ 2 ≤ j) → σ' k j = σ k j) := by
  have hL : 0 ≤ L ∧ L ≤ 160 := ok.1
  obtain ⟨σ1, a1, a2, a3, a4⟩ := c_new (σ := σ)
  unfold f_X3_parse pf pz
  rw [a1, bV_s, bV_s, bV_s, bV_s, bV_s, if_pos (by decide), bV_s, bV_s]
  generalize hs2 : up (up (up (up (up (up σ1 41 2 0) 41 3 0) 41 4 0) 41 7 0) 41 8 0) 41 9 0 = σ2
  have off : ∀ k j, ¬ (k = 41 ∧ 2 ≤ j) → σ2 k j = σ1 k j := by
    intro k j hk
    rw [← hs2, up_at, if_neg (by omega), up_at, if_neg (by omega), up_at, if_neg (by omega), up_at, if_neg (by omega), up_at, if_neg (by omega), up_at, if_neg (by omega)]
  have tp2 : cTp σ2 (L, T) := h.ext ((off 41 1 (by omega)).trans (a4 41 1 (by omega) (by omega))) (fun j => (off 42 j (by omega)).trans (a4 42 j (by omega) (by omega)))
  have ct : CTk σ2 (.inr 0) := ⟨by rw [← hs2]; rfl, by rw [← hs2]; rfl⟩
  have cr : CR σ2 s0L := ⟨(cv_ext (fun r j hr _ => off (11 + r) j (by omega))).trans a2, (off 11 11 (by omega)).trans a3, by rw [← hs2]; rfl, by rw [← hs2]; rfl⟩
  have l4 : σ2 41 4 = 0 := by rw [← hs2]; rfl
  have g0 : RsOK L (.inr 0) := ⟨by omega, by omega⟩
  obtain ⟨σ3, b1, b2, b3⟩ := c_take ok tp2 g0 ct
  rw [b1, bV_s]
  obtain ⟨σ', c1, c2, c3⟩ := c_prs ok 161 0 FU σ3 (.inr 0) s0L (by omega) (by omega) (by unfold FU; omega) (b3.tp tp2) (show ((0 : Nat) : Int) ≤ 0 ∧ 0 ≤ L by omega) b2 (fun _ _ => ⟨s0_ok, cr.ft b3⟩) (by rw [b3 41 4 (by omega), l4]; rfl)
  exact ⟨σ', c1, c2, fun k j x y => by rw [c3 k j x y, b3 k j (by omega), off k j (by omega), a4 k j (by omega) (by omega)]⟩
/-- a page that is read keeps its bounds -/
theorem prs_ok {L : Int} {T : Int → Int} : ∀ (m : Nat) (x : Rs) (s : Ls) (n : Int), (∀ p, x = .inr p → LsOK s) → ∀ y, prs L T m x s n = .inr y → WF y.1 ∧ y.1 0 3 = 0 := by
  intro m
  induction m with
  | zero => intro x s n _ y h; cases h
  | succ m ih =>
    intro x s n hs y h
    match x, hs, h with
    | .inl e, _, h => cases h
    | .inr p, hs, h =>
      have h' : (if tK L T p = -1 then .inl (1, tF L T p) else if tK L T p = 0 then endR L s n else prs L T m (lnR L T s p) (lnS L T s p) (n + 1)) = (.inr y : (Int × Int) ⊕ (Pg × Int)) := h
      by_cases k1 : tK L T p = -1
      · rw [if_pos k1] at h'; cases h'
      · rw [if_neg k1] at h'
        by_cases k0 : tK L T p = 0
        · rw [if_pos k0] at h'
          unfold endR at h'
          by_cases c : hiP s.1 < s.1 0 0
          · rw [if_pos c] at h'
            cases h'
            exact ⟨(hs p rfl).1, (hs p rfl).2.1⟩
          · rw [if_neg c] at h'; cases h'
        · rw [if_neg k0] at h'
          exact ih _ _ _ (fun q hq => lnS_ok (hs p rfl) hq) y h'
theorem text_ok {A : Ab} (ok : OKA A) : OKA (T_text A) := by
  obtain ⟨w, sg, im, tp, sh⟩ := ok
  have t0 : okT (0, A.2.2.2.2.1.2) := ⟨by show (0 : Int) ≤ 0 ∧ (0 : Int) ≤ 160; omega, fun i a b => by have b' : i < 0 := b; omega⟩
  unfold T_text
  cases hq : txR A.2.2.2.2.1 with
  | inl e => exact ⟨w, sg, im, t0, sh⟩
  | inr y =>
    obtain ⟨y1, y2⟩ := prs_ok 161 (.inr 0) s0L 0 (fun _ _ => s0_ok) y hq
    refine ⟨⟨y1, ?_⟩, ?_, ?_, t0, sh⟩
    · show y.1 0 3 ≤ 999
      omega
    · exact ⟨by show (0 : Int) ≤ 0 ∧ (0 : Int) ≤ 6; omega, fun i a b => by have b' : i < 0 := b; omega⟩
    · exact ⟨Or.inl rfl, Or.inl rfl, fun z => (by have z' : (0 : Int) = 1 := z; omega), fun z => (by have z' : (0 : Int) = 1 := z; omega)⟩
theorem c_text {σ : St} {A : Ab} (ok : OKA A) (v : Vc σ A) : ∃ σ', f_X4_text σ = some (R_text A, σ') ∧ Vc σ' (T_text A) ∧ FC σ σ' := by
  obtain ⟨⟨a1, a2⟩, b, c, d, e, f1, f2⟩ := v
  have okt := ok.2.2.2.1
  obtain ⟨σ1, p1, p2, p3⟩ := c_parse (L := A.2.2.2.2.1.1) (T := A.2.2.2.2.1.2) okt d
  unfold f_X4_text pf
  rw [p1, bV_s, bV_s, bV_s]
  unfold R_text T_text
  have off : ∀ k j, ¬ (11 ≤ k ∧ k ≤ 20) → ¬ (k = 41 ∧ 1 ≤ j) → ¬ (k = 0 ∧ j = 8) → up (up σ1 41 1 0) 0 8 (up σ1 41 1 0 41 2) k j = σ k j := by
    intro k j x y z
    rw [up_at, if_neg (by omega), up_at, if_neg (by omega), p3 k j x (by omega)]
  have s8 : up (up σ1 41 1 0) 0 8 (up σ1 41 1 0 41 2) 0 8 = σ1 41 2 := by rw [up_at, if_pos ⟨rfl, rfl⟩, up_at, if_neg (by omega)]
  have p2' : CE σ1 0 (txR A.2.2.2.2.1) := p2
  cases hq : txR A.2.2.2.2.1 with
  | inl er =>
    rw [hq] at p2'
    have p2'' : CTk σ1 (.inl er) := p2'
    obtain ⟨⟨g1, g2⟩, g3, g4⟩ := p2''
    rw [s8, if_neg (by rw [g1, wr_of (by omega) (by omega)]; omega)]
    have q3 : up (up σ1 41 1 0) 0 8 (up σ1 41 1 0 41 2) 41 3 = er.2 := by rw [up_at, if_neg (by omega), up_at, if_neg (by omega), g2]
    refine ⟨_, by rw [q3], ⟨⟨?_, ?_⟩, ?_, ?_, ⟨?_, ?_⟩, ?_, ?_, ?_⟩, fun k j x => off k j (by omega) (by omega) (by omega)⟩
    · exact (cv_ext (fun r j hr _ => off (1 + r) j (by omega) (by omega) (by omega))).trans a1
    · exact (off 1 11 (by omega) (by omega) (by omega)).trans a2
    · exact b.ext (fun k j x y => off k j (by omega) (by omega) (by omega))
    · exact c.ext (off 0 7 (by omega) (by omega) (by omega)) (fun k j x y => off k j (by omega) (by omega) (by omega))
    · rw [up_at, if_neg (by omega), up_at, if_pos ⟨rfl, rfl⟩]
    · intro i x y
      have y' : i < 0 := y
      omega
    · exact e.ext (fun k j x y => off k j (by omega) (by omega) (by omega))
    · rw [s8, g1]
    · exact (off 0 9 (by omega) (by omega) (by omega)).trans f2
  | inr y =>
    rw [hq] at p2'
    obtain ⟨g1, g2, g3, g4⟩ := p2'
    obtain ⟨y1, y2⟩ := prs_ok 161 (.inr 0) s0L 0 (fun _ _ => s0_ok) y hq
    rw [s8, g1, if_pos (by decide)]
    generalize hs2 : up (up σ1 41 1 0) 0 8 (up σ1 41 1 0 41 2) = σ2 at *
    have in2 : ∀ k j, 11 ≤ k ∧ k ≤ 20 → σ2 k j = σ1 k j := fun k j hk => by rw [← hs2, up_at, if_neg (by omega), up_at, if_neg (by omega)]
    have cv2 : cv σ2 11 = y.1 := (cv_ext (fun r j hr _ => in2 (11 + r) j (by omega))).trans g2
    have e0 : σ2 11 0 = y.1 0 0 := by rw [← cv2]; rfl
    have e6 : σ2 11 6 = y.1 0 2 := by rw [← cv2]; rfl
    obtain ⟨σ3, k1, k2, k3, k4, -⟩ := c_copy (q := 1) (r := 11) (σ := σ2) (by omega) (by rw [e0]; exact y1.1.2) (by rw [e6]; exact y1.2.2.1.2)
    rw [k1, bV_s, bV_s, bV_s]
    have fr : ∀ k j, ¬ (1 ≤ k ∧ k ≤ 20) → ¬ (k = 41 ∧ 1 ≤ j) → ¬ (k = 0 ∧ (j = 7 ∨ j = 8)) → ¬ (k = 43 ∧ j = 0) → up (up σ3 43 0 0) 0 7 0 k j = σ k j := by
      intro k j x z u w
      rw [up_at, if_neg (by omega), up_at, if_neg (by omega), k2 k j (by omega), off k j (by omega) z (by omega)]
    have q4 : up (up σ3 43 0 0) 0 7 0 41 4 = y.2 := by
      rw [up_at, if_neg (by omega), up_at, if_neg (by omega), k2 41 4 (by omega), ← hs2, up_at, if_neg (by omega), up_at, if_neg (by omega), g4]
    refine ⟨_, by rw [q4], ⟨⟨?_, ?_⟩, ⟨?_, ?_⟩, ⟨?_, ?_, ?_⟩, ⟨?_, ?_⟩, ?_, ?_, ?_⟩, fun k j x => fr k j (by omega) (by omega) (by omega) (by omega)⟩
    · exact (cv_ext (fun r j hr _ => by rw [up_at, if_neg (by omega), up_at, if_neg (by omega)])).trans (k3.trans cv2)
    · rw [up_at, if_neg (by omega), up_at, if_neg (by omega), k4, in2 11 11 (by omega), g3]
    · rw [up_at, if_neg (by omega), up_at, if_pos ⟨rfl, rfl⟩]
    · intro i x z
      have z' : (i : Int) < 0 := z
      omega
    · rw [up_at, if_pos ⟨rfl, rfl⟩]; rfl
    · intro z; have z' : (0 : Int) = 1 := z; omega
    · intro z; have z' : (0 : Int) = 1 := z; omega
    · rw [up_at, if_neg (by omega), up_at, if_neg (by omega), k2 41 1 (by omega), ← hs2, up_at, if_neg (by omega), up_at, if_pos ⟨rfl, rfl⟩]
    · intro i x z
      have z' : i < 0 := z
      omega
    · exact e.ext (fun k j x z => fr k j (by omega) (by omega) (by omega) (by omega))
    · rw [up_at, if_neg (by omega), up_at, if_neg (by omega), k2 0 8 (by omega), s8, g1]
    · exact (fr 0 9 (by omega) (by omega) (by omega) (by omega)).trans f2
