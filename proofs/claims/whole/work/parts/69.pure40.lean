/-! ===== pure part 40: the model's text; text ===== -/
theorem m_clr : ∀ (n m i : Nat) (σ : St) (x1 : Int), i + n = 55 → n < m → f_X5_text_34 m x1 i σ = bV (f_X5_step (fun b j => if b = 53 ∧ i ≤ j ∧ j < 55 then 0 else σ b j)) fun s54 => f_X5_text_57 FU x1 s54 := by
  have w : wr 55 = 55 := by decide
  intro n
  induction n with
  | zero =>
    intro m i σ x1 hi hm
    obtain ⟨m, rfl⟩ : ∃ y, m = y + 1 := ⟨m - 1, by omega⟩
    have e : (fun b j => if b = 53 ∧ i ≤ j ∧ j < 55 then 0 else σ b j) = σ := by
      funext b j
      rw [if_neg (by omega)]
    rw [f_X5_text_34, w, wr_of (x := (i : Int)) (by omega) (by omega), if_neg (by omega), e]
  | succ n ih =>
    intro m i σ x1 hi hm
    obtain ⟨m, rfl⟩ : ∃ y, m = y + 1 := ⟨m - 1, by omega⟩
    rw [f_X5_text_34, w, wr_of (x := (i : Int)) (by omega) (by omega), if_pos (by omega), sv_of (by omega) (by omega) (by omega), bV_s]
    have := ih m (i + 1) (ups σ 53 (i : Int) 0) x1 (by omega) (by omega)
    have e : (fun b j => if b = 53 ∧ i + 1 ≤ j ∧ j < 55 then 0 else ups σ 53 (i : Int) 0 b j) = (fun b j => if b = 53 ∧ i ≤ j ∧ j < 55 then 0 else σ b j) := by
      funext b j
      have u : ups σ 53 (i : Int) 0 b j = if b = 53 ∧ j = i then 0 else σ b j := rfl
      rw [u]
      by_cases c : b = 53 ∧ j = i
      · rw [if_pos c, if_pos (show b = 53 ∧ i ≤ j ∧ j < 55 by omega)]
        split <;> rfl
      · rw [if_neg c]
        by_cases c2 : b = 53 ∧ i ≤ j ∧ j < 55
        · rw [if_pos c2, if_pos (by omega)]
        · rw [if_neg c2, if_neg (by omega)]
    rw [e] at this
    exact this
def finT (x1 : Int) (σ : St) : Option (Int × St) := bV (pf σ 51 1 (σ 51 3)) fun s164 => bV (pf s164 51 23 0) fun s169 => bV (sv s169 59 2 0 (naz 0)) fun s178 => bV (sv s178 59 2 1 (naz 0)) fun s185 => some (x1, s185)
theorem m_cpy : ∀ (n m i : Nat) (σ : St) (x1 : Int), i + n = 55 → n < m → f_X5_text_135 m x1 i σ = finT x1 (fun b j => if b = 52 ∧ i ≤ j ∧ j < 55 then σ 53 j else σ b j) := by
  have w : wr 55 = 55 := by decide
  intro n
  induction n with
  | zero =>
    intro m i σ x1 hi hm
    obtain ⟨m, rfl⟩ : ∃ y, m = y + 1 := ⟨m - 1, by omega⟩
    have e : (fun b j => if b = 52 ∧ i ≤ j ∧ j < 55 then σ 53 j else σ b j) = σ := by
      funext b j
      rw [if_neg (by omega)]
    rw [f_X5_text_135, w, wr_of (x := (i : Int)) (by omega) (by omega), if_neg (by omega), e]
    rfl
  | succ n ih =>
    intro m i σ x1 hi hm
    obtain ⟨m, rfl⟩ : ∃ y, m = y + 1 := ⟨m - 1, by omega⟩
    rw [f_X5_text_135, w, wr_of (x := (i : Int)) (by omega) (by omega), if_pos (by omega), ld_of (by omega) (by omega) (by omega), bV_s, sv_of (by omega) (by omega) (by omega), bV_s]
    have := ih m (i + 1) (ups σ 52 (i : Int) (rd σ 53 (i : Int))) x1 (by omega) (by omega)
    have e : (fun b j => if b = 52 ∧ i + 1 ≤ j ∧ j < 55 then ups σ 52 (i : Int) (rd σ 53 (i : Int)) 53 j else ups σ 52 (i : Int) (rd σ 53 (i : Int)) b j) = (fun b j => if b = 52 ∧ i ≤ j ∧ j < 55 then σ 53 j else σ b j) := by
      funext b j
      have u : ups σ 52 (i : Int) (rd σ 53 (i : Int)) b j = if b = 52 ∧ j = i then σ 53 i else σ b j := rfl
      rw [u, ups_at (by decide)]
      by_cases c : b = 52 ∧ j = i
      · rw [if_pos c, if_pos (show b = 52 ∧ i ≤ j ∧ j < 55 by omega), if_neg (by omega), c.2]
      · rw [if_neg c]
        by_cases c2 : b = 52 ∧ i ≤ j ∧ j < 55
        · rw [if_pos c2, if_pos (by omega)]
        · rw [if_neg c2, if_neg (by omega)]
    rw [e] at this
    exact this
theorem mv_new {σ : St} (h1 : σ 51 1 = 0) (h : ∀ x : Int, 0 ≤ x → x < 55 → rd σ 52 x = 0) : mv σ 0 = newP := by
  have z52 : rd σ 52 (0 + 52) = 0 := h _ (by omega) (by omega)
  have z15 : rd σ 52 (0 + 15) = 0 := h _ (by omega) (by omega)
  have z53 : rd σ 52 (0 + 53) = 0 := h _ (by omega) (by omega)
  have z54 : rd σ 52 (0 + 54) = 0 := h _ (by omega) (by omega)
  funext r i
  unfold newP
  match r with
  | 0 =>
    simp only [mv, h1, z52, z15, z53, z54]
    by_cases c : i = 1
    · subst c; simp
    · simp [c]
  | 1 => simp only [mv, h1]; rw [if_neg (by omega), if_neg (by omega), if_neg (by omega)]
  | 2 => simp only [mv, h1]; rw [if_neg (by omega), if_neg (by omega), if_neg (by omega)]
  | 3 => simp only [mv, h1]; rw [if_neg (by omega), if_neg (by omega), if_neg (by omega)]
  | 4 =>
    simp only [mv]
    by_cases c : 0 ≤ i ∧ i < 4
    · rw [if_pos c, h _ (by omega) (by omega), if_neg (by omega), if_pos ⟨trivial, c⟩]; rfl
    · rw [if_neg c, if_neg (by omega), if_neg (fun z => c z.2)]
  | 5 => simp only [mv, z52]; rw [if_neg (by omega), if_neg (by omega), if_neg (by omega)]
  | 6 => simp only [mv, z52]; rw [if_neg (by omega), if_neg (by omega), if_neg (by omega)]
  | 7 => simp only [mv, z52]; rw [if_neg (by omega), if_neg (by omega), if_neg (by omega)]
  | 8 => simp only [mv, z52]; rw [if_neg (by omega), if_neg (by omega), if_neg (by omega)]
  | n + 9 => simp [mv]
theorem m_text0 {σ : St} {L : Int} {T : Int → Int} (ok : okT (L, T)) (h : mTp σ (L, T)) (co : mCo σ) : ∃ n σ', f_X5_text σ = f_X5_text_105 n σ' ∧ ME σ' n (txR (L, T)) ∧ Fk σ σ' := by
  have hL : 0 ≤ L ∧ L ≤ 160 := ok.1
  unfold f_X5_text pf pz
  rw [bV_s, bV_s, bV_s, bV_s, if_pos (Or.inl (by decide)), bV_s, bV_s]
  have mc := m_clr 55 FU 0 (up (up (up (up (up (up σ 51 10 0) 51 12 0) 51 3 0) 51 4 0) 51 5 0) 51 6 (-1)) 0 (by omega) (by unfold FU; omega)
  rw [show (0 : Int) = ((0 : Nat) : Int) from rfl] at *
  rw [mc]
  generalize hs1 : (fun b j => if b = 53 ∧ 0 ≤ j ∧ j < 55 then (0 : Int) else up (up (up (up (up (up σ 51 10 0) 51 12 0) 51 3 0) 51 4 0) 51 5 0) 51 6 (-1) b j : St) = σ1
  have f1 : Fk σ σ1 := by
    intro k j x y
    rw [← hs1]
    show (if k = 53 ∧ 0 ≤ j ∧ j < 55 then (0 : Int) else _) = _
    rw [if_neg (by omega), up_at, if_neg (by omega), up_at, if_neg (by omega), up_at, if_neg (by omega), up_at, if_neg (by omega), up_at, if_neg (by omega), up_at, if_neg (by omega)]
  have z10 : σ1 51 10 = 0 := by rw [← hs1]; rfl
  have z12 : σ1 51 12 = 0 := by rw [← hs1]; rfl
  have z3 : σ1 51 3 = 0 := by rw [← hs1]; rfl
  have z4 : σ1 51 4 = 0 := by rw [← hs1]; rfl
  have z5 : σ1 51 5 = 0 := by rw [← hs1]; rfl
  have z6 : σ1 51 6 = -1 := by rw [← hs1]; rfl
  have z53 : ∀ x : Int, 0 ≤ x → x < 55 → rd (hv σ1) 52 x = 0 := by
    intro x a b
    rw [hv_rd, ← hs1]
    show (if 53 = 53 ∧ 0 ≤ x.toNat ∧ x.toNat < 55 then (0 : Int) else _) = 0
    rw [if_pos (by omega)]
  have mr : MR σ1 s0L := ⟨mv_new (by rw [hv_1]; exact z3) z53, z4, z5, z6, f1.co co⟩
  have g0 : RsOK L (.inr 0) := ⟨by omega, by omega⟩
  obtain ⟨σ2, b1, b2, b3⟩ := m_step ok (x := .inr 0) (f1.tp h) g0 ⟨z10, z12⟩
  rw [b1, bV_s]
  obtain ⟨n, σ', c1, c2, c3⟩ := m_prs ok 161 0 FU σ2 (.inr 0) s0L (by omega) (by omega) (by unfold FU; omega) (b3.tp (f1.tp h)) (show ((0 : Nat) : Int) ≤ 0 ∧ 0 ≤ L by omega) b2 (fun _ _ => ⟨s0_ok, mr.fm b3⟩)
  exact ⟨n, σ', c1, c2, (f1.tr b3.k).tr c3⟩
theorem m_text {σ : St} {A : Ab} (ok : OKA A) (v : Vm σ A) : ∃ σ', f_X5_text σ = some (R_text A, σ') ∧ Vm σ' (T_text A) ∧ FM σ σ' := by
  have w := ok.1.1
  have oi := ok.2.2.1
  obtain ⟨⟨a1, a2⟩, b, c, d, e, ⟨f1, f2⟩, g⟩ := v
  have okt := ok.2.2.2.1
  obtain ⟨n, σ3, p1, p2, p3⟩ := m_text0 (L := A.2.2.2.2.1.1) (T := A.2.2.2.2.1.2) okt d g
  have p2' : ME σ3 n (txR A.2.2.2.2.1) := p2
  rw [p1]
  unfold f_X5_text_105 pf
  rw [bV_s, bV_s]
  have off : ∀ k j, k ≠ 53 → ¬ (k = 51 ∧ ((3 ≤ j ∧ j ≤ 6) ∨ (8 ≤ j ∧ j ≤ 15))) → up (up σ3 51 8 0) 51 9 (up σ3 51 8 0 51 10) k j = σ k j := by
    intro k j x y
    rw [up_at, if_neg (by omega), up_at, if_neg (by omega), p3 k j x (by omega)]
  have s8 : up (up σ3 51 8 0) 51 9 (up σ3 51 8 0 51 10) 51 8 = 0 := by rw [up_at, if_neg (by omega), up_at, if_pos ⟨rfl, rfl⟩]
  have s9 : up (up σ3 51 8 0) 51 9 (up σ3 51 8 0 51 10) 51 9 = σ3 51 10 := by rw [up_at, if_pos ⟨rfl, rfl⟩, up_at, if_neg (by omega)]
  have s10 : up (up σ3 51 8 0) 51 9 (up σ3 51 8 0 51 10) 51 10 = σ3 51 10 := by rw [up_at, if_neg (by omega), up_at, if_neg (by omega)]
  have s11 : up (up σ3 51 8 0) 51 9 (up σ3 51 8 0 51 10) 51 11 = σ3 51 11 := by rw [up_at, if_neg (by omega), up_at, if_neg (by omega)]
  have s3 : up (up σ3 51 8 0) 51 9 (up σ3 51 8 0 51 10) 51 3 = σ3 51 3 := by rw [up_at, if_neg (by omega), up_at, if_neg (by omega)]
  have s53 : ∀ j, up (up σ3 51 8 0) 51 9 (up σ3 51 8 0 51 10) 53 j = σ3 53 j := fun j => by rw [up_at, if_neg (by omega), up_at, if_neg (by omega)]
  generalize hs4 : up (up σ3 51 8 0) 51 9 (up σ3 51 8 0 51 10) = σ4 at *
  unfold R_text T_text
  have e0 : σ 51 1 = A.1 0 0 := by rw [← a1]; rfl
  have e2 : rd σ 52 (0 + 52) = A.1 0 2 := by rw [← a1]; rfl
  cases hq : txR A.2.2.2.2.1 with
  | inl er =>
    rw [hq] at p2'
    have mf : MF σ3 er := p2'
    rw [s10, if_pos mf.ps, s11, mf.1.2]
    refine ⟨σ4, rfl, ⟨⟨?_, ?_⟩, ?_, ?_, ⟨s8, ?_⟩, ?_, ⟨?_, ?_⟩, ?_⟩, fun k j x => off k j (by omega) (by omega)⟩
    · exact (mv_ext (off 51 1 (by omega) (by omega)) (by rw [e0]; exact w.1.2) (by rw [e2]; exact w.2.2.1.2) (fun x _ _ => off 52 _ (by omega) (by omega))).trans a1
    · exact (off 51 18 (by omega) (by omega)).trans a2
    · exact mSg.of (off 51 23 (by omega) (by omega)) (fun j => off 57 j (by omega) (by omega)) b
    · exact c.ext oi w.1.2 (off 51 1 (by omega) (by omega)) (fun j => off 59 j (by omega) (by omega)) (fun x _ _ => off 52 _ (by omega) (by omega))
    · intro i x y
      have y' : i < 0 := y
      omega
    · exact e.ext (fun k j x _ => off k j (by omega) (by omega))
    · rw [s9]; exact mf.1.1
    · exact (off 51 29 (by omega) (by omega)).trans f2
    · exact g.ext (fun k j x => off k j (by omega) (by omega))
  | inr y =>
    rw [hq] at p2'
    obtain ⟨g1, g2, g3⟩ := p2'
    obtain ⟨y1, y2⟩ := prs_ok 161 (.inr 0) s0L 0 (fun _ _ => s0_ok) y hq
    rw [s10, g1, if_neg (by decide)]
    have mc := m_cpy 55 FU 0 σ4 n (by omega) (by unfold FU; omega)
    rw [show (0 : Int) = ((0 : Nat) : Int) from rfl]
    rw [mc]
    generalize hs5 : (fun b j => if b = 52 ∧ 0 ≤ j ∧ j < 55 then σ4 53 j else σ4 b j : St) = σ5
    have o5 : ∀ k j, k ≠ 52 → σ5 k j = σ4 k j := by
      intro k j x
      rw [← hs5]
      show (if k = 52 ∧ 0 ≤ j ∧ j < 55 then _ else _) = _
      rw [if_neg (by omega)]
    have i5 : ∀ x : Int, 0 ≤ x → x < 55 → rd σ5 52 x = rd σ3 53 x := by
      intro x u z
      rw [← hs5]
      show (if 52 = 52 ∧ 0 ≤ x.toNat ∧ x.toNat < 55 then σ4 53 x.toNat else _) = _
      rw [if_pos (by omega), s53]
      rfl
    have n0 : naz 0 = 0 := by decide
    unfold finT pf
    rw [bV_s, bV_s, sv_of (by omega) (by omega) (by omega), bV_s, sv_of (by omega) (by omega) (by omega), bV_s, n0, o5 51 3 (by omega), s3]
    generalize hs6 : ups (ups (up (up σ5 51 1 (σ3 51 3)) 51 23 0) 59 0 0) 59 1 0 = σ6
    have o6 : ∀ k j, k ≠ 59 → ¬ (k = 51 ∧ (j = 1 ∨ j = 23)) → σ6 k j = σ5 k j := by
      intro k j x u
      rw [← hs6, ups_at x, ups_at x, up_at, if_neg (by omega), up_at, if_neg (by omega)]
    have fr : ∀ k j, k ≠ 52 → k ≠ 53 → k ≠ 59 → ¬ (k = 51 ∧ (j = 1 ∨ j = 23 ∨ (3 ≤ j ∧ j ≤ 6) ∨ (8 ≤ j ∧ j ≤ 15))) → σ6 k j = σ k j := by
      intro k j x1 x2 x3 x4
      rw [o6 k j x3 (by omega), o5 k j x1, off k j x2 (by omega)]
    have q1 : σ6 51 1 = σ3 51 3 := by rw [← hs6, ups_at (by decide), ups_at (by decide), up_at, if_neg (by omega), up_at, if_pos ⟨rfl, rfl⟩]
    have q23 : σ6 51 23 = 0 := by rw [← hs6, ups_at (by decide), ups_at (by decide), up_at, if_pos ⟨rfl, rfl⟩]
    have q590 : rd σ6 59 0 = 0 := by rw [← hs6, rd_ups (by omega) (by omega), if_neg (by omega), rd_ups (by omega) (by omega), if_pos ⟨rfl, rfl⟩]
    have q591 : rd σ6 59 1 = 0 := by rw [← hs6, rd_ups (by omega) (by omega), if_pos ⟨rfl, rfl⟩]
    refine ⟨σ6, by rw [g3], ⟨⟨?_, ?_⟩, ⟨q23, ?_⟩, ⟨⟨q590, q591⟩, ?_, ?_⟩, ⟨?_, ?_⟩, ?_, ⟨?_, ?_⟩, ?_⟩, fun k j x => fr k j (by omega) (by omega) (by omega) (by omega)⟩
    · have h0 : hv σ3 51 1 = y.1 0 0 := by rw [← g2]; rfl
      have h2 : rd (hv σ3) 52 (0 + 52) = y.1 0 2 := by rw [← g2]; rfl
      exact (mv_ext (σ := hv σ3) (p := 0) (p' := 0) q1 (by rw [h0]; exact y1.1.2) (by rw [h2]; exact y1.2.2.1.2) (fun x x0 x1 => by
        rw [hv_rd]
        have : rd σ6 52 (0 + x) = rd σ5 52 (0 + x) := o6 52 _ (by omega) (by omega)
        rw [this]
        exact i5 _ (by omega) (by omega))).trans g2
    · exact (fr 51 18 (by omega) (by omega) (by omega) (by omega)).trans a2
    · intro i x z
      have z' : (i : Int) < 0 := z
      omega
    · intro z; have z' : (0 : Int) = 1 := z; omega
    · intro z; have z' : (0 : Int) = 1 := z; omega
    · rw [o6 51 8 (by omega) (by omega), o5 51 8 (by omega), s8]; rfl
    · intro i x z
      have z' : i < 0 := z
      omega
    · exact e.ext (fun k j x z => fr k j (by omega) (by omega) (by omega) (by omega))
    · rw [o6 51 9 (by omega) (by omega), o5 51 9 (by omega), s9, g1]; rfl
    · exact (fr 51 29 (by omega) (by omega) (by omega) (by omega)).trans f2
    · exact g.ext (fun k j x => fr k j (by omega) (by omega) (by omega) (by omega))
theorem op_text : Op f_X4_text f_X5_text R_text T_text := ⟨fun _ a => text_ok a, fun _ _ a v => c_text a v, fun _ _ a v => m_text a v⟩
