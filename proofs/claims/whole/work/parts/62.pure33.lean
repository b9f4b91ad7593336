/-! ===== pure part 33: the model's tokens, numbers of both ===== -/
theorem run_in {L : Int} {T : Int → Int} {p : Int → Bool} {i j : Int} (h1 : i ≤ j) (h2 : j < run L T p i) : p (T j) = true := scn_in T p _ i j h1 h2
theorem m_byte {σ : St} {L i : Int} {T : Int → Int} (h : mTp σ (L, T)) (hL : 0 ≤ L ∧ L ≤ 160) (h0 : 0 ≤ i) (h1 : i ≤ 400) : f_X5_byteAt i σ = some ((if i < L then T i else -4), σ) := by
  have e1 : σ 51 8 = L := h.1
  unfold f_X5_byteAt
  rw [wr_of (x := i) (by omega) (by omega), e1, wr_of (x := L) (by omega) (by omega)]
  by_cases c : i < L
  · rw [if_pos c, if_pos c, ld_of h0 (by omega) (by omega), bV_s, h.2 i h0 c]
  · rw [if_neg c, if_neg c]
/-- what the model's stepping may change -/
def Fm (σ σ' : St) : Prop := ∀ k j, ¬ (k = 51 ∧ (j = 10 ∨ j = 11 ∨ j = 12 ∨ j = 13 ∨ j = 14 ∨ j = 15)) → σ' k j = σ k j
theorem Fm.rf (σ : St) : Fm σ σ := fun _ _ _ => rfl
theorem Fm.tr {a b c : St} (h1 : Fm a b) (h2 : Fm b c) : Fm a c := fun k j h => (h2 k j h).trans (h1 k j h)
theorem Fm.u {σ : St} {j : Nat} {v : Int} (h : j = 10 ∨ j = 11 ∨ j = 12 ∨ j = 13 ∨ j = 14 ∨ j = 15) : Fm σ (up σ 51 j v) := fun k i hk => by rw [up_at, if_neg (by omega)]
theorem Fm.tp {σ σ' : St} {T : Int × (Int → Int)} (h : Fm σ σ') (t : mTp σ T) : mTp σ' T := t.ext (h 51 8 (by omega)) (fun j => h 54 j (by omega))
theorem mTp.u {σ : St} {T : Int × (Int → Int)} {j : Nat} {v : Int} (hj : j ≠ 8) (h : mTp σ T) : mTp (up σ 51 j v) T := h.ext (by rw [up_at, if_neg (by omega)]) (fun i => by rw [up_at, if_neg (by omega)])
def MF (σ : St) (e : Int × Int) : Prop := (σ 51 10 = e.1 ∧ σ 51 11 = e.2) ∧ (1 ≤ e.1 ∧ e.1 ≤ 6) ∧ (0 ≤ e.2 ∧ e.2 ≤ 160)
def MPk (σ : St) (x : Rs) : Prop := match x with
  | .inl e => MF σ e
  | .inr p => σ 51 10 = 0 ∧ σ 51 12 = p
def MLk (L : Int) (T : Int → Int) (σ : St) (x : Rs) : Prop := match x with
  | .inl e => MF σ e
  | .inr p => if tK L T p = -1 then MF σ (1, tF L T p) else σ 51 10 = 0 ∧ σ 51 14 = tK L T p ∧ σ 51 13 = tF L T p ∧ σ 51 12 = tT L T p ∧ (tK L T p = 2 → σ 51 15 = tV L T p)
theorem MF.nz {σ : St} {e : Int × Int} (h : MF σ e) : ¬ wr (σ 51 10) = 0 := by
  obtain ⟨⟨a, b⟩, c, d⟩ := h
  rw [a, wr_of (by omega) (by omega)]; omega
theorem MF.ps {σ : St} {e : Int × Int} (h : MF σ e) : 0 < wr (σ 51 10) := by
  obtain ⟨⟨a, b⟩, c, d⟩ := h
  rw [a, wr_of (by omega) (by omega)]; omega
theorem MF.fm {σ σ' : St} {e : Int × Int} (h : MF σ e) (f : ∀ j, j = 10 ∨ j = 11 → σ' 51 j = σ 51 j) : MF σ' e := by
  unfold MF
  rw [f 10 (by omega), f 11 (by omega)]
  exact h
theorem m_fails0 {σ : St} {c : Int} (h : σ 51 10 = 0) : f_X5_fails c σ = some (up (up σ 51 10 c) 51 11 (σ 51 13)) := by
  unfold f_X5_fails pf
  rw [h, if_pos (by decide), bV_s, bV_s]
  rfl
theorem m_fails1 {σ : St} {c : Int} {e : Int × Int} (h : MF σ e) : f_X5_fails c σ = some σ := by
  unfold f_X5_fails
  rw [if_neg h.nz]
theorem m_failsS {σ : St} {c pl : Int} (hc : 1 ≤ c ∧ c ≤ 6) (e : σ 51 13 = pl) (hp : 0 ≤ pl ∧ pl ≤ 160) : MF (up (up σ 51 10 c) 51 11 (σ 51 13)) (c, pl) := by
  refine ⟨⟨?_, ?_⟩, hc, hp⟩
  · rw [up_at, if_neg (by omega), up_at, if_pos ⟨rfl, rfl⟩]
  · rw [up_at, if_pos ⟨rfl, rfl⟩, e]
theorem Fm.fails {σ : St} {c v : Int} : Fm σ (up (up σ 51 10 c) 51 11 v) := (Fm.u (by omega)).tr (Fm.u (by omega))
def stE (σ : St) : Option St :=
      bV (pf σ 51 13 (σ 51 12)) fun s39 => bI (f_X5_byteAt (s39 51 12) s39) fun v47 s47 => bV (pf s47 51 15 0) fun s53 => if wr v47 = wr (-4) then
        bV (pf s53 51 14 0) fun s64 => some s64
      else
        bI (f_X5_in (wr v47) 97 122 s53) fun v78 s78 => if v78 then
          f_X5_step_84 FU s78
        else
          bI (f_X5_in (wr v47) 48 57 s78) fun v134 s134 => if v134 then
            f_X5_step_140 FU s134
          else
            bV (pf s134 51 14 3) fun s245 => bV (pf s245 51 12 ((s245 51 12) + 1)) fun s255 => if wr v47 = wr 59 then
              some s255
            else
              bV (f_X5_fails 1 s255) fun s266 => some s266
theorem m_skip {L : Int} {T : Int → Int} (ok : okT (L, T)) : ∀ (n m : Nat) (σ : St) (i : Int), mTp σ (L, T) → σ 51 12 = i → 0 ≤ i → i ≤ L → (L - i).toNat = n → n < m → f_X5_step_8 m σ = stE (up σ 51 12 (tF L T i)) := by
  have hL : 0 ≤ L ∧ L ≤ 160 := ok.1
  have w : wr 32 = 32 := by decide
  intro n
  induction n with
  | zero =>
    intro m σ i h e h0 h1 hn hm
    obtain ⟨m, rfl⟩ : ∃ y, m = y + 1 := ⟨m - 1, by omega⟩
    rw [f_X5_step_8, e, m_byte h hL h0 (by omega), bI_s, if_neg (show ¬ i < L by omega), if_neg (by decide)]
    unfold tF
    rw [run_n (by omega), up_self e]
    rfl
  | succ n ih =>
    intro m σ i h e h0 h1 hn hm
    obtain ⟨m, rfl⟩ : ∃ y, m = y + 1 := ⟨m - 1, by omega⟩
    have hb' : 0 ≤ T i ∧ T i ≤ 127 := ok.2 i h0 (show i < L by omega)
    rw [f_X5_step_8, e, m_byte h hL h0 (by omega), bI_s, if_pos (show i < L by omega), w, wr_of (x := T i) (by omega) (by omega)]
    unfold tF
    by_cases c : T i = 32
    · unfold pf
      rw [if_pos c, bV_s, e, ih m (up σ 51 12 (i + 1)) (i + 1) (h.u (by omega)) (by rw [up_at, if_pos ⟨rfl, rfl⟩]) (by omega) (by omega) (by omega) (by omega), up_up, run_y (by omega) (decide_eq_true c)]
      rfl
    · rw [if_neg c, run_n (fun z => c (of_decide_eq_true z.2)), up_self e]
      rfl
theorem m_letters {L : Int} {T : Int → Int} (ok : okT (L, T)) : ∀ (n m : Nat) (σ : St) (i : Int), mTp σ (L, T) → σ 51 12 = i → 0 ≤ i → i ≤ L → (L - i).toNat = n → n < m → f_X5_step_84 m σ = some (up (up σ 51 12 (run L T isL i)) 51 14 1) := by
  have hL : 0 ≤ L ∧ L ≤ 160 := ok.1
  intro n
  induction n with
  | zero =>
    intro m σ i h e h0 h1 hn hm
    obtain ⟨m, rfl⟩ : ∃ y, m = y + 1 := ⟨m - 1, by omega⟩
    rw [f_X5_step_84, e, m_byte h hL h0 (by omega), bI_s, if_neg (show ¬ i < L by omega), m_inw (by omega) (by omega) (by omega), bI_s, if_neg (by decide), run_n (by omega), up_self e]
    rfl
  | succ n ih =>
    intro m σ i h e h0 h1 hn hm
    obtain ⟨m, rfl⟩ : ∃ y, m = y + 1 := ⟨m - 1, by omega⟩
    have hb' : 0 ≤ T i ∧ T i ≤ 127 := ok.2 i h0 (show i < L by omega)
    rw [f_X5_step_84, e, m_byte h hL h0 (by omega), bI_s, if_pos (show i < L by omega), m_inw (by omega) (by omega) (by omega), bI_s]
    by_cases c : isL (T i) = true
    · unfold pf
      rw [if_pos (show decide (97 ≤ T i ∧ T i ≤ 122) = true from c), bV_s, e, ih m (up σ 51 12 (i + 1)) (i + 1) (h.u (by omega)) (by rw [up_at, if_pos ⟨rfl, rfl⟩]) (by omega) (by omega) (by omega) (by omega), up_up, run_y (by omega) c]
    · rw [if_neg (show ¬ decide (97 ≤ T i ∧ T i ≤ 122) = true from c), run_n (fun z => c z.2), up_self e]
      rfl
def vM (T : Int → Int) (f i : Int) : Int := if i ≤ f + 2 then vF T f i else vF T f (f + 2)
theorem vM_s {T : Int → Int} {f i : Int} (h : f ≤ i) : vM T f (i + 1) = if i - f < 2 then 10 * vM T f i + T i - 48 else vM T f i := by
  by_cases a : i = f
  · subst a
    unfold vM vF
    rw [if_pos (show i - i < 2 by omega), if_pos (show i + 1 ≤ i + 2 by omega), if_pos (show i ≤ i + 2 by omega), if_neg (by omega), if_pos rfl, if_pos (show i ≤ i by omega)]
    omega
  · by_cases b : i = f + 1
    · subst b
      unfold vM vF
      rw [if_pos (show f + 1 - f < 2 by omega), if_pos (show f + 1 + 1 ≤ f + 2 by omega), if_pos (show f + 1 ≤ f + 2 by omega), if_neg (by omega), if_neg (by omega), if_neg (show ¬ f + 1 ≤ f by omega), if_pos rfl]
    · rw [if_neg (show ¬ i - f < 2 by omega)]
      unfold vM
      rw [if_neg (show ¬ i + 1 ≤ f + 2 by omega)]
      by_cases c : i ≤ f + 2
      · rw [if_pos c, show i = f + 2 by omega]
      · rw [if_neg c]
theorem dig {L : Int} {T : Int → Int} {i j : Int} (h1 : i ≤ j) (h2 : j < run L T isD i) : 48 ≤ T j ∧ T j ≤ 57 := of_decide_eq_true (run_in h1 h2)
theorem vF_bd {L : Int} {T : Int → Int} {f e : Int} (h : e ≤ run L T isD f) (h2 : e ≤ f + 2) : 0 ≤ vF T f e ∧ vF T f e ≤ 99 := by
  unfold vF
  by_cases a : e ≤ f
  · rw [if_pos a]; omega
  · have d0 := dig (L := L) (T := T) (i := f) (j := f) (by omega) (by omega)
    rw [if_neg a]
    by_cases b : e = f + 1
    · rw [if_pos b]; omega
    · have d1 := dig (L := L) (T := T) (i := f) (j := f + 1) (by omega) (by omega)
      rw [if_neg b]; omega
theorem vM_bd {L : Int} {T : Int → Int} {f e : Int} (h : e ≤ run L T isD f) : 0 ≤ vM T f e ∧ vM T f e ≤ 99 := by
  unfold vM
  by_cases c : e ≤ f + 2
  · rw [if_pos c]; exact vF_bd h c
  · rw [if_neg c]; exact vF_bd (L := L) (by omega) (by omega)
def stF (σ : St) : Option St :=
      bV (pf σ 51 14 2) fun s219 => if wr 2 < wr ((s219 51 12) - (s219 51 13)) then
        bV (f_X5_fails 1 s219) fun s237 => some s237
      else
        some s219
theorem run_eq {L : Int} {T : Int → Int} {p : Int → Bool} {f i : Int} (h : f ≤ i) (hi : i ≤ run L T p f) (hl : i ≤ L) : run L T p f = run L T p i := by
  have key : ∀ (n : Nat) (f : Int), i = f + n → i ≤ run L T p f → run L T p f = run L T p i := by
    intro n
    induction n with
    | zero => intro f hf _; rw [hf]; simp
    | succ n ih =>
      intro f hf hr
      have c : p (T f) = true := run_in (L := L) (i := f) (j := f) (by omega) (by omega)
      rw [run_y (by omega) c] at hr ⊢
      exact ih (f + 1) (by omega) hr
  exact key (i - f).toNat f (by omega) hi
theorem m_figures {L : Int} {T : Int → Int} (ok : okT (L, T)) {f : Int} (hf : 0 ≤ f) : ∀ (n m : Nat) (σ : St) (i : Int), mTp σ (L, T) → σ 51 12 = i → σ 51 13 = f → σ 51 15 = vM T f i → f ≤ i → i ≤ L → i ≤ run L T isD f → (L - i).toNat = n → n < m → ∃ σ', f_X5_step_140 m σ = stF σ' ∧ σ' 51 12 = run L T isD f ∧ σ' 51 15 = vM T f (run L T isD f) ∧ σ' 51 10 = σ 51 10 ∧ σ' 51 13 = f ∧ Fm σ σ' := by
  have hL : 0 ≤ L ∧ L ≤ 160 := ok.1
  have w2 : wr 2 = 2 := by decide
  intro n
  induction n with
  | zero =>
    intro m σ i h e ef ev h0 h1 hr hn hm
    obtain ⟨m, rfl⟩ : ∃ y, m = y + 1 := ⟨m - 1, by omega⟩
    have q : run L T isD f = i := by rw [run_eq h0 hr h1, run_n (by omega)]
    rw [f_X5_step_140, e, m_byte h hL (by omega) (by omega), bI_s, if_neg (show ¬ i < L by omega), m_inw (by omega) (by omega) (by omega), bI_s, if_neg (by decide), q]
    exact ⟨σ, rfl, e, ev, rfl, ef, Fm.rf σ⟩
  | succ n ih =>
    intro m σ i h e ef ev h0 h1 hr hn hm
    obtain ⟨m, rfl⟩ : ∃ y, m = y + 1 := ⟨m - 1, by omega⟩
    have hb' : 0 ≤ T i ∧ T i ≤ 127 := ok.2 i (by omega) (show i < L by omega)
    have vb := vM_bd (T := T) hr
    rw [f_X5_step_140, e, m_byte h hL (by omega) (by omega), bI_s, if_pos (show i < L by omega), m_inw (by omega) (by omega) (by omega), bI_s]
    by_cases c : isD (T i) = true
    · have hr' : i + 1 ≤ run L T isD f := by
        have := run_bd (L := L) (T := T) (p := isD) (i := i + 1) (by omega)
        rw [run_eq h0 hr h1, run_y (by omega) c]; omega
      have fin : ∀ v, v = vM T f (i + 1) → ∃ σ', f_X5_step_201 (f_X5_step_140 m) 51 v σ = stF σ' ∧ σ' 51 12 = run L T isD f ∧ σ' 51 15 = vM T f (run L T isD f) ∧ σ' 51 10 = σ 51 10 ∧ σ' 51 13 = f ∧ Fm σ σ' := by
        intro v hv
        unfold f_X5_step_201 pf
        rw [bV_s, bV_s, up_at, if_neg (by omega), e]
        obtain ⟨σ', a1, a2, a3, a4, a5, a6⟩ := ih m (up (up σ 51 15 v) 51 12 (i + 1)) (i + 1) ((h.u (by omega)).u (by omega)) (by rw [up_at, if_pos ⟨rfl, rfl⟩]) (by rw [up_at, if_neg (by omega), up_at, if_neg (by omega), ef]) (by rw [up_at, if_neg (by omega), up_at, if_pos ⟨rfl, rfl⟩, hv]) (by omega) (by omega) hr' (by omega) (by omega)
        exact ⟨σ', a1, a2, a3, by rw [a4, up_at, if_neg (by omega), up_at, if_neg (by omega)], a5, ((Fm.u (by omega)).tr (Fm.u (by omega))).tr a6⟩
      rw [if_pos (show decide (48 ≤ T i ∧ T i ≤ 57) = true from c), e, ef, w2, wr_of (x := i - f) (by omega) (by omega)]
      by_cases d : i - f < 2
      · rw [if_pos d, m_byte h hL (by omega) (by omega), bI_s, if_pos (show i < L by omega), ev]
        exact fin _ (by rw [vM_s h0, if_pos d])
      · rw [if_neg d, ev]
        exact fin _ (by rw [vM_s h0, if_neg d])
    · have q : run L T isD f = i := by rw [run_eq h0 hr h1, run_n (fun z => c z.2)]
      rw [if_neg (show ¬ decide (48 ≤ T i ∧ T i ≤ 57) = true from c), q]
      exact ⟨σ, rfl, e, ev, rfl, ef, Fm.rf σ⟩
theorem m_step {L : Int} {T : Int → Int} (ok : okT (L, T)) {σ : St} {x : Rs} (h : mTp σ (L, T)) (hx : RsOK L x) (hs : MPk σ x) : ∃ σ', f_X5_step σ = some σ' ∧ MLk L T σ' x ∧ Fm σ σ' := by
  have hL : 0 ≤ L ∧ L ≤ 160 := ok.1
  match x, hx, hs with
  | .inl e, _, hs =>
    refine ⟨σ, ?_, hs, Fm.rf σ⟩
    unfold f_X5_step
    rw [if_pos (MF.ps hs)]
  | .inr p, hp, hs =>
    have hp' : 0 ≤ p ∧ p ≤ L := hp
    obtain ⟨a, b⟩ := hs
    have fb := tF_bd (T := T) hp'.2
    unfold f_X5_step
    rw [a, if_neg (by decide), m_skip ok (L - p).toNat FU σ p h b hp'.1 hp'.2 rfl (by unfold FU; omega)]
    generalize hF : tF L T p = F at *
    have h1 : mTp (up (up σ 51 12 F) 51 13 F) (L, T) := (h.u (by omega)).u (by omega)
    unfold stE pf
    have e12 : up σ 51 12 F 51 12 = F := by rw [up_at, if_pos ⟨rfl, rfl⟩]
    have e12' : up (up σ 51 12 F) 51 13 F 51 12 = F := by rw [up_at, if_neg (by omega), e12]
    rw [bV_s, e12, e12', m_byte h1 hL (by omega) (by omega), bI_s, bV_s]
    have f1 : Fm σ (up (up (up σ 51 12 F) 51 13 F) 51 15 0) := ((Fm.u (by omega)).tr (Fm.u (by omega))).tr (Fm.u (by omega))
    have g10 : up (up (up σ 51 12 F) 51 13 F) 51 15 0 51 10 = 0 := by rw [up_at, if_neg (by omega), up_at, if_neg (by omega), up_at, if_neg (by omega), a]
    have g12 : up (up (up σ 51 12 F) 51 13 F) 51 15 0 51 12 = F := by rw [up_at, if_neg (by omega), e12']
    have g13 : up (up (up σ 51 12 F) 51 13 F) 51 15 0 51 13 = F := by rw [up_at, if_neg (by omega), up_at, if_pos ⟨rfl, rfl⟩]
    have g15 : up (up (up σ 51 12 F) 51 13 F) 51 15 0 51 15 = 0 := by rw [up_at, if_pos ⟨rfl, rfl⟩]
    have ht : mTp (up (up (up σ 51 12 F) 51 13 F) 51 15 0) (L, T) := h1.u (by omega)
    generalize hτ : up (up (up σ 51 12 F) 51 13 F) 51 15 0 = τ at *
    show ∃ σ', _ = some σ' ∧ (if tK L T p = -1 then MF σ' (1, tF L T p) else σ' 51 10 = 0 ∧ σ' 51 14 = tK L T p ∧ σ' 51 13 = tF L T p ∧ σ' 51 12 = tT L T p ∧ (tK L T p = 2 → σ' 51 15 = tV L T p)) ∧ Fm σ σ'
    unfold tV tK tT
    rw [hF]
    by_cases c0 : L ≤ F
    · rw [if_neg (show ¬ F < L by omega), if_pos (by decide), bV_s]
      refine ⟨up τ 51 14 0, rfl, ?_, f1.tr (Fm.u (by omega))⟩
      rw [if_pos c0, if_pos c0, if_neg (by omega)]
      exact ⟨by rw [up_at, if_neg (by omega), g10], by rw [up_at, if_pos ⟨rfl, rfl⟩], by rw [up_at, if_neg (by omega), g13], by rw [up_at, if_neg (by omega), g12], fun z => by omega⟩
    · have hb' : 0 ≤ T F ∧ T F ≤ 127 := ok.2 F (by omega) (show F < L by omega)
      have w4 : wr (-4) = -4 := by decide
      rw [if_pos (show F < L by omega), w4]
      rw [show wr (T F) = T F from wr_of (by omega) (by omega), if_neg (show ¬ T F = -4 by omega), if_neg c0, if_neg c0]
      rw [show f_X5_in (T F) 97 122 τ = some (decide (97 ≤ T F ∧ T F ≤ 122), τ) from m_in (by omega) (by omega) (by omega), bI_s]
      by_cases c1 : isL (T F) = true
      · rw [if_pos (show decide (97 ≤ T F ∧ T F ≤ 122) = true from c1), m_letters ok (L - F).toNat FU τ F ht g12 (by omega) (by omega) rfl (by unfold FU; omega)]
        refine ⟨_, rfl, ?_, f1.tr ((Fm.u (by omega)).tr (Fm.u (by omega)))⟩
        rw [if_pos c1, if_pos c1, if_neg (by omega)]
        exact ⟨by rw [up_at, if_neg (by omega), up_at, if_neg (by omega), g10], by rw [up_at, if_pos ⟨rfl, rfl⟩], by rw [up_at, if_neg (by omega), up_at, if_neg (by omega), g13], by rw [up_at, if_neg (by omega), up_at, if_pos ⟨rfl, rfl⟩], fun z => by omega⟩
      · rw [if_neg (show ¬ decide (97 ≤ T F ∧ T F ≤ 122) = true from c1), if_neg c1, if_neg c1, show f_X5_in (T F) 48 57 τ = some (decide (48 ≤ T F ∧ T F ≤ 57), τ) from m_in (by omega) (by omega) (by omega), bI_s]
        by_cases c2 : isD (T F) = true
        · have rb := run_bd (T := T) (p := isD) (i := F) (L := L) (by omega)
          have v0 : vM T F F = 0 := by unfold vM vF; rw [if_pos (by omega), if_pos (by omega)]
          obtain ⟨σ', s1, s2, s3, s4, s5, s6⟩ := m_figures ok (f := F) (by omega) (L - F).toNat FU τ F ht g12 g13 (by rw [g15, v0]) (by omega) (by omega) (by omega) rfl (by unfold FU; omega)
          rw [if_pos (show decide (48 ≤ T F ∧ T F ≤ 57) = true from c2), s1, if_pos c2, if_pos c2]
          generalize hE : run L T isD F = E at *
          have w2 : wr 2 = 2 := by decide
          unfold stF pf
          rw [bV_s]
          have u12 : up σ' 51 14 2 51 12 = E := by rw [up_at, if_neg (by omega), s2]
          have u13 : up σ' 51 14 2 51 13 = F := by rw [up_at, if_neg (by omega), s5]
          have u10 : up σ' 51 14 2 51 10 = 0 := by rw [up_at, if_neg (by omega), s4, g10]
          rw [u12, u13, w2, wr_of (x := E - F) (by omega) (by omega)]
          by_cases c3 : 2 < E - F
          · rw [if_pos c3, m_fails0 u10, bV_s, if_pos c3]
            exact ⟨_, rfl, by rw [if_pos rfl]; exact m_failsS (by omega) u13 (by omega), ((f1.tr s6).tr (Fm.u (by omega))).tr Fm.fails⟩
          · rw [if_neg c3, if_neg c3]
            refine ⟨_, rfl, ?_, (f1.tr s6).tr (Fm.u (by omega))⟩
            rw [if_neg (by omega)]
            refine ⟨u10, by rw [up_at, if_pos ⟨rfl, rfl⟩], u13, u12, fun _ => ?_⟩
            rw [up_at, if_neg (by omega), s3]
            unfold vM
            rw [if_pos (by omega)]
        · have w59 : wr 59 = 59 := by decide
          rw [if_neg (show ¬ decide (48 ≤ T F ∧ T F ≤ 57) = true from c2), if_neg c2, if_neg c2, w59, bV_s, bV_s]
          have u12 : up τ 51 14 3 51 12 = F := by rw [up_at, if_neg (by omega), g12]
          rw [u12]
          have z10 : up (up τ 51 14 3) 51 12 (F + 1) 51 10 = 0 := by rw [up_at, if_neg (by omega), up_at, if_neg (by omega), g10]
          have z13 : up (up τ 51 14 3) 51 12 (F + 1) 51 13 = F := by rw [up_at, if_neg (by omega), up_at, if_neg (by omega), g13]
          have z14 : up (up τ 51 14 3) 51 12 (F + 1) 51 14 = 3 := by rw [up_at, if_neg (by omega), up_at, if_pos ⟨rfl, rfl⟩]
          have z12 : up (up τ 51 14 3) 51 12 (F + 1) 51 12 = F + 1 := by rw [up_at, if_pos ⟨rfl, rfl⟩]
          have f2 : Fm σ (up (up τ 51 14 3) 51 12 (F + 1)) := f1.tr ((Fm.u (by omega)).tr (Fm.u (by omega)))
          by_cases c3 : T F = 59
          · rw [if_pos c3, if_pos c3]
            exact ⟨_, rfl, by rw [if_neg (by omega)]; exact ⟨z10, z14, z13, z12, fun z => by omega⟩, f2⟩
          · rw [if_neg c3, if_neg c3, m_fails0 z10, bV_s]
            exact ⟨_, rfl, by rw [if_pos rfl]; exact m_failsS (by omega) z13 (by omega), f2.tr Fm.fails⟩
/-! numbers and semicolons -/
def nmR (L : Int) (T : Int → Int) (lo hi p : Int) : Rs := if tK L T p = -1 then .inl (1, tF L T p) else if tK L T p = 2 then (if lo ≤ tV L T p ∧ tV L T p ≤ hi then .inr (tT L T p) else .inl (3, tF L T p)) else .inl (2, tF L T p)
def nmX (L : Int) (T : Int → Int) (lo hi : Int) (x : Rs) : Rs := match x with
  | .inl e => .inl e
  | .inr p => nmR L T lo hi p
def nmV (L : Int) (T : Int → Int) (lo hi : Int) (x : Rs) : Int := match x with
  | .inl _ => lo
  | .inr p => if tK L T p = 2 ∧ lo ≤ tV L T p ∧ tV L T p ≤ hi then tV L T p else lo
def smR (L : Int) (T : Int → Int) (p : Int) : Rs := if tK L T p = -1 then .inl (1, tF L T p) else if tK L T p = 3 then .inr (tT L T p) else .inl (2, tF L T p)
def smX (L : Int) (T : Int → Int) (x : Rs) : Rs := match x with
  | .inl e => .inl e
  | .inr p => smR L T p
theorem nmV_bd {L : Int} {T : Int → Int} {lo hi : Int} (h : lo ≤ hi) (x : Rs) : lo ≤ nmV L T lo hi x ∧ nmV L T lo hi x ≤ hi := by
  match x with
  | .inl e => exact ⟨by show lo ≤ lo; omega, h⟩
  | .inr p =>
    show lo ≤ (if _ then _ else _) ∧ (if _ then _ else _) ≤ hi
    split <;> omega
theorem nmX_ok {L : Int} {T : Int → Int} {lo hi : Int} {x : Rs} (h : RsOK L x) : RsOK L (nmX L T lo hi x) := by
  match x, h with
  | .inl e, _ => exact trivial
  | .inr p, h =>
    have h' : 0 ≤ p ∧ p ≤ L := h
    have a := tF_bd (T := T) h'.2
    have b := tT_bd (T := T) h'.2
    show RsOK L (nmR L T lo hi p)
    unfold nmR
    split
    · exact trivial
    · split
      · split
        · exact ⟨by omega, by omega⟩
        · exact trivial
      · exact trivial
theorem smX_ok {L : Int} {T : Int → Int} {x : Rs} (h : RsOK L x) : RsOK L (smX L T x) := by
  match x, h with
  | .inl e, _ => exact trivial
  | .inr p, h =>
    have h' : 0 ≤ p ∧ p ≤ L := h
    have a := tF_bd (T := T) h'.2
    have b := tT_bd (T := T) h'.2
    show RsOK L (smR L T p)
    unfold smR
    split
    · exact trivial
    · split
      · exact ⟨by omega, by omega⟩
      · exact trivial
theorem tK_2 {L p : Int} {T : Int → Int} (h : tK L T p = 2) : tF L T p < L ∧ isL (T (tF L T p)) = false ∧ isD (T (tF L T p)) = true ∧ tT L T p = run L T isD (tF L T p) ∧ tT L T p ≤ tF L T p + 2 ∧ tF L T p < tT L T p := by
  unfold tK at h
  by_cases c : L ≤ tF L T p
  · rw [if_pos c] at h; omega
  · rw [if_neg c] at h
    by_cases c1 : isL (T (tF L T p)) = true
    · rw [if_pos c1] at h; omega
    · rw [if_neg c1] at h
      by_cases c2 : isD (T (tF L T p)) = true
      · rw [if_pos c2] at h
        have e : tT L T p = run L T isD (tF L T p) := by unfold tT; rw [if_neg c, if_neg c1, if_pos c2]
        have g : tF L T p + 1 ≤ run L T isD (tF L T p) := by
          rw [run_y (by omega) c2]
          exact (run_bd (by omega)).1
        refine ⟨by omega, Bool.eq_false_iff.mpr c1, c2, e, ?_, by omega⟩
        by_cases c3 : 2 < run L T isD (tF L T p) - tF L T p
        · rw [if_pos c3] at h; omega
        · omega
      · rw [if_neg c2] at h
        split at h <;> omega
theorem tV_bd {L p : Int} {T : Int → Int} (h : tK L T p = 2) : 0 ≤ tV L T p ∧ tV L T p ≤ 99 := by
  obtain ⟨a, b, c, d, e, f⟩ := tK_2 h
  unfold tV
  exact vF_bd (L := L) (by omega) e
theorem tK_rg (L p : Int) (T : Int → Int) : -1 ≤ tK L T p ∧ tK L T p ≤ 3 := by
  unfold tK
  repeat' split
  all_goals omega
/-! the class's number -/
theorem CTk.ft {σ σ' : St} {e : Int × Int} (h : CTk σ (.inl e)) (f : ∀ j, j = 2 ∨ j = 3 → σ' 41 j = σ 41 j) : CTk σ' (.inl e) := by
  obtain ⟨⟨a, b⟩, c⟩ := h
  exact ⟨⟨(f 2 (by omega)).trans a, (f 3 (by omega)).trans b⟩, c⟩
theorem CTk.nz {σ : St} {e : Int × Int} (h : CTk σ (.inl e)) : ¬ wr (σ 41 2) = 0 := by
  obtain ⟨⟨a, b⟩, c, d⟩ := h
  rw [a, wr_of (by omega) (by omega)]; omega
theorem c_num_loop {L : Int} {T : Int → Int} (ok : okT (L, T)) {lo hi f e : Int} (hlo : 0 ≤ lo ∧ lo ≤ 99) (hhi : 0 ≤ hi ∧ hi ≤ 99) (hf : 0 ≤ f) (hr : e ≤ run L T isD f) (he : e ≤ L) (h2 : e ≤ f + 2) (h3 : f < e) {σ : St} (h : cTp σ (L, T)) (h6 : σ 41 6 = f) (h7 : σ 41 7 = e) : ∀ (m : Nat), 3 < m → f_X3_takeNumber_40 m lo hi 0 f σ = if lo ≤ vF T f e ∧ vF T f e ≤ hi then some (vF T f e, σ) else bV (f_X3_fail 3 f σ) fun s => some (lo, s) := by
  have hL : 0 ≤ L ∧ L ≤ 160 := ok.1
  intro m hm
  obtain ⟨m, rfl⟩ : ∃ y, m = y + 3 := ⟨m - 3, by omega⟩
  have vb := vF_bd hr h2
  have fin : ∀ n, f_X3_takeNumber_40 (n + 1) lo hi (vF T f e) e σ = if lo ≤ vF T f e ∧ vF T f e ≤ hi then some (vF T f e, σ) else bV (f_X3_fail 3 f σ) fun s => some (lo, s) := by
    intro n
    rw [f_X3_takeNumber_40, h7, wr_of (x := e) (by omega) (by omega), if_neg (by omega), wr_of (x := vF T f e) (by omega) (by omega), wr_of (x := lo) (by omega) (by omega), wr_of (x := hi) (by omega) (by omega)]
    unfold f_X3_takeNumber_80
    rw [h6]
    by_cases a : vF T f e < lo
    · rw [if_pos a, if_neg (by omega)]
    · rw [if_neg a]
      by_cases b : hi < vF T f e
      · rw [if_pos b, if_neg (by omega)]
      · rw [if_neg b, if_pos (by omega)]
  have d0 := dig (L := L) (T := T) (i := f) (j := f) (by omega) (by omega)
  rw [f_X3_takeNumber_40, h7, wr_of (x := f) (by omega) (by omega), wr_of (x := e) (by omega) (by omega), if_pos h3, c_byteL h hL hf (by omega), bI_s]
  by_cases c : e = f + 1
  · have ev : 0 * 10 + T f - 48 = vF T f e := by
      unfold vF
      rw [if_neg (by omega), if_pos c]; omega
    rw [ev, ← c]
    exact fin _
  · have c' : e = f + 1 + 1 := by omega
    rw [f_X3_takeNumber_40, h7, wr_of (x := f + 1) (by omega) (by omega), wr_of (x := e) (by omega) (by omega), if_pos (by omega), c_byteL h hL (by omega) (by omega), bI_s]
    have ev : (0 * 10 + T f - 48) * 10 + T (f + 1) - 48 = vF T f e := by
      unfold vF
      rw [if_neg (by omega), if_neg c]; omega
    rw [ev, ← c']
    exact fin _
theorem c_num {L : Int} {T : Int → Int} (ok : okT (L, T)) {lo hi : Int} (hlo : 0 ≤ lo ∧ lo ≤ 99) (hhi : 0 ≤ hi ∧ hi ≤ 99) {σ : St} {x : Rs} (h : cTp σ (L, T)) (hx : RsOK L x) (hs : CTk σ x) : ∃ σ', f_X3_takeNumber lo hi σ = some (nmV L T lo hi x, σ') ∧ CTk σ' (nmX L T lo hi x) ∧ Ft σ σ' ∧ (∀ p, x = .inr p → tK L T p = 2 → σ' 41 6 = tF L T p) := by
  have hL : 0 ≤ L ∧ L ≤ 160 := ok.1
  obtain ⟨σ1, t1, t2, t3⟩ := c_take ok h hx hs
  unfold f_X3_takeNumber
  rw [t1, bV_s]
  match x, hx, hs, t2 with
  | .inl e, _, hs, t2 =>
    have t2' : CTk σ1 (.inl e) := t2
    rw [if_neg t2'.nz]
    exact ⟨σ1, rfl, t2', t3, fun p z => by cases z⟩
  | .inr p, hp, hs, t2 =>
    have hp' : 0 ≤ p ∧ p ≤ L := hp
    have a := tF_bd (T := T) hp'.2
    have b := tT_bd (T := T) hp'.2
    have t2' : (if tK L T p = -1 then CTk σ1 (.inl (1, tF L T p)) else σ1 41 2 = 0 ∧ σ1 41 5 = tK L T p ∧ σ1 41 6 = tF L T p ∧ σ1 41 7 = tT L T p) := t2
    show ∃ σ', _ = some ((if tK L T p = 2 ∧ lo ≤ tV L T p ∧ tV L T p ≤ hi then tV L T p else lo), σ') ∧ CTk σ' (nmR L T lo hi p) ∧ _ ∧ _
    unfold nmR
    by_cases c : tK L T p = -1
    · rw [if_pos c] at t2'
      rw [if_neg t2'.nz, if_neg (by omega), if_pos c]
      exact ⟨σ1, rfl, t2', t3, fun p' z z2 => by cases z; omega⟩
    · rw [if_neg c] at t2'
      obtain ⟨u2, u5, u6, u7⟩ := t2'
      have kr := tK_rg L p T
      rw [u2, if_pos (by decide), if_neg c, u5, show wr 2 = 2 by decide, wr_of (x := tK L T p) (by omega) (by omega)]
      by_cases d : tK L T p = 2
      · obtain ⟨k1, k2, k3, k4, k5, k6⟩ := tK_2 d
        rw [if_pos d, if_pos d, u6, c_num_loop ok (lo := lo) (hi := hi) (f := tF L T p) (e := tT L T p) hlo hhi (by omega) (by omega) b.2.1 k5 k6 (t3.tp h) u6 u7 FU (by unfold FU; omega)]
        have ev : vF T (tF L T p) (tT L T p) = tV L T p := rfl
        rw [ev]
        by_cases g : lo ≤ tV L T p ∧ tV L T p ≤ hi
        · rw [if_pos g, if_pos ⟨d, g⟩, if_pos g]
          exact ⟨σ1, rfl, ⟨u2, u7⟩, t3, fun p' z z2 => by cases z; exact u6⟩
        · rw [if_neg g, if_neg (fun z => g z.2), if_neg g, c_fail0 u2, bV_s]
          refine ⟨_, rfl, c_failS (by omega) (by omega), t3.tr ((Ft.u (by omega)).tr (Ft.u (by omega))), fun p' z z2 => ?_⟩
          cases z
          rw [up_at, if_neg (by omega), up_at, if_neg (by omega), u6]
      · rw [if_neg d, if_neg d, if_neg (fun z => d z.1), c_fail0 u2, bV_s, u6]
        exact ⟨_, rfl, c_failS (by omega) (by omega), t3.tr ((Ft.u (by omega)).tr (Ft.u (by omega))), fun p' z z2 => by cases z; exact absurd z2 d⟩
theorem c_semi {L : Int} {T : Int → Int} (ok : okT (L, T)) {σ : St} {x : Rs} (h : cTp σ (L, T)) (hx : RsOK L x) (hs : CTk σ x) : ∃ σ', f_X3_takeSemicolon σ = some σ' ∧ CTk σ' (smX L T x) ∧ Ft σ σ' := by
  have hL : 0 ≤ L ∧ L ≤ 160 := ok.1
  obtain ⟨σ1, t1, t2, t3⟩ := c_take ok h hx hs
  unfold f_X3_takeSemicolon
  rw [t1, bV_s]
  have fl : ∀ e, CTk σ1 (.inl e) → (if wr (σ1 41 5) = wr 3 then some σ1 else bV (f_X3_fail 2 (σ1 41 6) σ1) fun s18 => some s18) = some σ1 := by
    intro e he
    rw [c_fail1 he, bV_s]
    split <;> rfl
  match x, hx, hs, t2 with
  | .inl e, _, hs, t2 => exact ⟨σ1, fl e t2, t2, t3⟩
  | .inr p, hp, hs, t2 =>
    have hp' : 0 ≤ p ∧ p ≤ L := hp
    have a := tF_bd (T := T) hp'.2
    have t2' : (if tK L T p = -1 then CTk σ1 (.inl (1, tF L T p)) else σ1 41 2 = 0 ∧ σ1 41 5 = tK L T p ∧ σ1 41 6 = tF L T p ∧ σ1 41 7 = tT L T p) := t2
    show ∃ σ', _ = some σ' ∧ CTk σ' (smR L T p) ∧ _
    unfold smR
    by_cases c : tK L T p = -1
    · rw [if_pos c] at t2'
      rw [if_pos c]
      exact ⟨σ1, fl _ t2', t2', t3⟩
    · rw [if_neg c] at t2'
      obtain ⟨u2, u5, u6, u7⟩ := t2'
      have kr := tK_rg L p T
      rw [if_neg c, u5, show wr 3 = 3 by decide, wr_of (x := tK L T p) (by omega) (by omega)]
      by_cases d : tK L T p = 3
      · rw [if_pos d, if_pos d]
        exact ⟨σ1, rfl, ⟨u2, u7⟩, t3⟩
      · rw [if_neg d, if_neg d, c_fail0 u2, bV_s, u6]
        exact ⟨_, rfl, c_failS (by omega) (by omega), t3.tr ((Ft.u (by omega)).tr (Ft.u (by omega)))⟩
/-! the model's number -/
theorem m_n62 {σ : St} {v : Int} {e : Int × Int} (h : MF σ e) : f_X5_number_62 v σ = some (v, σ) := by
  unfold f_X5_number_62 f_X5_step
  rw [if_pos h.ps, bV_s]
theorem m_n47 {σ : St} {v : Int} {e : Int × Int} (h : MF σ e) : f_X5_number_47 v σ = some (v, σ) := by
  unfold f_X5_number_47
  rw [if_neg h.nz, m_n62 h]
theorem m_n20 {σ : St} {v w : Int} {e : Int × Int} (h : MF σ e) : f_X5_number_20 v w σ = some (v, σ) := by
  unfold f_X5_number_20
  rw [if_neg h.nz, m_n47 h]
theorem m_nF {σ : St} {v w : Int} {e : Int × Int} (h : MF σ e) : f_X5_number v w σ = some (v, σ) := by
  unfold f_X5_number
  rw [if_neg h.nz, m_n20 h]
theorem m_num {L : Int} {T : Int → Int} (ok : okT (L, T)) {lo hi : Int} (hlo : 0 ≤ lo ∧ lo ≤ 99) (hhi : 0 ≤ hi ∧ hi ≤ 99) {σ : St} {x : Rs} (h : mTp σ (L, T)) (hx : RsOK L x) (hs : MLk L T σ x) : ∃ σ', f_X5_number lo hi σ = some (nmV L T lo hi x, σ') ∧ MLk L T σ' (nmX L T lo hi x) ∧ Fm σ σ' := by
  have hL : 0 ≤ L ∧ L ≤ 160 := ok.1
  match x, hx, hs with
  | .inl e, _, hs => exact ⟨σ, m_nF hs, hs, Fm.rf σ⟩
  | .inr p, hp, hs =>
    have hp' : 0 ≤ p ∧ p ≤ L := hp
    have a := tF_bd (T := T) hp'.2
    have b := tT_bd (T := T) hp'.2
    have hs' : (if tK L T p = -1 then MF σ (1, tF L T p) else σ 51 10 = 0 ∧ σ 51 14 = tK L T p ∧ σ 51 13 = tF L T p ∧ σ 51 12 = tT L T p ∧ (tK L T p = 2 → σ 51 15 = tV L T p)) := hs
    show ∃ σ', _ = some ((if tK L T p = 2 ∧ lo ≤ tV L T p ∧ tV L T p ≤ hi then tV L T p else lo), σ') ∧ MLk L T σ' (nmR L T lo hi p) ∧ _
    unfold nmR
    by_cases c : tK L T p = -1
    · rw [if_pos c] at hs'
      rw [if_neg (by omega), if_pos c]
      exact ⟨σ, m_nF hs', hs', Fm.rf σ⟩
    · rw [if_neg c] at hs'
      obtain ⟨u10, u14, u13, u12, u15⟩ := hs'
      have kr := tK_rg L p T
      unfold f_X5_number
      rw [u10, if_pos (by decide), if_neg c, u14, show wr 2 = 2 by decide, wr_of (x := tK L T p) (by omega) (by omega)]
      by_cases d : tK L T p = 2
      · have vb := tV_bd d
        rw [if_pos d, if_pos d]
        unfold f_X5_number_20
        rw [u10, if_pos (by decide), u15 d, wr_of (x := lo) (by omega) (by omega), wr_of (x := hi) (by omega) (by omega), m_inw (by omega) (by omega) (by omega), bI_s]
        by_cases g : lo ≤ tV L T p ∧ tV L T p ≤ hi
        · rw [if_pos (decide_eq_true g), if_pos ⟨d, g⟩, if_pos g]
          unfold f_X5_number_47
          rw [u10, if_pos (by decide)]
          unfold f_X5_number_62
          obtain ⟨σ1, t1, t2, t3⟩ := m_step ok (x := .inr (tT L T p)) h ⟨by omega, b.2.1⟩ ⟨u10, u12⟩
          rw [t1, bV_s, u15 d]
          exact ⟨σ1, rfl, t2, t3⟩
        · rw [if_neg (fun z => g (of_decide_eq_true z)), if_neg (fun z => g z.2), if_neg g, m_fails0 u10, bV_s]
          have mf := m_failsS (σ := σ) (c := 3) (pl := tF L T p) (by omega) u13 (by omega)
          rw [m_n47 mf]
          exact ⟨_, rfl, mf, Fm.fails⟩
      · rw [if_neg d, if_neg d, if_neg (fun z => d z.1), m_fails0 u10, bV_s]
        have mf := m_failsS (σ := σ) (c := 2) (pl := tF L T p) (by omega) u13 (by omega)
        rw [m_n20 mf]
        exact ⟨_, rfl, mf, Fm.fails⟩
/-- the end of a line -/
def lnE (σ : St) : Option St := if wr (σ 51 10) = 0 then (if wr (σ 51 14) = wr 3 then f_X5_readLine_135 σ else bV (f_X5_fails 2 σ) fun s132 => f_X5_readLine_135 s132) else f_X5_readLine_135 σ
theorem m_135F {σ : St} {e : Int × Int} (h : MF σ e) : f_X5_readLine_135 σ = some σ := by
  unfold f_X5_readLine_135 f_X5_step
  rw [if_pos h.ps, bV_s]
theorem m_semi {L : Int} {T : Int → Int} (ok : okT (L, T)) {σ : St} {x : Rs} (h : mTp σ (L, T)) (hx : RsOK L x) (hs : MLk L T σ x) : ∃ σ', lnE σ = some σ' ∧ MLk L T σ' (smX L T x) ∧ Fm σ σ' := by
  have hL : 0 ≤ L ∧ L ≤ 160 := ok.1
  unfold lnE
  match x, hx, hs with
  | .inl e, _, hs =>
    have hs' : MF σ e := hs
    rw [if_neg hs'.nz, m_135F hs']
    exact ⟨σ, rfl, hs', Fm.rf σ⟩
  | .inr p, hp, hs =>
    have hp' : 0 ≤ p ∧ p ≤ L := hp
    have a := tF_bd (T := T) hp'.2
    have b := tT_bd (T := T) hp'.2
    have hs' : (if tK L T p = -1 then MF σ (1, tF L T p) else σ 51 10 = 0 ∧ σ 51 14 = tK L T p ∧ σ 51 13 = tF L T p ∧ σ 51 12 = tT L T p ∧ (tK L T p = 2 → σ 51 15 = tV L T p)) := hs
    show ∃ σ', _ = some σ' ∧ MLk L T σ' (smR L T p) ∧ _
    unfold smR
    by_cases c : tK L T p = -1
    · rw [if_pos c] at hs'
      rw [if_neg hs'.nz, if_pos c, m_135F hs']
      exact ⟨σ, rfl, hs', Fm.rf σ⟩
    · rw [if_neg c] at hs'
      obtain ⟨u10, u14, u13, u12, u15⟩ := hs'
      have kr := tK_rg L p T
      rw [u10, if_pos (by decide), if_neg c, u14, show wr 3 = 3 by decide, wr_of (x := tK L T p) (by omega) (by omega)]
      by_cases d : tK L T p = 3
      · rw [if_pos d, if_pos d]
        unfold f_X5_readLine_135
        obtain ⟨σ1, t1, t2, t3⟩ := m_step ok (x := .inr (tT L T p)) h ⟨by omega, b.2.1⟩ ⟨u10, u12⟩
        rw [t1, bV_s]
        exact ⟨σ1, rfl, t2, t3⟩
      · rw [if_neg d, if_neg d, m_fails0 u10, bV_s]
        have mf := m_failsS (σ := σ) (c := 2) (pl := tF L T p) (by omega) u13 (by omega)
        rw [m_135F mf]
        exact ⟨_, rfl, mf, Fm.fails⟩
