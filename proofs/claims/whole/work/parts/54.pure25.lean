/-! ===== pure part 25: the whole state of both sides ===== -/
/-- page; seen; images; kept; tape; sheets (lane, size, cells); fault; torn -/
abbrev Ab : Type := Pg × Sg × (Int → Pg) × (Int → Int) × (Int × (Int → Int)) × ((Int → Int) × (Int → Int) × (Int → Int)) × Int × Int
def cIm (σ : St) (K : Int → Pg) (B : Int → Int) : Prop := σ 0 7 = B 0 + 2 * B 1 ∧ (B 0 = 1 → cv σ 21 = K 0 ∧ σ 21 11 = 0) ∧ (B 1 = 1 → cv σ 31 = K 1 ∧ σ 31 11 = 0)
def mIm (σ : St) (K : Int → Pg) (B : Int → Int) : Prop := (rd σ 59 0 = B 0 ∧ rd σ 59 1 = B 1) ∧ (B 0 = 1 → mv σ 55 = K 0) ∧ (B 1 = 1 → mv σ 110 = K 1)
def cTp (σ : St) (T : Int × (Int → Int)) : Prop := σ 41 1 = T.1 ∧ ∀ i, 0 ≤ i → i < T.1 → rd σ 42 i = T.2 i
def mTp (σ : St) (T : Int × (Int → Int)) : Prop := σ 51 8 = T.1 ∧ ∀ i, 0 ≤ i → i < T.1 → rd σ 54 i = T.2 i
def cSh (σ : St) (H : (Int → Int) × (Int → Int) × (Int → Int)) : Prop := (∀ k, 0 ≤ k → k < 4 → (H.1 k = -4 → rd σ 49 k = -1) ∧ (H.1 k ≠ -4 → rd σ 48 k = H.1 k ∧ rd σ 49 k = H.2.1 k)) ∧ ∀ i, 0 ≤ i → i < 160 → rd σ 50 i = H.2.2 i
def mSh (σ : St) (H : (Int → Int) × (Int → Int) × (Int → Int)) : Prop := (∀ k, 0 ≤ k → k < 4 → rd σ 60 k = H.1 k ∧ (H.1 k ≠ -4 → rd σ 61 k = H.2.1 k)) ∧ ∀ i, 0 ≤ i → i < 160 → rd σ 62 i = H.2.2 i
def endsT (i : Nat) : Int := ([0, 5, 12, 19, 24, 26, 31, 36] : List Int).getD i 0
def lettT (i : Nat) : Int := ([112, 108, 97, 105, 110, 109, 97, 114, 115, 104, 97, 108, 117, 115, 117, 114, 112, 101, 114, 113, 117, 105, 101, 116, 111, 110, 116, 114, 117, 115, 116, 98, 101, 97, 114, 115] : List Int).getD i 0
def mCo (σ : St) : Prop := (∀ i : Nat, i < 8 → σ 55 i = endsT i) ∧ ∀ i : Nat, i < 36 → σ 56 i = lettT i
def Vc (σ : St) (A : Ab) : Prop := (cv σ 1 = A.1 ∧ σ 1 11 = 0) ∧ cSg σ A.2.1 ∧ cIm σ A.2.2.1 A.2.2.2.1 ∧ cTp σ A.2.2.2.2.1 ∧ cSh σ A.2.2.2.2.2.1 ∧ (σ 0 8 = A.2.2.2.2.2.2.1 ∧ σ 0 9 = A.2.2.2.2.2.2.2)
def Vm (σ : St) (A : Ab) : Prop := (mv σ 0 = A.1 ∧ σ 51 18 = 0) ∧ mSg σ A.2.1 ∧ mIm σ A.2.2.1 A.2.2.2.1 ∧ mTp σ A.2.2.2.2.1 ∧ mSh σ A.2.2.2.2.2.1 ∧ (σ 51 9 = A.2.2.2.2.2.2.1 ∧ σ 51 29 = A.2.2.2.2.2.2.2) ∧ mCo σ
def okI (P : Pg) (K : Int → Pg) (B : Int → Int) : Prop := (B 0 = 0 ∨ B 0 = 1) ∧ (B 1 = 0 ∨ B 1 = 1) ∧ (B 0 = 1 → WF (K 0) ∧ K 0 0 3 ≤ 999 ∧ K 0 0 0 = P 0 0) ∧ (B 1 = 1 → WF (K 1) ∧ K 1 0 3 ≤ 999 ∧ K 1 0 0 = P 0 0)
def okT (T : Int × (Int → Int)) : Prop := (0 ≤ T.1 ∧ T.1 ≤ 160) ∧ ∀ i, 0 ≤ i → i < T.1 → 0 ≤ T.2 i ∧ T.2 i ≤ 127
def okH (H : (Int → Int) × (Int → Int) × (Int → Int)) : Prop := (∀ k, 0 ≤ k → k < 4 → (H.1 k = -4 ∨ (0 ≤ H.1 k ∧ H.1 k ≤ 2)) ∧ (H.1 k ≠ -4 → 0 ≤ H.2.1 k ∧ H.2.1 k ≤ 40)) ∧ ∀ i, 0 ≤ i → i < 160 → IR (H.2.2 i)
def OKA (A : Ab) : Prop := (WF A.1 ∧ A.1 0 3 ≤ 999) ∧ SgOK A.1 A.2.1 ∧ okI A.1 A.2.2.1 A.2.2.2.1 ∧ okT A.2.2.2.2.1 ∧ okH A.2.2.2.2.2.1
def FC (σ σ' : St) : Prop := ∀ k j, 51 ≤ k → σ' k j = σ k j
def FM (σ σ' : St) : Prop := ∀ k j, k ≤ 50 → σ' k j = σ k j
def Op (f g : St → Option (Int × St)) (r : Ab → Int) (t : Ab → Ab) : Prop := (∀ A, OKA A → OKA (t A)) ∧ (∀ σ A, OKA A → Vc σ A → ∃ σ', f σ = some (r A, σ') ∧ Vc σ' (t A) ∧ FC σ σ') ∧ (∀ σ A, OKA A → Vm σ A → ∃ σ', g σ = some (r A, σ') ∧ Vm σ' (t A) ∧ FM σ σ')
/-! parts are kept -/
theorem cSg.ext {σ σ' : St} {S : Sg} (h : ∀ k j, 43 ≤ k → k ≤ 46 → σ' k j = σ k j) (hs : cSg σ S) : cSg σ' S := by
  refine ⟨(h 43 0 (by omega) (by omega)).trans hs.1, fun i a b => ?_⟩
  have := hs.2 i a b
  exact ⟨(h 44 _ (by omega) (by omega)).trans this.1, (h 45 _ (by omega) (by omega)).trans this.2.1, (h 46 _ (by omega) (by omega)).trans this.2.2⟩
theorem cIm.ext {σ σ' : St} {K : Int → Pg} {B : Int → Int} (h0 : σ' 0 7 = σ 0 7) (h : ∀ k j, 21 ≤ k → k ≤ 40 → σ' k j = σ k j) (hs : cIm σ K B) : cIm σ' K B := by
  refine ⟨h0.trans hs.1, fun b => ?_, fun b => ?_⟩
  · have := hs.2.1 b
    exact ⟨(cv_ext (fun r j hr _ => h (21 + r) j (by omega) (by omega))).trans this.1, (h 21 11 (by omega) (by omega)).trans this.2⟩
  · have := hs.2.2 b
    exact ⟨(cv_ext (fun r j hr _ => h (31 + r) j (by omega) (by omega))).trans this.1, (h 31 11 (by omega) (by omega)).trans this.2⟩
theorem cTp.ext {σ σ' : St} {T : Int × (Int → Int)} (h0 : σ' 41 1 = σ 41 1) (h : ∀ j, σ' 42 j = σ 42 j) (hs : cTp σ T) : cTp σ' T := ⟨h0.trans hs.1, fun i a b => (h _).trans (hs.2 i a b)⟩
theorem mTp.ext {σ σ' : St} {T : Int × (Int → Int)} (h0 : σ' 51 8 = σ 51 8) (h : ∀ j, σ' 54 j = σ 54 j) (hs : mTp σ T) : mTp σ' T := ⟨h0.trans hs.1, fun i a b => (h _).trans (hs.2 i a b)⟩
theorem cSh.ext {σ σ' : St} {H : (Int → Int) × (Int → Int) × (Int → Int)} (h : ∀ k j, 48 ≤ k → k ≤ 50 → σ' k j = σ k j) (hs : cSh σ H) : cSh σ' H := by
  refine ⟨fun k a b => ?_, fun i a b => (h 50 _ (by omega) (by omega)).trans (hs.2 i a b)⟩
  have := hs.1 k a b
  exact ⟨fun z => (h 49 _ (by omega) (by omega)).trans (this.1 z), fun z => ⟨(h 48 _ (by omega) (by omega)).trans (this.2 z).1, (h 49 _ (by omega) (by omega)).trans (this.2 z).2⟩⟩
theorem mSh.ext {σ σ' : St} {H : (Int → Int) × (Int → Int) × (Int → Int)} (h : ∀ k j, 60 ≤ k → k ≤ 62 → σ' k j = σ k j) (hs : mSh σ H) : mSh σ' H := by
  refine ⟨fun k a b => ?_, fun i a b => (h 62 _ (by omega) (by omega)).trans (hs.2 i a b)⟩
  have := hs.1 k a b
  exact ⟨(h 60 _ (by omega) (by omega)).trans this.1, fun z => (h 61 _ (by omega) (by omega)).trans (this.2 z)⟩
theorem mCo.ext {σ σ' : St} (h : ∀ k j, k = 55 ∨ k = 56 → σ' k j = σ k j) (hs : mCo σ) : mCo σ' := ⟨fun i hi => (h 55 i (Or.inl rfl)).trans (hs.1 i hi), fun i hi => (h 56 i (Or.inr rfl)).trans (hs.2 i hi)⟩
/-- images of the model, when riders and their pages are kept -/
theorem mIm.ext {σ σ' : St} {P : Pg} {K : Int → Pg} {B : Int → Int} (ok : okI P K B) (h5 : P 0 0 ≤ 5) (h1 : σ' 51 1 = σ 51 1) (h59 : ∀ j, σ' 59 j = σ 59 j) (h : ∀ x, 55 ≤ x → x < 165 → rd σ' 52 x = rd σ 52 x) (hs : mIm σ K B) : mIm σ' K B := by
  refine ⟨⟨(h59 _).trans hs.1.1, (h59 _).trans hs.1.2⟩, fun b => ?_, fun b => ?_⟩
  · have e := hs.2.1 b
    obtain ⟨k1, k2, k3⟩ := ok.2.2.1 b
    have e0 : σ 51 1 = K 0 0 0 := by rw [← mv_0 σ 55, e]
    have e2 : rd σ 52 (55 + 52) = K 0 0 2 := by rw [← mv_2 σ 55, e]
    rw [← e]
    exact mv_ext h1 (by rw [e0]; exact k1.1.2) (by rw [e2]; exact k1.2.2.1.2) (fun x x0 x1 => h _ (by omega) (by omega))
  · have e := hs.2.2 b
    obtain ⟨k1, k2, k3⟩ := ok.2.2.2 b
    have e0 : σ 51 1 = K 1 0 0 := by rw [← mv_0 σ 110, e]
    have e2 : rd σ 52 (110 + 52) = K 1 0 2 := by rw [← mv_2 σ 110, e]
    rw [← e]
    exact mv_ext h1 (by rw [e0]; exact k1.1.2) (by rw [e2]; exact k1.2.2.1.2) (fun x x0 x1 => h _ (by omega) (by omega))
theorem Vc.fm {σ σ' : St} {A : Ab} (h : FM σ σ') (v : Vc σ A) : Vc σ' A := by
  obtain ⟨⟨a1, a2⟩, b, c, d, e, f1, f2⟩ := v
  exact ⟨⟨(cv_ext (fun r j hr _ => h (1 + r) j (by omega))).trans a1, (h 1 11 (by omega)).trans a2⟩, b.ext (fun k j _ x => h k j (by omega)), c.ext (h 0 7 (by omega)) (fun k j _ x => h k j (by omega)), d.ext (h 41 1 (by omega)) (fun j => h 42 j (by omega)), e.ext (fun k j _ x => h k j (by omega)), (h 0 8 (by omega)).trans f1, (h 0 9 (by omega)).trans f2⟩
theorem Vm.fc {σ σ' : St} {A : Ab} (h : FC σ σ') (ok : OKA A) (v : Vm σ A) : Vm σ' A := by
  obtain ⟨⟨a1, a2⟩, b, c, d, e, ⟨f1, f2⟩, g⟩ := v
  have e0 : σ 51 1 = A.1 0 0 := by rw [← a1]; rfl
  have e2 : rd σ 52 (0 + 52) = A.1 0 2 := by rw [← a1]; rfl
  have w := ok.1.1
  exact ⟨⟨(mv_ext (h 51 1 (by omega)) (by rw [e0]; exact w.1.2) (by rw [e2]; exact w.2.2.1.2) (fun x _ _ => h 52 _ (by omega))).trans a1, (h 51 18 (by omega)).trans a2⟩, mSg.of (h 51 23 (by omega)) (fun j => h 57 j (by omega)) b, c.ext ok.2.2.1 w.1.2 (h 51 1 (by omega)) (fun j => h 59 j (by omega)) (fun x _ _ => h 52 _ (by omega)), d.ext (h 51 8 (by omega)) (fun j => h 54 j (by omega)), e.ext (fun k j x _ => h k j (by omega)), ⟨(h 51 9 (by omega)).trans f1, (h 51 29 (by omega)).trans f2⟩, g.ext (fun k j x => h k j (by omega))⟩
/-! changes of the page alone -/
def Qk (σ σ' : St) : Prop := ∀ k j, (k = 0 ∨ 21 ≤ k) → σ' k j = σ k j
def Qp (σ σ' : St) : Prop := (∀ k j, k ≠ 51 → k ≠ 52 → k ≠ 58 → σ' k j = σ k j) ∧ (∀ j, j ≠ 19 → j ≠ 20 → j ≠ 21 → σ' 51 j = σ 51 j) ∧ ∀ x, 55 ≤ x → x < 165 → rd σ' 52 x = rd σ 52 x
theorem Qc.k {a b : St} (h : Qc a b) : Qk a b := fun k j x => h k j (by omega)
theorem Qm.p {a b : St} (h : Qm a b) : Qp a b := ⟨h.1, h.2.1, fun x y z => h.2.2 x (by omega) z⟩
theorem Qk.rf (σ : St) : Qk σ σ := fun _ _ _ => rfl
theorem Qk.tr {a b c : St} (h1 : Qk a b) (h2 : Qk b c) : Qk a c := fun k j h => (h2 k j h).trans (h1 k j h)
theorem Qp.rf (σ : St) : Qp σ σ := ⟨fun _ _ _ _ _ => rfl, fun _ _ _ _ => rfl, fun _ _ _ => rfl⟩
theorem Qp.tr {a b c : St} (h1 : Qp a b) (h2 : Qp b c) : Qp a c := ⟨fun k j x y z => (h2.1 k j x y z).trans (h1.1 k j x y z), fun j x y z => (h2.2.1 j x y z).trans (h1.2.1 j x y z), fun x y z => (h2.2.2 x y z).trans (h1.2.2 x y z)⟩
theorem Qp.u {σ : St} {x v : Int} (hx : 0 ≤ x ∧ (x < 55 ∨ 165 ≤ x)) : Qp σ (ups σ 52 x v) := ⟨fun k j _ h _ => ups_at h, fun j _ _ _ => ups_at (by decide), fun y a b => by rw [rd_ups hx.1 (by omega), if_neg (by omega)]⟩
theorem Vc.k {σ σ' : St} {A : Ab} {P' : Pg} (h : Qk σ σ') (v : Vc σ A) (hp : cv σ' 1 = P') (hu : σ' 1 11 = 0) : Vc σ' (P', A.2) := by
  obtain ⟨⟨a1, a2⟩, b, c, d, e, f1, f2⟩ := v
  exact ⟨⟨hp, hu⟩, b.ext (fun k j x _ => h k j (by omega)), c.ext (h 0 7 (by omega)) (fun k j x _ => h k j (by omega)), d.ext (h 41 1 (by omega)) (fun j => h 42 j (by omega)), e.ext (fun k j x _ => h k j (by omega)), (h 0 8 (by omega)).trans f1, (h 0 9 (by omega)).trans f2⟩
theorem Vm.p {σ σ' : St} {A : Ab} {P' : Pg} (ok : OKA A) (h : Qp σ σ') (v : Vm σ A) (hp : mv σ' 0 = P') : Vm σ' (P', A.2) := by
  obtain ⟨⟨a1, a2⟩, b, c, d, e, ⟨f1, f2⟩, g⟩ := v
  exact ⟨⟨hp, (h.2.1 18 (by omega) (by omega) (by omega)).trans a2⟩, mSg.of (h.2.1 23 (by omega) (by omega) (by omega)) (fun j => h.1 57 j (by omega) (by omega) (by omega)) b, c.ext ok.2.2.1 ok.1.1.1.2 (h.2.1 1 (by omega) (by omega) (by omega)) (fun j => h.1 59 j (by omega) (by omega) (by omega)) h.2.2, d.ext (h.2.1 8 (by omega) (by omega) (by omega)) (fun j => h.1 54 j (by omega) (by omega) (by omega)), e.ext (fun k j x _ => h.1 k j (by omega) (by omega) (by omega)), ⟨(h.2.1 9 (by omega) (by omega) (by omega)).trans f1, (h.2.1 29 (by omega) (by omega) (by omega)).trans f2⟩, g.ext (fun k j x => h.1 k j (by omega) (by omega) (by omega))⟩
theorem Qp.fm {σ σ' : St} (h : Qp σ σ') : FM σ σ' := fun k j x => h.1 k j (by omega) (by omega) (by omega)
theorem Vc.ic {σ : St} {A : Ab} (ok : OKA A) (v : Vc σ A) : Ic σ := by
  obtain ⟨⟨a1, a2⟩, -⟩ := v
  exact ⟨by rw [a1]; exact ok.1.1, by rw [a1]; exact ok.1.2, a2⟩
theorem Vm.im {σ : St} {A : Ab} (ok : OKA A) (v : Vm σ A) : Im σ := by
  obtain ⟨⟨a1, a2⟩, -⟩ := v
  exact ⟨by rw [a1]; exact ok.1.1, by rw [a1]; exact ok.1.2, a2⟩
theorem Vc.q {σ σ' : St} {A : Ab} (h : Qc σ σ') (v : Vc σ A) : Vc σ' A := v.k h.k (h.cv.trans v.1.1) (h.un.trans v.1.2)
theorem Vm.q {σ σ' : St} {A : Ab} (ok : OKA A) (h : Qm σ σ') (v : Vm σ A) : Vm σ' A := Vm.p ok h.p v (((v.im ok).q h).2.trans v.1.1)
/-- a question about the page -/
theorem Qry.op {f g : St → Option (Int × St)} {S : Pg → Int} (h : Qry f g S) : Op f g (fun A => S A.1) id := by
  refine ⟨fun A a => a, fun σ A ok v => ?_, fun σ A ok v => ?_⟩
  · obtain ⟨σ1, a, b⟩ := h.1 σ (v.ic ok)
    rw [v.1.1] at a
    exact ⟨σ1, a, v.q b, fun k j x => b k j (by omega)⟩
  · obtain ⟨σ1, a, b⟩ := h.2 σ (v.im ok)
    rw [v.1.1] at a
    exact ⟨σ1, a, Vm.q ok b v, fun k j x => b.1 k j (by omega) (by omega) (by omega)⟩
theorem QryS.op {f g : St → Option (Int × St)} {S : Pg → Sg → Int} (h : QryS f g S) : Op f g (fun A => S A.1 A.2.1) id := by
  refine ⟨fun A a => a, fun σ A ok v => ?_, fun σ A ok v => ?_⟩
  · obtain ⟨σ1, a, b⟩ := h.1 σ A.2.1 (v.ic ok) (by rw [v.1.1]; exact ok.2.1) v.2.1
    rw [v.1.1] at a
    exact ⟨σ1, a, v.q b, fun k j x => b k j (by omega)⟩
  · obtain ⟨σ1, a, b⟩ := h.2 σ A.2.1 (v.im ok) (by rw [v.1.1]; exact ok.2.1) v.2.1
    rw [v.1.1] at a
    exact ⟨σ1, a, Vm.q ok b v, fun k j x => b.1 k j (by omega) (by omega) (by omega)⟩
/-- a change of the page -/
def Upd (f g : St → Option (Int × St)) (r : Pg → Int) (t : Pg → Pg) : Prop := (∀ P, WF P → P 0 3 ≤ 999 → WF (t P) ∧ t P 0 3 ≤ 999 ∧ t P 0 0 = P 0 0) ∧ (∀ σ, Ic σ → ∃ σ', f σ = some (r (cv σ 1), σ') ∧ cv σ' 1 = t (cv σ 1) ∧ σ' 1 11 = 0 ∧ Qk σ σ') ∧ (∀ σ, Im σ → ∃ σ', g σ = some (r (mv σ 0), σ') ∧ mv σ' 0 = t (mv σ 0) ∧ Qp σ σ')
theorem OKA.p {A : Ab} (ok : OKA A) {P' : Pg} (wf : WF P') (hd : P' 0 3 ≤ 999) (h0 : P' 0 0 = A.1 0 0) : OKA (P', A.2) := by
  obtain ⟨-, b, c, d, e⟩ := ok
  refine ⟨⟨wf, hd⟩, ?_, ?_, d, e⟩
  · show SgOK P' A.2.1
    unfold SgOK
    rw [h0]
    exact b
  · show okI P' A.2.2.1 A.2.2.2.1
    unfold okI
    rw [h0]
    exact c
theorem Upd.op {f g : St → Option (Int × St)} {r : Pg → Int} {t : Pg → Pg} (h : Upd f g r t) : Op f g (fun A => r A.1) (fun A => (t A.1, A.2)) := by
  refine ⟨fun A ok => ?_, fun σ A ok v => ?_, fun σ A ok v => ?_⟩
  · obtain ⟨a, b, c⟩ := h.1 A.1 ok.1.1 ok.1.2
    exact ok.p a b c
  · obtain ⟨σ1, a, b, c, d⟩ := h.2.1 σ (v.ic ok)
    rw [v.1.1] at a b
    exact ⟨σ1, a, v.k d b c, fun k j x => d k j (by omega)⟩
  · obtain ⟨σ1, a, b, c⟩ := h.2.2 σ (v.im ok)
    rw [v.1.1] at a b
    exact ⟨σ1, a, Vm.p ok c v b, c.fm⟩
