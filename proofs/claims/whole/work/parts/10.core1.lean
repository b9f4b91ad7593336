/-! ===== numbers: an Int stands for its Int32 (vi) or Int64 (vl); wr, wl bring it into the range ===== -/
abbrev St : Type := Nat → Nat → Int
def vi (x : Int) : Value := .int (Int32.ofInt x)
def vl (x : Int) : Value := .long (Int64.ofInt x)
def wr (x : Int) : Int := (Int32.ofInt x).toInt
def wl (x : Int) : Int := (Int64.ofInt x).toInt
theorem wr_of {x : Int} (h1 : -2147483648 ≤ x) (h2 : x ≤ 2147483647) : wr x = x := by
  unfold wr
  rw [Int32.toInt_ofInt]
  show Int.bmod x 4294967296 = x
  exact Int.bmod_eq_of_le (by omega) (by omega)
theorem wl_of {x : Int} (h1 : -9223372036854775808 ≤ x) (h2 : x ≤ 9223372036854775807) : wl x = x := by
  unfold wl
  rw [Int64.toInt_ofInt]
  show Int.bmod x 18446744073709551616 = x
  exact Int.bmod_eq_of_le (by omega) (by omega)
theorem wr_ge (x : Int) : -2147483648 ≤ wr x := Int32.le_toInt _
theorem wr_le (x : Int) : wr x ≤ 2147483647 := by have := Int32.toInt_lt (Int32.ofInt x); unfold wr; omega
theorem wr_wr (x : Int) : wr (wr x) = wr x := wr_of (wr_ge x) (wr_le x)
theorem vi_wr (x : Int) : vi (wr x) = vi x := by unfold vi wr; rw [Int32.ofInt_toInt]
theorem vi_toInt (X : Int32) : vi X.toInt = .int X := by unfold vi; rw [Int32.ofInt_toInt]
theorem vl_toInt (X : Int64) : vl X.toInt = .long X := by unfold vl; rw [Int64.ofInt_toInt]
def iad (x y : Int) : Int := (Int32.ofInt x &&& Int32.ofInt y).toInt
def iod (x y : Int) : Int := (Int32.ofInt x ||| Int32.ofInt y).toInt
def ixd (x y : Int) : Int := (Int32.ofInt x ^^^ Int32.ofInt y).toInt
def isl (x y : Int) : Int := (Int32.ofInt x <<< (Int32.ofInt y &&& 31)).toInt
def isr (x y : Int) : Int := (Int32.ofInt x >>> (Int32.ofInt y &&& 31)).toInt
def ius (x y : Int) : Int := ((Int32.ofInt x).toUInt32 >>> ((Int32.ofInt y).toUInt32 &&& Int32.toUInt32 31)).toInt32.toInt
def nby (x : Int) : Int := (Int32.ofInt x).toInt8.toInt32.toInt
def nsh (x : Int) : Int := (Int32.ofInt x).toInt16.toInt32.toInt
def nch (x : Int) : Int := ((Int32.ofInt x).toUInt32 % 65536).toInt32.toInt
def nab (x : Int) : Int := (vp_nar .byte (Int32.ofInt x)).toInt
def naz (x : Int) : Int := (vp_nar .boolean (Int32.ofInt x)).toInt
def idv (x y : Int) : Option Int := if wr y = 0 then none else some (Int32.ofInt x / Int32.ofInt y).toInt
def irm (x y : Int) : Option Int := if wr y = 0 then none else some (Int32.ofInt x - Int32.ofInt x / Int32.ofInt y * Int32.ofInt y).toInt
def ldv (x y : Int) : Option Int := if wl y = 0 then none else some (Int64.ofInt x / Int64.ofInt y).toInt
def lrm (x y : Int) : Option Int := if wl y = 0 then none else some (Int64.ofInt x - Int64.ofInt x / Int64.ofInt y * Int64.ofInt y).toInt
def lcm (x y : Int) : Int := if wl y < wl x then 1 else if wl x = wl y then 0 else -1
def bi (b : Bool) : Int := if b then 1 else 0
def ld (σ : St) (a n : Nat) (i : Int) : Option Int := if 0 ≤ wr i ∧ wr i < n then some (σ a (wr i).toNat) else none
def up (σ : St) (a j : Nat) (v : Int) : St := fun b i => if b = a ∧ i = j then v else σ b i
def sv (σ : St) (a n : Nat) (i v : Int) : Option St := if 0 ≤ wr i ∧ wr i < n then some (up σ a (wr i).toNat v) else none
def bI {α ρ : Type} (o : Option (α × St)) (k : α → St → Option ρ) : Option ρ := match o with
  | some (a, s) => k a s
  | none => none
def bV {α ρ : Type} (o : Option α) (k : α → Option ρ) : Option ρ := match o with
  | some a => k a
  | none => none
/-! ===== the shape of the 63 cells: rows (kind of number, length), objects (class, fields: none a number, some t the cell t) ===== -/
def sqF (q : Nat) : List (Option Nat) := [none, some (q + 1), some (q + 2), some (q + 3), none, some (q + 4), none, some (q + 5), some (q + 6), some (q + 7), some (q + 8), none, none, none, some (q + 9)]
abbrev Shp : Type := (Nat × Nat) ⊕ (Nat × List (Option Nat))
def sqT (q : Nat) : List Shp := [.inr (2, sqF q), .inl (0, 5), .inl (0, 5), .inl (0, 5), .inl (0, 4), .inl (0, 8), .inl (0, 8), .inl (0, 8), .inl (0, 8), .inl (0, 4)]
def tbL : List Shp := [.inr (4, [some 1, some 11, some 21, some 31, some 41, some 43, some 47, none, none, none])] ++ sqT 1 ++ sqT 11 ++ sqT 21 ++ sqT 31 ++
  [.inr (3, [some 42, none, none, none, none, none, none, none, none, none]), .inl (1, 160), .inr (1, [none, some 44, some 45, some 46]), .inl (0, 6), .inl (0, 6), .inl (0, 6), .inr (0, [some 48, some 49, some 50]), .inl (0, 4), .inl (0, 4), .inl (0, 160),
   .inr (5, [some 52, none, some 53, none, none, none, none, some 54, none, none, none, none, none, none, none, none, some 55, some 56, none, none, none, none, some 57, none, some 58, some 59, some 60, some 61, some 62, none]),
   .inl (0, 330), .inl (0, 55), .inl (0, 160), .inl (0, 8), .inl (0, 36), .inl (0, 18), .inl (0, 1680), .inl (2, 2), .inl (0, 4), .inl (0, 4), .inl (0, 160)]
def tb (k : Nat) : Shp := tbL.getD k (.inr (99, []))
def isSq (q : Nat) : Prop := q = 1 ∨ q = 11 ∨ q = 21 ∨ q = 31
/-- the ghosts: where the cells lie; the classes and their slots; the classes of int[], byte[], boolean[]; where the seven words lie, and their bytes -/
abbrev Gh : Type := (Nat → Nat) × va_G × (ClassId × ClassId × ClassId) × (Nat → Nat) × (Nat → Nat)
def ad (G : Gh) (k : Nat) : Nat := G.1 k
def gD (G : Gh) : va_G := G.2.1
def gC (G : Gh) (t : Nat) : ClassId := match t with
  | 0 => G.2.2.1.1
  | 1 => G.2.2.1.2.1
  | _ => G.2.2.1.2.2
def tyN (t : Nat) : FieldType := match t with
  | 0 => .int
  | 1 => .byte
  | _ => .boolean
def gT (G : Gh) : List (ClassId × FieldType) := [(gC G 0, .int), (gC G 1, .byte), (gC G 2, .boolean)]
def AD (G : Gh) (q : Nat) : Prop := ∃ k, k < 63 ∧ q = ad G k
def fv (G : Gh) (σ : St) (k : Nat) : Nat → List (Option Nat) → List Value
  | _, [] => []
  | j, none :: fl => vi (σ k j) :: fv G σ k (j + 1) fl
  | j, some t :: fl => .ref (ad G t) :: fv G σ k (j + 1) fl
def ent (G : Gh) (σ : St) (k : Nat) : va_E := match tb k with
  | .inl (t, n) => .inl (gC G t, n, .inl (fun j => Int32.ofInt (σ k j)))
  | .inr (ci, fl) => .inr (ci, fv G σ k 0 fl)
def wd (G : Gh) (σ : St) : va_W := (List.range 63).map (fun k => (ad G k, ent G σ k))
theorem wd_get (G : Gh) (σ : St) {k : Nat} (h : k < 63) : (wd G σ)[k]? = some (ad G k, ent G σ k) := by
  unfold wd
  rw [List.getElem?_map, List.getElem?_range h]
  rfl
theorem tb_lt {k t n : Nat} (h : tb k = .inl (t, n)) : k < 63 := by
  rcases Nat.lt_or_ge k 63 with q | q
  · exact q
  · have h1 : tbL.length = 63 := rfl
    unfold tb at h
    rw [List.getD_eq_getElem?_getD, List.getElem?_eq_none (by omega)] at h
    cases h
theorem tb_lt' {k ci : Nat} {fl : List (Option Nat)} (h : tb k = .inr (ci, fl)) (hc : ci < 6) : k < 63 := by
  rcases Nat.lt_or_ge k 63 with q | q
  · exact q
  · have h1 : tbL.length = 63 := rfl
    unfold tb at h
    rw [List.getD_eq_getElem?_getD, List.getElem?_eq_none (by omega)] at h
    cases h
    omega
theorem fv_num (G : Gh) (σ : St) (k : Nat) : ∀ (fl : List (Option Nat)) (j0 j : Nat), fl[j]? = some none → (fv G σ k j0 fl)[j]? = some (vi (σ k (j0 + j))) := by
  intro fl
  induction fl with
  | nil => intro j0 j h; simp at h
  | cons a fl ih =>
    intro j0 j h
    cases j with
    | zero =>
      simp at h
      subst h
      rfl
    | succ j =>
      simp at h
      have h2 := ih (j0 + 1) j h
      have e : j0 + 1 + j = j0 + (j + 1) := by omega
      rw [e] at h2
      cases a <;> simpa [fv] using h2
theorem fv_ref (G : Gh) (σ : St) (k : Nat) {t : Nat} : ∀ (fl : List (Option Nat)) (j0 j : Nat), fl[j]? = some (some t) → (fv G σ k j0 fl)[j]? = some (.ref (ad G t)) := by
  intro fl
  induction fl with
  | nil => intro j0 j h; simp at h
  | cons a fl ih =>
    intro j0 j h
    cases j with
    | zero =>
      simp at h
      subst h
      rfl
    | succ j =>
      simp at h
      have h2 := ih (j0 + 1) j h
      cases a <;> simpa [fv] using h2
theorem fv_len (G : Gh) (σ : St) (k : Nat) : ∀ (fl : List (Option Nat)) (j0 : Nat), (fv G σ k j0 fl).length = fl.length := by
  intro fl
  induction fl with
  | nil => intro j0; rfl
  | cons a fl ih => intro j0; cases a <;> simp [fv, ih]
theorem fv_out (G : Gh) (σ : St) (k a i : Nat) (v : Int) : ∀ (fl : List (Option Nat)) (j0 : Nat), (k ≠ a ∨ i < j0) → fv G (up σ a i v) k j0 fl = fv G σ k j0 fl := by
  intro fl
  induction fl with
  | nil => intro j0 _; rfl
  | cons b fl ih =>
    intro j0 h
    cases b with
    | none =>
      simp only [fv]
      rw [ih (j0 + 1) (by omega)]
      have e : up σ a i v k j0 = σ k j0 := by unfold up; rw [if_neg (by omega)]
      rw [e]
    | some t =>
      simp only [fv]
      rw [ih (j0 + 1) (by omega)]
theorem fv_set (G : Gh) (σ : St) (k : Nat) (v : Int) : ∀ (fl : List (Option Nat)) (j0 j : Nat), fl[j]? = some none → (fv G σ k j0 fl).set j (vi v) = fv G (up σ k (j0 + j) v) k j0 fl := by
  intro fl
  induction fl with
  | nil => intro j0 j h; simp at h
  | cons b fl ih =>
    intro j0 j h
    cases j with
    | zero =>
      simp at h
      subst h
      simp only [fv, List.set]
      rw [fv_out G σ k k (j0 + 0) v fl (j0 + 1) (by omega)]
      have e : up σ k (j0 + 0) v k j0 = v := by unfold up; simp
      rw [e]
    | succ j =>
      simp at h
      have h2 := ih (j0 + 1) j h
      have e : j0 + 1 + j = j0 + (j + 1) := by omega
      rw [e] at h2
      cases b with
      | none =>
        simp only [fv, List.set]
        rw [h2]
        have e : up σ k (j0 + (j + 1)) v k j0 = σ k j0 := by unfold up; rw [if_neg (by omega)]
        rw [e]
      | some t =>
        simp only [fv, List.set]
        rw [h2]
theorem wd_set {G : Gh} {σ σ' : St} {k : Nat} {x : va_E} (hk : k < 63) (hx : x = ent G σ' k) (ho : ∀ i, i ≠ k → ent G σ' i = ent G σ i) : (wd G σ).set k (ad G k, x) = wd G σ' := by
  subst hx
  apply List.ext_getElem?
  intro i
  rw [List.getElem?_set]
  by_cases hi : k = i
  · subst hi
    rw [if_pos rfl, wd_get G σ' hk]
    simp [wd, hk]
  · rw [if_neg hi]
    unfold wd
    rw [List.getElem?_map, List.getElem?_map]
    cases hr : (List.range 63)[i]? with
    | none => rfl
    | some y =>
      have hy : y = i := by
        have := List.getElem?_eq_some_iff.mp hr
        obtain ⟨h1, h2⟩ := this
        simp at h2
        omega
      subst hy
      simp [ho y (fun e => hi e.symm)]
theorem ent_out {G : Gh} {σ : St} {k j : Nat} {v : Int} : ∀ i, i ≠ k → ent G (up σ k j v) i = ent G σ i := by
  intro i hi
  unfold ent
  cases tb i with
  | inl q =>
    have e : (fun j_1 => Int32.ofInt (up σ k j v i j_1)) = (fun j => Int32.ofInt (σ i j)) := by
      funext z
      unfold up
      rw [if_neg (by omega)]
    show Sum.inl (gC G q.1, q.2, Sum.inl (fun j_1 => Int32.ofInt (up σ k j v i j_1))) = _
    rw [e]
  | inr q =>
    show Sum.inr (q.1, fv G (up σ k j v) i 0 q.2) = _
    rw [fv_out G σ i k j v q.2 0 (by omega)]
theorem ent_arr {G : Gh} {σ : St} {k t n : Nat} (h : tb k = .inl (t, n)) : ent G σ k = .inl (gC G t, n, .inl (fun j => Int32.ofInt (σ k j))) := by
  unfold ent
  rw [h]
theorem ent_obj {G : Gh} {σ : St} {k ci : Nat} {fl : List (Option Nat)} (h : tb k = .inr (ci, fl)) : ent G σ k = .inr (ci, fv G σ k 0 fl) := by
  unfold ent
  rw [h]
theorem wd_arr {G : Gh} {σ : St} {k t n j : Nat} {v : Int} {X : Int32} (h : tb k = .inl (t, n)) (hX : X = Int32.ofInt v) : (wd G σ).set k (ad G k, .inl (gC G t, n, .inl (upd (fun j => Int32.ofInt (σ k j)) j X))) = wd G (up σ k j v) := by
  refine wd_set (tb_lt h) ?_ ent_out
  rw [ent_arr h, hX]
  congr 4
  funext z
  unfold upd up
  by_cases hz : z = j <;> simp [hz]
theorem wd_fld {G : Gh} {σ : St} {k ci j : Nat} {fl : List (Option Nat)} {v : Int} (h : tb k = .inr (ci, fl)) (hc : ci < 6) (hj : fl[j]? = some none) : (wd G σ).set k (ad G k, .inr (ci, (fv G σ k 0 fl).set j (vi v))) = wd G (up σ k j v) := by
  refine wd_set (tb_lt' h hc) ?_ ent_out
  rw [ent_obj h, fv_set G σ k v fl 0 j hj]
  simp
