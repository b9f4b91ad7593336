/-! ===== fields written by name; Math; arraycopy; the shapes by place ===== -/
def FU : Nat := 4000
def pf (σ : St) (k j : Nat) (x : Int) : Option St := some (up σ k j x)
def pz (σ : St) (k j : Nat) (x : Int) : Option St := if wr x = 0 ∨ wr x = 1 then some (up σ k j x) else none
def imx (x y : Int) : Int := if wr x < wr y then y else x
def imn (x y : Int) : Int := if wr y < wr x then y else x
def iab (x : Int) : Int := if 0 ≤ wr x then x else 0 - x
def cpf (σ : St) (a b n : Nat) : Option St := some (fun k j => if k = b ∧ j < n then σ a j else σ k j)
def CM (own : String) (idx : Nat) (y : MethodName) (cc : ByteArray) (n : Nat) : Prop := Cond.methodLink own idx y ∈ TB ∧ Cond.static y ∈ TB ∧ Cond.initialized "java/lang/Math" ∈ TB ∧ Cond.code y cc n (some .int) ∈ TB
def CY (own : String) (idx : Nat) : Prop := Cond.methodLink own idx arraycopyName ∈ TB ∧ Cond.native arraycopyName ∈ TB ∧ Cond.static arraycopyName ∈ TB ∧ Cond.initialized "java/lang/System" ∈ TB
def fitM (rm : Room) (n : Nat) : Bool := decide (1 ≤ rm.frames) && decide (n ≤ rm.locals)
theorem fitM_of {rm : Room} {n : Nat} (h : fitM rm n = true) : 1 ≤ rm.frames ∧ n ≤ rm.locals := by simpa [fitM] using h
theorem allTB {ws : List Cond} (h : ws.all (fun w => decide (w ∈ lw_tbl) && goodWord w) = true) : ∀ w ∈ ws, w ∈ TB := by
  intro w hw
  have h1 := List.all_eq_true.mp h w hw
  simp only [Bool.and_eq_true, decide_eq_true_eq] at h1
  exact mTB h1.1 h1.2
theorem fv_row {G : Gh} {σ σ' : St} {k : Nat} (h : σ' k = σ k) : ∀ (fl : List (Option Nat)) (j : Nat), fv G σ' k j fl = fv G σ k j fl := by
  intro fl
  induction fl with
  | nil => intro j; rfl
  | cons b fl ih => intro j; cases b <;> simp only [fv, ih, h]
theorem ent_row {G : Gh} {σ σ' : St} {k : Nat} (h : σ' k = σ k) : ent G σ' k = ent G σ k := by
  unfold ent
  cases tb k with
  | inl q => simp only [h]
  | inr q => simp only [fv_row h]
section SW5
variable {G : Gh} {l : Launch} {own : String} {cc : ByteArray} {nL : Nat} {rm : Room} {ρ : Type} {w : ρ → Option Value × St} {pc pc' : Nat} {L : List (Option Value)} {st : List Value} {σ : St} {o : Option ρ} {idx : Nat}
theorem sw_putI {k ci j : Nat} {x : Int} {fl : List (Option Nat)} {kf : St → Option ρ} (hd : decode cc pc = .ok (.putfield idx, 3)) (hF : FP own idx ci j .int) (ht : tb k = .inr (ci, fl)) (hj : fl[j]? = some none) (hp : pc' = pc + 3) (kk : ∀ τ, SW G l own cc nL rm w pc' L st τ (kf τ)) : SW G l own cc nL rm w pc L (vi x :: .ref (ad G k) :: st) σ (bV (pf σ k j x) kf) :=
  sw_puti hd hF ht hj hp (kk _)
theorem sw_putZ {k ci j : Nat} {x : Int} {fl : List (Option Nat)} {kf : St → Option ρ} (hd : decode cc pc = .ok (.putfield idx, 3)) (hF : FP own idx ci j .boolean) (ht : tb k = .inr (ci, fl)) (hj : fl[j]? = some none) (hp : pc' = pc + 3) (kk : ∀ τ, SW G l own cc nL rm w pc' L st τ (kf τ)) : SW G l own cc nL rm w pc L (vi x :: .ref (ad G k) :: st) σ (bV (pz σ k j x) kf) := by
  have h := sw_putz (σ := σ) (x := x) hd hF ht hj hp (kk (up σ k j x))
  have e : bV (pz σ k j x) kf = (if wr x = 0 ∨ wr x = 1 then kf (up σ k j x) else none) := by
    unfold pz
    by_cases hz : wr x = 0 ∨ wr x = 1
    · rw [if_pos hz, if_pos hz]; rfl
    · rw [if_neg hz, if_neg hz]; rfl
  rw [e]
  exact h
theorem sw_imx {x y : Int} (hd : decode cc pc = .ok (.invokestatic idx, 3)) (hc : CM own idx Lib.Math.max.name Lib.Math.max.code 2) (hp : pc' = pc + 3) (hM : fitM rm 21 = true) (h8 : cat8 st = true) (k : SW G l own cc nL rm w pc' L (vi (imx x y) :: st) σ o) : SW G l own cc nL rm w pc L (vi y :: vi x :: st) σ o := by
  subst hp
  intro r hr p e s m args below meth c H locs cells slots Q ls hC hW hl hcs hR
  have h := k r hr p e s m args below meth c H locs cells slots Q ls hC hW hl hcs hR
  have e : vi (imx x y) = .int (if Int32.ofInt x < Int32.ofInt y then Int32.ofInt y else Int32.ofInt x) := by
    unfold imx
    by_cases hx : wr x < wr y
    · rw [if_pos hx, if_pos ((i32_lt x y).mpr hx)]; rfl
    · rw [if_neg hx, if_neg (fun z => hx ((i32_lt x y).mp z))]; rfl
  rw [e] at h
  obtain ⟨f1, f2⟩ := fitM_of hM
  have h9 : (st.map fun v => v.category).sum ≤ 8 := of_decide_eq_true h8
  exact va_mmax hC.1.1 hC.1.2.1 (by rw [hC.1.2.2.1, hl.1]) hC.1.2.2.2.1 (hC.1.2.2.2.2 _ hc.1) (hC.1.2.2.2.2 _ hc.2.1) (hC.1.2.2.2.2 _ hc.2.2.1) (hC.1.2.2.2.2 _ hc.2.2.2) f1 (by omega) hcs.1 hcs.2 hd h
theorem sw_imn {x y : Int} (hd : decode cc pc = .ok (.invokestatic idx, 3)) (hc : CM own idx Lib.Math.min.name Lib.Math.min.code 2) (hp : pc' = pc + 3) (hM : fitM rm 21 = true) (h8 : cat8 st = true) (k : SW G l own cc nL rm w pc' L (vi (imn x y) :: st) σ o) : SW G l own cc nL rm w pc L (vi y :: vi x :: st) σ o := by
  subst hp
  intro r hr p e s m args below meth c H locs cells slots Q ls hC hW hl hcs hR
  have h := k r hr p e s m args below meth c H locs cells slots Q ls hC hW hl hcs hR
  have e : vi (imn x y) = .int (if Int32.ofInt y < Int32.ofInt x then Int32.ofInt y else Int32.ofInt x) := by
    unfold imn
    by_cases hx : wr y < wr x
    · rw [if_pos hx, if_pos ((i32_lt y x).mpr hx)]; rfl
    · rw [if_neg hx, if_neg (fun z => hx ((i32_lt y x).mp z))]; rfl
  rw [e] at h
  obtain ⟨f1, f2⟩ := fitM_of hM
  have h9 : (st.map fun v => v.category).sum ≤ 8 := of_decide_eq_true h8
  exact va_mmin hC.1.1 hC.1.2.1 (by rw [hC.1.2.2.1, hl.1]) hC.1.2.2.2.1 (hC.1.2.2.2.2 _ hc.1) (hC.1.2.2.2.2 _ hc.2.1) (hC.1.2.2.2.2 _ hc.2.2.1) (hC.1.2.2.2.2 _ hc.2.2.2) f1 (by omega) hcs.1 hcs.2 hd h
theorem sw_iab {x : Int} (hd : decode cc pc = .ok (.invokestatic idx, 3)) (hc : CM own idx Lib.Math.abs.name Lib.Math.abs.code 1) (hp : pc' = pc + 3) (hM : fitM rm 21 = true) (h8 : cat8 st = true) (k : SW G l own cc nL rm w pc' L (vi (iab x) :: st) σ o) : SW G l own cc nL rm w pc L (vi x :: st) σ o := by
  subst hp
  intro r hr p e s m args below meth c H locs cells slots Q ls hC hW hl hcs hR
  have h := k r hr p e s m args below meth c H locs cells slots Q ls hC hW hl hcs hR
  have e : vi (iab x) = .int (if 0 ≤ Int32.ofInt x then Int32.ofInt x else 0 - Int32.ofInt x) := by
    unfold iab
    by_cases hx : 0 ≤ wr x
    · rw [if_pos hx, if_pos ((i32_ge0 x).mpr hx)]; rfl
    · rw [if_neg hx, if_neg (fun z => hx ((i32_ge0 x).mp z))]
      unfold vi
      rw [Int32.ofInt_sub]
      rfl
  rw [e] at h
  obtain ⟨f1, f2⟩ := fitM_of hM
  have h9 : (st.map fun v => v.category).sum ≤ 8 := of_decide_eq_true h8
  exact va_mabs hC.1.1 hC.1.2.1 (by rw [hC.1.2.2.1, hl.1]) hC.1.2.2.2.1 (hC.1.2.2.2.2 _ hc.1) (hC.1.2.2.2.2 _ hc.2.1) (hC.1.2.2.2.2 _ hc.2.2.1) (hC.1.2.2.2.2 _ hc.2.2.2) f1 (by omega) hcs.1 hcs.2 hd h
theorem i32_clamp {n : Nat} (h : n < 2147483648) : (Int32.ofInt (n : Int)).toNatClampNeg = n := by
  show ((Int32.ofInt (n : Int)).toInt).toNat = n
  have : wr (n : Int) = (n : Int) := wr_of (by omega) (by omega)
  unfold wr at this
  rw [this]
  omega
theorem sw_acpy {a b n : Nat} {x : Int} {kf : St → Option ρ} (hd : decode cc pc = .ok (.invokestatic idx, 3)) (hc : CY own idx) (ha : tb a = .inl (0, n)) (hb : tb b = .inl (0, n)) (hx : x = (n : Int)) (hn : decide (n < 2147483648) = true) (hM : fitM rm 26 = true) (h8 : cat8 st = true) (hp : pc' = pc + 3) (kk : ∀ τ, SW G l own cc nL rm w pc' L st τ (kf τ)) : SW G l own cc nL rm w pc L (vi x :: vi 0 :: .ref (ad G b) :: vi 0 :: .ref (ad G a) :: st) σ (bV (cpf σ a b n) kf) := by
  subst hp
  subst hx
  intro r hr p e s m args below meth c H locs cells slots Q ls hC hW hl hcs hR
  obtain ⟨f1, f2⟩ := fitM_of hM
  have h9 : (st.map fun v => v.category).sum ≤ 8 := of_decide_eq_true h8
  have hn' : n < 2147483648 := of_decide_eq_true hn
  have ec := i32_clamp hn'
  have e0 : (Int32.ofInt 0).toNatClampNeg = 0 := by decide
  have hnn : ¬ Int32.ofInt (n : Int) < 0 := by
    rw [i32_lt0, wr_of (by omega) (by omega)]
    omega
  refine va_copyi hC.1.1 hC.1.2.1 (by rw [hC.1.2.2.1, hl.1]) hC.1.2.2.2.1 (hC.1.2.2.2.2 _ hc.1) (hC.1.2.2.2.2 _ hc.2.1) (hC.1.2.2.2.2 _ hc.2.2.1) (hC.1.2.2.2.2 _ hc.2.2.2) hC.2.1 hW.1 (hC.2.D σ) hW.2 a b 0 0 (wd_garr ha) (wd_garr hb) rfl rfl rfl (by decide) (by decide) hnn (by rw [ec, e0]; omega) (by rw [ec, e0]; omega) (fun i _ => rfl) f1 (by show _ + (7 + 11) ≤ _; omega) hd (fun H1 locs1 hP _ hS => ?_)
  rw [wd_set (G := G) (σ' := fun k j => if k = b ∧ j < n then σ a j else σ k j) (tb_lt hb) ?_ (fun i hi => ent_row ?_)] at hP
  · exact kk _ r hr p e s m args below meth c H1 locs1 cells slots Q ls hC ⟨hP, hS⟩ hl hcs hR
  · rw [ent_arr hb, ec, e0]
    congr 4
    funext j
    unfold va_cpy
    by_cases hj : j < n
    · simp [hj]
    · simp [hj]
  · funext j
    simp [hi]
/-- a cell that was answered is one of the four squares -/
def sqc (v : Nat) : Option Unit := if v = 1 ∨ v = 11 ∨ v = 21 ∨ v = 31 then some () else none
theorem sw_sqc {v : Nat} {kf : Unit → Option ρ} (kk : isSq v → SW G l own cc nL rm w pc L st σ (kf ())) : SW G l own cc nL rm w pc L st σ (bV (sqc v) kf) := by
  unfold sqc
  by_cases h : v = 1 ∨ v = 11 ∨ v = 21 ∨ v = 31
  · rw [if_pos h]; exact kk h
  · rw [if_neg h]; exact sw_none
end SW5
theorem tbk_0 : tb 0 = .inr (4, [some 1, some 11, some 21, some 31, some 41, some 43, some 47, none, none, none]) := rfl
theorem tbk_1 : tb 1 = .inr (2, sqF 1) := rfl
theorem tbk_2 : tb 2 = .inl (0, 5) := rfl
theorem tbk_3 : tb 3 = .inl (0, 5) := rfl
theorem tbk_4 : tb 4 = .inl (0, 5) := rfl
theorem tbk_5 : tb 5 = .inl (0, 4) := rfl
theorem tbk_6 : tb 6 = .inl (0, 8) := rfl
theorem tbk_7 : tb 7 = .inl (0, 8) := rfl
theorem tbk_8 : tb 8 = .inl (0, 8) := rfl
theorem tbk_9 : tb 9 = .inl (0, 8) := rfl
theorem tbk_10 : tb 10 = .inl (0, 4) := rfl
theorem tbk_11 : tb 11 = .inr (2, sqF 11) := rfl
theorem tbk_12 : tb 12 = .inl (0, 5) := rfl
theorem tbk_13 : tb 13 = .inl (0, 5) := rfl
theorem tbk_14 : tb 14 = .inl (0, 5) := rfl
theorem tbk_15 : tb 15 = .inl (0, 4) := rfl
theorem tbk_16 : tb 16 = .inl (0, 8) := rfl
theorem tbk_17 : tb 17 = .inl (0, 8) := rfl
theorem tbk_18 : tb 18 = .inl (0, 8) := rfl
theorem tbk_19 : tb 19 = .inl (0, 8) := rfl
theorem tbk_20 : tb 20 = .inl (0, 4) := rfl
theorem tbk_21 : tb 21 = .inr (2, sqF 21) := rfl
theorem tbk_22 : tb 22 = .inl (0, 5) := rfl
theorem tbk_23 : tb 23 = .inl (0, 5) := rfl
theorem tbk_24 : tb 24 = .inl (0, 5) := rfl
theorem tbk_25 : tb 25 = .inl (0, 4) := rfl
theorem tbk_26 : tb 26 = .inl (0, 8) := rfl
theorem tbk_27 : tb 27 = .inl (0, 8) := rfl
theorem tbk_28 : tb 28 = .inl (0, 8) := rfl
theorem tbk_29 : tb 29 = .inl (0, 8) := rfl
theorem tbk_30 : tb 30 = .inl (0, 4) := rfl
theorem tbk_31 : tb 31 = .inr (2, sqF 31) := rfl
theorem tbk_32 : tb 32 = .inl (0, 5) := rfl
theorem tbk_33 : tb 33 = .inl (0, 5) := rfl
theorem tbk_34 : tb 34 = .inl (0, 5) := rfl
theorem tbk_35 : tb 35 = .inl (0, 4) := rfl
theorem tbk_36 : tb 36 = .inl (0, 8) := rfl
theorem tbk_37 : tb 37 = .inl (0, 8) := rfl
theorem tbk_38 : tb 38 = .inl (0, 8) := rfl
theorem tbk_39 : tb 39 = .inl (0, 8) := rfl
theorem tbk_40 : tb 40 = .inl (0, 4) := rfl
theorem tbk_41 : tb 41 = .inr (3, [some 42, none, none, none, none, none, none, none, none, none]) := rfl
theorem tbk_42 : tb 42 = .inl (1, 160) := rfl
theorem tbk_43 : tb 43 = .inr (1, [none, some 44, some 45, some 46]) := rfl
theorem tbk_44 : tb 44 = .inl (0, 6) := rfl
theorem tbk_45 : tb 45 = .inl (0, 6) := rfl
theorem tbk_46 : tb 46 = .inl (0, 6) := rfl
theorem tbk_47 : tb 47 = .inr (0, [some 48, some 49, some 50]) := rfl
theorem tbk_48 : tb 48 = .inl (0, 4) := rfl
theorem tbk_49 : tb 49 = .inl (0, 4) := rfl
theorem tbk_50 : tb 50 = .inl (0, 160) := rfl
theorem tbk_51 : tb 51 = .inr (5, [some 52, none, some 53, none, none, none, none, some 54, none, none, none, none, none, none, none, none, some 55, some 56, none, none, none, none, some 57, none, some 58, some 59, some 60, some 61, some 62, none]) := rfl
theorem tbk_52 : tb 52 = .inl (0, 330) := rfl
theorem tbk_53 : tb 53 = .inl (0, 55) := rfl
theorem tbk_54 : tb 54 = .inl (0, 160) := rfl
theorem tbk_55 : tb 55 = .inl (0, 8) := rfl
theorem tbk_56 : tb 56 = .inl (0, 36) := rfl
theorem tbk_57 : tb 57 = .inl (0, 18) := rfl
theorem tbk_58 : tb 58 = .inl (0, 1680) := rfl
theorem tbk_59 : tb 59 = .inl (2, 2) := rfl
theorem tbk_60 : tb 60 = .inl (0, 4) := rfl
theorem tbk_61 : tb 61 = .inl (0, 4) := rfl
theorem tbk_62 : tb 62 = .inl (0, 160) := rfl
theorem sqo {q : Nat} (h : isSq q) : tb q = .inr (2, sqF q) := by rcases h with rfl | rfl | rfl | rfl <;> rfl
theorem sqa1 {q : Nat} (h : isSq q) : tb (q + 1) = .inl (0, 5) := by rcases h with rfl | rfl | rfl | rfl <;> rfl
theorem sqa2 {q : Nat} (h : isSq q) : tb (q + 2) = .inl (0, 5) := by rcases h with rfl | rfl | rfl | rfl <;> rfl
theorem sqa3 {q : Nat} (h : isSq q) : tb (q + 3) = .inl (0, 5) := by rcases h with rfl | rfl | rfl | rfl <;> rfl
theorem sqa4 {q : Nat} (h : isSq q) : tb (q + 4) = .inl (0, 4) := by rcases h with rfl | rfl | rfl | rfl <;> rfl
theorem sqa5 {q : Nat} (h : isSq q) : tb (q + 5) = .inl (0, 8) := by rcases h with rfl | rfl | rfl | rfl <;> rfl
theorem sqa6 {q : Nat} (h : isSq q) : tb (q + 6) = .inl (0, 8) := by rcases h with rfl | rfl | rfl | rfl <;> rfl
theorem sqa7 {q : Nat} (h : isSq q) : tb (q + 7) = .inl (0, 8) := by rcases h with rfl | rfl | rfl | rfl <;> rfl
theorem sqa8 {q : Nat} (h : isSq q) : tb (q + 8) = .inl (0, 8) := by rcases h with rfl | rfl | rfl | rfl <;> rfl
theorem sqa9 {q : Nat} (h : isSq q) : tb (q + 9) = .inl (0, 4) := by rcases h with rfl | rfl | rfl | rfl <;> rfl
theorem isSq_1 : isSq 1 := Or.inl rfl
theorem isSq_11 : isSq 11 := Or.inr (Or.inl rfl)
theorem isSq_21 : isSq 21 := Or.inr (Or.inr (Or.inl rfl))
theorem isSq_31 : isSq 31 := Or.inr (Or.inr (Or.inr rfl))
theorem inT0 : ∀ w ∈ u_ws RX0 TX0 3, w ∈ TB := allTB (by decide +kernel)
theorem inT1 : ∀ w ∈ u_ws RX1 TX1 4, w ∈ TB := allTB (by decide +kernel)
theorem inT2 : ∀ w ∈ u_ws RX2 TX2 15, w ∈ TB := allTB (by decide +kernel)
theorem inT3 : ∀ w ∈ u_ws RX3 TX3 10, w ∈ TB := allTB (by decide +kernel)
theorem inT4 : ∀ w ∈ u_ws RX4 TX4 10, w ∈ TB := allTB (by decide +kernel)
theorem inT5 : ∀ w ∈ u_ws RX5 TX5 30, w ∈ TB := allTB (by decide +kernel)
