/-! ===== branches, rows, fields, calls, ends ===== -/
section SWB
variable {G : Gh} {l : Launch} {own : String} {cc : ByteArray} {nL : Nat} {rm : Room} {ρ : Type} {w : ρ → Option Value × St} {pc pc' tgt : Nat} {L : List (Option Value)} {st : List Value} {σ : St} {o a b : Option ρ}
theorem i32_lt (x y : Int) : Int32.ofInt x < Int32.ofInt y ↔ wr x < wr y := Int32.lt_iff_toInt_lt
theorem i32_le (x y : Int) : Int32.ofInt x ≤ Int32.ofInt y ↔ wr x ≤ wr y := Int32.le_iff_toInt_le
theorem i32_eq (x y : Int) : Int32.ofInt x = Int32.ofInt y ↔ wr x = wr y := Int32.toInt_inj.symm
theorem i32_lt0 (x : Int) : Int32.ofInt x < 0 ↔ wr x < 0 := Int32.lt_iff_toInt_lt
theorem i32_le0 (x : Int) : Int32.ofInt x ≤ 0 ↔ wr x ≤ 0 := Int32.le_iff_toInt_le
theorem i32_ge0 (x : Int) : 0 ≤ Int32.ofInt x ↔ 0 ≤ wr x := Int32.le_iff_toInt_le
theorem i32_gt0 (x : Int) : 0 < Int32.ofInt x ↔ 0 < wr x := Int32.lt_iff_toInt_lt
theorem i32_eq0 (x : Int) : Int32.ofInt x = 0 ↔ wr x = 0 := Int32.toInt_inj.symm
theorem sw_case {P : Prop} [Decidable P] (ka : P → SW G l own cc nL rm w pc L st σ a) (kb : ¬ P → SW G l own cc nL rm w pc L st σ b) : SW G l own cc nL rm w pc L st σ (if P then a else b) := by
  by_cases h : P
  · rw [if_pos h]; exact ka h
  · rw [if_neg h]; exact kb h
theorem sw_icmp_lt {x y : Int} {off : Int} (hd : decode cc pc = .ok (.if_icmp .lt off, 3)) (ht : (pc : Int) + off = (tgt : Int)) (hp : pc' = pc + 3) (kt : wr x < wr y → SW G l own cc nL rm w tgt L st σ a) (kf : ¬ (wr x < wr y) → SW G l own cc nL rm w pc' L st σ b) : SW G l own cc nL rm w pc L (vi y :: vi x :: st) σ (if wr x < wr y then a else b) := by
  subst hp
  intro r hr p e s m args below meth c H locs cells slots Q ls hC hW hl hcs hR
  refine lv_icmp_lt hC.1.1 hC.1.2.1 hd ht (fun h => ?_) (fun h => ?_)
  · have h1 : wr x < wr y := (i32_lt x y).mp h
    rw [if_pos h1] at hr
    exact kt h1 r hr p e s m args below meth c H locs cells slots Q ls hC hW hl hcs hR
  · have h1 : ¬ (wr x < wr y) := fun e => h ((i32_lt x y).mpr e)
    rw [if_neg h1] at hr
    exact kf h1 r hr p e s m args below meth c H locs cells slots Q ls hC hW hl hcs hR
theorem sw_icmp_gt {x y : Int} {off : Int} (hd : decode cc pc = .ok (.if_icmp .gt off, 3)) (ht : (pc : Int) + off = (tgt : Int)) (hp : pc' = pc + 3) (kt : wr y < wr x → SW G l own cc nL rm w tgt L st σ a) (kf : ¬ (wr y < wr x) → SW G l own cc nL rm w pc' L st σ b) : SW G l own cc nL rm w pc L (vi y :: vi x :: st) σ (if wr y < wr x then a else b) := by
  subst hp
  intro r hr p e s m args below meth c H locs cells slots Q ls hC hW hl hcs hR
  refine lv_icmp_gt hC.1.1 hC.1.2.1 hd ht (fun h => ?_) (fun h => ?_)
  · have h1 : wr y < wr x := (i32_lt y x).mp h
    rw [if_pos h1] at hr
    exact kt h1 r hr p e s m args below meth c H locs cells slots Q ls hC hW hl hcs hR
  · have h1 : ¬ (wr y < wr x) := fun e => h ((i32_lt y x).mpr e)
    rw [if_neg h1] at hr
    exact kf h1 r hr p e s m args below meth c H locs cells slots Q ls hC hW hl hcs hR
theorem sw_icmp_eq {x y : Int} {off : Int} (hd : decode cc pc = .ok (.if_icmp .eq off, 3)) (ht : (pc : Int) + off = (tgt : Int)) (hp : pc' = pc + 3) (kt : wr x = wr y → SW G l own cc nL rm w tgt L st σ a) (kf : ¬ (wr x = wr y) → SW G l own cc nL rm w pc' L st σ b) : SW G l own cc nL rm w pc L (vi y :: vi x :: st) σ (if wr x = wr y then a else b) := by
  subst hp
  intro r hr p e s m args below meth c H locs cells slots Q ls hC hW hl hcs hR
  refine lv_icmp_eq hC.1.1 hC.1.2.1 hd ht (fun h => ?_) (fun h => ?_)
  · have h1 : wr x = wr y := (i32_eq x y).mp h
    rw [if_pos h1] at hr
    exact kt h1 r hr p e s m args below meth c H locs cells slots Q ls hC hW hl hcs hR
  · have h1 : ¬ (wr x = wr y) := fun e => h ((i32_eq x y).mpr e)
    rw [if_neg h1] at hr
    exact kf h1 r hr p e s m args below meth c H locs cells slots Q ls hC hW hl hcs hR
theorem sw_icmp_ge {x y : Int} {off : Int} (hd : decode cc pc = .ok (.if_icmp .ge off, 3)) (ht : (pc : Int) + off = (tgt : Int)) (hp : pc' = pc + 3) (kf : wr x < wr y → SW G l own cc nL rm w pc' L st σ a) (kt : ¬ (wr x < wr y) → SW G l own cc nL rm w tgt L st σ b) : SW G l own cc nL rm w pc L (vi y :: vi x :: st) σ (if wr x < wr y then a else b) := by
  subst hp
  intro r hr p e s m args below meth c H locs cells slots Q ls hC hW hl hcs hR
  refine lv_icmp_ge hC.1.1 hC.1.2.1 hd ht (fun h => ?_) (fun h => ?_)
  · have h1 : ¬ (wr x < wr y) := by have := (i32_le y x).mp h; omega
    rw [if_neg h1] at hr
    exact kt h1 r hr p e s m args below meth c H locs cells slots Q ls hC hW hl hcs hR
  · have h1 : wr x < wr y := by have : ¬ wr y ≤ wr x := fun e => h ((i32_le y x).mpr e); omega
    rw [if_pos h1] at hr
    exact kf h1 r hr p e s m args below meth c H locs cells slots Q ls hC hW hl hcs hR
theorem sw_icmp_le {x y : Int} {off : Int} (hd : decode cc pc = .ok (.if_icmp .le off, 3)) (ht : (pc : Int) + off = (tgt : Int)) (hp : pc' = pc + 3) (kf : wr y < wr x → SW G l own cc nL rm w pc' L st σ a) (kt : ¬ (wr y < wr x) → SW G l own cc nL rm w tgt L st σ b) : SW G l own cc nL rm w pc L (vi y :: vi x :: st) σ (if wr y < wr x then a else b) := by
  subst hp
  intro r hr p e s m args below meth c H locs cells slots Q ls hC hW hl hcs hR
  refine lv_icmp_le hC.1.1 hC.1.2.1 hd ht (fun h => ?_) (fun h => ?_)
  · have h1 : ¬ (wr y < wr x) := by have := (i32_le x y).mp h; omega
    rw [if_neg h1] at hr
    exact kt h1 r hr p e s m args below meth c H locs cells slots Q ls hC hW hl hcs hR
  · have h1 : wr y < wr x := by have : ¬ wr x ≤ wr y := fun e => h ((i32_le x y).mpr e); omega
    rw [if_pos h1] at hr
    exact kf h1 r hr p e s m args below meth c H locs cells slots Q ls hC hW hl hcs hR
theorem sw_icmp_ne {x y : Int} {off : Int} (hd : decode cc pc = .ok (.if_icmp .ne off, 3)) (ht : (pc : Int) + off = (tgt : Int)) (hp : pc' = pc + 3) (kf : wr x = wr y → SW G l own cc nL rm w pc' L st σ a) (kt : ¬ (wr x = wr y) → SW G l own cc nL rm w tgt L st σ b) : SW G l own cc nL rm w pc L (vi y :: vi x :: st) σ (if wr x = wr y then a else b) := by
  subst hp
  intro r hr p e s m args below meth c H locs cells slots Q ls hC hW hl hcs hR
  refine lv_icmp_ne hC.1.1 hC.1.2.1 hd ht (fun h => ?_) (fun h => ?_)
  · have h1 : ¬ (wr x = wr y) := fun e => h ((i32_eq x y).mpr e)
    rw [if_neg h1] at hr
    exact kt h1 r hr p e s m args below meth c H locs cells slots Q ls hC hW hl hcs hR
  · have h1 : wr x = wr y := (i32_eq x y).mp h
    rw [if_pos h1] at hr
    exact kf h1 r hr p e s m args below meth c H locs cells slots Q ls hC hW hl hcs hR
theorem sw_if_lt {x : Int} {off : Int} (hd : decode cc pc = .ok (.ifCond .lt off, 3)) (ht : (pc : Int) + off = (tgt : Int)) (hp : pc' = pc + 3) (kt : wr x < 0 → SW G l own cc nL rm w tgt L st σ a) (kf : ¬ (wr x < 0) → SW G l own cc nL rm w pc' L st σ b) : SW G l own cc nL rm w pc L (vi x :: st) σ (if wr x < 0 then a else b) := by
  subst hp
  intro r hr p e s m args below meth c H locs cells slots Q ls hC hW hl hcs hR
  refine lv_if_lt hC.1.1 hC.1.2.1 hd ht (fun h => ?_) (fun h => ?_)
  · have h1 : wr x < 0 := (i32_lt0 x).mp h
    rw [if_pos h1] at hr
    exact kt h1 r hr p e s m args below meth c H locs cells slots Q ls hC hW hl hcs hR
  · have h1 : ¬ (wr x < 0) := fun e => h ((i32_lt0 x).mpr e)
    rw [if_neg h1] at hr
    exact kf h1 r hr p e s m args below meth c H locs cells slots Q ls hC hW hl hcs hR
theorem sw_if_gt {x : Int} {off : Int} (hd : decode cc pc = .ok (.ifCond .gt off, 3)) (ht : (pc : Int) + off = (tgt : Int)) (hp : pc' = pc + 3) (kt : 0 < wr x → SW G l own cc nL rm w tgt L st σ a) (kf : ¬ (0 < wr x) → SW G l own cc nL rm w pc' L st σ b) : SW G l own cc nL rm w pc L (vi x :: st) σ (if 0 < wr x then a else b) := by
  subst hp
  intro r hr p e s m args below meth c H locs cells slots Q ls hC hW hl hcs hR
  refine lv_if_gt hC.1.1 hC.1.2.1 hd ht (fun h => ?_) (fun h => ?_)
  · have h1 : 0 < wr x := (i32_gt0 x).mp h
    rw [if_pos h1] at hr
    exact kt h1 r hr p e s m args below meth c H locs cells slots Q ls hC hW hl hcs hR
  · have h1 : ¬ (0 < wr x) := fun e => h ((i32_gt0 x).mpr e)
    rw [if_neg h1] at hr
    exact kf h1 r hr p e s m args below meth c H locs cells slots Q ls hC hW hl hcs hR
theorem sw_if_eq {x : Int} {off : Int} (hd : decode cc pc = .ok (.ifCond .eq off, 3)) (ht : (pc : Int) + off = (tgt : Int)) (hp : pc' = pc + 3) (kt : wr x = 0 → SW G l own cc nL rm w tgt L st σ a) (kf : ¬ (wr x = 0) → SW G l own cc nL rm w pc' L st σ b) : SW G l own cc nL rm w pc L (vi x :: st) σ (if wr x = 0 then a else b) := by
  subst hp
  intro r hr p e s m args below meth c H locs cells slots Q ls hC hW hl hcs hR
  refine lv_if_eq hC.1.1 hC.1.2.1 hd ht (fun h => ?_) (fun h => ?_)
  · have h1 : wr x = 0 := (i32_eq0 x).mp h
    rw [if_pos h1] at hr
    exact kt h1 r hr p e s m args below meth c H locs cells slots Q ls hC hW hl hcs hR
  · have h1 : ¬ (wr x = 0) := fun e => h ((i32_eq0 x).mpr e)
    rw [if_neg h1] at hr
    exact kf h1 r hr p e s m args below meth c H locs cells slots Q ls hC hW hl hcs hR
theorem sw_if_ge {x : Int} {off : Int} (hd : decode cc pc = .ok (.ifCond .ge off, 3)) (ht : (pc : Int) + off = (tgt : Int)) (hp : pc' = pc + 3) (kf : wr x < 0 → SW G l own cc nL rm w pc' L st σ a) (kt : ¬ (wr x < 0) → SW G l own cc nL rm w tgt L st σ b) : SW G l own cc nL rm w pc L (vi x :: st) σ (if wr x < 0 then a else b) := by
  subst hp
  intro r hr p e s m args below meth c H locs cells slots Q ls hC hW hl hcs hR
  refine lv_if_ge hC.1.1 hC.1.2.1 hd ht (fun h => ?_) (fun h => ?_)
  · have h1 : ¬ (wr x < 0) := by have := (i32_ge0 x).mp h; omega
    rw [if_neg h1] at hr
    exact kt h1 r hr p e s m args below meth c H locs cells slots Q ls hC hW hl hcs hR
  · have h1 : wr x < 0 := by have : ¬ 0 ≤ wr x := fun e => h ((i32_ge0 x).mpr e); omega
    rw [if_pos h1] at hr
    exact kf h1 r hr p e s m args below meth c H locs cells slots Q ls hC hW hl hcs hR
theorem sw_if_le {x : Int} {off : Int} (hd : decode cc pc = .ok (.ifCond .le off, 3)) (ht : (pc : Int) + off = (tgt : Int)) (hp : pc' = pc + 3) (kf : 0 < wr x → SW G l own cc nL rm w pc' L st σ a) (kt : ¬ (0 < wr x) → SW G l own cc nL rm w tgt L st σ b) : SW G l own cc nL rm w pc L (vi x :: st) σ (if 0 < wr x then a else b) := by
  subst hp
  intro r hr p e s m args below meth c H locs cells slots Q ls hC hW hl hcs hR
  refine lv_if_le hC.1.1 hC.1.2.1 hd ht (fun h => ?_) (fun h => ?_)
  · have h1 : ¬ (0 < wr x) := by have := (i32_le0 x).mp h; omega
    rw [if_neg h1] at hr
    exact kt h1 r hr p e s m args below meth c H locs cells slots Q ls hC hW hl hcs hR
  · have h1 : 0 < wr x := by have : ¬ wr x ≤ 0 := fun e => h ((i32_le0 x).mpr e); omega
    rw [if_pos h1] at hr
    exact kf h1 r hr p e s m args below meth c H locs cells slots Q ls hC hW hl hcs hR
theorem sw_if_ne {x : Int} {off : Int} (hd : decode cc pc = .ok (.ifCond .ne off, 3)) (ht : (pc : Int) + off = (tgt : Int)) (hp : pc' = pc + 3) (kf : wr x = 0 → SW G l own cc nL rm w pc' L st σ a) (kt : ¬ (wr x = 0) → SW G l own cc nL rm w tgt L st σ b) : SW G l own cc nL rm w pc L (vi x :: st) σ (if wr x = 0 then a else b) := by
  subst hp
  intro r hr p e s m args below meth c H locs cells slots Q ls hC hW hl hcs hR
  refine lv_if_ne hC.1.1 hC.1.2.1 hd ht (fun h => ?_) (fun h => ?_)
  · have h1 : ¬ (wr x = 0) := fun e => h ((i32_eq0 x).mpr e)
    rw [if_neg h1] at hr
    exact kt h1 r hr p e s m args below meth c H locs cells slots Q ls hC hW hl hcs hR
  · have h1 : wr x = 0 := (i32_eq0 x).mp h
    rw [if_pos h1] at hr
    exact kf h1 r hr p e s m args below meth c H locs cells slots Q ls hC hW hl hcs hR
theorem bi_wr (b : Bool) : wr (bi b) = 0 ↔ b = false := by cases b <;> decide
/-- a truth that was answered: falls through where it holds -/
theorem sw_bif_eq {x : Bool} {off : Int} (hd : decode cc pc = .ok (.ifCond .eq off, 3)) (ht : (pc : Int) + off = (tgt : Int)) (hp : pc' = pc + 3) (kf : x = true → SW G l own cc nL rm w pc' L st σ a) (kt : x = false → SW G l own cc nL rm w tgt L st σ b) : SW G l own cc nL rm w pc L (vi (bi x) :: st) σ (if x then a else b) := by
  subst hp
  intro r hr p e s m args below meth c H locs cells slots Q ls hC hW hl hcs hR
  refine lv_if_eq hC.1.1 hC.1.2.1 hd ht (fun h => ?_) (fun h => ?_)
  · have h1 : x = false := (bi_wr x).mp ((i32_eq0 _).mp h)
    rw [h1] at hr
    exact kt h1 r hr p e s m args below meth c H locs cells slots Q ls hC hW hl hcs hR
  · have h1 : x = true := by
      cases x
      · exact absurd rfl h
      · rfl
    rw [h1] at hr
    exact kf h1 r hr p e s m args below meth c H locs cells slots Q ls hC hW hl hcs hR
theorem sw_bif_ne {x : Bool} {off : Int} (hd : decode cc pc = .ok (.ifCond .ne off, 3)) (ht : (pc : Int) + off = (tgt : Int)) (hp : pc' = pc + 3) (kt : x = true → SW G l own cc nL rm w tgt L st σ a) (kf : x = false → SW G l own cc nL rm w pc' L st σ b) : SW G l own cc nL rm w pc L (vi (bi x) :: st) σ (if x then a else b) := by
  subst hp
  intro r hr p e s m args below meth c H locs cells slots Q ls hC hW hl hcs hR
  refine lv_if_ne hC.1.1 hC.1.2.1 hd ht (fun h => ?_) (fun h => ?_)
  · have h1 : x = true := by
      cases x
      · exact absurd rfl h
      · rfl
    rw [h1] at hr
    exact kt h1 r hr p e s m args below meth c H locs cells slots Q ls hC hW hl hcs hR
  · have h1 : x = false := by
      cases x
      · rfl
      · exact absurd h (by decide)
    rw [h1] at hr
    exact kf h1 r hr p e s m args below meth c H locs cells slots Q ls hC hW hl hcs hR
theorem sw_tin {x c0 dflt lo hi off : Int} {offs : Array Int} {len : Nat} (hd : decode cc pc = .ok (.tableswitch dflt lo hi offs, len)) (h : wr x = c0) (hc : lo ≤ c0 ∧ c0 ≤ hi) (ho : offs[(c0 - lo).toNat]? = some off) (ht : (pc : Int) + off = (tgt : Int)) (k : SW G l own cc nL rm w tgt L st σ o) : SW G l own cc nL rm w pc L (vi x :: st) σ o := by
  intro r hr p e s m args below meth c H locs cells slots Q ls hC hW hl hcs hR
  subst h
  exact lv_tableIn hC.1.1 hC.1.2.1 hd (show ¬ wr x < lo by omega) (show ¬ hi < wr x by omega) ho ht (k r hr p e s m args below meth c H locs cells slots Q ls hC hW hl hcs hR)
theorem sw_tout {x dflt lo hi : Int} {offs : Array Int} {len : Nat} (hd : decode cc pc = .ok (.tableswitch dflt lo hi offs, len)) (h : wr x < lo ∨ hi < wr x) (ht : (pc : Int) + dflt = (tgt : Int)) (k : SW G l own cc nL rm w tgt L st σ o) : SW G l own cc nL rm w pc L (vi x :: st) σ o := by
  intro r hr p e s m args below meth c H locs cells slots Q ls hC hW hl hcs hR
  exact lv_tableOut hC.1.1 hC.1.2.1 hd h ht (k r hr p e s m args below meth c H locs cells slots Q ls hC hW hl hcs hR)
/-! ends -/
abbrev wI : Int × St → Option Value × St := fun q => (some (vi q.1), q.2)
abbrev wB : Bool × St → Option Value × St := fun q => (some (vi (bi q.1)), q.2)
abbrev wL : Int × St → Option Value × St := fun q => (some (vl q.1), q.2)
abbrev wV : St → Option Value × St := fun q => (none, q)
abbrev wR (G : Gh) : Nat × St → Option Value × St := fun q => (some (.ref (ad G q.1)), q.2)
def nac (x : Int) : Int := (vp_nar .char (Int32.ofInt x)).toInt
abbrev wC : Int × St → Option Value × St := fun q => (some (vi (nac q.1)), q.2)
abbrev wY : Int × St → Option Value × St := fun q => (some (vi (nab q.1)), q.2)
theorem sw_cret {x : Int} (hd : decode cc pc = .ok (.ireturn, 1)) : SW G l own cc nL rm wC pc L [vi x] σ (if nac x = wr x then some (x, σ) else none) := by
  intro r hr p e s m args below meth c H locs cells slots Q ls hC hW hl hcs hR
  by_cases h0 : nac x = wr x
  · rw [if_pos h0] at hr
    cases hr
    have := hR H locs pc ls hW hd
    rw [← vi_wr x, ← h0]
    exact this
  · rw [if_neg h0] at hr
    cases hr
theorem sw_yret {x : Int} (hd : decode cc pc = .ok (.ireturn, 1)) : SW G l own cc nL rm wY pc L [vi x] σ (if nab x = wr x then some (x, σ) else none) := by
  intro r hr p e s m args below meth c H locs cells slots Q ls hC hW hl hcs hR
  by_cases h0 : nab x = wr x
  · rw [if_pos h0] at hr
    cases hr
    have := hR H locs pc ls hW hd
    rw [← vi_wr x, ← h0]
    exact this
  · rw [if_neg h0] at hr
    cases hr
theorem pk_nc_ (x : Int32) : narrow .char (.int (x.toUInt32.toUInt16.toUInt32.toInt32)) = .int (x.toUInt32.toUInt16.toUInt32.toInt32) := by
  have e : x.toUInt32.toUInt16.toUInt32 = x.toUInt32 % 65536 := by simp
  rw [e]
  exact pk_nc x
theorem sw_iret {x : Int} (hd : decode cc pc = .ok (.ireturn, 1)) : SW G l own cc nL rm wI pc L [vi x] σ (some (x, σ)) := by
  intro r hr p e s m args below meth c H locs cells slots Q ls hC hW hl hcs hR
  cases hr
  exact hR H locs pc ls hW hd
theorem sw_bret {x : Bool} (hd : decode cc pc = .ok (.ireturn, 1)) : SW G l own cc nL rm wB pc L [vi (bi x)] σ (some (x, σ)) := by
  intro r hr p e s m args below meth c H locs cells slots Q ls hC hW hl hcs hR
  cases hr
  exact hR H locs pc ls hW hd
theorem sw_zret {x : Int} (hd : decode cc pc = .ok (.ireturn, 1)) : SW G l own cc nL rm wB pc L [vi x] σ (if wr x = 0 then some (false, σ) else if wr x = 1 then some (true, σ) else none) := by
  intro r hr p e s m args below meth c H locs cells slots Q ls hC hW hl hcs hR
  by_cases h0 : wr x = 0
  · rw [if_pos h0] at hr
    cases hr
    have := hR H locs pc ls hW hd
    rw [← vi_wr, h0]
    exact this
  · rw [if_neg h0] at hr
    by_cases h1 : wr x = 1
    · rw [if_pos h1] at hr
      cases hr
      have := hR H locs pc ls hW hd
      rw [← vi_wr, h1]
      exact this
    · rw [if_neg h1] at hr
      cases hr
theorem sw_lret {x : Int} (hd : decode cc pc = .ok (.lreturn, 1)) : SW G l own cc nL rm wL pc L [vl x] σ (some (x, σ)) := by
  intro r hr p e s m args below meth c H locs cells slots Q ls hC hW hl hcs hR
  cases hr
  exact hR H locs pc ls hW hd
theorem sw_vret (hd : decode cc pc = .ok (.return_, 1)) : SW G l own cc nL rm wV pc L [] σ (some σ) := by
  intro r hr p e s m args below meth c H locs cells slots Q ls hC hW hl hcs hR
  cases hr
  exact hR H locs pc ls hW hd
theorem sw_aret {x : Nat} (hd : decode cc pc = .ok (.areturn, 1)) : SW G l own cc nL rm (wR G) pc L [.ref (ad G x)] σ (some (x, σ)) := by
  intro r hr p e s m args below meth c H locs cells slots Q ls hC hW hl hcs hR
  cases hr
  exact hR H locs pc ls hW hd
/-! rows -/
theorem ib_in {i : Int} {n : Nat} (h : 0 ≤ wr i ∧ wr i < n) : vp_in (Int32.ofInt i) n := vp_in_iff.mpr h
theorem gT_at (G : Gh) {t : Nat} (h : t < 3) : (gT G)[t]? = some (gC G t, tyN t) := by
  rcases (show t = 0 ∨ t = 1 ∨ t = 2 by omega) with rfl | rfl | rfl <;> rfl
theorem wd_garr {G : Gh} {σ : St} {k t n : Nat} (h : tb k = .inl (t, n)) : (wd G σ)[k]? = some (ad G k, .inl (gC G t, n, .inl (fun j => Int32.ofInt (σ k j)))) := by
  rw [wd_get G σ (tb_lt h), ent_arr h]
theorem wd_gobj {G : Gh} {σ : St} {k ci : Nat} {fl : List (Option Nat)} (h : tb k = .inr (ci, fl)) (hc : ci < 6) : (wd G σ)[k]? = some (ad G k, .inr (ci, fv G σ k 0 fl)) := by
  rw [wd_get G σ (tb_lt' h hc), ent_obj h]
theorem ld_some {σ : St} {a n : Nat} {i : Int} {ρ : Type} {kf : Int → Option ρ} {r : ρ} (h : bV (ld σ a n i) kf = some r) : (0 ≤ wr i ∧ wr i < n) ∧ kf (σ a (wr i).toNat) = some r := by
  unfold ld at h
  by_cases hi : 0 ≤ wr i ∧ wr i < n
  · rw [if_pos hi] at h
    exact ⟨hi, h⟩
  · rw [if_neg hi] at h
    cases h
theorem sv_some {σ : St} {a n : Nat} {i v : Int} {ρ : Type} {kf : St → Option ρ} {r : ρ} (h : bV (sv σ a n i v) kf = some r) : (0 ≤ wr i ∧ wr i < n) ∧ kf (up σ a (wr i).toNat v) = some r := by
  unfold sv at h
  by_cases hi : 0 ≤ wr i ∧ wr i < n
  · rw [if_pos hi] at h
    exact ⟨hi, h⟩
  · rw [if_neg hi] at h
    cases h
theorem sw_iald {k n : Nat} {i : Int} {kf : Int → Option ρ} (hd : decode cc pc = .ok (.iaload, 1)) (ht : tb k = .inl (0, n)) (hp : pc' = pc + 1) (kk : ∀ v, SW G l own cc nL rm w pc' L (vi v :: st) σ (kf v)) : SW G l own cc nL rm w pc L (vi i :: .ref (ad G k) :: st) σ (bV (ld σ k n i) kf) := by
  subst hp
  intro r hr p e s m args below meth c H locs cells slots Q ls hC hW hl hcs hR
  obtain ⟨hi, hr⟩ := ld_some hr
  exact va_iald hC.1.1 hC.1.2.1 hC.2.1 hW.1 k 0 (wd_garr ht) rfl (ib_in hi) hd (kk _ r hr p e s m args below meth c H locs cells slots Q ls hC hW hl hcs hR)
theorem sw_bald {k n : Nat} {i : Int} {kf : Int → Option ρ} (hd : decode cc pc = .ok (.baload, 1)) (ht : tb k = .inl (1, n)) (hp : pc' = pc + 1) (kk : ∀ v, SW G l own cc nL rm w pc' L (vi v :: st) σ (kf v)) : SW G l own cc nL rm w pc L (vi i :: .ref (ad G k) :: st) σ (bV (ld σ k n i) kf) := by
  subst hp
  intro r hr p e s m args below meth c H locs cells slots Q ls hC hW hl hcs hR
  obtain ⟨hi, hr⟩ := ld_some hr
  exact va_bald hC.1.1 hC.1.2.1 hC.2.1 hW.1 k 1 (wd_garr ht) rfl (ib_in hi) hd (kk _ r hr p e s m args below meth c H locs cells slots Q ls hC hW hl hcs hR)
theorem sw_zald {k n : Nat} {i : Int} {kf : Int → Option ρ} (hd : decode cc pc = .ok (.baload, 1)) (ht : tb k = .inl (2, n)) (hp : pc' = pc + 1) (kk : ∀ v, SW G l own cc nL rm w pc' L (vi v :: st) σ (kf v)) : SW G l own cc nL rm w pc L (vi i :: .ref (ad G k) :: st) σ (bV (ld σ k n i) kf) := by
  subst hp
  intro r hr p e s m args below meth c H locs cells slots Q ls hC hW hl hcs hR
  obtain ⟨hi, hr⟩ := ld_some hr
  exact va_zald hC.1.1 hC.1.2.1 hC.2.1 hW.1 k 2 (wd_garr ht) rfl (ib_in hi) hd (kk _ r hr p e s m args below meth c H locs cells slots Q ls hC hW hl hcs hR)
theorem sw_iast {k n : Nat} {i x : Int} {kf : St → Option ρ} (hd : decode cc pc = .ok (.iastore, 1)) (ht : tb k = .inl (0, n)) (hp : pc' = pc + 1) (kk : ∀ τ, SW G l own cc nL rm w pc' L st τ (kf τ)) : SW G l own cc nL rm w pc L (vi x :: vi i :: .ref (ad G k) :: st) σ (bV (sv σ k n i x) kf) := by
  subst hp
  intro r hr p e s m args below meth c H locs cells slots Q ls hC hW hl hcs hR
  obtain ⟨hi, hr⟩ := sv_some hr
  refine va_iast hC.1.1 hC.1.2.1 hC.2.1 hW.1 (hC.2.D σ) hW.2 k 0 (wd_garr ht) rfl (ib_in hi) hd (fun H1 locs1 hP _ hS => ?_)
  rw [wd_arr (v := x) ht rfl] at hP
  exact kk _ r hr p e s m args below meth c H1 locs1 cells slots Q ls hC ⟨hP, hS⟩ hl hcs hR
theorem sw_bast {k n : Nat} {i x : Int} {kf : St → Option ρ} (hd : decode cc pc = .ok (.bastore, 1)) (ht : tb k = .inl (1, n)) (hp : pc' = pc + 1) (kk : ∀ τ, SW G l own cc nL rm w pc' L st τ (kf τ)) : SW G l own cc nL rm w pc L (vi x :: vi i :: .ref (ad G k) :: st) σ (bV (sv σ k n i (nab x)) kf) := by
  subst hp
  intro r hr p e s m args below meth c H locs cells slots Q ls hC hW hl hcs hR
  obtain ⟨hi, hr⟩ := sv_some hr
  refine va_bast hC.1.1 hC.1.2.1 hC.2.1 hW.1 (hC.2.D σ) hW.2 k 1 (wd_garr ht) rfl (ib_in hi) hd (fun H1 locs1 hP _ hS => ?_)
  rw [wd_arr (v := nab x) ht (by unfold nab; rw [Int32.ofInt_toInt])] at hP
  exact kk _ r hr p e s m args below meth c H1 locs1 cells slots Q ls hC ⟨hP, hS⟩ hl hcs hR
theorem sw_zast {k n : Nat} {i x : Int} {kf : St → Option ρ} (hd : decode cc pc = .ok (.bastore, 1)) (ht : tb k = .inl (2, n)) (hp : pc' = pc + 1) (kk : ∀ τ, SW G l own cc nL rm w pc' L st τ (kf τ)) : SW G l own cc nL rm w pc L (vi x :: vi i :: .ref (ad G k) :: st) σ (bV (sv σ k n i (naz x)) kf) := by
  subst hp
  intro r hr p e s m args below meth c H locs cells slots Q ls hC hW hl hcs hR
  obtain ⟨hi, hr⟩ := sv_some hr
  refine va_zast hC.1.1 hC.1.2.1 hC.2.1 hW.1 (hC.2.D σ) hW.2 k 2 (wd_garr ht) rfl (ib_in hi) hd (fun H1 locs1 hP _ hS => ?_)
  rw [wd_arr (v := naz x) ht (by unfold naz; rw [Int32.ofInt_toInt])] at hP
  exact kk _ r hr p e s m args below meth c H1 locs1 cells slots Q ls hC ⟨hP, hS⟩ hl hcs hR
theorem sw_alen {k t n : Nat} (hd : decode cc pc = .ok (.arraylength, 1)) (ht : tb k = .inl (t, n)) (ht3 : t < 3) (hp : pc' = pc + 1) (kk : SW G l own cc nL rm w pc' L (vi (n : Int) :: st) σ o) : SW G l own cc nL rm w pc L (.ref (ad G k) :: st) σ o := by
  subst hp
  intro r hr p e s m args below meth c H locs cells slots Q ls hC hW hl hcs hR
  have hg : (wd G σ)[k]? = some (ad G k, .inl (gC G t, n, .inl (fun j => Int32.ofInt (σ k j)))) := wd_garr ht
  exact va_alen (v := Int32.ofInt (n : Int)) hC.1.1 hC.1.2.1 hC.2.1 hW.1 k t hg (gT_at G ht3) (by show Int32.ofNat n = _; rw [Int32.ofInt_eq_ofNat]) hd (kk r hr p e s m args below meth c H locs cells slots Q ls hC hW hl hcs hR)
/-! fields: FL own index ci j: the link of the j-th field of class ci -/
def FL (own : String) (index ci j : Nat) : Prop := ∃ (C : String) (T : u_T) (N : Nat), vwCl[ci]? = some (C, T, N) ∧ ci < 6 ∧ j < N ∧ (∀ w ∈ u_ws C T N, w ∈ TB) ∧ Cond.fieldLink own index (T j).1 (T j).2.1 (T j).2.2.1 ∈ TB
theorem sw_getn {k ci j idx : Nat} {fl : List (Option Nat)} (hd : decode cc pc = .ok (.getfield idx, 3)) (hF : FL own idx ci j) (ht : tb k = .inr (ci, fl)) (hj : fl[j]? = some none) (hp : pc' = pc + 3) (kk : SW G l own cc nL rm w pc' L (vi (σ k j) :: st) σ o) : SW G l own cc nL rm w pc L (.ref (ad G k) :: st) σ o := by
  subst hp
  intro r hr p e s m args below meth c H locs cells slots Q ls hC hW hl hcs hR
  obtain ⟨C, T, N, h1, h2, h3, h4, h5⟩ := hF
  have hv := fv_num G σ k fl 0 j hj
  rw [Nat.zero_add] at hv
  exact va_get hC.1.1 hC.1.2.1 hC.1.2.2.2.2 h4 hC.1.2.2.2.1 hC.2.1 hW.1 k (wd_gobj ht h2) h1 j h3 (hC.1.2.2.2.2 _ h5) (fun _ h9 => h9) hv hd (kk r hr p e s m args below meth c H locs cells slots Q ls hC hW hl hcs hR)
theorem sw_getr {k ci j idx t : Nat} {fl : List (Option Nat)} (hd : decode cc pc = .ok (.getfield idx, 3)) (hF : FL own idx ci j) (ht : tb k = .inr (ci, fl)) (hj : fl[j]? = some (some t)) (hp : pc' = pc + 3) (kk : SW G l own cc nL rm w pc' L (.ref (ad G t) :: st) σ o) : SW G l own cc nL rm w pc L (.ref (ad G k) :: st) σ o := by
  subst hp
  intro r hr p e s m args below meth c H locs cells slots Q ls hC hW hl hcs hR
  obtain ⟨C, T, N, h1, h2, h3, h4, h5⟩ := hF
  have hv := fv_ref G σ k fl 0 j hj
  exact va_get hC.1.1 hC.1.2.1 hC.1.2.2.2.2 h4 hC.1.2.2.2.1 hC.2.1 hW.1 k (wd_gobj ht h2) h1 j h3 (hC.1.2.2.2.2 _ h5) (fun _ h9 => h9) hv hd (kk r hr p e s m args below meth c H locs cells slots Q ls hC hW hl hcs hR)
/-- a field that is written: its link, its type, its names apart, not final -/
def FP (own : String) (index ci j : Nat) (ty : FieldType) : Prop := ∃ (C : String) (T : u_T) (N : Nat) (ty0 : Nat → FieldType), vwCl[ci]? = some (C, T, N) ∧ ci < 6 ∧ j < N ∧ (∀ w ∈ u_ws C T N, w ∈ TB) ∧ Cond.fieldLink own index (T j).1 (T j).2.1 (T j).2.2.1 ∈ TB ∧ (∀ k, k < N → parseFieldDescriptor (T k).2.2.1 = some (ty0 k)) ∧ (∀ a, a < N → ∀ b, b < N → a ≠ b → (T a).2.1 ≠ (T b).2.1) ∧ (T j).2.2.2 = false ∧ ty0 j = ty
theorem sw_puti {k ci j idx : Nat} {x : Int} {fl : List (Option Nat)} (hd : decode cc pc = .ok (.putfield idx, 3)) (hF : FP own idx ci j .int) (ht : tb k = .inr (ci, fl)) (hj : fl[j]? = some none) (hp : pc' = pc + 3) (kk : SW G l own cc nL rm w pc' L st (up σ k j x) o) : SW G l own cc nL rm w pc L (vi x :: .ref (ad G k) :: st) σ o := by
  subst hp
  intro r hr p e s m args below meth c H locs cells slots Q ls hC hW hl hcs hR
  obtain ⟨C, T, N, ty0, h1, h2, h3, h4, h5, h6, h7, h8, h9⟩ := hF
  have hjl : j < (fv G σ k 0 fl).length := by rw [fv_len]; exact (List.getElem?_eq_some_iff.mp hj).1
  refine va_put (ty := .int) (v := vi x) hC.1.1 hC.1.2.1 hC.1.2.2.2.2 h4 ty0 h6 h7 hC.1.2.2.2.1 hC.2.1 hW.1 (hC.2.D σ) hW.2 k (wd_gobj ht h2) h1 j h3 (hC.1.2.2.2.2 _ h5) (fun _ h9 => h9) h8 (by rw [h6 j h3, h9]) rfl rfl hjl hd (fun H1 locs1 hP _ hS => ?_)
  rw [wd_fld ht h2 hj] at hP
  exact kk r hr p e s m args below meth c H1 locs1 cells slots Q ls hC ⟨hP, hS⟩ hl hcs hR
theorem sw_putz {k ci j idx : Nat} {x : Int} {fl : List (Option Nat)} (hd : decode cc pc = .ok (.putfield idx, 3)) (hF : FP own idx ci j .boolean) (ht : tb k = .inr (ci, fl)) (hj : fl[j]? = some none) (hp : pc' = pc + 3) (kk : SW G l own cc nL rm w pc' L st (up σ k j x) o) : SW G l own cc nL rm w pc L (vi x :: .ref (ad G k) :: st) σ (if wr x = 0 ∨ wr x = 1 then o else none) := by
  subst hp
  intro r hr p e s m args below meth c H locs cells slots Q ls hC hW hl hcs hR
  by_cases hz : wr x = 0 ∨ wr x = 1
  · rw [if_pos hz] at hr
    obtain ⟨C, T, N, ty0, h1, h2, h3, h4, h5, h6, h7, h8, h9⟩ := hF
    have hjl : j < (fv G σ k 0 fl).length := by rw [fv_len]; exact (List.getElem?_eq_some_iff.mp hj).1
    have hn : narrow .boolean (vi x) = vi x := by
      rw [← vi_wr x]
      rcases hz with e | e <;> rw [e] <;> rfl
    refine va_put (ty := .boolean) (v := vi x) hC.1.1 hC.1.2.1 hC.1.2.2.2.2 h4 ty0 h6 h7 hC.1.2.2.2.1 hC.2.1 hW.1 (hC.2.D σ) hW.2 k (wd_gobj ht h2) h1 j h3 (hC.1.2.2.2.2 _ h5) (fun _ h9 => h9) h8 (by rw [h6 j h3, h9]) hn (by rw [← vi_wr x]; rcases hz with e | e <;> rw [e] <;> rfl) hjl hd (fun H1 locs1 hP _ hS => ?_)
    rw [wd_fld ht h2 hj] at hP
    exact kk r hr p e s m args below meth c H1 locs1 cells slots Q ls hC ⟨hP, hS⟩ hl hcs hR
  · rw [if_neg hz] at hr
    cases hr
/-! words -/
def wln (i : Nat) : Int := ((wLen.getD i 0 : Nat) : Int)
def wby (i : Nat) (x : Int) : Option Int := if 0 ≤ wr x ∧ wr x < wln i then some ((wByt.getD i []).getD (wr x).toNat 0).toInt else none
theorem sw_wval {i idx : Nat} (hi : i < 7) (hd : decode cc pc = .ok (.getfield idx, 3)) (hF : Cond.fieldLink own idx "java/lang/String" "value" "[B" ∈ TB) (hp : pc' = pc + 3) (kk : SW G l own cc nL rm w pc' L (.ref (gV G i) :: st) σ o) : SW G l own cc nL rm w pc L (.ref (gK G i) :: st) σ o := by
  subst hp
  intro r hr p e s m args below meth c H locs cells slots Q ls hC hW hl hcs hR
  exact vk_getf hC.1.1 hC.1.2.1 (hC.2.2.2.2.2.1.1 i hi).2.2.1 hW.2 hC.1.2.2.2.1 (hC.1.2.2.2.2 _ hF) (fun _ h9 => h9) hd (kk r hr p e s m args below meth c H locs cells slots Q ls hC hW hl hcs hR)
theorem sw_wcod {i idx : Nat} (hi : i < 7) (hd : decode cc pc = .ok (.getfield idx, 3)) (hF : Cond.fieldLink own idx "java/lang/String" "coder" "B" ∈ TB) (hp : pc' = pc + 3) (kk : SW G l own cc nL rm w pc' L (vi 0 :: st) σ o) : SW G l own cc nL rm w pc L (.ref (gK G i) :: st) σ o := by
  subst hp
  intro r hr p e s m args below meth c H locs cells slots Q ls hC hW hl hcs hR
  exact vk_getf (v := vi 0) hC.1.1 hC.1.2.1 (hC.2.2.2.2.2.1.1 i hi).2.1 hW.2 hC.1.2.2.2.1 (hC.1.2.2.2.2 _ hF) (fun _ h9 => h9) hd (kk r hr p e s m args below meth c H locs cells slots Q ls hC hW hl hcs hR)
theorem sw_wlen {i : Nat} (hi : i < 7) (hd : decode cc pc = .ok (.arraylength, 1)) (hp : pc' = pc + 1) (kk : SW G l own cc nL rm w pc' L (vi (wln i) :: st) σ o) : SW G l own cc nL rm w pc L (.ref (gV G i) :: st) σ o := by
  subst hp
  intro r hr p e s m args below meth c H locs cells slots Q ls hC hW hl hcs hR
  exact va_tlen (v := Int32.ofInt (wln i)) hC.1.1 hC.1.2.1 (hC.2.2.2.2.2.1.1 i hi).2.2.2 hW.2 (by unfold wln; rw [Int32.ofInt_eq_ofNat]) hd (kk r hr p e s m args below meth c H locs cells slots Q ls hC hW hl hcs hR)
theorem sw_wbal {i : Nat} {x : Int} {kf : Int → Option ρ} (hi : i < 7) (hd : decode cc pc = .ok (.baload, 1)) (hp : pc' = pc + 1) (kk : ∀ v, SW G l own cc nL rm w pc' L (vi v :: st) σ (kf v)) : SW G l own cc nL rm w pc L (vi x :: .ref (gV G i) :: st) σ (bV (wby i x) kf) := by
  subst hp
  intro r hr p e s m args below meth c H locs cells slots Q ls hC hW hl hcs hR
  unfold wby at hr
  by_cases hx : 0 ≤ wr x ∧ wr x < wln i
  · rw [if_pos hx] at hr
    refine va_tb hC.1.1 hC.1.2.1 (hC.2.2.2.2.2.1.1 i hi).2.2.2 hW.2 (ib_in hx) rfl hd ?_
    have h := kk _ r hr p e s m args below meth c H locs cells slots Q ls hC hW hl hcs hR
    rw [vi_toInt] at h
    exact h
  · rw [if_neg hx] at hr
    cases hr
theorem sw_gstC {idx : Nat} (hd : decode cc pc = .ok (.getstatic idx, 3)) (hF : Cond.fieldLink own idx "java/lang/String" "COMPACT_STRINGS" "Z" ∈ TB) (hp : pc' = pc + 3) (kk : SW G l own cc nL rm w pc' L (vi 1 :: st) σ o) : SW G l own cc nL rm w pc L st σ o := by
  subst hp
  intro r hr p e s m args below meth c H locs cells slots Q ls hC hW hl hcs hR
  exact va_gets (v := vi 1) hC.1.1 hC.1.2.1 hC.2.2.2.2.2.2.1 hW.2 hC.1.2.2.2.1 (hC.1.2.2.2.2 _ hF) (fun _ h9 => h9) hd (kk r hr p e s m args below meth c H locs cells slots Q ls hC hW hl hcs hR)
theorem sw_gstZ {idx : Nat} (hd : decode cc pc = .ok (.getstatic idx, 3)) (hF : Cond.fieldLink own idx "jdk/internal/util/Preconditions" "SIOOBE_FORMATTER" "Ljava/util/function/BiFunction;" ∈ TB) (hp : pc' = pc + 3) (kk : ∀ z, SW G l own cc nL rm w pc' L (va_rf z :: st) σ o) : SW G l own cc nL rm w pc L st σ o := by
  subst hp
  intro r hr p e s m args below meth c H locs cells slots Q ls hC hW hl hcs hR
  obtain ⟨z, hz⟩ := hC.2.2.2.2.2.2.2.1
  exact va_gets hC.1.1 hC.1.2.1 hz hW.2 hC.1.2.2.2.1 (hC.1.2.2.2.2 _ hF) (fun _ h9 => h9) hd (kk z r hr p e s m args below meth c H locs cells slots Q ls hC hW hl hcs hR)
theorem sw_wldc {i idx : Nat} (hi : i < 7) (hd : decode cc pc = .ok (.ldc idx, 2)) (ho : own = "HorseSigns$Tape") (hx : idx = wIdx.getD i 0) (hp : pc' = pc + 2) (kk : SW G l own cc nL rm w pc' L (.ref (gK G i) :: st) σ o) : SW G l own cc nL rm w pc L st σ o := by
  subst hp
  subst hx
  subst ho
  intro r hr p e s m args below meth c H locs cells slots Q ls hC hW hl hcs hR
  exact va_ldcS hC.1.1 hC.1.2.1 hC.1.2.2.2.1 (hC.2.2.2.2.2.2.2.2 i hi) hd (kk r hr p e s m args below meth c H locs cells slots Q ls hC hW hl hcs hR)
end SWB
