/-! THE CLAIM OUT OF ONE WALK OF THE LAW'S BODY. Your part is whole_start (and what it stands on); all else here is the same for every law, but numbers. -/
def R_law : String := "HorseSignsLaw"
def lw_P (b : Addr) (xs : List Int32) (args : Array Value) (s : State) : Prop := args = #[.ref b] ∧ s.IntsAt b xs ∧ xs.length ≤ 384 ∧ (Jvm.Cond.and given_1 narrow_1).before args s = true
def lw_Q (_ : Array Value) (s : State) (o : Outcome) (t : State) : Prop := o = .returned (some (.int 1)) ∧ Framed s o t [] 63 3140
def lw_Z (below : List Frame) (a : Array Value) (s : State) : State → Prop := fun t => ∃ o, t.status = .running ∧ Ended t below o ∧ lw_Q a s o t
/-- the law's own end, with 1 on the stack, nothing written that was there before, its room as the claim has it -/
theorem lw_ret {p : Program} {l : Launch} {e : Env} {s : State} {m : MethodId} {below : List Frame} {meth : Method} {c : Code} {b : Nat} (hx : p.tables.exec = Jvm.exec) (hb : c.code = code) (hr : meth.sig.returnType = ret) (hlocks : meth.locks = false) {pc : Nat} {H : Heap} {ls : Array Slot} (hdg : decode code pc = .ok (.ireturn, 1)) : W p l e room_1 s m #[Value.ref b] below meth c H [] 63 3140 (lw_Z below #[Value.ref b] s) (F0 m pc ls [.int 1]) := by
  intro T hT X
  obtain ⟨fs, hret, hrun, hended, hW, hframe⟩ := X.leave (v := some (.int 1)) (hlocks := hlocks) (fun h => by rw [hr] at h; cases h)
  have hmeth' : T.vm.method? m = some meth := X.method'
  refine ⟨T.setFrames fs, ?_, .returned (some (.int 1)), hrun, hended, rfl, ⟨_, rfl⟩, hW, hframe⟩
  jvm_step X.here [X.here.top, hx, hb, hdg, hmeth', hr, ret, narrow_b1]
  (try refine ⟨rfl, ?_⟩); (try refine ⟨rfl, ?_⟩)
  first | (intro acts; rw [hret _ acts rfl rfl rfl]) | rw [hret _ _ rfl rfl rfl]
  exact Steps.refl _
/-- what holds at the law's entry: the machine, the code, the tables' words (any of lw_tbl by 'hts w (by decide +kernel)'), the script of L ints xs at the cell b, what the Statement gives of the start (any of its parts by flat_of_before) -/
def lw_At (p : Program) (s : State) (m : MethodId) (meth : Method) (c : Code) (b L : Nat) (xs : Nat → Int32) : Prop :=
  p.tables.exec = Jvm.exec ∧ c.code = code ∧ meth.sig.returnType = ret ∧ c.maxLocals = 4 ∧ s.vm.findClass R_law = some m.cls ∧ (∀ w ∈ lw_tbl, w.before #[Value.ref b] s = true) ∧ va_X b L xs s s.heap ∧ b < s.heap.size ∧ meth.locks = false ∧ (Jvm.Cond.and given_1 narrow_1).before #[Value.ref b] s = true
/-! ===== the law's body: from here it ends well ===== -/
def LX (G : Gh) (b L : Nat) (xs : Nat → Int32) (p : Program) (s : State) (m : MethodId) (meth : Method) (c : Code) : Prop :=
  Cx G RL code 4 p s m #[Value.ref b] c ∧ (va_X b L xs s s.heap ∧ b < s.heap.size ∧ ¬ AD G b) ∧ (meth.sig.returnType = ret ∧ meth.locks = false) ∧ ∀ q, AD G q → s.heap.size ≤ q
def LG (G : Gh) (l : Launch) (b L : Nat) (xs : Nat → Int32) (pc : Nat) (Lc : List (Option Value)) (st : List Value) (σ : St) : Prop :=
  ∀ (p : Program) (e : Env) (s : State) (m : MethodId) (below : List Frame) (meth : Method) (c : Code) (H : Heap) (locs : List Loc) (ls : Array Slot),
    LX G b L xs p s m meth c → WD G σ s.heap H locs → lv_has ls 4 (lvO 0 Lc) → W p l e room_1 s m #[Value.ref b] below meth c H locs 63 3140 (lw_Z below #[Value.ref b] s) (F0 m pc ls st)
section LGR
variable {G : Gh} {l : Launch} {b L : Nat} {xs : Nat → Int32} {pc pc' : Nat} {Lc : List (Option Value)} {st rest : List Value} {σ : St}
theorem gw_iconst {n : Int} (hd : decode code pc = .ok (.iconst n, 1)) (hp : pc' = pc + 1) (k : LG G l b L xs pc' Lc (vi n :: st) σ) : LG G l b L xs pc Lc st σ := by
  subst hp
  intro p e s m below meth c H locs ls hX hW hl
  exact lv_iconst hX.1.1.1 hX.1.1.2.1 hd rfl (k p e s m below meth c H locs ls hX hW hl)
theorem gw_bipush {n : Int} (hd : decode code pc = .ok (.bipush n, 2)) (hn : (Int8.ofInt n).toInt32 = Int32.ofInt n) (hp : pc' = pc + 2) (k : LG G l b L xs pc' Lc (vi n :: st) σ) : LG G l b L xs pc Lc st σ := by
  subst hp
  intro p e s m below meth c H locs ls hX hW hl
  exact lv_bipush hX.1.1.1 hX.1.1.2.1 hd hn (k p e s m below meth c H locs ls hX hW hl)
theorem gw_iload_n {i : Fin 4} {x : Int} (hd : decode code pc = .ok (.iload_n i, 1)) (hp : pc' = pc + 1) (hx : Lc[(i : Nat)]? = some (some (vi x))) (k : LG G l b L xs pc' Lc (vi x :: st) σ) : LG G l b L xs pc Lc st σ := by
  subst hp
  intro p e s m below meth c H locs ls hX hW hl
  exact lv_iload_n hX.1.1.1 hX.1.1.2.1 hd rfl (lvO_at hl hx) (k p e s m below meth c H locs ls hX hW hl)
theorem gw_aload_n {i : Fin 4} {x : Nat} (hd : decode code pc = .ok (.aload_n i, 1)) (hp : pc' = pc + 1) (hx : Lc[(i : Nat)]? = some (some (.ref x))) (k : LG G l b L xs pc' Lc (.ref x :: st) σ) : LG G l b L xs pc Lc st σ := by
  subst hp
  intro p e s m below meth c H locs ls hX hW hl
  exact lv_aload_n hX.1.1.1 hX.1.1.2.1 hd rfl (lvO_at hl hx) (k p e s m below meth c H locs ls hX hW hl)
theorem gw_iadd {x y : Int} (hd : decode code pc = .ok (.iadd, 1)) (hp : pc' = pc + 1) (k : LG G l b L xs pc' Lc (vi (x + y) :: st) σ) : LG G l b L xs pc Lc (vi y :: vi x :: st) σ := by
  subst hp
  intro p e s m below meth c H locs ls hX hW hl
  have h := k p e s m below meth c H locs ls hX hW hl
  unfold vi at h
  rw [Int32.ofInt_add] at h
  exact lv_iadd hX.1.1.1 hX.1.1.2.1 hd h
theorem gw_isub {x y : Int} (hd : decode code pc = .ok (.isub, 1)) (hp : pc' = pc + 1) (k : LG G l b L xs pc' Lc (vi (x - y) :: st) σ) : LG G l b L xs pc Lc (vi y :: vi x :: st) σ := by
  subst hp
  intro p e s m below meth c H locs ls hX hW hl
  have h := k p e s m below meth c H locs ls hX hW hl
  unfold vi at h
  rw [Int32.ofInt_sub] at h
  exact lv_isub hX.1.1.1 hX.1.1.2.1 hd h
theorem gw_iand {x y : Int} (hd : decode code pc = .ok (.iand, 1)) (hp : pc' = pc + 1) (k : LG G l b L xs pc' Lc (vi (iad x y) :: st) σ) : LG G l b L xs pc Lc (vi y :: vi x :: st) σ := by
  subst hp
  intro p e s m below meth c H locs ls hX hW hl
  have h := k p e s m below meth c H locs ls hX hW hl
  unfold iad at h
  rw [vi_toInt] at h
  exact lv_iand hX.1.1.1 hX.1.1.2.1 hd h
theorem gw_slen (hd : decode code pc = .ok (.arraylength, 1)) (hp : pc' = pc + 1) (k : LG G l b L xs pc' Lc (vi (L : Int) :: st) σ) : LG G l b L xs pc Lc (.ref b :: st) σ := by
  subst hp
  intro p e s m below meth c H locs ls hX hW hl
  have h := k p e s m below meth c H locs ls hX hW hl
  have e1 : vi (L : Int) = .int (Int32.ofNat L) := by unfold vi; rw [Int32.ofInt_eq_ofNat]
  rw [e1] at h
  exact va_slen hX.1.1.1 hX.1.1.2.1 hX.2.1.1 hX.2.1.2.1 hX.2.1.2.2 hW.2 hd h
/-- a number of the script -/
def sc (xs : Nat → Int32) (j : Nat) : Int := (xs j).toInt
theorem sc_ir (xs : Nat → Int32) (j : Nat) : IR (sc xs j) := ⟨Int32.le_toInt _, by have := Int32.toInt_lt (xs j); unfold sc; omega⟩
theorem gw_sld {j : Nat} {x : Int} (hx : x = (j : Int)) (hj : j < L) (h4 : L ≤ 384) (hd : decode code pc = .ok (.iaload, 1)) (hp : pc' = pc + 1) (k : LG G l b L xs pc' Lc (vi (sc xs j) :: st) σ) : LG G l b L xs pc Lc (vi x :: .ref b :: st) σ := by
  subst hp
  subst hx
  intro p e s m below meth c H locs ls hX hW hl
  have h := k p e s m below meth c H locs ls hX hW hl
  have ec : (Int32.ofInt (j : Int)).toNatClampNeg = j := i32_clamp (by omega)
  unfold sc at h
  rw [vi_toInt] at h
  refine va_sld hX.1.1.1 hX.1.1.2.1 hX.2.1.1 hX.2.1.2.1 hX.2.1.2.2 hW.2 ?_ hd (by rw [ec]; exact h)
  intro z
  rw [ec] at z
  rcases z with z | z
  · rw [i32_lt0, wr_of (by omega) (by omega)] at z; omega
  · omega
theorem gw_call {k ci idx n nL' : Nat} {fl : List (Option Nat)} {α : Type} {w' : α → Option Value × St} {y : MethodName} {cc' : ByteArray} {ret' : Option FieldType} {rm' : Room} {As : List Value} {q : α} (hd : decode code pc = .ok (.invokevirtual idx, 3)) (hc : CV RL idx ci y cc' nL' ret' n) (ht : tb k = .inr (ci, fl)) (hM : MT G l y cc' nL' ret' rm' (.ref (ad G k) :: As) w' σ (some q)) (hn : As.length = n) (hR : fitR rm' room_1 nL' = true) (hst : st = As.reverse ++ .ref (ad G k) :: rest) (h8 : cat8 rest = true) (hp : pc' = pc + 3)
    (kk : LG G l b L xs pc' Lc ((w' q).1.toList ++ rest) (w' q).2) : LG G l b L xs pc Lc st σ := by
  subst hp
  intro p e s m below meth c H locs ls hX hW hl
  have hC := hX.1
  obtain ⟨c1, c2, c3, c4, c5, c6, c7, T, N, c8⟩ := hc
  obtain ⟨r1, r2, r3⟩ := fitR_of hR
  have hrun := va_runV (H := H) (C := y.cls) (b := ad G k) (g := F0 m pc ls st) (rest := rest) (e := e) (below := below) (meth := meth) (locs := locs) (cells := 63) (slots := 3140) hC.1 (hM q rfl) (cwV n hC.1.2.2.2.2 (goodTB (inTB4 c1 c2 c3 c4 c5)) rfl r1 r2 c6 r3) ⟨pcBlind, va_recv hC.2.1 hW.1 c8 (wd_gobj ht c7), fun U hU hWm => ⟨rfl, KG.warm hWm (fun q h1 h2 => by rw [hU]; exact hW.2.2.1 q h1 h2) hC.2, by rw [hU]; exact hW.1⟩⟩ rfl hn hl.1 hst (lv_room (of_decide_eq_true h8)) hd ⟨Nat.le_of_ble_eq_true rfl, Nat.le_of_ble_eq_true rfl⟩
  exact callW hrun hW (fun H1 locs1 hW1 => kk p e s m below meth c H1 locs1 ls hX hW1 hl)
theorem gw_eq {x : Int} {off : Int} {tgt : Nat} (hd : decode code pc = .ok (.if_icmp .eq off, 3)) (ht : (pc : Int) + off = (tgt : Int)) (k : LG G l b L xs tgt Lc st σ) : LG G l b L xs pc Lc (vi x :: vi x :: st) σ := by
  intro p e s m below meth c H locs ls hX hW hl
  exact lv_icmp_eq hX.1.1.1 hX.1.1.2.1 hd ht (fun _ => k p e s m below meth c H locs ls hX hW hl) (fun h => absurd rfl h)
theorem gw_lcmp {x : Int} (hd : decode code pc = .ok (.lcmp, 1)) (hp : pc' = pc + 1) (k : LG G l b L xs pc' Lc (vi 0 :: st) σ) : LG G l b L xs pc Lc (vl x :: vl x :: st) σ := by
  subst hp
  intro p e s m below meth c H locs ls hX hW hl
  have h := k p e s m below meth c H locs ls hX hW hl
  have e1 : vi 0 = .int (lg_cmp (Int64.ofInt x) (Int64.ofInt x)) := by
    rw [← lcm_eq]
    unfold lcm vi
    rw [if_neg (by omega), if_pos rfl]
  rw [e1] at h
  exact W.lcmp hX.1.1.1 hX.1.1.2.1 hd h
theorem gw_if0 {off : Int} {tgt : Nat} (hd : decode code pc = .ok (.ifCond .eq off, 3)) (ht : (pc : Int) + off = (tgt : Int)) (k : LG G l b L xs tgt Lc st σ) : LG G l b L xs pc Lc (vi 0 :: st) σ := by
  intro p e s m below meth c H locs ls hX hW hl
  exact lv_if_eq hX.1.1.1 hX.1.1.2.1 hd ht (fun _ => k p e s m below meth c H locs ls hX hW hl) (fun h => absurd rfl h)
theorem gw_gt {x y : Int} {off : Int} {tgt : Nat} (hd : decode code pc = .ok (.if_icmp .gt off, 3)) (ht : (pc : Int) + off = (tgt : Int)) (hp : pc' = pc + 3) (kt : wr y < wr x → LG G l b L xs tgt Lc st σ) (kf : ¬ wr y < wr x → LG G l b L xs pc' Lc st σ) : LG G l b L xs pc Lc (vi y :: vi x :: st) σ := by
  subst hp
  intro p e s m below meth c H locs ls hX hW hl
  exact lv_icmp_gt hX.1.1.1 hX.1.1.2.1 hd ht (fun h => kt ((i32_lt y x).mp h) p e s m below meth c H locs ls hX hW hl) (fun h => kf (fun z => h ((i32_lt y x).mpr z)) p e s m below meth c H locs ls hX hW hl)
theorem gw_iinc {i : Nat} {n x : Int} {Lc' : List (Option Value)} (hd : decode code pc = .ok (.iinc i n, 3)) (hp : pc' = pc + 3) (hi : i < 4) (ho : okS Lc i = true) (hx : Lc[i]? = some (some (vi x))) (hL : Lc.set i (some (vi (x + n))) = Lc') (k : LG G l b L xs pc' Lc' st σ) : LG G l b L xs pc Lc st σ := by
  subst hp
  subst hL
  intro p e s m below meth c H locs ls hX hW hl
  have hm : (i, vi x) ∈ lvO 0 Lc := (lvO_mem Lc 0 i (vi x)).mpr ⟨i, by omega, hx⟩
  obtain ⟨k0, hk0⟩ := List.getElem?_of_mem hm
  exact lv_iinc (v := Int32.ofInt (x + n)) hX.1.1.1 hX.1.1.2.1 hd hl hk0 (by rw [Int32.ofInt_add]) hi rfl (fun ls' hl' => k p e s m below meth c H locs ls' hX hW (lvO_store ho hl'))
theorem gw_goto {off : Int} (hd : decode code pc = .ok (.goto off, 3)) (hp : (pc : Int) + off = (pc' : Int)) (k : LG G l b L xs pc' Lc st σ) : LG G l b L xs pc Lc st σ := by
  intro p e s m below meth c H locs ls hX hW hl
  exact lv_goto hX.1.1.1 hX.1.1.2.1 hd hp (k p e s m below meth c H locs ls hX hW hl)
theorem gw_tin {x c0 dflt lo hi off : Int} {offs : Array Int} {len tgt : Nat} (hd : decode code pc = .ok (.tableswitch dflt lo hi offs, len)) (h : wr x = c0) (hc : lo ≤ c0 ∧ c0 ≤ hi) (ho : offs[(c0 - lo).toNat]? = some off) (ht : (pc : Int) + off = (tgt : Int)) (k : LG G l b L xs tgt Lc st σ) : LG G l b L xs pc Lc (vi x :: st) σ := by
  intro p e s m below meth c H locs ls hX hW hl
  subst h
  exact lv_tableIn hX.1.1.1 hX.1.1.2.1 hd (show ¬ wr x < lo by omega) (show ¬ hi < wr x by omega) ho ht (k p e s m below meth c H locs ls hX hW hl)
theorem gw_tout {x dflt lo hi : Int} {offs : Array Int} {len tgt : Nat} (hd : decode code pc = .ok (.tableswitch dflt lo hi offs, len)) (h : wr x < lo ∨ hi < wr x) (ht : (pc : Int) + dflt = (tgt : Int)) (k : LG G l b L xs tgt Lc st σ) : LG G l b L xs pc Lc (vi x :: st) σ := by
  intro p e s m below meth c H locs ls hX hW hl
  exact lv_tableOut hX.1.1.1 hX.1.1.2.1 hd h ht (k p e s m below meth c H locs ls hX hW hl)
theorem gw_ret (hd : decode code pc = .ok (.ireturn, 1)) : LG G l b L xs pc Lc [vi 1] σ := by
  intro p e s m below meth c H locs ls hX hW hl
  exact va_forget (fun q hq => hX.2.2.2 _ (hW.2.2.2 q hq)) (lw_ret hX.1.1.1 hX.1.1.2.1 hX.2.2.1.1 hX.2.2.1.2 hd)
end LGR
/-- both sides go -/
theorem Op.go {f g : St → Option (Int × St)} {r : Ab → Int} {t : Ab → Ab} (h : Op f g r t) {σ : St} {A : Ab} (ok : OKA A) (vc : Vc σ A) (vm : Vm σ A) : ∃ σ1 σ2, f σ = some (r A, σ1) ∧ g σ1 = some (r A, σ2) ∧ OKA (t A) ∧ Vc σ2 (t A) ∧ Vm σ2 (t A) := by
  obtain ⟨σ1, a1, a2, a3⟩ := h.2.1 σ A ok vc
  obtain ⟨σ2, b1, b2, b3⟩ := h.2.2 σ1 A ok (Vm.fc a3 ok vm)
  exact ⟨σ1, σ2, a1, b1, h.1 A ok, Vc.fm b3 a2, b2⟩
