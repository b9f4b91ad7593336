section GEN
variable {G : Gh} {l : Launch}
def rm_J7_fill_53178 : Room := { frames := 0, cells := 0, slots := 0, locals := 0 }
def f_J7_fill_53178_5 (a0 : Nat) (n0 : Nat)  : Nat → Int → Int → Int → St → Option (St)
  | 0, _, _, _, _ => none
  | n + 1, x1, x2, x3, σ =>
    if wr x2 < wr x3 then
      bV (sv σ a0 n0 x2 x1) fun s13 => (f_J7_fill_53178_5 a0 n0 n) x1 (x2 + 1) x3 s13
    else
      some σ
set_option maxRecDepth 20000 in
theorem s_J7_fill_53178_5 (a0 : Nat) (n0 : Nat) (ht0 : tb a0 = .inl (0, n0))   : ∀ (n : Nat) (x1 x2 x3 : Int) (σ : St), SW G l RJ7 cJ7_fill_53178 4 rm_J7_fill_53178 wV 5 [some (.ref (ad G a0)), some (vi x1), some (vi x2), some (vi x3)] [] σ (f_J7_fill_53178_5 a0 n0 n x1 x2 x3 σ) := by
  intro n
  induction n with
  | zero => intro x1 x2 x3 σ; exact sw_none
  | succ n ih =>
    intro x1 x2 x3 σ
    rw [f_J7_fill_53178_5]
    refine sw_iload_n (pc' := 6) dJ7_fill_53178_5 rfl rfl ?_
    refine sw_iload_n (pc' := 7) dJ7_fill_53178_6 rfl rfl ?_
    refine sw_icmp_ge (tgt := 20) (pc' := 10) dJ7_fill_53178_7 (by decide) rfl (fun _ => ?_) (fun _ => ?_)
    · refine sw_aload_n (pc' := 11) dJ7_fill_53178_10 rfl rfl ?_
      refine sw_iload_n (pc' := 12) dJ7_fill_53178_11 rfl rfl ?_
      refine sw_iload_n (pc' := 13) dJ7_fill_53178_12 rfl rfl ?_
      refine sw_iast (pc' := 14) dJ7_fill_53178_13 (ht0) rfl (fun s13 => ?_)
      refine sw_iinc (pc' := 17) (x := x2) (L' := [some (.ref (ad G a0)), some (vi x1), some (vi (x2 + 1)), some (vi x3)]) dJ7_fill_53178_14 rfl (by decide) rfl rfl rfl ?_
      refine sw_goto (pc' := 5) dJ7_fill_53178_17 (by decide) ?_
      exact (ih) x1 (x2 + 1) x3 s13
    · exact sw_vret dJ7_fill_53178_20
def f_J7_fill_53178 (a0 : Nat) (n0 : Nat) (x1 : Int) (σ : St) : Option (St) :=
  f_J7_fill_53178_5 a0 n0 FU x1 0 (n0 : Int) σ
set_option maxRecDepth 20000 in
theorem m_J7_fill_53178 (a0 : Nat) (n0 : Nat) (x1 : Int) (ht0 : tb a0 = .inl (0, n0)) (σ : St) : MT G l yJ7_fill_53178 cJ7_fill_53178 4 none rm_J7_fill_53178 [.ref (ad G a0), vi x1] wV σ (f_J7_fill_53178 a0 n0 x1 σ) := by
  refine mt_V (L := [some (.ref (ad G a0)), some (vi x1), none, none]) rfl (Nat.le_of_ble_eq_true rfl) rfl ?_
  show SW G l RJ7 cJ7_fill_53178 4 rm_J7_fill_53178 wV 0 [some (.ref (ad G a0)), some (vi x1), none, none] [] σ (f_J7_fill_53178 a0 n0 x1 σ)
  unfold f_J7_fill_53178
  refine sw_iconst (pc' := 1) dJ7_fill_53178_0 rfl ?_
  refine sw_istore_n (pc' := 2) (x := 0) (L' := [some (.ref (ad G a0)), some (vi x1), some (vi 0), none]) dJ7_fill_53178_1 rfl (by decide) rfl rfl ?_
  refine sw_aload_n (pc' := 3) dJ7_fill_53178_2 rfl rfl ?_
  refine sw_alen (pc' := 4) dJ7_fill_53178_3 (ht0) (by decide) rfl ?_
  refine sw_istore_n (pc' := 5) (x := (n0 : Int)) (L' := [some (.ref (ad G a0)), some (vi x1), some (vi 0), some (vi (n0 : Int))]) dJ7_fill_53178_4 rfl (by decide) rfl rfl ?_
  exact s_J7_fill_53178_5 a0 n0 ht0 FU x1 0 (n0 : Int) σ
def rm_J6_bitCount_0f7a4 : Room := { frames := 0, cells := 0, slots := 0, locals := 0 }
def f_J6_bitCount_0f7a4 (x0 : Int) (σ : St) : Option (Int × St) :=
  some ((iad (((iad (((iad (x0 - (iad (ius x0 1) 1431655765)) 858993459) + (iad (ius (x0 - (iad (ius x0 1) 1431655765)) 2) 858993459)) + (ius ((iad (x0 - (iad (ius x0 1) 1431655765)) 858993459) + (iad (ius (x0 - (iad (ius x0 1) 1431655765)) 2) 858993459)) 4)) 252645135) + (ius (iad (((iad (x0 - (iad (ius x0 1) 1431655765)) 858993459) + (iad (ius (x0 - (iad (ius x0 1) 1431655765)) 2) 858993459)) + (ius ((iad (x0 - (iad (ius x0 1) 1431655765)) 858993459) + (iad (ius (x0 - (iad (ius x0 1) 1431655765)) 2) 858993459)) 4)) 252645135) 8)) + (ius ((iad (((iad (x0 - (iad (ius x0 1) 1431655765)) 858993459) + (iad (ius (x0 - (iad (ius x0 1) 1431655765)) 2) 858993459)) + (ius ((iad (x0 - (iad (ius x0 1) 1431655765)) 858993459) + (iad (ius (x0 - (iad (ius x0 1) 1431655765)) 2) 858993459)) 4)) 252645135) + (ius (iad (((iad (x0 - (iad (ius x0 1) 1431655765)) 858993459) + (iad (ius (x0 - (iad (ius x0 1) 1431655765)) 2) 858993459)) + (ius ((iad (x0 - (iad (ius x0 1) 1431655765)) 858993459) + (iad (ius (x0 - (iad (ius x0 1) 1431655765)) 2) 858993459)) 4)) 252645135) 8)) 16)) 63), σ)
set_option maxRecDepth 20000 in
theorem m_J6_bitCount_0f7a4 (x0 : Int)  (σ : St) : MT G l yJ6_bitCount_0f7a4 cJ6_bitCount_0f7a4 1 (some .int) rm_J6_bitCount_0f7a4 [vi x0] wI σ (f_J6_bitCount_0f7a4 x0 σ) := by
  refine mt_I (L := [some (vi x0)]) rfl (Nat.le_of_ble_eq_true rfl) rfl ?_
  show SW G l RJ6 cJ6_bitCount_0f7a4 1 rm_J6_bitCount_0f7a4 wI 0 [some (vi x0)] [] σ (f_J6_bitCount_0f7a4 x0 σ)
  unfold f_J6_bitCount_0f7a4
  refine sw_iload_n (pc' := 1) dJ6_bitCount_0f7a4_0 rfl rfl ?_
  refine sw_iload_n (pc' := 2) dJ6_bitCount_0f7a4_1 rfl rfl ?_
  refine sw_iconst (pc' := 3) dJ6_bitCount_0f7a4_2 rfl ?_
  refine sw_iushr (pc' := 4) dJ6_bitCount_0f7a4_3 rfl ?_
  refine sw_ldcw (n := 1431655765) (pc' := 7) dJ6_bitCount_0f7a4_4 kc_J6_265 rfl ?_
  refine sw_iand (pc' := 8) dJ6_bitCount_0f7a4_7 rfl ?_
  refine sw_isub (pc' := 9) dJ6_bitCount_0f7a4_8 rfl ?_
  refine sw_istore_n (pc' := 10) (x := (x0 - (iad (ius x0 1) 1431655765))) (L' := [some (vi (x0 - (iad (ius x0 1) 1431655765)))]) dJ6_bitCount_0f7a4_9 rfl (by decide) rfl rfl ?_
  refine sw_iload_n (pc' := 11) dJ6_bitCount_0f7a4_10 rfl rfl ?_
  refine sw_ldcw (n := 858993459) (pc' := 14) dJ6_bitCount_0f7a4_11 kc_J6_266 rfl ?_
  refine sw_iand (pc' := 15) dJ6_bitCount_0f7a4_14 rfl ?_
  refine sw_iload_n (pc' := 16) dJ6_bitCount_0f7a4_15 rfl rfl ?_
  refine sw_iconst (pc' := 17) dJ6_bitCount_0f7a4_16 rfl ?_
  refine sw_iushr (pc' := 18) dJ6_bitCount_0f7a4_17 rfl ?_
  refine sw_ldcw (n := 858993459) (pc' := 21) dJ6_bitCount_0f7a4_18 kc_J6_266 rfl ?_
  refine sw_iand (pc' := 22) dJ6_bitCount_0f7a4_21 rfl ?_
  refine sw_iadd (pc' := 23) dJ6_bitCount_0f7a4_22 rfl ?_
  refine sw_istore_n (pc' := 24) (x := ((iad (x0 - (iad (ius x0 1) 1431655765)) 858993459) + (iad (ius (x0 - (iad (ius x0 1) 1431655765)) 2) 858993459))) (L' := [some (vi ((iad (x0 - (iad (ius x0 1) 1431655765)) 858993459) + (iad (ius (x0 - (iad (ius x0 1) 1431655765)) 2) 858993459)))]) dJ6_bitCount_0f7a4_23 rfl (by decide) rfl rfl ?_
  refine sw_iload_n (pc' := 25) dJ6_bitCount_0f7a4_24 rfl rfl ?_
  refine sw_iload_n (pc' := 26) dJ6_bitCount_0f7a4_25 rfl rfl ?_
  refine sw_iconst (pc' := 27) dJ6_bitCount_0f7a4_26 rfl ?_
  refine sw_iushr (pc' := 28) dJ6_bitCount_0f7a4_27 rfl ?_
  refine sw_iadd (pc' := 29) dJ6_bitCount_0f7a4_28 rfl ?_
  refine sw_ldcw (n := 252645135) (pc' := 32) dJ6_bitCount_0f7a4_29 kc_J6_267 rfl ?_
  refine sw_iand (pc' := 33) dJ6_bitCount_0f7a4_32 rfl ?_
  refine sw_istore_n (pc' := 34) (x := (iad (((iad (x0 - (iad (ius x0 1) 1431655765)) 858993459) + (iad (ius (x0 - (iad (ius x0 1) 1431655765)) 2) 858993459)) + (ius ((iad (x0 - (iad (ius x0 1) 1431655765)) 858993459) + (iad (ius (x0 - (iad (ius x0 1) 1431655765)) 2) 858993459)) 4)) 252645135)) (L' := [some (vi (iad (((iad (x0 - (iad (ius x0 1) 1431655765)) 858993459) + (iad (ius (x0 - (iad (ius x0 1) 1431655765)) 2) 858993459)) + (ius ((iad (x0 - (iad (ius x0 1) 1431655765)) 858993459) + (iad (ius (x0 - (iad (ius x0 1) 1431655765)) 2) 858993459)) 4)) 252645135))]) dJ6_bitCount_0f7a4_33 rfl (by decide) rfl rfl ?_
  refine sw_iload_n (pc' := 35) dJ6_bitCount_0f7a4_34 rfl rfl ?_
  refine sw_iload_n (pc' := 36) dJ6_bitCount_0f7a4_35 rfl rfl ?_
  refine sw_bipush (pc' := 38) dJ6_bitCount_0f7a4_36 rfl rfl ?_
  refine sw_iushr (pc' := 39) dJ6_bitCount_0f7a4_38 rfl ?_
  refine sw_iadd (pc' := 40) dJ6_bitCount_0f7a4_39 rfl ?_
  refine sw_istore_n (pc' := 41) (x := ((iad (((iad (x0 - (iad (ius x0 1) 1431655765)) 858993459) + (iad (ius (x0 - (iad (ius x0 1) 1431655765)) 2) 858993459)) + (ius ((iad (x0 - (iad (ius x0 1) 1431655765)) 858993459) + (iad (ius (x0 - (iad (ius x0 1) 1431655765)) 2) 858993459)) 4)) 252645135) + (ius (iad (((iad (x0 - (iad (ius x0 1) 1431655765)) 858993459) + (iad (ius (x0 - (iad (ius x0 1) 1431655765)) 2) 858993459)) + (ius ((iad (x0 - (iad (ius x0 1) 1431655765)) 858993459) + (iad (ius (x0 - (iad (ius x0 1) 1431655765)) 2) 858993459)) 4)) 252645135) 8))) (L' := [some (vi ((iad (((iad (x0 - (iad (ius x0 1) 1431655765)) 858993459) + (iad (ius (x0 - (iad (ius x0 1) 1431655765)) 2) 858993459)) + (ius ((iad (x0 - (iad (ius x0 1) 1431655765)) 858993459) + (iad (ius (x0 - (iad (ius x0 1) 1431655765)) 2) 858993459)) 4)) 252645135) + (ius (iad (((iad (x0 - (iad (ius x0 1) 1431655765)) 858993459) + (iad (ius (x0 - (iad (ius x0 1) 1431655765)) 2) 858993459)) + (ius ((iad (x0 - (iad (ius x0 1) 1431655765)) 858993459) + (iad (ius (x0 - (iad (ius x0 1) 1431655765)) 2) 858993459)) 4)) 252645135) 8)))]) dJ6_bitCount_0f7a4_40 rfl (by decide) rfl rfl ?_
  refine sw_iload_n (pc' := 42) dJ6_bitCount_0f7a4_41 rfl rfl ?_
  refine sw_iload_n (pc' := 43) dJ6_bitCount_0f7a4_42 rfl rfl ?_
  refine sw_bipush (pc' := 45) dJ6_bitCount_0f7a4_43 rfl rfl ?_
  refine sw_iushr (pc' := 46) dJ6_bitCount_0f7a4_45 rfl ?_
  refine sw_iadd (pc' := 47) dJ6_bitCount_0f7a4_46 rfl ?_
  refine sw_istore_n (pc' := 48) (x := (((iad (((iad (x0 - (iad (ius x0 1) 1431655765)) 858993459) + (iad (ius (x0 - (iad (ius x0 1) 1431655765)) 2) 858993459)) + (ius ((iad (x0 - (iad (ius x0 1) 1431655765)) 858993459) + (iad (ius (x0 - (iad (ius x0 1) 1431655765)) 2) 858993459)) 4)) 252645135) + (ius (iad (((iad (x0 - (iad (ius x0 1) 1431655765)) 858993459) + (iad (ius (x0 - (iad (ius x0 1) 1431655765)) 2) 858993459)) + (ius ((iad (x0 - (iad (ius x0 1) 1431655765)) 858993459) + (iad (ius (x0 - (iad (ius x0 1) 1431655765)) 2) 858993459)) 4)) 252645135) 8)) + (ius ((iad (((iad (x0 - (iad (ius x0 1) 1431655765)) 858993459) + (iad (ius (x0 - (iad (ius x0 1) 1431655765)) 2) 858993459)) + (ius ((iad (x0 - (iad (ius x0 1) 1431655765)) 858993459) + (iad (ius (x0 - (iad (ius x0 1) 1431655765)) 2) 858993459)) 4)) 252645135) + (ius (iad (((iad (x0 - (iad (ius x0 1) 1431655765)) 858993459) + (iad (ius (x0 - (iad (ius x0 1) 1431655765)) 2) 858993459)) + (ius ((iad (x0 - (iad (ius x0 1) 1431655765)) 858993459) + (iad (ius (x0 - (iad (ius x0 1) 1431655765)) 2) 858993459)) 4)) 252645135) 8)) 16))) (L' := [some (vi (((iad (((iad (x0 - (iad (ius x0 1) 1431655765)) 858993459) + (iad (ius (x0 - (iad (ius x0 1) 1431655765)) 2) 858993459)) + (ius ((iad (x0 - (iad (ius x0 1) 1431655765)) 858993459) + (iad (ius (x0 - (iad (ius x0 1) 1431655765)) 2) 858993459)) 4)) 252645135) + (ius (iad (((iad (x0 - (iad (ius x0 1) 1431655765)) 858993459) + (iad (ius (x0 - (iad (ius x0 1) 1431655765)) 2) 858993459)) + (ius ((iad (x0 - (iad (ius x0 1) 1431655765)) 858993459) + (iad (ius (x0 - (iad (ius x0 1) 1431655765)) 2) 858993459)) 4)) 252645135) 8)) + (ius ((iad (((iad (x0 - (iad (ius x0 1) 1431655765)) 858993459) + (iad (ius (x0 - (iad (ius x0 1) 1431655765)) 2) 858993459)) + (ius ((iad (x0 - (iad (ius x0 1) 1431655765)) 858993459) + (iad (ius (x0 - (iad (ius x0 1) 1431655765)) 2) 858993459)) 4)) 252645135) + (ius (iad (((iad (x0 - (iad (ius x0 1) 1431655765)) 858993459) + (iad (ius (x0 - (iad (ius x0 1) 1431655765)) 2) 858993459)) + (ius ((iad (x0 - (iad (ius x0 1) 1431655765)) 858993459) + (iad (ius (x0 - (iad (ius x0 1) 1431655765)) 2) 858993459)) 4)) 252645135) 8)) 16)))]) dJ6_bitCount_0f7a4_47 rfl (by decide) rfl rfl ?_
  refine sw_iload_n (pc' := 49) dJ6_bitCount_0f7a4_48 rfl rfl ?_
  refine sw_bipush (pc' := 51) dJ6_bitCount_0f7a4_49 rfl rfl ?_
  refine sw_iand (pc' := 52) dJ6_bitCount_0f7a4_51 rfl ?_
  exact sw_iret dJ6_bitCount_0f7a4_52
def rm_J0_isLatin1_aae02 : Room := { frames := 0, cells := 0, slots := 0, locals := 0 }
def f_J0_isLatin1_aae02 (w : Nat) (σ : St) : Option (Bool × St) :=
  if wr 1 = 0 then
    some (false, σ)
  else
    if wr 0 = 0 then
      some (true, σ)
    else
      some (false, σ)
set_option maxRecDepth 20000 in
theorem m_J0_isLatin1_aae02 (w : Nat) (hw : w < 7) (σ : St) : MT G l yJ0_isLatin1_aae02 cJ0_isLatin1_aae02 1 (some .boolean) rm_J0_isLatin1_aae02 [.ref (gK G w)] wB σ (f_J0_isLatin1_aae02 w σ) := by
  refine mt_B (L := [some (.ref (gK G w))]) rfl (Nat.le_of_ble_eq_true rfl) rfl ?_
  show SW G l RJ0 cJ0_isLatin1_aae02 1 rm_J0_isLatin1_aae02 wB 0 [some (.ref (gK G w))] [] σ (f_J0_isLatin1_aae02 w σ)
  unfold f_J0_isLatin1_aae02
  refine sw_gstC (pc' := 3) dJ0_isLatin1_aae02_0 fw_J0_38 rfl ?_
  refine sw_if_eq (tgt := 17) (pc' := 6) dJ0_isLatin1_aae02_3 (by decide) rfl (fun _ => ?_) (fun _ => ?_)
  · refine sw_iconst (pc' := 18) dJ0_isLatin1_aae02_17 rfl ?_
    exact sw_bret (x := false) dJ0_isLatin1_aae02_18
  · refine sw_aload_n (pc' := 7) dJ0_isLatin1_aae02_6 rfl rfl ?_
    refine sw_wcod (pc' := 10) hw dJ0_isLatin1_aae02_7 fw_J0_15 rfl ?_
    refine sw_if_ne (tgt := 17) (pc' := 13) dJ0_isLatin1_aae02_10 (by decide) rfl (fun _ => ?_) (fun _ => ?_)
    · refine sw_iconst (pc' := 14) dJ0_isLatin1_aae02_13 rfl ?_
      refine sw_goto (pc' := 18) dJ0_isLatin1_aae02_14 (by decide) ?_
      exact sw_bret (x := true) dJ0_isLatin1_aae02_18
    · refine sw_iconst (pc' := 18) dJ0_isLatin1_aae02_17 rfl ?_
      exact sw_bret (x := false) dJ0_isLatin1_aae02_18
def rm_J3_checkIndex_8e157 : Room := { frames := 0, cells := 0, slots := 0, locals := 0 }
def f_J3_checkIndex_8e157 (x0 : Int) (x1 : Int) (σ : St) : Option (Int × St) :=
  if wr x0 < 0 then
    none
  else
    if wr x0 < wr x1 then
      some (x0, σ)
    else
      none
set_option maxRecDepth 20000 in
theorem m_J3_checkIndex_8e157 (x0 : Int) (x1 : Int) (z : (Option Nat))  (σ : St) : MT G l yJ3_checkIndex_8e157 cJ3_checkIndex_8e157 3 (some .int) rm_J3_checkIndex_8e157 [vi x0, vi x1, va_rf z] wI σ (f_J3_checkIndex_8e157 x0 x1 σ) := by
  cases z with
  | none =>
    refine mt_I (L := [some (vi x0), some (vi x1), some (va_rf none)]) rfl (Nat.le_of_ble_eq_true rfl) rfl ?_
    show SW G l RJ3 cJ3_checkIndex_8e157 3 rm_J3_checkIndex_8e157 wI 0 [some (vi x0), some (vi x1), some (va_rf none)] [] σ (f_J3_checkIndex_8e157 x0 x1 σ)
    unfold f_J3_checkIndex_8e157
    refine sw_iload_n (pc' := 1) dJ3_checkIndex_8e157_0 rfl rfl ?_
    refine sw_if_lt (tgt := 9) (pc' := 4) dJ3_checkIndex_8e157_1 (by decide) rfl (fun _ => ?_) (fun _ => ?_)
    · exact sw_none
    · refine sw_iload_n (pc' := 5) dJ3_checkIndex_8e157_4 rfl rfl ?_
      refine sw_iload_n (pc' := 6) dJ3_checkIndex_8e157_5 rfl rfl ?_
      refine sw_icmp_lt (tgt := 16) (pc' := 9) dJ3_checkIndex_8e157_6 (by decide) rfl (fun _ => ?_) (fun _ => ?_)
      · refine sw_iload_n (pc' := 17) dJ3_checkIndex_8e157_16 rfl rfl ?_
        exact sw_iret dJ3_checkIndex_8e157_17
      · exact sw_none
  | some t =>
    refine mt_I (L := [some (vi x0), some (vi x1), some (va_rf (some t))]) rfl (Nat.le_of_ble_eq_true rfl) rfl ?_
    show SW G l RJ3 cJ3_checkIndex_8e157 3 rm_J3_checkIndex_8e157 wI 0 [some (vi x0), some (vi x1), some (va_rf (some t))] [] σ (f_J3_checkIndex_8e157 x0 x1 σ)
    unfold f_J3_checkIndex_8e157
    refine sw_iload_n (pc' := 1) dJ3_checkIndex_8e157_0 rfl rfl ?_
    refine sw_if_lt (tgt := 9) (pc' := 4) dJ3_checkIndex_8e157_1 (by decide) rfl (fun _ => ?_) (fun _ => ?_)
    · exact sw_none
    · refine sw_iload_n (pc' := 5) dJ3_checkIndex_8e157_4 rfl rfl ?_
      refine sw_iload_n (pc' := 6) dJ3_checkIndex_8e157_5 rfl rfl ?_
      refine sw_icmp_lt (tgt := 16) (pc' := 9) dJ3_checkIndex_8e157_6 (by decide) rfl (fun _ => ?_) (fun _ => ?_)
      · refine sw_iload_n (pc' := 17) dJ3_checkIndex_8e157_16 rfl rfl ?_
        exact sw_iret dJ3_checkIndex_8e157_17
      · exact sw_none
def rm_J0_checkIndex_df160 : Room := { frames := 1, cells := 0, slots := 0, locals := 22 }
def f_J0_checkIndex_df160 (x0 : Int) (x1 : Int) (σ : St) : Option (St) :=
  bI (f_J3_checkIndex_8e157 x0 x1 σ) fun v5 s5 => some s5
set_option maxRecDepth 20000 in
theorem m_J0_checkIndex_df160 (x0 : Int) (x1 : Int)  (σ : St) : MT G l yJ0_checkIndex_df160 cJ0_checkIndex_df160 2 none rm_J0_checkIndex_df160 [vi x0, vi x1] wV σ (f_J0_checkIndex_df160 x0 x1 σ) := by
  refine mt_V (L := [some (vi x0), some (vi x1)]) rfl (Nat.le_of_ble_eq_true rfl) rfl ?_
  show SW G l RJ0 cJ0_checkIndex_df160 2 rm_J0_checkIndex_df160 wV 0 [some (vi x0), some (vi x1)] [] σ (f_J0_checkIndex_df160 x0 x1 σ)
  unfold f_J0_checkIndex_df160
  refine sw_iload_n (pc' := 1) dJ0_checkIndex_df160_0 rfl rfl ?_
  refine sw_iload_n (pc' := 2) dJ0_checkIndex_df160_1 rfl rfl ?_
  refine sw_gstZ (pc' := 5) dJ0_checkIndex_df160_2 fw_J0_1053 rfl (fun z => ?_)
  refine sw_callSI (pc' := 8) (As := [vi x0, vi x1, va_rf z]) (rest := []) dJ0_checkIndex_df160_5 cs_J0_1059 (m_J3_checkIndex_8e157 x0 x1 z σ) rfl rfl rfl rfl rfl (fun v5 s5 => ?_)
  refine sw_pop (pc' := 9) dJ0_checkIndex_df160_8 rfl rfl ?_
  exact sw_vret dJ0_checkIndex_df160_9
def rm_J1_charAt_3b067 : Room := { frames := 2, cells := 0, slots := 0, locals := 43 }
def f_J1_charAt_3b067 (u : Nat) (x1 : Int) (σ : St) : Option (Int × St) :=
  bV (f_J0_checkIndex_df160 x1 (wln u) σ) fun s3 => bV (wby u x1) fun v8 => if nac (nch (iad v8 255)) = wr (nch (iad v8 255)) then some ((nch (iad v8 255)), s3) else none
set_option maxRecDepth 20000 in
theorem m_J1_charAt_3b067 (u : Nat) (x1 : Int) (hu : u < 7) (σ : St) : MT G l yJ1_charAt_3b067 cJ1_charAt_3b067 2 (some .char) rm_J1_charAt_3b067 [.ref (gV G u), vi x1] wC σ (f_J1_charAt_3b067 u x1 σ) := by
  refine mt_C (L := [some (.ref (gV G u)), some (vi x1)]) rfl (Nat.le_of_ble_eq_true rfl) rfl ?_
  show SW G l RJ1 cJ1_charAt_3b067 2 rm_J1_charAt_3b067 wC 0 [some (.ref (gV G u)), some (vi x1)] [] σ (f_J1_charAt_3b067 u x1 σ)
  unfold f_J1_charAt_3b067
  refine sw_iload_n (pc' := 1) dJ1_charAt_3b067_0 rfl rfl ?_
  refine sw_aload_n (pc' := 2) dJ1_charAt_3b067_1 rfl rfl ?_
  refine sw_wlen (pc' := 3) hu dJ1_charAt_3b067_2 rfl ?_
  refine sw_callSV (pc' := 6) (As := [vi x1, vi (wln u)]) (rest := []) dJ1_charAt_3b067_3 cs_J1_9 (m_J0_checkIndex_df160 x1 (wln u) σ) rfl rfl rfl rfl rfl (fun s3 => ?_)
  refine sw_aload_n (pc' := 7) dJ1_charAt_3b067_6 rfl rfl ?_
  refine sw_iload_n (pc' := 8) dJ1_charAt_3b067_7 rfl rfl ?_
  refine sw_wbal (pc' := 9) hu dJ1_charAt_3b067_8 rfl (fun v8 => ?_)
  refine sw_sipush (pc' := 12) dJ1_charAt_3b067_9 rfl rfl ?_
  refine sw_iand (pc' := 13) dJ1_charAt_3b067_12 rfl ?_
  refine sw_i2c (pc' := 14) dJ1_charAt_3b067_13 rfl ?_
  exact sw_cret dJ1_charAt_3b067_14
def rm_J0_charAt_5068e : Room := { frames := 3, cells := 0, slots := 0, locals := 64 }
def f_J0_charAt_5068e (w : Nat) (x1 : Int) (σ : St) : Option (Int × St) :=
  bI (f_J0_isLatin1_aae02 w σ) fun v1 s1 => if v1 then
    bI (f_J1_charAt_3b067 w x1 s1) fun v12 s12 => if nac (nac v12) = wr (nac v12) then some ((nac v12), s12) else none
  else
    none
set_option maxRecDepth 20000 in
theorem m_J0_charAt_5068e (w : Nat) (x1 : Int) (hw : w < 7) (σ : St) : MT G l yJ0_charAt_5068e cJ0_charAt_5068e 2 (some .char) rm_J0_charAt_5068e [.ref (gK G w), vi x1] wC σ (f_J0_charAt_5068e w x1 σ) := by
  refine mt_C (L := [some (.ref (gK G w)), some (vi x1)]) rfl (Nat.le_of_ble_eq_true rfl) rfl ?_
  show SW G l RJ0 cJ0_charAt_5068e 2 rm_J0_charAt_5068e wC 0 [some (.ref (gK G w)), some (vi x1)] [] σ (f_J0_charAt_5068e w x1 σ)
  unfold f_J0_charAt_5068e
  refine sw_aload_n (pc' := 1) dJ0_charAt_5068e_0 rfl rfl ?_
  refine sw_callKB (pc' := 4) (As := []) (rest := []) hw dJ0_charAt_5068e_1 ck_J0_492 (m_J0_isLatin1_aae02 w hw σ) rfl rfl rfl rfl rfl (fun v1 s1 => ?_)
  refine sw_bif_eq (tgt := 16) (pc' := 7) dJ0_charAt_5068e_4 (by decide) rfl (fun _ => ?_) (fun _ => ?_)
  · refine sw_aload_n (pc' := 8) dJ0_charAt_5068e_7 rfl rfl ?_
    refine sw_wval (pc' := 11) hw dJ0_charAt_5068e_8 fw_J0_9 rfl ?_
    refine sw_iload_n (pc' := 12) dJ0_charAt_5068e_11 rfl rfl ?_
    refine sw_callSC (pc' := 15) (As := [.ref (gV G w), vi x1]) (rest := []) dJ0_charAt_5068e_12 cs_J0_495 (m_J1_charAt_3b067 w x1 hw s1) rfl rfl rfl rfl rfl (fun v12 s12 => ?_)
    exact sw_cret dJ0_charAt_5068e_15
  · exact sw_none
def rm_J0_coder_7d493 : Room := { frames := 0, cells := 0, slots := 0, locals := 0 }
def f_J0_coder_7d493 (w : Nat) (σ : St) : Option (Int × St) :=
  if wr 1 = 0 then
    if nab 1 = wr 1 then some (1, σ) else none
  else
    if nab 0 = wr 0 then some (0, σ) else none
set_option maxRecDepth 20000 in
theorem m_J0_coder_7d493 (w : Nat) (hw : w < 7) (σ : St) : MT G l yJ0_coder_7d493 cJ0_coder_7d493 1 (some .byte) rm_J0_coder_7d493 [.ref (gK G w)] wY σ (f_J0_coder_7d493 w σ) := by
  refine mt_Y (L := [some (.ref (gK G w))]) rfl (Nat.le_of_ble_eq_true rfl) rfl ?_
  show SW G l RJ0 cJ0_coder_7d493 1 rm_J0_coder_7d493 wY 0 [some (.ref (gK G w))] [] σ (f_J0_coder_7d493 w σ)
  unfold f_J0_coder_7d493
  refine sw_gstC (pc' := 3) dJ0_coder_7d493_0 fw_J0_38 rfl ?_
  refine sw_if_eq (tgt := 13) (pc' := 6) dJ0_coder_7d493_3 (by decide) rfl (fun _ => ?_) (fun _ => ?_)
  · refine sw_iconst (pc' := 14) dJ0_coder_7d493_13 rfl ?_
    exact sw_yret dJ0_coder_7d493_14
  · refine sw_aload_n (pc' := 7) dJ0_coder_7d493_6 rfl rfl ?_
    refine sw_wcod (pc' := 10) hw dJ0_coder_7d493_7 fw_J0_15 rfl ?_
    refine sw_goto (pc' := 14) dJ0_coder_7d493_10 (by decide) ?_
    exact sw_yret dJ0_coder_7d493_14
def rm_J0_length_8abf5 : Room := { frames := 1, cells := 0, slots := 0, locals := 20 }
def f_J0_length_8abf5 (w : Nat) (σ : St) : Option (Int × St) :=
  bI (f_J0_coder_7d493 w σ) fun v6 s6 => some ((isr (wln w) (nab v6)), s6)
set_option maxRecDepth 20000 in
theorem m_J0_length_8abf5 (w : Nat) (hw : w < 7) (σ : St) : MT G l yJ0_length_8abf5 cJ0_length_8abf5 1 (some .int) rm_J0_length_8abf5 [.ref (gK G w)] wI σ (f_J0_length_8abf5 w σ) := by
  refine mt_I (L := [some (.ref (gK G w))]) rfl (Nat.le_of_ble_eq_true rfl) rfl ?_
  show SW G l RJ0 cJ0_length_8abf5 1 rm_J0_length_8abf5 wI 0 [some (.ref (gK G w))] [] σ (f_J0_length_8abf5 w σ)
  unfold f_J0_length_8abf5
  refine sw_aload_n (pc' := 1) dJ0_length_8abf5_0 rfl rfl ?_
  refine sw_wval (pc' := 4) hw dJ0_length_8abf5_1 fw_J0_9 rfl ?_
  refine sw_wlen (pc' := 5) hw dJ0_length_8abf5_4 rfl ?_
  refine sw_aload_n (pc' := 6) dJ0_length_8abf5_5 rfl rfl ?_
  refine sw_callKY (pc' := 9) (As := []) (rest := [vi (wln w)]) hw dJ0_length_8abf5_6 ck_J0_335 (m_J0_coder_7d493 w hw σ) rfl rfl rfl rfl rfl (fun v6 s6 => ?_)
  refine sw_ishr (pc' := 10) dJ0_length_8abf5_9 rfl ?_
  exact sw_iret dJ0_length_8abf5_10
end GEN
