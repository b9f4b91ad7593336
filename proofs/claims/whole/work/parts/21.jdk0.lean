section GEN
variable {G : Gh} {l : Launch}
def rm_J7_fill_53178 : Room := { frames := 0, cells := 0, slots := 0, locals := 0 }
def f_J7_fill_53178_5 (a0 : Nat) (n0 : Nat)  : Nat → Int → Int → Int → St → Option (St)
  | 0, _, _, _, _ => none
  | n + 1, x1, x2, x3, σ =>
    if wr x2 < wr x3 then
      bV (sv σ a0 n0 x2 x1) fun s13 => (f_J7_fill_53178_5 a0 n0 n) x1 (x2 + 1) x3 s13
    else
      some σ
set_option maxRecDepth 20000 in
theorem s_J7_fill_53178_5 (a0 : Nat) (n0 : Nat) (ht0 : tb a0 = .inl (0, n0))   : ∀ (n : Nat) (x1 x2 x3 : Int) (σ : St), SW G l RJ7 cJ7_fill_53178 4 rm_J7_fill_53178 wV 5 [some (.ref (ad G a0)), some (vi x1), some (vi x2), some (vi x3)] [] σ (f_J7_fill_53178_5 a0 n0 n x1 x2 x3 σ) := by
  intro n
  induction n with
  | zero => intro x1 x2 x3 σ; exact sw_none
  | succ n ih =>
    intro x1 x2 x3 σ
    rw [f_J7_fill_53178_5]
    refine sw_iload_n (pc' := 6) dJ7_fill_53178_5 rfl rfl ?_
    refine sw_iload_n (pc' := 7) dJ7_fill_53178_6 rfl rfl ?_
    refine sw_icmp_ge (tgt := 20) (pc' := 10) dJ7_fill_53178_7 (by decide) rfl (fun _ => ?_) (fun _ => ?_)
    · refine sw_aload_n (pc' := 11) dJ7_fill_53178_10 rfl rfl ?_
      refine sw_iload_n (pc' := 12) dJ7_fill_53178_11 rfl rfl ?_
      refine sw_iload_n (pc' := 13) dJ7_fill_53178_12 rfl rfl ?_
      refine sw_iast (pc' := 14) dJ7_fill_53178_13 (ht0) rfl (fun s13 => ?_)
      refine sw_iinc (pc' := 17) (x := x2) (L' := [some (.ref (ad G a0)), some (vi x1), some (vi (x2 + 1)), some (vi x3)]) dJ7_fill_53178_14 rfl (by decide) rfl rfl rfl ?_
      refine sw_goto (pc' := 5) dJ7_fill_53178_17 (by decide) ?_
      exact (ih) x1 (x2 + 1) x3 s13
    · exact sw_vret dJ7_fill_53178_20
def f_J7_fill_53178 (a0 : Nat) (n0 : Nat) (x1 : Int) (σ : St) : Option (St) :=
  f_J7_fill_53178_5 a0 n0 FU x1 0 (n0 : Int) σ
set_option maxRecDepth 20000 in
theorem m_J7_fill_53178 (a0 : Nat) (n0 : Nat) (x1 : Int) (ht0 : tb a0 = .inl (0, n0)) (σ : St) : MT G l yJ7_fill_53178 cJ7_fill_53178 4 none rm_J7_fill_53178 [.ref (ad G a0), vi x1] wV σ (f_J7_fill_53178 a0 n0 x1 σ) := by
  refine mt_V (L := [some (.ref (ad G a0)), some (vi x1), none, none]) rfl (Nat.le_of_ble_eq_true rfl) rfl ?_
  show SW G l RJ7 cJ7_fill_53178 4 rm_J7_fill_53178 wV 0 [some (.ref (ad G a0)), some (vi x1), none, none] [] σ (f_J7_fill_53178 a0 n0 x1 σ)
  unfold f_J7_fill_53178
  refine sw_iconst (pc' := 1) dJ7_fill_53178_0 rfl ?_
  refine sw_istore_n (pc' := 2) (x := 0) (L' := [some (.ref (ad G a0)), some (vi x1), some (vi 0), none]) dJ7_fill_53178_1 rfl (by decide) rfl rfl ?_
  refine sw_aload_n (pc' := 3) dJ7_fill_53178_2 rfl rfl ?_
  refine sw_alen (pc' := 4) dJ7_fill_53178_3 (ht0) (by decide) rfl ?_
  refine sw_istore_n (pc' := 5) (x := (n0 : Int)) (L' := [some (.ref (ad G a0)), some (vi x1), some (vi 0), some (vi (n0 : Int))]) dJ7_fill_53178_4 rfl (by decide) rfl rfl ?_
  exact s_J7_fill_53178_5 a0 n0 ht0 FU x1 0 (n0 : Int) σ
def rm_J6_bitCount_0f7a4 : Room := { frames := 0, cells := 0, slots := 0, locals := 0 }
def f_J6_bitCount_0f7a4 (x0 : Int) (σ : St) : Option (Int × St) :=
  some ((iad (((iad (((iad (x0 - (iad (ius x0 1) 1431655765)) 858993459) + (iad (ius (x0 - (iad (ius x0 1) 1431655765)) 2) 858993459)) + (ius ((iad (x0 - (iad (ius x0 1) 1431655765)) 858993459) + (iad (ius (x0 - (iad (ius x0 1) 1431655765)) 2) 858993459)) 4)) 252645135) + (ius (iad (((iad (x0 - (iad (ius x0 1) 1431655765)) 858993459) + (iad (ius (x0 - (iad (ius x0 1) 1431655765)) 2) 858993459)) + (ius ((iad (x0 - (iad (ius x0 1) 1431655765)) 858993459) + (iad (ius (x0 - (iad (ius x0 1) 1431655765)) 2) 858993459)) 4)) 252645135) 8)) + (ius ((iad (((iad (x0 - (iad (ius x0 1) 1431655765)) 858993459) + (iad (ius (x0 - (iad (ius x0 1) 1431655765)) 2) 858993459)) + (ius ((iad (x0 - (iad (ius x0 1) 1431655765)) 858993459) + (iad (ius (x0 - (iad (ius x0 1) 1431655765)) 2) 858993459)) 4)) 252645135) + (ius (iad (((iad (x0 - (iad (ius x0 1) 1431655765)) 858993459) + (iad (ius (x0 - (iad (ius x0 1) 1431655765)) 2) 858993459)) + (ius ((iad (x0 - (iad (ius x0 1) 1431655765)) 858993459) + (iad (ius (x0 - (iad (ius x0 1) 1431655765)) 2) 858993459)) 4)) 252645135) 8)) 16)) 63), σ)
set_option maxRecDepth 20000 in
theorem m_J6_bitCount_0f7a4 (x0 : Int)  (σ : St) : MT G l yJ6_bitCount_0f7a4 cJ6_bitCount_0f7a4 1 (some .int) rm_J6_bitCount_0f7a4 [vi x0] wI σ (f_J6_bitCount_0f7a4 x0 σ) := by
  refine mt_I (L := [some (vi x0)]) rfl (Nat.le_of_ble_eq_true rfl) rfl ?_
  show SW G l RJ6 cJ6_bitCount_0f7a4 1 rm_J6_bitCount_0f7a4 wI 0 [some (vi x0)] [] σ (f_J6_bitCount_0f7a4 x0 σ)
  unfold f_J6_bitCount_0f7a4
  refine sw_iload_n (pc' := 1) dJ6_bitCount_0f7a4_0 rfl rfl ?_
  refine sw_iload_n (pc' := 2) dJ6_bitCount_0f7a4_1 rfl rfl ?_
  refine sw_iconst (pc' := 3) dJ6_bitCount_0f7a4_2 rfl ?_
  refine sw_iushr (pc' := 4) dJ6_bitCount_0f7a4_3 rfl ?_
  refine sw_ldcw (n := 1431655765) (pc' := 7) dJ6_bitCount_0f7a4_4 kc_J6_265 rfl ?_
  refine sw_iand (pc' := 8) dJ6_bitCount_0f7a4_7 rfl ?_
  refine sw_isub (pc' := 9) dJ6_bitCount_0f7a4_8 rfl ?_
  refine sw_istore_n (pc' := 10) (x := (x0 - (iad (ius x0 1) 1431655765))) (L' := [some (vi (x0 - (iad (ius x0 1) 1431655765)))]) dJ6_bitCount_0f7a4_9 rfl (by decide) rfl rfl ?_
  refine sw_iload_n (pc' := 11) dJ6_bitCount_0f7a4_10 rfl rfl ?_
  refine sw_ldcw (n := 858993459) (pc' := 14) dJ6_bitCount_0f7a4_11 kc_J6_266 rfl ?_
  refine sw_iand (pc' := 15) dJ6_bitCount_0f7a4_14 rfl ?_
  refine sw_iload_n (pc' := 16) dJ6_bitCount_0f7a4_15 rfl rfl ?_
  refine sw_iconst (pc' := 17) dJ6_bitCount_0f7a4_16 rfl ?_
  refine sw_iushr (pc' := 18) dJ6_bitCount_0f7a4_17 rfl ?_
  refine sw_ldcw (n := 858993459) (pc' := 21) dJ6_bitCount_0f7a4_18 kc_J6_266 rfl ?_
  refine sw_iand (pc' := 22) dJ6_bitCount_0f7a4_21 rfl ?_
  refine sw_iadd (pc' := 23) dJ6_bitCount_0f7a4_22 rfl ?_
  refine sw_istore_n (pc' := 24) (x := ((iad (x0 - (iad (ius x0 1) 1431655765)) 858993459) + (iad (ius (x0 - (iad (ius x0 1) 1431655765)) 2) 858993459))) (L' := [some (vi ((iad (x0 - (iad (ius x0 1) 1431655765)) 858993459) + (iad (ius (x0 - (iad (ius x0 1) 1431655765)) 2) 858993459)))]) dJ6_bitCount_0f7a4_23 rfl (by decide) rfl rfl ?_
  refine sw_iload_n (pc' := 25) dJ6_bitCount_0f7a4_24 rfl rfl ?_
  refine sw_iload_n (pc' := 26) dJ6_bitCount_0f7a4_25 rfl rfl ?_
  refine sw_iconst (pc' := 27) dJ6_bitCount_0f7a4_26 rfl ?_
  refine sw_iushr (pc' := 28) dJ6_bitCount_0f7a4_27 rfl ?_
  refine sw_iadd (pc' := 29) dJ6_bitCount_0f7a4_28 rfl ?_
  refine sw_ldcw (n := 252645135) (pc' := 32) dJ6_bitCount_0f7a4_29 kc_J6_267 rfl ?_
  refine sw_iand (pc' := 33) dJ6_bitCount_0f7a4_32 rfl ?_
  refine sw_istore_n (pc' := 34) (x := (iad (((iad (x0 - (iad (ius x0 1) 1431655765)) 858993459) + (iad (ius (x0 - (iad (ius x0 1) 1431655765)) 2) 858993459)) + (ius ((iad (x0 - (iad (ius x0 1) 1431655765)) 858993459) + (iad (ius (x0 - (iad (ius x0 1) 1431655765)) 2) 858993459)) 4)) 252645135)) (L' := [some (vi (iad (((iad (x0 - (iad (ius x0 1) 1431655765)) 858993459) + (iad (ius (x0 - (iad (ius x0 1) 1431655765)) 2) 858993459)) + (ius ((iad (x0 - (iad (ius x0 1) 1431655765)) 858993459) + (iad (ius (x0 - (iad (ius x0 1) 1431655765)) 2) 858993459)) 4)) 252645135))]) dJ6_bitCount_0f7a4_33 rfl (by decide) rfl rfl ?_
  refine sw_iload_n (pc' := 35) dJ6_bitCount_0f7a4_34 rfl rfl ?_
  refine sw_iload_n (pc' := 36) dJ6_bitCount_0f7a4_35 rfl rfl ?_
  refine sw_bipush (pc' := 38) dJ6_bitCount_0f7a4_36 rfl rfl ?_
  refine sw_iushr (pc' := 39) dJ6_bitCount_0f7a4_38 rfl ?_
  refine sw_iadd (pc' := 40) dJ6_bitCount_0f7a4_39 rfl ?_
  refine sw_istore_n (pc' := 41) (x := ((iad (((iad (x0 - (iad (ius x0 1) 1431655765)) 858993459) + (iad (ius (x0 - (iad (ius x0 1) 1431655765)) 2) 858993459)) + (ius ((iad (x0 - (iad (ius x0 1) 1431655765)) 858993459) + (iad (ius (x0 - (iad (ius x0 1) 1431655765)) 2) 858993459)) 4)) 252645135) + (ius (iad (((iad (x0 - (iad (ius x0 1) 1431655765)) 858993459) + (iad (ius (x0 - (iad (ius x0 1) 1431655765)) 2) 858993459)) + (ius ((iad (x0 - (iad (ius x0 1) 1431655765)) 858993459) + (iad (ius (x0 - (iad (ius x0 1) 1431655765)) 2) 858993459)) 4)) 252645135) 8))) (L' := [some (vi ((iad (((iad (x0 - (iad (ius x0 1) 1431655765)) 858993459) + (iad (ius (x0 - (iad (ius x0 1) 1431655765)) 2) 858993459)) + (ius ((iad (x0 - (iad (ius x0 1) 1431655765)) 858993459) + (iad (ius (x0 - (iad (ius x0 1) 1431655765)) 2) 858993459)) 4)) 252645135) + (ius (iad (((iad (x0 - (iad (ius x0 1) 1431655765)) 858993459) + (iad (ius (x0 - (iad (ius x0 1) 1431655765)) 2) 858993459)) + (ius ((iad (x0 - (iad (ius x0 1) 1431655765)) 858993459) + (iad (ius (x0 - (iad (ius x0 1) 1431655765)) 2) 858993459)) 4)) 252645135) 8)))]) dJ6_bitCount_0f7a4_40 rfl (by decide) rfl rfl ?_
  refine sw_iload_n (pc' := 42) dJ6_bitCount_0f7a4_41 rfl rfl ?_
  refine sw_iload_n (pc' := 43) dJ6_bitCount_0f7a4_42 rfl rfl ?_
  refine sw_bipush (pc' := 45) dJ6_bitCount_0f7a4_43 rfl rfl ?_
  refine sw_iushr (pc' := 46) dJ6_bitCount_0f7a4_45 rfl ?_
  refine sw_iadd (pc' := 47) dJ6_bitCount_0f7a4_46 rfl ?_
  refine sw_istore_n (pc' := 48) (x := (((iad (((iad (x0 - (iad (ius x0 1) 1431655765)) 858993459) + (iad (ius (x0 - (iad (ius x0 1) 1431655765)) 2) 858993459)) + (ius ((iad (x0 - (iad (ius x0 1) 1431655765)) 858993459) + (iad (ius (x0 - (iad (ius x0 1) 1431655765)) 2) 858993459)) 4)) 252645135) + (ius (iad (((iad (x0 - (iad (ius x0 1) 1431655765)) 858993459) + (iad (ius (x0 - (iad (ius x0 1) 1431655765)) 2) 858993459)) + (ius ((iad (x0 - (iad (ius x0 1) 1431655765)) 858993459) + (iad (ius (x0 - (iad (ius x0 1) 1431655765)) 2) 858993459)) 4)) 252645135) 8)) + (ius ((iad (((iad (x0 - (iad (ius x0 1) 1431655765)) 858993459) + (iad (ius (x0 - (iad (ius x0 1) 1431655765)) 2) 858993459)) + (ius ((iad (x0 - (iad (ius x0 1) 1431655765)) 858993459) + (iad (ius (x0 - (iad (ius x0 1) 1431655765)) 2) 858993459)) 4)) 252645135) + (ius (iad (((iad (x0 - (iad (ius x0 1) 1431655765)) 858993459) + (iad (ius (x0 - (iad (ius x0 1) 1431655765)) 2) 858993459)) + (ius ((iad (x0 - (iad (ius x0 1) 1431655765)) 858993459) + (iad (ius (x0 - (iad (ius x0 1) 1431655765)) 2) 858993459)) 4)) 252645135) 8)) 16))) (L' := [some (vi (((iad (((iad (x0 - (iad (ius x0 1) 1431655765)) 858993459) + (iad (ius (x0 - (iad (ius x0 1) 1431655765)) 2) 858993459)) + (ius ((iad (x0 - (iad (ius x0 1) 1431655765)) 858993459) + (iad (ius (x0 - (iad (ius x0 1) 1431655765)) 2) 858993459)) 4)) 252645135) + (ius (iad (((iad (x0 - (iad (ius x0 1) 1431655765)) 858993459) + (iad (ius (x0 - (iad (ius x0 1) 1431655765)) 2) 858993459)) + (ius ((iad (x0 - (iad (ius x0 1) 1431655765)) 858993459) + (iad (ius (x0 - (iad (ius x0 1) 1431655765)) 2) 858993459)) 4)) 252645135) 8)) + (ius ((iad (((iad (x0 - (iad (ius x0 1) 1431655765)) 858993459) + (iad (ius (x0 - (iad (ius x0 1) 1431655765)) 2) 858993459)) + (ius ((iad (x0 - (iad (ius x0 1) 1431655765)) 858993459) + (iad (ius (x0 - (iad (ius x0 1) 1431655765)) 2) 858993459)) 4)) 252645135) + (ius (iad (((iad (x0 - (iad (ius x0 1) 1431655765)) 858993459) + (iad (ius (x0 - (iad (ius x0 1) 1431655765)) 2) 858993459)) + (ius ((iad (x0 - (iad (ius x0 1) 1431655765)) 858993459) + (iad (ius (x0 - (iad (ius x0 1) 1431655765)) 2) 858993459)) 4)) 252645135) 8)) 16)))]) dJ6_bitCount_0f7a4_47 rfl (by decide) rfl rfl ?_
  refine sw_iload_n (pc' := 49) dJ6_bitCount_0f7a4_48 rfl rfl ?_
  refine sw_bipush (pc' := 51) dJ6_bitCount_0f7a4_49 rfl rfl ?_
  refine sw_iand (pc' := 52) dJ6_bitCount_0f7a4_51 rfl ?_
  exact sw_iret dJ6_bitCount_0f7a4_52
end GEN
