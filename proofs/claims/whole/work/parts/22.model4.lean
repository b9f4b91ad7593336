section GEN
variable {G : Gh} {l : Launch}
def rm_X5_worstAt : Room := { frames := 0, cells := 0, slots := 0, locals := 0 }
def f_X5_worstAt_79  (k5 : Int → Int → Int → Int → St → Option (Int × St)) (k18 : Int → Int → Int → Int → Int → Int → St → Option (Int × St)) (x1 x2 x3 x4 x6 t0 t1 : Int) (σ : St) : Option (Int × St) :=
  k18 x1 x2 x3 x4 (t0 + t1) (x6 + 1) σ
set_option maxRecDepth 20000 in
theorem s_X5_worstAt_79   (k5 : Int → Int → Int → Int → St → Option (Int × St)) (k18 : Int → Int → Int → Int → Int → Int → St → Option (Int × St)) (hk5 : ∀ (x1 x2 x3 x4 : Int) (σ : St), SW G l RX5 cX5_worstAt 7 rm_X5_worstAt wI 5 [some (.ref (ad G 51)), some (vi x1), some (vi x2), some (vi x3), some (vi x4), none, none] [] σ (k5 x1 x2 x3 x4 σ)) (hk18 : ∀ (x1 x2 x3 x4 x5 x6 : Int) (σ : St), SW G l RX5 cX5_worstAt 7 rm_X5_worstAt wI 18 [some (.ref (ad G 51)), some (vi x1), some (vi x2), some (vi x3), some (vi x4), some (vi x5), some (vi x6)] [] σ (k18 x1 x2 x3 x4 x5 x6 σ)) (x1 x2 x3 x4 x6 t0 t1 : Int) (σ : St) : SW G l RX5 cX5_worstAt 7 rm_X5_worstAt wI 79 [some (.ref (ad G 51)), some (vi x1), some (vi x2), some (vi x3), some (vi x4), none, some (vi x6)] [vi t1, vi t0] σ (f_X5_worstAt_79 k5 k18 x1 x2 x3 x4 x6 t0 t1 σ) := by
  unfold f_X5_worstAt_79
  refine sw_iadd (pc' := 80) dX5_worstAt_79 rfl ?_
  refine sw_istore (pc' := 82) (x := (t0 + t1)) (L' := [some (.ref (ad G 51)), some (vi x1), some (vi x2), some (vi x3), some (vi x4), some (vi (t0 + t1)), some (vi x6)]) dX5_worstAt_80 rfl (by decide) rfl rfl ?_
  refine sw_iinc (pc' := 85) (x := x6) (L' := [some (.ref (ad G 51)), some (vi x1), some (vi x2), some (vi x3), some (vi x4), some (vi (t0 + t1)), some (vi (x6 + 1))]) dX5_worstAt_82 rfl (by decide) rfl rfl rfl ?_
  refine sw_goto (pc' := 18) dX5_worstAt_85 (by decide) ?_
  exact hk18 x1 x2 x3 x4 (t0 + t1) (x6 + 1) σ
def f_X5_worstAt_78  (k5 : Int → Int → Int → Int → St → Option (Int × St)) (k18 : Int → Int → Int → Int → Int → Int → St → Option (Int × St)) (x1 x2 x3 x4 x6 t0 : Int) (σ : St) : Option (Int × St) :=
  f_X5_worstAt_79 k5 k18 x1 x2 x3 x4 x6 t0 0 σ
set_option maxRecDepth 20000 in
theorem s_X5_worstAt_78   (k5 : Int → Int → Int → Int → St → Option (Int × St)) (k18 : Int → Int → Int → Int → Int → Int → St → Option (Int × St)) (hk5 : ∀ (x1 x2 x3 x4 : Int) (σ : St), SW G l RX5 cX5_worstAt 7 rm_X5_worstAt wI 5 [some (.ref (ad G 51)), some (vi x1), some (vi x2), some (vi x3), some (vi x4), none, none] [] σ (k5 x1 x2 x3 x4 σ)) (hk18 : ∀ (x1 x2 x3 x4 x5 x6 : Int) (σ : St), SW G l RX5 cX5_worstAt 7 rm_X5_worstAt wI 18 [some (.ref (ad G 51)), some (vi x1), some (vi x2), some (vi x3), some (vi x4), some (vi x5), some (vi x6)] [] σ (k18 x1 x2 x3 x4 x5 x6 σ)) (x1 x2 x3 x4 x6 t0 : Int) (σ : St) : SW G l RX5 cX5_worstAt 7 rm_X5_worstAt wI 78 [some (.ref (ad G 51)), some (vi x1), some (vi x2), some (vi x3), some (vi x4), none, some (vi x6)] [vi t0] σ (f_X5_worstAt_78 k5 k18 x1 x2 x3 x4 x6 t0 σ) := by
  unfold f_X5_worstAt_78
  refine sw_iconst (pc' := 79) dX5_worstAt_78 rfl ?_
  exact s_X5_worstAt_79 k5 k18 hk5 hk18 x1 x2 x3 x4 x6 t0 0 σ
def f_X5_worstAt_100  (k5 : Int → Int → Int → Int → St → Option (Int × St)) (x1 x2 x4 t0 : Int) (σ : St) : Option (Int × St) :=
  k5 x1 x2 t0 (x4 + 1) σ
set_option maxRecDepth 20000 in
theorem s_X5_worstAt_100   (k5 : Int → Int → Int → Int → St → Option (Int × St)) (hk5 : ∀ (x1 x2 x3 x4 : Int) (σ : St), SW G l RX5 cX5_worstAt 7 rm_X5_worstAt wI 5 [some (.ref (ad G 51)), some (vi x1), some (vi x2), some (vi x3), some (vi x4), none, none] [] σ (k5 x1 x2 x3 x4 σ)) (x1 x2 x4 t0 : Int) (σ : St) : SW G l RX5 cX5_worstAt 7 rm_X5_worstAt wI 100 [some (.ref (ad G 51)), some (vi x1), some (vi x2), none, some (vi x4), none, none] [vi t0] σ (f_X5_worstAt_100 k5 x1 x2 x4 t0 σ) := by
  unfold f_X5_worstAt_100
  refine sw_istore_n (pc' := 101) (x := t0) (L' := [some (.ref (ad G 51)), some (vi x1), some (vi x2), some (vi t0), some (vi x4), none, none]) dX5_worstAt_100 rfl (by decide) rfl rfl ?_
  refine sw_iinc (pc' := 104) (x := x4) (L' := [some (.ref (ad G 51)), some (vi x1), some (vi x2), some (vi t0), some (vi (x4 + 1)), none, none]) dX5_worstAt_101 rfl (by decide) rfl rfl rfl ?_
  refine sw_goto (pc' := 5) dX5_worstAt_104 (by decide) ?_
  exact hk5 x1 x2 t0 (x4 + 1) σ
def f_X5_worstAt_88  (k5 : Int → Int → Int → Int → St → Option (Int × St)) (x1 x2 x3 x4 x5 : Int) (σ : St) : Option (Int × St) :=
  if wr x3 < wr x5 then
    f_X5_worstAt_100 k5 x1 x2 x4 x5 σ
  else
    f_X5_worstAt_100 k5 x1 x2 x4 x3 σ
set_option maxRecDepth 20000 in
theorem s_X5_worstAt_88   (k5 : Int → Int → Int → Int → St → Option (Int × St)) (hk5 : ∀ (x1 x2 x3 x4 : Int) (σ : St), SW G l RX5 cX5_worstAt 7 rm_X5_worstAt wI 5 [some (.ref (ad G 51)), some (vi x1), some (vi x2), some (vi x3), some (vi x4), none, none] [] σ (k5 x1 x2 x3 x4 σ)) (x1 x2 x3 x4 x5 : Int) (σ : St) : SW G l RX5 cX5_worstAt 7 rm_X5_worstAt wI 88 [some (.ref (ad G 51)), some (vi x1), some (vi x2), some (vi x3), some (vi x4), some (vi x5), none] [] σ (f_X5_worstAt_88 k5 x1 x2 x3 x4 x5 σ) := by
  unfold f_X5_worstAt_88
  refine sw_iload (pc' := 90) dX5_worstAt_88 rfl rfl ?_
  refine sw_iload_n (pc' := 91) dX5_worstAt_90 rfl rfl ?_
  refine sw_icmp_le (tgt := 99) (pc' := 94) dX5_worstAt_91 (by decide) rfl (fun _ => ?_) (fun _ => ?_)
  · refine sw_iload (pc' := 96) dX5_worstAt_94 rfl rfl ?_
    refine sw_goto (pc' := 100) dX5_worstAt_96 (by decide) ?_
    refine sw_msk [true, true, true, false, true, false, false] rfl ?_
    exact s_X5_worstAt_100 k5 hk5 x1 x2 x4 x5 σ
  · refine sw_iload_n (pc' := 100) dX5_worstAt_99 rfl rfl ?_
    refine sw_msk [true, true, true, false, true, false, false] rfl ?_
    exact s_X5_worstAt_100 k5 hk5 x1 x2 x4 x3 σ
def f_X5_worstAt_18  (k5 : Int → Int → Int → Int → St → Option (Int × St)) : Nat → Int → Int → Int → Int → Int → Int → St → Option (Int × St)
  | 0, _, _, _, _, _, _, _ => none
  | n + 1, x1, x2, x3, x4, x5, x6, σ =>
    if wr x6 < wr 16 then
      if wr (iad (isr x1 x4) 1) = wr 1 then
        if wr (iad (isr x1 x6) 1) = wr 1 then
          bV (ld σ 58 1680 ((105 * x4) + x2)) fun v58 => bV (ld σ 58 1680 ((105 * x6) + x2)) fun v70 => if wr v58 = wr v70 then
            f_X5_worstAt_79 k5 (f_X5_worstAt_18 k5 n) x1 x2 x3 x4 x6 x5 1 σ
          else
            f_X5_worstAt_78 k5 (f_X5_worstAt_18 k5 n) x1 x2 x3 x4 x6 x5 σ
        else
          f_X5_worstAt_78 k5 (f_X5_worstAt_18 k5 n) x1 x2 x3 x4 x6 x5 σ
      else
        f_X5_worstAt_88 k5 x1 x2 x3 x4 x5 σ
    else
      f_X5_worstAt_88 k5 x1 x2 x3 x4 x5 σ
set_option maxRecDepth 20000 in
theorem s_X5_worstAt_18   (k5 : Int → Int → Int → Int → St → Option (Int × St)) (hk5 : ∀ (x1 x2 x3 x4 : Int) (σ : St), SW G l RX5 cX5_worstAt 7 rm_X5_worstAt wI 5 [some (.ref (ad G 51)), some (vi x1), some (vi x2), some (vi x3), some (vi x4), none, none] [] σ (k5 x1 x2 x3 x4 σ)) : ∀ (n : Nat) (x1 x2 x3 x4 x5 x6 : Int) (σ : St), SW G l RX5 cX5_worstAt 7 rm_X5_worstAt wI 18 [some (.ref (ad G 51)), some (vi x1), some (vi x2), some (vi x3), some (vi x4), some (vi x5), some (vi x6)] [] σ (f_X5_worstAt_18 k5 n x1 x2 x3 x4 x5 x6 σ) := by
  intro n
  induction n with
  | zero => intro x1 x2 x3 x4 x5 x6 σ; exact sw_none
  | succ n ih =>
    intro x1 x2 x3 x4 x5 x6 σ
    rw [f_X5_worstAt_18]
    refine sw_iload (pc' := 20) dX5_worstAt_18 rfl rfl ?_
    refine sw_bipush (pc' := 22) dX5_worstAt_20 rfl rfl ?_
    refine sw_icmp_ge (tgt := 88) (pc' := 25) dX5_worstAt_22 (by decide) rfl (fun _ => ?_) (fun _ => ?_)
    · refine sw_iload_n (pc' := 26) dX5_worstAt_25 rfl rfl ?_
      refine sw_iload (pc' := 28) dX5_worstAt_26 rfl rfl ?_
      refine sw_ishr (pc' := 29) dX5_worstAt_28 rfl ?_
      refine sw_iconst (pc' := 30) dX5_worstAt_29 rfl ?_
      refine sw_iand (pc' := 31) dX5_worstAt_30 rfl ?_
      refine sw_iconst (pc' := 32) dX5_worstAt_31 rfl ?_
      refine sw_icmp_ne (tgt := 88) (pc' := 35) dX5_worstAt_32 (by decide) rfl (fun _ => ?_) (fun _ => ?_)
      · refine sw_iload (pc' := 37) dX5_worstAt_35 rfl rfl ?_
        refine sw_iload_n (pc' := 38) dX5_worstAt_37 rfl rfl ?_
        refine sw_iload (pc' := 40) dX5_worstAt_38 rfl rfl ?_
        refine sw_ishr (pc' := 41) dX5_worstAt_40 rfl ?_
        refine sw_iconst (pc' := 42) dX5_worstAt_41 rfl ?_
        refine sw_iand (pc' := 43) dX5_worstAt_42 rfl ?_
        refine sw_iconst (pc' := 44) dX5_worstAt_43 rfl ?_
        refine sw_icmp_ne (tgt := 78) (pc' := 47) dX5_worstAt_44 (by decide) rfl (fun _ => ?_) (fun _ => ?_)
        · refine sw_aload_n (pc' := 48) dX5_worstAt_47 rfl rfl ?_
          refine sw_getr (pc' := 51) dX5_worstAt_48 fl_X5_28 (tbk_51) rfl rfl ?_
          refine sw_bipush (pc' := 53) dX5_worstAt_51 rfl rfl ?_
          refine sw_iload (pc' := 55) dX5_worstAt_53 rfl rfl ?_
          refine sw_imul (pc' := 56) dX5_worstAt_55 rfl ?_
          refine sw_iload_n (pc' := 57) dX5_worstAt_56 rfl rfl ?_
          refine sw_iadd (pc' := 58) dX5_worstAt_57 rfl ?_
          refine sw_iald (pc' := 59) dX5_worstAt_58 (tbk_58) rfl (fun v58 => ?_)
          refine sw_aload_n (pc' := 60) dX5_worstAt_59 rfl rfl ?_
          refine sw_getr (pc' := 63) dX5_worstAt_60 fl_X5_28 (tbk_51) rfl rfl ?_
          refine sw_bipush (pc' := 65) dX5_worstAt_63 rfl rfl ?_
          refine sw_iload (pc' := 67) dX5_worstAt_65 rfl rfl ?_
          refine sw_imul (pc' := 68) dX5_worstAt_67 rfl ?_
          refine sw_iload_n (pc' := 69) dX5_worstAt_68 rfl rfl ?_
          refine sw_iadd (pc' := 70) dX5_worstAt_69 rfl ?_
          refine sw_iald (pc' := 71) dX5_worstAt_70 (tbk_58) rfl (fun v70 => ?_)
          refine sw_icmp_ne (tgt := 78) (pc' := 74) dX5_worstAt_71 (by decide) rfl (fun _ => ?_) (fun _ => ?_)
          · refine sw_iconst (pc' := 75) dX5_worstAt_74 rfl ?_
            refine sw_goto (pc' := 79) dX5_worstAt_75 (by decide) ?_
            refine sw_msk [true, true, true, true, true, false, true] rfl ?_
            exact s_X5_worstAt_79 k5 (f_X5_worstAt_18 k5 n) hk5 (ih) x1 x2 x3 x4 x6 x5 1 σ
          · refine sw_msk [true, true, true, true, true, false, true] rfl ?_
            exact s_X5_worstAt_78 k5 (f_X5_worstAt_18 k5 n) hk5 (ih) x1 x2 x3 x4 x6 x5 σ
        · refine sw_msk [true, true, true, true, true, false, true] rfl ?_
          exact s_X5_worstAt_78 k5 (f_X5_worstAt_18 k5 n) hk5 (ih) x1 x2 x3 x4 x6 x5 σ
      · refine sw_msk [true, true, true, true, true, true, false] rfl ?_
        exact s_X5_worstAt_88 k5 hk5 x1 x2 x3 x4 x5 σ
    · refine sw_msk [true, true, true, true, true, true, false] rfl ?_
      exact s_X5_worstAt_88 k5 hk5 x1 x2 x3 x4 x5 σ
def f_X5_worstAt_5   : Nat → Int → Int → Int → Int → St → Option (Int × St)
  | 0, _, _, _, _, _ => none
  | n + 1, x1, x2, x3, x4, σ =>
    if wr x4 < wr 16 then
      f_X5_worstAt_18 (f_X5_worstAt_5 n) FU x1 x2 x3 x4 0 0 σ
    else
      some (x3, σ)
set_option maxRecDepth 20000 in
theorem s_X5_worstAt_5     : ∀ (n : Nat) (x1 x2 x3 x4 : Int) (σ : St), SW G l RX5 cX5_worstAt 7 rm_X5_worstAt wI 5 [some (.ref (ad G 51)), some (vi x1), some (vi x2), some (vi x3), some (vi x4), none, none] [] σ (f_X5_worstAt_5 n x1 x2 x3 x4 σ) := by
  intro n
  induction n with
  | zero => intro x1 x2 x3 x4 σ; exact sw_none
  | succ n ih =>
    intro x1 x2 x3 x4 σ
    rw [f_X5_worstAt_5]
    refine sw_iload (pc' := 7) dX5_worstAt_5 rfl rfl ?_
    refine sw_bipush (pc' := 9) dX5_worstAt_7 rfl rfl ?_
    refine sw_icmp_ge (tgt := 107) (pc' := 12) dX5_worstAt_9 (by decide) rfl (fun _ => ?_) (fun _ => ?_)
    · refine sw_iconst (pc' := 13) dX5_worstAt_12 rfl ?_
      refine sw_istore (pc' := 15) (x := 0) (L' := [some (.ref (ad G 51)), some (vi x1), some (vi x2), some (vi x3), some (vi x4), some (vi 0), none]) dX5_worstAt_13 rfl (by decide) rfl rfl ?_
      refine sw_iconst (pc' := 16) dX5_worstAt_15 rfl ?_
      refine sw_istore (pc' := 18) (x := 0) (L' := [some (.ref (ad G 51)), some (vi x1), some (vi x2), some (vi x3), some (vi x4), some (vi 0), some (vi 0)]) dX5_worstAt_16 rfl (by decide) rfl rfl ?_
      exact s_X5_worstAt_18 (f_X5_worstAt_5 n) (ih) FU x1 x2 x3 x4 0 0 σ
    · refine sw_iload_n (pc' := 108) dX5_worstAt_107 rfl rfl ?_
      exact sw_iret dX5_worstAt_108
def f_X5_worstAt (x1 : Int) (x2 : Int) (σ : St) : Option (Int × St) :=
  f_X5_worstAt_5 FU x1 x2 0 0 σ
set_option maxRecDepth 20000 in
theorem m_X5_worstAt (x1 : Int) (x2 : Int)  (σ : St) : MT G l yX5_worstAt cX5_worstAt 7 (some .int) rm_X5_worstAt [.ref (ad G 51), vi x1, vi x2] wI σ (f_X5_worstAt x1 x2 σ) := by
  refine mt_I (L := [some (.ref (ad G 51)), some (vi x1), some (vi x2), none, none, none, none]) rfl (Nat.le_of_ble_eq_true rfl) rfl ?_
  show SW G l RX5 cX5_worstAt 7 rm_X5_worstAt wI 0 [some (.ref (ad G 51)), some (vi x1), some (vi x2), none, none, none, none] [] σ (f_X5_worstAt x1 x2 σ)
  unfold f_X5_worstAt
  refine sw_iconst (pc' := 1) dX5_worstAt_0 rfl ?_
  refine sw_istore_n (pc' := 2) (x := 0) (L' := [some (.ref (ad G 51)), some (vi x1), some (vi x2), some (vi 0), none, none, none]) dX5_worstAt_1 rfl (by decide) rfl rfl ?_
  refine sw_iconst (pc' := 3) dX5_worstAt_2 rfl ?_
  refine sw_istore (pc' := 5) (x := 0) (L' := [some (.ref (ad G 51)), some (vi x1), some (vi x2), some (vi 0), some (vi 0), none, none]) dX5_worstAt_3 rfl (by decide) rfl rfl ?_
  exact s_X5_worstAt_5 FU x1 x2 0 0 σ
def rm_X5_ask : Room := { frames := 7, cells := 0, slots := 0, locals := 163 }
def f_X5_ask_108  (k39 : Int → Int → Int → Int → Int → St → Option (Int × St)) (k49 : Int → Int → Int → Int → Int → Int → St → Option (Int × St)) (x2 x3 x5 x6 x7 t0 : Int) (σ : St) : Option (Int × St) :=
  k49 x2 x3 t0 x5 x6 (x7 + 1) σ
set_option maxRecDepth 20000 in
theorem s_X5_ask_108   (k39 : Int → Int → Int → Int → Int → St → Option (Int × St)) (k49 : Int → Int → Int → Int → Int → Int → St → Option (Int × St)) (hk39 : ∀ (x2 x3 x4 x5 x6 : Int) (σ : St), SW G l RX5 cX5_ask 9 rm_X5_ask wI 39 [some (.ref (ad G 51)), none, some (vi x2), some (vi x3), some (vi x4), some (vi x5), some (vi x6), none, none] [] σ (k39 x2 x3 x4 x5 x6 σ)) (hk49 : ∀ (x2 x3 x4 x5 x6 x7 : Int) (σ : St), SW G l RX5 cX5_ask 9 rm_X5_ask wI 49 [some (.ref (ad G 51)), none, some (vi x2), some (vi x3), some (vi x4), some (vi x5), some (vi x6), some (vi x7), none] [] σ (k49 x2 x3 x4 x5 x6 x7 σ)) (x2 x3 x5 x6 x7 t0 : Int) (σ : St) : SW G l RX5 cX5_ask 9 rm_X5_ask wI 108 [some (.ref (ad G 51)), none, some (vi x2), some (vi x3), none, some (vi x5), some (vi x6), some (vi x7), none] [vi t0] σ (f_X5_ask_108 k39 k49 x2 x3 x5 x6 x7 t0 σ) := by
  unfold f_X5_ask_108
  refine sw_istore (pc' := 110) (x := t0) (L' := [some (.ref (ad G 51)), none, some (vi x2), some (vi x3), some (vi t0), some (vi x5), some (vi x6), some (vi x7), none]) dX5_ask_108 rfl (by decide) rfl rfl ?_
  refine sw_iinc (pc' := 113) (x := x7) (L' := [some (.ref (ad G 51)), none, some (vi x2), some (vi x3), some (vi t0), some (vi x5), some (vi x6), some (vi (x7 + 1)), none]) dX5_ask_110 rfl (by decide) rfl rfl rfl ?_
  refine sw_goto (pc' := 49) dX5_ask_113 (by decide) ?_
  exact hk49 x2 x3 t0 x5 x6 (x7 + 1) σ
def f_X5_ask_92  (k39 : Int → Int → Int → Int → Int → St → Option (Int × St)) (k49 : Int → Int → Int → Int → Int → Int → St → Option (Int × St)) (x2 x3 x4 x6 x7 x8 t0 : Int) (σ : St) : Option (Int × St) :=
  if wr x8 < wr x4 then
    f_X5_ask_108 k39 k49 x2 x3 t0 x6 x7 x8 σ
  else
    f_X5_ask_108 k39 k49 x2 x3 t0 x6 x7 x4 σ
set_option maxRecDepth 20000 in
theorem s_X5_ask_92   (k39 : Int → Int → Int → Int → Int → St → Option (Int × St)) (k49 : Int → Int → Int → Int → Int → Int → St → Option (Int × St)) (hk39 : ∀ (x2 x3 x4 x5 x6 : Int) (σ : St), SW G l RX5 cX5_ask 9 rm_X5_ask wI 39 [some (.ref (ad G 51)), none, some (vi x2), some (vi x3), some (vi x4), some (vi x5), some (vi x6), none, none] [] σ (k39 x2 x3 x4 x5 x6 σ)) (hk49 : ∀ (x2 x3 x4 x5 x6 x7 : Int) (σ : St), SW G l RX5 cX5_ask 9 rm_X5_ask wI 49 [some (.ref (ad G 51)), none, some (vi x2), some (vi x3), some (vi x4), some (vi x5), some (vi x6), some (vi x7), none] [] σ (k49 x2 x3 x4 x5 x6 x7 σ)) (x2 x3 x4 x6 x7 x8 t0 : Int) (σ : St) : SW G l RX5 cX5_ask 9 rm_X5_ask wI 92 [some (.ref (ad G 51)), none, some (vi x2), some (vi x3), some (vi x4), none, some (vi x6), some (vi x7), some (vi x8)] [vi t0] σ (f_X5_ask_92 k39 k49 x2 x3 x4 x6 x7 x8 t0 σ) := by
  unfold f_X5_ask_92
  refine sw_istore (pc' := 94) (x := t0) (L' := [some (.ref (ad G 51)), none, some (vi x2), some (vi x3), some (vi x4), some (vi t0), some (vi x6), some (vi x7), some (vi x8)]) dX5_ask_92 rfl (by decide) rfl rfl ?_
  refine sw_iload (pc' := 96) dX5_ask_94 rfl rfl ?_
  refine sw_iload (pc' := 98) dX5_ask_96 rfl rfl ?_
  refine sw_icmp_ge (tgt := 106) (pc' := 101) dX5_ask_98 (by decide) rfl (fun _ => ?_) (fun _ => ?_)
  · refine sw_iload (pc' := 103) dX5_ask_101 rfl rfl ?_
    refine sw_goto (pc' := 108) dX5_ask_103 (by decide) ?_
    refine sw_msk [true, false, true, true, false, true, true, true, false] rfl ?_
    exact s_X5_ask_108 k39 k49 hk39 hk49 x2 x3 t0 x6 x7 x8 σ
  · refine sw_iload (pc' := 108) dX5_ask_106 rfl rfl ?_
    refine sw_msk [true, false, true, true, false, true, true, true, false] rfl ?_
    exact s_X5_ask_108 k39 k49 hk39 hk49 x2 x3 t0 x6 x7 x4 σ
def f_X5_ask_49  (k39 : Int → Int → Int → Int → Int → St → Option (Int × St)) : Nat → Int → Int → Int → Int → Int → Int → St → Option (Int × St)
  | 0, _, _, _, _, _, _, _ => none
  | n + 1, x2, x3, x4, x5, x6, x7, σ =>
    if wr x7 < wr (σ 51 1) then
      bI (f_X5_worstAt x3 ((5 * x6) + x7) σ) fun v67 s67 => if wr v67 < wr x4 then
        f_X5_ask_92 k39 (f_X5_ask_49 k39 n) x2 x3 x4 x6 x7 v67 ((10 * x6) + x7) s67
      else
        f_X5_ask_92 k39 (f_X5_ask_49 k39 n) x2 x3 x4 x6 x7 v67 x5 s67
    else
      k39 x2 x3 x4 x5 (x6 + 1) σ
set_option maxRecDepth 20000 in
theorem s_X5_ask_49   (k39 : Int → Int → Int → Int → Int → St → Option (Int × St)) (hk39 : ∀ (x2 x3 x4 x5 x6 : Int) (σ : St), SW G l RX5 cX5_ask 9 rm_X5_ask wI 39 [some (.ref (ad G 51)), none, some (vi x2), some (vi x3), some (vi x4), some (vi x5), some (vi x6), none, none] [] σ (k39 x2 x3 x4 x5 x6 σ)) : ∀ (n : Nat) (x2 x3 x4 x5 x6 x7 : Int) (σ : St), SW G l RX5 cX5_ask 9 rm_X5_ask wI 49 [some (.ref (ad G 51)), none, some (vi x2), some (vi x3), some (vi x4), some (vi x5), some (vi x6), some (vi x7), none] [] σ (f_X5_ask_49 k39 n x2 x3 x4 x5 x6 x7 σ) := by
  intro n
  induction n with
  | zero => intro x2 x3 x4 x5 x6 x7 σ; exact sw_none
  | succ n ih =>
    intro x2 x3 x4 x5 x6 x7 σ
    rw [f_X5_ask_49]
    refine sw_iload (pc' := 51) dX5_ask_49 rfl rfl ?_
    refine sw_aload_n (pc' := 52) dX5_ask_51 rfl rfl ?_
    refine sw_getn (pc' := 55) dX5_ask_52 fl_X5_131 (tbk_51) rfl rfl ?_
    refine sw_icmp_ge (tgt := 116) (pc' := 58) dX5_ask_55 (by decide) rfl (fun _ => ?_) (fun _ => ?_)
    · refine sw_aload_n (pc' := 59) dX5_ask_58 rfl rfl ?_
      refine sw_iload_n (pc' := 60) dX5_ask_59 rfl rfl ?_
      refine sw_iconst (pc' := 61) dX5_ask_60 rfl ?_
      refine sw_iload (pc' := 63) dX5_ask_61 rfl rfl ?_
      refine sw_imul (pc' := 64) dX5_ask_63 rfl ?_
      refine sw_iload (pc' := 66) dX5_ask_64 rfl rfl ?_
      refine sw_iadd (pc' := 67) dX5_ask_66 rfl ?_
      refine sw_callVI (pc' := 70) (As := [vi x3, vi ((5 * x6) + x7)]) (rest := []) dX5_ask_67 cv_X5_258 (tbk_51) (m_X5_worstAt x3 ((5 * x6) + x7) σ) rfl rfl rfl rfl rfl (fun v67 s67 => ?_)
      refine sw_istore (pc' := 72) (x := v67) (L' := [some (.ref (ad G 51)), none, some (vi x2), some (vi x3), some (vi x4), some (vi x5), some (vi x6), some (vi x7), some (vi v67)]) dX5_ask_70 rfl (by decide) rfl rfl ?_
      refine sw_iload (pc' := 74) dX5_ask_72 rfl rfl ?_
      refine sw_iload (pc' := 76) dX5_ask_74 rfl rfl ?_
      refine sw_icmp_ge (tgt := 90) (pc' := 79) dX5_ask_76 (by decide) rfl (fun _ => ?_) (fun _ => ?_)
      · refine sw_bipush (pc' := 81) dX5_ask_79 rfl rfl ?_
        refine sw_iload (pc' := 83) dX5_ask_81 rfl rfl ?_
        refine sw_imul (pc' := 84) dX5_ask_83 rfl ?_
        refine sw_iload (pc' := 86) dX5_ask_84 rfl rfl ?_
        refine sw_iadd (pc' := 87) dX5_ask_86 rfl ?_
        refine sw_goto (pc' := 92) dX5_ask_87 (by decide) ?_
        refine sw_msk [true, false, true, true, true, false, true, true, true] rfl ?_
        exact s_X5_ask_92 k39 (f_X5_ask_49 k39 n) hk39 (ih) x2 x3 x4 x6 x7 v67 ((10 * x6) + x7) s67
      · refine sw_iload (pc' := 92) dX5_ask_90 rfl rfl ?_
        refine sw_msk [true, false, true, true, true, false, true, true, true] rfl ?_
        exact s_X5_ask_92 k39 (f_X5_ask_49 k39 n) hk39 (ih) x2 x3 x4 x6 x7 v67 x5 s67
    · refine sw_iinc (pc' := 119) (x := x6) (L' := [some (.ref (ad G 51)), none, some (vi x2), some (vi x3), some (vi x4), some (vi x5), some (vi (x6 + 1)), some (vi x7), none]) dX5_ask_116 rfl (by decide) rfl rfl rfl ?_
      refine sw_goto (pc' := 39) dX5_ask_119 (by decide) ?_
      refine sw_msk [true, false, true, true, true, true, true, false, false] rfl ?_
      exact hk39 x2 x3 x4 x5 (x6 + 1) σ
def f_X5_ask_133   (x5 : Int) (σ : St) : Option (Int × St) :=
  some (x5, σ)
set_option maxRecDepth 20000 in
theorem s_X5_ask_133     (x5 : Int) (σ : St) : SW G l RX5 cX5_ask 9 rm_X5_ask wI 133 [none, none, none, none, none, some (vi x5), none, none, none] [] σ (f_X5_ask_133 x5 σ) := by
  unfold f_X5_ask_133
  refine sw_iload (pc' := 135) dX5_ask_133 rfl rfl ?_
  refine sw_goto (pc' := 140) dX5_ask_135 (by decide) ?_
  exact sw_iret dX5_ask_140
def f_X5_ask_39   : Nat → Int → Int → Int → Int → Int → St → Option (Int × St)
  | 0, _, _, _, _, _, _ => none
  | n + 1, x2, x3, x4, x5, x6, σ =>
    if wr 20 < wr x6 then
      if wr x5 = wr (-4) then
        f_X5_ask_133 x5 σ
      else
        if wr x2 = 0 then
          f_X5_ask_133 x5 σ
        else
          some (x4, σ)
    else
      f_X5_ask_49 (f_X5_ask_39 n) FU x2 x3 x4 x5 x6 0 σ
set_option maxRecDepth 20000 in
theorem s_X5_ask_39     : ∀ (n : Nat) (x2 x3 x4 x5 x6 : Int) (σ : St), SW G l RX5 cX5_ask 9 rm_X5_ask wI 39 [some (.ref (ad G 51)), none, some (vi x2), some (vi x3), some (vi x4), some (vi x5), some (vi x6), none, none] [] σ (f_X5_ask_39 n x2 x3 x4 x5 x6 σ) := by
  intro n
  induction n with
  | zero => intro x2 x3 x4 x5 x6 σ; exact sw_none
  | succ n ih =>
    intro x2 x3 x4 x5 x6 σ
    rw [f_X5_ask_39]
    refine sw_iload (pc' := 41) dX5_ask_39 rfl rfl ?_
    refine sw_bipush (pc' := 43) dX5_ask_41 rfl rfl ?_
    refine sw_icmp_gt (tgt := 122) (pc' := 46) dX5_ask_43 (by decide) rfl (fun _ => ?_) (fun _ => ?_)
    · refine sw_iload (pc' := 124) dX5_ask_122 rfl rfl ?_
      refine sw_bipush (pc' := 126) dX5_ask_124 rfl rfl ?_
      refine sw_icmp_eq (tgt := 133) (pc' := 129) dX5_ask_126 (by decide) rfl (fun _ => ?_) (fun _ => ?_)
      · refine sw_msk [false, false, false, false, false, true, false, false, false] rfl ?_
        exact s_X5_ask_133 x5 σ
      · refine sw_iload_n (pc' := 130) dX5_ask_129 rfl rfl ?_
        refine sw_if_ne (tgt := 138) (pc' := 133) dX5_ask_130 (by decide) rfl (fun _ => ?_) (fun _ => ?_)
        · refine sw_msk [false, false, false, false, false, true, false, false, false] rfl ?_
          exact s_X5_ask_133 x5 σ
        · refine sw_iload (pc' := 140) dX5_ask_138 rfl rfl ?_
          exact sw_iret dX5_ask_140
    · refine sw_iconst (pc' := 47) dX5_ask_46 rfl ?_
      refine sw_istore (pc' := 49) (x := 0) (L' := [some (.ref (ad G 51)), none, some (vi x2), some (vi x3), some (vi x4), some (vi x5), some (vi x6), some (vi 0), none]) dX5_ask_47 rfl (by decide) rfl rfl ?_
      exact s_X5_ask_49 (f_X5_ask_39 n) (ih) FU x2 x3 x4 x5 x6 0 σ
def f_X5_ask (x1 : Int) (x2 : Int) (σ : St) : Option (Int × St) :=
  bI (f_X5_isRider x1 σ) fun v2 s2 => if v2 then
    bI (f_X5_in (wr x2) 0 1 s2) fun v12 s12 => if v12 then
      bI (f_X5_upsOf x1 s12) fun v22 s22 => bI (f_X5_bitsOf v22 s22) fun v27 s27 => f_X5_ask_39 FU x2 v22 v27 (-4) 0 s27
    else
      some ((-1), s12)
  else
    some ((-1), s2)
set_option maxRecDepth 20000 in
theorem m_X5_ask (x1 : Int) (x2 : Int)  (σ : St) : MT G l yX5_ask cX5_ask 9 (some .int) rm_X5_ask [.ref (ad G 51), vi x1, vi x2] wI σ (f_X5_ask x1 x2 σ) := by
  refine mt_I (L := [some (.ref (ad G 51)), some (vi x1), some (vi x2), none, none, none, none, none, none]) rfl (Nat.le_of_ble_eq_true rfl) rfl ?_
  show SW G l RX5 cX5_ask 9 rm_X5_ask wI 0 [some (.ref (ad G 51)), some (vi x1), some (vi x2), none, none, none, none, none, none] [] σ (f_X5_ask x1 x2 σ)
  unfold f_X5_ask
  refine sw_aload_n (pc' := 1) dX5_ask_0 rfl rfl ?_
  refine sw_iload_n (pc' := 2) dX5_ask_1 rfl rfl ?_
  refine sw_callVB (pc' := 5) (As := [vi x1]) (rest := []) dX5_ask_2 cv_X5_182 (tbk_51) (m_X5_isRider x1 σ) rfl rfl rfl rfl rfl (fun v2 s2 => ?_)
  refine sw_bif_eq (tgt := 18) (pc' := 8) dX5_ask_5 (by decide) rfl (fun _ => ?_) (fun _ => ?_)
  · refine sw_iload_n (pc' := 9) dX5_ask_8 rfl rfl ?_
    refine sw_i2l (pc' := 10) dX5_ask_9 rfl ?_
    refine sw_lconst (x := 0) (pc' := 11) dX5_ask_10 rfl rfl ?_
    refine sw_lconst (x := 1) (pc' := 12) dX5_ask_11 rfl rfl ?_
    refine sw_callSB (pc' := 15) (As := [vl (wr x2), vl 0, vl 1]) (rest := []) dX5_ask_12 cs_X5_46 (m_X5_in (wr x2) 0 1 s2) rfl rfl rfl rfl rfl (fun v12 s12 => ?_)
    refine sw_bif_ne (tgt := 20) (pc' := 18) dX5_ask_15 (by decide) rfl (fun _ => ?_) (fun _ => ?_)
    · refine sw_aload_n (pc' := 21) dX5_ask_20 rfl rfl ?_
      refine sw_iload_n (pc' := 22) dX5_ask_21 rfl rfl ?_
      refine sw_callVI (pc' := 25) (As := [vi x1]) (rest := []) dX5_ask_22 cv_X5_255 (tbk_51) (m_X5_upsOf x1 s12) rfl rfl rfl rfl rfl (fun v22 s22 => ?_)
      refine sw_istore_n (pc' := 26) (x := v22) (L' := [some (.ref (ad G 51)), some (vi x1), some (vi x2), some (vi v22), none, none, none, none, none]) dX5_ask_25 rfl (by decide) rfl rfl ?_
      refine sw_iload_n (pc' := 27) dX5_ask_26 rfl rfl ?_
      refine sw_callSI (pc' := 30) (As := [vi v22]) (rest := []) dX5_ask_27 cs_X5_231 (m_X5_bitsOf v22 s22) rfl rfl rfl rfl rfl (fun v27 s27 => ?_)
      refine sw_istore (pc' := 32) (x := v27) (L' := [some (.ref (ad G 51)), some (vi x1), some (vi x2), some (vi v22), some (vi v27), none, none, none, none]) dX5_ask_30 rfl (by decide) rfl rfl ?_
      refine sw_bipush (pc' := 34) dX5_ask_32 rfl rfl ?_
      refine sw_istore (pc' := 36) (x := (-4)) (L' := [some (.ref (ad G 51)), some (vi x1), some (vi x2), some (vi v22), some (vi v27), some (vi (-4)), none, none, none]) dX5_ask_34 rfl (by decide) rfl rfl ?_
      refine sw_iconst (pc' := 37) dX5_ask_36 rfl ?_
      refine sw_istore (pc' := 39) (x := 0) (L' := [some (.ref (ad G 51)), some (vi x1), some (vi x2), some (vi v22), some (vi v27), some (vi (-4)), some (vi 0), none, none]) dX5_ask_37 rfl (by decide) rfl rfl ?_
      refine sw_msk [true, false, true, true, true, true, true, false, false] rfl ?_
      exact s_X5_ask_39 FU x2 v22 v27 (-4) 0 s27
    · refine sw_iconst (pc' := 19) dX5_ask_18 rfl ?_
      exact sw_iret dX5_ask_19
  · refine sw_iconst (pc' := 19) dX5_ask_18 rfl ?_
    exact sw_iret dX5_ask_19
def rm_X5_drift : Room := { frames := 5, cells := 0, slots := 0, locals := 115 }
def f_X5_drift_53   : Nat → Int → Int → Int → Int → St → Option (Int × St)
  | 0, _, _, _, _, _ => none
  | n + 1, x2, x3, x4, x5, σ =>
    if wr x5 < wr x2 then
      bV (irm (iad (isr ((x4 * 1103515245) + 12345) 16) 32767) (σ 51 1)) fun v95 => bV (idv (iad (isr ((x4 * 1103515245) + 12345) 16) 32767) 16) fun v101 => bV (irm v101 16) fun v104 => bV (sv σ 52 330 (225 + v95) v104) fun s105 => bV (f_X5_dayOn 220 s105) fun s110 => (f_X5_drift_53 n) x2 x3 ((x4 * 1103515245) + 12345) (x5 + 1) s110
    else
      if wr x3 = 0 then
        some ((σ 51 19), σ)
      else
        bI (f_X5_agreeOn 220 σ) fun v134 s134 => some (v134, s134)
set_option maxRecDepth 20000 in
theorem s_X5_drift_53     : ∀ (n : Nat) (x2 x3 x4 x5 : Int) (σ : St), SW G l RX5 cX5_drift 7 rm_X5_drift wI 53 [some (.ref (ad G 51)), none, some (vi x2), some (vi x3), some (vi x4), some (vi x5), none] [] σ (f_X5_drift_53 n x2 x3 x4 x5 σ) := by
  intro n
  induction n with
  | zero => intro x2 x3 x4 x5 σ; exact sw_none
  | succ n ih =>
    intro x2 x3 x4 x5 σ
    rw [f_X5_drift_53]
    refine sw_iload (pc' := 55) dX5_drift_53 rfl rfl ?_
    refine sw_iload_n (pc' := 56) dX5_drift_55 rfl rfl ?_
    refine sw_icmp_ge (tgt := 119) (pc' := 59) dX5_drift_56 (by decide) rfl (fun _ => ?_) (fun _ => ?_)
    · refine sw_iload (pc' := 61) dX5_drift_59 rfl rfl ?_
      refine sw_ldcw (n := 1103515245) (pc' := 64) dX5_drift_61 kc_X5_261 rfl ?_
      refine sw_imul (pc' := 65) dX5_drift_64 rfl ?_
      refine sw_sipush (pc' := 68) dX5_drift_65 rfl rfl ?_
      refine sw_iadd (pc' := 69) dX5_drift_68 rfl ?_
      refine sw_istore (pc' := 71) (x := ((x4 * 1103515245) + 12345)) (L' := [some (.ref (ad G 51)), none, some (vi x2), some (vi x3), some (vi ((x4 * 1103515245) + 12345)), some (vi x5), none]) dX5_drift_69 rfl (by decide) rfl rfl ?_
      refine sw_iload (pc' := 73) dX5_drift_71 rfl rfl ?_
      refine sw_bipush (pc' := 75) dX5_drift_73 rfl rfl ?_
      refine sw_ishr (pc' := 76) dX5_drift_75 rfl ?_
      refine sw_sipush (pc' := 79) dX5_drift_76 rfl rfl ?_
      refine sw_iand (pc' := 80) dX5_drift_79 rfl ?_
      refine sw_istore (pc' := 82) (x := (iad (isr ((x4 * 1103515245) + 12345) 16) 32767)) (L' := [some (.ref (ad G 51)), none, some (vi x2), some (vi x3), some (vi ((x4 * 1103515245) + 12345)), some (vi x5), some (vi (iad (isr ((x4 * 1103515245) + 12345) 16) 32767))]) dX5_drift_80 rfl (by decide) rfl rfl ?_
      refine sw_aload_n (pc' := 83) dX5_drift_82 rfl rfl ?_
      refine sw_getr (pc' := 86) dX5_drift_83 fl_X5_7 (tbk_51) rfl rfl ?_
      refine sw_sipush (pc' := 89) dX5_drift_86 rfl rfl ?_
      refine sw_iload (pc' := 91) dX5_drift_89 rfl rfl ?_
      refine sw_aload_n (pc' := 92) dX5_drift_91 rfl rfl ?_
      refine sw_getn (pc' := 95) dX5_drift_92 fl_X5_131 (tbk_51) rfl rfl ?_
      refine sw_irem (pc' := 96) dX5_drift_95 rfl (fun v95 => ?_)
      refine sw_iadd (pc' := 97) dX5_drift_96 rfl ?_
      refine sw_iload (pc' := 99) dX5_drift_97 rfl rfl ?_
      refine sw_bipush (pc' := 101) dX5_drift_99 rfl rfl ?_
      refine sw_idiv (pc' := 102) dX5_drift_101 rfl (fun v101 => ?_)
      refine sw_bipush (pc' := 104) dX5_drift_102 rfl rfl ?_
      refine sw_irem (pc' := 105) dX5_drift_104 rfl (fun v104 => ?_)
      refine sw_iast (pc' := 106) dX5_drift_105 (tbk_52) rfl (fun s105 => ?_)
      refine sw_aload_n (pc' := 107) dX5_drift_106 rfl rfl ?_
      refine sw_sipush (pc' := 110) dX5_drift_107 rfl rfl ?_
      refine sw_callVV (pc' := 113) (As := [vi 220]) (rest := []) dX5_drift_110 cv_X5_213 (tbk_51) (m_X5_dayOn 220 s105) rfl rfl rfl rfl rfl (fun s110 => ?_)
      refine sw_iinc (pc' := 116) (x := x5) (L' := [some (.ref (ad G 51)), none, some (vi x2), some (vi x3), some (vi ((x4 * 1103515245) + 12345)), some (vi (x5 + 1)), some (vi (iad (isr ((x4 * 1103515245) + 12345) 16) 32767))]) dX5_drift_113 rfl (by decide) rfl rfl rfl ?_
      refine sw_goto (pc' := 53) dX5_drift_116 (by decide) ?_
      refine sw_msk [true, false, true, true, true, true, false] rfl ?_
      exact (ih) x2 x3 ((x4 * 1103515245) + 12345) (x5 + 1) s110
    · refine sw_iload_n (pc' := 120) dX5_drift_119 rfl rfl ?_
      refine sw_if_ne (tgt := 130) (pc' := 123) dX5_drift_120 (by decide) rfl (fun _ => ?_) (fun _ => ?_)
      · refine sw_aload_n (pc' := 124) dX5_drift_123 rfl rfl ?_
        refine sw_getn (pc' := 127) dX5_drift_124 fl_X5_173 (tbk_51) rfl rfl ?_
        refine sw_goto (pc' := 137) dX5_drift_127 (by decide) ?_
        exact sw_iret dX5_drift_137
      · refine sw_aload_n (pc' := 131) dX5_drift_130 rfl rfl ?_
        refine sw_sipush (pc' := 134) dX5_drift_131 rfl rfl ?_
        refine sw_callVI (pc' := 137) (As := [vi 220]) (rest := []) dX5_drift_134 cv_X5_179 (tbk_51) (m_X5_agreeOn 220 σ) rfl rfl rfl rfl rfl (fun v134 s134 => ?_)
        exact sw_iret dX5_drift_137
def f_X5_drift (x1 : Int) (x2 : Int) (x3 : Int) (σ : St) : Option (Int × St) :=
  bI (f_X5_in (wr x2) 1 60 σ) fun v6 s6 => if v6 then
    bI (f_X5_in (wr x3) 0 1 s6) fun v16 s16 => if v16 then
      if wr (s16 51 1) = 0 then
        some ((-2), s16)
      else
        bV (f_X5_copies 0 220 s16) fun s39 => bV (pf s39 51 19 0) fun s44 => f_X5_drift_53 FU x2 x3 x1 0 s44
    else
      some ((-1), s16)
  else
    some ((-1), s6)
set_option maxRecDepth 20000 in
theorem m_X5_drift (x1 : Int) (x2 : Int) (x3 : Int)  (σ : St) : MT G l yX5_drift cX5_drift 7 (some .int) rm_X5_drift [.ref (ad G 51), vi x1, vi x2, vi x3] wI σ (f_X5_drift x1 x2 x3 σ) := by
  refine mt_I (L := [some (.ref (ad G 51)), some (vi x1), some (vi x2), some (vi x3), none, none, none]) rfl (Nat.le_of_ble_eq_true rfl) rfl ?_
  show SW G l RX5 cX5_drift 7 rm_X5_drift wI 0 [some (.ref (ad G 51)), some (vi x1), some (vi x2), some (vi x3), none, none, none] [] σ (f_X5_drift x1 x2 x3 σ)
  unfold f_X5_drift
  refine sw_iload_n (pc' := 1) dX5_drift_0 rfl rfl ?_
  refine sw_i2l (pc' := 2) dX5_drift_1 rfl ?_
  refine sw_lconst (x := 1) (pc' := 3) dX5_drift_2 rfl rfl ?_
  refine sw_ldc2 (n := 60) (pc' := 6) dX5_drift_3 kl_X5_226 rfl ?_
  refine sw_callSB (pc' := 9) (As := [vl (wr x2), vl 1, vl 60]) (rest := []) dX5_drift_6 cs_X5_46 (m_X5_in (wr x2) 1 60 σ) rfl rfl rfl rfl rfl (fun v6 s6 => ?_)
  refine sw_bif_eq (tgt := 22) (pc' := 12) dX5_drift_9 (by decide) rfl (fun _ => ?_) (fun _ => ?_)
  · refine sw_iload_n (pc' := 13) dX5_drift_12 rfl rfl ?_
    refine sw_i2l (pc' := 14) dX5_drift_13 rfl ?_
    refine sw_lconst (x := 0) (pc' := 15) dX5_drift_14 rfl rfl ?_
    refine sw_lconst (x := 1) (pc' := 16) dX5_drift_15 rfl rfl ?_
    refine sw_callSB (pc' := 19) (As := [vl (wr x3), vl 0, vl 1]) (rest := []) dX5_drift_16 cs_X5_46 (m_X5_in (wr x3) 0 1 s6) rfl rfl rfl rfl rfl (fun v16 s16 => ?_)
    refine sw_bif_ne (tgt := 24) (pc' := 22) dX5_drift_19 (by decide) rfl (fun _ => ?_) (fun _ => ?_)
    · refine sw_aload_n (pc' := 25) dX5_drift_24 rfl rfl ?_
      refine sw_getn (pc' := 28) dX5_drift_25 fl_X5_131 (tbk_51) rfl rfl ?_
      refine sw_if_ne (tgt := 34) (pc' := 31) dX5_drift_28 (by decide) rfl (fun _ => ?_) (fun _ => ?_)
      · refine sw_bipush (pc' := 33) dX5_drift_31 rfl rfl ?_
        exact sw_iret dX5_drift_33
      · refine sw_aload_n (pc' := 35) dX5_drift_34 rfl rfl ?_
        refine sw_iconst (pc' := 36) dX5_drift_35 rfl ?_
        refine sw_sipush (pc' := 39) dX5_drift_36 rfl rfl ?_
        refine sw_callVV (pc' := 42) (As := [vi 0, vi 220]) (rest := []) dX5_drift_39 cv_X5_216 (tbk_51) (m_X5_copies 0 220 s16) rfl rfl rfl rfl rfl (fun s39 => ?_)
        refine sw_aload_n (pc' := 43) dX5_drift_42 rfl rfl ?_
        refine sw_iconst (pc' := 44) dX5_drift_43 rfl ?_
        refine sw_putI (pc' := 47) dX5_drift_44 fp_X5_173 (tbk_51) rfl rfl (fun s44 => ?_)
        refine sw_iload_n (pc' := 48) dX5_drift_47 rfl rfl ?_
        refine sw_istore (pc' := 50) (x := x1) (L' := [some (.ref (ad G 51)), some (vi x1), some (vi x2), some (vi x3), some (vi x1), none, none]) dX5_drift_48 rfl (by decide) rfl rfl ?_
        refine sw_iconst (pc' := 51) dX5_drift_50 rfl ?_
        refine sw_istore (pc' := 53) (x := 0) (L' := [some (.ref (ad G 51)), some (vi x1), some (vi x2), some (vi x3), some (vi x1), some (vi 0), none]) dX5_drift_51 rfl (by decide) rfl rfl ?_
        refine sw_msk [true, false, true, true, true, true, false] rfl ?_
        exact s_X5_drift_53 FU x2 x3 x1 0 s44
    · refine sw_iconst (pc' := 23) dX5_drift_22 rfl ?_
      exact sw_iret dX5_drift_23
  · refine sw_iconst (pc' := 23) dX5_drift_22 rfl ?_
    exact sw_iret dX5_drift_23
def rm_X5_keep : Room := { frames := 1, cells := 0, slots := 0, locals := 25 }
def f_X5_keep_37   (x1 t0 : Int) (σ : St) : Option (Int × St) :=
  bV (sv σ 59 2 x1 (naz 1)) fun s44 => some (t0, s44)
set_option maxRecDepth 20000 in
theorem s_X5_keep_37     (x1 t0 : Int) (σ : St) : SW G l RX5 cX5_keep 3 rm_X5_keep wI 37 [some (.ref (ad G 51)), some (vi x1), none] [vi t0] σ (f_X5_keep_37 x1 t0 σ) := by
  unfold f_X5_keep_37
  refine sw_istore_n (pc' := 38) (x := t0) (L' := [some (.ref (ad G 51)), some (vi x1), some (vi t0)]) dX5_keep_37 rfl (by decide) rfl rfl ?_
  refine sw_aload_n (pc' := 39) dX5_keep_38 rfl rfl ?_
  refine sw_getr (pc' := 42) dX5_keep_39 fl_X5_31 (tbk_51) rfl rfl ?_
  refine sw_iload_n (pc' := 43) dX5_keep_42 rfl rfl ?_
  refine sw_iconst (pc' := 44) dX5_keep_43 rfl ?_
  refine sw_zast (pc' := 45) dX5_keep_44 (tbk_59) rfl (fun s44 => ?_)
  refine sw_iload_n (pc' := 46) dX5_keep_45 rfl rfl ?_
  exact sw_iret dX5_keep_46
def f_X5_keep (x1 : Int) (σ : St) : Option (Int × St) :=
  bI (f_X5_in (wr x1) 0 1 σ) fun v4 s4 => if v4 then
    bV (f_X5_copies 0 (55 * (x1 + 1)) s4) fun s20 => bV (ld s20 59 2 x1) fun v28 => if wr v28 = 0 then
      f_X5_keep_37 x1 0 s20
    else
      f_X5_keep_37 x1 1 s20
  else
    some ((-1), s4)
set_option maxRecDepth 20000 in
theorem m_X5_keep (x1 : Int)  (σ : St) : MT G l yX5_keep cX5_keep 3 (some .int) rm_X5_keep [.ref (ad G 51), vi x1] wI σ (f_X5_keep x1 σ) := by
  refine mt_I (L := [some (.ref (ad G 51)), some (vi x1), none]) rfl (Nat.le_of_ble_eq_true rfl) rfl ?_
  show SW G l RX5 cX5_keep 3 rm_X5_keep wI 0 [some (.ref (ad G 51)), some (vi x1), none] [] σ (f_X5_keep x1 σ)
  unfold f_X5_keep
  refine sw_iload_n (pc' := 1) dX5_keep_0 rfl rfl ?_
  refine sw_i2l (pc' := 2) dX5_keep_1 rfl ?_
  refine sw_lconst (x := 0) (pc' := 3) dX5_keep_2 rfl rfl ?_
  refine sw_lconst (x := 1) (pc' := 4) dX5_keep_3 rfl rfl ?_
  refine sw_callSB (pc' := 7) (As := [vl (wr x1), vl 0, vl 1]) (rest := []) dX5_keep_4 cs_X5_46 (m_X5_in (wr x1) 0 1 σ) rfl rfl rfl rfl rfl (fun v4 s4 => ?_)
  refine sw_bif_ne (tgt := 12) (pc' := 10) dX5_keep_7 (by decide) rfl (fun _ => ?_) (fun _ => ?_)
  · refine sw_aload_n (pc' := 13) dX5_keep_12 rfl rfl ?_
    refine sw_iconst (pc' := 14) dX5_keep_13 rfl ?_
    refine sw_bipush (pc' := 16) dX5_keep_14 rfl rfl ?_
    refine sw_iload_n (pc' := 17) dX5_keep_16 rfl rfl ?_
    refine sw_iconst (pc' := 18) dX5_keep_17 rfl ?_
    refine sw_iadd (pc' := 19) dX5_keep_18 rfl ?_
    refine sw_imul (pc' := 20) dX5_keep_19 rfl ?_
    refine sw_callVV (pc' := 23) (As := [vi 0, vi (55 * (x1 + 1))]) (rest := []) dX5_keep_20 cv_X5_216 (tbk_51) (m_X5_copies 0 (55 * (x1 + 1)) s4) rfl rfl rfl rfl rfl (fun s20 => ?_)
    refine sw_aload_n (pc' := 24) dX5_keep_23 rfl rfl ?_
    refine sw_getr (pc' := 27) dX5_keep_24 fl_X5_31 (tbk_51) rfl rfl ?_
    refine sw_iload_n (pc' := 28) dX5_keep_27 rfl rfl ?_
    refine sw_zald (pc' := 29) dX5_keep_28 (tbk_59) rfl (fun v28 => ?_)
    refine sw_if_eq (tgt := 36) (pc' := 32) dX5_keep_29 (by decide) rfl (fun _ => ?_) (fun _ => ?_)
    · refine sw_iconst (pc' := 37) dX5_keep_36 rfl ?_
      exact s_X5_keep_37 x1 0 s20
    · refine sw_iconst (pc' := 33) dX5_keep_32 rfl ?_
      refine sw_goto (pc' := 37) dX5_keep_33 (by decide) ?_
      exact s_X5_keep_37 x1 1 s20
  · refine sw_iconst (pc' := 11) dX5_keep_10 rfl ?_
    exact sw_iret dX5_keep_11
def rm_X5_back : Room := { frames := 1, cells := 0, slots := 0, locals := 25 }
def f_X5_back (x1 : Int) (σ : St) : Option (Int × St) :=
  bI (f_X5_in (wr x1) 0 1 σ) fun v4 s4 => if v4 then
    bV (ld s4 59 2 x1) fun v17 => if wr v17 = 0 then
      some ((-2), s4)
    else
      bV (f_X5_copies (55 * (x1 + 1)) 0 s4) fun s32 => bV (ld s32 52 330 53) fun v41 => some (v41, s32)
  else
    some ((-1), s4)
set_option maxRecDepth 20000 in
theorem m_X5_back (x1 : Int)  (σ : St) : MT G l yX5_back cX5_back 2 (some .int) rm_X5_back [.ref (ad G 51), vi x1] wI σ (f_X5_back x1 σ) := by
  refine mt_I (L := [some (.ref (ad G 51)), some (vi x1)]) rfl (Nat.le_of_ble_eq_true rfl) rfl ?_
  show SW G l RX5 cX5_back 2 rm_X5_back wI 0 [some (.ref (ad G 51)), some (vi x1)] [] σ (f_X5_back x1 σ)
  unfold f_X5_back
  refine sw_iload_n (pc' := 1) dX5_back_0 rfl rfl ?_
  refine sw_i2l (pc' := 2) dX5_back_1 rfl ?_
  refine sw_lconst (x := 0) (pc' := 3) dX5_back_2 rfl rfl ?_
  refine sw_lconst (x := 1) (pc' := 4) dX5_back_3 rfl rfl ?_
  refine sw_callSB (pc' := 7) (As := [vl (wr x1), vl 0, vl 1]) (rest := []) dX5_back_4 cs_X5_46 (m_X5_in (wr x1) 0 1 σ) rfl rfl rfl rfl rfl (fun v4 s4 => ?_)
  refine sw_bif_ne (tgt := 12) (pc' := 10) dX5_back_7 (by decide) rfl (fun _ => ?_) (fun _ => ?_)
  · refine sw_aload_n (pc' := 13) dX5_back_12 rfl rfl ?_
    refine sw_getr (pc' := 16) dX5_back_13 fl_X5_31 (tbk_51) rfl rfl ?_
    refine sw_iload_n (pc' := 17) dX5_back_16 rfl rfl ?_
    refine sw_zald (pc' := 18) dX5_back_17 (tbk_59) rfl (fun v17 => ?_)
    refine sw_if_ne (tgt := 24) (pc' := 21) dX5_back_18 (by decide) rfl (fun _ => ?_) (fun _ => ?_)
    · refine sw_bipush (pc' := 23) dX5_back_21 rfl rfl ?_
      exact sw_iret dX5_back_23
    · refine sw_aload_n (pc' := 25) dX5_back_24 rfl rfl ?_
      refine sw_bipush (pc' := 27) dX5_back_25 rfl rfl ?_
      refine sw_iload_n (pc' := 28) dX5_back_27 rfl rfl ?_
      refine sw_iconst (pc' := 29) dX5_back_28 rfl ?_
      refine sw_iadd (pc' := 30) dX5_back_29 rfl ?_
      refine sw_imul (pc' := 31) dX5_back_30 rfl ?_
      refine sw_iconst (pc' := 32) dX5_back_31 rfl ?_
      refine sw_callVV (pc' := 35) (As := [vi (55 * (x1 + 1)), vi 0]) (rest := []) dX5_back_32 cv_X5_216 (tbk_51) (m_X5_copies (55 * (x1 + 1)) 0 s4) rfl rfl rfl rfl rfl (fun s32 => ?_)
      refine sw_aload_n (pc' := 36) dX5_back_35 rfl rfl ?_
      refine sw_getr (pc' := 39) dX5_back_36 fl_X5_7 (tbk_51) rfl rfl ?_
      refine sw_bipush (pc' := 41) dX5_back_39 rfl rfl ?_
      refine sw_iald (pc' := 42) dX5_back_41 (tbk_52) rfl (fun v41 => ?_)
      exact sw_iret dX5_back_42
  · refine sw_iconst (pc' := 11) dX5_back_10 rfl ?_
    exact sw_iret dX5_back_11
def rm_X5_sheet : Room := { frames := 1, cells := 0, slots := 0, locals := 25 }
def f_X5_sheet_56   : Nat → Int → Int → St → Option (Int × St)
  | 0, _, _, _ => none
  | n + 1, x1, x4, σ =>
    if wr x4 < wr 40 then
      bV (sv σ 62 160 ((40 * x1) + x4) 0) fun s75 => (f_X5_sheet_56 n) x1 (x4 + 1) s75
    else
      some (1, σ)
set_option maxRecDepth 20000 in
theorem s_X5_sheet_56     : ∀ (n : Nat) (x1 x4 : Int) (σ : St), SW G l RX5 cX5_sheet 5 rm_X5_sheet wI 56 [some (.ref (ad G 51)), some (vi x1), none, none, some (vi x4)] [] σ (f_X5_sheet_56 n x1 x4 σ) := by
  intro n
  induction n with
  | zero => intro x1 x4 σ; exact sw_none
  | succ n ih =>
    intro x1 x4 σ
    rw [f_X5_sheet_56]
    refine sw_iload (pc' := 58) dX5_sheet_56 rfl rfl ?_
    refine sw_bipush (pc' := 60) dX5_sheet_58 rfl rfl ?_
    refine sw_icmp_ge (tgt := 82) (pc' := 63) dX5_sheet_60 (by decide) rfl (fun _ => ?_) (fun _ => ?_)
    · refine sw_aload_n (pc' := 64) dX5_sheet_63 rfl rfl ?_
      refine sw_getr (pc' := 67) dX5_sheet_64 fl_X5_41 (tbk_51) rfl rfl ?_
      refine sw_bipush (pc' := 69) dX5_sheet_67 rfl rfl ?_
      refine sw_iload_n (pc' := 70) dX5_sheet_69 rfl rfl ?_
      refine sw_imul (pc' := 71) dX5_sheet_70 rfl ?_
      refine sw_iload (pc' := 73) dX5_sheet_71 rfl rfl ?_
      refine sw_iadd (pc' := 74) dX5_sheet_73 rfl ?_
      refine sw_iconst (pc' := 75) dX5_sheet_74 rfl ?_
      refine sw_iast (pc' := 76) dX5_sheet_75 (tbk_62) rfl (fun s75 => ?_)
      refine sw_iinc (pc' := 79) (x := x4) (L' := [some (.ref (ad G 51)), some (vi x1), none, none, some (vi (x4 + 1))]) dX5_sheet_76 rfl (by decide) rfl rfl rfl ?_
      refine sw_goto (pc' := 56) dX5_sheet_79 (by decide) ?_
      exact (ih) x1 (x4 + 1) s75
    · refine sw_iconst (pc' := 83) dX5_sheet_82 rfl ?_
      exact sw_iret dX5_sheet_83
def f_X5_sheet (x1 : Int) (x2 : Int) (x3 : Int) (σ : St) : Option (Int × St) :=
  bI (f_X5_in (wr x1) 0 3 σ) fun v6 s6 => if v6 then
    bI (f_X5_in (wr x2) 0 2 s6) fun v18 s18 => if v18 then
      if wr 40 < wr x3 then
        some ((-1), s18)
      else
        if wr x3 < 0 then
          some ((-14), s18)
        else
          bV (sv s18 60 4 x1 x2) fun s45 => bV (sv s45 61 4 x1 x3) fun s52 => f_X5_sheet_56 FU x1 0 s52
    else
      some ((-1), s18)
  else
    some ((-1), s6)
set_option maxRecDepth 20000 in
theorem m_X5_sheet (x1 : Int) (x2 : Int) (x3 : Int)  (σ : St) : MT G l yX5_sheet cX5_sheet 5 (some .int) rm_X5_sheet [.ref (ad G 51), vi x1, vi x2, vi x3] wI σ (f_X5_sheet x1 x2 x3 σ) := by
  refine mt_I (L := [some (.ref (ad G 51)), some (vi x1), some (vi x2), some (vi x3), none]) rfl (Nat.le_of_ble_eq_true rfl) rfl ?_
  show SW G l RX5 cX5_sheet 5 rm_X5_sheet wI 0 [some (.ref (ad G 51)), some (vi x1), some (vi x2), some (vi x3), none] [] σ (f_X5_sheet x1 x2 x3 σ)
  unfold f_X5_sheet
  refine sw_iload_n (pc' := 1) dX5_sheet_0 rfl rfl ?_
  refine sw_i2l (pc' := 2) dX5_sheet_1 rfl ?_
  refine sw_lconst (x := 0) (pc' := 3) dX5_sheet_2 rfl rfl ?_
  refine sw_ldc2 (n := 3) (pc' := 6) dX5_sheet_3 kl_X5_91 rfl ?_
  refine sw_callSB (pc' := 9) (As := [vl (wr x1), vl 0, vl 3]) (rest := []) dX5_sheet_6 cs_X5_46 (m_X5_in (wr x1) 0 3 σ) rfl rfl rfl rfl rfl (fun v6 s6 => ?_)
  refine sw_bif_eq (tgt := 30) (pc' := 12) dX5_sheet_9 (by decide) rfl (fun _ => ?_) (fun _ => ?_)
  · refine sw_iload_n (pc' := 13) dX5_sheet_12 rfl rfl ?_
    refine sw_i2l (pc' := 14) dX5_sheet_13 rfl ?_
    refine sw_lconst (x := 0) (pc' := 15) dX5_sheet_14 rfl rfl ?_
    refine sw_ldc2 (n := 2) (pc' := 18) dX5_sheet_15 kl_X5_262 rfl ?_
    refine sw_callSB (pc' := 21) (As := [vl (wr x2), vl 0, vl 2]) (rest := []) dX5_sheet_18 cs_X5_46 (m_X5_in (wr x2) 0 2 s6) rfl rfl rfl rfl rfl (fun v18 s18 => ?_)
    refine sw_bif_eq (tgt := 30) (pc' := 24) dX5_sheet_21 (by decide) rfl (fun _ => ?_) (fun _ => ?_)
    · refine sw_iload_n (pc' := 25) dX5_sheet_24 rfl rfl ?_
      refine sw_bipush (pc' := 27) dX5_sheet_25 rfl rfl ?_
      refine sw_icmp_le (tgt := 32) (pc' := 30) dX5_sheet_27 (by decide) rfl (fun _ => ?_) (fun _ => ?_)
      · refine sw_iconst (pc' := 31) dX5_sheet_30 rfl ?_
        exact sw_iret dX5_sheet_31
      · refine sw_iload_n (pc' := 33) dX5_sheet_32 rfl rfl ?_
        refine sw_if_ge (tgt := 39) (pc' := 36) dX5_sheet_33 (by decide) rfl (fun _ => ?_) (fun _ => ?_)
        · refine sw_bipush (pc' := 38) dX5_sheet_36 rfl rfl ?_
          exact sw_iret dX5_sheet_38
        · refine sw_aload_n (pc' := 40) dX5_sheet_39 rfl rfl ?_
          refine sw_getr (pc' := 43) dX5_sheet_40 fl_X5_35 (tbk_51) rfl rfl ?_
          refine sw_iload_n (pc' := 44) dX5_sheet_43 rfl rfl ?_
          refine sw_iload_n (pc' := 45) dX5_sheet_44 rfl rfl ?_
          refine sw_iast (pc' := 46) dX5_sheet_45 (tbk_60) rfl (fun s45 => ?_)
          refine sw_aload_n (pc' := 47) dX5_sheet_46 rfl rfl ?_
          refine sw_getr (pc' := 50) dX5_sheet_47 fl_X5_38 (tbk_51) rfl rfl ?_
          refine sw_iload_n (pc' := 51) dX5_sheet_50 rfl rfl ?_
          refine sw_iload_n (pc' := 52) dX5_sheet_51 rfl rfl ?_
          refine sw_iast (pc' := 53) dX5_sheet_52 (tbk_61) rfl (fun s52 => ?_)
          refine sw_iconst (pc' := 54) dX5_sheet_53 rfl ?_
          refine sw_istore (pc' := 56) (x := 0) (L' := [some (.ref (ad G 51)), some (vi x1), some (vi x2), some (vi x3), some (vi 0)]) dX5_sheet_54 rfl (by decide) rfl rfl ?_
          refine sw_msk [true, true, false, false, true] rfl ?_
          exact s_X5_sheet_56 FU x1 0 s52
    · refine sw_iconst (pc' := 31) dX5_sheet_30 rfl ?_
      exact sw_iret dX5_sheet_31
  · refine sw_iconst (pc' := 31) dX5_sheet_30 rfl ?_
    exact sw_iret dX5_sheet_31
def rm_X5_lay : Room := { frames := 1, cells := 0, slots := 0, locals := 25 }
def f_X5_lay_99   (t0 t1 t2 : Int) (σ : St) : Option (Int × St) :=
  bV (sv σ 62 160 t1 t2) fun s99 => some (1, s99)
set_option maxRecDepth 20000 in
theorem s_X5_lay_99     (t0 t1 t2 : Int) (σ : St) : SW G l RX5 cX5_lay 4 rm_X5_lay wI 99 [none, none, none, none] [vi t2, vi t1, .ref (ad G 62)] σ (f_X5_lay_99 t0 t1 t2 σ) := by
  unfold f_X5_lay_99
  refine sw_iast (pc' := 100) dX5_lay_99 (tbk_62) rfl (fun s99 => ?_)
  refine sw_iconst (pc' := 101) dX5_lay_100 rfl ?_
  exact sw_iret dX5_lay_101
def f_X5_lay (x1 : Int) (x2 : Int) (x3 : Int) (σ : St) : Option (Int × St) :=
  bI (f_X5_in (wr x1) 0 3 σ) fun v6 s6 => if v6 then
    bV (ld s6 60 4 x1) fun v19 => if wr v19 = wr (-4) then
      some ((-11), s6)
    else
      bV (ld s6 61 4 x1) fun v36 => bI (f_X5_in (wr x2) 0 (wr (v36 - 1)) s6) fun v40 s40 => if v40 then
        bV (ld s40 60 4 x1) fun v64 => if wr v64 = 0 then
          f_X5_lay_99 62 ((40 * x1) + x2) (isr (isl x3 24) 24) s40
        else
          bV (ld s40 60 4 x1) fun v83 => if wr v83 = wr 1 then
            f_X5_lay_99 62 ((40 * x1) + x2) (isr (isl x3 16) 16) s40
          else
            f_X5_lay_99 62 ((40 * x1) + x2) x3 s40
      else
        some ((-12), s40)
  else
    some ((-1), s6)
set_option maxRecDepth 20000 in
theorem m_X5_lay (x1 : Int) (x2 : Int) (x3 : Int)  (σ : St) : MT G l yX5_lay cX5_lay 4 (some .int) rm_X5_lay [.ref (ad G 51), vi x1, vi x2, vi x3] wI σ (f_X5_lay x1 x2 x3 σ) := by
  refine mt_I (L := [some (.ref (ad G 51)), some (vi x1), some (vi x2), some (vi x3)]) rfl (Nat.le_of_ble_eq_true rfl) rfl ?_
  show SW G l RX5 cX5_lay 4 rm_X5_lay wI 0 [some (.ref (ad G 51)), some (vi x1), some (vi x2), some (vi x3)] [] σ (f_X5_lay x1 x2 x3 σ)
  unfold f_X5_lay
  refine sw_iload_n (pc' := 1) dX5_lay_0 rfl rfl ?_
  refine sw_i2l (pc' := 2) dX5_lay_1 rfl ?_
  refine sw_lconst (x := 0) (pc' := 3) dX5_lay_2 rfl rfl ?_
  refine sw_ldc2 (n := 3) (pc' := 6) dX5_lay_3 kl_X5_91 rfl ?_
  refine sw_callSB (pc' := 9) (As := [vl (wr x1), vl 0, vl 3]) (rest := []) dX5_lay_6 cs_X5_46 (m_X5_in (wr x1) 0 3 σ) rfl rfl rfl rfl rfl (fun v6 s6 => ?_)
  refine sw_bif_ne (tgt := 14) (pc' := 12) dX5_lay_9 (by decide) rfl (fun _ => ?_) (fun _ => ?_)
  · refine sw_aload_n (pc' := 15) dX5_lay_14 rfl rfl ?_
    refine sw_getr (pc' := 18) dX5_lay_15 fl_X5_35 (tbk_51) rfl rfl ?_
    refine sw_iload_n (pc' := 19) dX5_lay_18 rfl rfl ?_
    refine sw_iald (pc' := 20) dX5_lay_19 (tbk_60) rfl (fun v19 => ?_)
    refine sw_bipush (pc' := 22) dX5_lay_20 rfl rfl ?_
    refine sw_icmp_ne (tgt := 28) (pc' := 25) dX5_lay_22 (by decide) rfl (fun _ => ?_) (fun _ => ?_)
    · refine sw_bipush (pc' := 27) dX5_lay_25 rfl rfl ?_
      exact sw_iret dX5_lay_27
    · refine sw_iload_n (pc' := 29) dX5_lay_28 rfl rfl ?_
      refine sw_i2l (pc' := 30) dX5_lay_29 rfl ?_
      refine sw_lconst (x := 0) (pc' := 31) dX5_lay_30 rfl rfl ?_
      refine sw_aload_n (pc' := 32) dX5_lay_31 rfl rfl ?_
      refine sw_getr (pc' := 35) dX5_lay_32 fl_X5_38 (tbk_51) rfl rfl ?_
      refine sw_iload_n (pc' := 36) dX5_lay_35 rfl rfl ?_
      refine sw_iald (pc' := 37) dX5_lay_36 (tbk_61) rfl (fun v36 => ?_)
      refine sw_iconst (pc' := 38) dX5_lay_37 rfl ?_
      refine sw_isub (pc' := 39) dX5_lay_38 rfl ?_
      refine sw_i2l (pc' := 40) dX5_lay_39 rfl ?_
      refine sw_callSB (pc' := 43) (As := [vl (wr x2), vl 0, vl (wr (v36 - 1))]) (rest := []) dX5_lay_40 cs_X5_46 (m_X5_in (wr x2) 0 (wr (v36 - 1)) s6) rfl rfl rfl rfl rfl (fun v40 s40 => ?_)
      refine sw_bif_ne (tgt := 49) (pc' := 46) dX5_lay_43 (by decide) rfl (fun _ => ?_) (fun _ => ?_)
      · refine sw_aload_n (pc' := 50) dX5_lay_49 rfl rfl ?_
        refine sw_getr (pc' := 53) dX5_lay_50 fl_X5_41 (tbk_51) rfl rfl ?_
        refine sw_bipush (pc' := 55) dX5_lay_53 rfl rfl ?_
        refine sw_iload_n (pc' := 56) dX5_lay_55 rfl rfl ?_
        refine sw_imul (pc' := 57) dX5_lay_56 rfl ?_
        refine sw_iload_n (pc' := 58) dX5_lay_57 rfl rfl ?_
        refine sw_iadd (pc' := 59) dX5_lay_58 rfl ?_
        refine sw_aload_n (pc' := 60) dX5_lay_59 rfl rfl ?_
        refine sw_getr (pc' := 63) dX5_lay_60 fl_X5_35 (tbk_51) rfl rfl ?_
        refine sw_iload_n (pc' := 64) dX5_lay_63 rfl rfl ?_
        refine sw_iald (pc' := 65) dX5_lay_64 (tbk_60) rfl (fun v64 => ?_)
        refine sw_if_ne (tgt := 78) (pc' := 68) dX5_lay_65 (by decide) rfl (fun _ => ?_) (fun _ => ?_)
        · refine sw_iload_n (pc' := 69) dX5_lay_68 rfl rfl ?_
          refine sw_bipush (pc' := 71) dX5_lay_69 rfl rfl ?_
          refine sw_ishl (pc' := 72) dX5_lay_71 rfl ?_
          refine sw_bipush (pc' := 74) dX5_lay_72 rfl rfl ?_
          refine sw_ishr (pc' := 75) dX5_lay_74 rfl ?_
          refine sw_goto (pc' := 99) dX5_lay_75 (by decide) ?_
          refine sw_msk [false, false, false, false] rfl ?_
          exact s_X5_lay_99 62 ((40 * x1) + x2) (isr (isl x3 24) 24) s40
        · refine sw_aload_n (pc' := 79) dX5_lay_78 rfl rfl ?_
          refine sw_getr (pc' := 82) dX5_lay_79 fl_X5_35 (tbk_51) rfl rfl ?_
          refine sw_iload_n (pc' := 83) dX5_lay_82 rfl rfl ?_
          refine sw_iald (pc' := 84) dX5_lay_83 (tbk_60) rfl (fun v83 => ?_)
          refine sw_iconst (pc' := 85) dX5_lay_84 rfl ?_
          refine sw_icmp_ne (tgt := 98) (pc' := 88) dX5_lay_85 (by decide) rfl (fun _ => ?_) (fun _ => ?_)
          · refine sw_iload_n (pc' := 89) dX5_lay_88 rfl rfl ?_
            refine sw_bipush (pc' := 91) dX5_lay_89 rfl rfl ?_
            refine sw_ishl (pc' := 92) dX5_lay_91 rfl ?_
            refine sw_bipush (pc' := 94) dX5_lay_92 rfl rfl ?_
            refine sw_ishr (pc' := 95) dX5_lay_94 rfl ?_
            refine sw_goto (pc' := 99) dX5_lay_95 (by decide) ?_
            refine sw_msk [false, false, false, false] rfl ?_
            exact s_X5_lay_99 62 ((40 * x1) + x2) (isr (isl x3 16) 16) s40
          · refine sw_iload_n (pc' := 99) dX5_lay_98 rfl rfl ?_
            refine sw_msk [false, false, false, false] rfl ?_
            exact s_X5_lay_99 62 ((40 * x1) + x2) x3 s40
      · refine sw_bipush (pc' := 48) dX5_lay_46 rfl rfl ?_
        exact sw_iret dX5_lay_48
  · refine sw_iconst (pc' := 13) dX5_lay_12 rfl ?_
    exact sw_iret dX5_lay_13
def rm_X5_read : Room := { frames := 3, cells := 0, slots := 0, locals := 71 }
def f_X5_read_210  (k56 : Int → Int → Int → Int → Int → Int → Int → St → Option (Int × St)) (x1 x2 x3 x4 x5 x6 x7 : Int) (σ : St) : Option (Int × St) :=
  k56 x1 x2 x3 x4 x5 x6 (x7 + 1) σ
set_option maxRecDepth 20000 in
theorem s_X5_read_210   (k56 : Int → Int → Int → Int → Int → Int → Int → St → Option (Int × St)) (hk56 : ∀ (x1 x2 x3 x4 x5 x6 x7 : Int) (σ : St), SW G l RX5 cX5_read 9 rm_X5_read wI 56 [some (.ref (ad G 51)), some (vi x1), some (vi x2), some (vi x3), some (vi x4), some (vi x5), some (vi x6), some (vi x7), none] [] σ (k56 x1 x2 x3 x4 x5 x6 x7 σ)) (x1 x2 x3 x4 x5 x6 x7 : Int) (σ : St) : SW G l RX5 cX5_read 9 rm_X5_read wI 210 [some (.ref (ad G 51)), some (vi x1), some (vi x2), some (vi x3), some (vi x4), some (vi x5), some (vi x6), some (vi x7), none] [] σ (f_X5_read_210 k56 x1 x2 x3 x4 x5 x6 x7 σ) := by
  unfold f_X5_read_210
  refine sw_iinc (pc' := 213) (x := x7) (L' := [some (.ref (ad G 51)), some (vi x1), some (vi x2), some (vi x3), some (vi x4), some (vi x5), some (vi x6), some (vi (x7 + 1)), none]) dX5_read_210 rfl (by decide) rfl rfl rfl ?_
  refine sw_goto (pc' := 56) dX5_read_213 (by decide) ?_
  exact hk56 x1 x2 x3 x4 x5 x6 (x7 + 1) σ
def f_X5_read_126  (k56 : Int → Int → Int → Int → Int → Int → Int → St → Option (Int × St)) (x1 x2 x3 x4 x6 x7 t0 : Int) (σ : St) : Option (Int × St) :=
  if wr t0 = 0 then
    bV (irm x7 4) fun v136 => if wr v136 = wr 3 then
      bV (ld σ 62 160 ((((40 * x1) + x3) + x7) - 3)) fun v161 => bV (ld σ 62 160 ((((40 * x1) + x3) + x7) - 2)) fun v170 => bV (ld σ 62 160 ((((40 * x1) + x3) + x7) - 1)) fun v179 => bV (ld σ 62 160 (((40 * x1) + x3) + x7)) fun v186 => bI (f_X5_sends v161 v170 v179 v186 σ) fun v187 s187 => if wr v187 < 0 then
        bV (f_X5_copies 165 0 s187) fun s198 => some (((-20) - x6), s198)
      else
        f_X5_read_210 k56 x1 x2 x3 x4 t0 (x6 + 1) x7 s187
    else
      f_X5_read_210 k56 x1 x2 x3 x4 t0 x6 x7 σ
  else
    f_X5_read_210 k56 x1 x2 x3 x4 t0 x6 x7 σ
set_option maxRecDepth 20000 in
theorem s_X5_read_126   (k56 : Int → Int → Int → Int → Int → Int → Int → St → Option (Int × St)) (hk56 : ∀ (x1 x2 x3 x4 x5 x6 x7 : Int) (σ : St), SW G l RX5 cX5_read 9 rm_X5_read wI 56 [some (.ref (ad G 51)), some (vi x1), some (vi x2), some (vi x3), some (vi x4), some (vi x5), some (vi x6), some (vi x7), none] [] σ (k56 x1 x2 x3 x4 x5 x6 x7 σ)) (x1 x2 x3 x4 x6 x7 t0 : Int) (σ : St) : SW G l RX5 cX5_read 9 rm_X5_read wI 126 [some (.ref (ad G 51)), some (vi x1), some (vi x2), some (vi x3), some (vi x4), none, some (vi x6), some (vi x7), none] [vi t0] σ (f_X5_read_126 k56 x1 x2 x3 x4 x6 x7 t0 σ) := by
  unfold f_X5_read_126
  refine sw_istore (pc' := 128) (x := t0) (L' := [some (.ref (ad G 51)), some (vi x1), some (vi x2), some (vi x3), some (vi x4), some (vi t0), some (vi x6), some (vi x7), none]) dX5_read_126 rfl (by decide) rfl rfl ?_
  refine sw_iload (pc' := 130) dX5_read_128 rfl rfl ?_
  refine sw_if_ne (tgt := 210) (pc' := 133) dX5_read_130 (by decide) rfl (fun _ => ?_) (fun _ => ?_)
  · refine sw_iload (pc' := 135) dX5_read_133 rfl rfl ?_
    refine sw_iconst (pc' := 136) dX5_read_135 rfl ?_
    refine sw_irem (pc' := 137) dX5_read_136 rfl (fun v136 => ?_)
    refine sw_iconst (pc' := 138) dX5_read_137 rfl ?_
    refine sw_icmp_ne (tgt := 210) (pc' := 141) dX5_read_138 (by decide) rfl (fun _ => ?_) (fun _ => ?_)
    · refine sw_bipush (pc' := 143) dX5_read_141 rfl rfl ?_
      refine sw_iload_n (pc' := 144) dX5_read_143 rfl rfl ?_
      refine sw_imul (pc' := 145) dX5_read_144 rfl ?_
      refine sw_iload_n (pc' := 146) dX5_read_145 rfl rfl ?_
      refine sw_iadd (pc' := 147) dX5_read_146 rfl ?_
      refine sw_iload (pc' := 149) dX5_read_147 rfl rfl ?_
      refine sw_iadd (pc' := 150) dX5_read_149 rfl ?_
      refine sw_istore (pc' := 152) (x := (((40 * x1) + x3) + x7)) (L' := [some (.ref (ad G 51)), some (vi x1), some (vi x2), some (vi x3), some (vi x4), some (vi t0), some (vi x6), some (vi x7), some (vi (((40 * x1) + x3) + x7))]) dX5_read_150 rfl (by decide) rfl rfl ?_
      refine sw_aload_n (pc' := 153) dX5_read_152 rfl rfl ?_
      refine sw_aload_n (pc' := 154) dX5_read_153 rfl rfl ?_
      refine sw_getr (pc' := 157) dX5_read_154 fl_X5_41 (tbk_51) rfl rfl ?_
      refine sw_iload (pc' := 159) dX5_read_157 rfl rfl ?_
      refine sw_iconst (pc' := 160) dX5_read_159 rfl ?_
      refine sw_isub (pc' := 161) dX5_read_160 rfl ?_
      refine sw_iald (pc' := 162) dX5_read_161 (tbk_62) rfl (fun v161 => ?_)
      refine sw_aload_n (pc' := 163) dX5_read_162 rfl rfl ?_
      refine sw_getr (pc' := 166) dX5_read_163 fl_X5_41 (tbk_51) rfl rfl ?_
      refine sw_iload (pc' := 168) dX5_read_166 rfl rfl ?_
      refine sw_iconst (pc' := 169) dX5_read_168 rfl ?_
      refine sw_isub (pc' := 170) dX5_read_169 rfl ?_
      refine sw_iald (pc' := 171) dX5_read_170 (tbk_62) rfl (fun v170 => ?_)
      refine sw_aload_n (pc' := 172) dX5_read_171 rfl rfl ?_
      refine sw_getr (pc' := 175) dX5_read_172 fl_X5_41 (tbk_51) rfl rfl ?_
      refine sw_iload (pc' := 177) dX5_read_175 rfl rfl ?_
      refine sw_iconst (pc' := 178) dX5_read_177 rfl ?_
      refine sw_isub (pc' := 179) dX5_read_178 rfl ?_
      refine sw_iald (pc' := 180) dX5_read_179 (tbk_62) rfl (fun v179 => ?_)
      refine sw_aload_n (pc' := 181) dX5_read_180 rfl rfl ?_
      refine sw_getr (pc' := 184) dX5_read_181 fl_X5_41 (tbk_51) rfl rfl ?_
      refine sw_iload (pc' := 186) dX5_read_184 rfl rfl ?_
      refine sw_iald (pc' := 187) dX5_read_186 (tbk_62) rfl (fun v186 => ?_)
      refine sw_callVI (pc' := 190) (As := [vi v161, vi v170, vi v179, vi v186]) (rest := []) dX5_read_187 cv_X5_208 (tbk_51) (m_X5_sends v161 v170 v179 v186 σ) rfl rfl rfl rfl rfl (fun v187 s187 => ?_)
      refine sw_if_ge (tgt := 207) (pc' := 193) dX5_read_190 (by decide) rfl (fun _ => ?_) (fun _ => ?_)
      · refine sw_aload_n (pc' := 194) dX5_read_193 rfl rfl ?_
        refine sw_sipush (pc' := 197) dX5_read_194 rfl rfl ?_
        refine sw_iconst (pc' := 198) dX5_read_197 rfl ?_
        refine sw_callVV (pc' := 201) (As := [vi 165, vi 0]) (rest := []) dX5_read_198 cv_X5_216 (tbk_51) (m_X5_copies 165 0 s187) rfl rfl rfl rfl rfl (fun s198 => ?_)
        refine sw_bipush (pc' := 203) dX5_read_201 rfl rfl ?_
        refine sw_iload (pc' := 205) dX5_read_203 rfl rfl ?_
        refine sw_isub (pc' := 206) dX5_read_205 rfl ?_
        exact sw_iret dX5_read_206
      · refine sw_iinc (pc' := 210) (x := x6) (L' := [some (.ref (ad G 51)), some (vi x1), some (vi x2), some (vi x3), some (vi x4), some (vi t0), some (vi (x6 + 1)), some (vi x7), some (vi (((40 * x1) + x3) + x7))]) dX5_read_207 rfl (by decide) rfl rfl rfl ?_
        refine sw_msk [true, true, true, true, true, true, true, true, false] rfl ?_
        exact s_X5_read_210 k56 hk56 x1 x2 x3 x4 t0 (x6 + 1) x7 s187
    · exact s_X5_read_210 k56 hk56 x1 x2 x3 x4 t0 x6 x7 σ
  · exact s_X5_read_210 k56 hk56 x1 x2 x3 x4 t0 x6 x7 σ
def f_X5_read_216   (x5 x6 : Int) (σ : St) : Option (Int × St) :=
  bV (pf σ 51 29 x5) fun s219 => some (x6, s219)
set_option maxRecDepth 20000 in
theorem s_X5_read_216     (x5 x6 : Int) (σ : St) : SW G l RX5 cX5_read 9 rm_X5_read wI 216 [some (.ref (ad G 51)), none, none, none, none, some (vi x5), some (vi x6), none, none] [] σ (f_X5_read_216 x5 x6 σ) := by
  unfold f_X5_read_216
  refine sw_aload_n (pc' := 217) dX5_read_216 rfl rfl ?_
  refine sw_iload (pc' := 219) dX5_read_217 rfl rfl ?_
  refine sw_putI (pc' := 222) dX5_read_219 fp_X5_264 (tbk_51) rfl rfl (fun s219 => ?_)
  refine sw_iload (pc' := 224) dX5_read_222 rfl rfl ?_
  exact sw_iret dX5_read_224
def f_X5_read_56   : Nat → Int → Int → Int → Int → Int → Int → Int → St → Option (Int × St)
  | 0, _, _, _, _, _, _, _, _ => none
  | n + 1, x1, x2, x3, x4, x5, x6, x7, σ =>
    if wr x7 < wr (4 * x4) then
      if wr x5 = 0 then
        bV (ld σ 60 4 x1) fun v75 => if wr v75 = wr (-4) then
          f_X5_read_126 (f_X5_read_56 n) x1 x2 x3 x4 x6 x7 1 σ
        else
          bV (ld σ 60 4 x1) fun v90 => if wr v90 = wr x2 then
            bV (ld σ 61 4 x1) fun v111 => bI (f_X5_in ((wr x3) + (wr x7)) 0 (wr (v111 - 1)) σ) fun v115 s115 => if v115 then
              f_X5_read_126 (f_X5_read_56 n) x1 x2 x3 x4 x6 x7 0 s115
            else
              f_X5_read_126 (f_X5_read_56 n) x1 x2 x3 x4 x6 x7 2 s115
          else
            f_X5_read_126 (f_X5_read_56 n) x1 x2 x3 x4 x6 x7 3 σ
      else
        f_X5_read_216 x5 x6 σ
    else
      f_X5_read_216 x5 x6 σ
set_option maxRecDepth 20000 in
theorem s_X5_read_56     : ∀ (n : Nat) (x1 x2 x3 x4 x5 x6 x7 : Int) (σ : St), SW G l RX5 cX5_read 9 rm_X5_read wI 56 [some (.ref (ad G 51)), some (vi x1), some (vi x2), some (vi x3), some (vi x4), some (vi x5), some (vi x6), some (vi x7), none] [] σ (f_X5_read_56 n x1 x2 x3 x4 x5 x6 x7 σ) := by
  intro n
  induction n with
  | zero => intro x1 x2 x3 x4 x5 x6 x7 σ; exact sw_none
  | succ n ih =>
    intro x1 x2 x3 x4 x5 x6 x7 σ
    rw [f_X5_read_56]
    refine sw_iload (pc' := 58) dX5_read_56 rfl rfl ?_
    refine sw_iconst (pc' := 59) dX5_read_58 rfl ?_
    refine sw_iload (pc' := 61) dX5_read_59 rfl rfl ?_
    refine sw_imul (pc' := 62) dX5_read_61 rfl ?_
    refine sw_icmp_ge (tgt := 216) (pc' := 65) dX5_read_62 (by decide) rfl (fun _ => ?_) (fun _ => ?_)
    · refine sw_iload (pc' := 67) dX5_read_65 rfl rfl ?_
      refine sw_if_ne (tgt := 216) (pc' := 70) dX5_read_67 (by decide) rfl (fun _ => ?_) (fun _ => ?_)
      · refine sw_aload_n (pc' := 71) dX5_read_70 rfl rfl ?_
        refine sw_getr (pc' := 74) dX5_read_71 fl_X5_35 (tbk_51) rfl rfl ?_
        refine sw_iload_n (pc' := 75) dX5_read_74 rfl rfl ?_
        refine sw_iald (pc' := 76) dX5_read_75 (tbk_60) rfl (fun v75 => ?_)
        refine sw_bipush (pc' := 78) dX5_read_76 rfl rfl ?_
        refine sw_icmp_ne (tgt := 85) (pc' := 81) dX5_read_78 (by decide) rfl (fun _ => ?_) (fun _ => ?_)
        · refine sw_iconst (pc' := 82) dX5_read_81 rfl ?_
          refine sw_goto (pc' := 126) dX5_read_82 (by decide) ?_
          refine sw_msk [true, true, true, true, true, false, true, true, false] rfl ?_
          exact s_X5_read_126 (f_X5_read_56 n) (ih) x1 x2 x3 x4 x6 x7 1 σ
        · refine sw_aload_n (pc' := 86) dX5_read_85 rfl rfl ?_
          refine sw_getr (pc' := 89) dX5_read_86 fl_X5_35 (tbk_51) rfl rfl ?_
          refine sw_iload_n (pc' := 90) dX5_read_89 rfl rfl ?_
          refine sw_iald (pc' := 91) dX5_read_90 (tbk_60) rfl (fun v90 => ?_)
          refine sw_iload_n (pc' := 92) dX5_read_91 rfl rfl ?_
          refine sw_icmp_eq (tgt := 99) (pc' := 95) dX5_read_92 (by decide) rfl (fun _ => ?_) (fun _ => ?_)
          · refine sw_iload_n (pc' := 100) dX5_read_99 rfl rfl ?_
            refine sw_i2l (pc' := 101) dX5_read_100 rfl ?_
            refine sw_iload (pc' := 103) dX5_read_101 rfl rfl ?_
            refine sw_i2l (pc' := 104) dX5_read_103 rfl ?_
            refine sw_ladd (pc' := 105) dX5_read_104 rfl ?_
            refine sw_lconst (x := 0) (pc' := 106) dX5_read_105 rfl rfl ?_
            refine sw_aload_n (pc' := 107) dX5_read_106 rfl rfl ?_
            refine sw_getr (pc' := 110) dX5_read_107 fl_X5_38 (tbk_51) rfl rfl ?_
            refine sw_iload_n (pc' := 111) dX5_read_110 rfl rfl ?_
            refine sw_iald (pc' := 112) dX5_read_111 (tbk_61) rfl (fun v111 => ?_)
            refine sw_iconst (pc' := 113) dX5_read_112 rfl ?_
            refine sw_isub (pc' := 114) dX5_read_113 rfl ?_
            refine sw_i2l (pc' := 115) dX5_read_114 rfl ?_
            refine sw_callSB (pc' := 118) (As := [vl ((wr x3) + (wr x7)), vl 0, vl (wr (v111 - 1))]) (rest := []) dX5_read_115 cs_X5_46 (m_X5_in ((wr x3) + (wr x7)) 0 (wr (v111 - 1)) σ) rfl rfl rfl rfl rfl (fun v115 s115 => ?_)
            refine sw_bif_ne (tgt := 125) (pc' := 121) dX5_read_118 (by decide) rfl (fun _ => ?_) (fun _ => ?_)
            · refine sw_iconst (pc' := 126) dX5_read_125 rfl ?_
              refine sw_msk [true, true, true, true, true, false, true, true, false] rfl ?_
              exact s_X5_read_126 (f_X5_read_56 n) (ih) x1 x2 x3 x4 x6 x7 0 s115
            · refine sw_iconst (pc' := 122) dX5_read_121 rfl ?_
              refine sw_goto (pc' := 126) dX5_read_122 (by decide) ?_
              refine sw_msk [true, true, true, true, true, false, true, true, false] rfl ?_
              exact s_X5_read_126 (f_X5_read_56 n) (ih) x1 x2 x3 x4 x6 x7 2 s115
          · refine sw_iconst (pc' := 96) dX5_read_95 rfl ?_
            refine sw_goto (pc' := 126) dX5_read_96 (by decide) ?_
            refine sw_msk [true, true, true, true, true, false, true, true, false] rfl ?_
            exact s_X5_read_126 (f_X5_read_56 n) (ih) x1 x2 x3 x4 x6 x7 3 σ
      · refine sw_msk [true, false, false, false, false, true, true, false, false] rfl ?_
        exact s_X5_read_216 x5 x6 σ
    · refine sw_msk [true, false, false, false, false, true, true, false, false] rfl ?_
      exact s_X5_read_216 x5 x6 σ
def f_X5_read (x1 : Int) (x2 : Int) (x3 : Int) (x4 : Int) (σ : St) : Option (Int × St) :=
  bI (f_X5_in (wr x1) 0 3 σ) fun v6 s6 => if v6 then
    bI (f_X5_in (wr x2) 0 2 s6) fun v18 s18 => if v18 then
      bI (f_X5_in (wr x4) 0 10 s18) fun v31 s31 => if v31 then
        bV (f_X5_copies 0 165 s31) fun s44 => f_X5_read_56 FU x1 x2 x3 x4 0 0 0 s44
      else
        some ((-1), s31)
    else
      some ((-1), s18)
  else
    some ((-1), s6)
set_option maxRecDepth 20000 in
theorem m_X5_read (x1 : Int) (x2 : Int) (x3 : Int) (x4 : Int)  (σ : St) : MT G l yX5_read cX5_read 9 (some .int) rm_X5_read [.ref (ad G 51), vi x1, vi x2, vi x3, vi x4] wI σ (f_X5_read x1 x2 x3 x4 σ) := by
  refine mt_I (L := [some (.ref (ad G 51)), some (vi x1), some (vi x2), some (vi x3), some (vi x4), none, none, none, none]) rfl (Nat.le_of_ble_eq_true rfl) rfl ?_
  show SW G l RX5 cX5_read 9 rm_X5_read wI 0 [some (.ref (ad G 51)), some (vi x1), some (vi x2), some (vi x3), some (vi x4), none, none, none, none] [] σ (f_X5_read x1 x2 x3 x4 σ)
  unfold f_X5_read
  refine sw_iload_n (pc' := 1) dX5_read_0 rfl rfl ?_
  refine sw_i2l (pc' := 2) dX5_read_1 rfl ?_
  refine sw_lconst (x := 0) (pc' := 3) dX5_read_2 rfl rfl ?_
  refine sw_ldc2 (n := 3) (pc' := 6) dX5_read_3 kl_X5_91 rfl ?_
  refine sw_callSB (pc' := 9) (As := [vl (wr x1), vl 0, vl 3]) (rest := []) dX5_read_6 cs_X5_46 (m_X5_in (wr x1) 0 3 σ) rfl rfl rfl rfl rfl (fun v6 s6 => ?_)
  refine sw_bif_eq (tgt := 37) (pc' := 12) dX5_read_9 (by decide) rfl (fun _ => ?_) (fun _ => ?_)
  · refine sw_iload_n (pc' := 13) dX5_read_12 rfl rfl ?_
    refine sw_i2l (pc' := 14) dX5_read_13 rfl ?_
    refine sw_lconst (x := 0) (pc' := 15) dX5_read_14 rfl rfl ?_
    refine sw_ldc2 (n := 2) (pc' := 18) dX5_read_15 kl_X5_262 rfl ?_
    refine sw_callSB (pc' := 21) (As := [vl (wr x2), vl 0, vl 2]) (rest := []) dX5_read_18 cs_X5_46 (m_X5_in (wr x2) 0 2 s6) rfl rfl rfl rfl rfl (fun v18 s18 => ?_)
    refine sw_bif_eq (tgt := 37) (pc' := 24) dX5_read_21 (by decide) rfl (fun _ => ?_) (fun _ => ?_)
    · refine sw_iload (pc' := 26) dX5_read_24 rfl rfl ?_
      refine sw_i2l (pc' := 27) dX5_read_26 rfl ?_
      refine sw_lconst (x := 0) (pc' := 28) dX5_read_27 rfl rfl ?_
      refine sw_ldc2 (n := 10) (pc' := 31) dX5_read_28 kl_X5_238 rfl ?_
      refine sw_callSB (pc' := 34) (As := [vl (wr x4), vl 0, vl 10]) (rest := []) dX5_read_31 cs_X5_46 (m_X5_in (wr x4) 0 10 s18) rfl rfl rfl rfl rfl (fun v31 s31 => ?_)
      refine sw_bif_ne (tgt := 39) (pc' := 37) dX5_read_34 (by decide) rfl (fun _ => ?_) (fun _ => ?_)
      · refine sw_aload_n (pc' := 40) dX5_read_39 rfl rfl ?_
        refine sw_iconst (pc' := 41) dX5_read_40 rfl ?_
        refine sw_sipush (pc' := 44) dX5_read_41 rfl rfl ?_
        refine sw_callVV (pc' := 47) (As := [vi 0, vi 165]) (rest := []) dX5_read_44 cv_X5_216 (tbk_51) (m_X5_copies 0 165 s31) rfl rfl rfl rfl rfl (fun s44 => ?_)
        refine sw_iconst (pc' := 48) dX5_read_47 rfl ?_
        refine sw_istore (pc' := 50) (x := 0) (L' := [some (.ref (ad G 51)), some (vi x1), some (vi x2), some (vi x3), some (vi x4), some (vi 0), none, none, none]) dX5_read_48 rfl (by decide) rfl rfl ?_
        refine sw_iconst (pc' := 51) dX5_read_50 rfl ?_
        refine sw_istore (pc' := 53) (x := 0) (L' := [some (.ref (ad G 51)), some (vi x1), some (vi x2), some (vi x3), some (vi x4), some (vi 0), some (vi 0), none, none]) dX5_read_51 rfl (by decide) rfl rfl ?_
        refine sw_iconst (pc' := 54) dX5_read_53 rfl ?_
        refine sw_istore (pc' := 56) (x := 0) (L' := [some (.ref (ad G 51)), some (vi x1), some (vi x2), some (vi x3), some (vi x4), some (vi 0), some (vi 0), some (vi 0), none]) dX5_read_54 rfl (by decide) rfl rfl ?_
        exact s_X5_read_56 FU x1 x2 x3 x4 0 0 0 s44
      · refine sw_iconst (pc' := 38) dX5_read_37 rfl ?_
        exact sw_iret dX5_read_38
    · refine sw_iconst (pc' := 38) dX5_read_37 rfl ?_
      exact sw_iret dX5_read_38
  · refine sw_iconst (pc' := 38) dX5_read_37 rfl ?_
    exact sw_iret dX5_read_38
def rm_X5_torn : Room := { frames := 0, cells := 0, slots := 0, locals := 0 }
def f_X5_torn  (σ : St) : Option (Int × St) :=
  some ((σ 51 29), σ)
set_option maxRecDepth 20000 in
theorem m_X5_torn   (σ : St) : MT G l yX5_torn cX5_torn 1 (some .int) rm_X5_torn [.ref (ad G 51)] wI σ (f_X5_torn σ) := by
  refine mt_I (L := [some (.ref (ad G 51))]) rfl (Nat.le_of_ble_eq_true rfl) rfl ?_
  show SW G l RX5 cX5_torn 1 rm_X5_torn wI 0 [some (.ref (ad G 51))] [] σ (f_X5_torn σ)
  unfold f_X5_torn
  refine sw_aload_n (pc' := 1) dX5_torn_0 rfl rfl ?_
  refine sw_getn (pc' := 4) dX5_torn_1 fl_X5_264 (tbk_51) rfl rfl ?_
  exact sw_iret dX5_torn_4
def rm_X5_count : Room := { frames := 0, cells := 0, slots := 0, locals := 0 }
def f_X5_count_123   (t0 : Int) (σ : St) : Option (Int × St) :=
  bV (ld σ 59 2 1) fun v128 => if wr v128 = 0 then
    some ((t0 + 0), σ)
  else
    some ((t0 + 1), σ)
set_option maxRecDepth 20000 in
theorem s_X5_count_123     (t0 : Int) (σ : St) : SW G l RX5 cX5_count 5 rm_X5_count wI 123 [some (.ref (ad G 51)), none, none, none, none] [vi t0] σ (f_X5_count_123 t0 σ) := by
  unfold f_X5_count_123
  refine sw_aload_n (pc' := 124) dX5_count_123 rfl rfl ?_
  refine sw_getr (pc' := 127) dX5_count_124 fl_X5_31 (tbk_51) rfl rfl ?_
  refine sw_iconst (pc' := 128) dX5_count_127 rfl ?_
  refine sw_zald (pc' := 129) dX5_count_128 (tbk_59) rfl (fun v128 => ?_)
  refine sw_if_eq (tgt := 136) (pc' := 132) dX5_count_129 (by decide) rfl (fun _ => ?_) (fun _ => ?_)
  · refine sw_iconst (pc' := 137) dX5_count_136 rfl ?_
    refine sw_iadd (pc' := 138) dX5_count_137 rfl ?_
    exact sw_iret dX5_count_138
  · refine sw_iconst (pc' := 133) dX5_count_132 rfl ?_
    refine sw_goto (pc' := 137) dX5_count_133 (by decide) ?_
    refine sw_iadd (pc' := 138) dX5_count_137 rfl ?_
    exact sw_iret dX5_count_138
def f_X5_count_38   : Nat → Int → Int → Int → Int → St → Option (Int × St)
  | 0, _, _, _, _, _ => none
  | n + 1, x1, x2, x3, x4, σ =>
    if wr x4 < wr 4 then
      bV (ld σ 52 330 (16 + x4)) fun v54 => (f_X5_count_38 n) x1 x2 (x3 + (v54 + 1)) (x4 + 1) σ
    else
      if wr x1 = 0 then
        some ((σ 51 23), σ)
      else
        if wr x1 = 1 then
          bV (ld σ 59 2 0) fun v114 => if wr v114 = 0 then
            f_X5_count_123 0 σ
          else
            f_X5_count_123 1 σ
        else
          if wr x1 = 2 then
            some ((σ 51 8), σ)
          else
            if wr x1 = 3 then
              bV (ld σ 60 4 0) fun v149 => if wr v149 = wr (-4) then
                some ((-4), σ)
              else
                bV (ld σ 61 4 0) fun v165 => some (v165, σ)
            else
              if wr x1 = 4 then
                some (x2, σ)
              else
                if wr x1 = 5 then
                  some (x3, σ)
                else
                  some ((-1), σ)
set_option maxRecDepth 20000 in
theorem s_X5_count_38     : ∀ (n : Nat) (x1 x2 x3 x4 : Int) (σ : St), SW G l RX5 cX5_count 5 rm_X5_count wI 38 [some (.ref (ad G 51)), some (vi x1), some (vi x2), some (vi x3), some (vi x4)] [] σ (f_X5_count_38 n x1 x2 x3 x4 σ) := by
  intro n
  induction n with
  | zero => intro x1 x2 x3 x4 σ; exact sw_none
  | succ n ih =>
    intro x1 x2 x3 x4 σ
    rw [f_X5_count_38]
    refine sw_iload (pc' := 40) dX5_count_38 rfl rfl ?_
    refine sw_iconst (pc' := 41) dX5_count_40 rfl ?_
    refine sw_icmp_ge (tgt := 65) (pc' := 44) dX5_count_41 (by decide) rfl (fun _ => ?_) (fun _ => ?_)
    · refine sw_iload_n (pc' := 45) dX5_count_44 rfl rfl ?_
      refine sw_aload_n (pc' := 46) dX5_count_45 rfl rfl ?_
      refine sw_getr (pc' := 49) dX5_count_46 fl_X5_7 (tbk_51) rfl rfl ?_
      refine sw_bipush (pc' := 51) dX5_count_49 rfl rfl ?_
      refine sw_iload (pc' := 53) dX5_count_51 rfl rfl ?_
      refine sw_iadd (pc' := 54) dX5_count_53 rfl ?_
      refine sw_iald (pc' := 55) dX5_count_54 (tbk_52) rfl (fun v54 => ?_)
      refine sw_iconst (pc' := 56) dX5_count_55 rfl ?_
      refine sw_iadd (pc' := 57) dX5_count_56 rfl ?_
      refine sw_iadd (pc' := 58) dX5_count_57 rfl ?_
      refine sw_istore_n (pc' := 59) (x := (x3 + (v54 + 1))) (L' := [some (.ref (ad G 51)), some (vi x1), some (vi x2), some (vi (x3 + (v54 + 1))), some (vi x4)]) dX5_count_58 rfl (by decide) rfl rfl ?_
      refine sw_iinc (pc' := 62) (x := x4) (L' := [some (.ref (ad G 51)), some (vi x1), some (vi x2), some (vi (x3 + (v54 + 1))), some (vi (x4 + 1))]) dX5_count_59 rfl (by decide) rfl rfl rfl ?_
      refine sw_goto (pc' := 38) dX5_count_62 (by decide) ?_
      exact (ih) x1 x2 (x3 + (v54 + 1)) (x4 + 1) σ
    · refine sw_iload_n (pc' := 66) dX5_count_65 rfl rfl ?_
      refine sw_case (fun hc0 => ?_) (fun hc0 => ?_)
      · refine sw_tin (tgt := 104) dX5_count_66 hc0 (by decide) rfl (by decide) ?_
        refine sw_aload_n (pc' := 105) dX5_count_104 rfl rfl ?_
        refine sw_getn (pc' := 108) dX5_count_105 fl_X5_134 (tbk_51) rfl rfl ?_
        exact sw_iret dX5_count_108
      · refine sw_case (fun hc1 => ?_) (fun hc1 => ?_)
        · refine sw_tin (tgt := 109) dX5_count_66 hc1 (by decide) rfl (by decide) ?_
          refine sw_aload_n (pc' := 110) dX5_count_109 rfl rfl ?_
          refine sw_getr (pc' := 113) dX5_count_110 fl_X5_31 (tbk_51) rfl rfl ?_
          refine sw_iconst (pc' := 114) dX5_count_113 rfl ?_
          refine sw_zald (pc' := 115) dX5_count_114 (tbk_59) rfl (fun v114 => ?_)
          refine sw_if_eq (tgt := 122) (pc' := 118) dX5_count_115 (by decide) rfl (fun _ => ?_) (fun _ => ?_)
          · refine sw_iconst (pc' := 123) dX5_count_122 rfl ?_
            refine sw_msk [true, false, false, false, false] rfl ?_
            exact s_X5_count_123 0 σ
          · refine sw_iconst (pc' := 119) dX5_count_118 rfl ?_
            refine sw_goto (pc' := 123) dX5_count_119 (by decide) ?_
            refine sw_msk [true, false, false, false, false] rfl ?_
            exact s_X5_count_123 1 σ
        · refine sw_case (fun hc2 => ?_) (fun hc2 => ?_)
          · refine sw_tin (tgt := 139) dX5_count_66 hc2 (by decide) rfl (by decide) ?_
            refine sw_aload_n (pc' := 140) dX5_count_139 rfl rfl ?_
            refine sw_getn (pc' := 143) dX5_count_140 fl_X5_50 (tbk_51) rfl rfl ?_
            exact sw_iret dX5_count_143
          · refine sw_case (fun hc3 => ?_) (fun hc3 => ?_)
            · refine sw_tin (tgt := 144) dX5_count_66 hc3 (by decide) rfl (by decide) ?_
              refine sw_aload_n (pc' := 145) dX5_count_144 rfl rfl ?_
              refine sw_getr (pc' := 148) dX5_count_145 fl_X5_35 (tbk_51) rfl rfl ?_
              refine sw_iconst (pc' := 149) dX5_count_148 rfl ?_
              refine sw_iald (pc' := 150) dX5_count_149 (tbk_60) rfl (fun v149 => ?_)
              refine sw_bipush (pc' := 152) dX5_count_150 rfl rfl ?_
              refine sw_icmp_ne (tgt := 160) (pc' := 155) dX5_count_152 (by decide) rfl (fun _ => ?_) (fun _ => ?_)
              · refine sw_bipush (pc' := 157) dX5_count_155 rfl rfl ?_
                refine sw_goto (pc' := 166) dX5_count_157 (by decide) ?_
                exact sw_iret dX5_count_166
              · refine sw_aload_n (pc' := 161) dX5_count_160 rfl rfl ?_
                refine sw_getr (pc' := 164) dX5_count_161 fl_X5_38 (tbk_51) rfl rfl ?_
                refine sw_iconst (pc' := 165) dX5_count_164 rfl ?_
                refine sw_iald (pc' := 166) dX5_count_165 (tbk_61) rfl (fun v165 => ?_)
                exact sw_iret dX5_count_166
            · refine sw_case (fun hc4 => ?_) (fun hc4 => ?_)
              · refine sw_tin (tgt := 167) dX5_count_66 hc4 (by decide) rfl (by decide) ?_
                refine sw_iload_n (pc' := 168) dX5_count_167 rfl rfl ?_
                exact sw_iret dX5_count_168
              · refine sw_case (fun hc5 => ?_) (fun hc5 => ?_)
                · refine sw_tin (tgt := 169) dX5_count_66 hc5 (by decide) rfl (by decide) ?_
                  refine sw_iload_n (pc' := 170) dX5_count_169 rfl rfl ?_
                  exact sw_iret dX5_count_170
                · refine sw_tout (tgt := 171) dX5_count_66 (by omega) (by decide) ?_
                  refine sw_iconst (pc' := 172) dX5_count_171 rfl ?_
                  exact sw_iret dX5_count_172
def f_X5_count_7   : Nat → Int → Int → Int → Int → St → Option (Int × St)
  | 0, _, _, _, _, _ => none
  | n + 1, x1, x2, x3, x4, σ =>
    if wr x4 < wr (σ 51 1) then
      bV (ld σ 52 330 (10 + x4)) fun v26 => (f_X5_count_7 n) x1 (x2 + v26) x3 (x4 + 1) σ
    else
      f_X5_count_38 FU x1 x2 x3 0 σ
set_option maxRecDepth 20000 in
theorem s_X5_count_7     : ∀ (n : Nat) (x1 x2 x3 x4 : Int) (σ : St), SW G l RX5 cX5_count 5 rm_X5_count wI 7 [some (.ref (ad G 51)), some (vi x1), some (vi x2), some (vi x3), some (vi x4)] [] σ (f_X5_count_7 n x1 x2 x3 x4 σ) := by
  intro n
  induction n with
  | zero => intro x1 x2 x3 x4 σ; exact sw_none
  | succ n ih =>
    intro x1 x2 x3 x4 σ
    rw [f_X5_count_7]
    refine sw_iload (pc' := 9) dX5_count_7 rfl rfl ?_
    refine sw_aload_n (pc' := 10) dX5_count_9 rfl rfl ?_
    refine sw_getn (pc' := 13) dX5_count_10 fl_X5_131 (tbk_51) rfl rfl ?_
    refine sw_icmp_ge (tgt := 35) (pc' := 16) dX5_count_13 (by decide) rfl (fun _ => ?_) (fun _ => ?_)
    · refine sw_iload_n (pc' := 17) dX5_count_16 rfl rfl ?_
      refine sw_aload_n (pc' := 18) dX5_count_17 rfl rfl ?_
      refine sw_getr (pc' := 21) dX5_count_18 fl_X5_7 (tbk_51) rfl rfl ?_
      refine sw_bipush (pc' := 23) dX5_count_21 rfl rfl ?_
      refine sw_iload (pc' := 25) dX5_count_23 rfl rfl ?_
      refine sw_iadd (pc' := 26) dX5_count_25 rfl ?_
      refine sw_iald (pc' := 27) dX5_count_26 (tbk_52) rfl (fun v26 => ?_)
      refine sw_iadd (pc' := 28) dX5_count_27 rfl ?_
      refine sw_istore_n (pc' := 29) (x := (x2 + v26)) (L' := [some (.ref (ad G 51)), some (vi x1), some (vi (x2 + v26)), some (vi x3), some (vi x4)]) dX5_count_28 rfl (by decide) rfl rfl ?_
      refine sw_iinc (pc' := 32) (x := x4) (L' := [some (.ref (ad G 51)), some (vi x1), some (vi (x2 + v26)), some (vi x3), some (vi (x4 + 1))]) dX5_count_29 rfl (by decide) rfl rfl rfl ?_
      refine sw_goto (pc' := 7) dX5_count_32 (by decide) ?_
      exact (ih) x1 (x2 + v26) x3 (x4 + 1) σ
    · refine sw_iconst (pc' := 36) dX5_count_35 rfl ?_
      refine sw_istore (pc' := 38) (x := 0) (L' := [some (.ref (ad G 51)), some (vi x1), some (vi x2), some (vi x3), some (vi 0)]) dX5_count_36 rfl (by decide) rfl rfl ?_
      exact s_X5_count_38 FU x1 x2 x3 0 σ
def f_X5_count (x1 : Int) (σ : St) : Option (Int × St) :=
  f_X5_count_7 FU x1 0 0 0 σ
set_option maxRecDepth 20000 in
theorem m_X5_count (x1 : Int)  (σ : St) : MT G l yX5_count cX5_count 5 (some .int) rm_X5_count [.ref (ad G 51), vi x1] wI σ (f_X5_count x1 σ) := by
  refine mt_I (L := [some (.ref (ad G 51)), some (vi x1), none, none, none]) rfl (Nat.le_of_ble_eq_true rfl) rfl ?_
  show SW G l RX5 cX5_count 5 rm_X5_count wI 0 [some (.ref (ad G 51)), some (vi x1), none, none, none] [] σ (f_X5_count x1 σ)
  unfold f_X5_count
  refine sw_iconst (pc' := 1) dX5_count_0 rfl ?_
  refine sw_istore_n (pc' := 2) (x := 0) (L' := [some (.ref (ad G 51)), some (vi x1), some (vi 0), none, none]) dX5_count_1 rfl (by decide) rfl rfl ?_
  refine sw_iconst (pc' := 3) dX5_count_2 rfl ?_
  refine sw_istore_n (pc' := 4) (x := 0) (L' := [some (.ref (ad G 51)), some (vi x1), some (vi 0), some (vi 0), none]) dX5_count_3 rfl (by decide) rfl rfl ?_
  refine sw_iconst (pc' := 5) dX5_count_4 rfl ?_
  refine sw_istore (pc' := 7) (x := 0) (L' := [some (.ref (ad G 51)), some (vi x1), some (vi 0), some (vi 0), some (vi 0)]) dX5_count_5 rfl (by decide) rfl rfl ?_
  exact s_X5_count_7 FU x1 0 0 0 σ
end GEN
