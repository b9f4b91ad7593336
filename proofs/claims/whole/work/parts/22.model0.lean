section GEN
variable {G : Gh} {l : Launch}
def rm_X5_in : Room := { frames := 0, cells := 0, slots := 0, locals := 0 }
def f_X5_in (x0 : Int) (x2 : Int) (x4 : Int) (σ : St) : Option (Bool × St) :=
  if wr (lcm x0 x2) < 0 then
    some (false, σ)
  else
    if 0 < wr (lcm x0 x4) then
      some (false, σ)
    else
      some (true, σ)
set_option maxRecDepth 20000 in
theorem m_X5_in (x0 : Int) (x2 : Int) (x4 : Int)  (σ : St) : MT G l yX5_in cX5_in 6 (some .boolean) rm_X5_in [vl x0, vl x2, vl x4] wB σ (f_X5_in x0 x2 x4 σ) := by
  refine mt_B (L := [some (vl x0), none, some (vl x2), none, some (vl x4), none]) rfl (Nat.le_of_ble_eq_true rfl) rfl ?_
  show SW G l RX5 cX5_in 6 rm_X5_in wB 0 [some (vl x0), none, some (vl x2), none, some (vl x4), none] [] σ (f_X5_in x0 x2 x4 σ)
  unfold f_X5_in
  refine sw_lload_n (pc' := 1) dX5_in_0 rfl rfl ?_
  refine sw_lload_n (pc' := 2) dX5_in_1 rfl rfl ?_
  refine sw_lcmp (pc' := 3) dX5_in_2 rfl ?_
  refine sw_if_lt (tgt := 17) (pc' := 6) dX5_in_3 (by decide) rfl (fun _ => ?_) (fun _ => ?_)
  · refine sw_iconst (pc' := 18) dX5_in_17 rfl ?_
    exact sw_bret (x := false) dX5_in_18
  · refine sw_lload_n (pc' := 7) dX5_in_6 rfl rfl ?_
    refine sw_lload (pc' := 9) dX5_in_7 rfl rfl ?_
    refine sw_lcmp (pc' := 10) dX5_in_9 rfl ?_
    refine sw_if_gt (tgt := 17) (pc' := 13) dX5_in_10 (by decide) rfl (fun _ => ?_) (fun _ => ?_)
    · refine sw_iconst (pc' := 18) dX5_in_17 rfl ?_
      exact sw_bret (x := false) dX5_in_18
    · refine sw_iconst (pc' := 14) dX5_in_13 rfl ?_
      refine sw_goto (pc' := 18) dX5_in_14 (by decide) ?_
      exact sw_bret (x := true) dX5_in_18
def rm_X5_feed : Room := { frames := 1, cells := 0, slots := 0, locals := 25 }
def f_X5_feed (x1 : Int) (σ : St) : Option (Int × St) :=
  bI (f_X5_in (wr x1) 0 127 σ) fun v6 s6 => if v6 then
    if wr (s6 51 8) = wr 160 then
      some ((-3), s6)
    else
      bV (sv s6 54 160 (s6 51 8) x1) fun s36 => bV (pf s36 51 8 ((s36 51 8) + 1)) fun s44 => some ((s44 51 8), s44)
  else
    some ((-1), s6)
set_option maxRecDepth 20000 in
theorem m_X5_feed (x1 : Int)  (σ : St) : MT G l yX5_feed cX5_feed 2 (some .int) rm_X5_feed [.ref (ad G 51), vi x1] wI σ (f_X5_feed x1 σ) := by
  refine mt_I (L := [some (.ref (ad G 51)), some (vi x1)]) rfl (Nat.le_of_ble_eq_true rfl) rfl ?_
  show SW G l RX5 cX5_feed 2 rm_X5_feed wI 0 [some (.ref (ad G 51)), some (vi x1)] [] σ (f_X5_feed x1 σ)
  unfold f_X5_feed
  refine sw_iload_n (pc' := 1) dX5_feed_0 rfl rfl ?_
  refine sw_i2l (pc' := 2) dX5_feed_1 rfl ?_
  refine sw_lconst (x := 0) (pc' := 3) dX5_feed_2 rfl rfl ?_
  refine sw_ldc2 (n := 127) (pc' := 6) dX5_feed_3 kl_X5_44 rfl ?_
  refine sw_callSB (pc' := 9) (As := [vl (wr x1), vl 0, vl 127]) (rest := []) dX5_feed_6 cs_X5_46 (m_X5_in (wr x1) 0 127 σ) rfl rfl rfl rfl rfl (fun v6 s6 => ?_)
  refine sw_bif_ne (tgt := 14) (pc' := 12) dX5_feed_9 (by decide) rfl (fun _ => ?_) (fun _ => ?_)
  · refine sw_aload_n (pc' := 15) dX5_feed_14 rfl rfl ?_
    refine sw_getn (pc' := 18) dX5_feed_15 fl_X5_50 (tbk_51) rfl rfl ?_
    refine sw_sipush (pc' := 21) dX5_feed_18 rfl rfl ?_
    refine sw_icmp_ne (tgt := 27) (pc' := 24) dX5_feed_21 (by decide) rfl (fun _ => ?_) (fun _ => ?_)
    · refine sw_bipush (pc' := 26) dX5_feed_24 rfl rfl ?_
      exact sw_iret dX5_feed_26
    · refine sw_aload_n (pc' := 28) dX5_feed_27 rfl rfl ?_
      refine sw_getr (pc' := 31) dX5_feed_28 fl_X5_16 (tbk_51) rfl rfl ?_
      refine sw_aload_n (pc' := 32) dX5_feed_31 rfl rfl ?_
      refine sw_getn (pc' := 35) dX5_feed_32 fl_X5_50 (tbk_51) rfl rfl ?_
      refine sw_iload_n (pc' := 36) dX5_feed_35 rfl rfl ?_
      refine sw_iast (pc' := 37) dX5_feed_36 (tbk_54) rfl (fun s36 => ?_)
      refine sw_aload_n (pc' := 38) dX5_feed_37 rfl rfl ?_
      refine sw_dup (pc' := 39) dX5_feed_38 rfl rfl ?_
      refine sw_getn (pc' := 42) dX5_feed_39 fl_X5_50 (tbk_51) rfl rfl ?_
      refine sw_iconst (pc' := 43) dX5_feed_42 rfl ?_
      refine sw_iadd (pc' := 44) dX5_feed_43 rfl ?_
      refine sw_putI (pc' := 47) dX5_feed_44 fp_X5_50 (tbk_51) rfl rfl (fun s44 => ?_)
      refine sw_aload_n (pc' := 48) dX5_feed_47 rfl rfl ?_
      refine sw_getn (pc' := 51) dX5_feed_48 fl_X5_50 (tbk_51) rfl rfl ?_
      exact sw_iret dX5_feed_51
  · refine sw_iconst (pc' := 13) dX5_feed_12 rfl ?_
    exact sw_iret dX5_feed_13
def rm_X5_end : Room := { frames := 1, cells := 0, slots := 0, locals := 25 }
def f_X5_end (x1 : Int) (σ : St) : Option (Int × St) :=
  bI (f_X5_in (wr x1) 0 (wr (σ 51 8)) σ) fun v8 s8 => if v8 then
    bV (pf s8 51 8 x1) fun s23 => some ((s8 51 8), s23)
  else
    some ((-1), s8)
set_option maxRecDepth 20000 in
theorem m_X5_end (x1 : Int)  (σ : St) : MT G l yX5_end cX5_end 3 (some .int) rm_X5_end [.ref (ad G 51), vi x1] wI σ (f_X5_end x1 σ) := by
  refine mt_I (L := [some (.ref (ad G 51)), some (vi x1), none]) rfl (Nat.le_of_ble_eq_true rfl) rfl ?_
  show SW G l RX5 cX5_end 3 rm_X5_end wI 0 [some (.ref (ad G 51)), some (vi x1), none] [] σ (f_X5_end x1 σ)
  unfold f_X5_end
  refine sw_iload_n (pc' := 1) dX5_end_0 rfl rfl ?_
  refine sw_i2l (pc' := 2) dX5_end_1 rfl ?_
  refine sw_lconst (x := 0) (pc' := 3) dX5_end_2 rfl rfl ?_
  refine sw_aload_n (pc' := 4) dX5_end_3 rfl rfl ?_
  refine sw_getn (pc' := 7) dX5_end_4 fl_X5_50 (tbk_51) rfl rfl ?_
  refine sw_i2l (pc' := 8) dX5_end_7 rfl ?_
  refine sw_callSB (pc' := 11) (As := [vl (wr x1), vl 0, vl (wr (σ 51 8))]) (rest := []) dX5_end_8 cs_X5_46 (m_X5_in (wr x1) 0 (wr (σ 51 8)) σ) rfl rfl rfl rfl rfl (fun v8 s8 => ?_)
  refine sw_bif_ne (tgt := 16) (pc' := 14) dX5_end_11 (by decide) rfl (fun _ => ?_) (fun _ => ?_)
  · refine sw_aload_n (pc' := 17) dX5_end_16 rfl rfl ?_
    refine sw_getn (pc' := 20) dX5_end_17 fl_X5_50 (tbk_51) rfl rfl ?_
    refine sw_istore_n (pc' := 21) (x := (s8 51 8)) (L' := [some (.ref (ad G 51)), some (vi x1), some (vi (s8 51 8))]) dX5_end_20 rfl (by decide) rfl rfl ?_
    refine sw_aload_n (pc' := 22) dX5_end_21 rfl rfl ?_
    refine sw_iload_n (pc' := 23) dX5_end_22 rfl rfl ?_
    refine sw_putI (pc' := 26) dX5_end_23 fp_X5_50 (tbk_51) rfl rfl (fun s23 => ?_)
    refine sw_iload_n (pc' := 27) dX5_end_26 rfl rfl ?_
    exact sw_iret dX5_end_27
  · refine sw_iconst (pc' := 15) dX5_end_14 rfl ?_
    exact sw_iret dX5_end_15
def rm_X5_byteAt : Room := { frames := 0, cells := 0, slots := 0, locals := 0 }
def f_X5_byteAt (x1 : Int) (σ : St) : Option (Int × St) :=
  if wr x1 < wr (σ 51 8) then
    bV (ld σ 54 160 x1) fun v13 => some (v13, σ)
  else
    some ((-4), σ)
set_option maxRecDepth 20000 in
theorem m_X5_byteAt (x1 : Int)  (σ : St) : MT G l yX5_byteAt cX5_byteAt 2 (some .int) rm_X5_byteAt [.ref (ad G 51), vi x1] wI σ (f_X5_byteAt x1 σ) := by
  refine mt_I (L := [some (.ref (ad G 51)), some (vi x1)]) rfl (Nat.le_of_ble_eq_true rfl) rfl ?_
  show SW G l RX5 cX5_byteAt 2 rm_X5_byteAt wI 0 [some (.ref (ad G 51)), some (vi x1)] [] σ (f_X5_byteAt x1 σ)
  unfold f_X5_byteAt
  refine sw_iload_n (pc' := 1) dX5_byteAt_0 rfl rfl ?_
  refine sw_aload_n (pc' := 2) dX5_byteAt_1 rfl rfl ?_
  refine sw_getn (pc' := 5) dX5_byteAt_2 fl_X5_50 (tbk_51) rfl rfl ?_
  refine sw_icmp_ge (tgt := 17) (pc' := 8) dX5_byteAt_5 (by decide) rfl (fun _ => ?_) (fun _ => ?_)
  · refine sw_aload_n (pc' := 9) dX5_byteAt_8 rfl rfl ?_
    refine sw_getr (pc' := 12) dX5_byteAt_9 fl_X5_16 (tbk_51) rfl rfl ?_
    refine sw_iload_n (pc' := 13) dX5_byteAt_12 rfl rfl ?_
    refine sw_iald (pc' := 14) dX5_byteAt_13 (tbk_54) rfl (fun v13 => ?_)
    refine sw_goto (pc' := 19) dX5_byteAt_14 (by decide) ?_
    exact sw_iret dX5_byteAt_19
  · refine sw_bipush (pc' := 19) dX5_byteAt_17 rfl rfl ?_
    exact sw_iret dX5_byteAt_19
def rm_X5_fails : Room := { frames := 0, cells := 0, slots := 0, locals := 0 }
def f_X5_fails (x1 : Int) (σ : St) : Option (St) :=
  if wr (σ 51 10) = 0 then
    bV (pf σ 51 10 x1) fun s9 => bV (pf s9 51 11 (s9 51 13)) fun s17 => some s17
  else
    some σ
set_option maxRecDepth 20000 in
theorem m_X5_fails (x1 : Int)  (σ : St) : MT G l yX5_fails cX5_fails 2 none rm_X5_fails [.ref (ad G 51), vi x1] wV σ (f_X5_fails x1 σ) := by
  refine mt_V (L := [some (.ref (ad G 51)), some (vi x1)]) rfl (Nat.le_of_ble_eq_true rfl) rfl ?_
  show SW G l RX5 cX5_fails 2 rm_X5_fails wV 0 [some (.ref (ad G 51)), some (vi x1)] [] σ (f_X5_fails x1 σ)
  unfold f_X5_fails
  refine sw_aload_n (pc' := 1) dX5_fails_0 rfl rfl ?_
  refine sw_getn (pc' := 4) dX5_fails_1 fl_X5_54 (tbk_51) rfl rfl ?_
  refine sw_if_ne (tgt := 20) (pc' := 7) dX5_fails_4 (by decide) rfl (fun _ => ?_) (fun _ => ?_)
  · refine sw_aload_n (pc' := 8) dX5_fails_7 rfl rfl ?_
    refine sw_iload_n (pc' := 9) dX5_fails_8 rfl rfl ?_
    refine sw_putI (pc' := 12) dX5_fails_9 fp_X5_54 (tbk_51) rfl rfl (fun s9 => ?_)
    refine sw_aload_n (pc' := 13) dX5_fails_12 rfl rfl ?_
    refine sw_aload_n (pc' := 14) dX5_fails_13 rfl rfl ?_
    refine sw_getn (pc' := 17) dX5_fails_14 fl_X5_57 (tbk_51) rfl rfl ?_
    refine sw_putI (pc' := 20) dX5_fails_17 fp_X5_60 (tbk_51) rfl rfl (fun s17 => ?_)
    exact sw_vret dX5_fails_20
  · exact sw_vret dX5_fails_20
def rm_X5_nameHere : Room := { frames := 1, cells := 0, slots := 0, locals := 21 }
def f_X5_nameHere_99  (k2 : Int → St → Option (Int × St)) (k51 : Int → Int → Int → St → Option (Int × St)) (x1 x3 t0 : Int) (σ : St) : Option (Int × St) :=
  k51 x1 t0 (x3 + 1) σ
set_option maxRecDepth 20000 in
theorem s_X5_nameHere_99   (k2 : Int → St → Option (Int × St)) (k51 : Int → Int → Int → St → Option (Int × St)) (hk2 : ∀ (x1 : Int) (σ : St), SW G l RX5 cX5_nameHere 4 rm_X5_nameHere wI 2 [some (.ref (ad G 51)), some (vi x1), none, none] [] σ (k2 x1 σ)) (hk51 : ∀ (x1 x2 x3 : Int) (σ : St), SW G l RX5 cX5_nameHere 4 rm_X5_nameHere wI 51 [some (.ref (ad G 51)), some (vi x1), some (vi x2), some (vi x3)] [] σ (k51 x1 x2 x3 σ)) (x1 x3 t0 : Int) (σ : St) : SW G l RX5 cX5_nameHere 4 rm_X5_nameHere wI 99 [some (.ref (ad G 51)), some (vi x1), none, some (vi x3)] [vi t0] σ (f_X5_nameHere_99 k2 k51 x1 x3 t0 σ) := by
  unfold f_X5_nameHere_99
  refine sw_istore_n (pc' := 100) (x := t0) (L' := [some (.ref (ad G 51)), some (vi x1), some (vi t0), some (vi x3)]) dX5_nameHere_99 rfl (by decide) rfl rfl ?_
  refine sw_iinc (pc' := 103) (x := x3) (L' := [some (.ref (ad G 51)), some (vi x1), some (vi t0), some (vi (x3 + 1))]) dX5_nameHere_100 rfl (by decide) rfl rfl rfl ?_
  refine sw_goto (pc' := 51) dX5_nameHere_103 (by decide) ?_
  exact hk51 x1 t0 (x3 + 1) σ
def f_X5_nameHere_106  (k2 : Int → St → Option (Int × St)) (x1 x2 : Int) (σ : St) : Option (Int × St) :=
  if wr x2 = 0 then
    k2 (x1 + 1) σ
  else
    some (x1, σ)
set_option maxRecDepth 20000 in
theorem s_X5_nameHere_106   (k2 : Int → St → Option (Int × St)) (hk2 : ∀ (x1 : Int) (σ : St), SW G l RX5 cX5_nameHere 4 rm_X5_nameHere wI 2 [some (.ref (ad G 51)), some (vi x1), none, none] [] σ (k2 x1 σ)) (x1 x2 : Int) (σ : St) : SW G l RX5 cX5_nameHere 4 rm_X5_nameHere wI 106 [some (.ref (ad G 51)), some (vi x1), some (vi x2), none] [] σ (f_X5_nameHere_106 k2 x1 x2 σ) := by
  unfold f_X5_nameHere_106
  refine sw_iload_n (pc' := 107) dX5_nameHere_106 rfl rfl ?_
  refine sw_if_eq (tgt := 112) (pc' := 110) dX5_nameHere_107 (by decide) rfl (fun _ => ?_) (fun _ => ?_)
  · refine sw_iinc (pc' := 115) (x := x1) (L' := [some (.ref (ad G 51)), some (vi (x1 + 1)), some (vi x2), none]) dX5_nameHere_112 rfl (by decide) rfl rfl rfl ?_
    refine sw_goto (pc' := 2) dX5_nameHere_115 (by decide) ?_
    refine sw_msk [true, true, false, false] rfl ?_
    exact hk2 (x1 + 1) σ
  · refine sw_iload_n (pc' := 111) dX5_nameHere_110 rfl rfl ?_
    exact sw_iret dX5_nameHere_111
def f_X5_nameHere_51  (k2 : Int → St → Option (Int × St)) : Nat → Int → Int → Int → St → Option (Int × St)
  | 0, _, _, _, _ => none
  | n + 1, x1, x2, x3, σ =>
    if wr x2 = 0 then
      f_X5_nameHere_106 k2 x1 x2 σ
    else
      if wr x3 < wr ((σ 51 12) - (σ 51 13)) then
        bI (f_X5_byteAt ((σ 51 13) + x3) σ) fun v75 s75 => bV (ld s75 55 8 x1) fun v87 => bV (ld s75 56 36 (v87 + x3)) fun v90 => if wr v75 = wr v90 then
          f_X5_nameHere_99 k2 (f_X5_nameHere_51 k2 n) x1 x3 1 s75
        else
          f_X5_nameHere_99 k2 (f_X5_nameHere_51 k2 n) x1 x3 0 s75
      else
        f_X5_nameHere_106 k2 x1 x2 σ
set_option maxRecDepth 20000 in
theorem s_X5_nameHere_51   (k2 : Int → St → Option (Int × St)) (hk2 : ∀ (x1 : Int) (σ : St), SW G l RX5 cX5_nameHere 4 rm_X5_nameHere wI 2 [some (.ref (ad G 51)), some (vi x1), none, none] [] σ (k2 x1 σ)) : ∀ (n : Nat) (x1 x2 x3 : Int) (σ : St), SW G l RX5 cX5_nameHere 4 rm_X5_nameHere wI 51 [some (.ref (ad G 51)), some (vi x1), some (vi x2), some (vi x3)] [] σ (f_X5_nameHere_51 k2 n x1 x2 x3 σ) := by
  intro n
  induction n with
  | zero => intro x1 x2 x3 σ; exact sw_none
  | succ n ih =>
    intro x1 x2 x3 σ
    rw [f_X5_nameHere_51]
    refine sw_iload_n (pc' := 52) dX5_nameHere_51 rfl rfl ?_
    refine sw_if_eq (tgt := 106) (pc' := 55) dX5_nameHere_52 (by decide) rfl (fun _ => ?_) (fun _ => ?_)
    · refine sw_msk [true, true, true, false] rfl ?_
      exact s_X5_nameHere_106 k2 hk2 x1 x2 σ
    · refine sw_iload_n (pc' := 56) dX5_nameHere_55 rfl rfl ?_
      refine sw_aload_n (pc' := 57) dX5_nameHere_56 rfl rfl ?_
      refine sw_getn (pc' := 60) dX5_nameHere_57 fl_X5_66 (tbk_51) rfl rfl ?_
      refine sw_aload_n (pc' := 61) dX5_nameHere_60 rfl rfl ?_
      refine sw_getn (pc' := 64) dX5_nameHere_61 fl_X5_57 (tbk_51) rfl rfl ?_
      refine sw_isub (pc' := 65) dX5_nameHere_64 rfl ?_
      refine sw_icmp_ge (tgt := 106) (pc' := 68) dX5_nameHere_65 (by decide) rfl (fun _ => ?_) (fun _ => ?_)
      · refine sw_aload_n (pc' := 69) dX5_nameHere_68 rfl rfl ?_
        refine sw_aload_n (pc' := 70) dX5_nameHere_69 rfl rfl ?_
        refine sw_getn (pc' := 73) dX5_nameHere_70 fl_X5_57 (tbk_51) rfl rfl ?_
        refine sw_iload_n (pc' := 74) dX5_nameHere_73 rfl rfl ?_
        refine sw_iadd (pc' := 75) dX5_nameHere_74 rfl ?_
        refine sw_callVI (pc' := 78) (As := [vi ((σ 51 13) + x3)]) (rest := []) dX5_nameHere_75 cv_X5_69 (tbk_51) (m_X5_byteAt ((σ 51 13) + x3) σ) rfl rfl rfl rfl rfl (fun v75 s75 => ?_)
        refine sw_aload_n (pc' := 79) dX5_nameHere_78 rfl rfl ?_
        refine sw_getr (pc' := 82) dX5_nameHere_79 fl_X5_22 (tbk_51) rfl rfl ?_
        refine sw_aload_n (pc' := 83) dX5_nameHere_82 rfl rfl ?_
        refine sw_getr (pc' := 86) dX5_nameHere_83 fl_X5_19 (tbk_51) rfl rfl ?_
        refine sw_iload_n (pc' := 87) dX5_nameHere_86 rfl rfl ?_
        refine sw_iald (pc' := 88) dX5_nameHere_87 (tbk_55) rfl (fun v87 => ?_)
        refine sw_iload_n (pc' := 89) dX5_nameHere_88 rfl rfl ?_
        refine sw_iadd (pc' := 90) dX5_nameHere_89 rfl ?_
        refine sw_iald (pc' := 91) dX5_nameHere_90 (tbk_56) rfl (fun v90 => ?_)
        refine sw_icmp_ne (tgt := 98) (pc' := 94) dX5_nameHere_91 (by decide) rfl (fun _ => ?_) (fun _ => ?_)
        · refine sw_iconst (pc' := 95) dX5_nameHere_94 rfl ?_
          refine sw_goto (pc' := 99) dX5_nameHere_95 (by decide) ?_
          refine sw_msk [true, true, false, true] rfl ?_
          exact s_X5_nameHere_99 k2 (f_X5_nameHere_51 k2 n) hk2 (ih) x1 x3 1 s75
        · refine sw_iconst (pc' := 99) dX5_nameHere_98 rfl ?_
          refine sw_msk [true, true, false, true] rfl ?_
          exact s_X5_nameHere_99 k2 (f_X5_nameHere_51 k2 n) hk2 (ih) x1 x3 0 s75
      · refine sw_msk [true, true, true, false] rfl ?_
        exact s_X5_nameHere_106 k2 hk2 x1 x2 σ
def f_X5_nameHere_48  (k2 : Int → St → Option (Int × St)) (x1 t0 : Int) (σ : St) : Option (Int × St) :=
  f_X5_nameHere_51 k2 FU x1 t0 0 σ
set_option maxRecDepth 20000 in
theorem s_X5_nameHere_48   (k2 : Int → St → Option (Int × St)) (hk2 : ∀ (x1 : Int) (σ : St), SW G l RX5 cX5_nameHere 4 rm_X5_nameHere wI 2 [some (.ref (ad G 51)), some (vi x1), none, none] [] σ (k2 x1 σ)) (x1 t0 : Int) (σ : St) : SW G l RX5 cX5_nameHere 4 rm_X5_nameHere wI 48 [some (.ref (ad G 51)), some (vi x1), none, none] [vi t0] σ (f_X5_nameHere_48 k2 x1 t0 σ) := by
  unfold f_X5_nameHere_48
  refine sw_istore_n (pc' := 49) (x := t0) (L' := [some (.ref (ad G 51)), some (vi x1), some (vi t0), none]) dX5_nameHere_48 rfl (by decide) rfl rfl ?_
  refine sw_iconst (pc' := 50) dX5_nameHere_49 rfl ?_
  refine sw_istore_n (pc' := 51) (x := 0) (L' := [some (.ref (ad G 51)), some (vi x1), some (vi t0), some (vi 0)]) dX5_nameHere_50 rfl (by decide) rfl rfl ?_
  exact s_X5_nameHere_51 k2 hk2 FU x1 t0 0 σ
def f_X5_nameHere_2   : Nat → Int → St → Option (Int × St)
  | 0, _, _ => none
  | n + 1, x1, σ =>
    if wr x1 < wr 7 then
      if wr (σ 51 14) = wr 1 then
        bV (ld σ 55 8 (x1 + 1)) fun v32 => bV (ld σ 55 8 x1) fun v38 => if wr ((σ 51 12) - (σ 51 13)) = wr (v32 - v38) then
          f_X5_nameHere_48 (f_X5_nameHere_2 n) x1 1 σ
        else
          f_X5_nameHere_48 (f_X5_nameHere_2 n) x1 0 σ
      else
        some ((-4), σ)
    else
      some ((-4), σ)
set_option maxRecDepth 20000 in
theorem s_X5_nameHere_2     : ∀ (n : Nat) (x1 : Int) (σ : St), SW G l RX5 cX5_nameHere 4 rm_X5_nameHere wI 2 [some (.ref (ad G 51)), some (vi x1), none, none] [] σ (f_X5_nameHere_2 n x1 σ) := by
  intro n
  induction n with
  | zero => intro x1 σ; exact sw_none
  | succ n ih =>
    intro x1 σ
    rw [f_X5_nameHere_2]
    refine sw_iload_n (pc' := 3) dX5_nameHere_2 rfl rfl ?_
    refine sw_bipush (pc' := 5) dX5_nameHere_3 rfl rfl ?_
    refine sw_icmp_ge (tgt := 118) (pc' := 8) dX5_nameHere_5 (by decide) rfl (fun _ => ?_) (fun _ => ?_)
    · refine sw_aload_n (pc' := 9) dX5_nameHere_8 rfl rfl ?_
      refine sw_getn (pc' := 12) dX5_nameHere_9 fl_X5_63 (tbk_51) rfl rfl ?_
      refine sw_iconst (pc' := 13) dX5_nameHere_12 rfl ?_
      refine sw_icmp_ne (tgt := 118) (pc' := 16) dX5_nameHere_13 (by decide) rfl (fun _ => ?_) (fun _ => ?_)
      · refine sw_aload_n (pc' := 17) dX5_nameHere_16 rfl rfl ?_
        refine sw_getn (pc' := 20) dX5_nameHere_17 fl_X5_66 (tbk_51) rfl rfl ?_
        refine sw_aload_n (pc' := 21) dX5_nameHere_20 rfl rfl ?_
        refine sw_getn (pc' := 24) dX5_nameHere_21 fl_X5_57 (tbk_51) rfl rfl ?_
        refine sw_isub (pc' := 25) dX5_nameHere_24 rfl ?_
        refine sw_aload_n (pc' := 26) dX5_nameHere_25 rfl rfl ?_
        refine sw_getr (pc' := 29) dX5_nameHere_26 fl_X5_19 (tbk_51) rfl rfl ?_
        refine sw_iload_n (pc' := 30) dX5_nameHere_29 rfl rfl ?_
        refine sw_iconst (pc' := 31) dX5_nameHere_30 rfl ?_
        refine sw_iadd (pc' := 32) dX5_nameHere_31 rfl ?_
        refine sw_iald (pc' := 33) dX5_nameHere_32 (tbk_55) rfl (fun v32 => ?_)
        refine sw_aload_n (pc' := 34) dX5_nameHere_33 rfl rfl ?_
        refine sw_getr (pc' := 37) dX5_nameHere_34 fl_X5_19 (tbk_51) rfl rfl ?_
        refine sw_iload_n (pc' := 38) dX5_nameHere_37 rfl rfl ?_
        refine sw_iald (pc' := 39) dX5_nameHere_38 (tbk_55) rfl (fun v38 => ?_)
        refine sw_isub (pc' := 40) dX5_nameHere_39 rfl ?_
        refine sw_icmp_ne (tgt := 47) (pc' := 43) dX5_nameHere_40 (by decide) rfl (fun _ => ?_) (fun _ => ?_)
        · refine sw_iconst (pc' := 44) dX5_nameHere_43 rfl ?_
          refine sw_goto (pc' := 48) dX5_nameHere_44 (by decide) ?_
          exact s_X5_nameHere_48 (f_X5_nameHere_2 n) (ih) x1 1 σ
        · refine sw_iconst (pc' := 48) dX5_nameHere_47 rfl ?_
          exact s_X5_nameHere_48 (f_X5_nameHere_2 n) (ih) x1 0 σ
      · refine sw_bipush (pc' := 120) dX5_nameHere_118 rfl rfl ?_
        exact sw_iret dX5_nameHere_120
    · refine sw_bipush (pc' := 120) dX5_nameHere_118 rfl rfl ?_
      exact sw_iret dX5_nameHere_120
def f_X5_nameHere  (σ : St) : Option (Int × St) :=
  f_X5_nameHere_2 FU 0 σ
set_option maxRecDepth 20000 in
theorem m_X5_nameHere   (σ : St) : MT G l yX5_nameHere cX5_nameHere 4 (some .int) rm_X5_nameHere [.ref (ad G 51)] wI σ (f_X5_nameHere σ) := by
  refine mt_I (L := [some (.ref (ad G 51)), none, none, none]) rfl (Nat.le_of_ble_eq_true rfl) rfl ?_
  show SW G l RX5 cX5_nameHere 4 rm_X5_nameHere wI 0 [some (.ref (ad G 51)), none, none, none] [] σ (f_X5_nameHere σ)
  unfold f_X5_nameHere
  refine sw_iconst (pc' := 1) dX5_nameHere_0 rfl ?_
  refine sw_istore_n (pc' := 2) (x := 0) (L' := [some (.ref (ad G 51)), some (vi 0), none, none]) dX5_nameHere_1 rfl (by decide) rfl rfl ?_
  exact s_X5_nameHere_2 FU 0 σ
def rm_X5_step : Room := { frames := 1, cells := 0, slots := 0, locals := 25 }
def f_X5_step_84   : Nat → St → Option (St)
  | 0, _ => none
  | n + 1, σ =>
    bI (f_X5_byteAt (σ 51 12) σ) fun v89 s89 => bI (f_X5_in (wr v89) 97 122 s89) fun v99 s99 => if v99 then
      bV (pf s99 51 12 ((s99 51 12) + 1)) fun s112 => (f_X5_step_84 n) s112
    else
      bV (pf s99 51 14 1) fun s120 => some s120
set_option maxRecDepth 20000 in
theorem s_X5_step_84     : ∀ (n : Nat) (σ : St), SW G l RX5 cX5_step 2 rm_X5_step wV 84 [some (.ref (ad G 51)), none] [] σ (f_X5_step_84 n σ) := by
  intro n
  induction n with
  | zero => intro  σ; exact sw_none
  | succ n ih =>
    intro  σ
    rw [f_X5_step_84]
    refine sw_aload_n (pc' := 85) dX5_step_84 rfl rfl ?_
    refine sw_aload_n (pc' := 86) dX5_step_85 rfl rfl ?_
    refine sw_getn (pc' := 89) dX5_step_86 fl_X5_66 (tbk_51) rfl rfl ?_
    refine sw_callVI (pc' := 92) (As := [vi (σ 51 12)]) (rest := []) dX5_step_89 cv_X5_69 (tbk_51) (m_X5_byteAt (σ 51 12) σ) rfl rfl rfl rfl rfl (fun v89 s89 => ?_)
    refine sw_i2l (pc' := 93) dX5_step_92 rfl ?_
    refine sw_ldc2 (n := 97) (pc' := 96) dX5_step_93 kl_X5_76 rfl ?_
    refine sw_ldc2 (n := 122) (pc' := 99) dX5_step_96 kl_X5_78 rfl ?_
    refine sw_callSB (pc' := 102) (As := [vl (wr v89), vl 97, vl 122]) (rest := []) dX5_step_99 cs_X5_46 (m_X5_in (wr v89) 97 122 s89) rfl rfl rfl rfl rfl (fun v99 s99 => ?_)
    refine sw_bif_eq (tgt := 118) (pc' := 105) dX5_step_102 (by decide) rfl (fun _ => ?_) (fun _ => ?_)
    · refine sw_aload_n (pc' := 106) dX5_step_105 rfl rfl ?_
      refine sw_dup (pc' := 107) dX5_step_106 rfl rfl ?_
      refine sw_getn (pc' := 110) dX5_step_107 fl_X5_66 (tbk_51) rfl rfl ?_
      refine sw_iconst (pc' := 111) dX5_step_110 rfl ?_
      refine sw_iadd (pc' := 112) dX5_step_111 rfl ?_
      refine sw_putI (pc' := 115) dX5_step_112 fp_X5_66 (tbk_51) rfl rfl (fun s112 => ?_)
      refine sw_goto (pc' := 84) dX5_step_115 (by decide) ?_
      exact (ih) s112
    · refine sw_aload_n (pc' := 119) dX5_step_118 rfl rfl ?_
      refine sw_iconst (pc' := 120) dX5_step_119 rfl ?_
      refine sw_putI (pc' := 123) dX5_step_120 fp_X5_63 (tbk_51) rfl rfl (fun s120 => ?_)
      refine sw_goto (pc' := 269) dX5_step_123 (by decide) ?_
      exact sw_vret dX5_step_269
def f_X5_step_201  (k140 : St → Option (St)) (t0 t1 : Int) (σ : St) : Option (St) :=
  bV (pf σ 51 15 t1) fun s201 => bV (pf s201 51 12 ((s201 51 12) + 1)) fun s211 => k140 s211
set_option maxRecDepth 20000 in
theorem s_X5_step_201   (k140 : St → Option (St)) (hk140 : ∀ (σ : St), SW G l RX5 cX5_step 2 rm_X5_step wV 140 [some (.ref (ad G 51)), none] [] σ (k140 σ)) (t0 t1 : Int) (σ : St) : SW G l RX5 cX5_step 2 rm_X5_step wV 201 [some (.ref (ad G 51)), none] [vi t1, .ref (ad G 51)] σ (f_X5_step_201 k140 t0 t1 σ) := by
  unfold f_X5_step_201
  refine sw_putI (pc' := 204) dX5_step_201 fp_X5_73 (tbk_51) rfl rfl (fun s201 => ?_)
  refine sw_aload_n (pc' := 205) dX5_step_204 rfl rfl ?_
  refine sw_dup (pc' := 206) dX5_step_205 rfl rfl ?_
  refine sw_getn (pc' := 209) dX5_step_206 fl_X5_66 (tbk_51) rfl rfl ?_
  refine sw_iconst (pc' := 210) dX5_step_209 rfl ?_
  refine sw_iadd (pc' := 211) dX5_step_210 rfl ?_
  refine sw_putI (pc' := 214) dX5_step_211 fp_X5_66 (tbk_51) rfl rfl (fun s211 => ?_)
  refine sw_goto (pc' := 140) dX5_step_214 (by decide) ?_
  exact hk140 s211
def f_X5_step_140   : Nat → St → Option (St)
  | 0, _ => none
  | n + 1, σ =>
    bI (f_X5_byteAt (σ 51 12) σ) fun v145 s145 => bI (f_X5_in (wr v145) 48 57 s145) fun v155 s155 => if v155 then
      if wr ((s155 51 12) - (s155 51 13)) < wr 2 then
        bI (f_X5_byteAt (s155 51 12) s155) fun v187 s187 => f_X5_step_201 (f_X5_step_140 n) 51 (((10 * (s155 51 15)) + v187) - 48) s187
      else
        f_X5_step_201 (f_X5_step_140 n) 51 (s155 51 15) s155
    else
      bV (pf s155 51 14 2) fun s219 => if wr 2 < wr ((s219 51 12) - (s219 51 13)) then
        bV (f_X5_fails 1 s219) fun s237 => some s237
      else
        some s219
set_option maxRecDepth 20000 in
theorem s_X5_step_140     : ∀ (n : Nat) (σ : St), SW G l RX5 cX5_step 2 rm_X5_step wV 140 [some (.ref (ad G 51)), none] [] σ (f_X5_step_140 n σ) := by
  intro n
  induction n with
  | zero => intro  σ; exact sw_none
  | succ n ih =>
    intro  σ
    rw [f_X5_step_140]
    refine sw_aload_n (pc' := 141) dX5_step_140 rfl rfl ?_
    refine sw_aload_n (pc' := 142) dX5_step_141 rfl rfl ?_
    refine sw_getn (pc' := 145) dX5_step_142 fl_X5_66 (tbk_51) rfl rfl ?_
    refine sw_callVI (pc' := 148) (As := [vi (σ 51 12)]) (rest := []) dX5_step_145 cv_X5_69 (tbk_51) (m_X5_byteAt (σ 51 12) σ) rfl rfl rfl rfl rfl (fun v145 s145 => ?_)
    refine sw_i2l (pc' := 149) dX5_step_148 rfl ?_
    refine sw_ldc2 (n := 48) (pc' := 152) dX5_step_149 kl_X5_80 rfl ?_
    refine sw_ldc2 (n := 57) (pc' := 155) dX5_step_152 kl_X5_82 rfl ?_
    refine sw_callSB (pc' := 158) (As := [vl (wr v145), vl 48, vl 57]) (rest := []) dX5_step_155 cs_X5_46 (m_X5_in (wr v145) 48 57 s145) rfl rfl rfl rfl rfl (fun v155 s155 => ?_)
    refine sw_bif_eq (tgt := 217) (pc' := 161) dX5_step_158 (by decide) rfl (fun _ => ?_) (fun _ => ?_)
    · refine sw_aload_n (pc' := 162) dX5_step_161 rfl rfl ?_
      refine sw_aload_n (pc' := 163) dX5_step_162 rfl rfl ?_
      refine sw_getn (pc' := 166) dX5_step_163 fl_X5_66 (tbk_51) rfl rfl ?_
      refine sw_aload_n (pc' := 167) dX5_step_166 rfl rfl ?_
      refine sw_getn (pc' := 170) dX5_step_167 fl_X5_57 (tbk_51) rfl rfl ?_
      refine sw_isub (pc' := 171) dX5_step_170 rfl ?_
      refine sw_iconst (pc' := 172) dX5_step_171 rfl ?_
      refine sw_icmp_ge (tgt := 197) (pc' := 175) dX5_step_172 (by decide) rfl (fun _ => ?_) (fun _ => ?_)
      · refine sw_bipush (pc' := 177) dX5_step_175 rfl rfl ?_
        refine sw_aload_n (pc' := 178) dX5_step_177 rfl rfl ?_
        refine sw_getn (pc' := 181) dX5_step_178 fl_X5_73 (tbk_51) rfl rfl ?_
        refine sw_imul (pc' := 182) dX5_step_181 rfl ?_
        refine sw_aload_n (pc' := 183) dX5_step_182 rfl rfl ?_
        refine sw_aload_n (pc' := 184) dX5_step_183 rfl rfl ?_
        refine sw_getn (pc' := 187) dX5_step_184 fl_X5_66 (tbk_51) rfl rfl ?_
        refine sw_callVI (pc' := 190) (As := [vi (s155 51 12)]) (rest := [vi (10 * (s155 51 15)), .ref (ad G 51)]) dX5_step_187 cv_X5_69 (tbk_51) (m_X5_byteAt (s155 51 12) s155) rfl rfl rfl rfl rfl (fun v187 s187 => ?_)
        refine sw_iadd (pc' := 191) dX5_step_190 rfl ?_
        refine sw_bipush (pc' := 193) dX5_step_191 rfl rfl ?_
        refine sw_isub (pc' := 194) dX5_step_193 rfl ?_
        refine sw_goto (pc' := 201) dX5_step_194 (by decide) ?_
        exact s_X5_step_201 (f_X5_step_140 n) (ih) 51 (((10 * (s155 51 15)) + v187) - 48) s187
      · refine sw_aload_n (pc' := 198) dX5_step_197 rfl rfl ?_
        refine sw_getn (pc' := 201) dX5_step_198 fl_X5_73 (tbk_51) rfl rfl ?_
        exact s_X5_step_201 (f_X5_step_140 n) (ih) 51 (s155 51 15) s155
    · refine sw_aload_n (pc' := 218) dX5_step_217 rfl rfl ?_
      refine sw_iconst (pc' := 219) dX5_step_218 rfl ?_
      refine sw_putI (pc' := 222) dX5_step_219 fp_X5_63 (tbk_51) rfl rfl (fun s219 => ?_)
      refine sw_aload_n (pc' := 223) dX5_step_222 rfl rfl ?_
      refine sw_getn (pc' := 226) dX5_step_223 fl_X5_66 (tbk_51) rfl rfl ?_
      refine sw_aload_n (pc' := 227) dX5_step_226 rfl rfl ?_
      refine sw_getn (pc' := 230) dX5_step_227 fl_X5_57 (tbk_51) rfl rfl ?_
      refine sw_isub (pc' := 231) dX5_step_230 rfl ?_
      refine sw_iconst (pc' := 232) dX5_step_231 rfl ?_
      refine sw_icmp_le (tgt := 269) (pc' := 235) dX5_step_232 (by decide) rfl (fun _ => ?_) (fun _ => ?_)
      · refine sw_aload_n (pc' := 236) dX5_step_235 rfl rfl ?_
        refine sw_iconst (pc' := 237) dX5_step_236 rfl ?_
        refine sw_callVV (pc' := 240) (As := [vi 1]) (rest := []) dX5_step_237 cv_X5_84 (tbk_51) (m_X5_fails 1 s219) rfl rfl rfl rfl rfl (fun s237 => ?_)
        refine sw_goto (pc' := 269) dX5_step_240 (by decide) ?_
        exact sw_vret dX5_step_269
      · exact sw_vret dX5_step_269
def f_X5_step_8   : Nat → St → Option (St)
  | 0, _ => none
  | n + 1, σ =>
    bI (f_X5_byteAt (σ 51 12) σ) fun v13 s13 => if wr v13 = wr 32 then
      bV (pf s13 51 12 ((s13 51 12) + 1)) fun s28 => (f_X5_step_8 n) s28
    else
      bV (pf s13 51 13 (s13 51 12)) fun s39 => bI (f_X5_byteAt (s39 51 12) s39) fun v47 s47 => bV (pf s47 51 15 0) fun s53 => if wr v47 = wr (-4) then
        bV (pf s53 51 14 0) fun s64 => some s64
      else
        bI (f_X5_in (wr v47) 97 122 s53) fun v78 s78 => if v78 then
          f_X5_step_84 FU s78
        else
          bI (f_X5_in (wr v47) 48 57 s78) fun v134 s134 => if v134 then
            f_X5_step_140 FU s134
          else
            bV (pf s134 51 14 3) fun s245 => bV (pf s245 51 12 ((s245 51 12) + 1)) fun s255 => if wr v47 = wr 59 then
              some s255
            else
              bV (f_X5_fails 1 s255) fun s266 => some s266
set_option maxRecDepth 20000 in
theorem s_X5_step_8     : ∀ (n : Nat) (σ : St), SW G l RX5 cX5_step 2 rm_X5_step wV 8 [some (.ref (ad G 51)), none] [] σ (f_X5_step_8 n σ) := by
  intro n
  induction n with
  | zero => intro  σ; exact sw_none
  | succ n ih =>
    intro  σ
    rw [f_X5_step_8]
    refine sw_aload_n (pc' := 9) dX5_step_8 rfl rfl ?_
    refine sw_aload_n (pc' := 10) dX5_step_9 rfl rfl ?_
    refine sw_getn (pc' := 13) dX5_step_10 fl_X5_66 (tbk_51) rfl rfl ?_
    refine sw_callVI (pc' := 16) (As := [vi (σ 51 12)]) (rest := []) dX5_step_13 cv_X5_69 (tbk_51) (m_X5_byteAt (σ 51 12) σ) rfl rfl rfl rfl rfl (fun v13 s13 => ?_)
    refine sw_bipush (pc' := 18) dX5_step_16 rfl rfl ?_
    refine sw_icmp_ne (tgt := 34) (pc' := 21) dX5_step_18 (by decide) rfl (fun _ => ?_) (fun _ => ?_)
    · refine sw_aload_n (pc' := 22) dX5_step_21 rfl rfl ?_
      refine sw_dup (pc' := 23) dX5_step_22 rfl rfl ?_
      refine sw_getn (pc' := 26) dX5_step_23 fl_X5_66 (tbk_51) rfl rfl ?_
      refine sw_iconst (pc' := 27) dX5_step_26 rfl ?_
      refine sw_iadd (pc' := 28) dX5_step_27 rfl ?_
      refine sw_putI (pc' := 31) dX5_step_28 fp_X5_66 (tbk_51) rfl rfl (fun s28 => ?_)
      refine sw_goto (pc' := 8) dX5_step_31 (by decide) ?_
      exact (ih) s28
    · refine sw_aload_n (pc' := 35) dX5_step_34 rfl rfl ?_
      refine sw_aload_n (pc' := 36) dX5_step_35 rfl rfl ?_
      refine sw_getn (pc' := 39) dX5_step_36 fl_X5_66 (tbk_51) rfl rfl ?_
      refine sw_putI (pc' := 42) dX5_step_39 fp_X5_57 (tbk_51) rfl rfl (fun s39 => ?_)
      refine sw_aload_n (pc' := 43) dX5_step_42 rfl rfl ?_
      refine sw_aload_n (pc' := 44) dX5_step_43 rfl rfl ?_
      refine sw_getn (pc' := 47) dX5_step_44 fl_X5_66 (tbk_51) rfl rfl ?_
      refine sw_callVI (pc' := 50) (As := [vi (s39 51 12)]) (rest := []) dX5_step_47 cv_X5_69 (tbk_51) (m_X5_byteAt (s39 51 12) s39) rfl rfl rfl rfl rfl (fun v47 s47 => ?_)
      refine sw_istore_n (pc' := 51) (x := v47) (L' := [some (.ref (ad G 51)), some (vi v47)]) dX5_step_50 rfl (by decide) rfl rfl ?_
      refine sw_aload_n (pc' := 52) dX5_step_51 rfl rfl ?_
      refine sw_iconst (pc' := 53) dX5_step_52 rfl ?_
      refine sw_putI (pc' := 56) dX5_step_53 fp_X5_73 (tbk_51) rfl rfl (fun s53 => ?_)
      refine sw_iload_n (pc' := 57) dX5_step_56 rfl rfl ?_
      refine sw_bipush (pc' := 59) dX5_step_57 rfl rfl ?_
      refine sw_icmp_ne (tgt := 70) (pc' := 62) dX5_step_59 (by decide) rfl (fun _ => ?_) (fun _ => ?_)
      · refine sw_aload_n (pc' := 63) dX5_step_62 rfl rfl ?_
        refine sw_iconst (pc' := 64) dX5_step_63 rfl ?_
        refine sw_putI (pc' := 67) dX5_step_64 fp_X5_63 (tbk_51) rfl rfl (fun s64 => ?_)
        refine sw_goto (pc' := 269) dX5_step_67 (by decide) ?_
        exact sw_vret dX5_step_269
      · refine sw_iload_n (pc' := 71) dX5_step_70 rfl rfl ?_
        refine sw_i2l (pc' := 72) dX5_step_71 rfl ?_
        refine sw_ldc2 (n := 97) (pc' := 75) dX5_step_72 kl_X5_76 rfl ?_
        refine sw_ldc2 (n := 122) (pc' := 78) dX5_step_75 kl_X5_78 rfl ?_
        refine sw_callSB (pc' := 81) (As := [vl (wr v47), vl 97, vl 122]) (rest := []) dX5_step_78 cs_X5_46 (m_X5_in (wr v47) 97 122 s53) rfl rfl rfl rfl rfl (fun v78 s78 => ?_)
        refine sw_bif_eq (tgt := 126) (pc' := 84) dX5_step_81 (by decide) rfl (fun _ => ?_) (fun _ => ?_)
        · refine sw_msk [true, false] rfl ?_
          exact s_X5_step_84 FU s78
        · refine sw_iload_n (pc' := 127) dX5_step_126 rfl rfl ?_
          refine sw_i2l (pc' := 128) dX5_step_127 rfl ?_
          refine sw_ldc2 (n := 48) (pc' := 131) dX5_step_128 kl_X5_80 rfl ?_
          refine sw_ldc2 (n := 57) (pc' := 134) dX5_step_131 kl_X5_82 rfl ?_
          refine sw_callSB (pc' := 137) (As := [vl (wr v47), vl 48, vl 57]) (rest := []) dX5_step_134 cs_X5_46 (m_X5_in (wr v47) 48 57 s78) rfl rfl rfl rfl rfl (fun v134 s134 => ?_)
          refine sw_bif_eq (tgt := 243) (pc' := 140) dX5_step_137 (by decide) rfl (fun _ => ?_) (fun _ => ?_)
          · refine sw_msk [true, false] rfl ?_
            exact s_X5_step_140 FU s134
          · refine sw_aload_n (pc' := 244) dX5_step_243 rfl rfl ?_
            refine sw_iconst (pc' := 245) dX5_step_244 rfl ?_
            refine sw_putI (pc' := 248) dX5_step_245 fp_X5_63 (tbk_51) rfl rfl (fun s245 => ?_)
            refine sw_aload_n (pc' := 249) dX5_step_248 rfl rfl ?_
            refine sw_dup (pc' := 250) dX5_step_249 rfl rfl ?_
            refine sw_getn (pc' := 253) dX5_step_250 fl_X5_66 (tbk_51) rfl rfl ?_
            refine sw_iconst (pc' := 254) dX5_step_253 rfl ?_
            refine sw_iadd (pc' := 255) dX5_step_254 rfl ?_
            refine sw_putI (pc' := 258) dX5_step_255 fp_X5_66 (tbk_51) rfl rfl (fun s255 => ?_)
            refine sw_iload_n (pc' := 259) dX5_step_258 rfl rfl ?_
            refine sw_bipush (pc' := 261) dX5_step_259 rfl rfl ?_
            refine sw_icmp_eq (tgt := 269) (pc' := 264) dX5_step_261 (by decide) rfl (fun _ => ?_) (fun _ => ?_)
            · exact sw_vret dX5_step_269
            · refine sw_aload_n (pc' := 265) dX5_step_264 rfl rfl ?_
              refine sw_iconst (pc' := 266) dX5_step_265 rfl ?_
              refine sw_callVV (pc' := 269) (As := [vi 1]) (rest := []) dX5_step_266 cv_X5_84 (tbk_51) (m_X5_fails 1 s255) rfl rfl rfl rfl rfl (fun s266 => ?_)
              exact sw_vret dX5_step_269
def f_X5_step  (σ : St) : Option (St) :=
  if 0 < wr (σ 51 10) then
    some σ
  else
    f_X5_step_8 FU σ
set_option maxRecDepth 20000 in
theorem m_X5_step   (σ : St) : MT G l yX5_step cX5_step 2 none rm_X5_step [.ref (ad G 51)] wV σ (f_X5_step σ) := by
  refine mt_V (L := [some (.ref (ad G 51)), none]) rfl (Nat.le_of_ble_eq_true rfl) rfl ?_
  show SW G l RX5 cX5_step 2 rm_X5_step wV 0 [some (.ref (ad G 51)), none] [] σ (f_X5_step σ)
  unfold f_X5_step
  refine sw_aload_n (pc' := 1) dX5_step_0 rfl rfl ?_
  refine sw_getn (pc' := 4) dX5_step_1 fl_X5_54 (tbk_51) rfl rfl ?_
  refine sw_if_le (tgt := 8) (pc' := 7) dX5_step_4 (by decide) rfl (fun _ => ?_) (fun _ => ?_)
  · exact sw_vret dX5_step_7
  · exact s_X5_step_8 FU σ
def rm_X5_number : Room := { frames := 2, cells := 0, slots := 0, locals := 46 }
def f_X5_number_62   (t0 : Int) (σ : St) : Option (Int × St) :=
  bV (f_X5_step σ) fun s64 => some (t0, s64)
set_option maxRecDepth 20000 in
theorem s_X5_number_62     (t0 : Int) (σ : St) : SW G l RX5 cX5_number 4 rm_X5_number wI 62 [some (.ref (ad G 51)), none, none, none] [vi t0] σ (f_X5_number_62 t0 σ) := by
  unfold f_X5_number_62
  refine sw_istore_n (pc' := 63) (x := t0) (L' := [some (.ref (ad G 51)), none, none, some (vi t0)]) dX5_number_62 rfl (by decide) rfl rfl ?_
  refine sw_aload_n (pc' := 64) dX5_number_63 rfl rfl ?_
  refine sw_callVV (pc' := 67) (As := []) (rest := []) dX5_number_64 cv_X5_88 (tbk_51) (m_X5_step σ) rfl rfl rfl rfl rfl (fun s64 => ?_)
  refine sw_iload_n (pc' := 68) dX5_number_67 rfl rfl ?_
  exact sw_iret dX5_number_68
def f_X5_number_47   (x1 : Int) (σ : St) : Option (Int × St) :=
  if wr (σ 51 10) = 0 then
    f_X5_number_62 (σ 51 15) σ
  else
    f_X5_number_62 x1 σ
set_option maxRecDepth 20000 in
theorem s_X5_number_47     (x1 : Int) (σ : St) : SW G l RX5 cX5_number 4 rm_X5_number wI 47 [some (.ref (ad G 51)), some (vi x1), none, none] [] σ (f_X5_number_47 x1 σ) := by
  unfold f_X5_number_47
  refine sw_aload_n (pc' := 48) dX5_number_47 rfl rfl ?_
  refine sw_getn (pc' := 51) dX5_number_48 fl_X5_54 (tbk_51) rfl rfl ?_
  refine sw_if_ne (tgt := 61) (pc' := 54) dX5_number_51 (by decide) rfl (fun _ => ?_) (fun _ => ?_)
  · refine sw_aload_n (pc' := 55) dX5_number_54 rfl rfl ?_
    refine sw_getn (pc' := 58) dX5_number_55 fl_X5_73 (tbk_51) rfl rfl ?_
    refine sw_goto (pc' := 62) dX5_number_58 (by decide) ?_
    refine sw_msk [true, false, false, false] rfl ?_
    exact s_X5_number_62 (σ 51 15) σ
  · refine sw_iload_n (pc' := 62) dX5_number_61 rfl rfl ?_
    refine sw_msk [true, false, false, false] rfl ?_
    exact s_X5_number_62 x1 σ
def f_X5_number_20   (x1 x2 : Int) (σ : St) : Option (Int × St) :=
  if wr (σ 51 10) = 0 then
    bI (f_X5_in (wr (σ 51 15)) (wr x1) (wr x2) σ) fun v36 s36 => if v36 then
      f_X5_number_47 x1 s36
    else
      bV (f_X5_fails 3 s36) fun s44 => f_X5_number_47 x1 s44
  else
    f_X5_number_47 x1 σ
set_option maxRecDepth 20000 in
theorem s_X5_number_20     (x1 x2 : Int) (σ : St) : SW G l RX5 cX5_number 4 rm_X5_number wI 20 [some (.ref (ad G 51)), some (vi x1), some (vi x2), none] [] σ (f_X5_number_20 x1 x2 σ) := by
  unfold f_X5_number_20
  refine sw_aload_n (pc' := 21) dX5_number_20 rfl rfl ?_
  refine sw_getn (pc' := 24) dX5_number_21 fl_X5_54 (tbk_51) rfl rfl ?_
  refine sw_if_ne (tgt := 47) (pc' := 27) dX5_number_24 (by decide) rfl (fun _ => ?_) (fun _ => ?_)
  · refine sw_aload_n (pc' := 28) dX5_number_27 rfl rfl ?_
    refine sw_getn (pc' := 31) dX5_number_28 fl_X5_73 (tbk_51) rfl rfl ?_
    refine sw_i2l (pc' := 32) dX5_number_31 rfl ?_
    refine sw_iload_n (pc' := 33) dX5_number_32 rfl rfl ?_
    refine sw_i2l (pc' := 34) dX5_number_33 rfl ?_
    refine sw_iload_n (pc' := 35) dX5_number_34 rfl rfl ?_
    refine sw_i2l (pc' := 36) dX5_number_35 rfl ?_
    refine sw_callSB (pc' := 39) (As := [vl (wr (σ 51 15)), vl (wr x1), vl (wr x2)]) (rest := []) dX5_number_36 cs_X5_46 (m_X5_in (wr (σ 51 15)) (wr x1) (wr x2) σ) rfl rfl rfl rfl rfl (fun v36 s36 => ?_)
    refine sw_bif_ne (tgt := 47) (pc' := 42) dX5_number_39 (by decide) rfl (fun _ => ?_) (fun _ => ?_)
    · refine sw_msk [true, true, false, false] rfl ?_
      exact s_X5_number_47 x1 s36
    · refine sw_aload_n (pc' := 43) dX5_number_42 rfl rfl ?_
      refine sw_iconst (pc' := 44) dX5_number_43 rfl ?_
      refine sw_callVV (pc' := 47) (As := [vi 3]) (rest := []) dX5_number_44 cv_X5_84 (tbk_51) (m_X5_fails 3 s36) rfl rfl rfl rfl rfl (fun s44 => ?_)
      refine sw_msk [true, true, false, false] rfl ?_
      exact s_X5_number_47 x1 s44
  · refine sw_msk [true, true, false, false] rfl ?_
    exact s_X5_number_47 x1 σ
def f_X5_number (x1 : Int) (x2 : Int) (σ : St) : Option (Int × St) :=
  if wr (σ 51 10) = 0 then
    if wr (σ 51 14) = wr 2 then
      f_X5_number_20 x1 x2 σ
    else
      bV (f_X5_fails 2 σ) fun s17 => f_X5_number_20 x1 x2 s17
  else
    f_X5_number_20 x1 x2 σ
set_option maxRecDepth 20000 in
theorem m_X5_number (x1 : Int) (x2 : Int)  (σ : St) : MT G l yX5_number cX5_number 4 (some .int) rm_X5_number [.ref (ad G 51), vi x1, vi x2] wI σ (f_X5_number x1 x2 σ) := by
  refine mt_I (L := [some (.ref (ad G 51)), some (vi x1), some (vi x2), none]) rfl (Nat.le_of_ble_eq_true rfl) rfl ?_
  show SW G l RX5 cX5_number 4 rm_X5_number wI 0 [some (.ref (ad G 51)), some (vi x1), some (vi x2), none] [] σ (f_X5_number x1 x2 σ)
  unfold f_X5_number
  refine sw_aload_n (pc' := 1) dX5_number_0 rfl rfl ?_
  refine sw_getn (pc' := 4) dX5_number_1 fl_X5_54 (tbk_51) rfl rfl ?_
  refine sw_if_ne (tgt := 20) (pc' := 7) dX5_number_4 (by decide) rfl (fun _ => ?_) (fun _ => ?_)
  · refine sw_aload_n (pc' := 8) dX5_number_7 rfl rfl ?_
    refine sw_getn (pc' := 11) dX5_number_8 fl_X5_63 (tbk_51) rfl rfl ?_
    refine sw_iconst (pc' := 12) dX5_number_11 rfl ?_
    refine sw_icmp_eq (tgt := 20) (pc' := 15) dX5_number_12 (by decide) rfl (fun _ => ?_) (fun _ => ?_)
    · exact s_X5_number_20 x1 x2 σ
    · refine sw_aload_n (pc' := 16) dX5_number_15 rfl rfl ?_
      refine sw_iconst (pc' := 17) dX5_number_16 rfl ?_
      refine sw_callVV (pc' := 20) (As := [vi 2]) (rest := []) dX5_number_17 cv_X5_84 (tbk_51) (m_X5_fails 2 σ) rfl rfl rfl rfl rfl (fun s17 => ?_)
      exact s_X5_number_20 x1 x2 s17
  · exact s_X5_number_20 x1 x2 σ
def rm_X5_readTrust : Room := { frames := 3, cells := 0, slots := 0, locals := 69 }
def f_X5_readTrust_50   (σ : St) : Option (St) :=
  bI (f_X5_number 0 3 σ) fun v53 s53 => bV (pf s53 51 4 (iod (s53 51 4) (isl 1 v53))) fun s66 => bI (f_X5_number 0 9 s66) fun v81 s81 => bV (sv s81 53 55 (16 + v53) (v81 - 1)) fun s86 => some s86
set_option maxRecDepth 20000 in
theorem s_X5_readTrust_50     (σ : St) : SW G l RX5 cX5_readTrust 2 rm_X5_readTrust wV 50 [some (.ref (ad G 51)), none] [] σ (f_X5_readTrust_50 σ) := by
  unfold f_X5_readTrust_50
  refine sw_aload_n (pc' := 51) dX5_readTrust_50 rfl rfl ?_
  refine sw_iconst (pc' := 52) dX5_readTrust_51 rfl ?_
  refine sw_iconst (pc' := 53) dX5_readTrust_52 rfl ?_
  refine sw_callVI (pc' := 56) (As := [vi 0, vi 3]) (rest := []) dX5_readTrust_53 cv_X5_96 (tbk_51) (m_X5_number 0 3 σ) rfl rfl rfl rfl rfl (fun v53 s53 => ?_)
  refine sw_istore_n (pc' := 57) (x := v53) (L' := [some (.ref (ad G 51)), some (vi v53)]) dX5_readTrust_56 rfl (by decide) rfl rfl ?_
  refine sw_aload_n (pc' := 58) dX5_readTrust_57 rfl rfl ?_
  refine sw_dup (pc' := 59) dX5_readTrust_58 rfl rfl ?_
  refine sw_getn (pc' := 62) dX5_readTrust_59 fl_X5_93 (tbk_51) rfl rfl ?_
  refine sw_iconst (pc' := 63) dX5_readTrust_62 rfl ?_
  refine sw_iload_n (pc' := 64) dX5_readTrust_63 rfl rfl ?_
  refine sw_ishl (pc' := 65) dX5_readTrust_64 rfl ?_
  refine sw_ior (pc' := 66) dX5_readTrust_65 rfl ?_
  refine sw_putI (pc' := 69) dX5_readTrust_66 fp_X5_93 (tbk_51) rfl rfl (fun s66 => ?_)
  refine sw_aload_n (pc' := 70) dX5_readTrust_69 rfl rfl ?_
  refine sw_getr (pc' := 73) dX5_readTrust_70 fl_X5_13 (tbk_51) rfl rfl ?_
  refine sw_bipush (pc' := 75) dX5_readTrust_73 rfl rfl ?_
  refine sw_iload_n (pc' := 76) dX5_readTrust_75 rfl rfl ?_
  refine sw_iadd (pc' := 77) dX5_readTrust_76 rfl ?_
  refine sw_aload_n (pc' := 78) dX5_readTrust_77 rfl rfl ?_
  refine sw_iconst (pc' := 79) dX5_readTrust_78 rfl ?_
  refine sw_bipush (pc' := 81) dX5_readTrust_79 rfl rfl ?_
  refine sw_callVI (pc' := 84) (As := [vi 0, vi 9]) (rest := [vi (16 + v53), .ref (ad G 53)]) dX5_readTrust_81 cv_X5_96 (tbk_51) (m_X5_number 0 9 s66) rfl rfl rfl rfl rfl (fun v81 s81 => ?_)
  refine sw_iconst (pc' := 85) dX5_readTrust_84 rfl ?_
  refine sw_isub (pc' := 86) dX5_readTrust_85 rfl ?_
  refine sw_iast (pc' := 87) dX5_readTrust_86 (tbk_53) rfl (fun s86 => ?_)
  exact sw_vret dX5_readTrust_87
def f_X5_readTrust  (σ : St) : Option (St) :=
  if wr (σ 51 10) = 0 then
    if wr (σ 51 14) = wr 2 then
      bI (f_X5_in (wr (σ 51 15)) 0 3 σ) fun v24 s24 => if v24 then
        if wr (iad (isr (s24 51 4) (s24 51 15)) 1) = wr 1 then
          bV (f_X5_fails 4 s24) fun s47 => f_X5_readTrust_50 s47
        else
          f_X5_readTrust_50 s24
      else
        f_X5_readTrust_50 s24
    else
      f_X5_readTrust_50 σ
  else
    f_X5_readTrust_50 σ
set_option maxRecDepth 20000 in
theorem m_X5_readTrust   (σ : St) : MT G l yX5_readTrust cX5_readTrust 2 none rm_X5_readTrust [.ref (ad G 51)] wV σ (f_X5_readTrust σ) := by
  refine mt_V (L := [some (.ref (ad G 51)), none]) rfl (Nat.le_of_ble_eq_true rfl) rfl ?_
  show SW G l RX5 cX5_readTrust 2 rm_X5_readTrust wV 0 [some (.ref (ad G 51)), none] [] σ (f_X5_readTrust σ)
  unfold f_X5_readTrust
  refine sw_aload_n (pc' := 1) dX5_readTrust_0 rfl rfl ?_
  refine sw_getn (pc' := 4) dX5_readTrust_1 fl_X5_54 (tbk_51) rfl rfl ?_
  refine sw_if_ne (tgt := 50) (pc' := 7) dX5_readTrust_4 (by decide) rfl (fun _ => ?_) (fun _ => ?_)
  · refine sw_aload_n (pc' := 8) dX5_readTrust_7 rfl rfl ?_
    refine sw_getn (pc' := 11) dX5_readTrust_8 fl_X5_63 (tbk_51) rfl rfl ?_
    refine sw_iconst (pc' := 12) dX5_readTrust_11 rfl ?_
    refine sw_icmp_ne (tgt := 50) (pc' := 15) dX5_readTrust_12 (by decide) rfl (fun _ => ?_) (fun _ => ?_)
    · refine sw_aload_n (pc' := 16) dX5_readTrust_15 rfl rfl ?_
      refine sw_getn (pc' := 19) dX5_readTrust_16 fl_X5_73 (tbk_51) rfl rfl ?_
      refine sw_i2l (pc' := 20) dX5_readTrust_19 rfl ?_
      refine sw_lconst (x := 0) (pc' := 21) dX5_readTrust_20 rfl rfl ?_
      refine sw_ldc2 (n := 3) (pc' := 24) dX5_readTrust_21 kl_X5_91 rfl ?_
      refine sw_callSB (pc' := 27) (As := [vl (wr (σ 51 15)), vl 0, vl 3]) (rest := []) dX5_readTrust_24 cs_X5_46 (m_X5_in (wr (σ 51 15)) 0 3 σ) rfl rfl rfl rfl rfl (fun v24 s24 => ?_)
      refine sw_bif_eq (tgt := 50) (pc' := 30) dX5_readTrust_27 (by decide) rfl (fun _ => ?_) (fun _ => ?_)
      · refine sw_aload_n (pc' := 31) dX5_readTrust_30 rfl rfl ?_
        refine sw_getn (pc' := 34) dX5_readTrust_31 fl_X5_93 (tbk_51) rfl rfl ?_
        refine sw_aload_n (pc' := 35) dX5_readTrust_34 rfl rfl ?_
        refine sw_getn (pc' := 38) dX5_readTrust_35 fl_X5_73 (tbk_51) rfl rfl ?_
        refine sw_ishr (pc' := 39) dX5_readTrust_38 rfl ?_
        refine sw_iconst (pc' := 40) dX5_readTrust_39 rfl ?_
        refine sw_iand (pc' := 41) dX5_readTrust_40 rfl ?_
        refine sw_iconst (pc' := 42) dX5_readTrust_41 rfl ?_
        refine sw_icmp_ne (tgt := 50) (pc' := 45) dX5_readTrust_42 (by decide) rfl (fun _ => ?_) (fun _ => ?_)
        · refine sw_aload_n (pc' := 46) dX5_readTrust_45 rfl rfl ?_
          refine sw_iconst (pc' := 47) dX5_readTrust_46 rfl ?_
          refine sw_callVV (pc' := 50) (As := [vi 4]) (rest := []) dX5_readTrust_47 cv_X5_84 (tbk_51) (m_X5_fails 4 s24) rfl rfl rfl rfl rfl (fun s47 => ?_)
          exact s_X5_readTrust_50 s47
        · exact s_X5_readTrust_50 s24
      · exact s_X5_readTrust_50 s24
    · exact s_X5_readTrust_50 σ
  · exact s_X5_readTrust_50 σ
def rm_X5_readReport : Room := { frames := 3, cells := 0, slots := 0, locals := 69 }
def f_X5_readReport_63   (x1 x2 t0 t1 : Int) (σ : St) : Option (St) :=
  bV (pf σ 51 6 t1) fun s63 => bV (sv s63 53 55 (36 + x1) x2) fun s75 => bI (f_X5_number 0 3 s75) fun v87 s87 => bV (sv s87 53 55 (44 + x1) v87) fun s90 => bV (ld s90 53 55 52) fun v98 => bV (sv s90 53 55 52 (v98 + 1)) fun s101 => some s101
set_option maxRecDepth 20000 in
theorem s_X5_readReport_63     (x1 x2 t0 t1 : Int) (σ : St) : SW G l RX5 cX5_readReport 3 rm_X5_readReport wV 63 [some (.ref (ad G 51)), some (vi x1), some (vi x2)] [vi t1, .ref (ad G 51)] σ (f_X5_readReport_63 x1 x2 t0 t1 σ) := by
  unfold f_X5_readReport_63
  refine sw_putI (pc' := 66) dX5_readReport_63 fp_X5_100 (tbk_51) rfl rfl (fun s63 => ?_)
  refine sw_aload_n (pc' := 67) dX5_readReport_66 rfl rfl ?_
  refine sw_getr (pc' := 70) dX5_readReport_67 fl_X5_13 (tbk_51) rfl rfl ?_
  refine sw_bipush (pc' := 72) dX5_readReport_70 rfl rfl ?_
  refine sw_iload_n (pc' := 73) dX5_readReport_72 rfl rfl ?_
  refine sw_iadd (pc' := 74) dX5_readReport_73 rfl ?_
  refine sw_iload_n (pc' := 75) dX5_readReport_74 rfl rfl ?_
  refine sw_iast (pc' := 76) dX5_readReport_75 (tbk_53) rfl (fun s75 => ?_)
  refine sw_aload_n (pc' := 77) dX5_readReport_76 rfl rfl ?_
  refine sw_getr (pc' := 80) dX5_readReport_77 fl_X5_13 (tbk_51) rfl rfl ?_
  refine sw_bipush (pc' := 82) dX5_readReport_80 rfl rfl ?_
  refine sw_iload_n (pc' := 83) dX5_readReport_82 rfl rfl ?_
  refine sw_iadd (pc' := 84) dX5_readReport_83 rfl ?_
  refine sw_aload_n (pc' := 85) dX5_readReport_84 rfl rfl ?_
  refine sw_iconst (pc' := 86) dX5_readReport_85 rfl ?_
  refine sw_iconst (pc' := 87) dX5_readReport_86 rfl ?_
  refine sw_callVI (pc' := 90) (As := [vi 0, vi 3]) (rest := [vi (44 + x1), .ref (ad G 53)]) dX5_readReport_87 cv_X5_96 (tbk_51) (m_X5_number 0 3 s75) rfl rfl rfl rfl rfl (fun v87 s87 => ?_)
  refine sw_iast (pc' := 91) dX5_readReport_90 (tbk_53) rfl (fun s90 => ?_)
  refine sw_aload_n (pc' := 92) dX5_readReport_91 rfl rfl ?_
  refine sw_getr (pc' := 95) dX5_readReport_92 fl_X5_13 (tbk_51) rfl rfl ?_
  refine sw_bipush (pc' := 97) dX5_readReport_95 rfl rfl ?_
  refine sw_dup2 (pc' := 98) dX5_readReport_97 rfl rfl rfl ?_
  refine sw_iald (pc' := 99) dX5_readReport_98 (tbk_53) rfl (fun v98 => ?_)
  refine sw_iconst (pc' := 100) dX5_readReport_99 rfl ?_
  refine sw_iadd (pc' := 101) dX5_readReport_100 rfl ?_
  refine sw_iast (pc' := 102) dX5_readReport_101 (tbk_53) rfl (fun s101 => ?_)
  exact sw_vret dX5_readReport_102
def f_X5_readReport  (σ : St) : Option (St) :=
  bV (ld σ 53 55 52) fun v6 => bI (f_X5_number 0 99 σ) fun v20 s20 => bV (sv s20 53 55 (20 + v6) v20) fun s23 => bI (f_X5_number 0 3 s23) fun v35 s35 => bV (sv s35 53 55 (28 + v6) v35) fun s38 => bI (f_X5_number 0 4 s38) fun v42 s42 => if wr (s42 51 6) < wr v42 then
    f_X5_readReport_63 v6 v42 51 v42 s42
  else
    f_X5_readReport_63 v6 v42 51 (s42 51 6) s42
set_option maxRecDepth 20000 in
theorem m_X5_readReport   (σ : St) : MT G l yX5_readReport cX5_readReport 3 none rm_X5_readReport [.ref (ad G 51)] wV σ (f_X5_readReport σ) := by
  refine mt_V (L := [some (.ref (ad G 51)), none, none]) rfl (Nat.le_of_ble_eq_true rfl) rfl ?_
  show SW G l RX5 cX5_readReport 3 rm_X5_readReport wV 0 [some (.ref (ad G 51)), none, none] [] σ (f_X5_readReport σ)
  unfold f_X5_readReport
  refine sw_aload_n (pc' := 1) dX5_readReport_0 rfl rfl ?_
  refine sw_getr (pc' := 4) dX5_readReport_1 fl_X5_13 (tbk_51) rfl rfl ?_
  refine sw_bipush (pc' := 6) dX5_readReport_4 rfl rfl ?_
  refine sw_iald (pc' := 7) dX5_readReport_6 (tbk_53) rfl (fun v6 => ?_)
  refine sw_istore_n (pc' := 8) (x := v6) (L' := [some (.ref (ad G 51)), some (vi v6), none]) dX5_readReport_7 rfl (by decide) rfl rfl ?_
  refine sw_aload_n (pc' := 9) dX5_readReport_8 rfl rfl ?_
  refine sw_getr (pc' := 12) dX5_readReport_9 fl_X5_13 (tbk_51) rfl rfl ?_
  refine sw_bipush (pc' := 14) dX5_readReport_12 rfl rfl ?_
  refine sw_iload_n (pc' := 15) dX5_readReport_14 rfl rfl ?_
  refine sw_iadd (pc' := 16) dX5_readReport_15 rfl ?_
  refine sw_aload_n (pc' := 17) dX5_readReport_16 rfl rfl ?_
  refine sw_iconst (pc' := 18) dX5_readReport_17 rfl ?_
  refine sw_bipush (pc' := 20) dX5_readReport_18 rfl rfl ?_
  refine sw_callVI (pc' := 23) (As := [vi 0, vi 99]) (rest := [vi (20 + v6), .ref (ad G 53)]) dX5_readReport_20 cv_X5_96 (tbk_51) (m_X5_number 0 99 σ) rfl rfl rfl rfl rfl (fun v20 s20 => ?_)
  refine sw_iast (pc' := 24) dX5_readReport_23 (tbk_53) rfl (fun s23 => ?_)
  refine sw_aload_n (pc' := 25) dX5_readReport_24 rfl rfl ?_
  refine sw_getr (pc' := 28) dX5_readReport_25 fl_X5_13 (tbk_51) rfl rfl ?_
  refine sw_bipush (pc' := 30) dX5_readReport_28 rfl rfl ?_
  refine sw_iload_n (pc' := 31) dX5_readReport_30 rfl rfl ?_
  refine sw_iadd (pc' := 32) dX5_readReport_31 rfl ?_
  refine sw_aload_n (pc' := 33) dX5_readReport_32 rfl rfl ?_
  refine sw_iconst (pc' := 34) dX5_readReport_33 rfl ?_
  refine sw_iconst (pc' := 35) dX5_readReport_34 rfl ?_
  refine sw_callVI (pc' := 38) (As := [vi 0, vi 3]) (rest := [vi (28 + v6), .ref (ad G 53)]) dX5_readReport_35 cv_X5_96 (tbk_51) (m_X5_number 0 3 s23) rfl rfl rfl rfl rfl (fun v35 s35 => ?_)
  refine sw_iast (pc' := 39) dX5_readReport_38 (tbk_53) rfl (fun s38 => ?_)
  refine sw_aload_n (pc' := 40) dX5_readReport_39 rfl rfl ?_
  refine sw_iconst (pc' := 41) dX5_readReport_40 rfl ?_
  refine sw_iconst (pc' := 42) dX5_readReport_41 rfl ?_
  refine sw_callVI (pc' := 45) (As := [vi 0, vi 4]) (rest := []) dX5_readReport_42 cv_X5_96 (tbk_51) (m_X5_number 0 4 s38) rfl rfl rfl rfl rfl (fun v42 s42 => ?_)
  refine sw_istore_n (pc' := 46) (x := v42) (L' := [some (.ref (ad G 51)), some (vi v6), some (vi v42)]) dX5_readReport_45 rfl (by decide) rfl rfl ?_
  refine sw_aload_n (pc' := 47) dX5_readReport_46 rfl rfl ?_
  refine sw_iload_n (pc' := 48) dX5_readReport_47 rfl rfl ?_
  refine sw_aload_n (pc' := 49) dX5_readReport_48 rfl rfl ?_
  refine sw_getn (pc' := 52) dX5_readReport_49 fl_X5_100 (tbk_51) rfl rfl ?_
  refine sw_icmp_le (tgt := 59) (pc' := 55) dX5_readReport_52 (by decide) rfl (fun _ => ?_) (fun _ => ?_)
  · refine sw_iload_n (pc' := 56) dX5_readReport_55 rfl rfl ?_
    refine sw_goto (pc' := 63) dX5_readReport_56 (by decide) ?_
    exact s_X5_readReport_63 v6 v42 51 v42 s42
  · refine sw_aload_n (pc' := 60) dX5_readReport_59 rfl rfl ?_
    refine sw_getn (pc' := 63) dX5_readReport_60 fl_X5_100 (tbk_51) rfl rfl ?_
    exact s_X5_readReport_63 v6 v42 51 (s42 51 6) s42
def rm_X5_readMore : Room := { frames := 4, cells := 0, slots := 0, locals := 91 }
def f_X5_readMore (x1 : Int) (σ : St) : Option (St) :=
  if wr 3 < wr x1 then
    if wr x1 = wr 4 then
      bV (f_X5_readReport σ) fun s71 => some s71
    else
      if wr x1 = wr 5 then
        bV (f_X5_readTrust σ) fun s83 => some s83
      else
        bI (f_X5_number 1 99 σ) fun v99 s99 => bV (sv s99 53 55 15 (v99 - 25)) fun s105 => some s105
  else
    bV (sv σ 53 55 (σ 51 3) x1) fun s14 => bI (f_X5_number 0 15 s14) fun v29 s29 => bV (sv s29 53 55 (5 + (s14 51 3)) v29) fun s32 => bI (f_X5_number 1 99 s32) fun v48 s48 => bV (sv s48 53 55 (10 + (s32 51 3)) v48) fun s51 => bV (pf s51 51 3 ((s51 51 3) + 1)) fun s59 => some s59
set_option maxRecDepth 20000 in
theorem m_X5_readMore (x1 : Int)  (σ : St) : MT G l yX5_readMore cX5_readMore 2 none rm_X5_readMore [.ref (ad G 51), vi x1] wV σ (f_X5_readMore x1 σ) := by
  refine mt_V (L := [some (.ref (ad G 51)), some (vi x1)]) rfl (Nat.le_of_ble_eq_true rfl) rfl ?_
  show SW G l RX5 cX5_readMore 2 rm_X5_readMore wV 0 [some (.ref (ad G 51)), some (vi x1)] [] σ (f_X5_readMore x1 σ)
  unfold f_X5_readMore
  refine sw_iload_n (pc' := 1) dX5_readMore_0 rfl rfl ?_
  refine sw_iconst (pc' := 2) dX5_readMore_1 rfl ?_
  refine sw_icmp_gt (tgt := 65) (pc' := 5) dX5_readMore_2 (by decide) rfl (fun _ => ?_) (fun _ => ?_)
  · refine sw_iload_n (pc' := 66) dX5_readMore_65 rfl rfl ?_
    refine sw_iconst (pc' := 67) dX5_readMore_66 rfl ?_
    refine sw_icmp_ne (tgt := 77) (pc' := 70) dX5_readMore_67 (by decide) rfl (fun _ => ?_) (fun _ => ?_)
    · refine sw_aload_n (pc' := 71) dX5_readMore_70 rfl rfl ?_
      refine sw_callVV (pc' := 74) (As := []) (rest := []) dX5_readMore_71 cv_X5_106 (tbk_51) (m_X5_readReport σ) rfl rfl rfl rfl rfl (fun s71 => ?_)
      refine sw_goto (pc' := 106) dX5_readMore_74 (by decide) ?_
      exact sw_vret dX5_readMore_106
    · refine sw_iload_n (pc' := 78) dX5_readMore_77 rfl rfl ?_
      refine sw_iconst (pc' := 79) dX5_readMore_78 rfl ?_
      refine sw_icmp_ne (tgt := 89) (pc' := 82) dX5_readMore_79 (by decide) rfl (fun _ => ?_) (fun _ => ?_)
      · refine sw_aload_n (pc' := 83) dX5_readMore_82 rfl rfl ?_
        refine sw_callVV (pc' := 86) (As := []) (rest := []) dX5_readMore_83 cv_X5_109 (tbk_51) (m_X5_readTrust σ) rfl rfl rfl rfl rfl (fun s83 => ?_)
        refine sw_goto (pc' := 106) dX5_readMore_86 (by decide) ?_
        exact sw_vret dX5_readMore_106
      · refine sw_aload_n (pc' := 90) dX5_readMore_89 rfl rfl ?_
        refine sw_getr (pc' := 93) dX5_readMore_90 fl_X5_13 (tbk_51) rfl rfl ?_
        refine sw_bipush (pc' := 95) dX5_readMore_93 rfl rfl ?_
        refine sw_aload_n (pc' := 96) dX5_readMore_95 rfl rfl ?_
        refine sw_iconst (pc' := 97) dX5_readMore_96 rfl ?_
        refine sw_bipush (pc' := 99) dX5_readMore_97 rfl rfl ?_
        refine sw_callVI (pc' := 102) (As := [vi 1, vi 99]) (rest := [vi 15, .ref (ad G 53)]) dX5_readMore_99 cv_X5_96 (tbk_51) (m_X5_number 1 99 σ) rfl rfl rfl rfl rfl (fun v99 s99 => ?_)
        refine sw_bipush (pc' := 104) dX5_readMore_102 rfl rfl ?_
        refine sw_isub (pc' := 105) dX5_readMore_104 rfl ?_
        refine sw_iast (pc' := 106) dX5_readMore_105 (tbk_53) rfl (fun s105 => ?_)
        exact sw_vret dX5_readMore_106
  · refine sw_aload_n (pc' := 6) dX5_readMore_5 rfl rfl ?_
    refine sw_getr (pc' := 9) dX5_readMore_6 fl_X5_13 (tbk_51) rfl rfl ?_
    refine sw_aload_n (pc' := 10) dX5_readMore_9 rfl rfl ?_
    refine sw_getn (pc' := 13) dX5_readMore_10 fl_X5_103 (tbk_51) rfl rfl ?_
    refine sw_iload_n (pc' := 14) dX5_readMore_13 rfl rfl ?_
    refine sw_iast (pc' := 15) dX5_readMore_14 (tbk_53) rfl (fun s14 => ?_)
    refine sw_aload_n (pc' := 16) dX5_readMore_15 rfl rfl ?_
    refine sw_getr (pc' := 19) dX5_readMore_16 fl_X5_13 (tbk_51) rfl rfl ?_
    refine sw_iconst (pc' := 20) dX5_readMore_19 rfl ?_
    refine sw_aload_n (pc' := 21) dX5_readMore_20 rfl rfl ?_
    refine sw_getn (pc' := 24) dX5_readMore_21 fl_X5_103 (tbk_51) rfl rfl ?_
    refine sw_iadd (pc' := 25) dX5_readMore_24 rfl ?_
    refine sw_aload_n (pc' := 26) dX5_readMore_25 rfl rfl ?_
    refine sw_iconst (pc' := 27) dX5_readMore_26 rfl ?_
    refine sw_bipush (pc' := 29) dX5_readMore_27 rfl rfl ?_
    refine sw_callVI (pc' := 32) (As := [vi 0, vi 15]) (rest := [vi (5 + (s14 51 3)), .ref (ad G 53)]) dX5_readMore_29 cv_X5_96 (tbk_51) (m_X5_number 0 15 s14) rfl rfl rfl rfl rfl (fun v29 s29 => ?_)
    refine sw_iast (pc' := 33) dX5_readMore_32 (tbk_53) rfl (fun s32 => ?_)
    refine sw_aload_n (pc' := 34) dX5_readMore_33 rfl rfl ?_
    refine sw_getr (pc' := 37) dX5_readMore_34 fl_X5_13 (tbk_51) rfl rfl ?_
    refine sw_bipush (pc' := 39) dX5_readMore_37 rfl rfl ?_
    refine sw_aload_n (pc' := 40) dX5_readMore_39 rfl rfl ?_
    refine sw_getn (pc' := 43) dX5_readMore_40 fl_X5_103 (tbk_51) rfl rfl ?_
    refine sw_iadd (pc' := 44) dX5_readMore_43 rfl ?_
    refine sw_aload_n (pc' := 45) dX5_readMore_44 rfl rfl ?_
    refine sw_iconst (pc' := 46) dX5_readMore_45 rfl ?_
    refine sw_bipush (pc' := 48) dX5_readMore_46 rfl rfl ?_
    refine sw_callVI (pc' := 51) (As := [vi 1, vi 99]) (rest := [vi (10 + (s32 51 3)), .ref (ad G 53)]) dX5_readMore_48 cv_X5_96 (tbk_51) (m_X5_number 1 99 s32) rfl rfl rfl rfl rfl (fun v48 s48 => ?_)
    refine sw_iast (pc' := 52) dX5_readMore_51 (tbk_53) rfl (fun s51 => ?_)
    refine sw_aload_n (pc' := 53) dX5_readMore_52 rfl rfl ?_
    refine sw_dup (pc' := 54) dX5_readMore_53 rfl rfl ?_
    refine sw_getn (pc' := 57) dX5_readMore_54 fl_X5_103 (tbk_51) rfl rfl ?_
    refine sw_iconst (pc' := 58) dX5_readMore_57 rfl ?_
    refine sw_iadd (pc' := 59) dX5_readMore_58 rfl ?_
    refine sw_putI (pc' := 62) dX5_readMore_59 fp_X5_103 (tbk_51) rfl rfl (fun s59 => ?_)
    refine sw_goto (pc' := 106) dX5_readMore_62 (by decide) ?_
    exact sw_vret dX5_readMore_106
def rm_X5_readLine : Room := { frames := 5, cells := 0, slots := 0, locals := 112 }
def f_X5_readLine_135   (σ : St) : Option (St) :=
  bV (f_X5_step σ) fun s136 => some s136
set_option maxRecDepth 20000 in
theorem s_X5_readLine_135     (σ : St) : SW G l RX5 cX5_readLine 2 rm_X5_readLine wV 135 [some (.ref (ad G 51)), none] [] σ (f_X5_readLine_135 σ) := by
  unfold f_X5_readLine_135
  refine sw_aload_n (pc' := 136) dX5_readLine_135 rfl rfl ?_
  refine sw_callVV (pc' := 139) (As := []) (rest := []) dX5_readLine_136 cv_X5_88 (tbk_51) (m_X5_step σ) rfl rfl rfl rfl rfl (fun s136 => ?_)
  exact sw_vret dX5_readLine_139
def f_X5_readLine_95   (x1 t0 t1 : Int) (σ : St) : Option (St) :=
  bV (pz σ 51 5 t1) fun s95 => bV (f_X5_step s95) fun s99 => if 0 < wr (s99 51 10) then
    some s99
  else
    bV (f_X5_readMore x1 s99) fun s112 => if wr (s112 51 10) = 0 then
      if wr (s112 51 14) = wr 3 then
        f_X5_readLine_135 s112
      else
        bV (f_X5_fails 2 s112) fun s132 => f_X5_readLine_135 s132
    else
      f_X5_readLine_135 s112
set_option maxRecDepth 20000 in
theorem s_X5_readLine_95     (x1 t0 t1 : Int) (σ : St) : SW G l RX5 cX5_readLine 2 rm_X5_readLine wV 95 [some (.ref (ad G 51)), some (vi x1)] [vi t1, .ref (ad G 51)] σ (f_X5_readLine_95 x1 t0 t1 σ) := by
  unfold f_X5_readLine_95
  refine sw_putZ (pc' := 98) dX5_readLine_95 fp_X5_118 (tbk_51) rfl rfl (fun s95 => ?_)
  refine sw_aload_n (pc' := 99) dX5_readLine_98 rfl rfl ?_
  refine sw_callVV (pc' := 102) (As := []) (rest := []) dX5_readLine_99 cv_X5_88 (tbk_51) (m_X5_step s95) rfl rfl rfl rfl rfl (fun s99 => ?_)
  refine sw_aload_n (pc' := 103) dX5_readLine_102 rfl rfl ?_
  refine sw_getn (pc' := 106) dX5_readLine_103 fl_X5_54 (tbk_51) rfl rfl ?_
  refine sw_if_le (tgt := 110) (pc' := 109) dX5_readLine_106 (by decide) rfl (fun _ => ?_) (fun _ => ?_)
  · exact sw_vret dX5_readLine_109
  · refine sw_aload_n (pc' := 111) dX5_readLine_110 rfl rfl ?_
    refine sw_iload_n (pc' := 112) dX5_readLine_111 rfl rfl ?_
    refine sw_callVV (pc' := 115) (As := [vi x1]) (rest := []) dX5_readLine_112 cv_X5_122 (tbk_51) (m_X5_readMore x1 s99) rfl rfl rfl rfl rfl (fun s112 => ?_)
    refine sw_aload_n (pc' := 116) dX5_readLine_115 rfl rfl ?_
    refine sw_getn (pc' := 119) dX5_readLine_116 fl_X5_54 (tbk_51) rfl rfl ?_
    refine sw_if_ne (tgt := 135) (pc' := 122) dX5_readLine_119 (by decide) rfl (fun _ => ?_) (fun _ => ?_)
    · refine sw_aload_n (pc' := 123) dX5_readLine_122 rfl rfl ?_
      refine sw_getn (pc' := 126) dX5_readLine_123 fl_X5_63 (tbk_51) rfl rfl ?_
      refine sw_iconst (pc' := 127) dX5_readLine_126 rfl ?_
      refine sw_icmp_eq (tgt := 135) (pc' := 130) dX5_readLine_127 (by decide) rfl (fun _ => ?_) (fun _ => ?_)
      · refine sw_msk [true, false] rfl ?_
        exact s_X5_readLine_135 s112
      · refine sw_aload_n (pc' := 131) dX5_readLine_130 rfl rfl ?_
        refine sw_iconst (pc' := 132) dX5_readLine_131 rfl ?_
        refine sw_callVV (pc' := 135) (As := [vi 2]) (rest := []) dX5_readLine_132 cv_X5_84 (tbk_51) (m_X5_fails 2 s112) rfl rfl rfl rfl rfl (fun s132 => ?_)
        refine sw_msk [true, false] rfl ?_
        exact s_X5_readLine_135 s132
    · refine sw_msk [true, false] rfl ?_
      exact s_X5_readLine_135 s112
def f_X5_readLine_90   (x1 t0 : Int) (σ : St) : Option (St) :=
  f_X5_readLine_95 x1 51 1 σ
set_option maxRecDepth 20000 in
theorem s_X5_readLine_90     (x1 t0 : Int) (σ : St) : SW G l RX5 cX5_readLine 2 rm_X5_readLine wV 90 [some (.ref (ad G 51)), some (vi x1)] [.ref (ad G 51)] σ (f_X5_readLine_90 x1 t0 σ) := by
  unfold f_X5_readLine_90
  refine sw_iconst (pc' := 91) dX5_readLine_90 rfl ?_
  refine sw_goto (pc' := 95) dX5_readLine_91 (by decide) ?_
  exact s_X5_readLine_95 x1 51 1 σ
def f_X5_readLine_76   (x1 : Int) (σ : St) : Option (St) :=
  if wr (σ 51 5) = 0 then
    if wr x1 = wr 6 then
      f_X5_readLine_90 x1 51 σ
    else
      f_X5_readLine_95 x1 51 0 σ
  else
    f_X5_readLine_90 x1 51 σ
set_option maxRecDepth 20000 in
theorem s_X5_readLine_76     (x1 : Int) (σ : St) : SW G l RX5 cX5_readLine 2 rm_X5_readLine wV 76 [some (.ref (ad G 51)), some (vi x1)] [] σ (f_X5_readLine_76 x1 σ) := by
  unfold f_X5_readLine_76
  refine sw_aload_n (pc' := 77) dX5_readLine_76 rfl rfl ?_
  refine sw_aload_n (pc' := 78) dX5_readLine_77 rfl rfl ?_
  refine sw_getn (pc' := 81) dX5_readLine_78 fl_X5_118 (tbk_51) rfl rfl ?_
  refine sw_if_ne (tgt := 90) (pc' := 84) dX5_readLine_81 (by decide) rfl (fun _ => ?_) (fun _ => ?_)
  · refine sw_iload_n (pc' := 85) dX5_readLine_84 rfl rfl ?_
    refine sw_bipush (pc' := 87) dX5_readLine_85 rfl rfl ?_
    refine sw_icmp_ne (tgt := 94) (pc' := 90) dX5_readLine_87 (by decide) rfl (fun _ => ?_) (fun _ => ?_)
    · exact s_X5_readLine_90 x1 51 σ
    · refine sw_iconst (pc' := 95) dX5_readLine_94 rfl ?_
      exact s_X5_readLine_95 x1 51 0 σ
  · exact s_X5_readLine_90 x1 51 σ
def f_X5_readLine_58   (x1 : Int) (σ : St) : Option (St) :=
  if wr x1 = wr 6 then
    if wr (σ 51 5) = 0 then
      f_X5_readLine_76 x1 σ
    else
      bV (f_X5_fails 4 σ) fun s73 => f_X5_readLine_76 x1 s73
  else
    f_X5_readLine_76 x1 σ
set_option maxRecDepth 20000 in
theorem s_X5_readLine_58     (x1 : Int) (σ : St) : SW G l RX5 cX5_readLine 2 rm_X5_readLine wV 58 [some (.ref (ad G 51)), some (vi x1)] [] σ (f_X5_readLine_58 x1 σ) := by
  unfold f_X5_readLine_58
  refine sw_iload_n (pc' := 59) dX5_readLine_58 rfl rfl ?_
  refine sw_bipush (pc' := 61) dX5_readLine_59 rfl rfl ?_
  refine sw_icmp_ne (tgt := 76) (pc' := 64) dX5_readLine_61 (by decide) rfl (fun _ => ?_) (fun _ => ?_)
  · refine sw_aload_n (pc' := 65) dX5_readLine_64 rfl rfl ?_
    refine sw_getn (pc' := 68) dX5_readLine_65 fl_X5_118 (tbk_51) rfl rfl ?_
    refine sw_if_eq (tgt := 76) (pc' := 71) dX5_readLine_68 (by decide) rfl (fun _ => ?_) (fun _ => ?_)
    · exact s_X5_readLine_76 x1 σ
    · refine sw_aload_n (pc' := 72) dX5_readLine_71 rfl rfl ?_
      refine sw_iconst (pc' := 73) dX5_readLine_72 rfl ?_
      refine sw_callVV (pc' := 76) (As := [vi 4]) (rest := []) dX5_readLine_73 cv_X5_84 (tbk_51) (m_X5_fails 4 σ) rfl rfl rfl rfl rfl (fun s73 => ?_)
      exact s_X5_readLine_76 x1 s73
  · exact s_X5_readLine_76 x1 σ
def f_X5_readLine_53   (x1 : Int) (σ : St) : Option (St) :=
  bV (f_X5_fails 5 σ) fun s55 => f_X5_readLine_58 x1 s55
set_option maxRecDepth 20000 in
theorem s_X5_readLine_53     (x1 : Int) (σ : St) : SW G l RX5 cX5_readLine 2 rm_X5_readLine wV 53 [some (.ref (ad G 51)), some (vi x1)] [] σ (f_X5_readLine_53 x1 σ) := by
  unfold f_X5_readLine_53
  refine sw_aload_n (pc' := 54) dX5_readLine_53 rfl rfl ?_
  refine sw_iconst (pc' := 55) dX5_readLine_54 rfl ?_
  refine sw_callVV (pc' := 58) (As := [vi 5]) (rest := []) dX5_readLine_55 cv_X5_84 (tbk_51) (m_X5_fails 5 σ) rfl rfl rfl rfl rfl (fun s55 => ?_)
  exact s_X5_readLine_58 x1 s55
def f_X5_readLine_36   (x1 : Int) (σ : St) : Option (St) :=
  if wr x1 = wr 4 then
    bV (ld σ 53 55 52) fun v47 => if wr v47 = wr 8 then
      f_X5_readLine_53 x1 σ
    else
      f_X5_readLine_58 x1 σ
  else
    f_X5_readLine_58 x1 σ
set_option maxRecDepth 20000 in
theorem s_X5_readLine_36     (x1 : Int) (σ : St) : SW G l RX5 cX5_readLine 2 rm_X5_readLine wV 36 [some (.ref (ad G 51)), some (vi x1)] [] σ (f_X5_readLine_36 x1 σ) := by
  unfold f_X5_readLine_36
  refine sw_iload_n (pc' := 37) dX5_readLine_36 rfl rfl ?_
  refine sw_iconst (pc' := 38) dX5_readLine_37 rfl ?_
  refine sw_icmp_ne (tgt := 58) (pc' := 41) dX5_readLine_38 (by decide) rfl (fun _ => ?_) (fun _ => ?_)
  · refine sw_aload_n (pc' := 42) dX5_readLine_41 rfl rfl ?_
    refine sw_getr (pc' := 45) dX5_readLine_42 fl_X5_13 (tbk_51) rfl rfl ?_
    refine sw_bipush (pc' := 47) dX5_readLine_45 rfl rfl ?_
    refine sw_iald (pc' := 48) dX5_readLine_47 (tbk_53) rfl (fun v47 => ?_)
    refine sw_bipush (pc' := 50) dX5_readLine_48 rfl rfl ?_
    refine sw_icmp_ne (tgt := 58) (pc' := 53) dX5_readLine_50 (by decide) rfl (fun _ => ?_) (fun _ => ?_)
    · exact s_X5_readLine_53 x1 σ
    · exact s_X5_readLine_58 x1 σ
  · exact s_X5_readLine_58 x1 σ
def f_X5_readLine  (σ : St) : Option (St) :=
  bI (f_X5_nameHere σ) fun v1 s1 => bI (f_X5_in (wr v1) 0 6 s1) fun v11 s11 => if v11 then
    if wr 3 < wr v1 then
      f_X5_readLine_36 v1 s11
    else
      if wr (s11 51 3) = wr 5 then
        f_X5_readLine_53 v1 s11
      else
        f_X5_readLine_36 v1 s11
  else
    bV (f_X5_fails 2 s11) fun s19 => some s19
set_option maxRecDepth 20000 in
theorem m_X5_readLine   (σ : St) : MT G l yX5_readLine cX5_readLine 2 none rm_X5_readLine [.ref (ad G 51)] wV σ (f_X5_readLine σ) := by
  refine mt_V (L := [some (.ref (ad G 51)), none]) rfl (Nat.le_of_ble_eq_true rfl) rfl ?_
  show SW G l RX5 cX5_readLine 2 rm_X5_readLine wV 0 [some (.ref (ad G 51)), none] [] σ (f_X5_readLine σ)
  unfold f_X5_readLine
  refine sw_aload_n (pc' := 1) dX5_readLine_0 rfl rfl ?_
  refine sw_callVI (pc' := 4) (As := []) (rest := []) dX5_readLine_1 cv_X5_112 (tbk_51) (m_X5_nameHere σ) rfl rfl rfl rfl rfl (fun v1 s1 => ?_)
  refine sw_istore_n (pc' := 5) (x := v1) (L' := [some (.ref (ad G 51)), some (vi v1)]) dX5_readLine_4 rfl (by decide) rfl rfl ?_
  refine sw_iload_n (pc' := 6) dX5_readLine_5 rfl rfl ?_
  refine sw_i2l (pc' := 7) dX5_readLine_6 rfl ?_
  refine sw_lconst (x := 0) (pc' := 8) dX5_readLine_7 rfl rfl ?_
  refine sw_ldc2 (n := 6) (pc' := 11) dX5_readLine_8 kl_X5_116 rfl ?_
  refine sw_callSB (pc' := 14) (As := [vl (wr v1), vl 0, vl 6]) (rest := []) dX5_readLine_11 cs_X5_46 (m_X5_in (wr v1) 0 6 s1) rfl rfl rfl rfl rfl (fun v11 s11 => ?_)
  refine sw_bif_ne (tgt := 23) (pc' := 17) dX5_readLine_14 (by decide) rfl (fun _ => ?_) (fun _ => ?_)
  · refine sw_iload_n (pc' := 24) dX5_readLine_23 rfl rfl ?_
    refine sw_iconst (pc' := 25) dX5_readLine_24 rfl ?_
    refine sw_icmp_gt (tgt := 36) (pc' := 28) dX5_readLine_25 (by decide) rfl (fun _ => ?_) (fun _ => ?_)
    · exact s_X5_readLine_36 v1 s11
    · refine sw_aload_n (pc' := 29) dX5_readLine_28 rfl rfl ?_
      refine sw_getn (pc' := 32) dX5_readLine_29 fl_X5_103 (tbk_51) rfl rfl ?_
      refine sw_iconst (pc' := 33) dX5_readLine_32 rfl ?_
      refine sw_icmp_eq (tgt := 53) (pc' := 36) dX5_readLine_33 (by decide) rfl (fun _ => ?_) (fun _ => ?_)
      · exact s_X5_readLine_53 v1 s11
      · exact s_X5_readLine_36 v1 s11
  · refine sw_aload_n (pc' := 18) dX5_readLine_17 rfl rfl ?_
    refine sw_iconst (pc' := 19) dX5_readLine_18 rfl ?_
    refine sw_callVV (pc' := 22) (As := [vi 2]) (rest := []) dX5_readLine_19 cv_X5_84 (tbk_51) (m_X5_fails 2 s11) rfl rfl rfl rfl rfl (fun s19 => ?_)
    exact sw_vret dX5_readLine_22
def rm_X5_text : Room := { frames := 6, cells := 0, slots := 0, locals := 133 }
def f_X5_text_135   : Nat → Int → Int → St → Option (Int × St)
  | 0, _, _, _ => none
  | n + 1, x1, x2, σ =>
    if wr x2 < wr 55 then
      bV (ld σ 53 55 x2) fun v151 => bV (sv σ 52 330 x2 v151) fun s152 => (f_X5_text_135 n) x1 (x2 + 1) s152
    else
      bV (pf σ 51 1 (σ 51 3)) fun s164 => bV (pf s164 51 23 0) fun s169 => bV (sv s169 59 2 0 (naz 0)) fun s178 => bV (sv s178 59 2 1 (naz 0)) fun s185 => some (x1, s185)
set_option maxRecDepth 20000 in
theorem s_X5_text_135     : ∀ (n : Nat) (x1 x2 : Int) (σ : St), SW G l RX5 cX5_text 3 rm_X5_text wI 135 [some (.ref (ad G 51)), some (vi x1), some (vi x2)] [] σ (f_X5_text_135 n x1 x2 σ) := by
  intro n
  induction n with
  | zero => intro x1 x2 σ; exact sw_none
  | succ n ih =>
    intro x1 x2 σ
    rw [f_X5_text_135]
    refine sw_iload_n (pc' := 136) dX5_text_135 rfl rfl ?_
    refine sw_bipush (pc' := 138) dX5_text_136 rfl rfl ?_
    refine sw_icmp_ge (tgt := 159) (pc' := 141) dX5_text_138 (by decide) rfl (fun _ => ?_) (fun _ => ?_)
    · refine sw_aload_n (pc' := 142) dX5_text_141 rfl rfl ?_
      refine sw_getr (pc' := 145) dX5_text_142 fl_X5_7 (tbk_51) rfl rfl ?_
      refine sw_iload_n (pc' := 146) dX5_text_145 rfl rfl ?_
      refine sw_aload_n (pc' := 147) dX5_text_146 rfl rfl ?_
      refine sw_getr (pc' := 150) dX5_text_147 fl_X5_13 (tbk_51) rfl rfl ?_
      refine sw_iload_n (pc' := 151) dX5_text_150 rfl rfl ?_
      refine sw_iald (pc' := 152) dX5_text_151 (tbk_53) rfl (fun v151 => ?_)
      refine sw_iast (pc' := 153) dX5_text_152 (tbk_52) rfl (fun s152 => ?_)
      refine sw_iinc (pc' := 156) (x := x2) (L' := [some (.ref (ad G 51)), some (vi x1), some (vi (x2 + 1))]) dX5_text_153 rfl (by decide) rfl rfl rfl ?_
      refine sw_goto (pc' := 135) dX5_text_156 (by decide) ?_
      exact (ih) x1 (x2 + 1) s152
    · refine sw_aload_n (pc' := 160) dX5_text_159 rfl rfl ?_
      refine sw_aload_n (pc' := 161) dX5_text_160 rfl rfl ?_
      refine sw_getn (pc' := 164) dX5_text_161 fl_X5_103 (tbk_51) rfl rfl ?_
      refine sw_putI (pc' := 167) dX5_text_164 fp_X5_131 (tbk_51) rfl rfl (fun s164 => ?_)
      refine sw_aload_n (pc' := 168) dX5_text_167 rfl rfl ?_
      refine sw_iconst (pc' := 169) dX5_text_168 rfl ?_
      refine sw_putI (pc' := 172) dX5_text_169 fp_X5_134 (tbk_51) rfl rfl (fun s169 => ?_)
      refine sw_aload_n (pc' := 173) dX5_text_172 rfl rfl ?_
      refine sw_getr (pc' := 176) dX5_text_173 fl_X5_31 (tbk_51) rfl rfl ?_
      refine sw_iconst (pc' := 177) dX5_text_176 rfl ?_
      refine sw_iconst (pc' := 178) dX5_text_177 rfl ?_
      refine sw_zast (pc' := 179) dX5_text_178 (tbk_59) rfl (fun s178 => ?_)
      refine sw_aload_n (pc' := 180) dX5_text_179 rfl rfl ?_
      refine sw_getr (pc' := 183) dX5_text_180 fl_X5_31 (tbk_51) rfl rfl ?_
      refine sw_iconst (pc' := 184) dX5_text_183 rfl ?_
      refine sw_iconst (pc' := 185) dX5_text_184 rfl ?_
      refine sw_zast (pc' := 186) dX5_text_185 (tbk_59) rfl (fun s185 => ?_)
      refine sw_iload_n (pc' := 187) dX5_text_186 rfl rfl ?_
      exact sw_iret dX5_text_187
def f_X5_text_105   (x1 : Int) (σ : St) : Option (Int × St) :=
  bV (pf σ 51 8 0) fun s107 => bV (pf s107 51 9 (s107 51 10)) fun s115 => if 0 < wr (s115 51 10) then
    some (((-10) - (s115 51 11)), s115)
  else
    f_X5_text_135 FU x1 0 s115
set_option maxRecDepth 20000 in
theorem s_X5_text_105     (x1 : Int) (σ : St) : SW G l RX5 cX5_text 3 rm_X5_text wI 105 [some (.ref (ad G 51)), some (vi x1), none] [] σ (f_X5_text_105 x1 σ) := by
  unfold f_X5_text_105
  refine sw_aload_n (pc' := 106) dX5_text_105 rfl rfl ?_
  refine sw_iconst (pc' := 107) dX5_text_106 rfl ?_
  refine sw_putI (pc' := 110) dX5_text_107 fp_X5_50 (tbk_51) rfl rfl (fun s107 => ?_)
  refine sw_aload_n (pc' := 111) dX5_text_110 rfl rfl ?_
  refine sw_aload_n (pc' := 112) dX5_text_111 rfl rfl ?_
  refine sw_getn (pc' := 115) dX5_text_112 fl_X5_54 (tbk_51) rfl rfl ?_
  refine sw_putI (pc' := 118) dX5_text_115 fp_X5_128 (tbk_51) rfl rfl (fun s115 => ?_)
  refine sw_aload_n (pc' := 119) dX5_text_118 rfl rfl ?_
  refine sw_getn (pc' := 122) dX5_text_119 fl_X5_54 (tbk_51) rfl rfl ?_
  refine sw_if_le (tgt := 133) (pc' := 125) dX5_text_122 (by decide) rfl (fun _ => ?_) (fun _ => ?_)
  · refine sw_bipush (pc' := 127) dX5_text_125 rfl rfl ?_
    refine sw_aload_n (pc' := 128) dX5_text_127 rfl rfl ?_
    refine sw_getn (pc' := 131) dX5_text_128 fl_X5_60 (tbk_51) rfl rfl ?_
    refine sw_isub (pc' := 132) dX5_text_131 rfl ?_
    exact sw_iret dX5_text_132
  · refine sw_iconst (pc' := 134) dX5_text_133 rfl ?_
    refine sw_istore_n (pc' := 135) (x := 0) (L' := [some (.ref (ad G 51)), some (vi x1), some (vi 0)]) dX5_text_134 rfl (by decide) rfl rfl ?_
    exact s_X5_text_135 FU x1 0 s115
def f_X5_text_81   (x1 : Int) (σ : St) : Option (Int × St) :=
  if wr (σ 51 10) = 0 then
    if wr (σ 51 6) < wr (σ 51 3) then
      f_X5_text_105 x1 σ
    else
      bV (f_X5_fails 6 σ) fun s102 => f_X5_text_105 x1 s102
  else
    f_X5_text_105 x1 σ
set_option maxRecDepth 20000 in
theorem s_X5_text_81     (x1 : Int) (σ : St) : SW G l RX5 cX5_text 3 rm_X5_text wI 81 [some (.ref (ad G 51)), some (vi x1), none] [] σ (f_X5_text_81 x1 σ) := by
  unfold f_X5_text_81
  refine sw_aload_n (pc' := 82) dX5_text_81 rfl rfl ?_
  refine sw_getn (pc' := 85) dX5_text_82 fl_X5_54 (tbk_51) rfl rfl ?_
  refine sw_if_ne (tgt := 105) (pc' := 88) dX5_text_85 (by decide) rfl (fun _ => ?_) (fun _ => ?_)
  · refine sw_aload_n (pc' := 89) dX5_text_88 rfl rfl ?_
    refine sw_getn (pc' := 92) dX5_text_89 fl_X5_100 (tbk_51) rfl rfl ?_
    refine sw_aload_n (pc' := 93) dX5_text_92 rfl rfl ?_
    refine sw_getn (pc' := 96) dX5_text_93 fl_X5_103 (tbk_51) rfl rfl ?_
    refine sw_icmp_lt (tgt := 105) (pc' := 99) dX5_text_96 (by decide) rfl (fun _ => ?_) (fun _ => ?_)
    · exact s_X5_text_105 x1 σ
    · refine sw_aload_n (pc' := 100) dX5_text_99 rfl rfl ?_
      refine sw_bipush (pc' := 102) dX5_text_100 rfl rfl ?_
      refine sw_callVV (pc' := 105) (As := [vi 6]) (rest := []) dX5_text_102 cv_X5_84 (tbk_51) (m_X5_fails 6 σ) rfl rfl rfl rfl rfl (fun s102 => ?_)
      exact s_X5_text_105 x1 s102
  · exact s_X5_text_105 x1 σ
def f_X5_text_57   : Nat → Int → St → Option (Int × St)
  | 0, _, _ => none
  | n + 1, x1, σ =>
    if wr (σ 51 10) = 0 then
      if wr (σ 51 14) = 0 then
        f_X5_text_81 x1 σ
      else
        bV (f_X5_readLine σ) fun s72 => (f_X5_text_57 n) (x1 + 1) s72
    else
      f_X5_text_81 x1 σ
set_option maxRecDepth 20000 in
theorem s_X5_text_57     : ∀ (n : Nat) (x1 : Int) (σ : St), SW G l RX5 cX5_text 3 rm_X5_text wI 57 [some (.ref (ad G 51)), some (vi x1), none] [] σ (f_X5_text_57 n x1 σ) := by
  intro n
  induction n with
  | zero => intro x1 σ; exact sw_none
  | succ n ih =>
    intro x1 σ
    rw [f_X5_text_57]
    refine sw_aload_n (pc' := 58) dX5_text_57 rfl rfl ?_
    refine sw_getn (pc' := 61) dX5_text_58 fl_X5_54 (tbk_51) rfl rfl ?_
    refine sw_if_ne (tgt := 81) (pc' := 64) dX5_text_61 (by decide) rfl (fun _ => ?_) (fun _ => ?_)
    · refine sw_aload_n (pc' := 65) dX5_text_64 rfl rfl ?_
      refine sw_getn (pc' := 68) dX5_text_65 fl_X5_63 (tbk_51) rfl rfl ?_
      refine sw_if_eq (tgt := 81) (pc' := 71) dX5_text_68 (by decide) rfl (fun _ => ?_) (fun _ => ?_)
      · exact s_X5_text_81 x1 σ
      · refine sw_aload_n (pc' := 72) dX5_text_71 rfl rfl ?_
        refine sw_callVV (pc' := 75) (As := []) (rest := []) dX5_text_72 cv_X5_125 (tbk_51) (m_X5_readLine σ) rfl rfl rfl rfl rfl (fun s72 => ?_)
        refine sw_iinc (pc' := 78) (x := x1) (L' := [some (.ref (ad G 51)), some (vi (x1 + 1)), none]) dX5_text_75 rfl (by decide) rfl rfl rfl ?_
        refine sw_goto (pc' := 57) dX5_text_78 (by decide) ?_
        exact (ih) (x1 + 1) s72
    · exact s_X5_text_81 x1 σ
def f_X5_text_34   : Nat → Int → Int → St → Option (Int × St)
  | 0, _, _, _ => none
  | n + 1, x1, x2, σ =>
    if wr x2 < wr 55 then
      bV (sv σ 53 55 x2 0) fun s46 => (f_X5_text_34 n) x1 (x2 + 1) s46
    else
      bV (f_X5_step σ) fun s54 => f_X5_text_57 FU x1 s54
set_option maxRecDepth 20000 in
theorem s_X5_text_34     : ∀ (n : Nat) (x1 x2 : Int) (σ : St), SW G l RX5 cX5_text 3 rm_X5_text wI 34 [some (.ref (ad G 51)), some (vi x1), some (vi x2)] [] σ (f_X5_text_34 n x1 x2 σ) := by
  intro n
  induction n with
  | zero => intro x1 x2 σ; exact sw_none
  | succ n ih =>
    intro x1 x2 σ
    rw [f_X5_text_34]
    refine sw_iload_n (pc' := 35) dX5_text_34 rfl rfl ?_
    refine sw_bipush (pc' := 37) dX5_text_35 rfl rfl ?_
    refine sw_icmp_ge (tgt := 53) (pc' := 40) dX5_text_37 (by decide) rfl (fun _ => ?_) (fun _ => ?_)
    · refine sw_aload_n (pc' := 41) dX5_text_40 rfl rfl ?_
      refine sw_getr (pc' := 44) dX5_text_41 fl_X5_13 (tbk_51) rfl rfl ?_
      refine sw_iload_n (pc' := 45) dX5_text_44 rfl rfl ?_
      refine sw_iconst (pc' := 46) dX5_text_45 rfl ?_
      refine sw_iast (pc' := 47) dX5_text_46 (tbk_53) rfl (fun s46 => ?_)
      refine sw_iinc (pc' := 50) (x := x2) (L' := [some (.ref (ad G 51)), some (vi x1), some (vi (x2 + 1))]) dX5_text_47 rfl (by decide) rfl rfl rfl ?_
      refine sw_goto (pc' := 34) dX5_text_50 (by decide) ?_
      exact (ih) x1 (x2 + 1) s46
    · refine sw_aload_n (pc' := 54) dX5_text_53 rfl rfl ?_
      refine sw_callVV (pc' := 57) (As := []) (rest := []) dX5_text_54 cv_X5_88 (tbk_51) (m_X5_step σ) rfl rfl rfl rfl rfl (fun s54 => ?_)
      refine sw_msk [true, true, false] rfl ?_
      exact s_X5_text_57 FU x1 s54
def f_X5_text  (σ : St) : Option (Int × St) :=
  bV (pf σ 51 10 0) fun s2 => bV (pf s2 51 12 0) fun s7 => bV (pf s7 51 3 0) fun s12 => bV (pf s12 51 4 0) fun s17 => bV (pz s17 51 5 0) fun s22 => bV (pf s22 51 6 (-1)) fun s27 => f_X5_text_34 FU 0 0 s27
set_option maxRecDepth 20000 in
theorem m_X5_text   (σ : St) : MT G l yX5_text cX5_text 3 (some .int) rm_X5_text [.ref (ad G 51)] wI σ (f_X5_text σ) := by
  refine mt_I (L := [some (.ref (ad G 51)), none, none]) rfl (Nat.le_of_ble_eq_true rfl) rfl ?_
  show SW G l RX5 cX5_text 3 rm_X5_text wI 0 [some (.ref (ad G 51)), none, none] [] σ (f_X5_text σ)
  unfold f_X5_text
  refine sw_aload_n (pc' := 1) dX5_text_0 rfl rfl ?_
  refine sw_iconst (pc' := 2) dX5_text_1 rfl ?_
  refine sw_putI (pc' := 5) dX5_text_2 fp_X5_54 (tbk_51) rfl rfl (fun s2 => ?_)
  refine sw_aload_n (pc' := 6) dX5_text_5 rfl rfl ?_
  refine sw_iconst (pc' := 7) dX5_text_6 rfl ?_
  refine sw_putI (pc' := 10) dX5_text_7 fp_X5_66 (tbk_51) rfl rfl (fun s7 => ?_)
  refine sw_aload_n (pc' := 11) dX5_text_10 rfl rfl ?_
  refine sw_iconst (pc' := 12) dX5_text_11 rfl ?_
  refine sw_putI (pc' := 15) dX5_text_12 fp_X5_103 (tbk_51) rfl rfl (fun s12 => ?_)
  refine sw_aload_n (pc' := 16) dX5_text_15 rfl rfl ?_
  refine sw_iconst (pc' := 17) dX5_text_16 rfl ?_
  refine sw_putI (pc' := 20) dX5_text_17 fp_X5_93 (tbk_51) rfl rfl (fun s17 => ?_)
  refine sw_aload_n (pc' := 21) dX5_text_20 rfl rfl ?_
  refine sw_iconst (pc' := 22) dX5_text_21 rfl ?_
  refine sw_putZ (pc' := 25) dX5_text_22 fp_X5_118 (tbk_51) rfl rfl (fun s22 => ?_)
  refine sw_aload_n (pc' := 26) dX5_text_25 rfl rfl ?_
  refine sw_iconst (pc' := 27) dX5_text_26 rfl ?_
  refine sw_putI (pc' := 30) dX5_text_27 fp_X5_100 (tbk_51) rfl rfl (fun s27 => ?_)
  refine sw_iconst (pc' := 31) dX5_text_30 rfl ?_
  refine sw_istore_n (pc' := 32) (x := 0) (L' := [some (.ref (ad G 51)), some (vi 0), none]) dX5_text_31 rfl (by decide) rfl rfl ?_
  refine sw_iconst (pc' := 33) dX5_text_32 rfl ?_
  refine sw_istore_n (pc' := 34) (x := 0) (L' := [some (.ref (ad G 51)), some (vi 0), some (vi 0)]) dX5_text_33 rfl (by decide) rfl rfl ?_
  exact s_X5_text_34 FU 0 0 s27
def rm_X5_fault : Room := { frames := 0, cells := 0, slots := 0, locals := 0 }
def f_X5_fault  (σ : St) : Option (Int × St) :=
  some ((σ 51 9), σ)
set_option maxRecDepth 20000 in
theorem m_X5_fault   (σ : St) : MT G l yX5_fault cX5_fault 1 (some .int) rm_X5_fault [.ref (ad G 51)] wI σ (f_X5_fault σ) := by
  refine mt_I (L := [some (.ref (ad G 51))]) rfl (Nat.le_of_ble_eq_true rfl) rfl ?_
  show SW G l RX5 cX5_fault 1 rm_X5_fault wI 0 [some (.ref (ad G 51))] [] σ (f_X5_fault σ)
  unfold f_X5_fault
  refine sw_aload_n (pc' := 1) dX5_fault_0 rfl rfl ?_
  refine sw_getn (pc' := 4) dX5_fault_1 fl_X5_128 (tbk_51) rfl rfl ?_
  exact sw_iret dX5_fault_4
def rm_X5_isRider : Room := { frames := 1, cells := 0, slots := 0, locals := 25 }
def f_X5_isRider (x1 : Int) (σ : St) : Option (Bool × St) :=
  bI (f_X5_in (wr x1) 0 (wr ((σ 51 1) - 1)) σ) fun v10 s10 => some (v10, s10)
set_option maxRecDepth 20000 in
theorem m_X5_isRider (x1 : Int)  (σ : St) : MT G l yX5_isRider cX5_isRider 2 (some .boolean) rm_X5_isRider [.ref (ad G 51), vi x1] wB σ (f_X5_isRider x1 σ) := by
  refine mt_B (L := [some (.ref (ad G 51)), some (vi x1)]) rfl (Nat.le_of_ble_eq_true rfl) rfl ?_
  show SW G l RX5 cX5_isRider 2 rm_X5_isRider wB 0 [some (.ref (ad G 51)), some (vi x1)] [] σ (f_X5_isRider x1 σ)
  unfold f_X5_isRider
  refine sw_iload_n (pc' := 1) dX5_isRider_0 rfl rfl ?_
  refine sw_i2l (pc' := 2) dX5_isRider_1 rfl ?_
  refine sw_lconst (x := 0) (pc' := 3) dX5_isRider_2 rfl rfl ?_
  refine sw_aload_n (pc' := 4) dX5_isRider_3 rfl rfl ?_
  refine sw_getn (pc' := 7) dX5_isRider_4 fl_X5_131 (tbk_51) rfl rfl ?_
  refine sw_iconst (pc' := 8) dX5_isRider_7 rfl ?_
  refine sw_isub (pc' := 9) dX5_isRider_8 rfl ?_
  refine sw_i2l (pc' := 10) dX5_isRider_9 rfl ?_
  refine sw_callSB (pc' := 13) (As := [vl (wr x1), vl 0, vl (wr ((σ 51 1) - 1))]) (rest := []) dX5_isRider_10 cs_X5_46 (m_X5_in (wr x1) 0 (wr ((σ 51 1) - 1)) σ) rfl rfl rfl rfl rfl (fun v10 s10 => ?_)
  exact sw_bret dX5_isRider_13
end GEN
