section GEN
variable {G : Gh} {l : Launch}
def rm_X5_alter : Room := { frames := 2, cells := 0, slots := 0, locals := 46 }
def f_X5_alter_76   (x1 x2 x3 t0 t1 : Int) (σ : St) : Option (Int × St) :=
  bI (f_X5_puts t1 ((5 * x2) + x1) x3 0 σ) fun v83 s83 => some (v83, s83)
set_option maxRecDepth 20000 in
theorem s_X5_alter_76     (x1 x2 x3 t0 t1 : Int) (σ : St) : SW G l RX5 cX5_alter 5 rm_X5_alter wI 76 [none, some (vi x1), some (vi x2), some (vi x3), none] [vi t1, .ref (ad G 51)] σ (f_X5_alter_76 x1 x2 x3 t0 t1 σ) := by
  unfold f_X5_alter_76
  refine sw_iconst (pc' := 77) dX5_alter_76 rfl ?_
  refine sw_iload_n (pc' := 78) dX5_alter_77 rfl rfl ?_
  refine sw_imul (pc' := 79) dX5_alter_78 rfl ?_
  refine sw_iload_n (pc' := 80) dX5_alter_79 rfl rfl ?_
  refine sw_iadd (pc' := 81) dX5_alter_80 rfl ?_
  refine sw_iload_n (pc' := 82) dX5_alter_81 rfl rfl ?_
  refine sw_iconst (pc' := 83) dX5_alter_82 rfl ?_
  refine sw_callVI (pc' := 86) (As := [vi t1, vi ((5 * x2) + x1), vi x3, vi 0]) (rest := []) dX5_alter_83 cv_X5_202 (tbk_51) (m_X5_puts t1 ((5 * x2) + x1) x3 0 σ) rfl rfl rfl rfl rfl (fun v83 s83 => ?_)
  exact sw_iret dX5_alter_86
def f_X5_alter_75   (x1 x2 x3 t0 : Int) (σ : St) : Option (Int × St) :=
  f_X5_alter_76 x1 x2 x3 51 0 σ
set_option maxRecDepth 20000 in
theorem s_X5_alter_75     (x1 x2 x3 t0 : Int) (σ : St) : SW G l RX5 cX5_alter 5 rm_X5_alter wI 75 [none, some (vi x1), some (vi x2), some (vi x3), none] [.ref (ad G 51)] σ (f_X5_alter_75 x1 x2 x3 t0 σ) := by
  unfold f_X5_alter_75
  refine sw_iconst (pc' := 76) dX5_alter_75 rfl ?_
  exact s_X5_alter_76 x1 x2 x3 51 0 σ
def f_X5_alter_55   (x1 x2 x3 t0 : Int) (σ : St) : Option (Int × St) :=
  bI (f_X5_isRider x1 σ) fun v60 s60 => if v60 then
    if wr t0 = 0 then
      f_X5_alter_75 x1 x2 x3 51 s60
    else
      f_X5_alter_76 x1 x2 x3 51 1 s60
  else
    f_X5_alter_75 x1 x2 x3 51 s60
set_option maxRecDepth 20000 in
theorem s_X5_alter_55     (x1 x2 x3 t0 : Int) (σ : St) : SW G l RX5 cX5_alter 5 rm_X5_alter wI 55 [some (.ref (ad G 51)), some (vi x1), some (vi x2), some (vi x3), none] [vi t0] σ (f_X5_alter_55 x1 x2 x3 t0 σ) := by
  unfold f_X5_alter_55
  refine sw_istore (pc' := 57) (x := t0) (L' := [some (.ref (ad G 51)), some (vi x1), some (vi x2), some (vi x3), some (vi t0)]) dX5_alter_55 rfl (by decide) rfl rfl ?_
  refine sw_aload_n (pc' := 58) dX5_alter_57 rfl rfl ?_
  refine sw_aload_n (pc' := 59) dX5_alter_58 rfl rfl ?_
  refine sw_iload_n (pc' := 60) dX5_alter_59 rfl rfl ?_
  refine sw_callVB (pc' := 63) (As := [vi x1]) (rest := [.ref (ad G 51)]) dX5_alter_60 cv_X5_182 (tbk_51) (m_X5_isRider x1 σ) rfl rfl rfl rfl rfl (fun v60 s60 => ?_)
  refine sw_bif_eq (tgt := 75) (pc' := 66) dX5_alter_63 (by decide) rfl (fun _ => ?_) (fun _ => ?_)
  · refine sw_iload (pc' := 68) dX5_alter_66 rfl rfl ?_
    refine sw_if_eq (tgt := 75) (pc' := 71) dX5_alter_68 (by decide) rfl (fun _ => ?_) (fun _ => ?_)
    · refine sw_msk [false, true, true, true, false] rfl ?_
      exact s_X5_alter_75 x1 x2 x3 51 s60
    · refine sw_iconst (pc' := 72) dX5_alter_71 rfl ?_
      refine sw_goto (pc' := 76) dX5_alter_72 (by decide) ?_
      refine sw_msk [false, true, true, true, false] rfl ?_
      exact s_X5_alter_76 x1 x2 x3 51 1 s60
  · refine sw_msk [false, true, true, true, false] rfl ?_
    exact s_X5_alter_75 x1 x2 x3 51 s60
def f_X5_alter_54   (x1 x2 x3 : Int) (σ : St) : Option (Int × St) :=
  f_X5_alter_55 x1 x2 x3 0 σ
set_option maxRecDepth 20000 in
theorem s_X5_alter_54     (x1 x2 x3 : Int) (σ : St) : SW G l RX5 cX5_alter 5 rm_X5_alter wI 54 [some (.ref (ad G 51)), some (vi x1), some (vi x2), some (vi x3), none] [] σ (f_X5_alter_54 x1 x2 x3 σ) := by
  unfold f_X5_alter_54
  refine sw_iconst (pc' := 55) dX5_alter_54 rfl ?_
  exact s_X5_alter_55 x1 x2 x3 0 σ
def f_X5_alter (x1 : Int) (x2 : Int) (x3 : Int) (σ : St) : Option (Int × St) :=
  if wr x2 = 0 then
    bI (f_X5_in (wr x3) 0 3 σ) fun v10 s10 => f_X5_alter_55 x1 x2 x3 (bi v10) s10
  else
    if wr x2 = wr 1 then
      bI (f_X5_in (wr x3) 0 15 σ) fun v27 s27 => f_X5_alter_55 x1 x2 x3 (bi v27) s27
    else
      if wr x2 = wr 2 then
        bI (f_X5_in (wr x3) 1 99 σ) fun v44 s44 => if v44 then
          f_X5_alter_55 x1 x2 x3 1 s44
        else
          f_X5_alter_54 x1 x2 x3 s44
      else
        f_X5_alter_54 x1 x2 x3 σ
set_option maxRecDepth 20000 in
theorem m_X5_alter (x1 : Int) (x2 : Int) (x3 : Int)  (σ : St) : MT G l yX5_alter cX5_alter 5 (some .int) rm_X5_alter [.ref (ad G 51), vi x1, vi x2, vi x3] wI σ (f_X5_alter x1 x2 x3 σ) := by
  refine mt_I (L := [some (.ref (ad G 51)), some (vi x1), some (vi x2), some (vi x3), none]) rfl (Nat.le_of_ble_eq_true rfl) rfl ?_
  show SW G l RX5 cX5_alter 5 rm_X5_alter wI 0 [some (.ref (ad G 51)), some (vi x1), some (vi x2), some (vi x3), none] [] σ (f_X5_alter x1 x2 x3 σ)
  unfold f_X5_alter
  refine sw_iload_n (pc' := 1) dX5_alter_0 rfl rfl ?_
  refine sw_if_ne (tgt := 16) (pc' := 4) dX5_alter_1 (by decide) rfl (fun _ => ?_) (fun _ => ?_)
  · refine sw_iload_n (pc' := 5) dX5_alter_4 rfl rfl ?_
    refine sw_i2l (pc' := 6) dX5_alter_5 rfl ?_
    refine sw_lconst (x := 0) (pc' := 7) dX5_alter_6 rfl rfl ?_
    refine sw_ldc2 (n := 3) (pc' := 10) dX5_alter_7 kl_X5_91 rfl ?_
    refine sw_callSB (pc' := 13) (As := [vl (wr x3), vl 0, vl 3]) (rest := []) dX5_alter_10 cs_X5_46 (m_X5_in (wr x3) 0 3 σ) rfl rfl rfl rfl rfl (fun v10 s10 => ?_)
    refine sw_goto (pc' := 55) dX5_alter_13 (by decide) ?_
    exact s_X5_alter_55 x1 x2 x3 (bi v10) s10
  · refine sw_iload_n (pc' := 17) dX5_alter_16 rfl rfl ?_
    refine sw_iconst (pc' := 18) dX5_alter_17 rfl ?_
    refine sw_icmp_ne (tgt := 33) (pc' := 21) dX5_alter_18 (by decide) rfl (fun _ => ?_) (fun _ => ?_)
    · refine sw_iload_n (pc' := 22) dX5_alter_21 rfl rfl ?_
      refine sw_i2l (pc' := 23) dX5_alter_22 rfl ?_
      refine sw_lconst (x := 0) (pc' := 24) dX5_alter_23 rfl rfl ?_
      refine sw_ldc2 (n := 15) (pc' := 27) dX5_alter_24 kl_X5_200 rfl ?_
      refine sw_callSB (pc' := 30) (As := [vl (wr x3), vl 0, vl 15]) (rest := []) dX5_alter_27 cs_X5_46 (m_X5_in (wr x3) 0 15 σ) rfl rfl rfl rfl rfl (fun v27 s27 => ?_)
      refine sw_goto (pc' := 55) dX5_alter_30 (by decide) ?_
      exact s_X5_alter_55 x1 x2 x3 (bi v27) s27
    · refine sw_iload_n (pc' := 34) dX5_alter_33 rfl rfl ?_
      refine sw_iconst (pc' := 35) dX5_alter_34 rfl ?_
      refine sw_icmp_ne (tgt := 54) (pc' := 38) dX5_alter_35 (by decide) rfl (fun _ => ?_) (fun _ => ?_)
      · refine sw_iload_n (pc' := 39) dX5_alter_38 rfl rfl ?_
        refine sw_i2l (pc' := 40) dX5_alter_39 rfl ?_
        refine sw_lconst (x := 1) (pc' := 41) dX5_alter_40 rfl rfl ?_
        refine sw_ldc2 (n := 99) (pc' := 44) dX5_alter_41 kl_X5_137 rfl ?_
        refine sw_callSB (pc' := 47) (As := [vl (wr x3), vl 1, vl 99]) (rest := []) dX5_alter_44 cs_X5_46 (m_X5_in (wr x3) 1 99 σ) rfl rfl rfl rfl rfl (fun v44 s44 => ?_)
        refine sw_bif_eq (tgt := 54) (pc' := 50) dX5_alter_47 (by decide) rfl (fun _ => ?_) (fun _ => ?_)
        · refine sw_iconst (pc' := 51) dX5_alter_50 rfl ?_
          refine sw_goto (pc' := 55) dX5_alter_51 (by decide) ?_
          exact s_X5_alter_55 x1 x2 x3 1 s44
        · exact s_X5_alter_54 x1 x2 x3 s44
      · exact s_X5_alter_54 x1 x2 x3 σ
def rm_X5_rely : Room := { frames := 2, cells := 0, slots := 0, locals := 45 }
def f_X5_rely_25   (x1 x2 t0 t1 : Int) (σ : St) : Option (Int × St) :=
  bI (f_X5_puts t1 (16 + x1) x2 1 σ) fun v31 s31 => some (v31, s31)
set_option maxRecDepth 20000 in
theorem s_X5_rely_25     (x1 x2 t0 t1 : Int) (σ : St) : SW G l RX5 cX5_rely 3 rm_X5_rely wI 25 [none, some (vi x1), some (vi x2)] [vi t1, .ref (ad G 51)] σ (f_X5_rely_25 x1 x2 t0 t1 σ) := by
  unfold f_X5_rely_25
  refine sw_bipush (pc' := 27) dX5_rely_25 rfl rfl ?_
  refine sw_iload_n (pc' := 28) dX5_rely_27 rfl rfl ?_
  refine sw_iadd (pc' := 29) dX5_rely_28 rfl ?_
  refine sw_iload_n (pc' := 30) dX5_rely_29 rfl rfl ?_
  refine sw_iconst (pc' := 31) dX5_rely_30 rfl ?_
  refine sw_callVI (pc' := 34) (As := [vi t1, vi (16 + x1), vi x2, vi 1]) (rest := []) dX5_rely_31 cv_X5_202 (tbk_51) (m_X5_puts t1 (16 + x1) x2 1 σ) rfl rfl rfl rfl rfl (fun v31 s31 => ?_)
  exact sw_iret dX5_rely_34
def f_X5_rely_24   (x1 x2 t0 : Int) (σ : St) : Option (Int × St) :=
  f_X5_rely_25 x1 x2 51 0 σ
set_option maxRecDepth 20000 in
theorem s_X5_rely_24     (x1 x2 t0 : Int) (σ : St) : SW G l RX5 cX5_rely 3 rm_X5_rely wI 24 [none, some (vi x1), some (vi x2)] [.ref (ad G 51)] σ (f_X5_rely_24 x1 x2 t0 σ) := by
  unfold f_X5_rely_24
  refine sw_iconst (pc' := 25) dX5_rely_24 rfl ?_
  exact s_X5_rely_25 x1 x2 51 0 σ
def f_X5_rely (x1 : Int) (x2 : Int) (σ : St) : Option (Int × St) :=
  bI (f_X5_isReporter x1 σ) fun v2 s2 => if v2 then
    bI (f_X5_in (wr x2) 0 9 s2) fun v14 s14 => if v14 then
      f_X5_rely_25 x1 x2 51 1 s14
    else
      f_X5_rely_24 x1 x2 51 s14
  else
    f_X5_rely_24 x1 x2 51 s2
set_option maxRecDepth 20000 in
theorem m_X5_rely (x1 : Int) (x2 : Int)  (σ : St) : MT G l yX5_rely cX5_rely 3 (some .int) rm_X5_rely [.ref (ad G 51), vi x1, vi x2] wI σ (f_X5_rely x1 x2 σ) := by
  refine mt_I (L := [some (.ref (ad G 51)), some (vi x1), some (vi x2)]) rfl (Nat.le_of_ble_eq_true rfl) rfl ?_
  show SW G l RX5 cX5_rely 3 rm_X5_rely wI 0 [some (.ref (ad G 51)), some (vi x1), some (vi x2)] [] σ (f_X5_rely x1 x2 σ)
  unfold f_X5_rely
  refine sw_aload_n (pc' := 1) dX5_rely_0 rfl rfl ?_
  refine sw_iload_n (pc' := 2) dX5_rely_1 rfl rfl ?_
  refine sw_callSB (pc' := 5) (As := [vi x1]) (rest := [.ref (ad G 51)]) dX5_rely_2 cs_X5_191 (m_X5_isReporter x1 σ) rfl rfl rfl rfl rfl (fun v2 s2 => ?_)
  refine sw_bif_eq (tgt := 24) (pc' := 8) dX5_rely_5 (by decide) rfl (fun _ => ?_) (fun _ => ?_)
  · refine sw_iload_n (pc' := 9) dX5_rely_8 rfl rfl ?_
    refine sw_i2l (pc' := 10) dX5_rely_9 rfl ?_
    refine sw_lconst (x := 0) (pc' := 11) dX5_rely_10 rfl rfl ?_
    refine sw_ldc2 (n := 9) (pc' := 14) dX5_rely_11 kl_X5_206 rfl ?_
    refine sw_callSB (pc' := 17) (As := [vl (wr x2), vl 0, vl 9]) (rest := [.ref (ad G 51)]) dX5_rely_14 cs_X5_46 (m_X5_in (wr x2) 0 9 s2) rfl rfl rfl rfl rfl (fun v14 s14 => ?_)
    refine sw_bif_eq (tgt := 24) (pc' := 20) dX5_rely_17 (by decide) rfl (fun _ => ?_) (fun _ => ?_)
    · refine sw_iconst (pc' := 21) dX5_rely_20 rfl ?_
      refine sw_goto (pc' := 25) dX5_rely_21 (by decide) ?_
      refine sw_msk [false, true, true] rfl ?_
      exact s_X5_rely_25 x1 x2 51 1 s14
    · refine sw_msk [false, true, true] rfl ?_
      exact s_X5_rely_24 x1 x2 51 s14
  · refine sw_msk [false, true, true] rfl ?_
    exact s_X5_rely_24 x1 x2 51 s2
def rm_X5_cast : Room := { frames := 1, cells := 0, slots := 0, locals := 25 }
def f_X5_cast (x1 : Int) (σ : St) : Option (Int × St) :=
  bI (f_X5_in (wr x1) 1 99 σ) fun v7 s7 => bI (f_X5_puts (bi v7) 15 x1 25 s7) fun v15 s15 => some (v15, s15)
set_option maxRecDepth 20000 in
theorem m_X5_cast (x1 : Int)  (σ : St) : MT G l yX5_cast cX5_cast 2 (some .int) rm_X5_cast [.ref (ad G 51), vi x1] wI σ (f_X5_cast x1 σ) := by
  refine mt_I (L := [some (.ref (ad G 51)), some (vi x1)]) rfl (Nat.le_of_ble_eq_true rfl) rfl ?_
  show SW G l RX5 cX5_cast 2 rm_X5_cast wI 0 [some (.ref (ad G 51)), some (vi x1)] [] σ (f_X5_cast x1 σ)
  unfold f_X5_cast
  refine sw_aload_n (pc' := 1) dX5_cast_0 rfl rfl ?_
  refine sw_iload_n (pc' := 2) dX5_cast_1 rfl rfl ?_
  refine sw_i2l (pc' := 3) dX5_cast_2 rfl ?_
  refine sw_lconst (x := 1) (pc' := 4) dX5_cast_3 rfl rfl ?_
  refine sw_ldc2 (n := 99) (pc' := 7) dX5_cast_4 kl_X5_137 rfl ?_
  refine sw_callSB (pc' := 10) (As := [vl (wr x1), vl 1, vl 99]) (rest := [.ref (ad G 51)]) dX5_cast_7 cs_X5_46 (m_X5_in (wr x1) 1 99 σ) rfl rfl rfl rfl rfl (fun v7 s7 => ?_)
  refine sw_bipush (pc' := 12) dX5_cast_10 rfl rfl ?_
  refine sw_iload_n (pc' := 13) dX5_cast_12 rfl rfl ?_
  refine sw_bipush (pc' := 15) dX5_cast_13 rfl rfl ?_
  refine sw_callVI (pc' := 18) (As := [vi (bi v7), vi 15, vi x1, vi 25]) (rest := []) dX5_cast_15 cv_X5_202 (tbk_51) (m_X5_puts (bi v7) 15 x1 25 s7) rfl rfl rfl rfl rfl (fun v15 s15 => ?_)
  exact sw_iret dX5_cast_18
def rm_X5_sends : Room := { frames := 2, cells := 0, slots := 0, locals := 46 }
def f_X5_sends (x1 : Int) (x2 : Int) (x3 : Int) (x4 : Int) (σ : St) : Option (Int × St) :=
  bI (f_X5_isDay x1 σ) fun v1 s1 => if v1 then
    bI (f_X5_isReporter x2 s1) fun v8 s8 => if v8 then
      bI (f_X5_isRider x3 s8) fun v16 s16 => if v16 then
        bI (f_X5_isEnd x4 s16) fun v24 s24 => if v24 then
          bV (ld s24 52 330 52) fun v38 => if wr v38 = wr 8 then
            some ((-3), s24)
          else
            bV (sv s24 52 330 (20 + v38) x1) fun s61 => bV (sv s61 52 330 (28 + v38) x2) fun s72 => bV (sv s72 52 330 (36 + v38) x3) fun s83 => bV (sv s83 52 330 (44 + v38) x4) fun s95 => bV (ld s95 52 330 52) fun v103 => bV (sv s95 52 330 52 (v103 + 1)) fun s106 => bV (ld s106 52 330 52) fun v113 => some (v113, s106)
        else
          some ((-1), s24)
      else
        some ((-1), s16)
    else
      some ((-1), s8)
  else
    some ((-1), s1)
set_option maxRecDepth 20000 in
theorem m_X5_sends (x1 : Int) (x2 : Int) (x3 : Int) (x4 : Int)  (σ : St) : MT G l yX5_sends cX5_sends 6 (some .int) rm_X5_sends [.ref (ad G 51), vi x1, vi x2, vi x3, vi x4] wI σ (f_X5_sends x1 x2 x3 x4 σ) := by
  refine mt_I (L := [some (.ref (ad G 51)), some (vi x1), some (vi x2), some (vi x3), some (vi x4), none]) rfl (Nat.le_of_ble_eq_true rfl) rfl ?_
  show SW G l RX5 cX5_sends 6 rm_X5_sends wI 0 [some (.ref (ad G 51)), some (vi x1), some (vi x2), some (vi x3), some (vi x4), none] [] σ (f_X5_sends x1 x2 x3 x4 σ)
  unfold f_X5_sends
  refine sw_iload_n (pc' := 1) dX5_sends_0 rfl rfl ?_
  refine sw_callSB (pc' := 4) (As := [vi x1]) (rest := []) dX5_sends_1 cs_X5_197 (m_X5_isDay x1 σ) rfl rfl rfl rfl rfl (fun v1 s1 => ?_)
  refine sw_bif_eq (tgt := 30) (pc' := 7) dX5_sends_4 (by decide) rfl (fun _ => ?_) (fun _ => ?_)
  · refine sw_iload_n (pc' := 8) dX5_sends_7 rfl rfl ?_
    refine sw_callSB (pc' := 11) (As := [vi x2]) (rest := []) dX5_sends_8 cs_X5_191 (m_X5_isReporter x2 s1) rfl rfl rfl rfl rfl (fun v8 s8 => ?_)
    refine sw_bif_eq (tgt := 30) (pc' := 14) dX5_sends_11 (by decide) rfl (fun _ => ?_) (fun _ => ?_)
    · refine sw_aload_n (pc' := 15) dX5_sends_14 rfl rfl ?_
      refine sw_iload_n (pc' := 16) dX5_sends_15 rfl rfl ?_
      refine sw_callVB (pc' := 19) (As := [vi x3]) (rest := []) dX5_sends_16 cv_X5_182 (tbk_51) (m_X5_isRider x3 s8) rfl rfl rfl rfl rfl (fun v16 s16 => ?_)
      refine sw_bif_eq (tgt := 30) (pc' := 22) dX5_sends_19 (by decide) rfl (fun _ => ?_) (fun _ => ?_)
      · refine sw_iload (pc' := 24) dX5_sends_22 rfl rfl ?_
        refine sw_callSB (pc' := 27) (As := [vi x4]) (rest := []) dX5_sends_24 cs_X5_194 (m_X5_isEnd x4 s16) rfl rfl rfl rfl rfl (fun v24 s24 => ?_)
        refine sw_bif_ne (tgt := 32) (pc' := 30) dX5_sends_27 (by decide) rfl (fun _ => ?_) (fun _ => ?_)
        · refine sw_aload_n (pc' := 33) dX5_sends_32 rfl rfl ?_
          refine sw_getr (pc' := 36) dX5_sends_33 fl_X5_7 (tbk_51) rfl rfl ?_
          refine sw_bipush (pc' := 38) dX5_sends_36 rfl rfl ?_
          refine sw_iald (pc' := 39) dX5_sends_38 (tbk_52) rfl (fun v38 => ?_)
          refine sw_istore (pc' := 41) (x := v38) (L' := [some (.ref (ad G 51)), some (vi x1), some (vi x2), some (vi x3), some (vi x4), some (vi v38)]) dX5_sends_39 rfl (by decide) rfl rfl ?_
          refine sw_iload (pc' := 43) dX5_sends_41 rfl rfl ?_
          refine sw_bipush (pc' := 45) dX5_sends_43 rfl rfl ?_
          refine sw_icmp_ne (tgt := 51) (pc' := 48) dX5_sends_45 (by decide) rfl (fun _ => ?_) (fun _ => ?_)
          · refine sw_bipush (pc' := 50) dX5_sends_48 rfl rfl ?_
            exact sw_iret dX5_sends_50
          · refine sw_aload_n (pc' := 52) dX5_sends_51 rfl rfl ?_
            refine sw_getr (pc' := 55) dX5_sends_52 fl_X5_7 (tbk_51) rfl rfl ?_
            refine sw_bipush (pc' := 57) dX5_sends_55 rfl rfl ?_
            refine sw_iload (pc' := 59) dX5_sends_57 rfl rfl ?_
            refine sw_iadd (pc' := 60) dX5_sends_59 rfl ?_
            refine sw_iload_n (pc' := 61) dX5_sends_60 rfl rfl ?_
            refine sw_iast (pc' := 62) dX5_sends_61 (tbk_52) rfl (fun s61 => ?_)
            refine sw_aload_n (pc' := 63) dX5_sends_62 rfl rfl ?_
            refine sw_getr (pc' := 66) dX5_sends_63 fl_X5_7 (tbk_51) rfl rfl ?_
            refine sw_bipush (pc' := 68) dX5_sends_66 rfl rfl ?_
            refine sw_iload (pc' := 70) dX5_sends_68 rfl rfl ?_
            refine sw_iadd (pc' := 71) dX5_sends_70 rfl ?_
            refine sw_iload_n (pc' := 72) dX5_sends_71 rfl rfl ?_
            refine sw_iast (pc' := 73) dX5_sends_72 (tbk_52) rfl (fun s72 => ?_)
            refine sw_aload_n (pc' := 74) dX5_sends_73 rfl rfl ?_
            refine sw_getr (pc' := 77) dX5_sends_74 fl_X5_7 (tbk_51) rfl rfl ?_
            refine sw_bipush (pc' := 79) dX5_sends_77 rfl rfl ?_
            refine sw_iload (pc' := 81) dX5_sends_79 rfl rfl ?_
            refine sw_iadd (pc' := 82) dX5_sends_81 rfl ?_
            refine sw_iload_n (pc' := 83) dX5_sends_82 rfl rfl ?_
            refine sw_iast (pc' := 84) dX5_sends_83 (tbk_52) rfl (fun s83 => ?_)
            refine sw_aload_n (pc' := 85) dX5_sends_84 rfl rfl ?_
            refine sw_getr (pc' := 88) dX5_sends_85 fl_X5_7 (tbk_51) rfl rfl ?_
            refine sw_bipush (pc' := 90) dX5_sends_88 rfl rfl ?_
            refine sw_iload (pc' := 92) dX5_sends_90 rfl rfl ?_
            refine sw_iadd (pc' := 93) dX5_sends_92 rfl ?_
            refine sw_iload (pc' := 95) dX5_sends_93 rfl rfl ?_
            refine sw_iast (pc' := 96) dX5_sends_95 (tbk_52) rfl (fun s95 => ?_)
            refine sw_aload_n (pc' := 97) dX5_sends_96 rfl rfl ?_
            refine sw_getr (pc' := 100) dX5_sends_97 fl_X5_7 (tbk_51) rfl rfl ?_
            refine sw_bipush (pc' := 102) dX5_sends_100 rfl rfl ?_
            refine sw_dup2 (pc' := 103) dX5_sends_102 rfl rfl rfl ?_
            refine sw_iald (pc' := 104) dX5_sends_103 (tbk_52) rfl (fun v103 => ?_)
            refine sw_iconst (pc' := 105) dX5_sends_104 rfl ?_
            refine sw_iadd (pc' := 106) dX5_sends_105 rfl ?_
            refine sw_iast (pc' := 107) dX5_sends_106 (tbk_52) rfl (fun s106 => ?_)
            refine sw_aload_n (pc' := 108) dX5_sends_107 rfl rfl ?_
            refine sw_getr (pc' := 111) dX5_sends_108 fl_X5_7 (tbk_51) rfl rfl ?_
            refine sw_bipush (pc' := 113) dX5_sends_111 rfl rfl ?_
            refine sw_iald (pc' := 114) dX5_sends_113 (tbk_52) rfl (fun v113 => ?_)
            exact sw_iret dX5_sends_114
        · refine sw_iconst (pc' := 31) dX5_sends_30 rfl ?_
          exact sw_iret dX5_sends_31
      · refine sw_iconst (pc' := 31) dX5_sends_30 rfl ?_
        exact sw_iret dX5_sends_31
    · refine sw_iconst (pc' := 31) dX5_sends_30 rfl ?_
      exact sw_iret dX5_sends_31
  · refine sw_iconst (pc' := 31) dX5_sends_30 rfl ?_
    exact sw_iret dX5_sends_31
def rm_X5_send : Room := { frames := 3, cells := 0, slots := 0, locals := 71 }
def f_X5_send (x1 : Int) (x2 : Int) (x3 : Int) (x4 : Int) (σ : St) : Option (Int × St) :=
  bI (f_X5_sends x1 x2 x3 x4 σ) fun v6 s6 => some (v6, s6)
set_option maxRecDepth 20000 in
theorem m_X5_send (x1 : Int) (x2 : Int) (x3 : Int) (x4 : Int)  (σ : St) : MT G l yX5_send cX5_send 5 (some .int) rm_X5_send [.ref (ad G 51), vi x1, vi x2, vi x3, vi x4] wI σ (f_X5_send x1 x2 x3 x4 σ) := by
  refine mt_I (L := [some (.ref (ad G 51)), some (vi x1), some (vi x2), some (vi x3), some (vi x4)]) rfl (Nat.le_of_ble_eq_true rfl) rfl ?_
  show SW G l RX5 cX5_send 5 rm_X5_send wI 0 [some (.ref (ad G 51)), some (vi x1), some (vi x2), some (vi x3), some (vi x4)] [] σ (f_X5_send x1 x2 x3 x4 σ)
  unfold f_X5_send
  refine sw_aload_n (pc' := 1) dX5_send_0 rfl rfl ?_
  refine sw_iload_n (pc' := 2) dX5_send_1 rfl rfl ?_
  refine sw_iload_n (pc' := 3) dX5_send_2 rfl rfl ?_
  refine sw_iload_n (pc' := 4) dX5_send_3 rfl rfl ?_
  refine sw_iload (pc' := 6) dX5_send_4 rfl rfl ?_
  refine sw_callVI (pc' := 9) (As := [vi x1, vi x2, vi x3, vi x4]) (rest := []) dX5_send_6 cv_X5_208 (tbk_51) (m_X5_sends x1 x2 x3 x4 σ) rfl rfl rfl rfl rfl (fun v6 s6 => ?_)
  exact sw_iret dX5_send_9
def rm_X5_burn : Room := { frames := 1, cells := 0, slots := 0, locals := 25 }
def f_X5_burn (x1 : Int) (σ : St) : Option (Int × St) :=
  bV (ld σ 52 330 52) fun v10 => bI (f_X5_in (wr x1) 0 (wr v10) σ) fun v12 s12 => bI (f_X5_puts (bi v12) 52 x1 0 s12) fun v19 s19 => some (v19, s19)
set_option maxRecDepth 20000 in
theorem m_X5_burn (x1 : Int)  (σ : St) : MT G l yX5_burn cX5_burn 2 (some .int) rm_X5_burn [.ref (ad G 51), vi x1] wI σ (f_X5_burn x1 σ) := by
  refine mt_I (L := [some (.ref (ad G 51)), some (vi x1)]) rfl (Nat.le_of_ble_eq_true rfl) rfl ?_
  show SW G l RX5 cX5_burn 2 rm_X5_burn wI 0 [some (.ref (ad G 51)), some (vi x1)] [] σ (f_X5_burn x1 σ)
  unfold f_X5_burn
  refine sw_aload_n (pc' := 1) dX5_burn_0 rfl rfl ?_
  refine sw_iload_n (pc' := 2) dX5_burn_1 rfl rfl ?_
  refine sw_i2l (pc' := 3) dX5_burn_2 rfl ?_
  refine sw_lconst (x := 0) (pc' := 4) dX5_burn_3 rfl rfl ?_
  refine sw_aload_n (pc' := 5) dX5_burn_4 rfl rfl ?_
  refine sw_getr (pc' := 8) dX5_burn_5 fl_X5_7 (tbk_51) rfl rfl ?_
  refine sw_bipush (pc' := 10) dX5_burn_8 rfl rfl ?_
  refine sw_iald (pc' := 11) dX5_burn_10 (tbk_52) rfl (fun v10 => ?_)
  refine sw_i2l (pc' := 12) dX5_burn_11 rfl ?_
  refine sw_callSB (pc' := 15) (As := [vl (wr x1), vl 0, vl (wr v10)]) (rest := [.ref (ad G 51)]) dX5_burn_12 cs_X5_46 (m_X5_in (wr x1) 0 (wr v10) σ) rfl rfl rfl rfl rfl (fun v12 s12 => ?_)
  refine sw_bipush (pc' := 17) dX5_burn_15 rfl rfl ?_
  refine sw_iload_n (pc' := 18) dX5_burn_17 rfl rfl ?_
  refine sw_iconst (pc' := 19) dX5_burn_18 rfl ?_
  refine sw_callVI (pc' := 22) (As := [vi (bi v12), vi 52, vi x1, vi 0]) (rest := []) dX5_burn_19 cv_X5_202 (tbk_51) (m_X5_puts (bi v12) 52 x1 0 s12) rfl rfl rfl rfl rfl (fun v19 s19 => ?_)
  exact sw_iret dX5_burn_22
def rm_X5_days : Room := { frames := 5, cells := 0, slots := 0, locals := 115 }
def f_X5_days_39   : Nat → Int → Int → St → Option (Int × St)
  | 0, _, _, _ => none
  | n + 1, x1, x2, σ =>
    if wr x2 < wr x1 then
      bV (f_X5_dayOn 0 σ) fun s46 => (f_X5_days_39 n) x1 (x2 + 1) s46
    else
      some ((σ 51 19), σ)
set_option maxRecDepth 20000 in
theorem s_X5_days_39     : ∀ (n : Nat) (x1 x2 : Int) (σ : St), SW G l RX5 cX5_days 3 rm_X5_days wI 39 [some (.ref (ad G 51)), some (vi x1), some (vi x2)] [] σ (f_X5_days_39 n x1 x2 σ) := by
  intro n
  induction n with
  | zero => intro x1 x2 σ; exact sw_none
  | succ n ih =>
    intro x1 x2 σ
    rw [f_X5_days_39]
    refine sw_iload_n (pc' := 40) dX5_days_39 rfl rfl ?_
    refine sw_iload_n (pc' := 41) dX5_days_40 rfl rfl ?_
    refine sw_icmp_ge (tgt := 55) (pc' := 44) dX5_days_41 (by decide) rfl (fun _ => ?_) (fun _ => ?_)
    · refine sw_aload_n (pc' := 45) dX5_days_44 rfl rfl ?_
      refine sw_iconst (pc' := 46) dX5_days_45 rfl ?_
      refine sw_callVV (pc' := 49) (As := [vi 0]) (rest := []) dX5_days_46 cv_X5_213 (tbk_51) (m_X5_dayOn 0 σ) rfl rfl rfl rfl rfl (fun s46 => ?_)
      refine sw_iinc (pc' := 52) (x := x2) (L' := [some (.ref (ad G 51)), some (vi x1), some (vi (x2 + 1))]) dX5_days_49 rfl (by decide) rfl rfl rfl ?_
      refine sw_goto (pc' := 39) dX5_days_52 (by decide) ?_
      exact (ih) x1 (x2 + 1) s46
    · refine sw_aload_n (pc' := 56) dX5_days_55 rfl rfl ?_
      refine sw_getn (pc' := 59) dX5_days_56 fl_X5_173 (tbk_51) rfl rfl ?_
      exact sw_iret dX5_days_59
def f_X5_days (x1 : Int) (σ : St) : Option (Int × St) :=
  bI (f_X5_in (wr x1) 0 30 σ) fun v6 s6 => if v6 then
    bV (ld s6 52 330 53) fun v20 => if wr 999 < wr (v20 + x1) then
      some ((-3), s6)
    else
      bV (pf s6 51 19 0) fun s34 => f_X5_days_39 FU x1 0 s34
  else
    some ((-1), s6)
set_option maxRecDepth 20000 in
theorem m_X5_days (x1 : Int)  (σ : St) : MT G l yX5_days cX5_days 3 (some .int) rm_X5_days [.ref (ad G 51), vi x1] wI σ (f_X5_days x1 σ) := by
  refine mt_I (L := [some (.ref (ad G 51)), some (vi x1), none]) rfl (Nat.le_of_ble_eq_true rfl) rfl ?_
  show SW G l RX5 cX5_days 3 rm_X5_days wI 0 [some (.ref (ad G 51)), some (vi x1), none] [] σ (f_X5_days x1 σ)
  unfold f_X5_days
  refine sw_iload_n (pc' := 1) dX5_days_0 rfl rfl ?_
  refine sw_i2l (pc' := 2) dX5_days_1 rfl ?_
  refine sw_lconst (x := 0) (pc' := 3) dX5_days_2 rfl rfl ?_
  refine sw_ldc2 (n := 30) (pc' := 6) dX5_days_3 kl_X5_211 rfl ?_
  refine sw_callSB (pc' := 9) (As := [vl (wr x1), vl 0, vl 30]) (rest := []) dX5_days_6 cs_X5_46 (m_X5_in (wr x1) 0 30 σ) rfl rfl rfl rfl rfl (fun v6 s6 => ?_)
  refine sw_bif_ne (tgt := 14) (pc' := 12) dX5_days_9 (by decide) rfl (fun _ => ?_) (fun _ => ?_)
  · refine sw_aload_n (pc' := 15) dX5_days_14 rfl rfl ?_
    refine sw_getr (pc' := 18) dX5_days_15 fl_X5_7 (tbk_51) rfl rfl ?_
    refine sw_bipush (pc' := 20) dX5_days_18 rfl rfl ?_
    refine sw_iald (pc' := 21) dX5_days_20 (tbk_52) rfl (fun v20 => ?_)
    refine sw_iload_n (pc' := 22) dX5_days_21 rfl rfl ?_
    refine sw_iadd (pc' := 23) dX5_days_22 rfl ?_
    refine sw_sipush (pc' := 26) dX5_days_23 rfl rfl ?_
    refine sw_icmp_le (tgt := 32) (pc' := 29) dX5_days_26 (by decide) rfl (fun _ => ?_) (fun _ => ?_)
    · refine sw_bipush (pc' := 31) dX5_days_29 rfl rfl ?_
      exact sw_iret dX5_days_31
    · refine sw_aload_n (pc' := 33) dX5_days_32 rfl rfl ?_
      refine sw_iconst (pc' := 34) dX5_days_33 rfl ?_
      refine sw_putI (pc' := 37) dX5_days_34 fp_X5_173 (tbk_51) rfl rfl (fun s34 => ?_)
      refine sw_iconst (pc' := 38) dX5_days_37 rfl ?_
      refine sw_istore_n (pc' := 39) (x := 0) (L' := [some (.ref (ad G 51)), some (vi x1), some (vi 0)]) dX5_days_38 rfl (by decide) rfl rfl ?_
      exact s_X5_days_39 FU x1 0 s34
  · refine sw_iconst (pc' := 13) dX5_days_12 rfl ?_
    exact sw_iret dX5_days_13
def rm_X5_copies : Room := { frames := 0, cells := 0, slots := 0, locals := 0 }
def f_X5_copies_2   : Nat → Int → Int → Int → St → Option (St)
  | 0, _, _, _, _ => none
  | n + 1, x1, x2, x3, σ =>
    if wr x3 < wr 55 then
      bV (ld σ 52 330 (x1 + x3)) fun v22 => bV (sv σ 52 330 (x2 + x3) v22) fun s23 => (f_X5_copies_2 n) x1 x2 (x3 + 1) s23
    else
      some σ
set_option maxRecDepth 20000 in
theorem s_X5_copies_2     : ∀ (n : Nat) (x1 x2 x3 : Int) (σ : St), SW G l RX5 cX5_copies 4 rm_X5_copies wV 2 [some (.ref (ad G 51)), some (vi x1), some (vi x2), some (vi x3)] [] σ (f_X5_copies_2 n x1 x2 x3 σ) := by
  intro n
  induction n with
  | zero => intro x1 x2 x3 σ; exact sw_none
  | succ n ih =>
    intro x1 x2 x3 σ
    rw [f_X5_copies_2]
    refine sw_iload_n (pc' := 3) dX5_copies_2 rfl rfl ?_
    refine sw_bipush (pc' := 5) dX5_copies_3 rfl rfl ?_
    refine sw_icmp_ge (tgt := 30) (pc' := 8) dX5_copies_5 (by decide) rfl (fun _ => ?_) (fun _ => ?_)
    · refine sw_aload_n (pc' := 9) dX5_copies_8 rfl rfl ?_
      refine sw_getr (pc' := 12) dX5_copies_9 fl_X5_7 (tbk_51) rfl rfl ?_
      refine sw_iload_n (pc' := 13) dX5_copies_12 rfl rfl ?_
      refine sw_iload_n (pc' := 14) dX5_copies_13 rfl rfl ?_
      refine sw_iadd (pc' := 15) dX5_copies_14 rfl ?_
      refine sw_aload_n (pc' := 16) dX5_copies_15 rfl rfl ?_
      refine sw_getr (pc' := 19) dX5_copies_16 fl_X5_7 (tbk_51) rfl rfl ?_
      refine sw_iload_n (pc' := 20) dX5_copies_19 rfl rfl ?_
      refine sw_iload_n (pc' := 21) dX5_copies_20 rfl rfl ?_
      refine sw_iadd (pc' := 22) dX5_copies_21 rfl ?_
      refine sw_iald (pc' := 23) dX5_copies_22 (tbk_52) rfl (fun v22 => ?_)
      refine sw_iast (pc' := 24) dX5_copies_23 (tbk_52) rfl (fun s23 => ?_)
      refine sw_iinc (pc' := 27) (x := x3) (L' := [some (.ref (ad G 51)), some (vi x1), some (vi x2), some (vi (x3 + 1))]) dX5_copies_24 rfl (by decide) rfl rfl rfl ?_
      refine sw_goto (pc' := 2) dX5_copies_27 (by decide) ?_
      exact (ih) x1 x2 (x3 + 1) s23
    · exact sw_vret dX5_copies_30
def f_X5_copies (x1 : Int) (x2 : Int) (σ : St) : Option (St) :=
  f_X5_copies_2 FU x1 x2 0 σ
set_option maxRecDepth 20000 in
theorem m_X5_copies (x1 : Int) (x2 : Int)  (σ : St) : MT G l yX5_copies cX5_copies 4 none rm_X5_copies [.ref (ad G 51), vi x1, vi x2] wV σ (f_X5_copies x1 x2 σ) := by
  refine mt_V (L := [some (.ref (ad G 51)), some (vi x1), some (vi x2), none]) rfl (Nat.le_of_ble_eq_true rfl) rfl ?_
  show SW G l RX5 cX5_copies 4 rm_X5_copies wV 0 [some (.ref (ad G 51)), some (vi x1), some (vi x2), none] [] σ (f_X5_copies x1 x2 σ)
  unfold f_X5_copies
  refine sw_iconst (pc' := 1) dX5_copies_0 rfl ?_
  refine sw_istore_n (pc' := 2) (x := 0) (L' := [some (.ref (ad G 51)), some (vi x1), some (vi x2), some (vi 0)]) dX5_copies_1 rfl (by decide) rfl rfl ?_
  exact s_X5_copies_2 FU x1 x2 0 σ
def rm_X5_daysGo : Room := { frames := 5, cells := 0, slots := 0, locals := 115 }
def f_X5_daysGo_92  (k26 : Int → Int → St → Option (Int × St)) (x2 x3 t0 t1 : Int) (σ : St) : Option (Int × St) :=
  bV (pf σ 51 21 t1) fun s92 => k26 x2 (x3 + 1) s92
set_option maxRecDepth 20000 in
theorem s_X5_daysGo_92   (k26 : Int → Int → St → Option (Int × St)) (hk26 : ∀ (x2 x3 : Int) (σ : St), SW G l RX5 cX5_daysGo 5 rm_X5_daysGo wI 26 [some (.ref (ad G 51)), none, some (vi x2), some (vi x3), none] [] σ (k26 x2 x3 σ)) (x2 x3 t0 t1 : Int) (σ : St) : SW G l RX5 cX5_daysGo 5 rm_X5_daysGo wI 92 [some (.ref (ad G 51)), none, some (vi x2), some (vi x3), none] [vi t1, .ref (ad G 51)] σ (f_X5_daysGo_92 k26 x2 x3 t0 t1 σ) := by
  unfold f_X5_daysGo_92
  refine sw_putI (pc' := 95) dX5_daysGo_92 fp_X5_223 (tbk_51) rfl rfl (fun s92 => ?_)
  refine sw_iinc (pc' := 98) (x := x3) (L' := [some (.ref (ad G 51)), none, some (vi x2), some (vi (x3 + 1)), none]) dX5_daysGo_95 rfl (by decide) rfl rfl rfl ?_
  refine sw_goto (pc' := 26) dX5_daysGo_98 (by decide) ?_
  exact hk26 x2 (x3 + 1) s92
def f_X5_daysGo_88  (k26 : Int → Int → St → Option (Int × St)) (x2 x3 t0 : Int) (σ : St) : Option (Int × St) :=
  f_X5_daysGo_92 k26 x2 x3 51 (σ 51 21) σ
set_option maxRecDepth 20000 in
theorem s_X5_daysGo_88   (k26 : Int → Int → St → Option (Int × St)) (hk26 : ∀ (x2 x3 : Int) (σ : St), SW G l RX5 cX5_daysGo 5 rm_X5_daysGo wI 26 [some (.ref (ad G 51)), none, some (vi x2), some (vi x3), none] [] σ (k26 x2 x3 σ)) (x2 x3 t0 : Int) (σ : St) : SW G l RX5 cX5_daysGo 5 rm_X5_daysGo wI 88 [some (.ref (ad G 51)), none, some (vi x2), some (vi x3), none] [.ref (ad G 51)] σ (f_X5_daysGo_88 k26 x2 x3 t0 σ) := by
  unfold f_X5_daysGo_88
  refine sw_aload_n (pc' := 89) dX5_daysGo_88 rfl rfl ?_
  refine sw_getn (pc' := 92) dX5_daysGo_89 fl_X5_223 (tbk_51) rfl rfl ?_
  exact s_X5_daysGo_92 k26 hk26 x2 x3 51 (σ 51 21) σ
def f_X5_daysGo_63  (k26 : Int → Int → St → Option (Int × St)) (x2 x3 t0 t1 t2 : Int) (σ : St) : Option (Int × St) :=
  bV (pf σ 51 20 (t1 + t2)) fun s64 => if wr (s64 51 21) = wr (-4) then
    if 0 < wr (s64 51 19) then
      f_X5_daysGo_92 k26 x2 x3 51 x3 s64
    else
      f_X5_daysGo_88 k26 x2 x3 51 s64
  else
    f_X5_daysGo_88 k26 x2 x3 51 s64
set_option maxRecDepth 20000 in
theorem s_X5_daysGo_63   (k26 : Int → Int → St → Option (Int × St)) (hk26 : ∀ (x2 x3 : Int) (σ : St), SW G l RX5 cX5_daysGo 5 rm_X5_daysGo wI 26 [some (.ref (ad G 51)), none, some (vi x2), some (vi x3), none] [] σ (k26 x2 x3 σ)) (x2 x3 t0 t1 t2 : Int) (σ : St) : SW G l RX5 cX5_daysGo 5 rm_X5_daysGo wI 63 [some (.ref (ad G 51)), none, some (vi x2), some (vi x3), none] [vi t2, vi t1, .ref (ad G 51)] σ (f_X5_daysGo_63 k26 x2 x3 t0 t1 t2 σ) := by
  unfold f_X5_daysGo_63
  refine sw_iadd (pc' := 64) dX5_daysGo_63 rfl ?_
  refine sw_putI (pc' := 67) dX5_daysGo_64 fp_X5_220 (tbk_51) rfl rfl (fun s64 => ?_)
  refine sw_aload_n (pc' := 68) dX5_daysGo_67 rfl rfl ?_
  refine sw_aload_n (pc' := 69) dX5_daysGo_68 rfl rfl ?_
  refine sw_getn (pc' := 72) dX5_daysGo_69 fl_X5_223 (tbk_51) rfl rfl ?_
  refine sw_bipush (pc' := 74) dX5_daysGo_72 rfl rfl ?_
  refine sw_icmp_ne (tgt := 88) (pc' := 77) dX5_daysGo_74 (by decide) rfl (fun _ => ?_) (fun _ => ?_)
  · refine sw_aload_n (pc' := 78) dX5_daysGo_77 rfl rfl ?_
    refine sw_getn (pc' := 81) dX5_daysGo_78 fl_X5_173 (tbk_51) rfl rfl ?_
    refine sw_if_le (tgt := 88) (pc' := 84) dX5_daysGo_81 (by decide) rfl (fun _ => ?_) (fun _ => ?_)
    · refine sw_iload_n (pc' := 85) dX5_daysGo_84 rfl rfl ?_
      refine sw_goto (pc' := 92) dX5_daysGo_85 (by decide) ?_
      exact s_X5_daysGo_92 k26 hk26 x2 x3 51 x3 s64
    · exact s_X5_daysGo_88 k26 hk26 x2 x3 51 s64
  · exact s_X5_daysGo_88 k26 hk26 x2 x3 51 s64
def f_X5_daysGo_26   : Nat → Int → Int → St → Option (Int × St)
  | 0, _, _, _ => none
  | n + 1, x2, x3, σ =>
    if wr x2 < wr x3 then
      some ((σ 51 19), σ)
    else
      bV (f_X5_dayOn 220 σ) fun s41 => if wr (σ 51 19) < wr (s41 51 19) then
        f_X5_daysGo_63 (f_X5_daysGo_26 n) x2 x3 51 (s41 51 20) 1 s41
      else
        f_X5_daysGo_63 (f_X5_daysGo_26 n) x2 x3 51 (s41 51 20) 0 s41
set_option maxRecDepth 20000 in
theorem s_X5_daysGo_26     : ∀ (n : Nat) (x2 x3 : Int) (σ : St), SW G l RX5 cX5_daysGo 5 rm_X5_daysGo wI 26 [some (.ref (ad G 51)), none, some (vi x2), some (vi x3), none] [] σ (f_X5_daysGo_26 n x2 x3 σ) := by
  intro n
  induction n with
  | zero => intro x2 x3 σ; exact sw_none
  | succ n ih =>
    intro x2 x3 σ
    rw [f_X5_daysGo_26]
    refine sw_iload_n (pc' := 27) dX5_daysGo_26 rfl rfl ?_
    refine sw_iload_n (pc' := 28) dX5_daysGo_27 rfl rfl ?_
    refine sw_icmp_gt (tgt := 101) (pc' := 31) dX5_daysGo_28 (by decide) rfl (fun _ => ?_) (fun _ => ?_)
    · refine sw_aload_n (pc' := 102) dX5_daysGo_101 rfl rfl ?_
      refine sw_getn (pc' := 105) dX5_daysGo_102 fl_X5_173 (tbk_51) rfl rfl ?_
      exact sw_iret dX5_daysGo_105
    · refine sw_aload_n (pc' := 32) dX5_daysGo_31 rfl rfl ?_
      refine sw_getn (pc' := 35) dX5_daysGo_32 fl_X5_173 (tbk_51) rfl rfl ?_
      refine sw_istore (pc' := 37) (x := (σ 51 19)) (L' := [some (.ref (ad G 51)), none, some (vi x2), some (vi x3), some (vi (σ 51 19))]) dX5_daysGo_35 rfl (by decide) rfl rfl ?_
      refine sw_aload_n (pc' := 38) dX5_daysGo_37 rfl rfl ?_
      refine sw_sipush (pc' := 41) dX5_daysGo_38 rfl rfl ?_
      refine sw_callVV (pc' := 44) (As := [vi 220]) (rest := []) dX5_daysGo_41 cv_X5_213 (tbk_51) (m_X5_dayOn 220 σ) rfl rfl rfl rfl rfl (fun s41 => ?_)
      refine sw_aload_n (pc' := 45) dX5_daysGo_44 rfl rfl ?_
      refine sw_dup (pc' := 46) dX5_daysGo_45 rfl rfl ?_
      refine sw_getn (pc' := 49) dX5_daysGo_46 fl_X5_220 (tbk_51) rfl rfl ?_
      refine sw_aload_n (pc' := 50) dX5_daysGo_49 rfl rfl ?_
      refine sw_getn (pc' := 53) dX5_daysGo_50 fl_X5_173 (tbk_51) rfl rfl ?_
      refine sw_iload (pc' := 55) dX5_daysGo_53 rfl rfl ?_
      refine sw_icmp_le (tgt := 62) (pc' := 58) dX5_daysGo_55 (by decide) rfl (fun _ => ?_) (fun _ => ?_)
      · refine sw_iconst (pc' := 59) dX5_daysGo_58 rfl ?_
        refine sw_goto (pc' := 63) dX5_daysGo_59 (by decide) ?_
        refine sw_msk [true, false, true, true, false] rfl ?_
        exact s_X5_daysGo_63 (f_X5_daysGo_26 n) (ih) x2 x3 51 (s41 51 20) 1 s41
      · refine sw_iconst (pc' := 63) dX5_daysGo_62 rfl ?_
        refine sw_msk [true, false, true, true, false] rfl ?_
        exact s_X5_daysGo_63 (f_X5_daysGo_26 n) (ih) x2 x3 51 (s41 51 20) 0 s41
def f_X5_daysGo (x1 : Int) (x2 : Int) (σ : St) : Option (Int × St) :=
  bV (f_X5_copies x1 220 σ) fun s5 => bV (pf s5 51 19 0) fun s10 => bV (pf s10 51 20 0) fun s15 => bV (pf s15 51 21 (-4)) fun s21 => f_X5_daysGo_26 FU x2 1 s21
set_option maxRecDepth 20000 in
theorem m_X5_daysGo (x1 : Int) (x2 : Int)  (σ : St) : MT G l yX5_daysGo cX5_daysGo 5 (some .int) rm_X5_daysGo [.ref (ad G 51), vi x1, vi x2] wI σ (f_X5_daysGo x1 x2 σ) := by
  refine mt_I (L := [some (.ref (ad G 51)), some (vi x1), some (vi x2), none, none]) rfl (Nat.le_of_ble_eq_true rfl) rfl ?_
  show SW G l RX5 cX5_daysGo 5 rm_X5_daysGo wI 0 [some (.ref (ad G 51)), some (vi x1), some (vi x2), none, none] [] σ (f_X5_daysGo x1 x2 σ)
  unfold f_X5_daysGo
  refine sw_aload_n (pc' := 1) dX5_daysGo_0 rfl rfl ?_
  refine sw_iload_n (pc' := 2) dX5_daysGo_1 rfl rfl ?_
  refine sw_sipush (pc' := 5) dX5_daysGo_2 rfl rfl ?_
  refine sw_callVV (pc' := 8) (As := [vi x1, vi 220]) (rest := []) dX5_daysGo_5 cv_X5_216 (tbk_51) (m_X5_copies x1 220 σ) rfl rfl rfl rfl rfl (fun s5 => ?_)
  refine sw_aload_n (pc' := 9) dX5_daysGo_8 rfl rfl ?_
  refine sw_iconst (pc' := 10) dX5_daysGo_9 rfl ?_
  refine sw_putI (pc' := 13) dX5_daysGo_10 fp_X5_173 (tbk_51) rfl rfl (fun s10 => ?_)
  refine sw_aload_n (pc' := 14) dX5_daysGo_13 rfl rfl ?_
  refine sw_iconst (pc' := 15) dX5_daysGo_14 rfl ?_
  refine sw_putI (pc' := 18) dX5_daysGo_15 fp_X5_220 (tbk_51) rfl rfl (fun s15 => ?_)
  refine sw_aload_n (pc' := 19) dX5_daysGo_18 rfl rfl ?_
  refine sw_bipush (pc' := 21) dX5_daysGo_19 rfl rfl ?_
  refine sw_putI (pc' := 24) dX5_daysGo_21 fp_X5_223 (tbk_51) rfl rfl (fun s21 => ?_)
  refine sw_iconst (pc' := 25) dX5_daysGo_24 rfl ?_
  refine sw_istore_n (pc' := 26) (x := 1) (L' := [some (.ref (ad G 51)), some (vi x1), some (vi x2), some (vi 1), none]) dX5_daysGo_25 rfl (by decide) rfl rfl ?_
  refine sw_msk [true, false, true, true, false] rfl ?_
  exact s_X5_daysGo_26 FU x2 1 s21
def rm_X5_runs : Room := { frames := 6, cells := 0, slots := 0, locals := 139 }
def f_X5_runs (x1 : Int) (x2 : Int) (σ : St) : Option (Int × St) :=
  bI (f_X5_in (wr x1) 0 60 σ) fun v6 s6 => if v6 then
    bI (f_X5_in (wr x2) 0 3 s6) fun v18 s18 => if v18 then
      bI (f_X5_daysGo 0 x1 s18) fun v29 s29 => if wr x2 = 0 then
        some (v29, s29)
      else
        if wr x2 = wr 1 then
          bI (f_X5_agreeOn 220 s29) fun v50 s50 => some (v50, s50)
        else
          if wr x2 = wr 2 then
            some ((s29 51 20), s29)
          else
            some ((s29 51 21), s29)
    else
      some ((-1), s18)
  else
    some ((-1), s6)
set_option maxRecDepth 20000 in
theorem m_X5_runs (x1 : Int) (x2 : Int)  (σ : St) : MT G l yX5_runs cX5_runs 4 (some .int) rm_X5_runs [.ref (ad G 51), vi x1, vi x2] wI σ (f_X5_runs x1 x2 σ) := by
  refine mt_I (L := [some (.ref (ad G 51)), some (vi x1), some (vi x2), none]) rfl (Nat.le_of_ble_eq_true rfl) rfl ?_
  show SW G l RX5 cX5_runs 4 rm_X5_runs wI 0 [some (.ref (ad G 51)), some (vi x1), some (vi x2), none] [] σ (f_X5_runs x1 x2 σ)
  unfold f_X5_runs
  refine sw_iload_n (pc' := 1) dX5_runs_0 rfl rfl ?_
  refine sw_i2l (pc' := 2) dX5_runs_1 rfl ?_
  refine sw_lconst (x := 0) (pc' := 3) dX5_runs_2 rfl rfl ?_
  refine sw_ldc2 (n := 60) (pc' := 6) dX5_runs_3 kl_X5_226 rfl ?_
  refine sw_callSB (pc' := 9) (As := [vl (wr x1), vl 0, vl 60]) (rest := []) dX5_runs_6 cs_X5_46 (m_X5_in (wr x1) 0 60 σ) rfl rfl rfl rfl rfl (fun v6 s6 => ?_)
  refine sw_bif_eq (tgt := 24) (pc' := 12) dX5_runs_9 (by decide) rfl (fun _ => ?_) (fun _ => ?_)
  · refine sw_iload_n (pc' := 13) dX5_runs_12 rfl rfl ?_
    refine sw_i2l (pc' := 14) dX5_runs_13 rfl ?_
    refine sw_lconst (x := 0) (pc' := 15) dX5_runs_14 rfl rfl ?_
    refine sw_ldc2 (n := 3) (pc' := 18) dX5_runs_15 kl_X5_91 rfl ?_
    refine sw_callSB (pc' := 21) (As := [vl (wr x2), vl 0, vl 3]) (rest := []) dX5_runs_18 cs_X5_46 (m_X5_in (wr x2) 0 3 s6) rfl rfl rfl rfl rfl (fun v18 s18 => ?_)
    refine sw_bif_ne (tgt := 26) (pc' := 24) dX5_runs_21 (by decide) rfl (fun _ => ?_) (fun _ => ?_)
    · refine sw_aload_n (pc' := 27) dX5_runs_26 rfl rfl ?_
      refine sw_iconst (pc' := 28) dX5_runs_27 rfl ?_
      refine sw_iload_n (pc' := 29) dX5_runs_28 rfl rfl ?_
      refine sw_callVI (pc' := 32) (As := [vi 0, vi x1]) (rest := []) dX5_runs_29 cv_X5_228 (tbk_51) (m_X5_daysGo 0 x1 s18) rfl rfl rfl rfl rfl (fun v29 s29 => ?_)
      refine sw_istore_n (pc' := 33) (x := v29) (L' := [some (.ref (ad G 51)), some (vi x1), some (vi x2), some (vi v29)]) dX5_runs_32 rfl (by decide) rfl rfl ?_
      refine sw_iload_n (pc' := 34) dX5_runs_33 rfl rfl ?_
      refine sw_if_ne (tgt := 41) (pc' := 37) dX5_runs_34 (by decide) rfl (fun _ => ?_) (fun _ => ?_)
      · refine sw_iload_n (pc' := 38) dX5_runs_37 rfl rfl ?_
        refine sw_goto (pc' := 72) dX5_runs_38 (by decide) ?_
        exact sw_iret dX5_runs_72
      · refine sw_iload_n (pc' := 42) dX5_runs_41 rfl rfl ?_
        refine sw_iconst (pc' := 43) dX5_runs_42 rfl ?_
        refine sw_icmp_ne (tgt := 56) (pc' := 46) dX5_runs_43 (by decide) rfl (fun _ => ?_) (fun _ => ?_)
        · refine sw_aload_n (pc' := 47) dX5_runs_46 rfl rfl ?_
          refine sw_sipush (pc' := 50) dX5_runs_47 rfl rfl ?_
          refine sw_callVI (pc' := 53) (As := [vi 220]) (rest := []) dX5_runs_50 cv_X5_179 (tbk_51) (m_X5_agreeOn 220 s29) rfl rfl rfl rfl rfl (fun v50 s50 => ?_)
          refine sw_goto (pc' := 72) dX5_runs_53 (by decide) ?_
          exact sw_iret dX5_runs_72
        · refine sw_iload_n (pc' := 57) dX5_runs_56 rfl rfl ?_
          refine sw_iconst (pc' := 58) dX5_runs_57 rfl ?_
          refine sw_icmp_ne (tgt := 68) (pc' := 61) dX5_runs_58 (by decide) rfl (fun _ => ?_) (fun _ => ?_)
          · refine sw_aload_n (pc' := 62) dX5_runs_61 rfl rfl ?_
            refine sw_getn (pc' := 65) dX5_runs_62 fl_X5_220 (tbk_51) rfl rfl ?_
            refine sw_goto (pc' := 72) dX5_runs_65 (by decide) ?_
            exact sw_iret dX5_runs_72
          · refine sw_aload_n (pc' := 69) dX5_runs_68 rfl rfl ?_
            refine sw_getn (pc' := 72) dX5_runs_69 fl_X5_223 (tbk_51) rfl rfl ?_
            exact sw_iret dX5_runs_72
    · refine sw_iconst (pc' := 25) dX5_runs_24 rfl ?_
      exact sw_iret dX5_runs_25
  · refine sw_iconst (pc' := 25) dX5_runs_24 rfl ?_
    exact sw_iret dX5_runs_25
def rm_X5_ahead : Room := { frames := 6, cells := 0, slots := 0, locals := 139 }
def f_X5_ahead (x1 : Int) (x2 : Int) (x3 : Int) (σ : St) : Option (Int × St) :=
  bI (f_X5_isRider x1 σ) fun v2 s2 => if v2 then
    bI (f_X5_in (wr x2) 0 60 s2) fun v14 s14 => if v14 then
      bI (f_X5_in (wr x3) 0 1 s14) fun v24 s24 => if v24 then
        bI (f_X5_daysGo 0 x2 s24) fun v35 s35 => if wr x3 = 0 then
          bV (ld s35 52 330 (225 + x1)) fun v52 => some (v52, s35)
        else
          bI (f_X5_readsOn 220 x1 s35) fun v61 s61 => some (v61, s61)
      else
        some ((-1), s24)
    else
      some ((-1), s14)
  else
    some ((-1), s2)
set_option maxRecDepth 20000 in
theorem m_X5_ahead (x1 : Int) (x2 : Int) (x3 : Int)  (σ : St) : MT G l yX5_ahead cX5_ahead 4 (some .int) rm_X5_ahead [.ref (ad G 51), vi x1, vi x2, vi x3] wI σ (f_X5_ahead x1 x2 x3 σ) := by
  refine mt_I (L := [some (.ref (ad G 51)), some (vi x1), some (vi x2), some (vi x3)]) rfl (Nat.le_of_ble_eq_true rfl) rfl ?_
  show SW G l RX5 cX5_ahead 4 rm_X5_ahead wI 0 [some (.ref (ad G 51)), some (vi x1), some (vi x2), some (vi x3)] [] σ (f_X5_ahead x1 x2 x3 σ)
  unfold f_X5_ahead
  refine sw_aload_n (pc' := 1) dX5_ahead_0 rfl rfl ?_
  refine sw_iload_n (pc' := 2) dX5_ahead_1 rfl rfl ?_
  refine sw_callVB (pc' := 5) (As := [vi x1]) (rest := []) dX5_ahead_2 cv_X5_182 (tbk_51) (m_X5_isRider x1 σ) rfl rfl rfl rfl rfl (fun v2 s2 => ?_)
  refine sw_bif_eq (tgt := 30) (pc' := 8) dX5_ahead_5 (by decide) rfl (fun _ => ?_) (fun _ => ?_)
  · refine sw_iload_n (pc' := 9) dX5_ahead_8 rfl rfl ?_
    refine sw_i2l (pc' := 10) dX5_ahead_9 rfl ?_
    refine sw_lconst (x := 0) (pc' := 11) dX5_ahead_10 rfl rfl ?_
    refine sw_ldc2 (n := 60) (pc' := 14) dX5_ahead_11 kl_X5_226 rfl ?_
    refine sw_callSB (pc' := 17) (As := [vl (wr x2), vl 0, vl 60]) (rest := []) dX5_ahead_14 cs_X5_46 (m_X5_in (wr x2) 0 60 s2) rfl rfl rfl rfl rfl (fun v14 s14 => ?_)
    refine sw_bif_eq (tgt := 30) (pc' := 20) dX5_ahead_17 (by decide) rfl (fun _ => ?_) (fun _ => ?_)
    · refine sw_iload_n (pc' := 21) dX5_ahead_20 rfl rfl ?_
      refine sw_i2l (pc' := 22) dX5_ahead_21 rfl ?_
      refine sw_lconst (x := 0) (pc' := 23) dX5_ahead_22 rfl rfl ?_
      refine sw_lconst (x := 1) (pc' := 24) dX5_ahead_23 rfl rfl ?_
      refine sw_callSB (pc' := 27) (As := [vl (wr x3), vl 0, vl 1]) (rest := []) dX5_ahead_24 cs_X5_46 (m_X5_in (wr x3) 0 1 s14) rfl rfl rfl rfl rfl (fun v24 s24 => ?_)
      refine sw_bif_ne (tgt := 32) (pc' := 30) dX5_ahead_27 (by decide) rfl (fun _ => ?_) (fun _ => ?_)
      · refine sw_aload_n (pc' := 33) dX5_ahead_32 rfl rfl ?_
        refine sw_iconst (pc' := 34) dX5_ahead_33 rfl ?_
        refine sw_iload_n (pc' := 35) dX5_ahead_34 rfl rfl ?_
        refine sw_callVI (pc' := 38) (As := [vi 0, vi x2]) (rest := []) dX5_ahead_35 cv_X5_228 (tbk_51) (m_X5_daysGo 0 x2 s24) rfl rfl rfl rfl rfl (fun v35 s35 => ?_)
        refine sw_pop (pc' := 39) dX5_ahead_38 rfl rfl ?_
        refine sw_iload_n (pc' := 40) dX5_ahead_39 rfl rfl ?_
        refine sw_if_ne (tgt := 56) (pc' := 43) dX5_ahead_40 (by decide) rfl (fun _ => ?_) (fun _ => ?_)
        · refine sw_aload_n (pc' := 44) dX5_ahead_43 rfl rfl ?_
          refine sw_getr (pc' := 47) dX5_ahead_44 fl_X5_7 (tbk_51) rfl rfl ?_
          refine sw_sipush (pc' := 50) dX5_ahead_47 rfl rfl ?_
          refine sw_iload_n (pc' := 51) dX5_ahead_50 rfl rfl ?_
          refine sw_iadd (pc' := 52) dX5_ahead_51 rfl ?_
          refine sw_iald (pc' := 53) dX5_ahead_52 (tbk_52) rfl (fun v52 => ?_)
          refine sw_goto (pc' := 64) dX5_ahead_53 (by decide) ?_
          exact sw_iret dX5_ahead_64
        · refine sw_aload_n (pc' := 57) dX5_ahead_56 rfl rfl ?_
          refine sw_sipush (pc' := 60) dX5_ahead_57 rfl rfl ?_
          refine sw_iload_n (pc' := 61) dX5_ahead_60 rfl rfl ?_
          refine sw_callVI (pc' := 64) (As := [vi 220, vi x1]) (rest := []) dX5_ahead_61 cv_X5_160 (tbk_51) (m_X5_readsOn 220 x1 s35) rfl rfl rfl rfl rfl (fun v61 s61 => ?_)
          exact sw_iret dX5_ahead_64
      · refine sw_iconst (pc' := 31) dX5_ahead_30 rfl ?_
        exact sw_iret dX5_ahead_31
    · refine sw_iconst (pc' := 31) dX5_ahead_30 rfl ?_
      exact sw_iret dX5_ahead_31
  · refine sw_iconst (pc' := 31) dX5_ahead_30 rfl ?_
    exact sw_iret dX5_ahead_31
def rm_X5_believed : Room := { frames := 2, cells := 0, slots := 0, locals := 54 }
def f_X5_believed (x1 : Int) (x2 : Int) (σ : St) : Option (Int × St) :=
  bI (f_X5_isRider x1 σ) fun v2 s2 => if v2 then
    bI (f_X5_isDay x2 s2) fun v9 s9 => if v9 then
      bI (f_X5_believedOn 0 x1 x2 s9) fun v19 s19 => some (v19, s19)
    else
      some ((-1), s9)
  else
    some ((-1), s2)
set_option maxRecDepth 20000 in
theorem m_X5_believed (x1 : Int) (x2 : Int)  (σ : St) : MT G l yX5_believed cX5_believed 3 (some .int) rm_X5_believed [.ref (ad G 51), vi x1, vi x2] wI σ (f_X5_believed x1 x2 σ) := by
  refine mt_I (L := [some (.ref (ad G 51)), some (vi x1), some (vi x2)]) rfl (Nat.le_of_ble_eq_true rfl) rfl ?_
  show SW G l RX5 cX5_believed 3 rm_X5_believed wI 0 [some (.ref (ad G 51)), some (vi x1), some (vi x2)] [] σ (f_X5_believed x1 x2 σ)
  unfold f_X5_believed
  refine sw_aload_n (pc' := 1) dX5_believed_0 rfl rfl ?_
  refine sw_iload_n (pc' := 2) dX5_believed_1 rfl rfl ?_
  refine sw_callVB (pc' := 5) (As := [vi x1]) (rest := []) dX5_believed_2 cv_X5_182 (tbk_51) (m_X5_isRider x1 σ) rfl rfl rfl rfl rfl (fun v2 s2 => ?_)
  refine sw_bif_eq (tgt := 25) (pc' := 8) dX5_believed_5 (by decide) rfl (fun _ => ?_) (fun _ => ?_)
  · refine sw_iload_n (pc' := 9) dX5_believed_8 rfl rfl ?_
    refine sw_callSB (pc' := 12) (As := [vi x2]) (rest := []) dX5_believed_9 cs_X5_197 (m_X5_isDay x2 s2) rfl rfl rfl rfl rfl (fun v9 s9 => ?_)
    refine sw_bif_eq (tgt := 25) (pc' := 15) dX5_believed_12 (by decide) rfl (fun _ => ?_) (fun _ => ?_)
    · refine sw_aload_n (pc' := 16) dX5_believed_15 rfl rfl ?_
      refine sw_iconst (pc' := 17) dX5_believed_16 rfl ?_
      refine sw_iload_n (pc' := 18) dX5_believed_17 rfl rfl ?_
      refine sw_iload_n (pc' := 19) dX5_believed_18 rfl rfl ?_
      refine sw_callVI (pc' := 22) (As := [vi 0, vi x1, vi x2]) (rest := []) dX5_believed_19 cv_X5_156 (tbk_51) (m_X5_believedOn 0 x1 x2 s9) rfl rfl rfl rfl rfl (fun v19 s19 => ?_)
      refine sw_goto (pc' := 26) dX5_believed_22 (by decide) ?_
      exact sw_iret dX5_believed_26
    · refine sw_iconst (pc' := 26) dX5_believed_25 rfl ?_
      exact sw_iret dX5_believed_26
  · refine sw_iconst (pc' := 26) dX5_believed_25 rfl ?_
    exact sw_iret dX5_believed_26
def rm_X5_agrees : Room := { frames := 5, cells := 0, slots := 0, locals := 115 }
def f_X5_agrees_20   : Nat → Int → Int → St → Option (Int × St)
  | 0, _, _, _ => none
  | n + 1, x1, x2, σ =>
    if wr 60 < wr x2 then
      some ((-4), σ)
    else
      bI (f_X5_agreesOn 220 x1 σ) fun v31 s31 => if v31 then
        some (x2, s31)
      else
        bV (f_X5_dayOn 220 s31) fun s43 => (f_X5_agrees_20 n) x1 (x2 + 1) s43
set_option maxRecDepth 20000 in
theorem s_X5_agrees_20     : ∀ (n : Nat) (x1 x2 : Int) (σ : St), SW G l RX5 cX5_agrees 3 rm_X5_agrees wI 20 [some (.ref (ad G 51)), some (vi x1), some (vi x2)] [] σ (f_X5_agrees_20 n x1 x2 σ) := by
  intro n
  induction n with
  | zero => intro x1 x2 σ; exact sw_none
  | succ n ih =>
    intro x1 x2 σ
    rw [f_X5_agrees_20]
    refine sw_iload_n (pc' := 21) dX5_agrees_20 rfl rfl ?_
    refine sw_bipush (pc' := 23) dX5_agrees_21 rfl rfl ?_
    refine sw_icmp_gt (tgt := 52) (pc' := 26) dX5_agrees_23 (by decide) rfl (fun _ => ?_) (fun _ => ?_)
    · refine sw_bipush (pc' := 54) dX5_agrees_52 rfl rfl ?_
      exact sw_iret dX5_agrees_54
    · refine sw_aload_n (pc' := 27) dX5_agrees_26 rfl rfl ?_
      refine sw_sipush (pc' := 30) dX5_agrees_27 rfl rfl ?_
      refine sw_iload_n (pc' := 31) dX5_agrees_30 rfl rfl ?_
      refine sw_callVB (pc' := 34) (As := [vi 220, vi x1]) (rest := []) dX5_agrees_31 cv_X5_166 (tbk_51) (m_X5_agreesOn 220 x1 σ) rfl rfl rfl rfl rfl (fun v31 s31 => ?_)
      refine sw_bif_eq (tgt := 39) (pc' := 37) dX5_agrees_34 (by decide) rfl (fun _ => ?_) (fun _ => ?_)
      · refine sw_iload_n (pc' := 38) dX5_agrees_37 rfl rfl ?_
        exact sw_iret dX5_agrees_38
      · refine sw_aload_n (pc' := 40) dX5_agrees_39 rfl rfl ?_
        refine sw_sipush (pc' := 43) dX5_agrees_40 rfl rfl ?_
        refine sw_callVV (pc' := 46) (As := [vi 220]) (rest := []) dX5_agrees_43 cv_X5_213 (tbk_51) (m_X5_dayOn 220 s31) rfl rfl rfl rfl rfl (fun s43 => ?_)
        refine sw_iinc (pc' := 49) (x := x2) (L' := [some (.ref (ad G 51)), some (vi x1), some (vi (x2 + 1))]) dX5_agrees_46 rfl (by decide) rfl rfl rfl ?_
        refine sw_goto (pc' := 20) dX5_agrees_49 (by decide) ?_
        exact (ih) x1 (x2 + 1) s43
def f_X5_agrees (x1 : Int) (σ : St) : Option (Int × St) :=
  bI (f_X5_isRider x1 σ) fun v2 s2 => if v2 then
    bV (f_X5_copies 0 220 s2) fun s15 => f_X5_agrees_20 FU x1 0 s15
  else
    some ((-1), s2)
set_option maxRecDepth 20000 in
theorem m_X5_agrees (x1 : Int)  (σ : St) : MT G l yX5_agrees cX5_agrees 3 (some .int) rm_X5_agrees [.ref (ad G 51), vi x1] wI σ (f_X5_agrees x1 σ) := by
  refine mt_I (L := [some (.ref (ad G 51)), some (vi x1), none]) rfl (Nat.le_of_ble_eq_true rfl) rfl ?_
  show SW G l RX5 cX5_agrees 3 rm_X5_agrees wI 0 [some (.ref (ad G 51)), some (vi x1), none] [] σ (f_X5_agrees x1 σ)
  unfold f_X5_agrees
  refine sw_aload_n (pc' := 1) dX5_agrees_0 rfl rfl ?_
  refine sw_iload_n (pc' := 2) dX5_agrees_1 rfl rfl ?_
  refine sw_callVB (pc' := 5) (As := [vi x1]) (rest := []) dX5_agrees_2 cv_X5_182 (tbk_51) (m_X5_isRider x1 σ) rfl rfl rfl rfl rfl (fun v2 s2 => ?_)
  refine sw_bif_ne (tgt := 10) (pc' := 8) dX5_agrees_5 (by decide) rfl (fun _ => ?_) (fun _ => ?_)
  · refine sw_aload_n (pc' := 11) dX5_agrees_10 rfl rfl ?_
    refine sw_iconst (pc' := 12) dX5_agrees_11 rfl ?_
    refine sw_sipush (pc' := 15) dX5_agrees_12 rfl rfl ?_
    refine sw_callVV (pc' := 18) (As := [vi 0, vi 220]) (rest := []) dX5_agrees_15 cv_X5_216 (tbk_51) (m_X5_copies 0 220 s2) rfl rfl rfl rfl rfl (fun s15 => ?_)
    refine sw_iconst (pc' := 19) dX5_agrees_18 rfl ?_
    refine sw_istore_n (pc' := 20) (x := 0) (L' := [some (.ref (ad G 51)), some (vi x1), some (vi 0)]) dX5_agrees_19 rfl (by decide) rfl rfl ?_
    exact s_X5_agrees_20 FU x1 0 s15
  · refine sw_iconst (pc' := 9) dX5_agrees_8 rfl ?_
    exact sw_iret dX5_agrees_9
def rm_X5_pose : Room := { frames := 2, cells := 0, slots := 0, locals := 46 }
def f_X5_pose_51  (k19 : Int → Int → Int → St → Option (Int × St)) (x1 x2 x3 : Int) (σ : St) : Option (Int × St) :=
  k19 x1 x2 (x3 + 1) σ
set_option maxRecDepth 20000 in
theorem s_X5_pose_51   (k19 : Int → Int → Int → St → Option (Int × St)) (hk19 : ∀ (x1 x2 x3 : Int) (σ : St), SW G l RX5 cX5_pose 4 rm_X5_pose wI 19 [some (.ref (ad G 51)), some (vi x1), some (vi x2), some (vi x3)] [] σ (k19 x1 x2 x3 σ)) (x1 x2 x3 : Int) (σ : St) : SW G l RX5 cX5_pose 4 rm_X5_pose wI 51 [some (.ref (ad G 51)), some (vi x1), some (vi x2), some (vi x3)] [] σ (f_X5_pose_51 k19 x1 x2 x3 σ) := by
  unfold f_X5_pose_51
  refine sw_iinc (pc' := 54) (x := x3) (L' := [some (.ref (ad G 51)), some (vi x1), some (vi x2), some (vi (x3 + 1))]) dX5_pose_51 rfl (by decide) rfl rfl rfl ?_
  refine sw_goto (pc' := 19) dX5_pose_54 (by decide) ?_
  exact hk19 x1 x2 (x3 + 1) σ
def f_X5_pose_19   : Nat → Int → Int → Int → St → Option (Int × St)
  | 0, _, _, _, _ => none
  | n + 1, x1, x2, x3, σ =>
    if wr x3 < wr 16 then
      bV (ld σ 52 330 x1) fun v30 => bI (f_X5_readsOf v30 x3 σ) fun v32 s32 => if wr v32 = wr x2 then
        bI (f_X5_isUpright 0 x1 x3 s32) fun v43 s43 => if v43 then
          some (x3, s43)
        else
          f_X5_pose_51 (f_X5_pose_19 n) x1 x2 x3 s43
      else
        f_X5_pose_51 (f_X5_pose_19 n) x1 x2 x3 s32
    else
      some ((-4), σ)
set_option maxRecDepth 20000 in
theorem s_X5_pose_19     : ∀ (n : Nat) (x1 x2 x3 : Int) (σ : St), SW G l RX5 cX5_pose 4 rm_X5_pose wI 19 [some (.ref (ad G 51)), some (vi x1), some (vi x2), some (vi x3)] [] σ (f_X5_pose_19 n x1 x2 x3 σ) := by
  intro n
  induction n with
  | zero => intro x1 x2 x3 σ; exact sw_none
  | succ n ih =>
    intro x1 x2 x3 σ
    rw [f_X5_pose_19]
    refine sw_iload_n (pc' := 20) dX5_pose_19 rfl rfl ?_
    refine sw_bipush (pc' := 22) dX5_pose_20 rfl rfl ?_
    refine sw_icmp_ge (tgt := 57) (pc' := 25) dX5_pose_22 (by decide) rfl (fun _ => ?_) (fun _ => ?_)
    · refine sw_aload_n (pc' := 26) dX5_pose_25 rfl rfl ?_
      refine sw_getr (pc' := 29) dX5_pose_26 fl_X5_7 (tbk_51) rfl rfl ?_
      refine sw_iload_n (pc' := 30) dX5_pose_29 rfl rfl ?_
      refine sw_iald (pc' := 31) dX5_pose_30 (tbk_52) rfl (fun v30 => ?_)
      refine sw_iload_n (pc' := 32) dX5_pose_31 rfl rfl ?_
      refine sw_callSI (pc' := 35) (As := [vi v30, vi x3]) (rest := []) dX5_pose_32 cs_X5_142 (m_X5_readsOf v30 x3 σ) rfl rfl rfl rfl rfl (fun v32 s32 => ?_)
      refine sw_iload_n (pc' := 36) dX5_pose_35 rfl rfl ?_
      refine sw_icmp_ne (tgt := 51) (pc' := 39) dX5_pose_36 (by decide) rfl (fun _ => ?_) (fun _ => ?_)
      · refine sw_aload_n (pc' := 40) dX5_pose_39 rfl rfl ?_
        refine sw_iconst (pc' := 41) dX5_pose_40 rfl ?_
        refine sw_iload_n (pc' := 42) dX5_pose_41 rfl rfl ?_
        refine sw_iload_n (pc' := 43) dX5_pose_42 rfl rfl ?_
        refine sw_callVB (pc' := 46) (As := [vi 0, vi x1, vi x3]) (rest := []) dX5_pose_43 cv_X5_145 (tbk_51) (m_X5_isUpright 0 x1 x3 s32) rfl rfl rfl rfl rfl (fun v43 s43 => ?_)
        refine sw_bif_eq (tgt := 51) (pc' := 49) dX5_pose_46 (by decide) rfl (fun _ => ?_) (fun _ => ?_)
        · refine sw_iload_n (pc' := 50) dX5_pose_49 rfl rfl ?_
          exact sw_iret dX5_pose_50
        · exact s_X5_pose_51 (f_X5_pose_19 n) (ih) x1 x2 x3 s43
      · exact s_X5_pose_51 (f_X5_pose_19 n) (ih) x1 x2 x3 s32
    · refine sw_bipush (pc' := 59) dX5_pose_57 rfl rfl ?_
      exact sw_iret dX5_pose_59
def f_X5_pose (x1 : Int) (x2 : Int) (σ : St) : Option (Int × St) :=
  bI (f_X5_isRider x1 σ) fun v2 s2 => if v2 then
    bI (f_X5_isEnd x2 s2) fun v9 s9 => if v9 then
      f_X5_pose_19 FU x1 x2 0 s9
    else
      some ((-1), s9)
  else
    some ((-1), s2)
set_option maxRecDepth 20000 in
theorem m_X5_pose (x1 : Int) (x2 : Int)  (σ : St) : MT G l yX5_pose cX5_pose 4 (some .int) rm_X5_pose [.ref (ad G 51), vi x1, vi x2] wI σ (f_X5_pose x1 x2 σ) := by
  refine mt_I (L := [some (.ref (ad G 51)), some (vi x1), some (vi x2), none]) rfl (Nat.le_of_ble_eq_true rfl) rfl ?_
  show SW G l RX5 cX5_pose 4 rm_X5_pose wI 0 [some (.ref (ad G 51)), some (vi x1), some (vi x2), none] [] σ (f_X5_pose x1 x2 σ)
  unfold f_X5_pose
  refine sw_aload_n (pc' := 1) dX5_pose_0 rfl rfl ?_
  refine sw_iload_n (pc' := 2) dX5_pose_1 rfl rfl ?_
  refine sw_callVB (pc' := 5) (As := [vi x1]) (rest := []) dX5_pose_2 cv_X5_182 (tbk_51) (m_X5_isRider x1 σ) rfl rfl rfl rfl rfl (fun v2 s2 => ?_)
  refine sw_bif_eq (tgt := 15) (pc' := 8) dX5_pose_5 (by decide) rfl (fun _ => ?_) (fun _ => ?_)
  · refine sw_iload_n (pc' := 9) dX5_pose_8 rfl rfl ?_
    refine sw_callSB (pc' := 12) (As := [vi x2]) (rest := []) dX5_pose_9 cs_X5_194 (m_X5_isEnd x2 s2) rfl rfl rfl rfl rfl (fun v9 s9 => ?_)
    refine sw_bif_ne (tgt := 17) (pc' := 15) dX5_pose_12 (by decide) rfl (fun _ => ?_) (fun _ => ?_)
    · refine sw_iconst (pc' := 18) dX5_pose_17 rfl ?_
      refine sw_istore_n (pc' := 19) (x := 0) (L' := [some (.ref (ad G 51)), some (vi x1), some (vi x2), some (vi 0)]) dX5_pose_18 rfl (by decide) rfl rfl ?_
      exact s_X5_pose_19 FU x1 x2 0 s9
    · refine sw_iconst (pc' := 16) dX5_pose_15 rfl ?_
      exact sw_iret dX5_pose_16
  · refine sw_iconst (pc' := 16) dX5_pose_15 rfl ?_
    exact sw_iret dX5_pose_16
def rm_X5_heavy : Room := { frames := 2, cells := 0, slots := 0, locals := 46 }
def f_X5_heavy_76  (k22 : Int → Int → Int → Int → St → Option (Int × St)) (x1 x2 x4 t0 : Int) (σ : St) : Option (Int × St) :=
  k22 x1 x2 t0 (x4 + 1) σ
set_option maxRecDepth 20000 in
theorem s_X5_heavy_76   (k22 : Int → Int → Int → Int → St → Option (Int × St)) (hk22 : ∀ (x1 x2 x3 x4 : Int) (σ : St), SW G l RX5 cX5_heavy 6 rm_X5_heavy wI 22 [some (.ref (ad G 51)), some (vi x1), some (vi x2), some (vi x3), some (vi x4), none] [] σ (k22 x1 x2 x3 x4 σ)) (x1 x2 x4 t0 : Int) (σ : St) : SW G l RX5 cX5_heavy 6 rm_X5_heavy wI 76 [some (.ref (ad G 51)), some (vi x1), some (vi x2), none, some (vi x4), none] [vi t0] σ (f_X5_heavy_76 k22 x1 x2 x4 t0 σ) := by
  unfold f_X5_heavy_76
  refine sw_istore_n (pc' := 77) (x := t0) (L' := [some (.ref (ad G 51)), some (vi x1), some (vi x2), some (vi t0), some (vi x4), none]) dX5_heavy_76 rfl (by decide) rfl rfl ?_
  refine sw_iinc (pc' := 80) (x := x4) (L' := [some (.ref (ad G 51)), some (vi x1), some (vi x2), some (vi t0), some (vi (x4 + 1)), none]) dX5_heavy_77 rfl (by decide) rfl rfl rfl ?_
  refine sw_goto (pc' := 22) dX5_heavy_80 (by decide) ?_
  exact hk22 x1 x2 t0 (x4 + 1) σ
def f_X5_heavy_75  (k22 : Int → Int → Int → Int → St → Option (Int × St)) (x1 x2 x3 x4 : Int) (σ : St) : Option (Int × St) :=
  f_X5_heavy_76 k22 x1 x2 x4 x3 σ
set_option maxRecDepth 20000 in
theorem s_X5_heavy_75   (k22 : Int → Int → Int → Int → St → Option (Int × St)) (hk22 : ∀ (x1 x2 x3 x4 : Int) (σ : St), SW G l RX5 cX5_heavy 6 rm_X5_heavy wI 22 [some (.ref (ad G 51)), some (vi x1), some (vi x2), some (vi x3), some (vi x4), none] [] σ (k22 x1 x2 x3 x4 σ)) (x1 x2 x3 x4 : Int) (σ : St) : SW G l RX5 cX5_heavy 6 rm_X5_heavy wI 75 [some (.ref (ad G 51)), some (vi x1), some (vi x2), some (vi x3), some (vi x4), none] [] σ (f_X5_heavy_75 k22 x1 x2 x3 x4 σ) := by
  unfold f_X5_heavy_75
  refine sw_iload_n (pc' := 76) dX5_heavy_75 rfl rfl ?_
  refine sw_msk [true, true, true, false, true, false] rfl ?_
  exact s_X5_heavy_76 k22 hk22 x1 x2 x4 x3 σ
def f_X5_heavy_22   : Nat → Int → Int → Int → Int → St → Option (Int × St)
  | 0, _, _, _, _, _ => none
  | n + 1, x1, x2, x3, x4, σ =>
    if wr x4 < wr 16 then
      bV (ld σ 52 330 15) fun v35 => bI (f_X5_legsOf x4 σ) fun v42 s42 => bV (ld s42 52 330 x1) fun v54 => bI (f_X5_readsOf v54 x4 s42) fun v57 s57 => if wr v57 = wr x2 then
        if wr x3 < wr ((v35 + 25) * (4 - v42)) then
          f_X5_heavy_76 (f_X5_heavy_22 n) x1 x2 x4 ((v35 + 25) * (4 - v42)) s57
        else
          f_X5_heavy_75 (f_X5_heavy_22 n) x1 x2 x3 x4 s57
      else
        f_X5_heavy_75 (f_X5_heavy_22 n) x1 x2 x3 x4 s57
    else
      if wr x3 = 0 then
        some ((-4), σ)
      else
        if wr 99 < wr x3 then
          some (99, σ)
        else
          some (x3, σ)
set_option maxRecDepth 20000 in
theorem s_X5_heavy_22     : ∀ (n : Nat) (x1 x2 x3 x4 : Int) (σ : St), SW G l RX5 cX5_heavy 6 rm_X5_heavy wI 22 [some (.ref (ad G 51)), some (vi x1), some (vi x2), some (vi x3), some (vi x4), none] [] σ (f_X5_heavy_22 n x1 x2 x3 x4 σ) := by
  intro n
  induction n with
  | zero => intro x1 x2 x3 x4 σ; exact sw_none
  | succ n ih =>
    intro x1 x2 x3 x4 σ
    rw [f_X5_heavy_22]
    refine sw_iload (pc' := 24) dX5_heavy_22 rfl rfl ?_
    refine sw_bipush (pc' := 26) dX5_heavy_24 rfl rfl ?_
    refine sw_icmp_ge (tgt := 83) (pc' := 29) dX5_heavy_26 (by decide) rfl (fun _ => ?_) (fun _ => ?_)
    · refine sw_aload_n (pc' := 30) dX5_heavy_29 rfl rfl ?_
      refine sw_getr (pc' := 33) dX5_heavy_30 fl_X5_7 (tbk_51) rfl rfl ?_
      refine sw_bipush (pc' := 35) dX5_heavy_33 rfl rfl ?_
      refine sw_iald (pc' := 36) dX5_heavy_35 (tbk_52) rfl (fun v35 => ?_)
      refine sw_bipush (pc' := 38) dX5_heavy_36 rfl rfl ?_
      refine sw_iadd (pc' := 39) dX5_heavy_38 rfl ?_
      refine sw_iconst (pc' := 40) dX5_heavy_39 rfl ?_
      refine sw_iload (pc' := 42) dX5_heavy_40 rfl rfl ?_
      refine sw_callSI (pc' := 45) (As := [vi x4]) (rest := [vi 4, vi (v35 + 25)]) dX5_heavy_42 cs_X5_139 (m_X5_legsOf x4 σ) rfl rfl rfl rfl rfl (fun v42 s42 => ?_)
      refine sw_isub (pc' := 46) dX5_heavy_45 rfl ?_
      refine sw_imul (pc' := 47) dX5_heavy_46 rfl ?_
      refine sw_istore (pc' := 49) (x := ((v35 + 25) * (4 - v42))) (L' := [some (.ref (ad G 51)), some (vi x1), some (vi x2), some (vi x3), some (vi x4), some (vi ((v35 + 25) * (4 - v42)))]) dX5_heavy_47 rfl (by decide) rfl rfl ?_
      refine sw_aload_n (pc' := 50) dX5_heavy_49 rfl rfl ?_
      refine sw_getr (pc' := 53) dX5_heavy_50 fl_X5_7 (tbk_51) rfl rfl ?_
      refine sw_iload_n (pc' := 54) dX5_heavy_53 rfl rfl ?_
      refine sw_iald (pc' := 55) dX5_heavy_54 (tbk_52) rfl (fun v54 => ?_)
      refine sw_iload (pc' := 57) dX5_heavy_55 rfl rfl ?_
      refine sw_callSI (pc' := 60) (As := [vi v54, vi x4]) (rest := []) dX5_heavy_57 cs_X5_142 (m_X5_readsOf v54 x4 s42) rfl rfl rfl rfl rfl (fun v57 s57 => ?_)
      refine sw_iload_n (pc' := 61) dX5_heavy_60 rfl rfl ?_
      refine sw_icmp_ne (tgt := 75) (pc' := 64) dX5_heavy_61 (by decide) rfl (fun _ => ?_) (fun _ => ?_)
      · refine sw_iload (pc' := 66) dX5_heavy_64 rfl rfl ?_
        refine sw_iload_n (pc' := 67) dX5_heavy_66 rfl rfl ?_
        refine sw_icmp_le (tgt := 75) (pc' := 70) dX5_heavy_67 (by decide) rfl (fun _ => ?_) (fun _ => ?_)
        · refine sw_iload (pc' := 72) dX5_heavy_70 rfl rfl ?_
          refine sw_goto (pc' := 76) dX5_heavy_72 (by decide) ?_
          refine sw_msk [true, true, true, false, true, false] rfl ?_
          exact s_X5_heavy_76 (f_X5_heavy_22 n) (ih) x1 x2 x4 ((v35 + 25) * (4 - v42)) s57
        · refine sw_msk [true, true, true, true, true, false] rfl ?_
          exact s_X5_heavy_75 (f_X5_heavy_22 n) (ih) x1 x2 x3 x4 s57
      · refine sw_msk [true, true, true, true, true, false] rfl ?_
        exact s_X5_heavy_75 (f_X5_heavy_22 n) (ih) x1 x2 x3 x4 s57
    · refine sw_iload_n (pc' := 84) dX5_heavy_83 rfl rfl ?_
      refine sw_if_ne (tgt := 92) (pc' := 87) dX5_heavy_84 (by decide) rfl (fun _ => ?_) (fun _ => ?_)
      · refine sw_bipush (pc' := 89) dX5_heavy_87 rfl rfl ?_
        refine sw_goto (pc' := 104) dX5_heavy_89 (by decide) ?_
        exact sw_iret dX5_heavy_104
      · refine sw_iload_n (pc' := 93) dX5_heavy_92 rfl rfl ?_
        refine sw_bipush (pc' := 95) dX5_heavy_93 rfl rfl ?_
        refine sw_icmp_le (tgt := 103) (pc' := 98) dX5_heavy_95 (by decide) rfl (fun _ => ?_) (fun _ => ?_)
        · refine sw_bipush (pc' := 100) dX5_heavy_98 rfl rfl ?_
          refine sw_goto (pc' := 104) dX5_heavy_100 (by decide) ?_
          exact sw_iret dX5_heavy_104
        · refine sw_iload_n (pc' := 104) dX5_heavy_103 rfl rfl ?_
          exact sw_iret dX5_heavy_104
def f_X5_heavy (x1 : Int) (x2 : Int) (σ : St) : Option (Int × St) :=
  bI (f_X5_isRider x1 σ) fun v2 s2 => if v2 then
    bI (f_X5_isEnd x2 s2) fun v9 s9 => if v9 then
      f_X5_heavy_22 FU x1 x2 0 0 s9
    else
      some ((-1), s9)
  else
    some ((-1), s2)
set_option maxRecDepth 20000 in
theorem m_X5_heavy (x1 : Int) (x2 : Int)  (σ : St) : MT G l yX5_heavy cX5_heavy 6 (some .int) rm_X5_heavy [.ref (ad G 51), vi x1, vi x2] wI σ (f_X5_heavy x1 x2 σ) := by
  refine mt_I (L := [some (.ref (ad G 51)), some (vi x1), some (vi x2), none, none, none]) rfl (Nat.le_of_ble_eq_true rfl) rfl ?_
  show SW G l RX5 cX5_heavy 6 rm_X5_heavy wI 0 [some (.ref (ad G 51)), some (vi x1), some (vi x2), none, none, none] [] σ (f_X5_heavy x1 x2 σ)
  unfold f_X5_heavy
  refine sw_aload_n (pc' := 1) dX5_heavy_0 rfl rfl ?_
  refine sw_iload_n (pc' := 2) dX5_heavy_1 rfl rfl ?_
  refine sw_callVB (pc' := 5) (As := [vi x1]) (rest := []) dX5_heavy_2 cv_X5_182 (tbk_51) (m_X5_isRider x1 σ) rfl rfl rfl rfl rfl (fun v2 s2 => ?_)
  refine sw_bif_eq (tgt := 15) (pc' := 8) dX5_heavy_5 (by decide) rfl (fun _ => ?_) (fun _ => ?_)
  · refine sw_iload_n (pc' := 9) dX5_heavy_8 rfl rfl ?_
    refine sw_callSB (pc' := 12) (As := [vi x2]) (rest := []) dX5_heavy_9 cs_X5_194 (m_X5_isEnd x2 s2) rfl rfl rfl rfl rfl (fun v9 s9 => ?_)
    refine sw_bif_ne (tgt := 17) (pc' := 15) dX5_heavy_12 (by decide) rfl (fun _ => ?_) (fun _ => ?_)
    · refine sw_iconst (pc' := 18) dX5_heavy_17 rfl ?_
      refine sw_istore_n (pc' := 19) (x := 0) (L' := [some (.ref (ad G 51)), some (vi x1), some (vi x2), some (vi 0), none, none]) dX5_heavy_18 rfl (by decide) rfl rfl ?_
      refine sw_iconst (pc' := 20) dX5_heavy_19 rfl ?_
      refine sw_istore (pc' := 22) (x := 0) (L' := [some (.ref (ad G 51)), some (vi x1), some (vi x2), some (vi 0), some (vi 0), none]) dX5_heavy_20 rfl (by decide) rfl rfl ?_
      exact s_X5_heavy_22 FU x1 x2 0 0 s9
    · refine sw_iconst (pc' := 16) dX5_heavy_15 rfl ?_
      exact sw_iret dX5_heavy_16
  · refine sw_iconst (pc' := 16) dX5_heavy_15 rfl ?_
    exact sw_iret dX5_heavy_16
def rm_X5_need : Room := { frames := 3, cells := 0, slots := 0, locals := 65 }
def f_X5_need_60  (k10 : Int → St → Option (Int × St)) (k32 : Int → Int → Int → St → Option (Int × St)) (x1 x3 t0 : Int) (σ : St) : Option (Int × St) :=
  k32 x1 t0 (x3 + 1) σ
set_option maxRecDepth 20000 in
theorem s_X5_need_60   (k10 : Int → St → Option (Int × St)) (k32 : Int → Int → Int → St → Option (Int × St)) (hk10 : ∀ (x1 : Int) (σ : St), SW G l RX5 cX5_need 4 rm_X5_need wI 10 [some (.ref (ad G 51)), some (vi x1), none, none] [] σ (k10 x1 σ)) (hk32 : ∀ (x1 x2 x3 : Int) (σ : St), SW G l RX5 cX5_need 4 rm_X5_need wI 32 [some (.ref (ad G 51)), some (vi x1), some (vi x2), some (vi x3)] [] σ (k32 x1 x2 x3 σ)) (x1 x3 t0 : Int) (σ : St) : SW G l RX5 cX5_need 4 rm_X5_need wI 60 [some (.ref (ad G 51)), some (vi x1), none, some (vi x3)] [vi t0] σ (f_X5_need_60 k10 k32 x1 x3 t0 σ) := by
  unfold f_X5_need_60
  refine sw_istore_n (pc' := 61) (x := t0) (L' := [some (.ref (ad G 51)), some (vi x1), some (vi t0), some (vi x3)]) dX5_need_60 rfl (by decide) rfl rfl ?_
  refine sw_iinc (pc' := 64) (x := x3) (L' := [some (.ref (ad G 51)), some (vi x1), some (vi t0), some (vi (x3 + 1))]) dX5_need_61 rfl (by decide) rfl rfl rfl ?_
  refine sw_goto (pc' := 32) dX5_need_64 (by decide) ?_
  exact hk32 x1 t0 (x3 + 1) σ
def f_X5_need_59  (k10 : Int → St → Option (Int × St)) (k32 : Int → Int → Int → St → Option (Int × St)) (x1 x3 : Int) (σ : St) : Option (Int × St) :=
  f_X5_need_60 k10 k32 x1 x3 0 σ
set_option maxRecDepth 20000 in
theorem s_X5_need_59   (k10 : Int → St → Option (Int × St)) (k32 : Int → Int → Int → St → Option (Int × St)) (hk10 : ∀ (x1 : Int) (σ : St), SW G l RX5 cX5_need 4 rm_X5_need wI 10 [some (.ref (ad G 51)), some (vi x1), none, none] [] σ (k10 x1 σ)) (hk32 : ∀ (x1 x2 x3 : Int) (σ : St), SW G l RX5 cX5_need 4 rm_X5_need wI 32 [some (.ref (ad G 51)), some (vi x1), some (vi x2), some (vi x3)] [] σ (k32 x1 x2 x3 σ)) (x1 x3 : Int) (σ : St) : SW G l RX5 cX5_need 4 rm_X5_need wI 59 [some (.ref (ad G 51)), some (vi x1), none, some (vi x3)] [] σ (f_X5_need_59 k10 k32 x1 x3 σ) := by
  unfold f_X5_need_59
  refine sw_iconst (pc' := 60) dX5_need_59 rfl ?_
  exact s_X5_need_60 k10 k32 hk10 hk32 x1 x3 0 σ
def f_X5_need_32  (k10 : Int → St → Option (Int × St)) : Nat → Int → Int → Int → St → Option (Int × St)
  | 0, _, _, _, _ => none
  | n + 1, x1, x2, x3, σ =>
    if wr x3 < wr (σ 51 1) then
      if wr x2 = 0 then
        f_X5_need_59 k10 (f_X5_need_32 k10 n) x1 x3 σ
      else
        bI (f_X5_standsOn 275 x3 σ) fun v49 s49 => if v49 then
          f_X5_need_60 k10 (f_X5_need_32 k10 n) x1 x3 1 s49
        else
          f_X5_need_59 k10 (f_X5_need_32 k10 n) x1 x3 s49
    else
      if wr x2 = 0 then
        k10 (x1 + 1) σ
      else
        some (x1, σ)
set_option maxRecDepth 20000 in
theorem s_X5_need_32   (k10 : Int → St → Option (Int × St)) (hk10 : ∀ (x1 : Int) (σ : St), SW G l RX5 cX5_need 4 rm_X5_need wI 10 [some (.ref (ad G 51)), some (vi x1), none, none] [] σ (k10 x1 σ)) : ∀ (n : Nat) (x1 x2 x3 : Int) (σ : St), SW G l RX5 cX5_need 4 rm_X5_need wI 32 [some (.ref (ad G 51)), some (vi x1), some (vi x2), some (vi x3)] [] σ (f_X5_need_32 k10 n x1 x2 x3 σ) := by
  intro n
  induction n with
  | zero => intro x1 x2 x3 σ; exact sw_none
  | succ n ih =>
    intro x1 x2 x3 σ
    rw [f_X5_need_32]
    refine sw_iload_n (pc' := 33) dX5_need_32 rfl rfl ?_
    refine sw_aload_n (pc' := 34) dX5_need_33 rfl rfl ?_
    refine sw_getn (pc' := 37) dX5_need_34 fl_X5_131 (tbk_51) rfl rfl ?_
    refine sw_icmp_ge (tgt := 67) (pc' := 40) dX5_need_37 (by decide) rfl (fun _ => ?_) (fun _ => ?_)
    · refine sw_iload_n (pc' := 41) dX5_need_40 rfl rfl ?_
      refine sw_if_eq (tgt := 59) (pc' := 44) dX5_need_41 (by decide) rfl (fun _ => ?_) (fun _ => ?_)
      · refine sw_msk [true, true, false, true] rfl ?_
        exact s_X5_need_59 k10 (f_X5_need_32 k10 n) hk10 (ih) x1 x3 σ
      · refine sw_aload_n (pc' := 45) dX5_need_44 rfl rfl ?_
        refine sw_sipush (pc' := 48) dX5_need_45 rfl rfl ?_
        refine sw_iload_n (pc' := 49) dX5_need_48 rfl rfl ?_
        refine sw_callVB (pc' := 52) (As := [vi 275, vi x3]) (rest := []) dX5_need_49 cv_X5_176 (tbk_51) (m_X5_standsOn 275 x3 σ) rfl rfl rfl rfl rfl (fun v49 s49 => ?_)
        refine sw_bif_eq (tgt := 59) (pc' := 55) dX5_need_52 (by decide) rfl (fun _ => ?_) (fun _ => ?_)
        · refine sw_iconst (pc' := 56) dX5_need_55 rfl ?_
          refine sw_goto (pc' := 60) dX5_need_56 (by decide) ?_
          refine sw_msk [true, true, false, true] rfl ?_
          exact s_X5_need_60 k10 (f_X5_need_32 k10 n) hk10 (ih) x1 x3 1 s49
        · refine sw_msk [true, true, false, true] rfl ?_
          exact s_X5_need_59 k10 (f_X5_need_32 k10 n) hk10 (ih) x1 x3 s49
    · refine sw_iload_n (pc' := 68) dX5_need_67 rfl rfl ?_
      refine sw_if_eq (tgt := 73) (pc' := 71) dX5_need_68 (by decide) rfl (fun _ => ?_) (fun _ => ?_)
      · refine sw_iinc (pc' := 76) (x := x1) (L' := [some (.ref (ad G 51)), some (vi (x1 + 1)), some (vi x2), some (vi x3)]) dX5_need_73 rfl (by decide) rfl rfl rfl ?_
        refine sw_goto (pc' := 10) dX5_need_76 (by decide) ?_
        refine sw_msk [true, true, false, false] rfl ?_
        exact hk10 (x1 + 1) σ
      · refine sw_iload_n (pc' := 72) dX5_need_71 rfl rfl ?_
        exact sw_iret dX5_need_72
def f_X5_need_10   : Nat → Int → St → Option (Int × St)
  | 0, _, _ => none
  | n + 1, x1, σ =>
    if wr 99 < wr x1 then
      some ((-4), σ)
    else
      bV (sv σ 52 330 290 (x1 - 25)) fun s27 => f_X5_need_32 (f_X5_need_10 n) FU x1 1 0 s27
set_option maxRecDepth 20000 in
theorem s_X5_need_10     : ∀ (n : Nat) (x1 : Int) (σ : St), SW G l RX5 cX5_need 4 rm_X5_need wI 10 [some (.ref (ad G 51)), some (vi x1), none, none] [] σ (f_X5_need_10 n x1 σ) := by
  intro n
  induction n with
  | zero => intro x1 σ; exact sw_none
  | succ n ih =>
    intro x1 σ
    rw [f_X5_need_10]
    refine sw_iload_n (pc' := 11) dX5_need_10 rfl rfl ?_
    refine sw_bipush (pc' := 13) dX5_need_11 rfl rfl ?_
    refine sw_icmp_gt (tgt := 79) (pc' := 16) dX5_need_13 (by decide) rfl (fun _ => ?_) (fun _ => ?_)
    · refine sw_bipush (pc' := 81) dX5_need_79 rfl rfl ?_
      exact sw_iret dX5_need_81
    · refine sw_aload_n (pc' := 17) dX5_need_16 rfl rfl ?_
      refine sw_getr (pc' := 20) dX5_need_17 fl_X5_7 (tbk_51) rfl rfl ?_
      refine sw_sipush (pc' := 23) dX5_need_20 rfl rfl ?_
      refine sw_iload_n (pc' := 24) dX5_need_23 rfl rfl ?_
      refine sw_bipush (pc' := 26) dX5_need_24 rfl rfl ?_
      refine sw_isub (pc' := 27) dX5_need_26 rfl ?_
      refine sw_iast (pc' := 28) dX5_need_27 (tbk_52) rfl (fun s27 => ?_)
      refine sw_iconst (pc' := 29) dX5_need_28 rfl ?_
      refine sw_istore_n (pc' := 30) (x := 1) (L' := [some (.ref (ad G 51)), some (vi x1), some (vi 1), none]) dX5_need_29 rfl (by decide) rfl rfl ?_
      refine sw_iconst (pc' := 31) dX5_need_30 rfl ?_
      refine sw_istore_n (pc' := 32) (x := 0) (L' := [some (.ref (ad G 51)), some (vi x1), some (vi 1), some (vi 0)]) dX5_need_31 rfl (by decide) rfl rfl ?_
      exact s_X5_need_32 (f_X5_need_10 n) (ih) FU x1 1 0 s27
def f_X5_need  (σ : St) : Option (Int × St) :=
  bV (f_X5_copies 0 275 σ) fun s5 => f_X5_need_10 FU 1 s5
set_option maxRecDepth 20000 in
theorem m_X5_need   (σ : St) : MT G l yX5_need cX5_need 4 (some .int) rm_X5_need [.ref (ad G 51)] wI σ (f_X5_need σ) := by
  refine mt_I (L := [some (.ref (ad G 51)), none, none, none]) rfl (Nat.le_of_ble_eq_true rfl) rfl ?_
  show SW G l RX5 cX5_need 4 rm_X5_need wI 0 [some (.ref (ad G 51)), none, none, none] [] σ (f_X5_need σ)
  unfold f_X5_need
  refine sw_aload_n (pc' := 1) dX5_need_0 rfl rfl ?_
  refine sw_iconst (pc' := 2) dX5_need_1 rfl ?_
  refine sw_sipush (pc' := 5) dX5_need_2 rfl rfl ?_
  refine sw_callVV (pc' := 8) (As := [vi 0, vi 275]) (rest := []) dX5_need_5 cv_X5_216 (tbk_51) (m_X5_copies 0 275 σ) rfl rfl rfl rfl rfl (fun s5 => ?_)
  refine sw_iconst (pc' := 9) dX5_need_8 rfl ?_
  refine sw_istore_n (pc' := 10) (x := 1) (L' := [some (.ref (ad G 51)), some (vi 1), none, none]) dX5_need_9 rfl (by decide) rfl rfl ?_
  exact s_X5_need_10 FU 1 s5
def rm_X5_liar : Room := { frames := 6, cells := 0, slots := 0, locals := 139 }
def f_X5_liar_101  (k38 : Int → Int → Int → Int → Int → St → Option (Int × St)) (x1 x2 x4 x5 t0 : Int) (σ : St) : Option (Int × St) :=
  k38 x1 x2 t0 x4 (x5 + 1) σ
set_option maxRecDepth 20000 in
theorem s_X5_liar_101   (k38 : Int → Int → Int → Int → Int → St → Option (Int × St)) (hk38 : ∀ (x1 x2 x3 x4 x5 : Int) (σ : St), SW G l RX5 cX5_liar 7 rm_X5_liar wI 38 [some (.ref (ad G 51)), some (vi x1), some (vi x2), some (vi x3), some (vi x4), some (vi x5), none] [] σ (k38 x1 x2 x3 x4 x5 σ)) (x1 x2 x4 x5 t0 : Int) (σ : St) : SW G l RX5 cX5_liar 7 rm_X5_liar wI 101 [some (.ref (ad G 51)), some (vi x1), some (vi x2), none, some (vi x4), some (vi x5), none] [vi t0] σ (f_X5_liar_101 k38 x1 x2 x4 x5 t0 σ) := by
  unfold f_X5_liar_101
  refine sw_istore_n (pc' := 102) (x := t0) (L' := [some (.ref (ad G 51)), some (vi x1), some (vi x2), some (vi t0), some (vi x4), some (vi x5), none]) dX5_liar_101 rfl (by decide) rfl rfl ?_
  refine sw_iinc (pc' := 105) (x := x5) (L' := [some (.ref (ad G 51)), some (vi x1), some (vi x2), some (vi t0), some (vi x4), some (vi (x5 + 1)), none]) dX5_liar_102 rfl (by decide) rfl rfl rfl ?_
  refine sw_goto (pc' := 38) dX5_liar_105 (by decide) ?_
  exact hk38 x1 x2 t0 x4 (x5 + 1) σ
def f_X5_liar_87  (k38 : Int → Int → Int → Int → Int → St → Option (Int × St)) (x1 x2 x3 x5 x6 t0 : Int) (σ : St) : Option (Int × St) :=
  if wr x6 < wr x3 then
    f_X5_liar_101 k38 x1 x2 t0 x5 x6 σ
  else
    f_X5_liar_101 k38 x1 x2 t0 x5 x3 σ
set_option maxRecDepth 20000 in
theorem s_X5_liar_87   (k38 : Int → Int → Int → Int → Int → St → Option (Int × St)) (hk38 : ∀ (x1 x2 x3 x4 x5 : Int) (σ : St), SW G l RX5 cX5_liar 7 rm_X5_liar wI 38 [some (.ref (ad G 51)), some (vi x1), some (vi x2), some (vi x3), some (vi x4), some (vi x5), none] [] σ (k38 x1 x2 x3 x4 x5 σ)) (x1 x2 x3 x5 x6 t0 : Int) (σ : St) : SW G l RX5 cX5_liar 7 rm_X5_liar wI 87 [some (.ref (ad G 51)), some (vi x1), some (vi x2), some (vi x3), none, some (vi x5), some (vi x6)] [vi t0] σ (f_X5_liar_87 k38 x1 x2 x3 x5 x6 t0 σ) := by
  unfold f_X5_liar_87
  refine sw_istore (pc' := 89) (x := t0) (L' := [some (.ref (ad G 51)), some (vi x1), some (vi x2), some (vi x3), some (vi t0), some (vi x5), some (vi x6)]) dX5_liar_87 rfl (by decide) rfl rfl ?_
  refine sw_iload (pc' := 91) dX5_liar_89 rfl rfl ?_
  refine sw_iload_n (pc' := 92) dX5_liar_91 rfl rfl ?_
  refine sw_icmp_ge (tgt := 100) (pc' := 95) dX5_liar_92 (by decide) rfl (fun _ => ?_) (fun _ => ?_)
  · refine sw_iload (pc' := 97) dX5_liar_95 rfl rfl ?_
    refine sw_goto (pc' := 101) dX5_liar_97 (by decide) ?_
    refine sw_msk [true, true, true, false, true, true, false] rfl ?_
    exact s_X5_liar_101 k38 hk38 x1 x2 t0 x5 x6 σ
  · refine sw_iload_n (pc' := 101) dX5_liar_100 rfl rfl ?_
    refine sw_msk [true, true, true, false, true, true, false] rfl ?_
    exact s_X5_liar_101 k38 hk38 x1 x2 t0 x5 x3 σ
def f_X5_liar_119   (x4 : Int) (σ : St) : Option (Int × St) :=
  some (x4, σ)
set_option maxRecDepth 20000 in
theorem s_X5_liar_119     (x4 : Int) (σ : St) : SW G l RX5 cX5_liar 7 rm_X5_liar wI 119 [none, none, none, none, some (vi x4), none, none] [] σ (f_X5_liar_119 x4 σ) := by
  unfold f_X5_liar_119
  refine sw_iload (pc' := 121) dX5_liar_119 rfl rfl ?_
  refine sw_goto (pc' := 125) dX5_liar_121 (by decide) ?_
  exact sw_iret dX5_liar_125
def f_X5_liar_38   : Nat → Int → Int → Int → Int → Int → St → Option (Int × St)
  | 0, _, _, _, _, _, _ => none
  | n + 1, x1, x2, x3, x4, x5, σ =>
    if wr x5 < wr 4 then
      bV (f_X5_copies 0 275 σ) fun s49 => bV (sv s49 52 330 (291 + x5) (-1)) fun s63 => bI (f_X5_daysGo 275 x1 s63) fun v69 s69 => if wr v69 < wr x3 then
        f_X5_liar_87 (f_X5_liar_38 n) x1 x2 x3 x5 v69 x5 s69
      else
        f_X5_liar_87 (f_X5_liar_38 n) x1 x2 x3 x5 v69 x4 s69
    else
      if wr x4 = wr (-4) then
        f_X5_liar_119 x4 σ
      else
        if wr x2 = 0 then
          f_X5_liar_119 x4 σ
        else
          some (x3, σ)
set_option maxRecDepth 20000 in
theorem s_X5_liar_38     : ∀ (n : Nat) (x1 x2 x3 x4 x5 : Int) (σ : St), SW G l RX5 cX5_liar 7 rm_X5_liar wI 38 [some (.ref (ad G 51)), some (vi x1), some (vi x2), some (vi x3), some (vi x4), some (vi x5), none] [] σ (f_X5_liar_38 n x1 x2 x3 x4 x5 σ) := by
  intro n
  induction n with
  | zero => intro x1 x2 x3 x4 x5 σ; exact sw_none
  | succ n ih =>
    intro x1 x2 x3 x4 x5 σ
    rw [f_X5_liar_38]
    refine sw_iload (pc' := 40) dX5_liar_38 rfl rfl ?_
    refine sw_iconst (pc' := 41) dX5_liar_40 rfl ?_
    refine sw_icmp_ge (tgt := 108) (pc' := 44) dX5_liar_41 (by decide) rfl (fun _ => ?_) (fun _ => ?_)
    · refine sw_aload_n (pc' := 45) dX5_liar_44 rfl rfl ?_
      refine sw_iconst (pc' := 46) dX5_liar_45 rfl ?_
      refine sw_sipush (pc' := 49) dX5_liar_46 rfl rfl ?_
      refine sw_callVV (pc' := 52) (As := [vi 0, vi 275]) (rest := []) dX5_liar_49 cv_X5_216 (tbk_51) (m_X5_copies 0 275 σ) rfl rfl rfl rfl rfl (fun s49 => ?_)
      refine sw_aload_n (pc' := 53) dX5_liar_52 rfl rfl ?_
      refine sw_getr (pc' := 56) dX5_liar_53 fl_X5_7 (tbk_51) rfl rfl ?_
      refine sw_sipush (pc' := 59) dX5_liar_56 rfl rfl ?_
      refine sw_iload (pc' := 61) dX5_liar_59 rfl rfl ?_
      refine sw_iadd (pc' := 62) dX5_liar_61 rfl ?_
      refine sw_iconst (pc' := 63) dX5_liar_62 rfl ?_
      refine sw_iast (pc' := 64) dX5_liar_63 (tbk_52) rfl (fun s63 => ?_)
      refine sw_aload_n (pc' := 65) dX5_liar_64 rfl rfl ?_
      refine sw_sipush (pc' := 68) dX5_liar_65 rfl rfl ?_
      refine sw_iload_n (pc' := 69) dX5_liar_68 rfl rfl ?_
      refine sw_callVI (pc' := 72) (As := [vi 275, vi x1]) (rest := []) dX5_liar_69 cv_X5_228 (tbk_51) (m_X5_daysGo 275 x1 s63) rfl rfl rfl rfl rfl (fun v69 s69 => ?_)
      refine sw_istore (pc' := 74) (x := v69) (L' := [some (.ref (ad G 51)), some (vi x1), some (vi x2), some (vi x3), some (vi x4), some (vi x5), some (vi v69)]) dX5_liar_72 rfl (by decide) rfl rfl ?_
      refine sw_iload (pc' := 76) dX5_liar_74 rfl rfl ?_
      refine sw_iload_n (pc' := 77) dX5_liar_76 rfl rfl ?_
      refine sw_icmp_ge (tgt := 85) (pc' := 80) dX5_liar_77 (by decide) rfl (fun _ => ?_) (fun _ => ?_)
      · refine sw_iload (pc' := 82) dX5_liar_80 rfl rfl ?_
        refine sw_goto (pc' := 87) dX5_liar_82 (by decide) ?_
        refine sw_msk [true, true, true, true, false, true, true] rfl ?_
        exact s_X5_liar_87 (f_X5_liar_38 n) (ih) x1 x2 x3 x5 v69 x5 s69
      · refine sw_iload (pc' := 87) dX5_liar_85 rfl rfl ?_
        refine sw_msk [true, true, true, true, false, true, true] rfl ?_
        exact s_X5_liar_87 (f_X5_liar_38 n) (ih) x1 x2 x3 x5 v69 x4 s69
    · refine sw_iload (pc' := 110) dX5_liar_108 rfl rfl ?_
      refine sw_bipush (pc' := 112) dX5_liar_110 rfl rfl ?_
      refine sw_icmp_eq (tgt := 119) (pc' := 115) dX5_liar_112 (by decide) rfl (fun _ => ?_) (fun _ => ?_)
      · refine sw_msk [false, false, false, false, true, false, false] rfl ?_
        exact s_X5_liar_119 x4 σ
      · refine sw_iload_n (pc' := 116) dX5_liar_115 rfl rfl ?_
        refine sw_if_ne (tgt := 124) (pc' := 119) dX5_liar_116 (by decide) rfl (fun _ => ?_) (fun _ => ?_)
        · refine sw_msk [false, false, false, false, true, false, false] rfl ?_
          exact s_X5_liar_119 x4 σ
        · refine sw_iload_n (pc' := 125) dX5_liar_124 rfl rfl ?_
          exact sw_iret dX5_liar_125
def f_X5_liar (x1 : Int) (x2 : Int) (σ : St) : Option (Int × St) :=
  bI (f_X5_in (wr x1) 0 60 σ) fun v6 s6 => if v6 then
    bI (f_X5_in (wr x2) 0 1 s6) fun v16 s16 => if v16 then
      bI (f_X5_daysGo 0 x1 s16) fun v27 s27 => f_X5_liar_38 FU x1 x2 v27 (-4) 0 s27
    else
      some ((-1), s16)
  else
    some ((-1), s6)
set_option maxRecDepth 20000 in
theorem m_X5_liar (x1 : Int) (x2 : Int)  (σ : St) : MT G l yX5_liar cX5_liar 7 (some .int) rm_X5_liar [.ref (ad G 51), vi x1, vi x2] wI σ (f_X5_liar x1 x2 σ) := by
  refine mt_I (L := [some (.ref (ad G 51)), some (vi x1), some (vi x2), none, none, none, none]) rfl (Nat.le_of_ble_eq_true rfl) rfl ?_
  show SW G l RX5 cX5_liar 7 rm_X5_liar wI 0 [some (.ref (ad G 51)), some (vi x1), some (vi x2), none, none, none, none] [] σ (f_X5_liar x1 x2 σ)
  unfold f_X5_liar
  refine sw_iload_n (pc' := 1) dX5_liar_0 rfl rfl ?_
  refine sw_i2l (pc' := 2) dX5_liar_1 rfl ?_
  refine sw_lconst (x := 0) (pc' := 3) dX5_liar_2 rfl rfl ?_
  refine sw_ldc2 (n := 60) (pc' := 6) dX5_liar_3 kl_X5_226 rfl ?_
  refine sw_callSB (pc' := 9) (As := [vl (wr x1), vl 0, vl 60]) (rest := []) dX5_liar_6 cs_X5_46 (m_X5_in (wr x1) 0 60 σ) rfl rfl rfl rfl rfl (fun v6 s6 => ?_)
  refine sw_bif_eq (tgt := 22) (pc' := 12) dX5_liar_9 (by decide) rfl (fun _ => ?_) (fun _ => ?_)
  · refine sw_iload_n (pc' := 13) dX5_liar_12 rfl rfl ?_
    refine sw_i2l (pc' := 14) dX5_liar_13 rfl ?_
    refine sw_lconst (x := 0) (pc' := 15) dX5_liar_14 rfl rfl ?_
    refine sw_lconst (x := 1) (pc' := 16) dX5_liar_15 rfl rfl ?_
    refine sw_callSB (pc' := 19) (As := [vl (wr x2), vl 0, vl 1]) (rest := []) dX5_liar_16 cs_X5_46 (m_X5_in (wr x2) 0 1 s6) rfl rfl rfl rfl rfl (fun v16 s16 => ?_)
    refine sw_bif_ne (tgt := 24) (pc' := 22) dX5_liar_19 (by decide) rfl (fun _ => ?_) (fun _ => ?_)
    · refine sw_aload_n (pc' := 25) dX5_liar_24 rfl rfl ?_
      refine sw_iconst (pc' := 26) dX5_liar_25 rfl ?_
      refine sw_iload_n (pc' := 27) dX5_liar_26 rfl rfl ?_
      refine sw_callVI (pc' := 30) (As := [vi 0, vi x1]) (rest := []) dX5_liar_27 cv_X5_228 (tbk_51) (m_X5_daysGo 0 x1 s16) rfl rfl rfl rfl rfl (fun v27 s27 => ?_)
      refine sw_istore_n (pc' := 31) (x := v27) (L' := [some (.ref (ad G 51)), some (vi x1), some (vi x2), some (vi v27), none, none, none]) dX5_liar_30 rfl (by decide) rfl rfl ?_
      refine sw_bipush (pc' := 33) dX5_liar_31 rfl rfl ?_
      refine sw_istore (pc' := 35) (x := (-4)) (L' := [some (.ref (ad G 51)), some (vi x1), some (vi x2), some (vi v27), some (vi (-4)), none, none]) dX5_liar_33 rfl (by decide) rfl rfl ?_
      refine sw_iconst (pc' := 36) dX5_liar_35 rfl ?_
      refine sw_istore (pc' := 38) (x := 0) (L' := [some (.ref (ad G 51)), some (vi x1), some (vi x2), some (vi v27), some (vi (-4)), some (vi 0), none]) dX5_liar_36 rfl (by decide) rfl rfl ?_
      exact s_X5_liar_38 FU x1 x2 v27 (-4) 0 s27
    · refine sw_iconst (pc' := 23) dX5_liar_22 rfl ?_
      exact sw_iret dX5_liar_23
  · refine sw_iconst (pc' := 23) dX5_liar_22 rfl ?_
    exact sw_iret dX5_liar_23
def rm_X5_agreeBehind : Room := { frames := 6, cells := 0, slots := 0, locals := 139 }
def f_X5_agreeBehind (x1 : Int) (x2 : Int) (σ : St) : Option (Int × St) :=
  bI (f_X5_daysGo x1 x2 σ) fun v3 s3 => bI (f_X5_agreeOn 220 s3) fun v11 s11 => bI (f_X5_bitsOf v11 s11) fun v14 s14 => some (v14, s14)
set_option maxRecDepth 20000 in
theorem m_X5_agreeBehind (x1 : Int) (x2 : Int)  (σ : St) : MT G l yX5_agreeBehind cX5_agreeBehind 3 (some .int) rm_X5_agreeBehind [.ref (ad G 51), vi x1, vi x2] wI σ (f_X5_agreeBehind x1 x2 σ) := by
  refine mt_I (L := [some (.ref (ad G 51)), some (vi x1), some (vi x2)]) rfl (Nat.le_of_ble_eq_true rfl) rfl ?_
  show SW G l RX5 cX5_agreeBehind 3 rm_X5_agreeBehind wI 0 [some (.ref (ad G 51)), some (vi x1), some (vi x2)] [] σ (f_X5_agreeBehind x1 x2 σ)
  unfold f_X5_agreeBehind
  refine sw_aload_n (pc' := 1) dX5_agreeBehind_0 rfl rfl ?_
  refine sw_iload_n (pc' := 2) dX5_agreeBehind_1 rfl rfl ?_
  refine sw_iload_n (pc' := 3) dX5_agreeBehind_2 rfl rfl ?_
  refine sw_callVI (pc' := 6) (As := [vi x1, vi x2]) (rest := []) dX5_agreeBehind_3 cv_X5_228 (tbk_51) (m_X5_daysGo x1 x2 σ) rfl rfl rfl rfl rfl (fun v3 s3 => ?_)
  refine sw_pop (pc' := 7) dX5_agreeBehind_6 rfl rfl ?_
  refine sw_aload_n (pc' := 8) dX5_agreeBehind_7 rfl rfl ?_
  refine sw_sipush (pc' := 11) dX5_agreeBehind_8 rfl rfl ?_
  refine sw_callVI (pc' := 14) (As := [vi 220]) (rest := []) dX5_agreeBehind_11 cv_X5_179 (tbk_51) (m_X5_agreeOn 220 s3) rfl rfl rfl rfl rfl (fun v11 s11 => ?_)
  refine sw_callSI (pc' := 17) (As := [vi v11]) (rest := []) dX5_agreeBehind_14 cs_X5_231 (m_X5_bitsOf v11 s11) rfl rfl rfl rfl rfl (fun v14 s14 => ?_)
  exact sw_iret dX5_agreeBehind_17
def rm_X5_lose : Room := { frames := 7, cells := 0, slots := 0, locals := 161 }
def f_X5_lose_98  (k38 : Int → Int → Int → Int → Int → St → Option (Int × St)) (x1 x2 x4 x5 t0 : Int) (σ : St) : Option (Int × St) :=
  k38 x1 x2 t0 x4 (x5 + 1) σ
set_option maxRecDepth 20000 in
theorem s_X5_lose_98   (k38 : Int → Int → Int → Int → Int → St → Option (Int × St)) (hk38 : ∀ (x1 x2 x3 x4 x5 : Int) (σ : St), SW G l RX5 cX5_lose 7 rm_X5_lose wI 38 [some (.ref (ad G 51)), some (vi x1), some (vi x2), some (vi x3), some (vi x4), some (vi x5), none] [] σ (k38 x1 x2 x3 x4 x5 σ)) (x1 x2 x4 x5 t0 : Int) (σ : St) : SW G l RX5 cX5_lose 7 rm_X5_lose wI 98 [some (.ref (ad G 51)), some (vi x1), some (vi x2), none, some (vi x4), some (vi x5), none] [vi t0] σ (f_X5_lose_98 k38 x1 x2 x4 x5 t0 σ) := by
  unfold f_X5_lose_98
  refine sw_istore_n (pc' := 99) (x := t0) (L' := [some (.ref (ad G 51)), some (vi x1), some (vi x2), some (vi t0), some (vi x4), some (vi x5), none]) dX5_lose_98 rfl (by decide) rfl rfl ?_
  refine sw_iinc (pc' := 102) (x := x5) (L' := [some (.ref (ad G 51)), some (vi x1), some (vi x2), some (vi t0), some (vi x4), some (vi (x5 + 1)), none]) dX5_lose_99 rfl (by decide) rfl rfl rfl ?_
  refine sw_goto (pc' := 38) dX5_lose_102 (by decide) ?_
  exact hk38 x1 x2 t0 x4 (x5 + 1) σ
def f_X5_lose_84  (k38 : Int → Int → Int → Int → Int → St → Option (Int × St)) (x1 x2 x3 x5 x6 t0 : Int) (σ : St) : Option (Int × St) :=
  if wr x3 < wr x6 then
    f_X5_lose_98 k38 x1 x2 t0 x5 x6 σ
  else
    f_X5_lose_98 k38 x1 x2 t0 x5 x3 σ
set_option maxRecDepth 20000 in
theorem s_X5_lose_84   (k38 : Int → Int → Int → Int → Int → St → Option (Int × St)) (hk38 : ∀ (x1 x2 x3 x4 x5 : Int) (σ : St), SW G l RX5 cX5_lose 7 rm_X5_lose wI 38 [some (.ref (ad G 51)), some (vi x1), some (vi x2), some (vi x3), some (vi x4), some (vi x5), none] [] σ (k38 x1 x2 x3 x4 x5 σ)) (x1 x2 x3 x5 x6 t0 : Int) (σ : St) : SW G l RX5 cX5_lose 7 rm_X5_lose wI 84 [some (.ref (ad G 51)), some (vi x1), some (vi x2), some (vi x3), none, some (vi x5), some (vi x6)] [vi t0] σ (f_X5_lose_84 k38 x1 x2 x3 x5 x6 t0 σ) := by
  unfold f_X5_lose_84
  refine sw_istore (pc' := 86) (x := t0) (L' := [some (.ref (ad G 51)), some (vi x1), some (vi x2), some (vi x3), some (vi t0), some (vi x5), some (vi x6)]) dX5_lose_84 rfl (by decide) rfl rfl ?_
  refine sw_iload (pc' := 88) dX5_lose_86 rfl rfl ?_
  refine sw_iload_n (pc' := 89) dX5_lose_88 rfl rfl ?_
  refine sw_icmp_le (tgt := 97) (pc' := 92) dX5_lose_89 (by decide) rfl (fun _ => ?_) (fun _ => ?_)
  · refine sw_iload (pc' := 94) dX5_lose_92 rfl rfl ?_
    refine sw_goto (pc' := 98) dX5_lose_94 (by decide) ?_
    refine sw_msk [true, true, true, false, true, true, false] rfl ?_
    exact s_X5_lose_98 k38 hk38 x1 x2 t0 x5 x6 σ
  · refine sw_iload_n (pc' := 98) dX5_lose_97 rfl rfl ?_
    refine sw_msk [true, true, true, false, true, true, false] rfl ?_
    exact s_X5_lose_98 k38 hk38 x1 x2 t0 x5 x3 σ
def f_X5_lose_116   (x4 : Int) (σ : St) : Option (Int × St) :=
  some (x4, σ)
set_option maxRecDepth 20000 in
theorem s_X5_lose_116     (x4 : Int) (σ : St) : SW G l RX5 cX5_lose 7 rm_X5_lose wI 116 [none, none, none, none, some (vi x4), none, none] [] σ (f_X5_lose_116 x4 σ) := by
  unfold f_X5_lose_116
  refine sw_iload (pc' := 118) dX5_lose_116 rfl rfl ?_
  refine sw_goto (pc' := 122) dX5_lose_118 (by decide) ?_
  exact sw_iret dX5_lose_122
def f_X5_lose_38   : Nat → Int → Int → Int → Int → Int → St → Option (Int × St)
  | 0, _, _, _, _, _, _ => none
  | n + 1, x1, x2, x3, x4, x5, σ =>
    bV (ld σ 52 330 52) fun v46 => if wr x5 < wr v46 then
      bV (pf σ 51 18 (isl 1 x5)) fun s55 => bI (f_X5_agreeBehind 0 x1 s55) fun v61 s61 => bV (pf s61 51 18 0) fun s68 => if wr x3 < wr v61 then
        f_X5_lose_84 (f_X5_lose_38 n) x1 x2 x3 x5 v61 x5 s68
      else
        f_X5_lose_84 (f_X5_lose_38 n) x1 x2 x3 x5 v61 x4 s68
    else
      if wr x4 = wr (-4) then
        f_X5_lose_116 x4 σ
      else
        if wr x2 = 0 then
          f_X5_lose_116 x4 σ
        else
          some (x3, σ)
set_option maxRecDepth 20000 in
theorem s_X5_lose_38     : ∀ (n : Nat) (x1 x2 x3 x4 x5 : Int) (σ : St), SW G l RX5 cX5_lose 7 rm_X5_lose wI 38 [some (.ref (ad G 51)), some (vi x1), some (vi x2), some (vi x3), some (vi x4), some (vi x5), none] [] σ (f_X5_lose_38 n x1 x2 x3 x4 x5 σ) := by
  intro n
  induction n with
  | zero => intro x1 x2 x3 x4 x5 σ; exact sw_none
  | succ n ih =>
    intro x1 x2 x3 x4 x5 σ
    rw [f_X5_lose_38]
    refine sw_iload (pc' := 40) dX5_lose_38 rfl rfl ?_
    refine sw_aload_n (pc' := 41) dX5_lose_40 rfl rfl ?_
    refine sw_getr (pc' := 44) dX5_lose_41 fl_X5_7 (tbk_51) rfl rfl ?_
    refine sw_bipush (pc' := 46) dX5_lose_44 rfl rfl ?_
    refine sw_iald (pc' := 47) dX5_lose_46 (tbk_52) rfl (fun v46 => ?_)
    refine sw_icmp_ge (tgt := 105) (pc' := 50) dX5_lose_47 (by decide) rfl (fun _ => ?_) (fun _ => ?_)
    · refine sw_aload_n (pc' := 51) dX5_lose_50 rfl rfl ?_
      refine sw_iconst (pc' := 52) dX5_lose_51 rfl ?_
      refine sw_iload (pc' := 54) dX5_lose_52 rfl rfl ?_
      refine sw_ishl (pc' := 55) dX5_lose_54 rfl ?_
      refine sw_putI (pc' := 58) dX5_lose_55 fp_X5_149 (tbk_51) rfl rfl (fun s55 => ?_)
      refine sw_aload_n (pc' := 59) dX5_lose_58 rfl rfl ?_
      refine sw_iconst (pc' := 60) dX5_lose_59 rfl ?_
      refine sw_iload_n (pc' := 61) dX5_lose_60 rfl rfl ?_
      refine sw_callVI (pc' := 64) (As := [vi 0, vi x1]) (rest := []) dX5_lose_61 cv_X5_234 (tbk_51) (m_X5_agreeBehind 0 x1 s55) rfl rfl rfl rfl rfl (fun v61 s61 => ?_)
      refine sw_istore (pc' := 66) (x := v61) (L' := [some (.ref (ad G 51)), some (vi x1), some (vi x2), some (vi x3), some (vi x4), some (vi x5), some (vi v61)]) dX5_lose_64 rfl (by decide) rfl rfl ?_
      refine sw_aload_n (pc' := 67) dX5_lose_66 rfl rfl ?_
      refine sw_iconst (pc' := 68) dX5_lose_67 rfl ?_
      refine sw_putI (pc' := 71) dX5_lose_68 fp_X5_149 (tbk_51) rfl rfl (fun s68 => ?_)
      refine sw_iload (pc' := 73) dX5_lose_71 rfl rfl ?_
      refine sw_iload_n (pc' := 74) dX5_lose_73 rfl rfl ?_
      refine sw_icmp_le (tgt := 82) (pc' := 77) dX5_lose_74 (by decide) rfl (fun _ => ?_) (fun _ => ?_)
      · refine sw_iload (pc' := 79) dX5_lose_77 rfl rfl ?_
        refine sw_goto (pc' := 84) dX5_lose_79 (by decide) ?_
        refine sw_msk [true, true, true, true, false, true, true] rfl ?_
        exact s_X5_lose_84 (f_X5_lose_38 n) (ih) x1 x2 x3 x5 v61 x5 s68
      · refine sw_iload (pc' := 84) dX5_lose_82 rfl rfl ?_
        refine sw_msk [true, true, true, true, false, true, true] rfl ?_
        exact s_X5_lose_84 (f_X5_lose_38 n) (ih) x1 x2 x3 x5 v61 x4 s68
    · refine sw_iload (pc' := 107) dX5_lose_105 rfl rfl ?_
      refine sw_bipush (pc' := 109) dX5_lose_107 rfl rfl ?_
      refine sw_icmp_eq (tgt := 116) (pc' := 112) dX5_lose_109 (by decide) rfl (fun _ => ?_) (fun _ => ?_)
      · refine sw_msk [false, false, false, false, true, false, false] rfl ?_
        exact s_X5_lose_116 x4 σ
      · refine sw_iload_n (pc' := 113) dX5_lose_112 rfl rfl ?_
        refine sw_if_ne (tgt := 121) (pc' := 116) dX5_lose_113 (by decide) rfl (fun _ => ?_) (fun _ => ?_)
        · refine sw_msk [false, false, false, false, true, false, false] rfl ?_
          exact s_X5_lose_116 x4 σ
        · refine sw_iload_n (pc' := 122) dX5_lose_121 rfl rfl ?_
          exact sw_iret dX5_lose_122
def f_X5_lose (x1 : Int) (x2 : Int) (σ : St) : Option (Int × St) :=
  bI (f_X5_in (wr x1) 0 60 σ) fun v6 s6 => if v6 then
    bI (f_X5_in (wr x2) 0 1 s6) fun v16 s16 => if v16 then
      bI (f_X5_agreeBehind 0 x1 s16) fun v27 s27 => f_X5_lose_38 FU x1 x2 v27 (-4) 0 s27
    else
      some ((-1), s16)
  else
    some ((-1), s6)
set_option maxRecDepth 20000 in
theorem m_X5_lose (x1 : Int) (x2 : Int)  (σ : St) : MT G l yX5_lose cX5_lose 7 (some .int) rm_X5_lose [.ref (ad G 51), vi x1, vi x2] wI σ (f_X5_lose x1 x2 σ) := by
  refine mt_I (L := [some (.ref (ad G 51)), some (vi x1), some (vi x2), none, none, none, none]) rfl (Nat.le_of_ble_eq_true rfl) rfl ?_
  show SW G l RX5 cX5_lose 7 rm_X5_lose wI 0 [some (.ref (ad G 51)), some (vi x1), some (vi x2), none, none, none, none] [] σ (f_X5_lose x1 x2 σ)
  unfold f_X5_lose
  refine sw_iload_n (pc' := 1) dX5_lose_0 rfl rfl ?_
  refine sw_i2l (pc' := 2) dX5_lose_1 rfl ?_
  refine sw_lconst (x := 0) (pc' := 3) dX5_lose_2 rfl rfl ?_
  refine sw_ldc2 (n := 60) (pc' := 6) dX5_lose_3 kl_X5_226 rfl ?_
  refine sw_callSB (pc' := 9) (As := [vl (wr x1), vl 0, vl 60]) (rest := []) dX5_lose_6 cs_X5_46 (m_X5_in (wr x1) 0 60 σ) rfl rfl rfl rfl rfl (fun v6 s6 => ?_)
  refine sw_bif_eq (tgt := 22) (pc' := 12) dX5_lose_9 (by decide) rfl (fun _ => ?_) (fun _ => ?_)
  · refine sw_iload_n (pc' := 13) dX5_lose_12 rfl rfl ?_
    refine sw_i2l (pc' := 14) dX5_lose_13 rfl ?_
    refine sw_lconst (x := 0) (pc' := 15) dX5_lose_14 rfl rfl ?_
    refine sw_lconst (x := 1) (pc' := 16) dX5_lose_15 rfl rfl ?_
    refine sw_callSB (pc' := 19) (As := [vl (wr x2), vl 0, vl 1]) (rest := []) dX5_lose_16 cs_X5_46 (m_X5_in (wr x2) 0 1 s6) rfl rfl rfl rfl rfl (fun v16 s16 => ?_)
    refine sw_bif_ne (tgt := 24) (pc' := 22) dX5_lose_19 (by decide) rfl (fun _ => ?_) (fun _ => ?_)
    · refine sw_aload_n (pc' := 25) dX5_lose_24 rfl rfl ?_
      refine sw_iconst (pc' := 26) dX5_lose_25 rfl ?_
      refine sw_iload_n (pc' := 27) dX5_lose_26 rfl rfl ?_
      refine sw_callVI (pc' := 30) (As := [vi 0, vi x1]) (rest := []) dX5_lose_27 cv_X5_234 (tbk_51) (m_X5_agreeBehind 0 x1 s16) rfl rfl rfl rfl rfl (fun v27 s27 => ?_)
      refine sw_istore_n (pc' := 31) (x := v27) (L' := [some (.ref (ad G 51)), some (vi x1), some (vi x2), some (vi v27), none, none, none]) dX5_lose_30 rfl (by decide) rfl rfl ?_
      refine sw_bipush (pc' := 33) dX5_lose_31 rfl rfl ?_
      refine sw_istore (pc' := 35) (x := (-4)) (L' := [some (.ref (ad G 51)), some (vi x1), some (vi x2), some (vi v27), some (vi (-4)), none, none]) dX5_lose_33 rfl (by decide) rfl rfl ?_
      refine sw_iconst (pc' := 36) dX5_lose_35 rfl ?_
      refine sw_istore (pc' := 38) (x := 0) (L' := [some (.ref (ad G 51)), some (vi x1), some (vi x2), some (vi v27), some (vi (-4)), some (vi 0), none]) dX5_lose_36 rfl (by decide) rfl rfl ?_
      exact s_X5_lose_38 FU x1 x2 v27 (-4) 0 s27
    · refine sw_iconst (pc' := 23) dX5_lose_22 rfl ?_
      exact sw_iret dX5_lose_23
  · refine sw_iconst (pc' := 23) dX5_lose_22 rfl ?_
    exact sw_iret dX5_lose_23
end GEN
