section GEN
variable {G : Gh} {l : Launch}
def rm_X5_isReporter : Room := { frames := 1, cells := 0, slots := 0, locals := 25 }
def f_X5_isReporter (x0 : Int) (σ : St) : Option (Bool × St) :=
  bI (f_X5_in (wr x0) 0 3 σ) fun v6 s6 => some (v6, s6)
set_option maxRecDepth 20000 in
theorem m_X5_isReporter (x0 : Int)  (σ : St) : MT G l yX5_isReporter cX5_isReporter 1 (some .boolean) rm_X5_isReporter [vi x0] wB σ (f_X5_isReporter x0 σ) := by
  refine mt_B (L := [some (vi x0)]) rfl (Nat.le_of_ble_eq_true rfl) rfl ?_
  show SW G l RX5 cX5_isReporter 1 rm_X5_isReporter wB 0 [some (vi x0)] [] σ (f_X5_isReporter x0 σ)
  unfold f_X5_isReporter
  refine sw_iload_n (pc' := 1) dX5_isReporter_0 rfl rfl ?_
  refine sw_i2l (pc' := 2) dX5_isReporter_1 rfl ?_
  refine sw_lconst (x := 0) (pc' := 3) dX5_isReporter_2 rfl rfl ?_
  refine sw_ldc2 (n := 3) (pc' := 6) dX5_isReporter_3 kl_X5_91 rfl ?_
  refine sw_callSB (pc' := 9) (As := [vl (wr x0), vl 0, vl 3]) (rest := []) dX5_isReporter_6 cs_X5_46 (m_X5_in (wr x0) 0 3 σ) rfl rfl rfl rfl rfl (fun v6 s6 => ?_)
  exact sw_bret dX5_isReporter_9
def rm_X5_isEnd : Room := { frames := 1, cells := 0, slots := 0, locals := 25 }
def f_X5_isEnd (x0 : Int) (σ : St) : Option (Bool × St) :=
  bI (f_X5_in (wr x0) 0 3 σ) fun v6 s6 => some (v6, s6)
set_option maxRecDepth 20000 in
theorem m_X5_isEnd (x0 : Int)  (σ : St) : MT G l yX5_isEnd cX5_isEnd 1 (some .boolean) rm_X5_isEnd [vi x0] wB σ (f_X5_isEnd x0 σ) := by
  refine mt_B (L := [some (vi x0)]) rfl (Nat.le_of_ble_eq_true rfl) rfl ?_
  show SW G l RX5 cX5_isEnd 1 rm_X5_isEnd wB 0 [some (vi x0)] [] σ (f_X5_isEnd x0 σ)
  unfold f_X5_isEnd
  refine sw_iload_n (pc' := 1) dX5_isEnd_0 rfl rfl ?_
  refine sw_i2l (pc' := 2) dX5_isEnd_1 rfl ?_
  refine sw_lconst (x := 0) (pc' := 3) dX5_isEnd_2 rfl rfl ?_
  refine sw_ldc2 (n := 3) (pc' := 6) dX5_isEnd_3 kl_X5_91 rfl ?_
  refine sw_callSB (pc' := 9) (As := [vl (wr x0), vl 0, vl 3]) (rest := []) dX5_isEnd_6 cs_X5_46 (m_X5_in (wr x0) 0 3 σ) rfl rfl rfl rfl rfl (fun v6 s6 => ?_)
  exact sw_bret dX5_isEnd_9
def rm_X5_isDay : Room := { frames := 1, cells := 0, slots := 0, locals := 25 }
def f_X5_isDay (x0 : Int) (σ : St) : Option (Bool × St) :=
  bI (f_X5_in (wr x0) 0 99 σ) fun v6 s6 => some (v6, s6)
set_option maxRecDepth 20000 in
theorem m_X5_isDay (x0 : Int)  (σ : St) : MT G l yX5_isDay cX5_isDay 1 (some .boolean) rm_X5_isDay [vi x0] wB σ (f_X5_isDay x0 σ) := by
  refine mt_B (L := [some (vi x0)]) rfl (Nat.le_of_ble_eq_true rfl) rfl ?_
  show SW G l RX5 cX5_isDay 1 rm_X5_isDay wB 0 [some (vi x0)] [] σ (f_X5_isDay x0 σ)
  unfold f_X5_isDay
  refine sw_iload_n (pc' := 1) dX5_isDay_0 rfl rfl ?_
  refine sw_i2l (pc' := 2) dX5_isDay_1 rfl ?_
  refine sw_lconst (x := 0) (pc' := 3) dX5_isDay_2 rfl rfl ?_
  refine sw_ldc2 (n := 99) (pc' := 6) dX5_isDay_3 kl_X5_137 rfl ?_
  refine sw_callSB (pc' := 9) (As := [vl (wr x0), vl 0, vl 99]) (rest := []) dX5_isDay_6 cs_X5_46 (m_X5_in (wr x0) 0 99 σ) rfl rfl rfl rfl rfl (fun v6 s6 => ?_)
  exact sw_bret dX5_isDay_9
def rm_X5_isReport : Room := { frames := 1, cells := 0, slots := 0, locals := 25 }
def f_X5_isReport (x1 : Int) (σ : St) : Option (Bool × St) :=
  bV (ld σ 52 330 52) fun v9 => bI (f_X5_in (wr x1) 0 (wr (v9 - 1)) σ) fun v13 s13 => some (v13, s13)
set_option maxRecDepth 20000 in
theorem m_X5_isReport (x1 : Int)  (σ : St) : MT G l yX5_isReport cX5_isReport 2 (some .boolean) rm_X5_isReport [.ref (ad G 51), vi x1] wB σ (f_X5_isReport x1 σ) := by
  refine mt_B (L := [some (.ref (ad G 51)), some (vi x1)]) rfl (Nat.le_of_ble_eq_true rfl) rfl ?_
  show SW G l RX5 cX5_isReport 2 rm_X5_isReport wB 0 [some (.ref (ad G 51)), some (vi x1)] [] σ (f_X5_isReport x1 σ)
  unfold f_X5_isReport
  refine sw_iload_n (pc' := 1) dX5_isReport_0 rfl rfl ?_
  refine sw_i2l (pc' := 2) dX5_isReport_1 rfl ?_
  refine sw_lconst (x := 0) (pc' := 3) dX5_isReport_2 rfl rfl ?_
  refine sw_aload_n (pc' := 4) dX5_isReport_3 rfl rfl ?_
  refine sw_getr (pc' := 7) dX5_isReport_4 fl_X5_7 (tbk_51) rfl rfl ?_
  refine sw_bipush (pc' := 9) dX5_isReport_7 rfl rfl ?_
  refine sw_iald (pc' := 10) dX5_isReport_9 (tbk_52) rfl (fun v9 => ?_)
  refine sw_iconst (pc' := 11) dX5_isReport_10 rfl ?_
  refine sw_isub (pc' := 12) dX5_isReport_11 rfl ?_
  refine sw_i2l (pc' := 13) dX5_isReport_12 rfl ?_
  refine sw_callSB (pc' := 16) (As := [vl (wr x1), vl 0, vl (wr (v9 - 1))]) (rest := []) dX5_isReport_13 cs_X5_46 (m_X5_in (wr x1) 0 (wr (v9 - 1)) σ) rfl rfl rfl rfl rfl (fun v13 s13 => ?_)
  exact sw_bret dX5_isReport_16
def rm_X5_legsOf : Room := { frames := 0, cells := 0, slots := 0, locals := 0 }
def f_X5_legsOf (x0 : Int) (σ : St) : Option (Int × St) :=
  some (((((iad x0 1) + (iad (isr x0 1) 1)) + (iad (isr x0 2) 1)) + (iad (isr x0 3) 1)), σ)
set_option maxRecDepth 20000 in
theorem m_X5_legsOf (x0 : Int)  (σ : St) : MT G l yX5_legsOf cX5_legsOf 1 (some .int) rm_X5_legsOf [vi x0] wI σ (f_X5_legsOf x0 σ) := by
  refine mt_I (L := [some (vi x0)]) rfl (Nat.le_of_ble_eq_true rfl) rfl ?_
  show SW G l RX5 cX5_legsOf 1 rm_X5_legsOf wI 0 [some (vi x0)] [] σ (f_X5_legsOf x0 σ)
  unfold f_X5_legsOf
  refine sw_iload_n (pc' := 1) dX5_legsOf_0 rfl rfl ?_
  refine sw_iconst (pc' := 2) dX5_legsOf_1 rfl ?_
  refine sw_iand (pc' := 3) dX5_legsOf_2 rfl ?_
  refine sw_iload_n (pc' := 4) dX5_legsOf_3 rfl rfl ?_
  refine sw_iconst (pc' := 5) dX5_legsOf_4 rfl ?_
  refine sw_ishr (pc' := 6) dX5_legsOf_5 rfl ?_
  refine sw_iconst (pc' := 7) dX5_legsOf_6 rfl ?_
  refine sw_iand (pc' := 8) dX5_legsOf_7 rfl ?_
  refine sw_iadd (pc' := 9) dX5_legsOf_8 rfl ?_
  refine sw_iload_n (pc' := 10) dX5_legsOf_9 rfl rfl ?_
  refine sw_iconst (pc' := 11) dX5_legsOf_10 rfl ?_
  refine sw_ishr (pc' := 12) dX5_legsOf_11 rfl ?_
  refine sw_iconst (pc' := 13) dX5_legsOf_12 rfl ?_
  refine sw_iand (pc' := 14) dX5_legsOf_13 rfl ?_
  refine sw_iadd (pc' := 15) dX5_legsOf_14 rfl ?_
  refine sw_iload_n (pc' := 16) dX5_legsOf_15 rfl rfl ?_
  refine sw_iconst (pc' := 17) dX5_legsOf_16 rfl ?_
  refine sw_ishr (pc' := 18) dX5_legsOf_17 rfl ?_
  refine sw_iconst (pc' := 19) dX5_legsOf_18 rfl ?_
  refine sw_iand (pc' := 20) dX5_legsOf_19 rfl ?_
  refine sw_iadd (pc' := 21) dX5_legsOf_20 rfl ?_
  exact sw_iret dX5_legsOf_21
def rm_X5_readsOf : Room := { frames := 1, cells := 0, slots := 0, locals := 20 }
def f_X5_readsOf_28   (x0 x2 t0 : Int) (σ : St) : Option (Int × St) :=
  if wr x0 = 0 then
    some (x2, σ)
  else
    if wr x0 = wr 1 then
      some (t0, σ)
    else
      if wr x0 = wr 2 then
        some ((3 - x2), σ)
      else
        bV (irm (t0 + 2) 4) fun v61 => some (v61, σ)
set_option maxRecDepth 20000 in
theorem s_X5_readsOf_28     (x0 x2 t0 : Int) (σ : St) : SW G l RX5 cX5_readsOf 4 rm_X5_readsOf wI 28 [some (vi x0), none, some (vi x2), none] [vi t0] σ (f_X5_readsOf_28 x0 x2 t0 σ) := by
  unfold f_X5_readsOf_28
  refine sw_istore_n (pc' := 29) (x := t0) (L' := [some (vi x0), none, some (vi x2), some (vi t0)]) dX5_readsOf_28 rfl (by decide) rfl rfl ?_
  refine sw_iload_n (pc' := 30) dX5_readsOf_29 rfl rfl ?_
  refine sw_if_ne (tgt := 37) (pc' := 33) dX5_readsOf_30 (by decide) rfl (fun _ => ?_) (fun _ => ?_)
  · refine sw_iload_n (pc' := 34) dX5_readsOf_33 rfl rfl ?_
    refine sw_goto (pc' := 62) dX5_readsOf_34 (by decide) ?_
    exact sw_iret dX5_readsOf_62
  · refine sw_iload_n (pc' := 38) dX5_readsOf_37 rfl rfl ?_
    refine sw_iconst (pc' := 39) dX5_readsOf_38 rfl ?_
    refine sw_icmp_ne (tgt := 46) (pc' := 42) dX5_readsOf_39 (by decide) rfl (fun _ => ?_) (fun _ => ?_)
    · refine sw_iload_n (pc' := 43) dX5_readsOf_42 rfl rfl ?_
      refine sw_goto (pc' := 62) dX5_readsOf_43 (by decide) ?_
      exact sw_iret dX5_readsOf_62
    · refine sw_iload_n (pc' := 47) dX5_readsOf_46 rfl rfl ?_
      refine sw_iconst (pc' := 48) dX5_readsOf_47 rfl ?_
      refine sw_icmp_ne (tgt := 57) (pc' := 51) dX5_readsOf_48 (by decide) rfl (fun _ => ?_) (fun _ => ?_)
      · refine sw_iconst (pc' := 52) dX5_readsOf_51 rfl ?_
        refine sw_iload_n (pc' := 53) dX5_readsOf_52 rfl rfl ?_
        refine sw_isub (pc' := 54) dX5_readsOf_53 rfl ?_
        refine sw_goto (pc' := 62) dX5_readsOf_54 (by decide) ?_
        exact sw_iret dX5_readsOf_62
      · refine sw_iload_n (pc' := 58) dX5_readsOf_57 rfl rfl ?_
        refine sw_iconst (pc' := 59) dX5_readsOf_58 rfl ?_
        refine sw_iadd (pc' := 60) dX5_readsOf_59 rfl ?_
        refine sw_iconst (pc' := 61) dX5_readsOf_60 rfl ?_
        refine sw_irem (pc' := 62) dX5_readsOf_61 rfl (fun v61 => ?_)
        exact sw_iret dX5_readsOf_62
def f_X5_readsOf_16   (x0 t0 : Int) (σ : St) : Option (Int × St) :=
  if 0 < wr t0 then
    f_X5_readsOf_28 x0 t0 (t0 - 1) σ
  else
    f_X5_readsOf_28 x0 t0 0 σ
set_option maxRecDepth 20000 in
theorem s_X5_readsOf_16     (x0 t0 : Int) (σ : St) : SW G l RX5 cX5_readsOf 4 rm_X5_readsOf wI 16 [some (vi x0), none, none, none] [vi t0] σ (f_X5_readsOf_16 x0 t0 σ) := by
  unfold f_X5_readsOf_16
  refine sw_istore_n (pc' := 17) (x := t0) (L' := [some (vi x0), none, some (vi t0), none]) dX5_readsOf_16 rfl (by decide) rfl rfl ?_
  refine sw_iload_n (pc' := 18) dX5_readsOf_17 rfl rfl ?_
  refine sw_if_le (tgt := 27) (pc' := 21) dX5_readsOf_18 (by decide) rfl (fun _ => ?_) (fun _ => ?_)
  · refine sw_iload_n (pc' := 22) dX5_readsOf_21 rfl rfl ?_
    refine sw_iconst (pc' := 23) dX5_readsOf_22 rfl ?_
    refine sw_isub (pc' := 24) dX5_readsOf_23 rfl ?_
    refine sw_goto (pc' := 28) dX5_readsOf_24 (by decide) ?_
    exact s_X5_readsOf_28 x0 t0 (t0 - 1) σ
  · refine sw_iconst (pc' := 28) dX5_readsOf_27 rfl ?_
    exact s_X5_readsOf_28 x0 t0 0 σ
def f_X5_readsOf (x0 : Int) (x1 : Int) (σ : St) : Option (Int × St) :=
  bI (f_X5_legsOf x1 σ) fun v1 s1 => if wr v1 < wr 3 then
    bI (f_X5_legsOf x1 s1) fun v9 s9 => f_X5_readsOf_16 x0 v9 s9
  else
    f_X5_readsOf_16 x0 3 s1
set_option maxRecDepth 20000 in
theorem m_X5_readsOf (x0 : Int) (x1 : Int)  (σ : St) : MT G l yX5_readsOf cX5_readsOf 4 (some .int) rm_X5_readsOf [vi x0, vi x1] wI σ (f_X5_readsOf x0 x1 σ) := by
  refine mt_I (L := [some (vi x0), some (vi x1), none, none]) rfl (Nat.le_of_ble_eq_true rfl) rfl ?_
  show SW G l RX5 cX5_readsOf 4 rm_X5_readsOf wI 0 [some (vi x0), some (vi x1), none, none] [] σ (f_X5_readsOf x0 x1 σ)
  unfold f_X5_readsOf
  refine sw_iload_n (pc' := 1) dX5_readsOf_0 rfl rfl ?_
  refine sw_callSI (pc' := 4) (As := [vi x1]) (rest := []) dX5_readsOf_1 cs_X5_139 (m_X5_legsOf x1 σ) rfl rfl rfl rfl rfl (fun v1 s1 => ?_)
  refine sw_iconst (pc' := 5) dX5_readsOf_4 rfl ?_
  refine sw_icmp_ge (tgt := 15) (pc' := 8) dX5_readsOf_5 (by decide) rfl (fun _ => ?_) (fun _ => ?_)
  · refine sw_iload_n (pc' := 9) dX5_readsOf_8 rfl rfl ?_
    refine sw_callSI (pc' := 12) (As := [vi x1]) (rest := []) dX5_readsOf_9 cs_X5_139 (m_X5_legsOf x1 s1) rfl rfl rfl rfl rfl (fun v9 s9 => ?_)
    refine sw_goto (pc' := 16) dX5_readsOf_12 (by decide) ?_
    refine sw_msk [true, false, false, false] rfl ?_
    exact s_X5_readsOf_16 x0 v9 s9
  · refine sw_iconst (pc' := 16) dX5_readsOf_15 rfl ?_
    refine sw_msk [true, false, false, false] rfl ?_
    exact s_X5_readsOf_16 x0 3 s1
def rm_X5_readsOn : Room := { frames := 2, cells := 0, slots := 0, locals := 43 }
def f_X5_readsOn (x1 : Int) (x2 : Int) (σ : St) : Option (Int × St) :=
  bV (ld σ 52 330 (x1 + x2)) fun v7 => bV (ld σ 52 330 ((x1 + 5) + x2)) fun v17 => bI (f_X5_readsOf v7 v17 σ) fun v18 s18 => some (v18, s18)
set_option maxRecDepth 20000 in
theorem m_X5_readsOn (x1 : Int) (x2 : Int)  (σ : St) : MT G l yX5_readsOn cX5_readsOn 3 (some .int) rm_X5_readsOn [.ref (ad G 51), vi x1, vi x2] wI σ (f_X5_readsOn x1 x2 σ) := by
  refine mt_I (L := [some (.ref (ad G 51)), some (vi x1), some (vi x2)]) rfl (Nat.le_of_ble_eq_true rfl) rfl ?_
  show SW G l RX5 cX5_readsOn 3 rm_X5_readsOn wI 0 [some (.ref (ad G 51)), some (vi x1), some (vi x2)] [] σ (f_X5_readsOn x1 x2 σ)
  unfold f_X5_readsOn
  refine sw_aload_n (pc' := 1) dX5_readsOn_0 rfl rfl ?_
  refine sw_getr (pc' := 4) dX5_readsOn_1 fl_X5_7 (tbk_51) rfl rfl ?_
  refine sw_iload_n (pc' := 5) dX5_readsOn_4 rfl rfl ?_
  refine sw_iload_n (pc' := 6) dX5_readsOn_5 rfl rfl ?_
  refine sw_iadd (pc' := 7) dX5_readsOn_6 rfl ?_
  refine sw_iald (pc' := 8) dX5_readsOn_7 (tbk_52) rfl (fun v7 => ?_)
  refine sw_aload_n (pc' := 9) dX5_readsOn_8 rfl rfl ?_
  refine sw_getr (pc' := 12) dX5_readsOn_9 fl_X5_7 (tbk_51) rfl rfl ?_
  refine sw_iload_n (pc' := 13) dX5_readsOn_12 rfl rfl ?_
  refine sw_iconst (pc' := 14) dX5_readsOn_13 rfl ?_
  refine sw_iadd (pc' := 15) dX5_readsOn_14 rfl ?_
  refine sw_iload_n (pc' := 16) dX5_readsOn_15 rfl rfl ?_
  refine sw_iadd (pc' := 17) dX5_readsOn_16 rfl ?_
  refine sw_iald (pc' := 18) dX5_readsOn_17 (tbk_52) rfl (fun v17 => ?_)
  refine sw_callSI (pc' := 21) (As := [vi v7, vi v17]) (rest := []) dX5_readsOn_18 cs_X5_142 (m_X5_readsOf v7 v17 σ) rfl rfl rfl rfl rfl (fun v18 s18 => ?_)
  exact sw_iret dX5_readsOn_21
def rm_X5_isUpright : Room := { frames := 1, cells := 0, slots := 0, locals := 20 }
def f_X5_isUpright (x1 : Int) (x2 : Int) (x3 : Int) (σ : St) : Option (Bool × St) :=
  bV (ld σ 52 330 ((x1 + 10) + x2)) fun v10 => bV (ld σ 52 330 (x1 + 15)) fun v19 => bI (f_X5_legsOf x3 σ) fun v25 s25 => if wr ((v19 + 25) * (4 - v25)) < wr v10 then
    some (false, s25)
  else
    some (true, s25)
set_option maxRecDepth 20000 in
theorem m_X5_isUpright (x1 : Int) (x2 : Int) (x3 : Int)  (σ : St) : MT G l yX5_isUpright cX5_isUpright 4 (some .boolean) rm_X5_isUpright [.ref (ad G 51), vi x1, vi x2, vi x3] wB σ (f_X5_isUpright x1 x2 x3 σ) := by
  refine mt_B (L := [some (.ref (ad G 51)), some (vi x1), some (vi x2), some (vi x3)]) rfl (Nat.le_of_ble_eq_true rfl) rfl ?_
  show SW G l RX5 cX5_isUpright 4 rm_X5_isUpright wB 0 [some (.ref (ad G 51)), some (vi x1), some (vi x2), some (vi x3)] [] σ (f_X5_isUpright x1 x2 x3 σ)
  unfold f_X5_isUpright
  refine sw_aload_n (pc' := 1) dX5_isUpright_0 rfl rfl ?_
  refine sw_getr (pc' := 4) dX5_isUpright_1 fl_X5_7 (tbk_51) rfl rfl ?_
  refine sw_iload_n (pc' := 5) dX5_isUpright_4 rfl rfl ?_
  refine sw_bipush (pc' := 7) dX5_isUpright_5 rfl rfl ?_
  refine sw_iadd (pc' := 8) dX5_isUpright_7 rfl ?_
  refine sw_iload_n (pc' := 9) dX5_isUpright_8 rfl rfl ?_
  refine sw_iadd (pc' := 10) dX5_isUpright_9 rfl ?_
  refine sw_iald (pc' := 11) dX5_isUpright_10 (tbk_52) rfl (fun v10 => ?_)
  refine sw_aload_n (pc' := 12) dX5_isUpright_11 rfl rfl ?_
  refine sw_getr (pc' := 15) dX5_isUpright_12 fl_X5_7 (tbk_51) rfl rfl ?_
  refine sw_iload_n (pc' := 16) dX5_isUpright_15 rfl rfl ?_
  refine sw_bipush (pc' := 18) dX5_isUpright_16 rfl rfl ?_
  refine sw_iadd (pc' := 19) dX5_isUpright_18 rfl ?_
  refine sw_iald (pc' := 20) dX5_isUpright_19 (tbk_52) rfl (fun v19 => ?_)
  refine sw_bipush (pc' := 22) dX5_isUpright_20 rfl rfl ?_
  refine sw_iadd (pc' := 23) dX5_isUpright_22 rfl ?_
  refine sw_iconst (pc' := 24) dX5_isUpright_23 rfl ?_
  refine sw_iload_n (pc' := 25) dX5_isUpright_24 rfl rfl ?_
  refine sw_callSI (pc' := 28) (As := [vi x3]) (rest := [vi 4, vi (v19 + 25), vi v10]) dX5_isUpright_25 cs_X5_139 (m_X5_legsOf x3 σ) rfl rfl rfl rfl rfl (fun v25 s25 => ?_)
  refine sw_isub (pc' := 29) dX5_isUpright_28 rfl ?_
  refine sw_imul (pc' := 30) dX5_isUpright_29 rfl ?_
  refine sw_icmp_gt (tgt := 37) (pc' := 33) dX5_isUpright_30 (by decide) rfl (fun _ => ?_) (fun _ => ?_)
  · refine sw_iconst (pc' := 38) dX5_isUpright_37 rfl ?_
    exact sw_bret (x := false) dX5_isUpright_38
  · refine sw_iconst (pc' := 34) dX5_isUpright_33 rfl ?_
    refine sw_goto (pc' := 38) dX5_isUpright_34 (by decide) ?_
    exact sw_bret (x := true) dX5_isUpright_38
def rm_X5_standsOn : Room := { frames := 2, cells := 0, slots := 0, locals := 43 }
def f_X5_standsOn (x1 : Int) (x2 : Int) (σ : St) : Option (Bool × St) :=
  bV (ld σ 52 330 ((x1 + 5) + x2)) fun v12 => bI (f_X5_isUpright x1 x2 v12 σ) fun v13 s13 => some (v13, s13)
set_option maxRecDepth 20000 in
theorem m_X5_standsOn (x1 : Int) (x2 : Int)  (σ : St) : MT G l yX5_standsOn cX5_standsOn 3 (some .boolean) rm_X5_standsOn [.ref (ad G 51), vi x1, vi x2] wB σ (f_X5_standsOn x1 x2 σ) := by
  refine mt_B (L := [some (.ref (ad G 51)), some (vi x1), some (vi x2)]) rfl (Nat.le_of_ble_eq_true rfl) rfl ?_
  show SW G l RX5 cX5_standsOn 3 rm_X5_standsOn wB 0 [some (.ref (ad G 51)), some (vi x1), some (vi x2)] [] σ (f_X5_standsOn x1 x2 σ)
  unfold f_X5_standsOn
  refine sw_aload_n (pc' := 1) dX5_standsOn_0 rfl rfl ?_
  refine sw_iload_n (pc' := 2) dX5_standsOn_1 rfl rfl ?_
  refine sw_iload_n (pc' := 3) dX5_standsOn_2 rfl rfl ?_
  refine sw_aload_n (pc' := 4) dX5_standsOn_3 rfl rfl ?_
  refine sw_getr (pc' := 7) dX5_standsOn_4 fl_X5_7 (tbk_51) rfl rfl ?_
  refine sw_iload_n (pc' := 8) dX5_standsOn_7 rfl rfl ?_
  refine sw_iconst (pc' := 9) dX5_standsOn_8 rfl ?_
  refine sw_iadd (pc' := 10) dX5_standsOn_9 rfl ?_
  refine sw_iload_n (pc' := 11) dX5_standsOn_10 rfl rfl ?_
  refine sw_iadd (pc' := 12) dX5_standsOn_11 rfl ?_
  refine sw_iald (pc' := 13) dX5_standsOn_12 (tbk_52) rfl (fun v12 => ?_)
  refine sw_callVB (pc' := 16) (As := [vi x1, vi x2, vi v12]) (rest := []) dX5_standsOn_13 cv_X5_145 (tbk_51) (m_X5_isUpright x1 x2 v12 σ) rfl rfl rfl rfl rfl (fun v13 s13 => ?_)
  exact sw_bret dX5_standsOn_16
def rm_X5_toldOn : Room := { frames := 0, cells := 0, slots := 0, locals := 0 }
def f_X5_toldOn_123  (k6 : Int → Int → Int → Int → Int → Int → St → Option (Int × St)) (x1 x2 x3 x4 x6 t0 t1 : Int) (σ : St) : Option (Int × St) :=
  k6 x1 x2 x3 x4 (t0 + t1) (x6 + 1) σ
set_option maxRecDepth 20000 in
theorem s_X5_toldOn_123   (k6 : Int → Int → Int → Int → Int → Int → St → Option (Int × St)) (hk6 : ∀ (x1 x2 x3 x4 x5 x6 : Int) (σ : St), SW G l RX5 cX5_toldOn 8 rm_X5_toldOn wI 6 [some (.ref (ad G 51)), some (vi x1), some (vi x2), some (vi x3), some (vi x4), some (vi x5), some (vi x6), none] [] σ (k6 x1 x2 x3 x4 x5 x6 σ)) (x1 x2 x3 x4 x6 t0 t1 : Int) (σ : St) : SW G l RX5 cX5_toldOn 8 rm_X5_toldOn wI 123 [some (.ref (ad G 51)), some (vi x1), some (vi x2), some (vi x3), some (vi x4), none, some (vi x6), none] [vi t1, vi t0] σ (f_X5_toldOn_123 k6 x1 x2 x3 x4 x6 t0 t1 σ) := by
  unfold f_X5_toldOn_123
  refine sw_iadd (pc' := 124) dX5_toldOn_123 rfl ?_
  refine sw_istore (pc' := 126) (x := (t0 + t1)) (L' := [some (.ref (ad G 51)), some (vi x1), some (vi x2), some (vi x3), some (vi x4), some (vi (t0 + t1)), some (vi x6), none]) dX5_toldOn_124 rfl (by decide) rfl rfl ?_
  refine sw_iinc (pc' := 129) (x := x6) (L' := [some (.ref (ad G 51)), some (vi x1), some (vi x2), some (vi x3), some (vi x4), some (vi (t0 + t1)), some (vi (x6 + 1)), none]) dX5_toldOn_126 rfl (by decide) rfl rfl rfl ?_
  refine sw_goto (pc' := 6) dX5_toldOn_129 (by decide) ?_
  exact hk6 x1 x2 x3 x4 (t0 + t1) (x6 + 1) σ
def f_X5_toldOn_122  (k6 : Int → Int → Int → Int → Int → Int → St → Option (Int × St)) (x1 x2 x3 x4 x6 t0 : Int) (σ : St) : Option (Int × St) :=
  f_X5_toldOn_123 k6 x1 x2 x3 x4 x6 t0 0 σ
set_option maxRecDepth 20000 in
theorem s_X5_toldOn_122   (k6 : Int → Int → Int → Int → Int → Int → St → Option (Int × St)) (hk6 : ∀ (x1 x2 x3 x4 x5 x6 : Int) (σ : St), SW G l RX5 cX5_toldOn 8 rm_X5_toldOn wI 6 [some (.ref (ad G 51)), some (vi x1), some (vi x2), some (vi x3), some (vi x4), some (vi x5), some (vi x6), none] [] σ (k6 x1 x2 x3 x4 x5 x6 σ)) (x1 x2 x3 x4 x6 t0 : Int) (σ : St) : SW G l RX5 cX5_toldOn 8 rm_X5_toldOn wI 122 [some (.ref (ad G 51)), some (vi x1), some (vi x2), some (vi x3), some (vi x4), none, some (vi x6), none] [vi t0] σ (f_X5_toldOn_122 k6 x1 x2 x3 x4 x6 t0 σ) := by
  unfold f_X5_toldOn_122
  refine sw_iconst (pc' := 123) dX5_toldOn_122 rfl ?_
  exact s_X5_toldOn_123 k6 hk6 x1 x2 x3 x4 x6 t0 0 σ
def f_X5_toldOn_74  (k6 : Int → Int → Int → Int → Int → Int → St → Option (Int × St)) (x1 x2 x3 x4 x5 x6 t0 : Int) (σ : St) : Option (Int × St) :=
  if wr t0 = 0 then
    f_X5_toldOn_122 k6 x1 x2 x3 x4 x6 x5 σ
  else
    if wr (iad (isr (σ 51 18) x6) 1) = 0 then
      bV (ld σ 52 330 ((x1 + 28) + x6)) fun v114 => bV (ld σ 52 330 ((x1 + 16) + v114)) fun v116 => f_X5_toldOn_123 k6 x1 x2 x3 x4 x6 x5 (v116 + 1) σ
    else
      f_X5_toldOn_122 k6 x1 x2 x3 x4 x6 x5 σ
set_option maxRecDepth 20000 in
theorem s_X5_toldOn_74   (k6 : Int → Int → Int → Int → Int → Int → St → Option (Int × St)) (hk6 : ∀ (x1 x2 x3 x4 x5 x6 : Int) (σ : St), SW G l RX5 cX5_toldOn 8 rm_X5_toldOn wI 6 [some (.ref (ad G 51)), some (vi x1), some (vi x2), some (vi x3), some (vi x4), some (vi x5), some (vi x6), none] [] σ (k6 x1 x2 x3 x4 x5 x6 σ)) (x1 x2 x3 x4 x5 x6 t0 : Int) (σ : St) : SW G l RX5 cX5_toldOn 8 rm_X5_toldOn wI 74 [some (.ref (ad G 51)), some (vi x1), some (vi x2), some (vi x3), some (vi x4), some (vi x5), some (vi x6), none] [vi t0] σ (f_X5_toldOn_74 k6 x1 x2 x3 x4 x5 x6 t0 σ) := by
  unfold f_X5_toldOn_74
  refine sw_istore (pc' := 76) (x := t0) (L' := [some (.ref (ad G 51)), some (vi x1), some (vi x2), some (vi x3), some (vi x4), some (vi x5), some (vi x6), some (vi t0)]) dX5_toldOn_74 rfl (by decide) rfl rfl ?_
  refine sw_iload (pc' := 78) dX5_toldOn_76 rfl rfl ?_
  refine sw_iload (pc' := 80) dX5_toldOn_78 rfl rfl ?_
  refine sw_if_eq (tgt := 122) (pc' := 83) dX5_toldOn_80 (by decide) rfl (fun _ => ?_) (fun _ => ?_)
  · refine sw_msk [true, true, true, true, true, false, true, false] rfl ?_
    exact s_X5_toldOn_122 k6 hk6 x1 x2 x3 x4 x6 x5 σ
  · refine sw_aload_n (pc' := 84) dX5_toldOn_83 rfl rfl ?_
    refine sw_getn (pc' := 87) dX5_toldOn_84 fl_X5_149 (tbk_51) rfl rfl ?_
    refine sw_iload (pc' := 89) dX5_toldOn_87 rfl rfl ?_
    refine sw_ishr (pc' := 90) dX5_toldOn_89 rfl ?_
    refine sw_iconst (pc' := 91) dX5_toldOn_90 rfl ?_
    refine sw_iand (pc' := 92) dX5_toldOn_91 rfl ?_
    refine sw_if_ne (tgt := 122) (pc' := 95) dX5_toldOn_92 (by decide) rfl (fun _ => ?_) (fun _ => ?_)
    · refine sw_aload_n (pc' := 96) dX5_toldOn_95 rfl rfl ?_
      refine sw_getr (pc' := 99) dX5_toldOn_96 fl_X5_7 (tbk_51) rfl rfl ?_
      refine sw_iload_n (pc' := 100) dX5_toldOn_99 rfl rfl ?_
      refine sw_bipush (pc' := 102) dX5_toldOn_100 rfl rfl ?_
      refine sw_iadd (pc' := 103) dX5_toldOn_102 rfl ?_
      refine sw_aload_n (pc' := 104) dX5_toldOn_103 rfl rfl ?_
      refine sw_getr (pc' := 107) dX5_toldOn_104 fl_X5_7 (tbk_51) rfl rfl ?_
      refine sw_iload_n (pc' := 108) dX5_toldOn_107 rfl rfl ?_
      refine sw_bipush (pc' := 110) dX5_toldOn_108 rfl rfl ?_
      refine sw_iadd (pc' := 111) dX5_toldOn_110 rfl ?_
      refine sw_iload (pc' := 113) dX5_toldOn_111 rfl rfl ?_
      refine sw_iadd (pc' := 114) dX5_toldOn_113 rfl ?_
      refine sw_iald (pc' := 115) dX5_toldOn_114 (tbk_52) rfl (fun v114 => ?_)
      refine sw_iadd (pc' := 116) dX5_toldOn_115 rfl ?_
      refine sw_iald (pc' := 117) dX5_toldOn_116 (tbk_52) rfl (fun v116 => ?_)
      refine sw_iconst (pc' := 118) dX5_toldOn_117 rfl ?_
      refine sw_iadd (pc' := 119) dX5_toldOn_118 rfl ?_
      refine sw_goto (pc' := 123) dX5_toldOn_119 (by decide) ?_
      refine sw_msk [true, true, true, true, true, false, true, false] rfl ?_
      exact s_X5_toldOn_123 k6 hk6 x1 x2 x3 x4 x6 x5 (v116 + 1) σ
    · refine sw_msk [true, true, true, true, true, false, true, false] rfl ?_
      exact s_X5_toldOn_122 k6 hk6 x1 x2 x3 x4 x6 x5 σ
def f_X5_toldOn_73  (k6 : Int → Int → Int → Int → Int → Int → St → Option (Int × St)) (x1 x2 x3 x4 x5 x6 : Int) (σ : St) : Option (Int × St) :=
  f_X5_toldOn_74 k6 x1 x2 x3 x4 x5 x6 0 σ
set_option maxRecDepth 20000 in
theorem s_X5_toldOn_73   (k6 : Int → Int → Int → Int → Int → Int → St → Option (Int × St)) (hk6 : ∀ (x1 x2 x3 x4 x5 x6 : Int) (σ : St), SW G l RX5 cX5_toldOn 8 rm_X5_toldOn wI 6 [some (.ref (ad G 51)), some (vi x1), some (vi x2), some (vi x3), some (vi x4), some (vi x5), some (vi x6), none] [] σ (k6 x1 x2 x3 x4 x5 x6 σ)) (x1 x2 x3 x4 x5 x6 : Int) (σ : St) : SW G l RX5 cX5_toldOn 8 rm_X5_toldOn wI 73 [some (.ref (ad G 51)), some (vi x1), some (vi x2), some (vi x3), some (vi x4), some (vi x5), some (vi x6), none] [] σ (f_X5_toldOn_73 k6 x1 x2 x3 x4 x5 x6 σ) := by
  unfold f_X5_toldOn_73
  refine sw_iconst (pc' := 74) dX5_toldOn_73 rfl ?_
  exact s_X5_toldOn_74 k6 hk6 x1 x2 x3 x4 x5 x6 0 σ
def f_X5_toldOn_6   : Nat → Int → Int → Int → Int → Int → Int → St → Option (Int × St)
  | 0, _, _, _, _, _, _, _ => none
  | n + 1, x1, x2, x3, x4, x5, x6, σ =>
    bV (ld σ 52 330 (x1 + 52)) fun v16 => if wr x6 < wr v16 then
      bV (ld σ 52 330 ((x1 + 36) + x6)) fun v31 => if wr v31 = wr x2 then
        bV (ld σ 52 330 ((x1 + 44) + x6)) fun v47 => if wr v47 = wr x3 then
          bV (ld σ 52 330 ((x1 + 20) + x6)) fun v63 => if wr x4 < wr v63 then
            f_X5_toldOn_73 (f_X5_toldOn_6 n) x1 x2 x3 x4 x5 x6 σ
          else
            f_X5_toldOn_74 (f_X5_toldOn_6 n) x1 x2 x3 x4 x5 x6 1 σ
        else
          f_X5_toldOn_73 (f_X5_toldOn_6 n) x1 x2 x3 x4 x5 x6 σ
      else
        f_X5_toldOn_73 (f_X5_toldOn_6 n) x1 x2 x3 x4 x5 x6 σ
    else
      some (x5, σ)
set_option maxRecDepth 20000 in
theorem s_X5_toldOn_6     : ∀ (n : Nat) (x1 x2 x3 x4 x5 x6 : Int) (σ : St), SW G l RX5 cX5_toldOn 8 rm_X5_toldOn wI 6 [some (.ref (ad G 51)), some (vi x1), some (vi x2), some (vi x3), some (vi x4), some (vi x5), some (vi x6), none] [] σ (f_X5_toldOn_6 n x1 x2 x3 x4 x5 x6 σ) := by
  intro n
  induction n with
  | zero => intro x1 x2 x3 x4 x5 x6 σ; exact sw_none
  | succ n ih =>
    intro x1 x2 x3 x4 x5 x6 σ
    rw [f_X5_toldOn_6]
    refine sw_iload (pc' := 8) dX5_toldOn_6 rfl rfl ?_
    refine sw_aload_n (pc' := 9) dX5_toldOn_8 rfl rfl ?_
    refine sw_getr (pc' := 12) dX5_toldOn_9 fl_X5_7 (tbk_51) rfl rfl ?_
    refine sw_iload_n (pc' := 13) dX5_toldOn_12 rfl rfl ?_
    refine sw_bipush (pc' := 15) dX5_toldOn_13 rfl rfl ?_
    refine sw_iadd (pc' := 16) dX5_toldOn_15 rfl ?_
    refine sw_iald (pc' := 17) dX5_toldOn_16 (tbk_52) rfl (fun v16 => ?_)
    refine sw_icmp_ge (tgt := 132) (pc' := 20) dX5_toldOn_17 (by decide) rfl (fun _ => ?_) (fun _ => ?_)
    · refine sw_aload_n (pc' := 21) dX5_toldOn_20 rfl rfl ?_
      refine sw_getr (pc' := 24) dX5_toldOn_21 fl_X5_7 (tbk_51) rfl rfl ?_
      refine sw_iload_n (pc' := 25) dX5_toldOn_24 rfl rfl ?_
      refine sw_bipush (pc' := 27) dX5_toldOn_25 rfl rfl ?_
      refine sw_iadd (pc' := 28) dX5_toldOn_27 rfl ?_
      refine sw_iload (pc' := 30) dX5_toldOn_28 rfl rfl ?_
      refine sw_iadd (pc' := 31) dX5_toldOn_30 rfl ?_
      refine sw_iald (pc' := 32) dX5_toldOn_31 (tbk_52) rfl (fun v31 => ?_)
      refine sw_iload_n (pc' := 33) dX5_toldOn_32 rfl rfl ?_
      refine sw_icmp_ne (tgt := 73) (pc' := 36) dX5_toldOn_33 (by decide) rfl (fun _ => ?_) (fun _ => ?_)
      · refine sw_aload_n (pc' := 37) dX5_toldOn_36 rfl rfl ?_
        refine sw_getr (pc' := 40) dX5_toldOn_37 fl_X5_7 (tbk_51) rfl rfl ?_
        refine sw_iload_n (pc' := 41) dX5_toldOn_40 rfl rfl ?_
        refine sw_bipush (pc' := 43) dX5_toldOn_41 rfl rfl ?_
        refine sw_iadd (pc' := 44) dX5_toldOn_43 rfl ?_
        refine sw_iload (pc' := 46) dX5_toldOn_44 rfl rfl ?_
        refine sw_iadd (pc' := 47) dX5_toldOn_46 rfl ?_
        refine sw_iald (pc' := 48) dX5_toldOn_47 (tbk_52) rfl (fun v47 => ?_)
        refine sw_iload_n (pc' := 49) dX5_toldOn_48 rfl rfl ?_
        refine sw_icmp_ne (tgt := 73) (pc' := 52) dX5_toldOn_49 (by decide) rfl (fun _ => ?_) (fun _ => ?_)
        · refine sw_aload_n (pc' := 53) dX5_toldOn_52 rfl rfl ?_
          refine sw_getr (pc' := 56) dX5_toldOn_53 fl_X5_7 (tbk_51) rfl rfl ?_
          refine sw_iload_n (pc' := 57) dX5_toldOn_56 rfl rfl ?_
          refine sw_bipush (pc' := 59) dX5_toldOn_57 rfl rfl ?_
          refine sw_iadd (pc' := 60) dX5_toldOn_59 rfl ?_
          refine sw_iload (pc' := 62) dX5_toldOn_60 rfl rfl ?_
          refine sw_iadd (pc' := 63) dX5_toldOn_62 rfl ?_
          refine sw_iald (pc' := 64) dX5_toldOn_63 (tbk_52) rfl (fun v63 => ?_)
          refine sw_iload (pc' := 66) dX5_toldOn_64 rfl rfl ?_
          refine sw_icmp_gt (tgt := 73) (pc' := 69) dX5_toldOn_66 (by decide) rfl (fun _ => ?_) (fun _ => ?_)
          · exact s_X5_toldOn_73 (f_X5_toldOn_6 n) (ih) x1 x2 x3 x4 x5 x6 σ
          · refine sw_iconst (pc' := 70) dX5_toldOn_69 rfl ?_
            refine sw_goto (pc' := 74) dX5_toldOn_70 (by decide) ?_
            exact s_X5_toldOn_74 (f_X5_toldOn_6 n) (ih) x1 x2 x3 x4 x5 x6 1 σ
        · exact s_X5_toldOn_73 (f_X5_toldOn_6 n) (ih) x1 x2 x3 x4 x5 x6 σ
      · exact s_X5_toldOn_73 (f_X5_toldOn_6 n) (ih) x1 x2 x3 x4 x5 x6 σ
    · refine sw_iload (pc' := 134) dX5_toldOn_132 rfl rfl ?_
      exact sw_iret dX5_toldOn_134
def f_X5_toldOn (x1 : Int) (x2 : Int) (x3 : Int) (x4 : Int) (σ : St) : Option (Int × St) :=
  f_X5_toldOn_6 FU x1 x2 x3 x4 0 0 σ
set_option maxRecDepth 20000 in
theorem m_X5_toldOn (x1 : Int) (x2 : Int) (x3 : Int) (x4 : Int)  (σ : St) : MT G l yX5_toldOn cX5_toldOn 8 (some .int) rm_X5_toldOn [.ref (ad G 51), vi x1, vi x2, vi x3, vi x4] wI σ (f_X5_toldOn x1 x2 x3 x4 σ) := by
  refine mt_I (L := [some (.ref (ad G 51)), some (vi x1), some (vi x2), some (vi x3), some (vi x4), none, none, none]) rfl (Nat.le_of_ble_eq_true rfl) rfl ?_
  show SW G l RX5 cX5_toldOn 8 rm_X5_toldOn wI 0 [some (.ref (ad G 51)), some (vi x1), some (vi x2), some (vi x3), some (vi x4), none, none, none] [] σ (f_X5_toldOn x1 x2 x3 x4 σ)
  unfold f_X5_toldOn
  refine sw_iconst (pc' := 1) dX5_toldOn_0 rfl ?_
  refine sw_istore (pc' := 3) (x := 0) (L' := [some (.ref (ad G 51)), some (vi x1), some (vi x2), some (vi x3), some (vi x4), some (vi 0), none, none]) dX5_toldOn_1 rfl (by decide) rfl rfl ?_
  refine sw_iconst (pc' := 4) dX5_toldOn_3 rfl ?_
  refine sw_istore (pc' := 6) (x := 0) (L' := [some (.ref (ad G 51)), some (vi x1), some (vi x2), some (vi x3), some (vi x4), some (vi 0), some (vi 0), none]) dX5_toldOn_4 rfl (by decide) rfl rfl ?_
  exact s_X5_toldOn_6 FU x1 x2 x3 x4 0 0 σ
def rm_X5_believedOn : Room := { frames := 1, cells := 0, slots := 0, locals := 27 }
def f_X5_believedOn_57  (k10 : Int → Int → Int → Int → Int → Int → St → Option (Int × St)) (x1 x2 x3 x4 x6 t0 : Int) (σ : St) : Option (Int × St) :=
  k10 x1 x2 x3 x4 t0 (x6 + 1) σ
set_option maxRecDepth 20000 in
theorem s_X5_believedOn_57   (k10 : Int → Int → Int → Int → Int → Int → St → Option (Int × St)) (hk10 : ∀ (x1 x2 x3 x4 x5 x6 : Int) (σ : St), SW G l RX5 cX5_believedOn 8 rm_X5_believedOn wI 10 [some (.ref (ad G 51)), some (vi x1), some (vi x2), some (vi x3), some (vi x4), some (vi x5), some (vi x6), none] [] σ (k10 x1 x2 x3 x4 x5 x6 σ)) (x1 x2 x3 x4 x6 t0 : Int) (σ : St) : SW G l RX5 cX5_believedOn 8 rm_X5_believedOn wI 57 [some (.ref (ad G 51)), some (vi x1), some (vi x2), some (vi x3), some (vi x4), none, some (vi x6), none] [vi t0] σ (f_X5_believedOn_57 k10 x1 x2 x3 x4 x6 t0 σ) := by
  unfold f_X5_believedOn_57
  refine sw_istore (pc' := 59) (x := t0) (L' := [some (.ref (ad G 51)), some (vi x1), some (vi x2), some (vi x3), some (vi x4), some (vi t0), some (vi x6), none]) dX5_believedOn_57 rfl (by decide) rfl rfl ?_
  refine sw_iinc (pc' := 62) (x := x6) (L' := [some (.ref (ad G 51)), some (vi x1), some (vi x2), some (vi x3), some (vi x4), some (vi t0), some (vi (x6 + 1)), none]) dX5_believedOn_59 rfl (by decide) rfl rfl rfl ?_
  refine sw_goto (pc' := 10) dX5_believedOn_62 (by decide) ?_
  exact hk10 x1 x2 x3 x4 t0 (x6 + 1) σ
def f_X5_believedOn_41  (k10 : Int → Int → Int → Int → Int → Int → St → Option (Int × St)) (x1 x2 x3 x5 x6 x7 t0 : Int) (σ : St) : Option (Int × St) :=
  if wr x5 < wr x7 then
    f_X5_believedOn_57 k10 x1 x2 x3 t0 x6 x7 σ
  else
    f_X5_believedOn_57 k10 x1 x2 x3 t0 x6 x5 σ
set_option maxRecDepth 20000 in
theorem s_X5_believedOn_41   (k10 : Int → Int → Int → Int → Int → Int → St → Option (Int × St)) (hk10 : ∀ (x1 x2 x3 x4 x5 x6 : Int) (σ : St), SW G l RX5 cX5_believedOn 8 rm_X5_believedOn wI 10 [some (.ref (ad G 51)), some (vi x1), some (vi x2), some (vi x3), some (vi x4), some (vi x5), some (vi x6), none] [] σ (k10 x1 x2 x3 x4 x5 x6 σ)) (x1 x2 x3 x5 x6 x7 t0 : Int) (σ : St) : SW G l RX5 cX5_believedOn 8 rm_X5_believedOn wI 41 [some (.ref (ad G 51)), some (vi x1), some (vi x2), some (vi x3), none, some (vi x5), some (vi x6), some (vi x7)] [vi t0] σ (f_X5_believedOn_41 k10 x1 x2 x3 x5 x6 x7 t0 σ) := by
  unfold f_X5_believedOn_41
  refine sw_istore (pc' := 43) (x := t0) (L' := [some (.ref (ad G 51)), some (vi x1), some (vi x2), some (vi x3), some (vi t0), some (vi x5), some (vi x6), some (vi x7)]) dX5_believedOn_41 rfl (by decide) rfl rfl ?_
  refine sw_iload (pc' := 45) dX5_believedOn_43 rfl rfl ?_
  refine sw_iload (pc' := 47) dX5_believedOn_45 rfl rfl ?_
  refine sw_icmp_le (tgt := 55) (pc' := 50) dX5_believedOn_47 (by decide) rfl (fun _ => ?_) (fun _ => ?_)
  · refine sw_iload (pc' := 52) dX5_believedOn_50 rfl rfl ?_
    refine sw_goto (pc' := 57) dX5_believedOn_52 (by decide) ?_
    refine sw_msk [true, true, true, true, true, false, true, false] rfl ?_
    exact s_X5_believedOn_57 k10 hk10 x1 x2 x3 t0 x6 x7 σ
  · refine sw_iload (pc' := 57) dX5_believedOn_55 rfl rfl ?_
    refine sw_msk [true, true, true, true, true, false, true, false] rfl ?_
    exact s_X5_believedOn_57 k10 hk10 x1 x2 x3 t0 x6 x5 σ
def f_X5_believedOn_10   : Nat → Int → Int → Int → Int → Int → Int → St → Option (Int × St)
  | 0, _, _, _, _, _, _, _ => none
  | n + 1, x1, x2, x3, x4, x5, x6, σ =>
    if wr x6 < wr 4 then
      bI (f_X5_toldOn x1 x2 x6 x3 σ) fun v22 s22 => if wr x5 < wr v22 then
        f_X5_believedOn_41 (f_X5_believedOn_10 n) x1 x2 x3 x5 x6 v22 x6 s22
      else
        f_X5_believedOn_41 (f_X5_believedOn_10 n) x1 x2 x3 x5 x6 v22 x4 s22
    else
      some (x4, σ)
set_option maxRecDepth 20000 in
theorem s_X5_believedOn_10     : ∀ (n : Nat) (x1 x2 x3 x4 x5 x6 : Int) (σ : St), SW G l RX5 cX5_believedOn 8 rm_X5_believedOn wI 10 [some (.ref (ad G 51)), some (vi x1), some (vi x2), some (vi x3), some (vi x4), some (vi x5), some (vi x6), none] [] σ (f_X5_believedOn_10 n x1 x2 x3 x4 x5 x6 σ) := by
  intro n
  induction n with
  | zero => intro x1 x2 x3 x4 x5 x6 σ; exact sw_none
  | succ n ih =>
    intro x1 x2 x3 x4 x5 x6 σ
    rw [f_X5_believedOn_10]
    refine sw_iload (pc' := 12) dX5_believedOn_10 rfl rfl ?_
    refine sw_iconst (pc' := 13) dX5_believedOn_12 rfl ?_
    refine sw_icmp_ge (tgt := 65) (pc' := 16) dX5_believedOn_13 (by decide) rfl (fun _ => ?_) (fun _ => ?_)
    · refine sw_aload_n (pc' := 17) dX5_believedOn_16 rfl rfl ?_
      refine sw_iload_n (pc' := 18) dX5_believedOn_17 rfl rfl ?_
      refine sw_iload_n (pc' := 19) dX5_believedOn_18 rfl rfl ?_
      refine sw_iload (pc' := 21) dX5_believedOn_19 rfl rfl ?_
      refine sw_iload_n (pc' := 22) dX5_believedOn_21 rfl rfl ?_
      refine sw_callVI (pc' := 25) (As := [vi x1, vi x2, vi x6, vi x3]) (rest := []) dX5_believedOn_22 cv_X5_152 (tbk_51) (m_X5_toldOn x1 x2 x6 x3 σ) rfl rfl rfl rfl rfl (fun v22 s22 => ?_)
      refine sw_istore (pc' := 27) (x := v22) (L' := [some (.ref (ad G 51)), some (vi x1), some (vi x2), some (vi x3), some (vi x4), some (vi x5), some (vi x6), some (vi v22)]) dX5_believedOn_25 rfl (by decide) rfl rfl ?_
      refine sw_iload (pc' := 29) dX5_believedOn_27 rfl rfl ?_
      refine sw_iload (pc' := 31) dX5_believedOn_29 rfl rfl ?_
      refine sw_icmp_le (tgt := 39) (pc' := 34) dX5_believedOn_31 (by decide) rfl (fun _ => ?_) (fun _ => ?_)
      · refine sw_iload (pc' := 36) dX5_believedOn_34 rfl rfl ?_
        refine sw_goto (pc' := 41) dX5_believedOn_36 (by decide) ?_
        refine sw_msk [true, true, true, true, false, true, true, true] rfl ?_
        exact s_X5_believedOn_41 (f_X5_believedOn_10 n) (ih) x1 x2 x3 x5 x6 v22 x6 s22
      · refine sw_iload (pc' := 41) dX5_believedOn_39 rfl rfl ?_
        refine sw_msk [true, true, true, true, false, true, true, true] rfl ?_
        exact s_X5_believedOn_41 (f_X5_believedOn_10 n) (ih) x1 x2 x3 x5 x6 v22 x4 s22
    · refine sw_iload (pc' := 67) dX5_believedOn_65 rfl rfl ?_
      exact sw_iret dX5_believedOn_67
def f_X5_believedOn (x1 : Int) (x2 : Int) (x3 : Int) (σ : St) : Option (Int × St) :=
  f_X5_believedOn_10 FU x1 x2 x3 (-4) 0 0 σ
set_option maxRecDepth 20000 in
theorem m_X5_believedOn (x1 : Int) (x2 : Int) (x3 : Int)  (σ : St) : MT G l yX5_believedOn cX5_believedOn 8 (some .int) rm_X5_believedOn [.ref (ad G 51), vi x1, vi x2, vi x3] wI σ (f_X5_believedOn x1 x2 x3 σ) := by
  refine mt_I (L := [some (.ref (ad G 51)), some (vi x1), some (vi x2), some (vi x3), none, none, none, none]) rfl (Nat.le_of_ble_eq_true rfl) rfl ?_
  show SW G l RX5 cX5_believedOn 8 rm_X5_believedOn wI 0 [some (.ref (ad G 51)), some (vi x1), some (vi x2), some (vi x3), none, none, none, none] [] σ (f_X5_believedOn x1 x2 x3 σ)
  unfold f_X5_believedOn
  refine sw_bipush (pc' := 2) dX5_believedOn_0 rfl rfl ?_
  refine sw_istore (pc' := 4) (x := (-4)) (L' := [some (.ref (ad G 51)), some (vi x1), some (vi x2), some (vi x3), some (vi (-4)), none, none, none]) dX5_believedOn_2 rfl (by decide) rfl rfl ?_
  refine sw_iconst (pc' := 5) dX5_believedOn_4 rfl ?_
  refine sw_istore (pc' := 7) (x := 0) (L' := [some (.ref (ad G 51)), some (vi x1), some (vi x2), some (vi x3), some (vi (-4)), some (vi 0), none, none]) dX5_believedOn_5 rfl (by decide) rfl rfl ?_
  refine sw_iconst (pc' := 8) dX5_believedOn_7 rfl ?_
  refine sw_istore (pc' := 10) (x := 0) (L' := [some (.ref (ad G 51)), some (vi x1), some (vi x2), some (vi x3), some (vi (-4)), some (vi 0), some (vi 0), none]) dX5_believedOn_8 rfl (by decide) rfl rfl ?_
  exact s_X5_believedOn_10 FU x1 x2 x3 (-4) 0 0 σ
def rm_X5_agreesOn : Room := { frames := 3, cells := 0, slots := 0, locals := 65 }
def f_X5_agreesOn_32   (σ : St) : Option (Bool × St) :=
  some (true, σ)
set_option maxRecDepth 20000 in
theorem s_X5_agreesOn_32     (σ : St) : SW G l RX5 cX5_agreesOn 4 rm_X5_agreesOn wB 32 [none, none, none, none] [] σ (f_X5_agreesOn_32 σ) := by
  unfold f_X5_agreesOn_32
  refine sw_iconst (pc' := 33) dX5_agreesOn_32 rfl ?_
  refine sw_goto (pc' := 37) dX5_agreesOn_33 (by decide) ?_
  exact sw_bret (x := true) dX5_agreesOn_37
def f_X5_agreesOn (x1 : Int) (x2 : Int) (σ : St) : Option (Bool × St) :=
  bV (ld σ 52 330 (x1 + 53)) fun v11 => bI (f_X5_believedOn x1 x2 v11 σ) fun v12 s12 => if wr v12 = wr (-4) then
    f_X5_agreesOn_32 s12
  else
    bI (f_X5_readsOn x1 x2 s12) fun v26 s26 => if wr v12 = wr v26 then
      f_X5_agreesOn_32 s26
    else
      some (false, s26)
set_option maxRecDepth 20000 in
theorem m_X5_agreesOn (x1 : Int) (x2 : Int)  (σ : St) : MT G l yX5_agreesOn cX5_agreesOn 4 (some .boolean) rm_X5_agreesOn [.ref (ad G 51), vi x1, vi x2] wB σ (f_X5_agreesOn x1 x2 σ) := by
  refine mt_B (L := [some (.ref (ad G 51)), some (vi x1), some (vi x2), none]) rfl (Nat.le_of_ble_eq_true rfl) rfl ?_
  show SW G l RX5 cX5_agreesOn 4 rm_X5_agreesOn wB 0 [some (.ref (ad G 51)), some (vi x1), some (vi x2), none] [] σ (f_X5_agreesOn x1 x2 σ)
  unfold f_X5_agreesOn
  refine sw_aload_n (pc' := 1) dX5_agreesOn_0 rfl rfl ?_
  refine sw_iload_n (pc' := 2) dX5_agreesOn_1 rfl rfl ?_
  refine sw_iload_n (pc' := 3) dX5_agreesOn_2 rfl rfl ?_
  refine sw_aload_n (pc' := 4) dX5_agreesOn_3 rfl rfl ?_
  refine sw_getr (pc' := 7) dX5_agreesOn_4 fl_X5_7 (tbk_51) rfl rfl ?_
  refine sw_iload_n (pc' := 8) dX5_agreesOn_7 rfl rfl ?_
  refine sw_bipush (pc' := 10) dX5_agreesOn_8 rfl rfl ?_
  refine sw_iadd (pc' := 11) dX5_agreesOn_10 rfl ?_
  refine sw_iald (pc' := 12) dX5_agreesOn_11 (tbk_52) rfl (fun v11 => ?_)
  refine sw_callVI (pc' := 15) (As := [vi x1, vi x2, vi v11]) (rest := []) dX5_agreesOn_12 cv_X5_156 (tbk_51) (m_X5_believedOn x1 x2 v11 σ) rfl rfl rfl rfl rfl (fun v12 s12 => ?_)
  refine sw_istore_n (pc' := 16) (x := v12) (L' := [some (.ref (ad G 51)), some (vi x1), some (vi x2), some (vi v12)]) dX5_agreesOn_15 rfl (by decide) rfl rfl ?_
  refine sw_iload_n (pc' := 17) dX5_agreesOn_16 rfl rfl ?_
  refine sw_bipush (pc' := 19) dX5_agreesOn_17 rfl rfl ?_
  refine sw_icmp_eq (tgt := 32) (pc' := 22) dX5_agreesOn_19 (by decide) rfl (fun _ => ?_) (fun _ => ?_)
  · refine sw_msk [false, false, false, false] rfl ?_
    exact s_X5_agreesOn_32 s12
  · refine sw_iload_n (pc' := 23) dX5_agreesOn_22 rfl rfl ?_
    refine sw_aload_n (pc' := 24) dX5_agreesOn_23 rfl rfl ?_
    refine sw_iload_n (pc' := 25) dX5_agreesOn_24 rfl rfl ?_
    refine sw_iload_n (pc' := 26) dX5_agreesOn_25 rfl rfl ?_
    refine sw_callVI (pc' := 29) (As := [vi x1, vi x2]) (rest := [vi v12]) dX5_agreesOn_26 cv_X5_160 (tbk_51) (m_X5_readsOn x1 x2 s12) rfl rfl rfl rfl rfl (fun v26 s26 => ?_)
    refine sw_icmp_ne (tgt := 36) (pc' := 32) dX5_agreesOn_29 (by decide) rfl (fun _ => ?_) (fun _ => ?_)
    · refine sw_msk [false, false, false, false] rfl ?_
      exact s_X5_agreesOn_32 s26
    · refine sw_iconst (pc' := 37) dX5_agreesOn_36 rfl ?_
      exact sw_bret (x := false) dX5_agreesOn_37
def rm_X5_apart : Room := { frames := 0, cells := 0, slots := 0, locals := 0 }
def f_X5_apart (x0 : Int) (x1 : Int) (σ : St) : Option (Int × St) :=
  if wr x1 < wr x0 then
    some ((x0 - x1), σ)
  else
    some ((x1 - x0), σ)
set_option maxRecDepth 20000 in
theorem m_X5_apart (x0 : Int) (x1 : Int)  (σ : St) : MT G l yX5_apart cX5_apart 2 (some .int) rm_X5_apart [vi x0, vi x1] wI σ (f_X5_apart x0 x1 σ) := by
  refine mt_I (L := [some (vi x0), some (vi x1)]) rfl (Nat.le_of_ble_eq_true rfl) rfl ?_
  show SW G l RX5 cX5_apart 2 rm_X5_apart wI 0 [some (vi x0), some (vi x1)] [] σ (f_X5_apart x0 x1 σ)
  unfold f_X5_apart
  refine sw_iload_n (pc' := 1) dX5_apart_0 rfl rfl ?_
  refine sw_iload_n (pc' := 2) dX5_apart_1 rfl rfl ?_
  refine sw_icmp_le (tgt := 11) (pc' := 5) dX5_apart_2 (by decide) rfl (fun _ => ?_) (fun _ => ?_)
  · refine sw_iload_n (pc' := 6) dX5_apart_5 rfl rfl ?_
    refine sw_iload_n (pc' := 7) dX5_apart_6 rfl rfl ?_
    refine sw_isub (pc' := 8) dX5_apart_7 rfl ?_
    refine sw_goto (pc' := 14) dX5_apart_8 (by decide) ?_
    exact sw_iret dX5_apart_14
  · refine sw_iload_n (pc' := 12) dX5_apart_11 rfl rfl ?_
    refine sw_iload_n (pc' := 13) dX5_apart_12 rfl rfl ?_
    refine sw_isub (pc' := 14) dX5_apart_13 rfl ?_
    exact sw_iret dX5_apart_14
def rm_X5_legOn : Room := { frames := 3, cells := 0, slots := 0, locals := 65 }
def f_X5_legOn_94  (k43 : Int → Int → Int → Int → Int → Int → St → Option (Int × St)) (x1 x2 x3 x4 x5 x6 : Int) (σ : St) : Option (Int × St) :=
  k43 x1 x2 x3 x4 x5 (x6 + 1) σ
set_option maxRecDepth 20000 in
theorem s_X5_legOn_94   (k43 : Int → Int → Int → Int → Int → Int → St → Option (Int × St)) (hk43 : ∀ (x1 x2 x3 x4 x5 x6 : Int) (σ : St), SW G l RX5 cX5_legOn 8 rm_X5_legOn wI 43 [some (.ref (ad G 51)), some (vi x1), some (vi x2), some (vi x3), some (vi x4), some (vi x5), some (vi x6), none] [] σ (k43 x1 x2 x3 x4 x5 x6 σ)) (x1 x2 x3 x4 x5 x6 : Int) (σ : St) : SW G l RX5 cX5_legOn 8 rm_X5_legOn wI 94 [some (.ref (ad G 51)), some (vi x1), some (vi x2), some (vi x3), some (vi x4), some (vi x5), some (vi x6), none] [] σ (f_X5_legOn_94 k43 x1 x2 x3 x4 x5 x6 σ) := by
  unfold f_X5_legOn_94
  refine sw_iinc (pc' := 97) (x := x6) (L' := [some (.ref (ad G 51)), some (vi x1), some (vi x2), some (vi x3), some (vi x4), some (vi x5), some (vi (x6 + 1)), none]) dX5_legOn_94 rfl (by decide) rfl rfl rfl ?_
  refine sw_goto (pc' := 43) dX5_legOn_97 (by decide) ?_
  exact hk43 x1 x2 x3 x4 x5 (x6 + 1) σ
def f_X5_legOn_43   : Nat → Int → Int → Int → Int → Int → Int → St → Option (Int × St)
  | 0, _, _, _, _, _, _, _ => none
  | n + 1, x1, x2, x3, x4, x5, x6, σ =>
    if wr x6 < wr 4 then
      bV (ld σ 52 330 (x1 + x2)) fun v65 => bI (f_X5_readsOf v65 (ixd x4 (isl 1 x6)) σ) fun v68 s68 => bI (f_X5_apart v68 x3 s68) fun v72 s72 => if wr v72 < wr x5 then
        bI (f_X5_isUpright x1 x2 (ixd x4 (isl 1 x6)) s72) fun v85 s85 => if v85 then
          some (x6, s85)
        else
          f_X5_legOn_94 (f_X5_legOn_43 n) x1 x2 x3 x4 x5 x6 s85
      else
        f_X5_legOn_94 (f_X5_legOn_43 n) x1 x2 x3 x4 x5 x6 s72
    else
      some ((-4), σ)
set_option maxRecDepth 20000 in
theorem s_X5_legOn_43     : ∀ (n : Nat) (x1 x2 x3 x4 x5 x6 : Int) (σ : St), SW G l RX5 cX5_legOn 8 rm_X5_legOn wI 43 [some (.ref (ad G 51)), some (vi x1), some (vi x2), some (vi x3), some (vi x4), some (vi x5), some (vi x6), none] [] σ (f_X5_legOn_43 n x1 x2 x3 x4 x5 x6 σ) := by
  intro n
  induction n with
  | zero => intro x1 x2 x3 x4 x5 x6 σ; exact sw_none
  | succ n ih =>
    intro x1 x2 x3 x4 x5 x6 σ
    rw [f_X5_legOn_43]
    refine sw_iload (pc' := 45) dX5_legOn_43 rfl rfl ?_
    refine sw_iconst (pc' := 46) dX5_legOn_45 rfl ?_
    refine sw_icmp_ge (tgt := 100) (pc' := 49) dX5_legOn_46 (by decide) rfl (fun _ => ?_) (fun _ => ?_)
    · refine sw_iload (pc' := 51) dX5_legOn_49 rfl rfl ?_
      refine sw_iconst (pc' := 52) dX5_legOn_51 rfl ?_
      refine sw_iload (pc' := 54) dX5_legOn_52 rfl rfl ?_
      refine sw_ishl (pc' := 55) dX5_legOn_54 rfl ?_
      refine sw_ixor (pc' := 56) dX5_legOn_55 rfl ?_
      refine sw_istore (pc' := 58) (x := (ixd x4 (isl 1 x6))) (L' := [some (.ref (ad G 51)), some (vi x1), some (vi x2), some (vi x3), some (vi x4), some (vi x5), some (vi x6), some (vi (ixd x4 (isl 1 x6)))]) dX5_legOn_56 rfl (by decide) rfl rfl ?_
      refine sw_aload_n (pc' := 59) dX5_legOn_58 rfl rfl ?_
      refine sw_getr (pc' := 62) dX5_legOn_59 fl_X5_7 (tbk_51) rfl rfl ?_
      refine sw_iload_n (pc' := 63) dX5_legOn_62 rfl rfl ?_
      refine sw_iload_n (pc' := 64) dX5_legOn_63 rfl rfl ?_
      refine sw_iadd (pc' := 65) dX5_legOn_64 rfl ?_
      refine sw_iald (pc' := 66) dX5_legOn_65 (tbk_52) rfl (fun v65 => ?_)
      refine sw_iload (pc' := 68) dX5_legOn_66 rfl rfl ?_
      refine sw_callSI (pc' := 71) (As := [vi v65, vi (ixd x4 (isl 1 x6))]) (rest := []) dX5_legOn_68 cs_X5_142 (m_X5_readsOf v65 (ixd x4 (isl 1 x6)) σ) rfl rfl rfl rfl rfl (fun v68 s68 => ?_)
      refine sw_iload_n (pc' := 72) dX5_legOn_71 rfl rfl ?_
      refine sw_callSI (pc' := 75) (As := [vi v68, vi x3]) (rest := []) dX5_legOn_72 cs_X5_163 (m_X5_apart v68 x3 s68) rfl rfl rfl rfl rfl (fun v72 s72 => ?_)
      refine sw_iload (pc' := 77) dX5_legOn_75 rfl rfl ?_
      refine sw_icmp_ge (tgt := 94) (pc' := 80) dX5_legOn_77 (by decide) rfl (fun _ => ?_) (fun _ => ?_)
      · refine sw_aload_n (pc' := 81) dX5_legOn_80 rfl rfl ?_
        refine sw_iload_n (pc' := 82) dX5_legOn_81 rfl rfl ?_
        refine sw_iload_n (pc' := 83) dX5_legOn_82 rfl rfl ?_
        refine sw_iload (pc' := 85) dX5_legOn_83 rfl rfl ?_
        refine sw_callVB (pc' := 88) (As := [vi x1, vi x2, vi (ixd x4 (isl 1 x6))]) (rest := []) dX5_legOn_85 cv_X5_145 (tbk_51) (m_X5_isUpright x1 x2 (ixd x4 (isl 1 x6)) s72) rfl rfl rfl rfl rfl (fun v85 s85 => ?_)
        refine sw_bif_eq (tgt := 94) (pc' := 91) dX5_legOn_88 (by decide) rfl (fun _ => ?_) (fun _ => ?_)
        · refine sw_iload (pc' := 93) dX5_legOn_91 rfl rfl ?_
          exact sw_iret dX5_legOn_93
        · refine sw_msk [true, true, true, true, true, true, true, false] rfl ?_
          exact s_X5_legOn_94 (f_X5_legOn_43 n) (ih) x1 x2 x3 x4 x5 x6 s85
      · refine sw_msk [true, true, true, true, true, true, true, false] rfl ?_
        exact s_X5_legOn_94 (f_X5_legOn_43 n) (ih) x1 x2 x3 x4 x5 x6 s72
    · refine sw_bipush (pc' := 102) dX5_legOn_100 rfl rfl ?_
      exact sw_iret dX5_legOn_102
def f_X5_legOn (x1 : Int) (x2 : Int) (σ : St) : Option (Int × St) :=
  bV (ld σ 52 330 (x1 + 53)) fun v11 => bI (f_X5_believedOn x1 x2 v11 σ) fun v12 s12 => bV (ld s12 52 330 ((x1 + 5) + x2)) fun v25 => bI (f_X5_readsOn x1 x2 s12) fun v31 s31 => bI (f_X5_apart v31 v12 s31) fun v35 s35 => f_X5_legOn_43 FU x1 x2 v12 v25 v35 0 s35
set_option maxRecDepth 20000 in
theorem m_X5_legOn (x1 : Int) (x2 : Int)  (σ : St) : MT G l yX5_legOn cX5_legOn 8 (some .int) rm_X5_legOn [.ref (ad G 51), vi x1, vi x2] wI σ (f_X5_legOn x1 x2 σ) := by
  refine mt_I (L := [some (.ref (ad G 51)), some (vi x1), some (vi x2), none, none, none, none, none]) rfl (Nat.le_of_ble_eq_true rfl) rfl ?_
  show SW G l RX5 cX5_legOn 8 rm_X5_legOn wI 0 [some (.ref (ad G 51)), some (vi x1), some (vi x2), none, none, none, none, none] [] σ (f_X5_legOn x1 x2 σ)
  unfold f_X5_legOn
  refine sw_aload_n (pc' := 1) dX5_legOn_0 rfl rfl ?_
  refine sw_iload_n (pc' := 2) dX5_legOn_1 rfl rfl ?_
  refine sw_iload_n (pc' := 3) dX5_legOn_2 rfl rfl ?_
  refine sw_aload_n (pc' := 4) dX5_legOn_3 rfl rfl ?_
  refine sw_getr (pc' := 7) dX5_legOn_4 fl_X5_7 (tbk_51) rfl rfl ?_
  refine sw_iload_n (pc' := 8) dX5_legOn_7 rfl rfl ?_
  refine sw_bipush (pc' := 10) dX5_legOn_8 rfl rfl ?_
  refine sw_iadd (pc' := 11) dX5_legOn_10 rfl ?_
  refine sw_iald (pc' := 12) dX5_legOn_11 (tbk_52) rfl (fun v11 => ?_)
  refine sw_callVI (pc' := 15) (As := [vi x1, vi x2, vi v11]) (rest := []) dX5_legOn_12 cv_X5_156 (tbk_51) (m_X5_believedOn x1 x2 v11 σ) rfl rfl rfl rfl rfl (fun v12 s12 => ?_)
  refine sw_istore_n (pc' := 16) (x := v12) (L' := [some (.ref (ad G 51)), some (vi x1), some (vi x2), some (vi v12), none, none, none, none]) dX5_legOn_15 rfl (by decide) rfl rfl ?_
  refine sw_aload_n (pc' := 17) dX5_legOn_16 rfl rfl ?_
  refine sw_getr (pc' := 20) dX5_legOn_17 fl_X5_7 (tbk_51) rfl rfl ?_
  refine sw_iload_n (pc' := 21) dX5_legOn_20 rfl rfl ?_
  refine sw_iconst (pc' := 22) dX5_legOn_21 rfl ?_
  refine sw_iadd (pc' := 23) dX5_legOn_22 rfl ?_
  refine sw_iload_n (pc' := 24) dX5_legOn_23 rfl rfl ?_
  refine sw_iadd (pc' := 25) dX5_legOn_24 rfl ?_
  refine sw_iald (pc' := 26) dX5_legOn_25 (tbk_52) rfl (fun v25 => ?_)
  refine sw_istore (pc' := 28) (x := v25) (L' := [some (.ref (ad G 51)), some (vi x1), some (vi x2), some (vi v12), some (vi v25), none, none, none]) dX5_legOn_26 rfl (by decide) rfl rfl ?_
  refine sw_aload_n (pc' := 29) dX5_legOn_28 rfl rfl ?_
  refine sw_iload_n (pc' := 30) dX5_legOn_29 rfl rfl ?_
  refine sw_iload_n (pc' := 31) dX5_legOn_30 rfl rfl ?_
  refine sw_callVI (pc' := 34) (As := [vi x1, vi x2]) (rest := []) dX5_legOn_31 cv_X5_160 (tbk_51) (m_X5_readsOn x1 x2 s12) rfl rfl rfl rfl rfl (fun v31 s31 => ?_)
  refine sw_iload_n (pc' := 35) dX5_legOn_34 rfl rfl ?_
  refine sw_callSI (pc' := 38) (As := [vi v31, vi v12]) (rest := []) dX5_legOn_35 cs_X5_163 (m_X5_apart v31 v12 s31) rfl rfl rfl rfl rfl (fun v35 s35 => ?_)
  refine sw_istore (pc' := 40) (x := v35) (L' := [some (.ref (ad G 51)), some (vi x1), some (vi x2), some (vi v12), some (vi v25), some (vi v35), none, none]) dX5_legOn_38 rfl (by decide) rfl rfl ?_
  refine sw_iconst (pc' := 41) dX5_legOn_40 rfl ?_
  refine sw_istore (pc' := 43) (x := 0) (L' := [some (.ref (ad G 51)), some (vi x1), some (vi x2), some (vi v12), some (vi v25), some (vi v35), some (vi 0), none]) dX5_legOn_41 rfl (by decide) rfl rfl ?_
  exact s_X5_legOn_43 FU x1 x2 v12 v25 v35 0 s35
def rm_X5_dayOn : Room := { frames := 4, cells := 0, slots := 0, locals := 92 }
def f_X5_dayOn_95  (k2 : Int → Int → St → Option (St)) (x1 x2 : Int) (σ : St) : Option (St) :=
  k2 x1 (x2 + 1) σ
set_option maxRecDepth 20000 in
theorem s_X5_dayOn_95   (k2 : Int → Int → St → Option (St)) (hk2 : ∀ (x1 x2 : Int) (σ : St), SW G l RX5 cX5_dayOn 4 rm_X5_dayOn wV 2 [some (.ref (ad G 51)), some (vi x1), some (vi x2), none] [] σ (k2 x1 x2 σ)) (x1 x2 : Int) (σ : St) : SW G l RX5 cX5_dayOn 4 rm_X5_dayOn wV 95 [some (.ref (ad G 51)), some (vi x1), some (vi x2), none] [] σ (f_X5_dayOn_95 k2 x1 x2 σ) := by
  unfold f_X5_dayOn_95
  refine sw_iinc (pc' := 98) (x := x2) (L' := [some (.ref (ad G 51)), some (vi x1), some (vi (x2 + 1)), none]) dX5_dayOn_95 rfl (by decide) rfl rfl rfl ?_
  refine sw_goto (pc' := 2) dX5_dayOn_98 (by decide) ?_
  exact hk2 x1 (x2 + 1) σ
def f_X5_dayOn_83  (k2 : Int → Int → St → Option (St)) (x1 x2 t0 t1 t2 t3 : Int) (σ : St) : Option (St) :=
  bV (sv σ 52 330 t1 (t2 + t3)) fun s84 => bV (pf s84 51 19 ((s84 51 19) + 1)) fun s92 => f_X5_dayOn_95 k2 x1 x2 s92
set_option maxRecDepth 20000 in
theorem s_X5_dayOn_83   (k2 : Int → Int → St → Option (St)) (hk2 : ∀ (x1 x2 : Int) (σ : St), SW G l RX5 cX5_dayOn 4 rm_X5_dayOn wV 2 [some (.ref (ad G 51)), some (vi x1), some (vi x2), none] [] σ (k2 x1 x2 σ)) (x1 x2 t0 t1 t2 t3 : Int) (σ : St) : SW G l RX5 cX5_dayOn 4 rm_X5_dayOn wV 83 [some (.ref (ad G 51)), some (vi x1), some (vi x2), none] [vi t3, vi t2, vi t1, .ref (ad G 52)] σ (f_X5_dayOn_83 k2 x1 x2 t0 t1 t2 t3 σ) := by
  unfold f_X5_dayOn_83
  refine sw_iadd (pc' := 84) dX5_dayOn_83 rfl ?_
  refine sw_iast (pc' := 85) dX5_dayOn_84 (tbk_52) rfl (fun s84 => ?_)
  refine sw_aload_n (pc' := 86) dX5_dayOn_85 rfl rfl ?_
  refine sw_dup (pc' := 87) dX5_dayOn_86 rfl rfl ?_
  refine sw_getn (pc' := 90) dX5_dayOn_87 fl_X5_173 (tbk_51) rfl rfl ?_
  refine sw_iconst (pc' := 91) dX5_dayOn_90 rfl ?_
  refine sw_iadd (pc' := 92) dX5_dayOn_91 rfl ?_
  refine sw_putI (pc' := 95) dX5_dayOn_92 fp_X5_173 (tbk_51) rfl rfl (fun s92 => ?_)
  exact s_X5_dayOn_95 k2 hk2 x1 x2 s92
def f_X5_dayOn_30  (k2 : Int → Int → St → Option (St)) (x1 x2 t0 : Int) (σ : St) : Option (St) :=
  if wr t0 = wr (-4) then
    f_X5_dayOn_95 k2 x1 x2 σ
  else
    bV (ld σ 52 330 ((x1 + 5) + x2)) fun v47 => bV (sv σ 52 330 ((x1 + 5) + x2) (ixd v47 (isl 1 t0))) fun s52 => bV (ld s52 52 330 (x1 + 54)) fun v62 => bV (ld s52 52 330 (x1 + 54)) fun v71 => if wr v71 < wr 9999 then
      f_X5_dayOn_83 k2 x1 x2 52 (x1 + 54) v62 1 s52
    else
      f_X5_dayOn_83 k2 x1 x2 52 (x1 + 54) v62 0 s52
set_option maxRecDepth 20000 in
theorem s_X5_dayOn_30   (k2 : Int → Int → St → Option (St)) (hk2 : ∀ (x1 x2 : Int) (σ : St), SW G l RX5 cX5_dayOn 4 rm_X5_dayOn wV 2 [some (.ref (ad G 51)), some (vi x1), some (vi x2), none] [] σ (k2 x1 x2 σ)) (x1 x2 t0 : Int) (σ : St) : SW G l RX5 cX5_dayOn 4 rm_X5_dayOn wV 30 [some (.ref (ad G 51)), some (vi x1), some (vi x2), none] [vi t0] σ (f_X5_dayOn_30 k2 x1 x2 t0 σ) := by
  unfold f_X5_dayOn_30
  refine sw_istore_n (pc' := 31) (x := t0) (L' := [some (.ref (ad G 51)), some (vi x1), some (vi x2), some (vi t0)]) dX5_dayOn_30 rfl (by decide) rfl rfl ?_
  refine sw_iload_n (pc' := 32) dX5_dayOn_31 rfl rfl ?_
  refine sw_bipush (pc' := 34) dX5_dayOn_32 rfl rfl ?_
  refine sw_icmp_eq (tgt := 95) (pc' := 37) dX5_dayOn_34 (by decide) rfl (fun _ => ?_) (fun _ => ?_)
  · refine sw_msk [true, true, true, false] rfl ?_
    exact s_X5_dayOn_95 k2 hk2 x1 x2 σ
  · refine sw_aload_n (pc' := 38) dX5_dayOn_37 rfl rfl ?_
    refine sw_getr (pc' := 41) dX5_dayOn_38 fl_X5_7 (tbk_51) rfl rfl ?_
    refine sw_iload_n (pc' := 42) dX5_dayOn_41 rfl rfl ?_
    refine sw_iconst (pc' := 43) dX5_dayOn_42 rfl ?_
    refine sw_iadd (pc' := 44) dX5_dayOn_43 rfl ?_
    refine sw_iload_n (pc' := 45) dX5_dayOn_44 rfl rfl ?_
    refine sw_iadd (pc' := 46) dX5_dayOn_45 rfl ?_
    refine sw_dup2 (pc' := 47) dX5_dayOn_46 rfl rfl rfl ?_
    refine sw_iald (pc' := 48) dX5_dayOn_47 (tbk_52) rfl (fun v47 => ?_)
    refine sw_iconst (pc' := 49) dX5_dayOn_48 rfl ?_
    refine sw_iload_n (pc' := 50) dX5_dayOn_49 rfl rfl ?_
    refine sw_ishl (pc' := 51) dX5_dayOn_50 rfl ?_
    refine sw_ixor (pc' := 52) dX5_dayOn_51 rfl ?_
    refine sw_iast (pc' := 53) dX5_dayOn_52 (tbk_52) rfl (fun s52 => ?_)
    refine sw_aload_n (pc' := 54) dX5_dayOn_53 rfl rfl ?_
    refine sw_getr (pc' := 57) dX5_dayOn_54 fl_X5_7 (tbk_51) rfl rfl ?_
    refine sw_iload_n (pc' := 58) dX5_dayOn_57 rfl rfl ?_
    refine sw_bipush (pc' := 60) dX5_dayOn_58 rfl rfl ?_
    refine sw_iadd (pc' := 61) dX5_dayOn_60 rfl ?_
    refine sw_dup2 (pc' := 62) dX5_dayOn_61 rfl rfl rfl ?_
    refine sw_iald (pc' := 63) dX5_dayOn_62 (tbk_52) rfl (fun v62 => ?_)
    refine sw_aload_n (pc' := 64) dX5_dayOn_63 rfl rfl ?_
    refine sw_getr (pc' := 67) dX5_dayOn_64 fl_X5_7 (tbk_51) rfl rfl ?_
    refine sw_iload_n (pc' := 68) dX5_dayOn_67 rfl rfl ?_
    refine sw_bipush (pc' := 70) dX5_dayOn_68 rfl rfl ?_
    refine sw_iadd (pc' := 71) dX5_dayOn_70 rfl ?_
    refine sw_iald (pc' := 72) dX5_dayOn_71 (tbk_52) rfl (fun v71 => ?_)
    refine sw_sipush (pc' := 75) dX5_dayOn_72 rfl rfl ?_
    refine sw_icmp_ge (tgt := 82) (pc' := 78) dX5_dayOn_75 (by decide) rfl (fun _ => ?_) (fun _ => ?_)
    · refine sw_iconst (pc' := 79) dX5_dayOn_78 rfl ?_
      refine sw_goto (pc' := 83) dX5_dayOn_79 (by decide) ?_
      refine sw_msk [true, true, true, false] rfl ?_
      exact s_X5_dayOn_83 k2 hk2 x1 x2 52 (x1 + 54) v62 1 s52
    · refine sw_iconst (pc' := 83) dX5_dayOn_82 rfl ?_
      refine sw_msk [true, true, true, false] rfl ?_
      exact s_X5_dayOn_83 k2 hk2 x1 x2 52 (x1 + 54) v62 0 s52
def f_X5_dayOn_2   : Nat → Int → Int → St → Option (St)
  | 0, _, _, _ => none
  | n + 1, x1, x2, σ =>
    if wr x2 < wr (σ 51 1) then
      bI (f_X5_agreesOn x1 x2 σ) fun v13 s13 => if v13 then
        f_X5_dayOn_30 (f_X5_dayOn_2 n) x1 x2 (-4) s13
      else
        bI (f_X5_legOn x1 x2 s13) fun v27 s27 => f_X5_dayOn_30 (f_X5_dayOn_2 n) x1 x2 v27 s27
    else
      bV (ld σ 52 330 (x1 + 53)) fun v110 => bV (sv σ 52 330 (x1 + 53) (v110 + 1)) fun s113 => some s113
set_option maxRecDepth 20000 in
theorem s_X5_dayOn_2     : ∀ (n : Nat) (x1 x2 : Int) (σ : St), SW G l RX5 cX5_dayOn 4 rm_X5_dayOn wV 2 [some (.ref (ad G 51)), some (vi x1), some (vi x2), none] [] σ (f_X5_dayOn_2 n x1 x2 σ) := by
  intro n
  induction n with
  | zero => intro x1 x2 σ; exact sw_none
  | succ n ih =>
    intro x1 x2 σ
    rw [f_X5_dayOn_2]
    refine sw_iload_n (pc' := 3) dX5_dayOn_2 rfl rfl ?_
    refine sw_aload_n (pc' := 4) dX5_dayOn_3 rfl rfl ?_
    refine sw_getn (pc' := 7) dX5_dayOn_4 fl_X5_131 (tbk_51) rfl rfl ?_
    refine sw_icmp_ge (tgt := 101) (pc' := 10) dX5_dayOn_7 (by decide) rfl (fun _ => ?_) (fun _ => ?_)
    · refine sw_aload_n (pc' := 11) dX5_dayOn_10 rfl rfl ?_
      refine sw_iload_n (pc' := 12) dX5_dayOn_11 rfl rfl ?_
      refine sw_iload_n (pc' := 13) dX5_dayOn_12 rfl rfl ?_
      refine sw_callVB (pc' := 16) (As := [vi x1, vi x2]) (rest := []) dX5_dayOn_13 cv_X5_166 (tbk_51) (m_X5_agreesOn x1 x2 σ) rfl rfl rfl rfl rfl (fun v13 s13 => ?_)
      refine sw_bif_eq (tgt := 24) (pc' := 19) dX5_dayOn_16 (by decide) rfl (fun _ => ?_) (fun _ => ?_)
      · refine sw_bipush (pc' := 21) dX5_dayOn_19 rfl rfl ?_
        refine sw_goto (pc' := 30) dX5_dayOn_21 (by decide) ?_
        exact s_X5_dayOn_30 (f_X5_dayOn_2 n) (ih) x1 x2 (-4) s13
      · refine sw_aload_n (pc' := 25) dX5_dayOn_24 rfl rfl ?_
        refine sw_iload_n (pc' := 26) dX5_dayOn_25 rfl rfl ?_
        refine sw_iload_n (pc' := 27) dX5_dayOn_26 rfl rfl ?_
        refine sw_callVI (pc' := 30) (As := [vi x1, vi x2]) (rest := []) dX5_dayOn_27 cv_X5_170 (tbk_51) (m_X5_legOn x1 x2 s13) rfl rfl rfl rfl rfl (fun v27 s27 => ?_)
        exact s_X5_dayOn_30 (f_X5_dayOn_2 n) (ih) x1 x2 v27 s27
    · refine sw_aload_n (pc' := 102) dX5_dayOn_101 rfl rfl ?_
      refine sw_getr (pc' := 105) dX5_dayOn_102 fl_X5_7 (tbk_51) rfl rfl ?_
      refine sw_iload_n (pc' := 106) dX5_dayOn_105 rfl rfl ?_
      refine sw_bipush (pc' := 108) dX5_dayOn_106 rfl rfl ?_
      refine sw_iadd (pc' := 109) dX5_dayOn_108 rfl ?_
      refine sw_dup2 (pc' := 110) dX5_dayOn_109 rfl rfl rfl ?_
      refine sw_iald (pc' := 111) dX5_dayOn_110 (tbk_52) rfl (fun v110 => ?_)
      refine sw_iconst (pc' := 112) dX5_dayOn_111 rfl ?_
      refine sw_iadd (pc' := 113) dX5_dayOn_112 rfl ?_
      refine sw_iast (pc' := 114) dX5_dayOn_113 (tbk_52) rfl (fun s113 => ?_)
      exact sw_vret dX5_dayOn_114
def f_X5_dayOn (x1 : Int) (σ : St) : Option (St) :=
  f_X5_dayOn_2 FU x1 0 σ
set_option maxRecDepth 20000 in
theorem m_X5_dayOn (x1 : Int)  (σ : St) : MT G l yX5_dayOn cX5_dayOn 4 none rm_X5_dayOn [.ref (ad G 51), vi x1] wV σ (f_X5_dayOn x1 σ) := by
  refine mt_V (L := [some (.ref (ad G 51)), some (vi x1), none, none]) rfl (Nat.le_of_ble_eq_true rfl) rfl ?_
  show SW G l RX5 cX5_dayOn 4 rm_X5_dayOn wV 0 [some (.ref (ad G 51)), some (vi x1), none, none] [] σ (f_X5_dayOn x1 σ)
  unfold f_X5_dayOn
  refine sw_iconst (pc' := 1) dX5_dayOn_0 rfl ?_
  refine sw_istore_n (pc' := 2) (x := 0) (L' := [some (.ref (ad G 51)), some (vi x1), some (vi 0), none]) dX5_dayOn_1 rfl (by decide) rfl rfl ?_
  exact s_X5_dayOn_2 FU x1 0 σ
def rm_X5_agreeOn : Room := { frames := 4, cells := 0, slots := 0, locals := 88 }
def f_X5_agreeOn_29  (k4 : Int → Int → Int → St → Option (Int × St)) (x1 x3 t0 t1 : Int) (σ : St) : Option (Int × St) :=
  k4 x1 (iod t0 t1) (x3 + 1) σ
set_option maxRecDepth 20000 in
theorem s_X5_agreeOn_29   (k4 : Int → Int → Int → St → Option (Int × St)) (hk4 : ∀ (x1 x2 x3 : Int) (σ : St), SW G l RX5 cX5_agreeOn 4 rm_X5_agreeOn wI 4 [some (.ref (ad G 51)), some (vi x1), some (vi x2), some (vi x3)] [] σ (k4 x1 x2 x3 σ)) (x1 x3 t0 t1 : Int) (σ : St) : SW G l RX5 cX5_agreeOn 4 rm_X5_agreeOn wI 29 [some (.ref (ad G 51)), some (vi x1), none, some (vi x3)] [vi t1, vi t0] σ (f_X5_agreeOn_29 k4 x1 x3 t0 t1 σ) := by
  unfold f_X5_agreeOn_29
  refine sw_ior (pc' := 30) dX5_agreeOn_29 rfl ?_
  refine sw_istore_n (pc' := 31) (x := (iod t0 t1)) (L' := [some (.ref (ad G 51)), some (vi x1), some (vi (iod t0 t1)), some (vi x3)]) dX5_agreeOn_30 rfl (by decide) rfl rfl ?_
  refine sw_iinc (pc' := 34) (x := x3) (L' := [some (.ref (ad G 51)), some (vi x1), some (vi (iod t0 t1)), some (vi (x3 + 1))]) dX5_agreeOn_31 rfl (by decide) rfl rfl rfl ?_
  refine sw_goto (pc' := 4) dX5_agreeOn_34 (by decide) ?_
  exact hk4 x1 (iod t0 t1) (x3 + 1) σ
def f_X5_agreeOn_4   : Nat → Int → Int → Int → St → Option (Int × St)
  | 0, _, _, _, _ => none
  | n + 1, x1, x2, x3, σ =>
    if wr x3 < wr (σ 51 1) then
      bI (f_X5_agreesOn x1 x3 σ) fun v16 s16 => if v16 then
        f_X5_agreeOn_29 (f_X5_agreeOn_4 n) x1 x3 x2 (isl 1 x3) s16
      else
        f_X5_agreeOn_29 (f_X5_agreeOn_4 n) x1 x3 x2 0 s16
    else
      some (x2, σ)
set_option maxRecDepth 20000 in
theorem s_X5_agreeOn_4     : ∀ (n : Nat) (x1 x2 x3 : Int) (σ : St), SW G l RX5 cX5_agreeOn 4 rm_X5_agreeOn wI 4 [some (.ref (ad G 51)), some (vi x1), some (vi x2), some (vi x3)] [] σ (f_X5_agreeOn_4 n x1 x2 x3 σ) := by
  intro n
  induction n with
  | zero => intro x1 x2 x3 σ; exact sw_none
  | succ n ih =>
    intro x1 x2 x3 σ
    rw [f_X5_agreeOn_4]
    refine sw_iload_n (pc' := 5) dX5_agreeOn_4 rfl rfl ?_
    refine sw_aload_n (pc' := 6) dX5_agreeOn_5 rfl rfl ?_
    refine sw_getn (pc' := 9) dX5_agreeOn_6 fl_X5_131 (tbk_51) rfl rfl ?_
    refine sw_icmp_ge (tgt := 37) (pc' := 12) dX5_agreeOn_9 (by decide) rfl (fun _ => ?_) (fun _ => ?_)
    · refine sw_iload_n (pc' := 13) dX5_agreeOn_12 rfl rfl ?_
      refine sw_aload_n (pc' := 14) dX5_agreeOn_13 rfl rfl ?_
      refine sw_iload_n (pc' := 15) dX5_agreeOn_14 rfl rfl ?_
      refine sw_iload_n (pc' := 16) dX5_agreeOn_15 rfl rfl ?_
      refine sw_callVB (pc' := 19) (As := [vi x1, vi x3]) (rest := [vi x2]) dX5_agreeOn_16 cv_X5_166 (tbk_51) (m_X5_agreesOn x1 x3 σ) rfl rfl rfl rfl rfl (fun v16 s16 => ?_)
      refine sw_bif_eq (tgt := 28) (pc' := 22) dX5_agreeOn_19 (by decide) rfl (fun _ => ?_) (fun _ => ?_)
      · refine sw_iconst (pc' := 23) dX5_agreeOn_22 rfl ?_
        refine sw_iload_n (pc' := 24) dX5_agreeOn_23 rfl rfl ?_
        refine sw_ishl (pc' := 25) dX5_agreeOn_24 rfl ?_
        refine sw_goto (pc' := 29) dX5_agreeOn_25 (by decide) ?_
        refine sw_msk [true, true, false, true] rfl ?_
        exact s_X5_agreeOn_29 (f_X5_agreeOn_4 n) (ih) x1 x3 x2 (isl 1 x3) s16
      · refine sw_iconst (pc' := 29) dX5_agreeOn_28 rfl ?_
        refine sw_msk [true, true, false, true] rfl ?_
        exact s_X5_agreeOn_29 (f_X5_agreeOn_4 n) (ih) x1 x3 x2 0 s16
    · refine sw_iload_n (pc' := 38) dX5_agreeOn_37 rfl rfl ?_
      exact sw_iret dX5_agreeOn_38
def f_X5_agreeOn (x1 : Int) (σ : St) : Option (Int × St) :=
  f_X5_agreeOn_4 FU x1 0 0 σ
set_option maxRecDepth 20000 in
theorem m_X5_agreeOn (x1 : Int)  (σ : St) : MT G l yX5_agreeOn cX5_agreeOn 4 (some .int) rm_X5_agreeOn [.ref (ad G 51), vi x1] wI σ (f_X5_agreeOn x1 σ) := by
  refine mt_I (L := [some (.ref (ad G 51)), some (vi x1), none, none]) rfl (Nat.le_of_ble_eq_true rfl) rfl ?_
  show SW G l RX5 cX5_agreeOn 4 rm_X5_agreeOn wI 0 [some (.ref (ad G 51)), some (vi x1), none, none] [] σ (f_X5_agreeOn x1 σ)
  unfold f_X5_agreeOn
  refine sw_iconst (pc' := 1) dX5_agreeOn_0 rfl ?_
  refine sw_istore_n (pc' := 2) (x := 0) (L' := [some (.ref (ad G 51)), some (vi x1), some (vi 0), none]) dX5_agreeOn_1 rfl (by decide) rfl rfl ?_
  refine sw_iconst (pc' := 3) dX5_agreeOn_2 rfl ?_
  refine sw_istore_n (pc' := 4) (x := 0) (L' := [some (.ref (ad G 51)), some (vi x1), some (vi 0), some (vi 0)]) dX5_agreeOn_3 rfl (by decide) rfl rfl ?_
  exact s_X5_agreeOn_4 FU x1 0 0 σ
def rm_X5_bitsOf : Room := { frames := 0, cells := 0, slots := 0, locals := 0 }
def f_X5_bitsOf_4   : Nat → Int → Int → St → Option (Int × St)
  | 0, _, _, _ => none
  | n + 1, x1, x2, σ =>
    if 0 < wr x2 then
      (f_X5_bitsOf_4 n) (x1 + (iad x2 1)) (isr x2 1) σ
    else
      some (x1, σ)
set_option maxRecDepth 20000 in
theorem s_X5_bitsOf_4     : ∀ (n : Nat) (x1 x2 : Int) (σ : St), SW G l RX5 cX5_bitsOf 3 rm_X5_bitsOf wI 4 [none, some (vi x1), some (vi x2)] [] σ (f_X5_bitsOf_4 n x1 x2 σ) := by
  intro n
  induction n with
  | zero => intro x1 x2 σ; exact sw_none
  | succ n ih =>
    intro x1 x2 σ
    rw [f_X5_bitsOf_4]
    refine sw_iload_n (pc' := 5) dX5_bitsOf_4 rfl rfl ?_
    refine sw_if_le (tgt := 21) (pc' := 8) dX5_bitsOf_5 (by decide) rfl (fun _ => ?_) (fun _ => ?_)
    · refine sw_iload_n (pc' := 9) dX5_bitsOf_8 rfl rfl ?_
      refine sw_iload_n (pc' := 10) dX5_bitsOf_9 rfl rfl ?_
      refine sw_iconst (pc' := 11) dX5_bitsOf_10 rfl ?_
      refine sw_iand (pc' := 12) dX5_bitsOf_11 rfl ?_
      refine sw_iadd (pc' := 13) dX5_bitsOf_12 rfl ?_
      refine sw_istore_n (pc' := 14) (x := (x1 + (iad x2 1))) (L' := [none, some (vi (x1 + (iad x2 1))), some (vi x2)]) dX5_bitsOf_13 rfl (by decide) rfl rfl ?_
      refine sw_iload_n (pc' := 15) dX5_bitsOf_14 rfl rfl ?_
      refine sw_iconst (pc' := 16) dX5_bitsOf_15 rfl ?_
      refine sw_ishr (pc' := 17) dX5_bitsOf_16 rfl ?_
      refine sw_istore_n (pc' := 18) (x := (isr x2 1)) (L' := [none, some (vi (x1 + (iad x2 1))), some (vi (isr x2 1))]) dX5_bitsOf_17 rfl (by decide) rfl rfl ?_
      refine sw_goto (pc' := 4) dX5_bitsOf_18 (by decide) ?_
      exact (ih) (x1 + (iad x2 1)) (isr x2 1) σ
    · refine sw_iload_n (pc' := 22) dX5_bitsOf_21 rfl rfl ?_
      exact sw_iret dX5_bitsOf_22
def f_X5_bitsOf (x0 : Int) (σ : St) : Option (Int × St) :=
  f_X5_bitsOf_4 FU 0 x0 σ
set_option maxRecDepth 20000 in
theorem m_X5_bitsOf (x0 : Int)  (σ : St) : MT G l yX5_bitsOf cX5_bitsOf 3 (some .int) rm_X5_bitsOf [vi x0] wI σ (f_X5_bitsOf x0 σ) := by
  refine mt_I (L := [some (vi x0), none, none]) rfl (Nat.le_of_ble_eq_true rfl) rfl ?_
  show SW G l RX5 cX5_bitsOf 3 rm_X5_bitsOf wI 0 [some (vi x0), none, none] [] σ (f_X5_bitsOf x0 σ)
  unfold f_X5_bitsOf
  refine sw_iconst (pc' := 1) dX5_bitsOf_0 rfl ?_
  refine sw_istore_n (pc' := 2) (x := 0) (L' := [some (vi x0), some (vi 0), none]) dX5_bitsOf_1 rfl (by decide) rfl rfl ?_
  refine sw_iload_n (pc' := 3) dX5_bitsOf_2 rfl rfl ?_
  refine sw_istore_n (pc' := 4) (x := x0) (L' := [some (vi x0), some (vi 0), some (vi x0)]) dX5_bitsOf_3 rfl (by decide) rfl rfl ?_
  refine sw_msk [false, true, true] rfl ?_
  exact s_X5_bitsOf_4 FU 0 x0 σ
def rm_X5_rule : Room := { frames := 5, cells := 0, slots := 0, locals := 111 }
def f_X5_rule_29  (k4 : Int → Int → Int → St → Option (Int × St)) (x1 x3 t0 t1 : Int) (σ : St) : Option (Int × St) :=
  k4 x1 (iod t0 t1) (x3 + 1) σ
set_option maxRecDepth 20000 in
theorem s_X5_rule_29   (k4 : Int → Int → Int → St → Option (Int × St)) (hk4 : ∀ (x1 x2 x3 : Int) (σ : St), SW G l RX5 cX5_rule 4 rm_X5_rule wI 4 [some (.ref (ad G 51)), some (vi x1), some (vi x2), some (vi x3)] [] σ (k4 x1 x2 x3 σ)) (x1 x3 t0 t1 : Int) (σ : St) : SW G l RX5 cX5_rule 4 rm_X5_rule wI 29 [some (.ref (ad G 51)), some (vi x1), none, some (vi x3)] [vi t1, vi t0] σ (f_X5_rule_29 k4 x1 x3 t0 t1 σ) := by
  unfold f_X5_rule_29
  refine sw_ior (pc' := 30) dX5_rule_29 rfl ?_
  refine sw_istore_n (pc' := 31) (x := (iod t0 t1)) (L' := [some (.ref (ad G 51)), some (vi x1), some (vi (iod t0 t1)), some (vi x3)]) dX5_rule_30 rfl (by decide) rfl rfl ?_
  refine sw_iinc (pc' := 34) (x := x3) (L' := [some (.ref (ad G 51)), some (vi x1), some (vi (iod t0 t1)), some (vi (x3 + 1))]) dX5_rule_31 rfl (by decide) rfl rfl rfl ?_
  refine sw_goto (pc' := 4) dX5_rule_34 (by decide) ?_
  exact hk4 x1 (iod t0 t1) (x3 + 1) σ
def f_X5_rule_4   : Nat → Int → Int → Int → St → Option (Int × St)
  | 0, _, _, _, _ => none
  | n + 1, x1, x2, x3, σ =>
    if wr x3 < wr (σ 51 1) then
      bI (f_X5_standsOn 0 x3 σ) fun v16 s16 => if v16 then
        f_X5_rule_29 (f_X5_rule_4 n) x1 x3 x2 (isl 1 x3) s16
      else
        f_X5_rule_29 (f_X5_rule_4 n) x1 x3 x2 0 s16
    else
      if wr x1 = 0 then
        some ((σ 51 1), σ)
      else
        if wr x1 = 1 then
          bV (ld σ 52 330 52) fun v91 => some (v91, σ)
        else
          if wr x1 = 2 then
            bV (ld σ 52 330 53) fun v99 => some (v99, σ)
          else
            if wr x1 = 3 then
              bV (ld σ 52 330 54) fun v107 => some (v107, σ)
            else
              if wr x1 = 4 then
                bV (ld σ 52 330 15) fun v115 => some ((v115 + 25), σ)
              else
                if wr x1 = 5 then
                  bI (f_X5_agreeOn 0 σ) fun v122 s122 => some (v122, s122)
                else
                  if wr x1 = 6 then
                    some (x2, σ)
                  else
                    some ((-1), σ)
set_option maxRecDepth 20000 in
theorem s_X5_rule_4     : ∀ (n : Nat) (x1 x2 x3 : Int) (σ : St), SW G l RX5 cX5_rule 4 rm_X5_rule wI 4 [some (.ref (ad G 51)), some (vi x1), some (vi x2), some (vi x3)] [] σ (f_X5_rule_4 n x1 x2 x3 σ) := by
  intro n
  induction n with
  | zero => intro x1 x2 x3 σ; exact sw_none
  | succ n ih =>
    intro x1 x2 x3 σ
    rw [f_X5_rule_4]
    refine sw_iload_n (pc' := 5) dX5_rule_4 rfl rfl ?_
    refine sw_aload_n (pc' := 6) dX5_rule_5 rfl rfl ?_
    refine sw_getn (pc' := 9) dX5_rule_6 fl_X5_131 (tbk_51) rfl rfl ?_
    refine sw_icmp_ge (tgt := 37) (pc' := 12) dX5_rule_9 (by decide) rfl (fun _ => ?_) (fun _ => ?_)
    · refine sw_iload_n (pc' := 13) dX5_rule_12 rfl rfl ?_
      refine sw_aload_n (pc' := 14) dX5_rule_13 rfl rfl ?_
      refine sw_iconst (pc' := 15) dX5_rule_14 rfl ?_
      refine sw_iload_n (pc' := 16) dX5_rule_15 rfl rfl ?_
      refine sw_callVB (pc' := 19) (As := [vi 0, vi x3]) (rest := [vi x2]) dX5_rule_16 cv_X5_176 (tbk_51) (m_X5_standsOn 0 x3 σ) rfl rfl rfl rfl rfl (fun v16 s16 => ?_)
      refine sw_bif_eq (tgt := 28) (pc' := 22) dX5_rule_19 (by decide) rfl (fun _ => ?_) (fun _ => ?_)
      · refine sw_iconst (pc' := 23) dX5_rule_22 rfl ?_
        refine sw_iload_n (pc' := 24) dX5_rule_23 rfl rfl ?_
        refine sw_ishl (pc' := 25) dX5_rule_24 rfl ?_
        refine sw_goto (pc' := 29) dX5_rule_25 (by decide) ?_
        refine sw_msk [true, true, false, true] rfl ?_
        exact s_X5_rule_29 (f_X5_rule_4 n) (ih) x1 x3 x2 (isl 1 x3) s16
      · refine sw_iconst (pc' := 29) dX5_rule_28 rfl ?_
        refine sw_msk [true, true, false, true] rfl ?_
        exact s_X5_rule_29 (f_X5_rule_4 n) (ih) x1 x3 x2 0 s16
    · refine sw_iload_n (pc' := 38) dX5_rule_37 rfl rfl ?_
      refine sw_case (fun hc0 => ?_) (fun hc0 => ?_)
      · refine sw_tin (tgt := 80) dX5_rule_38 hc0 (by decide) rfl (by decide) ?_
        refine sw_aload_n (pc' := 81) dX5_rule_80 rfl rfl ?_
        refine sw_getn (pc' := 84) dX5_rule_81 fl_X5_131 (tbk_51) rfl rfl ?_
        exact sw_iret dX5_rule_84
      · refine sw_case (fun hc1 => ?_) (fun hc1 => ?_)
        · refine sw_tin (tgt := 85) dX5_rule_38 hc1 (by decide) rfl (by decide) ?_
          refine sw_aload_n (pc' := 86) dX5_rule_85 rfl rfl ?_
          refine sw_getr (pc' := 89) dX5_rule_86 fl_X5_7 (tbk_51) rfl rfl ?_
          refine sw_bipush (pc' := 91) dX5_rule_89 rfl rfl ?_
          refine sw_iald (pc' := 92) dX5_rule_91 (tbk_52) rfl (fun v91 => ?_)
          exact sw_iret dX5_rule_92
        · refine sw_case (fun hc2 => ?_) (fun hc2 => ?_)
          · refine sw_tin (tgt := 93) dX5_rule_38 hc2 (by decide) rfl (by decide) ?_
            refine sw_aload_n (pc' := 94) dX5_rule_93 rfl rfl ?_
            refine sw_getr (pc' := 97) dX5_rule_94 fl_X5_7 (tbk_51) rfl rfl ?_
            refine sw_bipush (pc' := 99) dX5_rule_97 rfl rfl ?_
            refine sw_iald (pc' := 100) dX5_rule_99 (tbk_52) rfl (fun v99 => ?_)
            exact sw_iret dX5_rule_100
          · refine sw_case (fun hc3 => ?_) (fun hc3 => ?_)
            · refine sw_tin (tgt := 101) dX5_rule_38 hc3 (by decide) rfl (by decide) ?_
              refine sw_aload_n (pc' := 102) dX5_rule_101 rfl rfl ?_
              refine sw_getr (pc' := 105) dX5_rule_102 fl_X5_7 (tbk_51) rfl rfl ?_
              refine sw_bipush (pc' := 107) dX5_rule_105 rfl rfl ?_
              refine sw_iald (pc' := 108) dX5_rule_107 (tbk_52) rfl (fun v107 => ?_)
              exact sw_iret dX5_rule_108
            · refine sw_case (fun hc4 => ?_) (fun hc4 => ?_)
              · refine sw_tin (tgt := 109) dX5_rule_38 hc4 (by decide) rfl (by decide) ?_
                refine sw_aload_n (pc' := 110) dX5_rule_109 rfl rfl ?_
                refine sw_getr (pc' := 113) dX5_rule_110 fl_X5_7 (tbk_51) rfl rfl ?_
                refine sw_bipush (pc' := 115) dX5_rule_113 rfl rfl ?_
                refine sw_iald (pc' := 116) dX5_rule_115 (tbk_52) rfl (fun v115 => ?_)
                refine sw_bipush (pc' := 118) dX5_rule_116 rfl rfl ?_
                refine sw_iadd (pc' := 119) dX5_rule_118 rfl ?_
                exact sw_iret dX5_rule_119
              · refine sw_case (fun hc5 => ?_) (fun hc5 => ?_)
                · refine sw_tin (tgt := 120) dX5_rule_38 hc5 (by decide) rfl (by decide) ?_
                  refine sw_aload_n (pc' := 121) dX5_rule_120 rfl rfl ?_
                  refine sw_iconst (pc' := 122) dX5_rule_121 rfl ?_
                  refine sw_callVI (pc' := 125) (As := [vi 0]) (rest := []) dX5_rule_122 cv_X5_179 (tbk_51) (m_X5_agreeOn 0 σ) rfl rfl rfl rfl rfl (fun v122 s122 => ?_)
                  exact sw_iret dX5_rule_125
                · refine sw_case (fun hc6 => ?_) (fun hc6 => ?_)
                  · refine sw_tin (tgt := 126) dX5_rule_38 hc6 (by decide) rfl (by decide) ?_
                    refine sw_iload_n (pc' := 127) dX5_rule_126 rfl rfl ?_
                    exact sw_iret dX5_rule_127
                  · refine sw_tout (tgt := 128) dX5_rule_38 (by omega) (by decide) ?_
                    refine sw_iconst (pc' := 129) dX5_rule_128 rfl ?_
                    exact sw_iret dX5_rule_129
def f_X5_rule (x1 : Int) (σ : St) : Option (Int × St) :=
  f_X5_rule_4 FU x1 0 0 σ
set_option maxRecDepth 20000 in
theorem m_X5_rule (x1 : Int)  (σ : St) : MT G l yX5_rule cX5_rule 4 (some .int) rm_X5_rule [.ref (ad G 51), vi x1] wI σ (f_X5_rule x1 σ) := by
  refine mt_I (L := [some (.ref (ad G 51)), some (vi x1), none, none]) rfl (Nat.le_of_ble_eq_true rfl) rfl ?_
  show SW G l RX5 cX5_rule 4 rm_X5_rule wI 0 [some (.ref (ad G 51)), some (vi x1), none, none] [] σ (f_X5_rule x1 σ)
  unfold f_X5_rule
  refine sw_iconst (pc' := 1) dX5_rule_0 rfl ?_
  refine sw_istore_n (pc' := 2) (x := 0) (L' := [some (.ref (ad G 51)), some (vi x1), some (vi 0), none]) dX5_rule_1 rfl (by decide) rfl rfl ?_
  refine sw_iconst (pc' := 3) dX5_rule_2 rfl ?_
  refine sw_istore_n (pc' := 4) (x := 0) (L' := [some (.ref (ad G 51)), some (vi x1), some (vi 0), some (vi 0)]) dX5_rule_3 rfl (by decide) rfl rfl ?_
  exact s_X5_rule_4 FU x1 0 0 σ
def rm_X5_rider : Room := { frames := 3, cells := 0, slots := 0, locals := 65 }
def f_X5_rider (x1 : Int) (x2 : Int) (σ : St) : Option (Int × St) :=
  bI (f_X5_isRider x1 σ) fun v2 s2 => if v2 then
    bI (f_X5_in (wr x2) 0 5 s2) fun v14 s14 => if v14 then
      if wr x2 < wr 3 then
        bV (ld s14 52 330 ((5 * x2) + x1)) fun v36 => some (v36, s14)
      else
        if wr x2 = wr 3 then
          bI (f_X5_readsOn 0 x1 s14) fun v48 s48 => some (v48, s48)
        else
          if wr x2 = wr 4 then
            bV (ld s14 52 330 53) fun v68 => bI (f_X5_believedOn 0 x1 v68 s14) fun v69 s69 => some (v69, s69)
          else
            bI (f_X5_standsOn 0 x1 s14) fun v78 s78 => if v78 then
              some (1, s78)
            else
              some (0, s78)
    else
      some ((-1), s14)
  else
    some ((-1), s2)
set_option maxRecDepth 20000 in
theorem m_X5_rider (x1 : Int) (x2 : Int)  (σ : St) : MT G l yX5_rider cX5_rider 3 (some .int) rm_X5_rider [.ref (ad G 51), vi x1, vi x2] wI σ (f_X5_rider x1 x2 σ) := by
  refine mt_I (L := [some (.ref (ad G 51)), some (vi x1), some (vi x2)]) rfl (Nat.le_of_ble_eq_true rfl) rfl ?_
  show SW G l RX5 cX5_rider 3 rm_X5_rider wI 0 [some (.ref (ad G 51)), some (vi x1), some (vi x2)] [] σ (f_X5_rider x1 x2 σ)
  unfold f_X5_rider
  refine sw_aload_n (pc' := 1) dX5_rider_0 rfl rfl ?_
  refine sw_iload_n (pc' := 2) dX5_rider_1 rfl rfl ?_
  refine sw_callVB (pc' := 5) (As := [vi x1]) (rest := []) dX5_rider_2 cv_X5_182 (tbk_51) (m_X5_isRider x1 σ) rfl rfl rfl rfl rfl (fun v2 s2 => ?_)
  refine sw_bif_eq (tgt := 20) (pc' := 8) dX5_rider_5 (by decide) rfl (fun _ => ?_) (fun _ => ?_)
  · refine sw_iload_n (pc' := 9) dX5_rider_8 rfl rfl ?_
    refine sw_i2l (pc' := 10) dX5_rider_9 rfl ?_
    refine sw_lconst (x := 0) (pc' := 11) dX5_rider_10 rfl rfl ?_
    refine sw_ldc2 (n := 5) (pc' := 14) dX5_rider_11 kl_X5_186 rfl ?_
    refine sw_callSB (pc' := 17) (As := [vl (wr x2), vl 0, vl 5]) (rest := []) dX5_rider_14 cs_X5_46 (m_X5_in (wr x2) 0 5 s2) rfl rfl rfl rfl rfl (fun v14 s14 => ?_)
    refine sw_bif_ne (tgt := 22) (pc' := 20) dX5_rider_17 (by decide) rfl (fun _ => ?_) (fun _ => ?_)
    · refine sw_iload_n (pc' := 23) dX5_rider_22 rfl rfl ?_
      refine sw_iconst (pc' := 24) dX5_rider_23 rfl ?_
      refine sw_icmp_ge (tgt := 40) (pc' := 27) dX5_rider_24 (by decide) rfl (fun _ => ?_) (fun _ => ?_)
      · refine sw_aload_n (pc' := 28) dX5_rider_27 rfl rfl ?_
        refine sw_getr (pc' := 31) dX5_rider_28 fl_X5_7 (tbk_51) rfl rfl ?_
        refine sw_iconst (pc' := 32) dX5_rider_31 rfl ?_
        refine sw_iload_n (pc' := 33) dX5_rider_32 rfl rfl ?_
        refine sw_imul (pc' := 34) dX5_rider_33 rfl ?_
        refine sw_iload_n (pc' := 35) dX5_rider_34 rfl rfl ?_
        refine sw_iadd (pc' := 36) dX5_rider_35 rfl ?_
        refine sw_iald (pc' := 37) dX5_rider_36 (tbk_52) rfl (fun v36 => ?_)
        refine sw_goto (pc' := 89) dX5_rider_37 (by decide) ?_
        exact sw_iret dX5_rider_89
      · refine sw_iload_n (pc' := 41) dX5_rider_40 rfl rfl ?_
        refine sw_iconst (pc' := 42) dX5_rider_41 rfl ?_
        refine sw_icmp_ne (tgt := 54) (pc' := 45) dX5_rider_42 (by decide) rfl (fun _ => ?_) (fun _ => ?_)
        · refine sw_aload_n (pc' := 46) dX5_rider_45 rfl rfl ?_
          refine sw_iconst (pc' := 47) dX5_rider_46 rfl ?_
          refine sw_iload_n (pc' := 48) dX5_rider_47 rfl rfl ?_
          refine sw_callVI (pc' := 51) (As := [vi 0, vi x1]) (rest := []) dX5_rider_48 cv_X5_160 (tbk_51) (m_X5_readsOn 0 x1 s14) rfl rfl rfl rfl rfl (fun v48 s48 => ?_)
          refine sw_goto (pc' := 89) dX5_rider_51 (by decide) ?_
          exact sw_iret dX5_rider_89
        · refine sw_iload_n (pc' := 55) dX5_rider_54 rfl rfl ?_
          refine sw_iconst (pc' := 56) dX5_rider_55 rfl ?_
          refine sw_icmp_ne (tgt := 75) (pc' := 59) dX5_rider_56 (by decide) rfl (fun _ => ?_) (fun _ => ?_)
          · refine sw_aload_n (pc' := 60) dX5_rider_59 rfl rfl ?_
            refine sw_iconst (pc' := 61) dX5_rider_60 rfl ?_
            refine sw_iload_n (pc' := 62) dX5_rider_61 rfl rfl ?_
            refine sw_aload_n (pc' := 63) dX5_rider_62 rfl rfl ?_
            refine sw_getr (pc' := 66) dX5_rider_63 fl_X5_7 (tbk_51) rfl rfl ?_
            refine sw_bipush (pc' := 68) dX5_rider_66 rfl rfl ?_
            refine sw_iald (pc' := 69) dX5_rider_68 (tbk_52) rfl (fun v68 => ?_)
            refine sw_callVI (pc' := 72) (As := [vi 0, vi x1, vi v68]) (rest := []) dX5_rider_69 cv_X5_156 (tbk_51) (m_X5_believedOn 0 x1 v68 s14) rfl rfl rfl rfl rfl (fun v69 s69 => ?_)
            refine sw_goto (pc' := 89) dX5_rider_72 (by decide) ?_
            exact sw_iret dX5_rider_89
          · refine sw_aload_n (pc' := 76) dX5_rider_75 rfl rfl ?_
            refine sw_iconst (pc' := 77) dX5_rider_76 rfl ?_
            refine sw_iload_n (pc' := 78) dX5_rider_77 rfl rfl ?_
            refine sw_callVB (pc' := 81) (As := [vi 0, vi x1]) (rest := []) dX5_rider_78 cv_X5_176 (tbk_51) (m_X5_standsOn 0 x1 s14) rfl rfl rfl rfl rfl (fun v78 s78 => ?_)
            refine sw_bif_eq (tgt := 88) (pc' := 84) dX5_rider_81 (by decide) rfl (fun _ => ?_) (fun _ => ?_)
            · refine sw_iconst (pc' := 85) dX5_rider_84 rfl ?_
              refine sw_goto (pc' := 89) dX5_rider_85 (by decide) ?_
              exact sw_iret dX5_rider_89
            · refine sw_iconst (pc' := 89) dX5_rider_88 rfl ?_
              exact sw_iret dX5_rider_89
    · refine sw_iconst (pc' := 21) dX5_rider_20 rfl ?_
      exact sw_iret dX5_rider_21
  · refine sw_iconst (pc' := 21) dX5_rider_20 rfl ?_
    exact sw_iret dX5_rider_21
def rm_X5_report : Room := { frames := 2, cells := 0, slots := 0, locals := 46 }
def f_X5_report (x1 : Int) (x2 : Int) (σ : St) : Option (Int × St) :=
  bI (f_X5_isReport x1 σ) fun v2 s2 => if v2 then
    bI (f_X5_in (wr x2) 0 3 s2) fun v14 s14 => if v14 then
      bV (ld s14 52 330 ((20 + (8 * x2)) + x1)) fun v33 => some (v33, s14)
    else
      some ((-1), s14)
  else
    some ((-1), s2)
set_option maxRecDepth 20000 in
theorem m_X5_report (x1 : Int) (x2 : Int)  (σ : St) : MT G l yX5_report cX5_report 3 (some .int) rm_X5_report [.ref (ad G 51), vi x1, vi x2] wI σ (f_X5_report x1 x2 σ) := by
  refine mt_I (L := [some (.ref (ad G 51)), some (vi x1), some (vi x2)]) rfl (Nat.le_of_ble_eq_true rfl) rfl ?_
  show SW G l RX5 cX5_report 3 rm_X5_report wI 0 [some (.ref (ad G 51)), some (vi x1), some (vi x2)] [] σ (f_X5_report x1 x2 σ)
  unfold f_X5_report
  refine sw_aload_n (pc' := 1) dX5_report_0 rfl rfl ?_
  refine sw_iload_n (pc' := 2) dX5_report_1 rfl rfl ?_
  refine sw_callVB (pc' := 5) (As := [vi x1]) (rest := []) dX5_report_2 cv_X5_188 (tbk_51) (m_X5_isReport x1 σ) rfl rfl rfl rfl rfl (fun v2 s2 => ?_)
  refine sw_bif_eq (tgt := 37) (pc' := 8) dX5_report_5 (by decide) rfl (fun _ => ?_) (fun _ => ?_)
  · refine sw_iload_n (pc' := 9) dX5_report_8 rfl rfl ?_
    refine sw_i2l (pc' := 10) dX5_report_9 rfl ?_
    refine sw_lconst (x := 0) (pc' := 11) dX5_report_10 rfl rfl ?_
    refine sw_ldc2 (n := 3) (pc' := 14) dX5_report_11 kl_X5_91 rfl ?_
    refine sw_callSB (pc' := 17) (As := [vl (wr x2), vl 0, vl 3]) (rest := []) dX5_report_14 cs_X5_46 (m_X5_in (wr x2) 0 3 s2) rfl rfl rfl rfl rfl (fun v14 s14 => ?_)
    refine sw_bif_eq (tgt := 37) (pc' := 20) dX5_report_17 (by decide) rfl (fun _ => ?_) (fun _ => ?_)
    · refine sw_aload_n (pc' := 21) dX5_report_20 rfl rfl ?_
      refine sw_getr (pc' := 24) dX5_report_21 fl_X5_7 (tbk_51) rfl rfl ?_
      refine sw_bipush (pc' := 26) dX5_report_24 rfl rfl ?_
      refine sw_bipush (pc' := 28) dX5_report_26 rfl rfl ?_
      refine sw_iload_n (pc' := 29) dX5_report_28 rfl rfl ?_
      refine sw_imul (pc' := 30) dX5_report_29 rfl ?_
      refine sw_iadd (pc' := 31) dX5_report_30 rfl ?_
      refine sw_iload_n (pc' := 32) dX5_report_31 rfl rfl ?_
      refine sw_iadd (pc' := 33) dX5_report_32 rfl ?_
      refine sw_iald (pc' := 34) dX5_report_33 (tbk_52) rfl (fun v33 => ?_)
      refine sw_goto (pc' := 38) dX5_report_34 (by decide) ?_
      exact sw_iret dX5_report_38
    · refine sw_iconst (pc' := 38) dX5_report_37 rfl ?_
      exact sw_iret dX5_report_38
  · refine sw_iconst (pc' := 38) dX5_report_37 rfl ?_
    exact sw_iret dX5_report_38
def rm_X5_trust : Room := { frames := 2, cells := 0, slots := 0, locals := 45 }
def f_X5_trust (x1 : Int) (σ : St) : Option (Int × St) :=
  bI (f_X5_isReporter x1 σ) fun v1 s1 => if v1 then
    bV (ld s1 52 330 (16 + x1)) fun v15 => some ((v15 + 1), s1)
  else
    some ((-1), s1)
set_option maxRecDepth 20000 in
theorem m_X5_trust (x1 : Int)  (σ : St) : MT G l yX5_trust cX5_trust 2 (some .int) rm_X5_trust [.ref (ad G 51), vi x1] wI σ (f_X5_trust x1 σ) := by
  refine mt_I (L := [some (.ref (ad G 51)), some (vi x1)]) rfl (Nat.le_of_ble_eq_true rfl) rfl ?_
  show SW G l RX5 cX5_trust 2 rm_X5_trust wI 0 [some (.ref (ad G 51)), some (vi x1)] [] σ (f_X5_trust x1 σ)
  unfold f_X5_trust
  refine sw_iload_n (pc' := 1) dX5_trust_0 rfl rfl ?_
  refine sw_callSB (pc' := 4) (As := [vi x1]) (rest := []) dX5_trust_1 cs_X5_191 (m_X5_isReporter x1 σ) rfl rfl rfl rfl rfl (fun v1 s1 => ?_)
  refine sw_bif_eq (tgt := 21) (pc' := 7) dX5_trust_4 (by decide) rfl (fun _ => ?_) (fun _ => ?_)
  · refine sw_aload_n (pc' := 8) dX5_trust_7 rfl rfl ?_
    refine sw_getr (pc' := 11) dX5_trust_8 fl_X5_7 (tbk_51) rfl rfl ?_
    refine sw_bipush (pc' := 13) dX5_trust_11 rfl rfl ?_
    refine sw_iload_n (pc' := 14) dX5_trust_13 rfl rfl ?_
    refine sw_iadd (pc' := 15) dX5_trust_14 rfl ?_
    refine sw_iald (pc' := 16) dX5_trust_15 (tbk_52) rfl (fun v15 => ?_)
    refine sw_iconst (pc' := 17) dX5_trust_16 rfl ?_
    refine sw_iadd (pc' := 18) dX5_trust_17 rfl ?_
    refine sw_goto (pc' := 22) dX5_trust_18 (by decide) ?_
    exact sw_iret dX5_trust_22
  · refine sw_iconst (pc' := 22) dX5_trust_21 rfl ?_
    exact sw_iret dX5_trust_22
def rm_X5_told : Room := { frames := 2, cells := 0, slots := 0, locals := 46 }
def f_X5_told (x1 : Int) (x2 : Int) (x3 : Int) (σ : St) : Option (Int × St) :=
  bI (f_X5_isRider x1 σ) fun v2 s2 => if v2 then
    bI (f_X5_isEnd x2 s2) fun v9 s9 => if v9 then
      bI (f_X5_isDay x3 s9) fun v16 s16 => if v16 then
        bI (f_X5_toldOn 0 x1 x2 x3 s16) fun v27 s27 => some (v27, s27)
      else
        some ((-1), s16)
    else
      some ((-1), s9)
  else
    some ((-1), s2)
set_option maxRecDepth 20000 in
theorem m_X5_told (x1 : Int) (x2 : Int) (x3 : Int)  (σ : St) : MT G l yX5_told cX5_told 4 (some .int) rm_X5_told [.ref (ad G 51), vi x1, vi x2, vi x3] wI σ (f_X5_told x1 x2 x3 σ) := by
  refine mt_I (L := [some (.ref (ad G 51)), some (vi x1), some (vi x2), some (vi x3)]) rfl (Nat.le_of_ble_eq_true rfl) rfl ?_
  show SW G l RX5 cX5_told 4 rm_X5_told wI 0 [some (.ref (ad G 51)), some (vi x1), some (vi x2), some (vi x3)] [] σ (f_X5_told x1 x2 x3 σ)
  unfold f_X5_told
  refine sw_aload_n (pc' := 1) dX5_told_0 rfl rfl ?_
  refine sw_iload_n (pc' := 2) dX5_told_1 rfl rfl ?_
  refine sw_callVB (pc' := 5) (As := [vi x1]) (rest := []) dX5_told_2 cv_X5_182 (tbk_51) (m_X5_isRider x1 σ) rfl rfl rfl rfl rfl (fun v2 s2 => ?_)
  refine sw_bif_eq (tgt := 33) (pc' := 8) dX5_told_5 (by decide) rfl (fun _ => ?_) (fun _ => ?_)
  · refine sw_iload_n (pc' := 9) dX5_told_8 rfl rfl ?_
    refine sw_callSB (pc' := 12) (As := [vi x2]) (rest := []) dX5_told_9 cs_X5_194 (m_X5_isEnd x2 s2) rfl rfl rfl rfl rfl (fun v9 s9 => ?_)
    refine sw_bif_eq (tgt := 33) (pc' := 15) dX5_told_12 (by decide) rfl (fun _ => ?_) (fun _ => ?_)
    · refine sw_iload_n (pc' := 16) dX5_told_15 rfl rfl ?_
      refine sw_callSB (pc' := 19) (As := [vi x3]) (rest := []) dX5_told_16 cs_X5_197 (m_X5_isDay x3 s9) rfl rfl rfl rfl rfl (fun v16 s16 => ?_)
      refine sw_bif_eq (tgt := 33) (pc' := 22) dX5_told_19 (by decide) rfl (fun _ => ?_) (fun _ => ?_)
      · refine sw_aload_n (pc' := 23) dX5_told_22 rfl rfl ?_
        refine sw_iconst (pc' := 24) dX5_told_23 rfl ?_
        refine sw_iload_n (pc' := 25) dX5_told_24 rfl rfl ?_
        refine sw_iload_n (pc' := 26) dX5_told_25 rfl rfl ?_
        refine sw_iload_n (pc' := 27) dX5_told_26 rfl rfl ?_
        refine sw_callVI (pc' := 30) (As := [vi 0, vi x1, vi x2, vi x3]) (rest := []) dX5_told_27 cv_X5_152 (tbk_51) (m_X5_toldOn 0 x1 x2 x3 s16) rfl rfl rfl rfl rfl (fun v27 s27 => ?_)
        refine sw_goto (pc' := 34) dX5_told_30 (by decide) ?_
        exact sw_iret dX5_told_34
      · refine sw_iconst (pc' := 34) dX5_told_33 rfl ?_
        exact sw_iret dX5_told_34
    · refine sw_iconst (pc' := 34) dX5_told_33 rfl ?_
      exact sw_iret dX5_told_34
  · refine sw_iconst (pc' := 34) dX5_told_33 rfl ?_
    exact sw_iret dX5_told_34
def rm_X5_puts : Room := { frames := 0, cells := 0, slots := 0, locals := 0 }
def f_X5_puts (x1 : Int) (x2 : Int) (x3 : Int) (x4 : Int) (σ : St) : Option (Int × St) :=
  if wr x1 = 0 then
    some ((-1), σ)
  else
    bV (ld σ 52 330 x2) fun v11 => bV (sv σ 52 330 x2 (x3 - x4)) fun s26 => some ((v11 + x4), s26)
set_option maxRecDepth 20000 in
theorem m_X5_puts (x1 : Int) (x2 : Int) (x3 : Int) (x4 : Int)  (σ : St) : MT G l yX5_puts cX5_puts 6 (some .int) rm_X5_puts [.ref (ad G 51), vi x1, vi x2, vi x3, vi x4] wI σ (f_X5_puts x1 x2 x3 x4 σ) := by
  refine mt_I (L := [some (.ref (ad G 51)), some (vi x1), some (vi x2), some (vi x3), some (vi x4), none]) rfl (Nat.le_of_ble_eq_true rfl) rfl ?_
  show SW G l RX5 cX5_puts 6 rm_X5_puts wI 0 [some (.ref (ad G 51)), some (vi x1), some (vi x2), some (vi x3), some (vi x4), none] [] σ (f_X5_puts x1 x2 x3 x4 σ)
  unfold f_X5_puts
  refine sw_iload_n (pc' := 1) dX5_puts_0 rfl rfl ?_
  refine sw_if_ne (tgt := 6) (pc' := 4) dX5_puts_1 (by decide) rfl (fun _ => ?_) (fun _ => ?_)
  · refine sw_iconst (pc' := 5) dX5_puts_4 rfl ?_
    exact sw_iret dX5_puts_5
  · refine sw_aload_n (pc' := 7) dX5_puts_6 rfl rfl ?_
    refine sw_getr (pc' := 10) dX5_puts_7 fl_X5_7 (tbk_51) rfl rfl ?_
    refine sw_iload_n (pc' := 11) dX5_puts_10 rfl rfl ?_
    refine sw_iald (pc' := 12) dX5_puts_11 (tbk_52) rfl (fun v11 => ?_)
    refine sw_iload (pc' := 14) dX5_puts_12 rfl rfl ?_
    refine sw_iadd (pc' := 15) dX5_puts_14 rfl ?_
    refine sw_istore (pc' := 17) (x := (v11 + x4)) (L' := [some (.ref (ad G 51)), some (vi x1), some (vi x2), some (vi x3), some (vi x4), some (vi (v11 + x4))]) dX5_puts_15 rfl (by decide) rfl rfl ?_
    refine sw_aload_n (pc' := 18) dX5_puts_17 rfl rfl ?_
    refine sw_getr (pc' := 21) dX5_puts_18 fl_X5_7 (tbk_51) rfl rfl ?_
    refine sw_iload_n (pc' := 22) dX5_puts_21 rfl rfl ?_
    refine sw_iload_n (pc' := 23) dX5_puts_22 rfl rfl ?_
    refine sw_iload (pc' := 25) dX5_puts_23 rfl rfl ?_
    refine sw_isub (pc' := 26) dX5_puts_25 rfl ?_
    refine sw_iast (pc' := 27) dX5_puts_26 (tbk_52) rfl (fun s26 => ?_)
    refine sw_iload (pc' := 29) dX5_puts_27 rfl rfl ?_
    exact sw_iret dX5_puts_29
end GEN
