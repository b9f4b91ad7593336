section GEN
variable {G : Gh} {l : Launch}
def rm_X4_trust : Room := { frames := 2, cells := 0, slots := 0, locals := 42 }
def f_X4_trust (x1 : Int) (σ : St) : Option (Int × St) :=
  bI (f_X4_isReporter x1 σ) fun v1 s1 => if v1 then
    bV (ld s1 5 4 x1) fun v15 => some (v15, s1)
  else
    some ((-1), s1)
set_option maxRecDepth 20000 in
theorem m_X4_trust (x1 : Int)  (σ : St) : MT G l yX4_trust cX4_trust 2 (some .int) rm_X4_trust [.ref (ad G 0), vi x1] wI σ (f_X4_trust x1 σ) := by
  refine mt_I (L := [some (.ref (ad G 0)), some (vi x1)]) rfl (Nat.le_of_ble_eq_true rfl) rfl ?_
  show SW G l RX4 cX4_trust 2 rm_X4_trust wI 0 [some (.ref (ad G 0)), some (vi x1)] [] σ (f_X4_trust x1 σ)
  unfold f_X4_trust
  refine sw_iload_n (pc' := 1) dX4_trust_0 rfl rfl ?_
  refine sw_callSB (pc' := 4) (As := [vi x1]) (rest := []) dX4_trust_1 cs_X4_142 (m_X4_isReporter x1 σ) rfl rfl rfl rfl rfl (fun v1 s1 => ?_)
  refine sw_bif_eq (tgt := 19) (pc' := 7) dX4_trust_4 (by decide) rfl (fun _ => ?_) (fun _ => ?_)
  · refine sw_aload_n (pc' := 8) dX4_trust_7 rfl rfl ?_
    refine sw_getr (pc' := 11) dX4_trust_8 fl_X4_10 (tbk_0) rfl rfl ?_
    refine sw_getr (pc' := 14) dX4_trust_11 fl_X4_145 (tbk_1) rfl rfl ?_
    refine sw_iload_n (pc' := 15) dX4_trust_14 rfl rfl ?_
    refine sw_iald (pc' := 16) dX4_trust_15 (tbk_5) rfl (fun v15 => ?_)
    refine sw_goto (pc' := 20) dX4_trust_16 (by decide) ?_
    exact sw_iret dX4_trust_20
  · refine sw_iconst (pc' := 20) dX4_trust_19 rfl ?_
    exact sw_iret dX4_trust_20
def rm_X4_isDay : Room := { frames := 1, cells := 0, slots := 0, locals := 22 }
def f_X4_isDay (x0 : Int) (σ : St) : Option (Bool × St) :=
  bI (f_X4_within x0 0 99 σ) fun v4 s4 => some (v4, s4)
set_option maxRecDepth 20000 in
theorem m_X4_isDay (x0 : Int)  (σ : St) : MT G l yX4_isDay cX4_isDay 1 (some .boolean) rm_X4_isDay [vi x0] wB σ (f_X4_isDay x0 σ) := by
  refine mt_B (L := [some (vi x0)]) rfl (Nat.le_of_ble_eq_true rfl) rfl ?_
  show SW G l RX4 cX4_isDay 1 rm_X4_isDay wB 0 [some (vi x0)] [] σ (f_X4_isDay x0 σ)
  unfold f_X4_isDay
  refine sw_iload_n (pc' := 1) dX4_isDay_0 rfl rfl ?_
  refine sw_iconst (pc' := 2) dX4_isDay_1 rfl ?_
  refine sw_bipush (pc' := 4) dX4_isDay_2 rfl rfl ?_
  refine sw_callSB (pc' := 7) (As := [vi x0, vi 0, vi 99]) (rest := []) dX4_isDay_4 cs_X4_46 (m_X4_within x0 0 99 σ) rfl rfl rfl rfl rfl (fun v4 s4 => ?_)
  exact sw_bret dX4_isDay_7
def rm_X4_isEnd : Room := { frames := 1, cells := 0, slots := 0, locals := 22 }
def f_X4_isEnd (x0 : Int) (σ : St) : Option (Bool × St) :=
  bI (f_X4_within x0 0 3 σ) fun v3 s3 => some (v3, s3)
set_option maxRecDepth 20000 in
theorem m_X4_isEnd (x0 : Int)  (σ : St) : MT G l yX4_isEnd cX4_isEnd 1 (some .boolean) rm_X4_isEnd [vi x0] wB σ (f_X4_isEnd x0 σ) := by
  refine mt_B (L := [some (vi x0)]) rfl (Nat.le_of_ble_eq_true rfl) rfl ?_
  show SW G l RX4 cX4_isEnd 1 rm_X4_isEnd wB 0 [some (vi x0)] [] σ (f_X4_isEnd x0 σ)
  unfold f_X4_isEnd
  refine sw_iload_n (pc' := 1) dX4_isEnd_0 rfl rfl ?_
  refine sw_iconst (pc' := 2) dX4_isEnd_1 rfl ?_
  refine sw_iconst (pc' := 3) dX4_isEnd_2 rfl ?_
  refine sw_callSB (pc' := 6) (As := [vi x0, vi 0, vi 3]) (rest := []) dX4_isEnd_3 cs_X4_46 (m_X4_within x0 0 3 σ) rfl rfl rfl rfl rfl (fun v3 s3 => ?_)
  exact sw_bret dX4_isEnd_6
def rm_X4_told : Room := { frames := 2, cells := 0, slots := 0, locals := 46 }
def f_X4_told (x1 : Int) (x2 : Int) (x3 : Int) (σ : St) : Option (Int × St) :=
  bI (f_X4_isRider x1 σ) fun v2 s2 => if v2 then
    bI (f_X4_isEnd x2 s2) fun v9 s9 => if v9 then
      bI (f_X4_isDay x3 s9) fun v16 s16 => if v16 then
        bV (f_X2_sumTrust 1 x1 x3 s16) fun s30 => bV (ld s30 10 4 x2) fun v41 => some (v41, s30)
      else
        some ((-1), s16)
    else
      some ((-1), s9)
  else
    some ((-1), s2)
set_option maxRecDepth 20000 in
theorem m_X4_told (x1 : Int) (x2 : Int) (x3 : Int)  (σ : St) : MT G l yX4_told cX4_told 4 (some .int) rm_X4_told [.ref (ad G 0), vi x1, vi x2, vi x3] wI σ (f_X4_told x1 x2 x3 σ) := by
  refine mt_I (L := [some (.ref (ad G 0)), some (vi x1), some (vi x2), some (vi x3)]) rfl (Nat.le_of_ble_eq_true rfl) rfl ?_
  show SW G l RX4 cX4_told 4 rm_X4_told wI 0 [some (.ref (ad G 0)), some (vi x1), some (vi x2), some (vi x3)] [] σ (f_X4_told x1 x2 x3 σ)
  unfold f_X4_told
  refine sw_aload_n (pc' := 1) dX4_told_0 rfl rfl ?_
  refine sw_iload_n (pc' := 2) dX4_told_1 rfl rfl ?_
  refine sw_callVB (pc' := 5) (As := [vi x1]) (rest := []) dX4_told_2 cv_X4_105 (tbk_0) (m_X4_isRider x1 σ) rfl rfl rfl rfl rfl (fun v2 s2 => ?_)
  refine sw_bif_eq (tgt := 22) (pc' := 8) dX4_told_5 (by decide) rfl (fun _ => ?_) (fun _ => ?_)
  · refine sw_iload_n (pc' := 9) dX4_told_8 rfl rfl ?_
    refine sw_callSB (pc' := 12) (As := [vi x2]) (rest := []) dX4_told_9 cs_X4_148 (m_X4_isEnd x2 s2) rfl rfl rfl rfl rfl (fun v9 s9 => ?_)
    refine sw_bif_eq (tgt := 22) (pc' := 15) dX4_told_12 (by decide) rfl (fun _ => ?_) (fun _ => ?_)
    · refine sw_iload_n (pc' := 16) dX4_told_15 rfl rfl ?_
      refine sw_callSB (pc' := 19) (As := [vi x3]) (rest := []) dX4_told_16 cs_X4_151 (m_X4_isDay x3 s9) rfl rfl rfl rfl rfl (fun v16 s16 => ?_)
      refine sw_bif_ne (tgt := 24) (pc' := 22) dX4_told_19 (by decide) rfl (fun _ => ?_) (fun _ => ?_)
      · refine sw_aload_n (pc' := 25) dX4_told_24 rfl rfl ?_
        refine sw_getr (pc' := 28) dX4_told_25 fl_X4_10 (tbk_0) rfl rfl ?_
        refine sw_iload_n (pc' := 29) dX4_told_28 rfl rfl ?_
        refine sw_iload_n (pc' := 30) dX4_told_29 rfl rfl ?_
        refine sw_callVV (pc' := 33) (As := [vi x1, vi x3]) (rest := []) dX4_told_30 cv_X4_154 (tbk_1) (m_X2_sumTrust 1 x1 x3 (isSq_1) s16) rfl rfl rfl rfl rfl (fun s30 => ?_)
        refine sw_aload_n (pc' := 34) dX4_told_33 rfl rfl ?_
        refine sw_getr (pc' := 37) dX4_told_34 fl_X4_10 (tbk_0) rfl rfl ?_
        refine sw_getr (pc' := 40) dX4_told_37 fl_X4_158 (tbk_1) rfl rfl ?_
        refine sw_iload_n (pc' := 41) dX4_told_40 rfl rfl ?_
        refine sw_iald (pc' := 42) dX4_told_41 (tbk_10) rfl (fun v41 => ?_)
        exact sw_iret dX4_told_42
      · refine sw_iconst (pc' := 23) dX4_told_22 rfl ?_
        exact sw_iret dX4_told_23
    · refine sw_iconst (pc' := 23) dX4_told_22 rfl ?_
      exact sw_iret dX4_told_23
  · refine sw_iconst (pc' := 23) dX4_told_22 rfl ?_
    exact sw_iret dX4_told_23
def rm_X4_exchange : Room := { frames := 0, cells := 0, slots := 0, locals := 0 }
def f_X4_exchange (a0 : Nat) (n0 : Nat) (x1 : Int) (x2 : Int) (σ : St) : Option (Int × St) :=
  bV (ld σ a0 n0 x1) fun v2 => bV (sv σ a0 n0 x1 x2) fun s7 => some (v2, s7)
set_option maxRecDepth 20000 in
theorem m_X4_exchange (a0 : Nat) (n0 : Nat) (x1 : Int) (x2 : Int) (ht0 : tb a0 = .inl (0, n0)) (σ : St) : MT G l yX4_exchange cX4_exchange 4 (some .int) rm_X4_exchange [.ref (ad G a0), vi x1, vi x2] wI σ (f_X4_exchange a0 n0 x1 x2 σ) := by
  refine mt_I (L := [some (.ref (ad G a0)), some (vi x1), some (vi x2), none]) rfl (Nat.le_of_ble_eq_true rfl) rfl ?_
  show SW G l RX4 cX4_exchange 4 rm_X4_exchange wI 0 [some (.ref (ad G a0)), some (vi x1), some (vi x2), none] [] σ (f_X4_exchange a0 n0 x1 x2 σ)
  unfold f_X4_exchange
  refine sw_aload_n (pc' := 1) dX4_exchange_0 rfl rfl ?_
  refine sw_iload_n (pc' := 2) dX4_exchange_1 rfl rfl ?_
  refine sw_iald (pc' := 3) dX4_exchange_2 (ht0) rfl (fun v2 => ?_)
  refine sw_istore_n (pc' := 4) (x := v2) (L' := [some (.ref (ad G a0)), some (vi x1), some (vi x2), some (vi v2)]) dX4_exchange_3 rfl (by decide) rfl rfl ?_
  refine sw_aload_n (pc' := 5) dX4_exchange_4 rfl rfl ?_
  refine sw_iload_n (pc' := 6) dX4_exchange_5 rfl rfl ?_
  refine sw_iload_n (pc' := 7) dX4_exchange_6 rfl rfl ?_
  refine sw_iast (pc' := 8) dX4_exchange_7 (ht0) rfl (fun s7 => ?_)
  refine sw_iload_n (pc' := 9) dX4_exchange_8 rfl rfl ?_
  exact sw_iret dX4_exchange_9
def rm_X4_alter : Room := { frames := 2, cells := 0, slots := 0, locals := 43 }
def f_X4_alter (x1 : Int) (x2 : Int) (x3 : Int) (σ : St) : Option (Int × St) :=
  bI (f_X4_isRider x1 σ) fun v2 s2 => if v2 then
    if wr x2 = 0 then
      bI (f_X4_within x3 0 3 s2) fun v39 s39 => if v39 then
        bI (f_X4_exchange 2 5 x1 x3 s39) fun v54 s54 => some (v54, s54)
      else
        some ((-1), s39)
    else
      if wr x2 = 1 then
        bI (f_X4_within x3 0 15 s2) fun v66 s66 => if v66 then
          bI (f_X4_exchange 3 5 x1 x3 s66) fun v81 s81 => some (v81, s81)
        else
          some ((-1), s66)
      else
        if wr x2 = 2 then
          bI (f_X4_within x3 1 99 s2) fun v93 s93 => if v93 then
            bI (f_X4_exchange 4 5 x1 x3 s93) fun v108 s108 => some (v108, s108)
          else
            some ((-1), s93)
        else
          some ((-1), s2)
  else
    some ((-1), s2)
set_option maxRecDepth 20000 in
theorem m_X4_alter (x1 : Int) (x2 : Int) (x3 : Int)  (σ : St) : MT G l yX4_alter cX4_alter 4 (some .int) rm_X4_alter [.ref (ad G 0), vi x1, vi x2, vi x3] wI σ (f_X4_alter x1 x2 x3 σ) := by
  refine mt_I (L := [some (.ref (ad G 0)), some (vi x1), some (vi x2), some (vi x3)]) rfl (Nat.le_of_ble_eq_true rfl) rfl ?_
  show SW G l RX4 cX4_alter 4 rm_X4_alter wI 0 [some (.ref (ad G 0)), some (vi x1), some (vi x2), some (vi x3)] [] σ (f_X4_alter x1 x2 x3 σ)
  unfold f_X4_alter
  refine sw_aload_n (pc' := 1) dX4_alter_0 rfl rfl ?_
  refine sw_iload_n (pc' := 2) dX4_alter_1 rfl rfl ?_
  refine sw_callVB (pc' := 5) (As := [vi x1]) (rest := []) dX4_alter_2 cv_X4_105 (tbk_0) (m_X4_isRider x1 σ) rfl rfl rfl rfl rfl (fun v2 s2 => ?_)
  refine sw_bif_ne (tgt := 10) (pc' := 8) dX4_alter_5 (by decide) rfl (fun _ => ?_) (fun _ => ?_)
  · refine sw_iload_n (pc' := 11) dX4_alter_10 rfl rfl ?_
    refine sw_case (fun hc0 => ?_) (fun hc0 => ?_)
    · refine sw_tin (tgt := 36) dX4_alter_11 hc0 (by decide) rfl (by decide) ?_
      refine sw_iload_n (pc' := 37) dX4_alter_36 rfl rfl ?_
      refine sw_iconst (pc' := 38) dX4_alter_37 rfl ?_
      refine sw_iconst (pc' := 39) dX4_alter_38 rfl ?_
      refine sw_callSB (pc' := 42) (As := [vi x3, vi 0, vi 3]) (rest := []) dX4_alter_39 cs_X4_46 (m_X4_within x3 0 3 s2) rfl rfl rfl rfl rfl (fun v39 s39 => ?_)
      refine sw_bif_eq (tgt := 60) (pc' := 45) dX4_alter_42 (by decide) rfl (fun _ => ?_) (fun _ => ?_)
      · refine sw_aload_n (pc' := 46) dX4_alter_45 rfl rfl ?_
        refine sw_getr (pc' := 49) dX4_alter_46 fl_X4_10 (tbk_0) rfl rfl ?_
        refine sw_getr (pc' := 52) dX4_alter_49 fl_X4_108 (tbk_1) rfl rfl ?_
        refine sw_iload_n (pc' := 53) dX4_alter_52 rfl rfl ?_
        refine sw_iload_n (pc' := 54) dX4_alter_53 rfl rfl ?_
        refine sw_callSI (pc' := 57) (As := [.ref (ad G 2), vi x1, vi x3]) (rest := []) dX4_alter_54 cs_X4_161 (m_X4_exchange 2 5 x1 x3 (tbk_2) s39) rfl rfl rfl rfl rfl (fun v54 s54 => ?_)
        refine sw_goto (pc' := 61) dX4_alter_57 (by decide) ?_
        exact sw_iret dX4_alter_61
      · refine sw_iconst (pc' := 61) dX4_alter_60 rfl ?_
        exact sw_iret dX4_alter_61
    · refine sw_case (fun hc1 => ?_) (fun hc1 => ?_)
      · refine sw_tin (tgt := 62) dX4_alter_11 hc1 (by decide) rfl (by decide) ?_
        refine sw_iload_n (pc' := 63) dX4_alter_62 rfl rfl ?_
        refine sw_iconst (pc' := 64) dX4_alter_63 rfl ?_
        refine sw_bipush (pc' := 66) dX4_alter_64 rfl rfl ?_
        refine sw_callSB (pc' := 69) (As := [vi x3, vi 0, vi 15]) (rest := []) dX4_alter_66 cs_X4_46 (m_X4_within x3 0 15 s2) rfl rfl rfl rfl rfl (fun v66 s66 => ?_)
        refine sw_bif_eq (tgt := 87) (pc' := 72) dX4_alter_69 (by decide) rfl (fun _ => ?_) (fun _ => ?_)
        · refine sw_aload_n (pc' := 73) dX4_alter_72 rfl rfl ?_
          refine sw_getr (pc' := 76) dX4_alter_73 fl_X4_10 (tbk_0) rfl rfl ?_
          refine sw_getr (pc' := 79) dX4_alter_76 fl_X4_112 (tbk_1) rfl rfl ?_
          refine sw_iload_n (pc' := 80) dX4_alter_79 rfl rfl ?_
          refine sw_iload_n (pc' := 81) dX4_alter_80 rfl rfl ?_
          refine sw_callSI (pc' := 84) (As := [.ref (ad G 3), vi x1, vi x3]) (rest := []) dX4_alter_81 cs_X4_161 (m_X4_exchange 3 5 x1 x3 (tbk_3) s66) rfl rfl rfl rfl rfl (fun v81 s81 => ?_)
          refine sw_goto (pc' := 88) dX4_alter_84 (by decide) ?_
          exact sw_iret dX4_alter_88
        · refine sw_iconst (pc' := 88) dX4_alter_87 rfl ?_
          exact sw_iret dX4_alter_88
      · refine sw_case (fun hc2 => ?_) (fun hc2 => ?_)
        · refine sw_tin (tgt := 89) dX4_alter_11 hc2 (by decide) rfl (by decide) ?_
          refine sw_iload_n (pc' := 90) dX4_alter_89 rfl rfl ?_
          refine sw_iconst (pc' := 91) dX4_alter_90 rfl ?_
          refine sw_bipush (pc' := 93) dX4_alter_91 rfl rfl ?_
          refine sw_callSB (pc' := 96) (As := [vi x3, vi 1, vi 99]) (rest := []) dX4_alter_93 cs_X4_46 (m_X4_within x3 1 99 s2) rfl rfl rfl rfl rfl (fun v93 s93 => ?_)
          refine sw_bif_eq (tgt := 114) (pc' := 99) dX4_alter_96 (by decide) rfl (fun _ => ?_) (fun _ => ?_)
          · refine sw_aload_n (pc' := 100) dX4_alter_99 rfl rfl ?_
            refine sw_getr (pc' := 103) dX4_alter_100 fl_X4_10 (tbk_0) rfl rfl ?_
            refine sw_getr (pc' := 106) dX4_alter_103 fl_X4_115 (tbk_1) rfl rfl ?_
            refine sw_iload_n (pc' := 107) dX4_alter_106 rfl rfl ?_
            refine sw_iload_n (pc' := 108) dX4_alter_107 rfl rfl ?_
            refine sw_callSI (pc' := 111) (As := [.ref (ad G 4), vi x1, vi x3]) (rest := []) dX4_alter_108 cs_X4_161 (m_X4_exchange 4 5 x1 x3 (tbk_4) s93) rfl rfl rfl rfl rfl (fun v108 s108 => ?_)
            refine sw_goto (pc' := 115) dX4_alter_111 (by decide) ?_
            exact sw_iret dX4_alter_115
          · refine sw_iconst (pc' := 115) dX4_alter_114 rfl ?_
            exact sw_iret dX4_alter_115
        · refine sw_tout (tgt := 116) dX4_alter_11 (by omega) (by decide) ?_
          refine sw_iconst (pc' := 117) dX4_alter_116 rfl ?_
          exact sw_iret dX4_alter_117
  · refine sw_iconst (pc' := 9) dX4_alter_8 rfl ?_
    exact sw_iret dX4_alter_9
def rm_X4_rely : Room := { frames := 2, cells := 0, slots := 0, locals := 42 }
def f_X4_rely (x1 : Int) (x2 : Int) (σ : St) : Option (Int × St) :=
  bI (f_X4_isReporter x1 σ) fun v1 s1 => if v1 then
    bI (f_X4_within x2 0 9 s1) fun v11 s11 => if v11 then
      bI (f_X4_exchange 5 4 x1 x2 s11) fun v26 s26 => some (v26, s26)
    else
      some ((-1), s11)
  else
    some ((-1), s1)
set_option maxRecDepth 20000 in
theorem m_X4_rely (x1 : Int) (x2 : Int)  (σ : St) : MT G l yX4_rely cX4_rely 3 (some .int) rm_X4_rely [.ref (ad G 0), vi x1, vi x2] wI σ (f_X4_rely x1 x2 σ) := by
  refine mt_I (L := [some (.ref (ad G 0)), some (vi x1), some (vi x2)]) rfl (Nat.le_of_ble_eq_true rfl) rfl ?_
  show SW G l RX4 cX4_rely 3 rm_X4_rely wI 0 [some (.ref (ad G 0)), some (vi x1), some (vi x2)] [] σ (f_X4_rely x1 x2 σ)
  unfold f_X4_rely
  refine sw_iload_n (pc' := 1) dX4_rely_0 rfl rfl ?_
  refine sw_callSB (pc' := 4) (As := [vi x1]) (rest := []) dX4_rely_1 cs_X4_142 (m_X4_isReporter x1 σ) rfl rfl rfl rfl rfl (fun v1 s1 => ?_)
  refine sw_bif_eq (tgt := 32) (pc' := 7) dX4_rely_4 (by decide) rfl (fun _ => ?_) (fun _ => ?_)
  · refine sw_iload_n (pc' := 8) dX4_rely_7 rfl rfl ?_
    refine sw_iconst (pc' := 9) dX4_rely_8 rfl ?_
    refine sw_bipush (pc' := 11) dX4_rely_9 rfl rfl ?_
    refine sw_callSB (pc' := 14) (As := [vi x2, vi 0, vi 9]) (rest := []) dX4_rely_11 cs_X4_46 (m_X4_within x2 0 9 s1) rfl rfl rfl rfl rfl (fun v11 s11 => ?_)
    refine sw_bif_eq (tgt := 32) (pc' := 17) dX4_rely_14 (by decide) rfl (fun _ => ?_) (fun _ => ?_)
    · refine sw_aload_n (pc' := 18) dX4_rely_17 rfl rfl ?_
      refine sw_getr (pc' := 21) dX4_rely_18 fl_X4_10 (tbk_0) rfl rfl ?_
      refine sw_getr (pc' := 24) dX4_rely_21 fl_X4_145 (tbk_1) rfl rfl ?_
      refine sw_iload_n (pc' := 25) dX4_rely_24 rfl rfl ?_
      refine sw_iload_n (pc' := 26) dX4_rely_25 rfl rfl ?_
      refine sw_callSI (pc' := 29) (As := [.ref (ad G 5), vi x1, vi x2]) (rest := []) dX4_rely_26 cs_X4_161 (m_X4_exchange 5 4 x1 x2 (tbk_5) s11) rfl rfl rfl rfl rfl (fun v26 s26 => ?_)
      refine sw_goto (pc' := 33) dX4_rely_29 (by decide) ?_
      exact sw_iret dX4_rely_33
    · refine sw_iconst (pc' := 33) dX4_rely_32 rfl ?_
      exact sw_iret dX4_rely_33
  · refine sw_iconst (pc' := 33) dX4_rely_32 rfl ?_
    exact sw_iret dX4_rely_33
def rm_X4_cast : Room := { frames := 1, cells := 0, slots := 0, locals := 22 }
def f_X4_cast (x1 : Int) (σ : St) : Option (Int × St) :=
  bI (f_X4_within x1 1 99 σ) fun v4 s4 => if v4 then
    bV (pf s4 1 4 x1) fun s25 => some ((s4 1 4), s25)
  else
    some ((-1), s4)
set_option maxRecDepth 20000 in
theorem m_X4_cast (x1 : Int)  (σ : St) : MT G l yX4_cast cX4_cast 3 (some .int) rm_X4_cast [.ref (ad G 0), vi x1] wI σ (f_X4_cast x1 σ) := by
  refine mt_I (L := [some (.ref (ad G 0)), some (vi x1), none]) rfl (Nat.le_of_ble_eq_true rfl) rfl ?_
  show SW G l RX4 cX4_cast 3 rm_X4_cast wI 0 [some (.ref (ad G 0)), some (vi x1), none] [] σ (f_X4_cast x1 σ)
  unfold f_X4_cast
  refine sw_iload_n (pc' := 1) dX4_cast_0 rfl rfl ?_
  refine sw_iconst (pc' := 2) dX4_cast_1 rfl ?_
  refine sw_bipush (pc' := 4) dX4_cast_2 rfl rfl ?_
  refine sw_callSB (pc' := 7) (As := [vi x1, vi 1, vi 99]) (rest := []) dX4_cast_4 cs_X4_46 (m_X4_within x1 1 99 σ) rfl rfl rfl rfl rfl (fun v4 s4 => ?_)
  refine sw_bif_ne (tgt := 12) (pc' := 10) dX4_cast_7 (by decide) rfl (fun _ => ?_) (fun _ => ?_)
  · refine sw_aload_n (pc' := 13) dX4_cast_12 rfl rfl ?_
    refine sw_getr (pc' := 16) dX4_cast_13 fl_X4_10 (tbk_0) rfl rfl ?_
    refine sw_getn (pc' := 19) dX4_cast_16 fl_X4_95 (tbk_1) rfl rfl ?_
    refine sw_istore_n (pc' := 20) (x := (s4 1 4)) (L' := [some (.ref (ad G 0)), some (vi x1), some (vi (s4 1 4))]) dX4_cast_19 rfl (by decide) rfl rfl ?_
    refine sw_aload_n (pc' := 21) dX4_cast_20 rfl rfl ?_
    refine sw_getr (pc' := 24) dX4_cast_21 fl_X4_10 (tbk_0) rfl rfl ?_
    refine sw_iload_n (pc' := 25) dX4_cast_24 rfl rfl ?_
    refine sw_putI (pc' := 28) dX4_cast_25 fp_X4_95 (tbk_1) rfl rfl (fun s25 => ?_)
    refine sw_iload_n (pc' := 29) dX4_cast_28 rfl rfl ?_
    exact sw_iret dX4_cast_29
  · refine sw_iconst (pc' := 11) dX4_cast_10 rfl ?_
    exact sw_iret dX4_cast_11
def rm_X4_send : Room := { frames := 2, cells := 0, slots := 0, locals := 43 }
def f_X4_send (x1 : Int) (x2 : Int) (x3 : Int) (x4 : Int) (σ : St) : Option (Int × St) :=
  bI (f_X4_isDay x1 σ) fun v1 s1 => if v1 then
    bI (f_X4_isReporter x2 s1) fun v8 s8 => if v8 then
      bI (f_X4_isRider x3 s8) fun v16 s16 => if v16 then
        bI (f_X4_isEnd x4 s16) fun v24 s24 => if v24 then
          bI (f_X2_addReport 1 x1 x2 x3 x4 s24) fun v41 s41 => if v41 then
            some ((s41 1 6), s41)
          else
            some ((-3), s41)
        else
          some ((-1), s24)
      else
        some ((-1), s16)
    else
      some ((-1), s8)
  else
    some ((-1), s1)
set_option maxRecDepth 20000 in
theorem m_X4_send (x1 : Int) (x2 : Int) (x3 : Int) (x4 : Int)  (σ : St) : MT G l yX4_send cX4_send 5 (some .int) rm_X4_send [.ref (ad G 0), vi x1, vi x2, vi x3, vi x4] wI σ (f_X4_send x1 x2 x3 x4 σ) := by
  refine mt_I (L := [some (.ref (ad G 0)), some (vi x1), some (vi x2), some (vi x3), some (vi x4)]) rfl (Nat.le_of_ble_eq_true rfl) rfl ?_
  show SW G l RX4 cX4_send 5 rm_X4_send wI 0 [some (.ref (ad G 0)), some (vi x1), some (vi x2), some (vi x3), some (vi x4)] [] σ (f_X4_send x1 x2 x3 x4 σ)
  unfold f_X4_send
  refine sw_iload_n (pc' := 1) dX4_send_0 rfl rfl ?_
  refine sw_callSB (pc' := 4) (As := [vi x1]) (rest := []) dX4_send_1 cs_X4_151 (m_X4_isDay x1 σ) rfl rfl rfl rfl rfl (fun v1 s1 => ?_)
  refine sw_bif_eq (tgt := 30) (pc' := 7) dX4_send_4 (by decide) rfl (fun _ => ?_) (fun _ => ?_)
  · refine sw_iload_n (pc' := 8) dX4_send_7 rfl rfl ?_
    refine sw_callSB (pc' := 11) (As := [vi x2]) (rest := []) dX4_send_8 cs_X4_142 (m_X4_isReporter x2 s1) rfl rfl rfl rfl rfl (fun v8 s8 => ?_)
    refine sw_bif_eq (tgt := 30) (pc' := 14) dX4_send_11 (by decide) rfl (fun _ => ?_) (fun _ => ?_)
    · refine sw_aload_n (pc' := 15) dX4_send_14 rfl rfl ?_
      refine sw_iload_n (pc' := 16) dX4_send_15 rfl rfl ?_
      refine sw_callVB (pc' := 19) (As := [vi x3]) (rest := []) dX4_send_16 cv_X4_105 (tbk_0) (m_X4_isRider x3 s8) rfl rfl rfl rfl rfl (fun v16 s16 => ?_)
      refine sw_bif_eq (tgt := 30) (pc' := 22) dX4_send_19 (by decide) rfl (fun _ => ?_) (fun _ => ?_)
      · refine sw_iload (pc' := 24) dX4_send_22 rfl rfl ?_
        refine sw_callSB (pc' := 27) (As := [vi x4]) (rest := []) dX4_send_24 cs_X4_148 (m_X4_isEnd x4 s16) rfl rfl rfl rfl rfl (fun v24 s24 => ?_)
        refine sw_bif_ne (tgt := 32) (pc' := 30) dX4_send_27 (by decide) rfl (fun _ => ?_) (fun _ => ?_)
        · refine sw_aload_n (pc' := 33) dX4_send_32 rfl rfl ?_
          refine sw_getr (pc' := 36) dX4_send_33 fl_X4_10 (tbk_0) rfl rfl ?_
          refine sw_iload_n (pc' := 37) dX4_send_36 rfl rfl ?_
          refine sw_iload_n (pc' := 38) dX4_send_37 rfl rfl ?_
          refine sw_iload_n (pc' := 39) dX4_send_38 rfl rfl ?_
          refine sw_iload (pc' := 41) dX4_send_39 rfl rfl ?_
          refine sw_callVB (pc' := 44) (As := [vi x1, vi x2, vi x3, vi x4]) (rest := []) dX4_send_41 cv_X4_165 (tbk_1) (m_X2_addReport 1 x1 x2 x3 x4 (isSq_1) s24) rfl rfl rfl rfl rfl (fun v41 s41 => ?_)
          refine sw_bif_eq (tgt := 57) (pc' := 47) dX4_send_44 (by decide) rfl (fun _ => ?_) (fun _ => ?_)
          · refine sw_aload_n (pc' := 48) dX4_send_47 rfl rfl ?_
            refine sw_getr (pc' := 51) dX4_send_48 fl_X4_10 (tbk_0) rfl rfl ?_
            refine sw_getn (pc' := 54) dX4_send_51 fl_X4_86 (tbk_1) rfl rfl ?_
            refine sw_goto (pc' := 59) dX4_send_54 (by decide) ?_
            exact sw_iret dX4_send_59
          · refine sw_bipush (pc' := 59) dX4_send_57 rfl rfl ?_
            exact sw_iret dX4_send_59
        · refine sw_iconst (pc' := 31) dX4_send_30 rfl ?_
          exact sw_iret dX4_send_31
      · refine sw_iconst (pc' := 31) dX4_send_30 rfl ?_
        exact sw_iret dX4_send_31
    · refine sw_iconst (pc' := 31) dX4_send_30 rfl ?_
      exact sw_iret dX4_send_31
  · refine sw_iconst (pc' := 31) dX4_send_30 rfl ?_
    exact sw_iret dX4_send_31
def rm_X4_burn : Room := { frames := 1, cells := 0, slots := 0, locals := 22 }
def f_X4_burn (x1 : Int) (σ : St) : Option (Int × St) :=
  bI (f_X4_within x1 0 (σ 1 6) σ) fun v9 s9 => if v9 then
    bV (pf s9 1 6 x1) fun s30 => some ((s9 1 6), s30)
  else
    some ((-1), s9)
set_option maxRecDepth 20000 in
theorem m_X4_burn (x1 : Int)  (σ : St) : MT G l yX4_burn cX4_burn 3 (some .int) rm_X4_burn [.ref (ad G 0), vi x1] wI σ (f_X4_burn x1 σ) := by
  refine mt_I (L := [some (.ref (ad G 0)), some (vi x1), none]) rfl (Nat.le_of_ble_eq_true rfl) rfl ?_
  show SW G l RX4 cX4_burn 3 rm_X4_burn wI 0 [some (.ref (ad G 0)), some (vi x1), none] [] σ (f_X4_burn x1 σ)
  unfold f_X4_burn
  refine sw_iload_n (pc' := 1) dX4_burn_0 rfl rfl ?_
  refine sw_iconst (pc' := 2) dX4_burn_1 rfl ?_
  refine sw_aload_n (pc' := 3) dX4_burn_2 rfl rfl ?_
  refine sw_getr (pc' := 6) dX4_burn_3 fl_X4_10 (tbk_0) rfl rfl ?_
  refine sw_getn (pc' := 9) dX4_burn_6 fl_X4_86 (tbk_1) rfl rfl ?_
  refine sw_callSB (pc' := 12) (As := [vi x1, vi 0, vi (σ 1 6)]) (rest := []) dX4_burn_9 cs_X4_46 (m_X4_within x1 0 (σ 1 6) σ) rfl rfl rfl rfl rfl (fun v9 s9 => ?_)
  refine sw_bif_ne (tgt := 17) (pc' := 15) dX4_burn_12 (by decide) rfl (fun _ => ?_) (fun _ => ?_)
  · refine sw_aload_n (pc' := 18) dX4_burn_17 rfl rfl ?_
    refine sw_getr (pc' := 21) dX4_burn_18 fl_X4_10 (tbk_0) rfl rfl ?_
    refine sw_getn (pc' := 24) dX4_burn_21 fl_X4_86 (tbk_1) rfl rfl ?_
    refine sw_istore_n (pc' := 25) (x := (s9 1 6)) (L' := [some (.ref (ad G 0)), some (vi x1), some (vi (s9 1 6))]) dX4_burn_24 rfl (by decide) rfl rfl ?_
    refine sw_aload_n (pc' := 26) dX4_burn_25 rfl rfl ?_
    refine sw_getr (pc' := 29) dX4_burn_26 fl_X4_10 (tbk_0) rfl rfl ?_
    refine sw_iload_n (pc' := 30) dX4_burn_29 rfl rfl ?_
    refine sw_putI (pc' := 33) dX4_burn_30 fp_X4_86 (tbk_1) rfl rfl (fun s30 => ?_)
    refine sw_iload_n (pc' := 34) dX4_burn_33 rfl rfl ?_
    exact sw_iret dX4_burn_34
  · refine sw_iconst (pc' := 16) dX4_burn_15 rfl ?_
    exact sw_iret dX4_burn_16
def rm_X4_days : Room := { frames := 6, cells := 0, slots := 0, locals := 143 }
def f_X4_days (x1 : Int) (σ : St) : Option (Int × St) :=
  bI (f_X4_within x1 0 30 σ) fun v4 s4 => if v4 then
    if wr ((s4 1 12) + x1) < wr 1000 then
      bI (f_X2_passDays 1 x1 s4) fun v37 s37 => some (v37, s37)
    else
      some ((-3), s4)
  else
    some ((-1), s4)
set_option maxRecDepth 20000 in
theorem m_X4_days (x1 : Int)  (σ : St) : MT G l yX4_days cX4_days 2 (some .int) rm_X4_days [.ref (ad G 0), vi x1] wI σ (f_X4_days x1 σ) := by
  refine mt_I (L := [some (.ref (ad G 0)), some (vi x1)]) rfl (Nat.le_of_ble_eq_true rfl) rfl ?_
  show SW G l RX4 cX4_days 2 rm_X4_days wI 0 [some (.ref (ad G 0)), some (vi x1)] [] σ (f_X4_days x1 σ)
  unfold f_X4_days
  refine sw_iload_n (pc' := 1) dX4_days_0 rfl rfl ?_
  refine sw_iconst (pc' := 2) dX4_days_1 rfl ?_
  refine sw_bipush (pc' := 4) dX4_days_2 rfl rfl ?_
  refine sw_callSB (pc' := 7) (As := [vi x1, vi 0, vi 30]) (rest := []) dX4_days_4 cs_X4_46 (m_X4_within x1 0 30 σ) rfl rfl rfl rfl rfl (fun v4 s4 => ?_)
  refine sw_bif_ne (tgt := 12) (pc' := 10) dX4_days_7 (by decide) rfl (fun _ => ?_) (fun _ => ?_)
  · refine sw_aload_n (pc' := 13) dX4_days_12 rfl rfl ?_
    refine sw_getr (pc' := 16) dX4_days_13 fl_X4_10 (tbk_0) rfl rfl ?_
    refine sw_getn (pc' := 19) dX4_days_16 fl_X4_89 (tbk_1) rfl rfl ?_
    refine sw_iload_n (pc' := 20) dX4_days_19 rfl rfl ?_
    refine sw_iadd (pc' := 21) dX4_days_20 rfl ?_
    refine sw_sipush (pc' := 24) dX4_days_21 rfl rfl ?_
    refine sw_icmp_lt (tgt := 32) (pc' := 27) dX4_days_24 (by decide) rfl (fun _ => ?_) (fun _ => ?_)
    · refine sw_aload_n (pc' := 33) dX4_days_32 rfl rfl ?_
      refine sw_getr (pc' := 36) dX4_days_33 fl_X4_10 (tbk_0) rfl rfl ?_
      refine sw_iload_n (pc' := 37) dX4_days_36 rfl rfl ?_
      refine sw_callVI (pc' := 40) (As := [vi x1]) (rest := []) dX4_days_37 cv_X4_169 (tbk_1) (m_X2_passDays 1 x1 (isSq_1) s4) rfl rfl rfl rfl rfl (fun v37 s37 => ?_)
      exact sw_iret dX4_days_40
    · refine sw_bipush (pc' := 29) dX4_days_27 rfl rfl ?_
      refine sw_goto (pc' := 40) dX4_days_29 (by decide) ?_
      exact sw_iret dX4_days_40
  · refine sw_iconst (pc' := 11) dX4_days_10 rfl ?_
    exact sw_iret dX4_days_11
def rm_X4_isRunAhead : Room := { frames := 1, cells := 0, slots := 0, locals := 22 }
def f_X4_isRunAhead (x0 : Int) (σ : St) : Option (Bool × St) :=
  bI (f_X4_within x0 0 60 σ) fun v4 s4 => some (v4, s4)
set_option maxRecDepth 20000 in
theorem m_X4_isRunAhead (x0 : Int)  (σ : St) : MT G l yX4_isRunAhead cX4_isRunAhead 1 (some .boolean) rm_X4_isRunAhead [vi x0] wB σ (f_X4_isRunAhead x0 σ) := by
  refine mt_B (L := [some (vi x0)]) rfl (Nat.le_of_ble_eq_true rfl) rfl ?_
  show SW G l RX4 cX4_isRunAhead 1 rm_X4_isRunAhead wB 0 [some (vi x0)] [] σ (f_X4_isRunAhead x0 σ)
  unfold f_X4_isRunAhead
  refine sw_iload_n (pc' := 1) dX4_isRunAhead_0 rfl rfl ?_
  refine sw_iconst (pc' := 2) dX4_isRunAhead_1 rfl ?_
  refine sw_bipush (pc' := 4) dX4_isRunAhead_2 rfl rfl ?_
  refine sw_callSB (pc' := 7) (As := [vi x0, vi 0, vi 60]) (rest := []) dX4_isRunAhead_4 cs_X4_46 (m_X4_within x0 0 60 σ) rfl rfl rfl rfl rfl (fun v4 s4 => ?_)
  exact sw_bret dX4_isRunAhead_7
def rm_X4_runs : Room := { frames := 5, cells := 0, slots := 0, locals := 118 }
def f_X4_runs_95  (k41 : Int → Int → Int → Int → Int → Int → St → Option (Int × St)) (x1 x2 x3 x4 x6 t0 : Int) (σ : St) : Option (Int × St) :=
  k41 x1 x2 x3 x4 t0 (x6 + 1) σ
set_option maxRecDepth 20000 in
theorem s_X4_runs_95   (k41 : Int → Int → Int → Int → Int → Int → St → Option (Int × St)) (hk41 : ∀ (x1 x2 x3 x4 x5 x6 : Int) (σ : St), SW G l RX4 cX4_runs 8 rm_X4_runs wI 41 [some (.ref (ad G 0)), some (vi x1), some (vi x2), some (vi x3), some (vi x4), some (vi x5), some (vi x6), none] [] σ (k41 x1 x2 x3 x4 x5 x6 σ)) (x1 x2 x3 x4 x6 t0 : Int) (σ : St) : SW G l RX4 cX4_runs 8 rm_X4_runs wI 95 [some (.ref (ad G 0)), some (vi x1), some (vi x2), some (vi x3), some (vi x4), none, some (vi x6), none] [vi t0] σ (f_X4_runs_95 k41 x1 x2 x3 x4 x6 t0 σ) := by
  unfold f_X4_runs_95
  refine sw_istore (pc' := 97) (x := t0) (L' := [some (.ref (ad G 0)), some (vi x1), some (vi x2), some (vi x3), some (vi x4), some (vi t0), some (vi x6), none]) dX4_runs_95 rfl (by decide) rfl rfl ?_
  refine sw_iinc (pc' := 100) (x := x6) (L' := [some (.ref (ad G 0)), some (vi x1), some (vi x2), some (vi x3), some (vi x4), some (vi t0), some (vi (x6 + 1)), none]) dX4_runs_97 rfl (by decide) rfl rfl rfl ?_
  refine sw_goto (pc' := 41) dX4_runs_100 (by decide) ?_
  exact hk41 x1 x2 x3 x4 t0 (x6 + 1) σ
def f_X4_runs_93  (k41 : Int → Int → Int → Int → Int → Int → St → Option (Int × St)) (x1 x2 x3 x4 x5 x6 : Int) (σ : St) : Option (Int × St) :=
  f_X4_runs_95 k41 x1 x2 x3 x4 x6 x5 σ
set_option maxRecDepth 20000 in
theorem s_X4_runs_93   (k41 : Int → Int → Int → Int → Int → Int → St → Option (Int × St)) (hk41 : ∀ (x1 x2 x3 x4 x5 x6 : Int) (σ : St), SW G l RX4 cX4_runs 8 rm_X4_runs wI 41 [some (.ref (ad G 0)), some (vi x1), some (vi x2), some (vi x3), some (vi x4), some (vi x5), some (vi x6), none] [] σ (k41 x1 x2 x3 x4 x5 x6 σ)) (x1 x2 x3 x4 x5 x6 : Int) (σ : St) : SW G l RX4 cX4_runs 8 rm_X4_runs wI 93 [some (.ref (ad G 0)), some (vi x1), some (vi x2), some (vi x3), some (vi x4), some (vi x5), some (vi x6), none] [] σ (f_X4_runs_93 k41 x1 x2 x3 x4 x5 x6 σ) := by
  unfold f_X4_runs_93
  refine sw_iload (pc' := 95) dX4_runs_93 rfl rfl ?_
  refine sw_msk [true, true, true, true, true, false, true, false] rfl ?_
  exact s_X4_runs_95 k41 hk41 x1 x2 x3 x4 x6 x5 σ
def f_X4_runs_73  (k41 : Int → Int → Int → Int → Int → Int → St → Option (Int × St)) (x1 x2 x3 x5 x6 x7 t0 t1 : Int) (σ : St) : Option (Int × St) :=
  if 0 < wr x7 then
    if wr x5 = wr (-4) then
      f_X4_runs_95 k41 x1 x2 x3 (t0 + t1) x6 x6 σ
    else
      f_X4_runs_93 k41 x1 x2 x3 (t0 + t1) x5 x6 σ
  else
    f_X4_runs_93 k41 x1 x2 x3 (t0 + t1) x5 x6 σ
set_option maxRecDepth 20000 in
theorem s_X4_runs_73   (k41 : Int → Int → Int → Int → Int → Int → St → Option (Int × St)) (hk41 : ∀ (x1 x2 x3 x4 x5 x6 : Int) (σ : St), SW G l RX4 cX4_runs 8 rm_X4_runs wI 41 [some (.ref (ad G 0)), some (vi x1), some (vi x2), some (vi x3), some (vi x4), some (vi x5), some (vi x6), none] [] σ (k41 x1 x2 x3 x4 x5 x6 σ)) (x1 x2 x3 x5 x6 x7 t0 t1 : Int) (σ : St) : SW G l RX4 cX4_runs 8 rm_X4_runs wI 73 [some (.ref (ad G 0)), some (vi x1), some (vi x2), some (vi x3), none, some (vi x5), some (vi x6), some (vi x7)] [vi t1, vi t0] σ (f_X4_runs_73 k41 x1 x2 x3 x5 x6 x7 t0 t1 σ) := by
  unfold f_X4_runs_73
  refine sw_iadd (pc' := 74) dX4_runs_73 rfl ?_
  refine sw_istore (pc' := 76) (x := (t0 + t1)) (L' := [some (.ref (ad G 0)), some (vi x1), some (vi x2), some (vi x3), some (vi (t0 + t1)), some (vi x5), some (vi x6), some (vi x7)]) dX4_runs_74 rfl (by decide) rfl rfl ?_
  refine sw_iload (pc' := 78) dX4_runs_76 rfl rfl ?_
  refine sw_if_le (tgt := 93) (pc' := 81) dX4_runs_78 (by decide) rfl (fun _ => ?_) (fun _ => ?_)
  · refine sw_iload (pc' := 83) dX4_runs_81 rfl rfl ?_
    refine sw_bipush (pc' := 85) dX4_runs_83 rfl rfl ?_
    refine sw_icmp_ne (tgt := 93) (pc' := 88) dX4_runs_85 (by decide) rfl (fun _ => ?_) (fun _ => ?_)
    · refine sw_iload (pc' := 90) dX4_runs_88 rfl rfl ?_
      refine sw_goto (pc' := 95) dX4_runs_90 (by decide) ?_
      refine sw_msk [true, true, true, true, true, false, true, false] rfl ?_
      exact s_X4_runs_95 k41 hk41 x1 x2 x3 (t0 + t1) x6 x6 σ
    · refine sw_msk [true, true, true, true, true, true, true, false] rfl ?_
      exact s_X4_runs_93 k41 hk41 x1 x2 x3 (t0 + t1) x5 x6 σ
  · refine sw_msk [true, true, true, true, true, true, true, false] rfl ?_
    exact s_X4_runs_93 k41 hk41 x1 x2 x3 (t0 + t1) x5 x6 σ
def f_X4_runs_41   : Nat → Int → Int → Int → Int → Int → Int → St → Option (Int × St)
  | 0, _, _, _, _, _, _, _ => none
  | n + 1, x1, x2, x3, x4, x5, x6, σ =>
    if wr x1 < wr x6 then
      if wr x2 = 0 then
        some (x3, σ)
      else
        if wr x2 = 1 then
          bI (f_X2_agreeing 11 σ) fun v138 s138 => some (v138, s138)
        else
          if wr x2 = 2 then
            some (x4, σ)
          else
            some (x5, σ)
    else
      bI (f_X2_passDay 11 σ) fun v51 s51 => if 0 < wr v51 then
        f_X4_runs_73 (f_X4_runs_41 n) x1 x2 (x3 + v51) x5 x6 v51 x4 1 s51
      else
        f_X4_runs_73 (f_X4_runs_41 n) x1 x2 (x3 + v51) x5 x6 v51 x4 0 s51
set_option maxRecDepth 20000 in
theorem s_X4_runs_41     : ∀ (n : Nat) (x1 x2 x3 x4 x5 x6 : Int) (σ : St), SW G l RX4 cX4_runs 8 rm_X4_runs wI 41 [some (.ref (ad G 0)), some (vi x1), some (vi x2), some (vi x3), some (vi x4), some (vi x5), some (vi x6), none] [] σ (f_X4_runs_41 n x1 x2 x3 x4 x5 x6 σ) := by
  intro n
  induction n with
  | zero => intro x1 x2 x3 x4 x5 x6 σ; exact sw_none
  | succ n ih =>
    intro x1 x2 x3 x4 x5 x6 σ
    rw [f_X4_runs_41]
    refine sw_iload (pc' := 43) dX4_runs_41 rfl rfl ?_
    refine sw_iload_n (pc' := 44) dX4_runs_43 rfl rfl ?_
    refine sw_icmp_gt (tgt := 103) (pc' := 47) dX4_runs_44 (by decide) rfl (fun _ => ?_) (fun _ => ?_)
    · refine sw_iload_n (pc' := 104) dX4_runs_103 rfl rfl ?_
      refine sw_case (fun hc0 => ?_) (fun hc0 => ?_)
      · refine sw_tin (tgt := 132) dX4_runs_104 hc0 (by decide) rfl (by decide) ?_
        refine sw_iload_n (pc' := 133) dX4_runs_132 rfl rfl ?_
        exact sw_iret dX4_runs_133
      · refine sw_case (fun hc1 => ?_) (fun hc1 => ?_)
        · refine sw_tin (tgt := 134) dX4_runs_104 hc1 (by decide) rfl (by decide) ?_
          refine sw_aload_n (pc' := 135) dX4_runs_134 rfl rfl ?_
          refine sw_getr (pc' := 138) dX4_runs_135 fl_X4_16 (tbk_0) rfl rfl ?_
          refine sw_callVI (pc' := 141) (As := []) (rest := []) dX4_runs_138 cv_X4_98 (tbk_11) (m_X2_agreeing 11 (isSq_11) σ) rfl rfl rfl rfl rfl (fun v138 s138 => ?_)
          exact sw_iret dX4_runs_141
        · refine sw_case (fun hc2 => ?_) (fun hc2 => ?_)
          · refine sw_tin (tgt := 142) dX4_runs_104 hc2 (by decide) rfl (by decide) ?_
            refine sw_iload (pc' := 144) dX4_runs_142 rfl rfl ?_
            exact sw_iret dX4_runs_144
          · refine sw_tout (tgt := 145) dX4_runs_104 (by omega) (by decide) ?_
            refine sw_iload (pc' := 147) dX4_runs_145 rfl rfl ?_
            exact sw_iret dX4_runs_147
    · refine sw_aload_n (pc' := 48) dX4_runs_47 rfl rfl ?_
      refine sw_getr (pc' := 51) dX4_runs_48 fl_X4_16 (tbk_0) rfl rfl ?_
      refine sw_callVI (pc' := 54) (As := []) (rest := []) dX4_runs_51 cv_X4_175 (tbk_11) (m_X2_passDay 11 (isSq_11) σ) rfl rfl rfl rfl rfl (fun v51 s51 => ?_)
      refine sw_istore (pc' := 56) (x := v51) (L' := [some (.ref (ad G 0)), some (vi x1), some (vi x2), some (vi x3), some (vi x4), some (vi x5), some (vi x6), some (vi v51)]) dX4_runs_54 rfl (by decide) rfl rfl ?_
      refine sw_iload_n (pc' := 57) dX4_runs_56 rfl rfl ?_
      refine sw_iload (pc' := 59) dX4_runs_57 rfl rfl ?_
      refine sw_iadd (pc' := 60) dX4_runs_59 rfl ?_
      refine sw_istore_n (pc' := 61) (x := (x3 + v51)) (L' := [some (.ref (ad G 0)), some (vi x1), some (vi x2), some (vi (x3 + v51)), some (vi x4), some (vi x5), some (vi x6), some (vi v51)]) dX4_runs_60 rfl (by decide) rfl rfl ?_
      refine sw_iload (pc' := 63) dX4_runs_61 rfl rfl ?_
      refine sw_iload (pc' := 65) dX4_runs_63 rfl rfl ?_
      refine sw_if_le (tgt := 72) (pc' := 68) dX4_runs_65 (by decide) rfl (fun _ => ?_) (fun _ => ?_)
      · refine sw_iconst (pc' := 69) dX4_runs_68 rfl ?_
        refine sw_goto (pc' := 73) dX4_runs_69 (by decide) ?_
        refine sw_msk [true, true, true, true, false, true, true, true] rfl ?_
        exact s_X4_runs_73 (f_X4_runs_41 n) (ih) x1 x2 (x3 + v51) x5 x6 v51 x4 1 s51
      · refine sw_iconst (pc' := 73) dX4_runs_72 rfl ?_
        refine sw_msk [true, true, true, true, false, true, true, true] rfl ?_
        exact s_X4_runs_73 (f_X4_runs_41 n) (ih) x1 x2 (x3 + v51) x5 x6 v51 x4 0 s51
def f_X4_runs (x1 : Int) (x2 : Int) (σ : St) : Option (Int × St) :=
  bI (f_X4_isRunAhead x1 σ) fun v1 s1 => if v1 then
    bI (f_X4_within x2 0 3 s1) fun v10 s10 => if v10 then
      bV (f_X2_copyFrom 11 1 s10) fun s26 => f_X4_runs_41 FU x1 x2 0 0 (-4) 1 s26
    else
      some ((-1), s10)
  else
    some ((-1), s1)
set_option maxRecDepth 20000 in
theorem m_X4_runs (x1 : Int) (x2 : Int)  (σ : St) : MT G l yX4_runs cX4_runs 8 (some .int) rm_X4_runs [.ref (ad G 0), vi x1, vi x2] wI σ (f_X4_runs x1 x2 σ) := by
  refine mt_I (L := [some (.ref (ad G 0)), some (vi x1), some (vi x2), none, none, none, none, none]) rfl (Nat.le_of_ble_eq_true rfl) rfl ?_
  show SW G l RX4 cX4_runs 8 rm_X4_runs wI 0 [some (.ref (ad G 0)), some (vi x1), some (vi x2), none, none, none, none, none] [] σ (f_X4_runs x1 x2 σ)
  unfold f_X4_runs
  refine sw_iload_n (pc' := 1) dX4_runs_0 rfl rfl ?_
  refine sw_callSB (pc' := 4) (As := [vi x1]) (rest := []) dX4_runs_1 cs_X4_172 (m_X4_isRunAhead x1 σ) rfl rfl rfl rfl rfl (fun v1 s1 => ?_)
  refine sw_bif_eq (tgt := 16) (pc' := 7) dX4_runs_4 (by decide) rfl (fun _ => ?_) (fun _ => ?_)
  · refine sw_iload_n (pc' := 8) dX4_runs_7 rfl rfl ?_
    refine sw_iconst (pc' := 9) dX4_runs_8 rfl ?_
    refine sw_iconst (pc' := 10) dX4_runs_9 rfl ?_
    refine sw_callSB (pc' := 13) (As := [vi x2, vi 0, vi 3]) (rest := []) dX4_runs_10 cs_X4_46 (m_X4_within x2 0 3 s1) rfl rfl rfl rfl rfl (fun v10 s10 => ?_)
    refine sw_bif_ne (tgt := 18) (pc' := 16) dX4_runs_13 (by decide) rfl (fun _ => ?_) (fun _ => ?_)
    · refine sw_aload_n (pc' := 19) dX4_runs_18 rfl rfl ?_
      refine sw_getr (pc' := 22) dX4_runs_19 fl_X4_16 (tbk_0) rfl rfl ?_
      refine sw_aload_n (pc' := 23) dX4_runs_22 rfl rfl ?_
      refine sw_getr (pc' := 26) dX4_runs_23 fl_X4_10 (tbk_0) rfl rfl ?_
      refine sw_callVV (pc' := 29) (As := [.ref (ad G 1)]) (rest := []) dX4_runs_26 cv_X4_71 (tbk_11) (m_X2_copyFrom 11 1 (isSq_11) (isSq_1) s10) rfl rfl rfl rfl rfl (fun s26 => ?_)
      refine sw_iconst (pc' := 30) dX4_runs_29 rfl ?_
      refine sw_istore_n (pc' := 31) (x := 0) (L' := [some (.ref (ad G 0)), some (vi x1), some (vi x2), some (vi 0), none, none, none, none]) dX4_runs_30 rfl (by decide) rfl rfl ?_
      refine sw_iconst (pc' := 32) dX4_runs_31 rfl ?_
      refine sw_istore (pc' := 34) (x := 0) (L' := [some (.ref (ad G 0)), some (vi x1), some (vi x2), some (vi 0), some (vi 0), none, none, none]) dX4_runs_32 rfl (by decide) rfl rfl ?_
      refine sw_bipush (pc' := 36) dX4_runs_34 rfl rfl ?_
      refine sw_istore (pc' := 38) (x := (-4)) (L' := [some (.ref (ad G 0)), some (vi x1), some (vi x2), some (vi 0), some (vi 0), some (vi (-4)), none, none]) dX4_runs_36 rfl (by decide) rfl rfl ?_
      refine sw_iconst (pc' := 39) dX4_runs_38 rfl ?_
      refine sw_istore (pc' := 41) (x := 1) (L' := [some (.ref (ad G 0)), some (vi x1), some (vi x2), some (vi 0), some (vi 0), some (vi (-4)), some (vi 1), none]) dX4_runs_39 rfl (by decide) rfl rfl ?_
      exact s_X4_runs_41 FU x1 x2 0 0 (-4) 1 s26
    · refine sw_iconst (pc' := 17) dX4_runs_16 rfl ?_
      exact sw_iret dX4_runs_17
  · refine sw_iconst (pc' := 17) dX4_runs_16 rfl ?_
    exact sw_iret dX4_runs_17
def rm_X4_isChoice : Room := { frames := 1, cells := 0, slots := 0, locals := 22 }
def f_X4_isChoice (x0 : Int) (σ : St) : Option (Bool × St) :=
  bI (f_X4_within x0 0 1 σ) fun v3 s3 => some (v3, s3)
set_option maxRecDepth 20000 in
theorem m_X4_isChoice (x0 : Int)  (σ : St) : MT G l yX4_isChoice cX4_isChoice 1 (some .boolean) rm_X4_isChoice [vi x0] wB σ (f_X4_isChoice x0 σ) := by
  refine mt_B (L := [some (vi x0)]) rfl (Nat.le_of_ble_eq_true rfl) rfl ?_
  show SW G l RX4 cX4_isChoice 1 rm_X4_isChoice wB 0 [some (vi x0)] [] σ (f_X4_isChoice x0 σ)
  unfold f_X4_isChoice
  refine sw_iload_n (pc' := 1) dX4_isChoice_0 rfl rfl ?_
  refine sw_iconst (pc' := 2) dX4_isChoice_1 rfl ?_
  refine sw_iconst (pc' := 3) dX4_isChoice_2 rfl ?_
  refine sw_callSB (pc' := 6) (As := [vi x0, vi 0, vi 1]) (rest := []) dX4_isChoice_3 cs_X4_46 (m_X4_within x0 0 1 σ) rfl rfl rfl rfl rfl (fun v3 s3 => ?_)
  exact sw_bret dX4_isChoice_6
def rm_X4_ahead : Room := { frames := 6, cells := 0, slots := 0, locals := 143 }
def f_X4_ahead (x1 : Int) (x2 : Int) (x3 : Int) (σ : St) : Option (Int × St) :=
  bI (f_X4_isRider x1 σ) fun v2 s2 => if v2 then
    bI (f_X4_isRunAhead x2 s2) fun v9 s9 => if v9 then
      bI (f_X4_isChoice x3 s9) fun v16 s16 => if v16 then
        bV (f_X2_copyFrom 11 1 s16) fun s32 => bI (f_X2_passDays 11 x2 s32) fun v40 s40 => if wr x3 = 0 then
          bV (ld s40 13 5 x1) fun v56 => some (v56, s40)
        else
          bI (f_X2_readingOf 11 x1 s40) fun v65 s65 => some (v65, s65)
      else
        some ((-1), s16)
    else
      some ((-1), s9)
  else
    some ((-1), s2)
set_option maxRecDepth 20000 in
theorem m_X4_ahead (x1 : Int) (x2 : Int) (x3 : Int)  (σ : St) : MT G l yX4_ahead cX4_ahead 4 (some .int) rm_X4_ahead [.ref (ad G 0), vi x1, vi x2, vi x3] wI σ (f_X4_ahead x1 x2 x3 σ) := by
  refine mt_I (L := [some (.ref (ad G 0)), some (vi x1), some (vi x2), some (vi x3)]) rfl (Nat.le_of_ble_eq_true rfl) rfl ?_
  show SW G l RX4 cX4_ahead 4 rm_X4_ahead wI 0 [some (.ref (ad G 0)), some (vi x1), some (vi x2), some (vi x3)] [] σ (f_X4_ahead x1 x2 x3 σ)
  unfold f_X4_ahead
  refine sw_aload_n (pc' := 1) dX4_ahead_0 rfl rfl ?_
  refine sw_iload_n (pc' := 2) dX4_ahead_1 rfl rfl ?_
  refine sw_callVB (pc' := 5) (As := [vi x1]) (rest := []) dX4_ahead_2 cv_X4_105 (tbk_0) (m_X4_isRider x1 σ) rfl rfl rfl rfl rfl (fun v2 s2 => ?_)
  refine sw_bif_eq (tgt := 22) (pc' := 8) dX4_ahead_5 (by decide) rfl (fun _ => ?_) (fun _ => ?_)
  · refine sw_iload_n (pc' := 9) dX4_ahead_8 rfl rfl ?_
    refine sw_callSB (pc' := 12) (As := [vi x2]) (rest := []) dX4_ahead_9 cs_X4_172 (m_X4_isRunAhead x2 s2) rfl rfl rfl rfl rfl (fun v9 s9 => ?_)
    refine sw_bif_eq (tgt := 22) (pc' := 15) dX4_ahead_12 (by decide) rfl (fun _ => ?_) (fun _ => ?_)
    · refine sw_iload_n (pc' := 16) dX4_ahead_15 rfl rfl ?_
      refine sw_callSB (pc' := 19) (As := [vi x3]) (rest := []) dX4_ahead_16 cs_X4_178 (m_X4_isChoice x3 s9) rfl rfl rfl rfl rfl (fun v16 s16 => ?_)
      refine sw_bif_ne (tgt := 24) (pc' := 22) dX4_ahead_19 (by decide) rfl (fun _ => ?_) (fun _ => ?_)
      · refine sw_aload_n (pc' := 25) dX4_ahead_24 rfl rfl ?_
        refine sw_getr (pc' := 28) dX4_ahead_25 fl_X4_16 (tbk_0) rfl rfl ?_
        refine sw_aload_n (pc' := 29) dX4_ahead_28 rfl rfl ?_
        refine sw_getr (pc' := 32) dX4_ahead_29 fl_X4_10 (tbk_0) rfl rfl ?_
        refine sw_callVV (pc' := 35) (As := [.ref (ad G 1)]) (rest := []) dX4_ahead_32 cv_X4_71 (tbk_11) (m_X2_copyFrom 11 1 (isSq_11) (isSq_1) s16) rfl rfl rfl rfl rfl (fun s32 => ?_)
        refine sw_aload_n (pc' := 36) dX4_ahead_35 rfl rfl ?_
        refine sw_getr (pc' := 39) dX4_ahead_36 fl_X4_16 (tbk_0) rfl rfl ?_
        refine sw_iload_n (pc' := 40) dX4_ahead_39 rfl rfl ?_
        refine sw_callVI (pc' := 43) (As := [vi x2]) (rest := []) dX4_ahead_40 cv_X4_169 (tbk_11) (m_X2_passDays 11 x2 (isSq_11) s32) rfl rfl rfl rfl rfl (fun v40 s40 => ?_)
        refine sw_pop (pc' := 44) dX4_ahead_43 rfl rfl ?_
        refine sw_iload_n (pc' := 45) dX4_ahead_44 rfl rfl ?_
        refine sw_if_ne (tgt := 60) (pc' := 48) dX4_ahead_45 (by decide) rfl (fun _ => ?_) (fun _ => ?_)
        · refine sw_aload_n (pc' := 49) dX4_ahead_48 rfl rfl ?_
          refine sw_getr (pc' := 52) dX4_ahead_49 fl_X4_16 (tbk_0) rfl rfl ?_
          refine sw_getr (pc' := 55) dX4_ahead_52 fl_X4_112 (tbk_11) rfl rfl ?_
          refine sw_iload_n (pc' := 56) dX4_ahead_55 rfl rfl ?_
          refine sw_iald (pc' := 57) dX4_ahead_56 (tbk_13) rfl (fun v56 => ?_)
          refine sw_goto (pc' := 68) dX4_ahead_57 (by decide) ?_
          exact sw_iret dX4_ahead_68
        · refine sw_aload_n (pc' := 61) dX4_ahead_60 rfl rfl ?_
          refine sw_getr (pc' := 64) dX4_ahead_61 fl_X4_16 (tbk_0) rfl rfl ?_
          refine sw_iload_n (pc' := 65) dX4_ahead_64 rfl rfl ?_
          refine sw_callVI (pc' := 68) (As := [vi x1]) (rest := []) dX4_ahead_65 cv_X4_118 (tbk_11) (m_X2_readingOf 11 x1 (isSq_11) s40) rfl rfl rfl rfl rfl (fun v65 s65 => ?_)
          exact sw_iret dX4_ahead_68
      · refine sw_iconst (pc' := 23) dX4_ahead_22 rfl ?_
        exact sw_iret dX4_ahead_23
    · refine sw_iconst (pc' := 23) dX4_ahead_22 rfl ?_
      exact sw_iret dX4_ahead_23
  · refine sw_iconst (pc' := 23) dX4_ahead_22 rfl ?_
    exact sw_iret dX4_ahead_23
def rm_X4_believed : Room := { frames := 3, cells := 0, slots := 0, locals := 71 }
def f_X4_believed (x1 : Int) (x2 : Int) (σ : St) : Option (Int × St) :=
  bI (f_X4_isRider x1 σ) fun v2 s2 => if v2 then
    bI (f_X4_isDay x2 s2) fun v9 s9 => if v9 then
      bI (f_X2_beliefOf 1 x1 x2 s9) fun v21 s21 => some (v21, s21)
    else
      some ((-1), s9)
  else
    some ((-1), s2)
set_option maxRecDepth 20000 in
theorem m_X4_believed (x1 : Int) (x2 : Int)  (σ : St) : MT G l yX4_believed cX4_believed 3 (some .int) rm_X4_believed [.ref (ad G 0), vi x1, vi x2] wI σ (f_X4_believed x1 x2 σ) := by
  refine mt_I (L := [some (.ref (ad G 0)), some (vi x1), some (vi x2)]) rfl (Nat.le_of_ble_eq_true rfl) rfl ?_
  show SW G l RX4 cX4_believed 3 rm_X4_believed wI 0 [some (.ref (ad G 0)), some (vi x1), some (vi x2)] [] σ (f_X4_believed x1 x2 σ)
  unfold f_X4_believed
  refine sw_aload_n (pc' := 1) dX4_believed_0 rfl rfl ?_
  refine sw_iload_n (pc' := 2) dX4_believed_1 rfl rfl ?_
  refine sw_callVB (pc' := 5) (As := [vi x1]) (rest := []) dX4_believed_2 cv_X4_105 (tbk_0) (m_X4_isRider x1 σ) rfl rfl rfl rfl rfl (fun v2 s2 => ?_)
  refine sw_bif_eq (tgt := 27) (pc' := 8) dX4_believed_5 (by decide) rfl (fun _ => ?_) (fun _ => ?_)
  · refine sw_iload_n (pc' := 9) dX4_believed_8 rfl rfl ?_
    refine sw_callSB (pc' := 12) (As := [vi x2]) (rest := []) dX4_believed_9 cs_X4_151 (m_X4_isDay x2 s2) rfl rfl rfl rfl rfl (fun v9 s9 => ?_)
    refine sw_bif_eq (tgt := 27) (pc' := 15) dX4_believed_12 (by decide) rfl (fun _ => ?_) (fun _ => ?_)
    · refine sw_aload_n (pc' := 16) dX4_believed_15 rfl rfl ?_
      refine sw_getr (pc' := 19) dX4_believed_16 fl_X4_10 (tbk_0) rfl rfl ?_
      refine sw_iload_n (pc' := 20) dX4_believed_19 rfl rfl ?_
      refine sw_iload_n (pc' := 21) dX4_believed_20 rfl rfl ?_
      refine sw_callVI (pc' := 24) (As := [vi x1, vi x2]) (rest := []) dX4_believed_21 cv_X4_122 (tbk_1) (m_X2_beliefOf 1 x1 x2 (isSq_1) s9) rfl rfl rfl rfl rfl (fun v21 s21 => ?_)
      refine sw_goto (pc' := 28) dX4_believed_24 (by decide) ?_
      exact sw_iret dX4_believed_28
    · refine sw_iconst (pc' := 28) dX4_believed_27 rfl ?_
      exact sw_iret dX4_believed_28
  · refine sw_iconst (pc' := 28) dX4_believed_27 rfl ?_
    exact sw_iret dX4_believed_28
def rm_X4_agrees : Room := { frames := 5, cells := 0, slots := 0, locals := 118 }
def f_X4_agrees_23   : Nat → Int → Int → St → Option (Int × St)
  | 0, _, _, _ => none
  | n + 1, x1, x2, σ =>
    if wr 60 < wr x2 then
      some ((-4), σ)
    else
      bI (f_X2_isContent 11 x1 σ) fun v34 s34 => if v34 then
        some (x2, s34)
      else
        bI (f_X2_passDay 11 s34) fun v46 s46 => (f_X4_agrees_23 n) x1 (x2 + 1) s46
set_option maxRecDepth 20000 in
theorem s_X4_agrees_23     : ∀ (n : Nat) (x1 x2 : Int) (σ : St), SW G l RX4 cX4_agrees 3 rm_X4_agrees wI 23 [some (.ref (ad G 0)), some (vi x1), some (vi x2)] [] σ (f_X4_agrees_23 n x1 x2 σ) := by
  intro n
  induction n with
  | zero => intro x1 x2 σ; exact sw_none
  | succ n ih =>
    intro x1 x2 σ
    rw [f_X4_agrees_23]
    refine sw_iload_n (pc' := 24) dX4_agrees_23 rfl rfl ?_
    refine sw_bipush (pc' := 26) dX4_agrees_24 rfl rfl ?_
    refine sw_icmp_gt (tgt := 56) (pc' := 29) dX4_agrees_26 (by decide) rfl (fun _ => ?_) (fun _ => ?_)
    · refine sw_bipush (pc' := 58) dX4_agrees_56 rfl rfl ?_
      exact sw_iret dX4_agrees_58
    · refine sw_aload_n (pc' := 30) dX4_agrees_29 rfl rfl ?_
      refine sw_getr (pc' := 33) dX4_agrees_30 fl_X4_16 (tbk_0) rfl rfl ?_
      refine sw_iload_n (pc' := 34) dX4_agrees_33 rfl rfl ?_
      refine sw_callVB (pc' := 37) (As := [vi x1]) (rest := []) dX4_agrees_34 cv_X4_181 (tbk_11) (m_X2_isContent 11 x1 (isSq_11) σ) rfl rfl rfl rfl rfl (fun v34 s34 => ?_)
      refine sw_bif_eq (tgt := 42) (pc' := 40) dX4_agrees_37 (by decide) rfl (fun _ => ?_) (fun _ => ?_)
      · refine sw_iload_n (pc' := 41) dX4_agrees_40 rfl rfl ?_
        exact sw_iret dX4_agrees_41
      · refine sw_aload_n (pc' := 43) dX4_agrees_42 rfl rfl ?_
        refine sw_getr (pc' := 46) dX4_agrees_43 fl_X4_16 (tbk_0) rfl rfl ?_
        refine sw_callVI (pc' := 49) (As := []) (rest := []) dX4_agrees_46 cv_X4_175 (tbk_11) (m_X2_passDay 11 (isSq_11) s34) rfl rfl rfl rfl rfl (fun v46 s46 => ?_)
        refine sw_pop (pc' := 50) dX4_agrees_49 rfl rfl ?_
        refine sw_iinc (pc' := 53) (x := x2) (L' := [some (.ref (ad G 0)), some (vi x1), some (vi (x2 + 1))]) dX4_agrees_50 rfl (by decide) rfl rfl rfl ?_
        refine sw_goto (pc' := 23) dX4_agrees_53 (by decide) ?_
        exact (ih) x1 (x2 + 1) s46
def f_X4_agrees (x1 : Int) (σ : St) : Option (Int × St) :=
  bI (f_X4_isRider x1 σ) fun v2 s2 => if v2 then
    bV (f_X2_copyFrom 11 1 s2) fun s18 => f_X4_agrees_23 FU x1 0 s18
  else
    some ((-1), s2)
set_option maxRecDepth 20000 in
theorem m_X4_agrees (x1 : Int)  (σ : St) : MT G l yX4_agrees cX4_agrees 3 (some .int) rm_X4_agrees [.ref (ad G 0), vi x1] wI σ (f_X4_agrees x1 σ) := by
  refine mt_I (L := [some (.ref (ad G 0)), some (vi x1), none]) rfl (Nat.le_of_ble_eq_true rfl) rfl ?_
  show SW G l RX4 cX4_agrees 3 rm_X4_agrees wI 0 [some (.ref (ad G 0)), some (vi x1), none] [] σ (f_X4_agrees x1 σ)
  unfold f_X4_agrees
  refine sw_aload_n (pc' := 1) dX4_agrees_0 rfl rfl ?_
  refine sw_iload_n (pc' := 2) dX4_agrees_1 rfl rfl ?_
  refine sw_callVB (pc' := 5) (As := [vi x1]) (rest := []) dX4_agrees_2 cv_X4_105 (tbk_0) (m_X4_isRider x1 σ) rfl rfl rfl rfl rfl (fun v2 s2 => ?_)
  refine sw_bif_ne (tgt := 10) (pc' := 8) dX4_agrees_5 (by decide) rfl (fun _ => ?_) (fun _ => ?_)
  · refine sw_aload_n (pc' := 11) dX4_agrees_10 rfl rfl ?_
    refine sw_getr (pc' := 14) dX4_agrees_11 fl_X4_16 (tbk_0) rfl rfl ?_
    refine sw_aload_n (pc' := 15) dX4_agrees_14 rfl rfl ?_
    refine sw_getr (pc' := 18) dX4_agrees_15 fl_X4_10 (tbk_0) rfl rfl ?_
    refine sw_callVV (pc' := 21) (As := [.ref (ad G 1)]) (rest := []) dX4_agrees_18 cv_X4_71 (tbk_11) (m_X2_copyFrom 11 1 (isSq_11) (isSq_1) s2) rfl rfl rfl rfl rfl (fun s18 => ?_)
    refine sw_iconst (pc' := 22) dX4_agrees_21 rfl ?_
    refine sw_istore_n (pc' := 23) (x := 0) (L' := [some (.ref (ad G 0)), some (vi x1), some (vi 0)]) dX4_agrees_22 rfl (by decide) rfl rfl ?_
    exact s_X4_agrees_23 FU x1 0 s18
  · refine sw_iconst (pc' := 9) dX4_agrees_8 rfl ?_
    exact sw_iret dX4_agrees_9
def rm_X4_pose : Room := { frames := 3, cells := 0, slots := 0, locals := 62 }
def f_X4_pose_64  (k19 : Int → Int → Int → St → Option (Int × St)) (x1 x2 x3 : Int) (σ : St) : Option (Int × St) :=
  k19 x1 x2 (x3 + 1) σ
set_option maxRecDepth 20000 in
theorem s_X4_pose_64   (k19 : Int → Int → Int → St → Option (Int × St)) (hk19 : ∀ (x1 x2 x3 : Int) (σ : St), SW G l RX4 cX4_pose 4 rm_X4_pose wI 19 [some (.ref (ad G 0)), some (vi x1), some (vi x2), some (vi x3)] [] σ (k19 x1 x2 x3 σ)) (x1 x2 x3 : Int) (σ : St) : SW G l RX4 cX4_pose 4 rm_X4_pose wI 64 [some (.ref (ad G 0)), some (vi x1), some (vi x2), some (vi x3)] [] σ (f_X4_pose_64 k19 x1 x2 x3 σ) := by
  unfold f_X4_pose_64
  refine sw_iinc (pc' := 67) (x := x3) (L' := [some (.ref (ad G 0)), some (vi x1), some (vi x2), some (vi (x3 + 1))]) dX4_pose_64 rfl (by decide) rfl rfl rfl ?_
  refine sw_goto (pc' := 19) dX4_pose_67 (by decide) ?_
  exact hk19 x1 x2 (x3 + 1) σ
def f_X4_pose_19   : Nat → Int → Int → Int → St → Option (Int × St)
  | 0, _, _, _, _ => none
  | n + 1, x1, x2, x3, σ =>
    if wr x3 < wr 16 then
      bV (ld σ 2 5 x1) fun v33 => bI (f_X4_reading v33 x3 σ) fun v35 s35 => if wr v35 = wr x2 then
        bV (ld s35 4 5 x1) fun v55 => bI (f_X2_holds 1 x3 v55 s35) fun v56 s56 => if v56 then
          some (x3, s56)
        else
          f_X4_pose_64 (f_X4_pose_19 n) x1 x2 x3 s56
      else
        f_X4_pose_64 (f_X4_pose_19 n) x1 x2 x3 s35
    else
      some ((-4), σ)
set_option maxRecDepth 20000 in
theorem s_X4_pose_19     : ∀ (n : Nat) (x1 x2 x3 : Int) (σ : St), SW G l RX4 cX4_pose 4 rm_X4_pose wI 19 [some (.ref (ad G 0)), some (vi x1), some (vi x2), some (vi x3)] [] σ (f_X4_pose_19 n x1 x2 x3 σ) := by
  intro n
  induction n with
  | zero => intro x1 x2 x3 σ; exact sw_none
  | succ n ih =>
    intro x1 x2 x3 σ
    rw [f_X4_pose_19]
    refine sw_iload_n (pc' := 20) dX4_pose_19 rfl rfl ?_
    refine sw_bipush (pc' := 22) dX4_pose_20 rfl rfl ?_
    refine sw_icmp_ge (tgt := 70) (pc' := 25) dX4_pose_22 (by decide) rfl (fun _ => ?_) (fun _ => ?_)
    · refine sw_aload_n (pc' := 26) dX4_pose_25 rfl rfl ?_
      refine sw_getr (pc' := 29) dX4_pose_26 fl_X4_10 (tbk_0) rfl rfl ?_
      refine sw_getr (pc' := 32) dX4_pose_29 fl_X4_108 (tbk_1) rfl rfl ?_
      refine sw_iload_n (pc' := 33) dX4_pose_32 rfl rfl ?_
      refine sw_iald (pc' := 34) dX4_pose_33 (tbk_2) rfl (fun v33 => ?_)
      refine sw_iload_n (pc' := 35) dX4_pose_34 rfl rfl ?_
      refine sw_callSI (pc' := 38) (As := [vi v33, vi x3]) (rest := []) dX4_pose_35 cs_X4_184 (m_X4_reading v33 x3 σ) rfl rfl rfl rfl rfl (fun v35 s35 => ?_)
      refine sw_iload_n (pc' := 39) dX4_pose_38 rfl rfl ?_
      refine sw_icmp_ne (tgt := 64) (pc' := 42) dX4_pose_39 (by decide) rfl (fun _ => ?_) (fun _ => ?_)
      · refine sw_aload_n (pc' := 43) dX4_pose_42 rfl rfl ?_
        refine sw_getr (pc' := 46) dX4_pose_43 fl_X4_10 (tbk_0) rfl rfl ?_
        refine sw_iload_n (pc' := 47) dX4_pose_46 rfl rfl ?_
        refine sw_aload_n (pc' := 48) dX4_pose_47 rfl rfl ?_
        refine sw_getr (pc' := 51) dX4_pose_48 fl_X4_10 (tbk_0) rfl rfl ?_
        refine sw_getr (pc' := 54) dX4_pose_51 fl_X4_115 (tbk_1) rfl rfl ?_
        refine sw_iload_n (pc' := 55) dX4_pose_54 rfl rfl ?_
        refine sw_iald (pc' := 56) dX4_pose_55 (tbk_4) rfl (fun v55 => ?_)
        refine sw_callVB (pc' := 59) (As := [vi x3, vi v55]) (rest := []) dX4_pose_56 cv_X4_126 (tbk_1) (m_X2_holds 1 x3 v55 (isSq_1) s35) rfl rfl rfl rfl rfl (fun v56 s56 => ?_)
        refine sw_bif_eq (tgt := 64) (pc' := 62) dX4_pose_59 (by decide) rfl (fun _ => ?_) (fun _ => ?_)
        · refine sw_iload_n (pc' := 63) dX4_pose_62 rfl rfl ?_
          exact sw_iret dX4_pose_63
        · exact s_X4_pose_64 (f_X4_pose_19 n) (ih) x1 x2 x3 s56
      · exact s_X4_pose_64 (f_X4_pose_19 n) (ih) x1 x2 x3 s35
    · refine sw_bipush (pc' := 72) dX4_pose_70 rfl rfl ?_
      exact sw_iret dX4_pose_72
def f_X4_pose (x1 : Int) (x2 : Int) (σ : St) : Option (Int × St) :=
  bI (f_X4_isRider x1 σ) fun v2 s2 => if v2 then
    bI (f_X4_isEnd x2 s2) fun v9 s9 => if v9 then
      f_X4_pose_19 FU x1 x2 0 s9
    else
      some ((-1), s9)
  else
    some ((-1), s2)
set_option maxRecDepth 20000 in
theorem m_X4_pose (x1 : Int) (x2 : Int)  (σ : St) : MT G l yX4_pose cX4_pose 4 (some .int) rm_X4_pose [.ref (ad G 0), vi x1, vi x2] wI σ (f_X4_pose x1 x2 σ) := by
  refine mt_I (L := [some (.ref (ad G 0)), some (vi x1), some (vi x2), none]) rfl (Nat.le_of_ble_eq_true rfl) rfl ?_
  show SW G l RX4 cX4_pose 4 rm_X4_pose wI 0 [some (.ref (ad G 0)), some (vi x1), some (vi x2), none] [] σ (f_X4_pose x1 x2 σ)
  unfold f_X4_pose
  refine sw_aload_n (pc' := 1) dX4_pose_0 rfl rfl ?_
  refine sw_iload_n (pc' := 2) dX4_pose_1 rfl rfl ?_
  refine sw_callVB (pc' := 5) (As := [vi x1]) (rest := []) dX4_pose_2 cv_X4_105 (tbk_0) (m_X4_isRider x1 σ) rfl rfl rfl rfl rfl (fun v2 s2 => ?_)
  refine sw_bif_eq (tgt := 15) (pc' := 8) dX4_pose_5 (by decide) rfl (fun _ => ?_) (fun _ => ?_)
  · refine sw_iload_n (pc' := 9) dX4_pose_8 rfl rfl ?_
    refine sw_callSB (pc' := 12) (As := [vi x2]) (rest := []) dX4_pose_9 cs_X4_148 (m_X4_isEnd x2 s2) rfl rfl rfl rfl rfl (fun v9 s9 => ?_)
    refine sw_bif_ne (tgt := 17) (pc' := 15) dX4_pose_12 (by decide) rfl (fun _ => ?_) (fun _ => ?_)
    · refine sw_iconst (pc' := 18) dX4_pose_17 rfl ?_
      refine sw_istore_n (pc' := 19) (x := 0) (L' := [some (.ref (ad G 0)), some (vi x1), some (vi x2), some (vi 0)]) dX4_pose_18 rfl (by decide) rfl rfl ?_
      exact s_X4_pose_19 FU x1 x2 0 s9
    · refine sw_iconst (pc' := 16) dX4_pose_15 rfl ?_
      exact sw_iret dX4_pose_16
  · refine sw_iconst (pc' := 16) dX4_pose_15 rfl ?_
    exact sw_iret dX4_pose_16
def rm_X4_heavy : Room := { frames := 2, cells := 0, slots := 0, locals := 44 }
def f_X4_heavy_65  (k22 : Int → Int → Int → Int → St → Option (Int × St)) (x1 x2 x3 x4 : Int) (σ : St) : Option (Int × St) :=
  k22 x1 x2 x3 (x4 + 1) σ
set_option maxRecDepth 20000 in
theorem s_X4_heavy_65   (k22 : Int → Int → Int → Int → St → Option (Int × St)) (hk22 : ∀ (x1 x2 x3 x4 : Int) (σ : St), SW G l RX4 cX4_heavy 5 rm_X4_heavy wI 22 [some (.ref (ad G 0)), some (vi x1), some (vi x2), some (vi x3), some (vi x4)] [] σ (k22 x1 x2 x3 x4 σ)) (x1 x2 x3 x4 : Int) (σ : St) : SW G l RX4 cX4_heavy 5 rm_X4_heavy wI 65 [some (.ref (ad G 0)), some (vi x1), some (vi x2), some (vi x3), some (vi x4)] [] σ (f_X4_heavy_65 k22 x1 x2 x3 x4 σ) := by
  unfold f_X4_heavy_65
  refine sw_iinc (pc' := 68) (x := x4) (L' := [some (.ref (ad G 0)), some (vi x1), some (vi x2), some (vi x3), some (vi (x4 + 1))]) dX4_heavy_65 rfl (by decide) rfl rfl rfl ?_
  refine sw_goto (pc' := 22) dX4_heavy_68 (by decide) ?_
  exact hk22 x1 x2 x3 (x4 + 1) σ
def f_X4_heavy_22   : Nat → Int → Int → Int → Int → St → Option (Int × St)
  | 0, _, _, _, _, _ => none
  | n + 1, x1, x2, x3, x4, σ =>
    if wr x4 < wr 16 then
      bV (ld σ 2 5 x1) fun v37 => bI (f_X4_reading v37 x4 σ) fun v40 s40 => if wr v40 = wr x2 then
        bI (f_X4_legsDown x4 s40) fun v50 s50 => f_X4_heavy_65 (f_X4_heavy_22 n) x1 x2 (imx x3 (v50 * (s50 1 4))) x4 s50
      else
        f_X4_heavy_65 (f_X4_heavy_22 n) x1 x2 x3 x4 s40
    else
      if wr x3 = 0 then
        some ((-4), σ)
      else
        some ((imn x3 99), σ)
set_option maxRecDepth 20000 in
theorem s_X4_heavy_22     : ∀ (n : Nat) (x1 x2 x3 x4 : Int) (σ : St), SW G l RX4 cX4_heavy 5 rm_X4_heavy wI 22 [some (.ref (ad G 0)), some (vi x1), some (vi x2), some (vi x3), some (vi x4)] [] σ (f_X4_heavy_22 n x1 x2 x3 x4 σ) := by
  intro n
  induction n with
  | zero => intro x1 x2 x3 x4 σ; exact sw_none
  | succ n ih =>
    intro x1 x2 x3 x4 σ
    rw [f_X4_heavy_22]
    refine sw_iload (pc' := 24) dX4_heavy_22 rfl rfl ?_
    refine sw_bipush (pc' := 26) dX4_heavy_24 rfl rfl ?_
    refine sw_icmp_ge (tgt := 71) (pc' := 29) dX4_heavy_26 (by decide) rfl (fun _ => ?_) (fun _ => ?_)
    · refine sw_aload_n (pc' := 30) dX4_heavy_29 rfl rfl ?_
      refine sw_getr (pc' := 33) dX4_heavy_30 fl_X4_10 (tbk_0) rfl rfl ?_
      refine sw_getr (pc' := 36) dX4_heavy_33 fl_X4_108 (tbk_1) rfl rfl ?_
      refine sw_iload_n (pc' := 37) dX4_heavy_36 rfl rfl ?_
      refine sw_iald (pc' := 38) dX4_heavy_37 (tbk_2) rfl (fun v37 => ?_)
      refine sw_iload (pc' := 40) dX4_heavy_38 rfl rfl ?_
      refine sw_callSI (pc' := 43) (As := [vi v37, vi x4]) (rest := []) dX4_heavy_40 cs_X4_184 (m_X4_reading v37 x4 σ) rfl rfl rfl rfl rfl (fun v40 s40 => ?_)
      refine sw_iload_n (pc' := 44) dX4_heavy_43 rfl rfl ?_
      refine sw_icmp_ne (tgt := 65) (pc' := 47) dX4_heavy_44 (by decide) rfl (fun _ => ?_) (fun _ => ?_)
      · refine sw_iload_n (pc' := 48) dX4_heavy_47 rfl rfl ?_
        refine sw_iload (pc' := 50) dX4_heavy_48 rfl rfl ?_
        refine sw_callSI (pc' := 53) (As := [vi x4]) (rest := [vi x3]) dX4_heavy_50 cs_X4_187 (m_X4_legsDown x4 s40) rfl rfl rfl rfl rfl (fun v50 s50 => ?_)
        refine sw_aload_n (pc' := 54) dX4_heavy_53 rfl rfl ?_
        refine sw_getr (pc' := 57) dX4_heavy_54 fl_X4_10 (tbk_0) rfl rfl ?_
        refine sw_getn (pc' := 60) dX4_heavy_57 fl_X4_95 (tbk_1) rfl rfl ?_
        refine sw_imul (pc' := 61) dX4_heavy_60 rfl ?_
        refine sw_imx (pc' := 64) dX4_heavy_61 cm_X4_190 rfl rfl rfl ?_
        refine sw_istore_n (pc' := 65) (x := (imx x3 (v50 * (s50 1 4)))) (L' := [some (.ref (ad G 0)), some (vi x1), some (vi x2), some (vi (imx x3 (v50 * (s50 1 4)))), some (vi x4)]) dX4_heavy_64 rfl (by decide) rfl rfl ?_
        exact s_X4_heavy_65 (f_X4_heavy_22 n) (ih) x1 x2 (imx x3 (v50 * (s50 1 4))) x4 s50
      · exact s_X4_heavy_65 (f_X4_heavy_22 n) (ih) x1 x2 x3 x4 s40
    · refine sw_iload_n (pc' := 72) dX4_heavy_71 rfl rfl ?_
      refine sw_if_ne (tgt := 80) (pc' := 75) dX4_heavy_72 (by decide) rfl (fun _ => ?_) (fun _ => ?_)
      · refine sw_bipush (pc' := 77) dX4_heavy_75 rfl rfl ?_
        refine sw_goto (pc' := 86) dX4_heavy_77 (by decide) ?_
        exact sw_iret dX4_heavy_86
      · refine sw_iload_n (pc' := 81) dX4_heavy_80 rfl rfl ?_
        refine sw_bipush (pc' := 83) dX4_heavy_81 rfl rfl ?_
        refine sw_imn (pc' := 86) dX4_heavy_83 cm_X4_195 rfl rfl rfl ?_
        exact sw_iret dX4_heavy_86
def f_X4_heavy (x1 : Int) (x2 : Int) (σ : St) : Option (Int × St) :=
  bI (f_X4_isRider x1 σ) fun v2 s2 => if v2 then
    bI (f_X4_isEnd x2 s2) fun v9 s9 => if v9 then
      f_X4_heavy_22 FU x1 x2 0 0 s9
    else
      some ((-1), s9)
  else
    some ((-1), s2)
set_option maxRecDepth 20000 in
theorem m_X4_heavy (x1 : Int) (x2 : Int)  (σ : St) : MT G l yX4_heavy cX4_heavy 5 (some .int) rm_X4_heavy [.ref (ad G 0), vi x1, vi x2] wI σ (f_X4_heavy x1 x2 σ) := by
  refine mt_I (L := [some (.ref (ad G 0)), some (vi x1), some (vi x2), none, none]) rfl (Nat.le_of_ble_eq_true rfl) rfl ?_
  show SW G l RX4 cX4_heavy 5 rm_X4_heavy wI 0 [some (.ref (ad G 0)), some (vi x1), some (vi x2), none, none] [] σ (f_X4_heavy x1 x2 σ)
  unfold f_X4_heavy
  refine sw_aload_n (pc' := 1) dX4_heavy_0 rfl rfl ?_
  refine sw_iload_n (pc' := 2) dX4_heavy_1 rfl rfl ?_
  refine sw_callVB (pc' := 5) (As := [vi x1]) (rest := []) dX4_heavy_2 cv_X4_105 (tbk_0) (m_X4_isRider x1 σ) rfl rfl rfl rfl rfl (fun v2 s2 => ?_)
  refine sw_bif_eq (tgt := 15) (pc' := 8) dX4_heavy_5 (by decide) rfl (fun _ => ?_) (fun _ => ?_)
  · refine sw_iload_n (pc' := 9) dX4_heavy_8 rfl rfl ?_
    refine sw_callSB (pc' := 12) (As := [vi x2]) (rest := []) dX4_heavy_9 cs_X4_148 (m_X4_isEnd x2 s2) rfl rfl rfl rfl rfl (fun v9 s9 => ?_)
    refine sw_bif_ne (tgt := 17) (pc' := 15) dX4_heavy_12 (by decide) rfl (fun _ => ?_) (fun _ => ?_)
    · refine sw_iconst (pc' := 18) dX4_heavy_17 rfl ?_
      refine sw_istore_n (pc' := 19) (x := 0) (L' := [some (.ref (ad G 0)), some (vi x1), some (vi x2), some (vi 0), none]) dX4_heavy_18 rfl (by decide) rfl rfl ?_
      refine sw_iconst (pc' := 20) dX4_heavy_19 rfl ?_
      refine sw_istore (pc' := 22) (x := 0) (L' := [some (.ref (ad G 0)), some (vi x1), some (vi x2), some (vi 0), some (vi 0)]) dX4_heavy_20 rfl (by decide) rfl rfl ?_
      exact s_X4_heavy_22 FU x1 x2 0 0 s9
    · refine sw_iconst (pc' := 16) dX4_heavy_15 rfl ?_
      exact sw_iret dX4_heavy_16
  · refine sw_iconst (pc' := 16) dX4_heavy_15 rfl ?_
    exact sw_iret dX4_heavy_16
def rm_X4_need : Room := { frames := 4, cells := 0, slots := 0, locals := 84 }
def f_X4_need_25   : Nat → Int → Int → St → Option (Int × St)
  | 0, _, _, _ => none
  | n + 1, x1, x2, σ =>
    if wr 99 < wr x2 then
      some ((-4), σ)
    else
      bV (pf σ 11 4 x2) fun s36 => bI (f_X2_standing 11 s36) fun v43 s43 => if wr v43 = wr x1 then
        some (x2, s43)
      else
        (f_X4_need_25 n) x1 (x2 + 1) s43
set_option maxRecDepth 20000 in
theorem s_X4_need_25     : ∀ (n : Nat) (x1 x2 : Int) (σ : St), SW G l RX4 cX4_need 3 rm_X4_need wI 25 [some (.ref (ad G 0)), some (vi x1), some (vi x2)] [] σ (f_X4_need_25 n x1 x2 σ) := by
  intro n
  induction n with
  | zero => intro x1 x2 σ; exact sw_none
  | succ n ih =>
    intro x1 x2 σ
    rw [f_X4_need_25]
    refine sw_iload_n (pc' := 26) dX4_need_25 rfl rfl ?_
    refine sw_bipush (pc' := 28) dX4_need_26 rfl rfl ?_
    refine sw_icmp_gt (tgt := 58) (pc' := 31) dX4_need_28 (by decide) rfl (fun _ => ?_) (fun _ => ?_)
    · refine sw_bipush (pc' := 60) dX4_need_58 rfl rfl ?_
      exact sw_iret dX4_need_60
    · refine sw_aload_n (pc' := 32) dX4_need_31 rfl rfl ?_
      refine sw_getr (pc' := 35) dX4_need_32 fl_X4_16 (tbk_0) rfl rfl ?_
      refine sw_iload_n (pc' := 36) dX4_need_35 rfl rfl ?_
      refine sw_putI (pc' := 39) dX4_need_36 fp_X4_95 (tbk_11) rfl rfl (fun s36 => ?_)
      refine sw_aload_n (pc' := 40) dX4_need_39 rfl rfl ?_
      refine sw_getr (pc' := 43) dX4_need_40 fl_X4_16 (tbk_0) rfl rfl ?_
      refine sw_callVI (pc' := 46) (As := []) (rest := []) dX4_need_43 cv_X4_102 (tbk_11) (m_X2_standing 11 (isSq_11) s36) rfl rfl rfl rfl rfl (fun v43 s43 => ?_)
      refine sw_iload_n (pc' := 47) dX4_need_46 rfl rfl ?_
      refine sw_icmp_ne (tgt := 52) (pc' := 50) dX4_need_47 (by decide) rfl (fun _ => ?_) (fun _ => ?_)
      · refine sw_iload_n (pc' := 51) dX4_need_50 rfl rfl ?_
        exact sw_iret dX4_need_51
      · refine sw_iinc (pc' := 55) (x := x2) (L' := [some (.ref (ad G 0)), some (vi x1), some (vi (x2 + 1))]) dX4_need_52 rfl (by decide) rfl rfl rfl ?_
        refine sw_goto (pc' := 25) dX4_need_55 (by decide) ?_
        exact (ih) x1 (x2 + 1) s43
def f_X4_need  (σ : St) : Option (Int × St) :=
  bV (f_X2_copyFrom 11 1 σ) fun s8 => f_X4_need_25 FU ((isl 1 (s8 1 0)) - 1) 1 s8
set_option maxRecDepth 20000 in
theorem m_X4_need   (σ : St) : MT G l yX4_need cX4_need 3 (some .int) rm_X4_need [.ref (ad G 0)] wI σ (f_X4_need σ) := by
  refine mt_I (L := [some (.ref (ad G 0)), none, none]) rfl (Nat.le_of_ble_eq_true rfl) rfl ?_
  show SW G l RX4 cX4_need 3 rm_X4_need wI 0 [some (.ref (ad G 0)), none, none] [] σ (f_X4_need σ)
  unfold f_X4_need
  refine sw_aload_n (pc' := 1) dX4_need_0 rfl rfl ?_
  refine sw_getr (pc' := 4) dX4_need_1 fl_X4_16 (tbk_0) rfl rfl ?_
  refine sw_aload_n (pc' := 5) dX4_need_4 rfl rfl ?_
  refine sw_getr (pc' := 8) dX4_need_5 fl_X4_10 (tbk_0) rfl rfl ?_
  refine sw_callVV (pc' := 11) (As := [.ref (ad G 1)]) (rest := []) dX4_need_8 cv_X4_71 (tbk_11) (m_X2_copyFrom 11 1 (isSq_11) (isSq_1) σ) rfl rfl rfl rfl rfl (fun s8 => ?_)
  refine sw_iconst (pc' := 12) dX4_need_11 rfl ?_
  refine sw_aload_n (pc' := 13) dX4_need_12 rfl rfl ?_
  refine sw_getr (pc' := 16) dX4_need_13 fl_X4_10 (tbk_0) rfl rfl ?_
  refine sw_getn (pc' := 19) dX4_need_16 fl_X4_83 (tbk_1) rfl rfl ?_
  refine sw_ishl (pc' := 20) dX4_need_19 rfl ?_
  refine sw_iconst (pc' := 21) dX4_need_20 rfl ?_
  refine sw_isub (pc' := 22) dX4_need_21 rfl ?_
  refine sw_istore_n (pc' := 23) (x := ((isl 1 (s8 1 0)) - 1)) (L' := [some (.ref (ad G 0)), some (vi ((isl 1 (s8 1 0)) - 1)), none]) dX4_need_22 rfl (by decide) rfl rfl ?_
  refine sw_iconst (pc' := 24) dX4_need_23 rfl ?_
  refine sw_istore_n (pc' := 25) (x := 1) (L' := [some (.ref (ad G 0)), some (vi ((isl 1 (s8 1 0)) - 1)), some (vi 1)]) dX4_need_24 rfl (by decide) rfl rfl ?_
  exact s_X4_need_25 FU ((isl 1 (s8 1 0)) - 1) 1 s8
def rm_X4_liar : Room := { frames := 6, cells := 0, slots := 0, locals := 143 }
def f_X4_liar_94  (k43 : Int → Int → Int → Int → Int → St → Option (Int × St)) (x1 x2 x3 x4 x5 : Int) (σ : St) : Option (Int × St) :=
  k43 x1 x2 x3 x4 (x5 + 1) σ
set_option maxRecDepth 20000 in
theorem s_X4_liar_94   (k43 : Int → Int → Int → Int → Int → St → Option (Int × St)) (hk43 : ∀ (x1 x2 x3 x4 x5 : Int) (σ : St), SW G l RX4 cX4_liar 7 rm_X4_liar wI 43 [some (.ref (ad G 0)), some (vi x1), some (vi x2), some (vi x3), some (vi x4), some (vi x5), none] [] σ (k43 x1 x2 x3 x4 x5 σ)) (x1 x2 x3 x4 x5 : Int) (σ : St) : SW G l RX4 cX4_liar 7 rm_X4_liar wI 94 [some (.ref (ad G 0)), some (vi x1), some (vi x2), some (vi x3), some (vi x4), some (vi x5), none] [] σ (f_X4_liar_94 k43 x1 x2 x3 x4 x5 σ) := by
  unfold f_X4_liar_94
  refine sw_iinc (pc' := 97) (x := x5) (L' := [some (.ref (ad G 0)), some (vi x1), some (vi x2), some (vi x3), some (vi x4), some (vi (x5 + 1)), none]) dX4_liar_94 rfl (by decide) rfl rfl rfl ?_
  refine sw_goto (pc' := 43) dX4_liar_97 (by decide) ?_
  exact hk43 x1 x2 x3 x4 (x5 + 1) σ
def f_X4_liar_111   (x4 : Int) (σ : St) : Option (Int × St) :=
  some (x4, σ)
set_option maxRecDepth 20000 in
theorem s_X4_liar_111     (x4 : Int) (σ : St) : SW G l RX4 cX4_liar 7 rm_X4_liar wI 111 [none, none, none, none, some (vi x4), none, none] [] σ (f_X4_liar_111 x4 σ) := by
  unfold f_X4_liar_111
  refine sw_iload (pc' := 113) dX4_liar_111 rfl rfl ?_
  refine sw_goto (pc' := 117) dX4_liar_113 (by decide) ?_
  exact sw_iret dX4_liar_117
def f_X4_liar_43   : Nat → Int → Int → Int → Int → Int → St → Option (Int × St)
  | 0, _, _, _, _, _, _ => none
  | n + 1, x1, x2, x3, x4, x5, σ =>
    if wr x5 < wr 4 then
      bV (f_X2_copyFrom 11 1 σ) fun s57 => bV (sv s57 15 4 x5 0) fun s70 => bI (f_X2_passDays 11 x1 s70) fun v76 s76 => if wr v76 < wr x3 then
        f_X4_liar_94 (f_X4_liar_43 n) x1 x2 v76 x5 x5 s76
      else
        f_X4_liar_94 (f_X4_liar_43 n) x1 x2 x3 x4 x5 s76
    else
      if wr x2 = 0 then
        f_X4_liar_111 x4 σ
      else
        if wr x4 = wr (-4) then
          f_X4_liar_111 x4 σ
        else
          some (x3, σ)
set_option maxRecDepth 20000 in
theorem s_X4_liar_43     : ∀ (n : Nat) (x1 x2 x3 x4 x5 : Int) (σ : St), SW G l RX4 cX4_liar 7 rm_X4_liar wI 43 [some (.ref (ad G 0)), some (vi x1), some (vi x2), some (vi x3), some (vi x4), some (vi x5), none] [] σ (f_X4_liar_43 n x1 x2 x3 x4 x5 σ) := by
  intro n
  induction n with
  | zero => intro x1 x2 x3 x4 x5 σ; exact sw_none
  | succ n ih =>
    intro x1 x2 x3 x4 x5 σ
    rw [f_X4_liar_43]
    refine sw_iload (pc' := 45) dX4_liar_43 rfl rfl ?_
    refine sw_iconst (pc' := 46) dX4_liar_45 rfl ?_
    refine sw_icmp_ge (tgt := 100) (pc' := 49) dX4_liar_46 (by decide) rfl (fun _ => ?_) (fun _ => ?_)
    · refine sw_aload_n (pc' := 50) dX4_liar_49 rfl rfl ?_
      refine sw_getr (pc' := 53) dX4_liar_50 fl_X4_16 (tbk_0) rfl rfl ?_
      refine sw_aload_n (pc' := 54) dX4_liar_53 rfl rfl ?_
      refine sw_getr (pc' := 57) dX4_liar_54 fl_X4_10 (tbk_0) rfl rfl ?_
      refine sw_callVV (pc' := 60) (As := [.ref (ad G 1)]) (rest := []) dX4_liar_57 cv_X4_71 (tbk_11) (m_X2_copyFrom 11 1 (isSq_11) (isSq_1) σ) rfl rfl rfl rfl rfl (fun s57 => ?_)
      refine sw_aload_n (pc' := 61) dX4_liar_60 rfl rfl ?_
      refine sw_getr (pc' := 64) dX4_liar_61 fl_X4_16 (tbk_0) rfl rfl ?_
      refine sw_getr (pc' := 67) dX4_liar_64 fl_X4_145 (tbk_11) rfl rfl ?_
      refine sw_iload (pc' := 69) dX4_liar_67 rfl rfl ?_
      refine sw_iconst (pc' := 70) dX4_liar_69 rfl ?_
      refine sw_iast (pc' := 71) dX4_liar_70 (tbk_15) rfl (fun s70 => ?_)
      refine sw_aload_n (pc' := 72) dX4_liar_71 rfl rfl ?_
      refine sw_getr (pc' := 75) dX4_liar_72 fl_X4_16 (tbk_0) rfl rfl ?_
      refine sw_iload_n (pc' := 76) dX4_liar_75 rfl rfl ?_
      refine sw_callVI (pc' := 79) (As := [vi x1]) (rest := []) dX4_liar_76 cv_X4_169 (tbk_11) (m_X2_passDays 11 x1 (isSq_11) s70) rfl rfl rfl rfl rfl (fun v76 s76 => ?_)
      refine sw_istore (pc' := 81) (x := v76) (L' := [some (.ref (ad G 0)), some (vi x1), some (vi x2), some (vi x3), some (vi x4), some (vi x5), some (vi v76)]) dX4_liar_79 rfl (by decide) rfl rfl ?_
      refine sw_iload (pc' := 83) dX4_liar_81 rfl rfl ?_
      refine sw_iload_n (pc' := 84) dX4_liar_83 rfl rfl ?_
      refine sw_icmp_ge (tgt := 94) (pc' := 87) dX4_liar_84 (by decide) rfl (fun _ => ?_) (fun _ => ?_)
      · refine sw_iload (pc' := 89) dX4_liar_87 rfl rfl ?_
        refine sw_istore_n (pc' := 90) (x := v76) (L' := [some (.ref (ad G 0)), some (vi x1), some (vi x2), some (vi v76), some (vi x4), some (vi x5), some (vi v76)]) dX4_liar_89 rfl (by decide) rfl rfl ?_
        refine sw_iload (pc' := 92) dX4_liar_90 rfl rfl ?_
        refine sw_istore (pc' := 94) (x := x5) (L' := [some (.ref (ad G 0)), some (vi x1), some (vi x2), some (vi v76), some (vi x5), some (vi x5), some (vi v76)]) dX4_liar_92 rfl (by decide) rfl rfl ?_
        refine sw_msk [true, true, true, true, true, true, false] rfl ?_
        exact s_X4_liar_94 (f_X4_liar_43 n) (ih) x1 x2 v76 x5 x5 s76
      · refine sw_msk [true, true, true, true, true, true, false] rfl ?_
        exact s_X4_liar_94 (f_X4_liar_43 n) (ih) x1 x2 x3 x4 x5 s76
    · refine sw_iload_n (pc' := 101) dX4_liar_100 rfl rfl ?_
      refine sw_if_eq (tgt := 111) (pc' := 104) dX4_liar_101 (by decide) rfl (fun _ => ?_) (fun _ => ?_)
      · refine sw_msk [false, false, false, false, true, false, false] rfl ?_
        exact s_X4_liar_111 x4 σ
      · refine sw_iload (pc' := 106) dX4_liar_104 rfl rfl ?_
        refine sw_bipush (pc' := 108) dX4_liar_106 rfl rfl ?_
        refine sw_icmp_ne (tgt := 116) (pc' := 111) dX4_liar_108 (by decide) rfl (fun _ => ?_) (fun _ => ?_)
        · refine sw_msk [false, false, false, false, true, false, false] rfl ?_
          exact s_X4_liar_111 x4 σ
        · refine sw_iload_n (pc' := 117) dX4_liar_116 rfl rfl ?_
          exact sw_iret dX4_liar_117
def f_X4_liar (x1 : Int) (x2 : Int) (σ : St) : Option (Int × St) :=
  bI (f_X4_isRunAhead x1 σ) fun v1 s1 => if v1 then
    bI (f_X4_isChoice x2 s1) fun v8 s8 => if v8 then
      bV (f_X2_copyFrom 11 1 s8) fun s24 => bI (f_X2_passDays 11 x1 s24) fun v32 s32 => f_X4_liar_43 FU x1 x2 v32 (-4) 0 s32
    else
      some ((-1), s8)
  else
    some ((-1), s1)
set_option maxRecDepth 20000 in
theorem m_X4_liar (x1 : Int) (x2 : Int)  (σ : St) : MT G l yX4_liar cX4_liar 7 (some .int) rm_X4_liar [.ref (ad G 0), vi x1, vi x2] wI σ (f_X4_liar x1 x2 σ) := by
  refine mt_I (L := [some (.ref (ad G 0)), some (vi x1), some (vi x2), none, none, none, none]) rfl (Nat.le_of_ble_eq_true rfl) rfl ?_
  show SW G l RX4 cX4_liar 7 rm_X4_liar wI 0 [some (.ref (ad G 0)), some (vi x1), some (vi x2), none, none, none, none] [] σ (f_X4_liar x1 x2 σ)
  unfold f_X4_liar
  refine sw_iload_n (pc' := 1) dX4_liar_0 rfl rfl ?_
  refine sw_callSB (pc' := 4) (As := [vi x1]) (rest := []) dX4_liar_1 cs_X4_172 (m_X4_isRunAhead x1 σ) rfl rfl rfl rfl rfl (fun v1 s1 => ?_)
  refine sw_bif_eq (tgt := 14) (pc' := 7) dX4_liar_4 (by decide) rfl (fun _ => ?_) (fun _ => ?_)
  · refine sw_iload_n (pc' := 8) dX4_liar_7 rfl rfl ?_
    refine sw_callSB (pc' := 11) (As := [vi x2]) (rest := []) dX4_liar_8 cs_X4_178 (m_X4_isChoice x2 s1) rfl rfl rfl rfl rfl (fun v8 s8 => ?_)
    refine sw_bif_ne (tgt := 16) (pc' := 14) dX4_liar_11 (by decide) rfl (fun _ => ?_) (fun _ => ?_)
    · refine sw_aload_n (pc' := 17) dX4_liar_16 rfl rfl ?_
      refine sw_getr (pc' := 20) dX4_liar_17 fl_X4_16 (tbk_0) rfl rfl ?_
      refine sw_aload_n (pc' := 21) dX4_liar_20 rfl rfl ?_
      refine sw_getr (pc' := 24) dX4_liar_21 fl_X4_10 (tbk_0) rfl rfl ?_
      refine sw_callVV (pc' := 27) (As := [.ref (ad G 1)]) (rest := []) dX4_liar_24 cv_X4_71 (tbk_11) (m_X2_copyFrom 11 1 (isSq_11) (isSq_1) s8) rfl rfl rfl rfl rfl (fun s24 => ?_)
      refine sw_aload_n (pc' := 28) dX4_liar_27 rfl rfl ?_
      refine sw_getr (pc' := 31) dX4_liar_28 fl_X4_16 (tbk_0) rfl rfl ?_
      refine sw_iload_n (pc' := 32) dX4_liar_31 rfl rfl ?_
      refine sw_callVI (pc' := 35) (As := [vi x1]) (rest := []) dX4_liar_32 cv_X4_169 (tbk_11) (m_X2_passDays 11 x1 (isSq_11) s24) rfl rfl rfl rfl rfl (fun v32 s32 => ?_)
      refine sw_istore_n (pc' := 36) (x := v32) (L' := [some (.ref (ad G 0)), some (vi x1), some (vi x2), some (vi v32), none, none, none]) dX4_liar_35 rfl (by decide) rfl rfl ?_
      refine sw_bipush (pc' := 38) dX4_liar_36 rfl rfl ?_
      refine sw_istore (pc' := 40) (x := (-4)) (L' := [some (.ref (ad G 0)), some (vi x1), some (vi x2), some (vi v32), some (vi (-4)), none, none]) dX4_liar_38 rfl (by decide) rfl rfl ?_
      refine sw_iconst (pc' := 41) dX4_liar_40 rfl ?_
      refine sw_istore (pc' := 43) (x := 0) (L' := [some (.ref (ad G 0)), some (vi x1), some (vi x2), some (vi v32), some (vi (-4)), some (vi 0), none]) dX4_liar_41 rfl (by decide) rfl rfl ?_
      exact s_X4_liar_43 FU x1 x2 v32 (-4) 0 s32
    · refine sw_iconst (pc' := 15) dX4_liar_14 rfl ?_
      exact sw_iret dX4_liar_15
  · refine sw_iconst (pc' := 15) dX4_liar_14 rfl ?_
    exact sw_iret dX4_liar_15
def rm_X4_agreeingBehind : Room := { frames := 6, cells := 0, slots := 0, locals := 143 }
def f_X4_agreeingBehind (x1 : Int) (σ : St) : Option (Int × St) :=
  bI (f_X2_passDays 11 x1 σ) fun v5 s5 => bI (f_X2_agreeing 11 s5) fun v13 s13 => bI (f_J6_bitCount_0f7a4 v13 s13) fun v16 s16 => some (v16, s16)
set_option maxRecDepth 20000 in
theorem m_X4_agreeingBehind (x1 : Int)  (σ : St) : MT G l yX4_agreeingBehind cX4_agreeingBehind 2 (some .int) rm_X4_agreeingBehind [.ref (ad G 0), vi x1] wI σ (f_X4_agreeingBehind x1 σ) := by
  refine mt_I (L := [some (.ref (ad G 0)), some (vi x1)]) rfl (Nat.le_of_ble_eq_true rfl) rfl ?_
  show SW G l RX4 cX4_agreeingBehind 2 rm_X4_agreeingBehind wI 0 [some (.ref (ad G 0)), some (vi x1)] [] σ (f_X4_agreeingBehind x1 σ)
  unfold f_X4_agreeingBehind
  refine sw_aload_n (pc' := 1) dX4_agreeingBehind_0 rfl rfl ?_
  refine sw_getr (pc' := 4) dX4_agreeingBehind_1 fl_X4_16 (tbk_0) rfl rfl ?_
  refine sw_iload_n (pc' := 5) dX4_agreeingBehind_4 rfl rfl ?_
  refine sw_callVI (pc' := 8) (As := [vi x1]) (rest := []) dX4_agreeingBehind_5 cv_X4_169 (tbk_11) (m_X2_passDays 11 x1 (isSq_11) σ) rfl rfl rfl rfl rfl (fun v5 s5 => ?_)
  refine sw_pop (pc' := 9) dX4_agreeingBehind_8 rfl rfl ?_
  refine sw_aload_n (pc' := 10) dX4_agreeingBehind_9 rfl rfl ?_
  refine sw_getr (pc' := 13) dX4_agreeingBehind_10 fl_X4_16 (tbk_0) rfl rfl ?_
  refine sw_callVI (pc' := 16) (As := []) (rest := []) dX4_agreeingBehind_13 cv_X4_98 (tbk_11) (m_X2_agreeing 11 (isSq_11) s5) rfl rfl rfl rfl rfl (fun v13 s13 => ?_)
  refine sw_callSI (pc' := 19) (As := [vi v13]) (rest := []) dX4_agreeingBehind_16 cs_X4_216 (m_J6_bitCount_0f7a4 v13 s13) rfl rfl rfl rfl rfl (fun v16 s16 => ?_)
  exact sw_iret dX4_agreeingBehind_19
def rm_X4_lose : Room := { frames := 7, cells := 0, slots := 0, locals := 164 }
def f_X4_lose_94  (k40 : Int → Int → Int → Int → Int → St → Option (Int × St)) (x1 x2 x3 x4 x5 : Int) (σ : St) : Option (Int × St) :=
  k40 x1 x2 x3 x4 (x5 + 1) σ
set_option maxRecDepth 20000 in
theorem s_X4_lose_94   (k40 : Int → Int → Int → Int → Int → St → Option (Int × St)) (hk40 : ∀ (x1 x2 x3 x4 x5 : Int) (σ : St), SW G l RX4 cX4_lose 7 rm_X4_lose wI 40 [some (.ref (ad G 0)), some (vi x1), some (vi x2), some (vi x3), some (vi x4), some (vi x5), none] [] σ (k40 x1 x2 x3 x4 x5 σ)) (x1 x2 x3 x4 x5 : Int) (σ : St) : SW G l RX4 cX4_lose 7 rm_X4_lose wI 94 [some (.ref (ad G 0)), some (vi x1), some (vi x2), some (vi x3), some (vi x4), some (vi x5), none] [] σ (f_X4_lose_94 k40 x1 x2 x3 x4 x5 σ) := by
  unfold f_X4_lose_94
  refine sw_iinc (pc' := 97) (x := x5) (L' := [some (.ref (ad G 0)), some (vi x1), some (vi x2), some (vi x3), some (vi x4), some (vi (x5 + 1)), none]) dX4_lose_94 rfl (by decide) rfl rfl rfl ?_
  refine sw_goto (pc' := 40) dX4_lose_97 (by decide) ?_
  exact hk40 x1 x2 x3 x4 (x5 + 1) σ
def f_X4_lose_111   (x4 : Int) (σ : St) : Option (Int × St) :=
  some (x4, σ)
set_option maxRecDepth 20000 in
theorem s_X4_lose_111     (x4 : Int) (σ : St) : SW G l RX4 cX4_lose 7 rm_X4_lose wI 111 [none, none, none, none, some (vi x4), none, none] [] σ (f_X4_lose_111 x4 σ) := by
  unfold f_X4_lose_111
  refine sw_iload (pc' := 113) dX4_lose_111 rfl rfl ?_
  refine sw_goto (pc' := 117) dX4_lose_113 (by decide) ?_
  exact sw_iret dX4_lose_117
def f_X4_lose_40   : Nat → Int → Int → Int → Int → Int → St → Option (Int × St)
  | 0, _, _, _, _, _, _ => none
  | n + 1, x1, x2, x3, x4, x5, σ =>
    if wr x5 < wr (σ 1 6) then
      bV (f_X2_copyFrom 11 1 σ) fun s60 => bV (pf s60 11 11 (isl 1 x5)) fun s71 => bI (f_X4_agreeingBehind x1 s71) fun v76 s76 => if wr x3 < wr v76 then
        f_X4_lose_94 (f_X4_lose_40 n) x1 x2 v76 x5 x5 s76
      else
        f_X4_lose_94 (f_X4_lose_40 n) x1 x2 x3 x4 x5 s76
    else
      if wr x2 = 0 then
        f_X4_lose_111 x4 σ
      else
        if wr x4 = wr (-4) then
          f_X4_lose_111 x4 σ
        else
          some (x3, σ)
set_option maxRecDepth 20000 in
theorem s_X4_lose_40     : ∀ (n : Nat) (x1 x2 x3 x4 x5 : Int) (σ : St), SW G l RX4 cX4_lose 7 rm_X4_lose wI 40 [some (.ref (ad G 0)), some (vi x1), some (vi x2), some (vi x3), some (vi x4), some (vi x5), none] [] σ (f_X4_lose_40 n x1 x2 x3 x4 x5 σ) := by
  intro n
  induction n with
  | zero => intro x1 x2 x3 x4 x5 σ; exact sw_none
  | succ n ih =>
    intro x1 x2 x3 x4 x5 σ
    rw [f_X4_lose_40]
    refine sw_iload (pc' := 42) dX4_lose_40 rfl rfl ?_
    refine sw_aload_n (pc' := 43) dX4_lose_42 rfl rfl ?_
    refine sw_getr (pc' := 46) dX4_lose_43 fl_X4_10 (tbk_0) rfl rfl ?_
    refine sw_getn (pc' := 49) dX4_lose_46 fl_X4_86 (tbk_1) rfl rfl ?_
    refine sw_icmp_ge (tgt := 100) (pc' := 52) dX4_lose_49 (by decide) rfl (fun _ => ?_) (fun _ => ?_)
    · refine sw_aload_n (pc' := 53) dX4_lose_52 rfl rfl ?_
      refine sw_getr (pc' := 56) dX4_lose_53 fl_X4_16 (tbk_0) rfl rfl ?_
      refine sw_aload_n (pc' := 57) dX4_lose_56 rfl rfl ?_
      refine sw_getr (pc' := 60) dX4_lose_57 fl_X4_10 (tbk_0) rfl rfl ?_
      refine sw_callVV (pc' := 63) (As := [.ref (ad G 1)]) (rest := []) dX4_lose_60 cv_X4_71 (tbk_11) (m_X2_copyFrom 11 1 (isSq_11) (isSq_1) σ) rfl rfl rfl rfl rfl (fun s60 => ?_)
      refine sw_aload_n (pc' := 64) dX4_lose_63 rfl rfl ?_
      refine sw_getr (pc' := 67) dX4_lose_64 fl_X4_16 (tbk_0) rfl rfl ?_
      refine sw_iconst (pc' := 68) dX4_lose_67 rfl ?_
      refine sw_iload (pc' := 70) dX4_lose_68 rfl rfl ?_
      refine sw_ishl (pc' := 71) dX4_lose_70 rfl ?_
      refine sw_putI (pc' := 74) dX4_lose_71 fp_X4_201 (tbk_11) rfl rfl (fun s71 => ?_)
      refine sw_aload_n (pc' := 75) dX4_lose_74 rfl rfl ?_
      refine sw_iload_n (pc' := 76) dX4_lose_75 rfl rfl ?_
      refine sw_callVI (pc' := 79) (As := [vi x1]) (rest := []) dX4_lose_76 cv_X4_198 (tbk_0) (m_X4_agreeingBehind x1 s71) rfl rfl rfl rfl rfl (fun v76 s76 => ?_)
      refine sw_istore (pc' := 81) (x := v76) (L' := [some (.ref (ad G 0)), some (vi x1), some (vi x2), some (vi x3), some (vi x4), some (vi x5), some (vi v76)]) dX4_lose_79 rfl (by decide) rfl rfl ?_
      refine sw_iload (pc' := 83) dX4_lose_81 rfl rfl ?_
      refine sw_iload_n (pc' := 84) dX4_lose_83 rfl rfl ?_
      refine sw_icmp_le (tgt := 94) (pc' := 87) dX4_lose_84 (by decide) rfl (fun _ => ?_) (fun _ => ?_)
      · refine sw_iload (pc' := 89) dX4_lose_87 rfl rfl ?_
        refine sw_istore_n (pc' := 90) (x := v76) (L' := [some (.ref (ad G 0)), some (vi x1), some (vi x2), some (vi v76), some (vi x4), some (vi x5), some (vi v76)]) dX4_lose_89 rfl (by decide) rfl rfl ?_
        refine sw_iload (pc' := 92) dX4_lose_90 rfl rfl ?_
        refine sw_istore (pc' := 94) (x := x5) (L' := [some (.ref (ad G 0)), some (vi x1), some (vi x2), some (vi v76), some (vi x5), some (vi x5), some (vi v76)]) dX4_lose_92 rfl (by decide) rfl rfl ?_
        refine sw_msk [true, true, true, true, true, true, false] rfl ?_
        exact s_X4_lose_94 (f_X4_lose_40 n) (ih) x1 x2 v76 x5 x5 s76
      · refine sw_msk [true, true, true, true, true, true, false] rfl ?_
        exact s_X4_lose_94 (f_X4_lose_40 n) (ih) x1 x2 x3 x4 x5 s76
    · refine sw_iload_n (pc' := 101) dX4_lose_100 rfl rfl ?_
      refine sw_if_eq (tgt := 111) (pc' := 104) dX4_lose_101 (by decide) rfl (fun _ => ?_) (fun _ => ?_)
      · refine sw_msk [false, false, false, false, true, false, false] rfl ?_
        exact s_X4_lose_111 x4 σ
      · refine sw_iload (pc' := 106) dX4_lose_104 rfl rfl ?_
        refine sw_bipush (pc' := 108) dX4_lose_106 rfl rfl ?_
        refine sw_icmp_ne (tgt := 116) (pc' := 111) dX4_lose_108 (by decide) rfl (fun _ => ?_) (fun _ => ?_)
        · refine sw_msk [false, false, false, false, true, false, false] rfl ?_
          exact s_X4_lose_111 x4 σ
        · refine sw_iload_n (pc' := 117) dX4_lose_116 rfl rfl ?_
          exact sw_iret dX4_lose_117
def f_X4_lose (x1 : Int) (x2 : Int) (σ : St) : Option (Int × St) :=
  bI (f_X4_isRunAhead x1 σ) fun v1 s1 => if v1 then
    bI (f_X4_isChoice x2 s1) fun v8 s8 => if v8 then
      bV (f_X2_copyFrom 11 1 s8) fun s24 => bI (f_X4_agreeingBehind x1 s24) fun v29 s29 => f_X4_lose_40 FU x1 x2 v29 (-4) 0 s29
    else
      some ((-1), s8)
  else
    some ((-1), s1)
set_option maxRecDepth 20000 in
theorem m_X4_lose (x1 : Int) (x2 : Int)  (σ : St) : MT G l yX4_lose cX4_lose 7 (some .int) rm_X4_lose [.ref (ad G 0), vi x1, vi x2] wI σ (f_X4_lose x1 x2 σ) := by
  refine mt_I (L := [some (.ref (ad G 0)), some (vi x1), some (vi x2), none, none, none, none]) rfl (Nat.le_of_ble_eq_true rfl) rfl ?_
  show SW G l RX4 cX4_lose 7 rm_X4_lose wI 0 [some (.ref (ad G 0)), some (vi x1), some (vi x2), none, none, none, none] [] σ (f_X4_lose x1 x2 σ)
  unfold f_X4_lose
  refine sw_iload_n (pc' := 1) dX4_lose_0 rfl rfl ?_
  refine sw_callSB (pc' := 4) (As := [vi x1]) (rest := []) dX4_lose_1 cs_X4_172 (m_X4_isRunAhead x1 σ) rfl rfl rfl rfl rfl (fun v1 s1 => ?_)
  refine sw_bif_eq (tgt := 14) (pc' := 7) dX4_lose_4 (by decide) rfl (fun _ => ?_) (fun _ => ?_)
  · refine sw_iload_n (pc' := 8) dX4_lose_7 rfl rfl ?_
    refine sw_callSB (pc' := 11) (As := [vi x2]) (rest := []) dX4_lose_8 cs_X4_178 (m_X4_isChoice x2 s1) rfl rfl rfl rfl rfl (fun v8 s8 => ?_)
    refine sw_bif_ne (tgt := 16) (pc' := 14) dX4_lose_11 (by decide) rfl (fun _ => ?_) (fun _ => ?_)
    · refine sw_aload_n (pc' := 17) dX4_lose_16 rfl rfl ?_
      refine sw_getr (pc' := 20) dX4_lose_17 fl_X4_16 (tbk_0) rfl rfl ?_
      refine sw_aload_n (pc' := 21) dX4_lose_20 rfl rfl ?_
      refine sw_getr (pc' := 24) dX4_lose_21 fl_X4_10 (tbk_0) rfl rfl ?_
      refine sw_callVV (pc' := 27) (As := [.ref (ad G 1)]) (rest := []) dX4_lose_24 cv_X4_71 (tbk_11) (m_X2_copyFrom 11 1 (isSq_11) (isSq_1) s8) rfl rfl rfl rfl rfl (fun s24 => ?_)
      refine sw_aload_n (pc' := 28) dX4_lose_27 rfl rfl ?_
      refine sw_iload_n (pc' := 29) dX4_lose_28 rfl rfl ?_
      refine sw_callVI (pc' := 32) (As := [vi x1]) (rest := []) dX4_lose_29 cv_X4_198 (tbk_0) (m_X4_agreeingBehind x1 s24) rfl rfl rfl rfl rfl (fun v29 s29 => ?_)
      refine sw_istore_n (pc' := 33) (x := v29) (L' := [some (.ref (ad G 0)), some (vi x1), some (vi x2), some (vi v29), none, none, none]) dX4_lose_32 rfl (by decide) rfl rfl ?_
      refine sw_bipush (pc' := 35) dX4_lose_33 rfl rfl ?_
      refine sw_istore (pc' := 37) (x := (-4)) (L' := [some (.ref (ad G 0)), some (vi x1), some (vi x2), some (vi v29), some (vi (-4)), none, none]) dX4_lose_35 rfl (by decide) rfl rfl ?_
      refine sw_iconst (pc' := 38) dX4_lose_37 rfl ?_
      refine sw_istore (pc' := 40) (x := 0) (L' := [some (.ref (ad G 0)), some (vi x1), some (vi x2), some (vi v29), some (vi (-4)), some (vi 0), none]) dX4_lose_38 rfl (by decide) rfl rfl ?_
      exact s_X4_lose_40 FU x1 x2 v29 (-4) 0 s29
    · refine sw_iconst (pc' := 15) dX4_lose_14 rfl ?_
      exact sw_iret dX4_lose_15
  · refine sw_iconst (pc' := 15) dX4_lose_14 rfl ?_
    exact sw_iret dX4_lose_15
def rm_X4_swap : Room := { frames := 7, cells := 0, slots := 0, locals := 164 }
def f_X4_swap_147  (k40 : Int → Int → Int → Int → Int → St → Option (Int × St)) (k58 : Int → Int → Int → Int → Int → Int → St → Option (Int × St)) (x1 x2 x3 x4 x5 x6 : Int) (σ : St) : Option (Int × St) :=
  k58 x1 x2 x3 x4 x5 (x6 + 1) σ
set_option maxRecDepth 20000 in
theorem s_X4_swap_147   (k40 : Int → Int → Int → Int → Int → St → Option (Int × St)) (k58 : Int → Int → Int → Int → Int → Int → St → Option (Int × St)) (hk40 : ∀ (x1 x2 x3 x4 x5 : Int) (σ : St), SW G l RX4 cX4_swap 8 rm_X4_swap wI 40 [some (.ref (ad G 0)), some (vi x1), some (vi x2), some (vi x3), some (vi x4), some (vi x5), none, none] [] σ (k40 x1 x2 x3 x4 x5 σ)) (hk58 : ∀ (x1 x2 x3 x4 x5 x6 : Int) (σ : St), SW G l RX4 cX4_swap 8 rm_X4_swap wI 58 [some (.ref (ad G 0)), some (vi x1), some (vi x2), some (vi x3), some (vi x4), some (vi x5), some (vi x6), none] [] σ (k58 x1 x2 x3 x4 x5 x6 σ)) (x1 x2 x3 x4 x5 x6 : Int) (σ : St) : SW G l RX4 cX4_swap 8 rm_X4_swap wI 147 [some (.ref (ad G 0)), some (vi x1), some (vi x2), some (vi x3), some (vi x4), some (vi x5), some (vi x6), none] [] σ (f_X4_swap_147 k40 k58 x1 x2 x3 x4 x5 x6 σ) := by
  unfold f_X4_swap_147
  refine sw_iinc (pc' := 150) (x := x6) (L' := [some (.ref (ad G 0)), some (vi x1), some (vi x2), some (vi x3), some (vi x4), some (vi x5), some (vi (x6 + 1)), none]) dX4_swap_147 rfl (by decide) rfl rfl rfl ?_
  refine sw_goto (pc' := 58) dX4_swap_150 (by decide) ?_
  exact hk58 x1 x2 x3 x4 x5 (x6 + 1) σ
def f_X4_swap_58  (k40 : Int → Int → Int → Int → Int → St → Option (Int × St)) : Nat → Int → Int → Int → Int → Int → Int → St → Option (Int × St)
  | 0, _, _, _, _, _, _, _ => none
  | n + 1, x1, x2, x3, x4, x5, x6, σ =>
    if wr x6 < wr (σ 1 6) then
      bV (f_X2_copyFrom 11 1 σ) fun s78 => bV (ld s78 8 8 x6) fun v99 => bV (sv s78 18 8 x5 v99) fun s100 => bV (ld s100 8 8 x5) fun v119 => bV (sv s100 18 8 x6 v119) fun s120 => bI (f_X4_agreeingBehind x1 s120) fun v123 s123 => if wr x3 < wr v123 then
        f_X4_swap_147 k40 (f_X4_swap_58 k40 n) x1 x2 v123 ((10 * x5) + x6) x5 x6 s123
      else
        f_X4_swap_147 k40 (f_X4_swap_58 k40 n) x1 x2 x3 x4 x5 x6 s123
    else
      k40 x1 x2 x3 x4 (x5 + 1) σ
set_option maxRecDepth 20000 in
theorem s_X4_swap_58   (k40 : Int → Int → Int → Int → Int → St → Option (Int × St)) (hk40 : ∀ (x1 x2 x3 x4 x5 : Int) (σ : St), SW G l RX4 cX4_swap 8 rm_X4_swap wI 40 [some (.ref (ad G 0)), some (vi x1), some (vi x2), some (vi x3), some (vi x4), some (vi x5), none, none] [] σ (k40 x1 x2 x3 x4 x5 σ)) : ∀ (n : Nat) (x1 x2 x3 x4 x5 x6 : Int) (σ : St), SW G l RX4 cX4_swap 8 rm_X4_swap wI 58 [some (.ref (ad G 0)), some (vi x1), some (vi x2), some (vi x3), some (vi x4), some (vi x5), some (vi x6), none] [] σ (f_X4_swap_58 k40 n x1 x2 x3 x4 x5 x6 σ) := by
  intro n
  induction n with
  | zero => intro x1 x2 x3 x4 x5 x6 σ; exact sw_none
  | succ n ih =>
    intro x1 x2 x3 x4 x5 x6 σ
    rw [f_X4_swap_58]
    refine sw_iload (pc' := 60) dX4_swap_58 rfl rfl ?_
    refine sw_aload_n (pc' := 61) dX4_swap_60 rfl rfl ?_
    refine sw_getr (pc' := 64) dX4_swap_61 fl_X4_10 (tbk_0) rfl rfl ?_
    refine sw_getn (pc' := 67) dX4_swap_64 fl_X4_86 (tbk_1) rfl rfl ?_
    refine sw_icmp_ge (tgt := 153) (pc' := 70) dX4_swap_67 (by decide) rfl (fun _ => ?_) (fun _ => ?_)
    · refine sw_aload_n (pc' := 71) dX4_swap_70 rfl rfl ?_
      refine sw_getr (pc' := 74) dX4_swap_71 fl_X4_16 (tbk_0) rfl rfl ?_
      refine sw_aload_n (pc' := 75) dX4_swap_74 rfl rfl ?_
      refine sw_getr (pc' := 78) dX4_swap_75 fl_X4_10 (tbk_0) rfl rfl ?_
      refine sw_callVV (pc' := 81) (As := [.ref (ad G 1)]) (rest := []) dX4_swap_78 cv_X4_71 (tbk_11) (m_X2_copyFrom 11 1 (isSq_11) (isSq_1) σ) rfl rfl rfl rfl rfl (fun s78 => ?_)
      refine sw_aload_n (pc' := 82) dX4_swap_81 rfl rfl ?_
      refine sw_getr (pc' := 85) dX4_swap_82 fl_X4_16 (tbk_0) rfl rfl ?_
      refine sw_getr (pc' := 88) dX4_swap_85 fl_X4_136 (tbk_11) rfl rfl ?_
      refine sw_iload (pc' := 90) dX4_swap_88 rfl rfl ?_
      refine sw_aload_n (pc' := 91) dX4_swap_90 rfl rfl ?_
      refine sw_getr (pc' := 94) dX4_swap_91 fl_X4_10 (tbk_0) rfl rfl ?_
      refine sw_getr (pc' := 97) dX4_swap_94 fl_X4_136 (tbk_1) rfl rfl ?_
      refine sw_iload (pc' := 99) dX4_swap_97 rfl rfl ?_
      refine sw_iald (pc' := 100) dX4_swap_99 (tbk_8) rfl (fun v99 => ?_)
      refine sw_iast (pc' := 101) dX4_swap_100 (tbk_18) rfl (fun s100 => ?_)
      refine sw_aload_n (pc' := 102) dX4_swap_101 rfl rfl ?_
      refine sw_getr (pc' := 105) dX4_swap_102 fl_X4_16 (tbk_0) rfl rfl ?_
      refine sw_getr (pc' := 108) dX4_swap_105 fl_X4_136 (tbk_11) rfl rfl ?_
      refine sw_iload (pc' := 110) dX4_swap_108 rfl rfl ?_
      refine sw_aload_n (pc' := 111) dX4_swap_110 rfl rfl ?_
      refine sw_getr (pc' := 114) dX4_swap_111 fl_X4_10 (tbk_0) rfl rfl ?_
      refine sw_getr (pc' := 117) dX4_swap_114 fl_X4_136 (tbk_1) rfl rfl ?_
      refine sw_iload (pc' := 119) dX4_swap_117 rfl rfl ?_
      refine sw_iald (pc' := 120) dX4_swap_119 (tbk_8) rfl (fun v119 => ?_)
      refine sw_iast (pc' := 121) dX4_swap_120 (tbk_18) rfl (fun s120 => ?_)
      refine sw_aload_n (pc' := 122) dX4_swap_121 rfl rfl ?_
      refine sw_iload_n (pc' := 123) dX4_swap_122 rfl rfl ?_
      refine sw_callVI (pc' := 126) (As := [vi x1]) (rest := []) dX4_swap_123 cv_X4_198 (tbk_0) (m_X4_agreeingBehind x1 s120) rfl rfl rfl rfl rfl (fun v123 s123 => ?_)
      refine sw_istore (pc' := 128) (x := v123) (L' := [some (.ref (ad G 0)), some (vi x1), some (vi x2), some (vi x3), some (vi x4), some (vi x5), some (vi x6), some (vi v123)]) dX4_swap_126 rfl (by decide) rfl rfl ?_
      refine sw_iload (pc' := 130) dX4_swap_128 rfl rfl ?_
      refine sw_iload_n (pc' := 131) dX4_swap_130 rfl rfl ?_
      refine sw_icmp_le (tgt := 147) (pc' := 134) dX4_swap_131 (by decide) rfl (fun _ => ?_) (fun _ => ?_)
      · refine sw_iload (pc' := 136) dX4_swap_134 rfl rfl ?_
        refine sw_istore_n (pc' := 137) (x := v123) (L' := [some (.ref (ad G 0)), some (vi x1), some (vi x2), some (vi v123), some (vi x4), some (vi x5), some (vi x6), some (vi v123)]) dX4_swap_136 rfl (by decide) rfl rfl ?_
        refine sw_bipush (pc' := 139) dX4_swap_137 rfl rfl ?_
        refine sw_iload (pc' := 141) dX4_swap_139 rfl rfl ?_
        refine sw_imul (pc' := 142) dX4_swap_141 rfl ?_
        refine sw_iload (pc' := 144) dX4_swap_142 rfl rfl ?_
        refine sw_iadd (pc' := 145) dX4_swap_144 rfl ?_
        refine sw_istore (pc' := 147) (x := ((10 * x5) + x6)) (L' := [some (.ref (ad G 0)), some (vi x1), some (vi x2), some (vi v123), some (vi ((10 * x5) + x6)), some (vi x5), some (vi x6), some (vi v123)]) dX4_swap_145 rfl (by decide) rfl rfl ?_
        refine sw_msk [true, true, true, true, true, true, true, false] rfl ?_
        exact s_X4_swap_147 k40 (f_X4_swap_58 k40 n) hk40 (ih) x1 x2 v123 ((10 * x5) + x6) x5 x6 s123
      · refine sw_msk [true, true, true, true, true, true, true, false] rfl ?_
        exact s_X4_swap_147 k40 (f_X4_swap_58 k40 n) hk40 (ih) x1 x2 x3 x4 x5 x6 s123
    · refine sw_iinc (pc' := 156) (x := x5) (L' := [some (.ref (ad G 0)), some (vi x1), some (vi x2), some (vi x3), some (vi x4), some (vi (x5 + 1)), some (vi x6), none]) dX4_swap_153 rfl (by decide) rfl rfl rfl ?_
      refine sw_goto (pc' := 40) dX4_swap_156 (by decide) ?_
      refine sw_msk [true, true, true, true, true, true, false, false] rfl ?_
      exact hk40 x1 x2 x3 x4 (x5 + 1) σ
def f_X4_swap_170   (x4 : Int) (σ : St) : Option (Int × St) :=
  some (x4, σ)
set_option maxRecDepth 20000 in
theorem s_X4_swap_170     (x4 : Int) (σ : St) : SW G l RX4 cX4_swap 8 rm_X4_swap wI 170 [none, none, none, none, some (vi x4), none, none, none] [] σ (f_X4_swap_170 x4 σ) := by
  unfold f_X4_swap_170
  refine sw_iload (pc' := 172) dX4_swap_170 rfl rfl ?_
  refine sw_goto (pc' := 176) dX4_swap_172 (by decide) ?_
  exact sw_iret dX4_swap_176
def f_X4_swap_40   : Nat → Int → Int → Int → Int → Int → St → Option (Int × St)
  | 0, _, _, _, _, _, _ => none
  | n + 1, x1, x2, x3, x4, x5, σ =>
    if wr x5 < wr (σ 1 6) then
      f_X4_swap_58 (f_X4_swap_40 n) FU x1 x2 x3 x4 x5 (x5 + 1) σ
    else
      if wr x2 = 0 then
        f_X4_swap_170 x4 σ
      else
        if wr x4 = wr (-4) then
          f_X4_swap_170 x4 σ
        else
          some (x3, σ)
set_option maxRecDepth 20000 in
theorem s_X4_swap_40     : ∀ (n : Nat) (x1 x2 x3 x4 x5 : Int) (σ : St), SW G l RX4 cX4_swap 8 rm_X4_swap wI 40 [some (.ref (ad G 0)), some (vi x1), some (vi x2), some (vi x3), some (vi x4), some (vi x5), none, none] [] σ (f_X4_swap_40 n x1 x2 x3 x4 x5 σ) := by
  intro n
  induction n with
  | zero => intro x1 x2 x3 x4 x5 σ; exact sw_none
  | succ n ih =>
    intro x1 x2 x3 x4 x5 σ
    rw [f_X4_swap_40]
    refine sw_iload (pc' := 42) dX4_swap_40 rfl rfl ?_
    refine sw_aload_n (pc' := 43) dX4_swap_42 rfl rfl ?_
    refine sw_getr (pc' := 46) dX4_swap_43 fl_X4_10 (tbk_0) rfl rfl ?_
    refine sw_getn (pc' := 49) dX4_swap_46 fl_X4_86 (tbk_1) rfl rfl ?_
    refine sw_icmp_ge (tgt := 159) (pc' := 52) dX4_swap_49 (by decide) rfl (fun _ => ?_) (fun _ => ?_)
    · refine sw_iload (pc' := 54) dX4_swap_52 rfl rfl ?_
      refine sw_iconst (pc' := 55) dX4_swap_54 rfl ?_
      refine sw_iadd (pc' := 56) dX4_swap_55 rfl ?_
      refine sw_istore (pc' := 58) (x := (x5 + 1)) (L' := [some (.ref (ad G 0)), some (vi x1), some (vi x2), some (vi x3), some (vi x4), some (vi x5), some (vi (x5 + 1)), none]) dX4_swap_56 rfl (by decide) rfl rfl ?_
      exact s_X4_swap_58 (f_X4_swap_40 n) (ih) FU x1 x2 x3 x4 x5 (x5 + 1) σ
    · refine sw_iload_n (pc' := 160) dX4_swap_159 rfl rfl ?_
      refine sw_if_eq (tgt := 170) (pc' := 163) dX4_swap_160 (by decide) rfl (fun _ => ?_) (fun _ => ?_)
      · refine sw_msk [false, false, false, false, true, false, false, false] rfl ?_
        exact s_X4_swap_170 x4 σ
      · refine sw_iload (pc' := 165) dX4_swap_163 rfl rfl ?_
        refine sw_bipush (pc' := 167) dX4_swap_165 rfl rfl ?_
        refine sw_icmp_ne (tgt := 175) (pc' := 170) dX4_swap_167 (by decide) rfl (fun _ => ?_) (fun _ => ?_)
        · refine sw_msk [false, false, false, false, true, false, false, false] rfl ?_
          exact s_X4_swap_170 x4 σ
        · refine sw_iload_n (pc' := 176) dX4_swap_175 rfl rfl ?_
          exact sw_iret dX4_swap_176
def f_X4_swap (x1 : Int) (x2 : Int) (σ : St) : Option (Int × St) :=
  bI (f_X4_isRunAhead x1 σ) fun v1 s1 => if v1 then
    bI (f_X4_isChoice x2 s1) fun v8 s8 => if v8 then
      bV (f_X2_copyFrom 11 1 s8) fun s24 => bI (f_X4_agreeingBehind x1 s24) fun v29 s29 => f_X4_swap_40 FU x1 x2 v29 (-4) 0 s29
    else
      some ((-1), s8)
  else
    some ((-1), s1)
set_option maxRecDepth 20000 in
theorem m_X4_swap (x1 : Int) (x2 : Int)  (σ : St) : MT G l yX4_swap cX4_swap 8 (some .int) rm_X4_swap [.ref (ad G 0), vi x1, vi x2] wI σ (f_X4_swap x1 x2 σ) := by
  refine mt_I (L := [some (.ref (ad G 0)), some (vi x1), some (vi x2), none, none, none, none, none]) rfl (Nat.le_of_ble_eq_true rfl) rfl ?_
  show SW G l RX4 cX4_swap 8 rm_X4_swap wI 0 [some (.ref (ad G 0)), some (vi x1), some (vi x2), none, none, none, none, none] [] σ (f_X4_swap x1 x2 σ)
  unfold f_X4_swap
  refine sw_iload_n (pc' := 1) dX4_swap_0 rfl rfl ?_
  refine sw_callSB (pc' := 4) (As := [vi x1]) (rest := []) dX4_swap_1 cs_X4_172 (m_X4_isRunAhead x1 σ) rfl rfl rfl rfl rfl (fun v1 s1 => ?_)
  refine sw_bif_eq (tgt := 14) (pc' := 7) dX4_swap_4 (by decide) rfl (fun _ => ?_) (fun _ => ?_)
  · refine sw_iload_n (pc' := 8) dX4_swap_7 rfl rfl ?_
    refine sw_callSB (pc' := 11) (As := [vi x2]) (rest := []) dX4_swap_8 cs_X4_178 (m_X4_isChoice x2 s1) rfl rfl rfl rfl rfl (fun v8 s8 => ?_)
    refine sw_bif_ne (tgt := 16) (pc' := 14) dX4_swap_11 (by decide) rfl (fun _ => ?_) (fun _ => ?_)
    · refine sw_aload_n (pc' := 17) dX4_swap_16 rfl rfl ?_
      refine sw_getr (pc' := 20) dX4_swap_17 fl_X4_16 (tbk_0) rfl rfl ?_
      refine sw_aload_n (pc' := 21) dX4_swap_20 rfl rfl ?_
      refine sw_getr (pc' := 24) dX4_swap_21 fl_X4_10 (tbk_0) rfl rfl ?_
      refine sw_callVV (pc' := 27) (As := [.ref (ad G 1)]) (rest := []) dX4_swap_24 cv_X4_71 (tbk_11) (m_X2_copyFrom 11 1 (isSq_11) (isSq_1) s8) rfl rfl rfl rfl rfl (fun s24 => ?_)
      refine sw_aload_n (pc' := 28) dX4_swap_27 rfl rfl ?_
      refine sw_iload_n (pc' := 29) dX4_swap_28 rfl rfl ?_
      refine sw_callVI (pc' := 32) (As := [vi x1]) (rest := []) dX4_swap_29 cv_X4_198 (tbk_0) (m_X4_agreeingBehind x1 s24) rfl rfl rfl rfl rfl (fun v29 s29 => ?_)
      refine sw_istore_n (pc' := 33) (x := v29) (L' := [some (.ref (ad G 0)), some (vi x1), some (vi x2), some (vi v29), none, none, none, none]) dX4_swap_32 rfl (by decide) rfl rfl ?_
      refine sw_bipush (pc' := 35) dX4_swap_33 rfl rfl ?_
      refine sw_istore (pc' := 37) (x := (-4)) (L' := [some (.ref (ad G 0)), some (vi x1), some (vi x2), some (vi v29), some (vi (-4)), none, none, none]) dX4_swap_35 rfl (by decide) rfl rfl ?_
      refine sw_iconst (pc' := 38) dX4_swap_37 rfl ?_
      refine sw_istore (pc' := 40) (x := 0) (L' := [some (.ref (ad G 0)), some (vi x1), some (vi x2), some (vi v29), some (vi (-4)), some (vi 0), none, none]) dX4_swap_38 rfl (by decide) rfl rfl ?_
      exact s_X4_swap_40 FU x1 x2 v29 (-4) 0 s29
    · refine sw_iconst (pc' := 15) dX4_swap_14 rfl ?_
      exact sw_iret dX4_swap_15
  · refine sw_iconst (pc' := 15) dX4_swap_14 rfl ?_
    exact sw_iret dX4_swap_15
end GEN
