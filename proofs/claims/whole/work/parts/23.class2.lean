section GEN
variable {G : Gh} {l : Launch}
def rm_X4_end : Room := { frames := 1, cells := 0, slots := 0, locals := 22 }
def f_X4_end (x1 : Int) (σ : St) : Option (Int × St) :=
  bI (f_X4_within x1 0 (σ 41 1) σ) fun v9 s9 => if v9 then
    bV (pf s9 41 1 x1) fun s30 => some ((s9 41 1), s30)
  else
    some ((-1), s9)
set_option maxRecDepth 20000 in
theorem m_X4_end (x1 : Int)  (σ : St) : MT G l yX4_end cX4_end 3 (some .int) rm_X4_end [.ref (ad G 0), vi x1] wI σ (f_X4_end x1 σ) := by
  refine mt_I (L := [some (.ref (ad G 0)), some (vi x1), none]) rfl (Nat.le_of_ble_eq_true rfl) rfl ?_
  show SW G l RX4 cX4_end 3 rm_X4_end wI 0 [some (.ref (ad G 0)), some (vi x1), none] [] σ (f_X4_end x1 σ)
  unfold f_X4_end
  refine sw_iload_n (pc' := 1) dX4_end_0 rfl rfl ?_
  refine sw_iconst (pc' := 2) dX4_end_1 rfl ?_
  refine sw_aload_n (pc' := 3) dX4_end_2 rfl rfl ?_
  refine sw_getr (pc' := 6) dX4_end_3 fl_X4_28 (tbk_0) rfl rfl ?_
  refine sw_getn (pc' := 9) dX4_end_6 fl_X4_54 (tbk_41) rfl rfl ?_
  refine sw_callSB (pc' := 12) (As := [vi x1, vi 0, vi (σ 41 1)]) (rest := []) dX4_end_9 cs_X4_46 (m_X4_within x1 0 (σ 41 1) σ) rfl rfl rfl rfl rfl (fun v9 s9 => ?_)
  refine sw_bif_ne (tgt := 17) (pc' := 15) dX4_end_12 (by decide) rfl (fun _ => ?_) (fun _ => ?_)
  · refine sw_aload_n (pc' := 18) dX4_end_17 rfl rfl ?_
    refine sw_getr (pc' := 21) dX4_end_18 fl_X4_28 (tbk_0) rfl rfl ?_
    refine sw_getn (pc' := 24) dX4_end_21 fl_X4_54 (tbk_41) rfl rfl ?_
    refine sw_istore_n (pc' := 25) (x := (s9 41 1)) (L' := [some (.ref (ad G 0)), some (vi x1), some (vi (s9 41 1))]) dX4_end_24 rfl (by decide) rfl rfl ?_
    refine sw_aload_n (pc' := 26) dX4_end_25 rfl rfl ?_
    refine sw_getr (pc' := 29) dX4_end_26 fl_X4_28 (tbk_0) rfl rfl ?_
    refine sw_iload_n (pc' := 30) dX4_end_29 rfl rfl ?_
    refine sw_putI (pc' := 33) dX4_end_30 fp_X4_54 (tbk_41) rfl rfl (fun s30 => ?_)
    refine sw_iload_n (pc' := 34) dX4_end_33 rfl rfl ?_
    exact sw_iret dX4_end_34
  · refine sw_iconst (pc' := 16) dX4_end_15 rfl ?_
    exact sw_iret dX4_end_16
def rm_X4_text : Room := { frames := 7, cells := 0, slots := 0, locals := 150 }
def f_X4_text  (σ : St) : Option (Int × St) :=
  bV (f_X3_parse 11 σ) fun s8 => bV (pf s8 41 1 0) fun s16 => bV (pf s16 0 8 (s16 41 2)) fun s27 => if wr (s27 0 8) = 0 then
    bV (f_X2_copyFrom 1 11 s27) fun s56 => bV (pf s56 43 0 0) fun s64 => bV (pf s64 0 7 0) fun s69 => some ((s69 41 4), s69)
  else
    some (((-10) - (s27 41 3)), s27)
set_option maxRecDepth 20000 in
theorem m_X4_text   (σ : St) : MT G l yX4_text cX4_text 1 (some .int) rm_X4_text [.ref (ad G 0)] wI σ (f_X4_text σ) := by
  refine mt_I (L := [some (.ref (ad G 0))]) rfl (Nat.le_of_ble_eq_true rfl) rfl ?_
  show SW G l RX4 cX4_text 1 rm_X4_text wI 0 [some (.ref (ad G 0))] [] σ (f_X4_text σ)
  unfold f_X4_text
  refine sw_aload_n (pc' := 1) dX4_text_0 rfl rfl ?_
  refine sw_getr (pc' := 4) dX4_text_1 fl_X4_28 (tbk_0) rfl rfl ?_
  refine sw_aload_n (pc' := 5) dX4_text_4 rfl rfl ?_
  refine sw_getr (pc' := 8) dX4_text_5 fl_X4_16 (tbk_0) rfl rfl ?_
  refine sw_callVV (pc' := 11) (As := [.ref (ad G 11)]) (rest := []) dX4_text_8 cv_X4_58 (tbk_41) (m_X3_parse 11 (isSq_11) σ) rfl rfl rfl rfl rfl (fun s8 => ?_)
  refine sw_aload_n (pc' := 12) dX4_text_11 rfl rfl ?_
  refine sw_getr (pc' := 15) dX4_text_12 fl_X4_28 (tbk_0) rfl rfl ?_
  refine sw_iconst (pc' := 16) dX4_text_15 rfl ?_
  refine sw_putI (pc' := 19) dX4_text_16 fp_X4_54 (tbk_41) rfl rfl (fun s16 => ?_)
  refine sw_aload_n (pc' := 20) dX4_text_19 rfl rfl ?_
  refine sw_aload_n (pc' := 21) dX4_text_20 rfl rfl ?_
  refine sw_getr (pc' := 24) dX4_text_21 fl_X4_28 (tbk_0) rfl rfl ?_
  refine sw_getn (pc' := 27) dX4_text_24 fl_X4_62 (tbk_41) rfl rfl ?_
  refine sw_putI (pc' := 30) dX4_text_27 fp_X4_65 (tbk_0) rfl rfl (fun s27 => ?_)
  refine sw_aload_n (pc' := 31) dX4_text_30 rfl rfl ?_
  refine sw_getn (pc' := 34) dX4_text_31 fl_X4_65 (tbk_0) rfl rfl ?_
  refine sw_if_eq (tgt := 48) (pc' := 37) dX4_text_34 (by decide) rfl (fun _ => ?_) (fun _ => ?_)
  · refine sw_aload_n (pc' := 49) dX4_text_48 rfl rfl ?_
    refine sw_getr (pc' := 52) dX4_text_49 fl_X4_10 (tbk_0) rfl rfl ?_
    refine sw_aload_n (pc' := 53) dX4_text_52 rfl rfl ?_
    refine sw_getr (pc' := 56) dX4_text_53 fl_X4_16 (tbk_0) rfl rfl ?_
    refine sw_callVV (pc' := 59) (As := [.ref (ad G 11)]) (rest := []) dX4_text_56 cv_X4_71 (tbk_1) (m_X2_copyFrom 1 11 (isSq_1) (isSq_11) s27) rfl rfl rfl rfl rfl (fun s56 => ?_)
    refine sw_aload_n (pc' := 60) dX4_text_59 rfl rfl ?_
    refine sw_getr (pc' := 63) dX4_text_60 fl_X4_35 (tbk_0) rfl rfl ?_
    refine sw_iconst (pc' := 64) dX4_text_63 rfl ?_
    refine sw_putI (pc' := 67) dX4_text_64 fp_X4_74 (tbk_43) rfl rfl (fun s64 => ?_)
    refine sw_aload_n (pc' := 68) dX4_text_67 rfl rfl ?_
    refine sw_iconst (pc' := 69) dX4_text_68 rfl ?_
    refine sw_putI (pc' := 72) dX4_text_69 fp_X4_77 (tbk_0) rfl rfl (fun s69 => ?_)
    refine sw_aload_n (pc' := 73) dX4_text_72 rfl rfl ?_
    refine sw_getr (pc' := 76) dX4_text_73 fl_X4_28 (tbk_0) rfl rfl ?_
    refine sw_getn (pc' := 79) dX4_text_76 fl_X4_80 (tbk_41) rfl rfl ?_
    exact sw_iret dX4_text_79
  · refine sw_bipush (pc' := 39) dX4_text_37 rfl rfl ?_
    refine sw_aload_n (pc' := 40) dX4_text_39 rfl rfl ?_
    refine sw_getr (pc' := 43) dX4_text_40 fl_X4_28 (tbk_0) rfl rfl ?_
    refine sw_getn (pc' := 46) dX4_text_43 fl_X4_68 (tbk_41) rfl rfl ?_
    refine sw_isub (pc' := 47) dX4_text_46 rfl ?_
    exact sw_iret dX4_text_47
def rm_X4_fault : Room := { frames := 0, cells := 0, slots := 0, locals := 0 }
def f_X4_fault  (σ : St) : Option (Int × St) :=
  some ((σ 0 8), σ)
set_option maxRecDepth 20000 in
theorem m_X4_fault   (σ : St) : MT G l yX4_fault cX4_fault 1 (some .int) rm_X4_fault [.ref (ad G 0)] wI σ (f_X4_fault σ) := by
  refine mt_I (L := [some (.ref (ad G 0))]) rfl (Nat.le_of_ble_eq_true rfl) rfl ?_
  show SW G l RX4 cX4_fault 1 rm_X4_fault wI 0 [some (.ref (ad G 0))] [] σ (f_X4_fault σ)
  unfold f_X4_fault
  refine sw_aload_n (pc' := 1) dX4_fault_0 rfl rfl ?_
  refine sw_getn (pc' := 4) dX4_fault_1 fl_X4_65 (tbk_0) rfl rfl ?_
  exact sw_iret dX4_fault_4
def rm_X4_rule : Room := { frames := 5, cells := 0, slots := 0, locals := 115 }
def f_X4_rule (x1 : Int) (σ : St) : Option (Int × St) :=
  if wr x1 = 0 then
    some ((σ 1 0), σ)
  else
    if wr x1 = 1 then
      some ((σ 1 6), σ)
    else
      if wr x1 = 2 then
        some ((σ 1 12), σ)
      else
        if wr x1 = 3 then
          some ((σ 1 13), σ)
        else
          if wr x1 = 4 then
            some ((σ 1 4), σ)
          else
            if wr x1 = 5 then
              bI (f_X2_agreeing 1 σ) fun v88 s88 => some (v88, s88)
            else
              if wr x1 = 6 then
                bI (f_X2_standing 1 σ) fun v96 s96 => some (v96, s96)
              else
                some ((-1), σ)
set_option maxRecDepth 20000 in
theorem m_X4_rule (x1 : Int)  (σ : St) : MT G l yX4_rule cX4_rule 2 (some .int) rm_X4_rule [.ref (ad G 0), vi x1] wI σ (f_X4_rule x1 σ) := by
  refine mt_I (L := [some (.ref (ad G 0)), some (vi x1)]) rfl (Nat.le_of_ble_eq_true rfl) rfl ?_
  show SW G l RX4 cX4_rule 2 rm_X4_rule wI 0 [some (.ref (ad G 0)), some (vi x1)] [] σ (f_X4_rule x1 σ)
  unfold f_X4_rule
  refine sw_iload_n (pc' := 1) dX4_rule_0 rfl rfl ?_
  refine sw_case (fun hc0 => ?_) (fun hc0 => ?_)
  · refine sw_tin (tgt := 44) dX4_rule_1 hc0 (by decide) rfl (by decide) ?_
    refine sw_aload_n (pc' := 45) dX4_rule_44 rfl rfl ?_
    refine sw_getr (pc' := 48) dX4_rule_45 fl_X4_10 (tbk_0) rfl rfl ?_
    refine sw_getn (pc' := 51) dX4_rule_48 fl_X4_83 (tbk_1) rfl rfl ?_
    exact sw_iret dX4_rule_51
  · refine sw_case (fun hc1 => ?_) (fun hc1 => ?_)
    · refine sw_tin (tgt := 52) dX4_rule_1 hc1 (by decide) rfl (by decide) ?_
      refine sw_aload_n (pc' := 53) dX4_rule_52 rfl rfl ?_
      refine sw_getr (pc' := 56) dX4_rule_53 fl_X4_10 (tbk_0) rfl rfl ?_
      refine sw_getn (pc' := 59) dX4_rule_56 fl_X4_86 (tbk_1) rfl rfl ?_
      exact sw_iret dX4_rule_59
    · refine sw_case (fun hc2 => ?_) (fun hc2 => ?_)
      · refine sw_tin (tgt := 60) dX4_rule_1 hc2 (by decide) rfl (by decide) ?_
        refine sw_aload_n (pc' := 61) dX4_rule_60 rfl rfl ?_
        refine sw_getr (pc' := 64) dX4_rule_61 fl_X4_10 (tbk_0) rfl rfl ?_
        refine sw_getn (pc' := 67) dX4_rule_64 fl_X4_89 (tbk_1) rfl rfl ?_
        exact sw_iret dX4_rule_67
      · refine sw_case (fun hc3 => ?_) (fun hc3 => ?_)
        · refine sw_tin (tgt := 68) dX4_rule_1 hc3 (by decide) rfl (by decide) ?_
          refine sw_aload_n (pc' := 69) dX4_rule_68 rfl rfl ?_
          refine sw_getr (pc' := 72) dX4_rule_69 fl_X4_10 (tbk_0) rfl rfl ?_
          refine sw_getn (pc' := 75) dX4_rule_72 fl_X4_92 (tbk_1) rfl rfl ?_
          exact sw_iret dX4_rule_75
        · refine sw_case (fun hc4 => ?_) (fun hc4 => ?_)
          · refine sw_tin (tgt := 76) dX4_rule_1 hc4 (by decide) rfl (by decide) ?_
            refine sw_aload_n (pc' := 77) dX4_rule_76 rfl rfl ?_
            refine sw_getr (pc' := 80) dX4_rule_77 fl_X4_10 (tbk_0) rfl rfl ?_
            refine sw_getn (pc' := 83) dX4_rule_80 fl_X4_95 (tbk_1) rfl rfl ?_
            exact sw_iret dX4_rule_83
          · refine sw_case (fun hc5 => ?_) (fun hc5 => ?_)
            · refine sw_tin (tgt := 84) dX4_rule_1 hc5 (by decide) rfl (by decide) ?_
              refine sw_aload_n (pc' := 85) dX4_rule_84 rfl rfl ?_
              refine sw_getr (pc' := 88) dX4_rule_85 fl_X4_10 (tbk_0) rfl rfl ?_
              refine sw_callVI (pc' := 91) (As := []) (rest := []) dX4_rule_88 cv_X4_98 (tbk_1) (m_X2_agreeing 1 (isSq_1) σ) rfl rfl rfl rfl rfl (fun v88 s88 => ?_)
              exact sw_iret dX4_rule_91
            · refine sw_case (fun hc6 => ?_) (fun hc6 => ?_)
              · refine sw_tin (tgt := 92) dX4_rule_1 hc6 (by decide) rfl (by decide) ?_
                refine sw_aload_n (pc' := 93) dX4_rule_92 rfl rfl ?_
                refine sw_getr (pc' := 96) dX4_rule_93 fl_X4_10 (tbk_0) rfl rfl ?_
                refine sw_callVI (pc' := 99) (As := []) (rest := []) dX4_rule_96 cv_X4_102 (tbk_1) (m_X2_standing 1 (isSq_1) σ) rfl rfl rfl rfl rfl (fun v96 s96 => ?_)
                exact sw_iret dX4_rule_99
              · refine sw_tout (tgt := 100) dX4_rule_1 (by omega) (by decide) ?_
                refine sw_iconst (pc' := 101) dX4_rule_100 rfl ?_
                exact sw_iret dX4_rule_101
def rm_X4_isRider : Room := { frames := 1, cells := 0, slots := 0, locals := 22 }
def f_X4_isRider (x1 : Int) (σ : St) : Option (Bool × St) :=
  bI (f_X4_within x1 0 ((σ 1 0) - 1) σ) fun v11 s11 => some (v11, s11)
set_option maxRecDepth 20000 in
theorem m_X4_isRider (x1 : Int)  (σ : St) : MT G l yX4_isRider cX4_isRider 2 (some .boolean) rm_X4_isRider [.ref (ad G 0), vi x1] wB σ (f_X4_isRider x1 σ) := by
  refine mt_B (L := [some (.ref (ad G 0)), some (vi x1)]) rfl (Nat.le_of_ble_eq_true rfl) rfl ?_
  show SW G l RX4 cX4_isRider 2 rm_X4_isRider wB 0 [some (.ref (ad G 0)), some (vi x1)] [] σ (f_X4_isRider x1 σ)
  unfold f_X4_isRider
  refine sw_iload_n (pc' := 1) dX4_isRider_0 rfl rfl ?_
  refine sw_iconst (pc' := 2) dX4_isRider_1 rfl ?_
  refine sw_aload_n (pc' := 3) dX4_isRider_2 rfl rfl ?_
  refine sw_getr (pc' := 6) dX4_isRider_3 fl_X4_10 (tbk_0) rfl rfl ?_
  refine sw_getn (pc' := 9) dX4_isRider_6 fl_X4_83 (tbk_1) rfl rfl ?_
  refine sw_iconst (pc' := 10) dX4_isRider_9 rfl ?_
  refine sw_isub (pc' := 11) dX4_isRider_10 rfl ?_
  refine sw_callSB (pc' := 14) (As := [vi x1, vi 0, vi ((σ 1 0) - 1)]) (rest := []) dX4_isRider_11 cs_X4_46 (m_X4_within x1 0 ((σ 1 0) - 1) σ) rfl rfl rfl rfl rfl (fun v11 s11 => ?_)
  exact sw_bret dX4_isRider_14
def rm_X4_rider : Room := { frames := 3, cells := 0, slots := 0, locals := 71 }
def f_X4_rider (x1 : Int) (x2 : Int) (σ : St) : Option (Int × St) :=
  bI (f_X4_isRider x1 σ) fun v2 s2 => if v2 then
    if wr x2 = 0 then
      bV (ld s2 2 5 x1) fun v56 => some (v56, s2)
    else
      if wr x2 = 1 then
        bV (ld s2 3 5 x1) fun v66 => some (v66, s2)
      else
        if wr x2 = 2 then
          bV (ld s2 4 5 x1) fun v76 => some (v76, s2)
        else
          if wr x2 = 3 then
            bI (f_X2_readingOf 1 x1 s2) fun v83 s83 => some (v83, s83)
          else
            if wr x2 = 4 then
              bI (f_X2_beliefOf 1 x1 (s2 1 12) s2) fun v99 s99 => some (v99, s99)
            else
              if wr x2 = 5 then
                bV (ld s2 3 5 x1) fun v115 => bV (ld s2 4 5 x1) fun v124 => bI (f_X2_holds 1 v115 v124 s2) fun v125 s125 => if v125 then
                  some (1, s125)
                else
                  some (0, s125)
              else
                some ((-1), s2)
  else
    some ((-1), s2)
set_option maxRecDepth 20000 in
theorem m_X4_rider (x1 : Int) (x2 : Int)  (σ : St) : MT G l yX4_rider cX4_rider 3 (some .int) rm_X4_rider [.ref (ad G 0), vi x1, vi x2] wI σ (f_X4_rider x1 x2 σ) := by
  refine mt_I (L := [some (.ref (ad G 0)), some (vi x1), some (vi x2)]) rfl (Nat.le_of_ble_eq_true rfl) rfl ?_
  show SW G l RX4 cX4_rider 3 rm_X4_rider wI 0 [some (.ref (ad G 0)), some (vi x1), some (vi x2)] [] σ (f_X4_rider x1 x2 σ)
  unfold f_X4_rider
  refine sw_aload_n (pc' := 1) dX4_rider_0 rfl rfl ?_
  refine sw_iload_n (pc' := 2) dX4_rider_1 rfl rfl ?_
  refine sw_callVB (pc' := 5) (As := [vi x1]) (rest := []) dX4_rider_2 cv_X4_105 (tbk_0) (m_X4_isRider x1 σ) rfl rfl rfl rfl rfl (fun v2 s2 => ?_)
  refine sw_bif_ne (tgt := 10) (pc' := 8) dX4_rider_5 (by decide) rfl (fun _ => ?_) (fun _ => ?_)
  · refine sw_iload_n (pc' := 11) dX4_rider_10 rfl rfl ?_
    refine sw_case (fun hc0 => ?_) (fun hc0 => ?_)
    · refine sw_tin (tgt := 48) dX4_rider_11 hc0 (by decide) rfl (by decide) ?_
      refine sw_aload_n (pc' := 49) dX4_rider_48 rfl rfl ?_
      refine sw_getr (pc' := 52) dX4_rider_49 fl_X4_10 (tbk_0) rfl rfl ?_
      refine sw_getr (pc' := 55) dX4_rider_52 fl_X4_108 (tbk_1) rfl rfl ?_
      refine sw_iload_n (pc' := 56) dX4_rider_55 rfl rfl ?_
      refine sw_iald (pc' := 57) dX4_rider_56 (tbk_2) rfl (fun v56 => ?_)
      exact sw_iret dX4_rider_57
    · refine sw_case (fun hc1 => ?_) (fun hc1 => ?_)
      · refine sw_tin (tgt := 58) dX4_rider_11 hc1 (by decide) rfl (by decide) ?_
        refine sw_aload_n (pc' := 59) dX4_rider_58 rfl rfl ?_
        refine sw_getr (pc' := 62) dX4_rider_59 fl_X4_10 (tbk_0) rfl rfl ?_
        refine sw_getr (pc' := 65) dX4_rider_62 fl_X4_112 (tbk_1) rfl rfl ?_
        refine sw_iload_n (pc' := 66) dX4_rider_65 rfl rfl ?_
        refine sw_iald (pc' := 67) dX4_rider_66 (tbk_3) rfl (fun v66 => ?_)
        exact sw_iret dX4_rider_67
      · refine sw_case (fun hc2 => ?_) (fun hc2 => ?_)
        · refine sw_tin (tgt := 68) dX4_rider_11 hc2 (by decide) rfl (by decide) ?_
          refine sw_aload_n (pc' := 69) dX4_rider_68 rfl rfl ?_
          refine sw_getr (pc' := 72) dX4_rider_69 fl_X4_10 (tbk_0) rfl rfl ?_
          refine sw_getr (pc' := 75) dX4_rider_72 fl_X4_115 (tbk_1) rfl rfl ?_
          refine sw_iload_n (pc' := 76) dX4_rider_75 rfl rfl ?_
          refine sw_iald (pc' := 77) dX4_rider_76 (tbk_4) rfl (fun v76 => ?_)
          exact sw_iret dX4_rider_77
        · refine sw_case (fun hc3 => ?_) (fun hc3 => ?_)
          · refine sw_tin (tgt := 78) dX4_rider_11 hc3 (by decide) rfl (by decide) ?_
            refine sw_aload_n (pc' := 79) dX4_rider_78 rfl rfl ?_
            refine sw_getr (pc' := 82) dX4_rider_79 fl_X4_10 (tbk_0) rfl rfl ?_
            refine sw_iload_n (pc' := 83) dX4_rider_82 rfl rfl ?_
            refine sw_callVI (pc' := 86) (As := [vi x1]) (rest := []) dX4_rider_83 cv_X4_118 (tbk_1) (m_X2_readingOf 1 x1 (isSq_1) s2) rfl rfl rfl rfl rfl (fun v83 s83 => ?_)
            exact sw_iret dX4_rider_86
          · refine sw_case (fun hc4 => ?_) (fun hc4 => ?_)
            · refine sw_tin (tgt := 87) dX4_rider_11 hc4 (by decide) rfl (by decide) ?_
              refine sw_aload_n (pc' := 88) dX4_rider_87 rfl rfl ?_
              refine sw_getr (pc' := 91) dX4_rider_88 fl_X4_10 (tbk_0) rfl rfl ?_
              refine sw_iload_n (pc' := 92) dX4_rider_91 rfl rfl ?_
              refine sw_aload_n (pc' := 93) dX4_rider_92 rfl rfl ?_
              refine sw_getr (pc' := 96) dX4_rider_93 fl_X4_10 (tbk_0) rfl rfl ?_
              refine sw_getn (pc' := 99) dX4_rider_96 fl_X4_89 (tbk_1) rfl rfl ?_
              refine sw_callVI (pc' := 102) (As := [vi x1, vi (s2 1 12)]) (rest := []) dX4_rider_99 cv_X4_122 (tbk_1) (m_X2_beliefOf 1 x1 (s2 1 12) (isSq_1) s2) rfl rfl rfl rfl rfl (fun v99 s99 => ?_)
              exact sw_iret dX4_rider_102
            · refine sw_case (fun hc5 => ?_) (fun hc5 => ?_)
              · refine sw_tin (tgt := 103) dX4_rider_11 hc5 (by decide) rfl (by decide) ?_
                refine sw_aload_n (pc' := 104) dX4_rider_103 rfl rfl ?_
                refine sw_getr (pc' := 107) dX4_rider_104 fl_X4_10 (tbk_0) rfl rfl ?_
                refine sw_aload_n (pc' := 108) dX4_rider_107 rfl rfl ?_
                refine sw_getr (pc' := 111) dX4_rider_108 fl_X4_10 (tbk_0) rfl rfl ?_
                refine sw_getr (pc' := 114) dX4_rider_111 fl_X4_112 (tbk_1) rfl rfl ?_
                refine sw_iload_n (pc' := 115) dX4_rider_114 rfl rfl ?_
                refine sw_iald (pc' := 116) dX4_rider_115 (tbk_3) rfl (fun v115 => ?_)
                refine sw_aload_n (pc' := 117) dX4_rider_116 rfl rfl ?_
                refine sw_getr (pc' := 120) dX4_rider_117 fl_X4_10 (tbk_0) rfl rfl ?_
                refine sw_getr (pc' := 123) dX4_rider_120 fl_X4_115 (tbk_1) rfl rfl ?_
                refine sw_iload_n (pc' := 124) dX4_rider_123 rfl rfl ?_
                refine sw_iald (pc' := 125) dX4_rider_124 (tbk_4) rfl (fun v124 => ?_)
                refine sw_callVB (pc' := 128) (As := [vi v115, vi v124]) (rest := []) dX4_rider_125 cv_X4_126 (tbk_1) (m_X2_holds 1 v115 v124 (isSq_1) s2) rfl rfl rfl rfl rfl (fun v125 s125 => ?_)
                refine sw_bif_eq (tgt := 135) (pc' := 131) dX4_rider_128 (by decide) rfl (fun _ => ?_) (fun _ => ?_)
                · refine sw_iconst (pc' := 132) dX4_rider_131 rfl ?_
                  refine sw_goto (pc' := 136) dX4_rider_132 (by decide) ?_
                  exact sw_iret dX4_rider_136
                · refine sw_iconst (pc' := 136) dX4_rider_135 rfl ?_
                  exact sw_iret dX4_rider_136
              · refine sw_tout (tgt := 137) dX4_rider_11 (by omega) (by decide) ?_
                refine sw_iconst (pc' := 138) dX4_rider_137 rfl ?_
                exact sw_iret dX4_rider_138
  · refine sw_iconst (pc' := 9) dX4_rider_8 rfl ?_
    exact sw_iret dX4_rider_9
def rm_X4_report : Room := { frames := 1, cells := 0, slots := 0, locals := 22 }
def f_X4_report (x1 : Int) (x2 : Int) (σ : St) : Option (Int × St) :=
  bI (f_X4_within x1 0 ((σ 1 6) - 1) σ) fun v11 s11 => if v11 then
    if wr x2 = 0 then
      bV (ld s11 6 8 x1) fun v60 => some (v60, s11)
    else
      if wr x2 = 1 then
        bV (ld s11 7 8 x1) fun v70 => some (v70, s11)
      else
        if wr x2 = 2 then
          bV (ld s11 8 8 x1) fun v80 => some (v80, s11)
        else
          if wr x2 = 3 then
            bV (ld s11 9 8 x1) fun v90 => some (v90, s11)
          else
            some ((-1), s11)
  else
    some ((-1), s11)
set_option maxRecDepth 20000 in
theorem m_X4_report (x1 : Int) (x2 : Int)  (σ : St) : MT G l yX4_report cX4_report 3 (some .int) rm_X4_report [.ref (ad G 0), vi x1, vi x2] wI σ (f_X4_report x1 x2 σ) := by
  refine mt_I (L := [some (.ref (ad G 0)), some (vi x1), some (vi x2)]) rfl (Nat.le_of_ble_eq_true rfl) rfl ?_
  show SW G l RX4 cX4_report 3 rm_X4_report wI 0 [some (.ref (ad G 0)), some (vi x1), some (vi x2)] [] σ (f_X4_report x1 x2 σ)
  unfold f_X4_report
  refine sw_iload_n (pc' := 1) dX4_report_0 rfl rfl ?_
  refine sw_iconst (pc' := 2) dX4_report_1 rfl ?_
  refine sw_aload_n (pc' := 3) dX4_report_2 rfl rfl ?_
  refine sw_getr (pc' := 6) dX4_report_3 fl_X4_10 (tbk_0) rfl rfl ?_
  refine sw_getn (pc' := 9) dX4_report_6 fl_X4_86 (tbk_1) rfl rfl ?_
  refine sw_iconst (pc' := 10) dX4_report_9 rfl ?_
  refine sw_isub (pc' := 11) dX4_report_10 rfl ?_
  refine sw_callSB (pc' := 14) (As := [vi x1, vi 0, vi ((σ 1 6) - 1)]) (rest := []) dX4_report_11 cs_X4_46 (m_X4_within x1 0 ((σ 1 6) - 1) σ) rfl rfl rfl rfl rfl (fun v11 s11 => ?_)
  refine sw_bif_ne (tgt := 19) (pc' := 17) dX4_report_14 (by decide) rfl (fun _ => ?_) (fun _ => ?_)
  · refine sw_iload_n (pc' := 20) dX4_report_19 rfl rfl ?_
    refine sw_case (fun hc0 => ?_) (fun hc0 => ?_)
    · refine sw_tin (tgt := 52) dX4_report_20 hc0 (by decide) rfl (by decide) ?_
      refine sw_aload_n (pc' := 53) dX4_report_52 rfl rfl ?_
      refine sw_getr (pc' := 56) dX4_report_53 fl_X4_10 (tbk_0) rfl rfl ?_
      refine sw_getr (pc' := 59) dX4_report_56 fl_X4_130 (tbk_1) rfl rfl ?_
      refine sw_iload_n (pc' := 60) dX4_report_59 rfl rfl ?_
      refine sw_iald (pc' := 61) dX4_report_60 (tbk_6) rfl (fun v60 => ?_)
      exact sw_iret dX4_report_61
    · refine sw_case (fun hc1 => ?_) (fun hc1 => ?_)
      · refine sw_tin (tgt := 62) dX4_report_20 hc1 (by decide) rfl (by decide) ?_
        refine sw_aload_n (pc' := 63) dX4_report_62 rfl rfl ?_
        refine sw_getr (pc' := 66) dX4_report_63 fl_X4_10 (tbk_0) rfl rfl ?_
        refine sw_getr (pc' := 69) dX4_report_66 fl_X4_133 (tbk_1) rfl rfl ?_
        refine sw_iload_n (pc' := 70) dX4_report_69 rfl rfl ?_
        refine sw_iald (pc' := 71) dX4_report_70 (tbk_7) rfl (fun v70 => ?_)
        exact sw_iret dX4_report_71
      · refine sw_case (fun hc2 => ?_) (fun hc2 => ?_)
        · refine sw_tin (tgt := 72) dX4_report_20 hc2 (by decide) rfl (by decide) ?_
          refine sw_aload_n (pc' := 73) dX4_report_72 rfl rfl ?_
          refine sw_getr (pc' := 76) dX4_report_73 fl_X4_10 (tbk_0) rfl rfl ?_
          refine sw_getr (pc' := 79) dX4_report_76 fl_X4_136 (tbk_1) rfl rfl ?_
          refine sw_iload_n (pc' := 80) dX4_report_79 rfl rfl ?_
          refine sw_iald (pc' := 81) dX4_report_80 (tbk_8) rfl (fun v80 => ?_)
          exact sw_iret dX4_report_81
        · refine sw_case (fun hc3 => ?_) (fun hc3 => ?_)
          · refine sw_tin (tgt := 82) dX4_report_20 hc3 (by decide) rfl (by decide) ?_
            refine sw_aload_n (pc' := 83) dX4_report_82 rfl rfl ?_
            refine sw_getr (pc' := 86) dX4_report_83 fl_X4_10 (tbk_0) rfl rfl ?_
            refine sw_getr (pc' := 89) dX4_report_86 fl_X4_139 (tbk_1) rfl rfl ?_
            refine sw_iload_n (pc' := 90) dX4_report_89 rfl rfl ?_
            refine sw_iald (pc' := 91) dX4_report_90 (tbk_9) rfl (fun v90 => ?_)
            exact sw_iret dX4_report_91
          · refine sw_tout (tgt := 92) dX4_report_20 (by omega) (by decide) ?_
            refine sw_iconst (pc' := 93) dX4_report_92 rfl ?_
            exact sw_iret dX4_report_93
  · refine sw_iconst (pc' := 18) dX4_report_17 rfl ?_
    exact sw_iret dX4_report_18
def rm_X4_isReporter : Room := { frames := 1, cells := 0, slots := 0, locals := 22 }
def f_X4_isReporter (x0 : Int) (σ : St) : Option (Bool × St) :=
  bI (f_X4_within x0 0 3 σ) fun v3 s3 => some (v3, s3)
set_option maxRecDepth 20000 in
theorem m_X4_isReporter (x0 : Int)  (σ : St) : MT G l yX4_isReporter cX4_isReporter 1 (some .boolean) rm_X4_isReporter [vi x0] wB σ (f_X4_isReporter x0 σ) := by
  refine mt_B (L := [some (vi x0)]) rfl (Nat.le_of_ble_eq_true rfl) rfl ?_
  show SW G l RX4 cX4_isReporter 1 rm_X4_isReporter wB 0 [some (vi x0)] [] σ (f_X4_isReporter x0 σ)
  unfold f_X4_isReporter
  refine sw_iload_n (pc' := 1) dX4_isReporter_0 rfl rfl ?_
  refine sw_iconst (pc' := 2) dX4_isReporter_1 rfl ?_
  refine sw_iconst (pc' := 3) dX4_isReporter_2 rfl ?_
  refine sw_callSB (pc' := 6) (As := [vi x0, vi 0, vi 3]) (rest := []) dX4_isReporter_3 cs_X4_46 (m_X4_within x0 0 3 σ) rfl rfl rfl rfl rfl (fun v3 s3 => ?_)
  exact sw_bret dX4_isReporter_6
def rm_X4_trust : Room := { frames := 2, cells := 0, slots := 0, locals := 42 }
def f_X4_trust (x1 : Int) (σ : St) : Option (Int × St) :=
  bI (f_X4_isReporter x1 σ) fun v1 s1 => if v1 then
    bV (ld s1 5 4 x1) fun v15 => some (v15, s1)
  else
    some ((-1), s1)
set_option maxRecDepth 20000 in
theorem m_X4_trust (x1 : Int)  (σ : St) : MT G l yX4_trust cX4_trust 2 (some .int) rm_X4_trust [.ref (ad G 0), vi x1] wI σ (f_X4_trust x1 σ) := by
  refine mt_I (L := [some (.ref (ad G 0)), some (vi x1)]) rfl (Nat.le_of_ble_eq_true rfl) rfl ?_
  show SW G l RX4 cX4_trust 2 rm_X4_trust wI 0 [some (.ref (ad G 0)), some (vi x1)] [] σ (f_X4_trust x1 σ)
  unfold f_X4_trust
  refine sw_iload_n (pc' := 1) dX4_trust_0 rfl rfl ?_
  refine sw_callSB (pc' := 4) (As := [vi x1]) (rest := []) dX4_trust_1 cs_X4_142 (m_X4_isReporter x1 σ) rfl rfl rfl rfl rfl (fun v1 s1 => ?_)
  refine sw_bif_eq (tgt := 19) (pc' := 7) dX4_trust_4 (by decide) rfl (fun _ => ?_) (fun _ => ?_)
  · refine sw_aload_n (pc' := 8) dX4_trust_7 rfl rfl ?_
    refine sw_getr (pc' := 11) dX4_trust_8 fl_X4_10 (tbk_0) rfl rfl ?_
    refine sw_getr (pc' := 14) dX4_trust_11 fl_X4_145 (tbk_1) rfl rfl ?_
    refine sw_iload_n (pc' := 15) dX4_trust_14 rfl rfl ?_
    refine sw_iald (pc' := 16) dX4_trust_15 (tbk_5) rfl (fun v15 => ?_)
    refine sw_goto (pc' := 20) dX4_trust_16 (by decide) ?_
    exact sw_iret dX4_trust_20
  · refine sw_iconst (pc' := 20) dX4_trust_19 rfl ?_
    exact sw_iret dX4_trust_20
def rm_X4_isDay : Room := { frames := 1, cells := 0, slots := 0, locals := 22 }
def f_X4_isDay (x0 : Int) (σ : St) : Option (Bool × St) :=
  bI (f_X4_within x0 0 99 σ) fun v4 s4 => some (v4, s4)
set_option maxRecDepth 20000 in
theorem m_X4_isDay (x0 : Int)  (σ : St) : MT G l yX4_isDay cX4_isDay 1 (some .boolean) rm_X4_isDay [vi x0] wB σ (f_X4_isDay x0 σ) := by
  refine mt_B (L := [some (vi x0)]) rfl (Nat.le_of_ble_eq_true rfl) rfl ?_
  show SW G l RX4 cX4_isDay 1 rm_X4_isDay wB 0 [some (vi x0)] [] σ (f_X4_isDay x0 σ)
  unfold f_X4_isDay
  refine sw_iload_n (pc' := 1) dX4_isDay_0 rfl rfl ?_
  refine sw_iconst (pc' := 2) dX4_isDay_1 rfl ?_
  refine sw_bipush (pc' := 4) dX4_isDay_2 rfl rfl ?_
  refine sw_callSB (pc' := 7) (As := [vi x0, vi 0, vi 99]) (rest := []) dX4_isDay_4 cs_X4_46 (m_X4_within x0 0 99 σ) rfl rfl rfl rfl rfl (fun v4 s4 => ?_)
  exact sw_bret dX4_isDay_7
def rm_X4_isEnd : Room := { frames := 1, cells := 0, slots := 0, locals := 22 }
def f_X4_isEnd (x0 : Int) (σ : St) : Option (Bool × St) :=
  bI (f_X4_within x0 0 3 σ) fun v3 s3 => some (v3, s3)
set_option maxRecDepth 20000 in
theorem m_X4_isEnd (x0 : Int)  (σ : St) : MT G l yX4_isEnd cX4_isEnd 1 (some .boolean) rm_X4_isEnd [vi x0] wB σ (f_X4_isEnd x0 σ) := by
  refine mt_B (L := [some (vi x0)]) rfl (Nat.le_of_ble_eq_true rfl) rfl ?_
  show SW G l RX4 cX4_isEnd 1 rm_X4_isEnd wB 0 [some (vi x0)] [] σ (f_X4_isEnd x0 σ)
  unfold f_X4_isEnd
  refine sw_iload_n (pc' := 1) dX4_isEnd_0 rfl rfl ?_
  refine sw_iconst (pc' := 2) dX4_isEnd_1 rfl ?_
  refine sw_iconst (pc' := 3) dX4_isEnd_2 rfl ?_
  refine sw_callSB (pc' := 6) (As := [vi x0, vi 0, vi 3]) (rest := []) dX4_isEnd_3 cs_X4_46 (m_X4_within x0 0 3 σ) rfl rfl rfl rfl rfl (fun v3 s3 => ?_)
  exact sw_bret dX4_isEnd_6
def rm_X4_told : Room := { frames := 2, cells := 0, slots := 0, locals := 46 }
def f_X4_told (x1 : Int) (x2 : Int) (x3 : Int) (σ : St) : Option (Int × St) :=
  bI (f_X4_isRider x1 σ) fun v2 s2 => if v2 then
    bI (f_X4_isEnd x2 s2) fun v9 s9 => if v9 then
      bI (f_X4_isDay x3 s9) fun v16 s16 => if v16 then
        bV (f_X2_sumTrust 1 x1 x3 s16) fun s30 => bV (ld s30 10 4 x2) fun v41 => some (v41, s30)
      else
        some ((-1), s16)
    else
      some ((-1), s9)
  else
    some ((-1), s2)
set_option maxRecDepth 20000 in
theorem m_X4_told (x1 : Int) (x2 : Int) (x3 : Int)  (σ : St) : MT G l yX4_told cX4_told 4 (some .int) rm_X4_told [.ref (ad G 0), vi x1, vi x2, vi x3] wI σ (f_X4_told x1 x2 x3 σ) := by
  refine mt_I (L := [some (.ref (ad G 0)), some (vi x1), some (vi x2), some (vi x3)]) rfl (Nat.le_of_ble_eq_true rfl) rfl ?_
  show SW G l RX4 cX4_told 4 rm_X4_told wI 0 [some (.ref (ad G 0)), some (vi x1), some (vi x2), some (vi x3)] [] σ (f_X4_told x1 x2 x3 σ)
  unfold f_X4_told
  refine sw_aload_n (pc' := 1) dX4_told_0 rfl rfl ?_
  refine sw_iload_n (pc' := 2) dX4_told_1 rfl rfl ?_
  refine sw_callVB (pc' := 5) (As := [vi x1]) (rest := []) dX4_told_2 cv_X4_105 (tbk_0) (m_X4_isRider x1 σ) rfl rfl rfl rfl rfl (fun v2 s2 => ?_)
  refine sw_bif_eq (tgt := 22) (pc' := 8) dX4_told_5 (by decide) rfl (fun _ => ?_) (fun _ => ?_)
  · refine sw_iload_n (pc' := 9) dX4_told_8 rfl rfl ?_
    refine sw_callSB (pc' := 12) (As := [vi x2]) (rest := []) dX4_told_9 cs_X4_148 (m_X4_isEnd x2 s2) rfl rfl rfl rfl rfl (fun v9 s9 => ?_)
    refine sw_bif_eq (tgt := 22) (pc' := 15) dX4_told_12 (by decide) rfl (fun _ => ?_) (fun _ => ?_)
    · refine sw_iload_n (pc' := 16) dX4_told_15 rfl rfl ?_
      refine sw_callSB (pc' := 19) (As := [vi x3]) (rest := []) dX4_told_16 cs_X4_151 (m_X4_isDay x3 s9) rfl rfl rfl rfl rfl (fun v16 s16 => ?_)
      refine sw_bif_ne (tgt := 24) (pc' := 22) dX4_told_19 (by decide) rfl (fun _ => ?_) (fun _ => ?_)
      · refine sw_aload_n (pc' := 25) dX4_told_24 rfl rfl ?_
        refine sw_getr (pc' := 28) dX4_told_25 fl_X4_10 (tbk_0) rfl rfl ?_
        refine sw_iload_n (pc' := 29) dX4_told_28 rfl rfl ?_
        refine sw_iload_n (pc' := 30) dX4_told_29 rfl rfl ?_
        refine sw_callVV (pc' := 33) (As := [vi x1, vi x3]) (rest := []) dX4_told_30 cv_X4_154 (tbk_1) (m_X2_sumTrust 1 x1 x3 (isSq_1) s16) rfl rfl rfl rfl rfl (fun s30 => ?_)
        refine sw_aload_n (pc' := 34) dX4_told_33 rfl rfl ?_
        refine sw_getr (pc' := 37) dX4_told_34 fl_X4_10 (tbk_0) rfl rfl ?_
        refine sw_getr (pc' := 40) dX4_told_37 fl_X4_158 (tbk_1) rfl rfl ?_
        refine sw_iload_n (pc' := 41) dX4_told_40 rfl rfl ?_
        refine sw_iald (pc' := 42) dX4_told_41 (tbk_10) rfl (fun v41 => ?_)
        exact sw_iret dX4_told_42
      · refine sw_iconst (pc' := 23) dX4_told_22 rfl ?_
        exact sw_iret dX4_told_23
    · refine sw_iconst (pc' := 23) dX4_told_22 rfl ?_
      exact sw_iret dX4_told_23
  · refine sw_iconst (pc' := 23) dX4_told_22 rfl ?_
    exact sw_iret dX4_told_23
def rm_X4_exchange : Room := { frames := 0, cells := 0, slots := 0, locals := 0 }
def f_X4_exchange (a0 : Nat) (n0 : Nat) (x1 : Int) (x2 : Int) (σ : St) : Option (Int × St) :=
  bV (ld σ a0 n0 x1) fun v2 => bV (sv σ a0 n0 x1 x2) fun s7 => some (v2, s7)
set_option maxRecDepth 20000 in
theorem m_X4_exchange (a0 : Nat) (n0 : Nat) (x1 : Int) (x2 : Int) (ht0 : tb a0 = .inl (0, n0)) (σ : St) : MT G l yX4_exchange cX4_exchange 4 (some .int) rm_X4_exchange [.ref (ad G a0), vi x1, vi x2] wI σ (f_X4_exchange a0 n0 x1 x2 σ) := by
  refine mt_I (L := [some (.ref (ad G a0)), some (vi x1), some (vi x2), none]) rfl (Nat.le_of_ble_eq_true rfl) rfl ?_
  show SW G l RX4 cX4_exchange 4 rm_X4_exchange wI 0 [some (.ref (ad G a0)), some (vi x1), some (vi x2), none] [] σ (f_X4_exchange a0 n0 x1 x2 σ)
  unfold f_X4_exchange
  refine sw_aload_n (pc' := 1) dX4_exchange_0 rfl rfl ?_
  refine sw_iload_n (pc' := 2) dX4_exchange_1 rfl rfl ?_
  refine sw_iald (pc' := 3) dX4_exchange_2 (ht0) rfl (fun v2 => ?_)
  refine sw_istore_n (pc' := 4) (x := v2) (L' := [some (.ref (ad G a0)), some (vi x1), some (vi x2), some (vi v2)]) dX4_exchange_3 rfl (by decide) rfl rfl ?_
  refine sw_aload_n (pc' := 5) dX4_exchange_4 rfl rfl ?_
  refine sw_iload_n (pc' := 6) dX4_exchange_5 rfl rfl ?_
  refine sw_iload_n (pc' := 7) dX4_exchange_6 rfl rfl ?_
  refine sw_iast (pc' := 8) dX4_exchange_7 (ht0) rfl (fun s7 => ?_)
  refine sw_iload_n (pc' := 9) dX4_exchange_8 rfl rfl ?_
  exact sw_iret dX4_exchange_9
def rm_X4_alter : Room := { frames := 2, cells := 0, slots := 0, locals := 43 }
def f_X4_alter (x1 : Int) (x2 : Int) (x3 : Int) (σ : St) : Option (Int × St) :=
  bI (f_X4_isRider x1 σ) fun v2 s2 => if v2 then
    if wr x2 = 0 then
      bI (f_X4_within x3 0 3 s2) fun v39 s39 => if v39 then
        bI (f_X4_exchange 2 5 x1 x3 s39) fun v54 s54 => some (v54, s54)
      else
        some ((-1), s39)
    else
      if wr x2 = 1 then
        bI (f_X4_within x3 0 15 s2) fun v66 s66 => if v66 then
          bI (f_X4_exchange 3 5 x1 x3 s66) fun v81 s81 => some (v81, s81)
        else
          some ((-1), s66)
      else
        if wr x2 = 2 then
          bI (f_X4_within x3 1 99 s2) fun v93 s93 => if v93 then
            bI (f_X4_exchange 4 5 x1 x3 s93) fun v108 s108 => some (v108, s108)
          else
            some ((-1), s93)
        else
          some ((-1), s2)
  else
    some ((-1), s2)
set_option maxRecDepth 20000 in
theorem m_X4_alter (x1 : Int) (x2 : Int) (x3 : Int)  (σ : St) : MT G l yX4_alter cX4_alter 4 (some .int) rm_X4_alter [.ref (ad G 0), vi x1, vi x2, vi x3] wI σ (f_X4_alter x1 x2 x3 σ) := by
  refine mt_I (L := [some (.ref (ad G 0)), some (vi x1), some (vi x2), some (vi x3)]) rfl (Nat.le_of_ble_eq_true rfl) rfl ?_
  show SW G l RX4 cX4_alter 4 rm_X4_alter wI 0 [some (.ref (ad G 0)), some (vi x1), some (vi x2), some (vi x3)] [] σ (f_X4_alter x1 x2 x3 σ)
  unfold f_X4_alter
  refine sw_aload_n (pc' := 1) dX4_alter_0 rfl rfl ?_
  refine sw_iload_n (pc' := 2) dX4_alter_1 rfl rfl ?_
  refine sw_callVB (pc' := 5) (As := [vi x1]) (rest := []) dX4_alter_2 cv_X4_105 (tbk_0) (m_X4_isRider x1 σ) rfl rfl rfl rfl rfl (fun v2 s2 => ?_)
  refine sw_bif_ne (tgt := 10) (pc' := 8) dX4_alter_5 (by decide) rfl (fun _ => ?_) (fun _ => ?_)
  · refine sw_iload_n (pc' := 11) dX4_alter_10 rfl rfl ?_
    refine sw_case (fun hc0 => ?_) (fun hc0 => ?_)
    · refine sw_tin (tgt := 36) dX4_alter_11 hc0 (by decide) rfl (by decide) ?_
      refine sw_iload_n (pc' := 37) dX4_alter_36 rfl rfl ?_
      refine sw_iconst (pc' := 38) dX4_alter_37 rfl ?_
      refine sw_iconst (pc' := 39) dX4_alter_38 rfl ?_
      refine sw_callSB (pc' := 42) (As := [vi x3, vi 0, vi 3]) (rest := []) dX4_alter_39 cs_X4_46 (m_X4_within x3 0 3 s2) rfl rfl rfl rfl rfl (fun v39 s39 => ?_)
      refine sw_bif_eq (tgt := 60) (pc' := 45) dX4_alter_42 (by decide) rfl (fun _ => ?_) (fun _ => ?_)
      · refine sw_aload_n (pc' := 46) dX4_alter_45 rfl rfl ?_
        refine sw_getr (pc' := 49) dX4_alter_46 fl_X4_10 (tbk_0) rfl rfl ?_
        refine sw_getr (pc' := 52) dX4_alter_49 fl_X4_108 (tbk_1) rfl rfl ?_
        refine sw_iload_n (pc' := 53) dX4_alter_52 rfl rfl ?_
        refine sw_iload_n (pc' := 54) dX4_alter_53 rfl rfl ?_
        refine sw_callSI (pc' := 57) (As := [.ref (ad G 2), vi x1, vi x3]) (rest := []) dX4_alter_54 cs_X4_161 (m_X4_exchange 2 5 x1 x3 (tbk_2) s39) rfl rfl rfl rfl rfl (fun v54 s54 => ?_)
        refine sw_goto (pc' := 61) dX4_alter_57 (by decide) ?_
        exact sw_iret dX4_alter_61
      · refine sw_iconst (pc' := 61) dX4_alter_60 rfl ?_
        exact sw_iret dX4_alter_61
    · refine sw_case (fun hc1 => ?_) (fun hc1 => ?_)
      · refine sw_tin (tgt := 62) dX4_alter_11 hc1 (by decide) rfl (by decide) ?_
        refine sw_iload_n (pc' := 63) dX4_alter_62 rfl rfl ?_
        refine sw_iconst (pc' := 64) dX4_alter_63 rfl ?_
        refine sw_bipush (pc' := 66) dX4_alter_64 rfl rfl ?_
        refine sw_callSB (pc' := 69) (As := [vi x3, vi 0, vi 15]) (rest := []) dX4_alter_66 cs_X4_46 (m_X4_within x3 0 15 s2) rfl rfl rfl rfl rfl (fun v66 s66 => ?_)
        refine sw_bif_eq (tgt := 87) (pc' := 72) dX4_alter_69 (by decide) rfl (fun _ => ?_) (fun _ => ?_)
        · refine sw_aload_n (pc' := 73) dX4_alter_72 rfl rfl ?_
          refine sw_getr (pc' := 76) dX4_alter_73 fl_X4_10 (tbk_0) rfl rfl ?_
          refine sw_getr (pc' := 79) dX4_alter_76 fl_X4_112 (tbk_1) rfl rfl ?_
          refine sw_iload_n (pc' := 80) dX4_alter_79 rfl rfl ?_
          refine sw_iload_n (pc' := 81) dX4_alter_80 rfl rfl ?_
          refine sw_callSI (pc' := 84) (As := [.ref (ad G 3), vi x1, vi x3]) (rest := []) dX4_alter_81 cs_X4_161 (m_X4_exchange 3 5 x1 x3 (tbk_3) s66) rfl rfl rfl rfl rfl (fun v81 s81 => ?_)
          refine sw_goto (pc' := 88) dX4_alter_84 (by decide) ?_
          exact sw_iret dX4_alter_88
        · refine sw_iconst (pc' := 88) dX4_alter_87 rfl ?_
          exact sw_iret dX4_alter_88
      · refine sw_case (fun hc2 => ?_) (fun hc2 => ?_)
        · refine sw_tin (tgt := 89) dX4_alter_11 hc2 (by decide) rfl (by decide) ?_
          refine sw_iload_n (pc' := 90) dX4_alter_89 rfl rfl ?_
          refine sw_iconst (pc' := 91) dX4_alter_90 rfl ?_
          refine sw_bipush (pc' := 93) dX4_alter_91 rfl rfl ?_
          refine sw_callSB (pc' := 96) (As := [vi x3, vi 1, vi 99]) (rest := []) dX4_alter_93 cs_X4_46 (m_X4_within x3 1 99 s2) rfl rfl rfl rfl rfl (fun v93 s93 => ?_)
          refine sw_bif_eq (tgt := 114) (pc' := 99) dX4_alter_96 (by decide) rfl (fun _ => ?_) (fun _ => ?_)
          · refine sw_aload_n (pc' := 100) dX4_alter_99 rfl rfl ?_
            refine sw_getr (pc' := 103) dX4_alter_100 fl_X4_10 (tbk_0) rfl rfl ?_
            refine sw_getr (pc' := 106) dX4_alter_103 fl_X4_115 (tbk_1) rfl rfl ?_
            refine sw_iload_n (pc' := 107) dX4_alter_106 rfl rfl ?_
            refine sw_iload_n (pc' := 108) dX4_alter_107 rfl rfl ?_
            refine sw_callSI (pc' := 111) (As := [.ref (ad G 4), vi x1, vi x3]) (rest := []) dX4_alter_108 cs_X4_161 (m_X4_exchange 4 5 x1 x3 (tbk_4) s93) rfl rfl rfl rfl rfl (fun v108 s108 => ?_)
            refine sw_goto (pc' := 115) dX4_alter_111 (by decide) ?_
            exact sw_iret dX4_alter_115
          · refine sw_iconst (pc' := 115) dX4_alter_114 rfl ?_
            exact sw_iret dX4_alter_115
        · refine sw_tout (tgt := 116) dX4_alter_11 (by omega) (by decide) ?_
          refine sw_iconst (pc' := 117) dX4_alter_116 rfl ?_
          exact sw_iret dX4_alter_117
  · refine sw_iconst (pc' := 9) dX4_alter_8 rfl ?_
    exact sw_iret dX4_alter_9
def rm_X4_rely : Room := { frames := 2, cells := 0, slots := 0, locals := 42 }
def f_X4_rely (x1 : Int) (x2 : Int) (σ : St) : Option (Int × St) :=
  bI (f_X4_isReporter x1 σ) fun v1 s1 => if v1 then
    bI (f_X4_within x2 0 9 s1) fun v11 s11 => if v11 then
      bI (f_X4_exchange 5 4 x1 x2 s11) fun v26 s26 => some (v26, s26)
    else
      some ((-1), s11)
  else
    some ((-1), s1)
set_option maxRecDepth 20000 in
theorem m_X4_rely (x1 : Int) (x2 : Int)  (σ : St) : MT G l yX4_rely cX4_rely 3 (some .int) rm_X4_rely [.ref (ad G 0), vi x1, vi x2] wI σ (f_X4_rely x1 x2 σ) := by
  refine mt_I (L := [some (.ref (ad G 0)), some (vi x1), some (vi x2)]) rfl (Nat.le_of_ble_eq_true rfl) rfl ?_
  show SW G l RX4 cX4_rely 3 rm_X4_rely wI 0 [some (.ref (ad G 0)), some (vi x1), some (vi x2)] [] σ (f_X4_rely x1 x2 σ)
  unfold f_X4_rely
  refine sw_iload_n (pc' := 1) dX4_rely_0 rfl rfl ?_
  refine sw_callSB (pc' := 4) (As := [vi x1]) (rest := []) dX4_rely_1 cs_X4_142 (m_X4_isReporter x1 σ) rfl rfl rfl rfl rfl (fun v1 s1 => ?_)
  refine sw_bif_eq (tgt := 32) (pc' := 7) dX4_rely_4 (by decide) rfl (fun _ => ?_) (fun _ => ?_)
  · refine sw_iload_n (pc' := 8) dX4_rely_7 rfl rfl ?_
    refine sw_iconst (pc' := 9) dX4_rely_8 rfl ?_
    refine sw_bipush (pc' := 11) dX4_rely_9 rfl rfl ?_
    refine sw_callSB (pc' := 14) (As := [vi x2, vi 0, vi 9]) (rest := []) dX4_rely_11 cs_X4_46 (m_X4_within x2 0 9 s1) rfl rfl rfl rfl rfl (fun v11 s11 => ?_)
    refine sw_bif_eq (tgt := 32) (pc' := 17) dX4_rely_14 (by decide) rfl (fun _ => ?_) (fun _ => ?_)
    · refine sw_aload_n (pc' := 18) dX4_rely_17 rfl rfl ?_
      refine sw_getr (pc' := 21) dX4_rely_18 fl_X4_10 (tbk_0) rfl rfl ?_
      refine sw_getr (pc' := 24) dX4_rely_21 fl_X4_145 (tbk_1) rfl rfl ?_
      refine sw_iload_n (pc' := 25) dX4_rely_24 rfl rfl ?_
      refine sw_iload_n (pc' := 26) dX4_rely_25 rfl rfl ?_
      refine sw_callSI (pc' := 29) (As := [.ref (ad G 5), vi x1, vi x2]) (rest := []) dX4_rely_26 cs_X4_161 (m_X4_exchange 5 4 x1 x2 (tbk_5) s11) rfl rfl rfl rfl rfl (fun v26 s26 => ?_)
      refine sw_goto (pc' := 33) dX4_rely_29 (by decide) ?_
      exact sw_iret dX4_rely_33
    · refine sw_iconst (pc' := 33) dX4_rely_32 rfl ?_
      exact sw_iret dX4_rely_33
  · refine sw_iconst (pc' := 33) dX4_rely_32 rfl ?_
    exact sw_iret dX4_rely_33
def rm_X4_cast : Room := { frames := 1, cells := 0, slots := 0, locals := 22 }
def f_X4_cast (x1 : Int) (σ : St) : Option (Int × St) :=
  bI (f_X4_within x1 1 99 σ) fun v4 s4 => if v4 then
    bV (pf s4 1 4 x1) fun s25 => some ((s4 1 4), s25)
  else
    some ((-1), s4)
set_option maxRecDepth 20000 in
theorem m_X4_cast (x1 : Int)  (σ : St) : MT G l yX4_cast cX4_cast 3 (some .int) rm_X4_cast [.ref (ad G 0), vi x1] wI σ (f_X4_cast x1 σ) := by
  refine mt_I (L := [some (.ref (ad G 0)), some (vi x1), none]) rfl (Nat.le_of_ble_eq_true rfl) rfl ?_
  show SW G l RX4 cX4_cast 3 rm_X4_cast wI 0 [some (.ref (ad G 0)), some (vi x1), none] [] σ (f_X4_cast x1 σ)
  unfold f_X4_cast
  refine sw_iload_n (pc' := 1) dX4_cast_0 rfl rfl ?_
  refine sw_iconst (pc' := 2) dX4_cast_1 rfl ?_
  refine sw_bipush (pc' := 4) dX4_cast_2 rfl rfl ?_
  refine sw_callSB (pc' := 7) (As := [vi x1, vi 1, vi 99]) (rest := []) dX4_cast_4 cs_X4_46 (m_X4_within x1 1 99 σ) rfl rfl rfl rfl rfl (fun v4 s4 => ?_)
  refine sw_bif_ne (tgt := 12) (pc' := 10) dX4_cast_7 (by decide) rfl (fun _ => ?_) (fun _ => ?_)
  · refine sw_aload_n (pc' := 13) dX4_cast_12 rfl rfl ?_
    refine sw_getr (pc' := 16) dX4_cast_13 fl_X4_10 (tbk_0) rfl rfl ?_
    refine sw_getn (pc' := 19) dX4_cast_16 fl_X4_95 (tbk_1) rfl rfl ?_
    refine sw_istore_n (pc' := 20) (x := (s4 1 4)) (L' := [some (.ref (ad G 0)), some (vi x1), some (vi (s4 1 4))]) dX4_cast_19 rfl (by decide) rfl rfl ?_
    refine sw_aload_n (pc' := 21) dX4_cast_20 rfl rfl ?_
    refine sw_getr (pc' := 24) dX4_cast_21 fl_X4_10 (tbk_0) rfl rfl ?_
    refine sw_iload_n (pc' := 25) dX4_cast_24 rfl rfl ?_
    refine sw_putI (pc' := 28) dX4_cast_25 fp_X4_95 (tbk_1) rfl rfl (fun s25 => ?_)
    refine sw_iload_n (pc' := 29) dX4_cast_28 rfl rfl ?_
    exact sw_iret dX4_cast_29
  · refine sw_iconst (pc' := 11) dX4_cast_10 rfl ?_
    exact sw_iret dX4_cast_11
def rm_X4_send : Room := { frames := 2, cells := 0, slots := 0, locals := 43 }
def f_X4_send (x1 : Int) (x2 : Int) (x3 : Int) (x4 : Int) (σ : St) : Option (Int × St) :=
  bI (f_X4_isDay x1 σ) fun v1 s1 => if v1 then
    bI (f_X4_isReporter x2 s1) fun v8 s8 => if v8 then
      bI (f_X4_isRider x3 s8) fun v16 s16 => if v16 then
        bI (f_X4_isEnd x4 s16) fun v24 s24 => if v24 then
          bI (f_X2_addReport 1 x1 x2 x3 x4 s24) fun v41 s41 => if v41 then
            some ((s41 1 6), s41)
          else
            some ((-3), s41)
        else
          some ((-1), s24)
      else
        some ((-1), s16)
    else
      some ((-1), s8)
  else
    some ((-1), s1)
set_option maxRecDepth 20000 in
theorem m_X4_send (x1 : Int) (x2 : Int) (x3 : Int) (x4 : Int)  (σ : St) : MT G l yX4_send cX4_send 5 (some .int) rm_X4_send [.ref (ad G 0), vi x1, vi x2, vi x3, vi x4] wI σ (f_X4_send x1 x2 x3 x4 σ) := by
  refine mt_I (L := [some (.ref (ad G 0)), some (vi x1), some (vi x2), some (vi x3), some (vi x4)]) rfl (Nat.le_of_ble_eq_true rfl) rfl ?_
  show SW G l RX4 cX4_send 5 rm_X4_send wI 0 [some (.ref (ad G 0)), some (vi x1), some (vi x2), some (vi x3), some (vi x4)] [] σ (f_X4_send x1 x2 x3 x4 σ)
  unfold f_X4_send
  refine sw_iload_n (pc' := 1) dX4_send_0 rfl rfl ?_
  refine sw_callSB (pc' := 4) (As := [vi x1]) (rest := []) dX4_send_1 cs_X4_151 (m_X4_isDay x1 σ) rfl rfl rfl rfl rfl (fun v1 s1 => ?_)
  refine sw_bif_eq (tgt := 30) (pc' := 7) dX4_send_4 (by decide) rfl (fun _ => ?_) (fun _ => ?_)
  · refine sw_iload_n (pc' := 8) dX4_send_7 rfl rfl ?_
    refine sw_callSB (pc' := 11) (As := [vi x2]) (rest := []) dX4_send_8 cs_X4_142 (m_X4_isReporter x2 s1) rfl rfl rfl rfl rfl (fun v8 s8 => ?_)
    refine sw_bif_eq (tgt := 30) (pc' := 14) dX4_send_11 (by decide) rfl (fun _ => ?_) (fun _ => ?_)
    · refine sw_aload_n (pc' := 15) dX4_send_14 rfl rfl ?_
      refine sw_iload_n (pc' := 16) dX4_send_15 rfl rfl ?_
      refine sw_callVB (pc' := 19) (As := [vi x3]) (rest := []) dX4_send_16 cv_X4_105 (tbk_0) (m_X4_isRider x3 s8) rfl rfl rfl rfl rfl (fun v16 s16 => ?_)
      refine sw_bif_eq (tgt := 30) (pc' := 22) dX4_send_19 (by decide) rfl (fun _ => ?_) (fun _ => ?_)
      · refine sw_iload (pc' := 24) dX4_send_22 rfl rfl ?_
        refine sw_callSB (pc' := 27) (As := [vi x4]) (rest := []) dX4_send_24 cs_X4_148 (m_X4_isEnd x4 s16) rfl rfl rfl rfl rfl (fun v24 s24 => ?_)
        refine sw_bif_ne (tgt := 32) (pc' := 30) dX4_send_27 (by decide) rfl (fun _ => ?_) (fun _ => ?_)
        · refine sw_aload_n (pc' := 33) dX4_send_32 rfl rfl ?_
          refine sw_getr (pc' := 36) dX4_send_33 fl_X4_10 (tbk_0) rfl rfl ?_
          refine sw_iload_n (pc' := 37) dX4_send_36 rfl rfl ?_
          refine sw_iload_n (pc' := 38) dX4_send_37 rfl rfl ?_
          refine sw_iload_n (pc' := 39) dX4_send_38 rfl rfl ?_
          refine sw_iload (pc' := 41) dX4_send_39 rfl rfl ?_
          refine sw_callVB (pc' := 44) (As := [vi x1, vi x2, vi x3, vi x4]) (rest := []) dX4_send_41 cv_X4_165 (tbk_1) (m_X2_addReport 1 x1 x2 x3 x4 (isSq_1) s24) rfl rfl rfl rfl rfl (fun v41 s41 => ?_)
          refine sw_bif_eq (tgt := 57) (pc' := 47) dX4_send_44 (by decide) rfl (fun _ => ?_) (fun _ => ?_)
          · refine sw_aload_n (pc' := 48) dX4_send_47 rfl rfl ?_
            refine sw_getr (pc' := 51) dX4_send_48 fl_X4_10 (tbk_0) rfl rfl ?_
            refine sw_getn (pc' := 54) dX4_send_51 fl_X4_86 (tbk_1) rfl rfl ?_
            refine sw_goto (pc' := 59) dX4_send_54 (by decide) ?_
            exact sw_iret dX4_send_59
          · refine sw_bipush (pc' := 59) dX4_send_57 rfl rfl ?_
            exact sw_iret dX4_send_59
        · refine sw_iconst (pc' := 31) dX4_send_30 rfl ?_
          exact sw_iret dX4_send_31
      · refine sw_iconst (pc' := 31) dX4_send_30 rfl ?_
        exact sw_iret dX4_send_31
    · refine sw_iconst (pc' := 31) dX4_send_30 rfl ?_
      exact sw_iret dX4_send_31
  · refine sw_iconst (pc' := 31) dX4_send_30 rfl ?_
    exact sw_iret dX4_send_31
def rm_X4_burn : Room := { frames := 1, cells := 0, slots := 0, locals := 22 }
def f_X4_burn (x1 : Int) (σ : St) : Option (Int × St) :=
  bI (f_X4_within x1 0 (σ 1 6) σ) fun v9 s9 => if v9 then
    bV (pf s9 1 6 x1) fun s30 => some ((s9 1 6), s30)
  else
    some ((-1), s9)
set_option maxRecDepth 20000 in
theorem m_X4_burn (x1 : Int)  (σ : St) : MT G l yX4_burn cX4_burn 3 (some .int) rm_X4_burn [.ref (ad G 0), vi x1] wI σ (f_X4_burn x1 σ) := by
  refine mt_I (L := [some (.ref (ad G 0)), some (vi x1), none]) rfl (Nat.le_of_ble_eq_true rfl) rfl ?_
  show SW G l RX4 cX4_burn 3 rm_X4_burn wI 0 [some (.ref (ad G 0)), some (vi x1), none] [] σ (f_X4_burn x1 σ)
  unfold f_X4_burn
  refine sw_iload_n (pc' := 1) dX4_burn_0 rfl rfl ?_
  refine sw_iconst (pc' := 2) dX4_burn_1 rfl ?_
  refine sw_aload_n (pc' := 3) dX4_burn_2 rfl rfl ?_
  refine sw_getr (pc' := 6) dX4_burn_3 fl_X4_10 (tbk_0) rfl rfl ?_
  refine sw_getn (pc' := 9) dX4_burn_6 fl_X4_86 (tbk_1) rfl rfl ?_
  refine sw_callSB (pc' := 12) (As := [vi x1, vi 0, vi (σ 1 6)]) (rest := []) dX4_burn_9 cs_X4_46 (m_X4_within x1 0 (σ 1 6) σ) rfl rfl rfl rfl rfl (fun v9 s9 => ?_)
  refine sw_bif_ne (tgt := 17) (pc' := 15) dX4_burn_12 (by decide) rfl (fun _ => ?_) (fun _ => ?_)
  · refine sw_aload_n (pc' := 18) dX4_burn_17 rfl rfl ?_
    refine sw_getr (pc' := 21) dX4_burn_18 fl_X4_10 (tbk_0) rfl rfl ?_
    refine sw_getn (pc' := 24) dX4_burn_21 fl_X4_86 (tbk_1) rfl rfl ?_
    refine sw_istore_n (pc' := 25) (x := (s9 1 6)) (L' := [some (.ref (ad G 0)), some (vi x1), some (vi (s9 1 6))]) dX4_burn_24 rfl (by decide) rfl rfl ?_
    refine sw_aload_n (pc' := 26) dX4_burn_25 rfl rfl ?_
    refine sw_getr (pc' := 29) dX4_burn_26 fl_X4_10 (tbk_0) rfl rfl ?_
    refine sw_iload_n (pc' := 30) dX4_burn_29 rfl rfl ?_
    refine sw_putI (pc' := 33) dX4_burn_30 fp_X4_86 (tbk_1) rfl rfl (fun s30 => ?_)
    refine sw_iload_n (pc' := 34) dX4_burn_33 rfl rfl ?_
    exact sw_iret dX4_burn_34
  · refine sw_iconst (pc' := 16) dX4_burn_15 rfl ?_
    exact sw_iret dX4_burn_16
def rm_X4_days : Room := { frames := 6, cells := 0, slots := 0, locals := 143 }
def f_X4_days (x1 : Int) (σ : St) : Option (Int × St) :=
  bI (f_X4_within x1 0 30 σ) fun v4 s4 => if v4 then
    if wr ((s4 1 12) + x1) < wr 1000 then
      bI (f_X2_passDays 1 x1 s4) fun v37 s37 => some (v37, s37)
    else
      some ((-3), s4)
  else
    some ((-1), s4)
set_option maxRecDepth 20000 in
theorem m_X4_days (x1 : Int)  (σ : St) : MT G l yX4_days cX4_days 2 (some .int) rm_X4_days [.ref (ad G 0), vi x1] wI σ (f_X4_days x1 σ) := by
  refine mt_I (L := [some (.ref (ad G 0)), some (vi x1)]) rfl (Nat.le_of_ble_eq_true rfl) rfl ?_
  show SW G l RX4 cX4_days 2 rm_X4_days wI 0 [some (.ref (ad G 0)), some (vi x1)] [] σ (f_X4_days x1 σ)
  unfold f_X4_days
  refine sw_iload_n (pc' := 1) dX4_days_0 rfl rfl ?_
  refine sw_iconst (pc' := 2) dX4_days_1 rfl ?_
  refine sw_bipush (pc' := 4) dX4_days_2 rfl rfl ?_
  refine sw_callSB (pc' := 7) (As := [vi x1, vi 0, vi 30]) (rest := []) dX4_days_4 cs_X4_46 (m_X4_within x1 0 30 σ) rfl rfl rfl rfl rfl (fun v4 s4 => ?_)
  refine sw_bif_ne (tgt := 12) (pc' := 10) dX4_days_7 (by decide) rfl (fun _ => ?_) (fun _ => ?_)
  · refine sw_aload_n (pc' := 13) dX4_days_12 rfl rfl ?_
    refine sw_getr (pc' := 16) dX4_days_13 fl_X4_10 (tbk_0) rfl rfl ?_
    refine sw_getn (pc' := 19) dX4_days_16 fl_X4_89 (tbk_1) rfl rfl ?_
    refine sw_iload_n (pc' := 20) dX4_days_19 rfl rfl ?_
    refine sw_iadd (pc' := 21) dX4_days_20 rfl ?_
    refine sw_sipush (pc' := 24) dX4_days_21 rfl rfl ?_
    refine sw_icmp_lt (tgt := 32) (pc' := 27) dX4_days_24 (by decide) rfl (fun _ => ?_) (fun _ => ?_)
    · refine sw_aload_n (pc' := 33) dX4_days_32 rfl rfl ?_
      refine sw_getr (pc' := 36) dX4_days_33 fl_X4_10 (tbk_0) rfl rfl ?_
      refine sw_iload_n (pc' := 37) dX4_days_36 rfl rfl ?_
      refine sw_callVI (pc' := 40) (As := [vi x1]) (rest := []) dX4_days_37 cv_X4_169 (tbk_1) (m_X2_passDays 1 x1 (isSq_1) s4) rfl rfl rfl rfl rfl (fun v37 s37 => ?_)
      exact sw_iret dX4_days_40
    · refine sw_bipush (pc' := 29) dX4_days_27 rfl rfl ?_
      refine sw_goto (pc' := 40) dX4_days_29 (by decide) ?_
      exact sw_iret dX4_days_40
  · refine sw_iconst (pc' := 11) dX4_days_10 rfl ?_
    exact sw_iret dX4_days_11
def rm_X4_isRunAhead : Room := { frames := 1, cells := 0, slots := 0, locals := 22 }
def f_X4_isRunAhead (x0 : Int) (σ : St) : Option (Bool × St) :=
  bI (f_X4_within x0 0 60 σ) fun v4 s4 => some (v4, s4)
set_option maxRecDepth 20000 in
theorem m_X4_isRunAhead (x0 : Int)  (σ : St) : MT G l yX4_isRunAhead cX4_isRunAhead 1 (some .boolean) rm_X4_isRunAhead [vi x0] wB σ (f_X4_isRunAhead x0 σ) := by
  refine mt_B (L := [some (vi x0)]) rfl (Nat.le_of_ble_eq_true rfl) rfl ?_
  show SW G l RX4 cX4_isRunAhead 1 rm_X4_isRunAhead wB 0 [some (vi x0)] [] σ (f_X4_isRunAhead x0 σ)
  unfold f_X4_isRunAhead
  refine sw_iload_n (pc' := 1) dX4_isRunAhead_0 rfl rfl ?_
  refine sw_iconst (pc' := 2) dX4_isRunAhead_1 rfl ?_
  refine sw_bipush (pc' := 4) dX4_isRunAhead_2 rfl rfl ?_
  refine sw_callSB (pc' := 7) (As := [vi x0, vi 0, vi 60]) (rest := []) dX4_isRunAhead_4 cs_X4_46 (m_X4_within x0 0 60 σ) rfl rfl rfl rfl rfl (fun v4 s4 => ?_)
  exact sw_bret dX4_isRunAhead_7
def rm_X4_runs : Room := { frames := 5, cells := 0, slots := 0, locals := 118 }
def f_X4_runs_95  (k41 : Int → Int → Int → Int → Int → Int → St → Option (Int × St)) (x1 x2 x3 x4 x6 t0 : Int) (σ : St) : Option (Int × St) :=
  k41 x1 x2 x3 x4 t0 (x6 + 1) σ
set_option maxRecDepth 20000 in
theorem s_X4_runs_95   (k41 : Int → Int → Int → Int → Int → Int → St → Option (Int × St)) (hk41 : ∀ (x1 x2 x3 x4 x5 x6 : Int) (σ : St), SW G l RX4 cX4_runs 8 rm_X4_runs wI 41 [some (.ref (ad G 0)), some (vi x1), some (vi x2), some (vi x3), some (vi x4), some (vi x5), some (vi x6), none] [] σ (k41 x1 x2 x3 x4 x5 x6 σ)) (x1 x2 x3 x4 x6 t0 : Int) (σ : St) : SW G l RX4 cX4_runs 8 rm_X4_runs wI 95 [some (.ref (ad G 0)), some (vi x1), some (vi x2), some (vi x3), some (vi x4), none, some (vi x6), none] [vi t0] σ (f_X4_runs_95 k41 x1 x2 x3 x4 x6 t0 σ) := by
  unfold f_X4_runs_95
  refine sw_istore (pc' := 97) (x := t0) (L' := [some (.ref (ad G 0)), some (vi x1), some (vi x2), some (vi x3), some (vi x4), some (vi t0), some (vi x6), none]) dX4_runs_95 rfl (by decide) rfl rfl ?_
  refine sw_iinc (pc' := 100) (x := x6) (L' := [some (.ref (ad G 0)), some (vi x1), some (vi x2), some (vi x3), some (vi x4), some (vi t0), some (vi (x6 + 1)), none]) dX4_runs_97 rfl (by decide) rfl rfl rfl ?_
  refine sw_goto (pc' := 41) dX4_runs_100 (by decide) ?_
  exact hk41 x1 x2 x3 x4 t0 (x6 + 1) σ
def f_X4_runs_93  (k41 : Int → Int → Int → Int → Int → Int → St → Option (Int × St)) (x1 x2 x3 x4 x5 x6 : Int) (σ : St) : Option (Int × St) :=
  f_X4_runs_95 k41 x1 x2 x3 x4 x6 x5 σ
set_option maxRecDepth 20000 in
theorem s_X4_runs_93   (k41 : Int → Int → Int → Int → Int → Int → St → Option (Int × St)) (hk41 : ∀ (x1 x2 x3 x4 x5 x6 : Int) (σ : St), SW G l RX4 cX4_runs 8 rm_X4_runs wI 41 [some (.ref (ad G 0)), some (vi x1), some (vi x2), some (vi x3), some (vi x4), some (vi x5), some (vi x6), none] [] σ (k41 x1 x2 x3 x4 x5 x6 σ)) (x1 x2 x3 x4 x5 x6 : Int) (σ : St) : SW G l RX4 cX4_runs 8 rm_X4_runs wI 93 [some (.ref (ad G 0)), some (vi x1), some (vi x2), some (vi x3), some (vi x4), some (vi x5), some (vi x6), none] [] σ (f_X4_runs_93 k41 x1 x2 x3 x4 x5 x6 σ) := by
  unfold f_X4_runs_93
  refine sw_iload (pc' := 95) dX4_runs_93 rfl rfl ?_
  refine sw_msk [true, true, true, true, true, false, true, false] rfl ?_
  exact s_X4_runs_95 k41 hk41 x1 x2 x3 x4 x6 x5 σ
def f_X4_runs_73  (k41 : Int → Int → Int → Int → Int → Int → St → Option (Int × St)) (x1 x2 x3 x5 x6 x7 t0 t1 : Int) (σ : St) : Option (Int × St) :=
  if 0 < wr x7 then
    if wr x5 = wr (-4) then
      f_X4_runs_95 k41 x1 x2 x3 (t0 + t1) x6 x6 σ
    else
      f_X4_runs_93 k41 x1 x2 x3 (t0 + t1) x5 x6 σ
  else
    f_X4_runs_93 k41 x1 x2 x3 (t0 + t1) x5 x6 σ
set_option maxRecDepth 20000 in
theorem s_X4_runs_73   (k41 : Int → Int → Int → Int → Int → Int → St → Option (Int × St)) (hk41 : ∀ (x1 x2 x3 x4 x5 x6 : Int) (σ : St), SW G l RX4 cX4_runs 8 rm_X4_runs wI 41 [some (.ref (ad G 0)), some (vi x1), some (vi x2), some (vi x3), some (vi x4), some (vi x5), some (vi x6), none] [] σ (k41 x1 x2 x3 x4 x5 x6 σ)) (x1 x2 x3 x5 x6 x7 t0 t1 : Int) (σ : St) : SW G l RX4 cX4_runs 8 rm_X4_runs wI 73 [some (.ref (ad G 0)), some (vi x1), some (vi x2), some (vi x3), none, some (vi x5), some (vi x6), some (vi x7)] [vi t1, vi t0] σ (f_X4_runs_73 k41 x1 x2 x3 x5 x6 x7 t0 t1 σ) := by
  unfold f_X4_runs_73
  refine sw_iadd (pc' := 74) dX4_runs_73 rfl ?_
  refine sw_istore (pc' := 76) (x := (t0 + t1)) (L' := [some (.ref (ad G 0)), some (vi x1), some (vi x2), some (vi x3), some (vi (t0 + t1)), some (vi x5), some (vi x6), some (vi x7)]) dX4_runs_74 rfl (by decide) rfl rfl ?_
  refine sw_iload (pc' := 78) dX4_runs_76 rfl rfl ?_
  refine sw_if_le (tgt := 93) (pc' := 81) dX4_runs_78 (by decide) rfl (fun _ => ?_) (fun _ => ?_)
  · refine sw_iload (pc' := 83) dX4_runs_81 rfl rfl ?_
    refine sw_bipush (pc' := 85) dX4_runs_83 rfl rfl ?_
    refine sw_icmp_ne (tgt := 93) (pc' := 88) dX4_runs_85 (by decide) rfl (fun _ => ?_) (fun _ => ?_)
    · refine sw_iload (pc' := 90) dX4_runs_88 rfl rfl ?_
      refine sw_goto (pc' := 95) dX4_runs_90 (by decide) ?_
      refine sw_msk [true, true, true, true, true, false, true, false] rfl ?_
      exact s_X4_runs_95 k41 hk41 x1 x2 x3 (t0 + t1) x6 x6 σ
    · refine sw_msk [true, true, true, true, true, true, true, false] rfl ?_
      exact s_X4_runs_93 k41 hk41 x1 x2 x3 (t0 + t1) x5 x6 σ
  · refine sw_msk [true, true, true, true, true, true, true, false] rfl ?_
    exact s_X4_runs_93 k41 hk41 x1 x2 x3 (t0 + t1) x5 x6 σ
def f_X4_runs_41   : Nat → Int → Int → Int → Int → Int → Int → St → Option (Int × St)
  | 0, _, _, _, _, _, _, _ => none
  | n + 1, x1, x2, x3, x4, x5, x6, σ =>
    if wr x1 < wr x6 then
      if wr x2 = 0 then
        some (x3, σ)
      else
        if wr x2 = 1 then
          bI (f_X2_agreeing 11 σ) fun v138 s138 => some (v138, s138)
        else
          if wr x2 = 2 then
            some (x4, σ)
          else
            some (x5, σ)
    else
      bI (f_X2_passDay 11 σ) fun v51 s51 => if 0 < wr v51 then
        f_X4_runs_73 (f_X4_runs_41 n) x1 x2 (x3 + v51) x5 x6 v51 x4 1 s51
      else
        f_X4_runs_73 (f_X4_runs_41 n) x1 x2 (x3 + v51) x5 x6 v51 x4 0 s51
set_option maxRecDepth 20000 in
theorem s_X4_runs_41     : ∀ (n : Nat) (x1 x2 x3 x4 x5 x6 : Int) (σ : St), SW G l RX4 cX4_runs 8 rm_X4_runs wI 41 [some (.ref (ad G 0)), some (vi x1), some (vi x2), some (vi x3), some (vi x4), some (vi x5), some (vi x6), none] [] σ (f_X4_runs_41 n x1 x2 x3 x4 x5 x6 σ) := by
  intro n
  induction n with
  | zero => intro x1 x2 x3 x4 x5 x6 σ; exact sw_none
  | succ n ih =>
    intro x1 x2 x3 x4 x5 x6 σ
    rw [f_X4_runs_41]
    refine sw_iload (pc' := 43) dX4_runs_41 rfl rfl ?_
    refine sw_iload_n (pc' := 44) dX4_runs_43 rfl rfl ?_
    refine sw_icmp_gt (tgt := 103) (pc' := 47) dX4_runs_44 (by decide) rfl (fun _ => ?_) (fun _ => ?_)
    · refine sw_iload_n (pc' := 104) dX4_runs_103 rfl rfl ?_
      refine sw_case (fun hc0 => ?_) (fun hc0 => ?_)
      · refine sw_tin (tgt := 132) dX4_runs_104 hc0 (by decide) rfl (by decide) ?_
        refine sw_iload_n (pc' := 133) dX4_runs_132 rfl rfl ?_
        exact sw_iret dX4_runs_133
      · refine sw_case (fun hc1 => ?_) (fun hc1 => ?_)
        · refine sw_tin (tgt := 134) dX4_runs_104 hc1 (by decide) rfl (by decide) ?_
          refine sw_aload_n (pc' := 135) dX4_runs_134 rfl rfl ?_
          refine sw_getr (pc' := 138) dX4_runs_135 fl_X4_16 (tbk_0) rfl rfl ?_
          refine sw_callVI (pc' := 141) (As := []) (rest := []) dX4_runs_138 cv_X4_98 (tbk_11) (m_X2_agreeing 11 (isSq_11) σ) rfl rfl rfl rfl rfl (fun v138 s138 => ?_)
          exact sw_iret dX4_runs_141
        · refine sw_case (fun hc2 => ?_) (fun hc2 => ?_)
          · refine sw_tin (tgt := 142) dX4_runs_104 hc2 (by decide) rfl (by decide) ?_
            refine sw_iload (pc' := 144) dX4_runs_142 rfl rfl ?_
            exact sw_iret dX4_runs_144
          · refine sw_tout (tgt := 145) dX4_runs_104 (by omega) (by decide) ?_
            refine sw_iload (pc' := 147) dX4_runs_145 rfl rfl ?_
            exact sw_iret dX4_runs_147
    · refine sw_aload_n (pc' := 48) dX4_runs_47 rfl rfl ?_
      refine sw_getr (pc' := 51) dX4_runs_48 fl_X4_16 (tbk_0) rfl rfl ?_
      refine sw_callVI (pc' := 54) (As := []) (rest := []) dX4_runs_51 cv_X4_175 (tbk_11) (m_X2_passDay 11 (isSq_11) σ) rfl rfl rfl rfl rfl (fun v51 s51 => ?_)
      refine sw_istore (pc' := 56) (x := v51) (L' := [some (.ref (ad G 0)), some (vi x1), some (vi x2), some (vi x3), some (vi x4), some (vi x5), some (vi x6), some (vi v51)]) dX4_runs_54 rfl (by decide) rfl rfl ?_
      refine sw_iload_n (pc' := 57) dX4_runs_56 rfl rfl ?_
      refine sw_iload (pc' := 59) dX4_runs_57 rfl rfl ?_
      refine sw_iadd (pc' := 60) dX4_runs_59 rfl ?_
      refine sw_istore_n (pc' := 61) (x := (x3 + v51)) (L' := [some (.ref (ad G 0)), some (vi x1), some (vi x2), some (vi (x3 + v51)), some (vi x4), some (vi x5), some (vi x6), some (vi v51)]) dX4_runs_60 rfl (by decide) rfl rfl ?_
      refine sw_iload (pc' := 63) dX4_runs_61 rfl rfl ?_
      refine sw_iload (pc' := 65) dX4_runs_63 rfl rfl ?_
      refine sw_if_le (tgt := 72) (pc' := 68) dX4_runs_65 (by decide) rfl (fun _ => ?_) (fun _ => ?_)
      · refine sw_iconst (pc' := 69) dX4_runs_68 rfl ?_
        refine sw_goto (pc' := 73) dX4_runs_69 (by decide) ?_
        refine sw_msk [true, true, true, true, false, true, true, true] rfl ?_
        exact s_X4_runs_73 (f_X4_runs_41 n) (ih) x1 x2 (x3 + v51) x5 x6 v51 x4 1 s51
      · refine sw_iconst (pc' := 73) dX4_runs_72 rfl ?_
        refine sw_msk [true, true, true, true, false, true, true, true] rfl ?_
        exact s_X4_runs_73 (f_X4_runs_41 n) (ih) x1 x2 (x3 + v51) x5 x6 v51 x4 0 s51
def f_X4_runs (x1 : Int) (x2 : Int) (σ : St) : Option (Int × St) :=
  bI (f_X4_isRunAhead x1 σ) fun v1 s1 => if v1 then
    bI (f_X4_within x2 0 3 s1) fun v10 s10 => if v10 then
      bV (f_X2_copyFrom 11 1 s10) fun s26 => f_X4_runs_41 FU x1 x2 0 0 (-4) 1 s26
    else
      some ((-1), s10)
  else
    some ((-1), s1)
set_option maxRecDepth 20000 in
theorem m_X4_runs (x1 : Int) (x2 : Int)  (σ : St) : MT G l yX4_runs cX4_runs 8 (some .int) rm_X4_runs [.ref (ad G 0), vi x1, vi x2] wI σ (f_X4_runs x1 x2 σ) := by
  refine mt_I (L := [some (.ref (ad G 0)), some (vi x1), some (vi x2), none, none, none, none, none]) rfl (Nat.le_of_ble_eq_true rfl) rfl ?_
  show SW G l RX4 cX4_runs 8 rm_X4_runs wI 0 [some (.ref (ad G 0)), some (vi x1), some (vi x2), none, none, none, none, none] [] σ (f_X4_runs x1 x2 σ)
  unfold f_X4_runs
  refine sw_iload_n (pc' := 1) dX4_runs_0 rfl rfl ?_
  refine sw_callSB (pc' := 4) (As := [vi x1]) (rest := []) dX4_runs_1 cs_X4_172 (m_X4_isRunAhead x1 σ) rfl rfl rfl rfl rfl (fun v1 s1 => ?_)
  refine sw_bif_eq (tgt := 16) (pc' := 7) dX4_runs_4 (by decide) rfl (fun _ => ?_) (fun _ => ?_)
  · refine sw_iload_n (pc' := 8) dX4_runs_7 rfl rfl ?_
    refine sw_iconst (pc' := 9) dX4_runs_8 rfl ?_
    refine sw_iconst (pc' := 10) dX4_runs_9 rfl ?_
    refine sw_callSB (pc' := 13) (As := [vi x2, vi 0, vi 3]) (rest := []) dX4_runs_10 cs_X4_46 (m_X4_within x2 0 3 s1) rfl rfl rfl rfl rfl (fun v10 s10 => ?_)
    refine sw_bif_ne (tgt := 18) (pc' := 16) dX4_runs_13 (by decide) rfl (fun _ => ?_) (fun _ => ?_)
    · refine sw_aload_n (pc' := 19) dX4_runs_18 rfl rfl ?_
      refine sw_getr (pc' := 22) dX4_runs_19 fl_X4_16 (tbk_0) rfl rfl ?_
      refine sw_aload_n (pc' := 23) dX4_runs_22 rfl rfl ?_
      refine sw_getr (pc' := 26) dX4_runs_23 fl_X4_10 (tbk_0) rfl rfl ?_
      refine sw_callVV (pc' := 29) (As := [.ref (ad G 1)]) (rest := []) dX4_runs_26 cv_X4_71 (tbk_11) (m_X2_copyFrom 11 1 (isSq_11) (isSq_1) s10) rfl rfl rfl rfl rfl (fun s26 => ?_)
      refine sw_iconst (pc' := 30) dX4_runs_29 rfl ?_
      refine sw_istore_n (pc' := 31) (x := 0) (L' := [some (.ref (ad G 0)), some (vi x1), some (vi x2), some (vi 0), none, none, none, none]) dX4_runs_30 rfl (by decide) rfl rfl ?_
      refine sw_iconst (pc' := 32) dX4_runs_31 rfl ?_
      refine sw_istore (pc' := 34) (x := 0) (L' := [some (.ref (ad G 0)), some (vi x1), some (vi x2), some (vi 0), some (vi 0), none, none, none]) dX4_runs_32 rfl (by decide) rfl rfl ?_
      refine sw_bipush (pc' := 36) dX4_runs_34 rfl rfl ?_
      refine sw_istore (pc' := 38) (x := (-4)) (L' := [some (.ref (ad G 0)), some (vi x1), some (vi x2), some (vi 0), some (vi 0), some (vi (-4)), none, none]) dX4_runs_36 rfl (by decide) rfl rfl ?_
      refine sw_iconst (pc' := 39) dX4_runs_38 rfl ?_
      refine sw_istore (pc' := 41) (x := 1) (L' := [some (.ref (ad G 0)), some (vi x1), some (vi x2), some (vi 0), some (vi 0), some (vi (-4)), some (vi 1), none]) dX4_runs_39 rfl (by decide) rfl rfl ?_
      exact s_X4_runs_41 FU x1 x2 0 0 (-4) 1 s26
    · refine sw_iconst (pc' := 17) dX4_runs_16 rfl ?_
      exact sw_iret dX4_runs_17
  · refine sw_iconst (pc' := 17) dX4_runs_16 rfl ?_
    exact sw_iret dX4_runs_17
def rm_X4_isChoice : Room := { frames := 1, cells := 0, slots := 0, locals := 22 }
def f_X4_isChoice (x0 : Int) (σ : St) : Option (Bool × St) :=
  bI (f_X4_within x0 0 1 σ) fun v3 s3 => some (v3, s3)
set_option maxRecDepth 20000 in
theorem m_X4_isChoice (x0 : Int)  (σ : St) : MT G l yX4_isChoice cX4_isChoice 1 (some .boolean) rm_X4_isChoice [vi x0] wB σ (f_X4_isChoice x0 σ) := by
  refine mt_B (L := [some (vi x0)]) rfl (Nat.le_of_ble_eq_true rfl) rfl ?_
  show SW G l RX4 cX4_isChoice 1 rm_X4_isChoice wB 0 [some (vi x0)] [] σ (f_X4_isChoice x0 σ)
  unfold f_X4_isChoice
  refine sw_iload_n (pc' := 1) dX4_isChoice_0 rfl rfl ?_
  refine sw_iconst (pc' := 2) dX4_isChoice_1 rfl ?_
  refine sw_iconst (pc' := 3) dX4_isChoice_2 rfl ?_
  refine sw_callSB (pc' := 6) (As := [vi x0, vi 0, vi 1]) (rest := []) dX4_isChoice_3 cs_X4_46 (m_X4_within x0 0 1 σ) rfl rfl rfl rfl rfl (fun v3 s3 => ?_)
  exact sw_bret dX4_isChoice_6
def rm_X4_ahead : Room := { frames := 6, cells := 0, slots := 0, locals := 143 }
def f_X4_ahead (x1 : Int) (x2 : Int) (x3 : Int) (σ : St) : Option (Int × St) :=
  bI (f_X4_isRider x1 σ) fun v2 s2 => if v2 then
    bI (f_X4_isRunAhead x2 s2) fun v9 s9 => if v9 then
      bI (f_X4_isChoice x3 s9) fun v16 s16 => if v16 then
        bV (f_X2_copyFrom 11 1 s16) fun s32 => bI (f_X2_passDays 11 x2 s32) fun v40 s40 => if wr x3 = 0 then
          bV (ld s40 13 5 x1) fun v56 => some (v56, s40)
        else
          bI (f_X2_readingOf 11 x1 s40) fun v65 s65 => some (v65, s65)
      else
        some ((-1), s16)
    else
      some ((-1), s9)
  else
    some ((-1), s2)
set_option maxRecDepth 20000 in
theorem m_X4_ahead (x1 : Int) (x2 : Int) (x3 : Int)  (σ : St) : MT G l yX4_ahead cX4_ahead 4 (some .int) rm_X4_ahead [.ref (ad G 0), vi x1, vi x2, vi x3] wI σ (f_X4_ahead x1 x2 x3 σ) := by
  refine mt_I (L := [some (.ref (ad G 0)), some (vi x1), some (vi x2), some (vi x3)]) rfl (Nat.le_of_ble_eq_true rfl) rfl ?_
  show SW G l RX4 cX4_ahead 4 rm_X4_ahead wI 0 [some (.ref (ad G 0)), some (vi x1), some (vi x2), some (vi x3)] [] σ (f_X4_ahead x1 x2 x3 σ)
  unfold f_X4_ahead
  refine sw_aload_n (pc' := 1) dX4_ahead_0 rfl rfl ?_
  refine sw_iload_n (pc' := 2) dX4_ahead_1 rfl rfl ?_
  refine sw_callVB (pc' := 5) (As := [vi x1]) (rest := []) dX4_ahead_2 cv_X4_105 (tbk_0) (m_X4_isRider x1 σ) rfl rfl rfl rfl rfl (fun v2 s2 => ?_)
  refine sw_bif_eq (tgt := 22) (pc' := 8) dX4_ahead_5 (by decide) rfl (fun _ => ?_) (fun _ => ?_)
  · refine sw_iload_n (pc' := 9) dX4_ahead_8 rfl rfl ?_
    refine sw_callSB (pc' := 12) (As := [vi x2]) (rest := []) dX4_ahead_9 cs_X4_172 (m_X4_isRunAhead x2 s2) rfl rfl rfl rfl rfl (fun v9 s9 => ?_)
    refine sw_bif_eq (tgt := 22) (pc' := 15) dX4_ahead_12 (by decide) rfl (fun _ => ?_) (fun _ => ?_)
    · refine sw_iload_n (pc' := 16) dX4_ahead_15 rfl rfl ?_
      refine sw_callSB (pc' := 19) (As := [vi x3]) (rest := []) dX4_ahead_16 cs_X4_178 (m_X4_isChoice x3 s9) rfl rfl rfl rfl rfl (fun v16 s16 => ?_)
      refine sw_bif_ne (tgt := 24) (pc' := 22) dX4_ahead_19 (by decide) rfl (fun _ => ?_) (fun _ => ?_)
      · refine sw_aload_n (pc' := 25) dX4_ahead_24 rfl rfl ?_
        refine sw_getr (pc' := 28) dX4_ahead_25 fl_X4_16 (tbk_0) rfl rfl ?_
        refine sw_aload_n (pc' := 29) dX4_ahead_28 rfl rfl ?_
        refine sw_getr (pc' := 32) dX4_ahead_29 fl_X4_10 (tbk_0) rfl rfl ?_
        refine sw_callVV (pc' := 35) (As := [.ref (ad G 1)]) (rest := []) dX4_ahead_32 cv_X4_71 (tbk_11) (m_X2_copyFrom 11 1 (isSq_11) (isSq_1) s16) rfl rfl rfl rfl rfl (fun s32 => ?_)
        refine sw_aload_n (pc' := 36) dX4_ahead_35 rfl rfl ?_
        refine sw_getr (pc' := 39) dX4_ahead_36 fl_X4_16 (tbk_0) rfl rfl ?_
        refine sw_iload_n (pc' := 40) dX4_ahead_39 rfl rfl ?_
        refine sw_callVI (pc' := 43) (As := [vi x2]) (rest := []) dX4_ahead_40 cv_X4_169 (tbk_11) (m_X2_passDays 11 x2 (isSq_11) s32) rfl rfl rfl rfl rfl (fun v40 s40 => ?_)
        refine sw_pop (pc' := 44) dX4_ahead_43 rfl rfl ?_
        refine sw_iload_n (pc' := 45) dX4_ahead_44 rfl rfl ?_
        refine sw_if_ne (tgt := 60) (pc' := 48) dX4_ahead_45 (by decide) rfl (fun _ => ?_) (fun _ => ?_)
        · refine sw_aload_n (pc' := 49) dX4_ahead_48 rfl rfl ?_
          refine sw_getr (pc' := 52) dX4_ahead_49 fl_X4_16 (tbk_0) rfl rfl ?_
          refine sw_getr (pc' := 55) dX4_ahead_52 fl_X4_112 (tbk_11) rfl rfl ?_
          refine sw_iload_n (pc' := 56) dX4_ahead_55 rfl rfl ?_
          refine sw_iald (pc' := 57) dX4_ahead_56 (tbk_13) rfl (fun v56 => ?_)
          refine sw_goto (pc' := 68) dX4_ahead_57 (by decide) ?_
          exact sw_iret dX4_ahead_68
        · refine sw_aload_n (pc' := 61) dX4_ahead_60 rfl rfl ?_
          refine sw_getr (pc' := 64) dX4_ahead_61 fl_X4_16 (tbk_0) rfl rfl ?_
          refine sw_iload_n (pc' := 65) dX4_ahead_64 rfl rfl ?_
          refine sw_callVI (pc' := 68) (As := [vi x1]) (rest := []) dX4_ahead_65 cv_X4_118 (tbk_11) (m_X2_readingOf 11 x1 (isSq_11) s40) rfl rfl rfl rfl rfl (fun v65 s65 => ?_)
          exact sw_iret dX4_ahead_68
      · refine sw_iconst (pc' := 23) dX4_ahead_22 rfl ?_
        exact sw_iret dX4_ahead_23
    · refine sw_iconst (pc' := 23) dX4_ahead_22 rfl ?_
      exact sw_iret dX4_ahead_23
  · refine sw_iconst (pc' := 23) dX4_ahead_22 rfl ?_
    exact sw_iret dX4_ahead_23
def rm_X4_believed : Room := { frames := 3, cells := 0, slots := 0, locals := 71 }
def f_X4_believed (x1 : Int) (x2 : Int) (σ : St) : Option (Int × St) :=
  bI (f_X4_isRider x1 σ) fun v2 s2 => if v2 then
    bI (f_X4_isDay x2 s2) fun v9 s9 => if v9 then
      bI (f_X2_beliefOf 1 x1 x2 s9) fun v21 s21 => some (v21, s21)
    else
      some ((-1), s9)
  else
    some ((-1), s2)
set_option maxRecDepth 20000 in
theorem m_X4_believed (x1 : Int) (x2 : Int)  (σ : St) : MT G l yX4_believed cX4_believed 3 (some .int) rm_X4_believed [.ref (ad G 0), vi x1, vi x2] wI σ (f_X4_believed x1 x2 σ) := by
  refine mt_I (L := [some (.ref (ad G 0)), some (vi x1), some (vi x2)]) rfl (Nat.le_of_ble_eq_true rfl) rfl ?_
  show SW G l RX4 cX4_believed 3 rm_X4_believed wI 0 [some (.ref (ad G 0)), some (vi x1), some (vi x2)] [] σ (f_X4_believed x1 x2 σ)
  unfold f_X4_believed
  refine sw_aload_n (pc' := 1) dX4_believed_0 rfl rfl ?_
  refine sw_iload_n (pc' := 2) dX4_believed_1 rfl rfl ?_
  refine sw_callVB (pc' := 5) (As := [vi x1]) (rest := []) dX4_believed_2 cv_X4_105 (tbk_0) (m_X4_isRider x1 σ) rfl rfl rfl rfl rfl (fun v2 s2 => ?_)
  refine sw_bif_eq (tgt := 27) (pc' := 8) dX4_believed_5 (by decide) rfl (fun _ => ?_) (fun _ => ?_)
  · refine sw_iload_n (pc' := 9) dX4_believed_8 rfl rfl ?_
    refine sw_callSB (pc' := 12) (As := [vi x2]) (rest := []) dX4_believed_9 cs_X4_151 (m_X4_isDay x2 s2) rfl rfl rfl rfl rfl (fun v9 s9 => ?_)
    refine sw_bif_eq (tgt := 27) (pc' := 15) dX4_believed_12 (by decide) rfl (fun _ => ?_) (fun _ => ?_)
    · refine sw_aload_n (pc' := 16) dX4_believed_15 rfl rfl ?_
      refine sw_getr (pc' := 19) dX4_believed_16 fl_X4_10 (tbk_0) rfl rfl ?_
      refine sw_iload_n (pc' := 20) dX4_believed_19 rfl rfl ?_
      refine sw_iload_n (pc' := 21) dX4_believed_20 rfl rfl ?_
      refine sw_callVI (pc' := 24) (As := [vi x1, vi x2]) (rest := []) dX4_believed_21 cv_X4_122 (tbk_1) (m_X2_beliefOf 1 x1 x2 (isSq_1) s9) rfl rfl rfl rfl rfl (fun v21 s21 => ?_)
      refine sw_goto (pc' := 28) dX4_believed_24 (by decide) ?_
      exact sw_iret dX4_believed_28
    · refine sw_iconst (pc' := 28) dX4_believed_27 rfl ?_
      exact sw_iret dX4_believed_28
  · refine sw_iconst (pc' := 28) dX4_believed_27 rfl ?_
    exact sw_iret dX4_believed_28
def rm_X4_agrees : Room := { frames := 5, cells := 0, slots := 0, locals := 118 }
def f_X4_agrees_23   : Nat → Int → Int → St → Option (Int × St)
  | 0, _, _, _ => none
  | n + 1, x1, x2, σ =>
    if wr 60 < wr x2 then
      some ((-4), σ)
    else
      bI (f_X2_isContent 11 x1 σ) fun v34 s34 => if v34 then
        some (x2, s34)
      else
        bI (f_X2_passDay 11 s34) fun v46 s46 => (f_X4_agrees_23 n) x1 (x2 + 1) s46
set_option maxRecDepth 20000 in
theorem s_X4_agrees_23     : ∀ (n : Nat) (x1 x2 : Int) (σ : St), SW G l RX4 cX4_agrees 3 rm_X4_agrees wI 23 [some (.ref (ad G 0)), some (vi x1), some (vi x2)] [] σ (f_X4_agrees_23 n x1 x2 σ) := by
  intro n
  induction n with
  | zero => intro x1 x2 σ; exact sw_none
  | succ n ih =>
    intro x1 x2 σ
    rw [f_X4_agrees_23]
    refine sw_iload_n (pc' := 24) dX4_agrees_23 rfl rfl ?_
    refine sw_bipush (pc' := 26) dX4_agrees_24 rfl rfl ?_
    refine sw_icmp_gt (tgt := 56) (pc' := 29) dX4_agrees_26 (by decide) rfl (fun _ => ?_) (fun _ => ?_)
    · refine sw_bipush (pc' := 58) dX4_agrees_56 rfl rfl ?_
      exact sw_iret dX4_agrees_58
    · refine sw_aload_n (pc' := 30) dX4_agrees_29 rfl rfl ?_
      refine sw_getr (pc' := 33) dX4_agrees_30 fl_X4_16 (tbk_0) rfl rfl ?_
      refine sw_iload_n (pc' := 34) dX4_agrees_33 rfl rfl ?_
      refine sw_callVB (pc' := 37) (As := [vi x1]) (rest := []) dX4_agrees_34 cv_X4_181 (tbk_11) (m_X2_isContent 11 x1 (isSq_11) σ) rfl rfl rfl rfl rfl (fun v34 s34 => ?_)
      refine sw_bif_eq (tgt := 42) (pc' := 40) dX4_agrees_37 (by decide) rfl (fun _ => ?_) (fun _ => ?_)
      · refine sw_iload_n (pc' := 41) dX4_agrees_40 rfl rfl ?_
        exact sw_iret dX4_agrees_41
      · refine sw_aload_n (pc' := 43) dX4_agrees_42 rfl rfl ?_
        refine sw_getr (pc' := 46) dX4_agrees_43 fl_X4_16 (tbk_0) rfl rfl ?_
        refine sw_callVI (pc' := 49) (As := []) (rest := []) dX4_agrees_46 cv_X4_175 (tbk_11) (m_X2_passDay 11 (isSq_11) s34) rfl rfl rfl rfl rfl (fun v46 s46 => ?_)
        refine sw_pop (pc' := 50) dX4_agrees_49 rfl rfl ?_
        refine sw_iinc (pc' := 53) (x := x2) (L' := [some (.ref (ad G 0)), some (vi x1), some (vi (x2 + 1))]) dX4_agrees_50 rfl (by decide) rfl rfl rfl ?_
        refine sw_goto (pc' := 23) dX4_agrees_53 (by decide) ?_
        exact (ih) x1 (x2 + 1) s46
def f_X4_agrees (x1 : Int) (σ : St) : Option (Int × St) :=
  bI (f_X4_isRider x1 σ) fun v2 s2 => if v2 then
    bV (f_X2_copyFrom 11 1 s2) fun s18 => f_X4_agrees_23 FU x1 0 s18
  else
    some ((-1), s2)
set_option maxRecDepth 20000 in
theorem m_X4_agrees (x1 : Int)  (σ : St) : MT G l yX4_agrees cX4_agrees 3 (some .int) rm_X4_agrees [.ref (ad G 0), vi x1] wI σ (f_X4_agrees x1 σ) := by
  refine mt_I (L := [some (.ref (ad G 0)), some (vi x1), none]) rfl (Nat.le_of_ble_eq_true rfl) rfl ?_
  show SW G l RX4 cX4_agrees 3 rm_X4_agrees wI 0 [some (.ref (ad G 0)), some (vi x1), none] [] σ (f_X4_agrees x1 σ)
  unfold f_X4_agrees
  refine sw_aload_n (pc' := 1) dX4_agrees_0 rfl rfl ?_
  refine sw_iload_n (pc' := 2) dX4_agrees_1 rfl rfl ?_
  refine sw_callVB (pc' := 5) (As := [vi x1]) (rest := []) dX4_agrees_2 cv_X4_105 (tbk_0) (m_X4_isRider x1 σ) rfl rfl rfl rfl rfl (fun v2 s2 => ?_)
  refine sw_bif_ne (tgt := 10) (pc' := 8) dX4_agrees_5 (by decide) rfl (fun _ => ?_) (fun _ => ?_)
  · refine sw_aload_n (pc' := 11) dX4_agrees_10 rfl rfl ?_
    refine sw_getr (pc' := 14) dX4_agrees_11 fl_X4_16 (tbk_0) rfl rfl ?_
    refine sw_aload_n (pc' := 15) dX4_agrees_14 rfl rfl ?_
    refine sw_getr (pc' := 18) dX4_agrees_15 fl_X4_10 (tbk_0) rfl rfl ?_
    refine sw_callVV (pc' := 21) (As := [.ref (ad G 1)]) (rest := []) dX4_agrees_18 cv_X4_71 (tbk_11) (m_X2_copyFrom 11 1 (isSq_11) (isSq_1) s2) rfl rfl rfl rfl rfl (fun s18 => ?_)
    refine sw_iconst (pc' := 22) dX4_agrees_21 rfl ?_
    refine sw_istore_n (pc' := 23) (x := 0) (L' := [some (.ref (ad G 0)), some (vi x1), some (vi 0)]) dX4_agrees_22 rfl (by decide) rfl rfl ?_
    exact s_X4_agrees_23 FU x1 0 s18
  · refine sw_iconst (pc' := 9) dX4_agrees_8 rfl ?_
    exact sw_iret dX4_agrees_9
def rm_X4_pose : Room := { frames := 3, cells := 0, slots := 0, locals := 62 }
def f_X4_pose_64  (k19 : Int → Int → Int → St → Option (Int × St)) (x1 x2 x3 : Int) (σ : St) : Option (Int × St) :=
  k19 x1 x2 (x3 + 1) σ
set_option maxRecDepth 20000 in
theorem s_X4_pose_64   (k19 : Int → Int → Int → St → Option (Int × St)) (hk19 : ∀ (x1 x2 x3 : Int) (σ : St), SW G l RX4 cX4_pose 4 rm_X4_pose wI 19 [some (.ref (ad G 0)), some (vi x1), some (vi x2), some (vi x3)] [] σ (k19 x1 x2 x3 σ)) (x1 x2 x3 : Int) (σ : St) : SW G l RX4 cX4_pose 4 rm_X4_pose wI 64 [some (.ref (ad G 0)), some (vi x1), some (vi x2), some (vi x3)] [] σ (f_X4_pose_64 k19 x1 x2 x3 σ) := by
  unfold f_X4_pose_64
  refine sw_iinc (pc' := 67) (x := x3) (L' := [some (.ref (ad G 0)), some (vi x1), some (vi x2), some (vi (x3 + 1))]) dX4_pose_64 rfl (by decide) rfl rfl rfl ?_
  refine sw_goto (pc' := 19) dX4_pose_67 (by decide) ?_
  exact hk19 x1 x2 (x3 + 1) σ
def f_X4_pose_19   : Nat → Int → Int → Int → St → Option (Int × St)
  | 0, _, _, _, _ => none
  | n + 1, x1, x2, x3, σ =>
    if wr x3 < wr 16 then
      bV (ld σ 2 5 x1) fun v33 => bI (f_X4_reading v33 x3 σ) fun v35 s35 => if wr v35 = wr x2 then
        bV (ld s35 4 5 x1) fun v55 => bI (f_X2_holds 1 x3 v55 s35) fun v56 s56 => if v56 then
          some (x3, s56)
        else
          f_X4_pose_64 (f_X4_pose_19 n) x1 x2 x3 s56
      else
        f_X4_pose_64 (f_X4_pose_19 n) x1 x2 x3 s35
    else
      some ((-4), σ)
set_option maxRecDepth 20000 in
theorem s_X4_pose_19     : ∀ (n : Nat) (x1 x2 x3 : Int) (σ : St), SW G l RX4 cX4_pose 4 rm_X4_pose wI 19 [some (.ref (ad G 0)), some (vi x1), some (vi x2), some (vi x3)] [] σ (f_X4_pose_19 n x1 x2 x3 σ) := by
  intro n
  induction n with
  | zero => intro x1 x2 x3 σ; exact sw_none
  | succ n ih =>
    intro x1 x2 x3 σ
    rw [f_X4_pose_19]
    refine sw_iload_n (pc' := 20) dX4_pose_19 rfl rfl ?_
    refine sw_bipush (pc' := 22) dX4_pose_20 rfl rfl ?_
    refine sw_icmp_ge (tgt := 70) (pc' := 25) dX4_pose_22 (by decide) rfl (fun _ => ?_) (fun _ => ?_)
    · refine sw_aload_n (pc' := 26) dX4_pose_25 rfl rfl ?_
      refine sw_getr (pc' := 29) dX4_pose_26 fl_X4_10 (tbk_0) rfl rfl ?_
      refine sw_getr (pc' := 32) dX4_pose_29 fl_X4_108 (tbk_1) rfl rfl ?_
      refine sw_iload_n (pc' := 33) dX4_pose_32 rfl rfl ?_
      refine sw_iald (pc' := 34) dX4_pose_33 (tbk_2) rfl (fun v33 => ?_)
      refine sw_iload_n (pc' := 35) dX4_pose_34 rfl rfl ?_
      refine sw_callSI (pc' := 38) (As := [vi v33, vi x3]) (rest := []) dX4_pose_35 cs_X4_184 (m_X4_reading v33 x3 σ) rfl rfl rfl rfl rfl (fun v35 s35 => ?_)
      refine sw_iload_n (pc' := 39) dX4_pose_38 rfl rfl ?_
      refine sw_icmp_ne (tgt := 64) (pc' := 42) dX4_pose_39 (by decide) rfl (fun _ => ?_) (fun _ => ?_)
      · refine sw_aload_n (pc' := 43) dX4_pose_42 rfl rfl ?_
        refine sw_getr (pc' := 46) dX4_pose_43 fl_X4_10 (tbk_0) rfl rfl ?_
        refine sw_iload_n (pc' := 47) dX4_pose_46 rfl rfl ?_
        refine sw_aload_n (pc' := 48) dX4_pose_47 rfl rfl ?_
        refine sw_getr (pc' := 51) dX4_pose_48 fl_X4_10 (tbk_0) rfl rfl ?_
        refine sw_getr (pc' := 54) dX4_pose_51 fl_X4_115 (tbk_1) rfl rfl ?_
        refine sw_iload_n (pc' := 55) dX4_pose_54 rfl rfl ?_
        refine sw_iald (pc' := 56) dX4_pose_55 (tbk_4) rfl (fun v55 => ?_)
        refine sw_callVB (pc' := 59) (As := [vi x3, vi v55]) (rest := []) dX4_pose_56 cv_X4_126 (tbk_1) (m_X2_holds 1 x3 v55 (isSq_1) s35) rfl rfl rfl rfl rfl (fun v56 s56 => ?_)
        refine sw_bif_eq (tgt := 64) (pc' := 62) dX4_pose_59 (by decide) rfl (fun _ => ?_) (fun _ => ?_)
        · refine sw_iload_n (pc' := 63) dX4_pose_62 rfl rfl ?_
          exact sw_iret dX4_pose_63
        · exact s_X4_pose_64 (f_X4_pose_19 n) (ih) x1 x2 x3 s56
      · exact s_X4_pose_64 (f_X4_pose_19 n) (ih) x1 x2 x3 s35
    · refine sw_bipush (pc' := 72) dX4_pose_70 rfl rfl ?_
      exact sw_iret dX4_pose_72
def f_X4_pose (x1 : Int) (x2 : Int) (σ : St) : Option (Int × St) :=
  bI (f_X4_isRider x1 σ) fun v2 s2 => if v2 then
    bI (f_X4_isEnd x2 s2) fun v9 s9 => if v9 then
      f_X4_pose_19 FU x1 x2 0 s9
    else
      some ((-1), s9)
  else
    some ((-1), s2)
set_option maxRecDepth 20000 in
theorem m_X4_pose (x1 : Int) (x2 : Int)  (σ : St) : MT G l yX4_pose cX4_pose 4 (some .int) rm_X4_pose [.ref (ad G 0), vi x1, vi x2] wI σ (f_X4_pose x1 x2 σ) := by
  refine mt_I (L := [some (.ref (ad G 0)), some (vi x1), some (vi x2), none]) rfl (Nat.le_of_ble_eq_true rfl) rfl ?_
  show SW G l RX4 cX4_pose 4 rm_X4_pose wI 0 [some (.ref (ad G 0)), some (vi x1), some (vi x2), none] [] σ (f_X4_pose x1 x2 σ)
  unfold f_X4_pose
  refine sw_aload_n (pc' := 1) dX4_pose_0 rfl rfl ?_
  refine sw_iload_n (pc' := 2) dX4_pose_1 rfl rfl ?_
  refine sw_callVB (pc' := 5) (As := [vi x1]) (rest := []) dX4_pose_2 cv_X4_105 (tbk_0) (m_X4_isRider x1 σ) rfl rfl rfl rfl rfl (fun v2 s2 => ?_)
  refine sw_bif_eq (tgt := 15) (pc' := 8) dX4_pose_5 (by decide) rfl (fun _ => ?_) (fun _ => ?_)
  · refine sw_iload_n (pc' := 9) dX4_pose_8 rfl rfl ?_
    refine sw_callSB (pc' := 12) (As := [vi x2]) (rest := []) dX4_pose_9 cs_X4_148 (m_X4_isEnd x2 s2) rfl rfl rfl rfl rfl (fun v9 s9 => ?_)
    refine sw_bif_ne (tgt := 17) (pc' := 15) dX4_pose_12 (by decide) rfl (fun _ => ?_) (fun _ => ?_)
    · refine sw_iconst (pc' := 18) dX4_pose_17 rfl ?_
      refine sw_istore_n (pc' := 19) (x := 0) (L' := [some (.ref (ad G 0)), some (vi x1), some (vi x2), some (vi 0)]) dX4_pose_18 rfl (by decide) rfl rfl ?_
      exact s_X4_pose_19 FU x1 x2 0 s9
    · refine sw_iconst (pc' := 16) dX4_pose_15 rfl ?_
      exact sw_iret dX4_pose_16
  · refine sw_iconst (pc' := 16) dX4_pose_15 rfl ?_
    exact sw_iret dX4_pose_16
def rm_X4_heavy : Room := { frames := 2, cells := 0, slots := 0, locals := 44 }
def f_X4_heavy_65  (k22 : Int → Int → Int → Int → St → Option (Int × St)) (x1 x2 x3 x4 : Int) (σ : St) : Option (Int × St) :=
  k22 x1 x2 x3 (x4 + 1) σ
set_option maxRecDepth 20000 in
theorem s_X4_heavy_65   (k22 : Int → Int → Int → Int → St → Option (Int × St)) (hk22 : ∀ (x1 x2 x3 x4 : Int) (σ : St), SW G l RX4 cX4_heavy 5 rm_X4_heavy wI 22 [some (.ref (ad G 0)), some (vi x1), some (vi x2), some (vi x3), some (vi x4)] [] σ (k22 x1 x2 x3 x4 σ)) (x1 x2 x3 x4 : Int) (σ : St) : SW G l RX4 cX4_heavy 5 rm_X4_heavy wI 65 [some (.ref (ad G 0)), some (vi x1), some (vi x2), some (vi x3), some (vi x4)] [] σ (f_X4_heavy_65 k22 x1 x2 x3 x4 σ) := by
  unfold f_X4_heavy_65
  refine sw_iinc (pc' := 68) (x := x4) (L' := [some (.ref (ad G 0)), some (vi x1), some (vi x2), some (vi x3), some (vi (x4 + 1))]) dX4_heavy_65 rfl (by decide) rfl rfl rfl ?_
  refine sw_goto (pc' := 22) dX4_heavy_68 (by decide) ?_
  exact hk22 x1 x2 x3 (x4 + 1) σ
def f_X4_heavy_22   : Nat → Int → Int → Int → Int → St → Option (Int × St)
  | 0, _, _, _, _, _ => none
  | n + 1, x1, x2, x3, x4, σ =>
    if wr x4 < wr 16 then
      bV (ld σ 2 5 x1) fun v37 => bI (f_X4_reading v37 x4 σ) fun v40 s40 => if wr v40 = wr x2 then
        bI (f_X4_legsDown x4 s40) fun v50 s50 => f_X4_heavy_65 (f_X4_heavy_22 n) x1 x2 (imx x3 (v50 * (s50 1 4))) x4 s50
      else
        f_X4_heavy_65 (f_X4_heavy_22 n) x1 x2 x3 x4 s40
    else
      if wr x3 = 0 then
        some ((-4), σ)
      else
        some ((imn x3 99), σ)
set_option maxRecDepth 20000 in
theorem s_X4_heavy_22     : ∀ (n : Nat) (x1 x2 x3 x4 : Int) (σ : St), SW G l RX4 cX4_heavy 5 rm_X4_heavy wI 22 [some (.ref (ad G 0)), some (vi x1), some (vi x2), some (vi x3), some (vi x4)] [] σ (f_X4_heavy_22 n x1 x2 x3 x4 σ) := by
  intro n
  induction n with
  | zero => intro x1 x2 x3 x4 σ; exact sw_none
  | succ n ih =>
    intro x1 x2 x3 x4 σ
    rw [f_X4_heavy_22]
    refine sw_iload (pc' := 24) dX4_heavy_22 rfl rfl ?_
    refine sw_bipush (pc' := 26) dX4_heavy_24 rfl rfl ?_
    refine sw_icmp_ge (tgt := 71) (pc' := 29) dX4_heavy_26 (by decide) rfl (fun _ => ?_) (fun _ => ?_)
    · refine sw_aload_n (pc' := 30) dX4_heavy_29 rfl rfl ?_
      refine sw_getr (pc' := 33) dX4_heavy_30 fl_X4_10 (tbk_0) rfl rfl ?_
      refine sw_getr (pc' := 36) dX4_heavy_33 fl_X4_108 (tbk_1) rfl rfl ?_
      refine sw_iload_n (pc' := 37) dX4_heavy_36 rfl rfl ?_
      refine sw_iald (pc' := 38) dX4_heavy_37 (tbk_2) rfl (fun v37 => ?_)
      refine sw_iload (pc' := 40) dX4_heavy_38 rfl rfl ?_
      refine sw_callSI (pc' := 43) (As := [vi v37, vi x4]) (rest := []) dX4_heavy_40 cs_X4_184 (m_X4_reading v37 x4 σ) rfl rfl rfl rfl rfl (fun v40 s40 => ?_)
      refine sw_iload_n (pc' := 44) dX4_heavy_43 rfl rfl ?_
      refine sw_icmp_ne (tgt := 65) (pc' := 47) dX4_heavy_44 (by decide) rfl (fun _ => ?_) (fun _ => ?_)
      · refine sw_iload_n (pc' := 48) dX4_heavy_47 rfl rfl ?_
        refine sw_iload (pc' := 50) dX4_heavy_48 rfl rfl ?_
        refine sw_callSI (pc' := 53) (As := [vi x4]) (rest := [vi x3]) dX4_heavy_50 cs_X4_187 (m_X4_legsDown x4 s40) rfl rfl rfl rfl rfl (fun v50 s50 => ?_)
        refine sw_aload_n (pc' := 54) dX4_heavy_53 rfl rfl ?_
        refine sw_getr (pc' := 57) dX4_heavy_54 fl_X4_10 (tbk_0) rfl rfl ?_
        refine sw_getn (pc' := 60) dX4_heavy_57 fl_X4_95 (tbk_1) rfl rfl ?_
        refine sw_imul (pc' := 61) dX4_heavy_60 rfl ?_
        refine sw_imx (pc' := 64) dX4_heavy_61 cm_X4_190 rfl rfl rfl ?_
        refine sw_istore_n (pc' := 65) (x := (imx x3 (v50 * (s50 1 4)))) (L' := [some (.ref (ad G 0)), some (vi x1), some (vi x2), some (vi (imx x3 (v50 * (s50 1 4)))), some (vi x4)]) dX4_heavy_64 rfl (by decide) rfl rfl ?_
        exact s_X4_heavy_65 (f_X4_heavy_22 n) (ih) x1 x2 (imx x3 (v50 * (s50 1 4))) x4 s50
      · exact s_X4_heavy_65 (f_X4_heavy_22 n) (ih) x1 x2 x3 x4 s40
    · refine sw_iload_n (pc' := 72) dX4_heavy_71 rfl rfl ?_
      refine sw_if_ne (tgt := 80) (pc' := 75) dX4_heavy_72 (by decide) rfl (fun _ => ?_) (fun _ => ?_)
      · refine sw_bipush (pc' := 77) dX4_heavy_75 rfl rfl ?_
        refine sw_goto (pc' := 86) dX4_heavy_77 (by decide) ?_
        exact sw_iret dX4_heavy_86
      · refine sw_iload_n (pc' := 81) dX4_heavy_80 rfl rfl ?_
        refine sw_bipush (pc' := 83) dX4_heavy_81 rfl rfl ?_
        refine sw_imn (pc' := 86) dX4_heavy_83 cm_X4_195 rfl rfl rfl ?_
        exact sw_iret dX4_heavy_86
def f_X4_heavy (x1 : Int) (x2 : Int) (σ : St) : Option (Int × St) :=
  bI (f_X4_isRider x1 σ) fun v2 s2 => if v2 then
    bI (f_X4_isEnd x2 s2) fun v9 s9 => if v9 then
      f_X4_heavy_22 FU x1 x2 0 0 s9
    else
      some ((-1), s9)
  else
    some ((-1), s2)
set_option maxRecDepth 20000 in
theorem m_X4_heavy (x1 : Int) (x2 : Int)  (σ : St) : MT G l yX4_heavy cX4_heavy 5 (some .int) rm_X4_heavy [.ref (ad G 0), vi x1, vi x2] wI σ (f_X4_heavy x1 x2 σ) := by
  refine mt_I (L := [some (.ref (ad G 0)), some (vi x1), some (vi x2), none, none]) rfl (Nat.le_of_ble_eq_true rfl) rfl ?_
  show SW G l RX4 cX4_heavy 5 rm_X4_heavy wI 0 [some (.ref (ad G 0)), some (vi x1), some (vi x2), none, none] [] σ (f_X4_heavy x1 x2 σ)
  unfold f_X4_heavy
  refine sw_aload_n (pc' := 1) dX4_heavy_0 rfl rfl ?_
  refine sw_iload_n (pc' := 2) dX4_heavy_1 rfl rfl ?_
  refine sw_callVB (pc' := 5) (As := [vi x1]) (rest := []) dX4_heavy_2 cv_X4_105 (tbk_0) (m_X4_isRider x1 σ) rfl rfl rfl rfl rfl (fun v2 s2 => ?_)
  refine sw_bif_eq (tgt := 15) (pc' := 8) dX4_heavy_5 (by decide) rfl (fun _ => ?_) (fun _ => ?_)
  · refine sw_iload_n (pc' := 9) dX4_heavy_8 rfl rfl ?_
    refine sw_callSB (pc' := 12) (As := [vi x2]) (rest := []) dX4_heavy_9 cs_X4_148 (m_X4_isEnd x2 s2) rfl rfl rfl rfl rfl (fun v9 s9 => ?_)
    refine sw_bif_ne (tgt := 17) (pc' := 15) dX4_heavy_12 (by decide) rfl (fun _ => ?_) (fun _ => ?_)
    · refine sw_iconst (pc' := 18) dX4_heavy_17 rfl ?_
      refine sw_istore_n (pc' := 19) (x := 0) (L' := [some (.ref (ad G 0)), some (vi x1), some (vi x2), some (vi 0), none]) dX4_heavy_18 rfl (by decide) rfl rfl ?_
      refine sw_iconst (pc' := 20) dX4_heavy_19 rfl ?_
      refine sw_istore (pc' := 22) (x := 0) (L' := [some (.ref (ad G 0)), some (vi x1), some (vi x2), some (vi 0), some (vi 0)]) dX4_heavy_20 rfl (by decide) rfl rfl ?_
      exact s_X4_heavy_22 FU x1 x2 0 0 s9
    · refine sw_iconst (pc' := 16) dX4_heavy_15 rfl ?_
      exact sw_iret dX4_heavy_16
  · refine sw_iconst (pc' := 16) dX4_heavy_15 rfl ?_
    exact sw_iret dX4_heavy_16
def rm_X4_need : Room := { frames := 4, cells := 0, slots := 0, locals := 84 }
def f_X4_need_25   : Nat → Int → Int → St → Option (Int × St)
  | 0, _, _, _ => none
  | n + 1, x1, x2, σ =>
    if wr 99 < wr x2 then
      some ((-4), σ)
    else
      bV (pf σ 11 4 x2) fun s36 => bI (f_X2_standing 11 s36) fun v43 s43 => if wr v43 = wr x1 then
        some (x2, s43)
      else
        (f_X4_need_25 n) x1 (x2 + 1) s43
set_option maxRecDepth 20000 in
theorem s_X4_need_25     : ∀ (n : Nat) (x1 x2 : Int) (σ : St), SW G l RX4 cX4_need 3 rm_X4_need wI 25 [some (.ref (ad G 0)), some (vi x1), some (vi x2)] [] σ (f_X4_need_25 n x1 x2 σ) := by
  intro n
  induction n with
  | zero => intro x1 x2 σ; exact sw_none
  | succ n ih =>
    intro x1 x2 σ
    rw [f_X4_need_25]
    refine sw_iload_n (pc' := 26) dX4_need_25 rfl rfl ?_
    refine sw_bipush (pc' := 28) dX4_need_26 rfl rfl ?_
    refine sw_icmp_gt (tgt := 58) (pc' := 31) dX4_need_28 (by decide) rfl (fun _ => ?_) (fun _ => ?_)
    · refine sw_bipush (pc' := 60) dX4_need_58 rfl rfl ?_
      exact sw_iret dX4_need_60
    · refine sw_aload_n (pc' := 32) dX4_need_31 rfl rfl ?_
      refine sw_getr (pc' := 35) dX4_need_32 fl_X4_16 (tbk_0) rfl rfl ?_
      refine sw_iload_n (pc' := 36) dX4_need_35 rfl rfl ?_
      refine sw_putI (pc' := 39) dX4_need_36 fp_X4_95 (tbk_11) rfl rfl (fun s36 => ?_)
      refine sw_aload_n (pc' := 40) dX4_need_39 rfl rfl ?_
      refine sw_getr (pc' := 43) dX4_need_40 fl_X4_16 (tbk_0) rfl rfl ?_
      refine sw_callVI (pc' := 46) (As := []) (rest := []) dX4_need_43 cv_X4_102 (tbk_11) (m_X2_standing 11 (isSq_11) s36) rfl rfl rfl rfl rfl (fun v43 s43 => ?_)
      refine sw_iload_n (pc' := 47) dX4_need_46 rfl rfl ?_
      refine sw_icmp_ne (tgt := 52) (pc' := 50) dX4_need_47 (by decide) rfl (fun _ => ?_) (fun _ => ?_)
      · refine sw_iload_n (pc' := 51) dX4_need_50 rfl rfl ?_
        exact sw_iret dX4_need_51
      · refine sw_iinc (pc' := 55) (x := x2) (L' := [some (.ref (ad G 0)), some (vi x1), some (vi (x2 + 1))]) dX4_need_52 rfl (by decide) rfl rfl rfl ?_
        refine sw_goto (pc' := 25) dX4_need_55 (by decide) ?_
        exact (ih) x1 (x2 + 1) s43
def f_X4_need  (σ : St) : Option (Int × St) :=
  bV (f_X2_copyFrom 11 1 σ) fun s8 => f_X4_need_25 FU ((isl 1 (s8 1 0)) - 1) 1 s8
set_option maxRecDepth 20000 in
theorem m_X4_need   (σ : St) : MT G l yX4_need cX4_need 3 (some .int) rm_X4_need [.ref (ad G 0)] wI σ (f_X4_need σ) := by
  refine mt_I (L := [some (.ref (ad G 0)), none, none]) rfl (Nat.le_of_ble_eq_true rfl) rfl ?_
  show SW G l RX4 cX4_need 3 rm_X4_need wI 0 [some (.ref (ad G 0)), none, none] [] σ (f_X4_need σ)
  unfold f_X4_need
  refine sw_aload_n (pc' := 1) dX4_need_0 rfl rfl ?_
  refine sw_getr (pc' := 4) dX4_need_1 fl_X4_16 (tbk_0) rfl rfl ?_
  refine sw_aload_n (pc' := 5) dX4_need_4 rfl rfl ?_
  refine sw_getr (pc' := 8) dX4_need_5 fl_X4_10 (tbk_0) rfl rfl ?_
  refine sw_callVV (pc' := 11) (As := [.ref (ad G 1)]) (rest := []) dX4_need_8 cv_X4_71 (tbk_11) (m_X2_copyFrom 11 1 (isSq_11) (isSq_1) σ) rfl rfl rfl rfl rfl (fun s8 => ?_)
  refine sw_iconst (pc' := 12) dX4_need_11 rfl ?_
  refine sw_aload_n (pc' := 13) dX4_need_12 rfl rfl ?_
  refine sw_getr (pc' := 16) dX4_need_13 fl_X4_10 (tbk_0) rfl rfl ?_
  refine sw_getn (pc' := 19) dX4_need_16 fl_X4_83 (tbk_1) rfl rfl ?_
  refine sw_ishl (pc' := 20) dX4_need_19 rfl ?_
  refine sw_iconst (pc' := 21) dX4_need_20 rfl ?_
  refine sw_isub (pc' := 22) dX4_need_21 rfl ?_
  refine sw_istore_n (pc' := 23) (x := ((isl 1 (s8 1 0)) - 1)) (L' := [some (.ref (ad G 0)), some (vi ((isl 1 (s8 1 0)) - 1)), none]) dX4_need_22 rfl (by decide) rfl rfl ?_
  refine sw_iconst (pc' := 24) dX4_need_23 rfl ?_
  refine sw_istore_n (pc' := 25) (x := 1) (L' := [some (.ref (ad G 0)), some (vi ((isl 1 (s8 1 0)) - 1)), some (vi 1)]) dX4_need_24 rfl (by decide) rfl rfl ?_
  exact s_X4_need_25 FU ((isl 1 (s8 1 0)) - 1) 1 s8
end GEN
