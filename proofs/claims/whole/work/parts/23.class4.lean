section GEN
variable {G : Gh} {l : Launch}
def rm_X4_ask : Room := { frames := 7, cells := 0, slots := 0, locals := 164 }
def f_X4_ask (x1 : Int) (x2 : Int) (σ : St) : Option (Int × St) :=
  bI (f_X4_isRider x1 σ) fun v2 s2 => if v2 then
    bI (f_X4_isChoice x2 s2) fun v9 s9 => if v9 then
      bI (f_X4_fittingUps x1 s9) fun v19 s19 => bI (f_J6_bitCount_0f7a4 v19 s19) fun v22 s22 => if wr v22 < wr 2 then
        some ((-4), s22)
      else
        if wr x2 = 0 then
          some (x1, s22)
        else
          some (1, s22)
    else
      some ((-1), s9)
  else
    some ((-1), s2)
set_option maxRecDepth 20000 in
theorem m_X4_ask (x1 : Int) (x2 : Int)  (σ : St) : MT G l yX4_ask cX4_ask 3 (some .int) rm_X4_ask [.ref (ad G 0), vi x1, vi x2] wI σ (f_X4_ask x1 x2 σ) := by
  refine mt_I (L := [some (.ref (ad G 0)), some (vi x1), some (vi x2)]) rfl (Nat.le_of_ble_eq_true rfl) rfl ?_
  show SW G l RX4 cX4_ask 3 rm_X4_ask wI 0 [some (.ref (ad G 0)), some (vi x1), some (vi x2)] [] σ (f_X4_ask x1 x2 σ)
  unfold f_X4_ask
  refine sw_aload_n (pc' := 1) dX4_ask_0 rfl rfl ?_
  refine sw_iload_n (pc' := 2) dX4_ask_1 rfl rfl ?_
  refine sw_callVB (pc' := 5) (As := [vi x1]) (rest := []) dX4_ask_2 cv_X4_105 (tbk_0) (m_X4_isRider x1 σ) rfl rfl rfl rfl rfl (fun v2 s2 => ?_)
  refine sw_bif_eq (tgt := 15) (pc' := 8) dX4_ask_5 (by decide) rfl (fun _ => ?_) (fun _ => ?_)
  · refine sw_iload_n (pc' := 9) dX4_ask_8 rfl rfl ?_
    refine sw_callSB (pc' := 12) (As := [vi x2]) (rest := []) dX4_ask_9 cs_X4_178 (m_X4_isChoice x2 s2) rfl rfl rfl rfl rfl (fun v9 s9 => ?_)
    refine sw_bif_ne (tgt := 17) (pc' := 15) dX4_ask_12 (by decide) rfl (fun _ => ?_) (fun _ => ?_)
    · refine sw_aload_n (pc' := 18) dX4_ask_17 rfl rfl ?_
      refine sw_iload_n (pc' := 19) dX4_ask_18 rfl rfl ?_
      refine sw_callVI (pc' := 22) (As := [vi x1]) (rest := []) dX4_ask_19 cv_X4_238 (tbk_0) (m_X4_fittingUps x1 s9) rfl rfl rfl rfl rfl (fun v19 s19 => ?_)
      refine sw_callSI (pc' := 25) (As := [vi v19]) (rest := []) dX4_ask_22 cs_X4_216 (m_J6_bitCount_0f7a4 v19 s19) rfl rfl rfl rfl rfl (fun v22 s22 => ?_)
      refine sw_iconst (pc' := 26) dX4_ask_25 rfl ?_
      refine sw_icmp_ge (tgt := 32) (pc' := 29) dX4_ask_26 (by decide) rfl (fun _ => ?_) (fun _ => ?_)
      · refine sw_bipush (pc' := 31) dX4_ask_29 rfl rfl ?_
        exact sw_iret dX4_ask_31
      · refine sw_iload_n (pc' := 33) dX4_ask_32 rfl rfl ?_
        refine sw_if_ne (tgt := 40) (pc' := 36) dX4_ask_33 (by decide) rfl (fun _ => ?_) (fun _ => ?_)
        · refine sw_iload_n (pc' := 37) dX4_ask_36 rfl rfl ?_
          refine sw_goto (pc' := 41) dX4_ask_37 (by decide) ?_
          exact sw_iret dX4_ask_41
        · refine sw_iconst (pc' := 41) dX4_ask_40 rfl ?_
          exact sw_iret dX4_ask_41
    · refine sw_iconst (pc' := 16) dX4_ask_15 rfl ?_
      exact sw_iret dX4_ask_16
  · refine sw_iconst (pc' := 16) dX4_ask_15 rfl ?_
    exact sw_iret dX4_ask_16
def rm_X4_drift : Room := { frames := 5, cells := 0, slots := 0, locals := 118 }
def f_X4_drift_52   : Nat → Int → Int → Int → Int → Int → St → Option (Int × St)
  | 0, _, _, _, _, _, _ => none
  | n + 1, x2, x3, x4, x5, x6, σ =>
    if wr x6 < wr x2 then
      bV (irm (iad (ius ((x5 * 1103515245) + 12345) 16) 32767) (σ 1 0)) fun v96 => bV (idv (iad (ius ((x5 * 1103515245) + 12345) 16) 32767) 16) fun v101 => bV (irm v101 16) fun v104 => bV (sv σ 13 5 v96 v104) fun s105 => bI (f_X2_passDay 11 s105) fun v112 s112 => (f_X4_drift_52 n) x2 x3 (x4 + v112) ((x5 * 1103515245) + 12345) (x6 + 1) s112
    else
      if wr x3 = 0 then
        some (x4, σ)
      else
        bI (f_X2_agreeing 11 σ) fun v137 s137 => some (v137, s137)
set_option maxRecDepth 20000 in
theorem s_X4_drift_52     : ∀ (n : Nat) (x2 x3 x4 x5 x6 : Int) (σ : St), SW G l RX4 cX4_drift 8 rm_X4_drift wI 52 [some (.ref (ad G 0)), none, some (vi x2), some (vi x3), some (vi x4), some (vi x5), some (vi x6), none] [] σ (f_X4_drift_52 n x2 x3 x4 x5 x6 σ) := by
  intro n
  induction n with
  | zero => intro x2 x3 x4 x5 x6 σ; exact sw_none
  | succ n ih =>
    intro x2 x3 x4 x5 x6 σ
    rw [f_X4_drift_52]
    refine sw_iload (pc' := 54) dX4_drift_52 rfl rfl ?_
    refine sw_iload_n (pc' := 55) dX4_drift_54 rfl rfl ?_
    refine sw_icmp_ge (tgt := 124) (pc' := 58) dX4_drift_55 (by decide) rfl (fun _ => ?_) (fun _ => ?_)
    · refine sw_iload (pc' := 60) dX4_drift_58 rfl rfl ?_
      refine sw_ldc (n := 1103515245) (pc' := 62) dX4_drift_60 kc_X4_241 rfl ?_
      refine sw_imul (pc' := 63) dX4_drift_62 rfl ?_
      refine sw_sipush (pc' := 66) dX4_drift_63 rfl rfl ?_
      refine sw_iadd (pc' := 67) dX4_drift_66 rfl ?_
      refine sw_istore (pc' := 69) (x := ((x5 * 1103515245) + 12345)) (L' := [some (.ref (ad G 0)), none, some (vi x2), some (vi x3), some (vi x4), some (vi ((x5 * 1103515245) + 12345)), some (vi x6), none]) dX4_drift_67 rfl (by decide) rfl rfl ?_
      refine sw_iload (pc' := 71) dX4_drift_69 rfl rfl ?_
      refine sw_bipush (pc' := 73) dX4_drift_71 rfl rfl ?_
      refine sw_iushr (pc' := 74) dX4_drift_73 rfl ?_
      refine sw_sipush (pc' := 77) dX4_drift_74 rfl rfl ?_
      refine sw_iand (pc' := 78) dX4_drift_77 rfl ?_
      refine sw_istore (pc' := 80) (x := (iad (ius ((x5 * 1103515245) + 12345) 16) 32767)) (L' := [some (.ref (ad G 0)), none, some (vi x2), some (vi x3), some (vi x4), some (vi ((x5 * 1103515245) + 12345)), some (vi x6), some (vi (iad (ius ((x5 * 1103515245) + 12345) 16) 32767))]) dX4_drift_78 rfl (by decide) rfl rfl ?_
      refine sw_aload_n (pc' := 81) dX4_drift_80 rfl rfl ?_
      refine sw_getr (pc' := 84) dX4_drift_81 fl_X4_16 (tbk_0) rfl rfl ?_
      refine sw_getr (pc' := 87) dX4_drift_84 fl_X4_112 (tbk_11) rfl rfl ?_
      refine sw_iload (pc' := 89) dX4_drift_87 rfl rfl ?_
      refine sw_aload_n (pc' := 90) dX4_drift_89 rfl rfl ?_
      refine sw_getr (pc' := 93) dX4_drift_90 fl_X4_10 (tbk_0) rfl rfl ?_
      refine sw_getn (pc' := 96) dX4_drift_93 fl_X4_83 (tbk_1) rfl rfl ?_
      refine sw_irem (pc' := 97) dX4_drift_96 rfl (fun v96 => ?_)
      refine sw_iload (pc' := 99) dX4_drift_97 rfl rfl ?_
      refine sw_bipush (pc' := 101) dX4_drift_99 rfl rfl ?_
      refine sw_idiv (pc' := 102) dX4_drift_101 rfl (fun v101 => ?_)
      refine sw_bipush (pc' := 104) dX4_drift_102 rfl rfl ?_
      refine sw_irem (pc' := 105) dX4_drift_104 rfl (fun v104 => ?_)
      refine sw_iast (pc' := 106) dX4_drift_105 (tbk_13) rfl (fun s105 => ?_)
      refine sw_iload (pc' := 108) dX4_drift_106 rfl rfl ?_
      refine sw_aload_n (pc' := 109) dX4_drift_108 rfl rfl ?_
      refine sw_getr (pc' := 112) dX4_drift_109 fl_X4_16 (tbk_0) rfl rfl ?_
      refine sw_callVI (pc' := 115) (As := []) (rest := [vi x4]) dX4_drift_112 cv_X4_175 (tbk_11) (m_X2_passDay 11 (isSq_11) s105) rfl rfl rfl rfl rfl (fun v112 s112 => ?_)
      refine sw_iadd (pc' := 116) dX4_drift_115 rfl ?_
      refine sw_istore (pc' := 118) (x := (x4 + v112)) (L' := [some (.ref (ad G 0)), none, some (vi x2), some (vi x3), some (vi (x4 + v112)), some (vi ((x5 * 1103515245) + 12345)), some (vi x6), some (vi (iad (ius ((x5 * 1103515245) + 12345) 16) 32767))]) dX4_drift_116 rfl (by decide) rfl rfl ?_
      refine sw_iinc (pc' := 121) (x := x6) (L' := [some (.ref (ad G 0)), none, some (vi x2), some (vi x3), some (vi (x4 + v112)), some (vi ((x5 * 1103515245) + 12345)), some (vi (x6 + 1)), some (vi (iad (ius ((x5 * 1103515245) + 12345) 16) 32767))]) dX4_drift_118 rfl (by decide) rfl rfl rfl ?_
      refine sw_goto (pc' := 52) dX4_drift_121 (by decide) ?_
      refine sw_msk [true, false, true, true, true, true, true, false] rfl ?_
      exact (ih) x2 x3 (x4 + v112) ((x5 * 1103515245) + 12345) (x6 + 1) s112
    · refine sw_iload_n (pc' := 125) dX4_drift_124 rfl rfl ?_
      refine sw_if_ne (tgt := 133) (pc' := 128) dX4_drift_125 (by decide) rfl (fun _ => ?_) (fun _ => ?_)
      · refine sw_iload (pc' := 130) dX4_drift_128 rfl rfl ?_
        refine sw_goto (pc' := 140) dX4_drift_130 (by decide) ?_
        exact sw_iret dX4_drift_140
      · refine sw_aload_n (pc' := 134) dX4_drift_133 rfl rfl ?_
        refine sw_getr (pc' := 137) dX4_drift_134 fl_X4_16 (tbk_0) rfl rfl ?_
        refine sw_callVI (pc' := 140) (As := []) (rest := []) dX4_drift_137 cv_X4_98 (tbk_11) (m_X2_agreeing 11 (isSq_11) σ) rfl rfl rfl rfl rfl (fun v137 s137 => ?_)
        exact sw_iret dX4_drift_140
def f_X4_drift (x1 : Int) (x2 : Int) (x3 : Int) (σ : St) : Option (Int × St) :=
  bI (f_X4_within x2 1 60 σ) fun v4 s4 => if v4 then
    bI (f_X4_isChoice x3 s4) fun v11 s11 => if v11 then
      if wr (s11 1 0) = 0 then
        some ((-2), s11)
      else
        bV (f_X2_copyFrom 11 1 s11) fun s40 => f_X4_drift_52 FU x2 x3 0 x1 0 s40
    else
      some ((-1), s11)
  else
    some ((-1), s4)
set_option maxRecDepth 20000 in
theorem m_X4_drift (x1 : Int) (x2 : Int) (x3 : Int)  (σ : St) : MT G l yX4_drift cX4_drift 8 (some .int) rm_X4_drift [.ref (ad G 0), vi x1, vi x2, vi x3] wI σ (f_X4_drift x1 x2 x3 σ) := by
  refine mt_I (L := [some (.ref (ad G 0)), some (vi x1), some (vi x2), some (vi x3), none, none, none, none]) rfl (Nat.le_of_ble_eq_true rfl) rfl ?_
  show SW G l RX4 cX4_drift 8 rm_X4_drift wI 0 [some (.ref (ad G 0)), some (vi x1), some (vi x2), some (vi x3), none, none, none, none] [] σ (f_X4_drift x1 x2 x3 σ)
  unfold f_X4_drift
  refine sw_iload_n (pc' := 1) dX4_drift_0 rfl rfl ?_
  refine sw_iconst (pc' := 2) dX4_drift_1 rfl ?_
  refine sw_bipush (pc' := 4) dX4_drift_2 rfl rfl ?_
  refine sw_callSB (pc' := 7) (As := [vi x2, vi 1, vi 60]) (rest := []) dX4_drift_4 cs_X4_46 (m_X4_within x2 1 60 σ) rfl rfl rfl rfl rfl (fun v4 s4 => ?_)
  refine sw_bif_eq (tgt := 17) (pc' := 10) dX4_drift_7 (by decide) rfl (fun _ => ?_) (fun _ => ?_)
  · refine sw_iload_n (pc' := 11) dX4_drift_10 rfl rfl ?_
    refine sw_callSB (pc' := 14) (As := [vi x3]) (rest := []) dX4_drift_11 cs_X4_178 (m_X4_isChoice x3 s4) rfl rfl rfl rfl rfl (fun v11 s11 => ?_)
    refine sw_bif_ne (tgt := 19) (pc' := 17) dX4_drift_14 (by decide) rfl (fun _ => ?_) (fun _ => ?_)
    · refine sw_aload_n (pc' := 20) dX4_drift_19 rfl rfl ?_
      refine sw_getr (pc' := 23) dX4_drift_20 fl_X4_10 (tbk_0) rfl rfl ?_
      refine sw_getn (pc' := 26) dX4_drift_23 fl_X4_83 (tbk_1) rfl rfl ?_
      refine sw_if_ne (tgt := 32) (pc' := 29) dX4_drift_26 (by decide) rfl (fun _ => ?_) (fun _ => ?_)
      · refine sw_bipush (pc' := 31) dX4_drift_29 rfl rfl ?_
        exact sw_iret dX4_drift_31
      · refine sw_aload_n (pc' := 33) dX4_drift_32 rfl rfl ?_
        refine sw_getr (pc' := 36) dX4_drift_33 fl_X4_16 (tbk_0) rfl rfl ?_
        refine sw_aload_n (pc' := 37) dX4_drift_36 rfl rfl ?_
        refine sw_getr (pc' := 40) dX4_drift_37 fl_X4_10 (tbk_0) rfl rfl ?_
        refine sw_callVV (pc' := 43) (As := [.ref (ad G 1)]) (rest := []) dX4_drift_40 cv_X4_71 (tbk_11) (m_X2_copyFrom 11 1 (isSq_11) (isSq_1) s11) rfl rfl rfl rfl rfl (fun s40 => ?_)
        refine sw_iconst (pc' := 44) dX4_drift_43 rfl ?_
        refine sw_istore (pc' := 46) (x := 0) (L' := [some (.ref (ad G 0)), some (vi x1), some (vi x2), some (vi x3), some (vi 0), none, none, none]) dX4_drift_44 rfl (by decide) rfl rfl ?_
        refine sw_iload_n (pc' := 47) dX4_drift_46 rfl rfl ?_
        refine sw_istore (pc' := 49) (x := x1) (L' := [some (.ref (ad G 0)), some (vi x1), some (vi x2), some (vi x3), some (vi 0), some (vi x1), none, none]) dX4_drift_47 rfl (by decide) rfl rfl ?_
        refine sw_iconst (pc' := 50) dX4_drift_49 rfl ?_
        refine sw_istore (pc' := 52) (x := 0) (L' := [some (.ref (ad G 0)), some (vi x1), some (vi x2), some (vi x3), some (vi 0), some (vi x1), some (vi 0), none]) dX4_drift_50 rfl (by decide) rfl rfl ?_
        refine sw_msk [true, false, true, true, true, true, true, false] rfl ?_
        exact s_X4_drift_52 FU x2 x3 0 x1 0 s40
    · refine sw_iconst (pc' := 18) dX4_drift_17 rfl ?_
      exact sw_iret dX4_drift_18
  · refine sw_iconst (pc' := 18) dX4_drift_17 rfl ?_
    exact sw_iret dX4_drift_18
def rm_X4_image : Room := { frames := 0, cells := 0, slots := 0, locals := 0 }
def f_X4_image (x1 : Int) (σ : St) : Option (Nat × St) :=
  if wr x1 = 0 then
    some (21, σ)
  else
    some (31, σ)
set_option maxRecDepth 20000 in
theorem m_X4_image (x1 : Int)  (σ : St) : MT G l yX4_image cX4_image 2 (some (.object "HorseSigns$Square")) rm_X4_image [.ref (ad G 0), vi x1] (wR G) σ (f_X4_image x1 σ) := by
  refine mt_R (L := [some (.ref (ad G 0)), some (vi x1)]) rfl (Nat.le_of_ble_eq_true rfl) rfl ?_
  show SW G l RX4 cX4_image 2 rm_X4_image (wR G) 0 [some (.ref (ad G 0)), some (vi x1)] [] σ (f_X4_image x1 σ)
  unfold f_X4_image
  refine sw_iload_n (pc' := 1) dX4_image_0 rfl rfl ?_
  refine sw_if_ne (tgt := 11) (pc' := 4) dX4_image_1 (by decide) rfl (fun _ => ?_) (fun _ => ?_)
  · refine sw_aload_n (pc' := 5) dX4_image_4 rfl rfl ?_
    refine sw_getr (pc' := 8) dX4_image_5 fl_X4_19 (tbk_0) rfl rfl ?_
    refine sw_goto (pc' := 15) dX4_image_8 (by decide) ?_
    exact sw_aret dX4_image_15
  · refine sw_aload_n (pc' := 12) dX4_image_11 rfl rfl ?_
    refine sw_getr (pc' := 15) dX4_image_12 fl_X4_22 (tbk_0) rfl rfl ?_
    exact sw_aret dX4_image_15
def rm_X4_isImage : Room := { frames := 1, cells := 0, slots := 0, locals := 22 }
def f_X4_isImage (x0 : Int) (σ : St) : Option (Bool × St) :=
  bI (f_X4_within x0 0 1 σ) fun v3 s3 => some (v3, s3)
set_option maxRecDepth 20000 in
theorem m_X4_isImage (x0 : Int)  (σ : St) : MT G l yX4_isImage cX4_isImage 1 (some .boolean) rm_X4_isImage [vi x0] wB σ (f_X4_isImage x0 σ) := by
  refine mt_B (L := [some (vi x0)]) rfl (Nat.le_of_ble_eq_true rfl) rfl ?_
  show SW G l RX4 cX4_isImage 1 rm_X4_isImage wB 0 [some (vi x0)] [] σ (f_X4_isImage x0 σ)
  unfold f_X4_isImage
  refine sw_iload_n (pc' := 1) dX4_isImage_0 rfl rfl ?_
  refine sw_iconst (pc' := 2) dX4_isImage_1 rfl ?_
  refine sw_iconst (pc' := 3) dX4_isImage_2 rfl ?_
  refine sw_callSB (pc' := 6) (As := [vi x0, vi 0, vi 1]) (rest := []) dX4_isImage_3 cs_X4_46 (m_X4_within x0 0 1 σ) rfl rfl rfl rfl rfl (fun v3 s3 => ?_)
  exact sw_bret dX4_isImage_6
def rm_X4_keep : Room := { frames := 2, cells := 0, slots := 0, locals := 47 }
def f_X4_keep (x1 : Int) (σ : St) : Option (Int × St) :=
  bI (f_X4_isImage x1 σ) fun v1 s1 => if v1 then
    bI (f_X4_image x1 s1) fun v20 s20 => bV (sqc v20) fun _ => bV (f_X2_copyFrom v20 1 s20) fun s27 => bV (pf s27 0 7 (iod (s27 0 7) (isl 1 x1))) fun s39 => some ((iad (isr (s1 0 7) x1) 1), s39)
  else
    some ((-1), s1)
set_option maxRecDepth 20000 in
theorem m_X4_keep (x1 : Int)  (σ : St) : MT G l yX4_keep cX4_keep 3 (some .int) rm_X4_keep [.ref (ad G 0), vi x1] wI σ (f_X4_keep x1 σ) := by
  refine mt_I (L := [some (.ref (ad G 0)), some (vi x1), none]) rfl (Nat.le_of_ble_eq_true rfl) rfl ?_
  show SW G l RX4 cX4_keep 3 rm_X4_keep wI 0 [some (.ref (ad G 0)), some (vi x1), none] [] σ (f_X4_keep x1 σ)
  unfold f_X4_keep
  refine sw_iload_n (pc' := 1) dX4_keep_0 rfl rfl ?_
  refine sw_callSB (pc' := 4) (As := [vi x1]) (rest := []) dX4_keep_1 cs_X4_242 (m_X4_isImage x1 σ) rfl rfl rfl rfl rfl (fun v1 s1 => ?_)
  refine sw_bif_ne (tgt := 9) (pc' := 7) dX4_keep_4 (by decide) rfl (fun _ => ?_) (fun _ => ?_)
  · refine sw_aload_n (pc' := 10) dX4_keep_9 rfl rfl ?_
    refine sw_getn (pc' := 13) dX4_keep_10 fl_X4_77 (tbk_0) rfl rfl ?_
    refine sw_iload_n (pc' := 14) dX4_keep_13 rfl rfl ?_
    refine sw_ishr (pc' := 15) dX4_keep_14 rfl ?_
    refine sw_iconst (pc' := 16) dX4_keep_15 rfl ?_
    refine sw_iand (pc' := 17) dX4_keep_16 rfl ?_
    refine sw_istore_n (pc' := 18) (x := (iad (isr (s1 0 7) x1) 1)) (L' := [some (.ref (ad G 0)), some (vi x1), some (vi (iad (isr (s1 0 7) x1) 1))]) dX4_keep_17 rfl (by decide) rfl rfl ?_
    refine sw_aload_n (pc' := 19) dX4_keep_18 rfl rfl ?_
    refine sw_iload_n (pc' := 20) dX4_keep_19 rfl rfl ?_
    refine sw_callVR (pc' := 23) (As := [vi x1]) (rest := []) dX4_keep_20 cv_X4_245 (tbk_0) (m_X4_image x1 s1) rfl rfl rfl rfl rfl (fun v20 s20 => ?_)
    refine sw_sqc (fun hv20 => ?_)
    refine sw_aload_n (pc' := 24) dX4_keep_23 rfl rfl ?_
    refine sw_getr (pc' := 27) dX4_keep_24 fl_X4_10 (tbk_0) rfl rfl ?_
    refine sw_callVV (pc' := 30) (As := [.ref (ad G 1)]) (rest := []) dX4_keep_27 cv_X4_71 (sqo hv20) (m_X2_copyFrom v20 1 (hv20) (isSq_1) s20) rfl rfl rfl rfl rfl (fun s27 => ?_)
    refine sw_aload_n (pc' := 31) dX4_keep_30 rfl rfl ?_
    refine sw_dup (pc' := 32) dX4_keep_31 rfl rfl ?_
    refine sw_getn (pc' := 35) dX4_keep_32 fl_X4_77 (tbk_0) rfl rfl ?_
    refine sw_iconst (pc' := 36) dX4_keep_35 rfl ?_
    refine sw_iload_n (pc' := 37) dX4_keep_36 rfl rfl ?_
    refine sw_ishl (pc' := 38) dX4_keep_37 rfl ?_
    refine sw_ior (pc' := 39) dX4_keep_38 rfl ?_
    refine sw_putI (pc' := 42) dX4_keep_39 fp_X4_77 (tbk_0) rfl rfl (fun s39 => ?_)
    refine sw_iload_n (pc' := 43) dX4_keep_42 rfl rfl ?_
    exact sw_iret dX4_keep_43
  · refine sw_iconst (pc' := 8) dX4_keep_7 rfl ?_
    exact sw_iret dX4_keep_8
def rm_X4_back : Room := { frames := 2, cells := 0, slots := 0, locals := 47 }
def f_X4_back (x1 : Int) (σ : St) : Option (Int × St) :=
  bI (f_X4_isImage x1 σ) fun v1 s1 => if v1 then
    if wr (iad (isr (s1 0 7) x1) 1) = 0 then
      some ((-2), s1)
    else
      bI (f_X4_image x1 s1) fun v29 s29 => bV (sqc v29) fun _ => bV (f_X2_copyFrom 1 v29 s29) fun s32 => some ((s32 1 12), s32)
  else
    some ((-1), s1)
set_option maxRecDepth 20000 in
theorem m_X4_back (x1 : Int)  (σ : St) : MT G l yX4_back cX4_back 2 (some .int) rm_X4_back [.ref (ad G 0), vi x1] wI σ (f_X4_back x1 σ) := by
  refine mt_I (L := [some (.ref (ad G 0)), some (vi x1)]) rfl (Nat.le_of_ble_eq_true rfl) rfl ?_
  show SW G l RX4 cX4_back 2 rm_X4_back wI 0 [some (.ref (ad G 0)), some (vi x1)] [] σ (f_X4_back x1 σ)
  unfold f_X4_back
  refine sw_iload_n (pc' := 1) dX4_back_0 rfl rfl ?_
  refine sw_callSB (pc' := 4) (As := [vi x1]) (rest := []) dX4_back_1 cs_X4_242 (m_X4_isImage x1 σ) rfl rfl rfl rfl rfl (fun v1 s1 => ?_)
  refine sw_bif_ne (tgt := 9) (pc' := 7) dX4_back_4 (by decide) rfl (fun _ => ?_) (fun _ => ?_)
  · refine sw_aload_n (pc' := 10) dX4_back_9 rfl rfl ?_
    refine sw_getn (pc' := 13) dX4_back_10 fl_X4_77 (tbk_0) rfl rfl ?_
    refine sw_iload_n (pc' := 14) dX4_back_13 rfl rfl ?_
    refine sw_ishr (pc' := 15) dX4_back_14 rfl ?_
    refine sw_iconst (pc' := 16) dX4_back_15 rfl ?_
    refine sw_iand (pc' := 17) dX4_back_16 rfl ?_
    refine sw_if_ne (tgt := 23) (pc' := 20) dX4_back_17 (by decide) rfl (fun _ => ?_) (fun _ => ?_)
    · refine sw_bipush (pc' := 22) dX4_back_20 rfl rfl ?_
      exact sw_iret dX4_back_22
    · refine sw_aload_n (pc' := 24) dX4_back_23 rfl rfl ?_
      refine sw_getr (pc' := 27) dX4_back_24 fl_X4_10 (tbk_0) rfl rfl ?_
      refine sw_aload_n (pc' := 28) dX4_back_27 rfl rfl ?_
      refine sw_iload_n (pc' := 29) dX4_back_28 rfl rfl ?_
      refine sw_callVR (pc' := 32) (As := [vi x1]) (rest := [.ref (ad G 1)]) dX4_back_29 cv_X4_245 (tbk_0) (m_X4_image x1 s1) rfl rfl rfl rfl rfl (fun v29 s29 => ?_)
      refine sw_sqc (fun hv29 => ?_)
      refine sw_callVV (pc' := 35) (As := [.ref (ad G v29)]) (rest := []) dX4_back_32 cv_X4_71 (tbk_1) (m_X2_copyFrom 1 v29 (isSq_1) (hv29) s29) rfl rfl rfl rfl rfl (fun s32 => ?_)
      refine sw_aload_n (pc' := 36) dX4_back_35 rfl rfl ?_
      refine sw_getr (pc' := 39) dX4_back_36 fl_X4_10 (tbk_0) rfl rfl ?_
      refine sw_getn (pc' := 42) dX4_back_39 fl_X4_89 (tbk_1) rfl rfl ?_
      exact sw_iret dX4_back_42
  · refine sw_iconst (pc' := 8) dX4_back_7 rfl ?_
    exact sw_iret dX4_back_8
def rm_X4_sheet : Room := { frames := 1, cells := 0, slots := 0, locals := 24 }
def f_X4_sheet (x1 : Int) (x2 : Int) (x3 : Int) (σ : St) : Option (Int × St) :=
  bI (f_X0_isSheet x1 σ) fun v5 s5 => if v5 then
    bI (f_X0_isLane x2 s5) fun v16 s16 => if v16 then
      if wr 40 < wr x3 then
        some ((-1), s16)
      else
        if wr x3 < 0 then
          some ((-14), s16)
        else
          bV (f_X0_renew x1 x2 x3 s16) fun s44 => some (1, s44)
    else
      some ((-1), s16)
  else
    some ((-1), s5)
set_option maxRecDepth 20000 in
theorem m_X4_sheet (x1 : Int) (x2 : Int) (x3 : Int)  (σ : St) : MT G l yX4_sheet cX4_sheet 4 (some .int) rm_X4_sheet [.ref (ad G 0), vi x1, vi x2, vi x3] wI σ (f_X4_sheet x1 x2 x3 σ) := by
  refine mt_I (L := [some (.ref (ad G 0)), some (vi x1), some (vi x2), some (vi x3)]) rfl (Nat.le_of_ble_eq_true rfl) rfl ?_
  show SW G l RX4 cX4_sheet 4 rm_X4_sheet wI 0 [some (.ref (ad G 0)), some (vi x1), some (vi x2), some (vi x3)] [] σ (f_X4_sheet x1 x2 x3 σ)
  unfold f_X4_sheet
  refine sw_aload_n (pc' := 1) dX4_sheet_0 rfl rfl ?_
  refine sw_getr (pc' := 4) dX4_sheet_1 fl_X4_42 (tbk_0) rfl rfl ?_
  refine sw_iload_n (pc' := 5) dX4_sheet_4 rfl rfl ?_
  refine sw_callVB (pc' := 8) (As := [vi x1]) (rest := []) dX4_sheet_5 cv_X4_249 (tbk_47) (m_X0_isSheet x1 σ) rfl rfl rfl rfl rfl (fun v5 s5 => ?_)
  refine sw_bif_eq (tgt := 28) (pc' := 11) dX4_sheet_8 (by decide) rfl (fun _ => ?_) (fun _ => ?_)
  · refine sw_aload_n (pc' := 12) dX4_sheet_11 rfl rfl ?_
    refine sw_getr (pc' := 15) dX4_sheet_12 fl_X4_42 (tbk_0) rfl rfl ?_
    refine sw_iload_n (pc' := 16) dX4_sheet_15 rfl rfl ?_
    refine sw_callVB (pc' := 19) (As := [vi x2]) (rest := []) dX4_sheet_16 cv_X4_252 (tbk_47) (m_X0_isLane x2 s5) rfl rfl rfl rfl rfl (fun v16 s16 => ?_)
    refine sw_bif_eq (tgt := 28) (pc' := 22) dX4_sheet_19 (by decide) rfl (fun _ => ?_) (fun _ => ?_)
    · refine sw_iload_n (pc' := 23) dX4_sheet_22 rfl rfl ?_
      refine sw_bipush (pc' := 25) dX4_sheet_23 rfl rfl ?_
      refine sw_icmp_le (tgt := 30) (pc' := 28) dX4_sheet_25 (by decide) rfl (fun _ => ?_) (fun _ => ?_)
      · refine sw_iconst (pc' := 29) dX4_sheet_28 rfl ?_
        exact sw_iret dX4_sheet_29
      · refine sw_iload_n (pc' := 31) dX4_sheet_30 rfl rfl ?_
        refine sw_if_ge (tgt := 37) (pc' := 34) dX4_sheet_31 (by decide) rfl (fun _ => ?_) (fun _ => ?_)
        · refine sw_bipush (pc' := 36) dX4_sheet_34 rfl rfl ?_
          exact sw_iret dX4_sheet_36
        · refine sw_aload_n (pc' := 38) dX4_sheet_37 rfl rfl ?_
          refine sw_getr (pc' := 41) dX4_sheet_38 fl_X4_42 (tbk_0) rfl rfl ?_
          refine sw_iload_n (pc' := 42) dX4_sheet_41 rfl rfl ?_
          refine sw_iload_n (pc' := 43) dX4_sheet_42 rfl rfl ?_
          refine sw_iload_n (pc' := 44) dX4_sheet_43 rfl rfl ?_
          refine sw_callVV (pc' := 47) (As := [vi x1, vi x2, vi x3]) (rest := []) dX4_sheet_44 cv_X4_255 (tbk_47) (m_X0_renew x1 x2 x3 s16) rfl rfl rfl rfl rfl (fun s44 => ?_)
          refine sw_iconst (pc' := 48) dX4_sheet_47 rfl ?_
          exact sw_iret dX4_sheet_48
    · refine sw_iconst (pc' := 29) dX4_sheet_28 rfl ?_
      exact sw_iret dX4_sheet_29
  · refine sw_iconst (pc' := 29) dX4_sheet_28 rfl ?_
    exact sw_iret dX4_sheet_29
def rm_X4_lay : Room := { frames := 1, cells := 0, slots := 0, locals := 24 }
def f_X4_lay (x1 : Int) (x2 : Int) (x3 : Int) (σ : St) : Option (Int × St) :=
  bI (f_X0_isSheet x1 σ) fun v5 s5 => if v5 then
    bV (ld s5 48 4 x1) fun v26 => bI (f_X0_faultOf x1 v26 x2 1 s5) fun v29 s29 => if wr v29 = 0 then
      bV (f_X0_put x1 x2 x3 s29) fun s52 => some (1, s52)
    else
      some (((-10) - v29), s29)
  else
    some ((-1), s5)
set_option maxRecDepth 20000 in
theorem m_X4_lay (x1 : Int) (x2 : Int) (x3 : Int)  (σ : St) : MT G l yX4_lay cX4_lay 5 (some .int) rm_X4_lay [.ref (ad G 0), vi x1, vi x2, vi x3] wI σ (f_X4_lay x1 x2 x3 σ) := by
  refine mt_I (L := [some (.ref (ad G 0)), some (vi x1), some (vi x2), some (vi x3), none]) rfl (Nat.le_of_ble_eq_true rfl) rfl ?_
  show SW G l RX4 cX4_lay 5 rm_X4_lay wI 0 [some (.ref (ad G 0)), some (vi x1), some (vi x2), some (vi x3), none] [] σ (f_X4_lay x1 x2 x3 σ)
  unfold f_X4_lay
  refine sw_aload_n (pc' := 1) dX4_lay_0 rfl rfl ?_
  refine sw_getr (pc' := 4) dX4_lay_1 fl_X4_42 (tbk_0) rfl rfl ?_
  refine sw_iload_n (pc' := 5) dX4_lay_4 rfl rfl ?_
  refine sw_callVB (pc' := 8) (As := [vi x1]) (rest := []) dX4_lay_5 cv_X4_249 (tbk_47) (m_X0_isSheet x1 σ) rfl rfl rfl rfl rfl (fun v5 s5 => ?_)
  refine sw_bif_ne (tgt := 13) (pc' := 11) dX4_lay_8 (by decide) rfl (fun _ => ?_) (fun _ => ?_)
  · refine sw_aload_n (pc' := 14) dX4_lay_13 rfl rfl ?_
    refine sw_getr (pc' := 17) dX4_lay_14 fl_X4_42 (tbk_0) rfl rfl ?_
    refine sw_iload_n (pc' := 18) dX4_lay_17 rfl rfl ?_
    refine sw_aload_n (pc' := 19) dX4_lay_18 rfl rfl ?_
    refine sw_getr (pc' := 22) dX4_lay_19 fl_X4_42 (tbk_0) rfl rfl ?_
    refine sw_getr (pc' := 25) dX4_lay_22 fl_X4_259 (tbk_47) rfl rfl ?_
    refine sw_iload_n (pc' := 26) dX4_lay_25 rfl rfl ?_
    refine sw_iald (pc' := 27) dX4_lay_26 (tbk_48) rfl (fun v26 => ?_)
    refine sw_iload_n (pc' := 28) dX4_lay_27 rfl rfl ?_
    refine sw_iconst (pc' := 29) dX4_lay_28 rfl ?_
    refine sw_callVI (pc' := 32) (As := [vi x1, vi v26, vi x2, vi 1]) (rest := []) dX4_lay_29 cv_X4_262 (tbk_47) (m_X0_faultOf x1 v26 x2 1 s5) rfl rfl rfl rfl rfl (fun v29 s29 => ?_)
    refine sw_istore (pc' := 34) (x := v29) (L' := [some (.ref (ad G 0)), some (vi x1), some (vi x2), some (vi x3), some (vi v29)]) dX4_lay_32 rfl (by decide) rfl rfl ?_
    refine sw_iload (pc' := 36) dX4_lay_34 rfl rfl ?_
    refine sw_if_eq (tgt := 45) (pc' := 39) dX4_lay_36 (by decide) rfl (fun _ => ?_) (fun _ => ?_)
    · refine sw_aload_n (pc' := 46) dX4_lay_45 rfl rfl ?_
      refine sw_getr (pc' := 49) dX4_lay_46 fl_X4_42 (tbk_0) rfl rfl ?_
      refine sw_iload_n (pc' := 50) dX4_lay_49 rfl rfl ?_
      refine sw_iload_n (pc' := 51) dX4_lay_50 rfl rfl ?_
      refine sw_iload_n (pc' := 52) dX4_lay_51 rfl rfl ?_
      refine sw_callVV (pc' := 55) (As := [vi x1, vi x2, vi x3]) (rest := []) dX4_lay_52 cv_X4_266 (tbk_47) (m_X0_put x1 x2 x3 s29) rfl rfl rfl rfl rfl (fun s52 => ?_)
      refine sw_iconst (pc' := 56) dX4_lay_55 rfl ?_
      exact sw_iret dX4_lay_56
    · refine sw_bipush (pc' := 41) dX4_lay_39 rfl rfl ?_
      refine sw_iload (pc' := 43) dX4_lay_41 rfl rfl ?_
      refine sw_isub (pc' := 44) dX4_lay_43 rfl ?_
      exact sw_iret dX4_lay_44
  · refine sw_iconst (pc' := 12) dX4_lay_11 rfl ?_
    exact sw_iret dX4_lay_12
def rm_X4_sendFrom : Room := { frames := 3, cells := 0, slots := 0, locals := 67 }
def f_X4_sendFrom (x1 : Int) (x2 : Int) (σ : St) : Option (Int × St) :=
  bI (f_X0_cell x1 x2 σ) fun v7 s7 => bI (f_X0_cell x1 (x2 + 1) s7) fun v18 s18 => bI (f_X0_cell x1 (x2 + 2) s18) fun v29 s29 => bI (f_X0_cell x1 (x2 + 3) s29) fun v40 s40 => bI (f_X4_send v7 v18 v29 v40 s40) fun v43 s43 => some (v43, s43)
set_option maxRecDepth 20000 in
theorem m_X4_sendFrom (x1 : Int) (x2 : Int)  (σ : St) : MT G l yX4_sendFrom cX4_sendFrom 3 (some .int) rm_X4_sendFrom [.ref (ad G 0), vi x1, vi x2] wI σ (f_X4_sendFrom x1 x2 σ) := by
  refine mt_I (L := [some (.ref (ad G 0)), some (vi x1), some (vi x2)]) rfl (Nat.le_of_ble_eq_true rfl) rfl ?_
  show SW G l RX4 cX4_sendFrom 3 rm_X4_sendFrom wI 0 [some (.ref (ad G 0)), some (vi x1), some (vi x2)] [] σ (f_X4_sendFrom x1 x2 σ)
  unfold f_X4_sendFrom
  refine sw_aload_n (pc' := 1) dX4_sendFrom_0 rfl rfl ?_
  refine sw_aload_n (pc' := 2) dX4_sendFrom_1 rfl rfl ?_
  refine sw_getr (pc' := 5) dX4_sendFrom_2 fl_X4_42 (tbk_0) rfl rfl ?_
  refine sw_iload_n (pc' := 6) dX4_sendFrom_5 rfl rfl ?_
  refine sw_iload_n (pc' := 7) dX4_sendFrom_6 rfl rfl ?_
  refine sw_callVI (pc' := 10) (As := [vi x1, vi x2]) (rest := [.ref (ad G 0)]) dX4_sendFrom_7 cv_X4_282 (tbk_47) (m_X0_cell x1 x2 σ) rfl rfl rfl rfl rfl (fun v7 s7 => ?_)
  refine sw_aload_n (pc' := 11) dX4_sendFrom_10 rfl rfl ?_
  refine sw_getr (pc' := 14) dX4_sendFrom_11 fl_X4_42 (tbk_0) rfl rfl ?_
  refine sw_iload_n (pc' := 15) dX4_sendFrom_14 rfl rfl ?_
  refine sw_iload_n (pc' := 16) dX4_sendFrom_15 rfl rfl ?_
  refine sw_iconst (pc' := 17) dX4_sendFrom_16 rfl ?_
  refine sw_iadd (pc' := 18) dX4_sendFrom_17 rfl ?_
  refine sw_callVI (pc' := 21) (As := [vi x1, vi (x2 + 1)]) (rest := [vi v7, .ref (ad G 0)]) dX4_sendFrom_18 cv_X4_282 (tbk_47) (m_X0_cell x1 (x2 + 1) s7) rfl rfl rfl rfl rfl (fun v18 s18 => ?_)
  refine sw_aload_n (pc' := 22) dX4_sendFrom_21 rfl rfl ?_
  refine sw_getr (pc' := 25) dX4_sendFrom_22 fl_X4_42 (tbk_0) rfl rfl ?_
  refine sw_iload_n (pc' := 26) dX4_sendFrom_25 rfl rfl ?_
  refine sw_iload_n (pc' := 27) dX4_sendFrom_26 rfl rfl ?_
  refine sw_iconst (pc' := 28) dX4_sendFrom_27 rfl ?_
  refine sw_iadd (pc' := 29) dX4_sendFrom_28 rfl ?_
  refine sw_callVI (pc' := 32) (As := [vi x1, vi (x2 + 2)]) (rest := [vi v18, vi v7, .ref (ad G 0)]) dX4_sendFrom_29 cv_X4_282 (tbk_47) (m_X0_cell x1 (x2 + 2) s18) rfl rfl rfl rfl rfl (fun v29 s29 => ?_)
  refine sw_aload_n (pc' := 33) dX4_sendFrom_32 rfl rfl ?_
  refine sw_getr (pc' := 36) dX4_sendFrom_33 fl_X4_42 (tbk_0) rfl rfl ?_
  refine sw_iload_n (pc' := 37) dX4_sendFrom_36 rfl rfl ?_
  refine sw_iload_n (pc' := 38) dX4_sendFrom_37 rfl rfl ?_
  refine sw_iconst (pc' := 39) dX4_sendFrom_38 rfl ?_
  refine sw_iadd (pc' := 40) dX4_sendFrom_39 rfl ?_
  refine sw_callVI (pc' := 43) (As := [vi x1, vi (x2 + 3)]) (rest := [vi v29, vi v18, vi v7, .ref (ad G 0)]) dX4_sendFrom_40 cv_X4_282 (tbk_47) (m_X0_cell x1 (x2 + 3) s29) rfl rfl rfl rfl rfl (fun v40 s40 => ?_)
  refine sw_callVI (pc' := 46) (As := [vi v7, vi v18, vi v29, vi v40]) (rest := []) dX4_sendFrom_43 cv_X4_285 (tbk_0) (m_X4_send v7 v18 v29 v40 s40) rfl rfl rfl rfl rfl (fun v43 s43 => ?_)
  exact sw_iret dX4_sendFrom_46
def rm_X4_read : Room := { frames := 4, cells := 0, slots := 0, locals := 89 }
def f_X4_read_47   : Nat → Int → Int → Int → Int → Int → Int → St → Option (Int × St)
  | 0, _, _, _, _, _, _, _ => none
  | n + 1, x1, x2, x3, x4, x5, x6, σ =>
    if wr x6 < wr x4 then
      bI (f_X0_faultOf x1 x2 (x3 + (4 * x6)) 4 σ) fun v71 s71 => if wr v71 = 0 then
        bI (f_X4_sendFrom x1 (x3 + (4 * x6)) s71) fun v94 s94 => if wr v94 < 0 then
          bV (pf s94 1 6 x5) fun s106 => some (((-20) - x6), s106)
        else
          (f_X4_read_47 n) x1 x2 x3 x4 x5 (x6 + 1) s94
      else
        bV (pf s71 0 9 v71) fun s84 => some (x6, s84)
    else
      bV (pf σ 0 9 0) fun s123 => some (x4, s123)
set_option maxRecDepth 20000 in
theorem s_X4_read_47     : ∀ (n : Nat) (x1 x2 x3 x4 x5 x6 : Int) (σ : St), SW G l RX4 cX4_read 9 rm_X4_read wI 47 [some (.ref (ad G 0)), some (vi x1), some (vi x2), some (vi x3), some (vi x4), some (vi x5), some (vi x6), none, none] [] σ (f_X4_read_47 n x1 x2 x3 x4 x5 x6 σ) := by
  intro n
  induction n with
  | zero => intro x1 x2 x3 x4 x5 x6 σ; exact sw_none
  | succ n ih =>
    intro x1 x2 x3 x4 x5 x6 σ
    rw [f_X4_read_47]
    refine sw_iload (pc' := 49) dX4_read_47 rfl rfl ?_
    refine sw_iload (pc' := 51) dX4_read_49 rfl rfl ?_
    refine sw_icmp_ge (tgt := 121) (pc' := 54) dX4_read_51 (by decide) rfl (fun _ => ?_) (fun _ => ?_)
    · refine sw_iload_n (pc' := 55) dX4_read_54 rfl rfl ?_
      refine sw_iconst (pc' := 56) dX4_read_55 rfl ?_
      refine sw_iload (pc' := 58) dX4_read_56 rfl rfl ?_
      refine sw_imul (pc' := 59) dX4_read_58 rfl ?_
      refine sw_iadd (pc' := 60) dX4_read_59 rfl ?_
      refine sw_istore (pc' := 62) (x := (x3 + (4 * x6))) (L' := [some (.ref (ad G 0)), some (vi x1), some (vi x2), some (vi x3), some (vi x4), some (vi x5), some (vi x6), some (vi (x3 + (4 * x6))), none]) dX4_read_60 rfl (by decide) rfl rfl ?_
      refine sw_aload_n (pc' := 63) dX4_read_62 rfl rfl ?_
      refine sw_getr (pc' := 66) dX4_read_63 fl_X4_42 (tbk_0) rfl rfl ?_
      refine sw_iload_n (pc' := 67) dX4_read_66 rfl rfl ?_
      refine sw_iload_n (pc' := 68) dX4_read_67 rfl rfl ?_
      refine sw_iload (pc' := 70) dX4_read_68 rfl rfl ?_
      refine sw_iconst (pc' := 71) dX4_read_70 rfl ?_
      refine sw_callVI (pc' := 74) (As := [vi x1, vi x2, vi (x3 + (4 * x6)), vi 4]) (rest := []) dX4_read_71 cv_X4_262 (tbk_47) (m_X0_faultOf x1 x2 (x3 + (4 * x6)) 4 σ) rfl rfl rfl rfl rfl (fun v71 s71 => ?_)
      refine sw_istore (pc' := 76) (x := v71) (L' := [some (.ref (ad G 0)), some (vi x1), some (vi x2), some (vi x3), some (vi x4), some (vi x5), some (vi x6), some (vi (x3 + (4 * x6))), some (vi v71)]) dX4_read_74 rfl (by decide) rfl rfl ?_
      refine sw_iload (pc' := 78) dX4_read_76 rfl rfl ?_
      refine sw_if_eq (tgt := 90) (pc' := 81) dX4_read_78 (by decide) rfl (fun _ => ?_) (fun _ => ?_)
      · refine sw_aload_n (pc' := 91) dX4_read_90 rfl rfl ?_
        refine sw_iload_n (pc' := 92) dX4_read_91 rfl rfl ?_
        refine sw_iload (pc' := 94) dX4_read_92 rfl rfl ?_
        refine sw_callVI (pc' := 97) (As := [vi x1, vi (x3 + (4 * x6))]) (rest := []) dX4_read_94 cv_X4_272 (tbk_0) (m_X4_sendFrom x1 (x3 + (4 * x6)) s71) rfl rfl rfl rfl rfl (fun v94 s94 => ?_)
        refine sw_if_ge (tgt := 115) (pc' := 100) dX4_read_97 (by decide) rfl (fun _ => ?_) (fun _ => ?_)
        · refine sw_aload_n (pc' := 101) dX4_read_100 rfl rfl ?_
          refine sw_getr (pc' := 104) dX4_read_101 fl_X4_10 (tbk_0) rfl rfl ?_
          refine sw_iload (pc' := 106) dX4_read_104 rfl rfl ?_
          refine sw_putI (pc' := 109) dX4_read_106 fp_X4_86 (tbk_1) rfl rfl (fun s106 => ?_)
          refine sw_bipush (pc' := 111) dX4_read_109 rfl rfl ?_
          refine sw_iload (pc' := 113) dX4_read_111 rfl rfl ?_
          refine sw_isub (pc' := 114) dX4_read_113 rfl ?_
          exact sw_iret dX4_read_114
        · refine sw_iinc (pc' := 118) (x := x6) (L' := [some (.ref (ad G 0)), some (vi x1), some (vi x2), some (vi x3), some (vi x4), some (vi x5), some (vi (x6 + 1)), some (vi (x3 + (4 * x6))), some (vi v71)]) dX4_read_115 rfl (by decide) rfl rfl rfl ?_
          refine sw_goto (pc' := 47) dX4_read_118 (by decide) ?_
          refine sw_msk [true, true, true, true, true, true, true, false, false] rfl ?_
          exact (ih) x1 x2 x3 x4 x5 (x6 + 1) s94
      · refine sw_aload_n (pc' := 82) dX4_read_81 rfl rfl ?_
        refine sw_iload (pc' := 84) dX4_read_82 rfl rfl ?_
        refine sw_putI (pc' := 87) dX4_read_84 fp_X4_269 (tbk_0) rfl rfl (fun s84 => ?_)
        refine sw_iload (pc' := 89) dX4_read_87 rfl rfl ?_
        exact sw_iret dX4_read_89
    · refine sw_aload_n (pc' := 122) dX4_read_121 rfl rfl ?_
      refine sw_iconst (pc' := 123) dX4_read_122 rfl ?_
      refine sw_putI (pc' := 126) dX4_read_123 fp_X4_269 (tbk_0) rfl rfl (fun s123 => ?_)
      refine sw_iload (pc' := 128) dX4_read_126 rfl rfl ?_
      exact sw_iret dX4_read_128
def f_X4_read (x1 : Int) (x2 : Int) (x3 : Int) (x4 : Int) (σ : St) : Option (Int × St) :=
  bI (f_X0_isSheet x1 σ) fun v5 s5 => if v5 then
    bI (f_X0_isLane x2 s5) fun v16 s16 => if v16 then
      bI (f_X4_within x4 0 10 s16) fun v27 s27 => if v27 then
        f_X4_read_47 FU x1 x2 x3 x4 (s27 1 6) 0 s27
      else
        some ((-1), s27)
    else
      some ((-1), s16)
  else
    some ((-1), s5)
set_option maxRecDepth 20000 in
theorem m_X4_read (x1 : Int) (x2 : Int) (x3 : Int) (x4 : Int)  (σ : St) : MT G l yX4_read cX4_read 9 (some .int) rm_X4_read [.ref (ad G 0), vi x1, vi x2, vi x3, vi x4] wI σ (f_X4_read x1 x2 x3 x4 σ) := by
  refine mt_I (L := [some (.ref (ad G 0)), some (vi x1), some (vi x2), some (vi x3), some (vi x4), none, none, none, none]) rfl (Nat.le_of_ble_eq_true rfl) rfl ?_
  show SW G l RX4 cX4_read 9 rm_X4_read wI 0 [some (.ref (ad G 0)), some (vi x1), some (vi x2), some (vi x3), some (vi x4), none, none, none, none] [] σ (f_X4_read x1 x2 x3 x4 σ)
  unfold f_X4_read
  refine sw_aload_n (pc' := 1) dX4_read_0 rfl rfl ?_
  refine sw_getr (pc' := 4) dX4_read_1 fl_X4_42 (tbk_0) rfl rfl ?_
  refine sw_iload_n (pc' := 5) dX4_read_4 rfl rfl ?_
  refine sw_callVB (pc' := 8) (As := [vi x1]) (rest := []) dX4_read_5 cv_X4_249 (tbk_47) (m_X0_isSheet x1 σ) rfl rfl rfl rfl rfl (fun v5 s5 => ?_)
  refine sw_bif_eq (tgt := 33) (pc' := 11) dX4_read_8 (by decide) rfl (fun _ => ?_) (fun _ => ?_)
  · refine sw_aload_n (pc' := 12) dX4_read_11 rfl rfl ?_
    refine sw_getr (pc' := 15) dX4_read_12 fl_X4_42 (tbk_0) rfl rfl ?_
    refine sw_iload_n (pc' := 16) dX4_read_15 rfl rfl ?_
    refine sw_callVB (pc' := 19) (As := [vi x2]) (rest := []) dX4_read_16 cv_X4_252 (tbk_47) (m_X0_isLane x2 s5) rfl rfl rfl rfl rfl (fun v16 s16 => ?_)
    refine sw_bif_eq (tgt := 33) (pc' := 22) dX4_read_19 (by decide) rfl (fun _ => ?_) (fun _ => ?_)
    · refine sw_iload (pc' := 24) dX4_read_22 rfl rfl ?_
      refine sw_iconst (pc' := 25) dX4_read_24 rfl ?_
      refine sw_bipush (pc' := 27) dX4_read_25 rfl rfl ?_
      refine sw_callSB (pc' := 30) (As := [vi x4, vi 0, vi 10]) (rest := []) dX4_read_27 cs_X4_46 (m_X4_within x4 0 10 s16) rfl rfl rfl rfl rfl (fun v27 s27 => ?_)
      refine sw_bif_ne (tgt := 35) (pc' := 33) dX4_read_30 (by decide) rfl (fun _ => ?_) (fun _ => ?_)
      · refine sw_aload_n (pc' := 36) dX4_read_35 rfl rfl ?_
        refine sw_getr (pc' := 39) dX4_read_36 fl_X4_10 (tbk_0) rfl rfl ?_
        refine sw_getn (pc' := 42) dX4_read_39 fl_X4_86 (tbk_1) rfl rfl ?_
        refine sw_istore (pc' := 44) (x := (s27 1 6)) (L' := [some (.ref (ad G 0)), some (vi x1), some (vi x2), some (vi x3), some (vi x4), some (vi (s27 1 6)), none, none, none]) dX4_read_42 rfl (by decide) rfl rfl ?_
        refine sw_iconst (pc' := 45) dX4_read_44 rfl ?_
        refine sw_istore (pc' := 47) (x := 0) (L' := [some (.ref (ad G 0)), some (vi x1), some (vi x2), some (vi x3), some (vi x4), some (vi (s27 1 6)), some (vi 0), none, none]) dX4_read_45 rfl (by decide) rfl rfl ?_
        exact s_X4_read_47 FU x1 x2 x3 x4 (s27 1 6) 0 s27
      · refine sw_iconst (pc' := 34) dX4_read_33 rfl ?_
        exact sw_iret dX4_read_34
    · refine sw_iconst (pc' := 34) dX4_read_33 rfl ?_
      exact sw_iret dX4_read_34
  · refine sw_iconst (pc' := 34) dX4_read_33 rfl ?_
    exact sw_iret dX4_read_34
def rm_X4_torn : Room := { frames := 0, cells := 0, slots := 0, locals := 0 }
def f_X4_torn  (σ : St) : Option (Int × St) :=
  some ((σ 0 9), σ)
set_option maxRecDepth 20000 in
theorem m_X4_torn   (σ : St) : MT G l yX4_torn cX4_torn 1 (some .int) rm_X4_torn [.ref (ad G 0)] wI σ (f_X4_torn σ) := by
  refine mt_I (L := [some (.ref (ad G 0))]) rfl (Nat.le_of_ble_eq_true rfl) rfl ?_
  show SW G l RX4 cX4_torn 1 rm_X4_torn wI 0 [some (.ref (ad G 0))] [] σ (f_X4_torn σ)
  unfold f_X4_torn
  refine sw_aload_n (pc' := 1) dX4_torn_0 rfl rfl ?_
  refine sw_getn (pc' := 4) dX4_torn_1 fl_X4_269 (tbk_0) rfl rfl ?_
  exact sw_iret dX4_torn_4
def rm_X4_sumOfFirst : Room := { frames := 0, cells := 0, slots := 0, locals := 0 }
def f_X4_sumOfFirst_4 (a0 : Nat) (n0 : Nat)  : Nat → Int → Int → Int → St → Option (Int × St)
  | 0, _, _, _, _ => none
  | n + 1, x1, x2, x3, σ =>
    if wr x3 < wr x1 then
      if wr x3 < wr (n0 : Int) then
        bV (ld σ a0 n0 x3) fun v18 => (f_X4_sumOfFirst_4 a0 n0 n) x1 (x2 + v18) (x3 + 1) σ
      else
        some (x2, σ)
    else
      some (x2, σ)
set_option maxRecDepth 20000 in
theorem s_X4_sumOfFirst_4 (a0 : Nat) (n0 : Nat) (ht0 : tb a0 = .inl (0, n0))   : ∀ (n : Nat) (x1 x2 x3 : Int) (σ : St), SW G l RX4 cX4_sumOfFirst 4 rm_X4_sumOfFirst wI 4 [some (.ref (ad G a0)), some (vi x1), some (vi x2), some (vi x3)] [] σ (f_X4_sumOfFirst_4 a0 n0 n x1 x2 x3 σ) := by
  intro n
  induction n with
  | zero => intro x1 x2 x3 σ; exact sw_none
  | succ n ih =>
    intro x1 x2 x3 σ
    rw [f_X4_sumOfFirst_4]
    refine sw_iload_n (pc' := 5) dX4_sumOfFirst_4 rfl rfl ?_
    refine sw_iload_n (pc' := 6) dX4_sumOfFirst_5 rfl rfl ?_
    refine sw_icmp_ge (tgt := 27) (pc' := 9) dX4_sumOfFirst_6 (by decide) rfl (fun _ => ?_) (fun _ => ?_)
    · refine sw_iload_n (pc' := 10) dX4_sumOfFirst_9 rfl rfl ?_
      refine sw_aload_n (pc' := 11) dX4_sumOfFirst_10 rfl rfl ?_
      refine sw_alen (pc' := 12) dX4_sumOfFirst_11 (ht0) (by decide) rfl ?_
      refine sw_icmp_ge (tgt := 27) (pc' := 15) dX4_sumOfFirst_12 (by decide) rfl (fun _ => ?_) (fun _ => ?_)
      · refine sw_iload_n (pc' := 16) dX4_sumOfFirst_15 rfl rfl ?_
        refine sw_aload_n (pc' := 17) dX4_sumOfFirst_16 rfl rfl ?_
        refine sw_iload_n (pc' := 18) dX4_sumOfFirst_17 rfl rfl ?_
        refine sw_iald (pc' := 19) dX4_sumOfFirst_18 (ht0) rfl (fun v18 => ?_)
        refine sw_iadd (pc' := 20) dX4_sumOfFirst_19 rfl ?_
        refine sw_istore_n (pc' := 21) (x := (x2 + v18)) (L' := [some (.ref (ad G a0)), some (vi x1), some (vi (x2 + v18)), some (vi x3)]) dX4_sumOfFirst_20 rfl (by decide) rfl rfl ?_
        refine sw_iinc (pc' := 24) (x := x3) (L' := [some (.ref (ad G a0)), some (vi x1), some (vi (x2 + v18)), some (vi (x3 + 1))]) dX4_sumOfFirst_21 rfl (by decide) rfl rfl rfl ?_
        refine sw_goto (pc' := 4) dX4_sumOfFirst_24 (by decide) ?_
        exact (ih) x1 (x2 + v18) (x3 + 1) σ
      · refine sw_iload_n (pc' := 28) dX4_sumOfFirst_27 rfl rfl ?_
        exact sw_iret dX4_sumOfFirst_28
    · refine sw_iload_n (pc' := 28) dX4_sumOfFirst_27 rfl rfl ?_
      exact sw_iret dX4_sumOfFirst_28
def f_X4_sumOfFirst (a0 : Nat) (n0 : Nat) (x1 : Int) (σ : St) : Option (Int × St) :=
  f_X4_sumOfFirst_4 a0 n0 FU x1 0 0 σ
set_option maxRecDepth 20000 in
theorem m_X4_sumOfFirst (a0 : Nat) (n0 : Nat) (x1 : Int) (ht0 : tb a0 = .inl (0, n0)) (σ : St) : MT G l yX4_sumOfFirst cX4_sumOfFirst 4 (some .int) rm_X4_sumOfFirst [.ref (ad G a0), vi x1] wI σ (f_X4_sumOfFirst a0 n0 x1 σ) := by
  refine mt_I (L := [some (.ref (ad G a0)), some (vi x1), none, none]) rfl (Nat.le_of_ble_eq_true rfl) rfl ?_
  show SW G l RX4 cX4_sumOfFirst 4 rm_X4_sumOfFirst wI 0 [some (.ref (ad G a0)), some (vi x1), none, none] [] σ (f_X4_sumOfFirst a0 n0 x1 σ)
  unfold f_X4_sumOfFirst
  refine sw_iconst (pc' := 1) dX4_sumOfFirst_0 rfl ?_
  refine sw_istore_n (pc' := 2) (x := 0) (L' := [some (.ref (ad G a0)), some (vi x1), some (vi 0), none]) dX4_sumOfFirst_1 rfl (by decide) rfl rfl ?_
  refine sw_iconst (pc' := 3) dX4_sumOfFirst_2 rfl ?_
  refine sw_istore_n (pc' := 4) (x := 0) (L' := [some (.ref (ad G a0)), some (vi x1), some (vi 0), some (vi 0)]) dX4_sumOfFirst_3 rfl (by decide) rfl rfl ?_
  exact s_X4_sumOfFirst_4 a0 n0 ht0 FU x1 0 0 σ
def rm_X4_count : Room := { frames := 1, cells := 0, slots := 0, locals := 23 }
def f_X4_count (x1 : Int) (σ : St) : Option (Int × St) :=
  if wr x1 = 0 then
    some ((σ 43 0), σ)
  else
    if wr x1 = 1 then
      bI (f_J6_bitCount_0f7a4 (σ 0 7) σ) fun v52 s52 => some (v52, s52)
    else
      if wr x1 = 2 then
        some ((σ 41 1), σ)
      else
        if wr x1 = 3 then
          bV (ld σ 49 4 0) fun v72 => if wr v72 < 0 then
            some ((-4), σ)
          else
            bV (ld σ 49 4 0) fun v89 => some (v89, σ)
        else
          if wr x1 = 4 then
            bI (f_X4_sumOfFirst 4 5 (σ 1 0) σ) fun v105 s105 => some (v105, s105)
          else
            if wr x1 = 5 then
              bI (f_X4_sumOfFirst 5 4 4 σ) fun v117 s117 => some (v117, s117)
            else
              some ((-1), σ)
set_option maxRecDepth 20000 in
theorem m_X4_count (x1 : Int)  (σ : St) : MT G l yX4_count cX4_count 2 (some .int) rm_X4_count [.ref (ad G 0), vi x1] wI σ (f_X4_count x1 σ) := by
  refine mt_I (L := [some (.ref (ad G 0)), some (vi x1)]) rfl (Nat.le_of_ble_eq_true rfl) rfl ?_
  show SW G l RX4 cX4_count 2 rm_X4_count wI 0 [some (.ref (ad G 0)), some (vi x1)] [] σ (f_X4_count x1 σ)
  unfold f_X4_count
  refine sw_iload_n (pc' := 1) dX4_count_0 rfl rfl ?_
  refine sw_case (fun hc0 => ?_) (fun hc0 => ?_)
  · refine sw_tin (tgt := 40) dX4_count_1 hc0 (by decide) rfl (by decide) ?_
    refine sw_aload_n (pc' := 41) dX4_count_40 rfl rfl ?_
    refine sw_getr (pc' := 44) dX4_count_41 fl_X4_35 (tbk_0) rfl rfl ?_
    refine sw_getn (pc' := 47) dX4_count_44 fl_X4_74 (tbk_43) rfl rfl ?_
    exact sw_iret dX4_count_47
  · refine sw_case (fun hc1 => ?_) (fun hc1 => ?_)
    · refine sw_tin (tgt := 48) dX4_count_1 hc1 (by decide) rfl (by decide) ?_
      refine sw_aload_n (pc' := 49) dX4_count_48 rfl rfl ?_
      refine sw_getn (pc' := 52) dX4_count_49 fl_X4_77 (tbk_0) rfl rfl ?_
      refine sw_callSI (pc' := 55) (As := [vi (σ 0 7)]) (rest := []) dX4_count_52 cs_X4_216 (m_J6_bitCount_0f7a4 (σ 0 7) σ) rfl rfl rfl rfl rfl (fun v52 s52 => ?_)
      exact sw_iret dX4_count_55
    · refine sw_case (fun hc2 => ?_) (fun hc2 => ?_)
      · refine sw_tin (tgt := 56) dX4_count_1 hc2 (by decide) rfl (by decide) ?_
        refine sw_aload_n (pc' := 57) dX4_count_56 rfl rfl ?_
        refine sw_getr (pc' := 60) dX4_count_57 fl_X4_28 (tbk_0) rfl rfl ?_
        refine sw_getn (pc' := 63) dX4_count_60 fl_X4_54 (tbk_41) rfl rfl ?_
        exact sw_iret dX4_count_63
      · refine sw_case (fun hc3 => ?_) (fun hc3 => ?_)
        · refine sw_tin (tgt := 64) dX4_count_1 hc3 (by decide) rfl (by decide) ?_
          refine sw_aload_n (pc' := 65) dX4_count_64 rfl rfl ?_
          refine sw_getr (pc' := 68) dX4_count_65 fl_X4_42 (tbk_0) rfl rfl ?_
          refine sw_getr (pc' := 71) dX4_count_68 fl_X4_275 (tbk_47) rfl rfl ?_
          refine sw_iconst (pc' := 72) dX4_count_71 rfl ?_
          refine sw_iald (pc' := 73) dX4_count_72 (tbk_49) rfl (fun v72 => ?_)
          refine sw_if_ge (tgt := 81) (pc' := 76) dX4_count_73 (by decide) rfl (fun _ => ?_) (fun _ => ?_)
          · refine sw_bipush (pc' := 78) dX4_count_76 rfl rfl ?_
            refine sw_goto (pc' := 90) dX4_count_78 (by decide) ?_
            exact sw_iret dX4_count_90
          · refine sw_aload_n (pc' := 82) dX4_count_81 rfl rfl ?_
            refine sw_getr (pc' := 85) dX4_count_82 fl_X4_42 (tbk_0) rfl rfl ?_
            refine sw_getr (pc' := 88) dX4_count_85 fl_X4_275 (tbk_47) rfl rfl ?_
            refine sw_iconst (pc' := 89) dX4_count_88 rfl ?_
            refine sw_iald (pc' := 90) dX4_count_89 (tbk_49) rfl (fun v89 => ?_)
            exact sw_iret dX4_count_90
        · refine sw_case (fun hc4 => ?_) (fun hc4 => ?_)
          · refine sw_tin (tgt := 91) dX4_count_1 hc4 (by decide) rfl (by decide) ?_
            refine sw_aload_n (pc' := 92) dX4_count_91 rfl rfl ?_
            refine sw_getr (pc' := 95) dX4_count_92 fl_X4_10 (tbk_0) rfl rfl ?_
            refine sw_getr (pc' := 98) dX4_count_95 fl_X4_115 (tbk_1) rfl rfl ?_
            refine sw_aload_n (pc' := 99) dX4_count_98 rfl rfl ?_
            refine sw_getr (pc' := 102) dX4_count_99 fl_X4_10 (tbk_0) rfl rfl ?_
            refine sw_getn (pc' := 105) dX4_count_102 fl_X4_83 (tbk_1) rfl rfl ?_
            refine sw_callSI (pc' := 108) (As := [.ref (ad G 4), vi (σ 1 0)]) (rest := []) dX4_count_105 cs_X4_278 (m_X4_sumOfFirst 4 5 (σ 1 0) (tbk_4) σ) rfl rfl rfl rfl rfl (fun v105 s105 => ?_)
            exact sw_iret dX4_count_108
          · refine sw_case (fun hc5 => ?_) (fun hc5 => ?_)
            · refine sw_tin (tgt := 109) dX4_count_1 hc5 (by decide) rfl (by decide) ?_
              refine sw_aload_n (pc' := 110) dX4_count_109 rfl rfl ?_
              refine sw_getr (pc' := 113) dX4_count_110 fl_X4_10 (tbk_0) rfl rfl ?_
              refine sw_getr (pc' := 116) dX4_count_113 fl_X4_145 (tbk_1) rfl rfl ?_
              refine sw_iconst (pc' := 117) dX4_count_116 rfl ?_
              refine sw_callSI (pc' := 120) (As := [.ref (ad G 5), vi 4]) (rest := []) dX4_count_117 cs_X4_278 (m_X4_sumOfFirst 5 4 4 (tbk_5) σ) rfl rfl rfl rfl rfl (fun v117 s117 => ?_)
              exact sw_iret dX4_count_120
            · refine sw_tout (tgt := 121) dX4_count_1 (by omega) (by decide) ?_
              refine sw_iconst (pc' := 122) dX4_count_121 rfl ?_
              exact sw_iret dX4_count_122
end GEN
