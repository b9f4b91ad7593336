section GEN
variable {G : Gh} {l : Launch}
def rm_X4_liar : Room := { frames := 6, cells := 0, slots := 0, locals := 143 }
def f_X4_liar_94  (k43 : Int → Int → Int → Int → Int → St → Option (Int × St)) (x1 x2 x3 x4 x5 : Int) (σ : St) : Option (Int × St) :=
  k43 x1 x2 x3 x4 (x5 + 1) σ
set_option maxRecDepth 20000 in
theorem s_X4_liar_94   (k43 : Int → Int → Int → Int → Int → St → Option (Int × St)) (hk43 : ∀ (x1 x2 x3 x4 x5 : Int) (σ : St), SW G l RX4 cX4_liar 7 rm_X4_liar wI 43 [some (.ref (ad G 0)), some (vi x1), some (vi x2), some (vi x3), some (vi x4), some (vi x5), none] [] σ (k43 x1 x2 x3 x4 x5 σ)) (x1 x2 x3 x4 x5 : Int) (σ : St) : SW G l RX4 cX4_liar 7 rm_X4_liar wI 94 [some (.ref (ad G 0)), some (vi x1), some (vi x2), some (vi x3), some (vi x4), some (vi x5), none] [] σ (f_X4_liar_94 k43 x1 x2 x3 x4 x5 σ) := by
  unfold f_X4_liar_94
  refine sw_iinc (pc' := 97) (x := x5) (L' := [some (.ref (ad G 0)), some (vi x1), some (vi x2), some (vi x3), some (vi x4), some (vi (x5 + 1)), none]) dX4_liar_94 rfl (by decide) rfl rfl rfl ?_
  refine sw_goto (pc' := 43) dX4_liar_97 (by decide) ?_
  exact hk43 x1 x2 x3 x4 (x5 + 1) σ
def f_X4_liar_111   (x4 : Int) (σ : St) : Option (Int × St) :=
  some (x4, σ)
set_option maxRecDepth 20000 in
theorem s_X4_liar_111     (x4 : Int) (σ : St) : SW G l RX4 cX4_liar 7 rm_X4_liar wI 111 [none, none, none, none, some (vi x4), none, none] [] σ (f_X4_liar_111 x4 σ) := by
  unfold f_X4_liar_111
  refine sw_iload (pc' := 113) dX4_liar_111 rfl rfl ?_
  refine sw_goto (pc' := 117) dX4_liar_113 (by decide) ?_
  exact sw_iret dX4_liar_117
def f_X4_liar_43   : Nat → Int → Int → Int → Int → Int → St → Option (Int × St)
  | 0, _, _, _, _, _, _ => none
  | n + 1, x1, x2, x3, x4, x5, σ =>
    if wr x5 < wr 4 then
      bV (f_X2_copyFrom 11 1 σ) fun s57 => bV (sv s57 15 4 x5 0) fun s70 => bI (f_X2_passDays 11 x1 s70) fun v76 s76 => if wr v76 < wr x3 then
        f_X4_liar_94 (f_X4_liar_43 n) x1 x2 v76 x5 x5 s76
      else
        f_X4_liar_94 (f_X4_liar_43 n) x1 x2 x3 x4 x5 s76
    else
      if wr x2 = 0 then
        f_X4_liar_111 x4 σ
      else
        if wr x4 = wr (-4) then
          f_X4_liar_111 x4 σ
        else
          some (x3, σ)
set_option maxRecDepth 20000 in
theorem s_X4_liar_43     : ∀ (n : Nat) (x1 x2 x3 x4 x5 : Int) (σ : St), SW G l RX4 cX4_liar 7 rm_X4_liar wI 43 [some (.ref (ad G 0)), some (vi x1), some (vi x2), some (vi x3), some (vi x4), some (vi x5), none] [] σ (f_X4_liar_43 n x1 x2 x3 x4 x5 σ) := by
  intro n
  induction n with
  | zero => intro x1 x2 x3 x4 x5 σ; exact sw_none
  | succ n ih =>
    intro x1 x2 x3 x4 x5 σ
    rw [f_X4_liar_43]
    refine sw_iload (pc' := 45) dX4_liar_43 rfl rfl ?_
    refine sw_iconst (pc' := 46) dX4_liar_45 rfl ?_
    refine sw_icmp_ge (tgt := 100) (pc' := 49) dX4_liar_46 (by decide) rfl (fun _ => ?_) (fun _ => ?_)
    · refine sw_aload_n (pc' := 50) dX4_liar_49 rfl rfl ?_
      refine sw_getr (pc' := 53) dX4_liar_50 fl_X4_16 (tbk_0) rfl rfl ?_
      refine sw_aload_n (pc' := 54) dX4_liar_53 rfl rfl ?_
      refine sw_getr (pc' := 57) dX4_liar_54 fl_X4_10 (tbk_0) rfl rfl ?_
      refine sw_callVV (pc' := 60) (As := [.ref (ad G 1)]) (rest := []) dX4_liar_57 cv_X4_71 (tbk_11) (m_X2_copyFrom 11 1 (isSq_11) (isSq_1) σ) rfl rfl rfl rfl rfl (fun s57 => ?_)
      refine sw_aload_n (pc' := 61) dX4_liar_60 rfl rfl ?_
      refine sw_getr (pc' := 64) dX4_liar_61 fl_X4_16 (tbk_0) rfl rfl ?_
      refine sw_getr (pc' := 67) dX4_liar_64 fl_X4_145 (tbk_11) rfl rfl ?_
      refine sw_iload (pc' := 69) dX4_liar_67 rfl rfl ?_
      refine sw_iconst (pc' := 70) dX4_liar_69 rfl ?_
      refine sw_iast (pc' := 71) dX4_liar_70 (tbk_15) rfl (fun s70 => ?_)
      refine sw_aload_n (pc' := 72) dX4_liar_71 rfl rfl ?_
      refine sw_getr (pc' := 75) dX4_liar_72 fl_X4_16 (tbk_0) rfl rfl ?_
      refine sw_iload_n (pc' := 76) dX4_liar_75 rfl rfl ?_
      refine sw_callVI (pc' := 79) (As := [vi x1]) (rest := []) dX4_liar_76 cv_X4_169 (tbk_11) (m_X2_passDays 11 x1 (isSq_11) s70) rfl rfl rfl rfl rfl (fun v76 s76 => ?_)
      refine sw_istore (pc' := 81) (x := v76) (L' := [some (.ref (ad G 0)), some (vi x1), some (vi x2), some (vi x3), some (vi x4), some (vi x5), some (vi v76)]) dX4_liar_79 rfl (by decide) rfl rfl ?_
      refine sw_iload (pc' := 83) dX4_liar_81 rfl rfl ?_
      refine sw_iload_n (pc' := 84) dX4_liar_83 rfl rfl ?_
      refine sw_icmp_ge (tgt := 94) (pc' := 87) dX4_liar_84 (by decide) rfl (fun _ => ?_) (fun _ => ?_)
      · refine sw_iload (pc' := 89) dX4_liar_87 rfl rfl ?_
        refine sw_istore_n (pc' := 90) (x := v76) (L' := [some (.ref (ad G 0)), some (vi x1), some (vi x2), some (vi v76), some (vi x4), some (vi x5), some (vi v76)]) dX4_liar_89 rfl (by decide) rfl rfl ?_
        refine sw_iload (pc' := 92) dX4_liar_90 rfl rfl ?_
        refine sw_istore (pc' := 94) (x := x5) (L' := [some (.ref (ad G 0)), some (vi x1), some (vi x2), some (vi v76), some (vi x5), some (vi x5), some (vi v76)]) dX4_liar_92 rfl (by decide) rfl rfl ?_
        refine sw_msk [true, true, true, true, true, true, false] rfl ?_
        exact s_X4_liar_94 (f_X4_liar_43 n) (ih) x1 x2 v76 x5 x5 s76
      · refine sw_msk [true, true, true, true, true, true, false] rfl ?_
        exact s_X4_liar_94 (f_X4_liar_43 n) (ih) x1 x2 x3 x4 x5 s76
    · refine sw_iload_n (pc' := 101) dX4_liar_100 rfl rfl ?_
      refine sw_if_eq (tgt := 111) (pc' := 104) dX4_liar_101 (by decide) rfl (fun _ => ?_) (fun _ => ?_)
      · refine sw_msk [false, false, false, false, true, false, false] rfl ?_
        exact s_X4_liar_111 x4 σ
      · refine sw_iload (pc' := 106) dX4_liar_104 rfl rfl ?_
        refine sw_bipush (pc' := 108) dX4_liar_106 rfl rfl ?_
        refine sw_icmp_ne (tgt := 116) (pc' := 111) dX4_liar_108 (by decide) rfl (fun _ => ?_) (fun _ => ?_)
        · refine sw_msk [false, false, false, false, true, false, false] rfl ?_
          exact s_X4_liar_111 x4 σ
        · refine sw_iload_n (pc' := 117) dX4_liar_116 rfl rfl ?_
          exact sw_iret dX4_liar_117
def f_X4_liar (x1 : Int) (x2 : Int) (σ : St) : Option (Int × St) :=
  bI (f_X4_isRunAhead x1 σ) fun v1 s1 => if v1 then
    bI (f_X4_isChoice x2 s1) fun v8 s8 => if v8 then
      bV (f_X2_copyFrom 11 1 s8) fun s24 => bI (f_X2_passDays 11 x1 s24) fun v32 s32 => f_X4_liar_43 FU x1 x2 v32 (-4) 0 s32
    else
      some ((-1), s8)
  else
    some ((-1), s1)
set_option maxRecDepth 20000 in
theorem m_X4_liar (x1 : Int) (x2 : Int)  (σ : St) : MT G l yX4_liar cX4_liar 7 (some .int) rm_X4_liar [.ref (ad G 0), vi x1, vi x2] wI σ (f_X4_liar x1 x2 σ) := by
  refine mt_I (L := [some (.ref (ad G 0)), some (vi x1), some (vi x2), none, none, none, none]) rfl (Nat.le_of_ble_eq_true rfl) rfl ?_
  show SW G l RX4 cX4_liar 7 rm_X4_liar wI 0 [some (.ref (ad G 0)), some (vi x1), some (vi x2), none, none, none, none] [] σ (f_X4_liar x1 x2 σ)
  unfold f_X4_liar
  refine sw_iload_n (pc' := 1) dX4_liar_0 rfl rfl ?_
  refine sw_callSB (pc' := 4) (As := [vi x1]) (rest := []) dX4_liar_1 cs_X4_172 (m_X4_isRunAhead x1 σ) rfl rfl rfl rfl rfl (fun v1 s1 => ?_)
  refine sw_bif_eq (tgt := 14) (pc' := 7) dX4_liar_4 (by decide) rfl (fun _ => ?_) (fun _ => ?_)
  · refine sw_iload_n (pc' := 8) dX4_liar_7 rfl rfl ?_
    refine sw_callSB (pc' := 11) (As := [vi x2]) (rest := []) dX4_liar_8 cs_X4_178 (m_X4_isChoice x2 s1) rfl rfl rfl rfl rfl (fun v8 s8 => ?_)
    refine sw_bif_ne (tgt := 16) (pc' := 14) dX4_liar_11 (by decide) rfl (fun _ => ?_) (fun _ => ?_)
    · refine sw_aload_n (pc' := 17) dX4_liar_16 rfl rfl ?_
      refine sw_getr (pc' := 20) dX4_liar_17 fl_X4_16 (tbk_0) rfl rfl ?_
      refine sw_aload_n (pc' := 21) dX4_liar_20 rfl rfl ?_
      refine sw_getr (pc' := 24) dX4_liar_21 fl_X4_10 (tbk_0) rfl rfl ?_
      refine sw_callVV (pc' := 27) (As := [.ref (ad G 1)]) (rest := []) dX4_liar_24 cv_X4_71 (tbk_11) (m_X2_copyFrom 11 1 (isSq_11) (isSq_1) s8) rfl rfl rfl rfl rfl (fun s24 => ?_)
      refine sw_aload_n (pc' := 28) dX4_liar_27 rfl rfl ?_
      refine sw_getr (pc' := 31) dX4_liar_28 fl_X4_16 (tbk_0) rfl rfl ?_
      refine sw_iload_n (pc' := 32) dX4_liar_31 rfl rfl ?_
      refine sw_callVI (pc' := 35) (As := [vi x1]) (rest := []) dX4_liar_32 cv_X4_169 (tbk_11) (m_X2_passDays 11 x1 (isSq_11) s24) rfl rfl rfl rfl rfl (fun v32 s32 => ?_)
      refine sw_istore_n (pc' := 36) (x := v32) (L' := [some (.ref (ad G 0)), some (vi x1), some (vi x2), some (vi v32), none, none, none]) dX4_liar_35 rfl (by decide) rfl rfl ?_
      refine sw_bipush (pc' := 38) dX4_liar_36 rfl rfl ?_
      refine sw_istore (pc' := 40) (x := (-4)) (L' := [some (.ref (ad G 0)), some (vi x1), some (vi x2), some (vi v32), some (vi (-4)), none, none]) dX4_liar_38 rfl (by decide) rfl rfl ?_
      refine sw_iconst (pc' := 41) dX4_liar_40 rfl ?_
      refine sw_istore (pc' := 43) (x := 0) (L' := [some (.ref (ad G 0)), some (vi x1), some (vi x2), some (vi v32), some (vi (-4)), some (vi 0), none]) dX4_liar_41 rfl (by decide) rfl rfl ?_
      exact s_X4_liar_43 FU x1 x2 v32 (-4) 0 s32
    · refine sw_iconst (pc' := 15) dX4_liar_14 rfl ?_
      exact sw_iret dX4_liar_15
  · refine sw_iconst (pc' := 15) dX4_liar_14 rfl ?_
    exact sw_iret dX4_liar_15
def rm_X4_agreeingBehind : Room := { frames := 6, cells := 0, slots := 0, locals := 143 }
def f_X4_agreeingBehind (x1 : Int) (σ : St) : Option (Int × St) :=
  bI (f_X2_passDays 11 x1 σ) fun v5 s5 => bI (f_X2_agreeing 11 s5) fun v13 s13 => bI (f_J6_bitCount_0f7a4 v13 s13) fun v16 s16 => some (v16, s16)
set_option maxRecDepth 20000 in
theorem m_X4_agreeingBehind (x1 : Int)  (σ : St) : MT G l yX4_agreeingBehind cX4_agreeingBehind 2 (some .int) rm_X4_agreeingBehind [.ref (ad G 0), vi x1] wI σ (f_X4_agreeingBehind x1 σ) := by
  refine mt_I (L := [some (.ref (ad G 0)), some (vi x1)]) rfl (Nat.le_of_ble_eq_true rfl) rfl ?_
  show SW G l RX4 cX4_agreeingBehind 2 rm_X4_agreeingBehind wI 0 [some (.ref (ad G 0)), some (vi x1)] [] σ (f_X4_agreeingBehind x1 σ)
  unfold f_X4_agreeingBehind
  refine sw_aload_n (pc' := 1) dX4_agreeingBehind_0 rfl rfl ?_
  refine sw_getr (pc' := 4) dX4_agreeingBehind_1 fl_X4_16 (tbk_0) rfl rfl ?_
  refine sw_iload_n (pc' := 5) dX4_agreeingBehind_4 rfl rfl ?_
  refine sw_callVI (pc' := 8) (As := [vi x1]) (rest := []) dX4_agreeingBehind_5 cv_X4_169 (tbk_11) (m_X2_passDays 11 x1 (isSq_11) σ) rfl rfl rfl rfl rfl (fun v5 s5 => ?_)
  refine sw_pop (pc' := 9) dX4_agreeingBehind_8 rfl rfl ?_
  refine sw_aload_n (pc' := 10) dX4_agreeingBehind_9 rfl rfl ?_
  refine sw_getr (pc' := 13) dX4_agreeingBehind_10 fl_X4_16 (tbk_0) rfl rfl ?_
  refine sw_callVI (pc' := 16) (As := []) (rest := []) dX4_agreeingBehind_13 cv_X4_98 (tbk_11) (m_X2_agreeing 11 (isSq_11) s5) rfl rfl rfl rfl rfl (fun v13 s13 => ?_)
  refine sw_callSI (pc' := 19) (As := [vi v13]) (rest := []) dX4_agreeingBehind_16 cs_X4_216 (m_J6_bitCount_0f7a4 v13 s13) rfl rfl rfl rfl rfl (fun v16 s16 => ?_)
  exact sw_iret dX4_agreeingBehind_19
def rm_X4_lose : Room := { frames := 7, cells := 0, slots := 0, locals := 164 }
def f_X4_lose_94  (k40 : Int → Int → Int → Int → Int → St → Option (Int × St)) (x1 x2 x3 x4 x5 : Int) (σ : St) : Option (Int × St) :=
  k40 x1 x2 x3 x4 (x5 + 1) σ
set_option maxRecDepth 20000 in
theorem s_X4_lose_94   (k40 : Int → Int → Int → Int → Int → St → Option (Int × St)) (hk40 : ∀ (x1 x2 x3 x4 x5 : Int) (σ : St), SW G l RX4 cX4_lose 7 rm_X4_lose wI 40 [some (.ref (ad G 0)), some (vi x1), some (vi x2), some (vi x3), some (vi x4), some (vi x5), none] [] σ (k40 x1 x2 x3 x4 x5 σ)) (x1 x2 x3 x4 x5 : Int) (σ : St) : SW G l RX4 cX4_lose 7 rm_X4_lose wI 94 [some (.ref (ad G 0)), some (vi x1), some (vi x2), some (vi x3), some (vi x4), some (vi x5), none] [] σ (f_X4_lose_94 k40 x1 x2 x3 x4 x5 σ) := by
  unfold f_X4_lose_94
  refine sw_iinc (pc' := 97) (x := x5) (L' := [some (.ref (ad G 0)), some (vi x1), some (vi x2), some (vi x3), some (vi x4), some (vi (x5 + 1)), none]) dX4_lose_94 rfl (by decide) rfl rfl rfl ?_
  refine sw_goto (pc' := 40) dX4_lose_97 (by decide) ?_
  exact hk40 x1 x2 x3 x4 (x5 + 1) σ
def f_X4_lose_111   (x4 : Int) (σ : St) : Option (Int × St) :=
  some (x4, σ)
set_option maxRecDepth 20000 in
theorem s_X4_lose_111     (x4 : Int) (σ : St) : SW G l RX4 cX4_lose 7 rm_X4_lose wI 111 [none, none, none, none, some (vi x4), none, none] [] σ (f_X4_lose_111 x4 σ) := by
  unfold f_X4_lose_111
  refine sw_iload (pc' := 113) dX4_lose_111 rfl rfl ?_
  refine sw_goto (pc' := 117) dX4_lose_113 (by decide) ?_
  exact sw_iret dX4_lose_117
def f_X4_lose_40   : Nat → Int → Int → Int → Int → Int → St → Option (Int × St)
  | 0, _, _, _, _, _, _ => none
  | n + 1, x1, x2, x3, x4, x5, σ =>
    if wr x5 < wr (σ 1 6) then
      bV (f_X2_copyFrom 11 1 σ) fun s60 => bV (pf s60 11 11 (isl 1 x5)) fun s71 => bI (f_X4_agreeingBehind x1 s71) fun v76 s76 => if wr x3 < wr v76 then
        f_X4_lose_94 (f_X4_lose_40 n) x1 x2 v76 x5 x5 s76
      else
        f_X4_lose_94 (f_X4_lose_40 n) x1 x2 x3 x4 x5 s76
    else
      if wr x2 = 0 then
        f_X4_lose_111 x4 σ
      else
        if wr x4 = wr (-4) then
          f_X4_lose_111 x4 σ
        else
          some (x3, σ)
set_option maxRecDepth 20000 in
theorem s_X4_lose_40     : ∀ (n : Nat) (x1 x2 x3 x4 x5 : Int) (σ : St), SW G l RX4 cX4_lose 7 rm_X4_lose wI 40 [some (.ref (ad G 0)), some (vi x1), some (vi x2), some (vi x3), some (vi x4), some (vi x5), none] [] σ (f_X4_lose_40 n x1 x2 x3 x4 x5 σ) := by
  intro n
  induction n with
  | zero => intro x1 x2 x3 x4 x5 σ; exact sw_none
  | succ n ih =>
    intro x1 x2 x3 x4 x5 σ
    rw [f_X4_lose_40]
    refine sw_iload (pc' := 42) dX4_lose_40 rfl rfl ?_
    refine sw_aload_n (pc' := 43) dX4_lose_42 rfl rfl ?_
    refine sw_getr (pc' := 46) dX4_lose_43 fl_X4_10 (tbk_0) rfl rfl ?_
    refine sw_getn (pc' := 49) dX4_lose_46 fl_X4_86 (tbk_1) rfl rfl ?_
    refine sw_icmp_ge (tgt := 100) (pc' := 52) dX4_lose_49 (by decide) rfl (fun _ => ?_) (fun _ => ?_)
    · refine sw_aload_n (pc' := 53) dX4_lose_52 rfl rfl ?_
      refine sw_getr (pc' := 56) dX4_lose_53 fl_X4_16 (tbk_0) rfl rfl ?_
      refine sw_aload_n (pc' := 57) dX4_lose_56 rfl rfl ?_
      refine sw_getr (pc' := 60) dX4_lose_57 fl_X4_10 (tbk_0) rfl rfl ?_
      refine sw_callVV (pc' := 63) (As := [.ref (ad G 1)]) (rest := []) dX4_lose_60 cv_X4_71 (tbk_11) (m_X2_copyFrom 11 1 (isSq_11) (isSq_1) σ) rfl rfl rfl rfl rfl (fun s60 => ?_)
      refine sw_aload_n (pc' := 64) dX4_lose_63 rfl rfl ?_
      refine sw_getr (pc' := 67) dX4_lose_64 fl_X4_16 (tbk_0) rfl rfl ?_
      refine sw_iconst (pc' := 68) dX4_lose_67 rfl ?_
      refine sw_iload (pc' := 70) dX4_lose_68 rfl rfl ?_
      refine sw_ishl (pc' := 71) dX4_lose_70 rfl ?_
      refine sw_putI (pc' := 74) dX4_lose_71 fp_X4_201 (tbk_11) rfl rfl (fun s71 => ?_)
      refine sw_aload_n (pc' := 75) dX4_lose_74 rfl rfl ?_
      refine sw_iload_n (pc' := 76) dX4_lose_75 rfl rfl ?_
      refine sw_callVI (pc' := 79) (As := [vi x1]) (rest := []) dX4_lose_76 cv_X4_198 (tbk_0) (m_X4_agreeingBehind x1 s71) rfl rfl rfl rfl rfl (fun v76 s76 => ?_)
      refine sw_istore (pc' := 81) (x := v76) (L' := [some (.ref (ad G 0)), some (vi x1), some (vi x2), some (vi x3), some (vi x4), some (vi x5), some (vi v76)]) dX4_lose_79 rfl (by decide) rfl rfl ?_
      refine sw_iload (pc' := 83) dX4_lose_81 rfl rfl ?_
      refine sw_iload_n (pc' := 84) dX4_lose_83 rfl rfl ?_
      refine sw_icmp_le (tgt := 94) (pc' := 87) dX4_lose_84 (by decide) rfl (fun _ => ?_) (fun _ => ?_)
      · refine sw_iload (pc' := 89) dX4_lose_87 rfl rfl ?_
        refine sw_istore_n (pc' := 90) (x := v76) (L' := [some (.ref (ad G 0)), some (vi x1), some (vi x2), some (vi v76), some (vi x4), some (vi x5), some (vi v76)]) dX4_lose_89 rfl (by decide) rfl rfl ?_
        refine sw_iload (pc' := 92) dX4_lose_90 rfl rfl ?_
        refine sw_istore (pc' := 94) (x := x5) (L' := [some (.ref (ad G 0)), some (vi x1), some (vi x2), some (vi v76), some (vi x5), some (vi x5), some (vi v76)]) dX4_lose_92 rfl (by decide) rfl rfl ?_
        refine sw_msk [true, true, true, true, true, true, false] rfl ?_
        exact s_X4_lose_94 (f_X4_lose_40 n) (ih) x1 x2 v76 x5 x5 s76
      · refine sw_msk [true, true, true, true, true, true, false] rfl ?_
        exact s_X4_lose_94 (f_X4_lose_40 n) (ih) x1 x2 x3 x4 x5 s76
    · refine sw_iload_n (pc' := 101) dX4_lose_100 rfl rfl ?_
      refine sw_if_eq (tgt := 111) (pc' := 104) dX4_lose_101 (by decide) rfl (fun _ => ?_) (fun _ => ?_)
      · refine sw_msk [false, false, false, false, true, false, false] rfl ?_
        exact s_X4_lose_111 x4 σ
      · refine sw_iload (pc' := 106) dX4_lose_104 rfl rfl ?_
        refine sw_bipush (pc' := 108) dX4_lose_106 rfl rfl ?_
        refine sw_icmp_ne (tgt := 116) (pc' := 111) dX4_lose_108 (by decide) rfl (fun _ => ?_) (fun _ => ?_)
        · refine sw_msk [false, false, false, false, true, false, false] rfl ?_
          exact s_X4_lose_111 x4 σ
        · refine sw_iload_n (pc' := 117) dX4_lose_116 rfl rfl ?_
          exact sw_iret dX4_lose_117
def f_X4_lose (x1 : Int) (x2 : Int) (σ : St) : Option (Int × St) :=
  bI (f_X4_isRunAhead x1 σ) fun v1 s1 => if v1 then
    bI (f_X4_isChoice x2 s1) fun v8 s8 => if v8 then
      bV (f_X2_copyFrom 11 1 s8) fun s24 => bI (f_X4_agreeingBehind x1 s24) fun v29 s29 => f_X4_lose_40 FU x1 x2 v29 (-4) 0 s29
    else
      some ((-1), s8)
  else
    some ((-1), s1)
set_option maxRecDepth 20000 in
theorem m_X4_lose (x1 : Int) (x2 : Int)  (σ : St) : MT G l yX4_lose cX4_lose 7 (some .int) rm_X4_lose [.ref (ad G 0), vi x1, vi x2] wI σ (f_X4_lose x1 x2 σ) := by
  refine mt_I (L := [some (.ref (ad G 0)), some (vi x1), some (vi x2), none, none, none, none]) rfl (Nat.le_of_ble_eq_true rfl) rfl ?_
  show SW G l RX4 cX4_lose 7 rm_X4_lose wI 0 [some (.ref (ad G 0)), some (vi x1), some (vi x2), none, none, none, none] [] σ (f_X4_lose x1 x2 σ)
  unfold f_X4_lose
  refine sw_iload_n (pc' := 1) dX4_lose_0 rfl rfl ?_
  refine sw_callSB (pc' := 4) (As := [vi x1]) (rest := []) dX4_lose_1 cs_X4_172 (m_X4_isRunAhead x1 σ) rfl rfl rfl rfl rfl (fun v1 s1 => ?_)
  refine sw_bif_eq (tgt := 14) (pc' := 7) dX4_lose_4 (by decide) rfl (fun _ => ?_) (fun _ => ?_)
  · refine sw_iload_n (pc' := 8) dX4_lose_7 rfl rfl ?_
    refine sw_callSB (pc' := 11) (As := [vi x2]) (rest := []) dX4_lose_8 cs_X4_178 (m_X4_isChoice x2 s1) rfl rfl rfl rfl rfl (fun v8 s8 => ?_)
    refine sw_bif_ne (tgt := 16) (pc' := 14) dX4_lose_11 (by decide) rfl (fun _ => ?_) (fun _ => ?_)
    · refine sw_aload_n (pc' := 17) dX4_lose_16 rfl rfl ?_
      refine sw_getr (pc' := 20) dX4_lose_17 fl_X4_16 (tbk_0) rfl rfl ?_
      refine sw_aload_n (pc' := 21) dX4_lose_20 rfl rfl ?_
      refine sw_getr (pc' := 24) dX4_lose_21 fl_X4_10 (tbk_0) rfl rfl ?_
      refine sw_callVV (pc' := 27) (As := [.ref (ad G 1)]) (rest := []) dX4_lose_24 cv_X4_71 (tbk_11) (m_X2_copyFrom 11 1 (isSq_11) (isSq_1) s8) rfl rfl rfl rfl rfl (fun s24 => ?_)
      refine sw_aload_n (pc' := 28) dX4_lose_27 rfl rfl ?_
      refine sw_iload_n (pc' := 29) dX4_lose_28 rfl rfl ?_
      refine sw_callVI (pc' := 32) (As := [vi x1]) (rest := []) dX4_lose_29 cv_X4_198 (tbk_0) (m_X4_agreeingBehind x1 s24) rfl rfl rfl rfl rfl (fun v29 s29 => ?_)
      refine sw_istore_n (pc' := 33) (x := v29) (L' := [some (.ref (ad G 0)), some (vi x1), some (vi x2), some (vi v29), none, none, none]) dX4_lose_32 rfl (by decide) rfl rfl ?_
      refine sw_bipush (pc' := 35) dX4_lose_33 rfl rfl ?_
      refine sw_istore (pc' := 37) (x := (-4)) (L' := [some (.ref (ad G 0)), some (vi x1), some (vi x2), some (vi v29), some (vi (-4)), none, none]) dX4_lose_35 rfl (by decide) rfl rfl ?_
      refine sw_iconst (pc' := 38) dX4_lose_37 rfl ?_
      refine sw_istore (pc' := 40) (x := 0) (L' := [some (.ref (ad G 0)), some (vi x1), some (vi x2), some (vi v29), some (vi (-4)), some (vi 0), none]) dX4_lose_38 rfl (by decide) rfl rfl ?_
      exact s_X4_lose_40 FU x1 x2 v29 (-4) 0 s29
    · refine sw_iconst (pc' := 15) dX4_lose_14 rfl ?_
      exact sw_iret dX4_lose_15
  · refine sw_iconst (pc' := 15) dX4_lose_14 rfl ?_
    exact sw_iret dX4_lose_15
def rm_X4_swap : Room := { frames := 7, cells := 0, slots := 0, locals := 164 }
def f_X4_swap_147  (k40 : Int → Int → Int → Int → Int → St → Option (Int × St)) (k58 : Int → Int → Int → Int → Int → Int → St → Option (Int × St)) (x1 x2 x3 x4 x5 x6 : Int) (σ : St) : Option (Int × St) :=
  k58 x1 x2 x3 x4 x5 (x6 + 1) σ
set_option maxRecDepth 20000 in
theorem s_X4_swap_147   (k40 : Int → Int → Int → Int → Int → St → Option (Int × St)) (k58 : Int → Int → Int → Int → Int → Int → St → Option (Int × St)) (hk40 : ∀ (x1 x2 x3 x4 x5 : Int) (σ : St), SW G l RX4 cX4_swap 8 rm_X4_swap wI 40 [some (.ref (ad G 0)), some (vi x1), some (vi x2), some (vi x3), some (vi x4), some (vi x5), none, none] [] σ (k40 x1 x2 x3 x4 x5 σ)) (hk58 : ∀ (x1 x2 x3 x4 x5 x6 : Int) (σ : St), SW G l RX4 cX4_swap 8 rm_X4_swap wI 58 [some (.ref (ad G 0)), some (vi x1), some (vi x2), some (vi x3), some (vi x4), some (vi x5), some (vi x6), none] [] σ (k58 x1 x2 x3 x4 x5 x6 σ)) (x1 x2 x3 x4 x5 x6 : Int) (σ : St) : SW G l RX4 cX4_swap 8 rm_X4_swap wI 147 [some (.ref (ad G 0)), some (vi x1), some (vi x2), some (vi x3), some (vi x4), some (vi x5), some (vi x6), none] [] σ (f_X4_swap_147 k40 k58 x1 x2 x3 x4 x5 x6 σ) := by
  unfold f_X4_swap_147
  refine sw_iinc (pc' := 150) (x := x6) (L' := [some (.ref (ad G 0)), some (vi x1), some (vi x2), some (vi x3), some (vi x4), some (vi x5), some (vi (x6 + 1)), none]) dX4_swap_147 rfl (by decide) rfl rfl rfl ?_
  refine sw_goto (pc' := 58) dX4_swap_150 (by decide) ?_
  exact hk58 x1 x2 x3 x4 x5 (x6 + 1) σ
def f_X4_swap_58  (k40 : Int → Int → Int → Int → Int → St → Option (Int × St)) : Nat → Int → Int → Int → Int → Int → Int → St → Option (Int × St)
  | 0, _, _, _, _, _, _, _ => none
  | n + 1, x1, x2, x3, x4, x5, x6, σ =>
    if wr x6 < wr (σ 1 6) then
      bV (f_X2_copyFrom 11 1 σ) fun s78 => bV (ld s78 8 8 x6) fun v99 => bV (sv s78 18 8 x5 v99) fun s100 => bV (ld s100 8 8 x5) fun v119 => bV (sv s100 18 8 x6 v119) fun s120 => bI (f_X4_agreeingBehind x1 s120) fun v123 s123 => if wr x3 < wr v123 then
        f_X4_swap_147 k40 (f_X4_swap_58 k40 n) x1 x2 v123 ((10 * x5) + x6) x5 x6 s123
      else
        f_X4_swap_147 k40 (f_X4_swap_58 k40 n) x1 x2 x3 x4 x5 x6 s123
    else
      k40 x1 x2 x3 x4 (x5 + 1) σ
set_option maxRecDepth 20000 in
theorem s_X4_swap_58   (k40 : Int → Int → Int → Int → Int → St → Option (Int × St)) (hk40 : ∀ (x1 x2 x3 x4 x5 : Int) (σ : St), SW G l RX4 cX4_swap 8 rm_X4_swap wI 40 [some (.ref (ad G 0)), some (vi x1), some (vi x2), some (vi x3), some (vi x4), some (vi x5), none, none] [] σ (k40 x1 x2 x3 x4 x5 σ)) : ∀ (n : Nat) (x1 x2 x3 x4 x5 x6 : Int) (σ : St), SW G l RX4 cX4_swap 8 rm_X4_swap wI 58 [some (.ref (ad G 0)), some (vi x1), some (vi x2), some (vi x3), some (vi x4), some (vi x5), some (vi x6), none] [] σ (f_X4_swap_58 k40 n x1 x2 x3 x4 x5 x6 σ) := by
  intro n
  induction n with
  | zero => intro x1 x2 x3 x4 x5 x6 σ; exact sw_none
  | succ n ih =>
    intro x1 x2 x3 x4 x5 x6 σ
    rw [f_X4_swap_58]
    refine sw_iload (pc' := 60) dX4_swap_58 rfl rfl ?_
    refine sw_aload_n (pc' := 61) dX4_swap_60 rfl rfl ?_
    refine sw_getr (pc' := 64) dX4_swap_61 fl_X4_10 (tbk_0) rfl rfl ?_
    refine sw_getn (pc' := 67) dX4_swap_64 fl_X4_86 (tbk_1) rfl rfl ?_
    refine sw_icmp_ge (tgt := 153) (pc' := 70) dX4_swap_67 (by decide) rfl (fun _ => ?_) (fun _ => ?_)
    · refine sw_aload_n (pc' := 71) dX4_swap_70 rfl rfl ?_
      refine sw_getr (pc' := 74) dX4_swap_71 fl_X4_16 (tbk_0) rfl rfl ?_
      refine sw_aload_n (pc' := 75) dX4_swap_74 rfl rfl ?_
      refine sw_getr (pc' := 78) dX4_swap_75 fl_X4_10 (tbk_0) rfl rfl ?_
      refine sw_callVV (pc' := 81) (As := [.ref (ad G 1)]) (rest := []) dX4_swap_78 cv_X4_71 (tbk_11) (m_X2_copyFrom 11 1 (isSq_11) (isSq_1) σ) rfl rfl rfl rfl rfl (fun s78 => ?_)
      refine sw_aload_n (pc' := 82) dX4_swap_81 rfl rfl ?_
      refine sw_getr (pc' := 85) dX4_swap_82 fl_X4_16 (tbk_0) rfl rfl ?_
      refine sw_getr (pc' := 88) dX4_swap_85 fl_X4_136 (tbk_11) rfl rfl ?_
      refine sw_iload (pc' := 90) dX4_swap_88 rfl rfl ?_
      refine sw_aload_n (pc' := 91) dX4_swap_90 rfl rfl ?_
      refine sw_getr (pc' := 94) dX4_swap_91 fl_X4_10 (tbk_0) rfl rfl ?_
      refine sw_getr (pc' := 97) dX4_swap_94 fl_X4_136 (tbk_1) rfl rfl ?_
      refine sw_iload (pc' := 99) dX4_swap_97 rfl rfl ?_
      refine sw_iald (pc' := 100) dX4_swap_99 (tbk_8) rfl (fun v99 => ?_)
      refine sw_iast (pc' := 101) dX4_swap_100 (tbk_18) rfl (fun s100 => ?_)
      refine sw_aload_n (pc' := 102) dX4_swap_101 rfl rfl ?_
      refine sw_getr (pc' := 105) dX4_swap_102 fl_X4_16 (tbk_0) rfl rfl ?_
      refine sw_getr (pc' := 108) dX4_swap_105 fl_X4_136 (tbk_11) rfl rfl ?_
      refine sw_iload (pc' := 110) dX4_swap_108 rfl rfl ?_
      refine sw_aload_n (pc' := 111) dX4_swap_110 rfl rfl ?_
      refine sw_getr (pc' := 114) dX4_swap_111 fl_X4_10 (tbk_0) rfl rfl ?_
      refine sw_getr (pc' := 117) dX4_swap_114 fl_X4_136 (tbk_1) rfl rfl ?_
      refine sw_iload (pc' := 119) dX4_swap_117 rfl rfl ?_
      refine sw_iald (pc' := 120) dX4_swap_119 (tbk_8) rfl (fun v119 => ?_)
      refine sw_iast (pc' := 121) dX4_swap_120 (tbk_18) rfl (fun s120 => ?_)
      refine sw_aload_n (pc' := 122) dX4_swap_121 rfl rfl ?_
      refine sw_iload_n (pc' := 123) dX4_swap_122 rfl rfl ?_
      refine sw_callVI (pc' := 126) (As := [vi x1]) (rest := []) dX4_swap_123 cv_X4_198 (tbk_0) (m_X4_agreeingBehind x1 s120) rfl rfl rfl rfl rfl (fun v123 s123 => ?_)
      refine sw_istore (pc' := 128) (x := v123) (L' := [some (.ref (ad G 0)), some (vi x1), some (vi x2), some (vi x3), some (vi x4), some (vi x5), some (vi x6), some (vi v123)]) dX4_swap_126 rfl (by decide) rfl rfl ?_
      refine sw_iload (pc' := 130) dX4_swap_128 rfl rfl ?_
      refine sw_iload_n (pc' := 131) dX4_swap_130 rfl rfl ?_
      refine sw_icmp_le (tgt := 147) (pc' := 134) dX4_swap_131 (by decide) rfl (fun _ => ?_) (fun _ => ?_)
      · refine sw_iload (pc' := 136) dX4_swap_134 rfl rfl ?_
        refine sw_istore_n (pc' := 137) (x := v123) (L' := [some (.ref (ad G 0)), some (vi x1), some (vi x2), some (vi v123), some (vi x4), some (vi x5), some (vi x6), some (vi v123)]) dX4_swap_136 rfl (by decide) rfl rfl ?_
        refine sw_bipush (pc' := 139) dX4_swap_137 rfl rfl ?_
        refine sw_iload (pc' := 141) dX4_swap_139 rfl rfl ?_
        refine sw_imul (pc' := 142) dX4_swap_141 rfl ?_
        refine sw_iload (pc' := 144) dX4_swap_142 rfl rfl ?_
        refine sw_iadd (pc' := 145) dX4_swap_144 rfl ?_
        refine sw_istore (pc' := 147) (x := ((10 * x5) + x6)) (L' := [some (.ref (ad G 0)), some (vi x1), some (vi x2), some (vi v123), some (vi ((10 * x5) + x6)), some (vi x5), some (vi x6), some (vi v123)]) dX4_swap_145 rfl (by decide) rfl rfl ?_
        refine sw_msk [true, true, true, true, true, true, true, false] rfl ?_
        exact s_X4_swap_147 k40 (f_X4_swap_58 k40 n) hk40 (ih) x1 x2 v123 ((10 * x5) + x6) x5 x6 s123
      · refine sw_msk [true, true, true, true, true, true, true, false] rfl ?_
        exact s_X4_swap_147 k40 (f_X4_swap_58 k40 n) hk40 (ih) x1 x2 x3 x4 x5 x6 s123
    · refine sw_iinc (pc' := 156) (x := x5) (L' := [some (.ref (ad G 0)), some (vi x1), some (vi x2), some (vi x3), some (vi x4), some (vi (x5 + 1)), some (vi x6), none]) dX4_swap_153 rfl (by decide) rfl rfl rfl ?_
      refine sw_goto (pc' := 40) dX4_swap_156 (by decide) ?_
      refine sw_msk [true, true, true, true, true, true, false, false] rfl ?_
      exact hk40 x1 x2 x3 x4 (x5 + 1) σ
def f_X4_swap_170   (x4 : Int) (σ : St) : Option (Int × St) :=
  some (x4, σ)
set_option maxRecDepth 20000 in
theorem s_X4_swap_170     (x4 : Int) (σ : St) : SW G l RX4 cX4_swap 8 rm_X4_swap wI 170 [none, none, none, none, some (vi x4), none, none, none] [] σ (f_X4_swap_170 x4 σ) := by
  unfold f_X4_swap_170
  refine sw_iload (pc' := 172) dX4_swap_170 rfl rfl ?_
  refine sw_goto (pc' := 176) dX4_swap_172 (by decide) ?_
  exact sw_iret dX4_swap_176
def f_X4_swap_40   : Nat → Int → Int → Int → Int → Int → St → Option (Int × St)
  | 0, _, _, _, _, _, _ => none
  | n + 1, x1, x2, x3, x4, x5, σ =>
    if wr x5 < wr (σ 1 6) then
      f_X4_swap_58 (f_X4_swap_40 n) FU x1 x2 x3 x4 x5 (x5 + 1) σ
    else
      if wr x2 = 0 then
        f_X4_swap_170 x4 σ
      else
        if wr x4 = wr (-4) then
          f_X4_swap_170 x4 σ
        else
          some (x3, σ)
set_option maxRecDepth 20000 in
theorem s_X4_swap_40     : ∀ (n : Nat) (x1 x2 x3 x4 x5 : Int) (σ : St), SW G l RX4 cX4_swap 8 rm_X4_swap wI 40 [some (.ref (ad G 0)), some (vi x1), some (vi x2), some (vi x3), some (vi x4), some (vi x5), none, none] [] σ (f_X4_swap_40 n x1 x2 x3 x4 x5 σ) := by
  intro n
  induction n with
  | zero => intro x1 x2 x3 x4 x5 σ; exact sw_none
  | succ n ih =>
    intro x1 x2 x3 x4 x5 σ
    rw [f_X4_swap_40]
    refine sw_iload (pc' := 42) dX4_swap_40 rfl rfl ?_
    refine sw_aload_n (pc' := 43) dX4_swap_42 rfl rfl ?_
    refine sw_getr (pc' := 46) dX4_swap_43 fl_X4_10 (tbk_0) rfl rfl ?_
    refine sw_getn (pc' := 49) dX4_swap_46 fl_X4_86 (tbk_1) rfl rfl ?_
    refine sw_icmp_ge (tgt := 159) (pc' := 52) dX4_swap_49 (by decide) rfl (fun _ => ?_) (fun _ => ?_)
    · refine sw_iload (pc' := 54) dX4_swap_52 rfl rfl ?_
      refine sw_iconst (pc' := 55) dX4_swap_54 rfl ?_
      refine sw_iadd (pc' := 56) dX4_swap_55 rfl ?_
      refine sw_istore (pc' := 58) (x := (x5 + 1)) (L' := [some (.ref (ad G 0)), some (vi x1), some (vi x2), some (vi x3), some (vi x4), some (vi x5), some (vi (x5 + 1)), none]) dX4_swap_56 rfl (by decide) rfl rfl ?_
      exact s_X4_swap_58 (f_X4_swap_40 n) (ih) FU x1 x2 x3 x4 x5 (x5 + 1) σ
    · refine sw_iload_n (pc' := 160) dX4_swap_159 rfl rfl ?_
      refine sw_if_eq (tgt := 170) (pc' := 163) dX4_swap_160 (by decide) rfl (fun _ => ?_) (fun _ => ?_)
      · refine sw_msk [false, false, false, false, true, false, false, false] rfl ?_
        exact s_X4_swap_170 x4 σ
      · refine sw_iload (pc' := 165) dX4_swap_163 rfl rfl ?_
        refine sw_bipush (pc' := 167) dX4_swap_165 rfl rfl ?_
        refine sw_icmp_ne (tgt := 175) (pc' := 170) dX4_swap_167 (by decide) rfl (fun _ => ?_) (fun _ => ?_)
        · refine sw_msk [false, false, false, false, true, false, false, false] rfl ?_
          exact s_X4_swap_170 x4 σ
        · refine sw_iload_n (pc' := 176) dX4_swap_175 rfl rfl ?_
          exact sw_iret dX4_swap_176
def f_X4_swap (x1 : Int) (x2 : Int) (σ : St) : Option (Int × St) :=
  bI (f_X4_isRunAhead x1 σ) fun v1 s1 => if v1 then
    bI (f_X4_isChoice x2 s1) fun v8 s8 => if v8 then
      bV (f_X2_copyFrom 11 1 s8) fun s24 => bI (f_X4_agreeingBehind x1 s24) fun v29 s29 => f_X4_swap_40 FU x1 x2 v29 (-4) 0 s29
    else
      some ((-1), s8)
  else
    some ((-1), s1)
set_option maxRecDepth 20000 in
theorem m_X4_swap (x1 : Int) (x2 : Int)  (σ : St) : MT G l yX4_swap cX4_swap 8 (some .int) rm_X4_swap [.ref (ad G 0), vi x1, vi x2] wI σ (f_X4_swap x1 x2 σ) := by
  refine mt_I (L := [some (.ref (ad G 0)), some (vi x1), some (vi x2), none, none, none, none, none]) rfl (Nat.le_of_ble_eq_true rfl) rfl ?_
  show SW G l RX4 cX4_swap 8 rm_X4_swap wI 0 [some (.ref (ad G 0)), some (vi x1), some (vi x2), none, none, none, none, none] [] σ (f_X4_swap x1 x2 σ)
  unfold f_X4_swap
  refine sw_iload_n (pc' := 1) dX4_swap_0 rfl rfl ?_
  refine sw_callSB (pc' := 4) (As := [vi x1]) (rest := []) dX4_swap_1 cs_X4_172 (m_X4_isRunAhead x1 σ) rfl rfl rfl rfl rfl (fun v1 s1 => ?_)
  refine sw_bif_eq (tgt := 14) (pc' := 7) dX4_swap_4 (by decide) rfl (fun _ => ?_) (fun _ => ?_)
  · refine sw_iload_n (pc' := 8) dX4_swap_7 rfl rfl ?_
    refine sw_callSB (pc' := 11) (As := [vi x2]) (rest := []) dX4_swap_8 cs_X4_178 (m_X4_isChoice x2 s1) rfl rfl rfl rfl rfl (fun v8 s8 => ?_)
    refine sw_bif_ne (tgt := 16) (pc' := 14) dX4_swap_11 (by decide) rfl (fun _ => ?_) (fun _ => ?_)
    · refine sw_aload_n (pc' := 17) dX4_swap_16 rfl rfl ?_
      refine sw_getr (pc' := 20) dX4_swap_17 fl_X4_16 (tbk_0) rfl rfl ?_
      refine sw_aload_n (pc' := 21) dX4_swap_20 rfl rfl ?_
      refine sw_getr (pc' := 24) dX4_swap_21 fl_X4_10 (tbk_0) rfl rfl ?_
      refine sw_callVV (pc' := 27) (As := [.ref (ad G 1)]) (rest := []) dX4_swap_24 cv_X4_71 (tbk_11) (m_X2_copyFrom 11 1 (isSq_11) (isSq_1) s8) rfl rfl rfl rfl rfl (fun s24 => ?_)
      refine sw_aload_n (pc' := 28) dX4_swap_27 rfl rfl ?_
      refine sw_iload_n (pc' := 29) dX4_swap_28 rfl rfl ?_
      refine sw_callVI (pc' := 32) (As := [vi x1]) (rest := []) dX4_swap_29 cv_X4_198 (tbk_0) (m_X4_agreeingBehind x1 s24) rfl rfl rfl rfl rfl (fun v29 s29 => ?_)
      refine sw_istore_n (pc' := 33) (x := v29) (L' := [some (.ref (ad G 0)), some (vi x1), some (vi x2), some (vi v29), none, none, none, none]) dX4_swap_32 rfl (by decide) rfl rfl ?_
      refine sw_bipush (pc' := 35) dX4_swap_33 rfl rfl ?_
      refine sw_istore (pc' := 37) (x := (-4)) (L' := [some (.ref (ad G 0)), some (vi x1), some (vi x2), some (vi v29), some (vi (-4)), none, none, none]) dX4_swap_35 rfl (by decide) rfl rfl ?_
      refine sw_iconst (pc' := 38) dX4_swap_37 rfl ?_
      refine sw_istore (pc' := 40) (x := 0) (L' := [some (.ref (ad G 0)), some (vi x1), some (vi x2), some (vi v29), some (vi (-4)), some (vi 0), none, none]) dX4_swap_38 rfl (by decide) rfl rfl ?_
      exact s_X4_swap_40 FU x1 x2 v29 (-4) 0 s29
    · refine sw_iconst (pc' := 15) dX4_swap_14 rfl ?_
      exact sw_iret dX4_swap_15
  · refine sw_iconst (pc' := 15) dX4_swap_14 rfl ?_
    exact sw_iret dX4_swap_15
def rm_X4_gain : Room := { frames := 3, cells := 0, slots := 0, locals := 71 }
def f_X4_gain_46   : Nat → Int → Int → Int → Int → Int → St → Option (Int × St)
  | 0, _, _, _, _, _, _ => none
  | n + 1, x1, x2, x3, x4, x5, σ =>
    if wr 9 < wr x5 then
      some ((-4), σ)
    else
      bV (sv σ 15 4 x1 x5) fun s63 => bI (f_X2_beliefOf 11 x2 x4 s63) fun v71 s71 => if wr v71 = wr x3 then
        some (x5, s71)
      else
        (f_X4_gain_46 n) x1 x2 x3 x4 (x5 + 1) s71
set_option maxRecDepth 20000 in
theorem s_X4_gain_46     : ∀ (n : Nat) (x1 x2 x3 x4 x5 : Int) (σ : St), SW G l RX4 cX4_gain 6 rm_X4_gain wI 46 [some (.ref (ad G 0)), some (vi x1), some (vi x2), some (vi x3), some (vi x4), some (vi x5)] [] σ (f_X4_gain_46 n x1 x2 x3 x4 x5 σ) := by
  intro n
  induction n with
  | zero => intro x1 x2 x3 x4 x5 σ; exact sw_none
  | succ n ih =>
    intro x1 x2 x3 x4 x5 σ
    rw [f_X4_gain_46]
    refine sw_iload (pc' := 48) dX4_gain_46 rfl rfl ?_
    refine sw_bipush (pc' := 50) dX4_gain_48 rfl rfl ?_
    refine sw_icmp_gt (tgt := 87) (pc' := 53) dX4_gain_50 (by decide) rfl (fun _ => ?_) (fun _ => ?_)
    · refine sw_bipush (pc' := 89) dX4_gain_87 rfl rfl ?_
      exact sw_iret dX4_gain_89
    · refine sw_aload_n (pc' := 54) dX4_gain_53 rfl rfl ?_
      refine sw_getr (pc' := 57) dX4_gain_54 fl_X4_16 (tbk_0) rfl rfl ?_
      refine sw_getr (pc' := 60) dX4_gain_57 fl_X4_145 (tbk_11) rfl rfl ?_
      refine sw_iload_n (pc' := 61) dX4_gain_60 rfl rfl ?_
      refine sw_iload (pc' := 63) dX4_gain_61 rfl rfl ?_
      refine sw_iast (pc' := 64) dX4_gain_63 (tbk_15) rfl (fun s63 => ?_)
      refine sw_aload_n (pc' := 65) dX4_gain_64 rfl rfl ?_
      refine sw_getr (pc' := 68) dX4_gain_65 fl_X4_16 (tbk_0) rfl rfl ?_
      refine sw_iload_n (pc' := 69) dX4_gain_68 rfl rfl ?_
      refine sw_iload (pc' := 71) dX4_gain_69 rfl rfl ?_
      refine sw_callVI (pc' := 74) (As := [vi x2, vi x4]) (rest := []) dX4_gain_71 cv_X4_122 (tbk_11) (m_X2_beliefOf 11 x2 x4 (isSq_11) s63) rfl rfl rfl rfl rfl (fun v71 s71 => ?_)
      refine sw_iload_n (pc' := 75) dX4_gain_74 rfl rfl ?_
      refine sw_icmp_ne (tgt := 81) (pc' := 78) dX4_gain_75 (by decide) rfl (fun _ => ?_) (fun _ => ?_)
      · refine sw_iload (pc' := 80) dX4_gain_78 rfl rfl ?_
        exact sw_iret dX4_gain_80
      · refine sw_iinc (pc' := 84) (x := x5) (L' := [some (.ref (ad G 0)), some (vi x1), some (vi x2), some (vi x3), some (vi x4), some (vi (x5 + 1))]) dX4_gain_81 rfl (by decide) rfl rfl rfl ?_
        refine sw_goto (pc' := 46) dX4_gain_84 (by decide) ?_
        exact (ih) x1 x2 x3 x4 (x5 + 1) s71
def f_X4_gain (x1 : Int) (x2 : Int) (x3 : Int) (x4 : Int) (σ : St) : Option (Int × St) :=
  bI (f_X4_isReporter x1 σ) fun v1 s1 => if v1 then
    bI (f_X4_isRider x2 s1) fun v9 s9 => if v9 then
      bI (f_X4_isEnd x3 s9) fun v16 s16 => if v16 then
        bI (f_X4_isDay x4 s16) fun v24 s24 => if v24 then
          bV (f_X2_copyFrom 11 1 s24) fun s40 => f_X4_gain_46 FU x1 x2 x3 x4 0 s40
        else
          some ((-1), s24)
      else
        some ((-1), s16)
    else
      some ((-1), s9)
  else
    some ((-1), s1)
set_option maxRecDepth 20000 in
theorem m_X4_gain (x1 : Int) (x2 : Int) (x3 : Int) (x4 : Int)  (σ : St) : MT G l yX4_gain cX4_gain 6 (some .int) rm_X4_gain [.ref (ad G 0), vi x1, vi x2, vi x3, vi x4] wI σ (f_X4_gain x1 x2 x3 x4 σ) := by
  refine mt_I (L := [some (.ref (ad G 0)), some (vi x1), some (vi x2), some (vi x3), some (vi x4), none]) rfl (Nat.le_of_ble_eq_true rfl) rfl ?_
  show SW G l RX4 cX4_gain 6 rm_X4_gain wI 0 [some (.ref (ad G 0)), some (vi x1), some (vi x2), some (vi x3), some (vi x4), none] [] σ (f_X4_gain x1 x2 x3 x4 σ)
  unfold f_X4_gain
  refine sw_iload_n (pc' := 1) dX4_gain_0 rfl rfl ?_
  refine sw_callSB (pc' := 4) (As := [vi x1]) (rest := []) dX4_gain_1 cs_X4_142 (m_X4_isReporter x1 σ) rfl rfl rfl rfl rfl (fun v1 s1 => ?_)
  refine sw_bif_eq (tgt := 30) (pc' := 7) dX4_gain_4 (by decide) rfl (fun _ => ?_) (fun _ => ?_)
  · refine sw_aload_n (pc' := 8) dX4_gain_7 rfl rfl ?_
    refine sw_iload_n (pc' := 9) dX4_gain_8 rfl rfl ?_
    refine sw_callVB (pc' := 12) (As := [vi x2]) (rest := []) dX4_gain_9 cv_X4_105 (tbk_0) (m_X4_isRider x2 s1) rfl rfl rfl rfl rfl (fun v9 s9 => ?_)
    refine sw_bif_eq (tgt := 30) (pc' := 15) dX4_gain_12 (by decide) rfl (fun _ => ?_) (fun _ => ?_)
    · refine sw_iload_n (pc' := 16) dX4_gain_15 rfl rfl ?_
      refine sw_callSB (pc' := 19) (As := [vi x3]) (rest := []) dX4_gain_16 cs_X4_148 (m_X4_isEnd x3 s9) rfl rfl rfl rfl rfl (fun v16 s16 => ?_)
      refine sw_bif_eq (tgt := 30) (pc' := 22) dX4_gain_19 (by decide) rfl (fun _ => ?_) (fun _ => ?_)
      · refine sw_iload (pc' := 24) dX4_gain_22 rfl rfl ?_
        refine sw_callSB (pc' := 27) (As := [vi x4]) (rest := []) dX4_gain_24 cs_X4_151 (m_X4_isDay x4 s16) rfl rfl rfl rfl rfl (fun v24 s24 => ?_)
        refine sw_bif_ne (tgt := 32) (pc' := 30) dX4_gain_27 (by decide) rfl (fun _ => ?_) (fun _ => ?_)
        · refine sw_aload_n (pc' := 33) dX4_gain_32 rfl rfl ?_
          refine sw_getr (pc' := 36) dX4_gain_33 fl_X4_16 (tbk_0) rfl rfl ?_
          refine sw_aload_n (pc' := 37) dX4_gain_36 rfl rfl ?_
          refine sw_getr (pc' := 40) dX4_gain_37 fl_X4_10 (tbk_0) rfl rfl ?_
          refine sw_callVV (pc' := 43) (As := [.ref (ad G 1)]) (rest := []) dX4_gain_40 cv_X4_71 (tbk_11) (m_X2_copyFrom 11 1 (isSq_11) (isSq_1) s24) rfl rfl rfl rfl rfl (fun s40 => ?_)
          refine sw_iconst (pc' := 44) dX4_gain_43 rfl ?_
          refine sw_istore (pc' := 46) (x := 0) (L' := [some (.ref (ad G 0)), some (vi x1), some (vi x2), some (vi x3), some (vi x4), some (vi 0)]) dX4_gain_44 rfl (by decide) rfl rfl ?_
          exact s_X4_gain_46 FU x1 x2 x3 x4 0 s40
        · refine sw_iconst (pc' := 31) dX4_gain_30 rfl ?_
          exact sw_iret dX4_gain_31
      · refine sw_iconst (pc' := 31) dX4_gain_30 rfl ?_
        exact sw_iret dX4_gain_31
    · refine sw_iconst (pc' := 31) dX4_gain_30 rfl ?_
      exact sw_iret dX4_gain_31
  · refine sw_iconst (pc' := 31) dX4_gain_30 rfl ?_
    exact sw_iret dX4_gain_31
def rm_X4_kind : Room := { frames := 6, cells := 0, slots := 0, locals := 143 }
def f_X4_kind_88  (k35 : Int → Int → Int → Int → Int → Int → St → Option (Int × St)) (x1 x2 x3 x4 x5 x6 : Int) (σ : St) : Option (Int × St) :=
  k35 x1 x2 x3 x4 x5 (x6 + 1) σ
set_option maxRecDepth 20000 in
theorem s_X4_kind_88   (k35 : Int → Int → Int → Int → Int → Int → St → Option (Int × St)) (hk35 : ∀ (x1 x2 x3 x4 x5 x6 : Int) (σ : St), SW G l RX4 cX4_kind 8 rm_X4_kind wI 35 [some (.ref (ad G 0)), some (vi x1), some (vi x2), some (vi x3), some (vi x4), some (vi x5), some (vi x6), none] [] σ (k35 x1 x2 x3 x4 x5 x6 σ)) (x1 x2 x3 x4 x5 x6 : Int) (σ : St) : SW G l RX4 cX4_kind 8 rm_X4_kind wI 88 [some (.ref (ad G 0)), some (vi x1), some (vi x2), some (vi x3), some (vi x4), some (vi x5), some (vi x6), none] [] σ (f_X4_kind_88 k35 x1 x2 x3 x4 x5 x6 σ) := by
  unfold f_X4_kind_88
  refine sw_iinc (pc' := 91) (x := x6) (L' := [some (.ref (ad G 0)), some (vi x1), some (vi x2), some (vi x3), some (vi x4), some (vi x5), some (vi (x6 + 1)), none]) dX4_kind_88 rfl (by decide) rfl rfl rfl ?_
  refine sw_goto (pc' := 35) dX4_kind_91 (by decide) ?_
  exact hk35 x1 x2 x3 x4 x5 (x6 + 1) σ
def f_X4_kind_35   : Nat → Int → Int → Int → Int → Int → Int → St → Option (Int × St)
  | 0, _, _, _, _, _, _, _ => none
  | n + 1, x1, x2, x3, x4, x5, x6, σ =>
    if wr x6 < wr 4 then
      bV (f_X2_copyFrom 11 1 σ) fun s49 => bV (sv s49 12 5 x1 x6) fun s62 => bI (f_X2_passDays 11 x2 s62) fun v68 s68 => if wr v68 < wr x4 then
        f_X4_kind_88 (f_X4_kind_35 n) x1 x2 x3 v68 x6 x6 s68
      else
        f_X4_kind_88 (f_X4_kind_35 n) x1 x2 x3 x4 x5 x6 s68
    else
      if wr x3 = 0 then
        some (x5, σ)
      else
        some (x4, σ)
set_option maxRecDepth 20000 in
theorem s_X4_kind_35     : ∀ (n : Nat) (x1 x2 x3 x4 x5 x6 : Int) (σ : St), SW G l RX4 cX4_kind 8 rm_X4_kind wI 35 [some (.ref (ad G 0)), some (vi x1), some (vi x2), some (vi x3), some (vi x4), some (vi x5), some (vi x6), none] [] σ (f_X4_kind_35 n x1 x2 x3 x4 x5 x6 σ) := by
  intro n
  induction n with
  | zero => intro x1 x2 x3 x4 x5 x6 σ; exact sw_none
  | succ n ih =>
    intro x1 x2 x3 x4 x5 x6 σ
    rw [f_X4_kind_35]
    refine sw_iload (pc' := 37) dX4_kind_35 rfl rfl ?_
    refine sw_iconst (pc' := 38) dX4_kind_37 rfl ?_
    refine sw_icmp_ge (tgt := 94) (pc' := 41) dX4_kind_38 (by decide) rfl (fun _ => ?_) (fun _ => ?_)
    · refine sw_aload_n (pc' := 42) dX4_kind_41 rfl rfl ?_
      refine sw_getr (pc' := 45) dX4_kind_42 fl_X4_16 (tbk_0) rfl rfl ?_
      refine sw_aload_n (pc' := 46) dX4_kind_45 rfl rfl ?_
      refine sw_getr (pc' := 49) dX4_kind_46 fl_X4_10 (tbk_0) rfl rfl ?_
      refine sw_callVV (pc' := 52) (As := [.ref (ad G 1)]) (rest := []) dX4_kind_49 cv_X4_71 (tbk_11) (m_X2_copyFrom 11 1 (isSq_11) (isSq_1) σ) rfl rfl rfl rfl rfl (fun s49 => ?_)
      refine sw_aload_n (pc' := 53) dX4_kind_52 rfl rfl ?_
      refine sw_getr (pc' := 56) dX4_kind_53 fl_X4_16 (tbk_0) rfl rfl ?_
      refine sw_getr (pc' := 59) dX4_kind_56 fl_X4_108 (tbk_11) rfl rfl ?_
      refine sw_iload_n (pc' := 60) dX4_kind_59 rfl rfl ?_
      refine sw_iload (pc' := 62) dX4_kind_60 rfl rfl ?_
      refine sw_iast (pc' := 63) dX4_kind_62 (tbk_12) rfl (fun s62 => ?_)
      refine sw_aload_n (pc' := 64) dX4_kind_63 rfl rfl ?_
      refine sw_getr (pc' := 67) dX4_kind_64 fl_X4_16 (tbk_0) rfl rfl ?_
      refine sw_iload_n (pc' := 68) dX4_kind_67 rfl rfl ?_
      refine sw_callVI (pc' := 71) (As := [vi x2]) (rest := []) dX4_kind_68 cv_X4_169 (tbk_11) (m_X2_passDays 11 x2 (isSq_11) s62) rfl rfl rfl rfl rfl (fun v68 s68 => ?_)
      refine sw_istore (pc' := 73) (x := v68) (L' := [some (.ref (ad G 0)), some (vi x1), some (vi x2), some (vi x3), some (vi x4), some (vi x5), some (vi x6), some (vi v68)]) dX4_kind_71 rfl (by decide) rfl rfl ?_
      refine sw_iload (pc' := 75) dX4_kind_73 rfl rfl ?_
      refine sw_iload (pc' := 77) dX4_kind_75 rfl rfl ?_
      refine sw_icmp_ge (tgt := 88) (pc' := 80) dX4_kind_77 (by decide) rfl (fun _ => ?_) (fun _ => ?_)
      · refine sw_iload (pc' := 82) dX4_kind_80 rfl rfl ?_
        refine sw_istore (pc' := 84) (x := v68) (L' := [some (.ref (ad G 0)), some (vi x1), some (vi x2), some (vi x3), some (vi v68), some (vi x5), some (vi x6), some (vi v68)]) dX4_kind_82 rfl (by decide) rfl rfl ?_
        refine sw_iload (pc' := 86) dX4_kind_84 rfl rfl ?_
        refine sw_istore (pc' := 88) (x := x6) (L' := [some (.ref (ad G 0)), some (vi x1), some (vi x2), some (vi x3), some (vi v68), some (vi x6), some (vi x6), some (vi v68)]) dX4_kind_86 rfl (by decide) rfl rfl ?_
        refine sw_msk [true, true, true, true, true, true, true, false] rfl ?_
        exact s_X4_kind_88 (f_X4_kind_35 n) (ih) x1 x2 x3 v68 x6 x6 s68
      · refine sw_msk [true, true, true, true, true, true, true, false] rfl ?_
        exact s_X4_kind_88 (f_X4_kind_35 n) (ih) x1 x2 x3 x4 x5 x6 s68
    · refine sw_iload_n (pc' := 95) dX4_kind_94 rfl rfl ?_
      refine sw_if_ne (tgt := 103) (pc' := 98) dX4_kind_95 (by decide) rfl (fun _ => ?_) (fun _ => ?_)
      · refine sw_iload (pc' := 100) dX4_kind_98 rfl rfl ?_
        refine sw_goto (pc' := 105) dX4_kind_100 (by decide) ?_
        exact sw_iret dX4_kind_105
      · refine sw_iload (pc' := 105) dX4_kind_103 rfl rfl ?_
        exact sw_iret dX4_kind_105
def f_X4_kind (x1 : Int) (x2 : Int) (x3 : Int) (σ : St) : Option (Int × St) :=
  bI (f_X4_isRider x1 σ) fun v2 s2 => if v2 then
    bI (f_X4_isRunAhead x2 s2) fun v9 s9 => if v9 then
      bI (f_X4_isChoice x3 s9) fun v16 s16 => if v16 then
        f_X4_kind_35 FU x1 x2 x3 301 0 0 s16
      else
        some ((-1), s16)
    else
      some ((-1), s9)
  else
    some ((-1), s2)
set_option maxRecDepth 20000 in
theorem m_X4_kind (x1 : Int) (x2 : Int) (x3 : Int)  (σ : St) : MT G l yX4_kind cX4_kind 8 (some .int) rm_X4_kind [.ref (ad G 0), vi x1, vi x2, vi x3] wI σ (f_X4_kind x1 x2 x3 σ) := by
  refine mt_I (L := [some (.ref (ad G 0)), some (vi x1), some (vi x2), some (vi x3), none, none, none, none]) rfl (Nat.le_of_ble_eq_true rfl) rfl ?_
  show SW G l RX4 cX4_kind 8 rm_X4_kind wI 0 [some (.ref (ad G 0)), some (vi x1), some (vi x2), some (vi x3), none, none, none, none] [] σ (f_X4_kind x1 x2 x3 σ)
  unfold f_X4_kind
  refine sw_aload_n (pc' := 1) dX4_kind_0 rfl rfl ?_
  refine sw_iload_n (pc' := 2) dX4_kind_1 rfl rfl ?_
  refine sw_callVB (pc' := 5) (As := [vi x1]) (rest := []) dX4_kind_2 cv_X4_105 (tbk_0) (m_X4_isRider x1 σ) rfl rfl rfl rfl rfl (fun v2 s2 => ?_)
  refine sw_bif_eq (tgt := 22) (pc' := 8) dX4_kind_5 (by decide) rfl (fun _ => ?_) (fun _ => ?_)
  · refine sw_iload_n (pc' := 9) dX4_kind_8 rfl rfl ?_
    refine sw_callSB (pc' := 12) (As := [vi x2]) (rest := []) dX4_kind_9 cs_X4_172 (m_X4_isRunAhead x2 s2) rfl rfl rfl rfl rfl (fun v9 s9 => ?_)
    refine sw_bif_eq (tgt := 22) (pc' := 15) dX4_kind_12 (by decide) rfl (fun _ => ?_) (fun _ => ?_)
    · refine sw_iload_n (pc' := 16) dX4_kind_15 rfl rfl ?_
      refine sw_callSB (pc' := 19) (As := [vi x3]) (rest := []) dX4_kind_16 cs_X4_178 (m_X4_isChoice x3 s9) rfl rfl rfl rfl rfl (fun v16 s16 => ?_)
      refine sw_bif_ne (tgt := 24) (pc' := 22) dX4_kind_19 (by decide) rfl (fun _ => ?_) (fun _ => ?_)
      · refine sw_sipush (pc' := 27) dX4_kind_24 rfl rfl ?_
        refine sw_istore (pc' := 29) (x := 301) (L' := [some (.ref (ad G 0)), some (vi x1), some (vi x2), some (vi x3), some (vi 301), none, none, none]) dX4_kind_27 rfl (by decide) rfl rfl ?_
        refine sw_iconst (pc' := 30) dX4_kind_29 rfl ?_
        refine sw_istore (pc' := 32) (x := 0) (L' := [some (.ref (ad G 0)), some (vi x1), some (vi x2), some (vi x3), some (vi 301), some (vi 0), none, none]) dX4_kind_30 rfl (by decide) rfl rfl ?_
        refine sw_iconst (pc' := 33) dX4_kind_32 rfl ?_
        refine sw_istore (pc' := 35) (x := 0) (L' := [some (.ref (ad G 0)), some (vi x1), some (vi x2), some (vi x3), some (vi 301), some (vi 0), some (vi 0), none]) dX4_kind_33 rfl (by decide) rfl rfl ?_
        exact s_X4_kind_35 FU x1 x2 x3 301 0 0 s16
      · refine sw_iconst (pc' := 23) dX4_kind_22 rfl ?_
        exact sw_iret dX4_kind_23
    · refine sw_iconst (pc' := 23) dX4_kind_22 rfl ?_
      exact sw_iret dX4_kind_23
  · refine sw_iconst (pc' := 23) dX4_kind_22 rfl ?_
    exact sw_iret dX4_kind_23
def rm_X4_isOdds : Room := { frames := 1, cells := 0, slots := 0, locals := 22 }
def f_X4_isOdds (x0 : Int) (σ : St) : Option (Bool × St) :=
  bI (f_X4_within x0 0 10 σ) fun v4 s4 => some (v4, s4)
set_option maxRecDepth 20000 in
theorem m_X4_isOdds (x0 : Int)  (σ : St) : MT G l yX4_isOdds cX4_isOdds 1 (some .boolean) rm_X4_isOdds [vi x0] wB σ (f_X4_isOdds x0 σ) := by
  refine mt_B (L := [some (vi x0)]) rfl (Nat.le_of_ble_eq_true rfl) rfl ?_
  show SW G l RX4 cX4_isOdds 1 rm_X4_isOdds wB 0 [some (vi x0)] [] σ (f_X4_isOdds x0 σ)
  unfold f_X4_isOdds
  refine sw_iload_n (pc' := 1) dX4_isOdds_0 rfl rfl ?_
  refine sw_iconst (pc' := 2) dX4_isOdds_1 rfl ?_
  refine sw_bipush (pc' := 4) dX4_isOdds_2 rfl rfl ?_
  refine sw_callSB (pc' := 7) (As := [vi x0, vi 0, vi 10]) (rest := []) dX4_isOdds_4 cs_X4_46 (m_X4_within x0 0 10 σ) rfl rfl rfl rfl rfl (fun v4 s4 => ?_)
  exact sw_bret dX4_isOdds_7
def rm_X4_lowestTerms : Room := { frames := 0, cells := 0, slots := 0, locals := 0 }
def f_X4_lowestTerms_54   (x5 t0 : Int) (σ : St) : Option (Int × St) :=
  if wr (lcm x5 0) = 0 then
    some (t0, σ)
  else
    bV (ldv t0 x5) fun v72 => some (v72, σ)
set_option maxRecDepth 20000 in
theorem s_X4_lowestTerms_54     (x5 t0 : Int) (σ : St) : SW G l RX4 cX4_lowestTerms 12 rm_X4_lowestTerms wL 54 [none, none, none, none, none, some (vl x5), none, none, none, none, none, none] [vl t0] σ (f_X4_lowestTerms_54 x5 t0 σ) := by
  unfold f_X4_lowestTerms_54
  refine sw_lstore (pc' := 56) (x := t0) (L' := [none, none, none, none, none, some (vl x5), none, none, none, some (vl t0), none, none]) dX4_lowestTerms_54 rfl (by decide) rfl rfl ?_
  refine sw_lload (pc' := 58) dX4_lowestTerms_56 rfl rfl ?_
  refine sw_lconst (x := 0) (pc' := 59) dX4_lowestTerms_58 rfl rfl ?_
  refine sw_lcmp (pc' := 60) dX4_lowestTerms_59 rfl ?_
  refine sw_if_ne (tgt := 68) (pc' := 63) dX4_lowestTerms_60 (by decide) rfl (fun _ => ?_) (fun _ => ?_)
  · refine sw_lload (pc' := 65) dX4_lowestTerms_63 rfl rfl ?_
    refine sw_goto (pc' := 73) dX4_lowestTerms_65 (by decide) ?_
    exact sw_lret dX4_lowestTerms_73
  · refine sw_lload (pc' := 70) dX4_lowestTerms_68 rfl rfl ?_
    refine sw_lload (pc' := 72) dX4_lowestTerms_70 rfl rfl ?_
    refine sw_ldiv (pc' := 73) dX4_lowestTerms_72 rfl (fun v72 => ?_)
    exact sw_lret dX4_lowestTerms_73
def f_X4_lowestTerms_44   (x0 x2 x4 x5 : Int) (σ : St) : Option (Int × St) :=
  if wr x4 = 0 then
    f_X4_lowestTerms_54 x5 x0 σ
  else
    f_X4_lowestTerms_54 x5 x2 σ
set_option maxRecDepth 20000 in
theorem s_X4_lowestTerms_44     (x0 x2 x4 x5 : Int) (σ : St) : SW G l RX4 cX4_lowestTerms 12 rm_X4_lowestTerms wL 44 [some (vl x0), none, some (vl x2), none, some (vi x4), some (vl x5), none, none, none, none, none, none] [] σ (f_X4_lowestTerms_44 x0 x2 x4 x5 σ) := by
  unfold f_X4_lowestTerms_44
  refine sw_iload (pc' := 46) dX4_lowestTerms_44 rfl rfl ?_
  refine sw_if_ne (tgt := 53) (pc' := 49) dX4_lowestTerms_46 (by decide) rfl (fun _ => ?_) (fun _ => ?_)
  · refine sw_lload_n (pc' := 50) dX4_lowestTerms_49 rfl rfl ?_
    refine sw_goto (pc' := 54) dX4_lowestTerms_50 (by decide) ?_
    refine sw_msk [false, false, false, false, false, true, false, false, false, false, false, false] rfl ?_
    exact s_X4_lowestTerms_54 x5 x0 σ
  · refine sw_lload_n (pc' := 54) dX4_lowestTerms_53 rfl rfl ?_
    refine sw_msk [false, false, false, false, false, true, false, false, false, false, false, false] rfl ?_
    exact s_X4_lowestTerms_54 x5 x2 σ
def f_X4_lowestTerms_9   : Nat → Int → Int → Int → Int → Int → Int → St → Option (Int × St)
  | 0, _, _, _, _, _, _, _ => none
  | n + 1, x0, x2, x4, x5, x7, x9, σ =>
    if wr x9 < wr 100 then
      if wr (lcm x7 0) = 0 then
        f_X4_lowestTerms_44 x0 x2 x4 x5 σ
      else
        bV (lrm x5 x7) fun v27 => (f_X4_lowestTerms_9 n) x0 x2 x4 x7 v27 (x9 + 1) σ
    else
      f_X4_lowestTerms_44 x0 x2 x4 x5 σ
set_option maxRecDepth 20000 in
theorem s_X4_lowestTerms_9     : ∀ (n : Nat) (x0 x2 x4 x5 x7 x9 : Int) (σ : St), SW G l RX4 cX4_lowestTerms 12 rm_X4_lowestTerms wL 9 [some (vl x0), none, some (vl x2), none, some (vi x4), some (vl x5), none, some (vl x7), none, some (vi x9), none, none] [] σ (f_X4_lowestTerms_9 n x0 x2 x4 x5 x7 x9 σ) := by
  intro n
  induction n with
  | zero => intro x0 x2 x4 x5 x7 x9 σ; exact sw_none
  | succ n ih =>
    intro x0 x2 x4 x5 x7 x9 σ
    rw [f_X4_lowestTerms_9]
    refine sw_iload (pc' := 11) dX4_lowestTerms_9 rfl rfl ?_
    refine sw_bipush (pc' := 13) dX4_lowestTerms_11 rfl rfl ?_
    refine sw_icmp_ge (tgt := 44) (pc' := 16) dX4_lowestTerms_13 (by decide) rfl (fun _ => ?_) (fun _ => ?_)
    · refine sw_lload (pc' := 18) dX4_lowestTerms_16 rfl rfl ?_
      refine sw_lconst (x := 0) (pc' := 19) dX4_lowestTerms_18 rfl rfl ?_
      refine sw_lcmp (pc' := 20) dX4_lowestTerms_19 rfl ?_
      refine sw_if_eq (tgt := 44) (pc' := 23) dX4_lowestTerms_20 (by decide) rfl (fun _ => ?_) (fun _ => ?_)
      · refine sw_msk [true, false, true, false, true, true, false, false, false, false, false, false] rfl ?_
        exact s_X4_lowestTerms_44 x0 x2 x4 x5 σ
      · refine sw_lload (pc' := 25) dX4_lowestTerms_23 rfl rfl ?_
        refine sw_lload (pc' := 27) dX4_lowestTerms_25 rfl rfl ?_
        refine sw_lrem (pc' := 28) dX4_lowestTerms_27 rfl (fun v27 => ?_)
        refine sw_lstore (pc' := 30) (x := v27) (L' := [some (vl x0), none, some (vl x2), none, some (vi x4), some (vl x5), none, some (vl x7), none, some (vi x9), some (vl v27), none]) dX4_lowestTerms_28 rfl (by decide) rfl rfl ?_
        refine sw_lload (pc' := 32) dX4_lowestTerms_30 rfl rfl ?_
        refine sw_lstore (pc' := 34) (x := x7) (L' := [some (vl x0), none, some (vl x2), none, some (vi x4), some (vl x7), none, some (vl x7), none, some (vi x9), some (vl v27), none]) dX4_lowestTerms_32 rfl (by decide) rfl rfl ?_
        refine sw_lload (pc' := 36) dX4_lowestTerms_34 rfl rfl ?_
        refine sw_lstore (pc' := 38) (x := v27) (L' := [some (vl x0), none, some (vl x2), none, some (vi x4), some (vl x7), none, some (vl v27), none, some (vi x9), some (vl v27), none]) dX4_lowestTerms_36 rfl (by decide) rfl rfl ?_
        refine sw_iinc (pc' := 41) (x := x9) (L' := [some (vl x0), none, some (vl x2), none, some (vi x4), some (vl x7), none, some (vl v27), none, some (vi (x9 + 1)), some (vl v27), none]) dX4_lowestTerms_38 rfl (by decide) rfl rfl rfl ?_
        refine sw_goto (pc' := 9) dX4_lowestTerms_41 (by decide) ?_
        refine sw_msk [true, false, true, false, true, true, false, true, false, true, false, false] rfl ?_
        exact (ih) x0 x2 x4 x7 v27 (x9 + 1) σ
    · refine sw_msk [true, false, true, false, true, true, false, false, false, false, false, false] rfl ?_
      exact s_X4_lowestTerms_44 x0 x2 x4 x5 σ
def f_X4_lowestTerms (x0 : Int) (x2 : Int) (x4 : Int) (σ : St) : Option (Int × St) :=
  f_X4_lowestTerms_9 FU x0 x2 x4 x2 x0 0 σ
set_option maxRecDepth 20000 in
theorem m_X4_lowestTerms (x0 : Int) (x2 : Int) (x4 : Int)  (σ : St) : MT G l yX4_lowestTerms cX4_lowestTerms 12 (some .long) rm_X4_lowestTerms [vl x0, vl x2, vi x4] wL σ (f_X4_lowestTerms x0 x2 x4 σ) := by
  refine mt_L (L := [some (vl x0), none, some (vl x2), none, some (vi x4), none, none, none, none, none, none, none]) rfl (Nat.le_of_ble_eq_true rfl) rfl ?_
  show SW G l RX4 cX4_lowestTerms 12 rm_X4_lowestTerms wL 0 [some (vl x0), none, some (vl x2), none, some (vi x4), none, none, none, none, none, none, none] [] σ (f_X4_lowestTerms x0 x2 x4 σ)
  unfold f_X4_lowestTerms
  refine sw_lload_n (pc' := 1) dX4_lowestTerms_0 rfl rfl ?_
  refine sw_lstore (pc' := 3) (x := x2) (L' := [some (vl x0), none, some (vl x2), none, some (vi x4), some (vl x2), none, none, none, none, none, none]) dX4_lowestTerms_1 rfl (by decide) rfl rfl ?_
  refine sw_lload_n (pc' := 4) dX4_lowestTerms_3 rfl rfl ?_
  refine sw_lstore (pc' := 6) (x := x0) (L' := [some (vl x0), none, some (vl x2), none, some (vi x4), some (vl x2), none, some (vl x0), none, none, none, none]) dX4_lowestTerms_4 rfl (by decide) rfl rfl ?_
  refine sw_iconst (pc' := 7) dX4_lowestTerms_6 rfl ?_
  refine sw_istore (pc' := 9) (x := 0) (L' := [some (vl x0), none, some (vl x2), none, some (vi x4), some (vl x2), none, some (vl x0), none, some (vi 0), none, none]) dX4_lowestTerms_7 rfl (by decide) rfl rfl ?_
  exact s_X4_lowestTerms_9 FU x0 x2 x4 x2 x0 0 σ
def rm_X4_power : Room := { frames := 0, cells := 0, slots := 0, locals := 0 }
def f_X4_power_5   : Nat → Int → Int → Int → Int → St → Option (Int × St)
  | 0, _, _, _, _, _ => none
  | n + 1, x0, x1, x2, x4, σ =>
    if wr x4 < wr x1 then
      (f_X4_power_5 n) x0 x1 (x2 * (wr x0)) (x4 + 1) σ
    else
      some (x2, σ)
set_option maxRecDepth 20000 in
theorem s_X4_power_5     : ∀ (n : Nat) (x0 x1 x2 x4 : Int) (σ : St), SW G l RX4 cX4_power 5 rm_X4_power wL 5 [some (vi x0), some (vi x1), some (vl x2), none, some (vi x4)] [] σ (f_X4_power_5 n x0 x1 x2 x4 σ) := by
  intro n
  induction n with
  | zero => intro x0 x1 x2 x4 σ; exact sw_none
  | succ n ih =>
    intro x0 x1 x2 x4 σ
    rw [f_X4_power_5]
    refine sw_iload (pc' := 7) dX4_power_5 rfl rfl ?_
    refine sw_iload_n (pc' := 8) dX4_power_7 rfl rfl ?_
    refine sw_icmp_ge (tgt := 22) (pc' := 11) dX4_power_8 (by decide) rfl (fun _ => ?_) (fun _ => ?_)
    · refine sw_lload_n (pc' := 12) dX4_power_11 rfl rfl ?_
      refine sw_iload_n (pc' := 13) dX4_power_12 rfl rfl ?_
      refine sw_i2l (pc' := 14) dX4_power_13 rfl ?_
      refine sw_lmul (pc' := 15) dX4_power_14 rfl ?_
      refine sw_lstore_n (pc' := 16) (x := (x2 * (wr x0))) (L' := [some (vi x0), some (vi x1), some (vl (x2 * (wr x0))), none, some (vi x4)]) dX4_power_15 rfl (by decide) rfl rfl ?_
      refine sw_iinc (pc' := 19) (x := x4) (L' := [some (vi x0), some (vi x1), some (vl (x2 * (wr x0))), none, some (vi (x4 + 1))]) dX4_power_16 rfl (by decide) rfl rfl rfl ?_
      refine sw_goto (pc' := 5) dX4_power_19 (by decide) ?_
      exact (ih) x0 x1 (x2 * (wr x0)) (x4 + 1) σ
    · refine sw_lload_n (pc' := 23) dX4_power_22 rfl rfl ?_
      exact sw_lret dX4_power_23
def f_X4_power (x0 : Int) (x1 : Int) (σ : St) : Option (Int × St) :=
  f_X4_power_5 FU x0 x1 1 0 σ
set_option maxRecDepth 20000 in
theorem m_X4_power (x0 : Int) (x1 : Int)  (σ : St) : MT G l yX4_power cX4_power 5 (some .long) rm_X4_power [vi x0, vi x1] wL σ (f_X4_power x0 x1 σ) := by
  refine mt_L (L := [some (vi x0), some (vi x1), none, none, none]) rfl (Nat.le_of_ble_eq_true rfl) rfl ?_
  show SW G l RX4 cX4_power 5 rm_X4_power wL 0 [some (vi x0), some (vi x1), none, none, none] [] σ (f_X4_power x0 x1 σ)
  unfold f_X4_power
  refine sw_lconst (x := 1) (pc' := 1) dX4_power_0 rfl rfl ?_
  refine sw_lstore_n (pc' := 2) (x := 1) (L' := [some (vi x0), some (vi x1), some (vl 1), none, none]) dX4_power_1 rfl (by decide) rfl rfl ?_
  refine sw_iconst (pc' := 3) dX4_power_2 rfl ?_
  refine sw_istore (pc' := 5) (x := 0) (L' := [some (vi x0), some (vi x1), some (vl 1), none, some (vi 0)]) dX4_power_3 rfl (by decide) rfl rfl ?_
  exact s_X4_power_5 FU x0 x1 1 0 σ
def rm_X4_oddsOf : Room := { frames := 1, cells := 0, slots := 0, locals := 24 }
def f_X4_oddsOf (x0 : Int) (x1 : Int) (x2 : Int) (σ : St) : Option (Int × St) :=
  bI (f_J6_bitCount_0f7a4 x1 σ) fun v1 s1 => bI (f_X4_power x0 v1 s1) fun v7 s7 => bI (f_J6_bitCount_0f7a4 x2 s7) fun v15 s15 => bI (f_X4_power (10 - x0) (v15 - v1) s15) fun v20 s20 => some ((v7 * v20), s20)
set_option maxRecDepth 20000 in
theorem m_X4_oddsOf (x0 : Int) (x1 : Int) (x2 : Int)  (σ : St) : MT G l yX4_oddsOf cX4_oddsOf 4 (some .long) rm_X4_oddsOf [vi x0, vi x1, vi x2] wL σ (f_X4_oddsOf x0 x1 x2 σ) := by
  refine mt_L (L := [some (vi x0), some (vi x1), some (vi x2), none]) rfl (Nat.le_of_ble_eq_true rfl) rfl ?_
  show SW G l RX4 cX4_oddsOf 4 rm_X4_oddsOf wL 0 [some (vi x0), some (vi x1), some (vi x2), none] [] σ (f_X4_oddsOf x0 x1 x2 σ)
  unfold f_X4_oddsOf
  refine sw_iload_n (pc' := 1) dX4_oddsOf_0 rfl rfl ?_
  refine sw_callSI (pc' := 4) (As := [vi x1]) (rest := []) dX4_oddsOf_1 cs_X4_216 (m_J6_bitCount_0f7a4 x1 σ) rfl rfl rfl rfl rfl (fun v1 s1 => ?_)
  refine sw_istore_n (pc' := 5) (x := v1) (L' := [some (vi x0), some (vi x1), some (vi x2), some (vi v1)]) dX4_oddsOf_4 rfl (by decide) rfl rfl ?_
  refine sw_iload_n (pc' := 6) dX4_oddsOf_5 rfl rfl ?_
  refine sw_iload_n (pc' := 7) dX4_oddsOf_6 rfl rfl ?_
  refine sw_callSL (pc' := 10) (As := [vi x0, vi v1]) (rest := []) dX4_oddsOf_7 cs_X4_221 (m_X4_power x0 v1 s1) rfl rfl rfl rfl rfl (fun v7 s7 => ?_)
  refine sw_bipush (pc' := 12) dX4_oddsOf_10 rfl rfl ?_
  refine sw_iload_n (pc' := 13) dX4_oddsOf_12 rfl rfl ?_
  refine sw_isub (pc' := 14) dX4_oddsOf_13 rfl ?_
  refine sw_iload_n (pc' := 15) dX4_oddsOf_14 rfl rfl ?_
  refine sw_callSI (pc' := 18) (As := [vi x2]) (rest := [vi (10 - x0), vl v7]) dX4_oddsOf_15 cs_X4_216 (m_J6_bitCount_0f7a4 x2 s7) rfl rfl rfl rfl rfl (fun v15 s15 => ?_)
  refine sw_iload_n (pc' := 19) dX4_oddsOf_18 rfl rfl ?_
  refine sw_isub (pc' := 20) dX4_oddsOf_19 rfl ?_
  refine sw_callSL (pc' := 23) (As := [vi (10 - x0), vi (v15 - v1)]) (rest := [vl v7]) dX4_oddsOf_20 cs_X4_221 (m_X4_power (10 - x0) (v15 - v1) s15) rfl rfl rfl rfl rfl (fun v20 s20 => ?_)
  refine sw_lmul (pc' := 24) dX4_oddsOf_23 rfl ?_
  exact sw_lret dX4_oddsOf_24
def rm_X4_luck : Room := { frames := 3, cells := 0, slots := 0, locals := 71 }
def f_X4_luck_123  (k69 : Int → Int → Int → Int → Int → Int → Int → Int → St → Option (Int × St)) (x1 x2 x3 x4 x5 x6 x7 x9 : Int) (σ : St) : Option (Int × St) :=
  k69 x1 x2 x3 x4 x5 x6 x7 (x9 + 1) σ
set_option maxRecDepth 20000 in
theorem s_X4_luck_123   (k69 : Int → Int → Int → Int → Int → Int → Int → Int → St → Option (Int × St)) (hk69 : ∀ (x1 x2 x3 x4 x5 x6 x7 x9 : Int) (σ : St), SW G l RX4 cX4_luck 10 rm_X4_luck wL 69 [some (.ref (ad G 0)), some (vi x1), some (vi x2), some (vi x3), some (vi x4), some (vi x5), some (vi x6), some (vl x7), none, some (vi x9)] [] σ (k69 x1 x2 x3 x4 x5 x6 x7 x9 σ)) (x1 x2 x3 x4 x5 x6 x7 x9 : Int) (σ : St) : SW G l RX4 cX4_luck 10 rm_X4_luck wL 123 [some (.ref (ad G 0)), some (vi x1), some (vi x2), some (vi x3), some (vi x4), some (vi x5), some (vi x6), some (vl x7), none, some (vi x9)] [] σ (f_X4_luck_123 k69 x1 x2 x3 x4 x5 x6 x7 x9 σ) := by
  unfold f_X4_luck_123
  refine sw_iinc (pc' := 126) (x := x9) (L' := [some (.ref (ad G 0)), some (vi x1), some (vi x2), some (vi x3), some (vi x4), some (vi x5), some (vi x6), some (vl x7), none, some (vi (x9 + 1))]) dX4_luck_123 rfl (by decide) rfl rfl rfl ?_
  refine sw_goto (pc' := 69) dX4_luck_126 (by decide) ?_
  exact hk69 x1 x2 x3 x4 x5 x6 x7 (x9 + 1) σ
def f_X4_luck_69   : Nat → Int → Int → Int → Int → Int → Int → Int → Int → St → Option (Int × St)
  | 0, _, _, _, _, _, _, _, _, _ => none
  | n + 1, x1, x2, x3, x4, x5, x6, x7, x9, σ =>
    if wr x9 < wr 256 then
      bV (pf σ 11 11 x9) fun s83 => if wr (iad x9 (ixd x6 (-1))) = 0 then
        bI (f_X2_beliefOf 11 x2 x4 s83) fun v103 s103 => if wr v103 = wr x3 then
          bI (f_X4_oddsOf x1 x9 x6 s103) fun v117 s117 => f_X4_luck_123 (f_X4_luck_69 n) x1 x2 x3 x4 x5 x6 (x7 + v117) x9 s117
        else
          f_X4_luck_123 (f_X4_luck_69 n) x1 x2 x3 x4 x5 x6 x7 x9 s103
      else
        f_X4_luck_123 (f_X4_luck_69 n) x1 x2 x3 x4 x5 x6 x7 x9 s83
    else
      bI (f_J6_bitCount_0f7a4 x6 σ) fun v135 s135 => bI (f_X4_power 10 v135 s135) fun v138 s138 => bI (f_X4_lowestTerms x7 v138 x5 s138) fun v143 s143 => some (v143, s143)
set_option maxRecDepth 20000 in
theorem s_X4_luck_69     : ∀ (n : Nat) (x1 x2 x3 x4 x5 x6 x7 x9 : Int) (σ : St), SW G l RX4 cX4_luck 10 rm_X4_luck wL 69 [some (.ref (ad G 0)), some (vi x1), some (vi x2), some (vi x3), some (vi x4), some (vi x5), some (vi x6), some (vl x7), none, some (vi x9)] [] σ (f_X4_luck_69 n x1 x2 x3 x4 x5 x6 x7 x9 σ) := by
  intro n
  induction n with
  | zero => intro x1 x2 x3 x4 x5 x6 x7 x9 σ; exact sw_none
  | succ n ih =>
    intro x1 x2 x3 x4 x5 x6 x7 x9 σ
    rw [f_X4_luck_69]
    refine sw_iload (pc' := 71) dX4_luck_69 rfl rfl ?_
    refine sw_sipush (pc' := 74) dX4_luck_71 rfl rfl ?_
    refine sw_icmp_ge (tgt := 129) (pc' := 77) dX4_luck_74 (by decide) rfl (fun _ => ?_) (fun _ => ?_)
    · refine sw_aload_n (pc' := 78) dX4_luck_77 rfl rfl ?_
      refine sw_getr (pc' := 81) dX4_luck_78 fl_X4_16 (tbk_0) rfl rfl ?_
      refine sw_iload (pc' := 83) dX4_luck_81 rfl rfl ?_
      refine sw_putI (pc' := 86) dX4_luck_83 fp_X4_201 (tbk_11) rfl rfl (fun s83 => ?_)
      refine sw_iload (pc' := 88) dX4_luck_86 rfl rfl ?_
      refine sw_iload (pc' := 90) dX4_luck_88 rfl rfl ?_
      refine sw_iconst (pc' := 91) dX4_luck_90 rfl ?_
      refine sw_ixor (pc' := 92) dX4_luck_91 rfl ?_
      refine sw_iand (pc' := 93) dX4_luck_92 rfl ?_
      refine sw_if_ne (tgt := 123) (pc' := 96) dX4_luck_93 (by decide) rfl (fun _ => ?_) (fun _ => ?_)
      · refine sw_aload_n (pc' := 97) dX4_luck_96 rfl rfl ?_
        refine sw_getr (pc' := 100) dX4_luck_97 fl_X4_16 (tbk_0) rfl rfl ?_
        refine sw_iload_n (pc' := 101) dX4_luck_100 rfl rfl ?_
        refine sw_iload (pc' := 103) dX4_luck_101 rfl rfl ?_
        refine sw_callVI (pc' := 106) (As := [vi x2, vi x4]) (rest := []) dX4_luck_103 cv_X4_122 (tbk_11) (m_X2_beliefOf 11 x2 x4 (isSq_11) s83) rfl rfl rfl rfl rfl (fun v103 s103 => ?_)
        refine sw_iload_n (pc' := 107) dX4_luck_106 rfl rfl ?_
        refine sw_icmp_ne (tgt := 123) (pc' := 110) dX4_luck_107 (by decide) rfl (fun _ => ?_) (fun _ => ?_)
        · refine sw_lload (pc' := 112) dX4_luck_110 rfl rfl ?_
          refine sw_iload_n (pc' := 113) dX4_luck_112 rfl rfl ?_
          refine sw_iload (pc' := 115) dX4_luck_113 rfl rfl ?_
          refine sw_iload (pc' := 117) dX4_luck_115 rfl rfl ?_
          refine sw_callSL (pc' := 120) (As := [vi x1, vi x9, vi x6]) (rest := [vl x7]) dX4_luck_117 cs_X4_212 (m_X4_oddsOf x1 x9 x6 s103) rfl rfl rfl rfl rfl (fun v117 s117 => ?_)
          refine sw_ladd (pc' := 121) dX4_luck_120 rfl ?_
          refine sw_lstore (pc' := 123) (x := (x7 + v117)) (L' := [some (.ref (ad G 0)), some (vi x1), some (vi x2), some (vi x3), some (vi x4), some (vi x5), some (vi x6), some (vl (x7 + v117)), none, some (vi x9)]) dX4_luck_121 rfl (by decide) rfl rfl ?_
          exact s_X4_luck_123 (f_X4_luck_69 n) (ih) x1 x2 x3 x4 x5 x6 (x7 + v117) x9 s117
        · exact s_X4_luck_123 (f_X4_luck_69 n) (ih) x1 x2 x3 x4 x5 x6 x7 x9 s103
      · exact s_X4_luck_123 (f_X4_luck_69 n) (ih) x1 x2 x3 x4 x5 x6 x7 x9 s83
    · refine sw_lload (pc' := 131) dX4_luck_129 rfl rfl ?_
      refine sw_bipush (pc' := 133) dX4_luck_131 rfl rfl ?_
      refine sw_iload (pc' := 135) dX4_luck_133 rfl rfl ?_
      refine sw_callSI (pc' := 138) (As := [vi x6]) (rest := [vi 10, vl x7]) dX4_luck_135 cs_X4_216 (m_J6_bitCount_0f7a4 x6 σ) rfl rfl rfl rfl rfl (fun v135 s135 => ?_)
      refine sw_callSL (pc' := 141) (As := [vi 10, vi v135]) (rest := [vl x7]) dX4_luck_138 cs_X4_221 (m_X4_power 10 v135 s135) rfl rfl rfl rfl rfl (fun v138 s138 => ?_)
      refine sw_iload (pc' := 143) dX4_luck_141 rfl rfl ?_
      refine sw_callSL (pc' := 146) (As := [vl x7, vl v138, vi x5]) (rest := []) dX4_luck_143 cs_X4_225 (m_X4_lowestTerms x7 v138 x5 s138) rfl rfl rfl rfl rfl (fun v143 s143 => ?_)
      exact sw_lret dX4_luck_146
def f_X4_luck (x1 : Int) (x2 : Int) (x3 : Int) (x4 : Int) (x5 : Int) (σ : St) : Option (Int × St) :=
  bI (f_X4_isOdds x1 σ) fun v1 s1 => if v1 then
    bI (f_X4_isRider x2 s1) fun v9 s9 => if v9 then
      bI (f_X4_isEnd x3 s9) fun v16 s16 => if v16 then
        bI (f_X4_isDay x4 s16) fun v24 s24 => if v24 then
          bI (f_X4_isChoice x5 s24) fun v32 s32 => if v32 then
            bV (f_X2_copyFrom 11 1 s32) fun s50 => bI (f_X2_reportsOn 1 x2 s50) fun v58 s58 => f_X4_luck_69 FU x1 x2 x3 x4 x5 v58 0 0 s58
          else
            some ((-1), s32)
        else
          some ((-1), s24)
      else
        some ((-1), s16)
    else
      some ((-1), s9)
  else
    some ((-1), s1)
set_option maxRecDepth 20000 in
theorem m_X4_luck (x1 : Int) (x2 : Int) (x3 : Int) (x4 : Int) (x5 : Int)  (σ : St) : MT G l yX4_luck cX4_luck 10 (some .long) rm_X4_luck [.ref (ad G 0), vi x1, vi x2, vi x3, vi x4, vi x5] wL σ (f_X4_luck x1 x2 x3 x4 x5 σ) := by
  refine mt_L (L := [some (.ref (ad G 0)), some (vi x1), some (vi x2), some (vi x3), some (vi x4), some (vi x5), none, none, none, none]) rfl (Nat.le_of_ble_eq_true rfl) rfl ?_
  show SW G l RX4 cX4_luck 10 rm_X4_luck wL 0 [some (.ref (ad G 0)), some (vi x1), some (vi x2), some (vi x3), some (vi x4), some (vi x5), none, none, none, none] [] σ (f_X4_luck x1 x2 x3 x4 x5 σ)
  unfold f_X4_luck
  refine sw_iload_n (pc' := 1) dX4_luck_0 rfl rfl ?_
  refine sw_callSB (pc' := 4) (As := [vi x1]) (rest := []) dX4_luck_1 cs_X4_204 (m_X4_isOdds x1 σ) rfl rfl rfl rfl rfl (fun v1 s1 => ?_)
  refine sw_bif_eq (tgt := 38) (pc' := 7) dX4_luck_4 (by decide) rfl (fun _ => ?_) (fun _ => ?_)
  · refine sw_aload_n (pc' := 8) dX4_luck_7 rfl rfl ?_
    refine sw_iload_n (pc' := 9) dX4_luck_8 rfl rfl ?_
    refine sw_callVB (pc' := 12) (As := [vi x2]) (rest := []) dX4_luck_9 cv_X4_105 (tbk_0) (m_X4_isRider x2 s1) rfl rfl rfl rfl rfl (fun v9 s9 => ?_)
    refine sw_bif_eq (tgt := 38) (pc' := 15) dX4_luck_12 (by decide) rfl (fun _ => ?_) (fun _ => ?_)
    · refine sw_iload_n (pc' := 16) dX4_luck_15 rfl rfl ?_
      refine sw_callSB (pc' := 19) (As := [vi x3]) (rest := []) dX4_luck_16 cs_X4_148 (m_X4_isEnd x3 s9) rfl rfl rfl rfl rfl (fun v16 s16 => ?_)
      refine sw_bif_eq (tgt := 38) (pc' := 22) dX4_luck_19 (by decide) rfl (fun _ => ?_) (fun _ => ?_)
      · refine sw_iload (pc' := 24) dX4_luck_22 rfl rfl ?_
        refine sw_callSB (pc' := 27) (As := [vi x4]) (rest := []) dX4_luck_24 cs_X4_151 (m_X4_isDay x4 s16) rfl rfl rfl rfl rfl (fun v24 s24 => ?_)
        refine sw_bif_eq (tgt := 38) (pc' := 30) dX4_luck_27 (by decide) rfl (fun _ => ?_) (fun _ => ?_)
        · refine sw_iload (pc' := 32) dX4_luck_30 rfl rfl ?_
          refine sw_callSB (pc' := 35) (As := [vi x5]) (rest := []) dX4_luck_32 cs_X4_178 (m_X4_isChoice x5 s24) rfl rfl rfl rfl rfl (fun v32 s32 => ?_)
          refine sw_bif_ne (tgt := 42) (pc' := 38) dX4_luck_35 (by decide) rfl (fun _ => ?_) (fun _ => ?_)
          · refine sw_aload_n (pc' := 43) dX4_luck_42 rfl rfl ?_
            refine sw_getr (pc' := 46) dX4_luck_43 fl_X4_16 (tbk_0) rfl rfl ?_
            refine sw_aload_n (pc' := 47) dX4_luck_46 rfl rfl ?_
            refine sw_getr (pc' := 50) dX4_luck_47 fl_X4_10 (tbk_0) rfl rfl ?_
            refine sw_callVV (pc' := 53) (As := [.ref (ad G 1)]) (rest := []) dX4_luck_50 cv_X4_71 (tbk_11) (m_X2_copyFrom 11 1 (isSq_11) (isSq_1) s32) rfl rfl rfl rfl rfl (fun s50 => ?_)
            refine sw_aload_n (pc' := 54) dX4_luck_53 rfl rfl ?_
            refine sw_getr (pc' := 57) dX4_luck_54 fl_X4_10 (tbk_0) rfl rfl ?_
            refine sw_iload_n (pc' := 58) dX4_luck_57 rfl rfl ?_
            refine sw_callVI (pc' := 61) (As := [vi x2]) (rest := []) dX4_luck_58 cv_X4_209 (tbk_1) (m_X2_reportsOn 1 x2 (isSq_1) s50) rfl rfl rfl rfl rfl (fun v58 s58 => ?_)
            refine sw_istore (pc' := 63) (x := v58) (L' := [some (.ref (ad G 0)), some (vi x1), some (vi x2), some (vi x3), some (vi x4), some (vi x5), some (vi v58), none, none, none]) dX4_luck_61 rfl (by decide) rfl rfl ?_
            refine sw_lconst (x := 0) (pc' := 64) dX4_luck_63 rfl rfl ?_
            refine sw_lstore (pc' := 66) (x := 0) (L' := [some (.ref (ad G 0)), some (vi x1), some (vi x2), some (vi x3), some (vi x4), some (vi x5), some (vi v58), some (vl 0), none, none]) dX4_luck_64 rfl (by decide) rfl rfl ?_
            refine sw_iconst (pc' := 67) dX4_luck_66 rfl ?_
            refine sw_istore (pc' := 69) (x := 0) (L' := [some (.ref (ad G 0)), some (vi x1), some (vi x2), some (vi x3), some (vi x4), some (vi x5), some (vi v58), some (vl 0), none, some (vi 0)]) dX4_luck_67 rfl (by decide) rfl rfl ?_
            exact s_X4_luck_69 FU x1 x2 x3 x4 x5 v58 0 0 s58
          · refine sw_ldc2 (n := (-1)) (pc' := 41) dX4_luck_38 kl_X4_207 rfl ?_
            exact sw_lret dX4_luck_41
        · refine sw_ldc2 (n := (-1)) (pc' := 41) dX4_luck_38 kl_X4_207 rfl ?_
          exact sw_lret dX4_luck_41
      · refine sw_ldc2 (n := (-1)) (pc' := 41) dX4_luck_38 kl_X4_207 rfl ?_
        exact sw_lret dX4_luck_41
    · refine sw_ldc2 (n := (-1)) (pc' := 41) dX4_luck_38 kl_X4_207 rfl ?_
      exact sw_lret dX4_luck_41
  · refine sw_ldc2 (n := (-1)) (pc' := 41) dX4_luck_38 kl_X4_207 rfl ?_
    exact sw_lret dX4_luck_41
def rm_X4_clangsByOdds : Room := { frames := 6, cells := 0, slots := 0, locals := 143 }
def f_X4_clangsByOdds_82  (k16 : Int → Int → Int → Int → Int → St → Option (Int × St)) (x1 x3 x4 x5 x7 : Int) (σ : St) : Option (Int × St) :=
  k16 x1 x3 x4 x5 (x7 + 1) σ
set_option maxRecDepth 20000 in
theorem s_X4_clangsByOdds_82   (k16 : Int → Int → Int → Int → Int → St → Option (Int × St)) (hk16 : ∀ (x1 x3 x4 x5 x7 : Int) (σ : St), SW G l RX4 cX4_clangsByOdds 8 rm_X4_clangsByOdds wL 16 [some (.ref (ad G 0)), some (vi x1), none, some (vi x3), some (vi x4), some (vl x5), none, some (vi x7)] [] σ (k16 x1 x3 x4 x5 x7 σ)) (x1 x3 x4 x5 x7 : Int) (σ : St) : SW G l RX4 cX4_clangsByOdds 8 rm_X4_clangsByOdds wL 82 [some (.ref (ad G 0)), some (vi x1), none, some (vi x3), some (vi x4), some (vl x5), none, some (vi x7)] [] σ (f_X4_clangsByOdds_82 k16 x1 x3 x4 x5 x7 σ) := by
  unfold f_X4_clangsByOdds_82
  refine sw_iinc (pc' := 85) (x := x7) (L' := [some (.ref (ad G 0)), some (vi x1), none, some (vi x3), some (vi x4), some (vl x5), none, some (vi (x7 + 1))]) dX4_clangsByOdds_82 rfl (by decide) rfl rfl rfl ?_
  refine sw_goto (pc' := 16) dX4_clangsByOdds_85 (by decide) ?_
  exact hk16 x1 x3 x4 x5 (x7 + 1) σ
def f_X4_clangsByOdds_16   : Nat → Int → Int → Int → Int → Int → St → Option (Int × St)
  | 0, _, _, _, _, _, _ => none
  | n + 1, x1, x3, x4, x5, x7, σ =>
    if wr x7 < wr 256 then
      if wr (iad x7 (ixd x4 (-1))) = 0 then
        bV (f_X2_copyFrom 11 1 σ) fun s42 => bV (pf s42 11 11 (iod x7 (ixd x4 (-1)))) fun s56 => bI (f_X4_oddsOf x1 x7 x4 s56) fun v66 s66 => bI (f_X2_passDays 11 x3 s66) fun v74 s74 => f_X4_clangsByOdds_82 (f_X4_clangsByOdds_16 n) x1 x3 x4 (x5 + (v66 * (wr v74))) x7 s74
      else
        f_X4_clangsByOdds_82 (f_X4_clangsByOdds_16 n) x1 x3 x4 x5 x7 σ
    else
      some (x5, σ)
set_option maxRecDepth 20000 in
theorem s_X4_clangsByOdds_16     : ∀ (n : Nat) (x1 x3 x4 x5 x7 : Int) (σ : St), SW G l RX4 cX4_clangsByOdds 8 rm_X4_clangsByOdds wL 16 [some (.ref (ad G 0)), some (vi x1), none, some (vi x3), some (vi x4), some (vl x5), none, some (vi x7)] [] σ (f_X4_clangsByOdds_16 n x1 x3 x4 x5 x7 σ) := by
  intro n
  induction n with
  | zero => intro x1 x3 x4 x5 x7 σ; exact sw_none
  | succ n ih =>
    intro x1 x3 x4 x5 x7 σ
    rw [f_X4_clangsByOdds_16]
    refine sw_iload (pc' := 18) dX4_clangsByOdds_16 rfl rfl ?_
    refine sw_sipush (pc' := 21) dX4_clangsByOdds_18 rfl rfl ?_
    refine sw_icmp_ge (tgt := 88) (pc' := 24) dX4_clangsByOdds_21 (by decide) rfl (fun _ => ?_) (fun _ => ?_)
    · refine sw_iload (pc' := 26) dX4_clangsByOdds_24 rfl rfl ?_
      refine sw_iload (pc' := 28) dX4_clangsByOdds_26 rfl rfl ?_
      refine sw_iconst (pc' := 29) dX4_clangsByOdds_28 rfl ?_
      refine sw_ixor (pc' := 30) dX4_clangsByOdds_29 rfl ?_
      refine sw_iand (pc' := 31) dX4_clangsByOdds_30 rfl ?_
      refine sw_if_ne (tgt := 82) (pc' := 34) dX4_clangsByOdds_31 (by decide) rfl (fun _ => ?_) (fun _ => ?_)
      · refine sw_aload_n (pc' := 35) dX4_clangsByOdds_34 rfl rfl ?_
        refine sw_getr (pc' := 38) dX4_clangsByOdds_35 fl_X4_16 (tbk_0) rfl rfl ?_
        refine sw_aload_n (pc' := 39) dX4_clangsByOdds_38 rfl rfl ?_
        refine sw_getr (pc' := 42) dX4_clangsByOdds_39 fl_X4_10 (tbk_0) rfl rfl ?_
        refine sw_callVV (pc' := 45) (As := [.ref (ad G 1)]) (rest := []) dX4_clangsByOdds_42 cv_X4_71 (tbk_11) (m_X2_copyFrom 11 1 (isSq_11) (isSq_1) σ) rfl rfl rfl rfl rfl (fun s42 => ?_)
        refine sw_aload_n (pc' := 46) dX4_clangsByOdds_45 rfl rfl ?_
        refine sw_getr (pc' := 49) dX4_clangsByOdds_46 fl_X4_16 (tbk_0) rfl rfl ?_
        refine sw_iload (pc' := 51) dX4_clangsByOdds_49 rfl rfl ?_
        refine sw_iload (pc' := 53) dX4_clangsByOdds_51 rfl rfl ?_
        refine sw_iconst (pc' := 54) dX4_clangsByOdds_53 rfl ?_
        refine sw_ixor (pc' := 55) dX4_clangsByOdds_54 rfl ?_
        refine sw_ior (pc' := 56) dX4_clangsByOdds_55 rfl ?_
        refine sw_putI (pc' := 59) dX4_clangsByOdds_56 fp_X4_201 (tbk_11) rfl rfl (fun s56 => ?_)
        refine sw_lload (pc' := 61) dX4_clangsByOdds_59 rfl rfl ?_
        refine sw_iload_n (pc' := 62) dX4_clangsByOdds_61 rfl rfl ?_
        refine sw_iload (pc' := 64) dX4_clangsByOdds_62 rfl rfl ?_
        refine sw_iload (pc' := 66) dX4_clangsByOdds_64 rfl rfl ?_
        refine sw_callSL (pc' := 69) (As := [vi x1, vi x7, vi x4]) (rest := [vl x5]) dX4_clangsByOdds_66 cs_X4_212 (m_X4_oddsOf x1 x7 x4 s56) rfl rfl rfl rfl rfl (fun v66 s66 => ?_)
        refine sw_aload_n (pc' := 70) dX4_clangsByOdds_69 rfl rfl ?_
        refine sw_getr (pc' := 73) dX4_clangsByOdds_70 fl_X4_16 (tbk_0) rfl rfl ?_
        refine sw_iload_n (pc' := 74) dX4_clangsByOdds_73 rfl rfl ?_
        refine sw_callVI (pc' := 77) (As := [vi x3]) (rest := [vl v66, vl x5]) dX4_clangsByOdds_74 cv_X4_169 (tbk_11) (m_X2_passDays 11 x3 (isSq_11) s66) rfl rfl rfl rfl rfl (fun v74 s74 => ?_)
        refine sw_i2l (pc' := 78) dX4_clangsByOdds_77 rfl ?_
        refine sw_lmul (pc' := 79) dX4_clangsByOdds_78 rfl ?_
        refine sw_ladd (pc' := 80) dX4_clangsByOdds_79 rfl ?_
        refine sw_lstore (pc' := 82) (x := (x5 + (v66 * (wr v74)))) (L' := [some (.ref (ad G 0)), some (vi x1), none, some (vi x3), some (vi x4), some (vl (x5 + (v66 * (wr v74)))), none, some (vi x7)]) dX4_clangsByOdds_80 rfl (by decide) rfl rfl ?_
        exact s_X4_clangsByOdds_82 (f_X4_clangsByOdds_16 n) (ih) x1 x3 x4 (x5 + (v66 * (wr v74))) x7 s74
      · exact s_X4_clangsByOdds_82 (f_X4_clangsByOdds_16 n) (ih) x1 x3 x4 x5 x7 σ
    · refine sw_lload (pc' := 90) dX4_clangsByOdds_88 rfl rfl ?_
      exact sw_lret dX4_clangsByOdds_90
def f_X4_clangsByOdds (x1 : Int) (x2 : Int) (x3 : Int) (σ : St) : Option (Int × St) :=
  bI (f_X2_reportsOn 1 x2 σ) fun v5 s5 => f_X4_clangsByOdds_16 FU x1 x3 v5 0 0 s5
set_option maxRecDepth 20000 in
theorem m_X4_clangsByOdds (x1 : Int) (x2 : Int) (x3 : Int)  (σ : St) : MT G l yX4_clangsByOdds cX4_clangsByOdds 8 (some .long) rm_X4_clangsByOdds [.ref (ad G 0), vi x1, vi x2, vi x3] wL σ (f_X4_clangsByOdds x1 x2 x3 σ) := by
  refine mt_L (L := [some (.ref (ad G 0)), some (vi x1), some (vi x2), some (vi x3), none, none, none, none]) rfl (Nat.le_of_ble_eq_true rfl) rfl ?_
  show SW G l RX4 cX4_clangsByOdds 8 rm_X4_clangsByOdds wL 0 [some (.ref (ad G 0)), some (vi x1), some (vi x2), some (vi x3), none, none, none, none] [] σ (f_X4_clangsByOdds x1 x2 x3 σ)
  unfold f_X4_clangsByOdds
  refine sw_aload_n (pc' := 1) dX4_clangsByOdds_0 rfl rfl ?_
  refine sw_getr (pc' := 4) dX4_clangsByOdds_1 fl_X4_10 (tbk_0) rfl rfl ?_
  refine sw_iload_n (pc' := 5) dX4_clangsByOdds_4 rfl rfl ?_
  refine sw_callVI (pc' := 8) (As := [vi x2]) (rest := []) dX4_clangsByOdds_5 cv_X4_209 (tbk_1) (m_X2_reportsOn 1 x2 (isSq_1) σ) rfl rfl rfl rfl rfl (fun v5 s5 => ?_)
  refine sw_istore (pc' := 10) (x := v5) (L' := [some (.ref (ad G 0)), some (vi x1), some (vi x2), some (vi x3), some (vi v5), none, none, none]) dX4_clangsByOdds_8 rfl (by decide) rfl rfl ?_
  refine sw_lconst (x := 0) (pc' := 11) dX4_clangsByOdds_10 rfl rfl ?_
  refine sw_lstore (pc' := 13) (x := 0) (L' := [some (.ref (ad G 0)), some (vi x1), some (vi x2), some (vi x3), some (vi v5), some (vl 0), none, none]) dX4_clangsByOdds_11 rfl (by decide) rfl rfl ?_
  refine sw_iconst (pc' := 14) dX4_clangsByOdds_13 rfl ?_
  refine sw_istore (pc' := 16) (x := 0) (L' := [some (.ref (ad G 0)), some (vi x1), some (vi x2), some (vi x3), some (vi v5), some (vl 0), none, some (vi 0)]) dX4_clangsByOdds_14 rfl (by decide) rfl rfl ?_
  refine sw_msk [true, true, false, true, true, true, false, true] rfl ?_
  exact s_X4_clangsByOdds_16 FU x1 x3 v5 0 0 s5
def rm_X4_mean : Room := { frames := 7, cells := 0, slots := 0, locals := 170 }
def f_X4_mean_34   : Nat → Int → Int → Int → Int → Int → St → Option (Int × St)
  | 0, _, _, _, _, _, _ => none
  | n + 1, x1, x2, x3, x4, x6, σ =>
    if wr x6 < wr (σ 1 0) then
      bI (f_X2_reportsOn 1 x6 σ) fun v54 s54 => bI (f_J6_bitCount_0f7a4 v54 s54) fun v57 s57 => bI (f_X4_clangsByOdds x1 x6 x2 s57) fun v70 s70 => bI (f_X4_power 10 (8 - v57) s70) fun v77 s77 => (f_X4_mean_34 n) x1 x2 x3 (x4 + (v70 * v77)) (x6 + 1) s77
    else
      bI (f_X4_power 10 8 σ) fun v96 s96 => bI (f_X4_lowestTerms x4 v96 x3 s96) fun v100 s100 => some (v100, s100)
set_option maxRecDepth 20000 in
theorem s_X4_mean_34     : ∀ (n : Nat) (x1 x2 x3 x4 x6 : Int) (σ : St), SW G l RX4 cX4_mean 8 rm_X4_mean wL 34 [some (.ref (ad G 0)), some (vi x1), some (vi x2), some (vi x3), some (vl x4), none, some (vi x6), none] [] σ (f_X4_mean_34 n x1 x2 x3 x4 x6 σ) := by
  intro n
  induction n with
  | zero => intro x1 x2 x3 x4 x6 σ; exact sw_none
  | succ n ih =>
    intro x1 x2 x3 x4 x6 σ
    rw [f_X4_mean_34]
    refine sw_iload (pc' := 36) dX4_mean_34 rfl rfl ?_
    refine sw_aload_n (pc' := 37) dX4_mean_36 rfl rfl ?_
    refine sw_getr (pc' := 40) dX4_mean_37 fl_X4_10 (tbk_0) rfl rfl ?_
    refine sw_getn (pc' := 43) dX4_mean_40 fl_X4_83 (tbk_1) rfl rfl ?_
    refine sw_icmp_ge (tgt := 90) (pc' := 46) dX4_mean_43 (by decide) rfl (fun _ => ?_) (fun _ => ?_)
    · refine sw_bipush (pc' := 48) dX4_mean_46 rfl rfl ?_
      refine sw_aload_n (pc' := 49) dX4_mean_48 rfl rfl ?_
      refine sw_getr (pc' := 52) dX4_mean_49 fl_X4_10 (tbk_0) rfl rfl ?_
      refine sw_iload (pc' := 54) dX4_mean_52 rfl rfl ?_
      refine sw_callVI (pc' := 57) (As := [vi x6]) (rest := [vi 8]) dX4_mean_54 cv_X4_209 (tbk_1) (m_X2_reportsOn 1 x6 (isSq_1) σ) rfl rfl rfl rfl rfl (fun v54 s54 => ?_)
      refine sw_callSI (pc' := 60) (As := [vi v54]) (rest := [vi 8]) dX4_mean_57 cs_X4_216 (m_J6_bitCount_0f7a4 v54 s54) rfl rfl rfl rfl rfl (fun v57 s57 => ?_)
      refine sw_isub (pc' := 61) dX4_mean_60 rfl ?_
      refine sw_istore (pc' := 63) (x := (8 - v57)) (L' := [some (.ref (ad G 0)), some (vi x1), some (vi x2), some (vi x3), some (vl x4), none, some (vi x6), some (vi (8 - v57))]) dX4_mean_61 rfl (by decide) rfl rfl ?_
      refine sw_lload (pc' := 65) dX4_mean_63 rfl rfl ?_
      refine sw_aload_n (pc' := 66) dX4_mean_65 rfl rfl ?_
      refine sw_iload_n (pc' := 67) dX4_mean_66 rfl rfl ?_
      refine sw_iload (pc' := 69) dX4_mean_67 rfl rfl ?_
      refine sw_iload_n (pc' := 70) dX4_mean_69 rfl rfl ?_
      refine sw_callVL (pc' := 73) (As := [vi x1, vi x6, vi x2]) (rest := [vl x4]) dX4_mean_70 cv_X4_229 (tbk_0) (m_X4_clangsByOdds x1 x6 x2 s57) rfl rfl rfl rfl rfl (fun v70 s70 => ?_)
      refine sw_bipush (pc' := 75) dX4_mean_73 rfl rfl ?_
      refine sw_iload (pc' := 77) dX4_mean_75 rfl rfl ?_
      refine sw_callSL (pc' := 80) (As := [vi 10, vi (8 - v57)]) (rest := [vl v70, vl x4]) dX4_mean_77 cs_X4_221 (m_X4_power 10 (8 - v57) s70) rfl rfl rfl rfl rfl (fun v77 s77 => ?_)
      refine sw_lmul (pc' := 81) dX4_mean_80 rfl ?_
      refine sw_ladd (pc' := 82) dX4_mean_81 rfl ?_
      refine sw_lstore (pc' := 84) (x := (x4 + (v70 * v77))) (L' := [some (.ref (ad G 0)), some (vi x1), some (vi x2), some (vi x3), some (vl (x4 + (v70 * v77))), none, some (vi x6), some (vi (8 - v57))]) dX4_mean_82 rfl (by decide) rfl rfl ?_
      refine sw_iinc (pc' := 87) (x := x6) (L' := [some (.ref (ad G 0)), some (vi x1), some (vi x2), some (vi x3), some (vl (x4 + (v70 * v77))), none, some (vi (x6 + 1)), some (vi (8 - v57))]) dX4_mean_84 rfl (by decide) rfl rfl rfl ?_
      refine sw_goto (pc' := 34) dX4_mean_87 (by decide) ?_
      refine sw_msk [true, true, true, true, true, false, true, false] rfl ?_
      exact (ih) x1 x2 x3 (x4 + (v70 * v77)) (x6 + 1) s77
    · refine sw_lload (pc' := 92) dX4_mean_90 rfl rfl ?_
      refine sw_bipush (pc' := 94) dX4_mean_92 rfl rfl ?_
      refine sw_bipush (pc' := 96) dX4_mean_94 rfl rfl ?_
      refine sw_callSL (pc' := 99) (As := [vi 10, vi 8]) (rest := [vl x4]) dX4_mean_96 cs_X4_221 (m_X4_power 10 8 σ) rfl rfl rfl rfl rfl (fun v96 s96 => ?_)
      refine sw_iload_n (pc' := 100) dX4_mean_99 rfl rfl ?_
      refine sw_callSL (pc' := 103) (As := [vl x4, vl v96, vi x3]) (rest := []) dX4_mean_100 cs_X4_225 (m_X4_lowestTerms x4 v96 x3 s96) rfl rfl rfl rfl rfl (fun v100 s100 => ?_)
      exact sw_lret dX4_mean_103
def f_X4_mean (x1 : Int) (x2 : Int) (x3 : Int) (σ : St) : Option (Int × St) :=
  bI (f_X4_isOdds x1 σ) fun v1 s1 => if v1 then
    bI (f_X4_within x2 0 20 s1) fun v11 s11 => if v11 then
      bI (f_X4_isChoice x3 s11) fun v18 s18 => if v18 then
        f_X4_mean_34 FU x1 x2 x3 0 0 s18
      else
        some ((-1), s18)
    else
      some ((-1), s11)
  else
    some ((-1), s1)
set_option maxRecDepth 20000 in
theorem m_X4_mean (x1 : Int) (x2 : Int) (x3 : Int)  (σ : St) : MT G l yX4_mean cX4_mean 8 (some .long) rm_X4_mean [.ref (ad G 0), vi x1, vi x2, vi x3] wL σ (f_X4_mean x1 x2 x3 σ) := by
  refine mt_L (L := [some (.ref (ad G 0)), some (vi x1), some (vi x2), some (vi x3), none, none, none, none]) rfl (Nat.le_of_ble_eq_true rfl) rfl ?_
  show SW G l RX4 cX4_mean 8 rm_X4_mean wL 0 [some (.ref (ad G 0)), some (vi x1), some (vi x2), some (vi x3), none, none, none, none] [] σ (f_X4_mean x1 x2 x3 σ)
  unfold f_X4_mean
  refine sw_iload_n (pc' := 1) dX4_mean_0 rfl rfl ?_
  refine sw_callSB (pc' := 4) (As := [vi x1]) (rest := []) dX4_mean_1 cs_X4_204 (m_X4_isOdds x1 σ) rfl rfl rfl rfl rfl (fun v1 s1 => ?_)
  refine sw_bif_eq (tgt := 24) (pc' := 7) dX4_mean_4 (by decide) rfl (fun _ => ?_) (fun _ => ?_)
  · refine sw_iload_n (pc' := 8) dX4_mean_7 rfl rfl ?_
    refine sw_iconst (pc' := 9) dX4_mean_8 rfl ?_
    refine sw_bipush (pc' := 11) dX4_mean_9 rfl rfl ?_
    refine sw_callSB (pc' := 14) (As := [vi x2, vi 0, vi 20]) (rest := []) dX4_mean_11 cs_X4_46 (m_X4_within x2 0 20 s1) rfl rfl rfl rfl rfl (fun v11 s11 => ?_)
    refine sw_bif_eq (tgt := 24) (pc' := 17) dX4_mean_14 (by decide) rfl (fun _ => ?_) (fun _ => ?_)
    · refine sw_iload_n (pc' := 18) dX4_mean_17 rfl rfl ?_
      refine sw_callSB (pc' := 21) (As := [vi x3]) (rest := []) dX4_mean_18 cs_X4_178 (m_X4_isChoice x3 s11) rfl rfl rfl rfl rfl (fun v18 s18 => ?_)
      refine sw_bif_ne (tgt := 28) (pc' := 24) dX4_mean_21 (by decide) rfl (fun _ => ?_) (fun _ => ?_)
      · refine sw_lconst (x := 0) (pc' := 29) dX4_mean_28 rfl rfl ?_
        refine sw_lstore (pc' := 31) (x := 0) (L' := [some (.ref (ad G 0)), some (vi x1), some (vi x2), some (vi x3), some (vl 0), none, none, none]) dX4_mean_29 rfl (by decide) rfl rfl ?_
        refine sw_iconst (pc' := 32) dX4_mean_31 rfl ?_
        refine sw_istore (pc' := 34) (x := 0) (L' := [some (.ref (ad G 0)), some (vi x1), some (vi x2), some (vi x3), some (vl 0), none, some (vi 0), none]) dX4_mean_32 rfl (by decide) rfl rfl ?_
        exact s_X4_mean_34 FU x1 x2 x3 0 0 s18
      · refine sw_ldc2 (n := (-1)) (pc' := 27) dX4_mean_24 kl_X4_207 rfl ?_
        exact sw_lret dX4_mean_27
    · refine sw_ldc2 (n := (-1)) (pc' := 27) dX4_mean_24 kl_X4_207 rfl ?_
      exact sw_lret dX4_mean_27
  · refine sw_ldc2 (n := (-1)) (pc' := 27) dX4_mean_24 kl_X4_207 rfl ?_
    exact sw_lret dX4_mean_27
def rm_X4_see : Room := { frames := 2, cells := 0, slots := 0, locals := 43 }
def f_X4_see (x1 : Int) (x2 : Int) (x3 : Int) (σ : St) : Option (Int × St) :=
  bI (f_X4_within x1 0 20 σ) fun v4 s4 => if v4 then
    bI (f_X4_isRider x2 s4) fun v12 s12 => if v12 then
      bI (f_X4_within x3 0 15 s12) fun v22 s22 => if v22 then
        bI (f_X1_append x1 x2 x3 s22) fun v37 s37 => if v37 then
          some ((s37 43 0), s37)
        else
          some ((-3), s37)
      else
        some ((-1), s22)
    else
      some ((-1), s12)
  else
    some ((-1), s4)
set_option maxRecDepth 20000 in
theorem m_X4_see (x1 : Int) (x2 : Int) (x3 : Int)  (σ : St) : MT G l yX4_see cX4_see 4 (some .int) rm_X4_see [.ref (ad G 0), vi x1, vi x2, vi x3] wI σ (f_X4_see x1 x2 x3 σ) := by
  refine mt_I (L := [some (.ref (ad G 0)), some (vi x1), some (vi x2), some (vi x3)]) rfl (Nat.le_of_ble_eq_true rfl) rfl ?_
  show SW G l RX4 cX4_see 4 rm_X4_see wI 0 [some (.ref (ad G 0)), some (vi x1), some (vi x2), some (vi x3)] [] σ (f_X4_see x1 x2 x3 σ)
  unfold f_X4_see
  refine sw_iload_n (pc' := 1) dX4_see_0 rfl rfl ?_
  refine sw_iconst (pc' := 2) dX4_see_1 rfl ?_
  refine sw_bipush (pc' := 4) dX4_see_2 rfl rfl ?_
  refine sw_callSB (pc' := 7) (As := [vi x1, vi 0, vi 20]) (rest := []) dX4_see_4 cs_X4_46 (m_X4_within x1 0 20 σ) rfl rfl rfl rfl rfl (fun v4 s4 => ?_)
  refine sw_bif_eq (tgt := 28) (pc' := 10) dX4_see_7 (by decide) rfl (fun _ => ?_) (fun _ => ?_)
  · refine sw_aload_n (pc' := 11) dX4_see_10 rfl rfl ?_
    refine sw_iload_n (pc' := 12) dX4_see_11 rfl rfl ?_
    refine sw_callVB (pc' := 15) (As := [vi x2]) (rest := []) dX4_see_12 cv_X4_105 (tbk_0) (m_X4_isRider x2 s4) rfl rfl rfl rfl rfl (fun v12 s12 => ?_)
    refine sw_bif_eq (tgt := 28) (pc' := 18) dX4_see_15 (by decide) rfl (fun _ => ?_) (fun _ => ?_)
    · refine sw_iload_n (pc' := 19) dX4_see_18 rfl rfl ?_
      refine sw_iconst (pc' := 20) dX4_see_19 rfl ?_
      refine sw_bipush (pc' := 22) dX4_see_20 rfl rfl ?_
      refine sw_callSB (pc' := 25) (As := [vi x3, vi 0, vi 15]) (rest := []) dX4_see_22 cs_X4_46 (m_X4_within x3 0 15 s12) rfl rfl rfl rfl rfl (fun v22 s22 => ?_)
      refine sw_bif_ne (tgt := 30) (pc' := 28) dX4_see_25 (by decide) rfl (fun _ => ?_) (fun _ => ?_)
      · refine sw_aload_n (pc' := 31) dX4_see_30 rfl rfl ?_
        refine sw_getr (pc' := 34) dX4_see_31 fl_X4_35 (tbk_0) rfl rfl ?_
        refine sw_iload_n (pc' := 35) dX4_see_34 rfl rfl ?_
        refine sw_iload_n (pc' := 36) dX4_see_35 rfl rfl ?_
        refine sw_iload_n (pc' := 37) dX4_see_36 rfl rfl ?_
        refine sw_callVB (pc' := 40) (As := [vi x1, vi x2, vi x3]) (rest := []) dX4_see_37 cv_X4_232 (tbk_43) (m_X1_append x1 x2 x3 s22) rfl rfl rfl rfl rfl (fun v37 s37 => ?_)
        refine sw_bif_eq (tgt := 53) (pc' := 43) dX4_see_40 (by decide) rfl (fun _ => ?_) (fun _ => ?_)
        · refine sw_aload_n (pc' := 44) dX4_see_43 rfl rfl ?_
          refine sw_getr (pc' := 47) dX4_see_44 fl_X4_35 (tbk_0) rfl rfl ?_
          refine sw_getn (pc' := 50) dX4_see_47 fl_X4_74 (tbk_43) rfl rfl ?_
          refine sw_goto (pc' := 55) dX4_see_50 (by decide) ?_
          exact sw_iret dX4_see_55
        · refine sw_bipush (pc' := 55) dX4_see_53 rfl rfl ?_
          exact sw_iret dX4_see_55
      · refine sw_iconst (pc' := 29) dX4_see_28 rfl ?_
        exact sw_iret dX4_see_29
    · refine sw_iconst (pc' := 29) dX4_see_28 rfl ?_
      exact sw_iret dX4_see_29
  · refine sw_iconst (pc' := 29) dX4_see_28 rfl ?_
    exact sw_iret dX4_see_29
def rm_X4_forget : Room := { frames := 1, cells := 0, slots := 0, locals := 22 }
def f_X4_forget (x1 : Int) (σ : St) : Option (Int × St) :=
  bI (f_X4_within x1 0 (σ 43 0) σ) fun v9 s9 => if v9 then
    bV (pf s9 43 0 x1) fun s30 => some ((s9 43 0), s30)
  else
    some ((-1), s9)
set_option maxRecDepth 20000 in
theorem m_X4_forget (x1 : Int)  (σ : St) : MT G l yX4_forget cX4_forget 3 (some .int) rm_X4_forget [.ref (ad G 0), vi x1] wI σ (f_X4_forget x1 σ) := by
  refine mt_I (L := [some (.ref (ad G 0)), some (vi x1), none]) rfl (Nat.le_of_ble_eq_true rfl) rfl ?_
  show SW G l RX4 cX4_forget 3 rm_X4_forget wI 0 [some (.ref (ad G 0)), some (vi x1), none] [] σ (f_X4_forget x1 σ)
  unfold f_X4_forget
  refine sw_iload_n (pc' := 1) dX4_forget_0 rfl rfl ?_
  refine sw_iconst (pc' := 2) dX4_forget_1 rfl ?_
  refine sw_aload_n (pc' := 3) dX4_forget_2 rfl rfl ?_
  refine sw_getr (pc' := 6) dX4_forget_3 fl_X4_35 (tbk_0) rfl rfl ?_
  refine sw_getn (pc' := 9) dX4_forget_6 fl_X4_74 (tbk_43) rfl rfl ?_
  refine sw_callSB (pc' := 12) (As := [vi x1, vi 0, vi (σ 43 0)]) (rest := []) dX4_forget_9 cs_X4_46 (m_X4_within x1 0 (σ 43 0) σ) rfl rfl rfl rfl rfl (fun v9 s9 => ?_)
  refine sw_bif_ne (tgt := 17) (pc' := 15) dX4_forget_12 (by decide) rfl (fun _ => ?_) (fun _ => ?_)
  · refine sw_aload_n (pc' := 18) dX4_forget_17 rfl rfl ?_
    refine sw_getr (pc' := 21) dX4_forget_18 fl_X4_35 (tbk_0) rfl rfl ?_
    refine sw_getn (pc' := 24) dX4_forget_21 fl_X4_74 (tbk_43) rfl rfl ?_
    refine sw_istore_n (pc' := 25) (x := (s9 43 0)) (L' := [some (.ref (ad G 0)), some (vi x1), some (vi (s9 43 0))]) dX4_forget_24 rfl (by decide) rfl rfl ?_
    refine sw_aload_n (pc' := 26) dX4_forget_25 rfl rfl ?_
    refine sw_getr (pc' := 29) dX4_forget_26 fl_X4_35 (tbk_0) rfl rfl ?_
    refine sw_iload_n (pc' := 30) dX4_forget_29 rfl rfl ?_
    refine sw_putI (pc' := 33) dX4_forget_30 fp_X4_74 (tbk_43) rfl rfl (fun s30 => ?_)
    refine sw_iload_n (pc' := 34) dX4_forget_33 rfl rfl ?_
    exact sw_iret dX4_forget_34
  · refine sw_iconst (pc' := 16) dX4_forget_15 rfl ?_
    exact sw_iret dX4_forget_16
def rm_X4_kinds : Room := { frames := 6, cells := 0, slots := 0, locals := 141 }
def f_X4_kinds_62  (k14 : Int → Int → Int → St → Option (Int × St)) (x1 x3 t0 t1 : Int) (σ : St) : Option (Int × St) :=
  k14 x1 (iod t0 t1) (x3 + 1) σ
set_option maxRecDepth 20000 in
theorem s_X4_kinds_62   (k14 : Int → Int → Int → St → Option (Int × St)) (hk14 : ∀ (x1 x2 x3 : Int) (σ : St), SW G l RX4 cX4_kinds 4 rm_X4_kinds wI 14 [some (.ref (ad G 0)), some (vi x1), some (vi x2), some (vi x3)] [] σ (k14 x1 x2 x3 σ)) (x1 x3 t0 t1 : Int) (σ : St) : SW G l RX4 cX4_kinds 4 rm_X4_kinds wI 62 [some (.ref (ad G 0)), some (vi x1), none, some (vi x3)] [vi t1, vi t0] σ (f_X4_kinds_62 k14 x1 x3 t0 t1 σ) := by
  unfold f_X4_kinds_62
  refine sw_ior (pc' := 63) dX4_kinds_62 rfl ?_
  refine sw_istore_n (pc' := 64) (x := (iod t0 t1)) (L' := [some (.ref (ad G 0)), some (vi x1), some (vi (iod t0 t1)), some (vi x3)]) dX4_kinds_63 rfl (by decide) rfl rfl ?_
  refine sw_iinc (pc' := 67) (x := x3) (L' := [some (.ref (ad G 0)), some (vi x1), some (vi (iod t0 t1)), some (vi (x3 + 1))]) dX4_kinds_64 rfl (by decide) rfl rfl rfl ?_
  refine sw_goto (pc' := 14) dX4_kinds_67 (by decide) ?_
  exact hk14 x1 (iod t0 t1) (x3 + 1) σ
def f_X4_kinds_14   : Nat → Int → Int → Int → St → Option (Int × St)
  | 0, _, _, _, _ => none
  | n + 1, x1, x2, x3, σ =>
    if wr x3 < wr 4 then
      bV (f_X2_copyFrom 11 1 σ) fun s27 => bV (sv s27 12 5 x1 x3) fun s39 => bI (f_X1_comeTrueIn 11 s39) fun v49 s49 => if v49 then
        f_X4_kinds_62 (f_X4_kinds_14 n) x1 x3 x2 (isl 1 x3) s49
      else
        f_X4_kinds_62 (f_X4_kinds_14 n) x1 x3 x2 0 s49
    else
      some (x2, σ)
set_option maxRecDepth 20000 in
theorem s_X4_kinds_14     : ∀ (n : Nat) (x1 x2 x3 : Int) (σ : St), SW G l RX4 cX4_kinds 4 rm_X4_kinds wI 14 [some (.ref (ad G 0)), some (vi x1), some (vi x2), some (vi x3)] [] σ (f_X4_kinds_14 n x1 x2 x3 σ) := by
  intro n
  induction n with
  | zero => intro x1 x2 x3 σ; exact sw_none
  | succ n ih =>
    intro x1 x2 x3 σ
    rw [f_X4_kinds_14]
    refine sw_iload_n (pc' := 15) dX4_kinds_14 rfl rfl ?_
    refine sw_iconst (pc' := 16) dX4_kinds_15 rfl ?_
    refine sw_icmp_ge (tgt := 70) (pc' := 19) dX4_kinds_16 (by decide) rfl (fun _ => ?_) (fun _ => ?_)
    · refine sw_aload_n (pc' := 20) dX4_kinds_19 rfl rfl ?_
      refine sw_getr (pc' := 23) dX4_kinds_20 fl_X4_16 (tbk_0) rfl rfl ?_
      refine sw_aload_n (pc' := 24) dX4_kinds_23 rfl rfl ?_
      refine sw_getr (pc' := 27) dX4_kinds_24 fl_X4_10 (tbk_0) rfl rfl ?_
      refine sw_callVV (pc' := 30) (As := [.ref (ad G 1)]) (rest := []) dX4_kinds_27 cv_X4_71 (tbk_11) (m_X2_copyFrom 11 1 (isSq_11) (isSq_1) σ) rfl rfl rfl rfl rfl (fun s27 => ?_)
      refine sw_aload_n (pc' := 31) dX4_kinds_30 rfl rfl ?_
      refine sw_getr (pc' := 34) dX4_kinds_31 fl_X4_16 (tbk_0) rfl rfl ?_
      refine sw_getr (pc' := 37) dX4_kinds_34 fl_X4_108 (tbk_11) rfl rfl ?_
      refine sw_iload_n (pc' := 38) dX4_kinds_37 rfl rfl ?_
      refine sw_iload_n (pc' := 39) dX4_kinds_38 rfl rfl ?_
      refine sw_iast (pc' := 40) dX4_kinds_39 (tbk_12) rfl (fun s39 => ?_)
      refine sw_iload_n (pc' := 41) dX4_kinds_40 rfl rfl ?_
      refine sw_aload_n (pc' := 42) dX4_kinds_41 rfl rfl ?_
      refine sw_getr (pc' := 45) dX4_kinds_42 fl_X4_35 (tbk_0) rfl rfl ?_
      refine sw_aload_n (pc' := 46) dX4_kinds_45 rfl rfl ?_
      refine sw_getr (pc' := 49) dX4_kinds_46 fl_X4_16 (tbk_0) rfl rfl ?_
      refine sw_callVB (pc' := 52) (As := [.ref (ad G 11)]) (rest := [vi x2]) dX4_kinds_49 cv_X4_234 (tbk_43) (m_X1_comeTrueIn 11 (isSq_11) s39) rfl rfl rfl rfl rfl (fun v49 s49 => ?_)
      refine sw_bif_eq (tgt := 61) (pc' := 55) dX4_kinds_52 (by decide) rfl (fun _ => ?_) (fun _ => ?_)
      · refine sw_iconst (pc' := 56) dX4_kinds_55 rfl ?_
        refine sw_iload_n (pc' := 57) dX4_kinds_56 rfl rfl ?_
        refine sw_ishl (pc' := 58) dX4_kinds_57 rfl ?_
        refine sw_goto (pc' := 62) dX4_kinds_58 (by decide) ?_
        refine sw_msk [true, true, false, true] rfl ?_
        exact s_X4_kinds_62 (f_X4_kinds_14 n) (ih) x1 x3 x2 (isl 1 x3) s49
      · refine sw_iconst (pc' := 62) dX4_kinds_61 rfl ?_
        refine sw_msk [true, true, false, true] rfl ?_
        exact s_X4_kinds_62 (f_X4_kinds_14 n) (ih) x1 x3 x2 0 s49
    · refine sw_iload_n (pc' := 71) dX4_kinds_70 rfl rfl ?_
      exact sw_iret dX4_kinds_71
def f_X4_kinds (x1 : Int) (σ : St) : Option (Int × St) :=
  bI (f_X4_isRider x1 σ) fun v2 s2 => if v2 then
    f_X4_kinds_14 FU x1 0 0 s2
  else
    some ((-1), s2)
set_option maxRecDepth 20000 in
theorem m_X4_kinds (x1 : Int)  (σ : St) : MT G l yX4_kinds cX4_kinds 4 (some .int) rm_X4_kinds [.ref (ad G 0), vi x1] wI σ (f_X4_kinds x1 σ) := by
  refine mt_I (L := [some (.ref (ad G 0)), some (vi x1), none, none]) rfl (Nat.le_of_ble_eq_true rfl) rfl ?_
  show SW G l RX4 cX4_kinds 4 rm_X4_kinds wI 0 [some (.ref (ad G 0)), some (vi x1), none, none] [] σ (f_X4_kinds x1 σ)
  unfold f_X4_kinds
  refine sw_aload_n (pc' := 1) dX4_kinds_0 rfl rfl ?_
  refine sw_iload_n (pc' := 2) dX4_kinds_1 rfl rfl ?_
  refine sw_callVB (pc' := 5) (As := [vi x1]) (rest := []) dX4_kinds_2 cv_X4_105 (tbk_0) (m_X4_isRider x1 σ) rfl rfl rfl rfl rfl (fun v2 s2 => ?_)
  refine sw_bif_ne (tgt := 10) (pc' := 8) dX4_kinds_5 (by decide) rfl (fun _ => ?_) (fun _ => ?_)
  · refine sw_iconst (pc' := 11) dX4_kinds_10 rfl ?_
    refine sw_istore_n (pc' := 12) (x := 0) (L' := [some (.ref (ad G 0)), some (vi x1), some (vi 0), none]) dX4_kinds_11 rfl (by decide) rfl rfl ?_
    refine sw_iconst (pc' := 13) dX4_kinds_12 rfl ?_
    refine sw_istore_n (pc' := 14) (x := 0) (L' := [some (.ref (ad G 0)), some (vi x1), some (vi 0), some (vi 0)]) dX4_kinds_13 rfl (by decide) rfl rfl ?_
    exact s_X4_kinds_14 FU x1 0 0 s2
  · refine sw_iconst (pc' := 9) dX4_kinds_8 rfl ?_
    exact sw_iret dX4_kinds_9
def rm_X4_fittingUps : Room := { frames := 6, cells := 0, slots := 0, locals := 141 }
def f_X4_fittingUps_53  (k4 : Int → Int → Int → St → Option (Int × St)) (x1 x3 t0 t1 : Int) (σ : St) : Option (Int × St) :=
  k4 x1 (iod t0 t1) (x3 + 1) σ
set_option maxRecDepth 20000 in
theorem s_X4_fittingUps_53   (k4 : Int → Int → Int → St → Option (Int × St)) (hk4 : ∀ (x1 x2 x3 : Int) (σ : St), SW G l RX4 cX4_fittingUps 4 rm_X4_fittingUps wI 4 [some (.ref (ad G 0)), some (vi x1), some (vi x2), some (vi x3)] [] σ (k4 x1 x2 x3 σ)) (x1 x3 t0 t1 : Int) (σ : St) : SW G l RX4 cX4_fittingUps 4 rm_X4_fittingUps wI 53 [some (.ref (ad G 0)), some (vi x1), none, some (vi x3)] [vi t1, vi t0] σ (f_X4_fittingUps_53 k4 x1 x3 t0 t1 σ) := by
  unfold f_X4_fittingUps_53
  refine sw_ior (pc' := 54) dX4_fittingUps_53 rfl ?_
  refine sw_istore_n (pc' := 55) (x := (iod t0 t1)) (L' := [some (.ref (ad G 0)), some (vi x1), some (vi (iod t0 t1)), some (vi x3)]) dX4_fittingUps_54 rfl (by decide) rfl rfl ?_
  refine sw_iinc (pc' := 58) (x := x3) (L' := [some (.ref (ad G 0)), some (vi x1), some (vi (iod t0 t1)), some (vi (x3 + 1))]) dX4_fittingUps_55 rfl (by decide) rfl rfl rfl ?_
  refine sw_goto (pc' := 4) dX4_fittingUps_58 (by decide) ?_
  exact hk4 x1 (iod t0 t1) (x3 + 1) σ
def f_X4_fittingUps_4   : Nat → Int → Int → Int → St → Option (Int × St)
  | 0, _, _, _, _ => none
  | n + 1, x1, x2, x3, σ =>
    if wr x3 < wr 16 then
      bV (f_X2_copyFrom 11 1 σ) fun s18 => bV (sv s18 13 5 x1 x3) fun s30 => bI (f_X1_comeTrueIn 11 s30) fun v40 s40 => if v40 then
        f_X4_fittingUps_53 (f_X4_fittingUps_4 n) x1 x3 x2 (isl 1 x3) s40
      else
        f_X4_fittingUps_53 (f_X4_fittingUps_4 n) x1 x3 x2 0 s40
    else
      some (x2, σ)
set_option maxRecDepth 20000 in
theorem s_X4_fittingUps_4     : ∀ (n : Nat) (x1 x2 x3 : Int) (σ : St), SW G l RX4 cX4_fittingUps 4 rm_X4_fittingUps wI 4 [some (.ref (ad G 0)), some (vi x1), some (vi x2), some (vi x3)] [] σ (f_X4_fittingUps_4 n x1 x2 x3 σ) := by
  intro n
  induction n with
  | zero => intro x1 x2 x3 σ; exact sw_none
  | succ n ih =>
    intro x1 x2 x3 σ
    rw [f_X4_fittingUps_4]
    refine sw_iload_n (pc' := 5) dX4_fittingUps_4 rfl rfl ?_
    refine sw_bipush (pc' := 7) dX4_fittingUps_5 rfl rfl ?_
    refine sw_icmp_ge (tgt := 61) (pc' := 10) dX4_fittingUps_7 (by decide) rfl (fun _ => ?_) (fun _ => ?_)
    · refine sw_aload_n (pc' := 11) dX4_fittingUps_10 rfl rfl ?_
      refine sw_getr (pc' := 14) dX4_fittingUps_11 fl_X4_16 (tbk_0) rfl rfl ?_
      refine sw_aload_n (pc' := 15) dX4_fittingUps_14 rfl rfl ?_
      refine sw_getr (pc' := 18) dX4_fittingUps_15 fl_X4_10 (tbk_0) rfl rfl ?_
      refine sw_callVV (pc' := 21) (As := [.ref (ad G 1)]) (rest := []) dX4_fittingUps_18 cv_X4_71 (tbk_11) (m_X2_copyFrom 11 1 (isSq_11) (isSq_1) σ) rfl rfl rfl rfl rfl (fun s18 => ?_)
      refine sw_aload_n (pc' := 22) dX4_fittingUps_21 rfl rfl ?_
      refine sw_getr (pc' := 25) dX4_fittingUps_22 fl_X4_16 (tbk_0) rfl rfl ?_
      refine sw_getr (pc' := 28) dX4_fittingUps_25 fl_X4_112 (tbk_11) rfl rfl ?_
      refine sw_iload_n (pc' := 29) dX4_fittingUps_28 rfl rfl ?_
      refine sw_iload_n (pc' := 30) dX4_fittingUps_29 rfl rfl ?_
      refine sw_iast (pc' := 31) dX4_fittingUps_30 (tbk_13) rfl (fun s30 => ?_)
      refine sw_iload_n (pc' := 32) dX4_fittingUps_31 rfl rfl ?_
      refine sw_aload_n (pc' := 33) dX4_fittingUps_32 rfl rfl ?_
      refine sw_getr (pc' := 36) dX4_fittingUps_33 fl_X4_35 (tbk_0) rfl rfl ?_
      refine sw_aload_n (pc' := 37) dX4_fittingUps_36 rfl rfl ?_
      refine sw_getr (pc' := 40) dX4_fittingUps_37 fl_X4_16 (tbk_0) rfl rfl ?_
      refine sw_callVB (pc' := 43) (As := [.ref (ad G 11)]) (rest := [vi x2]) dX4_fittingUps_40 cv_X4_234 (tbk_43) (m_X1_comeTrueIn 11 (isSq_11) s30) rfl rfl rfl rfl rfl (fun v40 s40 => ?_)
      refine sw_bif_eq (tgt := 52) (pc' := 46) dX4_fittingUps_43 (by decide) rfl (fun _ => ?_) (fun _ => ?_)
      · refine sw_iconst (pc' := 47) dX4_fittingUps_46 rfl ?_
        refine sw_iload_n (pc' := 48) dX4_fittingUps_47 rfl rfl ?_
        refine sw_ishl (pc' := 49) dX4_fittingUps_48 rfl ?_
        refine sw_goto (pc' := 53) dX4_fittingUps_49 (by decide) ?_
        refine sw_msk [true, true, false, true] rfl ?_
        exact s_X4_fittingUps_53 (f_X4_fittingUps_4 n) (ih) x1 x3 x2 (isl 1 x3) s40
      · refine sw_iconst (pc' := 53) dX4_fittingUps_52 rfl ?_
        refine sw_msk [true, true, false, true] rfl ?_
        exact s_X4_fittingUps_53 (f_X4_fittingUps_4 n) (ih) x1 x3 x2 0 s40
    · refine sw_iload_n (pc' := 62) dX4_fittingUps_61 rfl rfl ?_
      exact sw_iret dX4_fittingUps_62
def f_X4_fittingUps (x1 : Int) (σ : St) : Option (Int × St) :=
  f_X4_fittingUps_4 FU x1 0 0 σ
set_option maxRecDepth 20000 in
theorem m_X4_fittingUps (x1 : Int)  (σ : St) : MT G l yX4_fittingUps cX4_fittingUps 4 (some .int) rm_X4_fittingUps [.ref (ad G 0), vi x1] wI σ (f_X4_fittingUps x1 σ) := by
  refine mt_I (L := [some (.ref (ad G 0)), some (vi x1), none, none]) rfl (Nat.le_of_ble_eq_true rfl) rfl ?_
  show SW G l RX4 cX4_fittingUps 4 rm_X4_fittingUps wI 0 [some (.ref (ad G 0)), some (vi x1), none, none] [] σ (f_X4_fittingUps x1 σ)
  unfold f_X4_fittingUps
  refine sw_iconst (pc' := 1) dX4_fittingUps_0 rfl ?_
  refine sw_istore_n (pc' := 2) (x := 0) (L' := [some (.ref (ad G 0)), some (vi x1), some (vi 0), none]) dX4_fittingUps_1 rfl (by decide) rfl rfl ?_
  refine sw_iconst (pc' := 3) dX4_fittingUps_2 rfl ?_
  refine sw_istore_n (pc' := 4) (x := 0) (L' := [some (.ref (ad G 0)), some (vi x1), some (vi 0), some (vi 0)]) dX4_fittingUps_3 rfl (by decide) rfl rfl ?_
  exact s_X4_fittingUps_4 FU x1 0 0 σ
def rm_X4_ups : Room := { frames := 7, cells := 0, slots := 0, locals := 164 }
def f_X4_ups (x1 : Int) (σ : St) : Option (Int × St) :=
  bI (f_X4_isRider x1 σ) fun v2 s2 => if v2 then
    bI (f_X4_fittingUps x1 s2) fun v10 s10 => some (v10, s10)
  else
    some ((-1), s2)
set_option maxRecDepth 20000 in
theorem m_X4_ups (x1 : Int)  (σ : St) : MT G l yX4_ups cX4_ups 2 (some .int) rm_X4_ups [.ref (ad G 0), vi x1] wI σ (f_X4_ups x1 σ) := by
  refine mt_I (L := [some (.ref (ad G 0)), some (vi x1)]) rfl (Nat.le_of_ble_eq_true rfl) rfl ?_
  show SW G l RX4 cX4_ups 2 rm_X4_ups wI 0 [some (.ref (ad G 0)), some (vi x1)] [] σ (f_X4_ups x1 σ)
  unfold f_X4_ups
  refine sw_aload_n (pc' := 1) dX4_ups_0 rfl rfl ?_
  refine sw_iload_n (pc' := 2) dX4_ups_1 rfl rfl ?_
  refine sw_callVB (pc' := 5) (As := [vi x1]) (rest := []) dX4_ups_2 cv_X4_105 (tbk_0) (m_X4_isRider x1 σ) rfl rfl rfl rfl rfl (fun v2 s2 => ?_)
  refine sw_bif_eq (tgt := 16) (pc' := 8) dX4_ups_5 (by decide) rfl (fun _ => ?_) (fun _ => ?_)
  · refine sw_aload_n (pc' := 9) dX4_ups_8 rfl rfl ?_
    refine sw_iload_n (pc' := 10) dX4_ups_9 rfl rfl ?_
    refine sw_callVI (pc' := 13) (As := [vi x1]) (rest := []) dX4_ups_10 cv_X4_238 (tbk_0) (m_X4_fittingUps x1 s2) rfl rfl rfl rfl rfl (fun v10 s10 => ?_)
    refine sw_goto (pc' := 17) dX4_ups_13 (by decide) ?_
    exact sw_iret dX4_ups_17
  · refine sw_iconst (pc' := 17) dX4_ups_16 rfl ?_
    exact sw_iret dX4_ups_17
end GEN
