section GEN
variable {G : Gh} {l : Launch}
def rm_X4_sendFrom : Room := { frames := 3, cells := 0, slots := 0, locals := 67 }
def f_X4_sendFrom (x1 : Int) (x2 : Int) (σ : St) : Option (Int × St) :=
  bI (f_X0_cell x1 x2 σ) fun v7 s7 => bI (f_X0_cell x1 (x2 + 1) s7) fun v18 s18 => bI (f_X0_cell x1 (x2 + 2) s18) fun v29 s29 => bI (f_X0_cell x1 (x2 + 3) s29) fun v40 s40 => bI (f_X4_send v7 v18 v29 v40 s40) fun v43 s43 => some (v43, s43)
set_option maxRecDepth 20000 in
theorem m_X4_sendFrom (x1 : Int) (x2 : Int)  (σ : St) : MT G l yX4_sendFrom cX4_sendFrom 3 (some .int) rm_X4_sendFrom [.ref (ad G 0), vi x1, vi x2] wI σ (f_X4_sendFrom x1 x2 σ) := by
  refine mt_I (L := [some (.ref (ad G 0)), some (vi x1), some (vi x2)]) rfl (Nat.le_of_ble_eq_true rfl) rfl ?_
  show SW G l RX4 cX4_sendFrom 3 rm_X4_sendFrom wI 0 [some (.ref (ad G 0)), some (vi x1), some (vi x2)] [] σ (f_X4_sendFrom x1 x2 σ)
  unfold f_X4_sendFrom
  refine sw_aload_n (pc' := 1) dX4_sendFrom_0 rfl rfl ?_
  refine sw_aload_n (pc' := 2) dX4_sendFrom_1 rfl rfl ?_
  refine sw_getr (pc' := 5) dX4_sendFrom_2 fl_X4_42 (tbk_0) rfl rfl ?_
  refine sw_iload_n (pc' := 6) dX4_sendFrom_5 rfl rfl ?_
  refine sw_iload_n (pc' := 7) dX4_sendFrom_6 rfl rfl ?_
  refine sw_callVI (pc' := 10) (As := [vi x1, vi x2]) (rest := [.ref (ad G 0)]) dX4_sendFrom_7 cv_X4_282 (tbk_47) (m_X0_cell x1 x2 σ) rfl rfl rfl rfl rfl (fun v7 s7 => ?_)
  refine sw_aload_n (pc' := 11) dX4_sendFrom_10 rfl rfl ?_
  refine sw_getr (pc' := 14) dX4_sendFrom_11 fl_X4_42 (tbk_0) rfl rfl ?_
  refine sw_iload_n (pc' := 15) dX4_sendFrom_14 rfl rfl ?_
  refine sw_iload_n (pc' := 16) dX4_sendFrom_15 rfl rfl ?_
  refine sw_iconst (pc' := 17) dX4_sendFrom_16 rfl ?_
  refine sw_iadd (pc' := 18) dX4_sendFrom_17 rfl ?_
  refine sw_callVI (pc' := 21) (As := [vi x1, vi (x2 + 1)]) (rest := [vi v7, .ref (ad G 0)]) dX4_sendFrom_18 cv_X4_282 (tbk_47) (m_X0_cell x1 (x2 + 1) s7) rfl rfl rfl rfl rfl (fun v18 s18 => ?_)
  refine sw_aload_n (pc' := 22) dX4_sendFrom_21 rfl rfl ?_
  refine sw_getr (pc' := 25) dX4_sendFrom_22 fl_X4_42 (tbk_0) rfl rfl ?_
  refine sw_iload_n (pc' := 26) dX4_sendFrom_25 rfl rfl ?_
  refine sw_iload_n (pc' := 27) dX4_sendFrom_26 rfl rfl ?_
  refine sw_iconst (pc' := 28) dX4_sendFrom_27 rfl ?_
  refine sw_iadd (pc' := 29) dX4_sendFrom_28 rfl ?_
  refine sw_callVI (pc' := 32) (As := [vi x1, vi (x2 + 2)]) (rest := [vi v18, vi v7, .ref (ad G 0)]) dX4_sendFrom_29 cv_X4_282 (tbk_47) (m_X0_cell x1 (x2 + 2) s18) rfl rfl rfl rfl rfl (fun v29 s29 => ?_)
  refine sw_aload_n (pc' := 33) dX4_sendFrom_32 rfl rfl ?_
  refine sw_getr (pc' := 36) dX4_sendFrom_33 fl_X4_42 (tbk_0) rfl rfl ?_
  refine sw_iload_n (pc' := 37) dX4_sendFrom_36 rfl rfl ?_
  refine sw_iload_n (pc' := 38) dX4_sendFrom_37 rfl rfl ?_
  refine sw_iconst (pc' := 39) dX4_sendFrom_38 rfl ?_
  refine sw_iadd (pc' := 40) dX4_sendFrom_39 rfl ?_
  refine sw_callVI (pc' := 43) (As := [vi x1, vi (x2 + 3)]) (rest := [vi v29, vi v18, vi v7, .ref (ad G 0)]) dX4_sendFrom_40 cv_X4_282 (tbk_47) (m_X0_cell x1 (x2 + 3) s29) rfl rfl rfl rfl rfl (fun v40 s40 => ?_)
  refine sw_callVI (pc' := 46) (As := [vi v7, vi v18, vi v29, vi v40]) (rest := []) dX4_sendFrom_43 cv_X4_285 (tbk_0) (m_X4_send v7 v18 v29 v40 s40) rfl rfl rfl rfl rfl (fun v43 s43 => ?_)
  exact sw_iret dX4_sendFrom_46
def rm_X4_read : Room := { frames := 4, cells := 0, slots := 0, locals := 89 }
def f_X4_read_47   : Nat → Int → Int → Int → Int → Int → Int → St → Option (Int × St)
  | 0, _, _, _, _, _, _, _ => none
  | n + 1, x1, x2, x3, x4, x5, x6, σ =>
    if wr x6 < wr x4 then
      bI (f_X0_faultOf x1 x2 (x3 + (4 * x6)) 4 σ) fun v71 s71 => if wr v71 = 0 then
        bI (f_X4_sendFrom x1 (x3 + (4 * x6)) s71) fun v94 s94 => if wr v94 < 0 then
          bV (pf s94 1 6 x5) fun s106 => some (((-20) - x6), s106)
        else
          (f_X4_read_47 n) x1 x2 x3 x4 x5 (x6 + 1) s94
      else
        bV (pf s71 0 9 v71) fun s84 => some (x6, s84)
    else
      bV (pf σ 0 9 0) fun s123 => some (x4, s123)
set_option maxRecDepth 20000 in
theorem s_X4_read_47     : ∀ (n : Nat) (x1 x2 x3 x4 x5 x6 : Int) (σ : St), SW G l RX4 cX4_read 9 rm_X4_read wI 47 [some (.ref (ad G 0)), some (vi x1), some (vi x2), some (vi x3), some (vi x4), some (vi x5), some (vi x6), none, none] [] σ (f_X4_read_47 n x1 x2 x3 x4 x5 x6 σ) := by
  intro n
  induction n with
  | zero => intro x1 x2 x3 x4 x5 x6 σ; exact sw_none
  | succ n ih =>
    intro x1 x2 x3 x4 x5 x6 σ
    rw [f_X4_read_47]
    refine sw_iload (pc' := 49) dX4_read_47 rfl rfl ?_
    refine sw_iload (pc' := 51) dX4_read_49 rfl rfl ?_
    refine sw_icmp_ge (tgt := 121) (pc' := 54) dX4_read_51 (by decide) rfl (fun _ => ?_) (fun _ => ?_)
    · refine sw_iload_n (pc' := 55) dX4_read_54 rfl rfl ?_
      refine sw_iconst (pc' := 56) dX4_read_55 rfl ?_
      refine sw_iload (pc' := 58) dX4_read_56 rfl rfl ?_
      refine sw_imul (pc' := 59) dX4_read_58 rfl ?_
      refine sw_iadd (pc' := 60) dX4_read_59 rfl ?_
      refine sw_istore (pc' := 62) (x := (x3 + (4 * x6))) (L' := [some (.ref (ad G 0)), some (vi x1), some (vi x2), some (vi x3), some (vi x4), some (vi x5), some (vi x6), some (vi (x3 + (4 * x6))), none]) dX4_read_60 rfl (by decide) rfl rfl ?_
      refine sw_aload_n (pc' := 63) dX4_read_62 rfl rfl ?_
      refine sw_getr (pc' := 66) dX4_read_63 fl_X4_42 (tbk_0) rfl rfl ?_
      refine sw_iload_n (pc' := 67) dX4_read_66 rfl rfl ?_
      refine sw_iload_n (pc' := 68) dX4_read_67 rfl rfl ?_
      refine sw_iload (pc' := 70) dX4_read_68 rfl rfl ?_
      refine sw_iconst (pc' := 71) dX4_read_70 rfl ?_
      refine sw_callVI (pc' := 74) (As := [vi x1, vi x2, vi (x3 + (4 * x6)), vi 4]) (rest := []) dX4_read_71 cv_X4_262 (tbk_47) (m_X0_faultOf x1 x2 (x3 + (4 * x6)) 4 σ) rfl rfl rfl rfl rfl (fun v71 s71 => ?_)
      refine sw_istore (pc' := 76) (x := v71) (L' := [some (.ref (ad G 0)), some (vi x1), some (vi x2), some (vi x3), some (vi x4), some (vi x5), some (vi x6), some (vi (x3 + (4 * x6))), some (vi v71)]) dX4_read_74 rfl (by decide) rfl rfl ?_
      refine sw_iload (pc' := 78) dX4_read_76 rfl rfl ?_
      refine sw_if_eq (tgt := 90) (pc' := 81) dX4_read_78 (by decide) rfl (fun _ => ?_) (fun _ => ?_)
      · refine sw_aload_n (pc' := 91) dX4_read_90 rfl rfl ?_
        refine sw_iload_n (pc' := 92) dX4_read_91 rfl rfl ?_
        refine sw_iload (pc' := 94) dX4_read_92 rfl rfl ?_
        refine sw_callVI (pc' := 97) (As := [vi x1, vi (x3 + (4 * x6))]) (rest := []) dX4_read_94 cv_X4_272 (tbk_0) (m_X4_sendFrom x1 (x3 + (4 * x6)) s71) rfl rfl rfl rfl rfl (fun v94 s94 => ?_)
        refine sw_if_ge (tgt := 115) (pc' := 100) dX4_read_97 (by decide) rfl (fun _ => ?_) (fun _ => ?_)
        · refine sw_aload_n (pc' := 101) dX4_read_100 rfl rfl ?_
          refine sw_getr (pc' := 104) dX4_read_101 fl_X4_10 (tbk_0) rfl rfl ?_
          refine sw_iload (pc' := 106) dX4_read_104 rfl rfl ?_
          refine sw_putI (pc' := 109) dX4_read_106 fp_X4_86 (tbk_1) rfl rfl (fun s106 => ?_)
          refine sw_bipush (pc' := 111) dX4_read_109 rfl rfl ?_
          refine sw_iload (pc' := 113) dX4_read_111 rfl rfl ?_
          refine sw_isub (pc' := 114) dX4_read_113 rfl ?_
          exact sw_iret dX4_read_114
        · refine sw_iinc (pc' := 118) (x := x6) (L' := [some (.ref (ad G 0)), some (vi x1), some (vi x2), some (vi x3), some (vi x4), some (vi x5), some (vi (x6 + 1)), some (vi (x3 + (4 * x6))), some (vi v71)]) dX4_read_115 rfl (by decide) rfl rfl rfl ?_
          refine sw_goto (pc' := 47) dX4_read_118 (by decide) ?_
          refine sw_msk [true, true, true, true, true, true, true, false, false] rfl ?_
          exact (ih) x1 x2 x3 x4 x5 (x6 + 1) s94
      · refine sw_aload_n (pc' := 82) dX4_read_81 rfl rfl ?_
        refine sw_iload (pc' := 84) dX4_read_82 rfl rfl ?_
        refine sw_putI (pc' := 87) dX4_read_84 fp_X4_269 (tbk_0) rfl rfl (fun s84 => ?_)
        refine sw_iload (pc' := 89) dX4_read_87 rfl rfl ?_
        exact sw_iret dX4_read_89
    · refine sw_aload_n (pc' := 122) dX4_read_121 rfl rfl ?_
      refine sw_iconst (pc' := 123) dX4_read_122 rfl ?_
      refine sw_putI (pc' := 126) dX4_read_123 fp_X4_269 (tbk_0) rfl rfl (fun s123 => ?_)
      refine sw_iload (pc' := 128) dX4_read_126 rfl rfl ?_
      exact sw_iret dX4_read_128
def f_X4_read (x1 : Int) (x2 : Int) (x3 : Int) (x4 : Int) (σ : St) : Option (Int × St) :=
  bI (f_X0_isSheet x1 σ) fun v5 s5 => if v5 then
    bI (f_X0_isLane x2 s5) fun v16 s16 => if v16 then
      bI (f_X4_within x4 0 10 s16) fun v27 s27 => if v27 then
        f_X4_read_47 FU x1 x2 x3 x4 (s27 1 6) 0 s27
      else
        some ((-1), s27)
    else
      some ((-1), s16)
  else
    some ((-1), s5)
set_option maxRecDepth 20000 in
theorem m_X4_read (x1 : Int) (x2 : Int) (x3 : Int) (x4 : Int)  (σ : St) : MT G l yX4_read cX4_read 9 (some .int) rm_X4_read [.ref (ad G 0), vi x1, vi x2, vi x3, vi x4] wI σ (f_X4_read x1 x2 x3 x4 σ) := by
  refine mt_I (L := [some (.ref (ad G 0)), some (vi x1), some (vi x2), some (vi x3), some (vi x4), none, none, none, none]) rfl (Nat.le_of_ble_eq_true rfl) rfl ?_
  show SW G l RX4 cX4_read 9 rm_X4_read wI 0 [some (.ref (ad G 0)), some (vi x1), some (vi x2), some (vi x3), some (vi x4), none, none, none, none] [] σ (f_X4_read x1 x2 x3 x4 σ)
  unfold f_X4_read
  refine sw_aload_n (pc' := 1) dX4_read_0 rfl rfl ?_
  refine sw_getr (pc' := 4) dX4_read_1 fl_X4_42 (tbk_0) rfl rfl ?_
  refine sw_iload_n (pc' := 5) dX4_read_4 rfl rfl ?_
  refine sw_callVB (pc' := 8) (As := [vi x1]) (rest := []) dX4_read_5 cv_X4_249 (tbk_47) (m_X0_isSheet x1 σ) rfl rfl rfl rfl rfl (fun v5 s5 => ?_)
  refine sw_bif_eq (tgt := 33) (pc' := 11) dX4_read_8 (by decide) rfl (fun _ => ?_) (fun _ => ?_)
  · refine sw_aload_n (pc' := 12) dX4_read_11 rfl rfl ?_
    refine sw_getr (pc' := 15) dX4_read_12 fl_X4_42 (tbk_0) rfl rfl ?_
    refine sw_iload_n (pc' := 16) dX4_read_15 rfl rfl ?_
    refine sw_callVB (pc' := 19) (As := [vi x2]) (rest := []) dX4_read_16 cv_X4_252 (tbk_47) (m_X0_isLane x2 s5) rfl rfl rfl rfl rfl (fun v16 s16 => ?_)
    refine sw_bif_eq (tgt := 33) (pc' := 22) dX4_read_19 (by decide) rfl (fun _ => ?_) (fun _ => ?_)
    · refine sw_iload (pc' := 24) dX4_read_22 rfl rfl ?_
      refine sw_iconst (pc' := 25) dX4_read_24 rfl ?_
      refine sw_bipush (pc' := 27) dX4_read_25 rfl rfl ?_
      refine sw_callSB (pc' := 30) (As := [vi x4, vi 0, vi 10]) (rest := []) dX4_read_27 cs_X4_46 (m_X4_within x4 0 10 s16) rfl rfl rfl rfl rfl (fun v27 s27 => ?_)
      refine sw_bif_ne (tgt := 35) (pc' := 33) dX4_read_30 (by decide) rfl (fun _ => ?_) (fun _ => ?_)
      · refine sw_aload_n (pc' := 36) dX4_read_35 rfl rfl ?_
        refine sw_getr (pc' := 39) dX4_read_36 fl_X4_10 (tbk_0) rfl rfl ?_
        refine sw_getn (pc' := 42) dX4_read_39 fl_X4_86 (tbk_1) rfl rfl ?_
        refine sw_istore (pc' := 44) (x := (s27 1 6)) (L' := [some (.ref (ad G 0)), some (vi x1), some (vi x2), some (vi x3), some (vi x4), some (vi (s27 1 6)), none, none, none]) dX4_read_42 rfl (by decide) rfl rfl ?_
        refine sw_iconst (pc' := 45) dX4_read_44 rfl ?_
        refine sw_istore (pc' := 47) (x := 0) (L' := [some (.ref (ad G 0)), some (vi x1), some (vi x2), some (vi x3), some (vi x4), some (vi (s27 1 6)), some (vi 0), none, none]) dX4_read_45 rfl (by decide) rfl rfl ?_
        exact s_X4_read_47 FU x1 x2 x3 x4 (s27 1 6) 0 s27
      · refine sw_iconst (pc' := 34) dX4_read_33 rfl ?_
        exact sw_iret dX4_read_34
    · refine sw_iconst (pc' := 34) dX4_read_33 rfl ?_
      exact sw_iret dX4_read_34
  · refine sw_iconst (pc' := 34) dX4_read_33 rfl ?_
    exact sw_iret dX4_read_34
def rm_X4_torn : Room := { frames := 0, cells := 0, slots := 0, locals := 0 }
def f_X4_torn  (σ : St) : Option (Int × St) :=
  some ((σ 0 9), σ)
set_option maxRecDepth 20000 in
theorem m_X4_torn   (σ : St) : MT G l yX4_torn cX4_torn 1 (some .int) rm_X4_torn [.ref (ad G 0)] wI σ (f_X4_torn σ) := by
  refine mt_I (L := [some (.ref (ad G 0))]) rfl (Nat.le_of_ble_eq_true rfl) rfl ?_
  show SW G l RX4 cX4_torn 1 rm_X4_torn wI 0 [some (.ref (ad G 0))] [] σ (f_X4_torn σ)
  unfold f_X4_torn
  refine sw_aload_n (pc' := 1) dX4_torn_0 rfl rfl ?_
  refine sw_getn (pc' := 4) dX4_torn_1 fl_X4_269 (tbk_0) rfl rfl ?_
  exact sw_iret dX4_torn_4
def rm_X4_sumOfFirst : Room := { frames := 0, cells := 0, slots := 0, locals := 0 }
def f_X4_sumOfFirst_4 (a0 : Nat) (n0 : Nat)  : Nat → Int → Int → Int → St → Option (Int × St)
  | 0, _, _, _, _ => none
  | n + 1, x1, x2, x3, σ =>
    if wr x3 < wr x1 then
      if wr x3 < wr (n0 : Int) then
        bV (ld σ a0 n0 x3) fun v18 => (f_X4_sumOfFirst_4 a0 n0 n) x1 (x2 + v18) (x3 + 1) σ
      else
        some (x2, σ)
    else
      some (x2, σ)
set_option maxRecDepth 20000 in
theorem s_X4_sumOfFirst_4 (a0 : Nat) (n0 : Nat) (ht0 : tb a0 = .inl (0, n0))   : ∀ (n : Nat) (x1 x2 x3 : Int) (σ : St), SW G l RX4 cX4_sumOfFirst 4 rm_X4_sumOfFirst wI 4 [some (.ref (ad G a0)), some (vi x1), some (vi x2), some (vi x3)] [] σ (f_X4_sumOfFirst_4 a0 n0 n x1 x2 x3 σ) := by
  intro n
  induction n with
  | zero => intro x1 x2 x3 σ; exact sw_none
  | succ n ih =>
    intro x1 x2 x3 σ
    rw [f_X4_sumOfFirst_4]
    refine sw_iload_n (pc' := 5) dX4_sumOfFirst_4 rfl rfl ?_
    refine sw_iload_n (pc' := 6) dX4_sumOfFirst_5 rfl rfl ?_
    refine sw_icmp_ge (tgt := 27) (pc' := 9) dX4_sumOfFirst_6 (by decide) rfl (fun _ => ?_) (fun _ => ?_)
    · refine sw_iload_n (pc' := 10) dX4_sumOfFirst_9 rfl rfl ?_
      refine sw_aload_n (pc' := 11) dX4_sumOfFirst_10 rfl rfl ?_
      refine sw_alen (pc' := 12) dX4_sumOfFirst_11 (ht0) (by decide) rfl ?_
      refine sw_icmp_ge (tgt := 27) (pc' := 15) dX4_sumOfFirst_12 (by decide) rfl (fun _ => ?_) (fun _ => ?_)
      · refine sw_iload_n (pc' := 16) dX4_sumOfFirst_15 rfl rfl ?_
        refine sw_aload_n (pc' := 17) dX4_sumOfFirst_16 rfl rfl ?_
        refine sw_iload_n (pc' := 18) dX4_sumOfFirst_17 rfl rfl ?_
        refine sw_iald (pc' := 19) dX4_sumOfFirst_18 (ht0) rfl (fun v18 => ?_)
        refine sw_iadd (pc' := 20) dX4_sumOfFirst_19 rfl ?_
        refine sw_istore_n (pc' := 21) (x := (x2 + v18)) (L' := [some (.ref (ad G a0)), some (vi x1), some (vi (x2 + v18)), some (vi x3)]) dX4_sumOfFirst_20 rfl (by decide) rfl rfl ?_
        refine sw_iinc (pc' := 24) (x := x3) (L' := [some (.ref (ad G a0)), some (vi x1), some (vi (x2 + v18)), some (vi (x3 + 1))]) dX4_sumOfFirst_21 rfl (by decide) rfl rfl rfl ?_
        refine sw_goto (pc' := 4) dX4_sumOfFirst_24 (by decide) ?_
        exact (ih) x1 (x2 + v18) (x3 + 1) σ
      · refine sw_iload_n (pc' := 28) dX4_sumOfFirst_27 rfl rfl ?_
        exact sw_iret dX4_sumOfFirst_28
    · refine sw_iload_n (pc' := 28) dX4_sumOfFirst_27 rfl rfl ?_
      exact sw_iret dX4_sumOfFirst_28
def f_X4_sumOfFirst (a0 : Nat) (n0 : Nat) (x1 : Int) (σ : St) : Option (Int × St) :=
  f_X4_sumOfFirst_4 a0 n0 FU x1 0 0 σ
set_option maxRecDepth 20000 in
theorem m_X4_sumOfFirst (a0 : Nat) (n0 : Nat) (x1 : Int) (ht0 : tb a0 = .inl (0, n0)) (σ : St) : MT G l yX4_sumOfFirst cX4_sumOfFirst 4 (some .int) rm_X4_sumOfFirst [.ref (ad G a0), vi x1] wI σ (f_X4_sumOfFirst a0 n0 x1 σ) := by
  refine mt_I (L := [some (.ref (ad G a0)), some (vi x1), none, none]) rfl (Nat.le_of_ble_eq_true rfl) rfl ?_
  show SW G l RX4 cX4_sumOfFirst 4 rm_X4_sumOfFirst wI 0 [some (.ref (ad G a0)), some (vi x1), none, none] [] σ (f_X4_sumOfFirst a0 n0 x1 σ)
  unfold f_X4_sumOfFirst
  refine sw_iconst (pc' := 1) dX4_sumOfFirst_0 rfl ?_
  refine sw_istore_n (pc' := 2) (x := 0) (L' := [some (.ref (ad G a0)), some (vi x1), some (vi 0), none]) dX4_sumOfFirst_1 rfl (by decide) rfl rfl ?_
  refine sw_iconst (pc' := 3) dX4_sumOfFirst_2 rfl ?_
  refine sw_istore_n (pc' := 4) (x := 0) (L' := [some (.ref (ad G a0)), some (vi x1), some (vi 0), some (vi 0)]) dX4_sumOfFirst_3 rfl (by decide) rfl rfl ?_
  exact s_X4_sumOfFirst_4 a0 n0 ht0 FU x1 0 0 σ
def rm_X4_count : Room := { frames := 1, cells := 0, slots := 0, locals := 23 }
def f_X4_count (x1 : Int) (σ : St) : Option (Int × St) :=
  if wr x1 = 0 then
    some ((σ 43 0), σ)
  else
    if wr x1 = 1 then
      bI (f_J6_bitCount_0f7a4 (σ 0 7) σ) fun v52 s52 => some (v52, s52)
    else
      if wr x1 = 2 then
        some ((σ 41 1), σ)
      else
        if wr x1 = 3 then
          bV (ld σ 49 4 0) fun v72 => if wr v72 < 0 then
            some ((-4), σ)
          else
            bV (ld σ 49 4 0) fun v89 => some (v89, σ)
        else
          if wr x1 = 4 then
            bI (f_X4_sumOfFirst 4 5 (σ 1 0) σ) fun v105 s105 => some (v105, s105)
          else
            if wr x1 = 5 then
              bI (f_X4_sumOfFirst 5 4 4 σ) fun v117 s117 => some (v117, s117)
            else
              some ((-1), σ)
set_option maxRecDepth 20000 in
theorem m_X4_count (x1 : Int)  (σ : St) : MT G l yX4_count cX4_count 2 (some .int) rm_X4_count [.ref (ad G 0), vi x1] wI σ (f_X4_count x1 σ) := by
  refine mt_I (L := [some (.ref (ad G 0)), some (vi x1)]) rfl (Nat.le_of_ble_eq_true rfl) rfl ?_
  show SW G l RX4 cX4_count 2 rm_X4_count wI 0 [some (.ref (ad G 0)), some (vi x1)] [] σ (f_X4_count x1 σ)
  unfold f_X4_count
  refine sw_iload_n (pc' := 1) dX4_count_0 rfl rfl ?_
  refine sw_case (fun hc0 => ?_) (fun hc0 => ?_)
  · refine sw_tin (tgt := 40) dX4_count_1 hc0 (by decide) rfl (by decide) ?_
    refine sw_aload_n (pc' := 41) dX4_count_40 rfl rfl ?_
    refine sw_getr (pc' := 44) dX4_count_41 fl_X4_35 (tbk_0) rfl rfl ?_
    refine sw_getn (pc' := 47) dX4_count_44 fl_X4_74 (tbk_43) rfl rfl ?_
    exact sw_iret dX4_count_47
  · refine sw_case (fun hc1 => ?_) (fun hc1 => ?_)
    · refine sw_tin (tgt := 48) dX4_count_1 hc1 (by decide) rfl (by decide) ?_
      refine sw_aload_n (pc' := 49) dX4_count_48 rfl rfl ?_
      refine sw_getn (pc' := 52) dX4_count_49 fl_X4_77 (tbk_0) rfl rfl ?_
      refine sw_callSI (pc' := 55) (As := [vi (σ 0 7)]) (rest := []) dX4_count_52 cs_X4_216 (m_J6_bitCount_0f7a4 (σ 0 7) σ) rfl rfl rfl rfl rfl (fun v52 s52 => ?_)
      exact sw_iret dX4_count_55
    · refine sw_case (fun hc2 => ?_) (fun hc2 => ?_)
      · refine sw_tin (tgt := 56) dX4_count_1 hc2 (by decide) rfl (by decide) ?_
        refine sw_aload_n (pc' := 57) dX4_count_56 rfl rfl ?_
        refine sw_getr (pc' := 60) dX4_count_57 fl_X4_28 (tbk_0) rfl rfl ?_
        refine sw_getn (pc' := 63) dX4_count_60 fl_X4_54 (tbk_41) rfl rfl ?_
        exact sw_iret dX4_count_63
      · refine sw_case (fun hc3 => ?_) (fun hc3 => ?_)
        · refine sw_tin (tgt := 64) dX4_count_1 hc3 (by decide) rfl (by decide) ?_
          refine sw_aload_n (pc' := 65) dX4_count_64 rfl rfl ?_
          refine sw_getr (pc' := 68) dX4_count_65 fl_X4_42 (tbk_0) rfl rfl ?_
          refine sw_getr (pc' := 71) dX4_count_68 fl_X4_275 (tbk_47) rfl rfl ?_
          refine sw_iconst (pc' := 72) dX4_count_71 rfl ?_
          refine sw_iald (pc' := 73) dX4_count_72 (tbk_49) rfl (fun v72 => ?_)
          refine sw_if_ge (tgt := 81) (pc' := 76) dX4_count_73 (by decide) rfl (fun _ => ?_) (fun _ => ?_)
          · refine sw_bipush (pc' := 78) dX4_count_76 rfl rfl ?_
            refine sw_goto (pc' := 90) dX4_count_78 (by decide) ?_
            exact sw_iret dX4_count_90
          · refine sw_aload_n (pc' := 82) dX4_count_81 rfl rfl ?_
            refine sw_getr (pc' := 85) dX4_count_82 fl_X4_42 (tbk_0) rfl rfl ?_
            refine sw_getr (pc' := 88) dX4_count_85 fl_X4_275 (tbk_47) rfl rfl ?_
            refine sw_iconst (pc' := 89) dX4_count_88 rfl ?_
            refine sw_iald (pc' := 90) dX4_count_89 (tbk_49) rfl (fun v89 => ?_)
            exact sw_iret dX4_count_90
        · refine sw_case (fun hc4 => ?_) (fun hc4 => ?_)
          · refine sw_tin (tgt := 91) dX4_count_1 hc4 (by decide) rfl (by decide) ?_
            refine sw_aload_n (pc' := 92) dX4_count_91 rfl rfl ?_
            refine sw_getr (pc' := 95) dX4_count_92 fl_X4_10 (tbk_0) rfl rfl ?_
            refine sw_getr (pc' := 98) dX4_count_95 fl_X4_115 (tbk_1) rfl rfl ?_
            refine sw_aload_n (pc' := 99) dX4_count_98 rfl rfl ?_
            refine sw_getr (pc' := 102) dX4_count_99 fl_X4_10 (tbk_0) rfl rfl ?_
            refine sw_getn (pc' := 105) dX4_count_102 fl_X4_83 (tbk_1) rfl rfl ?_
            refine sw_callSI (pc' := 108) (As := [.ref (ad G 4), vi (σ 1 0)]) (rest := []) dX4_count_105 cs_X4_278 (m_X4_sumOfFirst 4 5 (σ 1 0) (tbk_4) σ) rfl rfl rfl rfl rfl (fun v105 s105 => ?_)
            exact sw_iret dX4_count_108
          · refine sw_case (fun hc5 => ?_) (fun hc5 => ?_)
            · refine sw_tin (tgt := 109) dX4_count_1 hc5 (by decide) rfl (by decide) ?_
              refine sw_aload_n (pc' := 110) dX4_count_109 rfl rfl ?_
              refine sw_getr (pc' := 113) dX4_count_110 fl_X4_10 (tbk_0) rfl rfl ?_
              refine sw_getr (pc' := 116) dX4_count_113 fl_X4_145 (tbk_1) rfl rfl ?_
              refine sw_iconst (pc' := 117) dX4_count_116 rfl ?_
              refine sw_callSI (pc' := 120) (As := [.ref (ad G 5), vi 4]) (rest := []) dX4_count_117 cs_X4_278 (m_X4_sumOfFirst 5 4 4 (tbk_5) σ) rfl rfl rfl rfl rfl (fun v117 s117 => ?_)
              exact sw_iret dX4_count_120
            · refine sw_tout (tgt := 121) dX4_count_1 (by omega) (by decide) ?_
              refine sw_iconst (pc' := 122) dX4_count_121 rfl ?_
              exact sw_iret dX4_count_122
end GEN
