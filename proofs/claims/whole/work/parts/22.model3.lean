section GEN
variable {G : Gh} {l : Launch}
def rm_X5_swap : Room := { frames := 7, cells := 0, slots := 0, locals := 161 }
def f_X5_swap_161  (k38 : Int → Int → Int → Int → Int → St → Option (Int × St)) (k56 : Int → Int → Int → Int → Int → Int → St → Option (Int × St)) (x1 x2 x4 x5 x6 t0 : Int) (σ : St) : Option (Int × St) :=
  k56 x1 x2 t0 x4 x5 (x6 + 1) σ
set_option maxRecDepth 20000 in
theorem s_X5_swap_161   (k38 : Int → Int → Int → Int → Int → St → Option (Int × St)) (k56 : Int → Int → Int → Int → Int → Int → St → Option (Int × St)) (hk38 : ∀ (x1 x2 x3 x4 x5 : Int) (σ : St), SW G l RX5 cX5_swap 8 rm_X5_swap wI 38 [some (.ref (ad G 51)), some (vi x1), some (vi x2), some (vi x3), some (vi x4), some (vi x5), none, none] [] σ (k38 x1 x2 x3 x4 x5 σ)) (hk56 : ∀ (x1 x2 x3 x4 x5 x6 : Int) (σ : St), SW G l RX5 cX5_swap 8 rm_X5_swap wI 56 [some (.ref (ad G 51)), some (vi x1), some (vi x2), some (vi x3), some (vi x4), some (vi x5), some (vi x6), none] [] σ (k56 x1 x2 x3 x4 x5 x6 σ)) (x1 x2 x4 x5 x6 t0 : Int) (σ : St) : SW G l RX5 cX5_swap 8 rm_X5_swap wI 161 [some (.ref (ad G 51)), some (vi x1), some (vi x2), none, some (vi x4), some (vi x5), some (vi x6), none] [vi t0] σ (f_X5_swap_161 k38 k56 x1 x2 x4 x5 x6 t0 σ) := by
  unfold f_X5_swap_161
  refine sw_istore_n (pc' := 162) (x := t0) (L' := [some (.ref (ad G 51)), some (vi x1), some (vi x2), some (vi t0), some (vi x4), some (vi x5), some (vi x6), none]) dX5_swap_161 rfl (by decide) rfl rfl ?_
  refine sw_iinc (pc' := 165) (x := x6) (L' := [some (.ref (ad G 51)), some (vi x1), some (vi x2), some (vi t0), some (vi x4), some (vi x5), some (vi (x6 + 1)), none]) dX5_swap_162 rfl (by decide) rfl rfl rfl ?_
  refine sw_goto (pc' := 56) dX5_swap_165 (by decide) ?_
  exact hk56 x1 x2 t0 x4 x5 (x6 + 1) σ
def f_X5_swap_147  (k38 : Int → Int → Int → Int → Int → St → Option (Int × St)) (k56 : Int → Int → Int → Int → Int → Int → St → Option (Int × St)) (x1 x2 x3 x5 x6 x7 t0 : Int) (σ : St) : Option (Int × St) :=
  if wr x3 < wr x7 then
    f_X5_swap_161 k38 k56 x1 x2 t0 x5 x6 x7 σ
  else
    f_X5_swap_161 k38 k56 x1 x2 t0 x5 x6 x3 σ
set_option maxRecDepth 20000 in
theorem s_X5_swap_147   (k38 : Int → Int → Int → Int → Int → St → Option (Int × St)) (k56 : Int → Int → Int → Int → Int → Int → St → Option (Int × St)) (hk38 : ∀ (x1 x2 x3 x4 x5 : Int) (σ : St), SW G l RX5 cX5_swap 8 rm_X5_swap wI 38 [some (.ref (ad G 51)), some (vi x1), some (vi x2), some (vi x3), some (vi x4), some (vi x5), none, none] [] σ (k38 x1 x2 x3 x4 x5 σ)) (hk56 : ∀ (x1 x2 x3 x4 x5 x6 : Int) (σ : St), SW G l RX5 cX5_swap 8 rm_X5_swap wI 56 [some (.ref (ad G 51)), some (vi x1), some (vi x2), some (vi x3), some (vi x4), some (vi x5), some (vi x6), none] [] σ (k56 x1 x2 x3 x4 x5 x6 σ)) (x1 x2 x3 x5 x6 x7 t0 : Int) (σ : St) : SW G l RX5 cX5_swap 8 rm_X5_swap wI 147 [some (.ref (ad G 51)), some (vi x1), some (vi x2), some (vi x3), none, some (vi x5), some (vi x6), some (vi x7)] [vi t0] σ (f_X5_swap_147 k38 k56 x1 x2 x3 x5 x6 x7 t0 σ) := by
  unfold f_X5_swap_147
  refine sw_istore (pc' := 149) (x := t0) (L' := [some (.ref (ad G 51)), some (vi x1), some (vi x2), some (vi x3), some (vi t0), some (vi x5), some (vi x6), some (vi x7)]) dX5_swap_147 rfl (by decide) rfl rfl ?_
  refine sw_iload (pc' := 151) dX5_swap_149 rfl rfl ?_
  refine sw_iload_n (pc' := 152) dX5_swap_151 rfl rfl ?_
  refine sw_icmp_le (tgt := 160) (pc' := 155) dX5_swap_152 (by decide) rfl (fun _ => ?_) (fun _ => ?_)
  · refine sw_iload (pc' := 157) dX5_swap_155 rfl rfl ?_
    refine sw_goto (pc' := 161) dX5_swap_157 (by decide) ?_
    refine sw_msk [true, true, true, false, true, true, true, false] rfl ?_
    exact s_X5_swap_161 k38 k56 hk38 hk56 x1 x2 t0 x5 x6 x7 σ
  · refine sw_iload_n (pc' := 161) dX5_swap_160 rfl rfl ?_
    refine sw_msk [true, true, true, false, true, true, true, false] rfl ?_
    exact s_X5_swap_161 k38 k56 hk38 hk56 x1 x2 t0 x5 x6 x3 σ
def f_X5_swap_56  (k38 : Int → Int → Int → Int → Int → St → Option (Int × St)) : Nat → Int → Int → Int → Int → Int → Int → St → Option (Int × St)
  | 0, _, _, _, _, _, _, _ => none
  | n + 1, x1, x2, x3, x4, x5, x6, σ =>
    bV (ld σ 52 330 52) fun v64 => if wr x6 < wr v64 then
      bV (f_X5_copies 0 275 σ) fun s73 => bV (ld s73 52 330 (36 + x6)) fun v95 => bV (sv s73 52 330 (311 + x5) v95) fun s96 => bV (ld s96 52 330 (36 + x5)) fun v116 => bV (sv s96 52 330 (311 + x6) v116) fun s117 => bI (f_X5_agreeBehind 275 x1 s117) fun v123 s123 => if wr x3 < wr v123 then
        f_X5_swap_147 k38 (f_X5_swap_56 k38 n) x1 x2 x3 x5 x6 v123 ((10 * x5) + x6) s123
      else
        f_X5_swap_147 k38 (f_X5_swap_56 k38 n) x1 x2 x3 x5 x6 v123 x4 s123
    else
      k38 x1 x2 x3 x4 (x5 + 1) σ
set_option maxRecDepth 20000 in
theorem s_X5_swap_56   (k38 : Int → Int → Int → Int → Int → St → Option (Int × St)) (hk38 : ∀ (x1 x2 x3 x4 x5 : Int) (σ : St), SW G l RX5 cX5_swap 8 rm_X5_swap wI 38 [some (.ref (ad G 51)), some (vi x1), some (vi x2), some (vi x3), some (vi x4), some (vi x5), none, none] [] σ (k38 x1 x2 x3 x4 x5 σ)) : ∀ (n : Nat) (x1 x2 x3 x4 x5 x6 : Int) (σ : St), SW G l RX5 cX5_swap 8 rm_X5_swap wI 56 [some (.ref (ad G 51)), some (vi x1), some (vi x2), some (vi x3), some (vi x4), some (vi x5), some (vi x6), none] [] σ (f_X5_swap_56 k38 n x1 x2 x3 x4 x5 x6 σ) := by
  intro n
  induction n with
  | zero => intro x1 x2 x3 x4 x5 x6 σ; exact sw_none
  | succ n ih =>
    intro x1 x2 x3 x4 x5 x6 σ
    rw [f_X5_swap_56]
    refine sw_iload (pc' := 58) dX5_swap_56 rfl rfl ?_
    refine sw_aload_n (pc' := 59) dX5_swap_58 rfl rfl ?_
    refine sw_getr (pc' := 62) dX5_swap_59 fl_X5_7 (tbk_51) rfl rfl ?_
    refine sw_bipush (pc' := 64) dX5_swap_62 rfl rfl ?_
    refine sw_iald (pc' := 65) dX5_swap_64 (tbk_52) rfl (fun v64 => ?_)
    refine sw_icmp_ge (tgt := 168) (pc' := 68) dX5_swap_65 (by decide) rfl (fun _ => ?_) (fun _ => ?_)
    · refine sw_aload_n (pc' := 69) dX5_swap_68 rfl rfl ?_
      refine sw_iconst (pc' := 70) dX5_swap_69 rfl ?_
      refine sw_sipush (pc' := 73) dX5_swap_70 rfl rfl ?_
      refine sw_callVV (pc' := 76) (As := [vi 0, vi 275]) (rest := []) dX5_swap_73 cv_X5_216 (tbk_51) (m_X5_copies 0 275 σ) rfl rfl rfl rfl rfl (fun s73 => ?_)
      refine sw_aload_n (pc' := 77) dX5_swap_76 rfl rfl ?_
      refine sw_getr (pc' := 80) dX5_swap_77 fl_X5_7 (tbk_51) rfl rfl ?_
      refine sw_sipush (pc' := 83) dX5_swap_80 rfl rfl ?_
      refine sw_iload (pc' := 85) dX5_swap_83 rfl rfl ?_
      refine sw_iadd (pc' := 86) dX5_swap_85 rfl ?_
      refine sw_aload_n (pc' := 87) dX5_swap_86 rfl rfl ?_
      refine sw_getr (pc' := 90) dX5_swap_87 fl_X5_7 (tbk_51) rfl rfl ?_
      refine sw_bipush (pc' := 92) dX5_swap_90 rfl rfl ?_
      refine sw_iload (pc' := 94) dX5_swap_92 rfl rfl ?_
      refine sw_iadd (pc' := 95) dX5_swap_94 rfl ?_
      refine sw_iald (pc' := 96) dX5_swap_95 (tbk_52) rfl (fun v95 => ?_)
      refine sw_iast (pc' := 97) dX5_swap_96 (tbk_52) rfl (fun s96 => ?_)
      refine sw_aload_n (pc' := 98) dX5_swap_97 rfl rfl ?_
      refine sw_getr (pc' := 101) dX5_swap_98 fl_X5_7 (tbk_51) rfl rfl ?_
      refine sw_sipush (pc' := 104) dX5_swap_101 rfl rfl ?_
      refine sw_iload (pc' := 106) dX5_swap_104 rfl rfl ?_
      refine sw_iadd (pc' := 107) dX5_swap_106 rfl ?_
      refine sw_aload_n (pc' := 108) dX5_swap_107 rfl rfl ?_
      refine sw_getr (pc' := 111) dX5_swap_108 fl_X5_7 (tbk_51) rfl rfl ?_
      refine sw_bipush (pc' := 113) dX5_swap_111 rfl rfl ?_
      refine sw_iload (pc' := 115) dX5_swap_113 rfl rfl ?_
      refine sw_iadd (pc' := 116) dX5_swap_115 rfl ?_
      refine sw_iald (pc' := 117) dX5_swap_116 (tbk_52) rfl (fun v116 => ?_)
      refine sw_iast (pc' := 118) dX5_swap_117 (tbk_52) rfl (fun s117 => ?_)
      refine sw_aload_n (pc' := 119) dX5_swap_118 rfl rfl ?_
      refine sw_sipush (pc' := 122) dX5_swap_119 rfl rfl ?_
      refine sw_iload_n (pc' := 123) dX5_swap_122 rfl rfl ?_
      refine sw_callVI (pc' := 126) (As := [vi 275, vi x1]) (rest := []) dX5_swap_123 cv_X5_234 (tbk_51) (m_X5_agreeBehind 275 x1 s117) rfl rfl rfl rfl rfl (fun v123 s123 => ?_)
      refine sw_istore (pc' := 128) (x := v123) (L' := [some (.ref (ad G 51)), some (vi x1), some (vi x2), some (vi x3), some (vi x4), some (vi x5), some (vi x6), some (vi v123)]) dX5_swap_126 rfl (by decide) rfl rfl ?_
      refine sw_iload (pc' := 130) dX5_swap_128 rfl rfl ?_
      refine sw_iload_n (pc' := 131) dX5_swap_130 rfl rfl ?_
      refine sw_icmp_le (tgt := 145) (pc' := 134) dX5_swap_131 (by decide) rfl (fun _ => ?_) (fun _ => ?_)
      · refine sw_bipush (pc' := 136) dX5_swap_134 rfl rfl ?_
        refine sw_iload (pc' := 138) dX5_swap_136 rfl rfl ?_
        refine sw_imul (pc' := 139) dX5_swap_138 rfl ?_
        refine sw_iload (pc' := 141) dX5_swap_139 rfl rfl ?_
        refine sw_iadd (pc' := 142) dX5_swap_141 rfl ?_
        refine sw_goto (pc' := 147) dX5_swap_142 (by decide) ?_
        refine sw_msk [true, true, true, true, false, true, true, true] rfl ?_
        exact s_X5_swap_147 k38 (f_X5_swap_56 k38 n) hk38 (ih) x1 x2 x3 x5 x6 v123 ((10 * x5) + x6) s123
      · refine sw_iload (pc' := 147) dX5_swap_145 rfl rfl ?_
        refine sw_msk [true, true, true, true, false, true, true, true] rfl ?_
        exact s_X5_swap_147 k38 (f_X5_swap_56 k38 n) hk38 (ih) x1 x2 x3 x5 x6 v123 x4 s123
    · refine sw_iinc (pc' := 171) (x := x5) (L' := [some (.ref (ad G 51)), some (vi x1), some (vi x2), some (vi x3), some (vi x4), some (vi (x5 + 1)), some (vi x6), none]) dX5_swap_168 rfl (by decide) rfl rfl rfl ?_
      refine sw_goto (pc' := 38) dX5_swap_171 (by decide) ?_
      refine sw_msk [true, true, true, true, true, true, false, false] rfl ?_
      exact hk38 x1 x2 x3 x4 (x5 + 1) σ
def f_X5_swap_185   (x4 : Int) (σ : St) : Option (Int × St) :=
  some (x4, σ)
set_option maxRecDepth 20000 in
theorem s_X5_swap_185     (x4 : Int) (σ : St) : SW G l RX5 cX5_swap 8 rm_X5_swap wI 185 [none, none, none, none, some (vi x4), none, none, none] [] σ (f_X5_swap_185 x4 σ) := by
  unfold f_X5_swap_185
  refine sw_iload (pc' := 187) dX5_swap_185 rfl rfl ?_
  refine sw_goto (pc' := 191) dX5_swap_187 (by decide) ?_
  exact sw_iret dX5_swap_191
def f_X5_swap_38   : Nat → Int → Int → Int → Int → Int → St → Option (Int × St)
  | 0, _, _, _, _, _, _ => none
  | n + 1, x1, x2, x3, x4, x5, σ =>
    bV (ld σ 52 330 52) fun v46 => if wr x5 < wr v46 then
      f_X5_swap_56 (f_X5_swap_38 n) FU x1 x2 x3 x4 x5 (x5 + 1) σ
    else
      if wr x4 = wr (-4) then
        f_X5_swap_185 x4 σ
      else
        if wr x2 = 0 then
          f_X5_swap_185 x4 σ
        else
          some (x3, σ)
set_option maxRecDepth 20000 in
theorem s_X5_swap_38     : ∀ (n : Nat) (x1 x2 x3 x4 x5 : Int) (σ : St), SW G l RX5 cX5_swap 8 rm_X5_swap wI 38 [some (.ref (ad G 51)), some (vi x1), some (vi x2), some (vi x3), some (vi x4), some (vi x5), none, none] [] σ (f_X5_swap_38 n x1 x2 x3 x4 x5 σ) := by
  intro n
  induction n with
  | zero => intro x1 x2 x3 x4 x5 σ; exact sw_none
  | succ n ih =>
    intro x1 x2 x3 x4 x5 σ
    rw [f_X5_swap_38]
    refine sw_iload (pc' := 40) dX5_swap_38 rfl rfl ?_
    refine sw_aload_n (pc' := 41) dX5_swap_40 rfl rfl ?_
    refine sw_getr (pc' := 44) dX5_swap_41 fl_X5_7 (tbk_51) rfl rfl ?_
    refine sw_bipush (pc' := 46) dX5_swap_44 rfl rfl ?_
    refine sw_iald (pc' := 47) dX5_swap_46 (tbk_52) rfl (fun v46 => ?_)
    refine sw_icmp_ge (tgt := 174) (pc' := 50) dX5_swap_47 (by decide) rfl (fun _ => ?_) (fun _ => ?_)
    · refine sw_iload (pc' := 52) dX5_swap_50 rfl rfl ?_
      refine sw_iconst (pc' := 53) dX5_swap_52 rfl ?_
      refine sw_iadd (pc' := 54) dX5_swap_53 rfl ?_
      refine sw_istore (pc' := 56) (x := (x5 + 1)) (L' := [some (.ref (ad G 51)), some (vi x1), some (vi x2), some (vi x3), some (vi x4), some (vi x5), some (vi (x5 + 1)), none]) dX5_swap_54 rfl (by decide) rfl rfl ?_
      exact s_X5_swap_56 (f_X5_swap_38 n) (ih) FU x1 x2 x3 x4 x5 (x5 + 1) σ
    · refine sw_iload (pc' := 176) dX5_swap_174 rfl rfl ?_
      refine sw_bipush (pc' := 178) dX5_swap_176 rfl rfl ?_
      refine sw_icmp_eq (tgt := 185) (pc' := 181) dX5_swap_178 (by decide) rfl (fun _ => ?_) (fun _ => ?_)
      · refine sw_msk [false, false, false, false, true, false, false, false] rfl ?_
        exact s_X5_swap_185 x4 σ
      · refine sw_iload_n (pc' := 182) dX5_swap_181 rfl rfl ?_
        refine sw_if_ne (tgt := 190) (pc' := 185) dX5_swap_182 (by decide) rfl (fun _ => ?_) (fun _ => ?_)
        · refine sw_msk [false, false, false, false, true, false, false, false] rfl ?_
          exact s_X5_swap_185 x4 σ
        · refine sw_iload_n (pc' := 191) dX5_swap_190 rfl rfl ?_
          exact sw_iret dX5_swap_191
def f_X5_swap (x1 : Int) (x2 : Int) (σ : St) : Option (Int × St) :=
  bI (f_X5_in (wr x1) 0 60 σ) fun v6 s6 => if v6 then
    bI (f_X5_in (wr x2) 0 1 s6) fun v16 s16 => if v16 then
      bI (f_X5_agreeBehind 0 x1 s16) fun v27 s27 => f_X5_swap_38 FU x1 x2 v27 (-4) 0 s27
    else
      some ((-1), s16)
  else
    some ((-1), s6)
set_option maxRecDepth 20000 in
theorem m_X5_swap (x1 : Int) (x2 : Int)  (σ : St) : MT G l yX5_swap cX5_swap 8 (some .int) rm_X5_swap [.ref (ad G 51), vi x1, vi x2] wI σ (f_X5_swap x1 x2 σ) := by
  refine mt_I (L := [some (.ref (ad G 51)), some (vi x1), some (vi x2), none, none, none, none, none]) rfl (Nat.le_of_ble_eq_true rfl) rfl ?_
  show SW G l RX5 cX5_swap 8 rm_X5_swap wI 0 [some (.ref (ad G 51)), some (vi x1), some (vi x2), none, none, none, none, none] [] σ (f_X5_swap x1 x2 σ)
  unfold f_X5_swap
  refine sw_iload_n (pc' := 1) dX5_swap_0 rfl rfl ?_
  refine sw_i2l (pc' := 2) dX5_swap_1 rfl ?_
  refine sw_lconst (x := 0) (pc' := 3) dX5_swap_2 rfl rfl ?_
  refine sw_ldc2 (n := 60) (pc' := 6) dX5_swap_3 kl_X5_226 rfl ?_
  refine sw_callSB (pc' := 9) (As := [vl (wr x1), vl 0, vl 60]) (rest := []) dX5_swap_6 cs_X5_46 (m_X5_in (wr x1) 0 60 σ) rfl rfl rfl rfl rfl (fun v6 s6 => ?_)
  refine sw_bif_eq (tgt := 22) (pc' := 12) dX5_swap_9 (by decide) rfl (fun _ => ?_) (fun _ => ?_)
  · refine sw_iload_n (pc' := 13) dX5_swap_12 rfl rfl ?_
    refine sw_i2l (pc' := 14) dX5_swap_13 rfl ?_
    refine sw_lconst (x := 0) (pc' := 15) dX5_swap_14 rfl rfl ?_
    refine sw_lconst (x := 1) (pc' := 16) dX5_swap_15 rfl rfl ?_
    refine sw_callSB (pc' := 19) (As := [vl (wr x2), vl 0, vl 1]) (rest := []) dX5_swap_16 cs_X5_46 (m_X5_in (wr x2) 0 1 s6) rfl rfl rfl rfl rfl (fun v16 s16 => ?_)
    refine sw_bif_ne (tgt := 24) (pc' := 22) dX5_swap_19 (by decide) rfl (fun _ => ?_) (fun _ => ?_)
    · refine sw_aload_n (pc' := 25) dX5_swap_24 rfl rfl ?_
      refine sw_iconst (pc' := 26) dX5_swap_25 rfl ?_
      refine sw_iload_n (pc' := 27) dX5_swap_26 rfl rfl ?_
      refine sw_callVI (pc' := 30) (As := [vi 0, vi x1]) (rest := []) dX5_swap_27 cv_X5_234 (tbk_51) (m_X5_agreeBehind 0 x1 s16) rfl rfl rfl rfl rfl (fun v27 s27 => ?_)
      refine sw_istore_n (pc' := 31) (x := v27) (L' := [some (.ref (ad G 51)), some (vi x1), some (vi x2), some (vi v27), none, none, none, none]) dX5_swap_30 rfl (by decide) rfl rfl ?_
      refine sw_bipush (pc' := 33) dX5_swap_31 rfl rfl ?_
      refine sw_istore (pc' := 35) (x := (-4)) (L' := [some (.ref (ad G 51)), some (vi x1), some (vi x2), some (vi v27), some (vi (-4)), none, none, none]) dX5_swap_33 rfl (by decide) rfl rfl ?_
      refine sw_iconst (pc' := 36) dX5_swap_35 rfl ?_
      refine sw_istore (pc' := 38) (x := 0) (L' := [some (.ref (ad G 51)), some (vi x1), some (vi x2), some (vi v27), some (vi (-4)), some (vi 0), none, none]) dX5_swap_36 rfl (by decide) rfl rfl ?_
      exact s_X5_swap_38 FU x1 x2 v27 (-4) 0 s27
    · refine sw_iconst (pc' := 23) dX5_swap_22 rfl ?_
      exact sw_iret dX5_swap_23
  · refine sw_iconst (pc' := 23) dX5_swap_22 rfl ?_
    exact sw_iret dX5_swap_23
def rm_X5_gain : Room := { frames := 2, cells := 0, slots := 0, locals := 54 }
def f_X5_gain_43   : Nat → Int → Int → Int → Int → Int → St → Option (Int × St)
  | 0, _, _, _, _, _, _ => none
  | n + 1, x1, x2, x3, x4, x5, σ =>
    if wr 9 < wr x5 then
      some ((-4), σ)
    else
      bV (sv σ 52 330 (291 + x1) (x5 - 1)) fun s63 => bI (f_X5_believedOn 275 x2 x4 s63) fun v71 s71 => if wr v71 = wr x3 then
        some (x5, s71)
      else
        (f_X5_gain_43 n) x1 x2 x3 x4 (x5 + 1) s71
set_option maxRecDepth 20000 in
theorem s_X5_gain_43     : ∀ (n : Nat) (x1 x2 x3 x4 x5 : Int) (σ : St), SW G l RX5 cX5_gain 6 rm_X5_gain wI 43 [some (.ref (ad G 51)), some (vi x1), some (vi x2), some (vi x3), some (vi x4), some (vi x5)] [] σ (f_X5_gain_43 n x1 x2 x3 x4 x5 σ) := by
  intro n
  induction n with
  | zero => intro x1 x2 x3 x4 x5 σ; exact sw_none
  | succ n ih =>
    intro x1 x2 x3 x4 x5 σ
    rw [f_X5_gain_43]
    refine sw_iload (pc' := 45) dX5_gain_43 rfl rfl ?_
    refine sw_bipush (pc' := 47) dX5_gain_45 rfl rfl ?_
    refine sw_icmp_gt (tgt := 87) (pc' := 50) dX5_gain_47 (by decide) rfl (fun _ => ?_) (fun _ => ?_)
    · refine sw_bipush (pc' := 89) dX5_gain_87 rfl rfl ?_
      exact sw_iret dX5_gain_89
    · refine sw_aload_n (pc' := 51) dX5_gain_50 rfl rfl ?_
      refine sw_getr (pc' := 54) dX5_gain_51 fl_X5_7 (tbk_51) rfl rfl ?_
      refine sw_sipush (pc' := 57) dX5_gain_54 rfl rfl ?_
      refine sw_iload_n (pc' := 58) dX5_gain_57 rfl rfl ?_
      refine sw_iadd (pc' := 59) dX5_gain_58 rfl ?_
      refine sw_iload (pc' := 61) dX5_gain_59 rfl rfl ?_
      refine sw_iconst (pc' := 62) dX5_gain_61 rfl ?_
      refine sw_isub (pc' := 63) dX5_gain_62 rfl ?_
      refine sw_iast (pc' := 64) dX5_gain_63 (tbk_52) rfl (fun s63 => ?_)
      refine sw_aload_n (pc' := 65) dX5_gain_64 rfl rfl ?_
      refine sw_sipush (pc' := 68) dX5_gain_65 rfl rfl ?_
      refine sw_iload_n (pc' := 69) dX5_gain_68 rfl rfl ?_
      refine sw_iload (pc' := 71) dX5_gain_69 rfl rfl ?_
      refine sw_callVI (pc' := 74) (As := [vi 275, vi x2, vi x4]) (rest := []) dX5_gain_71 cv_X5_156 (tbk_51) (m_X5_believedOn 275 x2 x4 s63) rfl rfl rfl rfl rfl (fun v71 s71 => ?_)
      refine sw_iload_n (pc' := 75) dX5_gain_74 rfl rfl ?_
      refine sw_icmp_ne (tgt := 81) (pc' := 78) dX5_gain_75 (by decide) rfl (fun _ => ?_) (fun _ => ?_)
      · refine sw_iload (pc' := 80) dX5_gain_78 rfl rfl ?_
        exact sw_iret dX5_gain_80
      · refine sw_iinc (pc' := 84) (x := x5) (L' := [some (.ref (ad G 51)), some (vi x1), some (vi x2), some (vi x3), some (vi x4), some (vi (x5 + 1))]) dX5_gain_81 rfl (by decide) rfl rfl rfl ?_
        refine sw_goto (pc' := 43) dX5_gain_84 (by decide) ?_
        exact (ih) x1 x2 x3 x4 (x5 + 1) s71
def f_X5_gain (x1 : Int) (x2 : Int) (x3 : Int) (x4 : Int) (σ : St) : Option (Int × St) :=
  bI (f_X5_isReporter x1 σ) fun v1 s1 => if v1 then
    bI (f_X5_isRider x2 s1) fun v9 s9 => if v9 then
      bI (f_X5_isEnd x3 s9) fun v16 s16 => if v16 then
        bI (f_X5_isDay x4 s16) fun v24 s24 => if v24 then
          bV (f_X5_copies 0 275 s24) fun s37 => f_X5_gain_43 FU x1 x2 x3 x4 0 s37
        else
          some ((-1), s24)
      else
        some ((-1), s16)
    else
      some ((-1), s9)
  else
    some ((-1), s1)
set_option maxRecDepth 20000 in
theorem m_X5_gain (x1 : Int) (x2 : Int) (x3 : Int) (x4 : Int)  (σ : St) : MT G l yX5_gain cX5_gain 6 (some .int) rm_X5_gain [.ref (ad G 51), vi x1, vi x2, vi x3, vi x4] wI σ (f_X5_gain x1 x2 x3 x4 σ) := by
  refine mt_I (L := [some (.ref (ad G 51)), some (vi x1), some (vi x2), some (vi x3), some (vi x4), none]) rfl (Nat.le_of_ble_eq_true rfl) rfl ?_
  show SW G l RX5 cX5_gain 6 rm_X5_gain wI 0 [some (.ref (ad G 51)), some (vi x1), some (vi x2), some (vi x3), some (vi x4), none] [] σ (f_X5_gain x1 x2 x3 x4 σ)
  unfold f_X5_gain
  refine sw_iload_n (pc' := 1) dX5_gain_0 rfl rfl ?_
  refine sw_callSB (pc' := 4) (As := [vi x1]) (rest := []) dX5_gain_1 cs_X5_191 (m_X5_isReporter x1 σ) rfl rfl rfl rfl rfl (fun v1 s1 => ?_)
  refine sw_bif_eq (tgt := 30) (pc' := 7) dX5_gain_4 (by decide) rfl (fun _ => ?_) (fun _ => ?_)
  · refine sw_aload_n (pc' := 8) dX5_gain_7 rfl rfl ?_
    refine sw_iload_n (pc' := 9) dX5_gain_8 rfl rfl ?_
    refine sw_callVB (pc' := 12) (As := [vi x2]) (rest := []) dX5_gain_9 cv_X5_182 (tbk_51) (m_X5_isRider x2 s1) rfl rfl rfl rfl rfl (fun v9 s9 => ?_)
    refine sw_bif_eq (tgt := 30) (pc' := 15) dX5_gain_12 (by decide) rfl (fun _ => ?_) (fun _ => ?_)
    · refine sw_iload_n (pc' := 16) dX5_gain_15 rfl rfl ?_
      refine sw_callSB (pc' := 19) (As := [vi x3]) (rest := []) dX5_gain_16 cs_X5_194 (m_X5_isEnd x3 s9) rfl rfl rfl rfl rfl (fun v16 s16 => ?_)
      refine sw_bif_eq (tgt := 30) (pc' := 22) dX5_gain_19 (by decide) rfl (fun _ => ?_) (fun _ => ?_)
      · refine sw_iload (pc' := 24) dX5_gain_22 rfl rfl ?_
        refine sw_callSB (pc' := 27) (As := [vi x4]) (rest := []) dX5_gain_24 cs_X5_197 (m_X5_isDay x4 s16) rfl rfl rfl rfl rfl (fun v24 s24 => ?_)
        refine sw_bif_ne (tgt := 32) (pc' := 30) dX5_gain_27 (by decide) rfl (fun _ => ?_) (fun _ => ?_)
        · refine sw_aload_n (pc' := 33) dX5_gain_32 rfl rfl ?_
          refine sw_iconst (pc' := 34) dX5_gain_33 rfl ?_
          refine sw_sipush (pc' := 37) dX5_gain_34 rfl rfl ?_
          refine sw_callVV (pc' := 40) (As := [vi 0, vi 275]) (rest := []) dX5_gain_37 cv_X5_216 (tbk_51) (m_X5_copies 0 275 s24) rfl rfl rfl rfl rfl (fun s37 => ?_)
          refine sw_iconst (pc' := 41) dX5_gain_40 rfl ?_
          refine sw_istore (pc' := 43) (x := 0) (L' := [some (.ref (ad G 51)), some (vi x1), some (vi x2), some (vi x3), some (vi x4), some (vi 0)]) dX5_gain_41 rfl (by decide) rfl rfl ?_
          exact s_X5_gain_43 FU x1 x2 x3 x4 0 s37
        · refine sw_iconst (pc' := 31) dX5_gain_30 rfl ?_
          exact sw_iret dX5_gain_31
      · refine sw_iconst (pc' := 31) dX5_gain_30 rfl ?_
        exact sw_iret dX5_gain_31
    · refine sw_iconst (pc' := 31) dX5_gain_30 rfl ?_
      exact sw_iret dX5_gain_31
  · refine sw_iconst (pc' := 31) dX5_gain_30 rfl ?_
    exact sw_iret dX5_gain_31
def rm_X5_kind : Room := { frames := 6, cells := 0, slots := 0, locals := 139 }
def f_X5_kind_108  (k42 : Int → Int → Int → Int → Int → Int → St → Option (Int × St)) (x1 x2 x3 x5 x6 t0 : Int) (σ : St) : Option (Int × St) :=
  k42 x1 x2 x3 t0 x5 (x6 + 1) σ
set_option maxRecDepth 20000 in
theorem s_X5_kind_108   (k42 : Int → Int → Int → Int → Int → Int → St → Option (Int × St)) (hk42 : ∀ (x1 x2 x3 x4 x5 x6 : Int) (σ : St), SW G l RX5 cX5_kind 8 rm_X5_kind wI 42 [some (.ref (ad G 51)), some (vi x1), some (vi x2), some (vi x3), some (vi x4), some (vi x5), some (vi x6), none] [] σ (k42 x1 x2 x3 x4 x5 x6 σ)) (x1 x2 x3 x5 x6 t0 : Int) (σ : St) : SW G l RX5 cX5_kind 8 rm_X5_kind wI 108 [some (.ref (ad G 51)), some (vi x1), some (vi x2), some (vi x3), none, some (vi x5), some (vi x6), none] [vi t0] σ (f_X5_kind_108 k42 x1 x2 x3 x5 x6 t0 σ) := by
  unfold f_X5_kind_108
  refine sw_istore (pc' := 110) (x := t0) (L' := [some (.ref (ad G 51)), some (vi x1), some (vi x2), some (vi x3), some (vi t0), some (vi x5), some (vi x6), none]) dX5_kind_108 rfl (by decide) rfl rfl ?_
  refine sw_iinc (pc' := 113) (x := x6) (L' := [some (.ref (ad G 51)), some (vi x1), some (vi x2), some (vi x3), some (vi t0), some (vi x5), some (vi (x6 + 1)), none]) dX5_kind_110 rfl (by decide) rfl rfl rfl ?_
  refine sw_goto (pc' := 42) dX5_kind_113 (by decide) ?_
  exact hk42 x1 x2 x3 t0 x5 (x6 + 1) σ
def f_X5_kind_92  (k42 : Int → Int → Int → Int → Int → Int → St → Option (Int × St)) (x1 x2 x3 x4 x6 x7 t0 : Int) (σ : St) : Option (Int × St) :=
  if wr x7 < wr x4 then
    f_X5_kind_108 k42 x1 x2 x3 t0 x6 x7 σ
  else
    f_X5_kind_108 k42 x1 x2 x3 t0 x6 x4 σ
set_option maxRecDepth 20000 in
theorem s_X5_kind_92   (k42 : Int → Int → Int → Int → Int → Int → St → Option (Int × St)) (hk42 : ∀ (x1 x2 x3 x4 x5 x6 : Int) (σ : St), SW G l RX5 cX5_kind 8 rm_X5_kind wI 42 [some (.ref (ad G 51)), some (vi x1), some (vi x2), some (vi x3), some (vi x4), some (vi x5), some (vi x6), none] [] σ (k42 x1 x2 x3 x4 x5 x6 σ)) (x1 x2 x3 x4 x6 x7 t0 : Int) (σ : St) : SW G l RX5 cX5_kind 8 rm_X5_kind wI 92 [some (.ref (ad G 51)), some (vi x1), some (vi x2), some (vi x3), some (vi x4), none, some (vi x6), some (vi x7)] [vi t0] σ (f_X5_kind_92 k42 x1 x2 x3 x4 x6 x7 t0 σ) := by
  unfold f_X5_kind_92
  refine sw_istore (pc' := 94) (x := t0) (L' := [some (.ref (ad G 51)), some (vi x1), some (vi x2), some (vi x3), some (vi x4), some (vi t0), some (vi x6), some (vi x7)]) dX5_kind_92 rfl (by decide) rfl rfl ?_
  refine sw_iload (pc' := 96) dX5_kind_94 rfl rfl ?_
  refine sw_iload (pc' := 98) dX5_kind_96 rfl rfl ?_
  refine sw_icmp_ge (tgt := 106) (pc' := 101) dX5_kind_98 (by decide) rfl (fun _ => ?_) (fun _ => ?_)
  · refine sw_iload (pc' := 103) dX5_kind_101 rfl rfl ?_
    refine sw_goto (pc' := 108) dX5_kind_103 (by decide) ?_
    refine sw_msk [true, true, true, true, false, true, true, false] rfl ?_
    exact s_X5_kind_108 k42 hk42 x1 x2 x3 t0 x6 x7 σ
  · refine sw_iload (pc' := 108) dX5_kind_106 rfl rfl ?_
    refine sw_msk [true, true, true, true, false, true, true, false] rfl ?_
    exact s_X5_kind_108 k42 hk42 x1 x2 x3 t0 x6 x4 σ
def f_X5_kind_42   : Nat → Int → Int → Int → Int → Int → Int → St → Option (Int × St)
  | 0, _, _, _, _, _, _, _ => none
  | n + 1, x1, x2, x3, x4, x5, x6, σ =>
    if wr x6 < wr 4 then
      bV (f_X5_copies 0 275 σ) fun s53 => bV (sv s53 52 330 (275 + x1) x6) fun s67 => bI (f_X5_daysGo 275 x2 s67) fun v73 s73 => if wr v73 < wr x4 then
        f_X5_kind_92 (f_X5_kind_42 n) x1 x2 x3 x4 x6 v73 x6 s73
      else
        f_X5_kind_92 (f_X5_kind_42 n) x1 x2 x3 x4 x6 v73 x5 s73
    else
      if wr x3 = 0 then
        some (x5, σ)
      else
        some (x4, σ)
set_option maxRecDepth 20000 in
theorem s_X5_kind_42     : ∀ (n : Nat) (x1 x2 x3 x4 x5 x6 : Int) (σ : St), SW G l RX5 cX5_kind 8 rm_X5_kind wI 42 [some (.ref (ad G 51)), some (vi x1), some (vi x2), some (vi x3), some (vi x4), some (vi x5), some (vi x6), none] [] σ (f_X5_kind_42 n x1 x2 x3 x4 x5 x6 σ) := by
  intro n
  induction n with
  | zero => intro x1 x2 x3 x4 x5 x6 σ; exact sw_none
  | succ n ih =>
    intro x1 x2 x3 x4 x5 x6 σ
    rw [f_X5_kind_42]
    refine sw_iload (pc' := 44) dX5_kind_42 rfl rfl ?_
    refine sw_iconst (pc' := 45) dX5_kind_44 rfl ?_
    refine sw_icmp_ge (tgt := 116) (pc' := 48) dX5_kind_45 (by decide) rfl (fun _ => ?_) (fun _ => ?_)
    · refine sw_aload_n (pc' := 49) dX5_kind_48 rfl rfl ?_
      refine sw_iconst (pc' := 50) dX5_kind_49 rfl ?_
      refine sw_sipush (pc' := 53) dX5_kind_50 rfl rfl ?_
      refine sw_callVV (pc' := 56) (As := [vi 0, vi 275]) (rest := []) dX5_kind_53 cv_X5_216 (tbk_51) (m_X5_copies 0 275 σ) rfl rfl rfl rfl rfl (fun s53 => ?_)
      refine sw_aload_n (pc' := 57) dX5_kind_56 rfl rfl ?_
      refine sw_getr (pc' := 60) dX5_kind_57 fl_X5_7 (tbk_51) rfl rfl ?_
      refine sw_sipush (pc' := 63) dX5_kind_60 rfl rfl ?_
      refine sw_iload_n (pc' := 64) dX5_kind_63 rfl rfl ?_
      refine sw_iadd (pc' := 65) dX5_kind_64 rfl ?_
      refine sw_iload (pc' := 67) dX5_kind_65 rfl rfl ?_
      refine sw_iast (pc' := 68) dX5_kind_67 (tbk_52) rfl (fun s67 => ?_)
      refine sw_aload_n (pc' := 69) dX5_kind_68 rfl rfl ?_
      refine sw_sipush (pc' := 72) dX5_kind_69 rfl rfl ?_
      refine sw_iload_n (pc' := 73) dX5_kind_72 rfl rfl ?_
      refine sw_callVI (pc' := 76) (As := [vi 275, vi x2]) (rest := []) dX5_kind_73 cv_X5_228 (tbk_51) (m_X5_daysGo 275 x2 s67) rfl rfl rfl rfl rfl (fun v73 s73 => ?_)
      refine sw_istore (pc' := 78) (x := v73) (L' := [some (.ref (ad G 51)), some (vi x1), some (vi x2), some (vi x3), some (vi x4), some (vi x5), some (vi x6), some (vi v73)]) dX5_kind_76 rfl (by decide) rfl rfl ?_
      refine sw_iload (pc' := 80) dX5_kind_78 rfl rfl ?_
      refine sw_iload (pc' := 82) dX5_kind_80 rfl rfl ?_
      refine sw_icmp_ge (tgt := 90) (pc' := 85) dX5_kind_82 (by decide) rfl (fun _ => ?_) (fun _ => ?_)
      · refine sw_iload (pc' := 87) dX5_kind_85 rfl rfl ?_
        refine sw_goto (pc' := 92) dX5_kind_87 (by decide) ?_
        refine sw_msk [true, true, true, true, true, false, true, true] rfl ?_
        exact s_X5_kind_92 (f_X5_kind_42 n) (ih) x1 x2 x3 x4 x6 v73 x6 s73
      · refine sw_iload (pc' := 92) dX5_kind_90 rfl rfl ?_
        refine sw_msk [true, true, true, true, true, false, true, true] rfl ?_
        exact s_X5_kind_92 (f_X5_kind_42 n) (ih) x1 x2 x3 x4 x6 v73 x5 s73
    · refine sw_iload_n (pc' := 117) dX5_kind_116 rfl rfl ?_
      refine sw_if_ne (tgt := 125) (pc' := 120) dX5_kind_117 (by decide) rfl (fun _ => ?_) (fun _ => ?_)
      · refine sw_iload (pc' := 122) dX5_kind_120 rfl rfl ?_
        refine sw_goto (pc' := 127) dX5_kind_122 (by decide) ?_
        exact sw_iret dX5_kind_127
      · refine sw_iload (pc' := 127) dX5_kind_125 rfl rfl ?_
        exact sw_iret dX5_kind_127
def f_X5_kind (x1 : Int) (x2 : Int) (x3 : Int) (σ : St) : Option (Int × St) :=
  bI (f_X5_isRider x1 σ) fun v2 s2 => if v2 then
    bI (f_X5_in (wr x2) 0 60 s2) fun v14 s14 => if v14 then
      bI (f_X5_in (wr x3) 0 1 s14) fun v24 s24 => if v24 then
        f_X5_kind_42 FU x1 x2 x3 1000000 0 0 s24
      else
        some ((-1), s24)
    else
      some ((-1), s14)
  else
    some ((-1), s2)
set_option maxRecDepth 20000 in
theorem m_X5_kind (x1 : Int) (x2 : Int) (x3 : Int)  (σ : St) : MT G l yX5_kind cX5_kind 8 (some .int) rm_X5_kind [.ref (ad G 51), vi x1, vi x2, vi x3] wI σ (f_X5_kind x1 x2 x3 σ) := by
  refine mt_I (L := [some (.ref (ad G 51)), some (vi x1), some (vi x2), some (vi x3), none, none, none, none]) rfl (Nat.le_of_ble_eq_true rfl) rfl ?_
  show SW G l RX5 cX5_kind 8 rm_X5_kind wI 0 [some (.ref (ad G 51)), some (vi x1), some (vi x2), some (vi x3), none, none, none, none] [] σ (f_X5_kind x1 x2 x3 σ)
  unfold f_X5_kind
  refine sw_aload_n (pc' := 1) dX5_kind_0 rfl rfl ?_
  refine sw_iload_n (pc' := 2) dX5_kind_1 rfl rfl ?_
  refine sw_callVB (pc' := 5) (As := [vi x1]) (rest := []) dX5_kind_2 cv_X5_182 (tbk_51) (m_X5_isRider x1 σ) rfl rfl rfl rfl rfl (fun v2 s2 => ?_)
  refine sw_bif_eq (tgt := 30) (pc' := 8) dX5_kind_5 (by decide) rfl (fun _ => ?_) (fun _ => ?_)
  · refine sw_iload_n (pc' := 9) dX5_kind_8 rfl rfl ?_
    refine sw_i2l (pc' := 10) dX5_kind_9 rfl ?_
    refine sw_lconst (x := 0) (pc' := 11) dX5_kind_10 rfl rfl ?_
    refine sw_ldc2 (n := 60) (pc' := 14) dX5_kind_11 kl_X5_226 rfl ?_
    refine sw_callSB (pc' := 17) (As := [vl (wr x2), vl 0, vl 60]) (rest := []) dX5_kind_14 cs_X5_46 (m_X5_in (wr x2) 0 60 s2) rfl rfl rfl rfl rfl (fun v14 s14 => ?_)
    refine sw_bif_eq (tgt := 30) (pc' := 20) dX5_kind_17 (by decide) rfl (fun _ => ?_) (fun _ => ?_)
    · refine sw_iload_n (pc' := 21) dX5_kind_20 rfl rfl ?_
      refine sw_i2l (pc' := 22) dX5_kind_21 rfl ?_
      refine sw_lconst (x := 0) (pc' := 23) dX5_kind_22 rfl rfl ?_
      refine sw_lconst (x := 1) (pc' := 24) dX5_kind_23 rfl rfl ?_
      refine sw_callSB (pc' := 27) (As := [vl (wr x3), vl 0, vl 1]) (rest := []) dX5_kind_24 cs_X5_46 (m_X5_in (wr x3) 0 1 s14) rfl rfl rfl rfl rfl (fun v24 s24 => ?_)
      refine sw_bif_ne (tgt := 32) (pc' := 30) dX5_kind_27 (by decide) rfl (fun _ => ?_) (fun _ => ?_)
      · refine sw_ldc (n := 1000000) (pc' := 34) dX5_kind_32 kc_X5_237 rfl ?_
        refine sw_istore (pc' := 36) (x := 1000000) (L' := [some (.ref (ad G 51)), some (vi x1), some (vi x2), some (vi x3), some (vi 1000000), none, none, none]) dX5_kind_34 rfl (by decide) rfl rfl ?_
        refine sw_iconst (pc' := 37) dX5_kind_36 rfl ?_
        refine sw_istore (pc' := 39) (x := 0) (L' := [some (.ref (ad G 51)), some (vi x1), some (vi x2), some (vi x3), some (vi 1000000), some (vi 0), none, none]) dX5_kind_37 rfl (by decide) rfl rfl ?_
        refine sw_iconst (pc' := 40) dX5_kind_39 rfl ?_
        refine sw_istore (pc' := 42) (x := 0) (L' := [some (.ref (ad G 51)), some (vi x1), some (vi x2), some (vi x3), some (vi 1000000), some (vi 0), some (vi 0), none]) dX5_kind_40 rfl (by decide) rfl rfl ?_
        exact s_X5_kind_42 FU x1 x2 x3 1000000 0 0 s24
      · refine sw_iconst (pc' := 31) dX5_kind_30 rfl ?_
        exact sw_iret dX5_kind_31
    · refine sw_iconst (pc' := 31) dX5_kind_30 rfl ?_
      exact sw_iret dX5_kind_31
  · refine sw_iconst (pc' := 31) dX5_kind_30 rfl ?_
    exact sw_iret dX5_kind_31
def rm_X5_lowest : Room := { frames := 0, cells := 0, slots := 0, locals := 0 }
def f_X5_lowest_6   : Nat → Int → Int → Int → Int → Int → St → Option (Int × St)
  | 0, _, _, _, _, _, _ => none
  | n + 1, x0, x2, x4, x5, x7, σ =>
    if wr (lcm x7 0) = 0 then
      if wr x4 = 0 then
        bV (ldv x0 x5) fun v43 => some (v43, σ)
      else
        bV (ldv x2 x5) fun v43 => some (v43, σ)
    else
      bV (lrm x5 x7) fun v17 => (f_X5_lowest_6 n) x0 x2 x4 x7 v17 σ
set_option maxRecDepth 20000 in
theorem s_X5_lowest_6     : ∀ (n : Nat) (x0 x2 x4 x5 x7 : Int) (σ : St), SW G l RX5 cX5_lowest 11 rm_X5_lowest wL 6 [some (vl x0), none, some (vl x2), none, some (vi x4), some (vl x5), none, some (vl x7), none, none, none] [] σ (f_X5_lowest_6 n x0 x2 x4 x5 x7 σ) := by
  intro n
  induction n with
  | zero => intro x0 x2 x4 x5 x7 σ; exact sw_none
  | succ n ih =>
    intro x0 x2 x4 x5 x7 σ
    rw [f_X5_lowest_6]
    refine sw_lload (pc' := 8) dX5_lowest_6 rfl rfl ?_
    refine sw_lconst (x := 0) (pc' := 9) dX5_lowest_8 rfl rfl ?_
    refine sw_lcmp (pc' := 10) dX5_lowest_9 rfl ?_
    refine sw_if_eq (tgt := 31) (pc' := 13) dX5_lowest_10 (by decide) rfl (fun _ => ?_) (fun _ => ?_)
    · refine sw_iload (pc' := 33) dX5_lowest_31 rfl rfl ?_
      refine sw_if_ne (tgt := 40) (pc' := 36) dX5_lowest_33 (by decide) rfl (fun _ => ?_) (fun _ => ?_)
      · refine sw_lload_n (pc' := 37) dX5_lowest_36 rfl rfl ?_
        refine sw_goto (pc' := 41) dX5_lowest_37 (by decide) ?_
        refine sw_lload (pc' := 43) dX5_lowest_41 rfl rfl ?_
        refine sw_ldiv (pc' := 44) dX5_lowest_43 rfl (fun v43 => ?_)
        exact sw_lret dX5_lowest_44
      · refine sw_lload_n (pc' := 41) dX5_lowest_40 rfl rfl ?_
        refine sw_lload (pc' := 43) dX5_lowest_41 rfl rfl ?_
        refine sw_ldiv (pc' := 44) dX5_lowest_43 rfl (fun v43 => ?_)
        exact sw_lret dX5_lowest_44
    · refine sw_lload (pc' := 15) dX5_lowest_13 rfl rfl ?_
      refine sw_lload (pc' := 17) dX5_lowest_15 rfl rfl ?_
      refine sw_lrem (pc' := 18) dX5_lowest_17 rfl (fun v17 => ?_)
      refine sw_lstore (pc' := 20) (x := v17) (L' := [some (vl x0), none, some (vl x2), none, some (vi x4), some (vl x5), none, some (vl x7), none, some (vl v17), none]) dX5_lowest_18 rfl (by decide) rfl rfl ?_
      refine sw_lload (pc' := 22) dX5_lowest_20 rfl rfl ?_
      refine sw_lstore (pc' := 24) (x := x7) (L' := [some (vl x0), none, some (vl x2), none, some (vi x4), some (vl x7), none, some (vl x7), none, some (vl v17), none]) dX5_lowest_22 rfl (by decide) rfl rfl ?_
      refine sw_lload (pc' := 26) dX5_lowest_24 rfl rfl ?_
      refine sw_lstore (pc' := 28) (x := v17) (L' := [some (vl x0), none, some (vl x2), none, some (vi x4), some (vl x7), none, some (vl v17), none, some (vl v17), none]) dX5_lowest_26 rfl (by decide) rfl rfl ?_
      refine sw_goto (pc' := 6) dX5_lowest_28 (by decide) ?_
      refine sw_msk [true, false, true, false, true, true, false, true, false, false, false] rfl ?_
      exact (ih) x0 x2 x4 x7 v17 σ
def f_X5_lowest (x0 : Int) (x2 : Int) (x4 : Int) (σ : St) : Option (Int × St) :=
  f_X5_lowest_6 FU x0 x2 x4 x0 x2 σ
set_option maxRecDepth 20000 in
theorem m_X5_lowest (x0 : Int) (x2 : Int) (x4 : Int)  (σ : St) : MT G l yX5_lowest cX5_lowest 11 (some .long) rm_X5_lowest [vl x0, vl x2, vi x4] wL σ (f_X5_lowest x0 x2 x4 σ) := by
  refine mt_L (L := [some (vl x0), none, some (vl x2), none, some (vi x4), none, none, none, none, none, none]) rfl (Nat.le_of_ble_eq_true rfl) rfl ?_
  show SW G l RX5 cX5_lowest 11 rm_X5_lowest wL 0 [some (vl x0), none, some (vl x2), none, some (vi x4), none, none, none, none, none, none] [] σ (f_X5_lowest x0 x2 x4 σ)
  unfold f_X5_lowest
  refine sw_lload_n (pc' := 1) dX5_lowest_0 rfl rfl ?_
  refine sw_lstore (pc' := 3) (x := x0) (L' := [some (vl x0), none, some (vl x2), none, some (vi x4), some (vl x0), none, none, none, none, none]) dX5_lowest_1 rfl (by decide) rfl rfl ?_
  refine sw_lload_n (pc' := 4) dX5_lowest_3 rfl rfl ?_
  refine sw_lstore (pc' := 6) (x := x2) (L' := [some (vl x0), none, some (vl x2), none, some (vi x4), some (vl x0), none, some (vl x2), none, none, none]) dX5_lowest_4 rfl (by decide) rfl rfl ?_
  exact s_X5_lowest_6 FU x0 x2 x4 x0 x2 σ
def rm_X5_byFalse : Room := { frames := 6, cells := 0, slots := 0, locals := 139 }
def f_X5_byFalse_93  (k38 : Int → Int → Int → Int → Int → Int → Int → Int → St → Option (Int × St)) (k58 : Int → Int → Int → Int → Int → Int → Int → Int → Int → Int → St → Option (Int × St)) (x1 x2 x3 x4 x5 x6 x8 x10 x13 t0 t1 : Int) (σ : St) : Option (Int × St) :=
  k58 x1 x2 x3 x4 x5 x6 x8 x10 (t0 * t1) (x13 + 1) σ
set_option maxRecDepth 20000 in
theorem s_X5_byFalse_93   (k38 : Int → Int → Int → Int → Int → Int → Int → Int → St → Option (Int × St)) (k58 : Int → Int → Int → Int → Int → Int → Int → Int → Int → Int → St → Option (Int × St)) (hk38 : ∀ (x1 x2 x3 x4 x5 x6 x8 x10 : Int) (σ : St), SW G l RX5 cX5_byFalse 14 rm_X5_byFalse wL 38 [some (.ref (ad G 51)), some (vi x1), some (vi x2), some (vi x3), some (vi x4), some (vi x5), some (vl x6), none, some (vl x8), none, some (vi x10), none, none, none] [] σ (k38 x1 x2 x3 x4 x5 x6 x8 x10 σ)) (hk58 : ∀ (x1 x2 x3 x4 x5 x6 x8 x10 x11 x13 : Int) (σ : St), SW G l RX5 cX5_byFalse 14 rm_X5_byFalse wL 58 [some (.ref (ad G 51)), some (vi x1), some (vi x2), some (vi x3), some (vi x4), some (vi x5), some (vl x6), none, some (vl x8), none, some (vi x10), some (vl x11), none, some (vi x13)] [] σ (k58 x1 x2 x3 x4 x5 x6 x8 x10 x11 x13 σ)) (x1 x2 x3 x4 x5 x6 x8 x10 x13 t0 t1 : Int) (σ : St) : SW G l RX5 cX5_byFalse 14 rm_X5_byFalse wL 93 [some (.ref (ad G 51)), some (vi x1), some (vi x2), some (vi x3), some (vi x4), some (vi x5), some (vl x6), none, some (vl x8), none, some (vi x10), none, none, some (vi x13)] [vl t1, vl t0] σ (f_X5_byFalse_93 k38 k58 x1 x2 x3 x4 x5 x6 x8 x10 x13 t0 t1 σ) := by
  unfold f_X5_byFalse_93
  refine sw_lmul (pc' := 94) dX5_byFalse_93 rfl ?_
  refine sw_lstore (pc' := 96) (x := (t0 * t1)) (L' := [some (.ref (ad G 51)), some (vi x1), some (vi x2), some (vi x3), some (vi x4), some (vi x5), some (vl x6), none, some (vl x8), none, some (vi x10), some (vl (t0 * t1)), none, some (vi x13)]) dX5_byFalse_94 rfl (by decide) rfl rfl ?_
  refine sw_iinc (pc' := 99) (x := x13) (L' := [some (.ref (ad G 51)), some (vi x1), some (vi x2), some (vi x3), some (vi x4), some (vi x5), some (vl x6), none, some (vl x8), none, some (vi x10), some (vl (t0 * t1)), none, some (vi (x13 + 1))]) dX5_byFalse_96 rfl (by decide) rfl rfl rfl ?_
  refine sw_goto (pc' := 58) dX5_byFalse_99 (by decide) ?_
  exact hk58 x1 x2 x3 x4 x5 x6 x8 x10 (t0 * t1) (x13 + 1) σ
def f_X5_byFalse_145  (k38 : Int → Int → Int → Int → Int → Int → Int → Int → St → Option (Int × St)) (x1 x2 x3 x4 x5 x8 x10 t0 t1 t2 : Int) (σ : St) : Option (Int × St) :=
  k38 x1 x2 x3 x4 x5 (t0 + (t1 * (wr t2))) x8 (x10 + 1) σ
set_option maxRecDepth 20000 in
theorem s_X5_byFalse_145   (k38 : Int → Int → Int → Int → Int → Int → Int → Int → St → Option (Int × St)) (hk38 : ∀ (x1 x2 x3 x4 x5 x6 x8 x10 : Int) (σ : St), SW G l RX5 cX5_byFalse 14 rm_X5_byFalse wL 38 [some (.ref (ad G 51)), some (vi x1), some (vi x2), some (vi x3), some (vi x4), some (vi x5), some (vl x6), none, some (vl x8), none, some (vi x10), none, none, none] [] σ (k38 x1 x2 x3 x4 x5 x6 x8 x10 σ)) (x1 x2 x3 x4 x5 x8 x10 t0 t1 t2 : Int) (σ : St) : SW G l RX5 cX5_byFalse 14 rm_X5_byFalse wL 145 [some (.ref (ad G 51)), some (vi x1), some (vi x2), some (vi x3), some (vi x4), some (vi x5), none, none, some (vl x8), none, some (vi x10), none, none, none] [vi t2, vl t1, vl t0] σ (f_X5_byFalse_145 k38 x1 x2 x3 x4 x5 x8 x10 t0 t1 t2 σ) := by
  unfold f_X5_byFalse_145
  refine sw_i2l (pc' := 146) dX5_byFalse_145 rfl ?_
  refine sw_lmul (pc' := 147) dX5_byFalse_146 rfl ?_
  refine sw_ladd (pc' := 148) dX5_byFalse_147 rfl ?_
  refine sw_lstore (pc' := 150) (x := (t0 + (t1 * (wr t2)))) (L' := [some (.ref (ad G 51)), some (vi x1), some (vi x2), some (vi x3), some (vi x4), some (vi x5), some (vl (t0 + (t1 * (wr t2)))), none, some (vl x8), none, some (vi x10), none, none, none]) dX5_byFalse_148 rfl (by decide) rfl rfl ?_
  refine sw_iinc (pc' := 153) (x := x10) (L' := [some (.ref (ad G 51)), some (vi x1), some (vi x2), some (vi x3), some (vi x4), some (vi x5), some (vl (t0 + (t1 * (wr t2)))), none, some (vl x8), none, some (vi (x10 + 1)), none, none, none]) dX5_byFalse_150 rfl (by decide) rfl rfl rfl ?_
  refine sw_goto (pc' := 38) dX5_byFalse_153 (by decide) ?_
  exact hk38 x1 x2 x3 x4 x5 (t0 + (t1 * (wr t2))) x8 (x10 + 1) σ
def f_X5_byFalse_58  (k38 : Int → Int → Int → Int → Int → Int → Int → Int → St → Option (Int × St)) : Nat → Int → Int → Int → Int → Int → Int → Int → Int → Int → Int → St → Option (Int × St)
  | 0, _, _, _, _, _, _, _, _, _, _, _ => none
  | n + 1, x1, x2, x3, x4, x5, x6, x8, x10, x11, x13, σ =>
    bV (ld σ 52 330 52) fun v66 => if wr x13 < wr v66 then
      if wr (iad (isr x10 x13) 1) = wr 1 then
        f_X5_byFalse_93 k38 (f_X5_byFalse_58 k38 n) x1 x2 x3 x4 x5 x6 x8 x10 x13 x11 (wr x1) σ
      else
        f_X5_byFalse_93 k38 (f_X5_byFalse_58 k38 n) x1 x2 x3 x4 x5 x6 x8 x10 x13 x11 (wr (10 - x1)) σ
    else
      bV (pf σ 51 18 x10) fun s105 => if wr x2 = wr (-4) then
        bI (f_X5_daysGo 0 x4 s105) fun v122 s122 => f_X5_byFalse_145 k38 x1 x2 x3 x4 x5 x8 x10 x6 x11 v122 s122
      else
        bI (f_X5_believedOn 0 x2 x4 s105) fun v133 s133 => if wr v133 = wr x3 then
          f_X5_byFalse_145 k38 x1 x2 x3 x4 x5 x8 x10 x6 x11 1 s133
        else
          f_X5_byFalse_145 k38 x1 x2 x3 x4 x5 x8 x10 x6 x11 0 s133
set_option maxRecDepth 20000 in
theorem s_X5_byFalse_58   (k38 : Int → Int → Int → Int → Int → Int → Int → Int → St → Option (Int × St)) (hk38 : ∀ (x1 x2 x3 x4 x5 x6 x8 x10 : Int) (σ : St), SW G l RX5 cX5_byFalse 14 rm_X5_byFalse wL 38 [some (.ref (ad G 51)), some (vi x1), some (vi x2), some (vi x3), some (vi x4), some (vi x5), some (vl x6), none, some (vl x8), none, some (vi x10), none, none, none] [] σ (k38 x1 x2 x3 x4 x5 x6 x8 x10 σ)) : ∀ (n : Nat) (x1 x2 x3 x4 x5 x6 x8 x10 x11 x13 : Int) (σ : St), SW G l RX5 cX5_byFalse 14 rm_X5_byFalse wL 58 [some (.ref (ad G 51)), some (vi x1), some (vi x2), some (vi x3), some (vi x4), some (vi x5), some (vl x6), none, some (vl x8), none, some (vi x10), some (vl x11), none, some (vi x13)] [] σ (f_X5_byFalse_58 k38 n x1 x2 x3 x4 x5 x6 x8 x10 x11 x13 σ) := by
  intro n
  induction n with
  | zero => intro x1 x2 x3 x4 x5 x6 x8 x10 x11 x13 σ; exact sw_none
  | succ n ih =>
    intro x1 x2 x3 x4 x5 x6 x8 x10 x11 x13 σ
    rw [f_X5_byFalse_58]
    refine sw_iload (pc' := 60) dX5_byFalse_58 rfl rfl ?_
    refine sw_aload_n (pc' := 61) dX5_byFalse_60 rfl rfl ?_
    refine sw_getr (pc' := 64) dX5_byFalse_61 fl_X5_7 (tbk_51) rfl rfl ?_
    refine sw_bipush (pc' := 66) dX5_byFalse_64 rfl rfl ?_
    refine sw_iald (pc' := 67) dX5_byFalse_66 (tbk_52) rfl (fun v66 => ?_)
    refine sw_icmp_ge (tgt := 102) (pc' := 70) dX5_byFalse_67 (by decide) rfl (fun _ => ?_) (fun _ => ?_)
    · refine sw_lload (pc' := 72) dX5_byFalse_70 rfl rfl ?_
      refine sw_iload (pc' := 74) dX5_byFalse_72 rfl rfl ?_
      refine sw_iload (pc' := 76) dX5_byFalse_74 rfl rfl ?_
      refine sw_ishr (pc' := 77) dX5_byFalse_76 rfl ?_
      refine sw_iconst (pc' := 78) dX5_byFalse_77 rfl ?_
      refine sw_iand (pc' := 79) dX5_byFalse_78 rfl ?_
      refine sw_iconst (pc' := 80) dX5_byFalse_79 rfl ?_
      refine sw_icmp_ne (tgt := 88) (pc' := 83) dX5_byFalse_80 (by decide) rfl (fun _ => ?_) (fun _ => ?_)
      · refine sw_iload_n (pc' := 84) dX5_byFalse_83 rfl rfl ?_
        refine sw_i2l (pc' := 85) dX5_byFalse_84 rfl ?_
        refine sw_goto (pc' := 93) dX5_byFalse_85 (by decide) ?_
        refine sw_msk [true, true, true, true, true, true, true, false, true, false, true, false, false, true] rfl ?_
        exact s_X5_byFalse_93 k38 (f_X5_byFalse_58 k38 n) hk38 (ih) x1 x2 x3 x4 x5 x6 x8 x10 x13 x11 (wr x1) σ
      · refine sw_bipush (pc' := 90) dX5_byFalse_88 rfl rfl ?_
        refine sw_iload_n (pc' := 91) dX5_byFalse_90 rfl rfl ?_
        refine sw_isub (pc' := 92) dX5_byFalse_91 rfl ?_
        refine sw_i2l (pc' := 93) dX5_byFalse_92 rfl ?_
        refine sw_msk [true, true, true, true, true, true, true, false, true, false, true, false, false, true] rfl ?_
        exact s_X5_byFalse_93 k38 (f_X5_byFalse_58 k38 n) hk38 (ih) x1 x2 x3 x4 x5 x6 x8 x10 x13 x11 (wr (10 - x1)) σ
    · refine sw_aload_n (pc' := 103) dX5_byFalse_102 rfl rfl ?_
      refine sw_iload (pc' := 105) dX5_byFalse_103 rfl rfl ?_
      refine sw_putI (pc' := 108) dX5_byFalse_105 fp_X5_149 (tbk_51) rfl rfl (fun s105 => ?_)
      refine sw_lload (pc' := 110) dX5_byFalse_108 rfl rfl ?_
      refine sw_lload (pc' := 112) dX5_byFalse_110 rfl rfl ?_
      refine sw_iload_n (pc' := 113) dX5_byFalse_112 rfl rfl ?_
      refine sw_bipush (pc' := 115) dX5_byFalse_113 rfl rfl ?_
      refine sw_icmp_ne (tgt := 128) (pc' := 118) dX5_byFalse_115 (by decide) rfl (fun _ => ?_) (fun _ => ?_)
      · refine sw_aload_n (pc' := 119) dX5_byFalse_118 rfl rfl ?_
        refine sw_iconst (pc' := 120) dX5_byFalse_119 rfl ?_
        refine sw_iload (pc' := 122) dX5_byFalse_120 rfl rfl ?_
        refine sw_callVI (pc' := 125) (As := [vi 0, vi x4]) (rest := [vl x11, vl x6]) dX5_byFalse_122 cv_X5_228 (tbk_51) (m_X5_daysGo 0 x4 s105) rfl rfl rfl rfl rfl (fun v122 s122 => ?_)
        refine sw_goto (pc' := 145) dX5_byFalse_125 (by decide) ?_
        refine sw_msk [true, true, true, true, true, true, false, false, true, false, true, false, false, false] rfl ?_
        exact s_X5_byFalse_145 k38 hk38 x1 x2 x3 x4 x5 x8 x10 x6 x11 v122 s122
      · refine sw_aload_n (pc' := 129) dX5_byFalse_128 rfl rfl ?_
        refine sw_iconst (pc' := 130) dX5_byFalse_129 rfl ?_
        refine sw_iload_n (pc' := 131) dX5_byFalse_130 rfl rfl ?_
        refine sw_iload (pc' := 133) dX5_byFalse_131 rfl rfl ?_
        refine sw_callVI (pc' := 136) (As := [vi 0, vi x2, vi x4]) (rest := [vl x11, vl x6]) dX5_byFalse_133 cv_X5_156 (tbk_51) (m_X5_believedOn 0 x2 x4 s105) rfl rfl rfl rfl rfl (fun v133 s133 => ?_)
        refine sw_iload_n (pc' := 137) dX5_byFalse_136 rfl rfl ?_
        refine sw_icmp_ne (tgt := 144) (pc' := 140) dX5_byFalse_137 (by decide) rfl (fun _ => ?_) (fun _ => ?_)
        · refine sw_iconst (pc' := 141) dX5_byFalse_140 rfl ?_
          refine sw_goto (pc' := 145) dX5_byFalse_141 (by decide) ?_
          refine sw_msk [true, true, true, true, true, true, false, false, true, false, true, false, false, false] rfl ?_
          exact s_X5_byFalse_145 k38 hk38 x1 x2 x3 x4 x5 x8 x10 x6 x11 1 s133
        · refine sw_iconst (pc' := 145) dX5_byFalse_144 rfl ?_
          refine sw_msk [true, true, true, true, true, true, false, false, true, false, true, false, false, false] rfl ?_
          exact s_X5_byFalse_145 k38 hk38 x1 x2 x3 x4 x5 x8 x10 x6 x11 0 s133
def f_X5_byFalse_38   : Nat → Int → Int → Int → Int → Int → Int → Int → Int → St → Option (Int × St)
  | 0, _, _, _, _, _, _, _, _, _ => none
  | n + 1, x1, x2, x3, x4, x5, x6, x8, x10, σ =>
    bV (ld σ 52 330 52) fun v47 => if wr x10 < wr (isl 1 v47) then
      f_X5_byFalse_58 (f_X5_byFalse_38 n) FU x1 x2 x3 x4 x5 x6 x8 x10 1 0 σ
    else
      bV (pf σ 51 18 0) fun s158 => bI (f_X5_lowest x6 x8 x5 s158) fun v167 s167 => some (v167, s167)
set_option maxRecDepth 20000 in
theorem s_X5_byFalse_38     : ∀ (n : Nat) (x1 x2 x3 x4 x5 x6 x8 x10 : Int) (σ : St), SW G l RX5 cX5_byFalse 14 rm_X5_byFalse wL 38 [some (.ref (ad G 51)), some (vi x1), some (vi x2), some (vi x3), some (vi x4), some (vi x5), some (vl x6), none, some (vl x8), none, some (vi x10), none, none, none] [] σ (f_X5_byFalse_38 n x1 x2 x3 x4 x5 x6 x8 x10 σ) := by
  intro n
  induction n with
  | zero => intro x1 x2 x3 x4 x5 x6 x8 x10 σ; exact sw_none
  | succ n ih =>
    intro x1 x2 x3 x4 x5 x6 x8 x10 σ
    rw [f_X5_byFalse_38]
    refine sw_iload (pc' := 40) dX5_byFalse_38 rfl rfl ?_
    refine sw_iconst (pc' := 41) dX5_byFalse_40 rfl ?_
    refine sw_aload_n (pc' := 42) dX5_byFalse_41 rfl rfl ?_
    refine sw_getr (pc' := 45) dX5_byFalse_42 fl_X5_7 (tbk_51) rfl rfl ?_
    refine sw_bipush (pc' := 47) dX5_byFalse_45 rfl rfl ?_
    refine sw_iald (pc' := 48) dX5_byFalse_47 (tbk_52) rfl (fun v47 => ?_)
    refine sw_ishl (pc' := 49) dX5_byFalse_48 rfl ?_
    refine sw_icmp_ge (tgt := 156) (pc' := 52) dX5_byFalse_49 (by decide) rfl (fun _ => ?_) (fun _ => ?_)
    · refine sw_lconst (x := 1) (pc' := 53) dX5_byFalse_52 rfl rfl ?_
      refine sw_lstore (pc' := 55) (x := 1) (L' := [some (.ref (ad G 51)), some (vi x1), some (vi x2), some (vi x3), some (vi x4), some (vi x5), some (vl x6), none, some (vl x8), none, some (vi x10), some (vl 1), none, none]) dX5_byFalse_53 rfl (by decide) rfl rfl ?_
      refine sw_iconst (pc' := 56) dX5_byFalse_55 rfl ?_
      refine sw_istore (pc' := 58) (x := 0) (L' := [some (.ref (ad G 51)), some (vi x1), some (vi x2), some (vi x3), some (vi x4), some (vi x5), some (vl x6), none, some (vl x8), none, some (vi x10), some (vl 1), none, some (vi 0)]) dX5_byFalse_56 rfl (by decide) rfl rfl ?_
      exact s_X5_byFalse_58 (f_X5_byFalse_38 n) (ih) FU x1 x2 x3 x4 x5 x6 x8 x10 1 0 σ
    · refine sw_aload_n (pc' := 157) dX5_byFalse_156 rfl rfl ?_
      refine sw_iconst (pc' := 158) dX5_byFalse_157 rfl ?_
      refine sw_putI (pc' := 161) dX5_byFalse_158 fp_X5_149 (tbk_51) rfl rfl (fun s158 => ?_)
      refine sw_lload (pc' := 163) dX5_byFalse_161 rfl rfl ?_
      refine sw_lload (pc' := 165) dX5_byFalse_163 rfl rfl ?_
      refine sw_iload (pc' := 167) dX5_byFalse_165 rfl rfl ?_
      refine sw_callSL (pc' := 170) (As := [vl x6, vl x8, vi x5]) (rest := []) dX5_byFalse_167 cs_X5_240 (m_X5_lowest x6 x8 x5 s158) rfl rfl rfl rfl rfl (fun v167 s167 => ?_)
      exact sw_lret dX5_byFalse_170
def f_X5_byFalse_9   : Nat → Int → Int → Int → Int → Int → Int → Int → Int → St → Option (Int × St)
  | 0, _, _, _, _, _, _, _, _, _ => none
  | n + 1, x1, x2, x3, x4, x5, x6, x8, x10, σ =>
    bV (ld σ 52 330 52) fun v17 => if wr x10 < wr v17 then
      (f_X5_byFalse_9 n) x1 x2 x3 x4 x5 x6 (x8 * 10) (x10 + 1) σ
    else
      f_X5_byFalse_38 FU x1 x2 x3 x4 x5 x6 x8 0 σ
set_option maxRecDepth 20000 in
theorem s_X5_byFalse_9     : ∀ (n : Nat) (x1 x2 x3 x4 x5 x6 x8 x10 : Int) (σ : St), SW G l RX5 cX5_byFalse 14 rm_X5_byFalse wL 9 [some (.ref (ad G 51)), some (vi x1), some (vi x2), some (vi x3), some (vi x4), some (vi x5), some (vl x6), none, some (vl x8), none, some (vi x10), none, none, none] [] σ (f_X5_byFalse_9 n x1 x2 x3 x4 x5 x6 x8 x10 σ) := by
  intro n
  induction n with
  | zero => intro x1 x2 x3 x4 x5 x6 x8 x10 σ; exact sw_none
  | succ n ih =>
    intro x1 x2 x3 x4 x5 x6 x8 x10 σ
    rw [f_X5_byFalse_9]
    refine sw_iload (pc' := 11) dX5_byFalse_9 rfl rfl ?_
    refine sw_aload_n (pc' := 12) dX5_byFalse_11 rfl rfl ?_
    refine sw_getr (pc' := 15) dX5_byFalse_12 fl_X5_7 (tbk_51) rfl rfl ?_
    refine sw_bipush (pc' := 17) dX5_byFalse_15 rfl rfl ?_
    refine sw_iald (pc' := 18) dX5_byFalse_17 (tbk_52) rfl (fun v17 => ?_)
    refine sw_icmp_ge (tgt := 35) (pc' := 21) dX5_byFalse_18 (by decide) rfl (fun _ => ?_) (fun _ => ?_)
    · refine sw_lload (pc' := 23) dX5_byFalse_21 rfl rfl ?_
      refine sw_ldc2 (n := 10) (pc' := 26) dX5_byFalse_23 kl_X5_238 rfl ?_
      refine sw_lmul (pc' := 27) dX5_byFalse_26 rfl ?_
      refine sw_lstore (pc' := 29) (x := (x8 * 10)) (L' := [some (.ref (ad G 51)), some (vi x1), some (vi x2), some (vi x3), some (vi x4), some (vi x5), some (vl x6), none, some (vl (x8 * 10)), none, some (vi x10), none, none, none]) dX5_byFalse_27 rfl (by decide) rfl rfl ?_
      refine sw_iinc (pc' := 32) (x := x10) (L' := [some (.ref (ad G 51)), some (vi x1), some (vi x2), some (vi x3), some (vi x4), some (vi x5), some (vl x6), none, some (vl (x8 * 10)), none, some (vi (x10 + 1)), none, none, none]) dX5_byFalse_29 rfl (by decide) rfl rfl rfl ?_
      refine sw_goto (pc' := 9) dX5_byFalse_32 (by decide) ?_
      exact (ih) x1 x2 x3 x4 x5 x6 (x8 * 10) (x10 + 1) σ
    · refine sw_iconst (pc' := 36) dX5_byFalse_35 rfl ?_
      refine sw_istore (pc' := 38) (x := 0) (L' := [some (.ref (ad G 51)), some (vi x1), some (vi x2), some (vi x3), some (vi x4), some (vi x5), some (vl x6), none, some (vl x8), none, some (vi 0), none, none, none]) dX5_byFalse_36 rfl (by decide) rfl rfl ?_
      exact s_X5_byFalse_38 FU x1 x2 x3 x4 x5 x6 x8 0 σ
def f_X5_byFalse (x1 : Int) (x2 : Int) (x3 : Int) (x4 : Int) (x5 : Int) (σ : St) : Option (Int × St) :=
  f_X5_byFalse_9 FU x1 x2 x3 x4 x5 0 1 0 σ
set_option maxRecDepth 20000 in
theorem m_X5_byFalse (x1 : Int) (x2 : Int) (x3 : Int) (x4 : Int) (x5 : Int)  (σ : St) : MT G l yX5_byFalse cX5_byFalse 14 (some .long) rm_X5_byFalse [.ref (ad G 51), vi x1, vi x2, vi x3, vi x4, vi x5] wL σ (f_X5_byFalse x1 x2 x3 x4 x5 σ) := by
  refine mt_L (L := [some (.ref (ad G 51)), some (vi x1), some (vi x2), some (vi x3), some (vi x4), some (vi x5), none, none, none, none, none, none, none, none]) rfl (Nat.le_of_ble_eq_true rfl) rfl ?_
  show SW G l RX5 cX5_byFalse 14 rm_X5_byFalse wL 0 [some (.ref (ad G 51)), some (vi x1), some (vi x2), some (vi x3), some (vi x4), some (vi x5), none, none, none, none, none, none, none, none] [] σ (f_X5_byFalse x1 x2 x3 x4 x5 σ)
  unfold f_X5_byFalse
  refine sw_lconst (x := 0) (pc' := 1) dX5_byFalse_0 rfl rfl ?_
  refine sw_lstore (pc' := 3) (x := 0) (L' := [some (.ref (ad G 51)), some (vi x1), some (vi x2), some (vi x3), some (vi x4), some (vi x5), some (vl 0), none, none, none, none, none, none, none]) dX5_byFalse_1 rfl (by decide) rfl rfl ?_
  refine sw_lconst (x := 1) (pc' := 4) dX5_byFalse_3 rfl rfl ?_
  refine sw_lstore (pc' := 6) (x := 1) (L' := [some (.ref (ad G 51)), some (vi x1), some (vi x2), some (vi x3), some (vi x4), some (vi x5), some (vl 0), none, some (vl 1), none, none, none, none, none]) dX5_byFalse_4 rfl (by decide) rfl rfl ?_
  refine sw_iconst (pc' := 7) dX5_byFalse_6 rfl ?_
  refine sw_istore (pc' := 9) (x := 0) (L' := [some (.ref (ad G 51)), some (vi x1), some (vi x2), some (vi x3), some (vi x4), some (vi x5), some (vl 0), none, some (vl 1), none, some (vi 0), none, none, none]) dX5_byFalse_7 rfl (by decide) rfl rfl ?_
  exact s_X5_byFalse_9 FU x1 x2 x3 x4 x5 0 1 0 σ
def rm_X5_luck : Room := { frames := 7, cells := 0, slots := 0, locals := 172 }
def f_X5_luck (x1 : Int) (x2 : Int) (x3 : Int) (x4 : Int) (x5 : Int) (σ : St) : Option (Int × St) :=
  bI (f_X5_in (wr x1) 0 10 σ) fun v6 s6 => if v6 then
    bI (f_X5_isRider x2 s6) fun v14 s14 => if v14 then
      bI (f_X5_isEnd x3 s14) fun v21 s21 => if v21 then
        bI (f_X5_isDay x4 s21) fun v29 s29 => if v29 then
          bI (f_X5_in (wr x5) 0 1 s29) fun v40 s40 => if v40 then
            bI (f_X5_byFalse x1 x2 x3 x4 x5 s40) fun v54 s54 => some (v54, s54)
          else
            some ((-1), s40)
        else
          some ((-1), s29)
      else
        some ((-1), s21)
    else
      some ((-1), s14)
  else
    some ((-1), s6)
set_option maxRecDepth 20000 in
theorem m_X5_luck (x1 : Int) (x2 : Int) (x3 : Int) (x4 : Int) (x5 : Int)  (σ : St) : MT G l yX5_luck cX5_luck 6 (some .long) rm_X5_luck [.ref (ad G 51), vi x1, vi x2, vi x3, vi x4, vi x5] wL σ (f_X5_luck x1 x2 x3 x4 x5 σ) := by
  refine mt_L (L := [some (.ref (ad G 51)), some (vi x1), some (vi x2), some (vi x3), some (vi x4), some (vi x5)]) rfl (Nat.le_of_ble_eq_true rfl) rfl ?_
  show SW G l RX5 cX5_luck 6 rm_X5_luck wL 0 [some (.ref (ad G 51)), some (vi x1), some (vi x2), some (vi x3), some (vi x4), some (vi x5)] [] σ (f_X5_luck x1 x2 x3 x4 x5 σ)
  unfold f_X5_luck
  refine sw_iload_n (pc' := 1) dX5_luck_0 rfl rfl ?_
  refine sw_i2l (pc' := 2) dX5_luck_1 rfl ?_
  refine sw_lconst (x := 0) (pc' := 3) dX5_luck_2 rfl rfl ?_
  refine sw_ldc2 (n := 10) (pc' := 6) dX5_luck_3 kl_X5_238 rfl ?_
  refine sw_callSB (pc' := 9) (As := [vl (wr x1), vl 0, vl 10]) (rest := []) dX5_luck_6 cs_X5_46 (m_X5_in (wr x1) 0 10 σ) rfl rfl rfl rfl rfl (fun v6 s6 => ?_)
  refine sw_bif_eq (tgt := 60) (pc' := 12) dX5_luck_9 (by decide) rfl (fun _ => ?_) (fun _ => ?_)
  · refine sw_aload_n (pc' := 13) dX5_luck_12 rfl rfl ?_
    refine sw_iload_n (pc' := 14) dX5_luck_13 rfl rfl ?_
    refine sw_callVB (pc' := 17) (As := [vi x2]) (rest := []) dX5_luck_14 cv_X5_182 (tbk_51) (m_X5_isRider x2 s6) rfl rfl rfl rfl rfl (fun v14 s14 => ?_)
    refine sw_bif_eq (tgt := 60) (pc' := 20) dX5_luck_17 (by decide) rfl (fun _ => ?_) (fun _ => ?_)
    · refine sw_iload_n (pc' := 21) dX5_luck_20 rfl rfl ?_
      refine sw_callSB (pc' := 24) (As := [vi x3]) (rest := []) dX5_luck_21 cs_X5_194 (m_X5_isEnd x3 s14) rfl rfl rfl rfl rfl (fun v21 s21 => ?_)
      refine sw_bif_eq (tgt := 60) (pc' := 27) dX5_luck_24 (by decide) rfl (fun _ => ?_) (fun _ => ?_)
      · refine sw_iload (pc' := 29) dX5_luck_27 rfl rfl ?_
        refine sw_callSB (pc' := 32) (As := [vi x4]) (rest := []) dX5_luck_29 cs_X5_197 (m_X5_isDay x4 s21) rfl rfl rfl rfl rfl (fun v29 s29 => ?_)
        refine sw_bif_eq (tgt := 60) (pc' := 35) dX5_luck_32 (by decide) rfl (fun _ => ?_) (fun _ => ?_)
        · refine sw_iload (pc' := 37) dX5_luck_35 rfl rfl ?_
          refine sw_i2l (pc' := 38) dX5_luck_37 rfl ?_
          refine sw_lconst (x := 0) (pc' := 39) dX5_luck_38 rfl rfl ?_
          refine sw_lconst (x := 1) (pc' := 40) dX5_luck_39 rfl rfl ?_
          refine sw_callSB (pc' := 43) (As := [vl (wr x5), vl 0, vl 1]) (rest := []) dX5_luck_40 cs_X5_46 (m_X5_in (wr x5) 0 1 s29) rfl rfl rfl rfl rfl (fun v40 s40 => ?_)
          refine sw_bif_eq (tgt := 60) (pc' := 46) dX5_luck_43 (by decide) rfl (fun _ => ?_) (fun _ => ?_)
          · refine sw_aload_n (pc' := 47) dX5_luck_46 rfl rfl ?_
            refine sw_iload_n (pc' := 48) dX5_luck_47 rfl rfl ?_
            refine sw_iload_n (pc' := 49) dX5_luck_48 rfl rfl ?_
            refine sw_iload_n (pc' := 50) dX5_luck_49 rfl rfl ?_
            refine sw_iload (pc' := 52) dX5_luck_50 rfl rfl ?_
            refine sw_iload (pc' := 54) dX5_luck_52 rfl rfl ?_
            refine sw_callVL (pc' := 57) (As := [vi x1, vi x2, vi x3, vi x4, vi x5]) (rest := []) dX5_luck_54 cv_X5_244 (tbk_51) (m_X5_byFalse x1 x2 x3 x4 x5 s40) rfl rfl rfl rfl rfl (fun v54 s54 => ?_)
            refine sw_goto (pc' := 63) dX5_luck_57 (by decide) ?_
            exact sw_lret dX5_luck_63
          · refine sw_ldc2 (n := (-1)) (pc' := 63) dX5_luck_60 kl_X5_248 rfl ?_
            exact sw_lret dX5_luck_63
        · refine sw_ldc2 (n := (-1)) (pc' := 63) dX5_luck_60 kl_X5_248 rfl ?_
          exact sw_lret dX5_luck_63
      · refine sw_ldc2 (n := (-1)) (pc' := 63) dX5_luck_60 kl_X5_248 rfl ?_
        exact sw_lret dX5_luck_63
    · refine sw_ldc2 (n := (-1)) (pc' := 63) dX5_luck_60 kl_X5_248 rfl ?_
      exact sw_lret dX5_luck_63
  · refine sw_ldc2 (n := (-1)) (pc' := 63) dX5_luck_60 kl_X5_248 rfl ?_
    exact sw_lret dX5_luck_63
def rm_X5_mean : Room := { frames := 7, cells := 0, slots := 0, locals := 172 }
def f_X5_mean (x1 : Int) (x2 : Int) (x3 : Int) (σ : St) : Option (Int × St) :=
  bI (f_X5_in (wr x1) 0 10 σ) fun v6 s6 => if v6 then
    bI (f_X5_in (wr x2) 0 20 s6) fun v18 s18 => if v18 then
      bI (f_X5_in (wr x3) 0 1 s18) fun v28 s28 => if v28 then
        bI (f_X5_byFalse x1 (-4) 0 x2 x3 s28) fun v41 s41 => some (v41, s41)
      else
        some ((-1), s28)
    else
      some ((-1), s18)
  else
    some ((-1), s6)
set_option maxRecDepth 20000 in
theorem m_X5_mean (x1 : Int) (x2 : Int) (x3 : Int)  (σ : St) : MT G l yX5_mean cX5_mean 4 (some .long) rm_X5_mean [.ref (ad G 51), vi x1, vi x2, vi x3] wL σ (f_X5_mean x1 x2 x3 σ) := by
  refine mt_L (L := [some (.ref (ad G 51)), some (vi x1), some (vi x2), some (vi x3)]) rfl (Nat.le_of_ble_eq_true rfl) rfl ?_
  show SW G l RX5 cX5_mean 4 rm_X5_mean wL 0 [some (.ref (ad G 51)), some (vi x1), some (vi x2), some (vi x3)] [] σ (f_X5_mean x1 x2 x3 σ)
  unfold f_X5_mean
  refine sw_iload_n (pc' := 1) dX5_mean_0 rfl rfl ?_
  refine sw_i2l (pc' := 2) dX5_mean_1 rfl ?_
  refine sw_lconst (x := 0) (pc' := 3) dX5_mean_2 rfl rfl ?_
  refine sw_ldc2 (n := 10) (pc' := 6) dX5_mean_3 kl_X5_238 rfl ?_
  refine sw_callSB (pc' := 9) (As := [vl (wr x1), vl 0, vl 10]) (rest := []) dX5_mean_6 cs_X5_46 (m_X5_in (wr x1) 0 10 σ) rfl rfl rfl rfl rfl (fun v6 s6 => ?_)
  refine sw_bif_eq (tgt := 47) (pc' := 12) dX5_mean_9 (by decide) rfl (fun _ => ?_) (fun _ => ?_)
  · refine sw_iload_n (pc' := 13) dX5_mean_12 rfl rfl ?_
    refine sw_i2l (pc' := 14) dX5_mean_13 rfl ?_
    refine sw_lconst (x := 0) (pc' := 15) dX5_mean_14 rfl rfl ?_
    refine sw_ldc2 (n := 20) (pc' := 18) dX5_mean_15 kl_X5_250 rfl ?_
    refine sw_callSB (pc' := 21) (As := [vl (wr x2), vl 0, vl 20]) (rest := []) dX5_mean_18 cs_X5_46 (m_X5_in (wr x2) 0 20 s6) rfl rfl rfl rfl rfl (fun v18 s18 => ?_)
    refine sw_bif_eq (tgt := 47) (pc' := 24) dX5_mean_21 (by decide) rfl (fun _ => ?_) (fun _ => ?_)
    · refine sw_iload_n (pc' := 25) dX5_mean_24 rfl rfl ?_
      refine sw_i2l (pc' := 26) dX5_mean_25 rfl ?_
      refine sw_lconst (x := 0) (pc' := 27) dX5_mean_26 rfl rfl ?_
      refine sw_lconst (x := 1) (pc' := 28) dX5_mean_27 rfl rfl ?_
      refine sw_callSB (pc' := 31) (As := [vl (wr x3), vl 0, vl 1]) (rest := []) dX5_mean_28 cs_X5_46 (m_X5_in (wr x3) 0 1 s18) rfl rfl rfl rfl rfl (fun v28 s28 => ?_)
      refine sw_bif_eq (tgt := 47) (pc' := 34) dX5_mean_31 (by decide) rfl (fun _ => ?_) (fun _ => ?_)
      · refine sw_aload_n (pc' := 35) dX5_mean_34 rfl rfl ?_
        refine sw_iload_n (pc' := 36) dX5_mean_35 rfl rfl ?_
        refine sw_bipush (pc' := 38) dX5_mean_36 rfl rfl ?_
        refine sw_iconst (pc' := 39) dX5_mean_38 rfl ?_
        refine sw_iload_n (pc' := 40) dX5_mean_39 rfl rfl ?_
        refine sw_iload_n (pc' := 41) dX5_mean_40 rfl rfl ?_
        refine sw_callVL (pc' := 44) (As := [vi x1, vi (-4), vi 0, vi x2, vi x3]) (rest := []) dX5_mean_41 cv_X5_244 (tbk_51) (m_X5_byFalse x1 (-4) 0 x2 x3 s28) rfl rfl rfl rfl rfl (fun v41 s41 => ?_)
        refine sw_goto (pc' := 50) dX5_mean_44 (by decide) ?_
        exact sw_lret dX5_mean_50
      · refine sw_ldc2 (n := (-1)) (pc' := 50) dX5_mean_47 kl_X5_248 rfl ?_
        exact sw_lret dX5_mean_50
    · refine sw_ldc2 (n := (-1)) (pc' := 50) dX5_mean_47 kl_X5_248 rfl ?_
      exact sw_lret dX5_mean_50
  · refine sw_ldc2 (n := (-1)) (pc' := 50) dX5_mean_47 kl_X5_248 rfl ?_
    exact sw_lret dX5_mean_50
def rm_X5_see : Room := { frames := 2, cells := 0, slots := 0, locals := 46 }
def f_X5_see (x1 : Int) (x2 : Int) (x3 : Int) (σ : St) : Option (Int × St) :=
  bI (f_X5_in (wr x1) 0 20 σ) fun v6 s6 => if v6 then
    bI (f_X5_isRider x2 s6) fun v14 s14 => if v14 then
      bI (f_X5_in (wr x3) 0 15 s14) fun v26 s26 => if v26 then
        if wr (s26 51 23) = wr 6 then
          some ((-3), s26)
        else
          bV (sv s26 57 18 (3 * (s26 51 23)) x1) fun s57 => bV (sv s57 57 18 ((3 * (s57 51 23)) + 1) x2) fun s71 => bV (sv s71 57 18 ((3 * (s71 51 23)) + 2) x3) fun s85 => bV (pf s85 51 23 ((s85 51 23) + 1)) fun s93 => some ((s93 51 23), s93)
      else
        some ((-1), s26)
    else
      some ((-1), s14)
  else
    some ((-1), s6)
set_option maxRecDepth 20000 in
theorem m_X5_see (x1 : Int) (x2 : Int) (x3 : Int)  (σ : St) : MT G l yX5_see cX5_see 4 (some .int) rm_X5_see [.ref (ad G 51), vi x1, vi x2, vi x3] wI σ (f_X5_see x1 x2 x3 σ) := by
  refine mt_I (L := [some (.ref (ad G 51)), some (vi x1), some (vi x2), some (vi x3)]) rfl (Nat.le_of_ble_eq_true rfl) rfl ?_
  show SW G l RX5 cX5_see 4 rm_X5_see wI 0 [some (.ref (ad G 51)), some (vi x1), some (vi x2), some (vi x3)] [] σ (f_X5_see x1 x2 x3 σ)
  unfold f_X5_see
  refine sw_iload_n (pc' := 1) dX5_see_0 rfl rfl ?_
  refine sw_i2l (pc' := 2) dX5_see_1 rfl ?_
  refine sw_lconst (x := 0) (pc' := 3) dX5_see_2 rfl rfl ?_
  refine sw_ldc2 (n := 20) (pc' := 6) dX5_see_3 kl_X5_250 rfl ?_
  refine sw_callSB (pc' := 9) (As := [vl (wr x1), vl 0, vl 20]) (rest := []) dX5_see_6 cs_X5_46 (m_X5_in (wr x1) 0 20 σ) rfl rfl rfl rfl rfl (fun v6 s6 => ?_)
  refine sw_bif_eq (tgt := 32) (pc' := 12) dX5_see_9 (by decide) rfl (fun _ => ?_) (fun _ => ?_)
  · refine sw_aload_n (pc' := 13) dX5_see_12 rfl rfl ?_
    refine sw_iload_n (pc' := 14) dX5_see_13 rfl rfl ?_
    refine sw_callVB (pc' := 17) (As := [vi x2]) (rest := []) dX5_see_14 cv_X5_182 (tbk_51) (m_X5_isRider x2 s6) rfl rfl rfl rfl rfl (fun v14 s14 => ?_)
    refine sw_bif_eq (tgt := 32) (pc' := 20) dX5_see_17 (by decide) rfl (fun _ => ?_) (fun _ => ?_)
    · refine sw_iload_n (pc' := 21) dX5_see_20 rfl rfl ?_
      refine sw_i2l (pc' := 22) dX5_see_21 rfl ?_
      refine sw_lconst (x := 0) (pc' := 23) dX5_see_22 rfl rfl ?_
      refine sw_ldc2 (n := 15) (pc' := 26) dX5_see_23 kl_X5_200 rfl ?_
      refine sw_callSB (pc' := 29) (As := [vl (wr x3), vl 0, vl 15]) (rest := []) dX5_see_26 cs_X5_46 (m_X5_in (wr x3) 0 15 s14) rfl rfl rfl rfl rfl (fun v26 s26 => ?_)
      refine sw_bif_ne (tgt := 34) (pc' := 32) dX5_see_29 (by decide) rfl (fun _ => ?_) (fun _ => ?_)
      · refine sw_aload_n (pc' := 35) dX5_see_34 rfl rfl ?_
        refine sw_getn (pc' := 38) dX5_see_35 fl_X5_134 (tbk_51) rfl rfl ?_
        refine sw_bipush (pc' := 40) dX5_see_38 rfl rfl ?_
        refine sw_icmp_ne (tgt := 46) (pc' := 43) dX5_see_40 (by decide) rfl (fun _ => ?_) (fun _ => ?_)
        · refine sw_bipush (pc' := 45) dX5_see_43 rfl rfl ?_
          exact sw_iret dX5_see_45
        · refine sw_aload_n (pc' := 47) dX5_see_46 rfl rfl ?_
          refine sw_getr (pc' := 50) dX5_see_47 fl_X5_25 (tbk_51) rfl rfl ?_
          refine sw_iconst (pc' := 51) dX5_see_50 rfl ?_
          refine sw_aload_n (pc' := 52) dX5_see_51 rfl rfl ?_
          refine sw_getn (pc' := 55) dX5_see_52 fl_X5_134 (tbk_51) rfl rfl ?_
          refine sw_imul (pc' := 56) dX5_see_55 rfl ?_
          refine sw_iload_n (pc' := 57) dX5_see_56 rfl rfl ?_
          refine sw_iast (pc' := 58) dX5_see_57 (tbk_57) rfl (fun s57 => ?_)
          refine sw_aload_n (pc' := 59) dX5_see_58 rfl rfl ?_
          refine sw_getr (pc' := 62) dX5_see_59 fl_X5_25 (tbk_51) rfl rfl ?_
          refine sw_iconst (pc' := 63) dX5_see_62 rfl ?_
          refine sw_aload_n (pc' := 64) dX5_see_63 rfl rfl ?_
          refine sw_getn (pc' := 67) dX5_see_64 fl_X5_134 (tbk_51) rfl rfl ?_
          refine sw_imul (pc' := 68) dX5_see_67 rfl ?_
          refine sw_iconst (pc' := 69) dX5_see_68 rfl ?_
          refine sw_iadd (pc' := 70) dX5_see_69 rfl ?_
          refine sw_iload_n (pc' := 71) dX5_see_70 rfl rfl ?_
          refine sw_iast (pc' := 72) dX5_see_71 (tbk_57) rfl (fun s71 => ?_)
          refine sw_aload_n (pc' := 73) dX5_see_72 rfl rfl ?_
          refine sw_getr (pc' := 76) dX5_see_73 fl_X5_25 (tbk_51) rfl rfl ?_
          refine sw_iconst (pc' := 77) dX5_see_76 rfl ?_
          refine sw_aload_n (pc' := 78) dX5_see_77 rfl rfl ?_
          refine sw_getn (pc' := 81) dX5_see_78 fl_X5_134 (tbk_51) rfl rfl ?_
          refine sw_imul (pc' := 82) dX5_see_81 rfl ?_
          refine sw_iconst (pc' := 83) dX5_see_82 rfl ?_
          refine sw_iadd (pc' := 84) dX5_see_83 rfl ?_
          refine sw_iload_n (pc' := 85) dX5_see_84 rfl rfl ?_
          refine sw_iast (pc' := 86) dX5_see_85 (tbk_57) rfl (fun s85 => ?_)
          refine sw_aload_n (pc' := 87) dX5_see_86 rfl rfl ?_
          refine sw_dup (pc' := 88) dX5_see_87 rfl rfl ?_
          refine sw_getn (pc' := 91) dX5_see_88 fl_X5_134 (tbk_51) rfl rfl ?_
          refine sw_iconst (pc' := 92) dX5_see_91 rfl ?_
          refine sw_iadd (pc' := 93) dX5_see_92 rfl ?_
          refine sw_putI (pc' := 96) dX5_see_93 fp_X5_134 (tbk_51) rfl rfl (fun s93 => ?_)
          refine sw_aload_n (pc' := 97) dX5_see_96 rfl rfl ?_
          refine sw_getn (pc' := 100) dX5_see_97 fl_X5_134 (tbk_51) rfl rfl ?_
          exact sw_iret dX5_see_100
      · refine sw_iconst (pc' := 33) dX5_see_32 rfl ?_
        exact sw_iret dX5_see_33
    · refine sw_iconst (pc' := 33) dX5_see_32 rfl ?_
      exact sw_iret dX5_see_33
  · refine sw_iconst (pc' := 33) dX5_see_32 rfl ?_
    exact sw_iret dX5_see_33
def rm_X5_forget : Room := { frames := 1, cells := 0, slots := 0, locals := 25 }
def f_X5_forget (x1 : Int) (σ : St) : Option (Int × St) :=
  bI (f_X5_in (wr x1) 0 (wr (σ 51 23)) σ) fun v8 s8 => if v8 then
    bV (pf s8 51 23 x1) fun s23 => some ((s8 51 23), s23)
  else
    some ((-1), s8)
set_option maxRecDepth 20000 in
theorem m_X5_forget (x1 : Int)  (σ : St) : MT G l yX5_forget cX5_forget 3 (some .int) rm_X5_forget [.ref (ad G 51), vi x1] wI σ (f_X5_forget x1 σ) := by
  refine mt_I (L := [some (.ref (ad G 51)), some (vi x1), none]) rfl (Nat.le_of_ble_eq_true rfl) rfl ?_
  show SW G l RX5 cX5_forget 3 rm_X5_forget wI 0 [some (.ref (ad G 51)), some (vi x1), none] [] σ (f_X5_forget x1 σ)
  unfold f_X5_forget
  refine sw_iload_n (pc' := 1) dX5_forget_0 rfl rfl ?_
  refine sw_i2l (pc' := 2) dX5_forget_1 rfl ?_
  refine sw_lconst (x := 0) (pc' := 3) dX5_forget_2 rfl rfl ?_
  refine sw_aload_n (pc' := 4) dX5_forget_3 rfl rfl ?_
  refine sw_getn (pc' := 7) dX5_forget_4 fl_X5_134 (tbk_51) rfl rfl ?_
  refine sw_i2l (pc' := 8) dX5_forget_7 rfl ?_
  refine sw_callSB (pc' := 11) (As := [vl (wr x1), vl 0, vl (wr (σ 51 23))]) (rest := []) dX5_forget_8 cs_X5_46 (m_X5_in (wr x1) 0 (wr (σ 51 23)) σ) rfl rfl rfl rfl rfl (fun v8 s8 => ?_)
  refine sw_bif_ne (tgt := 16) (pc' := 14) dX5_forget_11 (by decide) rfl (fun _ => ?_) (fun _ => ?_)
  · refine sw_aload_n (pc' := 17) dX5_forget_16 rfl rfl ?_
    refine sw_getn (pc' := 20) dX5_forget_17 fl_X5_134 (tbk_51) rfl rfl ?_
    refine sw_istore_n (pc' := 21) (x := (s8 51 23)) (L' := [some (.ref (ad G 51)), some (vi x1), some (vi (s8 51 23))]) dX5_forget_20 rfl (by decide) rfl rfl ?_
    refine sw_aload_n (pc' := 22) dX5_forget_21 rfl rfl ?_
    refine sw_iload_n (pc' := 23) dX5_forget_22 rfl rfl ?_
    refine sw_putI (pc' := 26) dX5_forget_23 fp_X5_134 (tbk_51) rfl rfl (fun s23 => ?_)
    refine sw_iload_n (pc' := 27) dX5_forget_26 rfl rfl ?_
    exact sw_iret dX5_forget_27
  · refine sw_iconst (pc' := 15) dX5_forget_14 rfl ?_
    exact sw_iret dX5_forget_15
def rm_X5_isAsSeen : Room := { frames := 5, cells := 0, slots := 0, locals := 115 }
def f_X5_isAsSeen_131  (k12 : Int → Int → Int → St → Option (Bool × St)) (k66 : Int → Int → Int → Int → St → Option (Bool × St)) (x1 x3 x4 t0 : Int) (σ : St) : Option (Bool × St) :=
  k66 x1 t0 x3 (x4 + 1) σ
set_option maxRecDepth 20000 in
theorem s_X5_isAsSeen_131   (k12 : Int → Int → Int → St → Option (Bool × St)) (k66 : Int → Int → Int → Int → St → Option (Bool × St)) (hk12 : ∀ (x1 x2 x3 : Int) (σ : St), SW G l RX5 cX5_isAsSeen 5 rm_X5_isAsSeen wB 12 [some (.ref (ad G 51)), some (vi x1), some (vi x2), some (vi x3), none] [] σ (k12 x1 x2 x3 σ)) (hk66 : ∀ (x1 x2 x3 x4 : Int) (σ : St), SW G l RX5 cX5_isAsSeen 5 rm_X5_isAsSeen wB 66 [some (.ref (ad G 51)), some (vi x1), some (vi x2), some (vi x3), some (vi x4)] [] σ (k66 x1 x2 x3 x4 σ)) (x1 x3 x4 t0 : Int) (σ : St) : SW G l RX5 cX5_isAsSeen 5 rm_X5_isAsSeen wB 131 [some (.ref (ad G 51)), some (vi x1), none, some (vi x3), some (vi x4)] [vi t0] σ (f_X5_isAsSeen_131 k12 k66 x1 x3 x4 t0 σ) := by
  unfold f_X5_isAsSeen_131
  refine sw_istore_n (pc' := 132) (x := t0) (L' := [some (.ref (ad G 51)), some (vi x1), some (vi t0), some (vi x3), some (vi x4)]) dX5_isAsSeen_131 rfl (by decide) rfl rfl ?_
  refine sw_iinc (pc' := 135) (x := x4) (L' := [some (.ref (ad G 51)), some (vi x1), some (vi t0), some (vi x3), some (vi (x4 + 1))]) dX5_isAsSeen_132 rfl (by decide) rfl rfl rfl ?_
  refine sw_goto (pc' := 66) dX5_isAsSeen_135 (by decide) ?_
  exact hk66 x1 t0 x3 (x4 + 1) σ
def f_X5_isAsSeen_126  (k12 : Int → Int → Int → St → Option (Bool × St)) (k66 : Int → Int → Int → Int → St → Option (Bool × St)) (x1 x3 x4 : Int) (σ : St) : Option (Bool × St) :=
  f_X5_isAsSeen_131 k12 k66 x1 x3 x4 1 σ
set_option maxRecDepth 20000 in
theorem s_X5_isAsSeen_126   (k12 : Int → Int → Int → St → Option (Bool × St)) (k66 : Int → Int → Int → Int → St → Option (Bool × St)) (hk12 : ∀ (x1 x2 x3 : Int) (σ : St), SW G l RX5 cX5_isAsSeen 5 rm_X5_isAsSeen wB 12 [some (.ref (ad G 51)), some (vi x1), some (vi x2), some (vi x3), none] [] σ (k12 x1 x2 x3 σ)) (hk66 : ∀ (x1 x2 x3 x4 : Int) (σ : St), SW G l RX5 cX5_isAsSeen 5 rm_X5_isAsSeen wB 66 [some (.ref (ad G 51)), some (vi x1), some (vi x2), some (vi x3), some (vi x4)] [] σ (k66 x1 x2 x3 x4 σ)) (x1 x3 x4 : Int) (σ : St) : SW G l RX5 cX5_isAsSeen 5 rm_X5_isAsSeen wB 126 [some (.ref (ad G 51)), some (vi x1), none, some (vi x3), some (vi x4)] [] σ (f_X5_isAsSeen_126 k12 k66 x1 x3 x4 σ) := by
  unfold f_X5_isAsSeen_126
  refine sw_iconst (pc' := 127) dX5_isAsSeen_126 rfl ?_
  refine sw_goto (pc' := 131) dX5_isAsSeen_127 (by decide) ?_
  exact s_X5_isAsSeen_131 k12 k66 hk12 hk66 x1 x3 x4 1 σ
def f_X5_isAsSeen_130  (k12 : Int → Int → Int → St → Option (Bool × St)) (k66 : Int → Int → Int → Int → St → Option (Bool × St)) (x1 x3 x4 : Int) (σ : St) : Option (Bool × St) :=
  f_X5_isAsSeen_131 k12 k66 x1 x3 x4 0 σ
set_option maxRecDepth 20000 in
theorem s_X5_isAsSeen_130   (k12 : Int → Int → Int → St → Option (Bool × St)) (k66 : Int → Int → Int → Int → St → Option (Bool × St)) (hk12 : ∀ (x1 x2 x3 : Int) (σ : St), SW G l RX5 cX5_isAsSeen 5 rm_X5_isAsSeen wB 12 [some (.ref (ad G 51)), some (vi x1), some (vi x2), some (vi x3), none] [] σ (k12 x1 x2 x3 σ)) (hk66 : ∀ (x1 x2 x3 x4 : Int) (σ : St), SW G l RX5 cX5_isAsSeen 5 rm_X5_isAsSeen wB 66 [some (.ref (ad G 51)), some (vi x1), some (vi x2), some (vi x3), some (vi x4)] [] σ (k66 x1 x2 x3 x4 σ)) (x1 x3 x4 : Int) (σ : St) : SW G l RX5 cX5_isAsSeen 5 rm_X5_isAsSeen wB 130 [some (.ref (ad G 51)), some (vi x1), none, some (vi x3), some (vi x4)] [] σ (f_X5_isAsSeen_130 k12 k66 x1 x3 x4 σ) := by
  unfold f_X5_isAsSeen_130
  refine sw_iconst (pc' := 131) dX5_isAsSeen_130 rfl ?_
  exact s_X5_isAsSeen_131 k12 k66 hk12 hk66 x1 x3 x4 0 σ
def f_X5_isAsSeen_66  (k12 : Int → Int → Int → St → Option (Bool × St)) : Nat → Int → Int → Int → Int → St → Option (Bool × St)
  | 0, _, _, _, _, _ => none
  | n + 1, x1, x2, x3, x4, σ =>
    if wr x4 < wr (σ 51 23) then
      if wr x2 = 0 then
        f_X5_isAsSeen_130 k12 (f_X5_isAsSeen_66 k12 n) x1 x3 x4 σ
      else
        bV (ld σ 57 18 (3 * x4)) fun v87 => if wr v87 = wr x3 then
          bV (ld σ 57 18 ((3 * x4) + 1)) fun v109 => bV (ld σ 52 330 (225 + v109)) fun v111 => bV (ld σ 57 18 ((3 * x4) + 2)) fun v122 => if wr v111 = wr v122 then
            f_X5_isAsSeen_126 k12 (f_X5_isAsSeen_66 k12 n) x1 x3 x4 σ
          else
            f_X5_isAsSeen_130 k12 (f_X5_isAsSeen_66 k12 n) x1 x3 x4 σ
        else
          f_X5_isAsSeen_126 k12 (f_X5_isAsSeen_66 k12 n) x1 x3 x4 σ
    else
      bV (f_X5_dayOn 220 σ) fun s142 => k12 x1 x2 (x3 + 1) s142
set_option maxRecDepth 20000 in
theorem s_X5_isAsSeen_66   (k12 : Int → Int → Int → St → Option (Bool × St)) (hk12 : ∀ (x1 x2 x3 : Int) (σ : St), SW G l RX5 cX5_isAsSeen 5 rm_X5_isAsSeen wB 12 [some (.ref (ad G 51)), some (vi x1), some (vi x2), some (vi x3), none] [] σ (k12 x1 x2 x3 σ)) : ∀ (n : Nat) (x1 x2 x3 x4 : Int) (σ : St), SW G l RX5 cX5_isAsSeen 5 rm_X5_isAsSeen wB 66 [some (.ref (ad G 51)), some (vi x1), some (vi x2), some (vi x3), some (vi x4)] [] σ (f_X5_isAsSeen_66 k12 n x1 x2 x3 x4 σ) := by
  intro n
  induction n with
  | zero => intro x1 x2 x3 x4 σ; exact sw_none
  | succ n ih =>
    intro x1 x2 x3 x4 σ
    rw [f_X5_isAsSeen_66]
    refine sw_iload (pc' := 68) dX5_isAsSeen_66 rfl rfl ?_
    refine sw_aload_n (pc' := 69) dX5_isAsSeen_68 rfl rfl ?_
    refine sw_getn (pc' := 72) dX5_isAsSeen_69 fl_X5_134 (tbk_51) rfl rfl ?_
    refine sw_icmp_ge (tgt := 138) (pc' := 75) dX5_isAsSeen_72 (by decide) rfl (fun _ => ?_) (fun _ => ?_)
    · refine sw_iload_n (pc' := 76) dX5_isAsSeen_75 rfl rfl ?_
      refine sw_if_eq (tgt := 130) (pc' := 79) dX5_isAsSeen_76 (by decide) rfl (fun _ => ?_) (fun _ => ?_)
      · refine sw_msk [true, true, false, true, true] rfl ?_
        exact s_X5_isAsSeen_130 k12 (f_X5_isAsSeen_66 k12 n) hk12 (ih) x1 x3 x4 σ
      · refine sw_aload_n (pc' := 80) dX5_isAsSeen_79 rfl rfl ?_
        refine sw_getr (pc' := 83) dX5_isAsSeen_80 fl_X5_25 (tbk_51) rfl rfl ?_
        refine sw_iconst (pc' := 84) dX5_isAsSeen_83 rfl ?_
        refine sw_iload (pc' := 86) dX5_isAsSeen_84 rfl rfl ?_
        refine sw_imul (pc' := 87) dX5_isAsSeen_86 rfl ?_
        refine sw_iald (pc' := 88) dX5_isAsSeen_87 (tbk_57) rfl (fun v87 => ?_)
        refine sw_iload_n (pc' := 89) dX5_isAsSeen_88 rfl rfl ?_
        refine sw_icmp_ne (tgt := 126) (pc' := 92) dX5_isAsSeen_89 (by decide) rfl (fun _ => ?_) (fun _ => ?_)
        · refine sw_aload_n (pc' := 93) dX5_isAsSeen_92 rfl rfl ?_
          refine sw_getr (pc' := 96) dX5_isAsSeen_93 fl_X5_7 (tbk_51) rfl rfl ?_
          refine sw_sipush (pc' := 99) dX5_isAsSeen_96 rfl rfl ?_
          refine sw_aload_n (pc' := 100) dX5_isAsSeen_99 rfl rfl ?_
          refine sw_getr (pc' := 103) dX5_isAsSeen_100 fl_X5_25 (tbk_51) rfl rfl ?_
          refine sw_iconst (pc' := 104) dX5_isAsSeen_103 rfl ?_
          refine sw_iload (pc' := 106) dX5_isAsSeen_104 rfl rfl ?_
          refine sw_imul (pc' := 107) dX5_isAsSeen_106 rfl ?_
          refine sw_iconst (pc' := 108) dX5_isAsSeen_107 rfl ?_
          refine sw_iadd (pc' := 109) dX5_isAsSeen_108 rfl ?_
          refine sw_iald (pc' := 110) dX5_isAsSeen_109 (tbk_57) rfl (fun v109 => ?_)
          refine sw_iadd (pc' := 111) dX5_isAsSeen_110 rfl ?_
          refine sw_iald (pc' := 112) dX5_isAsSeen_111 (tbk_52) rfl (fun v111 => ?_)
          refine sw_aload_n (pc' := 113) dX5_isAsSeen_112 rfl rfl ?_
          refine sw_getr (pc' := 116) dX5_isAsSeen_113 fl_X5_25 (tbk_51) rfl rfl ?_
          refine sw_iconst (pc' := 117) dX5_isAsSeen_116 rfl ?_
          refine sw_iload (pc' := 119) dX5_isAsSeen_117 rfl rfl ?_
          refine sw_imul (pc' := 120) dX5_isAsSeen_119 rfl ?_
          refine sw_iconst (pc' := 121) dX5_isAsSeen_120 rfl ?_
          refine sw_iadd (pc' := 122) dX5_isAsSeen_121 rfl ?_
          refine sw_iald (pc' := 123) dX5_isAsSeen_122 (tbk_57) rfl (fun v122 => ?_)
          refine sw_icmp_ne (tgt := 130) (pc' := 126) dX5_isAsSeen_123 (by decide) rfl (fun _ => ?_) (fun _ => ?_)
          · refine sw_msk [true, true, false, true, true] rfl ?_
            exact s_X5_isAsSeen_126 k12 (f_X5_isAsSeen_66 k12 n) hk12 (ih) x1 x3 x4 σ
          · refine sw_msk [true, true, false, true, true] rfl ?_
            exact s_X5_isAsSeen_130 k12 (f_X5_isAsSeen_66 k12 n) hk12 (ih) x1 x3 x4 σ
        · refine sw_msk [true, true, false, true, true] rfl ?_
          exact s_X5_isAsSeen_126 k12 (f_X5_isAsSeen_66 k12 n) hk12 (ih) x1 x3 x4 σ
    · refine sw_aload_n (pc' := 139) dX5_isAsSeen_138 rfl rfl ?_
      refine sw_sipush (pc' := 142) dX5_isAsSeen_139 rfl rfl ?_
      refine sw_callVV (pc' := 145) (As := [vi 220]) (rest := []) dX5_isAsSeen_142 cv_X5_213 (tbk_51) (m_X5_dayOn 220 σ) rfl rfl rfl rfl rfl (fun s142 => ?_)
      refine sw_iinc (pc' := 148) (x := x3) (L' := [some (.ref (ad G 51)), some (vi x1), some (vi x2), some (vi (x3 + 1)), some (vi x4)]) dX5_isAsSeen_145 rfl (by decide) rfl rfl rfl ?_
      refine sw_goto (pc' := 12) dX5_isAsSeen_148 (by decide) ?_
      refine sw_msk [true, true, true, true, false] rfl ?_
      exact hk12 x1 x2 (x3 + 1) s142
def f_X5_isAsSeen_21  (k12 : Int → Int → Int → St → Option (Bool × St)) : Nat → Int → Int → Int → Int → St → Option (Bool × St)
  | 0, _, _, _, _, _ => none
  | n + 1, x1, x2, x3, x4, σ =>
    if wr x4 < wr (σ 51 1) then
      bV (ld σ 52 330 (225 + x4)) fun v55 => bV (sv σ 58 1680 (((105 * x1) + (5 * x3)) + x4) v55) fun s56 => (f_X5_isAsSeen_21 k12 n) x1 x2 x3 (x4 + 1) s56
    else
      f_X5_isAsSeen_66 k12 FU x1 x2 x3 0 σ
set_option maxRecDepth 20000 in
theorem s_X5_isAsSeen_21   (k12 : Int → Int → Int → St → Option (Bool × St)) (hk12 : ∀ (x1 x2 x3 : Int) (σ : St), SW G l RX5 cX5_isAsSeen 5 rm_X5_isAsSeen wB 12 [some (.ref (ad G 51)), some (vi x1), some (vi x2), some (vi x3), none] [] σ (k12 x1 x2 x3 σ)) : ∀ (n : Nat) (x1 x2 x3 x4 : Int) (σ : St), SW G l RX5 cX5_isAsSeen 5 rm_X5_isAsSeen wB 21 [some (.ref (ad G 51)), some (vi x1), some (vi x2), some (vi x3), some (vi x4)] [] σ (f_X5_isAsSeen_21 k12 n x1 x2 x3 x4 σ) := by
  intro n
  induction n with
  | zero => intro x1 x2 x3 x4 σ; exact sw_none
  | succ n ih =>
    intro x1 x2 x3 x4 σ
    rw [f_X5_isAsSeen_21]
    refine sw_iload (pc' := 23) dX5_isAsSeen_21 rfl rfl ?_
    refine sw_aload_n (pc' := 24) dX5_isAsSeen_23 rfl rfl ?_
    refine sw_getn (pc' := 27) dX5_isAsSeen_24 fl_X5_131 (tbk_51) rfl rfl ?_
    refine sw_icmp_ge (tgt := 63) (pc' := 30) dX5_isAsSeen_27 (by decide) rfl (fun _ => ?_) (fun _ => ?_)
    · refine sw_aload_n (pc' := 31) dX5_isAsSeen_30 rfl rfl ?_
      refine sw_getr (pc' := 34) dX5_isAsSeen_31 fl_X5_28 (tbk_51) rfl rfl ?_
      refine sw_bipush (pc' := 36) dX5_isAsSeen_34 rfl rfl ?_
      refine sw_iload_n (pc' := 37) dX5_isAsSeen_36 rfl rfl ?_
      refine sw_imul (pc' := 38) dX5_isAsSeen_37 rfl ?_
      refine sw_iconst (pc' := 39) dX5_isAsSeen_38 rfl ?_
      refine sw_iload_n (pc' := 40) dX5_isAsSeen_39 rfl rfl ?_
      refine sw_imul (pc' := 41) dX5_isAsSeen_40 rfl ?_
      refine sw_iadd (pc' := 42) dX5_isAsSeen_41 rfl ?_
      refine sw_iload (pc' := 44) dX5_isAsSeen_42 rfl rfl ?_
      refine sw_iadd (pc' := 45) dX5_isAsSeen_44 rfl ?_
      refine sw_aload_n (pc' := 46) dX5_isAsSeen_45 rfl rfl ?_
      refine sw_getr (pc' := 49) dX5_isAsSeen_46 fl_X5_7 (tbk_51) rfl rfl ?_
      refine sw_sipush (pc' := 52) dX5_isAsSeen_49 rfl rfl ?_
      refine sw_iload (pc' := 54) dX5_isAsSeen_52 rfl rfl ?_
      refine sw_iadd (pc' := 55) dX5_isAsSeen_54 rfl ?_
      refine sw_iald (pc' := 56) dX5_isAsSeen_55 (tbk_52) rfl (fun v55 => ?_)
      refine sw_iast (pc' := 57) dX5_isAsSeen_56 (tbk_58) rfl (fun s56 => ?_)
      refine sw_iinc (pc' := 60) (x := x4) (L' := [some (.ref (ad G 51)), some (vi x1), some (vi x2), some (vi x3), some (vi (x4 + 1))]) dX5_isAsSeen_57 rfl (by decide) rfl rfl rfl ?_
      refine sw_goto (pc' := 21) dX5_isAsSeen_60 (by decide) ?_
      exact (ih) x1 x2 x3 (x4 + 1) s56
    · refine sw_iconst (pc' := 64) dX5_isAsSeen_63 rfl ?_
      refine sw_istore (pc' := 66) (x := 0) (L' := [some (.ref (ad G 51)), some (vi x1), some (vi x2), some (vi x3), some (vi 0)]) dX5_isAsSeen_64 rfl (by decide) rfl rfl ?_
      exact s_X5_isAsSeen_66 k12 hk12 FU x1 x2 x3 0 σ
def f_X5_isAsSeen_12   : Nat → Int → Int → Int → St → Option (Bool × St)
  | 0, _, _, _, _ => none
  | n + 1, x1, x2, x3, σ =>
    if wr 20 < wr x3 then
      if wr x2 = 0 then some (false, σ) else if wr x2 = 1 then some (true, σ) else none
    else
      f_X5_isAsSeen_21 (f_X5_isAsSeen_12 n) FU x1 x2 x3 0 σ
set_option maxRecDepth 20000 in
theorem s_X5_isAsSeen_12     : ∀ (n : Nat) (x1 x2 x3 : Int) (σ : St), SW G l RX5 cX5_isAsSeen 5 rm_X5_isAsSeen wB 12 [some (.ref (ad G 51)), some (vi x1), some (vi x2), some (vi x3), none] [] σ (f_X5_isAsSeen_12 n x1 x2 x3 σ) := by
  intro n
  induction n with
  | zero => intro x1 x2 x3 σ; exact sw_none
  | succ n ih =>
    intro x1 x2 x3 σ
    rw [f_X5_isAsSeen_12]
    refine sw_iload_n (pc' := 13) dX5_isAsSeen_12 rfl rfl ?_
    refine sw_bipush (pc' := 15) dX5_isAsSeen_13 rfl rfl ?_
    refine sw_icmp_gt (tgt := 151) (pc' := 18) dX5_isAsSeen_15 (by decide) rfl (fun _ => ?_) (fun _ => ?_)
    · refine sw_iload_n (pc' := 152) dX5_isAsSeen_151 rfl rfl ?_
      exact sw_zret dX5_isAsSeen_152
    · refine sw_iconst (pc' := 19) dX5_isAsSeen_18 rfl ?_
      refine sw_istore (pc' := 21) (x := 0) (L' := [some (.ref (ad G 51)), some (vi x1), some (vi x2), some (vi x3), some (vi 0)]) dX5_isAsSeen_19 rfl (by decide) rfl rfl ?_
      exact s_X5_isAsSeen_21 (f_X5_isAsSeen_12 n) (ih) FU x1 x2 x3 0 σ
def f_X5_isAsSeen (x1 : Int) (σ : St) : Option (Bool × St) :=
  bV (f_X5_copies 0 220 σ) fun s5 => f_X5_isAsSeen_12 FU x1 1 0 s5
set_option maxRecDepth 20000 in
theorem m_X5_isAsSeen (x1 : Int)  (σ : St) : MT G l yX5_isAsSeen cX5_isAsSeen 5 (some .boolean) rm_X5_isAsSeen [.ref (ad G 51), vi x1] wB σ (f_X5_isAsSeen x1 σ) := by
  refine mt_B (L := [some (.ref (ad G 51)), some (vi x1), none, none, none]) rfl (Nat.le_of_ble_eq_true rfl) rfl ?_
  show SW G l RX5 cX5_isAsSeen 5 rm_X5_isAsSeen wB 0 [some (.ref (ad G 51)), some (vi x1), none, none, none] [] σ (f_X5_isAsSeen x1 σ)
  unfold f_X5_isAsSeen
  refine sw_aload_n (pc' := 1) dX5_isAsSeen_0 rfl rfl ?_
  refine sw_iconst (pc' := 2) dX5_isAsSeen_1 rfl ?_
  refine sw_sipush (pc' := 5) dX5_isAsSeen_2 rfl rfl ?_
  refine sw_callVV (pc' := 8) (As := [vi 0, vi 220]) (rest := []) dX5_isAsSeen_5 cv_X5_216 (tbk_51) (m_X5_copies 0 220 σ) rfl rfl rfl rfl rfl (fun s5 => ?_)
  refine sw_iconst (pc' := 9) dX5_isAsSeen_8 rfl ?_
  refine sw_istore_n (pc' := 10) (x := 1) (L' := [some (.ref (ad G 51)), some (vi x1), some (vi 1), none, none]) dX5_isAsSeen_9 rfl (by decide) rfl rfl ?_
  refine sw_iconst (pc' := 11) dX5_isAsSeen_10 rfl ?_
  refine sw_istore_n (pc' := 12) (x := 0) (L' := [some (.ref (ad G 51)), some (vi x1), some (vi 1), some (vi 0), none]) dX5_isAsSeen_11 rfl (by decide) rfl rfl ?_
  exact s_X5_isAsSeen_12 FU x1 1 0 s5
def rm_X5_kinds : Room := { frames := 6, cells := 0, slots := 0, locals := 139 }
def f_X5_kinds_53  (k22 : Int → Int → Int → Int → St → Option (Int × St)) (x1 x2 x4 t0 t1 : Int) (σ : St) : Option (Int × St) :=
  k22 x1 x2 (iod t0 t1) (x4 + 1) σ
set_option maxRecDepth 20000 in
theorem s_X5_kinds_53   (k22 : Int → Int → Int → Int → St → Option (Int × St)) (hk22 : ∀ (x1 x2 x3 x4 : Int) (σ : St), SW G l RX5 cX5_kinds 5 rm_X5_kinds wI 22 [some (.ref (ad G 51)), some (vi x1), some (vi x2), some (vi x3), some (vi x4)] [] σ (k22 x1 x2 x3 x4 σ)) (x1 x2 x4 t0 t1 : Int) (σ : St) : SW G l RX5 cX5_kinds 5 rm_X5_kinds wI 53 [some (.ref (ad G 51)), some (vi x1), some (vi x2), none, some (vi x4)] [vi t1, vi t0] σ (f_X5_kinds_53 k22 x1 x2 x4 t0 t1 σ) := by
  unfold f_X5_kinds_53
  refine sw_ior (pc' := 54) dX5_kinds_53 rfl ?_
  refine sw_istore_n (pc' := 55) (x := (iod t0 t1)) (L' := [some (.ref (ad G 51)), some (vi x1), some (vi x2), some (vi (iod t0 t1)), some (vi x4)]) dX5_kinds_54 rfl (by decide) rfl rfl ?_
  refine sw_iinc (pc' := 58) (x := x4) (L' := [some (.ref (ad G 51)), some (vi x1), some (vi x2), some (vi (iod t0 t1)), some (vi (x4 + 1))]) dX5_kinds_55 rfl (by decide) rfl rfl rfl ?_
  refine sw_goto (pc' := 22) dX5_kinds_58 (by decide) ?_
  exact hk22 x1 x2 (iod t0 t1) (x4 + 1) σ
def f_X5_kinds_22   : Nat → Int → Int → Int → Int → St → Option (Int × St)
  | 0, _, _, _, _, _ => none
  | n + 1, x1, x2, x3, x4, σ =>
    if wr x4 < wr 4 then
      bV (sv σ 52 330 x1 x4) fun s35 => bI (f_X5_isAsSeen 0 s35) fun v39 s39 => if v39 then
        f_X5_kinds_53 (f_X5_kinds_22 n) x1 x2 x4 x3 (isl 1 x4) s39
      else
        f_X5_kinds_53 (f_X5_kinds_22 n) x1 x2 x4 x3 0 s39
    else
      bV (sv σ 52 330 x1 x2) fun s67 => some (x3, s67)
set_option maxRecDepth 20000 in
theorem s_X5_kinds_22     : ∀ (n : Nat) (x1 x2 x3 x4 : Int) (σ : St), SW G l RX5 cX5_kinds 5 rm_X5_kinds wI 22 [some (.ref (ad G 51)), some (vi x1), some (vi x2), some (vi x3), some (vi x4)] [] σ (f_X5_kinds_22 n x1 x2 x3 x4 σ) := by
  intro n
  induction n with
  | zero => intro x1 x2 x3 x4 σ; exact sw_none
  | succ n ih =>
    intro x1 x2 x3 x4 σ
    rw [f_X5_kinds_22]
    refine sw_iload (pc' := 24) dX5_kinds_22 rfl rfl ?_
    refine sw_iconst (pc' := 25) dX5_kinds_24 rfl ?_
    refine sw_icmp_ge (tgt := 61) (pc' := 28) dX5_kinds_25 (by decide) rfl (fun _ => ?_) (fun _ => ?_)
    · refine sw_aload_n (pc' := 29) dX5_kinds_28 rfl rfl ?_
      refine sw_getr (pc' := 32) dX5_kinds_29 fl_X5_7 (tbk_51) rfl rfl ?_
      refine sw_iload_n (pc' := 33) dX5_kinds_32 rfl rfl ?_
      refine sw_iload (pc' := 35) dX5_kinds_33 rfl rfl ?_
      refine sw_iast (pc' := 36) dX5_kinds_35 (tbk_52) rfl (fun s35 => ?_)
      refine sw_iload_n (pc' := 37) dX5_kinds_36 rfl rfl ?_
      refine sw_aload_n (pc' := 38) dX5_kinds_37 rfl rfl ?_
      refine sw_iconst (pc' := 39) dX5_kinds_38 rfl ?_
      refine sw_callVB (pc' := 42) (As := [vi 0]) (rest := [vi x3]) dX5_kinds_39 cv_X5_252 (tbk_51) (m_X5_isAsSeen 0 s35) rfl rfl rfl rfl rfl (fun v39 s39 => ?_)
      refine sw_bif_eq (tgt := 52) (pc' := 45) dX5_kinds_42 (by decide) rfl (fun _ => ?_) (fun _ => ?_)
      · refine sw_iconst (pc' := 46) dX5_kinds_45 rfl ?_
        refine sw_iload (pc' := 48) dX5_kinds_46 rfl rfl ?_
        refine sw_ishl (pc' := 49) dX5_kinds_48 rfl ?_
        refine sw_goto (pc' := 53) dX5_kinds_49 (by decide) ?_
        refine sw_msk [true, true, true, false, true] rfl ?_
        exact s_X5_kinds_53 (f_X5_kinds_22 n) (ih) x1 x2 x4 x3 (isl 1 x4) s39
      · refine sw_iconst (pc' := 53) dX5_kinds_52 rfl ?_
        refine sw_msk [true, true, true, false, true] rfl ?_
        exact s_X5_kinds_53 (f_X5_kinds_22 n) (ih) x1 x2 x4 x3 0 s39
    · refine sw_aload_n (pc' := 62) dX5_kinds_61 rfl rfl ?_
      refine sw_getr (pc' := 65) dX5_kinds_62 fl_X5_7 (tbk_51) rfl rfl ?_
      refine sw_iload_n (pc' := 66) dX5_kinds_65 rfl rfl ?_
      refine sw_iload_n (pc' := 67) dX5_kinds_66 rfl rfl ?_
      refine sw_iast (pc' := 68) dX5_kinds_67 (tbk_52) rfl (fun s67 => ?_)
      refine sw_iload_n (pc' := 69) dX5_kinds_68 rfl rfl ?_
      exact sw_iret dX5_kinds_69
def f_X5_kinds (x1 : Int) (σ : St) : Option (Int × St) :=
  bI (f_X5_isRider x1 σ) fun v2 s2 => if v2 then
    bV (ld s2 52 330 x1) fun v15 => f_X5_kinds_22 FU x1 v15 0 0 s2
  else
    some ((-1), s2)
set_option maxRecDepth 20000 in
theorem m_X5_kinds (x1 : Int)  (σ : St) : MT G l yX5_kinds cX5_kinds 5 (some .int) rm_X5_kinds [.ref (ad G 51), vi x1] wI σ (f_X5_kinds x1 σ) := by
  refine mt_I (L := [some (.ref (ad G 51)), some (vi x1), none, none, none]) rfl (Nat.le_of_ble_eq_true rfl) rfl ?_
  show SW G l RX5 cX5_kinds 5 rm_X5_kinds wI 0 [some (.ref (ad G 51)), some (vi x1), none, none, none] [] σ (f_X5_kinds x1 σ)
  unfold f_X5_kinds
  refine sw_aload_n (pc' := 1) dX5_kinds_0 rfl rfl ?_
  refine sw_iload_n (pc' := 2) dX5_kinds_1 rfl rfl ?_
  refine sw_callVB (pc' := 5) (As := [vi x1]) (rest := []) dX5_kinds_2 cv_X5_182 (tbk_51) (m_X5_isRider x1 σ) rfl rfl rfl rfl rfl (fun v2 s2 => ?_)
  refine sw_bif_ne (tgt := 10) (pc' := 8) dX5_kinds_5 (by decide) rfl (fun _ => ?_) (fun _ => ?_)
  · refine sw_aload_n (pc' := 11) dX5_kinds_10 rfl rfl ?_
    refine sw_getr (pc' := 14) dX5_kinds_11 fl_X5_7 (tbk_51) rfl rfl ?_
    refine sw_iload_n (pc' := 15) dX5_kinds_14 rfl rfl ?_
    refine sw_iald (pc' := 16) dX5_kinds_15 (tbk_52) rfl (fun v15 => ?_)
    refine sw_istore_n (pc' := 17) (x := v15) (L' := [some (.ref (ad G 51)), some (vi x1), some (vi v15), none, none]) dX5_kinds_16 rfl (by decide) rfl rfl ?_
    refine sw_iconst (pc' := 18) dX5_kinds_17 rfl ?_
    refine sw_istore_n (pc' := 19) (x := 0) (L' := [some (.ref (ad G 51)), some (vi x1), some (vi v15), some (vi 0), none]) dX5_kinds_18 rfl (by decide) rfl rfl ?_
    refine sw_iconst (pc' := 20) dX5_kinds_19 rfl ?_
    refine sw_istore (pc' := 22) (x := 0) (L' := [some (.ref (ad G 51)), some (vi x1), some (vi v15), some (vi 0), some (vi 0)]) dX5_kinds_20 rfl (by decide) rfl rfl ?_
    exact s_X5_kinds_22 FU x1 v15 0 0 s2
  · refine sw_iconst (pc' := 9) dX5_kinds_8 rfl ?_
    exact sw_iret dX5_kinds_9
def rm_X5_upsOf : Room := { frames := 6, cells := 0, slots := 0, locals := 139 }
def f_X5_upsOf_49  (k14 : Int → Int → Int → Int → St → Option (Int × St)) (x1 x2 x4 t0 t1 : Int) (σ : St) : Option (Int × St) :=
  k14 x1 x2 (iod t0 t1) (x4 + 1) σ
set_option maxRecDepth 20000 in
theorem s_X5_upsOf_49   (k14 : Int → Int → Int → Int → St → Option (Int × St)) (hk14 : ∀ (x1 x2 x3 x4 : Int) (σ : St), SW G l RX5 cX5_upsOf 5 rm_X5_upsOf wI 14 [some (.ref (ad G 51)), some (vi x1), some (vi x2), some (vi x3), some (vi x4)] [] σ (k14 x1 x2 x3 x4 σ)) (x1 x2 x4 t0 t1 : Int) (σ : St) : SW G l RX5 cX5_upsOf 5 rm_X5_upsOf wI 49 [some (.ref (ad G 51)), some (vi x1), some (vi x2), none, some (vi x4)] [vi t1, vi t0] σ (f_X5_upsOf_49 k14 x1 x2 x4 t0 t1 σ) := by
  unfold f_X5_upsOf_49
  refine sw_ior (pc' := 50) dX5_upsOf_49 rfl ?_
  refine sw_istore_n (pc' := 51) (x := (iod t0 t1)) (L' := [some (.ref (ad G 51)), some (vi x1), some (vi x2), some (vi (iod t0 t1)), some (vi x4)]) dX5_upsOf_50 rfl (by decide) rfl rfl ?_
  refine sw_iinc (pc' := 54) (x := x4) (L' := [some (.ref (ad G 51)), some (vi x1), some (vi x2), some (vi (iod t0 t1)), some (vi (x4 + 1))]) dX5_upsOf_51 rfl (by decide) rfl rfl rfl ?_
  refine sw_goto (pc' := 14) dX5_upsOf_54 (by decide) ?_
  exact hk14 x1 x2 (iod t0 t1) (x4 + 1) σ
def f_X5_upsOf_14   : Nat → Int → Int → Int → Int → St → Option (Int × St)
  | 0, _, _, _, _, _ => none
  | n + 1, x1, x2, x3, x4, σ =>
    if wr x4 < wr 16 then
      bV (sv σ 52 330 (5 + x1) x4) fun s30 => bI (f_X5_isAsSeen x4 s30) fun v35 s35 => if v35 then
        f_X5_upsOf_49 (f_X5_upsOf_14 n) x1 x2 x4 x3 (isl 1 x4) s35
      else
        f_X5_upsOf_49 (f_X5_upsOf_14 n) x1 x2 x4 x3 0 s35
    else
      bV (sv σ 52 330 (5 + x1) x2) fun s65 => some (x3, s65)
set_option maxRecDepth 20000 in
theorem s_X5_upsOf_14     : ∀ (n : Nat) (x1 x2 x3 x4 : Int) (σ : St), SW G l RX5 cX5_upsOf 5 rm_X5_upsOf wI 14 [some (.ref (ad G 51)), some (vi x1), some (vi x2), some (vi x3), some (vi x4)] [] σ (f_X5_upsOf_14 n x1 x2 x3 x4 σ) := by
  intro n
  induction n with
  | zero => intro x1 x2 x3 x4 σ; exact sw_none
  | succ n ih =>
    intro x1 x2 x3 x4 σ
    rw [f_X5_upsOf_14]
    refine sw_iload (pc' := 16) dX5_upsOf_14 rfl rfl ?_
    refine sw_bipush (pc' := 18) dX5_upsOf_16 rfl rfl ?_
    refine sw_icmp_ge (tgt := 57) (pc' := 21) dX5_upsOf_18 (by decide) rfl (fun _ => ?_) (fun _ => ?_)
    · refine sw_aload_n (pc' := 22) dX5_upsOf_21 rfl rfl ?_
      refine sw_getr (pc' := 25) dX5_upsOf_22 fl_X5_7 (tbk_51) rfl rfl ?_
      refine sw_iconst (pc' := 26) dX5_upsOf_25 rfl ?_
      refine sw_iload_n (pc' := 27) dX5_upsOf_26 rfl rfl ?_
      refine sw_iadd (pc' := 28) dX5_upsOf_27 rfl ?_
      refine sw_iload (pc' := 30) dX5_upsOf_28 rfl rfl ?_
      refine sw_iast (pc' := 31) dX5_upsOf_30 (tbk_52) rfl (fun s30 => ?_)
      refine sw_iload_n (pc' := 32) dX5_upsOf_31 rfl rfl ?_
      refine sw_aload_n (pc' := 33) dX5_upsOf_32 rfl rfl ?_
      refine sw_iload (pc' := 35) dX5_upsOf_33 rfl rfl ?_
      refine sw_callVB (pc' := 38) (As := [vi x4]) (rest := [vi x3]) dX5_upsOf_35 cv_X5_252 (tbk_51) (m_X5_isAsSeen x4 s30) rfl rfl rfl rfl rfl (fun v35 s35 => ?_)
      refine sw_bif_eq (tgt := 48) (pc' := 41) dX5_upsOf_38 (by decide) rfl (fun _ => ?_) (fun _ => ?_)
      · refine sw_iconst (pc' := 42) dX5_upsOf_41 rfl ?_
        refine sw_iload (pc' := 44) dX5_upsOf_42 rfl rfl ?_
        refine sw_ishl (pc' := 45) dX5_upsOf_44 rfl ?_
        refine sw_goto (pc' := 49) dX5_upsOf_45 (by decide) ?_
        refine sw_msk [true, true, true, false, true] rfl ?_
        exact s_X5_upsOf_49 (f_X5_upsOf_14 n) (ih) x1 x2 x4 x3 (isl 1 x4) s35
      · refine sw_iconst (pc' := 49) dX5_upsOf_48 rfl ?_
        refine sw_msk [true, true, true, false, true] rfl ?_
        exact s_X5_upsOf_49 (f_X5_upsOf_14 n) (ih) x1 x2 x4 x3 0 s35
    · refine sw_aload_n (pc' := 58) dX5_upsOf_57 rfl rfl ?_
      refine sw_getr (pc' := 61) dX5_upsOf_58 fl_X5_7 (tbk_51) rfl rfl ?_
      refine sw_iconst (pc' := 62) dX5_upsOf_61 rfl ?_
      refine sw_iload_n (pc' := 63) dX5_upsOf_62 rfl rfl ?_
      refine sw_iadd (pc' := 64) dX5_upsOf_63 rfl ?_
      refine sw_iload_n (pc' := 65) dX5_upsOf_64 rfl rfl ?_
      refine sw_iast (pc' := 66) dX5_upsOf_65 (tbk_52) rfl (fun s65 => ?_)
      refine sw_iload_n (pc' := 67) dX5_upsOf_66 rfl rfl ?_
      exact sw_iret dX5_upsOf_67
def f_X5_upsOf (x1 : Int) (σ : St) : Option (Int × St) :=
  bV (ld σ 52 330 (5 + x1)) fun v7 => f_X5_upsOf_14 FU x1 v7 0 0 σ
set_option maxRecDepth 20000 in
theorem m_X5_upsOf (x1 : Int)  (σ : St) : MT G l yX5_upsOf cX5_upsOf 5 (some .int) rm_X5_upsOf [.ref (ad G 51), vi x1] wI σ (f_X5_upsOf x1 σ) := by
  refine mt_I (L := [some (.ref (ad G 51)), some (vi x1), none, none, none]) rfl (Nat.le_of_ble_eq_true rfl) rfl ?_
  show SW G l RX5 cX5_upsOf 5 rm_X5_upsOf wI 0 [some (.ref (ad G 51)), some (vi x1), none, none, none] [] σ (f_X5_upsOf x1 σ)
  unfold f_X5_upsOf
  refine sw_aload_n (pc' := 1) dX5_upsOf_0 rfl rfl ?_
  refine sw_getr (pc' := 4) dX5_upsOf_1 fl_X5_7 (tbk_51) rfl rfl ?_
  refine sw_iconst (pc' := 5) dX5_upsOf_4 rfl ?_
  refine sw_iload_n (pc' := 6) dX5_upsOf_5 rfl rfl ?_
  refine sw_iadd (pc' := 7) dX5_upsOf_6 rfl ?_
  refine sw_iald (pc' := 8) dX5_upsOf_7 (tbk_52) rfl (fun v7 => ?_)
  refine sw_istore_n (pc' := 9) (x := v7) (L' := [some (.ref (ad G 51)), some (vi x1), some (vi v7), none, none]) dX5_upsOf_8 rfl (by decide) rfl rfl ?_
  refine sw_iconst (pc' := 10) dX5_upsOf_9 rfl ?_
  refine sw_istore_n (pc' := 11) (x := 0) (L' := [some (.ref (ad G 51)), some (vi x1), some (vi v7), some (vi 0), none]) dX5_upsOf_10 rfl (by decide) rfl rfl ?_
  refine sw_iconst (pc' := 12) dX5_upsOf_11 rfl ?_
  refine sw_istore (pc' := 14) (x := 0) (L' := [some (.ref (ad G 51)), some (vi x1), some (vi v7), some (vi 0), some (vi 0)]) dX5_upsOf_12 rfl (by decide) rfl rfl ?_
  exact s_X5_upsOf_14 FU x1 v7 0 0 σ
def rm_X5_ups : Room := { frames := 7, cells := 0, slots := 0, locals := 163 }
def f_X5_ups (x1 : Int) (σ : St) : Option (Int × St) :=
  bI (f_X5_isRider x1 σ) fun v2 s2 => if v2 then
    bI (f_X5_upsOf x1 s2) fun v10 s10 => some (v10, s10)
  else
    some ((-1), s2)
set_option maxRecDepth 20000 in
theorem m_X5_ups (x1 : Int)  (σ : St) : MT G l yX5_ups cX5_ups 2 (some .int) rm_X5_ups [.ref (ad G 51), vi x1] wI σ (f_X5_ups x1 σ) := by
  refine mt_I (L := [some (.ref (ad G 51)), some (vi x1)]) rfl (Nat.le_of_ble_eq_true rfl) rfl ?_
  show SW G l RX5 cX5_ups 2 rm_X5_ups wI 0 [some (.ref (ad G 51)), some (vi x1)] [] σ (f_X5_ups x1 σ)
  unfold f_X5_ups
  refine sw_aload_n (pc' := 1) dX5_ups_0 rfl rfl ?_
  refine sw_iload_n (pc' := 2) dX5_ups_1 rfl rfl ?_
  refine sw_callVB (pc' := 5) (As := [vi x1]) (rest := []) dX5_ups_2 cv_X5_182 (tbk_51) (m_X5_isRider x1 σ) rfl rfl rfl rfl rfl (fun v2 s2 => ?_)
  refine sw_bif_eq (tgt := 16) (pc' := 8) dX5_ups_5 (by decide) rfl (fun _ => ?_) (fun _ => ?_)
  · refine sw_aload_n (pc' := 9) dX5_ups_8 rfl rfl ?_
    refine sw_iload_n (pc' := 10) dX5_ups_9 rfl rfl ?_
    refine sw_callVI (pc' := 13) (As := [vi x1]) (rest := []) dX5_ups_10 cv_X5_255 (tbk_51) (m_X5_upsOf x1 s2) rfl rfl rfl rfl rfl (fun v10 s10 => ?_)
    refine sw_goto (pc' := 17) dX5_ups_13 (by decide) ?_
    exact sw_iret dX5_ups_17
  · refine sw_iconst (pc' := 17) dX5_ups_16 rfl ?_
    exact sw_iret dX5_ups_17
end GEN
