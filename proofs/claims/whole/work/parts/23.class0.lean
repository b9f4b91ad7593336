section GEN
variable {G : Gh} {l : Launch}
def rm_X0_isSheet : Room := { frames := 0, cells := 0, slots := 0, locals := 0 }
def f_X0_isSheet (x1 : Int) (σ : St) : Option (Bool × St) :=
  if wr x1 < 0 then
    some (false, σ)
  else
    if wr x1 < wr 4 then
      some (true, σ)
    else
      some (false, σ)
set_option maxRecDepth 20000 in
theorem m_X0_isSheet (x1 : Int)  (σ : St) : MT G l yX0_isSheet cX0_isSheet 2 (some .boolean) rm_X0_isSheet [.ref (ad G 47), vi x1] wB σ (f_X0_isSheet x1 σ) := by
  refine mt_B (L := [some (.ref (ad G 47)), some (vi x1)]) rfl (Nat.le_of_ble_eq_true rfl) rfl ?_
  show SW G l RX0 cX0_isSheet 2 rm_X0_isSheet wB 0 [some (.ref (ad G 47)), some (vi x1)] [] σ (f_X0_isSheet x1 σ)
  unfold f_X0_isSheet
  refine sw_iload_n (pc' := 1) dX0_isSheet_0 rfl rfl ?_
  refine sw_if_lt (tgt := 13) (pc' := 4) dX0_isSheet_1 (by decide) rfl (fun _ => ?_) (fun _ => ?_)
  · refine sw_iconst (pc' := 14) dX0_isSheet_13 rfl ?_
    exact sw_bret (x := false) dX0_isSheet_14
  · refine sw_iload_n (pc' := 5) dX0_isSheet_4 rfl rfl ?_
    refine sw_iconst (pc' := 6) dX0_isSheet_5 rfl ?_
    refine sw_icmp_ge (tgt := 13) (pc' := 9) dX0_isSheet_6 (by decide) rfl (fun _ => ?_) (fun _ => ?_)
    · refine sw_iconst (pc' := 10) dX0_isSheet_9 rfl ?_
      refine sw_goto (pc' := 14) dX0_isSheet_10 (by decide) ?_
      exact sw_bret (x := true) dX0_isSheet_14
    · refine sw_iconst (pc' := 14) dX0_isSheet_13 rfl ?_
      exact sw_bret (x := false) dX0_isSheet_14
def rm_X0_isLane : Room := { frames := 0, cells := 0, slots := 0, locals := 0 }
def f_X0_isLane (x1 : Int) (σ : St) : Option (Bool × St) :=
  if wr x1 < 0 then
    some (false, σ)
  else
    if wr x1 < wr 3 then
      some (true, σ)
    else
      some (false, σ)
set_option maxRecDepth 20000 in
theorem m_X0_isLane (x1 : Int)  (σ : St) : MT G l yX0_isLane cX0_isLane 2 (some .boolean) rm_X0_isLane [.ref (ad G 47), vi x1] wB σ (f_X0_isLane x1 σ) := by
  refine mt_B (L := [some (.ref (ad G 47)), some (vi x1)]) rfl (Nat.le_of_ble_eq_true rfl) rfl ?_
  show SW G l RX0 cX0_isLane 2 rm_X0_isLane wB 0 [some (.ref (ad G 47)), some (vi x1)] [] σ (f_X0_isLane x1 σ)
  unfold f_X0_isLane
  refine sw_iload_n (pc' := 1) dX0_isLane_0 rfl rfl ?_
  refine sw_if_lt (tgt := 13) (pc' := 4) dX0_isLane_1 (by decide) rfl (fun _ => ?_) (fun _ => ?_)
  · refine sw_iconst (pc' := 14) dX0_isLane_13 rfl ?_
    exact sw_bret (x := false) dX0_isLane_14
  · refine sw_iload_n (pc' := 5) dX0_isLane_4 rfl rfl ?_
    refine sw_iconst (pc' := 6) dX0_isLane_5 rfl ?_
    refine sw_icmp_ge (tgt := 13) (pc' := 9) dX0_isLane_6 (by decide) rfl (fun _ => ?_) (fun _ => ?_)
    · refine sw_iconst (pc' := 10) dX0_isLane_9 rfl ?_
      refine sw_goto (pc' := 14) dX0_isLane_10 (by decide) ?_
      exact sw_bret (x := true) dX0_isLane_14
    · refine sw_iconst (pc' := 14) dX0_isLane_13 rfl ?_
      exact sw_bret (x := false) dX0_isLane_14
def rm_X0_renew : Room := { frames := 0, cells := 0, slots := 0, locals := 0 }
def f_X0_renew_17   : Nat → Int → Int → St → Option (St)
  | 0, _, _, _ => none
  | n + 1, x1, x4, σ =>
    if wr x4 < wr 40 then
      bV (sv σ 50 160 ((x1 * 40) + x4) 0) fun s36 => (f_X0_renew_17 n) x1 (x4 + 1) s36
    else
      some σ
set_option maxRecDepth 20000 in
theorem s_X0_renew_17     : ∀ (n : Nat) (x1 x4 : Int) (σ : St), SW G l RX0 cX0_renew 5 rm_X0_renew wV 17 [some (.ref (ad G 47)), some (vi x1), none, none, some (vi x4)] [] σ (f_X0_renew_17 n x1 x4 σ) := by
  intro n
  induction n with
  | zero => intro x1 x4 σ; exact sw_none
  | succ n ih =>
    intro x1 x4 σ
    rw [f_X0_renew_17]
    refine sw_iload (pc' := 19) dX0_renew_17 rfl rfl ?_
    refine sw_bipush (pc' := 21) dX0_renew_19 rfl rfl ?_
    refine sw_icmp_ge (tgt := 43) (pc' := 24) dX0_renew_21 (by decide) rfl (fun _ => ?_) (fun _ => ?_)
    · refine sw_aload_n (pc' := 25) dX0_renew_24 rfl rfl ?_
      refine sw_getr (pc' := 28) dX0_renew_25 fl_X0_18 (tbk_47) rfl rfl ?_
      refine sw_iload_n (pc' := 29) dX0_renew_28 rfl rfl ?_
      refine sw_bipush (pc' := 31) dX0_renew_29 rfl rfl ?_
      refine sw_imul (pc' := 32) dX0_renew_31 rfl ?_
      refine sw_iload (pc' := 34) dX0_renew_32 rfl rfl ?_
      refine sw_iadd (pc' := 35) dX0_renew_34 rfl ?_
      refine sw_iconst (pc' := 36) dX0_renew_35 rfl ?_
      refine sw_iast (pc' := 37) dX0_renew_36 (tbk_50) rfl (fun s36 => ?_)
      refine sw_iinc (pc' := 40) (x := x4) (L' := [some (.ref (ad G 47)), some (vi x1), none, none, some (vi (x4 + 1))]) dX0_renew_37 rfl (by decide) rfl rfl rfl ?_
      refine sw_goto (pc' := 17) dX0_renew_40 (by decide) ?_
      exact (ih) x1 (x4 + 1) s36
    · exact sw_vret dX0_renew_43
def f_X0_renew (x1 : Int) (x2 : Int) (x3 : Int) (σ : St) : Option (St) :=
  bV (sv σ 48 4 x1 x2) fun s6 => bV (sv s6 49 4 x1 x3) fun s13 => f_X0_renew_17 FU x1 0 s13
set_option maxRecDepth 20000 in
theorem m_X0_renew (x1 : Int) (x2 : Int) (x3 : Int)  (σ : St) : MT G l yX0_renew cX0_renew 5 none rm_X0_renew [.ref (ad G 47), vi x1, vi x2, vi x3] wV σ (f_X0_renew x1 x2 x3 σ) := by
  refine mt_V (L := [some (.ref (ad G 47)), some (vi x1), some (vi x2), some (vi x3), none]) rfl (Nat.le_of_ble_eq_true rfl) rfl ?_
  show SW G l RX0 cX0_renew 5 rm_X0_renew wV 0 [some (.ref (ad G 47)), some (vi x1), some (vi x2), some (vi x3), none] [] σ (f_X0_renew x1 x2 x3 σ)
  unfold f_X0_renew
  refine sw_aload_n (pc' := 1) dX0_renew_0 rfl rfl ?_
  refine sw_getr (pc' := 4) dX0_renew_1 fl_X0_11 (tbk_47) rfl rfl ?_
  refine sw_iload_n (pc' := 5) dX0_renew_4 rfl rfl ?_
  refine sw_iload_n (pc' := 6) dX0_renew_5 rfl rfl ?_
  refine sw_iast (pc' := 7) dX0_renew_6 (tbk_48) rfl (fun s6 => ?_)
  refine sw_aload_n (pc' := 8) dX0_renew_7 rfl rfl ?_
  refine sw_getr (pc' := 11) dX0_renew_8 fl_X0_15 (tbk_47) rfl rfl ?_
  refine sw_iload_n (pc' := 12) dX0_renew_11 rfl rfl ?_
  refine sw_iload_n (pc' := 13) dX0_renew_12 rfl rfl ?_
  refine sw_iast (pc' := 14) dX0_renew_13 (tbk_49) rfl (fun s13 => ?_)
  refine sw_iconst (pc' := 15) dX0_renew_14 rfl ?_
  refine sw_istore (pc' := 17) (x := 0) (L' := [some (.ref (ad G 47)), some (vi x1), some (vi x2), some (vi x3), some (vi 0)]) dX0_renew_15 rfl (by decide) rfl rfl ?_
  refine sw_msk [true, true, false, false, true] rfl ?_
  exact s_X0_renew_17 FU x1 0 s13
def rm_X0_faultOf : Room := { frames := 0, cells := 0, slots := 0, locals := 0 }
def f_X0_faultOf_41   (σ : St) : Option (Int × St) :=
  some (2, σ)
set_option maxRecDepth 20000 in
theorem s_X0_faultOf_41     (σ : St) : SW G l RX0 cX0_faultOf 5 rm_X0_faultOf wI 41 [none, none, none, none, none] [] σ (f_X0_faultOf_41 σ) := by
  unfold f_X0_faultOf_41
  refine sw_iconst (pc' := 42) dX0_faultOf_41 rfl ?_
  refine sw_goto (pc' := 46) dX0_faultOf_42 (by decide) ?_
  exact sw_iret dX0_faultOf_46
def f_X0_faultOf (x1 : Int) (x2 : Int) (x3 : Int) (x4 : Int) (σ : St) : Option (Int × St) :=
  bV (ld σ 49 4 x1) fun v5 => if wr v5 = wr (-1) then
    some (1, σ)
  else
    bV (ld σ 48 4 x1) fun v17 => if wr v17 = wr x2 then
      if wr x3 < 0 then
        f_X0_faultOf_41 σ
      else
        bV (ld σ 49 4 x1) fun v34 => if wr (v34 - x4) < wr x3 then
          f_X0_faultOf_41 σ
        else
          some (0, σ)
    else
      some (3, σ)
set_option maxRecDepth 20000 in
theorem m_X0_faultOf (x1 : Int) (x2 : Int) (x3 : Int) (x4 : Int)  (σ : St) : MT G l yX0_faultOf cX0_faultOf 5 (some .int) rm_X0_faultOf [.ref (ad G 47), vi x1, vi x2, vi x3, vi x4] wI σ (f_X0_faultOf x1 x2 x3 x4 σ) := by
  refine mt_I (L := [some (.ref (ad G 47)), some (vi x1), some (vi x2), some (vi x3), some (vi x4)]) rfl (Nat.le_of_ble_eq_true rfl) rfl ?_
  show SW G l RX0 cX0_faultOf 5 rm_X0_faultOf wI 0 [some (.ref (ad G 47)), some (vi x1), some (vi x2), some (vi x3), some (vi x4)] [] σ (f_X0_faultOf x1 x2 x3 x4 σ)
  unfold f_X0_faultOf
  refine sw_aload_n (pc' := 1) dX0_faultOf_0 rfl rfl ?_
  refine sw_getr (pc' := 4) dX0_faultOf_1 fl_X0_15 (tbk_47) rfl rfl ?_
  refine sw_iload_n (pc' := 5) dX0_faultOf_4 rfl rfl ?_
  refine sw_iald (pc' := 6) dX0_faultOf_5 (tbk_49) rfl (fun v5 => ?_)
  refine sw_iconst (pc' := 7) dX0_faultOf_6 rfl ?_
  refine sw_icmp_ne (tgt := 12) (pc' := 10) dX0_faultOf_7 (by decide) rfl (fun _ => ?_) (fun _ => ?_)
  · refine sw_iconst (pc' := 11) dX0_faultOf_10 rfl ?_
    exact sw_iret dX0_faultOf_11
  · refine sw_aload_n (pc' := 13) dX0_faultOf_12 rfl rfl ?_
    refine sw_getr (pc' := 16) dX0_faultOf_13 fl_X0_11 (tbk_47) rfl rfl ?_
    refine sw_iload_n (pc' := 17) dX0_faultOf_16 rfl rfl ?_
    refine sw_iald (pc' := 18) dX0_faultOf_17 (tbk_48) rfl (fun v17 => ?_)
    refine sw_iload_n (pc' := 19) dX0_faultOf_18 rfl rfl ?_
    refine sw_icmp_eq (tgt := 24) (pc' := 22) dX0_faultOf_19 (by decide) rfl (fun _ => ?_) (fun _ => ?_)
    · refine sw_iload_n (pc' := 25) dX0_faultOf_24 rfl rfl ?_
      refine sw_if_lt (tgt := 41) (pc' := 28) dX0_faultOf_25 (by decide) rfl (fun _ => ?_) (fun _ => ?_)
      · refine sw_msk [false, false, false, false, false] rfl ?_
        exact s_X0_faultOf_41 σ
      · refine sw_iload_n (pc' := 29) dX0_faultOf_28 rfl rfl ?_
        refine sw_aload_n (pc' := 30) dX0_faultOf_29 rfl rfl ?_
        refine sw_getr (pc' := 33) dX0_faultOf_30 fl_X0_15 (tbk_47) rfl rfl ?_
        refine sw_iload_n (pc' := 34) dX0_faultOf_33 rfl rfl ?_
        refine sw_iald (pc' := 35) dX0_faultOf_34 (tbk_49) rfl (fun v34 => ?_)
        refine sw_iload (pc' := 37) dX0_faultOf_35 rfl rfl ?_
        refine sw_isub (pc' := 38) dX0_faultOf_37 rfl ?_
        refine sw_icmp_le (tgt := 45) (pc' := 41) dX0_faultOf_38 (by decide) rfl (fun _ => ?_) (fun _ => ?_)
        · refine sw_msk [false, false, false, false, false] rfl ?_
          exact s_X0_faultOf_41 σ
        · refine sw_iconst (pc' := 46) dX0_faultOf_45 rfl ?_
          exact sw_iret dX0_faultOf_46
    · refine sw_iconst (pc' := 23) dX0_faultOf_22 rfl ?_
      exact sw_iret dX0_faultOf_23
def rm_X0_cell : Room := { frames := 0, cells := 0, slots := 0, locals := 0 }
def f_X0_cell (x1 : Int) (x2 : Int) (σ : St) : Option (Int × St) :=
  bV (ld σ 50 160 ((x1 * 40) + x2)) fun v10 => some (v10, σ)
set_option maxRecDepth 20000 in
theorem m_X0_cell (x1 : Int) (x2 : Int)  (σ : St) : MT G l yX0_cell cX0_cell 3 (some .int) rm_X0_cell [.ref (ad G 47), vi x1, vi x2] wI σ (f_X0_cell x1 x2 σ) := by
  refine mt_I (L := [some (.ref (ad G 47)), some (vi x1), some (vi x2)]) rfl (Nat.le_of_ble_eq_true rfl) rfl ?_
  show SW G l RX0 cX0_cell 3 rm_X0_cell wI 0 [some (.ref (ad G 47)), some (vi x1), some (vi x2)] [] σ (f_X0_cell x1 x2 σ)
  unfold f_X0_cell
  refine sw_aload_n (pc' := 1) dX0_cell_0 rfl rfl ?_
  refine sw_getr (pc' := 4) dX0_cell_1 fl_X0_18 (tbk_47) rfl rfl ?_
  refine sw_iload_n (pc' := 5) dX0_cell_4 rfl rfl ?_
  refine sw_bipush (pc' := 7) dX0_cell_5 rfl rfl ?_
  refine sw_imul (pc' := 8) dX0_cell_7 rfl ?_
  refine sw_iload_n (pc' := 9) dX0_cell_8 rfl rfl ?_
  refine sw_iadd (pc' := 10) dX0_cell_9 rfl ?_
  refine sw_iald (pc' := 11) dX0_cell_10 (tbk_50) rfl (fun v10 => ?_)
  exact sw_iret dX0_cell_11
def rm_X0_put : Room := { frames := 0, cells := 0, slots := 0, locals := 0 }
def f_X0_put_30   (x1 x2 t0 : Int) (σ : St) : Option (St) :=
  bV (sv σ 50 160 ((x1 * 40) + x2) t0) fun s44 => some s44
set_option maxRecDepth 20000 in
theorem s_X0_put_30     (x1 x2 t0 : Int) (σ : St) : SW G l RX0 cX0_put 5 rm_X0_put wV 30 [some (.ref (ad G 47)), some (vi x1), some (vi x2), none, none] [vi t0] σ (f_X0_put_30 x1 x2 t0 σ) := by
  unfold f_X0_put_30
  refine sw_istore (pc' := 32) (x := t0) (L' := [some (.ref (ad G 47)), some (vi x1), some (vi x2), none, some (vi t0)]) dX0_put_30 rfl (by decide) rfl rfl ?_
  refine sw_aload_n (pc' := 33) dX0_put_32 rfl rfl ?_
  refine sw_getr (pc' := 36) dX0_put_33 fl_X0_18 (tbk_47) rfl rfl ?_
  refine sw_iload_n (pc' := 37) dX0_put_36 rfl rfl ?_
  refine sw_bipush (pc' := 39) dX0_put_37 rfl rfl ?_
  refine sw_imul (pc' := 40) dX0_put_39 rfl ?_
  refine sw_iload_n (pc' := 41) dX0_put_40 rfl rfl ?_
  refine sw_iadd (pc' := 42) dX0_put_41 rfl ?_
  refine sw_iload (pc' := 44) dX0_put_42 rfl rfl ?_
  refine sw_iast (pc' := 45) dX0_put_44 (tbk_50) rfl (fun s44 => ?_)
  exact sw_vret dX0_put_45
def f_X0_put (x1 : Int) (x2 : Int) (x3 : Int) (σ : St) : Option (St) :=
  bV (ld σ 48 4 x1) fun v5 => if wr v5 = 0 then
    f_X0_put_30 x1 x2 (nby x3) σ
  else
    bV (ld σ 48 4 x1) fun v19 => if wr v19 = wr 1 then
      f_X0_put_30 x1 x2 (nsh x3) σ
    else
      f_X0_put_30 x1 x2 x3 σ
set_option maxRecDepth 20000 in
theorem m_X0_put (x1 : Int) (x2 : Int) (x3 : Int)  (σ : St) : MT G l yX0_put cX0_put 5 none rm_X0_put [.ref (ad G 47), vi x1, vi x2, vi x3] wV σ (f_X0_put x1 x2 x3 σ) := by
  refine mt_V (L := [some (.ref (ad G 47)), some (vi x1), some (vi x2), some (vi x3), none]) rfl (Nat.le_of_ble_eq_true rfl) rfl ?_
  show SW G l RX0 cX0_put 5 rm_X0_put wV 0 [some (.ref (ad G 47)), some (vi x1), some (vi x2), some (vi x3), none] [] σ (f_X0_put x1 x2 x3 σ)
  unfold f_X0_put
  refine sw_aload_n (pc' := 1) dX0_put_0 rfl rfl ?_
  refine sw_getr (pc' := 4) dX0_put_1 fl_X0_11 (tbk_47) rfl rfl ?_
  refine sw_iload_n (pc' := 5) dX0_put_4 rfl rfl ?_
  refine sw_iald (pc' := 6) dX0_put_5 (tbk_48) rfl (fun v5 => ?_)
  refine sw_if_ne (tgt := 14) (pc' := 9) dX0_put_6 (by decide) rfl (fun _ => ?_) (fun _ => ?_)
  · refine sw_iload_n (pc' := 10) dX0_put_9 rfl rfl ?_
    refine sw_i2b (pc' := 11) dX0_put_10 rfl ?_
    refine sw_goto (pc' := 30) dX0_put_11 (by decide) ?_
    refine sw_msk [true, true, true, false, false] rfl ?_
    exact s_X0_put_30 x1 x2 (nby x3) σ
  · refine sw_aload_n (pc' := 15) dX0_put_14 rfl rfl ?_
    refine sw_getr (pc' := 18) dX0_put_15 fl_X0_11 (tbk_47) rfl rfl ?_
    refine sw_iload_n (pc' := 19) dX0_put_18 rfl rfl ?_
    refine sw_iald (pc' := 20) dX0_put_19 (tbk_48) rfl (fun v19 => ?_)
    refine sw_iconst (pc' := 21) dX0_put_20 rfl ?_
    refine sw_icmp_ne (tgt := 29) (pc' := 24) dX0_put_21 (by decide) rfl (fun _ => ?_) (fun _ => ?_)
    · refine sw_iload_n (pc' := 25) dX0_put_24 rfl rfl ?_
      refine sw_i2s (pc' := 26) dX0_put_25 rfl ?_
      refine sw_goto (pc' := 30) dX0_put_26 (by decide) ?_
      refine sw_msk [true, true, true, false, false] rfl ?_
      exact s_X0_put_30 x1 x2 (nsh x3) σ
    · refine sw_iload_n (pc' := 30) dX0_put_29 rfl rfl ?_
      refine sw_msk [true, true, true, false, false] rfl ?_
      exact s_X0_put_30 x1 x2 x3 σ
def rm_X1_append : Room := { frames := 0, cells := 0, slots := 0, locals := 0 }
def f_X1_append (x1 : Int) (x2 : Int) (x3 : Int) (σ : St) : Option (Bool × St) :=
  if wr (σ 43 0) < wr 6 then
    bV (sv σ 44 6 (σ 43 0) x1) fun s20 => bV (sv s20 45 6 (s20 43 0) x2) fun s30 => bV (sv s30 46 6 (s30 43 0) x3) fun s40 => bV (pf s40 43 0 ((s40 43 0) + 1)) fun s48 => some (true, s48)
  else
    some (false, σ)
set_option maxRecDepth 20000 in
theorem m_X1_append (x1 : Int) (x2 : Int) (x3 : Int)  (σ : St) : MT G l yX1_append cX1_append 4 (some .boolean) rm_X1_append [.ref (ad G 43), vi x1, vi x2, vi x3] wB σ (f_X1_append x1 x2 x3 σ) := by
  refine mt_B (L := [some (.ref (ad G 43)), some (vi x1), some (vi x2), some (vi x3)]) rfl (Nat.le_of_ble_eq_true rfl) rfl ?_
  show SW G l RX1 cX1_append 4 rm_X1_append wB 0 [some (.ref (ad G 43)), some (vi x1), some (vi x2), some (vi x3)] [] σ (f_X1_append x1 x2 x3 σ)
  unfold f_X1_append
  refine sw_aload_n (pc' := 1) dX1_append_0 rfl rfl ?_
  refine sw_getn (pc' := 4) dX1_append_1 fl_X1_19 (tbk_43) rfl rfl ?_
  refine sw_bipush (pc' := 6) dX1_append_4 rfl rfl ?_
  refine sw_icmp_lt (tgt := 11) (pc' := 9) dX1_append_6 (by decide) rfl (fun _ => ?_) (fun _ => ?_)
  · refine sw_aload_n (pc' := 12) dX1_append_11 rfl rfl ?_
    refine sw_getr (pc' := 15) dX1_append_12 fl_X1_9 (tbk_43) rfl rfl ?_
    refine sw_aload_n (pc' := 16) dX1_append_15 rfl rfl ?_
    refine sw_getn (pc' := 19) dX1_append_16 fl_X1_19 (tbk_43) rfl rfl ?_
    refine sw_iload_n (pc' := 20) dX1_append_19 rfl rfl ?_
    refine sw_iast (pc' := 21) dX1_append_20 (tbk_44) rfl (fun s20 => ?_)
    refine sw_aload_n (pc' := 22) dX1_append_21 rfl rfl ?_
    refine sw_getr (pc' := 25) dX1_append_22 fl_X1_13 (tbk_43) rfl rfl ?_
    refine sw_aload_n (pc' := 26) dX1_append_25 rfl rfl ?_
    refine sw_getn (pc' := 29) dX1_append_26 fl_X1_19 (tbk_43) rfl rfl ?_
    refine sw_iload_n (pc' := 30) dX1_append_29 rfl rfl ?_
    refine sw_iast (pc' := 31) dX1_append_30 (tbk_45) rfl (fun s30 => ?_)
    refine sw_aload_n (pc' := 32) dX1_append_31 rfl rfl ?_
    refine sw_getr (pc' := 35) dX1_append_32 fl_X1_16 (tbk_43) rfl rfl ?_
    refine sw_aload_n (pc' := 36) dX1_append_35 rfl rfl ?_
    refine sw_getn (pc' := 39) dX1_append_36 fl_X1_19 (tbk_43) rfl rfl ?_
    refine sw_iload_n (pc' := 40) dX1_append_39 rfl rfl ?_
    refine sw_iast (pc' := 41) dX1_append_40 (tbk_46) rfl (fun s40 => ?_)
    refine sw_aload_n (pc' := 42) dX1_append_41 rfl rfl ?_
    refine sw_dup (pc' := 43) dX1_append_42 rfl rfl ?_
    refine sw_getn (pc' := 46) dX1_append_43 fl_X1_19 (tbk_43) rfl rfl ?_
    refine sw_iconst (pc' := 47) dX1_append_46 rfl ?_
    refine sw_iadd (pc' := 48) dX1_append_47 rfl ?_
    refine sw_putI (pc' := 51) dX1_append_48 fp_X1_19 (tbk_43) rfl rfl (fun s48 => ?_)
    refine sw_iconst (pc' := 52) dX1_append_51 rfl ?_
    exact sw_bret (x := true) dX1_append_52
  · refine sw_iconst (pc' := 10) dX1_append_9 rfl ?_
    exact sw_bret (x := false) dX1_append_10
def rm_X1_areTrueOn : Room := { frames := 0, cells := 0, slots := 0, locals := 0 }
def f_X1_areTrueOn_42 (q : Nat) (k2 : Int → Int → St → Option (Bool × St)) (x1 x3 : Int) (σ : St) : Option (Bool × St) :=
  k2 x1 (x3 + 1) σ
set_option maxRecDepth 20000 in
theorem s_X1_areTrueOn_42 (q : Nat) (hq : isSq q) (k2 : Int → Int → St → Option (Bool × St)) (hk2 : ∀ (x1 x3 : Int) (σ : St), SW G l RX1 cX1_areTrueOn 4 rm_X1_areTrueOn wB 2 [some (.ref (ad G 43)), some (vi x1), some (.ref (ad G q)), some (vi x3)] [] σ (k2 x1 x3 σ)) (x1 x3 : Int) (σ : St) : SW G l RX1 cX1_areTrueOn 4 rm_X1_areTrueOn wB 42 [some (.ref (ad G 43)), some (vi x1), some (.ref (ad G q)), some (vi x3)] [] σ (f_X1_areTrueOn_42 q k2 x1 x3 σ) := by
  unfold f_X1_areTrueOn_42
  refine sw_iinc (pc' := 45) (x := x3) (L' := [some (.ref (ad G 43)), some (vi x1), some (.ref (ad G q)), some (vi (x3 + 1))]) dX1_areTrueOn_42 rfl (by decide) rfl rfl rfl ?_
  refine sw_goto (pc' := 2) dX1_areTrueOn_45 (by decide) ?_
  exact hk2 x1 (x3 + 1) σ
def f_X1_areTrueOn_2 (q : Nat)  : Nat → Int → Int → St → Option (Bool × St)
  | 0, _, _, _ => none
  | n + 1, x1, x3, σ =>
    if wr x3 < wr (σ 43 0) then
      bV (ld σ 44 6 x3) fun v15 => if wr v15 = wr x1 then
        bV (ld σ 45 6 x3) fun v29 => bV (ld σ (q + 2) 5 v29) fun v30 => bV (ld σ 46 6 x3) fun v36 => if wr v30 = wr v36 then
          f_X1_areTrueOn_42 q (f_X1_areTrueOn_2 q n) x1 x3 σ
        else
          some (false, σ)
      else
        f_X1_areTrueOn_42 q (f_X1_areTrueOn_2 q n) x1 x3 σ
    else
      some (true, σ)
set_option maxRecDepth 20000 in
theorem s_X1_areTrueOn_2 (q : Nat) (hq : isSq q)   : ∀ (n : Nat) (x1 x3 : Int) (σ : St), SW G l RX1 cX1_areTrueOn 4 rm_X1_areTrueOn wB 2 [some (.ref (ad G 43)), some (vi x1), some (.ref (ad G q)), some (vi x3)] [] σ (f_X1_areTrueOn_2 q n x1 x3 σ) := by
  intro n
  induction n with
  | zero => intro x1 x3 σ; exact sw_none
  | succ n ih =>
    intro x1 x3 σ
    rw [f_X1_areTrueOn_2]
    refine sw_iload_n (pc' := 3) dX1_areTrueOn_2 rfl rfl ?_
    refine sw_aload_n (pc' := 4) dX1_areTrueOn_3 rfl rfl ?_
    refine sw_getn (pc' := 7) dX1_areTrueOn_4 fl_X1_19 (tbk_43) rfl rfl ?_
    refine sw_icmp_ge (tgt := 48) (pc' := 10) dX1_areTrueOn_7 (by decide) rfl (fun _ => ?_) (fun _ => ?_)
    · refine sw_aload_n (pc' := 11) dX1_areTrueOn_10 rfl rfl ?_
      refine sw_getr (pc' := 14) dX1_areTrueOn_11 fl_X1_9 (tbk_43) rfl rfl ?_
      refine sw_iload_n (pc' := 15) dX1_areTrueOn_14 rfl rfl ?_
      refine sw_iald (pc' := 16) dX1_areTrueOn_15 (tbk_44) rfl (fun v15 => ?_)
      refine sw_iload_n (pc' := 17) dX1_areTrueOn_16 rfl rfl ?_
      refine sw_icmp_ne (tgt := 42) (pc' := 20) dX1_areTrueOn_17 (by decide) rfl (fun _ => ?_) (fun _ => ?_)
      · refine sw_aload_n (pc' := 21) dX1_areTrueOn_20 rfl rfl ?_
        refine sw_getr (pc' := 24) dX1_areTrueOn_21 fl_X1_42 (sqo hq) rfl rfl ?_
        refine sw_aload_n (pc' := 25) dX1_areTrueOn_24 rfl rfl ?_
        refine sw_getr (pc' := 28) dX1_areTrueOn_25 fl_X1_13 (tbk_43) rfl rfl ?_
        refine sw_iload_n (pc' := 29) dX1_areTrueOn_28 rfl rfl ?_
        refine sw_iald (pc' := 30) dX1_areTrueOn_29 (tbk_45) rfl (fun v29 => ?_)
        refine sw_iald (pc' := 31) dX1_areTrueOn_30 (sqa2 hq) rfl (fun v30 => ?_)
        refine sw_aload_n (pc' := 32) dX1_areTrueOn_31 rfl rfl ?_
        refine sw_getr (pc' := 35) dX1_areTrueOn_32 fl_X1_16 (tbk_43) rfl rfl ?_
        refine sw_iload_n (pc' := 36) dX1_areTrueOn_35 rfl rfl ?_
        refine sw_iald (pc' := 37) dX1_areTrueOn_36 (tbk_46) rfl (fun v36 => ?_)
        refine sw_icmp_eq (tgt := 42) (pc' := 40) dX1_areTrueOn_37 (by decide) rfl (fun _ => ?_) (fun _ => ?_)
        · exact s_X1_areTrueOn_42 q hq (f_X1_areTrueOn_2 q n) (ih) x1 x3 σ
        · refine sw_iconst (pc' := 41) dX1_areTrueOn_40 rfl ?_
          exact sw_bret (x := false) dX1_areTrueOn_41
      · exact s_X1_areTrueOn_42 q hq (f_X1_areTrueOn_2 q n) (ih) x1 x3 σ
    · refine sw_iconst (pc' := 49) dX1_areTrueOn_48 rfl ?_
      exact sw_bret (x := true) dX1_areTrueOn_49
def f_X1_areTrueOn (x1 : Int) (q : Nat) (σ : St) : Option (Bool × St) :=
  f_X1_areTrueOn_2 q FU x1 0 σ
set_option maxRecDepth 20000 in
theorem m_X1_areTrueOn (x1 : Int) (q : Nat) (hq : isSq q) (σ : St) : MT G l yX1_areTrueOn cX1_areTrueOn 4 (some .boolean) rm_X1_areTrueOn [.ref (ad G 43), vi x1, .ref (ad G q)] wB σ (f_X1_areTrueOn x1 q σ) := by
  refine mt_B (L := [some (.ref (ad G 43)), some (vi x1), some (.ref (ad G q)), none]) rfl (Nat.le_of_ble_eq_true rfl) rfl ?_
  show SW G l RX1 cX1_areTrueOn 4 rm_X1_areTrueOn wB 0 [some (.ref (ad G 43)), some (vi x1), some (.ref (ad G q)), none] [] σ (f_X1_areTrueOn x1 q σ)
  unfold f_X1_areTrueOn
  refine sw_iconst (pc' := 1) dX1_areTrueOn_0 rfl ?_
  refine sw_istore_n (pc' := 2) (x := 0) (L' := [some (.ref (ad G 43)), some (vi x1), some (.ref (ad G q)), some (vi 0)]) dX1_areTrueOn_1 rfl (by decide) rfl rfl ?_
  exact s_X1_areTrueOn_2 q hq FU x1 0 σ
def rm_X1_lastDay : Room := { frames := 1, cells := 0, slots := 0, locals := 21 }
def f_X1_lastDay_4   : Nat → Int → Int → St → Option (Int × St)
  | 0, _, _, _ => none
  | n + 1, x1, x2, σ =>
    if wr x2 < wr (σ 43 0) then
      bV (ld σ 44 6 x2) fun v18 => (f_X1_lastDay_4 n) (imx x1 v18) (x2 + 1) σ
    else
      some (x1, σ)
set_option maxRecDepth 20000 in
theorem s_X1_lastDay_4     : ∀ (n : Nat) (x1 x2 : Int) (σ : St), SW G l RX1 cX1_lastDay 3 rm_X1_lastDay wI 4 [some (.ref (ad G 43)), some (vi x1), some (vi x2)] [] σ (f_X1_lastDay_4 n x1 x2 σ) := by
  intro n
  induction n with
  | zero => intro x1 x2 σ; exact sw_none
  | succ n ih =>
    intro x1 x2 σ
    rw [f_X1_lastDay_4]
    refine sw_iload_n (pc' := 5) dX1_lastDay_4 rfl rfl ?_
    refine sw_aload_n (pc' := 6) dX1_lastDay_5 rfl rfl ?_
    refine sw_getn (pc' := 9) dX1_lastDay_6 fl_X1_19 (tbk_43) rfl rfl ?_
    refine sw_icmp_ge (tgt := 29) (pc' := 12) dX1_lastDay_9 (by decide) rfl (fun _ => ?_) (fun _ => ?_)
    · refine sw_iload_n (pc' := 13) dX1_lastDay_12 rfl rfl ?_
      refine sw_aload_n (pc' := 14) dX1_lastDay_13 rfl rfl ?_
      refine sw_getr (pc' := 17) dX1_lastDay_14 fl_X1_9 (tbk_43) rfl rfl ?_
      refine sw_iload_n (pc' := 18) dX1_lastDay_17 rfl rfl ?_
      refine sw_iald (pc' := 19) dX1_lastDay_18 (tbk_44) rfl (fun v18 => ?_)
      refine sw_imx (pc' := 22) dX1_lastDay_19 cm_X1_36 rfl rfl rfl ?_
      refine sw_istore_n (pc' := 23) (x := (imx x1 v18)) (L' := [some (.ref (ad G 43)), some (vi (imx x1 v18)), some (vi x2)]) dX1_lastDay_22 rfl (by decide) rfl rfl ?_
      refine sw_iinc (pc' := 26) (x := x2) (L' := [some (.ref (ad G 43)), some (vi (imx x1 v18)), some (vi (x2 + 1))]) dX1_lastDay_23 rfl (by decide) rfl rfl rfl ?_
      refine sw_goto (pc' := 4) dX1_lastDay_26 (by decide) ?_
      exact (ih) (imx x1 v18) (x2 + 1) σ
    · refine sw_iload_n (pc' := 30) dX1_lastDay_29 rfl rfl ?_
      exact sw_iret dX1_lastDay_30
def f_X1_lastDay  (σ : St) : Option (Int × St) :=
  f_X1_lastDay_4 FU (-1) 0 σ
set_option maxRecDepth 20000 in
theorem m_X1_lastDay   (σ : St) : MT G l yX1_lastDay cX1_lastDay 3 (some .int) rm_X1_lastDay [.ref (ad G 43)] wI σ (f_X1_lastDay σ) := by
  refine mt_I (L := [some (.ref (ad G 43)), none, none]) rfl (Nat.le_of_ble_eq_true rfl) rfl ?_
  show SW G l RX1 cX1_lastDay 3 rm_X1_lastDay wI 0 [some (.ref (ad G 43)), none, none] [] σ (f_X1_lastDay σ)
  unfold f_X1_lastDay
  refine sw_iconst (pc' := 1) dX1_lastDay_0 rfl ?_
  refine sw_istore_n (pc' := 2) (x := (-1)) (L' := [some (.ref (ad G 43)), some (vi (-1)), none]) dX1_lastDay_1 rfl (by decide) rfl rfl ?_
  refine sw_iconst (pc' := 3) dX1_lastDay_2 rfl ?_
  refine sw_istore_n (pc' := 4) (x := 0) (L' := [some (.ref (ad G 43)), some (vi (-1)), some (vi 0)]) dX1_lastDay_3 rfl (by decide) rfl rfl ?_
  exact s_X1_lastDay_4 FU (-1) 0 σ
def rm_X2_sumTrust : Room := { frames := 1, cells := 0, slots := 0, locals := 23 }
def f_X2_sumTrust_74 (q : Nat) (k10 : Int → Int → Int → St → Option (St)) (x1 x2 x3 : Int) (σ : St) : Option (St) :=
  k10 x1 x2 (x3 + 1) σ
set_option maxRecDepth 20000 in
theorem s_X2_sumTrust_74 (q : Nat) (hq : isSq q) (k10 : Int → Int → Int → St → Option (St)) (hk10 : ∀ (x1 x2 x3 : Int) (σ : St), SW G l RX2 cX2_sumTrust 4 rm_X2_sumTrust wV 10 [some (.ref (ad G q)), some (vi x1), some (vi x2), some (vi x3)] [] σ (k10 x1 x2 x3 σ)) (x1 x2 x3 : Int) (σ : St) : SW G l RX2 cX2_sumTrust 4 rm_X2_sumTrust wV 74 [some (.ref (ad G q)), some (vi x1), some (vi x2), some (vi x3)] [] σ (f_X2_sumTrust_74 q k10 x1 x2 x3 σ) := by
  unfold f_X2_sumTrust_74
  refine sw_iinc (pc' := 77) (x := x3) (L' := [some (.ref (ad G q)), some (vi x1), some (vi x2), some (vi (x3 + 1))]) dX2_sumTrust_74 rfl (by decide) rfl rfl rfl ?_
  refine sw_goto (pc' := 10) dX2_sumTrust_77 (by decide) ?_
  exact hk10 x1 x2 (x3 + 1) σ
def f_X2_sumTrust_10 (q : Nat)  : Nat → Int → Int → Int → St → Option (St)
  | 0, _, _, _, _ => none
  | n + 1, x1, x2, x3, σ =>
    if wr x3 < wr (σ q 6) then
      bV (ld σ (q + 7) 8 x3) fun v23 => if wr v23 = wr x1 then
        bV (ld σ (q + 5) 8 x3) fun v33 => if wr x2 < wr v33 then
          f_X2_sumTrust_74 q (f_X2_sumTrust_10 q n) x1 x2 x3 σ
        else
          if wr (iad (isr (σ q 11) x3) 1) = 0 then
            bV (ld σ (q + 8) 8 x3) fun v58 => bV (ld σ (q + 9) 4 v58) fun v60 => bV (ld σ (q + 6) 8 x3) fun v70 => bV (ld σ (q + 4) 4 v70) fun v71 => bV (sv σ (q + 9) 4 v58 (v60 + v71)) fun s73 => f_X2_sumTrust_74 q (f_X2_sumTrust_10 q n) x1 x2 x3 s73
          else
            f_X2_sumTrust_74 q (f_X2_sumTrust_10 q n) x1 x2 x3 σ
      else
        f_X2_sumTrust_74 q (f_X2_sumTrust_10 q n) x1 x2 x3 σ
    else
      some σ
set_option maxRecDepth 20000 in
theorem s_X2_sumTrust_10 (q : Nat) (hq : isSq q)   : ∀ (n : Nat) (x1 x2 x3 : Int) (σ : St), SW G l RX2 cX2_sumTrust 4 rm_X2_sumTrust wV 10 [some (.ref (ad G q)), some (vi x1), some (vi x2), some (vi x3)] [] σ (f_X2_sumTrust_10 q n x1 x2 x3 σ) := by
  intro n
  induction n with
  | zero => intro x1 x2 x3 σ; exact sw_none
  | succ n ih =>
    intro x1 x2 x3 σ
    rw [f_X2_sumTrust_10]
    refine sw_iload_n (pc' := 11) dX2_sumTrust_10 rfl rfl ?_
    refine sw_aload_n (pc' := 12) dX2_sumTrust_11 rfl rfl ?_
    refine sw_getn (pc' := 15) dX2_sumTrust_12 fl_X2_55 (sqo hq) rfl rfl ?_
    refine sw_icmp_ge (tgt := 80) (pc' := 18) dX2_sumTrust_15 (by decide) rfl (fun _ => ?_) (fun _ => ?_)
    · refine sw_aload_n (pc' := 19) dX2_sumTrust_18 rfl rfl ?_
      refine sw_getr (pc' := 22) dX2_sumTrust_19 fl_X2_30 (sqo hq) rfl rfl ?_
      refine sw_iload_n (pc' := 23) dX2_sumTrust_22 rfl rfl ?_
      refine sw_iald (pc' := 24) dX2_sumTrust_23 (sqa7 hq) rfl (fun v23 => ?_)
      refine sw_iload_n (pc' := 25) dX2_sumTrust_24 rfl rfl ?_
      refine sw_icmp_ne (tgt := 74) (pc' := 28) dX2_sumTrust_25 (by decide) rfl (fun _ => ?_) (fun _ => ?_)
      · refine sw_aload_n (pc' := 29) dX2_sumTrust_28 rfl rfl ?_
        refine sw_getr (pc' := 32) dX2_sumTrust_29 fl_X2_24 (sqo hq) rfl rfl ?_
        refine sw_iload_n (pc' := 33) dX2_sumTrust_32 rfl rfl ?_
        refine sw_iald (pc' := 34) dX2_sumTrust_33 (sqa5 hq) rfl (fun v33 => ?_)
        refine sw_iload_n (pc' := 35) dX2_sumTrust_34 rfl rfl ?_
        refine sw_icmp_gt (tgt := 74) (pc' := 38) dX2_sumTrust_35 (by decide) rfl (fun _ => ?_) (fun _ => ?_)
        · exact s_X2_sumTrust_74 q hq (f_X2_sumTrust_10 q n) (ih) x1 x2 x3 σ
        · refine sw_aload_n (pc' := 39) dX2_sumTrust_38 rfl rfl ?_
          refine sw_getn (pc' := 42) dX2_sumTrust_39 fl_X2_58 (sqo hq) rfl rfl ?_
          refine sw_iload_n (pc' := 43) dX2_sumTrust_42 rfl rfl ?_
          refine sw_ishr (pc' := 44) dX2_sumTrust_43 rfl ?_
          refine sw_iconst (pc' := 45) dX2_sumTrust_44 rfl ?_
          refine sw_iand (pc' := 46) dX2_sumTrust_45 rfl ?_
          refine sw_if_ne (tgt := 74) (pc' := 49) dX2_sumTrust_46 (by decide) rfl (fun _ => ?_) (fun _ => ?_)
          · refine sw_aload_n (pc' := 50) dX2_sumTrust_49 rfl rfl ?_
            refine sw_getr (pc' := 53) dX2_sumTrust_50 fl_X2_36 (sqo hq) rfl rfl ?_
            refine sw_aload_n (pc' := 54) dX2_sumTrust_53 rfl rfl ?_
            refine sw_getr (pc' := 57) dX2_sumTrust_54 fl_X2_33 (sqo hq) rfl rfl ?_
            refine sw_iload_n (pc' := 58) dX2_sumTrust_57 rfl rfl ?_
            refine sw_iald (pc' := 59) dX2_sumTrust_58 (sqa8 hq) rfl (fun v58 => ?_)
            refine sw_dup2 (pc' := 60) dX2_sumTrust_59 rfl rfl rfl ?_
            refine sw_iald (pc' := 61) dX2_sumTrust_60 (sqa9 hq) rfl (fun v60 => ?_)
            refine sw_aload_n (pc' := 62) dX2_sumTrust_61 rfl rfl ?_
            refine sw_getr (pc' := 65) dX2_sumTrust_62 fl_X2_21 (sqo hq) rfl rfl ?_
            refine sw_aload_n (pc' := 66) dX2_sumTrust_65 rfl rfl ?_
            refine sw_getr (pc' := 69) dX2_sumTrust_66 fl_X2_27 (sqo hq) rfl rfl ?_
            refine sw_iload_n (pc' := 70) dX2_sumTrust_69 rfl rfl ?_
            refine sw_iald (pc' := 71) dX2_sumTrust_70 (sqa6 hq) rfl (fun v70 => ?_)
            refine sw_iald (pc' := 72) dX2_sumTrust_71 (sqa4 hq) rfl (fun v71 => ?_)
            refine sw_iadd (pc' := 73) dX2_sumTrust_72 rfl ?_
            refine sw_iast (pc' := 74) dX2_sumTrust_73 (sqa9 hq) rfl (fun s73 => ?_)
            exact s_X2_sumTrust_74 q hq (f_X2_sumTrust_10 q n) (ih) x1 x2 x3 s73
          · exact s_X2_sumTrust_74 q hq (f_X2_sumTrust_10 q n) (ih) x1 x2 x3 σ
      · exact s_X2_sumTrust_74 q hq (f_X2_sumTrust_10 q n) (ih) x1 x2 x3 σ
    · exact sw_vret dX2_sumTrust_80
def f_X2_sumTrust (q : Nat) (x1 : Int) (x2 : Int) (σ : St) : Option (St) :=
  bV (f_J7_fill_53178 (q + 9) 4 0 σ) fun s5 => f_X2_sumTrust_10 q FU x1 x2 0 s5
set_option maxRecDepth 20000 in
theorem m_X2_sumTrust (q : Nat) (x1 : Int) (x2 : Int) (hq : isSq q) (σ : St) : MT G l yX2_sumTrust cX2_sumTrust 4 none rm_X2_sumTrust [.ref (ad G q), vi x1, vi x2] wV σ (f_X2_sumTrust q x1 x2 σ) := by
  refine mt_V (L := [some (.ref (ad G q)), some (vi x1), some (vi x2), none]) rfl (Nat.le_of_ble_eq_true rfl) rfl ?_
  show SW G l RX2 cX2_sumTrust 4 rm_X2_sumTrust wV 0 [some (.ref (ad G q)), some (vi x1), some (vi x2), none] [] σ (f_X2_sumTrust q x1 x2 σ)
  unfold f_X2_sumTrust
  refine sw_aload_n (pc' := 1) dX2_sumTrust_0 rfl rfl ?_
  refine sw_getr (pc' := 4) dX2_sumTrust_1 fl_X2_36 (sqo hq) rfl rfl ?_
  refine sw_iconst (pc' := 5) dX2_sumTrust_4 rfl ?_
  refine sw_callSV (pc' := 8) (As := [.ref (ad G (q + 9)), vi 0]) (rest := []) dX2_sumTrust_5 cs_X2_49 (m_J7_fill_53178 (q + 9) 4 0 (sqa9 hq) σ) rfl rfl rfl rfl rfl (fun s5 => ?_)
  refine sw_iconst (pc' := 9) dX2_sumTrust_8 rfl ?_
  refine sw_istore_n (pc' := 10) (x := 0) (L' := [some (.ref (ad G q)), some (vi x1), some (vi x2), some (vi 0)]) dX2_sumTrust_9 rfl (by decide) rfl rfl ?_
  exact s_X2_sumTrust_10 q hq FU x1 x2 0 s5
def rm_X2_beliefOf : Room := { frames := 2, cells := 0, slots := 0, locals := 46 }
def f_X2_beliefOf_44 (q : Nat) (k15 : Int → Int → Int → St → Option (Int × St)) (x3 x4 x5 : Int) (σ : St) : Option (Int × St) :=
  k15 x3 x4 (x5 + 1) σ
set_option maxRecDepth 20000 in
theorem s_X2_beliefOf_44 (q : Nat) (hq : isSq q) (k15 : Int → Int → Int → St → Option (Int × St)) (hk15 : ∀ (x3 x4 x5 : Int) (σ : St), SW G l RX2 cX2_beliefOf 6 rm_X2_beliefOf wI 15 [some (.ref (ad G q)), none, none, some (vi x3), some (vi x4), some (vi x5)] [] σ (k15 x3 x4 x5 σ)) (x3 x4 x5 : Int) (σ : St) : SW G l RX2 cX2_beliefOf 6 rm_X2_beliefOf wI 44 [some (.ref (ad G q)), none, none, some (vi x3), some (vi x4), some (vi x5)] [] σ (f_X2_beliefOf_44 q k15 x3 x4 x5 σ) := by
  unfold f_X2_beliefOf_44
  refine sw_iinc (pc' := 47) (x := x5) (L' := [some (.ref (ad G q)), none, none, some (vi x3), some (vi x4), some (vi (x5 + 1))]) dX2_beliefOf_44 rfl (by decide) rfl rfl rfl ?_
  refine sw_goto (pc' := 15) dX2_beliefOf_47 (by decide) ?_
  exact hk15 x3 x4 (x5 + 1) σ
def f_X2_beliefOf_15 (q : Nat)  : Nat → Int → Int → Int → St → Option (Int × St)
  | 0, _, _, _, _ => none
  | n + 1, x3, x4, x5, σ =>
    if wr x5 < wr 4 then
      bV (ld σ (q + 9) 4 x5) fun v27 => if wr x3 < wr v27 then
        bV (ld σ (q + 9) 4 x5) fun v38 => f_X2_beliefOf_44 q (f_X2_beliefOf_15 q n) v38 x5 x5 σ
      else
        f_X2_beliefOf_44 q (f_X2_beliefOf_15 q n) x3 x4 x5 σ
    else
      some (x4, σ)
set_option maxRecDepth 20000 in
theorem s_X2_beliefOf_15 (q : Nat) (hq : isSq q)   : ∀ (n : Nat) (x3 x4 x5 : Int) (σ : St), SW G l RX2 cX2_beliefOf 6 rm_X2_beliefOf wI 15 [some (.ref (ad G q)), none, none, some (vi x3), some (vi x4), some (vi x5)] [] σ (f_X2_beliefOf_15 q n x3 x4 x5 σ) := by
  intro n
  induction n with
  | zero => intro x3 x4 x5 σ; exact sw_none
  | succ n ih =>
    intro x3 x4 x5 σ
    rw [f_X2_beliefOf_15]
    refine sw_iload (pc' := 17) dX2_beliefOf_15 rfl rfl ?_
    refine sw_iconst (pc' := 18) dX2_beliefOf_17 rfl ?_
    refine sw_icmp_ge (tgt := 50) (pc' := 21) dX2_beliefOf_18 (by decide) rfl (fun _ => ?_) (fun _ => ?_)
    · refine sw_aload_n (pc' := 22) dX2_beliefOf_21 rfl rfl ?_
      refine sw_getr (pc' := 25) dX2_beliefOf_22 fl_X2_36 (sqo hq) rfl rfl ?_
      refine sw_iload (pc' := 27) dX2_beliefOf_25 rfl rfl ?_
      refine sw_iald (pc' := 28) dX2_beliefOf_27 (sqa9 hq) rfl (fun v27 => ?_)
      refine sw_iload_n (pc' := 29) dX2_beliefOf_28 rfl rfl ?_
      refine sw_icmp_le (tgt := 44) (pc' := 32) dX2_beliefOf_29 (by decide) rfl (fun _ => ?_) (fun _ => ?_)
      · refine sw_aload_n (pc' := 33) dX2_beliefOf_32 rfl rfl ?_
        refine sw_getr (pc' := 36) dX2_beliefOf_33 fl_X2_36 (sqo hq) rfl rfl ?_
        refine sw_iload (pc' := 38) dX2_beliefOf_36 rfl rfl ?_
        refine sw_iald (pc' := 39) dX2_beliefOf_38 (sqa9 hq) rfl (fun v38 => ?_)
        refine sw_istore_n (pc' := 40) (x := v38) (L' := [some (.ref (ad G q)), none, none, some (vi v38), some (vi x4), some (vi x5)]) dX2_beliefOf_39 rfl (by decide) rfl rfl ?_
        refine sw_iload (pc' := 42) dX2_beliefOf_40 rfl rfl ?_
        refine sw_istore (pc' := 44) (x := x5) (L' := [some (.ref (ad G q)), none, none, some (vi v38), some (vi x5), some (vi x5)]) dX2_beliefOf_42 rfl (by decide) rfl rfl ?_
        exact s_X2_beliefOf_44 q hq (f_X2_beliefOf_15 q n) (ih) v38 x5 x5 σ
      · exact s_X2_beliefOf_44 q hq (f_X2_beliefOf_15 q n) (ih) x3 x4 x5 σ
    · refine sw_iload (pc' := 52) dX2_beliefOf_50 rfl rfl ?_
      exact sw_iret dX2_beliefOf_52
def f_X2_beliefOf (q : Nat) (x1 : Int) (x2 : Int) (σ : St) : Option (Int × St) :=
  bV (f_X2_sumTrust q x1 x2 σ) fun s3 => f_X2_beliefOf_15 q FU 0 (-4) 0 s3
set_option maxRecDepth 20000 in
theorem m_X2_beliefOf (q : Nat) (x1 : Int) (x2 : Int) (hq : isSq q) (σ : St) : MT G l yX2_beliefOf cX2_beliefOf 6 (some .int) rm_X2_beliefOf [.ref (ad G q), vi x1, vi x2] wI σ (f_X2_beliefOf q x1 x2 σ) := by
  refine mt_I (L := [some (.ref (ad G q)), some (vi x1), some (vi x2), none, none, none]) rfl (Nat.le_of_ble_eq_true rfl) rfl ?_
  show SW G l RX2 cX2_beliefOf 6 rm_X2_beliefOf wI 0 [some (.ref (ad G q)), some (vi x1), some (vi x2), none, none, none] [] σ (f_X2_beliefOf q x1 x2 σ)
  unfold f_X2_beliefOf
  refine sw_aload_n (pc' := 1) dX2_beliefOf_0 rfl rfl ?_
  refine sw_iload_n (pc' := 2) dX2_beliefOf_1 rfl rfl ?_
  refine sw_iload_n (pc' := 3) dX2_beliefOf_2 rfl rfl ?_
  refine sw_callVV (pc' := 6) (As := [vi x1, vi x2]) (rest := []) dX2_beliefOf_3 cv_X2_81 (sqo hq) (m_X2_sumTrust q x1 x2 (hq) σ) rfl rfl rfl rfl rfl (fun s3 => ?_)
  refine sw_iconst (pc' := 7) dX2_beliefOf_6 rfl ?_
  refine sw_istore_n (pc' := 8) (x := 0) (L' := [some (.ref (ad G q)), some (vi x1), some (vi x2), some (vi 0), none, none]) dX2_beliefOf_7 rfl (by decide) rfl rfl ?_
  refine sw_bipush (pc' := 10) dX2_beliefOf_8 rfl rfl ?_
  refine sw_istore (pc' := 12) (x := (-4)) (L' := [some (.ref (ad G q)), some (vi x1), some (vi x2), some (vi 0), some (vi (-4)), none]) dX2_beliefOf_10 rfl (by decide) rfl rfl ?_
  refine sw_iconst (pc' := 13) dX2_beliefOf_12 rfl ?_
  refine sw_istore (pc' := 15) (x := 0) (L' := [some (.ref (ad G q)), some (vi x1), some (vi x2), some (vi 0), some (vi (-4)), some (vi 0)]) dX2_beliefOf_13 rfl (by decide) rfl rfl ?_
  refine sw_msk [true, false, false, true, true, true] rfl ?_
  exact s_X2_beliefOf_15 q hq FU 0 (-4) 0 s3
def rm_X4_legsDown : Room := { frames := 1, cells := 0, slots := 0, locals := 20 }
def f_X4_legsDown (x0 : Int) (σ : St) : Option (Int × St) :=
  bI (f_J6_bitCount_0f7a4 x0 σ) fun v2 s2 => some ((4 - v2), s2)
set_option maxRecDepth 20000 in
theorem m_X4_legsDown (x0 : Int)  (σ : St) : MT G l yX4_legsDown cX4_legsDown 1 (some .int) rm_X4_legsDown [vi x0] wI σ (f_X4_legsDown x0 σ) := by
  refine mt_I (L := [some (vi x0)]) rfl (Nat.le_of_ble_eq_true rfl) rfl ?_
  show SW G l RX4 cX4_legsDown 1 rm_X4_legsDown wI 0 [some (vi x0)] [] σ (f_X4_legsDown x0 σ)
  unfold f_X4_legsDown
  refine sw_iconst (pc' := 1) dX4_legsDown_0 rfl ?_
  refine sw_iload_n (pc' := 2) dX4_legsDown_1 rfl rfl ?_
  refine sw_callSI (pc' := 5) (As := [vi x0]) (rest := [vi 4]) dX4_legsDown_2 cs_X4_216 (m_J6_bitCount_0f7a4 x0 σ) rfl rfl rfl rfl rfl (fun v2 s2 => ?_)
  refine sw_isub (pc' := 6) dX4_legsDown_5 rfl ?_
  exact sw_iret dX4_legsDown_6
def rm_X2_holds : Room := { frames := 2, cells := 0, slots := 0, locals := 40 }
def f_X2_holds (q : Nat) (x1 : Int) (x2 : Int) (σ : St) : Option (Bool × St) :=
  bI (f_X4_legsDown x1 σ) fun v2 s2 => if wr (v2 * (s2 q 4)) < wr x2 then
    some (false, s2)
  else
    some (true, s2)
set_option maxRecDepth 20000 in
theorem m_X2_holds (q : Nat) (x1 : Int) (x2 : Int) (hq : isSq q) (σ : St) : MT G l yX2_holds cX2_holds 3 (some .boolean) rm_X2_holds [.ref (ad G q), vi x1, vi x2] wB σ (f_X2_holds q x1 x2 σ) := by
  refine mt_B (L := [some (.ref (ad G q)), some (vi x1), some (vi x2)]) rfl (Nat.le_of_ble_eq_true rfl) rfl ?_
  show SW G l RX2 cX2_holds 3 rm_X2_holds wB 0 [some (.ref (ad G q)), some (vi x1), some (vi x2)] [] σ (f_X2_holds q x1 x2 σ)
  unfold f_X2_holds
  refine sw_iload_n (pc' := 1) dX2_holds_0 rfl rfl ?_
  refine sw_iload_n (pc' := 2) dX2_holds_1 rfl rfl ?_
  refine sw_callNI (pc' := 5) (As := [vi x1]) (rest := [vi x2]) dX2_holds_2 cn_X2_77 (m_X4_legsDown x1 σ) rfl rfl rfl rfl rfl (fun v2 s2 => ?_)
  refine sw_aload_n (pc' := 6) dX2_holds_5 rfl rfl ?_
  refine sw_getn (pc' := 9) dX2_holds_6 fl_X2_46 (sqo hq) rfl rfl ?_
  refine sw_imul (pc' := 10) dX2_holds_9 rfl ?_
  refine sw_icmp_gt (tgt := 17) (pc' := 13) dX2_holds_10 (by decide) rfl (fun _ => ?_) (fun _ => ?_)
  · refine sw_iconst (pc' := 18) dX2_holds_17 rfl ?_
    exact sw_bret (x := false) dX2_holds_18
  · refine sw_iconst (pc' := 14) dX2_holds_13 rfl ?_
    refine sw_goto (pc' := 18) dX2_holds_14 (by decide) ?_
    exact sw_bret (x := true) dX2_holds_18
def rm_X4_reading : Room := { frames := 1, cells := 0, slots := 0, locals := 21 }
def f_X4_reading (x0 : Int) (x1 : Int) (σ : St) : Option (Int × St) :=
  bI (f_J6_bitCount_0f7a4 x1 σ) fun v2 s2 => if wr x0 = 0 then
    some ((imn 3 v2), s2)
  else
    if wr x0 = 1 then
      some ((imx 0 ((imn 3 v2) - 1)), s2)
    else
      if wr x0 = 2 then
        some ((3 - (imn 3 v2)), s2)
      else
        bV (irm ((imx 0 ((imn 3 v2) - 1)) + 2) 4) fun v56 => some (v56, s2)
set_option maxRecDepth 20000 in
theorem m_X4_reading (x0 : Int) (x1 : Int)  (σ : St) : MT G l yX4_reading cX4_reading 4 (some .int) rm_X4_reading [vi x0, vi x1] wI σ (f_X4_reading x0 x1 σ) := by
  refine mt_I (L := [some (vi x0), some (vi x1), none, none]) rfl (Nat.le_of_ble_eq_true rfl) rfl ?_
  show SW G l RX4 cX4_reading 4 rm_X4_reading wI 0 [some (vi x0), some (vi x1), none, none] [] σ (f_X4_reading x0 x1 σ)
  unfold f_X4_reading
  refine sw_iconst (pc' := 1) dX4_reading_0 rfl ?_
  refine sw_iload_n (pc' := 2) dX4_reading_1 rfl rfl ?_
  refine sw_callSI (pc' := 5) (As := [vi x1]) (rest := [vi 3]) dX4_reading_2 cs_X4_216 (m_J6_bitCount_0f7a4 x1 σ) rfl rfl rfl rfl rfl (fun v2 s2 => ?_)
  refine sw_imn (pc' := 8) dX4_reading_5 cm_X4_195 rfl rfl rfl ?_
  refine sw_istore_n (pc' := 9) (x := (imn 3 v2)) (L' := [some (vi x0), some (vi x1), some (vi (imn 3 v2)), none]) dX4_reading_8 rfl (by decide) rfl rfl ?_
  refine sw_iconst (pc' := 10) dX4_reading_9 rfl ?_
  refine sw_iload_n (pc' := 11) dX4_reading_10 rfl rfl ?_
  refine sw_iconst (pc' := 12) dX4_reading_11 rfl ?_
  refine sw_isub (pc' := 13) dX4_reading_12 rfl ?_
  refine sw_imx (pc' := 16) dX4_reading_13 cm_X4_190 rfl rfl rfl ?_
  refine sw_istore_n (pc' := 17) (x := (imx 0 ((imn 3 v2) - 1))) (L' := [some (vi x0), some (vi x1), some (vi (imn 3 v2)), some (vi (imx 0 ((imn 3 v2) - 1)))]) dX4_reading_16 rfl (by decide) rfl rfl ?_
  refine sw_iload_n (pc' := 18) dX4_reading_17 rfl rfl ?_
  refine sw_case (fun hc0 => ?_) (fun hc0 => ?_)
  · refine sw_tin (tgt := 44) dX4_reading_18 hc0 (by decide) rfl (by decide) ?_
    refine sw_iload_n (pc' := 45) dX4_reading_44 rfl rfl ?_
    exact sw_iret dX4_reading_45
  · refine sw_case (fun hc1 => ?_) (fun hc1 => ?_)
    · refine sw_tin (tgt := 46) dX4_reading_18 hc1 (by decide) rfl (by decide) ?_
      refine sw_iload_n (pc' := 47) dX4_reading_46 rfl rfl ?_
      exact sw_iret dX4_reading_47
    · refine sw_case (fun hc2 => ?_) (fun hc2 => ?_)
      · refine sw_tin (tgt := 48) dX4_reading_18 hc2 (by decide) rfl (by decide) ?_
        refine sw_iconst (pc' := 49) dX4_reading_48 rfl ?_
        refine sw_iload_n (pc' := 50) dX4_reading_49 rfl rfl ?_
        refine sw_isub (pc' := 51) dX4_reading_50 rfl ?_
        exact sw_iret dX4_reading_51
      · refine sw_tout (tgt := 52) dX4_reading_18 (by omega) (by decide) ?_
        refine sw_iload_n (pc' := 53) dX4_reading_52 rfl rfl ?_
        refine sw_iconst (pc' := 54) dX4_reading_53 rfl ?_
        refine sw_iadd (pc' := 55) dX4_reading_54 rfl ?_
        refine sw_iconst (pc' := 56) dX4_reading_55 rfl ?_
        refine sw_irem (pc' := 57) dX4_reading_56 rfl (fun v56 => ?_)
        exact sw_iret dX4_reading_57
def rm_X2_readingOf : Room := { frames := 2, cells := 0, slots := 0, locals := 44 }
def f_X2_readingOf (q : Nat) (x1 : Int) (σ : St) : Option (Int × St) :=
  bV (ld σ (q + 1) 5 x1) fun v5 => bV (ld σ (q + 2) 5 x1) fun v11 => bI (f_X4_reading v5 v11 σ) fun v12 s12 => some (v12, s12)
set_option maxRecDepth 20000 in
theorem m_X2_readingOf (q : Nat) (x1 : Int) (hq : isSq q) (σ : St) : MT G l yX2_readingOf cX2_readingOf 2 (some .int) rm_X2_readingOf [.ref (ad G q), vi x1] wI σ (f_X2_readingOf q x1 σ) := by
  refine mt_I (L := [some (.ref (ad G q)), some (vi x1)]) rfl (Nat.le_of_ble_eq_true rfl) rfl ?_
  show SW G l RX2 cX2_readingOf 2 rm_X2_readingOf wI 0 [some (.ref (ad G q)), some (vi x1)] [] σ (f_X2_readingOf q x1 σ)
  unfold f_X2_readingOf
  refine sw_aload_n (pc' := 1) dX2_readingOf_0 rfl rfl ?_
  refine sw_getr (pc' := 4) dX2_readingOf_1 fl_X2_9 (sqo hq) rfl rfl ?_
  refine sw_iload_n (pc' := 5) dX2_readingOf_4 rfl rfl ?_
  refine sw_iald (pc' := 6) dX2_readingOf_5 (sqa1 hq) rfl (fun v5 => ?_)
  refine sw_aload_n (pc' := 7) dX2_readingOf_6 rfl rfl ?_
  refine sw_getr (pc' := 10) dX2_readingOf_7 fl_X2_15 (sqo hq) rfl rfl ?_
  refine sw_iload_n (pc' := 11) dX2_readingOf_10 rfl rfl ?_
  refine sw_iald (pc' := 12) dX2_readingOf_11 (sqa2 hq) rfl (fun v11 => ?_)
  refine sw_callNI (pc' := 15) (As := [vi v5, vi v11]) (rest := []) dX2_readingOf_12 cn_X2_73 (m_X4_reading v5 v11 σ) rfl rfl rfl rfl rfl (fun v12 s12 => ?_)
  exact sw_iret dX2_readingOf_15
def rm_X2_moveHoof : Room := { frames := 3, cells := 0, slots := 0, locals := 71 }
def f_X2_moveHoof_100 (q : Nat) (k36 : Int → Int → Int → Int → St → Option (Int × St)) (x1 x2 x3 x4 : Int) (σ : St) : Option (Int × St) :=
  k36 x1 x2 x3 (x4 + 1) σ
set_option maxRecDepth 20000 in
theorem s_X2_moveHoof_100 (q : Nat) (hq : isSq q) (k36 : Int → Int → Int → Int → St → Option (Int × St)) (hk36 : ∀ (x1 x2 x3 x4 : Int) (σ : St), SW G l RX2 cX2_moveHoof 6 rm_X2_moveHoof wI 36 [some (.ref (ad G q)), some (vi x1), some (vi x2), some (vi x3), some (vi x4), none] [] σ (k36 x1 x2 x3 x4 σ)) (x1 x2 x3 x4 : Int) (σ : St) : SW G l RX2 cX2_moveHoof 6 rm_X2_moveHoof wI 100 [some (.ref (ad G q)), some (vi x1), some (vi x2), some (vi x3), some (vi x4), none] [] σ (f_X2_moveHoof_100 q k36 x1 x2 x3 x4 σ) := by
  unfold f_X2_moveHoof_100
  refine sw_iinc (pc' := 103) (x := x4) (L' := [some (.ref (ad G q)), some (vi x1), some (vi x2), some (vi x3), some (vi (x4 + 1)), none]) dX2_moveHoof_100 rfl (by decide) rfl rfl rfl ?_
  refine sw_goto (pc' := 36) dX2_moveHoof_103 (by decide) ?_
  exact hk36 x1 x2 x3 (x4 + 1) σ
def f_X2_moveHoof_36 (q : Nat)  : Nat → Int → Int → Int → Int → St → Option (Int × St)
  | 0, _, _, _, _, _ => none
  | n + 1, x1, x2, x3, x4, σ =>
    if wr x4 < wr 4 then
      bV (ld σ (q + 2) 5 x1) fun v47 => bV (ld σ (q + 1) 5 x1) fun v60 => bI (f_X4_reading v60 (ixd v47 (isl 1 x4)) σ) fun v63 s63 => if wr (iab (v63 - x2)) < wr x3 then
        bV (ld s63 (q + 3) 5 x1) fun v83 => bI (f_X2_holds q (ixd v47 (isl 1 x4)) v83 s63) fun v84 s84 => if v84 then
          bV (sv s84 (q + 2) 5 x1 (ixd v47 (isl 1 x4))) fun s97 => some (1, s97)
        else
          f_X2_moveHoof_100 q (f_X2_moveHoof_36 q n) x1 x2 x3 x4 s84
      else
        f_X2_moveHoof_100 q (f_X2_moveHoof_36 q n) x1 x2 x3 x4 s63
    else
      some (0, σ)
set_option maxRecDepth 20000 in
theorem s_X2_moveHoof_36 (q : Nat) (hq : isSq q)   : ∀ (n : Nat) (x1 x2 x3 x4 : Int) (σ : St), SW G l RX2 cX2_moveHoof 6 rm_X2_moveHoof wI 36 [some (.ref (ad G q)), some (vi x1), some (vi x2), some (vi x3), some (vi x4), none] [] σ (f_X2_moveHoof_36 q n x1 x2 x3 x4 σ) := by
  intro n
  induction n with
  | zero => intro x1 x2 x3 x4 σ; exact sw_none
  | succ n ih =>
    intro x1 x2 x3 x4 σ
    rw [f_X2_moveHoof_36]
    refine sw_iload (pc' := 38) dX2_moveHoof_36 rfl rfl ?_
    refine sw_iconst (pc' := 39) dX2_moveHoof_38 rfl ?_
    refine sw_icmp_ge (tgt := 106) (pc' := 42) dX2_moveHoof_39 (by decide) rfl (fun _ => ?_) (fun _ => ?_)
    · refine sw_aload_n (pc' := 43) dX2_moveHoof_42 rfl rfl ?_
      refine sw_getr (pc' := 46) dX2_moveHoof_43 fl_X2_15 (sqo hq) rfl rfl ?_
      refine sw_iload_n (pc' := 47) dX2_moveHoof_46 rfl rfl ?_
      refine sw_iald (pc' := 48) dX2_moveHoof_47 (sqa2 hq) rfl (fun v47 => ?_)
      refine sw_iconst (pc' := 49) dX2_moveHoof_48 rfl ?_
      refine sw_iload (pc' := 51) dX2_moveHoof_49 rfl rfl ?_
      refine sw_ishl (pc' := 52) dX2_moveHoof_51 rfl ?_
      refine sw_ixor (pc' := 53) dX2_moveHoof_52 rfl ?_
      refine sw_istore (pc' := 55) (x := (ixd v47 (isl 1 x4))) (L' := [some (.ref (ad G q)), some (vi x1), some (vi x2), some (vi x3), some (vi x4), some (vi (ixd v47 (isl 1 x4)))]) dX2_moveHoof_53 rfl (by decide) rfl rfl ?_
      refine sw_aload_n (pc' := 56) dX2_moveHoof_55 rfl rfl ?_
      refine sw_getr (pc' := 59) dX2_moveHoof_56 fl_X2_9 (sqo hq) rfl rfl ?_
      refine sw_iload_n (pc' := 60) dX2_moveHoof_59 rfl rfl ?_
      refine sw_iald (pc' := 61) dX2_moveHoof_60 (sqa1 hq) rfl (fun v60 => ?_)
      refine sw_iload (pc' := 63) dX2_moveHoof_61 rfl rfl ?_
      refine sw_callNI (pc' := 66) (As := [vi v60, vi (ixd v47 (isl 1 x4))]) (rest := []) dX2_moveHoof_63 cn_X2_73 (m_X4_reading v60 (ixd v47 (isl 1 x4)) σ) rfl rfl rfl rfl rfl (fun v63 s63 => ?_)
      refine sw_iload_n (pc' := 67) dX2_moveHoof_66 rfl rfl ?_
      refine sw_isub (pc' := 68) dX2_moveHoof_67 rfl ?_
      refine sw_iab (pc' := 71) dX2_moveHoof_68 cm_X2_99 rfl rfl rfl ?_
      refine sw_iload_n (pc' := 72) dX2_moveHoof_71 rfl rfl ?_
      refine sw_icmp_ge (tgt := 100) (pc' := 75) dX2_moveHoof_72 (by decide) rfl (fun _ => ?_) (fun _ => ?_)
      · refine sw_aload_n (pc' := 76) dX2_moveHoof_75 rfl rfl ?_
        refine sw_iload (pc' := 78) dX2_moveHoof_76 rfl rfl ?_
        refine sw_aload_n (pc' := 79) dX2_moveHoof_78 rfl rfl ?_
        refine sw_getr (pc' := 82) dX2_moveHoof_79 fl_X2_18 (sqo hq) rfl rfl ?_
        refine sw_iload_n (pc' := 83) dX2_moveHoof_82 rfl rfl ?_
        refine sw_iald (pc' := 84) dX2_moveHoof_83 (sqa3 hq) rfl (fun v83 => ?_)
        refine sw_callVB (pc' := 87) (As := [vi (ixd v47 (isl 1 x4)), vi v83]) (rest := []) dX2_moveHoof_84 cv_X2_95 (sqo hq) (m_X2_holds q (ixd v47 (isl 1 x4)) v83 (hq) s63) rfl rfl rfl rfl rfl (fun v84 s84 => ?_)
        refine sw_bif_eq (tgt := 100) (pc' := 90) dX2_moveHoof_87 (by decide) rfl (fun _ => ?_) (fun _ => ?_)
        · refine sw_aload_n (pc' := 91) dX2_moveHoof_90 rfl rfl ?_
          refine sw_getr (pc' := 94) dX2_moveHoof_91 fl_X2_15 (sqo hq) rfl rfl ?_
          refine sw_iload_n (pc' := 95) dX2_moveHoof_94 rfl rfl ?_
          refine sw_iload (pc' := 97) dX2_moveHoof_95 rfl rfl ?_
          refine sw_iast (pc' := 98) dX2_moveHoof_97 (sqa2 hq) rfl (fun s97 => ?_)
          refine sw_iconst (pc' := 99) dX2_moveHoof_98 rfl ?_
          exact sw_iret dX2_moveHoof_99
        · refine sw_msk [true, true, true, true, true, false] rfl ?_
          exact s_X2_moveHoof_100 q hq (f_X2_moveHoof_36 q n) (ih) x1 x2 x3 x4 s84
      · refine sw_msk [true, true, true, true, true, false] rfl ?_
        exact s_X2_moveHoof_100 q hq (f_X2_moveHoof_36 q n) (ih) x1 x2 x3 x4 s63
    · refine sw_iconst (pc' := 107) dX2_moveHoof_106 rfl ?_
      exact sw_iret dX2_moveHoof_107
def f_X2_moveHoof (q : Nat) (x1 : Int) (σ : St) : Option (Int × St) :=
  bI (f_X2_beliefOf q x1 (σ q 12) σ) fun v6 s6 => bI (f_X2_readingOf q x1 s6) fun v12 s12 => if wr v6 = wr (-4) then
    some (0, s12)
  else
    if wr (iab (v12 - v6)) = 0 then
      some (0, s12)
    else
      f_X2_moveHoof_36 q FU x1 v6 (iab (v12 - v6)) 0 s12
set_option maxRecDepth 20000 in
theorem m_X2_moveHoof (q : Nat) (x1 : Int) (hq : isSq q) (σ : St) : MT G l yX2_moveHoof cX2_moveHoof 6 (some .int) rm_X2_moveHoof [.ref (ad G q), vi x1] wI σ (f_X2_moveHoof q x1 σ) := by
  refine mt_I (L := [some (.ref (ad G q)), some (vi x1), none, none, none, none]) rfl (Nat.le_of_ble_eq_true rfl) rfl ?_
  show SW G l RX2 cX2_moveHoof 6 rm_X2_moveHoof wI 0 [some (.ref (ad G q)), some (vi x1), none, none, none, none] [] σ (f_X2_moveHoof q x1 σ)
  unfold f_X2_moveHoof
  refine sw_aload_n (pc' := 1) dX2_moveHoof_0 rfl rfl ?_
  refine sw_iload_n (pc' := 2) dX2_moveHoof_1 rfl rfl ?_
  refine sw_aload_n (pc' := 3) dX2_moveHoof_2 rfl rfl ?_
  refine sw_getn (pc' := 6) dX2_moveHoof_3 fl_X2_61 (sqo hq) rfl rfl ?_
  refine sw_callVI (pc' := 9) (As := [vi x1, vi (σ q 12)]) (rest := []) dX2_moveHoof_6 cv_X2_85 (sqo hq) (m_X2_beliefOf q x1 (σ q 12) (hq) σ) rfl rfl rfl rfl rfl (fun v6 s6 => ?_)
  refine sw_istore_n (pc' := 10) (x := v6) (L' := [some (.ref (ad G q)), some (vi x1), some (vi v6), none, none, none]) dX2_moveHoof_9 rfl (by decide) rfl rfl ?_
  refine sw_aload_n (pc' := 11) dX2_moveHoof_10 rfl rfl ?_
  refine sw_iload_n (pc' := 12) dX2_moveHoof_11 rfl rfl ?_
  refine sw_callVI (pc' := 15) (As := [vi x1]) (rest := []) dX2_moveHoof_12 cv_X2_88 (sqo hq) (m_X2_readingOf q x1 (hq) s6) rfl rfl rfl rfl rfl (fun v12 s12 => ?_)
  refine sw_iload_n (pc' := 16) dX2_moveHoof_15 rfl rfl ?_
  refine sw_isub (pc' := 17) dX2_moveHoof_16 rfl ?_
  refine sw_iab (pc' := 20) dX2_moveHoof_17 cm_X2_99 rfl rfl rfl ?_
  refine sw_istore_n (pc' := 21) (x := (iab (v12 - v6))) (L' := [some (.ref (ad G q)), some (vi x1), some (vi v6), some (vi (iab (v12 - v6))), none, none]) dX2_moveHoof_20 rfl (by decide) rfl rfl ?_
  refine sw_iload_n (pc' := 22) dX2_moveHoof_21 rfl rfl ?_
  refine sw_bipush (pc' := 24) dX2_moveHoof_22 rfl rfl ?_
  refine sw_icmp_eq (tgt := 31) (pc' := 27) dX2_moveHoof_24 (by decide) rfl (fun _ => ?_) (fun _ => ?_)
  · refine sw_iconst (pc' := 32) dX2_moveHoof_31 rfl ?_
    exact sw_iret dX2_moveHoof_32
  · refine sw_iload_n (pc' := 28) dX2_moveHoof_27 rfl rfl ?_
    refine sw_if_ne (tgt := 33) (pc' := 31) dX2_moveHoof_28 (by decide) rfl (fun _ => ?_) (fun _ => ?_)
    · refine sw_iconst (pc' := 32) dX2_moveHoof_31 rfl ?_
      exact sw_iret dX2_moveHoof_32
    · refine sw_iconst (pc' := 34) dX2_moveHoof_33 rfl ?_
      refine sw_istore (pc' := 36) (x := 0) (L' := [some (.ref (ad G q)), some (vi x1), some (vi v6), some (vi (iab (v12 - v6))), some (vi 0), none]) dX2_moveHoof_34 rfl (by decide) rfl rfl ?_
      exact s_X2_moveHoof_36 q hq FU x1 v6 (iab (v12 - v6)) 0 s12
def rm_X2_passDay : Room := { frames := 4, cells := 0, slots := 0, locals := 96 }
def f_X2_passDay_4 (q : Nat)  : Nat → Int → Int → St → Option (Int × St)
  | 0, _, _, _ => none
  | n + 1, x1, x2, σ =>
    if wr x2 < wr (σ q 0) then
      bI (f_X2_moveHoof q x2 σ) fun v15 s15 => (f_X2_passDay_4 q n) (x1 + v15) (x2 + 1) s15
    else
      bV (pf σ q 13 (imn 9999 ((σ q 13) + x1))) fun s39 => bV (pf s39 q 12 ((s39 q 12) + 1)) fun s49 => some (x1, s49)
set_option maxRecDepth 20000 in
theorem s_X2_passDay_4 (q : Nat) (hq : isSq q)   : ∀ (n : Nat) (x1 x2 : Int) (σ : St), SW G l RX2 cX2_passDay 3 rm_X2_passDay wI 4 [some (.ref (ad G q)), some (vi x1), some (vi x2)] [] σ (f_X2_passDay_4 q n x1 x2 σ) := by
  intro n
  induction n with
  | zero => intro x1 x2 σ; exact sw_none
  | succ n ih =>
    intro x1 x2 σ
    rw [f_X2_passDay_4]
    refine sw_iload_n (pc' := 5) dX2_passDay_4 rfl rfl ?_
    refine sw_aload_n (pc' := 6) dX2_passDay_5 rfl rfl ?_
    refine sw_getn (pc' := 9) dX2_passDay_6 fl_X2_42 (sqo hq) rfl rfl ?_
    refine sw_icmp_ge (tgt := 26) (pc' := 12) dX2_passDay_9 (by decide) rfl (fun _ => ?_) (fun _ => ?_)
    · refine sw_iload_n (pc' := 13) dX2_passDay_12 rfl rfl ?_
      refine sw_aload_n (pc' := 14) dX2_passDay_13 rfl rfl ?_
      refine sw_iload_n (pc' := 15) dX2_passDay_14 rfl rfl ?_
      refine sw_callVI (pc' := 18) (As := [vi x2]) (rest := [vi x1]) dX2_passDay_15 cv_X2_104 (sqo hq) (m_X2_moveHoof q x2 (hq) σ) rfl rfl rfl rfl rfl (fun v15 s15 => ?_)
      refine sw_iadd (pc' := 19) dX2_passDay_18 rfl ?_
      refine sw_istore_n (pc' := 20) (x := (x1 + v15)) (L' := [some (.ref (ad G q)), some (vi (x1 + v15)), some (vi x2)]) dX2_passDay_19 rfl (by decide) rfl rfl ?_
      refine sw_iinc (pc' := 23) (x := x2) (L' := [some (.ref (ad G q)), some (vi (x1 + v15)), some (vi (x2 + 1))]) dX2_passDay_20 rfl (by decide) rfl rfl rfl ?_
      refine sw_goto (pc' := 4) dX2_passDay_23 (by decide) ?_
      exact (ih) (x1 + v15) (x2 + 1) s15
    · refine sw_aload_n (pc' := 27) dX2_passDay_26 rfl rfl ?_
      refine sw_sipush (pc' := 30) dX2_passDay_27 rfl rfl ?_
      refine sw_aload_n (pc' := 31) dX2_passDay_30 rfl rfl ?_
      refine sw_getn (pc' := 34) dX2_passDay_31 fl_X2_64 (sqo hq) rfl rfl ?_
      refine sw_iload_n (pc' := 35) dX2_passDay_34 rfl rfl ?_
      refine sw_iadd (pc' := 36) dX2_passDay_35 rfl ?_
      refine sw_imn (pc' := 39) dX2_passDay_36 cm_X2_107 rfl rfl rfl ?_
      refine sw_putI (pc' := 42) dX2_passDay_39 fp_X2_64 (sqo hq) rfl rfl (fun s39 => ?_)
      refine sw_aload_n (pc' := 43) dX2_passDay_42 rfl rfl ?_
      refine sw_dup (pc' := 44) dX2_passDay_43 rfl rfl ?_
      refine sw_getn (pc' := 47) dX2_passDay_44 fl_X2_61 (sqo hq) rfl rfl ?_
      refine sw_iconst (pc' := 48) dX2_passDay_47 rfl ?_
      refine sw_iadd (pc' := 49) dX2_passDay_48 rfl ?_
      refine sw_putI (pc' := 52) dX2_passDay_49 fp_X2_61 (sqo hq) rfl rfl (fun s49 => ?_)
      refine sw_iload_n (pc' := 53) dX2_passDay_52 rfl rfl ?_
      exact sw_iret dX2_passDay_53
def f_X2_passDay (q : Nat) (σ : St) : Option (Int × St) :=
  f_X2_passDay_4 q FU 0 0 σ
set_option maxRecDepth 20000 in
theorem m_X2_passDay (q : Nat) (hq : isSq q) (σ : St) : MT G l yX2_passDay cX2_passDay 3 (some .int) rm_X2_passDay [.ref (ad G q)] wI σ (f_X2_passDay q σ) := by
  refine mt_I (L := [some (.ref (ad G q)), none, none]) rfl (Nat.le_of_ble_eq_true rfl) rfl ?_
  show SW G l RX2 cX2_passDay 3 rm_X2_passDay wI 0 [some (.ref (ad G q)), none, none] [] σ (f_X2_passDay q σ)
  unfold f_X2_passDay
  refine sw_iconst (pc' := 1) dX2_passDay_0 rfl ?_
  refine sw_istore_n (pc' := 2) (x := 0) (L' := [some (.ref (ad G q)), some (vi 0), none]) dX2_passDay_1 rfl (by decide) rfl rfl ?_
  refine sw_iconst (pc' := 3) dX2_passDay_2 rfl ?_
  refine sw_istore_n (pc' := 4) (x := 0) (L' := [some (.ref (ad G q)), some (vi 0), some (vi 0)]) dX2_passDay_3 rfl (by decide) rfl rfl ?_
  exact s_X2_passDay_4 q hq FU 0 0 σ
def rm_X1_comeTrueIn : Room := { frames := 5, cells := 0, slots := 0, locals := 118 }
def f_X1_comeTrueIn_7 (q : Nat)  : Nat → Int → Int → St → Option (Bool × St)
  | 0, _, _, _ => none
  | n + 1, x2, x3, σ =>
    if wr x2 < wr x3 then
      some (true, σ)
    else
      bI (f_X1_areTrueOn x3 q σ) fun v15 s15 => if v15 then
        bI (f_X2_passDay q s15) fun v24 s24 => (f_X1_comeTrueIn_7 q n) x2 (x3 + 1) s24
      else
        some (false, s15)
set_option maxRecDepth 20000 in
theorem s_X1_comeTrueIn_7 (q : Nat) (hq : isSq q)   : ∀ (n : Nat) (x2 x3 : Int) (σ : St), SW G l RX1 cX1_comeTrueIn 4 rm_X1_comeTrueIn wB 7 [some (.ref (ad G 43)), some (.ref (ad G q)), some (vi x2), some (vi x3)] [] σ (f_X1_comeTrueIn_7 q n x2 x3 σ) := by
  intro n
  induction n with
  | zero => intro x2 x3 σ; exact sw_none
  | succ n ih =>
    intro x2 x3 σ
    rw [f_X1_comeTrueIn_7]
    refine sw_iload_n (pc' := 8) dX1_comeTrueIn_7 rfl rfl ?_
    refine sw_iload_n (pc' := 9) dX1_comeTrueIn_8 rfl rfl ?_
    refine sw_icmp_gt (tgt := 34) (pc' := 12) dX1_comeTrueIn_9 (by decide) rfl (fun _ => ?_) (fun _ => ?_)
    · refine sw_iconst (pc' := 35) dX1_comeTrueIn_34 rfl ?_
      exact sw_bret (x := true) dX1_comeTrueIn_35
    · refine sw_aload_n (pc' := 13) dX1_comeTrueIn_12 rfl rfl ?_
      refine sw_iload_n (pc' := 14) dX1_comeTrueIn_13 rfl rfl ?_
      refine sw_aload_n (pc' := 15) dX1_comeTrueIn_14 rfl rfl ?_
      refine sw_callVB (pc' := 18) (As := [vi x3, .ref (ad G q)]) (rest := []) dX1_comeTrueIn_15 cv_X1_27 (tbk_43) (m_X1_areTrueOn x3 q (hq) σ) rfl rfl rfl rfl rfl (fun v15 s15 => ?_)
      refine sw_bif_ne (tgt := 23) (pc' := 21) dX1_comeTrueIn_18 (by decide) rfl (fun _ => ?_) (fun _ => ?_)
      · refine sw_aload_n (pc' := 24) dX1_comeTrueIn_23 rfl rfl ?_
        refine sw_callVI (pc' := 27) (As := []) (rest := []) dX1_comeTrueIn_24 cv_X1_31 (sqo hq) (m_X2_passDay q (hq) s15) rfl rfl rfl rfl rfl (fun v24 s24 => ?_)
        refine sw_pop (pc' := 28) dX1_comeTrueIn_27 rfl rfl ?_
        refine sw_iinc (pc' := 31) (x := x3) (L' := [some (.ref (ad G 43)), some (.ref (ad G q)), some (vi x2), some (vi (x3 + 1))]) dX1_comeTrueIn_28 rfl (by decide) rfl rfl rfl ?_
        refine sw_goto (pc' := 7) dX1_comeTrueIn_31 (by decide) ?_
        exact (ih) x2 (x3 + 1) s24
      · refine sw_iconst (pc' := 22) dX1_comeTrueIn_21 rfl ?_
        exact sw_bret (x := false) dX1_comeTrueIn_22
def f_X1_comeTrueIn (q : Nat) (σ : St) : Option (Bool × St) :=
  bI (f_X1_lastDay σ) fun v1 s1 => f_X1_comeTrueIn_7 q FU v1 0 s1
set_option maxRecDepth 20000 in
theorem m_X1_comeTrueIn (q : Nat) (hq : isSq q) (σ : St) : MT G l yX1_comeTrueIn cX1_comeTrueIn 4 (some .boolean) rm_X1_comeTrueIn [.ref (ad G 43), .ref (ad G q)] wB σ (f_X1_comeTrueIn q σ) := by
  refine mt_B (L := [some (.ref (ad G 43)), some (.ref (ad G q)), none, none]) rfl (Nat.le_of_ble_eq_true rfl) rfl ?_
  show SW G l RX1 cX1_comeTrueIn 4 rm_X1_comeTrueIn wB 0 [some (.ref (ad G 43)), some (.ref (ad G q)), none, none] [] σ (f_X1_comeTrueIn q σ)
  unfold f_X1_comeTrueIn
  refine sw_aload_n (pc' := 1) dX1_comeTrueIn_0 rfl rfl ?_
  refine sw_callVI (pc' := 4) (As := []) (rest := []) dX1_comeTrueIn_1 cv_X1_23 (tbk_43) (m_X1_lastDay σ) rfl rfl rfl rfl rfl (fun v1 s1 => ?_)
  refine sw_istore_n (pc' := 5) (x := v1) (L' := [some (.ref (ad G 43)), some (.ref (ad G q)), some (vi v1), none]) dX1_comeTrueIn_4 rfl (by decide) rfl rfl ?_
  refine sw_iconst (pc' := 6) dX1_comeTrueIn_5 rfl ?_
  refine sw_istore_n (pc' := 7) (x := 0) (L' := [some (.ref (ad G 43)), some (.ref (ad G q)), some (vi v1), some (vi 0)]) dX1_comeTrueIn_6 rfl (by decide) rfl rfl ?_
  exact s_X1_comeTrueIn_7 q hq FU v1 0 s1
def rm_X2_makeNew : Room := { frames := 1, cells := 0, slots := 0, locals := 23 }
def f_X2_makeNew (q : Nat) (σ : St) : Option (St) :=
  bV (pf σ q 0 0) fun s2 => bV (pf s2 q 4 25) fun s8 => bV (f_J7_fill_53178 (q + 4) 4 1 s8) fun s16 => bV (pf s16 q 6 0) fun s21 => bV (pf s21 q 11 0) fun s26 => bV (pf s26 q 12 0) fun s31 => bV (pf s31 q 13 0) fun s36 => some s36
set_option maxRecDepth 20000 in
theorem m_X2_makeNew (q : Nat) (hq : isSq q) (σ : St) : MT G l yX2_makeNew cX2_makeNew 1 none rm_X2_makeNew [.ref (ad G q)] wV σ (f_X2_makeNew q σ) := by
  refine mt_V (L := [some (.ref (ad G q))]) rfl (Nat.le_of_ble_eq_true rfl) rfl ?_
  show SW G l RX2 cX2_makeNew 1 rm_X2_makeNew wV 0 [some (.ref (ad G q))] [] σ (f_X2_makeNew q σ)
  unfold f_X2_makeNew
  refine sw_aload_n (pc' := 1) dX2_makeNew_0 rfl rfl ?_
  refine sw_iconst (pc' := 2) dX2_makeNew_1 rfl ?_
  refine sw_putI (pc' := 5) dX2_makeNew_2 fp_X2_42 (sqo hq) rfl rfl (fun s2 => ?_)
  refine sw_aload_n (pc' := 6) dX2_makeNew_5 rfl rfl ?_
  refine sw_bipush (pc' := 8) dX2_makeNew_6 rfl rfl ?_
  refine sw_putI (pc' := 11) dX2_makeNew_8 fp_X2_46 (sqo hq) rfl rfl (fun s8 => ?_)
  refine sw_aload_n (pc' := 12) dX2_makeNew_11 rfl rfl ?_
  refine sw_getr (pc' := 15) dX2_makeNew_12 fl_X2_21 (sqo hq) rfl rfl ?_
  refine sw_iconst (pc' := 16) dX2_makeNew_15 rfl ?_
  refine sw_callSV (pc' := 19) (As := [.ref (ad G (q + 4)), vi 1]) (rest := []) dX2_makeNew_16 cs_X2_49 (m_J7_fill_53178 (q + 4) 4 1 (sqa4 hq) s8) rfl rfl rfl rfl rfl (fun s16 => ?_)
  refine sw_aload_n (pc' := 20) dX2_makeNew_19 rfl rfl ?_
  refine sw_iconst (pc' := 21) dX2_makeNew_20 rfl ?_
  refine sw_putI (pc' := 24) dX2_makeNew_21 fp_X2_55 (sqo hq) rfl rfl (fun s21 => ?_)
  refine sw_aload_n (pc' := 25) dX2_makeNew_24 rfl rfl ?_
  refine sw_iconst (pc' := 26) dX2_makeNew_25 rfl ?_
  refine sw_putI (pc' := 29) dX2_makeNew_26 fp_X2_58 (sqo hq) rfl rfl (fun s26 => ?_)
  refine sw_aload_n (pc' := 30) dX2_makeNew_29 rfl rfl ?_
  refine sw_iconst (pc' := 31) dX2_makeNew_30 rfl ?_
  refine sw_putI (pc' := 34) dX2_makeNew_31 fp_X2_61 (sqo hq) rfl rfl (fun s31 => ?_)
  refine sw_aload_n (pc' := 35) dX2_makeNew_34 rfl rfl ?_
  refine sw_iconst (pc' := 36) dX2_makeNew_35 rfl ?_
  refine sw_putI (pc' := 39) dX2_makeNew_36 fp_X2_64 (sqo hq) rfl rfl (fun s36 => ?_)
  exact sw_vret dX2_makeNew_39
def rm_X2_copyFrom : Room := { frames := 1, cells := 0, slots := 0, locals := 26 }
def f_X2_copyFrom (q : Nat) (r : Nat) (σ : St) : Option (St) :=
  bV (pf σ q 0 (σ r 0)) fun s5 => bV (cpf s5 (r + 1) (q + 1) 5) fun s19 => bV (cpf s19 (r + 2) (q + 2) 5) fun s33 => bV (cpf s33 (r + 3) (q + 3) 5) fun s47 => bV (pf s47 q 4 (s47 r 4)) fun s55 => bV (cpf s55 (r + 4) (q + 4) 4) fun s69 => bV (pf s69 q 6 (s69 r 6)) fun s77 => bV (cpf s77 (r + 5) (q + 5) 8) fun s92 => bV (cpf s92 (r + 6) (q + 6) 8) fun s107 => bV (cpf s107 (r + 7) (q + 7) 8) fun s122 => bV (cpf s122 (r + 8) (q + 8) 8) fun s137 => bV (pf s137 q 11 (s137 r 11)) fun s145 => bV (pf s145 q 12 (s145 r 12)) fun s153 => bV (pf s153 q 13 (s153 r 13)) fun s161 => some s161
set_option maxRecDepth 20000 in
theorem m_X2_copyFrom (q : Nat) (r : Nat) (hq : isSq q) (hr : isSq r) (σ : St) : MT G l yX2_copyFrom cX2_copyFrom 2 none rm_X2_copyFrom [.ref (ad G q), .ref (ad G r)] wV σ (f_X2_copyFrom q r σ) := by
  refine mt_V (L := [some (.ref (ad G q)), some (.ref (ad G r))]) rfl (Nat.le_of_ble_eq_true rfl) rfl ?_
  show SW G l RX2 cX2_copyFrom 2 rm_X2_copyFrom wV 0 [some (.ref (ad G q)), some (.ref (ad G r))] [] σ (f_X2_copyFrom q r σ)
  unfold f_X2_copyFrom
  refine sw_aload_n (pc' := 1) dX2_copyFrom_0 rfl rfl ?_
  refine sw_aload_n (pc' := 2) dX2_copyFrom_1 rfl rfl ?_
  refine sw_getn (pc' := 5) dX2_copyFrom_2 fl_X2_42 (sqo hr) rfl rfl ?_
  refine sw_putI (pc' := 8) dX2_copyFrom_5 fp_X2_42 (sqo hq) rfl rfl (fun s5 => ?_)
  refine sw_aload_n (pc' := 9) dX2_copyFrom_8 rfl rfl ?_
  refine sw_getr (pc' := 12) dX2_copyFrom_9 fl_X2_9 (sqo hr) rfl rfl ?_
  refine sw_iconst (pc' := 13) dX2_copyFrom_12 rfl ?_
  refine sw_aload_n (pc' := 14) dX2_copyFrom_13 rfl rfl ?_
  refine sw_getr (pc' := 17) dX2_copyFrom_14 fl_X2_9 (sqo hq) rfl rfl ?_
  refine sw_iconst (pc' := 18) dX2_copyFrom_17 rfl ?_
  refine sw_iconst (pc' := 19) dX2_copyFrom_18 rfl ?_
  refine sw_acpy (n := 5) (pc' := 22) dX2_copyFrom_19 cy_X2_67 (sqa1 hr) (sqa1 hq) rfl rfl rfl rfl rfl (fun s19 => ?_)
  refine sw_aload_n (pc' := 23) dX2_copyFrom_22 rfl rfl ?_
  refine sw_getr (pc' := 26) dX2_copyFrom_23 fl_X2_15 (sqo hr) rfl rfl ?_
  refine sw_iconst (pc' := 27) dX2_copyFrom_26 rfl ?_
  refine sw_aload_n (pc' := 28) dX2_copyFrom_27 rfl rfl ?_
  refine sw_getr (pc' := 31) dX2_copyFrom_28 fl_X2_15 (sqo hq) rfl rfl ?_
  refine sw_iconst (pc' := 32) dX2_copyFrom_31 rfl ?_
  refine sw_iconst (pc' := 33) dX2_copyFrom_32 rfl ?_
  refine sw_acpy (n := 5) (pc' := 36) dX2_copyFrom_33 cy_X2_67 (sqa2 hr) (sqa2 hq) rfl rfl rfl rfl rfl (fun s33 => ?_)
  refine sw_aload_n (pc' := 37) dX2_copyFrom_36 rfl rfl ?_
  refine sw_getr (pc' := 40) dX2_copyFrom_37 fl_X2_18 (sqo hr) rfl rfl ?_
  refine sw_iconst (pc' := 41) dX2_copyFrom_40 rfl ?_
  refine sw_aload_n (pc' := 42) dX2_copyFrom_41 rfl rfl ?_
  refine sw_getr (pc' := 45) dX2_copyFrom_42 fl_X2_18 (sqo hq) rfl rfl ?_
  refine sw_iconst (pc' := 46) dX2_copyFrom_45 rfl ?_
  refine sw_iconst (pc' := 47) dX2_copyFrom_46 rfl ?_
  refine sw_acpy (n := 5) (pc' := 50) dX2_copyFrom_47 cy_X2_67 (sqa3 hr) (sqa3 hq) rfl rfl rfl rfl rfl (fun s47 => ?_)
  refine sw_aload_n (pc' := 51) dX2_copyFrom_50 rfl rfl ?_
  refine sw_aload_n (pc' := 52) dX2_copyFrom_51 rfl rfl ?_
  refine sw_getn (pc' := 55) dX2_copyFrom_52 fl_X2_46 (sqo hr) rfl rfl ?_
  refine sw_putI (pc' := 58) dX2_copyFrom_55 fp_X2_46 (sqo hq) rfl rfl (fun s55 => ?_)
  refine sw_aload_n (pc' := 59) dX2_copyFrom_58 rfl rfl ?_
  refine sw_getr (pc' := 62) dX2_copyFrom_59 fl_X2_21 (sqo hr) rfl rfl ?_
  refine sw_iconst (pc' := 63) dX2_copyFrom_62 rfl ?_
  refine sw_aload_n (pc' := 64) dX2_copyFrom_63 rfl rfl ?_
  refine sw_getr (pc' := 67) dX2_copyFrom_64 fl_X2_21 (sqo hq) rfl rfl ?_
  refine sw_iconst (pc' := 68) dX2_copyFrom_67 rfl ?_
  refine sw_iconst (pc' := 69) dX2_copyFrom_68 rfl ?_
  refine sw_acpy (n := 4) (pc' := 72) dX2_copyFrom_69 cy_X2_67 (sqa4 hr) (sqa4 hq) rfl rfl rfl rfl rfl (fun s69 => ?_)
  refine sw_aload_n (pc' := 73) dX2_copyFrom_72 rfl rfl ?_
  refine sw_aload_n (pc' := 74) dX2_copyFrom_73 rfl rfl ?_
  refine sw_getn (pc' := 77) dX2_copyFrom_74 fl_X2_55 (sqo hr) rfl rfl ?_
  refine sw_putI (pc' := 80) dX2_copyFrom_77 fp_X2_55 (sqo hq) rfl rfl (fun s77 => ?_)
  refine sw_aload_n (pc' := 81) dX2_copyFrom_80 rfl rfl ?_
  refine sw_getr (pc' := 84) dX2_copyFrom_81 fl_X2_24 (sqo hr) rfl rfl ?_
  refine sw_iconst (pc' := 85) dX2_copyFrom_84 rfl ?_
  refine sw_aload_n (pc' := 86) dX2_copyFrom_85 rfl rfl ?_
  refine sw_getr (pc' := 89) dX2_copyFrom_86 fl_X2_24 (sqo hq) rfl rfl ?_
  refine sw_iconst (pc' := 90) dX2_copyFrom_89 rfl ?_
  refine sw_bipush (pc' := 92) dX2_copyFrom_90 rfl rfl ?_
  refine sw_acpy (n := 8) (pc' := 95) dX2_copyFrom_92 cy_X2_67 (sqa5 hr) (sqa5 hq) rfl rfl rfl rfl rfl (fun s92 => ?_)
  refine sw_aload_n (pc' := 96) dX2_copyFrom_95 rfl rfl ?_
  refine sw_getr (pc' := 99) dX2_copyFrom_96 fl_X2_27 (sqo hr) rfl rfl ?_
  refine sw_iconst (pc' := 100) dX2_copyFrom_99 rfl ?_
  refine sw_aload_n (pc' := 101) dX2_copyFrom_100 rfl rfl ?_
  refine sw_getr (pc' := 104) dX2_copyFrom_101 fl_X2_27 (sqo hq) rfl rfl ?_
  refine sw_iconst (pc' := 105) dX2_copyFrom_104 rfl ?_
  refine sw_bipush (pc' := 107) dX2_copyFrom_105 rfl rfl ?_
  refine sw_acpy (n := 8) (pc' := 110) dX2_copyFrom_107 cy_X2_67 (sqa6 hr) (sqa6 hq) rfl rfl rfl rfl rfl (fun s107 => ?_)
  refine sw_aload_n (pc' := 111) dX2_copyFrom_110 rfl rfl ?_
  refine sw_getr (pc' := 114) dX2_copyFrom_111 fl_X2_30 (sqo hr) rfl rfl ?_
  refine sw_iconst (pc' := 115) dX2_copyFrom_114 rfl ?_
  refine sw_aload_n (pc' := 116) dX2_copyFrom_115 rfl rfl ?_
  refine sw_getr (pc' := 119) dX2_copyFrom_116 fl_X2_30 (sqo hq) rfl rfl ?_
  refine sw_iconst (pc' := 120) dX2_copyFrom_119 rfl ?_
  refine sw_bipush (pc' := 122) dX2_copyFrom_120 rfl rfl ?_
  refine sw_acpy (n := 8) (pc' := 125) dX2_copyFrom_122 cy_X2_67 (sqa7 hr) (sqa7 hq) rfl rfl rfl rfl rfl (fun s122 => ?_)
  refine sw_aload_n (pc' := 126) dX2_copyFrom_125 rfl rfl ?_
  refine sw_getr (pc' := 129) dX2_copyFrom_126 fl_X2_33 (sqo hr) rfl rfl ?_
  refine sw_iconst (pc' := 130) dX2_copyFrom_129 rfl ?_
  refine sw_aload_n (pc' := 131) dX2_copyFrom_130 rfl rfl ?_
  refine sw_getr (pc' := 134) dX2_copyFrom_131 fl_X2_33 (sqo hq) rfl rfl ?_
  refine sw_iconst (pc' := 135) dX2_copyFrom_134 rfl ?_
  refine sw_bipush (pc' := 137) dX2_copyFrom_135 rfl rfl ?_
  refine sw_acpy (n := 8) (pc' := 140) dX2_copyFrom_137 cy_X2_67 (sqa8 hr) (sqa8 hq) rfl rfl rfl rfl rfl (fun s137 => ?_)
  refine sw_aload_n (pc' := 141) dX2_copyFrom_140 rfl rfl ?_
  refine sw_aload_n (pc' := 142) dX2_copyFrom_141 rfl rfl ?_
  refine sw_getn (pc' := 145) dX2_copyFrom_142 fl_X2_58 (sqo hr) rfl rfl ?_
  refine sw_putI (pc' := 148) dX2_copyFrom_145 fp_X2_58 (sqo hq) rfl rfl (fun s145 => ?_)
  refine sw_aload_n (pc' := 149) dX2_copyFrom_148 rfl rfl ?_
  refine sw_aload_n (pc' := 150) dX2_copyFrom_149 rfl rfl ?_
  refine sw_getn (pc' := 153) dX2_copyFrom_150 fl_X2_61 (sqo hr) rfl rfl ?_
  refine sw_putI (pc' := 156) dX2_copyFrom_153 fp_X2_61 (sqo hq) rfl rfl (fun s153 => ?_)
  refine sw_aload_n (pc' := 157) dX2_copyFrom_156 rfl rfl ?_
  refine sw_aload_n (pc' := 158) dX2_copyFrom_157 rfl rfl ?_
  refine sw_getn (pc' := 161) dX2_copyFrom_158 fl_X2_64 (sqo hr) rfl rfl ?_
  refine sw_putI (pc' := 164) dX2_copyFrom_161 fp_X2_64 (sqo hq) rfl rfl (fun s161 => ?_)
  exact sw_vret dX2_copyFrom_164
def rm_X2_addRider : Room := { frames := 0, cells := 0, slots := 0, locals := 0 }
def f_X2_addRider (q : Nat) (x1 : Int) (x2 : Int) (x3 : Int) (σ : St) : Option (St) :=
  if wr (σ q 0) < wr 5 then
    bV (sv σ (q + 1) 5 (σ q 0) x1) fun s17 => bV (sv s17 (q + 2) 5 (s17 q 0) x2) fun s27 => bV (sv s27 (q + 3) 5 (s27 q 0) x3) fun s37 => bV (pf s37 q 0 ((s37 q 0) + 1)) fun s45 => some s45
  else
    some σ
set_option maxRecDepth 20000 in
theorem m_X2_addRider (q : Nat) (x1 : Int) (x2 : Int) (x3 : Int) (hq : isSq q) (σ : St) : MT G l yX2_addRider cX2_addRider 4 none rm_X2_addRider [.ref (ad G q), vi x1, vi x2, vi x3] wV σ (f_X2_addRider q x1 x2 x3 σ) := by
  refine mt_V (L := [some (.ref (ad G q)), some (vi x1), some (vi x2), some (vi x3)]) rfl (Nat.le_of_ble_eq_true rfl) rfl ?_
  show SW G l RX2 cX2_addRider 4 rm_X2_addRider wV 0 [some (.ref (ad G q)), some (vi x1), some (vi x2), some (vi x3)] [] σ (f_X2_addRider q x1 x2 x3 σ)
  unfold f_X2_addRider
  refine sw_aload_n (pc' := 1) dX2_addRider_0 rfl rfl ?_
  refine sw_getn (pc' := 4) dX2_addRider_1 fl_X2_42 (sqo hq) rfl rfl ?_
  refine sw_iconst (pc' := 5) dX2_addRider_4 rfl ?_
  refine sw_icmp_ge (tgt := 48) (pc' := 8) dX2_addRider_5 (by decide) rfl (fun _ => ?_) (fun _ => ?_)
  · refine sw_aload_n (pc' := 9) dX2_addRider_8 rfl rfl ?_
    refine sw_getr (pc' := 12) dX2_addRider_9 fl_X2_9 (sqo hq) rfl rfl ?_
    refine sw_aload_n (pc' := 13) dX2_addRider_12 rfl rfl ?_
    refine sw_getn (pc' := 16) dX2_addRider_13 fl_X2_42 (sqo hq) rfl rfl ?_
    refine sw_iload_n (pc' := 17) dX2_addRider_16 rfl rfl ?_
    refine sw_iast (pc' := 18) dX2_addRider_17 (sqa1 hq) rfl (fun s17 => ?_)
    refine sw_aload_n (pc' := 19) dX2_addRider_18 rfl rfl ?_
    refine sw_getr (pc' := 22) dX2_addRider_19 fl_X2_15 (sqo hq) rfl rfl ?_
    refine sw_aload_n (pc' := 23) dX2_addRider_22 rfl rfl ?_
    refine sw_getn (pc' := 26) dX2_addRider_23 fl_X2_42 (sqo hq) rfl rfl ?_
    refine sw_iload_n (pc' := 27) dX2_addRider_26 rfl rfl ?_
    refine sw_iast (pc' := 28) dX2_addRider_27 (sqa2 hq) rfl (fun s27 => ?_)
    refine sw_aload_n (pc' := 29) dX2_addRider_28 rfl rfl ?_
    refine sw_getr (pc' := 32) dX2_addRider_29 fl_X2_18 (sqo hq) rfl rfl ?_
    refine sw_aload_n (pc' := 33) dX2_addRider_32 rfl rfl ?_
    refine sw_getn (pc' := 36) dX2_addRider_33 fl_X2_42 (sqo hq) rfl rfl ?_
    refine sw_iload_n (pc' := 37) dX2_addRider_36 rfl rfl ?_
    refine sw_iast (pc' := 38) dX2_addRider_37 (sqa3 hq) rfl (fun s37 => ?_)
    refine sw_aload_n (pc' := 39) dX2_addRider_38 rfl rfl ?_
    refine sw_dup (pc' := 40) dX2_addRider_39 rfl rfl ?_
    refine sw_getn (pc' := 43) dX2_addRider_40 fl_X2_42 (sqo hq) rfl rfl ?_
    refine sw_iconst (pc' := 44) dX2_addRider_43 rfl ?_
    refine sw_iadd (pc' := 45) dX2_addRider_44 rfl ?_
    refine sw_putI (pc' := 48) dX2_addRider_45 fp_X2_42 (sqo hq) rfl rfl (fun s45 => ?_)
    exact sw_vret dX2_addRider_48
  · exact sw_vret dX2_addRider_48
def rm_X2_addReport : Room := { frames := 0, cells := 0, slots := 0, locals := 0 }
def f_X2_addReport (q : Nat) (x1 : Int) (x2 : Int) (x3 : Int) (x4 : Int) (σ : St) : Option (Bool × St) :=
  if wr (σ q 6) < wr 8 then
    bV (sv σ (q + 5) 8 (σ q 6) x1) fun s20 => bV (sv s20 (q + 6) 8 (s20 q 6) x2) fun s30 => bV (sv s30 (q + 7) 8 (s30 q 6) x3) fun s40 => bV (sv s40 (q + 8) 8 (s40 q 6) x4) fun s51 => bV (pf s51 q 6 ((s51 q 6) + 1)) fun s59 => some (true, s59)
  else
    some (false, σ)
set_option maxRecDepth 20000 in
theorem m_X2_addReport (q : Nat) (x1 : Int) (x2 : Int) (x3 : Int) (x4 : Int) (hq : isSq q) (σ : St) : MT G l yX2_addReport cX2_addReport 5 (some .boolean) rm_X2_addReport [.ref (ad G q), vi x1, vi x2, vi x3, vi x4] wB σ (f_X2_addReport q x1 x2 x3 x4 σ) := by
  refine mt_B (L := [some (.ref (ad G q)), some (vi x1), some (vi x2), some (vi x3), some (vi x4)]) rfl (Nat.le_of_ble_eq_true rfl) rfl ?_
  show SW G l RX2 cX2_addReport 5 rm_X2_addReport wB 0 [some (.ref (ad G q)), some (vi x1), some (vi x2), some (vi x3), some (vi x4)] [] σ (f_X2_addReport q x1 x2 x3 x4 σ)
  unfold f_X2_addReport
  refine sw_aload_n (pc' := 1) dX2_addReport_0 rfl rfl ?_
  refine sw_getn (pc' := 4) dX2_addReport_1 fl_X2_55 (sqo hq) rfl rfl ?_
  refine sw_bipush (pc' := 6) dX2_addReport_4 rfl rfl ?_
  refine sw_icmp_lt (tgt := 11) (pc' := 9) dX2_addReport_6 (by decide) rfl (fun _ => ?_) (fun _ => ?_)
  · refine sw_aload_n (pc' := 12) dX2_addReport_11 rfl rfl ?_
    refine sw_getr (pc' := 15) dX2_addReport_12 fl_X2_24 (sqo hq) rfl rfl ?_
    refine sw_aload_n (pc' := 16) dX2_addReport_15 rfl rfl ?_
    refine sw_getn (pc' := 19) dX2_addReport_16 fl_X2_55 (sqo hq) rfl rfl ?_
    refine sw_iload_n (pc' := 20) dX2_addReport_19 rfl rfl ?_
    refine sw_iast (pc' := 21) dX2_addReport_20 (sqa5 hq) rfl (fun s20 => ?_)
    refine sw_aload_n (pc' := 22) dX2_addReport_21 rfl rfl ?_
    refine sw_getr (pc' := 25) dX2_addReport_22 fl_X2_27 (sqo hq) rfl rfl ?_
    refine sw_aload_n (pc' := 26) dX2_addReport_25 rfl rfl ?_
    refine sw_getn (pc' := 29) dX2_addReport_26 fl_X2_55 (sqo hq) rfl rfl ?_
    refine sw_iload_n (pc' := 30) dX2_addReport_29 rfl rfl ?_
    refine sw_iast (pc' := 31) dX2_addReport_30 (sqa6 hq) rfl (fun s30 => ?_)
    refine sw_aload_n (pc' := 32) dX2_addReport_31 rfl rfl ?_
    refine sw_getr (pc' := 35) dX2_addReport_32 fl_X2_30 (sqo hq) rfl rfl ?_
    refine sw_aload_n (pc' := 36) dX2_addReport_35 rfl rfl ?_
    refine sw_getn (pc' := 39) dX2_addReport_36 fl_X2_55 (sqo hq) rfl rfl ?_
    refine sw_iload_n (pc' := 40) dX2_addReport_39 rfl rfl ?_
    refine sw_iast (pc' := 41) dX2_addReport_40 (sqa7 hq) rfl (fun s40 => ?_)
    refine sw_aload_n (pc' := 42) dX2_addReport_41 rfl rfl ?_
    refine sw_getr (pc' := 45) dX2_addReport_42 fl_X2_33 (sqo hq) rfl rfl ?_
    refine sw_aload_n (pc' := 46) dX2_addReport_45 rfl rfl ?_
    refine sw_getn (pc' := 49) dX2_addReport_46 fl_X2_55 (sqo hq) rfl rfl ?_
    refine sw_iload (pc' := 51) dX2_addReport_49 rfl rfl ?_
    refine sw_iast (pc' := 52) dX2_addReport_51 (sqa8 hq) rfl (fun s51 => ?_)
    refine sw_aload_n (pc' := 53) dX2_addReport_52 rfl rfl ?_
    refine sw_dup (pc' := 54) dX2_addReport_53 rfl rfl ?_
    refine sw_getn (pc' := 57) dX2_addReport_54 fl_X2_55 (sqo hq) rfl rfl ?_
    refine sw_iconst (pc' := 58) dX2_addReport_57 rfl ?_
    refine sw_iadd (pc' := 59) dX2_addReport_58 rfl ?_
    refine sw_putI (pc' := 62) dX2_addReport_59 fp_X2_55 (sqo hq) rfl rfl (fun s59 => ?_)
    refine sw_iconst (pc' := 63) dX2_addReport_62 rfl ?_
    exact sw_bret (x := true) dX2_addReport_63
  · refine sw_iconst (pc' := 10) dX2_addReport_9 rfl ?_
    exact sw_bret (x := false) dX2_addReport_10
def rm_X2_reportsOn : Room := { frames := 0, cells := 0, slots := 0, locals := 0 }
def f_X2_reportsOn_30 (q : Nat) (k4 : Int → Int → Int → St → Option (Int × St)) (x1 x3 t0 t1 : Int) (σ : St) : Option (Int × St) :=
  k4 x1 (iod t0 t1) (x3 + 1) σ
set_option maxRecDepth 20000 in
theorem s_X2_reportsOn_30 (q : Nat) (hq : isSq q) (k4 : Int → Int → Int → St → Option (Int × St)) (hk4 : ∀ (x1 x2 x3 : Int) (σ : St), SW G l RX2 cX2_reportsOn 4 rm_X2_reportsOn wI 4 [some (.ref (ad G q)), some (vi x1), some (vi x2), some (vi x3)] [] σ (k4 x1 x2 x3 σ)) (x1 x3 t0 t1 : Int) (σ : St) : SW G l RX2 cX2_reportsOn 4 rm_X2_reportsOn wI 30 [some (.ref (ad G q)), some (vi x1), none, some (vi x3)] [vi t1, vi t0] σ (f_X2_reportsOn_30 q k4 x1 x3 t0 t1 σ) := by
  unfold f_X2_reportsOn_30
  refine sw_ior (pc' := 31) dX2_reportsOn_30 rfl ?_
  refine sw_istore_n (pc' := 32) (x := (iod t0 t1)) (L' := [some (.ref (ad G q)), some (vi x1), some (vi (iod t0 t1)), some (vi x3)]) dX2_reportsOn_31 rfl (by decide) rfl rfl ?_
  refine sw_iinc (pc' := 35) (x := x3) (L' := [some (.ref (ad G q)), some (vi x1), some (vi (iod t0 t1)), some (vi (x3 + 1))]) dX2_reportsOn_32 rfl (by decide) rfl rfl rfl ?_
  refine sw_goto (pc' := 4) dX2_reportsOn_35 (by decide) ?_
  exact hk4 x1 (iod t0 t1) (x3 + 1) σ
def f_X2_reportsOn_4 (q : Nat)  : Nat → Int → Int → Int → St → Option (Int × St)
  | 0, _, _, _, _ => none
  | n + 1, x1, x2, x3, σ =>
    if wr x3 < wr (σ q 6) then
      bV (ld σ (q + 7) 8 x3) fun v18 => if wr v18 = wr x1 then
        f_X2_reportsOn_30 q (f_X2_reportsOn_4 q n) x1 x3 x2 (isl 1 x3) σ
      else
        f_X2_reportsOn_30 q (f_X2_reportsOn_4 q n) x1 x3 x2 0 σ
    else
      some (x2, σ)
set_option maxRecDepth 20000 in
theorem s_X2_reportsOn_4 (q : Nat) (hq : isSq q)   : ∀ (n : Nat) (x1 x2 x3 : Int) (σ : St), SW G l RX2 cX2_reportsOn 4 rm_X2_reportsOn wI 4 [some (.ref (ad G q)), some (vi x1), some (vi x2), some (vi x3)] [] σ (f_X2_reportsOn_4 q n x1 x2 x3 σ) := by
  intro n
  induction n with
  | zero => intro x1 x2 x3 σ; exact sw_none
  | succ n ih =>
    intro x1 x2 x3 σ
    rw [f_X2_reportsOn_4]
    refine sw_iload_n (pc' := 5) dX2_reportsOn_4 rfl rfl ?_
    refine sw_aload_n (pc' := 6) dX2_reportsOn_5 rfl rfl ?_
    refine sw_getn (pc' := 9) dX2_reportsOn_6 fl_X2_55 (sqo hq) rfl rfl ?_
    refine sw_icmp_ge (tgt := 38) (pc' := 12) dX2_reportsOn_9 (by decide) rfl (fun _ => ?_) (fun _ => ?_)
    · refine sw_iload_n (pc' := 13) dX2_reportsOn_12 rfl rfl ?_
      refine sw_aload_n (pc' := 14) dX2_reportsOn_13 rfl rfl ?_
      refine sw_getr (pc' := 17) dX2_reportsOn_14 fl_X2_30 (sqo hq) rfl rfl ?_
      refine sw_iload_n (pc' := 18) dX2_reportsOn_17 rfl rfl ?_
      refine sw_iald (pc' := 19) dX2_reportsOn_18 (sqa7 hq) rfl (fun v18 => ?_)
      refine sw_iload_n (pc' := 20) dX2_reportsOn_19 rfl rfl ?_
      refine sw_icmp_ne (tgt := 29) (pc' := 23) dX2_reportsOn_20 (by decide) rfl (fun _ => ?_) (fun _ => ?_)
      · refine sw_iconst (pc' := 24) dX2_reportsOn_23 rfl ?_
        refine sw_iload_n (pc' := 25) dX2_reportsOn_24 rfl rfl ?_
        refine sw_ishl (pc' := 26) dX2_reportsOn_25 rfl ?_
        refine sw_goto (pc' := 30) dX2_reportsOn_26 (by decide) ?_
        refine sw_msk [true, true, false, true] rfl ?_
        exact s_X2_reportsOn_30 q hq (f_X2_reportsOn_4 q n) (ih) x1 x3 x2 (isl 1 x3) σ
      · refine sw_iconst (pc' := 30) dX2_reportsOn_29 rfl ?_
        refine sw_msk [true, true, false, true] rfl ?_
        exact s_X2_reportsOn_30 q hq (f_X2_reportsOn_4 q n) (ih) x1 x3 x2 0 σ
    · refine sw_iload_n (pc' := 39) dX2_reportsOn_38 rfl rfl ?_
      exact sw_iret dX2_reportsOn_39
def f_X2_reportsOn (q : Nat) (x1 : Int) (σ : St) : Option (Int × St) :=
  f_X2_reportsOn_4 q FU x1 0 0 σ
set_option maxRecDepth 20000 in
theorem m_X2_reportsOn (q : Nat) (x1 : Int) (hq : isSq q) (σ : St) : MT G l yX2_reportsOn cX2_reportsOn 4 (some .int) rm_X2_reportsOn [.ref (ad G q), vi x1] wI σ (f_X2_reportsOn q x1 σ) := by
  refine mt_I (L := [some (.ref (ad G q)), some (vi x1), none, none]) rfl (Nat.le_of_ble_eq_true rfl) rfl ?_
  show SW G l RX2 cX2_reportsOn 4 rm_X2_reportsOn wI 0 [some (.ref (ad G q)), some (vi x1), none, none] [] σ (f_X2_reportsOn q x1 σ)
  unfold f_X2_reportsOn
  refine sw_iconst (pc' := 1) dX2_reportsOn_0 rfl ?_
  refine sw_istore_n (pc' := 2) (x := 0) (L' := [some (.ref (ad G q)), some (vi x1), some (vi 0), none]) dX2_reportsOn_1 rfl (by decide) rfl rfl ?_
  refine sw_iconst (pc' := 3) dX2_reportsOn_2 rfl ?_
  refine sw_istore_n (pc' := 4) (x := 0) (L' := [some (.ref (ad G q)), some (vi x1), some (vi 0), some (vi 0)]) dX2_reportsOn_3 rfl (by decide) rfl rfl ?_
  exact s_X2_reportsOn_4 q hq FU x1 0 0 σ
def rm_X2_isContent : Room := { frames := 3, cells := 0, slots := 0, locals := 71 }
def f_X2_isContent_25 (q : Nat)  (σ : St) : Option (Bool × St) :=
  some (true, σ)
set_option maxRecDepth 20000 in
theorem s_X2_isContent_25 (q : Nat) (hq : isSq q)   (σ : St) : SW G l RX2 cX2_isContent 3 rm_X2_isContent wB 25 [none, none, none] [] σ (f_X2_isContent_25 q σ) := by
  unfold f_X2_isContent_25
  refine sw_iconst (pc' := 26) dX2_isContent_25 rfl ?_
  refine sw_goto (pc' := 30) dX2_isContent_26 (by decide) ?_
  exact sw_bret (x := true) dX2_isContent_30
def f_X2_isContent (q : Nat) (x1 : Int) (σ : St) : Option (Bool × St) :=
  bI (f_X2_beliefOf q x1 (σ q 12) σ) fun v6 s6 => if wr v6 = wr (-4) then
    f_X2_isContent_25 q s6
  else
    bI (f_X2_readingOf q x1 s6) fun v19 s19 => if wr v6 = wr v19 then
      f_X2_isContent_25 q s19
    else
      some (false, s19)
set_option maxRecDepth 20000 in
theorem m_X2_isContent (q : Nat) (x1 : Int) (hq : isSq q) (σ : St) : MT G l yX2_isContent cX2_isContent 3 (some .boolean) rm_X2_isContent [.ref (ad G q), vi x1] wB σ (f_X2_isContent q x1 σ) := by
  refine mt_B (L := [some (.ref (ad G q)), some (vi x1), none]) rfl (Nat.le_of_ble_eq_true rfl) rfl ?_
  show SW G l RX2 cX2_isContent 3 rm_X2_isContent wB 0 [some (.ref (ad G q)), some (vi x1), none] [] σ (f_X2_isContent q x1 σ)
  unfold f_X2_isContent
  refine sw_aload_n (pc' := 1) dX2_isContent_0 rfl rfl ?_
  refine sw_iload_n (pc' := 2) dX2_isContent_1 rfl rfl ?_
  refine sw_aload_n (pc' := 3) dX2_isContent_2 rfl rfl ?_
  refine sw_getn (pc' := 6) dX2_isContent_3 fl_X2_61 (sqo hq) rfl rfl ?_
  refine sw_callVI (pc' := 9) (As := [vi x1, vi (σ q 12)]) (rest := []) dX2_isContent_6 cv_X2_85 (sqo hq) (m_X2_beliefOf q x1 (σ q 12) (hq) σ) rfl rfl rfl rfl rfl (fun v6 s6 => ?_)
  refine sw_istore_n (pc' := 10) (x := v6) (L' := [some (.ref (ad G q)), some (vi x1), some (vi v6)]) dX2_isContent_9 rfl (by decide) rfl rfl ?_
  refine sw_iload_n (pc' := 11) dX2_isContent_10 rfl rfl ?_
  refine sw_bipush (pc' := 13) dX2_isContent_11 rfl rfl ?_
  refine sw_icmp_eq (tgt := 25) (pc' := 16) dX2_isContent_13 (by decide) rfl (fun _ => ?_) (fun _ => ?_)
  · refine sw_msk [false, false, false] rfl ?_
    exact s_X2_isContent_25 q hq s6
  · refine sw_iload_n (pc' := 17) dX2_isContent_16 rfl rfl ?_
    refine sw_aload_n (pc' := 18) dX2_isContent_17 rfl rfl ?_
    refine sw_iload_n (pc' := 19) dX2_isContent_18 rfl rfl ?_
    refine sw_callVI (pc' := 22) (As := [vi x1]) (rest := [vi v6]) dX2_isContent_19 cv_X2_88 (sqo hq) (m_X2_readingOf q x1 (hq) s6) rfl rfl rfl rfl rfl (fun v19 s19 => ?_)
    refine sw_icmp_ne (tgt := 29) (pc' := 25) dX2_isContent_22 (by decide) rfl (fun _ => ?_) (fun _ => ?_)
    · refine sw_msk [false, false, false] rfl ?_
      exact s_X2_isContent_25 q hq s19
    · refine sw_iconst (pc' := 30) dX2_isContent_29 rfl ?_
      exact sw_bret (x := false) dX2_isContent_30
def rm_X2_agreeing : Room := { frames := 4, cells := 0, slots := 0, locals := 93 }
def f_X2_agreeing_28 (q : Nat) (k4 : Int → Int → St → Option (Int × St)) (x2 t0 t1 : Int) (σ : St) : Option (Int × St) :=
  k4 (iod t0 t1) (x2 + 1) σ
set_option maxRecDepth 20000 in
theorem s_X2_agreeing_28 (q : Nat) (hq : isSq q) (k4 : Int → Int → St → Option (Int × St)) (hk4 : ∀ (x1 x2 : Int) (σ : St), SW G l RX2 cX2_agreeing 3 rm_X2_agreeing wI 4 [some (.ref (ad G q)), some (vi x1), some (vi x2)] [] σ (k4 x1 x2 σ)) (x2 t0 t1 : Int) (σ : St) : SW G l RX2 cX2_agreeing 3 rm_X2_agreeing wI 28 [some (.ref (ad G q)), none, some (vi x2)] [vi t1, vi t0] σ (f_X2_agreeing_28 q k4 x2 t0 t1 σ) := by
  unfold f_X2_agreeing_28
  refine sw_ior (pc' := 29) dX2_agreeing_28 rfl ?_
  refine sw_istore_n (pc' := 30) (x := (iod t0 t1)) (L' := [some (.ref (ad G q)), some (vi (iod t0 t1)), some (vi x2)]) dX2_agreeing_29 rfl (by decide) rfl rfl ?_
  refine sw_iinc (pc' := 33) (x := x2) (L' := [some (.ref (ad G q)), some (vi (iod t0 t1)), some (vi (x2 + 1))]) dX2_agreeing_30 rfl (by decide) rfl rfl rfl ?_
  refine sw_goto (pc' := 4) dX2_agreeing_33 (by decide) ?_
  exact hk4 (iod t0 t1) (x2 + 1) σ
def f_X2_agreeing_4 (q : Nat)  : Nat → Int → Int → St → Option (Int × St)
  | 0, _, _, _ => none
  | n + 1, x1, x2, σ =>
    if wr x2 < wr (σ q 0) then
      bI (f_X2_isContent q x2 σ) fun v15 s15 => if v15 then
        f_X2_agreeing_28 q (f_X2_agreeing_4 q n) x2 x1 (isl 1 x2) s15
      else
        f_X2_agreeing_28 q (f_X2_agreeing_4 q n) x2 x1 0 s15
    else
      some (x1, σ)
set_option maxRecDepth 20000 in
theorem s_X2_agreeing_4 (q : Nat) (hq : isSq q)   : ∀ (n : Nat) (x1 x2 : Int) (σ : St), SW G l RX2 cX2_agreeing 3 rm_X2_agreeing wI 4 [some (.ref (ad G q)), some (vi x1), some (vi x2)] [] σ (f_X2_agreeing_4 q n x1 x2 σ) := by
  intro n
  induction n with
  | zero => intro x1 x2 σ; exact sw_none
  | succ n ih =>
    intro x1 x2 σ
    rw [f_X2_agreeing_4]
    refine sw_iload_n (pc' := 5) dX2_agreeing_4 rfl rfl ?_
    refine sw_aload_n (pc' := 6) dX2_agreeing_5 rfl rfl ?_
    refine sw_getn (pc' := 9) dX2_agreeing_6 fl_X2_42 (sqo hq) rfl rfl ?_
    refine sw_icmp_ge (tgt := 36) (pc' := 12) dX2_agreeing_9 (by decide) rfl (fun _ => ?_) (fun _ => ?_)
    · refine sw_iload_n (pc' := 13) dX2_agreeing_12 rfl rfl ?_
      refine sw_aload_n (pc' := 14) dX2_agreeing_13 rfl rfl ?_
      refine sw_iload_n (pc' := 15) dX2_agreeing_14 rfl rfl ?_
      refine sw_callVB (pc' := 18) (As := [vi x2]) (rest := [vi x1]) dX2_agreeing_15 cv_X2_91 (sqo hq) (m_X2_isContent q x2 (hq) σ) rfl rfl rfl rfl rfl (fun v15 s15 => ?_)
      refine sw_bif_eq (tgt := 27) (pc' := 21) dX2_agreeing_18 (by decide) rfl (fun _ => ?_) (fun _ => ?_)
      · refine sw_iconst (pc' := 22) dX2_agreeing_21 rfl ?_
        refine sw_iload_n (pc' := 23) dX2_agreeing_22 rfl rfl ?_
        refine sw_ishl (pc' := 24) dX2_agreeing_23 rfl ?_
        refine sw_goto (pc' := 28) dX2_agreeing_24 (by decide) ?_
        refine sw_msk [true, false, true] rfl ?_
        exact s_X2_agreeing_28 q hq (f_X2_agreeing_4 q n) (ih) x2 x1 (isl 1 x2) s15
      · refine sw_iconst (pc' := 28) dX2_agreeing_27 rfl ?_
        refine sw_msk [true, false, true] rfl ?_
        exact s_X2_agreeing_28 q hq (f_X2_agreeing_4 q n) (ih) x2 x1 0 s15
    · refine sw_iload_n (pc' := 37) dX2_agreeing_36 rfl rfl ?_
      exact sw_iret dX2_agreeing_37
def f_X2_agreeing (q : Nat) (σ : St) : Option (Int × St) :=
  f_X2_agreeing_4 q FU 0 0 σ
set_option maxRecDepth 20000 in
theorem m_X2_agreeing (q : Nat) (hq : isSq q) (σ : St) : MT G l yX2_agreeing cX2_agreeing 3 (some .int) rm_X2_agreeing [.ref (ad G q)] wI σ (f_X2_agreeing q σ) := by
  refine mt_I (L := [some (.ref (ad G q)), none, none]) rfl (Nat.le_of_ble_eq_true rfl) rfl ?_
  show SW G l RX2 cX2_agreeing 3 rm_X2_agreeing wI 0 [some (.ref (ad G q)), none, none] [] σ (f_X2_agreeing q σ)
  unfold f_X2_agreeing
  refine sw_iconst (pc' := 1) dX2_agreeing_0 rfl ?_
  refine sw_istore_n (pc' := 2) (x := 0) (L' := [some (.ref (ad G q)), some (vi 0), none]) dX2_agreeing_1 rfl (by decide) rfl rfl ?_
  refine sw_iconst (pc' := 3) dX2_agreeing_2 rfl ?_
  refine sw_istore_n (pc' := 4) (x := 0) (L' := [some (.ref (ad G q)), some (vi 0), some (vi 0)]) dX2_agreeing_3 rfl (by decide) rfl rfl ?_
  exact s_X2_agreeing_4 q hq FU 0 0 σ
end GEN
