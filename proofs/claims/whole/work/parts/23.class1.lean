section GEN
variable {G : Gh} {l : Launch}
def rm_X2_standing : Room := { frames := 3, cells := 0, slots := 0, locals := 62 }
def f_X2_standing_39 (q : Nat) (k4 : Int → Int → St → Option (Int × St)) (x2 t0 t1 : Int) (σ : St) : Option (Int × St) :=
  k4 (iod t0 t1) (x2 + 1) σ
set_option maxRecDepth 20000 in
theorem s_X2_standing_39 (q : Nat) (hq : isSq q) (k4 : Int → Int → St → Option (Int × St)) (hk4 : ∀ (x1 x2 : Int) (σ : St), SW G l RX2 cX2_standing 3 rm_X2_standing wI 4 [some (.ref (ad G q)), some (vi x1), some (vi x2)] [] σ (k4 x1 x2 σ)) (x2 t0 t1 : Int) (σ : St) : SW G l RX2 cX2_standing 3 rm_X2_standing wI 39 [some (.ref (ad G q)), none, some (vi x2)] [vi t1, vi t0] σ (f_X2_standing_39 q k4 x2 t0 t1 σ) := by
  unfold f_X2_standing_39
  refine sw_ior (pc' := 40) dX2_standing_39 rfl ?_
  refine sw_istore_n (pc' := 41) (x := (iod t0 t1)) (L' := [some (.ref (ad G q)), some (vi (iod t0 t1)), some (vi x2)]) dX2_standing_40 rfl (by decide) rfl rfl ?_
  refine sw_iinc (pc' := 44) (x := x2) (L' := [some (.ref (ad G q)), some (vi (iod t0 t1)), some (vi (x2 + 1))]) dX2_standing_41 rfl (by decide) rfl rfl rfl ?_
  refine sw_goto (pc' := 4) dX2_standing_44 (by decide) ?_
  exact hk4 (iod t0 t1) (x2 + 1) σ
def f_X2_standing_4 (q : Nat)  : Nat → Int → Int → St → Option (Int × St)
  | 0, _, _, _ => none
  | n + 1, x1, x2, σ =>
    if wr x2 < wr (σ q 0) then
      bV (ld σ (q + 2) 5 x2) fun v19 => bV (ld σ (q + 3) 5 x2) fun v25 => bI (f_X2_holds q v19 v25 σ) fun v26 s26 => if v26 then
        f_X2_standing_39 q (f_X2_standing_4 q n) x2 x1 (isl 1 x2) s26
      else
        f_X2_standing_39 q (f_X2_standing_4 q n) x2 x1 0 s26
    else
      some (x1, σ)
set_option maxRecDepth 20000 in
theorem s_X2_standing_4 (q : Nat) (hq : isSq q)   : ∀ (n : Nat) (x1 x2 : Int) (σ : St), SW G l RX2 cX2_standing 3 rm_X2_standing wI 4 [some (.ref (ad G q)), some (vi x1), some (vi x2)] [] σ (f_X2_standing_4 q n x1 x2 σ) := by
  intro n
  induction n with
  | zero => intro x1 x2 σ; exact sw_none
  | succ n ih =>
    intro x1 x2 σ
    rw [f_X2_standing_4]
    refine sw_iload_n (pc' := 5) dX2_standing_4 rfl rfl ?_
    refine sw_aload_n (pc' := 6) dX2_standing_5 rfl rfl ?_
    refine sw_getn (pc' := 9) dX2_standing_6 fl_X2_42 (sqo hq) rfl rfl ?_
    refine sw_icmp_ge (tgt := 47) (pc' := 12) dX2_standing_9 (by decide) rfl (fun _ => ?_) (fun _ => ?_)
    · refine sw_iload_n (pc' := 13) dX2_standing_12 rfl rfl ?_
      refine sw_aload_n (pc' := 14) dX2_standing_13 rfl rfl ?_
      refine sw_aload_n (pc' := 15) dX2_standing_14 rfl rfl ?_
      refine sw_getr (pc' := 18) dX2_standing_15 fl_X2_15 (sqo hq) rfl rfl ?_
      refine sw_iload_n (pc' := 19) dX2_standing_18 rfl rfl ?_
      refine sw_iald (pc' := 20) dX2_standing_19 (sqa2 hq) rfl (fun v19 => ?_)
      refine sw_aload_n (pc' := 21) dX2_standing_20 rfl rfl ?_
      refine sw_getr (pc' := 24) dX2_standing_21 fl_X2_18 (sqo hq) rfl rfl ?_
      refine sw_iload_n (pc' := 25) dX2_standing_24 rfl rfl ?_
      refine sw_iald (pc' := 26) dX2_standing_25 (sqa3 hq) rfl (fun v25 => ?_)
      refine sw_callVB (pc' := 29) (As := [vi v19, vi v25]) (rest := [vi x1]) dX2_standing_26 cv_X2_95 (sqo hq) (m_X2_holds q v19 v25 (hq) σ) rfl rfl rfl rfl rfl (fun v26 s26 => ?_)
      refine sw_bif_eq (tgt := 38) (pc' := 32) dX2_standing_29 (by decide) rfl (fun _ => ?_) (fun _ => ?_)
      · refine sw_iconst (pc' := 33) dX2_standing_32 rfl ?_
        refine sw_iload_n (pc' := 34) dX2_standing_33 rfl rfl ?_
        refine sw_ishl (pc' := 35) dX2_standing_34 rfl ?_
        refine sw_goto (pc' := 39) dX2_standing_35 (by decide) ?_
        refine sw_msk [true, false, true] rfl ?_
        exact s_X2_standing_39 q hq (f_X2_standing_4 q n) (ih) x2 x1 (isl 1 x2) s26
      · refine sw_iconst (pc' := 39) dX2_standing_38 rfl ?_
        refine sw_msk [true, false, true] rfl ?_
        exact s_X2_standing_39 q hq (f_X2_standing_4 q n) (ih) x2 x1 0 s26
    · refine sw_iload_n (pc' := 48) dX2_standing_47 rfl rfl ?_
      exact sw_iret dX2_standing_48
def f_X2_standing (q : Nat) (σ : St) : Option (Int × St) :=
  f_X2_standing_4 q FU 0 0 σ
set_option maxRecDepth 20000 in
theorem m_X2_standing (q : Nat) (hq : isSq q) (σ : St) : MT G l yX2_standing cX2_standing 3 (some .int) rm_X2_standing [.ref (ad G q)] wI σ (f_X2_standing q σ) := by
  refine mt_I (L := [some (.ref (ad G q)), none, none]) rfl (Nat.le_of_ble_eq_true rfl) rfl ?_
  show SW G l RX2 cX2_standing 3 rm_X2_standing wI 0 [some (.ref (ad G q)), none, none] [] σ (f_X2_standing q σ)
  unfold f_X2_standing
  refine sw_iconst (pc' := 1) dX2_standing_0 rfl ?_
  refine sw_istore_n (pc' := 2) (x := 0) (L' := [some (.ref (ad G q)), some (vi 0), none]) dX2_standing_1 rfl (by decide) rfl rfl ?_
  refine sw_iconst (pc' := 3) dX2_standing_2 rfl ?_
  refine sw_istore_n (pc' := 4) (x := 0) (L' := [some (.ref (ad G q)), some (vi 0), some (vi 0)]) dX2_standing_3 rfl (by decide) rfl rfl ?_
  exact s_X2_standing_4 q hq FU 0 0 σ
def rm_X2_dayOfNextReport : Room := { frames := 0, cells := 0, slots := 0, locals := 0 }
def f_X2_dayOfNextReport_42 (q : Nat) (k4 : Int → Int → St → Option (Int × St)) (x2 x3 : Int) (σ : St) : Option (Int × St) :=
  k4 x2 (x3 + 1) σ
set_option maxRecDepth 20000 in
theorem s_X2_dayOfNextReport_42 (q : Nat) (hq : isSq q) (k4 : Int → Int → St → Option (Int × St)) (hk4 : ∀ (x2 x3 : Int) (σ : St), SW G l RX2 cX2_dayOfNextReport 4 rm_X2_dayOfNextReport wI 4 [some (.ref (ad G q)), none, some (vi x2), some (vi x3)] [] σ (k4 x2 x3 σ)) (x2 x3 : Int) (σ : St) : SW G l RX2 cX2_dayOfNextReport 4 rm_X2_dayOfNextReport wI 42 [some (.ref (ad G q)), none, some (vi x2), some (vi x3)] [] σ (f_X2_dayOfNextReport_42 q k4 x2 x3 σ) := by
  unfold f_X2_dayOfNextReport_42
  refine sw_iinc (pc' := 45) (x := x3) (L' := [some (.ref (ad G q)), none, some (vi x2), some (vi (x3 + 1))]) dX2_dayOfNextReport_42 rfl (by decide) rfl rfl rfl ?_
  refine sw_goto (pc' := 4) dX2_dayOfNextReport_45 (by decide) ?_
  exact hk4 x2 (x3 + 1) σ
def f_X2_dayOfNextReport_4 (q : Nat)  : Nat → Int → Int → St → Option (Int × St)
  | 0, _, _, _ => none
  | n + 1, x2, x3, σ =>
    if wr x3 < wr (σ q 6) then
      bV (ld σ (q + 5) 8 x3) fun v17 => if wr v17 < wr (σ q 12) then
        f_X2_dayOfNextReport_42 q (f_X2_dayOfNextReport_4 q n) x2 x3 σ
      else
        bV (ld σ (q + 5) 8 x3) fun v30 => if wr v30 < wr x2 then
          bV (ld σ (q + 5) 8 x3) fun v40 => f_X2_dayOfNextReport_42 q (f_X2_dayOfNextReport_4 q n) v40 x3 σ
        else
          f_X2_dayOfNextReport_42 q (f_X2_dayOfNextReport_4 q n) x2 x3 σ
    else
      some (x2, σ)
set_option maxRecDepth 20000 in
theorem s_X2_dayOfNextReport_4 (q : Nat) (hq : isSq q)   : ∀ (n : Nat) (x2 x3 : Int) (σ : St), SW G l RX2 cX2_dayOfNextReport 4 rm_X2_dayOfNextReport wI 4 [some (.ref (ad G q)), none, some (vi x2), some (vi x3)] [] σ (f_X2_dayOfNextReport_4 q n x2 x3 σ) := by
  intro n
  induction n with
  | zero => intro x2 x3 σ; exact sw_none
  | succ n ih =>
    intro x2 x3 σ
    rw [f_X2_dayOfNextReport_4]
    refine sw_iload_n (pc' := 5) dX2_dayOfNextReport_4 rfl rfl ?_
    refine sw_aload_n (pc' := 6) dX2_dayOfNextReport_5 rfl rfl ?_
    refine sw_getn (pc' := 9) dX2_dayOfNextReport_6 fl_X2_55 (sqo hq) rfl rfl ?_
    refine sw_icmp_ge (tgt := 48) (pc' := 12) dX2_dayOfNextReport_9 (by decide) rfl (fun _ => ?_) (fun _ => ?_)
    · refine sw_aload_n (pc' := 13) dX2_dayOfNextReport_12 rfl rfl ?_
      refine sw_getr (pc' := 16) dX2_dayOfNextReport_13 fl_X2_24 (sqo hq) rfl rfl ?_
      refine sw_iload_n (pc' := 17) dX2_dayOfNextReport_16 rfl rfl ?_
      refine sw_iald (pc' := 18) dX2_dayOfNextReport_17 (sqa5 hq) rfl (fun v17 => ?_)
      refine sw_aload_n (pc' := 19) dX2_dayOfNextReport_18 rfl rfl ?_
      refine sw_getn (pc' := 22) dX2_dayOfNextReport_19 fl_X2_61 (sqo hq) rfl rfl ?_
      refine sw_icmp_lt (tgt := 42) (pc' := 25) dX2_dayOfNextReport_22 (by decide) rfl (fun _ => ?_) (fun _ => ?_)
      · exact s_X2_dayOfNextReport_42 q hq (f_X2_dayOfNextReport_4 q n) (ih) x2 x3 σ
      · refine sw_aload_n (pc' := 26) dX2_dayOfNextReport_25 rfl rfl ?_
        refine sw_getr (pc' := 29) dX2_dayOfNextReport_26 fl_X2_24 (sqo hq) rfl rfl ?_
        refine sw_iload_n (pc' := 30) dX2_dayOfNextReport_29 rfl rfl ?_
        refine sw_iald (pc' := 31) dX2_dayOfNextReport_30 (sqa5 hq) rfl (fun v30 => ?_)
        refine sw_iload_n (pc' := 32) dX2_dayOfNextReport_31 rfl rfl ?_
        refine sw_icmp_ge (tgt := 42) (pc' := 35) dX2_dayOfNextReport_32 (by decide) rfl (fun _ => ?_) (fun _ => ?_)
        · refine sw_aload_n (pc' := 36) dX2_dayOfNextReport_35 rfl rfl ?_
          refine sw_getr (pc' := 39) dX2_dayOfNextReport_36 fl_X2_24 (sqo hq) rfl rfl ?_
          refine sw_iload_n (pc' := 40) dX2_dayOfNextReport_39 rfl rfl ?_
          refine sw_iald (pc' := 41) dX2_dayOfNextReport_40 (sqa5 hq) rfl (fun v40 => ?_)
          refine sw_istore_n (pc' := 42) (x := v40) (L' := [some (.ref (ad G q)), none, some (vi v40), some (vi x3)]) dX2_dayOfNextReport_41 rfl (by decide) rfl rfl ?_
          exact s_X2_dayOfNextReport_42 q hq (f_X2_dayOfNextReport_4 q n) (ih) v40 x3 σ
        · exact s_X2_dayOfNextReport_42 q hq (f_X2_dayOfNextReport_4 q n) (ih) x2 x3 σ
    · refine sw_iload_n (pc' := 49) dX2_dayOfNextReport_48 rfl rfl ?_
      exact sw_iret dX2_dayOfNextReport_49
def f_X2_dayOfNextReport (q : Nat) (x1 : Int) (σ : St) : Option (Int × St) :=
  f_X2_dayOfNextReport_4 q FU x1 0 σ
set_option maxRecDepth 20000 in
theorem m_X2_dayOfNextReport (q : Nat) (x1 : Int) (hq : isSq q) (σ : St) : MT G l yX2_dayOfNextReport cX2_dayOfNextReport 4 (some .int) rm_X2_dayOfNextReport [.ref (ad G q), vi x1] wI σ (f_X2_dayOfNextReport q x1 σ) := by
  refine mt_I (L := [some (.ref (ad G q)), some (vi x1), none, none]) rfl (Nat.le_of_ble_eq_true rfl) rfl ?_
  show SW G l RX2 cX2_dayOfNextReport 4 rm_X2_dayOfNextReport wI 0 [some (.ref (ad G q)), some (vi x1), none, none] [] σ (f_X2_dayOfNextReport q x1 σ)
  unfold f_X2_dayOfNextReport
  refine sw_iload_n (pc' := 1) dX2_dayOfNextReport_0 rfl rfl ?_
  refine sw_istore_n (pc' := 2) (x := x1) (L' := [some (.ref (ad G q)), some (vi x1), some (vi x1), none]) dX2_dayOfNextReport_1 rfl (by decide) rfl rfl ?_
  refine sw_iconst (pc' := 3) dX2_dayOfNextReport_2 rfl ?_
  refine sw_istore_n (pc' := 4) (x := 0) (L' := [some (.ref (ad G q)), some (vi x1), some (vi x1), some (vi 0)]) dX2_dayOfNextReport_3 rfl (by decide) rfl rfl ?_
  refine sw_msk [true, false, true, true] rfl ?_
  exact s_X2_dayOfNextReport_4 q hq FU x1 0 σ
def rm_X2_passDays : Room := { frames := 5, cells := 0, slots := 0, locals := 118 }
def f_X2_passDays_51 (q : Nat) (k12 : Int → Int → Int → Int → St → Option (Int × St)) (x1 x2 x3 x4 : Int) (σ : St) : Option (Int × St) :=
  k12 x1 x2 x3 (x4 + 1) σ
set_option maxRecDepth 20000 in
theorem s_X2_passDays_51 (q : Nat) (hq : isSq q) (k12 : Int → Int → Int → Int → St → Option (Int × St)) (hk12 : ∀ (x1 x2 x3 x4 : Int) (σ : St), SW G l RX2 cX2_passDays 6 rm_X2_passDays wI 12 [some (.ref (ad G q)), some (vi x1), some (vi x2), some (vi x3), some (vi x4), none] [] σ (k12 x1 x2 x3 x4 σ)) (x1 x2 x3 x4 : Int) (σ : St) : SW G l RX2 cX2_passDays 6 rm_X2_passDays wI 51 [some (.ref (ad G q)), some (vi x1), some (vi x2), some (vi x3), some (vi x4), none] [] σ (f_X2_passDays_51 q k12 x1 x2 x3 x4 σ) := by
  unfold f_X2_passDays_51
  refine sw_iinc (pc' := 54) (x := x4) (L' := [some (.ref (ad G q)), some (vi x1), some (vi x2), some (vi x3), some (vi (x4 + 1)), none]) dX2_passDays_51 rfl (by decide) rfl rfl rfl ?_
  refine sw_goto (pc' := 12) dX2_passDays_54 (by decide) ?_
  exact hk12 x1 x2 x3 (x4 + 1) σ
def f_X2_passDays_12 (q : Nat)  : Nat → Int → Int → Int → Int → St → Option (Int × St)
  | 0, _, _, _, _, _ => none
  | n + 1, x1, x2, x3, x4, σ =>
    if wr x4 < wr x1 then
      if wr (σ q 12) < wr x2 then
        bI (f_X2_passDay q σ) fun v27 s27 => if wr v27 = 0 then
          bI (f_X2_dayOfNextReport q x2 s27) fun v45 s45 => bV (pf s45 q 12 v45) fun s48 => f_X2_passDays_51 q (f_X2_passDays_12 q n) x1 x2 (x3 + v27) x4 s48
        else
          f_X2_passDays_51 q (f_X2_passDays_12 q n) x1 x2 (x3 + v27) x4 s27
      else
        some (x3, σ)
    else
      some (x3, σ)
set_option maxRecDepth 20000 in
theorem s_X2_passDays_12 (q : Nat) (hq : isSq q)   : ∀ (n : Nat) (x1 x2 x3 x4 : Int) (σ : St), SW G l RX2 cX2_passDays 6 rm_X2_passDays wI 12 [some (.ref (ad G q)), some (vi x1), some (vi x2), some (vi x3), some (vi x4), none] [] σ (f_X2_passDays_12 q n x1 x2 x3 x4 σ) := by
  intro n
  induction n with
  | zero => intro x1 x2 x3 x4 σ; exact sw_none
  | succ n ih =>
    intro x1 x2 x3 x4 σ
    rw [f_X2_passDays_12]
    refine sw_iload (pc' := 14) dX2_passDays_12 rfl rfl ?_
    refine sw_iload_n (pc' := 15) dX2_passDays_14 rfl rfl ?_
    refine sw_icmp_ge (tgt := 57) (pc' := 18) dX2_passDays_15 (by decide) rfl (fun _ => ?_) (fun _ => ?_)
    · refine sw_aload_n (pc' := 19) dX2_passDays_18 rfl rfl ?_
      refine sw_getn (pc' := 22) dX2_passDays_19 fl_X2_61 (sqo hq) rfl rfl ?_
      refine sw_iload_n (pc' := 23) dX2_passDays_22 rfl rfl ?_
      refine sw_icmp_ge (tgt := 57) (pc' := 26) dX2_passDays_23 (by decide) rfl (fun _ => ?_) (fun _ => ?_)
      · refine sw_aload_n (pc' := 27) dX2_passDays_26 rfl rfl ?_
        refine sw_callVI (pc' := 30) (As := []) (rest := []) dX2_passDays_27 cv_X2_110 (sqo hq) (m_X2_passDay q (hq) σ) rfl rfl rfl rfl rfl (fun v27 s27 => ?_)
        refine sw_istore (pc' := 32) (x := v27) (L' := [some (.ref (ad G q)), some (vi x1), some (vi x2), some (vi x3), some (vi x4), some (vi v27)]) dX2_passDays_30 rfl (by decide) rfl rfl ?_
        refine sw_iload_n (pc' := 33) dX2_passDays_32 rfl rfl ?_
        refine sw_iload (pc' := 35) dX2_passDays_33 rfl rfl ?_
        refine sw_iadd (pc' := 36) dX2_passDays_35 rfl ?_
        refine sw_istore_n (pc' := 37) (x := (x3 + v27)) (L' := [some (.ref (ad G q)), some (vi x1), some (vi x2), some (vi (x3 + v27)), some (vi x4), some (vi v27)]) dX2_passDays_36 rfl (by decide) rfl rfl ?_
        refine sw_iload (pc' := 39) dX2_passDays_37 rfl rfl ?_
        refine sw_if_ne (tgt := 51) (pc' := 42) dX2_passDays_39 (by decide) rfl (fun _ => ?_) (fun _ => ?_)
        · refine sw_aload_n (pc' := 43) dX2_passDays_42 rfl rfl ?_
          refine sw_aload_n (pc' := 44) dX2_passDays_43 rfl rfl ?_
          refine sw_iload_n (pc' := 45) dX2_passDays_44 rfl rfl ?_
          refine sw_callVI (pc' := 48) (As := [vi x2]) (rest := [.ref (ad G q)]) dX2_passDays_45 cv_X2_114 (sqo hq) (m_X2_dayOfNextReport q x2 (hq) s27) rfl rfl rfl rfl rfl (fun v45 s45 => ?_)
          refine sw_putI (pc' := 51) dX2_passDays_48 fp_X2_61 (sqo hq) rfl rfl (fun s48 => ?_)
          refine sw_msk [true, true, true, true, true, false] rfl ?_
          exact s_X2_passDays_51 q hq (f_X2_passDays_12 q n) (ih) x1 x2 (x3 + v27) x4 s48
        · refine sw_msk [true, true, true, true, true, false] rfl ?_
          exact s_X2_passDays_51 q hq (f_X2_passDays_12 q n) (ih) x1 x2 (x3 + v27) x4 s27
      · refine sw_iload_n (pc' := 58) dX2_passDays_57 rfl rfl ?_
        exact sw_iret dX2_passDays_58
    · refine sw_iload_n (pc' := 58) dX2_passDays_57 rfl rfl ?_
      exact sw_iret dX2_passDays_58
def f_X2_passDays (q : Nat) (x1 : Int) (σ : St) : Option (Int × St) :=
  f_X2_passDays_12 q FU x1 ((σ q 12) + x1) 0 0 σ
set_option maxRecDepth 20000 in
theorem m_X2_passDays (q : Nat) (x1 : Int) (hq : isSq q) (σ : St) : MT G l yX2_passDays cX2_passDays 6 (some .int) rm_X2_passDays [.ref (ad G q), vi x1] wI σ (f_X2_passDays q x1 σ) := by
  refine mt_I (L := [some (.ref (ad G q)), some (vi x1), none, none, none, none]) rfl (Nat.le_of_ble_eq_true rfl) rfl ?_
  show SW G l RX2 cX2_passDays 6 rm_X2_passDays wI 0 [some (.ref (ad G q)), some (vi x1), none, none, none, none] [] σ (f_X2_passDays q x1 σ)
  unfold f_X2_passDays
  refine sw_aload_n (pc' := 1) dX2_passDays_0 rfl rfl ?_
  refine sw_getn (pc' := 4) dX2_passDays_1 fl_X2_61 (sqo hq) rfl rfl ?_
  refine sw_iload_n (pc' := 5) dX2_passDays_4 rfl rfl ?_
  refine sw_iadd (pc' := 6) dX2_passDays_5 rfl ?_
  refine sw_istore_n (pc' := 7) (x := ((σ q 12) + x1)) (L' := [some (.ref (ad G q)), some (vi x1), some (vi ((σ q 12) + x1)), none, none, none]) dX2_passDays_6 rfl (by decide) rfl rfl ?_
  refine sw_iconst (pc' := 8) dX2_passDays_7 rfl ?_
  refine sw_istore_n (pc' := 9) (x := 0) (L' := [some (.ref (ad G q)), some (vi x1), some (vi ((σ q 12) + x1)), some (vi 0), none, none]) dX2_passDays_8 rfl (by decide) rfl rfl ?_
  refine sw_iconst (pc' := 10) dX2_passDays_9 rfl ?_
  refine sw_istore (pc' := 12) (x := 0) (L' := [some (.ref (ad G q)), some (vi x1), some (vi ((σ q 12) + x1)), some (vi 0), some (vi 0), none]) dX2_passDays_10 rfl (by decide) rfl rfl ?_
  exact s_X2_passDays_12 q hq FU x1 ((σ q 12) + x1) 0 0 σ
def rm_X3_append : Room := { frames := 0, cells := 0, slots := 0, locals := 0 }
def f_X3_append (x1 : Int) (σ : St) : Option (Bool × St) :=
  if wr (σ 41 1) < wr 160 then
    bV (sv σ 42 160 (σ 41 1) (nab (nby x1))) fun s22 => bV (pf s22 41 1 ((s22 41 1) + 1)) fun s30 => some (true, s30)
  else
    some (false, σ)
set_option maxRecDepth 20000 in
theorem m_X3_append (x1 : Int)  (σ : St) : MT G l yX3_append cX3_append 2 (some .boolean) rm_X3_append [.ref (ad G 41), vi x1] wB σ (f_X3_append x1 σ) := by
  refine mt_B (L := [some (.ref (ad G 41)), some (vi x1)]) rfl (Nat.le_of_ble_eq_true rfl) rfl ?_
  show SW G l RX3 cX3_append 2 rm_X3_append wB 0 [some (.ref (ad G 41)), some (vi x1)] [] σ (f_X3_append x1 σ)
  unfold f_X3_append
  refine sw_aload_n (pc' := 1) dX3_append_0 rfl rfl ?_
  refine sw_getn (pc' := 4) dX3_append_1 fl_X3_15 (tbk_41) rfl rfl ?_
  refine sw_sipush (pc' := 7) dX3_append_4 rfl rfl ?_
  refine sw_icmp_lt (tgt := 12) (pc' := 10) dX3_append_7 (by decide) rfl (fun _ => ?_) (fun _ => ?_)
  · refine sw_aload_n (pc' := 13) dX3_append_12 rfl rfl ?_
    refine sw_getr (pc' := 16) dX3_append_13 fl_X3_11 (tbk_41) rfl rfl ?_
    refine sw_aload_n (pc' := 17) dX3_append_16 rfl rfl ?_
    refine sw_getn (pc' := 20) dX3_append_17 fl_X3_15 (tbk_41) rfl rfl ?_
    refine sw_iload_n (pc' := 21) dX3_append_20 rfl rfl ?_
    refine sw_i2b (pc' := 22) dX3_append_21 rfl ?_
    refine sw_bast (pc' := 23) dX3_append_22 (tbk_42) rfl (fun s22 => ?_)
    refine sw_aload_n (pc' := 24) dX3_append_23 rfl rfl ?_
    refine sw_dup (pc' := 25) dX3_append_24 rfl rfl ?_
    refine sw_getn (pc' := 28) dX3_append_25 fl_X3_15 (tbk_41) rfl rfl ?_
    refine sw_iconst (pc' := 29) dX3_append_28 rfl ?_
    refine sw_iadd (pc' := 30) dX3_append_29 rfl ?_
    refine sw_putI (pc' := 33) dX3_append_30 fp_X3_15 (tbk_41) rfl rfl (fun s30 => ?_)
    refine sw_iconst (pc' := 34) dX3_append_33 rfl ?_
    exact sw_bret (x := true) dX3_append_34
  · refine sw_iconst (pc' := 11) dX3_append_10 rfl ?_
    exact sw_bret (x := false) dX3_append_11
def rm_X3_fail : Room := { frames := 0, cells := 0, slots := 0, locals := 0 }
def f_X3_fail (x1 : Int) (x2 : Int) (σ : St) : Option (St) :=
  if wr (σ 41 2) = 0 then
    bV (pf σ 41 2 x1) fun s9 => bV (pf s9 41 3 x2) fun s14 => some s14
  else
    some σ
set_option maxRecDepth 20000 in
theorem m_X3_fail (x1 : Int) (x2 : Int)  (σ : St) : MT G l yX3_fail cX3_fail 3 none rm_X3_fail [.ref (ad G 41), vi x1, vi x2] wV σ (f_X3_fail x1 x2 σ) := by
  refine mt_V (L := [some (.ref (ad G 41)), some (vi x1), some (vi x2)]) rfl (Nat.le_of_ble_eq_true rfl) rfl ?_
  show SW G l RX3 cX3_fail 3 rm_X3_fail wV 0 [some (.ref (ad G 41)), some (vi x1), some (vi x2)] [] σ (f_X3_fail x1 x2 σ)
  unfold f_X3_fail
  refine sw_aload_n (pc' := 1) dX3_fail_0 rfl rfl ?_
  refine sw_getn (pc' := 4) dX3_fail_1 fl_X3_24 (tbk_41) rfl rfl ?_
  refine sw_if_ne (tgt := 17) (pc' := 7) dX3_fail_4 (by decide) rfl (fun _ => ?_) (fun _ => ?_)
  · refine sw_aload_n (pc' := 8) dX3_fail_7 rfl rfl ?_
    refine sw_iload_n (pc' := 9) dX3_fail_8 rfl rfl ?_
    refine sw_putI (pc' := 12) dX3_fail_9 fp_X3_24 (tbk_41) rfl rfl (fun s9 => ?_)
    refine sw_aload_n (pc' := 13) dX3_fail_12 rfl rfl ?_
    refine sw_iload_n (pc' := 14) dX3_fail_13 rfl rfl ?_
    refine sw_putI (pc' := 17) dX3_fail_14 fp_X3_27 (tbk_41) rfl rfl (fun s14 => ?_)
    exact sw_vret dX3_fail_17
  · exact sw_vret dX3_fail_17
def rm_X3_byteAt : Room := { frames := 0, cells := 0, slots := 0, locals := 0 }
def f_X3_byteAt (x1 : Int) (σ : St) : Option (Int × St) :=
  if wr x1 < 0 then
    some ((-1), σ)
  else
    if wr x1 < wr (σ 41 1) then
      if wr x1 < wr 160 then
        bV (ld σ 42 160 x1) fun v24 => some (v24, σ)
      else
        some ((-1), σ)
    else
      some ((-1), σ)
set_option maxRecDepth 20000 in
theorem m_X3_byteAt (x1 : Int)  (σ : St) : MT G l yX3_byteAt cX3_byteAt 2 (some .int) rm_X3_byteAt [.ref (ad G 41), vi x1] wI σ (f_X3_byteAt x1 σ) := by
  refine mt_I (L := [some (.ref (ad G 41)), some (vi x1)]) rfl (Nat.le_of_ble_eq_true rfl) rfl ?_
  show SW G l RX3 cX3_byteAt 2 rm_X3_byteAt wI 0 [some (.ref (ad G 41)), some (vi x1)] [] σ (f_X3_byteAt x1 σ)
  unfold f_X3_byteAt
  refine sw_iload_n (pc' := 1) dX3_byteAt_0 rfl rfl ?_
  refine sw_if_lt (tgt := 28) (pc' := 4) dX3_byteAt_1 (by decide) rfl (fun _ => ?_) (fun _ => ?_)
  · refine sw_iconst (pc' := 29) dX3_byteAt_28 rfl ?_
    exact sw_iret dX3_byteAt_29
  · refine sw_iload_n (pc' := 5) dX3_byteAt_4 rfl rfl ?_
    refine sw_aload_n (pc' := 6) dX3_byteAt_5 rfl rfl ?_
    refine sw_getn (pc' := 9) dX3_byteAt_6 fl_X3_15 (tbk_41) rfl rfl ?_
    refine sw_icmp_ge (tgt := 28) (pc' := 12) dX3_byteAt_9 (by decide) rfl (fun _ => ?_) (fun _ => ?_)
    · refine sw_iload_n (pc' := 13) dX3_byteAt_12 rfl rfl ?_
      refine sw_sipush (pc' := 16) dX3_byteAt_13 rfl rfl ?_
      refine sw_icmp_ge (tgt := 28) (pc' := 19) dX3_byteAt_16 (by decide) rfl (fun _ => ?_) (fun _ => ?_)
      · refine sw_aload_n (pc' := 20) dX3_byteAt_19 rfl rfl ?_
        refine sw_getr (pc' := 23) dX3_byteAt_20 fl_X3_11 (tbk_41) rfl rfl ?_
        refine sw_iload_n (pc' := 24) dX3_byteAt_23 rfl rfl ?_
        refine sw_bald (pc' := 25) dX3_byteAt_24 (tbk_42) rfl (fun v24 => ?_)
        refine sw_goto (pc' := 29) dX3_byteAt_25 (by decide) ?_
        exact sw_iret dX3_byteAt_29
      · refine sw_iconst (pc' := 29) dX3_byteAt_28 rfl ?_
        exact sw_iret dX3_byteAt_29
    · refine sw_iconst (pc' := 29) dX3_byteAt_28 rfl ?_
      exact sw_iret dX3_byteAt_29
def rm_X3_isFigure : Room := { frames := 0, cells := 0, slots := 0, locals := 0 }
def f_X3_isFigure (x0 : Int) (σ : St) : Option (Bool × St) :=
  if wr x0 < wr 48 then
    some (false, σ)
  else
    if wr 57 < wr x0 then
      some (false, σ)
    else
      some (true, σ)
set_option maxRecDepth 20000 in
theorem m_X3_isFigure (x0 : Int)  (σ : St) : MT G l yX3_isFigure cX3_isFigure 1 (some .boolean) rm_X3_isFigure [vi x0] wB σ (f_X3_isFigure x0 σ) := by
  refine mt_B (L := [some (vi x0)]) rfl (Nat.le_of_ble_eq_true rfl) rfl ?_
  show SW G l RX3 cX3_isFigure 1 rm_X3_isFigure wB 0 [some (vi x0)] [] σ (f_X3_isFigure x0 σ)
  unfold f_X3_isFigure
  refine sw_iload_n (pc' := 1) dX3_isFigure_0 rfl rfl ?_
  refine sw_bipush (pc' := 3) dX3_isFigure_1 rfl rfl ?_
  refine sw_icmp_lt (tgt := 16) (pc' := 6) dX3_isFigure_3 (by decide) rfl (fun _ => ?_) (fun _ => ?_)
  · refine sw_iconst (pc' := 17) dX3_isFigure_16 rfl ?_
    exact sw_bret (x := false) dX3_isFigure_17
  · refine sw_iload_n (pc' := 7) dX3_isFigure_6 rfl rfl ?_
    refine sw_bipush (pc' := 9) dX3_isFigure_7 rfl rfl ?_
    refine sw_icmp_gt (tgt := 16) (pc' := 12) dX3_isFigure_9 (by decide) rfl (fun _ => ?_) (fun _ => ?_)
    · refine sw_iconst (pc' := 17) dX3_isFigure_16 rfl ?_
      exact sw_bret (x := false) dX3_isFigure_17
    · refine sw_iconst (pc' := 13) dX3_isFigure_12 rfl ?_
      refine sw_goto (pc' := 17) dX3_isFigure_13 (by decide) ?_
      exact sw_bret (x := true) dX3_isFigure_17
def rm_X3_isLetter : Room := { frames := 0, cells := 0, slots := 0, locals := 0 }
def f_X3_isLetter (x0 : Int) (σ : St) : Option (Bool × St) :=
  if wr x0 < wr 97 then
    some (false, σ)
  else
    if wr 122 < wr x0 then
      some (false, σ)
    else
      some (true, σ)
set_option maxRecDepth 20000 in
theorem m_X3_isLetter (x0 : Int)  (σ : St) : MT G l yX3_isLetter cX3_isLetter 1 (some .boolean) rm_X3_isLetter [vi x0] wB σ (f_X3_isLetter x0 σ) := by
  refine mt_B (L := [some (vi x0)]) rfl (Nat.le_of_ble_eq_true rfl) rfl ?_
  show SW G l RX3 cX3_isLetter 1 rm_X3_isLetter wB 0 [some (vi x0)] [] σ (f_X3_isLetter x0 σ)
  unfold f_X3_isLetter
  refine sw_iload_n (pc' := 1) dX3_isLetter_0 rfl rfl ?_
  refine sw_bipush (pc' := 3) dX3_isLetter_1 rfl rfl ?_
  refine sw_icmp_lt (tgt := 16) (pc' := 6) dX3_isLetter_3 (by decide) rfl (fun _ => ?_) (fun _ => ?_)
  · refine sw_iconst (pc' := 17) dX3_isLetter_16 rfl ?_
    exact sw_bret (x := false) dX3_isLetter_17
  · refine sw_iload_n (pc' := 7) dX3_isLetter_6 rfl rfl ?_
    refine sw_bipush (pc' := 9) dX3_isLetter_7 rfl rfl ?_
    refine sw_icmp_gt (tgt := 16) (pc' := 12) dX3_isLetter_9 (by decide) rfl (fun _ => ?_) (fun _ => ?_)
    · refine sw_iconst (pc' := 17) dX3_isLetter_16 rfl ?_
      exact sw_bret (x := false) dX3_isLetter_17
    · refine sw_iconst (pc' := 13) dX3_isLetter_12 rfl ?_
      refine sw_goto (pc' := 17) dX3_isLetter_13 (by decide) ?_
      exact sw_bret (x := true) dX3_isLetter_17
def rm_X3_take : Room := { frames := 1, cells := 0, slots := 0, locals := 22 }
def f_X3_take_101   : Nat → St → Option (St)
  | 0, _ => none
  | n + 1, σ =>
    if wr (σ 41 7) < wr (σ 41 1) then
      bI (f_X3_byteAt (σ 41 7) σ) fun v117 s117 => bI (f_X3_isLetter v117 s117) fun v120 s120 => if v120 then
        bV (pf s120 41 7 ((s120 41 7) + 1)) fun s133 => (f_X3_take_101 n) s133
      else
        some s120
    else
      some σ
set_option maxRecDepth 20000 in
theorem s_X3_take_101     : ∀ (n : Nat) (σ : St), SW G l RX3 cX3_take 2 rm_X3_take wV 101 [some (.ref (ad G 41)), none] [] σ (f_X3_take_101 n σ) := by
  intro n
  induction n with
  | zero => intro  σ; exact sw_none
  | succ n ih =>
    intro  σ
    rw [f_X3_take_101]
    refine sw_aload_n (pc' := 102) dX3_take_101 rfl rfl ?_
    refine sw_getn (pc' := 105) dX3_take_102 fl_X3_33 (tbk_41) rfl rfl ?_
    refine sw_aload_n (pc' := 106) dX3_take_105 rfl rfl ?_
    refine sw_getn (pc' := 109) dX3_take_106 fl_X3_15 (tbk_41) rfl rfl ?_
    refine sw_icmp_ge (tgt := 247) (pc' := 112) dX3_take_109 (by decide) rfl (fun _ => ?_) (fun _ => ?_)
    · refine sw_aload_n (pc' := 113) dX3_take_112 rfl rfl ?_
      refine sw_aload_n (pc' := 114) dX3_take_113 rfl rfl ?_
      refine sw_getn (pc' := 117) dX3_take_114 fl_X3_33 (tbk_41) rfl rfl ?_
      refine sw_callVI (pc' := 120) (As := [vi (σ 41 7)]) (rest := []) dX3_take_117 cv_X3_64 (tbk_41) (m_X3_byteAt (σ 41 7) σ) rfl rfl rfl rfl rfl (fun v117 s117 => ?_)
      refine sw_callSB (pc' := 123) (As := [vi v117]) (rest := []) dX3_take_120 cs_X3_68 (m_X3_isLetter v117 s117) rfl rfl rfl rfl rfl (fun v120 s120 => ?_)
      refine sw_bif_eq (tgt := 247) (pc' := 126) dX3_take_123 (by decide) rfl (fun _ => ?_) (fun _ => ?_)
      · refine sw_aload_n (pc' := 127) dX3_take_126 rfl rfl ?_
        refine sw_dup (pc' := 128) dX3_take_127 rfl rfl ?_
        refine sw_getn (pc' := 131) dX3_take_128 fl_X3_33 (tbk_41) rfl rfl ?_
        refine sw_iconst (pc' := 132) dX3_take_131 rfl ?_
        refine sw_iadd (pc' := 133) dX3_take_132 rfl ?_
        refine sw_putI (pc' := 136) dX3_take_133 fp_X3_33 (tbk_41) rfl rfl (fun s133 => ?_)
        refine sw_goto (pc' := 101) dX3_take_136 (by decide) ?_
        exact (ih) s133
      · exact sw_vret dX3_take_247
    · exact sw_vret dX3_take_247
def f_X3_take_189   (σ : St) : Option (St) :=
  if wr 2 < wr ((σ 41 7) - (σ 41 6)) then
    bV (f_X3_fail 1 (σ 41 6) σ) fun s208 => some s208
  else
    some σ
set_option maxRecDepth 20000 in
theorem s_X3_take_189     (σ : St) : SW G l RX3 cX3_take 2 rm_X3_take wV 189 [some (.ref (ad G 41)), none] [] σ (f_X3_take_189 σ) := by
  unfold f_X3_take_189
  refine sw_aload_n (pc' := 190) dX3_take_189 rfl rfl ?_
  refine sw_getn (pc' := 193) dX3_take_190 fl_X3_33 (tbk_41) rfl rfl ?_
  refine sw_aload_n (pc' := 194) dX3_take_193 rfl rfl ?_
  refine sw_getn (pc' := 197) dX3_take_194 fl_X3_61 (tbk_41) rfl rfl ?_
  refine sw_isub (pc' := 198) dX3_take_197 rfl ?_
  refine sw_iconst (pc' := 199) dX3_take_198 rfl ?_
  refine sw_icmp_le (tgt := 247) (pc' := 202) dX3_take_199 (by decide) rfl (fun _ => ?_) (fun _ => ?_)
  · refine sw_aload_n (pc' := 203) dX3_take_202 rfl rfl ?_
    refine sw_iconst (pc' := 204) dX3_take_203 rfl ?_
    refine sw_aload_n (pc' := 205) dX3_take_204 rfl rfl ?_
    refine sw_getn (pc' := 208) dX3_take_205 fl_X3_61 (tbk_41) rfl rfl ?_
    refine sw_callVV (pc' := 211) (As := [vi 1, vi (σ 41 6)]) (rest := []) dX3_take_208 cv_X3_57 (tbk_41) (m_X3_fail 1 (σ 41 6) σ) rfl rfl rfl rfl rfl (fun s208 => ?_)
    refine sw_goto (pc' := 247) dX3_take_211 (by decide) ?_
    exact sw_vret dX3_take_247
  · exact sw_vret dX3_take_247
def f_X3_take_151   : Nat → St → Option (St)
  | 0, _ => none
  | n + 1, σ =>
    if wr (σ 41 7) < wr (σ 41 1) then
      bI (f_X3_byteAt (σ 41 7) σ) fun v167 s167 => bI (f_X3_isFigure v167 s167) fun v170 s170 => if v170 then
        bV (pf s170 41 7 ((s170 41 7) + 1)) fun s183 => (f_X3_take_151 n) s183
      else
        f_X3_take_189 s170
    else
      f_X3_take_189 σ
set_option maxRecDepth 20000 in
theorem s_X3_take_151     : ∀ (n : Nat) (σ : St), SW G l RX3 cX3_take 2 rm_X3_take wV 151 [some (.ref (ad G 41)), none] [] σ (f_X3_take_151 n σ) := by
  intro n
  induction n with
  | zero => intro  σ; exact sw_none
  | succ n ih =>
    intro  σ
    rw [f_X3_take_151]
    refine sw_aload_n (pc' := 152) dX3_take_151 rfl rfl ?_
    refine sw_getn (pc' := 155) dX3_take_152 fl_X3_33 (tbk_41) rfl rfl ?_
    refine sw_aload_n (pc' := 156) dX3_take_155 rfl rfl ?_
    refine sw_getn (pc' := 159) dX3_take_156 fl_X3_15 (tbk_41) rfl rfl ?_
    refine sw_icmp_ge (tgt := 189) (pc' := 162) dX3_take_159 (by decide) rfl (fun _ => ?_) (fun _ => ?_)
    · refine sw_aload_n (pc' := 163) dX3_take_162 rfl rfl ?_
      refine sw_aload_n (pc' := 164) dX3_take_163 rfl rfl ?_
      refine sw_getn (pc' := 167) dX3_take_164 fl_X3_33 (tbk_41) rfl rfl ?_
      refine sw_callVI (pc' := 170) (As := [vi (σ 41 7)]) (rest := []) dX3_take_167 cv_X3_64 (tbk_41) (m_X3_byteAt (σ 41 7) σ) rfl rfl rfl rfl rfl (fun v167 s167 => ?_)
      refine sw_callSB (pc' := 173) (As := [vi v167]) (rest := []) dX3_take_170 cs_X3_72 (m_X3_isFigure v167 s167) rfl rfl rfl rfl rfl (fun v170 s170 => ?_)
      refine sw_bif_eq (tgt := 189) (pc' := 176) dX3_take_173 (by decide) rfl (fun _ => ?_) (fun _ => ?_)
      · refine sw_aload_n (pc' := 177) dX3_take_176 rfl rfl ?_
        refine sw_dup (pc' := 178) dX3_take_177 rfl rfl ?_
        refine sw_getn (pc' := 181) dX3_take_178 fl_X3_33 (tbk_41) rfl rfl ?_
        refine sw_iconst (pc' := 182) dX3_take_181 rfl ?_
        refine sw_iadd (pc' := 183) dX3_take_182 rfl ?_
        refine sw_putI (pc' := 186) dX3_take_183 fp_X3_33 (tbk_41) rfl rfl (fun s183 => ?_)
        refine sw_goto (pc' := 151) dX3_take_186 (by decide) ?_
        exact (ih) s183
      · exact s_X3_take_189 s170
    · exact s_X3_take_189 σ
def f_X3_take_53   (σ : St) : Option (St) :=
  bV (pf σ 41 7 (σ 41 6)) fun s58 => bI (f_X3_byteAt (s58 41 6) s58) fun v66 s66 => if wr (s66 41 6) < wr (s66 41 1) then
    bI (f_X3_isLetter v66 s66) fun v90 s90 => if v90 then
      bV (pf s90 41 5 1) fun s98 => f_X3_take_101 FU s98
    else
      bI (f_X3_isFigure v66 s90) fun v140 s140 => if v140 then
        bV (pf s140 41 5 2) fun s148 => f_X3_take_151 FU s148
      else
        if wr v66 = wr 59 then
          bV (pf s140 41 5 3) fun s222 => bV (pf s222 41 7 ((s222 41 7) + 1)) fun s232 => some s232
        else
          bV (f_X3_fail 1 (s140 41 6) s140) fun s244 => some s244
  else
    bV (pf s66 41 5 0) fun s83 => some s83
set_option maxRecDepth 20000 in
theorem s_X3_take_53     (σ : St) : SW G l RX3 cX3_take 2 rm_X3_take wV 53 [some (.ref (ad G 41)), none] [] σ (f_X3_take_53 σ) := by
  unfold f_X3_take_53
  refine sw_aload_n (pc' := 54) dX3_take_53 rfl rfl ?_
  refine sw_aload_n (pc' := 55) dX3_take_54 rfl rfl ?_
  refine sw_getn (pc' := 58) dX3_take_55 fl_X3_61 (tbk_41) rfl rfl ?_
  refine sw_putI (pc' := 61) dX3_take_58 fp_X3_33 (tbk_41) rfl rfl (fun s58 => ?_)
  refine sw_aload_n (pc' := 62) dX3_take_61 rfl rfl ?_
  refine sw_aload_n (pc' := 63) dX3_take_62 rfl rfl ?_
  refine sw_getn (pc' := 66) dX3_take_63 fl_X3_61 (tbk_41) rfl rfl ?_
  refine sw_callVI (pc' := 69) (As := [vi (s58 41 6)]) (rest := []) dX3_take_66 cv_X3_64 (tbk_41) (m_X3_byteAt (s58 41 6) s58) rfl rfl rfl rfl rfl (fun v66 s66 => ?_)
  refine sw_istore_n (pc' := 70) (x := v66) (L' := [some (.ref (ad G 41)), some (vi v66)]) dX3_take_69 rfl (by decide) rfl rfl ?_
  refine sw_aload_n (pc' := 71) dX3_take_70 rfl rfl ?_
  refine sw_getn (pc' := 74) dX3_take_71 fl_X3_61 (tbk_41) rfl rfl ?_
  refine sw_aload_n (pc' := 75) dX3_take_74 rfl rfl ?_
  refine sw_getn (pc' := 78) dX3_take_75 fl_X3_15 (tbk_41) rfl rfl ?_
  refine sw_icmp_lt (tgt := 89) (pc' := 81) dX3_take_78 (by decide) rfl (fun _ => ?_) (fun _ => ?_)
  · refine sw_iload_n (pc' := 90) dX3_take_89 rfl rfl ?_
    refine sw_callSB (pc' := 93) (As := [vi v66]) (rest := []) dX3_take_90 cs_X3_68 (m_X3_isLetter v66 s66) rfl rfl rfl rfl rfl (fun v90 s90 => ?_)
    refine sw_bif_eq (tgt := 139) (pc' := 96) dX3_take_93 (by decide) rfl (fun _ => ?_) (fun _ => ?_)
    · refine sw_aload_n (pc' := 97) dX3_take_96 rfl rfl ?_
      refine sw_iconst (pc' := 98) dX3_take_97 rfl ?_
      refine sw_putI (pc' := 101) dX3_take_98 fp_X3_46 (tbk_41) rfl rfl (fun s98 => ?_)
      refine sw_msk [true, false] rfl ?_
      exact s_X3_take_101 FU s98
    · refine sw_iload_n (pc' := 140) dX3_take_139 rfl rfl ?_
      refine sw_callSB (pc' := 143) (As := [vi v66]) (rest := []) dX3_take_140 cs_X3_72 (m_X3_isFigure v66 s90) rfl rfl rfl rfl rfl (fun v140 s140 => ?_)
      refine sw_bif_eq (tgt := 214) (pc' := 146) dX3_take_143 (by decide) rfl (fun _ => ?_) (fun _ => ?_)
      · refine sw_aload_n (pc' := 147) dX3_take_146 rfl rfl ?_
        refine sw_iconst (pc' := 148) dX3_take_147 rfl ?_
        refine sw_putI (pc' := 151) dX3_take_148 fp_X3_46 (tbk_41) rfl rfl (fun s148 => ?_)
        refine sw_msk [true, false] rfl ?_
        exact s_X3_take_151 FU s148
      · refine sw_iload_n (pc' := 215) dX3_take_214 rfl rfl ?_
        refine sw_bipush (pc' := 217) dX3_take_215 rfl rfl ?_
        refine sw_icmp_ne (tgt := 238) (pc' := 220) dX3_take_217 (by decide) rfl (fun _ => ?_) (fun _ => ?_)
        · refine sw_aload_n (pc' := 221) dX3_take_220 rfl rfl ?_
          refine sw_iconst (pc' := 222) dX3_take_221 rfl ?_
          refine sw_putI (pc' := 225) dX3_take_222 fp_X3_46 (tbk_41) rfl rfl (fun s222 => ?_)
          refine sw_aload_n (pc' := 226) dX3_take_225 rfl rfl ?_
          refine sw_dup (pc' := 227) dX3_take_226 rfl rfl ?_
          refine sw_getn (pc' := 230) dX3_take_227 fl_X3_33 (tbk_41) rfl rfl ?_
          refine sw_iconst (pc' := 231) dX3_take_230 rfl ?_
          refine sw_iadd (pc' := 232) dX3_take_231 rfl ?_
          refine sw_putI (pc' := 235) dX3_take_232 fp_X3_33 (tbk_41) rfl rfl (fun s232 => ?_)
          refine sw_goto (pc' := 247) dX3_take_235 (by decide) ?_
          exact sw_vret dX3_take_247
        · refine sw_aload_n (pc' := 239) dX3_take_238 rfl rfl ?_
          refine sw_iconst (pc' := 240) dX3_take_239 rfl ?_
          refine sw_aload_n (pc' := 241) dX3_take_240 rfl rfl ?_
          refine sw_getn (pc' := 244) dX3_take_241 fl_X3_61 (tbk_41) rfl rfl ?_
          refine sw_callVV (pc' := 247) (As := [vi 1, vi (s140 41 6)]) (rest := []) dX3_take_244 cv_X3_57 (tbk_41) (m_X3_fail 1 (s140 41 6) s140) rfl rfl rfl rfl rfl (fun s244 => ?_)
          exact sw_vret dX3_take_247
  · refine sw_aload_n (pc' := 82) dX3_take_81 rfl rfl ?_
    refine sw_iconst (pc' := 83) dX3_take_82 rfl ?_
    refine sw_putI (pc' := 86) dX3_take_83 fp_X3_46 (tbk_41) rfl rfl (fun s83 => ?_)
    refine sw_goto (pc' := 247) dX3_take_86 (by decide) ?_
    exact sw_vret dX3_take_247
def f_X3_take_16   : Nat → St → Option (St)
  | 0, _ => none
  | n + 1, σ =>
    if wr (σ 41 6) < wr (σ 41 1) then
      bI (f_X3_byteAt (σ 41 6) σ) fun v32 s32 => if wr v32 = wr 32 then
        bV (pf s32 41 6 ((s32 41 6) + 1)) fun s47 => (f_X3_take_16 n) s47
      else
        f_X3_take_53 s32
    else
      f_X3_take_53 σ
set_option maxRecDepth 20000 in
theorem s_X3_take_16     : ∀ (n : Nat) (σ : St), SW G l RX3 cX3_take 2 rm_X3_take wV 16 [some (.ref (ad G 41)), none] [] σ (f_X3_take_16 n σ) := by
  intro n
  induction n with
  | zero => intro  σ; exact sw_none
  | succ n ih =>
    intro  σ
    rw [f_X3_take_16]
    refine sw_aload_n (pc' := 17) dX3_take_16 rfl rfl ?_
    refine sw_getn (pc' := 20) dX3_take_17 fl_X3_61 (tbk_41) rfl rfl ?_
    refine sw_aload_n (pc' := 21) dX3_take_20 rfl rfl ?_
    refine sw_getn (pc' := 24) dX3_take_21 fl_X3_15 (tbk_41) rfl rfl ?_
    refine sw_icmp_ge (tgt := 53) (pc' := 27) dX3_take_24 (by decide) rfl (fun _ => ?_) (fun _ => ?_)
    · refine sw_aload_n (pc' := 28) dX3_take_27 rfl rfl ?_
      refine sw_aload_n (pc' := 29) dX3_take_28 rfl rfl ?_
      refine sw_getn (pc' := 32) dX3_take_29 fl_X3_61 (tbk_41) rfl rfl ?_
      refine sw_callVI (pc' := 35) (As := [vi (σ 41 6)]) (rest := []) dX3_take_32 cv_X3_64 (tbk_41) (m_X3_byteAt (σ 41 6) σ) rfl rfl rfl rfl rfl (fun v32 s32 => ?_)
      refine sw_bipush (pc' := 37) dX3_take_35 rfl rfl ?_
      refine sw_icmp_ne (tgt := 53) (pc' := 40) dX3_take_37 (by decide) rfl (fun _ => ?_) (fun _ => ?_)
      · refine sw_aload_n (pc' := 41) dX3_take_40 rfl rfl ?_
        refine sw_dup (pc' := 42) dX3_take_41 rfl rfl ?_
        refine sw_getn (pc' := 45) dX3_take_42 fl_X3_61 (tbk_41) rfl rfl ?_
        refine sw_iconst (pc' := 46) dX3_take_45 rfl ?_
        refine sw_iadd (pc' := 47) dX3_take_46 rfl ?_
        refine sw_putI (pc' := 50) dX3_take_47 fp_X3_61 (tbk_41) rfl rfl (fun s47 => ?_)
        refine sw_goto (pc' := 16) dX3_take_50 (by decide) ?_
        exact (ih) s47
      · exact s_X3_take_53 s32
    · exact s_X3_take_53 σ
def f_X3_take  (σ : St) : Option (St) :=
  if wr (σ 41 2) = 0 then
    bV (pf σ 41 6 (σ 41 7)) fun s13 => f_X3_take_16 FU s13
  else
    some σ
set_option maxRecDepth 20000 in
theorem m_X3_take   (σ : St) : MT G l yX3_take cX3_take 2 none rm_X3_take [.ref (ad G 41)] wV σ (f_X3_take σ) := by
  refine mt_V (L := [some (.ref (ad G 41)), none]) rfl (Nat.le_of_ble_eq_true rfl) rfl ?_
  show SW G l RX3 cX3_take 2 rm_X3_take wV 0 [some (.ref (ad G 41)), none] [] σ (f_X3_take σ)
  unfold f_X3_take
  refine sw_aload_n (pc' := 1) dX3_take_0 rfl rfl ?_
  refine sw_getn (pc' := 4) dX3_take_1 fl_X3_24 (tbk_41) rfl rfl ?_
  refine sw_if_eq (tgt := 8) (pc' := 7) dX3_take_4 (by decide) rfl (fun _ => ?_) (fun _ => ?_)
  · refine sw_aload_n (pc' := 9) dX3_take_8 rfl rfl ?_
    refine sw_aload_n (pc' := 10) dX3_take_9 rfl rfl ?_
    refine sw_getn (pc' := 13) dX3_take_10 fl_X3_33 (tbk_41) rfl rfl ?_
    refine sw_putI (pc' := 16) dX3_take_13 fp_X3_61 (tbk_41) rfl rfl (fun s13 => ?_)
    exact s_X3_take_16 FU s13
  · exact sw_vret dX3_take_7
def rm_X3_isNamed : Room := { frames := 4, cells := 0, slots := 0, locals := 85 }
def f_X3_isNamed_28 (w : Nat)  : Nat → Int → St → Option (Bool × St)
  | 0, _, _ => none
  | n + 1, x2, σ =>
    bI (f_J0_length_8abf5 w σ) fun v30 s30 => if wr x2 < wr v30 then
      bI (f_X3_byteAt ((s30 41 6) + x2) s30) fun v43 s43 => bI (f_J0_charAt_5068e w x2 s43) fun v48 s48 => if wr v43 = wr (nac v48) then
        (f_X3_isNamed_28 w n) (x2 + 1) s48
      else
        some (false, s48)
    else
      some (true, s30)
set_option maxRecDepth 20000 in
theorem s_X3_isNamed_28 (w : Nat) (hw : w < 7)   : ∀ (n : Nat) (x2 : Int) (σ : St), SW G l RX3 cX3_isNamed 3 rm_X3_isNamed wB 28 [some (.ref (ad G 41)), some (.ref (gK G w)), some (vi x2)] [] σ (f_X3_isNamed_28 w n x2 σ) := by
  intro n
  induction n with
  | zero => intro x2 σ; exact sw_none
  | succ n ih =>
    intro x2 σ
    rw [f_X3_isNamed_28]
    refine sw_iload_n (pc' := 29) dX3_isNamed_28 rfl rfl ?_
    refine sw_aload_n (pc' := 30) dX3_isNamed_29 rfl rfl ?_
    refine sw_callKI (pc' := 33) (As := []) (rest := [vi x2]) hw dX3_isNamed_30 ck_X3_106 (m_J0_length_8abf5 w hw σ) rfl rfl rfl rfl rfl (fun v30 s30 => ?_)
    refine sw_icmp_ge (tgt := 62) (pc' := 36) dX3_isNamed_33 (by decide) rfl (fun _ => ?_) (fun _ => ?_)
    · refine sw_aload_n (pc' := 37) dX3_isNamed_36 rfl rfl ?_
      refine sw_aload_n (pc' := 38) dX3_isNamed_37 rfl rfl ?_
      refine sw_getn (pc' := 41) dX3_isNamed_38 fl_X3_61 (tbk_41) rfl rfl ?_
      refine sw_iload_n (pc' := 42) dX3_isNamed_41 rfl rfl ?_
      refine sw_iadd (pc' := 43) dX3_isNamed_42 rfl ?_
      refine sw_callVI (pc' := 46) (As := [vi ((s30 41 6) + x2)]) (rest := []) dX3_isNamed_43 cv_X3_64 (tbk_41) (m_X3_byteAt ((s30 41 6) + x2) s30) rfl rfl rfl rfl rfl (fun v43 s43 => ?_)
      refine sw_aload_n (pc' := 47) dX3_isNamed_46 rfl rfl ?_
      refine sw_iload_n (pc' := 48) dX3_isNamed_47 rfl rfl ?_
      refine sw_callKC (pc' := 51) (As := [vi x2]) (rest := [vi v43]) hw dX3_isNamed_48 ck_X3_111 (m_J0_charAt_5068e w x2 hw s43) rfl rfl rfl rfl rfl (fun v48 s48 => ?_)
      refine sw_icmp_eq (tgt := 56) (pc' := 54) dX3_isNamed_51 (by decide) rfl (fun _ => ?_) (fun _ => ?_)
      · refine sw_iinc (pc' := 59) (x := x2) (L' := [some (.ref (ad G 41)), some (.ref (gK G w)), some (vi (x2 + 1))]) dX3_isNamed_56 rfl (by decide) rfl rfl rfl ?_
        refine sw_goto (pc' := 28) dX3_isNamed_59 (by decide) ?_
        exact (ih) (x2 + 1) s48
      · refine sw_iconst (pc' := 55) dX3_isNamed_54 rfl ?_
        exact sw_bret (x := false) dX3_isNamed_55
    · refine sw_iconst (pc' := 63) dX3_isNamed_62 rfl ?_
      exact sw_bret (x := true) dX3_isNamed_63
def f_X3_isNamed (w : Nat) (σ : St) : Option (Bool × St) :=
  if wr (σ 41 5) = wr 1 then
    bI (f_J0_length_8abf5 w σ) fun v18 s18 => if wr ((σ 41 7) - (σ 41 6)) = wr v18 then
      f_X3_isNamed_28 w FU 0 s18
    else
      some (false, s18)
  else
    some (false, σ)
set_option maxRecDepth 20000 in
theorem m_X3_isNamed (w : Nat) (hw : w < 7) (σ : St) : MT G l yX3_isNamed cX3_isNamed 3 (some .boolean) rm_X3_isNamed [.ref (ad G 41), .ref (gK G w)] wB σ (f_X3_isNamed w σ) := by
  refine mt_B (L := [some (.ref (ad G 41)), some (.ref (gK G w)), none]) rfl (Nat.le_of_ble_eq_true rfl) rfl ?_
  show SW G l RX3 cX3_isNamed 3 rm_X3_isNamed wB 0 [some (.ref (ad G 41)), some (.ref (gK G w)), none] [] σ (f_X3_isNamed w σ)
  unfold f_X3_isNamed
  refine sw_aload_n (pc' := 1) dX3_isNamed_0 rfl rfl ?_
  refine sw_getn (pc' := 4) dX3_isNamed_1 fl_X3_46 (tbk_41) rfl rfl ?_
  refine sw_iconst (pc' := 5) dX3_isNamed_4 rfl ?_
  refine sw_icmp_ne (tgt := 24) (pc' := 8) dX3_isNamed_5 (by decide) rfl (fun _ => ?_) (fun _ => ?_)
  · refine sw_aload_n (pc' := 9) dX3_isNamed_8 rfl rfl ?_
    refine sw_getn (pc' := 12) dX3_isNamed_9 fl_X3_33 (tbk_41) rfl rfl ?_
    refine sw_aload_n (pc' := 13) dX3_isNamed_12 rfl rfl ?_
    refine sw_getn (pc' := 16) dX3_isNamed_13 fl_X3_61 (tbk_41) rfl rfl ?_
    refine sw_isub (pc' := 17) dX3_isNamed_16 rfl ?_
    refine sw_aload_n (pc' := 18) dX3_isNamed_17 rfl rfl ?_
    refine sw_callKI (pc' := 21) (As := []) (rest := [vi ((σ 41 7) - (σ 41 6))]) hw dX3_isNamed_18 ck_X3_106 (m_J0_length_8abf5 w hw σ) rfl rfl rfl rfl rfl (fun v18 s18 => ?_)
    refine sw_icmp_eq (tgt := 26) (pc' := 24) dX3_isNamed_21 (by decide) rfl (fun _ => ?_) (fun _ => ?_)
    · refine sw_iconst (pc' := 27) dX3_isNamed_26 rfl ?_
      refine sw_istore_n (pc' := 28) (x := 0) (L' := [some (.ref (ad G 41)), some (.ref (gK G w)), some (vi 0)]) dX3_isNamed_27 rfl (by decide) rfl rfl ?_
      exact s_X3_isNamed_28 w hw FU 0 s18
    · refine sw_iconst (pc' := 25) dX3_isNamed_24 rfl ?_
      exact sw_bret (x := false) dX3_isNamed_25
  · refine sw_iconst (pc' := 25) dX3_isNamed_24 rfl ?_
    exact sw_bret (x := false) dX3_isNamed_25
def rm_X3_takeNumber : Room := { frames := 2, cells := 0, slots := 0, locals := 43 }
def f_X3_takeNumber_80   (x1 : Int) (σ : St) : Option (Int × St) :=
  bV (f_X3_fail 3 (σ 41 6) σ) fun s86 => some (x1, s86)
set_option maxRecDepth 20000 in
theorem s_X3_takeNumber_80     (x1 : Int) (σ : St) : SW G l RX3 cX3_takeNumber 5 rm_X3_takeNumber wI 80 [some (.ref (ad G 41)), some (vi x1), none, none, none] [] σ (f_X3_takeNumber_80 x1 σ) := by
  unfold f_X3_takeNumber_80
  refine sw_aload_n (pc' := 81) dX3_takeNumber_80 rfl rfl ?_
  refine sw_iconst (pc' := 82) dX3_takeNumber_81 rfl ?_
  refine sw_aload_n (pc' := 83) dX3_takeNumber_82 rfl rfl ?_
  refine sw_getn (pc' := 86) dX3_takeNumber_83 fl_X3_61 (tbk_41) rfl rfl ?_
  refine sw_callVV (pc' := 89) (As := [vi 3, vi (σ 41 6)]) (rest := []) dX3_takeNumber_86 cv_X3_57 (tbk_41) (m_X3_fail 3 (σ 41 6) σ) rfl rfl rfl rfl rfl (fun s86 => ?_)
  refine sw_iload_n (pc' := 90) dX3_takeNumber_89 rfl rfl ?_
  exact sw_iret dX3_takeNumber_90
def f_X3_takeNumber_40   : Nat → Int → Int → Int → Int → St → Option (Int × St)
  | 0, _, _, _, _, _ => none
  | n + 1, x1, x2, x3, x4, σ =>
    if wr x4 < wr (σ 41 7) then
      bI (f_X3_byteAt x4 σ) fun v56 s56 => (f_X3_takeNumber_40 n) x1 x2 (((x3 * 10) + v56) - 48) (x4 + 1) s56
    else
      if wr x3 < wr x1 then
        f_X3_takeNumber_80 x1 σ
      else
        if wr x2 < wr x3 then
          f_X3_takeNumber_80 x1 σ
        else
          some (x3, σ)
set_option maxRecDepth 20000 in
theorem s_X3_takeNumber_40     : ∀ (n : Nat) (x1 x2 x3 x4 : Int) (σ : St), SW G l RX3 cX3_takeNumber 5 rm_X3_takeNumber wI 40 [some (.ref (ad G 41)), some (vi x1), some (vi x2), some (vi x3), some (vi x4)] [] σ (f_X3_takeNumber_40 n x1 x2 x3 x4 σ) := by
  intro n
  induction n with
  | zero => intro x1 x2 x3 x4 σ; exact sw_none
  | succ n ih =>
    intro x1 x2 x3 x4 σ
    rw [f_X3_takeNumber_40]
    refine sw_iload (pc' := 42) dX3_takeNumber_40 rfl rfl ?_
    refine sw_aload_n (pc' := 43) dX3_takeNumber_42 rfl rfl ?_
    refine sw_getn (pc' := 46) dX3_takeNumber_43 fl_X3_33 (tbk_41) rfl rfl ?_
    refine sw_icmp_ge (tgt := 70) (pc' := 49) dX3_takeNumber_46 (by decide) rfl (fun _ => ?_) (fun _ => ?_)
    · refine sw_iload_n (pc' := 50) dX3_takeNumber_49 rfl rfl ?_
      refine sw_bipush (pc' := 52) dX3_takeNumber_50 rfl rfl ?_
      refine sw_imul (pc' := 53) dX3_takeNumber_52 rfl ?_
      refine sw_aload_n (pc' := 54) dX3_takeNumber_53 rfl rfl ?_
      refine sw_iload (pc' := 56) dX3_takeNumber_54 rfl rfl ?_
      refine sw_callVI (pc' := 59) (As := [vi x4]) (rest := [vi (x3 * 10)]) dX3_takeNumber_56 cv_X3_64 (tbk_41) (m_X3_byteAt x4 σ) rfl rfl rfl rfl rfl (fun v56 s56 => ?_)
      refine sw_iadd (pc' := 60) dX3_takeNumber_59 rfl ?_
      refine sw_bipush (pc' := 62) dX3_takeNumber_60 rfl rfl ?_
      refine sw_isub (pc' := 63) dX3_takeNumber_62 rfl ?_
      refine sw_istore_n (pc' := 64) (x := (((x3 * 10) + v56) - 48)) (L' := [some (.ref (ad G 41)), some (vi x1), some (vi x2), some (vi (((x3 * 10) + v56) - 48)), some (vi x4)]) dX3_takeNumber_63 rfl (by decide) rfl rfl ?_
      refine sw_iinc (pc' := 67) (x := x4) (L' := [some (.ref (ad G 41)), some (vi x1), some (vi x2), some (vi (((x3 * 10) + v56) - 48)), some (vi (x4 + 1))]) dX3_takeNumber_64 rfl (by decide) rfl rfl rfl ?_
      refine sw_goto (pc' := 40) dX3_takeNumber_67 (by decide) ?_
      exact (ih) x1 x2 (((x3 * 10) + v56) - 48) (x4 + 1) s56
    · refine sw_iload_n (pc' := 71) dX3_takeNumber_70 rfl rfl ?_
      refine sw_iload_n (pc' := 72) dX3_takeNumber_71 rfl rfl ?_
      refine sw_icmp_lt (tgt := 80) (pc' := 75) dX3_takeNumber_72 (by decide) rfl (fun _ => ?_) (fun _ => ?_)
      · refine sw_msk [true, true, false, false, false] rfl ?_
        exact s_X3_takeNumber_80 x1 σ
      · refine sw_iload_n (pc' := 76) dX3_takeNumber_75 rfl rfl ?_
        refine sw_iload_n (pc' := 77) dX3_takeNumber_76 rfl rfl ?_
        refine sw_icmp_le (tgt := 91) (pc' := 80) dX3_takeNumber_77 (by decide) rfl (fun _ => ?_) (fun _ => ?_)
        · refine sw_msk [true, true, false, false, false] rfl ?_
          exact s_X3_takeNumber_80 x1 σ
        · refine sw_iload_n (pc' := 92) dX3_takeNumber_91 rfl rfl ?_
          exact sw_iret dX3_takeNumber_92
def f_X3_takeNumber (x1 : Int) (x2 : Int) (σ : St) : Option (Int × St) :=
  bV (f_X3_take σ) fun s1 => if wr (s1 41 2) = 0 then
    if wr (s1 41 5) = wr 2 then
      f_X3_takeNumber_40 FU x1 x2 0 (s1 41 6) s1
    else
      bV (f_X3_fail 2 (s1 41 6) s1) fun s27 => some (x1, s27)
  else
    some (x1, s1)
set_option maxRecDepth 20000 in
theorem m_X3_takeNumber (x1 : Int) (x2 : Int)  (σ : St) : MT G l yX3_takeNumber cX3_takeNumber 5 (some .int) rm_X3_takeNumber [.ref (ad G 41), vi x1, vi x2] wI σ (f_X3_takeNumber x1 x2 σ) := by
  refine mt_I (L := [some (.ref (ad G 41)), some (vi x1), some (vi x2), none, none]) rfl (Nat.le_of_ble_eq_true rfl) rfl ?_
  show SW G l RX3 cX3_takeNumber 5 rm_X3_takeNumber wI 0 [some (.ref (ad G 41)), some (vi x1), some (vi x2), none, none] [] σ (f_X3_takeNumber x1 x2 σ)
  unfold f_X3_takeNumber
  refine sw_aload_n (pc' := 1) dX3_takeNumber_0 rfl rfl ?_
  refine sw_callVV (pc' := 4) (As := []) (rest := []) dX3_takeNumber_1 cv_X3_43 (tbk_41) (m_X3_take σ) rfl rfl rfl rfl rfl (fun s1 => ?_)
  refine sw_aload_n (pc' := 5) dX3_takeNumber_4 rfl rfl ?_
  refine sw_getn (pc' := 8) dX3_takeNumber_5 fl_X3_24 (tbk_41) rfl rfl ?_
  refine sw_if_eq (tgt := 13) (pc' := 11) dX3_takeNumber_8 (by decide) rfl (fun _ => ?_) (fun _ => ?_)
  · refine sw_aload_n (pc' := 14) dX3_takeNumber_13 rfl rfl ?_
    refine sw_getn (pc' := 17) dX3_takeNumber_14 fl_X3_46 (tbk_41) rfl rfl ?_
    refine sw_iconst (pc' := 18) dX3_takeNumber_17 rfl ?_
    refine sw_icmp_eq (tgt := 32) (pc' := 21) dX3_takeNumber_18 (by decide) rfl (fun _ => ?_) (fun _ => ?_)
    · refine sw_iconst (pc' := 33) dX3_takeNumber_32 rfl ?_
      refine sw_istore_n (pc' := 34) (x := 0) (L' := [some (.ref (ad G 41)), some (vi x1), some (vi x2), some (vi 0), none]) dX3_takeNumber_33 rfl (by decide) rfl rfl ?_
      refine sw_aload_n (pc' := 35) dX3_takeNumber_34 rfl rfl ?_
      refine sw_getn (pc' := 38) dX3_takeNumber_35 fl_X3_61 (tbk_41) rfl rfl ?_
      refine sw_istore (pc' := 40) (x := (s1 41 6)) (L' := [some (.ref (ad G 41)), some (vi x1), some (vi x2), some (vi 0), some (vi (s1 41 6))]) dX3_takeNumber_38 rfl (by decide) rfl rfl ?_
      exact s_X3_takeNumber_40 FU x1 x2 0 (s1 41 6) s1
    · refine sw_aload_n (pc' := 22) dX3_takeNumber_21 rfl rfl ?_
      refine sw_iconst (pc' := 23) dX3_takeNumber_22 rfl ?_
      refine sw_aload_n (pc' := 24) dX3_takeNumber_23 rfl rfl ?_
      refine sw_getn (pc' := 27) dX3_takeNumber_24 fl_X3_61 (tbk_41) rfl rfl ?_
      refine sw_callVV (pc' := 30) (As := [vi 2, vi (s1 41 6)]) (rest := []) dX3_takeNumber_27 cv_X3_57 (tbk_41) (m_X3_fail 2 (s1 41 6) s1) rfl rfl rfl rfl rfl (fun s27 => ?_)
      refine sw_iload_n (pc' := 31) dX3_takeNumber_30 rfl rfl ?_
      exact sw_iret dX3_takeNumber_31
  · refine sw_iload_n (pc' := 12) dX3_takeNumber_11 rfl rfl ?_
    exact sw_iret dX3_takeNumber_12
def rm_X3_takeSemicolon : Room := { frames := 2, cells := 0, slots := 0, locals := 43 }
def f_X3_takeSemicolon  (σ : St) : Option (St) :=
  bV (f_X3_take σ) fun s1 => if wr (s1 41 5) = wr 3 then
    some s1
  else
    bV (f_X3_fail 2 (s1 41 6) s1) fun s18 => some s18
set_option maxRecDepth 20000 in
theorem m_X3_takeSemicolon   (σ : St) : MT G l yX3_takeSemicolon cX3_takeSemicolon 1 none rm_X3_takeSemicolon [.ref (ad G 41)] wV σ (f_X3_takeSemicolon σ) := by
  refine mt_V (L := [some (.ref (ad G 41))]) rfl (Nat.le_of_ble_eq_true rfl) rfl ?_
  show SW G l RX3 cX3_takeSemicolon 1 rm_X3_takeSemicolon wV 0 [some (.ref (ad G 41))] [] σ (f_X3_takeSemicolon σ)
  unfold f_X3_takeSemicolon
  refine sw_aload_n (pc' := 1) dX3_takeSemicolon_0 rfl rfl ?_
  refine sw_callVV (pc' := 4) (As := []) (rest := []) dX3_takeSemicolon_1 cv_X3_43 (tbk_41) (m_X3_take σ) rfl rfl rfl rfl rfl (fun s1 => ?_)
  refine sw_aload_n (pc' := 5) dX3_takeSemicolon_4 rfl rfl ?_
  refine sw_getn (pc' := 8) dX3_takeSemicolon_5 fl_X3_46 (tbk_41) rfl rfl ?_
  refine sw_iconst (pc' := 9) dX3_takeSemicolon_8 rfl ?_
  refine sw_icmp_eq (tgt := 21) (pc' := 12) dX3_takeSemicolon_9 (by decide) rfl (fun _ => ?_) (fun _ => ?_)
  · exact sw_vret dX3_takeSemicolon_21
  · refine sw_aload_n (pc' := 13) dX3_takeSemicolon_12 rfl rfl ?_
    refine sw_iconst (pc' := 14) dX3_takeSemicolon_13 rfl ?_
    refine sw_aload_n (pc' := 15) dX3_takeSemicolon_14 rfl rfl ?_
    refine sw_getn (pc' := 18) dX3_takeSemicolon_15 fl_X3_61 (tbk_41) rfl rfl ?_
    refine sw_callVV (pc' := 21) (As := [vi 2, vi (s1 41 6)]) (rest := []) dX3_takeSemicolon_18 cv_X3_57 (tbk_41) (m_X3_fail 2 (s1 41 6) s1) rfl rfl rfl rfl rfl (fun s18 => ?_)
    exact sw_vret dX3_takeSemicolon_21
def rm_X3_takeBearing : Room := { frames := 3, cells := 0, slots := 0, locals := 67 }
def f_X3_takeBearing_16 (q : Nat)  (σ : St) : Option (St) :=
  bI (f_X3_takeNumber 1 99 σ) fun v21 s21 => bV (pf s21 q 4 v21) fun s24 => bV (f_X3_takeSemicolon s24) fun s28 => bV (pz s28 41 8 1) fun s33 => some s33
set_option maxRecDepth 20000 in
theorem s_X3_takeBearing_16 (q : Nat) (hq : isSq q)   (σ : St) : SW G l RX3 cX3_takeBearing 2 rm_X3_takeBearing wV 16 [some (.ref (ad G 41)), some (.ref (ad G q))] [] σ (f_X3_takeBearing_16 q σ) := by
  unfold f_X3_takeBearing_16
  refine sw_aload_n (pc' := 17) dX3_takeBearing_16 rfl rfl ?_
  refine sw_aload_n (pc' := 18) dX3_takeBearing_17 rfl rfl ?_
  refine sw_iconst (pc' := 19) dX3_takeBearing_18 rfl ?_
  refine sw_bipush (pc' := 21) dX3_takeBearing_19 rfl rfl ?_
  refine sw_callVI (pc' := 24) (As := [vi 1, vi 99]) (rest := [.ref (ad G q)]) dX3_takeBearing_21 cv_X3_118 (tbk_41) (m_X3_takeNumber 1 99 σ) rfl rfl rfl rfl rfl (fun v21 s21 => ?_)
  refine sw_putI (pc' := 27) dX3_takeBearing_24 fp_X3_129 (sqo hq) rfl rfl (fun s24 => ?_)
  refine sw_aload_n (pc' := 28) dX3_takeBearing_27 rfl rfl ?_
  refine sw_callVV (pc' := 31) (As := []) (rest := []) dX3_takeBearing_28 cv_X3_122 (tbk_41) (m_X3_takeSemicolon s24) rfl rfl rfl rfl rfl (fun s28 => ?_)
  refine sw_aload_n (pc' := 32) dX3_takeBearing_31 rfl rfl ?_
  refine sw_iconst (pc' := 33) dX3_takeBearing_32 rfl ?_
  refine sw_putZ (pc' := 36) dX3_takeBearing_33 fp_X3_36 (tbk_41) rfl rfl (fun s33 => ?_)
  exact sw_vret dX3_takeBearing_36
def f_X3_takeBearing (q : Nat) (σ : St) : Option (St) :=
  if wr (σ 41 8) = 0 then
    f_X3_takeBearing_16 q σ
  else
    bV (f_X3_fail 4 (σ 41 6) σ) fun s13 => f_X3_takeBearing_16 q s13
set_option maxRecDepth 20000 in
theorem m_X3_takeBearing (q : Nat) (hq : isSq q) (σ : St) : MT G l yX3_takeBearing cX3_takeBearing 2 none rm_X3_takeBearing [.ref (ad G 41), .ref (ad G q)] wV σ (f_X3_takeBearing q σ) := by
  refine mt_V (L := [some (.ref (ad G 41)), some (.ref (ad G q))]) rfl (Nat.le_of_ble_eq_true rfl) rfl ?_
  show SW G l RX3 cX3_takeBearing 2 rm_X3_takeBearing wV 0 [some (.ref (ad G 41)), some (.ref (ad G q))] [] σ (f_X3_takeBearing q σ)
  unfold f_X3_takeBearing
  refine sw_aload_n (pc' := 1) dX3_takeBearing_0 rfl rfl ?_
  refine sw_getn (pc' := 4) dX3_takeBearing_1 fl_X3_36 (tbk_41) rfl rfl ?_
  refine sw_if_eq (tgt := 16) (pc' := 7) dX3_takeBearing_4 (by decide) rfl (fun _ => ?_) (fun _ => ?_)
  · exact s_X3_takeBearing_16 q hq σ
  · refine sw_aload_n (pc' := 8) dX3_takeBearing_7 rfl rfl ?_
    refine sw_iconst (pc' := 9) dX3_takeBearing_8 rfl ?_
    refine sw_aload_n (pc' := 10) dX3_takeBearing_9 rfl rfl ?_
    refine sw_getn (pc' := 13) dX3_takeBearing_10 fl_X3_61 (tbk_41) rfl rfl ?_
    refine sw_callVV (pc' := 16) (As := [vi 4, vi (σ 41 6)]) (rest := []) dX3_takeBearing_13 cv_X3_57 (tbk_41) (m_X3_fail 4 (σ 41 6) σ) rfl rfl rfl rfl rfl (fun s13 => ?_)
    exact s_X3_takeBearing_16 q hq s13
def rm_X3_takeReport : Room := { frames := 3, cells := 0, slots := 0, locals := 67 }
def f_X3_takeReport_18 (q : Nat)  (σ : St) : Option (St) :=
  bI (f_X3_takeNumber 0 99 σ) fun v22 s22 => bI (f_X3_takeNumber 0 3 s22) fun v29 s29 => bI (f_X3_takeNumber 0 4 s29) fun v36 s36 => bI (f_X3_takeNumber 0 3 s36) fun v44 s44 => bV (f_X3_takeSemicolon s44) fun s50 => if wr (s50 41 2) = 0 then
    bI (f_X2_addReport q v22 v29 v36 v44 s50) fun v67 s67 => some s67
  else
    some s50
set_option maxRecDepth 20000 in
theorem s_X3_takeReport_18 (q : Nat) (hq : isSq q)   (σ : St) : SW G l RX3 cX3_takeReport 6 rm_X3_takeReport wV 18 [some (.ref (ad G 41)), some (.ref (ad G q)), none, none, none, none] [] σ (f_X3_takeReport_18 q σ) := by
  unfold f_X3_takeReport_18
  refine sw_aload_n (pc' := 19) dX3_takeReport_18 rfl rfl ?_
  refine sw_iconst (pc' := 20) dX3_takeReport_19 rfl ?_
  refine sw_bipush (pc' := 22) dX3_takeReport_20 rfl rfl ?_
  refine sw_callVI (pc' := 25) (As := [vi 0, vi 99]) (rest := []) dX3_takeReport_22 cv_X3_118 (tbk_41) (m_X3_takeNumber 0 99 σ) rfl rfl rfl rfl rfl (fun v22 s22 => ?_)
  refine sw_istore_n (pc' := 26) (x := v22) (L' := [some (.ref (ad G 41)), some (.ref (ad G q)), some (vi v22), none, none, none]) dX3_takeReport_25 rfl (by decide) rfl rfl ?_
  refine sw_aload_n (pc' := 27) dX3_takeReport_26 rfl rfl ?_
  refine sw_iconst (pc' := 28) dX3_takeReport_27 rfl ?_
  refine sw_iconst (pc' := 29) dX3_takeReport_28 rfl ?_
  refine sw_callVI (pc' := 32) (As := [vi 0, vi 3]) (rest := []) dX3_takeReport_29 cv_X3_118 (tbk_41) (m_X3_takeNumber 0 3 s22) rfl rfl rfl rfl rfl (fun v29 s29 => ?_)
  refine sw_istore_n (pc' := 33) (x := v29) (L' := [some (.ref (ad G 41)), some (.ref (ad G q)), some (vi v22), some (vi v29), none, none]) dX3_takeReport_32 rfl (by decide) rfl rfl ?_
  refine sw_aload_n (pc' := 34) dX3_takeReport_33 rfl rfl ?_
  refine sw_iconst (pc' := 35) dX3_takeReport_34 rfl ?_
  refine sw_iconst (pc' := 36) dX3_takeReport_35 rfl ?_
  refine sw_callVI (pc' := 39) (As := [vi 0, vi 4]) (rest := []) dX3_takeReport_36 cv_X3_118 (tbk_41) (m_X3_takeNumber 0 4 s29) rfl rfl rfl rfl rfl (fun v36 s36 => ?_)
  refine sw_istore (pc' := 41) (x := v36) (L' := [some (.ref (ad G 41)), some (.ref (ad G q)), some (vi v22), some (vi v29), some (vi v36), none]) dX3_takeReport_39 rfl (by decide) rfl rfl ?_
  refine sw_aload_n (pc' := 42) dX3_takeReport_41 rfl rfl ?_
  refine sw_iconst (pc' := 43) dX3_takeReport_42 rfl ?_
  refine sw_iconst (pc' := 44) dX3_takeReport_43 rfl ?_
  refine sw_callVI (pc' := 47) (As := [vi 0, vi 3]) (rest := []) dX3_takeReport_44 cv_X3_118 (tbk_41) (m_X3_takeNumber 0 3 s36) rfl rfl rfl rfl rfl (fun v44 s44 => ?_)
  refine sw_istore (pc' := 49) (x := v44) (L' := [some (.ref (ad G 41)), some (.ref (ad G q)), some (vi v22), some (vi v29), some (vi v36), some (vi v44)]) dX3_takeReport_47 rfl (by decide) rfl rfl ?_
  refine sw_aload_n (pc' := 50) dX3_takeReport_49 rfl rfl ?_
  refine sw_callVV (pc' := 53) (As := []) (rest := []) dX3_takeReport_50 cv_X3_122 (tbk_41) (m_X3_takeSemicolon s44) rfl rfl rfl rfl rfl (fun s50 => ?_)
  refine sw_aload_n (pc' := 54) dX3_takeReport_53 rfl rfl ?_
  refine sw_getn (pc' := 57) dX3_takeReport_54 fl_X3_24 (tbk_41) rfl rfl ?_
  refine sw_if_ne (tgt := 71) (pc' := 60) dX3_takeReport_57 (by decide) rfl (fun _ => ?_) (fun _ => ?_)
  · refine sw_aload_n (pc' := 61) dX3_takeReport_60 rfl rfl ?_
    refine sw_iload_n (pc' := 62) dX3_takeReport_61 rfl rfl ?_
    refine sw_iload_n (pc' := 63) dX3_takeReport_62 rfl rfl ?_
    refine sw_iload (pc' := 65) dX3_takeReport_63 rfl rfl ?_
    refine sw_iload (pc' := 67) dX3_takeReport_65 rfl rfl ?_
    refine sw_callVB (pc' := 70) (As := [vi v22, vi v29, vi v36, vi v44]) (rest := []) dX3_takeReport_67 cv_X3_139 (sqo hq) (m_X2_addReport q v22 v29 v36 v44 (hq) s50) rfl rfl rfl rfl rfl (fun v67 s67 => ?_)
    refine sw_pop (pc' := 71) dX3_takeReport_70 rfl rfl ?_
    exact sw_vret dX3_takeReport_71
  · exact sw_vret dX3_takeReport_71
def f_X3_takeReport (q : Nat) (σ : St) : Option (St) :=
  if wr (σ q 6) < wr 8 then
    f_X3_takeReport_18 q σ
  else
    bV (f_X3_fail 5 (σ 41 6) σ) fun s15 => f_X3_takeReport_18 q s15
set_option maxRecDepth 20000 in
theorem m_X3_takeReport (q : Nat) (hq : isSq q) (σ : St) : MT G l yX3_takeReport cX3_takeReport 6 none rm_X3_takeReport [.ref (ad G 41), .ref (ad G q)] wV σ (f_X3_takeReport q σ) := by
  refine mt_V (L := [some (.ref (ad G 41)), some (.ref (ad G q)), none, none, none, none]) rfl (Nat.le_of_ble_eq_true rfl) rfl ?_
  show SW G l RX3 cX3_takeReport 6 rm_X3_takeReport wV 0 [some (.ref (ad G 41)), some (.ref (ad G q)), none, none, none, none] [] σ (f_X3_takeReport q σ)
  unfold f_X3_takeReport
  refine sw_aload_n (pc' := 1) dX3_takeReport_0 rfl rfl ?_
  refine sw_getn (pc' := 4) dX3_takeReport_1 fl_X3_136 (sqo hq) rfl rfl ?_
  refine sw_bipush (pc' := 6) dX3_takeReport_4 rfl rfl ?_
  refine sw_icmp_lt (tgt := 18) (pc' := 9) dX3_takeReport_6 (by decide) rfl (fun _ => ?_) (fun _ => ?_)
  · exact s_X3_takeReport_18 q hq σ
  · refine sw_aload_n (pc' := 10) dX3_takeReport_9 rfl rfl ?_
    refine sw_iconst (pc' := 11) dX3_takeReport_10 rfl ?_
    refine sw_aload_n (pc' := 12) dX3_takeReport_11 rfl rfl ?_
    refine sw_getn (pc' := 15) dX3_takeReport_12 fl_X3_61 (tbk_41) rfl rfl ?_
    refine sw_callVV (pc' := 18) (As := [vi 5, vi (σ 41 6)]) (rest := []) dX3_takeReport_15 cv_X3_57 (tbk_41) (m_X3_fail 5 (σ 41 6) σ) rfl rfl rfl rfl rfl (fun s15 => ?_)
    exact s_X3_takeReport_18 q hq s15
def rm_X3_takeRider : Room := { frames := 3, cells := 0, slots := 0, locals := 67 }
def f_X3_takeRider_17 (q : Nat)  (x2 : Int) (σ : St) : Option (St) :=
  bI (f_X3_takeNumber 0 15 σ) fun v21 s21 => bI (f_X3_takeNumber 1 99 s21) fun v29 s29 => bV (f_X3_takeSemicolon s29) fun s35 => if wr (s35 41 2) = 0 then
    bV (f_X2_addRider q x2 v21 v29 s35) fun s50 => some s50
  else
    some s35
set_option maxRecDepth 20000 in
theorem s_X3_takeRider_17 (q : Nat) (hq : isSq q)   (x2 : Int) (σ : St) : SW G l RX3 cX3_takeRider 5 rm_X3_takeRider wV 17 [some (.ref (ad G 41)), some (.ref (ad G q)), some (vi x2), none, none] [] σ (f_X3_takeRider_17 q x2 σ) := by
  unfold f_X3_takeRider_17
  refine sw_aload_n (pc' := 18) dX3_takeRider_17 rfl rfl ?_
  refine sw_iconst (pc' := 19) dX3_takeRider_18 rfl ?_
  refine sw_bipush (pc' := 21) dX3_takeRider_19 rfl rfl ?_
  refine sw_callVI (pc' := 24) (As := [vi 0, vi 15]) (rest := []) dX3_takeRider_21 cv_X3_118 (tbk_41) (m_X3_takeNumber 0 15 σ) rfl rfl rfl rfl rfl (fun v21 s21 => ?_)
  refine sw_istore_n (pc' := 25) (x := v21) (L' := [some (.ref (ad G 41)), some (.ref (ad G q)), some (vi x2), some (vi v21), none]) dX3_takeRider_24 rfl (by decide) rfl rfl ?_
  refine sw_aload_n (pc' := 26) dX3_takeRider_25 rfl rfl ?_
  refine sw_iconst (pc' := 27) dX3_takeRider_26 rfl ?_
  refine sw_bipush (pc' := 29) dX3_takeRider_27 rfl rfl ?_
  refine sw_callVI (pc' := 32) (As := [vi 1, vi 99]) (rest := []) dX3_takeRider_29 cv_X3_118 (tbk_41) (m_X3_takeNumber 1 99 s21) rfl rfl rfl rfl rfl (fun v29 s29 => ?_)
  refine sw_istore (pc' := 34) (x := v29) (L' := [some (.ref (ad G 41)), some (.ref (ad G q)), some (vi x2), some (vi v21), some (vi v29)]) dX3_takeRider_32 rfl (by decide) rfl rfl ?_
  refine sw_aload_n (pc' := 35) dX3_takeRider_34 rfl rfl ?_
  refine sw_callVV (pc' := 38) (As := []) (rest := []) dX3_takeRider_35 cv_X3_122 (tbk_41) (m_X3_takeSemicolon s29) rfl rfl rfl rfl rfl (fun s35 => ?_)
  refine sw_aload_n (pc' := 39) dX3_takeRider_38 rfl rfl ?_
  refine sw_getn (pc' := 42) dX3_takeRider_39 fl_X3_24 (tbk_41) rfl rfl ?_
  refine sw_if_ne (tgt := 53) (pc' := 45) dX3_takeRider_42 (by decide) rfl (fun _ => ?_) (fun _ => ?_)
  · refine sw_aload_n (pc' := 46) dX3_takeRider_45 rfl rfl ?_
    refine sw_iload_n (pc' := 47) dX3_takeRider_46 rfl rfl ?_
    refine sw_iload_n (pc' := 48) dX3_takeRider_47 rfl rfl ?_
    refine sw_iload (pc' := 50) dX3_takeRider_48 rfl rfl ?_
    refine sw_callVV (pc' := 53) (As := [vi x2, vi v21, vi v29]) (rest := []) dX3_takeRider_50 cv_X3_125 (sqo hq) (m_X2_addRider q x2 v21 v29 (hq) s35) rfl rfl rfl rfl rfl (fun s50 => ?_)
    exact sw_vret dX3_takeRider_53
  · exact sw_vret dX3_takeRider_53
def f_X3_takeRider (q : Nat) (x2 : Int) (σ : St) : Option (St) :=
  if wr (σ q 0) < wr 5 then
    f_X3_takeRider_17 q x2 σ
  else
    bV (f_X3_fail 5 (σ 41 6) σ) fun s14 => f_X3_takeRider_17 q x2 s14
set_option maxRecDepth 20000 in
theorem m_X3_takeRider (q : Nat) (x2 : Int) (hq : isSq q) (σ : St) : MT G l yX3_takeRider cX3_takeRider 5 none rm_X3_takeRider [.ref (ad G 41), .ref (ad G q), vi x2] wV σ (f_X3_takeRider q x2 σ) := by
  refine mt_V (L := [some (.ref (ad G 41)), some (.ref (ad G q)), some (vi x2), none, none]) rfl (Nat.le_of_ble_eq_true rfl) rfl ?_
  show SW G l RX3 cX3_takeRider 5 rm_X3_takeRider wV 0 [some (.ref (ad G 41)), some (.ref (ad G q)), some (vi x2), none, none] [] σ (f_X3_takeRider q x2 σ)
  unfold f_X3_takeRider
  refine sw_aload_n (pc' := 1) dX3_takeRider_0 rfl rfl ?_
  refine sw_getn (pc' := 4) dX3_takeRider_1 fl_X3_115 (sqo hq) rfl rfl ?_
  refine sw_iconst (pc' := 5) dX3_takeRider_4 rfl ?_
  refine sw_icmp_lt (tgt := 17) (pc' := 8) dX3_takeRider_5 (by decide) rfl (fun _ => ?_) (fun _ => ?_)
  · exact s_X3_takeRider_17 q hq x2 σ
  · refine sw_aload_n (pc' := 9) dX3_takeRider_8 rfl rfl ?_
    refine sw_iconst (pc' := 10) dX3_takeRider_9 rfl ?_
    refine sw_aload_n (pc' := 11) dX3_takeRider_10 rfl rfl ?_
    refine sw_getn (pc' := 14) dX3_takeRider_11 fl_X3_61 (tbk_41) rfl rfl ?_
    refine sw_callVV (pc' := 17) (As := [vi 5, vi (σ 41 6)]) (rest := []) dX3_takeRider_14 cv_X3_57 (tbk_41) (m_X3_fail 5 (σ 41 6) σ) rfl rfl rfl rfl rfl (fun s14 => ?_)
    exact s_X3_takeRider_17 q hq x2 s14
def rm_X3_takeTrust : Room := { frames := 3, cells := 0, slots := 0, locals := 67 }
def f_X3_takeTrust_28 (q : Nat)  (x2 : Int) (σ : St) : Option (St) :=
  bI (f_X3_takeNumber 0 9 σ) fun v37 s37 => bV (sv s37 (q + 4) 4 x2 v37) fun s40 => bV (f_X3_takeSemicolon s40) fun s42 => bV (pf s42 41 9 (iod (s42 41 9) (isl 1 x2))) fun s54 => some s54
set_option maxRecDepth 20000 in
theorem s_X3_takeTrust_28 (q : Nat) (hq : isSq q)   (x2 : Int) (σ : St) : SW G l RX3 cX3_takeTrust 3 rm_X3_takeTrust wV 28 [some (.ref (ad G 41)), some (.ref (ad G q)), some (vi x2)] [] σ (f_X3_takeTrust_28 q x2 σ) := by
  unfold f_X3_takeTrust_28
  refine sw_aload_n (pc' := 29) dX3_takeTrust_28 rfl rfl ?_
  refine sw_getr (pc' := 32) dX3_takeTrust_29 fl_X3_132 (sqo hq) rfl rfl ?_
  refine sw_iload_n (pc' := 33) dX3_takeTrust_32 rfl rfl ?_
  refine sw_aload_n (pc' := 34) dX3_takeTrust_33 rfl rfl ?_
  refine sw_iconst (pc' := 35) dX3_takeTrust_34 rfl ?_
  refine sw_bipush (pc' := 37) dX3_takeTrust_35 rfl rfl ?_
  refine sw_callVI (pc' := 40) (As := [vi 0, vi 9]) (rest := [vi x2, .ref (ad G (q + 4))]) dX3_takeTrust_37 cv_X3_118 (tbk_41) (m_X3_takeNumber 0 9 σ) rfl rfl rfl rfl rfl (fun v37 s37 => ?_)
  refine sw_iast (pc' := 41) dX3_takeTrust_40 (sqa4 hq) rfl (fun s40 => ?_)
  refine sw_aload_n (pc' := 42) dX3_takeTrust_41 rfl rfl ?_
  refine sw_callVV (pc' := 45) (As := []) (rest := []) dX3_takeTrust_42 cv_X3_122 (tbk_41) (m_X3_takeSemicolon s40) rfl rfl rfl rfl rfl (fun s42 => ?_)
  refine sw_aload_n (pc' := 46) dX3_takeTrust_45 rfl rfl ?_
  refine sw_dup (pc' := 47) dX3_takeTrust_46 rfl rfl ?_
  refine sw_getn (pc' := 50) dX3_takeTrust_47 fl_X3_40 (tbk_41) rfl rfl ?_
  refine sw_iconst (pc' := 51) dX3_takeTrust_50 rfl ?_
  refine sw_iload_n (pc' := 52) dX3_takeTrust_51 rfl rfl ?_
  refine sw_ishl (pc' := 53) dX3_takeTrust_52 rfl ?_
  refine sw_ior (pc' := 54) dX3_takeTrust_53 rfl ?_
  refine sw_putI (pc' := 57) dX3_takeTrust_54 fp_X3_40 (tbk_41) rfl rfl (fun s54 => ?_)
  exact sw_vret dX3_takeTrust_57
def f_X3_takeTrust (q : Nat) (σ : St) : Option (St) :=
  bI (f_X3_takeNumber 0 3 σ) fun v3 s3 => if wr (iad (isr (s3 41 9) v3) 1) = wr 1 then
    bV (f_X3_fail 4 (s3 41 6) s3) fun s25 => f_X3_takeTrust_28 q v3 s25
  else
    f_X3_takeTrust_28 q v3 s3
set_option maxRecDepth 20000 in
theorem m_X3_takeTrust (q : Nat) (hq : isSq q) (σ : St) : MT G l yX3_takeTrust cX3_takeTrust 3 none rm_X3_takeTrust [.ref (ad G 41), .ref (ad G q)] wV σ (f_X3_takeTrust q σ) := by
  refine mt_V (L := [some (.ref (ad G 41)), some (.ref (ad G q)), none]) rfl (Nat.le_of_ble_eq_true rfl) rfl ?_
  show SW G l RX3 cX3_takeTrust 3 rm_X3_takeTrust wV 0 [some (.ref (ad G 41)), some (.ref (ad G q)), none] [] σ (f_X3_takeTrust q σ)
  unfold f_X3_takeTrust
  refine sw_aload_n (pc' := 1) dX3_takeTrust_0 rfl rfl ?_
  refine sw_iconst (pc' := 2) dX3_takeTrust_1 rfl ?_
  refine sw_iconst (pc' := 3) dX3_takeTrust_2 rfl ?_
  refine sw_callVI (pc' := 6) (As := [vi 0, vi 3]) (rest := []) dX3_takeTrust_3 cv_X3_118 (tbk_41) (m_X3_takeNumber 0 3 σ) rfl rfl rfl rfl rfl (fun v3 s3 => ?_)
  refine sw_istore_n (pc' := 7) (x := v3) (L' := [some (.ref (ad G 41)), some (.ref (ad G q)), some (vi v3)]) dX3_takeTrust_6 rfl (by decide) rfl rfl ?_
  refine sw_aload_n (pc' := 8) dX3_takeTrust_7 rfl rfl ?_
  refine sw_getn (pc' := 11) dX3_takeTrust_8 fl_X3_40 (tbk_41) rfl rfl ?_
  refine sw_iload_n (pc' := 12) dX3_takeTrust_11 rfl rfl ?_
  refine sw_ishr (pc' := 13) dX3_takeTrust_12 rfl ?_
  refine sw_iconst (pc' := 14) dX3_takeTrust_13 rfl ?_
  refine sw_iand (pc' := 15) dX3_takeTrust_14 rfl ?_
  refine sw_iconst (pc' := 16) dX3_takeTrust_15 rfl ?_
  refine sw_icmp_ne (tgt := 28) (pc' := 19) dX3_takeTrust_16 (by decide) rfl (fun _ => ?_) (fun _ => ?_)
  · refine sw_aload_n (pc' := 20) dX3_takeTrust_19 rfl rfl ?_
    refine sw_iconst (pc' := 21) dX3_takeTrust_20 rfl ?_
    refine sw_aload_n (pc' := 22) dX3_takeTrust_21 rfl rfl ?_
    refine sw_getn (pc' := 25) dX3_takeTrust_22 fl_X3_61 (tbk_41) rfl rfl ?_
    refine sw_callVV (pc' := 28) (As := [vi 4, vi (s3 41 6)]) (rest := []) dX3_takeTrust_25 cv_X3_57 (tbk_41) (m_X3_fail 4 (s3 41 6) s3) rfl rfl rfl rfl rfl (fun s25 => ?_)
    exact s_X3_takeTrust_28 q hq v3 s25
  · exact s_X3_takeTrust_28 q hq v3 s3
def rm_X3_takeLine : Room := { frames := 5, cells := 0, slots := 0, locals := 107 }
def f_X3_takeLine (q : Nat) (σ : St) : Option (St) :=
  bI (f_X3_isNamed 0 σ) fun v3 s3 => if v3 then
    bV (f_X3_takeRider q 0 s3) fun s12 => some s12
  else
    bI (f_X3_isNamed 1 s3) fun v21 s21 => if v21 then
      bV (f_X3_takeRider q 1 s21) fun s30 => some s30
    else
      bI (f_X3_isNamed 2 s21) fun v39 s39 => if v39 then
        bV (f_X3_takeRider q 2 s39) fun s48 => some s48
      else
        bI (f_X3_isNamed 3 s39) fun v57 s57 => if v57 then
          bV (f_X3_takeRider q 3 s57) fun s66 => some s66
        else
          bI (f_X3_isNamed 4 s57) fun v75 s75 => if v75 then
            bV (f_X3_takeBearing q s75) fun s83 => some s83
          else
            bI (f_X3_isNamed 5 s75) fun v92 s92 => if v92 then
              bV (f_X3_takeTrust q s92) fun s100 => some s100
            else
              bI (f_X3_isNamed 6 s92) fun v109 s109 => if v109 then
                bV (f_X3_takeReport q s109) fun s117 => some s117
              else
                bV (f_X3_fail 2 (s109 41 6) s109) fun s129 => some s129
set_option maxRecDepth 20000 in
theorem m_X3_takeLine (q : Nat) (hq : isSq q) (σ : St) : MT G l yX3_takeLine cX3_takeLine 2 none rm_X3_takeLine [.ref (ad G 41), .ref (ad G q)] wV σ (f_X3_takeLine q σ) := by
  refine mt_V (L := [some (.ref (ad G 41)), some (.ref (ad G q))]) rfl (Nat.le_of_ble_eq_true rfl) rfl ?_
  show SW G l RX3 cX3_takeLine 2 rm_X3_takeLine wV 0 [some (.ref (ad G 41)), some (.ref (ad G q))] [] σ (f_X3_takeLine q σ)
  unfold f_X3_takeLine
  refine sw_aload_n (pc' := 1) dX3_takeLine_0 rfl rfl ?_
  refine sw_wldc (i := 0) (pc' := 3) (by decide) dX3_takeLine_1 rfl rfl rfl ?_
  refine sw_callVB (pc' := 6) (As := [.ref (gK G 0)]) (rest := []) dX3_takeLine_3 cv_X3_77 (tbk_41) (m_X3_isNamed 0 (by decide) σ) rfl rfl rfl rfl rfl (fun v3 s3 => ?_)
  refine sw_bif_eq (tgt := 18) (pc' := 9) dX3_takeLine_6 (by decide) rfl (fun _ => ?_) (fun _ => ?_)
  · refine sw_aload_n (pc' := 10) dX3_takeLine_9 rfl rfl ?_
    refine sw_aload_n (pc' := 11) dX3_takeLine_10 rfl rfl ?_
    refine sw_iconst (pc' := 12) dX3_takeLine_11 rfl ?_
    refine sw_callVV (pc' := 15) (As := [.ref (ad G q), vi 0]) (rest := []) dX3_takeLine_12 cv_X3_81 (tbk_41) (m_X3_takeRider q 0 (hq) s3) rfl rfl rfl rfl rfl (fun s12 => ?_)
    refine sw_goto (pc' := 132) dX3_takeLine_15 (by decide) ?_
    exact sw_vret dX3_takeLine_132
  · refine sw_aload_n (pc' := 19) dX3_takeLine_18 rfl rfl ?_
    refine sw_wldc (i := 1) (pc' := 21) (by decide) dX3_takeLine_19 rfl rfl rfl ?_
    refine sw_callVB (pc' := 24) (As := [.ref (gK G 1)]) (rest := []) dX3_takeLine_21 cv_X3_77 (tbk_41) (m_X3_isNamed 1 (by decide) s3) rfl rfl rfl rfl rfl (fun v21 s21 => ?_)
    refine sw_bif_eq (tgt := 36) (pc' := 27) dX3_takeLine_24 (by decide) rfl (fun _ => ?_) (fun _ => ?_)
    · refine sw_aload_n (pc' := 28) dX3_takeLine_27 rfl rfl ?_
      refine sw_aload_n (pc' := 29) dX3_takeLine_28 rfl rfl ?_
      refine sw_iconst (pc' := 30) dX3_takeLine_29 rfl ?_
      refine sw_callVV (pc' := 33) (As := [.ref (ad G q), vi 1]) (rest := []) dX3_takeLine_30 cv_X3_81 (tbk_41) (m_X3_takeRider q 1 (hq) s21) rfl rfl rfl rfl rfl (fun s30 => ?_)
      refine sw_goto (pc' := 132) dX3_takeLine_33 (by decide) ?_
      exact sw_vret dX3_takeLine_132
    · refine sw_aload_n (pc' := 37) dX3_takeLine_36 rfl rfl ?_
      refine sw_wldc (i := 2) (pc' := 39) (by decide) dX3_takeLine_37 rfl rfl rfl ?_
      refine sw_callVB (pc' := 42) (As := [.ref (gK G 2)]) (rest := []) dX3_takeLine_39 cv_X3_77 (tbk_41) (m_X3_isNamed 2 (by decide) s21) rfl rfl rfl rfl rfl (fun v39 s39 => ?_)
      refine sw_bif_eq (tgt := 54) (pc' := 45) dX3_takeLine_42 (by decide) rfl (fun _ => ?_) (fun _ => ?_)
      · refine sw_aload_n (pc' := 46) dX3_takeLine_45 rfl rfl ?_
        refine sw_aload_n (pc' := 47) dX3_takeLine_46 rfl rfl ?_
        refine sw_iconst (pc' := 48) dX3_takeLine_47 rfl ?_
        refine sw_callVV (pc' := 51) (As := [.ref (ad G q), vi 2]) (rest := []) dX3_takeLine_48 cv_X3_81 (tbk_41) (m_X3_takeRider q 2 (hq) s39) rfl rfl rfl rfl rfl (fun s48 => ?_)
        refine sw_goto (pc' := 132) dX3_takeLine_51 (by decide) ?_
        exact sw_vret dX3_takeLine_132
      · refine sw_aload_n (pc' := 55) dX3_takeLine_54 rfl rfl ?_
        refine sw_wldc (i := 3) (pc' := 57) (by decide) dX3_takeLine_55 rfl rfl rfl ?_
        refine sw_callVB (pc' := 60) (As := [.ref (gK G 3)]) (rest := []) dX3_takeLine_57 cv_X3_77 (tbk_41) (m_X3_isNamed 3 (by decide) s39) rfl rfl rfl rfl rfl (fun v57 s57 => ?_)
        refine sw_bif_eq (tgt := 72) (pc' := 63) dX3_takeLine_60 (by decide) rfl (fun _ => ?_) (fun _ => ?_)
        · refine sw_aload_n (pc' := 64) dX3_takeLine_63 rfl rfl ?_
          refine sw_aload_n (pc' := 65) dX3_takeLine_64 rfl rfl ?_
          refine sw_iconst (pc' := 66) dX3_takeLine_65 rfl ?_
          refine sw_callVV (pc' := 69) (As := [.ref (ad G q), vi 3]) (rest := []) dX3_takeLine_66 cv_X3_81 (tbk_41) (m_X3_takeRider q 3 (hq) s57) rfl rfl rfl rfl rfl (fun s66 => ?_)
          refine sw_goto (pc' := 132) dX3_takeLine_69 (by decide) ?_
          exact sw_vret dX3_takeLine_132
        · refine sw_aload_n (pc' := 73) dX3_takeLine_72 rfl rfl ?_
          refine sw_wldc (i := 4) (pc' := 75) (by decide) dX3_takeLine_73 rfl rfl rfl ?_
          refine sw_callVB (pc' := 78) (As := [.ref (gK G 4)]) (rest := []) dX3_takeLine_75 cv_X3_77 (tbk_41) (m_X3_isNamed 4 (by decide) s57) rfl rfl rfl rfl rfl (fun v75 s75 => ?_)
          refine sw_bif_eq (tgt := 89) (pc' := 81) dX3_takeLine_78 (by decide) rfl (fun _ => ?_) (fun _ => ?_)
          · refine sw_aload_n (pc' := 82) dX3_takeLine_81 rfl rfl ?_
            refine sw_aload_n (pc' := 83) dX3_takeLine_82 rfl rfl ?_
            refine sw_callVV (pc' := 86) (As := [.ref (ad G q)]) (rest := []) dX3_takeLine_83 cv_X3_93 (tbk_41) (m_X3_takeBearing q (hq) s75) rfl rfl rfl rfl rfl (fun s83 => ?_)
            refine sw_goto (pc' := 132) dX3_takeLine_86 (by decide) ?_
            exact sw_vret dX3_takeLine_132
          · refine sw_aload_n (pc' := 90) dX3_takeLine_89 rfl rfl ?_
            refine sw_wldc (i := 5) (pc' := 92) (by decide) dX3_takeLine_90 rfl rfl rfl ?_
            refine sw_callVB (pc' := 95) (As := [.ref (gK G 5)]) (rest := []) dX3_takeLine_92 cv_X3_77 (tbk_41) (m_X3_isNamed 5 (by decide) s75) rfl rfl rfl rfl rfl (fun v92 s92 => ?_)
            refine sw_bif_eq (tgt := 106) (pc' := 98) dX3_takeLine_95 (by decide) rfl (fun _ => ?_) (fun _ => ?_)
            · refine sw_aload_n (pc' := 99) dX3_takeLine_98 rfl rfl ?_
              refine sw_aload_n (pc' := 100) dX3_takeLine_99 rfl rfl ?_
              refine sw_callVV (pc' := 103) (As := [.ref (ad G q)]) (rest := []) dX3_takeLine_100 cv_X3_98 (tbk_41) (m_X3_takeTrust q (hq) s92) rfl rfl rfl rfl rfl (fun s100 => ?_)
              refine sw_goto (pc' := 132) dX3_takeLine_103 (by decide) ?_
              exact sw_vret dX3_takeLine_132
            · refine sw_aload_n (pc' := 107) dX3_takeLine_106 rfl rfl ?_
              refine sw_wldc (i := 6) (pc' := 109) (by decide) dX3_takeLine_107 rfl rfl rfl ?_
              refine sw_callVB (pc' := 112) (As := [.ref (gK G 6)]) (rest := []) dX3_takeLine_109 cv_X3_77 (tbk_41) (m_X3_isNamed 6 (by decide) s92) rfl rfl rfl rfl rfl (fun v109 s109 => ?_)
              refine sw_bif_eq (tgt := 123) (pc' := 115) dX3_takeLine_112 (by decide) rfl (fun _ => ?_) (fun _ => ?_)
              · refine sw_aload_n (pc' := 116) dX3_takeLine_115 rfl rfl ?_
                refine sw_aload_n (pc' := 117) dX3_takeLine_116 rfl rfl ?_
                refine sw_callVV (pc' := 120) (As := [.ref (ad G q)]) (rest := []) dX3_takeLine_117 cv_X3_103 (tbk_41) (m_X3_takeReport q (hq) s109) rfl rfl rfl rfl rfl (fun s117 => ?_)
                refine sw_goto (pc' := 132) dX3_takeLine_120 (by decide) ?_
                exact sw_vret dX3_takeLine_132
              · refine sw_aload_n (pc' := 124) dX3_takeLine_123 rfl rfl ?_
                refine sw_iconst (pc' := 125) dX3_takeLine_124 rfl ?_
                refine sw_aload_n (pc' := 126) dX3_takeLine_125 rfl rfl ?_
                refine sw_getn (pc' := 129) dX3_takeLine_126 fl_X3_61 (tbk_41) rfl rfl ?_
                refine sw_callVV (pc' := 132) (As := [vi 2, vi (s109 41 6)]) (rest := []) dX3_takeLine_129 cv_X3_57 (tbk_41) (m_X3_fail 2 (s109 41 6) s109) rfl rfl rfl rfl rfl (fun s129 => ?_)
                exact sw_vret dX3_takeLine_132
def rm_X3_tellsOfMissingRider : Room := { frames := 0, cells := 0, slots := 0, locals := 0 }
def f_X3_tellsOfMissingRider_2 (q : Nat)  : Nat → Int → St → Option (Bool × St)
  | 0, _, _ => none
  | n + 1, x1, σ =>
    if wr x1 < wr (σ q 6) then
      bV (ld σ (q + 7) 8 x1) fun v15 => if wr v15 < wr (σ q 0) then
        (f_X3_tellsOfMissingRider_2 q n) (x1 + 1) σ
      else
        some (true, σ)
    else
      some (false, σ)
set_option maxRecDepth 20000 in
theorem s_X3_tellsOfMissingRider_2 (q : Nat) (hq : isSq q)   : ∀ (n : Nat) (x1 : Int) (σ : St), SW G l RX3 cX3_tellsOfMissingRider 2 rm_X3_tellsOfMissingRider wB 2 [some (.ref (ad G q)), some (vi x1)] [] σ (f_X3_tellsOfMissingRider_2 q n x1 σ) := by
  intro n
  induction n with
  | zero => intro x1 σ; exact sw_none
  | succ n ih =>
    intro x1 σ
    rw [f_X3_tellsOfMissingRider_2]
    refine sw_iload_n (pc' := 3) dX3_tellsOfMissingRider_2 rfl rfl ?_
    refine sw_aload_n (pc' := 4) dX3_tellsOfMissingRider_3 rfl rfl ?_
    refine sw_getn (pc' := 7) dX3_tellsOfMissingRider_4 fl_X3_136 (sqo hq) rfl rfl ?_
    refine sw_icmp_ge (tgt := 31) (pc' := 10) dX3_tellsOfMissingRider_7 (by decide) rfl (fun _ => ?_) (fun _ => ?_)
    · refine sw_aload_n (pc' := 11) dX3_tellsOfMissingRider_10 rfl rfl ?_
      refine sw_getr (pc' := 14) dX3_tellsOfMissingRider_11 fl_X3_143 (sqo hq) rfl rfl ?_
      refine sw_iload_n (pc' := 15) dX3_tellsOfMissingRider_14 rfl rfl ?_
      refine sw_iald (pc' := 16) dX3_tellsOfMissingRider_15 (sqa7 hq) rfl (fun v15 => ?_)
      refine sw_aload_n (pc' := 17) dX3_tellsOfMissingRider_16 rfl rfl ?_
      refine sw_getn (pc' := 20) dX3_tellsOfMissingRider_17 fl_X3_115 (sqo hq) rfl rfl ?_
      refine sw_icmp_lt (tgt := 25) (pc' := 23) dX3_tellsOfMissingRider_20 (by decide) rfl (fun _ => ?_) (fun _ => ?_)
      · refine sw_iinc (pc' := 28) (x := x1) (L' := [some (.ref (ad G q)), some (vi (x1 + 1))]) dX3_tellsOfMissingRider_25 rfl (by decide) rfl rfl rfl ?_
        refine sw_goto (pc' := 2) dX3_tellsOfMissingRider_28 (by decide) ?_
        exact (ih) (x1 + 1) σ
      · refine sw_iconst (pc' := 24) dX3_tellsOfMissingRider_23 rfl ?_
        exact sw_bret (x := true) dX3_tellsOfMissingRider_24
    · refine sw_iconst (pc' := 32) dX3_tellsOfMissingRider_31 rfl ?_
      exact sw_bret (x := false) dX3_tellsOfMissingRider_32
def f_X3_tellsOfMissingRider (q : Nat) (σ : St) : Option (Bool × St) :=
  f_X3_tellsOfMissingRider_2 q FU 0 σ
set_option maxRecDepth 20000 in
theorem m_X3_tellsOfMissingRider (q : Nat) (hq : isSq q) (σ : St) : MT G l yX3_tellsOfMissingRider cX3_tellsOfMissingRider 2 (some .boolean) rm_X3_tellsOfMissingRider [.ref (ad G q)] wB σ (f_X3_tellsOfMissingRider q σ) := by
  refine mt_B (L := [some (.ref (ad G q)), none]) rfl (Nat.le_of_ble_eq_true rfl) rfl ?_
  show SW G l RX3 cX3_tellsOfMissingRider 2 rm_X3_tellsOfMissingRider wB 0 [some (.ref (ad G q)), none] [] σ (f_X3_tellsOfMissingRider q σ)
  unfold f_X3_tellsOfMissingRider
  refine sw_iconst (pc' := 1) dX3_tellsOfMissingRider_0 rfl ?_
  refine sw_istore_n (pc' := 2) (x := 0) (L' := [some (.ref (ad G q)), some (vi 0)]) dX3_tellsOfMissingRider_1 rfl (by decide) rfl rfl ?_
  exact s_X3_tellsOfMissingRider_2 q hq FU 0 σ
def rm_X3_parse : Room := { frames := 6, cells := 0, slots := 0, locals := 128 }
def f_X3_parse_86 (q : Nat)  (σ : St) : Option (St) :=
  if wr (σ 41 2) = 0 then
    bI (f_X3_tellsOfMissingRider q σ) fun v94 s94 => if v94 then
      bV (f_X3_fail 6 (s94 41 1) s94) fun s107 => some s107
    else
      some s94
  else
    some σ
set_option maxRecDepth 20000 in
theorem s_X3_parse_86 (q : Nat) (hq : isSq q)   (σ : St) : SW G l RX3 cX3_parse 3 rm_X3_parse wV 86 [some (.ref (ad G 41)), some (.ref (ad G q)), none] [] σ (f_X3_parse_86 q σ) := by
  unfold f_X3_parse_86
  refine sw_aload_n (pc' := 87) dX3_parse_86 rfl rfl ?_
  refine sw_getn (pc' := 90) dX3_parse_87 fl_X3_24 (tbk_41) rfl rfl ?_
  refine sw_if_ne (tgt := 110) (pc' := 93) dX3_parse_90 (by decide) rfl (fun _ => ?_) (fun _ => ?_)
  · refine sw_aload_n (pc' := 94) dX3_parse_93 rfl rfl ?_
    refine sw_callSB (pc' := 97) (As := [.ref (ad G q)]) (rest := []) dX3_parse_94 cs_X3_53 (m_X3_tellsOfMissingRider q (hq) σ) rfl rfl rfl rfl rfl (fun v94 s94 => ?_)
    refine sw_bif_eq (tgt := 110) (pc' := 100) dX3_parse_97 (by decide) rfl (fun _ => ?_) (fun _ => ?_)
    · refine sw_aload_n (pc' := 101) dX3_parse_100 rfl rfl ?_
      refine sw_bipush (pc' := 103) dX3_parse_101 rfl rfl ?_
      refine sw_aload_n (pc' := 104) dX3_parse_103 rfl rfl ?_
      refine sw_getn (pc' := 107) dX3_parse_104 fl_X3_15 (tbk_41) rfl rfl ?_
      refine sw_callVV (pc' := 110) (As := [vi 6, vi (s94 41 1)]) (rest := []) dX3_parse_107 cv_X3_57 (tbk_41) (m_X3_fail 6 (s94 41 1) s94) rfl rfl rfl rfl rfl (fun s107 => ?_)
      exact sw_vret dX3_parse_110
    · exact sw_vret dX3_parse_110
  · exact sw_vret dX3_parse_110
def f_X3_parse_40 (q : Nat)  : Nat → Int → St → Option (St)
  | 0, _, _ => none
  | n + 1, x2, σ =>
    if wr x2 < wr 160 then
      if wr (σ 41 2) = 0 then
        if wr (σ 41 5) = 0 then
          f_X3_parse_86 q σ
        else
          bV (f_X3_takeLine q σ) fun s63 => bV (pf s63 41 4 ((s63 41 4) + 1)) fun s73 => bV (f_X3_take s73) fun s77 => (f_X3_parse_40 q n) (x2 + 1) s77
      else
        f_X3_parse_86 q σ
    else
      f_X3_parse_86 q σ
set_option maxRecDepth 20000 in
theorem s_X3_parse_40 (q : Nat) (hq : isSq q)   : ∀ (n : Nat) (x2 : Int) (σ : St), SW G l RX3 cX3_parse 3 rm_X3_parse wV 40 [some (.ref (ad G 41)), some (.ref (ad G q)), some (vi x2)] [] σ (f_X3_parse_40 q n x2 σ) := by
  intro n
  induction n with
  | zero => intro x2 σ; exact sw_none
  | succ n ih =>
    intro x2 σ
    rw [f_X3_parse_40]
    refine sw_iload_n (pc' := 41) dX3_parse_40 rfl rfl ?_
    refine sw_sipush (pc' := 44) dX3_parse_41 rfl rfl ?_
    refine sw_icmp_ge (tgt := 86) (pc' := 47) dX3_parse_44 (by decide) rfl (fun _ => ?_) (fun _ => ?_)
    · refine sw_aload_n (pc' := 48) dX3_parse_47 rfl rfl ?_
      refine sw_getn (pc' := 51) dX3_parse_48 fl_X3_24 (tbk_41) rfl rfl ?_
      refine sw_if_ne (tgt := 86) (pc' := 54) dX3_parse_51 (by decide) rfl (fun _ => ?_) (fun _ => ?_)
      · refine sw_aload_n (pc' := 55) dX3_parse_54 rfl rfl ?_
        refine sw_getn (pc' := 58) dX3_parse_55 fl_X3_46 (tbk_41) rfl rfl ?_
        refine sw_if_eq (tgt := 86) (pc' := 61) dX3_parse_58 (by decide) rfl (fun _ => ?_) (fun _ => ?_)
        · refine sw_msk [true, true, false] rfl ?_
          exact s_X3_parse_86 q hq σ
        · refine sw_aload_n (pc' := 62) dX3_parse_61 rfl rfl ?_
          refine sw_aload_n (pc' := 63) dX3_parse_62 rfl rfl ?_
          refine sw_callVV (pc' := 66) (As := [.ref (ad G q)]) (rest := []) dX3_parse_63 cv_X3_49 (tbk_41) (m_X3_takeLine q (hq) σ) rfl rfl rfl rfl rfl (fun s63 => ?_)
          refine sw_aload_n (pc' := 67) dX3_parse_66 rfl rfl ?_
          refine sw_dup (pc' := 68) dX3_parse_67 rfl rfl ?_
          refine sw_getn (pc' := 71) dX3_parse_68 fl_X3_30 (tbk_41) rfl rfl ?_
          refine sw_iconst (pc' := 72) dX3_parse_71 rfl ?_
          refine sw_iadd (pc' := 73) dX3_parse_72 rfl ?_
          refine sw_putI (pc' := 76) dX3_parse_73 fp_X3_30 (tbk_41) rfl rfl (fun s73 => ?_)
          refine sw_aload_n (pc' := 77) dX3_parse_76 rfl rfl ?_
          refine sw_callVV (pc' := 80) (As := []) (rest := []) dX3_parse_77 cv_X3_43 (tbk_41) (m_X3_take s73) rfl rfl rfl rfl rfl (fun s77 => ?_)
          refine sw_iinc (pc' := 83) (x := x2) (L' := [some (.ref (ad G 41)), some (.ref (ad G q)), some (vi (x2 + 1))]) dX3_parse_80 rfl (by decide) rfl rfl rfl ?_
          refine sw_goto (pc' := 40) dX3_parse_83 (by decide) ?_
          exact (ih) (x2 + 1) s77
      · refine sw_msk [true, true, false] rfl ?_
        exact s_X3_parse_86 q hq σ
    · refine sw_msk [true, true, false] rfl ?_
      exact s_X3_parse_86 q hq σ
def f_X3_parse (q : Nat) (σ : St) : Option (St) :=
  bV (f_X2_makeNew q σ) fun s1 => bV (pf s1 41 2 0) fun s6 => bV (pf s6 41 3 0) fun s11 => bV (pf s11 41 4 0) fun s16 => bV (pf s16 41 7 0) fun s21 => bV (pz s21 41 8 0) fun s26 => bV (pf s26 41 9 0) fun s31 => bV (f_X3_take s31) fun s35 => f_X3_parse_40 q FU 0 s35
set_option maxRecDepth 20000 in
theorem m_X3_parse (q : Nat) (hq : isSq q) (σ : St) : MT G l yX3_parse cX3_parse 3 none rm_X3_parse [.ref (ad G 41), .ref (ad G q)] wV σ (f_X3_parse q σ) := by
  refine mt_V (L := [some (.ref (ad G 41)), some (.ref (ad G q)), none]) rfl (Nat.le_of_ble_eq_true rfl) rfl ?_
  show SW G l RX3 cX3_parse 3 rm_X3_parse wV 0 [some (.ref (ad G 41)), some (.ref (ad G q)), none] [] σ (f_X3_parse q σ)
  unfold f_X3_parse
  refine sw_aload_n (pc' := 1) dX3_parse_0 rfl rfl ?_
  refine sw_callVV (pc' := 4) (As := []) (rest := []) dX3_parse_1 cv_X3_19 (sqo hq) (m_X2_makeNew q (hq) σ) rfl rfl rfl rfl rfl (fun s1 => ?_)
  refine sw_aload_n (pc' := 5) dX3_parse_4 rfl rfl ?_
  refine sw_iconst (pc' := 6) dX3_parse_5 rfl ?_
  refine sw_putI (pc' := 9) dX3_parse_6 fp_X3_24 (tbk_41) rfl rfl (fun s6 => ?_)
  refine sw_aload_n (pc' := 10) dX3_parse_9 rfl rfl ?_
  refine sw_iconst (pc' := 11) dX3_parse_10 rfl ?_
  refine sw_putI (pc' := 14) dX3_parse_11 fp_X3_27 (tbk_41) rfl rfl (fun s11 => ?_)
  refine sw_aload_n (pc' := 15) dX3_parse_14 rfl rfl ?_
  refine sw_iconst (pc' := 16) dX3_parse_15 rfl ?_
  refine sw_putI (pc' := 19) dX3_parse_16 fp_X3_30 (tbk_41) rfl rfl (fun s16 => ?_)
  refine sw_aload_n (pc' := 20) dX3_parse_19 rfl rfl ?_
  refine sw_iconst (pc' := 21) dX3_parse_20 rfl ?_
  refine sw_putI (pc' := 24) dX3_parse_21 fp_X3_33 (tbk_41) rfl rfl (fun s21 => ?_)
  refine sw_aload_n (pc' := 25) dX3_parse_24 rfl rfl ?_
  refine sw_iconst (pc' := 26) dX3_parse_25 rfl ?_
  refine sw_putZ (pc' := 29) dX3_parse_26 fp_X3_36 (tbk_41) rfl rfl (fun s26 => ?_)
  refine sw_aload_n (pc' := 30) dX3_parse_29 rfl rfl ?_
  refine sw_iconst (pc' := 31) dX3_parse_30 rfl ?_
  refine sw_putI (pc' := 34) dX3_parse_31 fp_X3_40 (tbk_41) rfl rfl (fun s31 => ?_)
  refine sw_aload_n (pc' := 35) dX3_parse_34 rfl rfl ?_
  refine sw_callVV (pc' := 38) (As := []) (rest := []) dX3_parse_35 cv_X3_43 (tbk_41) (m_X3_take s31) rfl rfl rfl rfl rfl (fun s35 => ?_)
  refine sw_iconst (pc' := 39) dX3_parse_38 rfl ?_
  refine sw_istore_n (pc' := 40) (x := 0) (L' := [some (.ref (ad G 41)), some (.ref (ad G q)), some (vi 0)]) dX3_parse_39 rfl (by decide) rfl rfl ?_
  exact s_X3_parse_40 q hq FU 0 s35
def rm_X4_within : Room := { frames := 0, cells := 0, slots := 0, locals := 0 }
def f_X4_within (x0 : Int) (x1 : Int) (x2 : Int) (σ : St) : Option (Bool × St) :=
  if wr x0 < wr x1 then
    some (false, σ)
  else
    if wr x2 < wr x0 then
      some (false, σ)
    else
      some (true, σ)
set_option maxRecDepth 20000 in
theorem m_X4_within (x0 : Int) (x1 : Int) (x2 : Int)  (σ : St) : MT G l yX4_within cX4_within 3 (some .boolean) rm_X4_within [vi x0, vi x1, vi x2] wB σ (f_X4_within x0 x1 x2 σ) := by
  refine mt_B (L := [some (vi x0), some (vi x1), some (vi x2)]) rfl (Nat.le_of_ble_eq_true rfl) rfl ?_
  show SW G l RX4 cX4_within 3 rm_X4_within wB 0 [some (vi x0), some (vi x1), some (vi x2)] [] σ (f_X4_within x0 x1 x2 σ)
  unfold f_X4_within
  refine sw_iload_n (pc' := 1) dX4_within_0 rfl rfl ?_
  refine sw_iload_n (pc' := 2) dX4_within_1 rfl rfl ?_
  refine sw_icmp_lt (tgt := 14) (pc' := 5) dX4_within_2 (by decide) rfl (fun _ => ?_) (fun _ => ?_)
  · refine sw_iconst (pc' := 15) dX4_within_14 rfl ?_
    exact sw_bret (x := false) dX4_within_15
  · refine sw_iload_n (pc' := 6) dX4_within_5 rfl rfl ?_
    refine sw_iload_n (pc' := 7) dX4_within_6 rfl rfl ?_
    refine sw_icmp_gt (tgt := 14) (pc' := 10) dX4_within_7 (by decide) rfl (fun _ => ?_) (fun _ => ?_)
    · refine sw_iconst (pc' := 15) dX4_within_14 rfl ?_
      exact sw_bret (x := false) dX4_within_15
    · refine sw_iconst (pc' := 11) dX4_within_10 rfl ?_
      refine sw_goto (pc' := 15) dX4_within_11 (by decide) ?_
      exact sw_bret (x := true) dX4_within_15
def rm_X4_feed : Room := { frames := 1, cells := 0, slots := 0, locals := 22 }
def f_X4_feed (x1 : Int) (σ : St) : Option (Int × St) :=
  bI (f_X4_within x1 0 127 σ) fun v4 s4 => if v4 then
    bI (f_X3_append x1 s4) fun v17 s17 => if v17 then
      some ((s17 41 1), s17)
    else
      some ((-3), s17)
  else
    some ((-1), s4)
set_option maxRecDepth 20000 in
theorem m_X4_feed (x1 : Int)  (σ : St) : MT G l yX4_feed cX4_feed 2 (some .int) rm_X4_feed [.ref (ad G 0), vi x1] wI σ (f_X4_feed x1 σ) := by
  refine mt_I (L := [some (.ref (ad G 0)), some (vi x1)]) rfl (Nat.le_of_ble_eq_true rfl) rfl ?_
  show SW G l RX4 cX4_feed 2 rm_X4_feed wI 0 [some (.ref (ad G 0)), some (vi x1)] [] σ (f_X4_feed x1 σ)
  unfold f_X4_feed
  refine sw_iload_n (pc' := 1) dX4_feed_0 rfl rfl ?_
  refine sw_iconst (pc' := 2) dX4_feed_1 rfl ?_
  refine sw_bipush (pc' := 4) dX4_feed_2 rfl rfl ?_
  refine sw_callSB (pc' := 7) (As := [vi x1, vi 0, vi 127]) (rest := []) dX4_feed_4 cs_X4_46 (m_X4_within x1 0 127 σ) rfl rfl rfl rfl rfl (fun v4 s4 => ?_)
  refine sw_bif_ne (tgt := 12) (pc' := 10) dX4_feed_7 (by decide) rfl (fun _ => ?_) (fun _ => ?_)
  · refine sw_aload_n (pc' := 13) dX4_feed_12 rfl rfl ?_
    refine sw_getr (pc' := 16) dX4_feed_13 fl_X4_28 (tbk_0) rfl rfl ?_
    refine sw_iload_n (pc' := 17) dX4_feed_16 rfl rfl ?_
    refine sw_callVB (pc' := 20) (As := [vi x1]) (rest := []) dX4_feed_17 cv_X4_50 (tbk_41) (m_X3_append x1 s4) rfl rfl rfl rfl rfl (fun v17 s17 => ?_)
    refine sw_bif_eq (tgt := 33) (pc' := 23) dX4_feed_20 (by decide) rfl (fun _ => ?_) (fun _ => ?_)
    · refine sw_aload_n (pc' := 24) dX4_feed_23 rfl rfl ?_
      refine sw_getr (pc' := 27) dX4_feed_24 fl_X4_28 (tbk_0) rfl rfl ?_
      refine sw_getn (pc' := 30) dX4_feed_27 fl_X4_54 (tbk_41) rfl rfl ?_
      refine sw_goto (pc' := 35) dX4_feed_30 (by decide) ?_
      exact sw_iret dX4_feed_35
    · refine sw_bipush (pc' := 35) dX4_feed_33 rfl rfl ?_
      exact sw_iret dX4_feed_35
  · refine sw_iconst (pc' := 11) dX4_feed_10 rfl ?_
    exact sw_iret dX4_feed_11
end GEN
