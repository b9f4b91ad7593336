set_option maxRecDepth 20000 in
theorem la_step {G : Gh} {l : Launch} {b L i : Nat} {xs : Nat → Int32} {σ : St} {A : Ab} (h4 : L ≤ 384) (hi : i + 6 ≤ L) (ok : OKA A) (vc : Vc σ A) (vm : Vm σ A) (K : ∀ τ B, OKA B → Vc τ B → Vm τ B → LG G l b L xs 18 [some (.ref b), some (.ref (ad G 0)), some (.ref (ad G 51)), some (vi ((i + 6 : Nat) : Int))] [] τ) : LG G l b L xs 27 [some (.ref b), some (.ref (ad G 0)), some (.ref (ad G 51)), some (vi (i : Int))] [] σ := by
  refine gw_aload_n (pc' := 28) dL_law_27 rfl rfl ?_
  refine gw_iload_n (pc' := 29) dL_law_28 rfl rfl ?_
  refine gw_sld (j := i) (pc' := 30) rfl (by omega) h4 dL_law_29 rfl ?_
  refine gw_bipush (pc' := 32) dL_law_30 rfl rfl ?_
  refine gw_iand (pc' := 33) dL_law_32 rfl ?_
  generalize hx : iad (sc xs i) 63 = x
  by_cases hr : wr x < 0 ∨ 41 < wr x
  · exact gw_tout (tgt := 1564) dL_law_33 hr (by decide) (la_next (K σ A ok vc vm))
  · generalize hw : wr x = w at hr
    have hc : 0 ≤ w ∧ w ≤ 41 := by omega
    have cs : w = 0 ∨ w = 1 ∨ w = 2 ∨ w = 3 ∨ w = 4 ∨ w = 5 ∨ w = 6 ∨ w = 7 ∨ w = 8 ∨ w = 9 ∨ w = 10 ∨ w = 11 ∨ w = 12 ∨ w = 13 ∨ w = 14 ∨ w = 15 ∨ w = 16 ∨ w = 17 ∨ w = 18 ∨ w = 19 ∨ w = 20 ∨ w = 21 ∨ w = 22 ∨ w = 23 ∨ w = 24 ∨ w = 25 ∨ w = 26 ∨ w = 27 ∨ w = 28 ∨ w = 29 ∨ w = 30 ∨ w = 31 ∨ w = 32 ∨ w = 33 ∨ w = 34 ∨ w = 35 ∨ w = 36 ∨ w = 37 ∨ w = 38 ∨ w = 39 ∨ w = 40 ∨ w = 41 := by omega
    rcases cs with e | e | e | e | e | e | e | e | e | e | e | e | e | e | e | e | e | e | e | e | e | e | e | e | e | e | e | e | e | e | e | e | e | e | e | e | e | e | e | e | e | e
    · exact gw_tin (c0 := 0) (tgt := 216) dL_law_33 (hw.trans e) (by decide) rfl (by decide) (ca_feed h4 hi ok vc vm K)
    · exact gw_tin (c0 := 1) (tgt := 239) dL_law_33 (hw.trans e) (by decide) rfl (by decide) (ca_end h4 hi ok vc vm K)
    · exact gw_tin (c0 := 2) (tgt := 262) dL_law_33 (hw.trans e) (by decide) rfl (by decide) (ca_text h4 hi ok vc vm K)
    · exact gw_tin (c0 := 3) (tgt := 275) dL_law_33 (hw.trans e) (by decide) rfl (by decide) (ca_fault h4 hi ok vc vm K)
    · exact gw_tin (c0 := 4) (tgt := 288) dL_law_33 (hw.trans e) (by decide) rfl (by decide) (ca_rule h4 hi ok vc vm K)
    · exact gw_tin (c0 := 5) (tgt := 311) dL_law_33 (hw.trans e) (by decide) rfl (by decide) (ca_rider h4 hi ok vc vm K)
    · exact gw_tin (c0 := 6) (tgt := 344) dL_law_33 (hw.trans e) (by decide) rfl (by decide) (ca_report h4 hi ok vc vm K)
    · exact gw_tin (c0 := 7) (tgt := 377) dL_law_33 (hw.trans e) (by decide) rfl (by decide) (ca_trust h4 hi ok vc vm K)
    · exact gw_tin (c0 := 8) (tgt := 400) dL_law_33 (hw.trans e) (by decide) rfl (by decide) (ca_told h4 hi ok vc vm K)
    · exact gw_tin (c0 := 9) (tgt := 443) dL_law_33 (hw.trans e) (by decide) rfl (by decide) (ca_alter h4 hi ok vc vm K)
    · exact gw_tin (c0 := 10) (tgt := 486) dL_law_33 (hw.trans e) (by decide) rfl (by decide) (ca_rely h4 hi ok vc vm K)
    · exact gw_tin (c0 := 11) (tgt := 519) dL_law_33 (hw.trans e) (by decide) rfl (by decide) (ca_cast h4 hi ok vc vm K)
    · exact gw_tin (c0 := 12) (tgt := 542) dL_law_33 (hw.trans e) (by decide) rfl (by decide) (ca_send h4 hi ok vc vm K)
    · exact gw_tin (c0 := 13) (tgt := 595) dL_law_33 (hw.trans e) (by decide) rfl (by decide) (ca_burn h4 hi ok vc vm K)
    · exact gw_tin (c0 := 14) (tgt := 618) dL_law_33 (hw.trans e) (by decide) rfl (by decide) (ca_days h4 hi ok vc vm K)
    · exact gw_tin (c0 := 15) (tgt := 641) dL_law_33 (hw.trans e) (by decide) rfl (by decide) (ca_runs h4 hi ok vc vm K)
    · exact gw_tin (c0 := 16) (tgt := 674) dL_law_33 (hw.trans e) (by decide) rfl (by decide) (ca_ahead h4 hi ok vc vm K)
    · exact gw_tin (c0 := 17) (tgt := 717) dL_law_33 (hw.trans e) (by decide) rfl (by decide) (ca_believed h4 hi ok vc vm K)
    · exact gw_tin (c0 := 18) (tgt := 750) dL_law_33 (hw.trans e) (by decide) rfl (by decide) (ca_agrees h4 hi ok vc vm K)
    · exact gw_tin (c0 := 19) (tgt := 773) dL_law_33 (hw.trans e) (by decide) rfl (by decide) (ca_pose h4 hi ok vc vm K)
    · exact gw_tin (c0 := 20) (tgt := 806) dL_law_33 (hw.trans e) (by decide) rfl (by decide) (ca_heavy h4 hi ok vc vm K)
    · exact gw_tin (c0 := 21) (tgt := 839) dL_law_33 (hw.trans e) (by decide) rfl (by decide) (ca_need h4 hi ok vc vm K)
    · exact gw_tin (c0 := 22) (tgt := 852) dL_law_33 (hw.trans e) (by decide) rfl (by decide) (ca_liar h4 hi ok vc vm K)
    · exact gw_tin (c0 := 23) (tgt := 885) dL_law_33 (hw.trans e) (by decide) rfl (by decide) (ca_lose h4 hi ok vc vm K)
    · exact gw_tin (c0 := 24) (tgt := 918) dL_law_33 (hw.trans e) (by decide) rfl (by decide) (ca_swap h4 hi ok vc vm K)
    · exact gw_tin (c0 := 25) (tgt := 951) dL_law_33 (hw.trans e) (by decide) rfl (by decide) (ca_gain h4 hi ok vc vm K)
    · exact gw_tin (c0 := 26) (tgt := 1004) dL_law_33 (hw.trans e) (by decide) rfl (by decide) (ca_kind h4 hi ok vc vm K)
    · exact gw_tin (c0 := 27) (tgt := 1047) dL_law_33 (hw.trans e) (by decide) rfl (by decide) (ca_luck h4 hi ok vc vm K)
    · exact gw_tin (c0 := 28) (tgt := 1111) dL_law_33 (hw.trans e) (by decide) rfl (by decide) (ca_mean h4 hi ok vc vm K)
    · exact gw_tin (c0 := 29) (tgt := 1155) dL_law_33 (hw.trans e) (by decide) rfl (by decide) (ca_see h4 hi ok vc vm K)
    · exact gw_tin (c0 := 30) (tgt := 1198) dL_law_33 (hw.trans e) (by decide) rfl (by decide) (ca_forget h4 hi ok vc vm K)
    · exact gw_tin (c0 := 31) (tgt := 1221) dL_law_33 (hw.trans e) (by decide) rfl (by decide) (ca_kinds h4 hi ok vc vm K)
    · exact gw_tin (c0 := 32) (tgt := 1244) dL_law_33 (hw.trans e) (by decide) rfl (by decide) (ca_ups h4 hi ok vc vm K)
    · exact gw_tin (c0 := 33) (tgt := 1267) dL_law_33 (hw.trans e) (by decide) rfl (by decide) (ca_ask h4 hi ok vc vm K)
    · exact gw_tin (c0 := 34) (tgt := 1300) dL_law_33 (hw.trans e) (by decide) rfl (by decide) (ca_drift h4 hi ok vc vm K)
    · exact gw_tin (c0 := 35) (tgt := 1343) dL_law_33 (hw.trans e) (by decide) rfl (by decide) (ca_keep h4 hi ok vc vm K)
    · exact gw_tin (c0 := 36) (tgt := 1366) dL_law_33 (hw.trans e) (by decide) rfl (by decide) (ca_back h4 hi ok vc vm K)
    · exact gw_tin (c0 := 37) (tgt := 1389) dL_law_33 (hw.trans e) (by decide) rfl (by decide) (ca_sheet h4 hi ok vc vm K)
    · exact gw_tin (c0 := 38) (tgt := 1432) dL_law_33 (hw.trans e) (by decide) rfl (by decide) (ca_lay h4 hi ok vc vm K)
    · exact gw_tin (c0 := 39) (tgt := 1475) dL_law_33 (hw.trans e) (by decide) rfl (by decide) (ca_read h4 hi ok vc vm K)
    · exact gw_tin (c0 := 40) (tgt := 1528) dL_law_33 (hw.trans e) (by decide) rfl (by decide) (ca_torn h4 hi ok vc vm K)
    · exact gw_tin (c0 := 41) (tgt := 1541) dL_law_33 (hw.trans e) (by decide) rfl (by decide) (ca_count h4 hi ok vc vm K)
theorem la_loop {G : Gh} {l : Launch} {b L : Nat} {xs : Nat → Int32} (h4 : L ≤ 384) : ∀ (n i : Nat) (σ : St) (A : Ab), L ≤ i + n → i ≤ L + 6 → OKA A → Vc σ A → Vm σ A → LG G l b L xs 18 [some (.ref b), some (.ref (ad G 0)), some (.ref (ad G 51)), some (vi (i : Int))] [] σ := by
  intro n
  have head : ∀ (i : Nat) (σ : St), i ≤ L + 6 → (i + 6 ≤ L → LG G l b L xs 27 [some (.ref b), some (.ref (ad G 0)), some (.ref (ad G 51)), some (vi (i : Int))] [] σ) → LG G l b L xs 18 [some (.ref b), some (.ref (ad G 0)), some (.ref (ad G 51)), some (vi (i : Int))] [] σ := by
    intro i σ hiL k
    refine gw_iload_n (pc' := 19) dL_law_18 rfl rfl ?_
    refine gw_aload_n (pc' := 20) dL_law_19 rfl rfl ?_
    refine gw_slen (pc' := 21) dL_law_20 rfl ?_
    refine gw_bipush (pc' := 23) dL_law_21 rfl rfl ?_
    refine gw_isub (pc' := 24) dL_law_23 rfl ?_
    refine gw_gt (tgt := 1570) (pc' := 27) dL_law_24 (by decide) rfl (fun h => ?_) (fun h => ?_)
    · refine gw_iconst (pc' := 1571) dL_law_1570 rfl ?_
      exact gw_ret dL_law_1571
    · rw [wr_of (by omega) (by omega), wr_of (by omega) (by omega)] at h
      exact k (by omega)
  induction n with
  | zero =>
    intro i σ A h1 h2 ok vc vm
    exact head i σ h2 (fun h => absurd h (by omega))
  | succ n ih =>
    intro i σ A h1 h2 ok vc vm
    exact head i σ h2 (fun h => la_step h4 h ok vc vm (fun τ B x y z => ih (i + 6) τ B (by omega) (by omega) x y z))
