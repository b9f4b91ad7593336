set_option maxRecDepth 20000 in
theorem ca_runs {G : Gh} {l : Launch} {b L i : Nat} {xs : Nat → Int32} {σ : St} {A : Ab} (h4 : L ≤ 384) (hi : i + 6 ≤ L) (ok : OKA A) (vc : Vc σ A) (vm : Vm σ A) (K : ∀ τ B, OKA B → Vc τ B → Vm τ B → LG G l b L xs 18 [some (.ref b), some (.ref (ad G 0)), some (.ref (ad G 51)), some (vi ((i + 6 : Nat) : Int))] [] τ) : LG G l b L xs 641 [some (.ref b), some (.ref (ad G 0)), some (.ref (ad G 51)), some (vi (i : Int))] [] σ := by
  obtain ⟨σ1, σ2, a1, a2, a3, a4, a5⟩ := Op.go (q_runs (sc_ir xs (i + 1)) (sc_ir xs (i + 2))).op ok vc vm
  have M1 := m_X4_runs (G := G) (l := l) (sc xs (i + 1)) (sc xs (i + 2)) σ
  have M2 := m_X5_runs (G := G) (l := l) (sc xs (i + 1)) (sc xs (i + 2)) σ1
  rw [a1] at M1
  rw [a2] at M2
  refine gw_aload_n (pc' := 642) dL_law_641 rfl rfl ?_
  refine gw_aload_n (pc' := 643) dL_law_642 rfl rfl ?_
  refine gw_iload_n (pc' := 644) dL_law_643 rfl rfl ?_
  refine gw_iconst (pc' := 645) dL_law_644 rfl ?_
  refine gw_iadd (pc' := 646) dL_law_645 rfl ?_
  refine gw_sld (j := i + 1) (pc' := 647) (by omega) (by omega) h4 dL_law_646 rfl ?_
  refine gw_aload_n (pc' := 648) dL_law_647 rfl rfl ?_
  refine gw_iload_n (pc' := 649) dL_law_648 rfl rfl ?_
  refine gw_iconst (pc' := 650) dL_law_649 rfl ?_
  refine gw_iadd (pc' := 651) dL_law_650 rfl ?_
  refine gw_sld (j := i + 2) (pc' := 652) (by omega) (by omega) h4 dL_law_651 rfl ?_
  refine gw_call (pc' := 655) (As := [vi (sc xs (i + 1)), vi (sc xs (i + 2))]) (rest := []) dL_law_652 cv_L_78 tbk_0 M1 rfl rfl rfl rfl rfl ?_
  refine gw_aload_n (pc' := 656) dL_law_655 rfl rfl ?_
  refine gw_aload_n (pc' := 657) dL_law_656 rfl rfl ?_
  refine gw_iload_n (pc' := 658) dL_law_657 rfl rfl ?_
  refine gw_iconst (pc' := 659) dL_law_658 rfl ?_
  refine gw_iadd (pc' := 660) dL_law_659 rfl ?_
  refine gw_sld (j := i + 1) (pc' := 661) (by omega) (by omega) h4 dL_law_660 rfl ?_
  refine gw_aload_n (pc' := 662) dL_law_661 rfl rfl ?_
  refine gw_iload_n (pc' := 663) dL_law_662 rfl rfl ?_
  refine gw_iconst (pc' := 664) dL_law_663 rfl ?_
  refine gw_iadd (pc' := 665) dL_law_664 rfl ?_
  refine gw_sld (j := i + 2) (pc' := 666) (by omega) (by omega) h4 dL_law_665 rfl ?_
  refine gw_call (pc' := 669) (As := [vi (sc xs (i + 1)), vi (sc xs (i + 2))]) (rest := [vi _]) dL_law_666 cv_L_81 tbk_51 M2 rfl rfl rfl rfl rfl ?_
  refine gw_eq (tgt := 1564) dL_law_669 (by decide) ?_
  exact la_next (K σ2 _ a3 a4 a5)
set_option maxRecDepth 20000 in
theorem ca_ahead {G : Gh} {l : Launch} {b L i : Nat} {xs : Nat → Int32} {σ : St} {A : Ab} (h4 : L ≤ 384) (hi : i + 6 ≤ L) (ok : OKA A) (vc : Vc σ A) (vm : Vm σ A) (K : ∀ τ B, OKA B → Vc τ B → Vm τ B → LG G l b L xs 18 [some (.ref b), some (.ref (ad G 0)), some (.ref (ad G 51)), some (vi ((i + 6 : Nat) : Int))] [] τ) : LG G l b L xs 674 [some (.ref b), some (.ref (ad G 0)), some (.ref (ad G 51)), some (vi (i : Int))] [] σ := by
  obtain ⟨σ1, σ2, a1, a2, a3, a4, a5⟩ := Op.go (q_ahead (sc_ir xs (i + 1)) (sc_ir xs (i + 2)) (sc_ir xs (i + 3))).op ok vc vm
  have M1 := m_X4_ahead (G := G) (l := l) (sc xs (i + 1)) (sc xs (i + 2)) (sc xs (i + 3)) σ
  have M2 := m_X5_ahead (G := G) (l := l) (sc xs (i + 1)) (sc xs (i + 2)) (sc xs (i + 3)) σ1
  rw [a1] at M1
  rw [a2] at M2
  refine gw_aload_n (pc' := 675) dL_law_674 rfl rfl ?_
  refine gw_aload_n (pc' := 676) dL_law_675 rfl rfl ?_
  refine gw_iload_n (pc' := 677) dL_law_676 rfl rfl ?_
  refine gw_iconst (pc' := 678) dL_law_677 rfl ?_
  refine gw_iadd (pc' := 679) dL_law_678 rfl ?_
  refine gw_sld (j := i + 1) (pc' := 680) (by omega) (by omega) h4 dL_law_679 rfl ?_
  refine gw_aload_n (pc' := 681) dL_law_680 rfl rfl ?_
  refine gw_iload_n (pc' := 682) dL_law_681 rfl rfl ?_
  refine gw_iconst (pc' := 683) dL_law_682 rfl ?_
  refine gw_iadd (pc' := 684) dL_law_683 rfl ?_
  refine gw_sld (j := i + 2) (pc' := 685) (by omega) (by omega) h4 dL_law_684 rfl ?_
  refine gw_aload_n (pc' := 686) dL_law_685 rfl rfl ?_
  refine gw_iload_n (pc' := 687) dL_law_686 rfl rfl ?_
  refine gw_iconst (pc' := 688) dL_law_687 rfl ?_
  refine gw_iadd (pc' := 689) dL_law_688 rfl ?_
  refine gw_sld (j := i + 3) (pc' := 690) (by omega) (by omega) h4 dL_law_689 rfl ?_
  refine gw_call (pc' := 693) (As := [vi (sc xs (i + 1)), vi (sc xs (i + 2)), vi (sc xs (i + 3))]) (rest := []) dL_law_690 cv_L_82 tbk_0 M1 rfl rfl rfl rfl rfl ?_
  refine gw_aload_n (pc' := 694) dL_law_693 rfl rfl ?_
  refine gw_aload_n (pc' := 695) dL_law_694 rfl rfl ?_
  refine gw_iload_n (pc' := 696) dL_law_695 rfl rfl ?_
  refine gw_iconst (pc' := 697) dL_law_696 rfl ?_
  refine gw_iadd (pc' := 698) dL_law_697 rfl ?_
  refine gw_sld (j := i + 1) (pc' := 699) (by omega) (by omega) h4 dL_law_698 rfl ?_
  refine gw_aload_n (pc' := 700) dL_law_699 rfl rfl ?_
  refine gw_iload_n (pc' := 701) dL_law_700 rfl rfl ?_
  refine gw_iconst (pc' := 702) dL_law_701 rfl ?_
  refine gw_iadd (pc' := 703) dL_law_702 rfl ?_
  refine gw_sld (j := i + 2) (pc' := 704) (by omega) (by omega) h4 dL_law_703 rfl ?_
  refine gw_aload_n (pc' := 705) dL_law_704 rfl rfl ?_
  refine gw_iload_n (pc' := 706) dL_law_705 rfl rfl ?_
  refine gw_iconst (pc' := 707) dL_law_706 rfl ?_
  refine gw_iadd (pc' := 708) dL_law_707 rfl ?_
  refine gw_sld (j := i + 3) (pc' := 709) (by omega) (by omega) h4 dL_law_708 rfl ?_
  refine gw_call (pc' := 712) (As := [vi (sc xs (i + 1)), vi (sc xs (i + 2)), vi (sc xs (i + 3))]) (rest := [vi _]) dL_law_709 cv_L_85 tbk_51 M2 rfl rfl rfl rfl rfl ?_
  refine gw_eq (tgt := 1564) dL_law_712 (by decide) ?_
  exact la_next (K σ2 _ a3 a4 a5)
set_option maxRecDepth 20000 in
theorem ca_believed {G : Gh} {l : Launch} {b L i : Nat} {xs : Nat → Int32} {σ : St} {A : Ab} (h4 : L ≤ 384) (hi : i + 6 ≤ L) (ok : OKA A) (vc : Vc σ A) (vm : Vm σ A) (K : ∀ τ B, OKA B → Vc τ B → Vm τ B → LG G l b L xs 18 [some (.ref b), some (.ref (ad G 0)), some (.ref (ad G 51)), some (vi ((i + 6 : Nat) : Int))] [] τ) : LG G l b L xs 717 [some (.ref b), some (.ref (ad G 0)), some (.ref (ad G 51)), some (vi (i : Int))] [] σ := by
  obtain ⟨σ1, σ2, a1, a2, a3, a4, a5⟩ := Op.go (q_believed (sc_ir xs (i + 1)) (sc_ir xs (i + 2))).op ok vc vm
  have M1 := m_X4_believed (G := G) (l := l) (sc xs (i + 1)) (sc xs (i + 2)) σ
  have M2 := m_X5_believed (G := G) (l := l) (sc xs (i + 1)) (sc xs (i + 2)) σ1
  rw [a1] at M1
  rw [a2] at M2
  refine gw_aload_n (pc' := 718) dL_law_717 rfl rfl ?_
  refine gw_aload_n (pc' := 719) dL_law_718 rfl rfl ?_
  refine gw_iload_n (pc' := 720) dL_law_719 rfl rfl ?_
  refine gw_iconst (pc' := 721) dL_law_720 rfl ?_
  refine gw_iadd (pc' := 722) dL_law_721 rfl ?_
  refine gw_sld (j := i + 1) (pc' := 723) (by omega) (by omega) h4 dL_law_722 rfl ?_
  refine gw_aload_n (pc' := 724) dL_law_723 rfl rfl ?_
  refine gw_iload_n (pc' := 725) dL_law_724 rfl rfl ?_
  refine gw_iconst (pc' := 726) dL_law_725 rfl ?_
  refine gw_iadd (pc' := 727) dL_law_726 rfl ?_
  refine gw_sld (j := i + 2) (pc' := 728) (by omega) (by omega) h4 dL_law_727 rfl ?_
  refine gw_call (pc' := 731) (As := [vi (sc xs (i + 1)), vi (sc xs (i + 2))]) (rest := []) dL_law_728 cv_L_86 tbk_0 M1 rfl rfl rfl rfl rfl ?_
  refine gw_aload_n (pc' := 732) dL_law_731 rfl rfl ?_
  refine gw_aload_n (pc' := 733) dL_law_732 rfl rfl ?_
  refine gw_iload_n (pc' := 734) dL_law_733 rfl rfl ?_
  refine gw_iconst (pc' := 735) dL_law_734 rfl ?_
  refine gw_iadd (pc' := 736) dL_law_735 rfl ?_
  refine gw_sld (j := i + 1) (pc' := 737) (by omega) (by omega) h4 dL_law_736 rfl ?_
  refine gw_aload_n (pc' := 738) dL_law_737 rfl rfl ?_
  refine gw_iload_n (pc' := 739) dL_law_738 rfl rfl ?_
  refine gw_iconst (pc' := 740) dL_law_739 rfl ?_
  refine gw_iadd (pc' := 741) dL_law_740 rfl ?_
  refine gw_sld (j := i + 2) (pc' := 742) (by omega) (by omega) h4 dL_law_741 rfl ?_
  refine gw_call (pc' := 745) (As := [vi (sc xs (i + 1)), vi (sc xs (i + 2))]) (rest := [vi _]) dL_law_742 cv_L_89 tbk_51 M2 rfl rfl rfl rfl rfl ?_
  refine gw_eq (tgt := 1564) dL_law_745 (by decide) ?_
  exact la_next (K σ2 _ a3 a4 a5)
set_option maxRecDepth 20000 in
theorem ca_agrees {G : Gh} {l : Launch} {b L i : Nat} {xs : Nat → Int32} {σ : St} {A : Ab} (h4 : L ≤ 384) (hi : i + 6 ≤ L) (ok : OKA A) (vc : Vc σ A) (vm : Vm σ A) (K : ∀ τ B, OKA B → Vc τ B → Vm τ B → LG G l b L xs 18 [some (.ref b), some (.ref (ad G 0)), some (.ref (ad G 51)), some (vi ((i + 6 : Nat) : Int))] [] τ) : LG G l b L xs 750 [some (.ref b), some (.ref (ad G 0)), some (.ref (ad G 51)), some (vi (i : Int))] [] σ := by
  obtain ⟨σ1, σ2, a1, a2, a3, a4, a5⟩ := Op.go (q_agrees (sc_ir xs (i + 1))).op ok vc vm
  have M1 := m_X4_agrees (G := G) (l := l) (sc xs (i + 1)) σ
  have M2 := m_X5_agrees (G := G) (l := l) (sc xs (i + 1)) σ1
  rw [a1] at M1
  rw [a2] at M2
  refine gw_aload_n (pc' := 751) dL_law_750 rfl rfl ?_
  refine gw_aload_n (pc' := 752) dL_law_751 rfl rfl ?_
  refine gw_iload_n (pc' := 753) dL_law_752 rfl rfl ?_
  refine gw_iconst (pc' := 754) dL_law_753 rfl ?_
  refine gw_iadd (pc' := 755) dL_law_754 rfl ?_
  refine gw_sld (j := i + 1) (pc' := 756) (by omega) (by omega) h4 dL_law_755 rfl ?_
  refine gw_call (pc' := 759) (As := [vi (sc xs (i + 1))]) (rest := []) dL_law_756 cv_L_90 tbk_0 M1 rfl rfl rfl rfl rfl ?_
  refine gw_aload_n (pc' := 760) dL_law_759 rfl rfl ?_
  refine gw_aload_n (pc' := 761) dL_law_760 rfl rfl ?_
  refine gw_iload_n (pc' := 762) dL_law_761 rfl rfl ?_
  refine gw_iconst (pc' := 763) dL_law_762 rfl ?_
  refine gw_iadd (pc' := 764) dL_law_763 rfl ?_
  refine gw_sld (j := i + 1) (pc' := 765) (by omega) (by omega) h4 dL_law_764 rfl ?_
  refine gw_call (pc' := 768) (As := [vi (sc xs (i + 1))]) (rest := [vi _]) dL_law_765 cv_L_93 tbk_51 M2 rfl rfl rfl rfl rfl ?_
  refine gw_eq (tgt := 1564) dL_law_768 (by decide) ?_
  exact la_next (K σ2 _ a3 a4 a5)
set_option maxRecDepth 20000 in
theorem ca_pose {G : Gh} {l : Launch} {b L i : Nat} {xs : Nat → Int32} {σ : St} {A : Ab} (h4 : L ≤ 384) (hi : i + 6 ≤ L) (ok : OKA A) (vc : Vc σ A) (vm : Vm σ A) (K : ∀ τ B, OKA B → Vc τ B → Vm τ B → LG G l b L xs 18 [some (.ref b), some (.ref (ad G 0)), some (.ref (ad G 51)), some (vi ((i + 6 : Nat) : Int))] [] τ) : LG G l b L xs 773 [some (.ref b), some (.ref (ad G 0)), some (.ref (ad G 51)), some (vi (i : Int))] [] σ := by
  obtain ⟨σ1, σ2, a1, a2, a3, a4, a5⟩ := Op.go (q_pose (sc_ir xs (i + 1)) (sc_ir xs (i + 2))).op ok vc vm
  have M1 := m_X4_pose (G := G) (l := l) (sc xs (i + 1)) (sc xs (i + 2)) σ
  have M2 := m_X5_pose (G := G) (l := l) (sc xs (i + 1)) (sc xs (i + 2)) σ1
  rw [a1] at M1
  rw [a2] at M2
  refine gw_aload_n (pc' := 774) dL_law_773 rfl rfl ?_
  refine gw_aload_n (pc' := 775) dL_law_774 rfl rfl ?_
  refine gw_iload_n (pc' := 776) dL_law_775 rfl rfl ?_
  refine gw_iconst (pc' := 777) dL_law_776 rfl ?_
  refine gw_iadd (pc' := 778) dL_law_777 rfl ?_
  refine gw_sld (j := i + 1) (pc' := 779) (by omega) (by omega) h4 dL_law_778 rfl ?_
  refine gw_aload_n (pc' := 780) dL_law_779 rfl rfl ?_
  refine gw_iload_n (pc' := 781) dL_law_780 rfl rfl ?_
  refine gw_iconst (pc' := 782) dL_law_781 rfl ?_
  refine gw_iadd (pc' := 783) dL_law_782 rfl ?_
  refine gw_sld (j := i + 2) (pc' := 784) (by omega) (by omega) h4 dL_law_783 rfl ?_
  refine gw_call (pc' := 787) (As := [vi (sc xs (i + 1)), vi (sc xs (i + 2))]) (rest := []) dL_law_784 cv_L_94 tbk_0 M1 rfl rfl rfl rfl rfl ?_
  refine gw_aload_n (pc' := 788) dL_law_787 rfl rfl ?_
  refine gw_aload_n (pc' := 789) dL_law_788 rfl rfl ?_
  refine gw_iload_n (pc' := 790) dL_law_789 rfl rfl ?_
  refine gw_iconst (pc' := 791) dL_law_790 rfl ?_
  refine gw_iadd (pc' := 792) dL_law_791 rfl ?_
  refine gw_sld (j := i + 1) (pc' := 793) (by omega) (by omega) h4 dL_law_792 rfl ?_
  refine gw_aload_n (pc' := 794) dL_law_793 rfl rfl ?_
  refine gw_iload_n (pc' := 795) dL_law_794 rfl rfl ?_
  refine gw_iconst (pc' := 796) dL_law_795 rfl ?_
  refine gw_iadd (pc' := 797) dL_law_796 rfl ?_
  refine gw_sld (j := i + 2) (pc' := 798) (by omega) (by omega) h4 dL_law_797 rfl ?_
  refine gw_call (pc' := 801) (As := [vi (sc xs (i + 1)), vi (sc xs (i + 2))]) (rest := [vi _]) dL_law_798 cv_L_97 tbk_51 M2 rfl rfl rfl rfl rfl ?_
  refine gw_eq (tgt := 1564) dL_law_801 (by decide) ?_
  exact la_next (K σ2 _ a3 a4 a5)
set_option maxRecDepth 20000 in
theorem ca_heavy {G : Gh} {l : Launch} {b L i : Nat} {xs : Nat → Int32} {σ : St} {A : Ab} (h4 : L ≤ 384) (hi : i + 6 ≤ L) (ok : OKA A) (vc : Vc σ A) (vm : Vm σ A) (K : ∀ τ B, OKA B → Vc τ B → Vm τ B → LG G l b L xs 18 [some (.ref b), some (.ref (ad G 0)), some (.ref (ad G 51)), some (vi ((i + 6 : Nat) : Int))] [] τ) : LG G l b L xs 806 [some (.ref b), some (.ref (ad G 0)), some (.ref (ad G 51)), some (vi (i : Int))] [] σ := by
  obtain ⟨σ1, σ2, a1, a2, a3, a4, a5⟩ := Op.go (q_heavy (sc_ir xs (i + 1)) (sc_ir xs (i + 2))).op ok vc vm
  have M1 := m_X4_heavy (G := G) (l := l) (sc xs (i + 1)) (sc xs (i + 2)) σ
  have M2 := m_X5_heavy (G := G) (l := l) (sc xs (i + 1)) (sc xs (i + 2)) σ1
  rw [a1] at M1
  rw [a2] at M2
  refine gw_aload_n (pc' := 807) dL_law_806 rfl rfl ?_
  refine gw_aload_n (pc' := 808) dL_law_807 rfl rfl ?_
  refine gw_iload_n (pc' := 809) dL_law_808 rfl rfl ?_
  refine gw_iconst (pc' := 810) dL_law_809 rfl ?_
  refine gw_iadd (pc' := 811) dL_law_810 rfl ?_
  refine gw_sld (j := i + 1) (pc' := 812) (by omega) (by omega) h4 dL_law_811 rfl ?_
  refine gw_aload_n (pc' := 813) dL_law_812 rfl rfl ?_
  refine gw_iload_n (pc' := 814) dL_law_813 rfl rfl ?_
  refine gw_iconst (pc' := 815) dL_law_814 rfl ?_
  refine gw_iadd (pc' := 816) dL_law_815 rfl ?_
  refine gw_sld (j := i + 2) (pc' := 817) (by omega) (by omega) h4 dL_law_816 rfl ?_
  refine gw_call (pc' := 820) (As := [vi (sc xs (i + 1)), vi (sc xs (i + 2))]) (rest := []) dL_law_817 cv_L_98 tbk_0 M1 rfl rfl rfl rfl rfl ?_
  refine gw_aload_n (pc' := 821) dL_law_820 rfl rfl ?_
  refine gw_aload_n (pc' := 822) dL_law_821 rfl rfl ?_
  refine gw_iload_n (pc' := 823) dL_law_822 rfl rfl ?_
  refine gw_iconst (pc' := 824) dL_law_823 rfl ?_
  refine gw_iadd (pc' := 825) dL_law_824 rfl ?_
  refine gw_sld (j := i + 1) (pc' := 826) (by omega) (by omega) h4 dL_law_825 rfl ?_
  refine gw_aload_n (pc' := 827) dL_law_826 rfl rfl ?_
  refine gw_iload_n (pc' := 828) dL_law_827 rfl rfl ?_
  refine gw_iconst (pc' := 829) dL_law_828 rfl ?_
  refine gw_iadd (pc' := 830) dL_law_829 rfl ?_
  refine gw_sld (j := i + 2) (pc' := 831) (by omega) (by omega) h4 dL_law_830 rfl ?_
  refine gw_call (pc' := 834) (As := [vi (sc xs (i + 1)), vi (sc xs (i + 2))]) (rest := [vi _]) dL_law_831 cv_L_101 tbk_51 M2 rfl rfl rfl rfl rfl ?_
  refine gw_eq (tgt := 1564) dL_law_834 (by decide) ?_
  exact la_next (K σ2 _ a3 a4 a5)
set_option maxRecDepth 20000 in
theorem ca_need {G : Gh} {l : Launch} {b L i : Nat} {xs : Nat → Int32} {σ : St} {A : Ab} (h4 : L ≤ 384) (hi : i + 6 ≤ L) (ok : OKA A) (vc : Vc σ A) (vm : Vm σ A) (K : ∀ τ B, OKA B → Vc τ B → Vm τ B → LG G l b L xs 18 [some (.ref b), some (.ref (ad G 0)), some (.ref (ad G 51)), some (vi ((i + 6 : Nat) : Int))] [] τ) : LG G l b L xs 839 [some (.ref b), some (.ref (ad G 0)), some (.ref (ad G 51)), some (vi (i : Int))] [] σ := by
  obtain ⟨σ1, σ2, a1, a2, a3, a4, a5⟩ := Op.go q_need.op ok vc vm
  have M1 := m_X4_need (G := G) (l := l)  σ
  have M2 := m_X5_need (G := G) (l := l)  σ1
  rw [a1] at M1
  rw [a2] at M2
  refine gw_aload_n (pc' := 840) dL_law_839 rfl rfl ?_
  refine gw_call (pc' := 843) (As := []) (rest := []) dL_law_840 cv_L_102 tbk_0 M1 rfl rfl rfl rfl rfl ?_
  refine gw_aload_n (pc' := 844) dL_law_843 rfl rfl ?_
  refine gw_call (pc' := 847) (As := []) (rest := [vi _]) dL_law_844 cv_L_105 tbk_51 M2 rfl rfl rfl rfl rfl ?_
  refine gw_eq (tgt := 1564) dL_law_847 (by decide) ?_
  exact la_next (K σ2 _ a3 a4 a5)
set_option maxRecDepth 20000 in
theorem ca_liar {G : Gh} {l : Launch} {b L i : Nat} {xs : Nat → Int32} {σ : St} {A : Ab} (h4 : L ≤ 384) (hi : i + 6 ≤ L) (ok : OKA A) (vc : Vc σ A) (vm : Vm σ A) (K : ∀ τ B, OKA B → Vc τ B → Vm τ B → LG G l b L xs 18 [some (.ref b), some (.ref (ad G 0)), some (.ref (ad G 51)), some (vi ((i + 6 : Nat) : Int))] [] τ) : LG G l b L xs 852 [some (.ref b), some (.ref (ad G 0)), some (.ref (ad G 51)), some (vi (i : Int))] [] σ := by
  obtain ⟨σ1, σ2, a1, a2, a3, a4, a5⟩ := Op.go (q_liar (sc_ir xs (i + 1)) (sc_ir xs (i + 2))).op ok vc vm
  have M1 := m_X4_liar (G := G) (l := l) (sc xs (i + 1)) (sc xs (i + 2)) σ
  have M2 := m_X5_liar (G := G) (l := l) (sc xs (i + 1)) (sc xs (i + 2)) σ1
  rw [a1] at M1
  rw [a2] at M2
  refine gw_aload_n (pc' := 853) dL_law_852 rfl rfl ?_
  refine gw_aload_n (pc' := 854) dL_law_853 rfl rfl ?_
  refine gw_iload_n (pc' := 855) dL_law_854 rfl rfl ?_
  refine gw_iconst (pc' := 856) dL_law_855 rfl ?_
  refine gw_iadd (pc' := 857) dL_law_856 rfl ?_
  refine gw_sld (j := i + 1) (pc' := 858) (by omega) (by omega) h4 dL_law_857 rfl ?_
  refine gw_aload_n (pc' := 859) dL_law_858 rfl rfl ?_
  refine gw_iload_n (pc' := 860) dL_law_859 rfl rfl ?_
  refine gw_iconst (pc' := 861) dL_law_860 rfl ?_
  refine gw_iadd (pc' := 862) dL_law_861 rfl ?_
  refine gw_sld (j := i + 2) (pc' := 863) (by omega) (by omega) h4 dL_law_862 rfl ?_
  refine gw_call (pc' := 866) (As := [vi (sc xs (i + 1)), vi (sc xs (i + 2))]) (rest := []) dL_law_863 cv_L_106 tbk_0 M1 rfl rfl rfl rfl rfl ?_
  refine gw_aload_n (pc' := 867) dL_law_866 rfl rfl ?_
  refine gw_aload_n (pc' := 868) dL_law_867 rfl rfl ?_
  refine gw_iload_n (pc' := 869) dL_law_868 rfl rfl ?_
  refine gw_iconst (pc' := 870) dL_law_869 rfl ?_
  refine gw_iadd (pc' := 871) dL_law_870 rfl ?_
  refine gw_sld (j := i + 1) (pc' := 872) (by omega) (by omega) h4 dL_law_871 rfl ?_
  refine gw_aload_n (pc' := 873) dL_law_872 rfl rfl ?_
  refine gw_iload_n (pc' := 874) dL_law_873 rfl rfl ?_
  refine gw_iconst (pc' := 875) dL_law_874 rfl ?_
  refine gw_iadd (pc' := 876) dL_law_875 rfl ?_
  refine gw_sld (j := i + 2) (pc' := 877) (by omega) (by omega) h4 dL_law_876 rfl ?_
  refine gw_call (pc' := 880) (As := [vi (sc xs (i + 1)), vi (sc xs (i + 2))]) (rest := [vi _]) dL_law_877 cv_L_109 tbk_51 M2 rfl rfl rfl rfl rfl ?_
  refine gw_eq (tgt := 1564) dL_law_880 (by decide) ?_
  exact la_next (K σ2 _ a3 a4 a5)
set_option maxRecDepth 20000 in
theorem ca_lose {G : Gh} {l : Launch} {b L i : Nat} {xs : Nat → Int32} {σ : St} {A : Ab} (h4 : L ≤ 384) (hi : i + 6 ≤ L) (ok : OKA A) (vc : Vc σ A) (vm : Vm σ A) (K : ∀ τ B, OKA B → Vc τ B → Vm τ B → LG G l b L xs 18 [some (.ref b), some (.ref (ad G 0)), some (.ref (ad G 51)), some (vi ((i + 6 : Nat) : Int))] [] τ) : LG G l b L xs 885 [some (.ref b), some (.ref (ad G 0)), some (.ref (ad G 51)), some (vi (i : Int))] [] σ := by
  obtain ⟨σ1, σ2, a1, a2, a3, a4, a5⟩ := Op.go (q_lose (sc_ir xs (i + 1)) (sc_ir xs (i + 2))).op ok vc vm
  have M1 := m_X4_lose (G := G) (l := l) (sc xs (i + 1)) (sc xs (i + 2)) σ
  have M2 := m_X5_lose (G := G) (l := l) (sc xs (i + 1)) (sc xs (i + 2)) σ1
  rw [a1] at M1
  rw [a2] at M2
  refine gw_aload_n (pc' := 886) dL_law_885 rfl rfl ?_
  refine gw_aload_n (pc' := 887) dL_law_886 rfl rfl ?_
  refine gw_iload_n (pc' := 888) dL_law_887 rfl rfl ?_
  refine gw_iconst (pc' := 889) dL_law_888 rfl ?_
  refine gw_iadd (pc' := 890) dL_law_889 rfl ?_
  refine gw_sld (j := i + 1) (pc' := 891) (by omega) (by omega) h4 dL_law_890 rfl ?_
  refine gw_aload_n (pc' := 892) dL_law_891 rfl rfl ?_
  refine gw_iload_n (pc' := 893) dL_law_892 rfl rfl ?_
  refine gw_iconst (pc' := 894) dL_law_893 rfl ?_
  refine gw_iadd (pc' := 895) dL_law_894 rfl ?_
  refine gw_sld (j := i + 2) (pc' := 896) (by omega) (by omega) h4 dL_law_895 rfl ?_
  refine gw_call (pc' := 899) (As := [vi (sc xs (i + 1)), vi (sc xs (i + 2))]) (rest := []) dL_law_896 cv_L_110 tbk_0 M1 rfl rfl rfl rfl rfl ?_
  refine gw_aload_n (pc' := 900) dL_law_899 rfl rfl ?_
  refine gw_aload_n (pc' := 901) dL_law_900 rfl rfl ?_
  refine gw_iload_n (pc' := 902) dL_law_901 rfl rfl ?_
  refine gw_iconst (pc' := 903) dL_law_902 rfl ?_
  refine gw_iadd (pc' := 904) dL_law_903 rfl ?_
  refine gw_sld (j := i + 1) (pc' := 905) (by omega) (by omega) h4 dL_law_904 rfl ?_
  refine gw_aload_n (pc' := 906) dL_law_905 rfl rfl ?_
  refine gw_iload_n (pc' := 907) dL_law_906 rfl rfl ?_
  refine gw_iconst (pc' := 908) dL_law_907 rfl ?_
  refine gw_iadd (pc' := 909) dL_law_908 rfl ?_
  refine gw_sld (j := i + 2) (pc' := 910) (by omega) (by omega) h4 dL_law_909 rfl ?_
  refine gw_call (pc' := 913) (As := [vi (sc xs (i + 1)), vi (sc xs (i + 2))]) (rest := [vi _]) dL_law_910 cv_L_113 tbk_51 M2 rfl rfl rfl rfl rfl ?_
  refine gw_eq (tgt := 1564) dL_law_913 (by decide) ?_
  exact la_next (K σ2 _ a3 a4 a5)
set_option maxRecDepth 20000 in
theorem ca_swap {G : Gh} {l : Launch} {b L i : Nat} {xs : Nat → Int32} {σ : St} {A : Ab} (h4 : L ≤ 384) (hi : i + 6 ≤ L) (ok : OKA A) (vc : Vc σ A) (vm : Vm σ A) (K : ∀ τ B, OKA B → Vc τ B → Vm τ B → LG G l b L xs 18 [some (.ref b), some (.ref (ad G 0)), some (.ref (ad G 51)), some (vi ((i + 6 : Nat) : Int))] [] τ) : LG G l b L xs 918 [some (.ref b), some (.ref (ad G 0)), some (.ref (ad G 51)), some (vi (i : Int))] [] σ := by
  obtain ⟨σ1, σ2, a1, a2, a3, a4, a5⟩ := Op.go (q_swap (sc_ir xs (i + 1)) (sc_ir xs (i + 2))).op ok vc vm
  have M1 := m_X4_swap (G := G) (l := l) (sc xs (i + 1)) (sc xs (i + 2)) σ
  have M2 := m_X5_swap (G := G) (l := l) (sc xs (i + 1)) (sc xs (i + 2)) σ1
  rw [a1] at M1
  rw [a2] at M2
  refine gw_aload_n (pc' := 919) dL_law_918 rfl rfl ?_
  refine gw_aload_n (pc' := 920) dL_law_919 rfl rfl ?_
  refine gw_iload_n (pc' := 921) dL_law_920 rfl rfl ?_
  refine gw_iconst (pc' := 922) dL_law_921 rfl ?_
  refine gw_iadd (pc' := 923) dL_law_922 rfl ?_
  refine gw_sld (j := i + 1) (pc' := 924) (by omega) (by omega) h4 dL_law_923 rfl ?_
  refine gw_aload_n (pc' := 925) dL_law_924 rfl rfl ?_
  refine gw_iload_n (pc' := 926) dL_law_925 rfl rfl ?_
  refine gw_iconst (pc' := 927) dL_law_926 rfl ?_
  refine gw_iadd (pc' := 928) dL_law_927 rfl ?_
  refine gw_sld (j := i + 2) (pc' := 929) (by omega) (by omega) h4 dL_law_928 rfl ?_
  refine gw_call (pc' := 932) (As := [vi (sc xs (i + 1)), vi (sc xs (i + 2))]) (rest := []) dL_law_929 cv_L_114 tbk_0 M1 rfl rfl rfl rfl rfl ?_
  refine gw_aload_n (pc' := 933) dL_law_932 rfl rfl ?_
  refine gw_aload_n (pc' := 934) dL_law_933 rfl rfl ?_
  refine gw_iload_n (pc' := 935) dL_law_934 rfl rfl ?_
  refine gw_iconst (pc' := 936) dL_law_935 rfl ?_
  refine gw_iadd (pc' := 937) dL_law_936 rfl ?_
  refine gw_sld (j := i + 1) (pc' := 938) (by omega) (by omega) h4 dL_law_937 rfl ?_
  refine gw_aload_n (pc' := 939) dL_law_938 rfl rfl ?_
  refine gw_iload_n (pc' := 940) dL_law_939 rfl rfl ?_
  refine gw_iconst (pc' := 941) dL_law_940 rfl ?_
  refine gw_iadd (pc' := 942) dL_law_941 rfl ?_
  refine gw_sld (j := i + 2) (pc' := 943) (by omega) (by omega) h4 dL_law_942 rfl ?_
  refine gw_call (pc' := 946) (As := [vi (sc xs (i + 1)), vi (sc xs (i + 2))]) (rest := [vi _]) dL_law_943 cv_L_117 tbk_51 M2 rfl rfl rfl rfl rfl ?_
  refine gw_eq (tgt := 1564) dL_law_946 (by decide) ?_
  exact la_next (K σ2 _ a3 a4 a5)
set_option maxRecDepth 20000 in
theorem ca_gain {G : Gh} {l : Launch} {b L i : Nat} {xs : Nat → Int32} {σ : St} {A : Ab} (h4 : L ≤ 384) (hi : i + 6 ≤ L) (ok : OKA A) (vc : Vc σ A) (vm : Vm σ A) (K : ∀ τ B, OKA B → Vc τ B → Vm τ B → LG G l b L xs 18 [some (.ref b), some (.ref (ad G 0)), some (.ref (ad G 51)), some (vi ((i + 6 : Nat) : Int))] [] τ) : LG G l b L xs 951 [some (.ref b), some (.ref (ad G 0)), some (.ref (ad G 51)), some (vi (i : Int))] [] σ := by
  obtain ⟨σ1, σ2, a1, a2, a3, a4, a5⟩ := Op.go (q_gain (sc_ir xs (i + 1)) (sc_ir xs (i + 2)) (sc_ir xs (i + 3)) (sc_ir xs (i + 4))).op ok vc vm
  have M1 := m_X4_gain (G := G) (l := l) (sc xs (i + 1)) (sc xs (i + 2)) (sc xs (i + 3)) (sc xs (i + 4)) σ
  have M2 := m_X5_gain (G := G) (l := l) (sc xs (i + 1)) (sc xs (i + 2)) (sc xs (i + 3)) (sc xs (i + 4)) σ1
  rw [a1] at M1
  rw [a2] at M2
  refine gw_aload_n (pc' := 952) dL_law_951 rfl rfl ?_
  refine gw_aload_n (pc' := 953) dL_law_952 rfl rfl ?_
  refine gw_iload_n (pc' := 954) dL_law_953 rfl rfl ?_
  refine gw_iconst (pc' := 955) dL_law_954 rfl ?_
  refine gw_iadd (pc' := 956) dL_law_955 rfl ?_
  refine gw_sld (j := i + 1) (pc' := 957) (by omega) (by omega) h4 dL_law_956 rfl ?_
  refine gw_aload_n (pc' := 958) dL_law_957 rfl rfl ?_
  refine gw_iload_n (pc' := 959) dL_law_958 rfl rfl ?_
  refine gw_iconst (pc' := 960) dL_law_959 rfl ?_
  refine gw_iadd (pc' := 961) dL_law_960 rfl ?_
  refine gw_sld (j := i + 2) (pc' := 962) (by omega) (by omega) h4 dL_law_961 rfl ?_
  refine gw_aload_n (pc' := 963) dL_law_962 rfl rfl ?_
  refine gw_iload_n (pc' := 964) dL_law_963 rfl rfl ?_
  refine gw_iconst (pc' := 965) dL_law_964 rfl ?_
  refine gw_iadd (pc' := 966) dL_law_965 rfl ?_
  refine gw_sld (j := i + 3) (pc' := 967) (by omega) (by omega) h4 dL_law_966 rfl ?_
  refine gw_aload_n (pc' := 968) dL_law_967 rfl rfl ?_
  refine gw_iload_n (pc' := 969) dL_law_968 rfl rfl ?_
  refine gw_iconst (pc' := 970) dL_law_969 rfl ?_
  refine gw_iadd (pc' := 971) dL_law_970 rfl ?_
  refine gw_sld (j := i + 4) (pc' := 972) (by omega) (by omega) h4 dL_law_971 rfl ?_
  refine gw_call (pc' := 975) (As := [vi (sc xs (i + 1)), vi (sc xs (i + 2)), vi (sc xs (i + 3)), vi (sc xs (i + 4))]) (rest := []) dL_law_972 cv_L_118 tbk_0 M1 rfl rfl rfl rfl rfl ?_
  refine gw_aload_n (pc' := 976) dL_law_975 rfl rfl ?_
  refine gw_aload_n (pc' := 977) dL_law_976 rfl rfl ?_
  refine gw_iload_n (pc' := 978) dL_law_977 rfl rfl ?_
  refine gw_iconst (pc' := 979) dL_law_978 rfl ?_
  refine gw_iadd (pc' := 980) dL_law_979 rfl ?_
  refine gw_sld (j := i + 1) (pc' := 981) (by omega) (by omega) h4 dL_law_980 rfl ?_
  refine gw_aload_n (pc' := 982) dL_law_981 rfl rfl ?_
  refine gw_iload_n (pc' := 983) dL_law_982 rfl rfl ?_
  refine gw_iconst (pc' := 984) dL_law_983 rfl ?_
  refine gw_iadd (pc' := 985) dL_law_984 rfl ?_
  refine gw_sld (j := i + 2) (pc' := 986) (by omega) (by omega) h4 dL_law_985 rfl ?_
  refine gw_aload_n (pc' := 987) dL_law_986 rfl rfl ?_
  refine gw_iload_n (pc' := 988) dL_law_987 rfl rfl ?_
  refine gw_iconst (pc' := 989) dL_law_988 rfl ?_
  refine gw_iadd (pc' := 990) dL_law_989 rfl ?_
  refine gw_sld (j := i + 3) (pc' := 991) (by omega) (by omega) h4 dL_law_990 rfl ?_
  refine gw_aload_n (pc' := 992) dL_law_991 rfl rfl ?_
  refine gw_iload_n (pc' := 993) dL_law_992 rfl rfl ?_
  refine gw_iconst (pc' := 994) dL_law_993 rfl ?_
  refine gw_iadd (pc' := 995) dL_law_994 rfl ?_
  refine gw_sld (j := i + 4) (pc' := 996) (by omega) (by omega) h4 dL_law_995 rfl ?_
  refine gw_call (pc' := 999) (As := [vi (sc xs (i + 1)), vi (sc xs (i + 2)), vi (sc xs (i + 3)), vi (sc xs (i + 4))]) (rest := [vi _]) dL_law_996 cv_L_121 tbk_51 M2 rfl rfl rfl rfl rfl ?_
  refine gw_eq (tgt := 1564) dL_law_999 (by decide) ?_
  exact la_next (K σ2 _ a3 a4 a5)
set_option maxRecDepth 20000 in
theorem ca_kind {G : Gh} {l : Launch} {b L i : Nat} {xs : Nat → Int32} {σ : St} {A : Ab} (h4 : L ≤ 384) (hi : i + 6 ≤ L) (ok : OKA A) (vc : Vc σ A) (vm : Vm σ A) (K : ∀ τ B, OKA B → Vc τ B → Vm τ B → LG G l b L xs 18 [some (.ref b), some (.ref (ad G 0)), some (.ref (ad G 51)), some (vi ((i + 6 : Nat) : Int))] [] τ) : LG G l b L xs 1004 [some (.ref b), some (.ref (ad G 0)), some (.ref (ad G 51)), some (vi (i : Int))] [] σ := by
  obtain ⟨σ1, σ2, a1, a2, a3, a4, a5⟩ := Op.go (q_kind (sc_ir xs (i + 1)) (sc_ir xs (i + 2)) (sc_ir xs (i + 3))).op ok vc vm
  have M1 := m_X4_kind (G := G) (l := l) (sc xs (i + 1)) (sc xs (i + 2)) (sc xs (i + 3)) σ
  have M2 := m_X5_kind (G := G) (l := l) (sc xs (i + 1)) (sc xs (i + 2)) (sc xs (i + 3)) σ1
  rw [a1] at M1
  rw [a2] at M2
  refine gw_aload_n (pc' := 1005) dL_law_1004 rfl rfl ?_
  refine gw_aload_n (pc' := 1006) dL_law_1005 rfl rfl ?_
  refine gw_iload_n (pc' := 1007) dL_law_1006 rfl rfl ?_
  refine gw_iconst (pc' := 1008) dL_law_1007 rfl ?_
  refine gw_iadd (pc' := 1009) dL_law_1008 rfl ?_
  refine gw_sld (j := i + 1) (pc' := 1010) (by omega) (by omega) h4 dL_law_1009 rfl ?_
  refine gw_aload_n (pc' := 1011) dL_law_1010 rfl rfl ?_
  refine gw_iload_n (pc' := 1012) dL_law_1011 rfl rfl ?_
  refine gw_iconst (pc' := 1013) dL_law_1012 rfl ?_
  refine gw_iadd (pc' := 1014) dL_law_1013 rfl ?_
  refine gw_sld (j := i + 2) (pc' := 1015) (by omega) (by omega) h4 dL_law_1014 rfl ?_
  refine gw_aload_n (pc' := 1016) dL_law_1015 rfl rfl ?_
  refine gw_iload_n (pc' := 1017) dL_law_1016 rfl rfl ?_
  refine gw_iconst (pc' := 1018) dL_law_1017 rfl ?_
  refine gw_iadd (pc' := 1019) dL_law_1018 rfl ?_
  refine gw_sld (j := i + 3) (pc' := 1020) (by omega) (by omega) h4 dL_law_1019 rfl ?_
  refine gw_call (pc' := 1023) (As := [vi (sc xs (i + 1)), vi (sc xs (i + 2)), vi (sc xs (i + 3))]) (rest := []) dL_law_1020 cv_L_122 tbk_0 M1 rfl rfl rfl rfl rfl ?_
  refine gw_aload_n (pc' := 1024) dL_law_1023 rfl rfl ?_
  refine gw_aload_n (pc' := 1025) dL_law_1024 rfl rfl ?_
  refine gw_iload_n (pc' := 1026) dL_law_1025 rfl rfl ?_
  refine gw_iconst (pc' := 1027) dL_law_1026 rfl ?_
  refine gw_iadd (pc' := 1028) dL_law_1027 rfl ?_
  refine gw_sld (j := i + 1) (pc' := 1029) (by omega) (by omega) h4 dL_law_1028 rfl ?_
  refine gw_aload_n (pc' := 1030) dL_law_1029 rfl rfl ?_
  refine gw_iload_n (pc' := 1031) dL_law_1030 rfl rfl ?_
  refine gw_iconst (pc' := 1032) dL_law_1031 rfl ?_
  refine gw_iadd (pc' := 1033) dL_law_1032 rfl ?_
  refine gw_sld (j := i + 2) (pc' := 1034) (by omega) (by omega) h4 dL_law_1033 rfl ?_
  refine gw_aload_n (pc' := 1035) dL_law_1034 rfl rfl ?_
  refine gw_iload_n (pc' := 1036) dL_law_1035 rfl rfl ?_
  refine gw_iconst (pc' := 1037) dL_law_1036 rfl ?_
  refine gw_iadd (pc' := 1038) dL_law_1037 rfl ?_
  refine gw_sld (j := i + 3) (pc' := 1039) (by omega) (by omega) h4 dL_law_1038 rfl ?_
  refine gw_call (pc' := 1042) (As := [vi (sc xs (i + 1)), vi (sc xs (i + 2)), vi (sc xs (i + 3))]) (rest := [vi _]) dL_law_1039 cv_L_125 tbk_51 M2 rfl rfl rfl rfl rfl ?_
  refine gw_eq (tgt := 1564) dL_law_1042 (by decide) ?_
  exact la_next (K σ2 _ a3 a4 a5)
set_option maxRecDepth 20000 in
theorem ca_luck {G : Gh} {l : Launch} {b L i : Nat} {xs : Nat → Int32} {σ : St} {A : Ab} (h4 : L ≤ 384) (hi : i + 6 ≤ L) (ok : OKA A) (vc : Vc σ A) (vm : Vm σ A) (K : ∀ τ B, OKA B → Vc τ B → Vm τ B → LG G l b L xs 18 [some (.ref b), some (.ref (ad G 0)), some (.ref (ad G 51)), some (vi ((i + 6 : Nat) : Int))] [] τ) : LG G l b L xs 1047 [some (.ref b), some (.ref (ad G 0)), some (.ref (ad G 51)), some (vi (i : Int))] [] σ := by
  obtain ⟨σ1, σ2, a1, a2, a3, a4, a5⟩ := Op.go (q_luck (sc_ir xs (i + 1)) (sc_ir xs (i + 2)) (sc_ir xs (i + 3)) (sc_ir xs (i + 4)) (sc_ir xs (i + 5))).op ok vc vm
  have M1 := m_X4_luck (G := G) (l := l) (sc xs (i + 1)) (sc xs (i + 2)) (sc xs (i + 3)) (sc xs (i + 4)) (sc xs (i + 5)) σ
  have M2 := m_X5_luck (G := G) (l := l) (sc xs (i + 1)) (sc xs (i + 2)) (sc xs (i + 3)) (sc xs (i + 4)) (sc xs (i + 5)) σ1
  rw [a1] at M1
  rw [a2] at M2
  refine gw_aload_n (pc' := 1048) dL_law_1047 rfl rfl ?_
  refine gw_aload_n (pc' := 1049) dL_law_1048 rfl rfl ?_
  refine gw_iload_n (pc' := 1050) dL_law_1049 rfl rfl ?_
  refine gw_iconst (pc' := 1051) dL_law_1050 rfl ?_
  refine gw_iadd (pc' := 1052) dL_law_1051 rfl ?_
  refine gw_sld (j := i + 1) (pc' := 1053) (by omega) (by omega) h4 dL_law_1052 rfl ?_
  refine gw_aload_n (pc' := 1054) dL_law_1053 rfl rfl ?_
  refine gw_iload_n (pc' := 1055) dL_law_1054 rfl rfl ?_
  refine gw_iconst (pc' := 1056) dL_law_1055 rfl ?_
  refine gw_iadd (pc' := 1057) dL_law_1056 rfl ?_
  refine gw_sld (j := i + 2) (pc' := 1058) (by omega) (by omega) h4 dL_law_1057 rfl ?_
  refine gw_aload_n (pc' := 1059) dL_law_1058 rfl rfl ?_
  refine gw_iload_n (pc' := 1060) dL_law_1059 rfl rfl ?_
  refine gw_iconst (pc' := 1061) dL_law_1060 rfl ?_
  refine gw_iadd (pc' := 1062) dL_law_1061 rfl ?_
  refine gw_sld (j := i + 3) (pc' := 1063) (by omega) (by omega) h4 dL_law_1062 rfl ?_
  refine gw_aload_n (pc' := 1064) dL_law_1063 rfl rfl ?_
  refine gw_iload_n (pc' := 1065) dL_law_1064 rfl rfl ?_
  refine gw_iconst (pc' := 1066) dL_law_1065 rfl ?_
  refine gw_iadd (pc' := 1067) dL_law_1066 rfl ?_
  refine gw_sld (j := i + 4) (pc' := 1068) (by omega) (by omega) h4 dL_law_1067 rfl ?_
  refine gw_aload_n (pc' := 1069) dL_law_1068 rfl rfl ?_
  refine gw_iload_n (pc' := 1070) dL_law_1069 rfl rfl ?_
  refine gw_iconst (pc' := 1071) dL_law_1070 rfl ?_
  refine gw_iadd (pc' := 1072) dL_law_1071 rfl ?_
  refine gw_sld (j := i + 5) (pc' := 1073) (by omega) (by omega) h4 dL_law_1072 rfl ?_
  refine gw_call (pc' := 1076) (As := [vi (sc xs (i + 1)), vi (sc xs (i + 2)), vi (sc xs (i + 3)), vi (sc xs (i + 4)), vi (sc xs (i + 5))]) (rest := []) dL_law_1073 cv_L_126 tbk_0 M1 rfl rfl rfl rfl rfl ?_
  refine gw_aload_n (pc' := 1077) dL_law_1076 rfl rfl ?_
  refine gw_aload_n (pc' := 1078) dL_law_1077 rfl rfl ?_
  refine gw_iload_n (pc' := 1079) dL_law_1078 rfl rfl ?_
  refine gw_iconst (pc' := 1080) dL_law_1079 rfl ?_
  refine gw_iadd (pc' := 1081) dL_law_1080 rfl ?_
  refine gw_sld (j := i + 1) (pc' := 1082) (by omega) (by omega) h4 dL_law_1081 rfl ?_
  refine gw_aload_n (pc' := 1083) dL_law_1082 rfl rfl ?_
  refine gw_iload_n (pc' := 1084) dL_law_1083 rfl rfl ?_
  refine gw_iconst (pc' := 1085) dL_law_1084 rfl ?_
  refine gw_iadd (pc' := 1086) dL_law_1085 rfl ?_
  refine gw_sld (j := i + 2) (pc' := 1087) (by omega) (by omega) h4 dL_law_1086 rfl ?_
  refine gw_aload_n (pc' := 1088) dL_law_1087 rfl rfl ?_
  refine gw_iload_n (pc' := 1089) dL_law_1088 rfl rfl ?_
  refine gw_iconst (pc' := 1090) dL_law_1089 rfl ?_
  refine gw_iadd (pc' := 1091) dL_law_1090 rfl ?_
  refine gw_sld (j := i + 3) (pc' := 1092) (by omega) (by omega) h4 dL_law_1091 rfl ?_
  refine gw_aload_n (pc' := 1093) dL_law_1092 rfl rfl ?_
  refine gw_iload_n (pc' := 1094) dL_law_1093 rfl rfl ?_
  refine gw_iconst (pc' := 1095) dL_law_1094 rfl ?_
  refine gw_iadd (pc' := 1096) dL_law_1095 rfl ?_
  refine gw_sld (j := i + 4) (pc' := 1097) (by omega) (by omega) h4 dL_law_1096 rfl ?_
  refine gw_aload_n (pc' := 1098) dL_law_1097 rfl rfl ?_
  refine gw_iload_n (pc' := 1099) dL_law_1098 rfl rfl ?_
  refine gw_iconst (pc' := 1100) dL_law_1099 rfl ?_
  refine gw_iadd (pc' := 1101) dL_law_1100 rfl ?_
  refine gw_sld (j := i + 5) (pc' := 1102) (by omega) (by omega) h4 dL_law_1101 rfl ?_
  refine gw_call (pc' := 1105) (As := [vi (sc xs (i + 1)), vi (sc xs (i + 2)), vi (sc xs (i + 3)), vi (sc xs (i + 4)), vi (sc xs (i + 5))]) (rest := [vl _]) dL_law_1102 cv_L_130 tbk_51 M2 rfl rfl rfl rfl rfl ?_
  refine gw_lcmp (pc' := 1106) dL_law_1105 rfl ?_
  refine gw_if0 (tgt := 1564) dL_law_1106 (by decide) ?_
  exact la_next (K σ2 _ a3 a4 a5)
set_option maxRecDepth 20000 in
theorem ca_mean {G : Gh} {l : Launch} {b L i : Nat} {xs : Nat → Int32} {σ : St} {A : Ab} (h4 : L ≤ 384) (hi : i + 6 ≤ L) (ok : OKA A) (vc : Vc σ A) (vm : Vm σ A) (K : ∀ τ B, OKA B → Vc τ B → Vm τ B → LG G l b L xs 18 [some (.ref b), some (.ref (ad G 0)), some (.ref (ad G 51)), some (vi ((i + 6 : Nat) : Int))] [] τ) : LG G l b L xs 1111 [some (.ref b), some (.ref (ad G 0)), some (.ref (ad G 51)), some (vi (i : Int))] [] σ := by
  obtain ⟨σ1, σ2, a1, a2, a3, a4, a5⟩ := Op.go (q_mean (sc_ir xs (i + 1)) (sc_ir xs (i + 2)) (sc_ir xs (i + 3))).op ok vc vm
  have M1 := m_X4_mean (G := G) (l := l) (sc xs (i + 1)) (sc xs (i + 2)) (sc xs (i + 3)) σ
  have M2 := m_X5_mean (G := G) (l := l) (sc xs (i + 1)) (sc xs (i + 2)) (sc xs (i + 3)) σ1
  rw [a1] at M1
  rw [a2] at M2
  refine gw_aload_n (pc' := 1112) dL_law_1111 rfl rfl ?_
  refine gw_aload_n (pc' := 1113) dL_law_1112 rfl rfl ?_
  refine gw_iload_n (pc' := 1114) dL_law_1113 rfl rfl ?_
  refine gw_iconst (pc' := 1115) dL_law_1114 rfl ?_
  refine gw_iadd (pc' := 1116) dL_law_1115 rfl ?_
  refine gw_sld (j := i + 1) (pc' := 1117) (by omega) (by omega) h4 dL_law_1116 rfl ?_
  refine gw_aload_n (pc' := 1118) dL_law_1117 rfl rfl ?_
  refine gw_iload_n (pc' := 1119) dL_law_1118 rfl rfl ?_
  refine gw_iconst (pc' := 1120) dL_law_1119 rfl ?_
  refine gw_iadd (pc' := 1121) dL_law_1120 rfl ?_
  refine gw_sld (j := i + 2) (pc' := 1122) (by omega) (by omega) h4 dL_law_1121 rfl ?_
  refine gw_aload_n (pc' := 1123) dL_law_1122 rfl rfl ?_
  refine gw_iload_n (pc' := 1124) dL_law_1123 rfl rfl ?_
  refine gw_iconst (pc' := 1125) dL_law_1124 rfl ?_
  refine gw_iadd (pc' := 1126) dL_law_1125 rfl ?_
  refine gw_sld (j := i + 3) (pc' := 1127) (by omega) (by omega) h4 dL_law_1126 rfl ?_
  refine gw_call (pc' := 1130) (As := [vi (sc xs (i + 1)), vi (sc xs (i + 2)), vi (sc xs (i + 3))]) (rest := []) dL_law_1127 cv_L_131 tbk_0 M1 rfl rfl rfl rfl rfl ?_
  refine gw_aload_n (pc' := 1131) dL_law_1130 rfl rfl ?_
  refine gw_aload_n (pc' := 1132) dL_law_1131 rfl rfl ?_
  refine gw_iload_n (pc' := 1133) dL_law_1132 rfl rfl ?_
  refine gw_iconst (pc' := 1134) dL_law_1133 rfl ?_
  refine gw_iadd (pc' := 1135) dL_law_1134 rfl ?_
  refine gw_sld (j := i + 1) (pc' := 1136) (by omega) (by omega) h4 dL_law_1135 rfl ?_
  refine gw_aload_n (pc' := 1137) dL_law_1136 rfl rfl ?_
  refine gw_iload_n (pc' := 1138) dL_law_1137 rfl rfl ?_
  refine gw_iconst (pc' := 1139) dL_law_1138 rfl ?_
  refine gw_iadd (pc' := 1140) dL_law_1139 rfl ?_
  refine gw_sld (j := i + 2) (pc' := 1141) (by omega) (by omega) h4 dL_law_1140 rfl ?_
  refine gw_aload_n (pc' := 1142) dL_law_1141 rfl rfl ?_
  refine gw_iload_n (pc' := 1143) dL_law_1142 rfl rfl ?_
  refine gw_iconst (pc' := 1144) dL_law_1143 rfl ?_
  refine gw_iadd (pc' := 1145) dL_law_1144 rfl ?_
  refine gw_sld (j := i + 3) (pc' := 1146) (by omega) (by omega) h4 dL_law_1145 rfl ?_
  refine gw_call (pc' := 1149) (As := [vi (sc xs (i + 1)), vi (sc xs (i + 2)), vi (sc xs (i + 3))]) (rest := [vl _]) dL_law_1146 cv_L_135 tbk_51 M2 rfl rfl rfl rfl rfl ?_
  refine gw_lcmp (pc' := 1150) dL_law_1149 rfl ?_
  refine gw_if0 (tgt := 1564) dL_law_1150 (by decide) ?_
  exact la_next (K σ2 _ a3 a4 a5)
set_option maxRecDepth 20000 in
theorem ca_see {G : Gh} {l : Launch} {b L i : Nat} {xs : Nat → Int32} {σ : St} {A : Ab} (h4 : L ≤ 384) (hi : i + 6 ≤ L) (ok : OKA A) (vc : Vc σ A) (vm : Vm σ A) (K : ∀ τ B, OKA B → Vc τ B → Vm τ B → LG G l b L xs 18 [some (.ref b), some (.ref (ad G 0)), some (.ref (ad G 51)), some (vi ((i + 6 : Nat) : Int))] [] τ) : LG G l b L xs 1155 [some (.ref b), some (.ref (ad G 0)), some (.ref (ad G 51)), some (vi (i : Int))] [] σ := by
  obtain ⟨σ1, σ2, a1, a2, a3, a4, a5⟩ := Op.go (o_see (sc_ir xs (i + 1)) (sc_ir xs (i + 2)) (sc_ir xs (i + 3))) ok vc vm
  have M1 := m_X4_see (G := G) (l := l) (sc xs (i + 1)) (sc xs (i + 2)) (sc xs (i + 3)) σ
  have M2 := m_X5_see (G := G) (l := l) (sc xs (i + 1)) (sc xs (i + 2)) (sc xs (i + 3)) σ1
  rw [a1] at M1
  rw [a2] at M2
  refine gw_aload_n (pc' := 1156) dL_law_1155 rfl rfl ?_
  refine gw_aload_n (pc' := 1157) dL_law_1156 rfl rfl ?_
  refine gw_iload_n (pc' := 1158) dL_law_1157 rfl rfl ?_
  refine gw_iconst (pc' := 1159) dL_law_1158 rfl ?_
  refine gw_iadd (pc' := 1160) dL_law_1159 rfl ?_
  refine gw_sld (j := i + 1) (pc' := 1161) (by omega) (by omega) h4 dL_law_1160 rfl ?_
  refine gw_aload_n (pc' := 1162) dL_law_1161 rfl rfl ?_
  refine gw_iload_n (pc' := 1163) dL_law_1162 rfl rfl ?_
  refine gw_iconst (pc' := 1164) dL_law_1163 rfl ?_
  refine gw_iadd (pc' := 1165) dL_law_1164 rfl ?_
  refine gw_sld (j := i + 2) (pc' := 1166) (by omega) (by omega) h4 dL_law_1165 rfl ?_
  refine gw_aload_n (pc' := 1167) dL_law_1166 rfl rfl ?_
  refine gw_iload_n (pc' := 1168) dL_law_1167 rfl rfl ?_
  refine gw_iconst (pc' := 1169) dL_law_1168 rfl ?_
  refine gw_iadd (pc' := 1170) dL_law_1169 rfl ?_
  refine gw_sld (j := i + 3) (pc' := 1171) (by omega) (by omega) h4 dL_law_1170 rfl ?_
  refine gw_call (pc' := 1174) (As := [vi (sc xs (i + 1)), vi (sc xs (i + 2)), vi (sc xs (i + 3))]) (rest := []) dL_law_1171 cv_L_136 tbk_0 M1 rfl rfl rfl rfl rfl ?_
  refine gw_aload_n (pc' := 1175) dL_law_1174 rfl rfl ?_
  refine gw_aload_n (pc' := 1176) dL_law_1175 rfl rfl ?_
  refine gw_iload_n (pc' := 1177) dL_law_1176 rfl rfl ?_
  refine gw_iconst (pc' := 1178) dL_law_1177 rfl ?_
  refine gw_iadd (pc' := 1179) dL_law_1178 rfl ?_
  refine gw_sld (j := i + 1) (pc' := 1180) (by omega) (by omega) h4 dL_law_1179 rfl ?_
  refine gw_aload_n (pc' := 1181) dL_law_1180 rfl rfl ?_
  refine gw_iload_n (pc' := 1182) dL_law_1181 rfl rfl ?_
  refine gw_iconst (pc' := 1183) dL_law_1182 rfl ?_
  refine gw_iadd (pc' := 1184) dL_law_1183 rfl ?_
  refine gw_sld (j := i + 2) (pc' := 1185) (by omega) (by omega) h4 dL_law_1184 rfl ?_
  refine gw_aload_n (pc' := 1186) dL_law_1185 rfl rfl ?_
  refine gw_iload_n (pc' := 1187) dL_law_1186 rfl rfl ?_
  refine gw_iconst (pc' := 1188) dL_law_1187 rfl ?_
  refine gw_iadd (pc' := 1189) dL_law_1188 rfl ?_
  refine gw_sld (j := i + 3) (pc' := 1190) (by omega) (by omega) h4 dL_law_1189 rfl ?_
  refine gw_call (pc' := 1193) (As := [vi (sc xs (i + 1)), vi (sc xs (i + 2)), vi (sc xs (i + 3))]) (rest := [vi _]) dL_law_1190 cv_L_139 tbk_51 M2 rfl rfl rfl rfl rfl ?_
  refine gw_eq (tgt := 1564) dL_law_1193 (by decide) ?_
  exact la_next (K σ2 _ a3 a4 a5)
