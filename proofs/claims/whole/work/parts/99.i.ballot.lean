theorem d_law_591 : decode code 591 = .ok (.aload_n 1, 1) := by decide +kernel
theorem d_law_592 : decode code 592 = .ok (.aload_n 0, 1) := by decide +kernel
theorem d_law_593 : decode code 593 = .ok (.iload 4, 2) := by decide +kernel
theorem d_law_595 : decode code 595 = .ok (.iconst 1, 1) := by decide +kernel
theorem d_law_596 : decode code 596 = .ok (.iadd, 1) := by decide +kernel
theorem d_law_597 : decode code 597 = .ok (.iaload, 1) := by decide +kernel
theorem d_law_598 : decode code 598 = .ok (.aload_n 0, 1) := by decide +kernel
theorem d_law_599 : decode code 599 = .ok (.iload 4, 2) := by decide +kernel
theorem d_law_601 : decode code 601 = .ok (.iconst 2, 1) := by decide +kernel
theorem d_law_602 : decode code 602 = .ok (.iadd, 1) := by decide +kernel
theorem d_law_603 : decode code 603 = .ok (.iaload, 1) := by decide +kernel
theorem d_law_604 : decode code 604 = .ok (.i2l, 1) := by decide +kernel
theorem d_law_605 : decode code 605 = .ok (.bipush 32, 2) := by decide +kernel
theorem d_law_607 : decode code 607 = .ok (.lshl, 1) := by decide +kernel
theorem d_law_608 : decode code 608 = .ok (.aload_n 0, 1) := by decide +kernel
theorem d_law_609 : decode code 609 = .ok (.iload 4, 2) := by decide +kernel
theorem d_law_611 : decode code 611 = .ok (.iconst 3, 1) := by decide +kernel
theorem d_law_612 : decode code 612 = .ok (.iadd, 1) := by decide +kernel
theorem d_law_613 : decode code 613 = .ok (.iaload, 1) := by decide +kernel
theorem d_law_614 : decode code 614 = .ok (.i2l, 1) := by decide +kernel
theorem d_law_615 : decode code 615 = .ok (.ldc2_w 70, 3) := by decide +kernel
theorem d_law_618 : decode code 618 = .ok (.land, 1) := by decide +kernel
theorem d_law_619 : decode code 619 = .ok (.lor, 1) := by decide +kernel
theorem d_law_620 : decode code 620 = .ok (.aload_n 0, 1) := by decide +kernel
theorem d_law_621 : decode code 621 = .ok (.iload 4, 2) := by decide +kernel
theorem d_law_623 : decode code 623 = .ok (.iconst 4, 1) := by decide +kernel
theorem d_law_624 : decode code 624 = .ok (.iadd, 1) := by decide +kernel
theorem d_law_625 : decode code 625 = .ok (.iaload, 1) := by decide +kernel
theorem d_law_626 : decode code 626 = .ok (.i2l, 1) := by decide +kernel
theorem d_law_627 : decode code 627 = .ok (.bipush 32, 2) := by decide +kernel
theorem d_law_629 : decode code 629 = .ok (.lshl, 1) := by decide +kernel
theorem d_law_630 : decode code 630 = .ok (.aload_n 0, 1) := by decide +kernel
theorem d_law_631 : decode code 631 = .ok (.iload 4, 2) := by decide +kernel
theorem d_law_633 : decode code 633 = .ok (.iconst 5, 1) := by decide +kernel
theorem d_law_634 : decode code 634 = .ok (.iadd, 1) := by decide +kernel
theorem d_law_635 : decode code 635 = .ok (.iaload, 1) := by decide +kernel
theorem d_law_636 : decode code 636 = .ok (.i2l, 1) := by decide +kernel
theorem d_law_637 : decode code 637 = .ok (.ldc2_w 70, 3) := by decide +kernel
theorem d_law_640 : decode code 640 = .ok (.land, 1) := by decide +kernel
theorem d_law_641 : decode code 641 = .ok (.lor, 1) := by decide +kernel
theorem d_law_642 : decode code 642 = .ok (.aload_n 0, 1) := by decide +kernel
theorem d_law_643 : decode code 643 = .ok (.iload 4, 2) := by decide +kernel
theorem d_law_645 : decode code 645 = .ok (.bipush 6, 2) := by decide +kernel
theorem d_law_647 : decode code 647 = .ok (.iadd, 1) := by decide +kernel
theorem d_law_648 : decode code 648 = .ok (.iaload, 1) := by decide +kernel
theorem d_law_649 : decode code 649 = .ok (.i2l, 1) := by decide +kernel
theorem d_law_650 : decode code 650 = .ok (.bipush 32, 2) := by decide +kernel
theorem d_law_652 : decode code 652 = .ok (.lshl, 1) := by decide +kernel
theorem d_law_653 : decode code 653 = .ok (.aload_n 0, 1) := by decide +kernel
theorem d_law_654 : decode code 654 = .ok (.iload 4, 2) := by decide +kernel
theorem d_law_656 : decode code 656 = .ok (.bipush 7, 2) := by decide +kernel
theorem d_law_658 : decode code 658 = .ok (.iadd, 1) := by decide +kernel
theorem d_law_659 : decode code 659 = .ok (.iaload, 1) := by decide +kernel
theorem d_law_660 : decode code 660 = .ok (.i2l, 1) := by decide +kernel
theorem d_law_661 : decode code 661 = .ok (.ldc2_w 70, 3) := by decide +kernel
theorem d_law_664 : decode code 664 = .ok (.land, 1) := by decide +kernel
theorem d_law_665 : decode code 665 = .ok (.lor, 1) := by decide +kernel
theorem d_law_666 : decode code 666 = .ok (.aload_n 0, 1) := by decide +kernel
theorem d_law_667 : decode code 667 = .ok (.iload 4, 2) := by decide +kernel
theorem d_law_669 : decode code 669 = .ok (.bipush 8, 2) := by decide +kernel
theorem d_law_671 : decode code 671 = .ok (.iadd, 1) := by decide +kernel
theorem d_law_672 : decode code 672 = .ok (.iaload, 1) := by decide +kernel
theorem d_law_673 : decode code 673 = .ok (.i2l, 1) := by decide +kernel
theorem d_law_674 : decode code 674 = .ok (.bipush 32, 2) := by decide +kernel
theorem d_law_676 : decode code 676 = .ok (.lshl, 1) := by decide +kernel
theorem d_law_677 : decode code 677 = .ok (.aload_n 0, 1) := by decide +kernel
theorem d_law_678 : decode code 678 = .ok (.iload 4, 2) := by decide +kernel
theorem d_law_680 : decode code 680 = .ok (.bipush 9, 2) := by decide +kernel
theorem d_law_682 : decode code 682 = .ok (.iadd, 1) := by decide +kernel
theorem d_law_683 : decode code 683 = .ok (.iaload, 1) := by decide +kernel
theorem d_law_684 : decode code 684 = .ok (.i2l, 1) := by decide +kernel
theorem d_law_685 : decode code 685 = .ok (.ldc2_w 70, 3) := by decide +kernel
theorem d_law_688 : decode code 688 = .ok (.land, 1) := by decide +kernel
theorem d_law_689 : decode code 689 = .ok (.lor, 1) := by decide +kernel
theorem d_law_690 : decode code 690 = .ok (.aload_n 0, 1) := by decide +kernel
theorem d_law_691 : decode code 691 = .ok (.iload 4, 2) := by decide +kernel
theorem d_law_693 : decode code 693 = .ok (.bipush 10, 2) := by decide +kernel
theorem d_law_695 : decode code 695 = .ok (.iadd, 1) := by decide +kernel
theorem d_law_696 : decode code 696 = .ok (.iaload, 1) := by decide +kernel
theorem d_law_697 : decode code 697 = .ok (.i2l, 1) := by decide +kernel
theorem d_law_698 : decode code 698 = .ok (.bipush 32, 2) := by decide +kernel
theorem d_law_700 : decode code 700 = .ok (.lshl, 1) := by decide +kernel
theorem d_law_701 : decode code 701 = .ok (.aload_n 0, 1) := by decide +kernel
theorem d_law_702 : decode code 702 = .ok (.iload 4, 2) := by decide +kernel
theorem d_law_704 : decode code 704 = .ok (.bipush 11, 2) := by decide +kernel
theorem d_law_706 : decode code 706 = .ok (.iadd, 1) := by decide +kernel
theorem d_law_707 : decode code 707 = .ok (.iaload, 1) := by decide +kernel
theorem d_law_708 : decode code 708 = .ok (.i2l, 1) := by decide +kernel
theorem d_law_709 : decode code 709 = .ok (.ldc2_w 70, 3) := by decide +kernel
theorem d_law_712 : decode code 712 = .ok (.land, 1) := by decide +kernel
theorem d_law_713 : decode code 713 = .ok (.lor, 1) := by decide +kernel
theorem d_law_714 : decode code 714 = .ok (.aload_n 0, 1) := by decide +kernel
theorem d_law_715 : decode code 715 = .ok (.iload 4, 2) := by decide +kernel
theorem d_law_717 : decode code 717 = .ok (.bipush 12, 2) := by decide +kernel
theorem d_law_719 : decode code 719 = .ok (.iadd, 1) := by decide +kernel
theorem d_law_720 : decode code 720 = .ok (.iaload, 1) := by decide +kernel
theorem d_law_721 : decode code 721 = .ok (.i2l, 1) := by decide +kernel
theorem d_law_722 : decode code 722 = .ok (.bipush 32, 2) := by decide +kernel
theorem d_law_724 : decode code 724 = .ok (.lshl, 1) := by decide +kernel
theorem d_law_725 : decode code 725 = .ok (.aload_n 0, 1) := by decide +kernel
theorem d_law_726 : decode code 726 = .ok (.iload 4, 2) := by decide +kernel
theorem d_law_728 : decode code 728 = .ok (.bipush 13, 2) := by decide +kernel
theorem d_law_730 : decode code 730 = .ok (.iadd, 1) := by decide +kernel
theorem d_law_731 : decode code 731 = .ok (.iaload, 1) := by decide +kernel
theorem d_law_732 : decode code 732 = .ok (.i2l, 1) := by decide +kernel
theorem d_law_733 : decode code 733 = .ok (.ldc2_w 70, 3) := by decide +kernel
theorem d_law_736 : decode code 736 = .ok (.land, 1) := by decide +kernel
theorem d_law_737 : decode code 737 = .ok (.lor, 1) := by decide +kernel
theorem d_law_738 : decode code 738 = .ok (.aload_n 3, 1) := by decide +kernel
theorem d_law_739 : decode code 739 = .ok (.invokestatic 89, 3) := by decide +kernel
theorem d_law_742 : decode code 742 = .ok (.istore 5, 2) := by decide +kernel
theorem d_law_744 : decode code 744 = .ok (.aload_n 2, 1) := by decide +kernel
theorem d_law_745 : decode code 745 = .ok (.aload_n 0, 1) := by decide +kernel
theorem d_law_746 : decode code 746 = .ok (.iload 4, 2) := by decide +kernel
theorem d_law_748 : decode code 748 = .ok (.iconst 1, 1) := by decide +kernel
theorem d_law_749 : decode code 749 = .ok (.iadd, 1) := by decide +kernel
theorem d_law_750 : decode code 750 = .ok (.iaload, 1) := by decide +kernel
theorem d_law_751 : decode code 751 = .ok (.aload_n 0, 1) := by decide +kernel
theorem d_law_752 : decode code 752 = .ok (.iload 4, 2) := by decide +kernel
theorem d_law_754 : decode code 754 = .ok (.iconst 2, 1) := by decide +kernel
theorem d_law_755 : decode code 755 = .ok (.iadd, 1) := by decide +kernel
theorem d_law_756 : decode code 756 = .ok (.iaload, 1) := by decide +kernel
theorem d_law_757 : decode code 757 = .ok (.i2l, 1) := by decide +kernel
theorem d_law_758 : decode code 758 = .ok (.bipush 32, 2) := by decide +kernel
theorem d_law_760 : decode code 760 = .ok (.lshl, 1) := by decide +kernel
theorem d_law_761 : decode code 761 = .ok (.aload_n 0, 1) := by decide +kernel
theorem d_law_762 : decode code 762 = .ok (.iload 4, 2) := by decide +kernel
theorem d_law_764 : decode code 764 = .ok (.iconst 3, 1) := by decide +kernel
theorem d_law_765 : decode code 765 = .ok (.iadd, 1) := by decide +kernel
theorem d_law_766 : decode code 766 = .ok (.iaload, 1) := by decide +kernel
theorem d_law_767 : decode code 767 = .ok (.i2l, 1) := by decide +kernel
theorem d_law_768 : decode code 768 = .ok (.ldc2_w 70, 3) := by decide +kernel
theorem d_law_771 : decode code 771 = .ok (.land, 1) := by decide +kernel
theorem d_law_772 : decode code 772 = .ok (.lor, 1) := by decide +kernel
theorem d_law_773 : decode code 773 = .ok (.aload_n 0, 1) := by decide +kernel
theorem d_law_774 : decode code 774 = .ok (.iload 4, 2) := by decide +kernel
theorem d_law_776 : decode code 776 = .ok (.iconst 4, 1) := by decide +kernel
theorem d_law_777 : decode code 777 = .ok (.iadd, 1) := by decide +kernel
theorem d_law_778 : decode code 778 = .ok (.iaload, 1) := by decide +kernel
theorem d_law_779 : decode code 779 = .ok (.i2l, 1) := by decide +kernel
theorem d_law_780 : decode code 780 = .ok (.bipush 32, 2) := by decide +kernel
theorem d_law_782 : decode code 782 = .ok (.lshl, 1) := by decide +kernel
theorem d_law_783 : decode code 783 = .ok (.aload_n 0, 1) := by decide +kernel
theorem d_law_784 : decode code 784 = .ok (.iload 4, 2) := by decide +kernel
theorem d_law_786 : decode code 786 = .ok (.iconst 5, 1) := by decide +kernel
theorem d_law_787 : decode code 787 = .ok (.iadd, 1) := by decide +kernel
theorem d_law_788 : decode code 788 = .ok (.iaload, 1) := by decide +kernel
theorem d_law_789 : decode code 789 = .ok (.i2l, 1) := by decide +kernel
theorem d_law_790 : decode code 790 = .ok (.ldc2_w 70, 3) := by decide +kernel
theorem d_law_793 : decode code 793 = .ok (.land, 1) := by decide +kernel
theorem d_law_794 : decode code 794 = .ok (.lor, 1) := by decide +kernel
theorem d_law_795 : decode code 795 = .ok (.aload_n 0, 1) := by decide +kernel
theorem d_law_796 : decode code 796 = .ok (.iload 4, 2) := by decide +kernel
theorem d_law_798 : decode code 798 = .ok (.bipush 6, 2) := by decide +kernel
theorem d_law_800 : decode code 800 = .ok (.iadd, 1) := by decide +kernel
theorem d_law_801 : decode code 801 = .ok (.iaload, 1) := by decide +kernel
theorem d_law_802 : decode code 802 = .ok (.i2l, 1) := by decide +kernel
theorem d_law_803 : decode code 803 = .ok (.bipush 32, 2) := by decide +kernel
theorem d_law_805 : decode code 805 = .ok (.lshl, 1) := by decide +kernel
theorem d_law_806 : decode code 806 = .ok (.aload_n 0, 1) := by decide +kernel
theorem d_law_807 : decode code 807 = .ok (.iload 4, 2) := by decide +kernel
theorem d_law_809 : decode code 809 = .ok (.bipush 7, 2) := by decide +kernel
theorem d_law_811 : decode code 811 = .ok (.iadd, 1) := by decide +kernel
theorem d_law_812 : decode code 812 = .ok (.iaload, 1) := by decide +kernel
theorem d_law_813 : decode code 813 = .ok (.i2l, 1) := by decide +kernel
theorem d_law_814 : decode code 814 = .ok (.ldc2_w 70, 3) := by decide +kernel
theorem d_law_817 : decode code 817 = .ok (.land, 1) := by decide +kernel
theorem d_law_818 : decode code 818 = .ok (.lor, 1) := by decide +kernel
theorem d_law_819 : decode code 819 = .ok (.aload_n 0, 1) := by decide +kernel
theorem d_law_820 : decode code 820 = .ok (.iload 4, 2) := by decide +kernel
theorem d_law_822 : decode code 822 = .ok (.bipush 8, 2) := by decide +kernel
theorem d_law_824 : decode code 824 = .ok (.iadd, 1) := by decide +kernel
theorem d_law_825 : decode code 825 = .ok (.iaload, 1) := by decide +kernel
theorem d_law_826 : decode code 826 = .ok (.i2l, 1) := by decide +kernel
theorem d_law_827 : decode code 827 = .ok (.bipush 32, 2) := by decide +kernel
theorem d_law_829 : decode code 829 = .ok (.lshl, 1) := by decide +kernel
theorem d_law_830 : decode code 830 = .ok (.aload_n 0, 1) := by decide +kernel
theorem d_law_831 : decode code 831 = .ok (.iload 4, 2) := by decide +kernel
theorem d_law_833 : decode code 833 = .ok (.bipush 9, 2) := by decide +kernel
theorem d_law_835 : decode code 835 = .ok (.iadd, 1) := by decide +kernel
theorem d_law_836 : decode code 836 = .ok (.iaload, 1) := by decide +kernel
theorem d_law_837 : decode code 837 = .ok (.i2l, 1) := by decide +kernel
theorem d_law_838 : decode code 838 = .ok (.ldc2_w 70, 3) := by decide +kernel
theorem d_law_841 : decode code 841 = .ok (.land, 1) := by decide +kernel
theorem d_law_842 : decode code 842 = .ok (.lor, 1) := by decide +kernel
theorem d_law_843 : decode code 843 = .ok (.aload_n 0, 1) := by decide +kernel
theorem d_law_844 : decode code 844 = .ok (.iload 4, 2) := by decide +kernel
theorem d_law_846 : decode code 846 = .ok (.bipush 10, 2) := by decide +kernel
theorem d_law_848 : decode code 848 = .ok (.iadd, 1) := by decide +kernel
theorem d_law_849 : decode code 849 = .ok (.iaload, 1) := by decide +kernel
theorem d_law_850 : decode code 850 = .ok (.i2l, 1) := by decide +kernel
theorem d_law_851 : decode code 851 = .ok (.bipush 32, 2) := by decide +kernel
theorem d_law_853 : decode code 853 = .ok (.lshl, 1) := by decide +kernel
theorem d_law_854 : decode code 854 = .ok (.aload_n 0, 1) := by decide +kernel
theorem d_law_855 : decode code 855 = .ok (.iload 4, 2) := by decide +kernel
theorem d_law_857 : decode code 857 = .ok (.bipush 11, 2) := by decide +kernel
theorem d_law_859 : decode code 859 = .ok (.iadd, 1) := by decide +kernel
theorem d_law_860 : decode code 860 = .ok (.iaload, 1) := by decide +kernel
theorem d_law_861 : decode code 861 = .ok (.i2l, 1) := by decide +kernel
theorem d_law_862 : decode code 862 = .ok (.ldc2_w 70, 3) := by decide +kernel
theorem d_law_865 : decode code 865 = .ok (.land, 1) := by decide +kernel
theorem d_law_866 : decode code 866 = .ok (.lor, 1) := by decide +kernel
theorem d_law_867 : decode code 867 = .ok (.aload_n 0, 1) := by decide +kernel
theorem d_law_868 : decode code 868 = .ok (.iload 4, 2) := by decide +kernel
theorem d_law_870 : decode code 870 = .ok (.bipush 12, 2) := by decide +kernel
theorem d_law_872 : decode code 872 = .ok (.iadd, 1) := by decide +kernel
theorem d_law_873 : decode code 873 = .ok (.iaload, 1) := by decide +kernel
theorem d_law_874 : decode code 874 = .ok (.i2l, 1) := by decide +kernel
theorem d_law_875 : decode code 875 = .ok (.bipush 32, 2) := by decide +kernel
theorem d_law_877 : decode code 877 = .ok (.lshl, 1) := by decide +kernel
theorem d_law_878 : decode code 878 = .ok (.aload_n 0, 1) := by decide +kernel
theorem d_law_879 : decode code 879 = .ok (.iload 4, 2) := by decide +kernel
theorem d_law_881 : decode code 881 = .ok (.bipush 13, 2) := by decide +kernel
theorem d_law_883 : decode code 883 = .ok (.iadd, 1) := by decide +kernel
theorem d_law_884 : decode code 884 = .ok (.iaload, 1) := by decide +kernel
theorem d_law_885 : decode code 885 = .ok (.i2l, 1) := by decide +kernel
theorem d_law_886 : decode code 886 = .ok (.ldc2_w 70, 3) := by decide +kernel
theorem d_law_889 : decode code 889 = .ok (.land, 1) := by decide +kernel
theorem d_law_890 : decode code 890 = .ok (.lor, 1) := by decide +kernel
theorem d_law_891 : decode code 891 = .ok (.invokevirtual 92, 3) := by decide +kernel
theorem d_law_894 : decode code 894 = .ok (.istore 6, 2) := by decide +kernel
theorem d_law_896 : decode code 896 = .ok (.aload_n 2, 1) := by decide +kernel
theorem d_law_897 : decode code 897 = .ok (.invokevirtual 78, 3) := by decide +kernel
theorem d_law_900 : decode code 900 = .ok (.iload 5, 2) := by decide +kernel
theorem d_law_902 : decode code 902 = .ok (.if_icmp .eq 5, 3) := by decide +kernel
theorem d_law_905 : decode code 905 = .ok (.iconst 0, 1) := by decide +kernel
theorem d_law_906 : decode code 906 = .ok (.ireturn, 1) := by decide +kernel
theorem d_law_907 : decode code 907 = .ok (.iload 5, 2) := by decide +kernel
theorem d_law_909 : decode code 909 = .ok (.ifCond .ne 15, 3) := by decide +kernel
theorem d_law_912 : decode code 912 = .ok (.aload_n 3, 1) := by decide +kernel
theorem d_law_913 : decode code 913 = .ok (.iconst 0, 1) := by decide +kernel
theorem d_law_914 : decode code 914 = .ok (.laload, 1) := by decide +kernel
theorem d_law_915 : decode code 915 = .ok (.iload 6, 2) := by decide +kernel
theorem d_law_917 : decode code 917 = .ok (.i2l, 1) := by decide +kernel
theorem d_law_918 : decode code 918 = .ok (.lcmp, 1) := by decide +kernel
theorem d_law_919 : decode code 919 = .ok (.ifCond .eq 5, 3) := by decide +kernel
theorem d_law_922 : decode code 922 = .ok (.iconst 0, 1) := by decide +kernel
theorem d_law_923 : decode code 923 = .ok (.ireturn, 1) := by decide +kernel
theorem d_law_924 : decode code 924 = .ok (.goto 1041, 3) := by decide +kernel
set_option maxHeartbeats 16000000 in
set_option maxRecDepth 100000 in
theorem bk_ballot_g {p : Program} {l : Launch} {e : Env} {s : State} {m : MethodId} {below : List Frame} {meth : Method} {c : Code} {b L : Nat} {xs : Nat → Int32} {dC : Nat → ClassId} {dI : Nat → Nat → Nat} {cJ cI cR : ClassId} {A : Nat → Prop} {out b0 m0 : Nat} {rA sA wA : Nat} (C : LC p l s m meth c b L xs dC dI cJ cI cR A rA sA wA) {i cells slots : Nat} (hi : i + 14 ≤ L) (hcs : cells + 20 ≤ 601024 ∧ slots + 200 ≤ 7293034) (cont : LK p l e s m below meth c b dC dI cJ cI cR A out b0 m0 i (cells + 20) (slots + 200) 1965) {H : Heap} {locs : List Loc} {ls : Array Slot} (hS : va_S A s.heap H locs) (hI : LG dC dI cJ cI cR A out b0 m0 H) (hl : lv_has ls 8 [(4, .int (nI i)), (3, .ref out), (2, .ref m0), (1, .ref b0), (0, .ref b)]) : W p l e room_1 s m #[Value.ref b] below meth c H locs cells slots (lw_Z below #[Value.ref b] s) (F0 m 591 ls []) := by
  obtain ⟨hnt, ⟨hx, hb, hr, hml, hown, hts0, hX, hbl, hlocks, hgv⟩, hK, hA, hbA, hZha, hZx, hZn, hZw, hL⟩ := C
  have hown : s.vm.findClass "BallotBoardLaw" = some m.cls := hown
  have hts := lw_hts hts0
  refine hI _ (fun bd0 pr0 t0 au0 da h0 ro lo rb lb cm aw ax ay ka aa ba sa tu0 uka uaa uba usa a0 a1 a2 a3 a4 a5 a6 a7 a8 a9 mb0 mb1 oc mb2 mb3 mb4 mb5 cL of w tf nf cf ky lf md sh ccf csc cst bf sc st kf sf vf ct gu d0 d1 d2 d3 d4 d5 d6 d7 e0 R Lk g0 mF mE P f1 k1 Q f2 k2 G N n sd bc al pa pb cl T T0 kd wh hP hD hR => ?_)
  have q1 := hR.1.2.2.2.1.1
  subst q1
  have q2 := hR.2.2.2.1.1
  subst q2
  have q3 := hR.2.2.2.1.2.1
  subst q3
  have q4 := hR.2.2.2.1.2.2.1
  subst q4
  have q5 := hR.2.2.2.1.2.2.2.1
  subst q5
  have q6 := hR.2.2.2.1.2.2.2.2.1
  subst q6
  obtain ⟨⟨hok, htok, hN0, htn, hkc, hn⟩, ⟨hnO, hnS, hn0S, hn0B, hbc, hsc, hsh0⟩, ⟨hgr, hrk, hrs, hrb, hko, hkP⟩, ⟨hal, hclN, hky, hpa, hmd, haP, hbP⟩, ⟨hsP, hsp, hpb, hwf, hEI, hnfR, hcfR, hkf⟩, ⟨hnfk, hkq, hsd, hsn, hsdd, h0k, hkca⟩, ⟨hPQ, h61F, hQ3, hG2, hGP, hGQ⟩, hTt, hTt0, hRT⟩ := LG_facts hR
  obtain ⟨x1, hx1⟩ : ∃ v, v = xs (i + 1) := ⟨_, rfl⟩
  obtain ⟨x2, hx2⟩ : ∃ v, v = jl (xs (i + 2)) (xs (i + 3)) := ⟨_, rfl⟩
  obtain ⟨x3, hx3⟩ : ∃ v, v = jl (xs (i + 4)) (xs (i + 5)) := ⟨_, rfl⟩
  obtain ⟨x4, hx4⟩ : ∃ v, v = jl (xs (i + 6)) (xs (i + 7)) := ⟨_, rfl⟩
  obtain ⟨x5, hx5⟩ : ∃ v, v = jl (xs (i + 8)) (xs (i + 9)) := ⟨_, rfl⟩
  obtain ⟨x6, hx6⟩ : ∃ v, v = jl (xs (i + 10)) (xs (i + 11)) := ⟨_, rfl⟩
  obtain ⟨x7, hx7⟩ : ∃ v, v = jl (xs (i + 12)) (xs (i + 13)) := ⟨_, rfl⟩
  by_cases hC1 : bC1 T
  · -- it holds
    refine lv_aload_n hx hb d_law_591 rfl (lv_at hl 3 rfl) ?_
    refine lv_aload_n hx hb d_law_592 rfl (lv_at hl 4 rfl) ?_
    refine lv_iload hx hb d_law_593 (lv_at hl 0 rfl) ?_
    refine lv_iconst (v := 1) hx hb d_law_595 (by decide) ?_
    refine lv_iadd hx hb d_law_596 ?_
    rw [show ((nI i) + 1 : Int32) = nI (i + 1) from nI_add _ 1]
    refine va_sld hx hb hX hbl hbA hS (vp_in_nI (by omega) (by omega)) d_law_597 ?_
    rw [show (xs (nI (i + 1)).toNatClampNeg : Int32) = xs (i + 1) from by rw [nI_clamp (by omega)]]
    rw [show (xs (i + 1) : Int32) = x1 from hx1.symm]
    refine lv_aload_n hx hb d_law_598 rfl (lv_at hl 4 rfl) ?_
    refine lv_iload hx hb d_law_599 (lv_at hl 0 rfl) ?_
    refine lv_iconst (v := 2) hx hb d_law_601 (by decide) ?_
    refine lv_iadd hx hb d_law_602 ?_
    rw [show ((nI i) + 2 : Int32) = nI (i + 2) from nI_add _ 2]
    refine va_sld hx hb hX hbl hbA hS (vp_in_nI (by omega) (by omega)) d_law_603 ?_
    rw [show (xs (nI (i + 2)).toNatClampNeg : Int32) = xs (i + 2) from by rw [nI_clamp (by omega)]]
    refine lv_i2l (v := (xs (i + 2) : Int32).toInt64) hx hb d_law_604 rfl ?_
    refine lv_bipush (v := 32) hx hb d_law_605 (by decide) ?_
    refine lv_lshl (v := ((xs (i + 2) : Int32).toInt64 : Int64) <<< ((32 : Int32).toInt64 &&& 63)) hx hb d_law_607 rfl ?_
    refine lv_aload_n hx hb d_law_608 rfl (lv_at hl 4 rfl) ?_
    refine lv_iload hx hb d_law_609 (lv_at hl 0 rfl) ?_
    refine lv_iconst (v := 3) hx hb d_law_611 (by decide) ?_
    refine lv_iadd hx hb d_law_612 ?_
    rw [show ((nI i) + 3 : Int32) = nI (i + 3) from nI_add _ 3]
    refine va_sld hx hb hX hbl hbA hS (vp_in_nI (by omega) (by omega)) d_law_613 ?_
    rw [show (xs (nI (i + 3)).toNatClampNeg : Int32) = xs (i + 3) from by rw [nI_clamp (by omega)]]
    refine lv_i2l (v := (xs (i + 3) : Int32).toInt64) hx hb d_law_614 rfl ?_
    refine lv_ldc2 (v := 4294967295) hx hb hown (hts _ (List.mem_cons_of_mem _ gk_1202)) d_law_615 ?_
    refine lv_land hx hb d_law_618 ?_
    refine lv_lor hx hb d_law_619 ?_
    rw [show ((((xs (i + 2) : Int32).toInt64 : Int64) <<< ((32 : Int32).toInt64 &&& 63)) ||| (((xs (i + 3) : Int32).toInt64) &&& 4294967295) : Int64) = x2 from hx2.symm]
    refine lv_aload_n hx hb d_law_620 rfl (lv_at hl 4 rfl) ?_
    refine lv_iload hx hb d_law_621 (lv_at hl 0 rfl) ?_
    refine lv_iconst (v := 4) hx hb d_law_623 (by decide) ?_
    refine lv_iadd hx hb d_law_624 ?_
    rw [show ((nI i) + 4 : Int32) = nI (i + 4) from nI_add _ 4]
    refine va_sld hx hb hX hbl hbA hS (vp_in_nI (by omega) (by omega)) d_law_625 ?_
    rw [show (xs (nI (i + 4)).toNatClampNeg : Int32) = xs (i + 4) from by rw [nI_clamp (by omega)]]
    refine lv_i2l (v := (xs (i + 4) : Int32).toInt64) hx hb d_law_626 rfl ?_
    refine lv_bipush (v := 32) hx hb d_law_627 (by decide) ?_
    refine lv_lshl (v := ((xs (i + 4) : Int32).toInt64 : Int64) <<< ((32 : Int32).toInt64 &&& 63)) hx hb d_law_629 rfl ?_
    refine lv_aload_n hx hb d_law_630 rfl (lv_at hl 4 rfl) ?_
    refine lv_iload hx hb d_law_631 (lv_at hl 0 rfl) ?_
    refine lv_iconst (v := 5) hx hb d_law_633 (by decide) ?_
    refine lv_iadd hx hb d_law_634 ?_
    rw [show ((nI i) + 5 : Int32) = nI (i + 5) from nI_add _ 5]
    refine va_sld hx hb hX hbl hbA hS (vp_in_nI (by omega) (by omega)) d_law_635 ?_
    rw [show (xs (nI (i + 5)).toNatClampNeg : Int32) = xs (i + 5) from by rw [nI_clamp (by omega)]]
    refine lv_i2l (v := (xs (i + 5) : Int32).toInt64) hx hb d_law_636 rfl ?_
    refine lv_ldc2 (v := 4294967295) hx hb hown (hts _ (List.mem_cons_of_mem _ gk_1202)) d_law_637 ?_
    refine lv_land hx hb d_law_640 ?_
    refine lv_lor hx hb d_law_641 ?_
    rw [show ((((xs (i + 4) : Int32).toInt64 : Int64) <<< ((32 : Int32).toInt64 &&& 63)) ||| (((xs (i + 5) : Int32).toInt64) &&& 4294967295) : Int64) = x3 from hx3.symm]
    refine lv_aload_n hx hb d_law_642 rfl (lv_at hl 4 rfl) ?_
    refine lv_iload hx hb d_law_643 (lv_at hl 0 rfl) ?_
    refine lv_bipush (v := 6) hx hb d_law_645 (by decide) ?_
    refine lv_iadd hx hb d_law_647 ?_
    rw [show ((nI i) + 6 : Int32) = nI (i + 6) from nI_add _ 6]
    refine va_sld hx hb hX hbl hbA hS (vp_in_nI (by omega) (by omega)) d_law_648 ?_
    rw [show (xs (nI (i + 6)).toNatClampNeg : Int32) = xs (i + 6) from by rw [nI_clamp (by omega)]]
    refine lv_i2l (v := (xs (i + 6) : Int32).toInt64) hx hb d_law_649 rfl ?_
    refine lv_bipush (v := 32) hx hb d_law_650 (by decide) ?_
    refine lv_lshl (v := ((xs (i + 6) : Int32).toInt64 : Int64) <<< ((32 : Int32).toInt64 &&& 63)) hx hb d_law_652 rfl ?_
    refine lv_aload_n hx hb d_law_653 rfl (lv_at hl 4 rfl) ?_
    refine lv_iload hx hb d_law_654 (lv_at hl 0 rfl) ?_
    refine lv_bipush (v := 7) hx hb d_law_656 (by decide) ?_
    refine lv_iadd hx hb d_law_658 ?_
    rw [show ((nI i) + 7 : Int32) = nI (i + 7) from nI_add _ 7]
    refine va_sld hx hb hX hbl hbA hS (vp_in_nI (by omega) (by omega)) d_law_659 ?_
    rw [show (xs (nI (i + 7)).toNatClampNeg : Int32) = xs (i + 7) from by rw [nI_clamp (by omega)]]
    refine lv_i2l (v := (xs (i + 7) : Int32).toInt64) hx hb d_law_660 rfl ?_
    refine lv_ldc2 (v := 4294967295) hx hb hown (hts _ (List.mem_cons_of_mem _ gk_1202)) d_law_661 ?_
    refine lv_land hx hb d_law_664 ?_
    refine lv_lor hx hb d_law_665 ?_
    rw [show ((((xs (i + 6) : Int32).toInt64 : Int64) <<< ((32 : Int32).toInt64 &&& 63)) ||| (((xs (i + 7) : Int32).toInt64) &&& 4294967295) : Int64) = x4 from hx4.symm]
    refine lv_aload_n hx hb d_law_666 rfl (lv_at hl 4 rfl) ?_
    refine lv_iload hx hb d_law_667 (lv_at hl 0 rfl) ?_
    refine lv_bipush (v := 8) hx hb d_law_669 (by decide) ?_
    refine lv_iadd hx hb d_law_671 ?_
    rw [show ((nI i) + 8 : Int32) = nI (i + 8) from nI_add _ 8]
    refine va_sld hx hb hX hbl hbA hS (vp_in_nI (by omega) (by omega)) d_law_672 ?_
    rw [show (xs (nI (i + 8)).toNatClampNeg : Int32) = xs (i + 8) from by rw [nI_clamp (by omega)]]
    refine lv_i2l (v := (xs (i + 8) : Int32).toInt64) hx hb d_law_673 rfl ?_
    refine lv_bipush (v := 32) hx hb d_law_674 (by decide) ?_
    refine lv_lshl (v := ((xs (i + 8) : Int32).toInt64 : Int64) <<< ((32 : Int32).toInt64 &&& 63)) hx hb d_law_676 rfl ?_
    refine lv_aload_n hx hb d_law_677 rfl (lv_at hl 4 rfl) ?_
    refine lv_iload hx hb d_law_678 (lv_at hl 0 rfl) ?_
    refine lv_bipush (v := 9) hx hb d_law_680 (by decide) ?_
    refine lv_iadd hx hb d_law_682 ?_
    rw [show ((nI i) + 9 : Int32) = nI (i + 9) from nI_add _ 9]
    refine va_sld hx hb hX hbl hbA hS (vp_in_nI (by omega) (by omega)) d_law_683 ?_
    rw [show (xs (nI (i + 9)).toNatClampNeg : Int32) = xs (i + 9) from by rw [nI_clamp (by omega)]]
    refine lv_i2l (v := (xs (i + 9) : Int32).toInt64) hx hb d_law_684 rfl ?_
    refine lv_ldc2 (v := 4294967295) hx hb hown (hts _ (List.mem_cons_of_mem _ gk_1202)) d_law_685 ?_
    refine lv_land hx hb d_law_688 ?_
    refine lv_lor hx hb d_law_689 ?_
    rw [show ((((xs (i + 8) : Int32).toInt64 : Int64) <<< ((32 : Int32).toInt64 &&& 63)) ||| (((xs (i + 9) : Int32).toInt64) &&& 4294967295) : Int64) = x5 from hx5.symm]
    refine lv_aload_n hx hb d_law_690 rfl (lv_at hl 4 rfl) ?_
    refine lv_iload hx hb d_law_691 (lv_at hl 0 rfl) ?_
    refine lv_bipush (v := 10) hx hb d_law_693 (by decide) ?_
    refine lv_iadd hx hb d_law_695 ?_
    rw [show ((nI i) + 10 : Int32) = nI (i + 10) from nI_add _ 10]
    refine va_sld hx hb hX hbl hbA hS (vp_in_nI (by omega) (by omega)) d_law_696 ?_
    rw [show (xs (nI (i + 10)).toNatClampNeg : Int32) = xs (i + 10) from by rw [nI_clamp (by omega)]]
    refine lv_i2l (v := (xs (i + 10) : Int32).toInt64) hx hb d_law_697 rfl ?_
    refine lv_bipush (v := 32) hx hb d_law_698 (by decide) ?_
    refine lv_lshl (v := ((xs (i + 10) : Int32).toInt64 : Int64) <<< ((32 : Int32).toInt64 &&& 63)) hx hb d_law_700 rfl ?_
    refine lv_aload_n hx hb d_law_701 rfl (lv_at hl 4 rfl) ?_
    refine lv_iload hx hb d_law_702 (lv_at hl 0 rfl) ?_
    refine lv_bipush (v := 11) hx hb d_law_704 (by decide) ?_
    refine lv_iadd hx hb d_law_706 ?_
    rw [show ((nI i) + 11 : Int32) = nI (i + 11) from nI_add _ 11]
    refine va_sld hx hb hX hbl hbA hS (vp_in_nI (by omega) (by omega)) d_law_707 ?_
    rw [show (xs (nI (i + 11)).toNatClampNeg : Int32) = xs (i + 11) from by rw [nI_clamp (by omega)]]
    refine lv_i2l (v := (xs (i + 11) : Int32).toInt64) hx hb d_law_708 rfl ?_
    refine lv_ldc2 (v := 4294967295) hx hb hown (hts _ (List.mem_cons_of_mem _ gk_1202)) d_law_709 ?_
    refine lv_land hx hb d_law_712 ?_
    refine lv_lor hx hb d_law_713 ?_
    rw [show ((((xs (i + 10) : Int32).toInt64 : Int64) <<< ((32 : Int32).toInt64 &&& 63)) ||| (((xs (i + 11) : Int32).toInt64) &&& 4294967295) : Int64) = x6 from hx6.symm]
    refine lv_aload_n hx hb d_law_714 rfl (lv_at hl 4 rfl) ?_
    refine lv_iload hx hb d_law_715 (lv_at hl 0 rfl) ?_
    refine lv_bipush (v := 12) hx hb d_law_717 (by decide) ?_
    refine lv_iadd hx hb d_law_719 ?_
    rw [show ((nI i) + 12 : Int32) = nI (i + 12) from nI_add _ 12]
    refine va_sld hx hb hX hbl hbA hS (vp_in_nI (by omega) (by omega)) d_law_720 ?_
    rw [show (xs (nI (i + 12)).toNatClampNeg : Int32) = xs (i + 12) from by rw [nI_clamp (by omega)]]
    refine lv_i2l (v := (xs (i + 12) : Int32).toInt64) hx hb d_law_721 rfl ?_
    refine lv_bipush (v := 32) hx hb d_law_722 (by decide) ?_
    refine lv_lshl (v := ((xs (i + 12) : Int32).toInt64 : Int64) <<< ((32 : Int32).toInt64 &&& 63)) hx hb d_law_724 rfl ?_
    refine lv_aload_n hx hb d_law_725 rfl (lv_at hl 4 rfl) ?_
    refine lv_iload hx hb d_law_726 (lv_at hl 0 rfl) ?_
    refine lv_bipush (v := 13) hx hb d_law_728 (by decide) ?_
    refine lv_iadd hx hb d_law_730 ?_
    rw [show ((nI i) + 13 : Int32) = nI (i + 13) from nI_add _ 13]
    refine va_sld hx hb hX hbl hbA hS (vp_in_nI (by omega) (by omega)) d_law_731 ?_
    rw [show (xs (nI (i + 13)).toNatClampNeg : Int32) = xs (i + 13) from by rw [nI_clamp (by omega)]]
    refine lv_i2l (v := (xs (i + 13) : Int32).toInt64) hx hb d_law_732 rfl ?_
    refine lv_ldc2 (v := 4294967295) hx hb hown (hts _ (List.mem_cons_of_mem _ gk_1202)) d_law_733 ?_
    refine lv_land hx hb d_law_736 ?_
    refine lv_lor hx hb d_law_737 ?_
    rw [show ((((xs (i + 12) : Int32).toInt64 : Int64) <<< ((32 : Int32).toInt64 &&& 63)) ||| (((xs (i + 13) : Int32).toInt64) &&& 4294967295) : Int64) = x7 from hx7.symm]
    refine lv_aload_n hx hb d_law_738 rfl (lv_at hl 1 rfl) ?_
    have hPc := hP.part (cx := (jw_ws out cJ 1 of ++ (bb_ws b0 bd0 pr0 t0 au0 da (.ref g0) ++ (rw_ws da cJ (r8 d0 d1 d2 d3 d4 d5 d6 d7) ++ (bd_ws bd0 h0 ro lo n cR (rrf rb) (rrf lb) ++ (pr_ws pr0 h0 cm cJ ccf ++ (ha_ws h0 aw ax ay cJ cI w csc cst cL ++ (tt_ws t0 ka aa ba sa (.ref g0) cJ T ++ gp_ws g0 mF mE P f1 k1 Q f2 k2 G)))))))) [0, 1, 2, 3, 4, 5, 6, 7, 8, 9, 10, 11, 12, 13, 14, 15, 16, 23, 24, 25] rfl
    have hDc := hD.part (cx := (jw_ws out cJ 1 of ++ (bb_ws b0 bd0 pr0 t0 au0 da (.ref g0) ++ (rw_ws da cJ (r8 d0 d1 d2 d3 d4 d5 d6 d7) ++ (bd_ws bd0 h0 ro lo n cR (rrf rb) (rrf lb) ++ (pr_ws pr0 h0 cm cJ ccf ++ (ha_ws h0 aw ax ay cJ cI w csc cst cL ++ (tt_ws t0 ka aa ba sa (.ref g0) cJ T ++ gp_ws g0 mF mE P f1 k1 Q f2 k2 G)))))))) [0, 1, 2, 3, 4, 5, 6, 7, 8, 9, 10, 11, 12, 13, 14, 15, 16, 23, 24, 25] (by decide) rfl
    have hKc := hK.sub (tys' := [(cJ, .long), (cI, .int), (cR, .array .long)]) [0, 1, 2] rfl
    have hFc := va_freeP (cx := (jw_ws out cJ 1 of ++ (bb_ws b0 bd0 pr0 t0 au0 da (.ref g0) ++ (rw_ws da cJ (r8 d0 d1 d2 d3 d4 d5 d6 d7) ++ (bd_ws bd0 h0 ro lo n cR (rrf rb) (rrf lb) ++ (pr_ws pr0 h0 cm cJ ccf ++ (ha_ws h0 aw ax ay cJ cI w csc cst cL ++ (tt_ws t0 ka aa ba sa (.ref g0) cJ T ++ gp_ws g0 mF mE P f1 k1 Q f2 k2 G)))))))) hD hS hA [0, 1, 2, 3, 4, 5, 6, 7, 8, 9, 10, 11, 12, 13, 14, 15, 16, 23, 24, 25] rfl
    have hZc0 : ha_Z rA sA (va_A ((jw_ws out cJ 1 of ++ (bb_ws b0 bd0 pr0 t0 au0 da (.ref g0) ++ (rw_ws da cJ (r8 d0 d1 d2 d3 d4 d5 d6 d7) ++ (bd_ws bd0 h0 ro lo n cR (rrf rb) (rrf lb) ++ (pr_ws pr0 h0 cm cJ ccf ++ (ha_ws h0 aw ax ay cJ cI w csc cst cL ++ (tt_ws t0 ka aa ba sa (.ref g0) cJ T ++ gp_ws g0 mF mE P f1 k1 Q f2 k2 G))))))) ++ bpool rb lb cJ R Lk) H.size) s H := (hZha.kept hS.2.1).narrow hFc
    have hZc1 : xz (va_A ((jw_ws out cJ 1 of ++ (bb_ws b0 bd0 pr0 t0 au0 da (.ref g0) ++ (rw_ws da cJ (r8 d0 d1 d2 d3 d4 d5 d6 d7) ++ (bd_ws bd0 h0 ro lo n cR (rrf rb) (rrf lb) ++ (pr_ws pr0 h0 cm cJ ccf ++ (ha_ws h0 aw ax ay cJ cI w csc cst cL ++ (tt_ws t0 ka aa ba sa (.ref g0) cJ T ++ gp_ws g0 mF mE P f1 k1 Q f2 k2 G))))))) ++ bpool rb lb cJ R Lk) H.size) s H := (hZx.kept hS.2.1).narrow hFc
    have hZc2 : nc_Z s := hZn
    refine vx_calli (vx_runSX (hh := h_Lw_ballot) (As := [.ref b0, .int x1, .long x2, .long x3, .long x4, .long x5, .long x6, .long x7, .ref out]) (rest := []) ⟨hx, hb, hml, hown, hts⟩ (c_Lw_ballot_1 l hnt dC dI cJ cI cR H.size b0 bd0 pr0 t0 au0 da h0 ro lo n rb lb cm ccf aw ax ay w csc cst cL ka aa ba sa T g0 mF mE P f1 k1 Q f2 k2 G rA sA R Lk d0 d1 d2 d3 d4 d5 d6 d7 x1 x2 x3 x4 x5 x6 x7 out of hok htok hN0 htn hkc hn hn0B hC1) (vx_cwSW 9 hts (gw_Sv gk_624 gk_625 gk_0 gk_626) rfl rfl rfl (by decide +kernel) ⟨(Nat.le_of_ble_eq_true rfl), (Nat.le_of_ble_eq_true rfl)⟩) ⟨fun a U g mk q => by obtain ⟨q0, q1, qP, qK, qD, qZ0, qZ1, qZ2⟩ := q; exact ⟨q0, q1, qP, va_K.moved (u := U) (U := U.calling g mk a) (Vm.Alike.refl U.vm) qK, qD, ha_Z.moved (u := U) (U := U.calling g mk a) (Vm.Alike.refl U.vm) qZ0, xz.same (u := U) (U := U.calling g mk a) rfl qZ1, nc_Z.moved (u := U) (U := U.calling g mk a) (Vm.Alike.refl U.vm) qZ2⟩, fun U hU hW => ⟨rfl, by rw [hU], by rw [hU]; exact hPc, va_K.moved hW.alike hKc, hDc.weaken (fun _ _ _ _ => trivial), by rw [hU]; exact ha_Z.moved hW.alike hZc0, by rw [hU]; exact xz.warm hW hZc1, nc_Z.moved hW.alike hZc2⟩⟩ rfl rfl hl.1 rfl (lv_room (Nat.le_of_ble_eq_true rfl)) d_law_739 ⟨show cells + 8 ≤ 601024 by omega, show slots + 48 ≤ 7293034 by omega⟩) hS (fun q _ h => hFc q h) hFc (fun q _ h => hFc q h) (fun E9 ce9 q9 u8 t9 H1 locs ht hvm hpx hbx hz1 hk1 hS hce hcv hcl => hpx.elim) (fun r_1 u9 t9 H1 locs ht hvm hw hB hz1 hk1 hS => ?_)
    obtain ⟨hP1, hK1, hD1⟩ := hB
    rw [ht] at hP1
    obtain ⟨hP, hD⟩ := va_joinP (X := (jw_ws out cJ 1 of ++ (bb_ws b0 bd0 pr0 t0 au0 da (.ref g0) ++ (rw_ws da cJ (r8 d0 d1 d2 d3 d4 d5 d6 d7) ++ (bd_ws bd0 h0 ro lo n cR (rrf rb) (rrf lb) ++ (pr_ws pr0 h0 cm cJ ccf ++ (ha_ws h0 aw ax ay cJ cI w csc cst cL ++ (tt_ws t0 ka aa ba sa (.ref g0) cJ T ++ (au_ws au0 bd0 pr0 tu0 sd ++ (tt_ws tu0 uka uaa uba usa gu cJ T0 ++ (gp_ws g0 mF mE P f1 k1 Q f2 k2 G ++ (mo_ws m0 e0 (nI (t_tn T)) (nI n) (nI (t_bc T)) (lN P) (lN Q) (lN G) (lN (ckey (t_tn T) (t_kc T) (t_kp T))) (lN (t_pa T)) (lN (t_pb T)) (t_sht T) a0 a1 a2 a3 a4 a5 a6 a7 a8 a9 mb0 mb1 oc mb2 mb3 mb4 mb5 ++ (iw_ws a7 cI 256 bf ++ (iw_ws a8 cI 64 sc ++ (iw_ws a9 cI 8 st ++ (iw_ws mb0 cI 8 kS ++ (iw_ws mb1 cI 64 kR ++ (jw_ws a2 cJ 4 tf ++ (jw_ws a0 cJ 1232 nf ++ (jw_ws a1 cJ 616 cf ++ (iw_ws a4 cI 4 kf ++ (jw_ws mb2 cJ 4 ky ++ (jw_ws a3 cJ 16 lf ++ (iw_ws a5 cI 4 sf ++ (iw_ws a6 cI 64 vf ++ (jw_ws mb3 cJ 128 md ++ (jw_ws mb4 cJ 4 sh ++ iw_ws mb5 cI 64 ct))))))))))))))))))))))))))) (cx := (jw_ws out cJ 1 of ++ (bb_ws b0 bd0 pr0 t0 au0 da (.ref g0) ++ (rw_ws da cJ (r8 d0 d1 d2 d3 d4 d5 d6 d7) ++ (bd_ws bd0 h0 ro lo n cR (rrf rb) (rrf lb) ++ (pr_ws pr0 h0 cm cJ ccf ++ (ha_ws h0 aw ax ay cJ cI w csc cst cL ++ (tt_ws t0 ka aa ba sa (.ref g0) cJ T ++ gp_ws g0 mF mE P f1 k1 Q f2 k2 G)))))))) (wr := (au_ws au0 bd0 pr0 tu0 sd ++ (tt_ws tu0 uka uaa uba usa gu cJ T0 ++ (mo_ws m0 e0 (nI (t_tn T)) (nI n) (nI (t_bc T)) (lN P) (lN Q) (lN G) (lN (ckey (t_tn T) (t_kc T) (t_kp T))) (lN (t_pa T)) (lN (t_pb T)) (t_sht T) a0 a1 a2 a3 a4 a5 a6 a7 a8 a9 mb0 mb1 oc mb2 mb3 mb4 mb5 ++ (iw_ws a7 cI 256 bf ++ (iw_ws a8 cI 64 sc ++ (iw_ws a9 cI 8 st ++ (iw_ws mb0 cI 8 kS ++ (iw_ws mb1 cI 64 kR ++ (jw_ws a2 cJ 4 tf ++ (jw_ws a0 cJ 1232 nf ++ (jw_ws a1 cJ 616 cf ++ (iw_ws a4 cI 4 kf ++ (jw_ws mb2 cJ 4 ky ++ (jw_ws a3 cJ 16 lf ++ (iw_ws a5 cI 4 sf ++ (iw_ws a6 cI 64 vf ++ (jw_ws mb3 cJ 128 md ++ (jw_ws mb4 cJ 4 sh ++ iw_ws mb5 cI 64 ct))))))))))))))))))) (rx := (jw_ws out cJ 1 of ++ (bb_ws b0 bd0 pr0 t0 au0 da (.ref g0) ++ (rw_ws da cJ (r8 u9.1.1 u9.1.2.1 u9.1.2.2.1 u9.1.2.2.2.1 u9.1.2.2.2.2.1 u9.1.2.2.2.2.2.1 u9.1.2.2.2.2.2.2.1 u9.1.2.2.2.2.2.2.2) ++ (bd_ws bd0 h0 ro lo n cR (rrf rb) (rrf lb) ++ (pr_ws pr0 h0 cm cJ u9.2.1 ++ (hu_ws h0 aw ax ay cJ cI u9.2.2 ++ (tt_ws t0 ka aa ba sa (.ref g0) cJ T ++ gp_ws g0 mF mE P f1 k1 Q f2 k2 G)))))))) (pl := bpool rb lb cJ R Lk) (pl1 := bpool rb lb cJ R Lk) hP hD [0, 1, 2, 3, 4, 5, 6, 7, 8, 9, 10, 11, 12, 13, 14, 15, 16, 23, 24, 25] [17, 18, 19, 20, 21, 22, 26, 27, 28, 29, 30, 31, 32, 33, 34, 35, 36, 37, 38, 39, 40, 41, 42] rfl rfl (by decide) (by decide) hk1 hFc hP1 hD1
    have hP := hP.part (cx := (jw_ws out cJ 1 of ++ (bb_ws b0 bd0 pr0 t0 au0 da (.ref g0) ++ (rw_ws da cJ (r8 u9.1.1 u9.1.2.1 u9.1.2.2.1 u9.1.2.2.2.1 u9.1.2.2.2.2.1 u9.1.2.2.2.2.2.1 u9.1.2.2.2.2.2.2.1 u9.1.2.2.2.2.2.2.2) ++ (bd_ws bd0 h0 ro lo n cR (rrf rb) (rrf lb) ++ (pr_ws pr0 h0 cm cJ u9.2.1 ++ (hu_ws h0 aw ax ay cJ cI u9.2.2 ++ (tt_ws t0 ka aa ba sa (.ref g0) cJ T ++ (au_ws au0 bd0 pr0 tu0 sd ++ (tt_ws tu0 uka uaa uba usa gu cJ T0 ++ (gp_ws g0 mF mE P f1 k1 Q f2 k2 G ++ (mo_ws m0 e0 (nI (t_tn T)) (nI n) (nI (t_bc T)) (lN P) (lN Q) (lN G) (lN (ckey (t_tn T) (t_kc T) (t_kp T))) (lN (t_pa T)) (lN (t_pb T)) (t_sht T) a0 a1 a2 a3 a4 a5 a6 a7 a8 a9 mb0 mb1 oc mb2 mb3 mb4 mb5 ++ (iw_ws a7 cI 256 bf ++ (iw_ws a8 cI 64 sc ++ (iw_ws a9 cI 8 st ++ (iw_ws mb0 cI 8 kS ++ (iw_ws mb1 cI 64 kR ++ (jw_ws a2 cJ 4 tf ++ (jw_ws a0 cJ 1232 nf ++ (jw_ws a1 cJ 616 cf ++ (iw_ws a4 cI 4 kf ++ (jw_ws mb2 cJ 4 ky ++ (jw_ws a3 cJ 16 lf ++ (iw_ws a5 cI 4 sf ++ (iw_ws a6 cI 64 vf ++ (jw_ws mb3 cJ 128 md ++ (jw_ws mb4 cJ 4 sh ++ iw_ws mb5 cI 64 ct))))))))))))))))))))))))))) [23, 24, 25, 26, 27, 28, 29, 30, 31, 32, 33, 34, 35, 36, 37, 38, 39, 0, 1, 2, 3, 4, 5, 40, 41, 42, 6, 7, 8, 9, 10, 11, 12, 13, 14, 15, 16, 17, 18, 19, 20, 21, 22] rfl
    have hD := hD.part (cx := (jw_ws out cJ 1 of ++ (bb_ws b0 bd0 pr0 t0 au0 da (.ref g0) ++ (rw_ws da cJ (r8 u9.1.1 u9.1.2.1 u9.1.2.2.1 u9.1.2.2.2.1 u9.1.2.2.2.2.1 u9.1.2.2.2.2.2.1 u9.1.2.2.2.2.2.2.1 u9.1.2.2.2.2.2.2.2) ++ (bd_ws bd0 h0 ro lo n cR (rrf rb) (rrf lb) ++ (pr_ws pr0 h0 cm cJ u9.2.1 ++ (hu_ws h0 aw ax ay cJ cI u9.2.2 ++ (tt_ws t0 ka aa ba sa (.ref g0) cJ T ++ (au_ws au0 bd0 pr0 tu0 sd ++ (tt_ws tu0 uka uaa uba usa gu cJ T0 ++ (gp_ws g0 mF mE P f1 k1 Q f2 k2 G ++ (mo_ws m0 e0 (nI (t_tn T)) (nI n) (nI (t_bc T)) (lN P) (lN Q) (lN G) (lN (ckey (t_tn T) (t_kc T) (t_kp T))) (lN (t_pa T)) (lN (t_pb T)) (t_sht T) a0 a1 a2 a3 a4 a5 a6 a7 a8 a9 mb0 mb1 oc mb2 mb3 mb4 mb5 ++ (iw_ws a7 cI 256 bf ++ (iw_ws a8 cI 64 sc ++ (iw_ws a9 cI 8 st ++ (iw_ws mb0 cI 8 kS ++ (iw_ws mb1 cI 64 kR ++ (jw_ws a2 cJ 4 tf ++ (jw_ws a0 cJ 1232 nf ++ (jw_ws a1 cJ 616 cf ++ (iw_ws a4 cI 4 kf ++ (jw_ws mb2 cJ 4 ky ++ (jw_ws a3 cJ 16 lf ++ (iw_ws a5 cI 4 sf ++ (iw_ws a6 cI 64 vf ++ (jw_ws mb3 cJ 128 md ++ (jw_ws mb4 cJ 4 sh ++ iw_ws mb5 cI 64 ct))))))))))))))))))))))))))) [23, 24, 25, 26, 27, 28, 29, 30, 31, 32, 33, 34, 35, 36, 37, 38, 39, 0, 1, 2, 3, 4, 5, 40, 41, 42, 6, 7, 8, 9, 10, 11, 12, 13, 14, 15, 16, 17, 18, 19, 20, 21, 22] (by decide) rfl
    generalize H1 = H at hP hS ⊢
    clear hPc hDc hFc hP1 hD1 hK1 ht hk1 hz1
    have hr9 : r_1 = 1 := hw
    subst hr9
    refine lv_istore (lv' := [(5, .int 1), (4, .int (nI i)), (3, .ref out), (2, .ref m0), (1, .ref b0), (0, .ref b)]) hx hb d_law_742 hl (by decide) rfl (fun ls hl => ?_)
    refine lv_aload_n hx hb d_law_744 rfl (lv_at hl 3 rfl) ?_
    refine lv_aload_n hx hb d_law_745 rfl (lv_at hl 5 rfl) ?_
    refine lv_iload hx hb d_law_746 (lv_at hl 1 rfl) ?_
    refine lv_iconst (v := 1) hx hb d_law_748 (by decide) ?_
    refine lv_iadd hx hb d_law_749 ?_
    rw [show ((nI i) + 1 : Int32) = nI (i + 1) from nI_add _ 1]
    refine va_sld hx hb hX hbl hbA hS (vp_in_nI (by omega) (by omega)) d_law_750 ?_
    rw [show (xs (nI (i + 1)).toNatClampNeg : Int32) = xs (i + 1) from by rw [nI_clamp (by omega)]]
    rw [show (xs (i + 1) : Int32) = x1 from hx1.symm]
    refine lv_aload_n hx hb d_law_751 rfl (lv_at hl 5 rfl) ?_
    refine lv_iload hx hb d_law_752 (lv_at hl 1 rfl) ?_
    refine lv_iconst (v := 2) hx hb d_law_754 (by decide) ?_
    refine lv_iadd hx hb d_law_755 ?_
    rw [show ((nI i) + 2 : Int32) = nI (i + 2) from nI_add _ 2]
    refine va_sld hx hb hX hbl hbA hS (vp_in_nI (by omega) (by omega)) d_law_756 ?_
    rw [show (xs (nI (i + 2)).toNatClampNeg : Int32) = xs (i + 2) from by rw [nI_clamp (by omega)]]
    refine lv_i2l (v := (xs (i + 2) : Int32).toInt64) hx hb d_law_757 rfl ?_
    refine lv_bipush (v := 32) hx hb d_law_758 (by decide) ?_
    refine lv_lshl (v := ((xs (i + 2) : Int32).toInt64 : Int64) <<< ((32 : Int32).toInt64 &&& 63)) hx hb d_law_760 rfl ?_
    refine lv_aload_n hx hb d_law_761 rfl (lv_at hl 5 rfl) ?_
    refine lv_iload hx hb d_law_762 (lv_at hl 1 rfl) ?_
    refine lv_iconst (v := 3) hx hb d_law_764 (by decide) ?_
    refine lv_iadd hx hb d_law_765 ?_
    rw [show ((nI i) + 3 : Int32) = nI (i + 3) from nI_add _ 3]
    refine va_sld hx hb hX hbl hbA hS (vp_in_nI (by omega) (by omega)) d_law_766 ?_
    rw [show (xs (nI (i + 3)).toNatClampNeg : Int32) = xs (i + 3) from by rw [nI_clamp (by omega)]]
    refine lv_i2l (v := (xs (i + 3) : Int32).toInt64) hx hb d_law_767 rfl ?_
    refine lv_ldc2 (v := 4294967295) hx hb hown (hts _ (List.mem_cons_of_mem _ gk_1202)) d_law_768 ?_
    refine lv_land hx hb d_law_771 ?_
    refine lv_lor hx hb d_law_772 ?_
    rw [show ((((xs (i + 2) : Int32).toInt64 : Int64) <<< ((32 : Int32).toInt64 &&& 63)) ||| (((xs (i + 3) : Int32).toInt64) &&& 4294967295) : Int64) = x2 from hx2.symm]
    refine lv_aload_n hx hb d_law_773 rfl (lv_at hl 5 rfl) ?_
    refine lv_iload hx hb d_law_774 (lv_at hl 1 rfl) ?_
    refine lv_iconst (v := 4) hx hb d_law_776 (by decide) ?_
    refine lv_iadd hx hb d_law_777 ?_
    rw [show ((nI i) + 4 : Int32) = nI (i + 4) from nI_add _ 4]
    refine va_sld hx hb hX hbl hbA hS (vp_in_nI (by omega) (by omega)) d_law_778 ?_
    rw [show (xs (nI (i + 4)).toNatClampNeg : Int32) = xs (i + 4) from by rw [nI_clamp (by omega)]]
    refine lv_i2l (v := (xs (i + 4) : Int32).toInt64) hx hb d_law_779 rfl ?_
    refine lv_bipush (v := 32) hx hb d_law_780 (by decide) ?_
    refine lv_lshl (v := ((xs (i + 4) : Int32).toInt64 : Int64) <<< ((32 : Int32).toInt64 &&& 63)) hx hb d_law_782 rfl ?_
    refine lv_aload_n hx hb d_law_783 rfl (lv_at hl 5 rfl) ?_
    refine lv_iload hx hb d_law_784 (lv_at hl 1 rfl) ?_
    refine lv_iconst (v := 5) hx hb d_law_786 (by decide) ?_
    refine lv_iadd hx hb d_law_787 ?_
    rw [show ((nI i) + 5 : Int32) = nI (i + 5) from nI_add _ 5]
    refine va_sld hx hb hX hbl hbA hS (vp_in_nI (by omega) (by omega)) d_law_788 ?_
    rw [show (xs (nI (i + 5)).toNatClampNeg : Int32) = xs (i + 5) from by rw [nI_clamp (by omega)]]
    refine lv_i2l (v := (xs (i + 5) : Int32).toInt64) hx hb d_law_789 rfl ?_
    refine lv_ldc2 (v := 4294967295) hx hb hown (hts _ (List.mem_cons_of_mem _ gk_1202)) d_law_790 ?_
    refine lv_land hx hb d_law_793 ?_
    refine lv_lor hx hb d_law_794 ?_
    rw [show ((((xs (i + 4) : Int32).toInt64 : Int64) <<< ((32 : Int32).toInt64 &&& 63)) ||| (((xs (i + 5) : Int32).toInt64) &&& 4294967295) : Int64) = x3 from hx3.symm]
    refine lv_aload_n hx hb d_law_795 rfl (lv_at hl 5 rfl) ?_
    refine lv_iload hx hb d_law_796 (lv_at hl 1 rfl) ?_
    refine lv_bipush (v := 6) hx hb d_law_798 (by decide) ?_
    refine lv_iadd hx hb d_law_800 ?_
    rw [show ((nI i) + 6 : Int32) = nI (i + 6) from nI_add _ 6]
    refine va_sld hx hb hX hbl hbA hS (vp_in_nI (by omega) (by omega)) d_law_801 ?_
    rw [show (xs (nI (i + 6)).toNatClampNeg : Int32) = xs (i + 6) from by rw [nI_clamp (by omega)]]
    refine lv_i2l (v := (xs (i + 6) : Int32).toInt64) hx hb d_law_802 rfl ?_
    refine lv_bipush (v := 32) hx hb d_law_803 (by decide) ?_
    refine lv_lshl (v := ((xs (i + 6) : Int32).toInt64 : Int64) <<< ((32 : Int32).toInt64 &&& 63)) hx hb d_law_805 rfl ?_
    refine lv_aload_n hx hb d_law_806 rfl (lv_at hl 5 rfl) ?_
    refine lv_iload hx hb d_law_807 (lv_at hl 1 rfl) ?_
    refine lv_bipush (v := 7) hx hb d_law_809 (by decide) ?_
    refine lv_iadd hx hb d_law_811 ?_
    rw [show ((nI i) + 7 : Int32) = nI (i + 7) from nI_add _ 7]
    refine va_sld hx hb hX hbl hbA hS (vp_in_nI (by omega) (by omega)) d_law_812 ?_
    rw [show (xs (nI (i + 7)).toNatClampNeg : Int32) = xs (i + 7) from by rw [nI_clamp (by omega)]]
    refine lv_i2l (v := (xs (i + 7) : Int32).toInt64) hx hb d_law_813 rfl ?_
    refine lv_ldc2 (v := 4294967295) hx hb hown (hts _ (List.mem_cons_of_mem _ gk_1202)) d_law_814 ?_
    refine lv_land hx hb d_law_817 ?_
    refine lv_lor hx hb d_law_818 ?_
    rw [show ((((xs (i + 6) : Int32).toInt64 : Int64) <<< ((32 : Int32).toInt64 &&& 63)) ||| (((xs (i + 7) : Int32).toInt64) &&& 4294967295) : Int64) = x4 from hx4.symm]
    refine lv_aload_n hx hb d_law_819 rfl (lv_at hl 5 rfl) ?_
    refine lv_iload hx hb d_law_820 (lv_at hl 1 rfl) ?_
    refine lv_bipush (v := 8) hx hb d_law_822 (by decide) ?_
    refine lv_iadd hx hb d_law_824 ?_
    rw [show ((nI i) + 8 : Int32) = nI (i + 8) from nI_add _ 8]
    refine va_sld hx hb hX hbl hbA hS (vp_in_nI (by omega) (by omega)) d_law_825 ?_
    rw [show (xs (nI (i + 8)).toNatClampNeg : Int32) = xs (i + 8) from by rw [nI_clamp (by omega)]]
    refine lv_i2l (v := (xs (i + 8) : Int32).toInt64) hx hb d_law_826 rfl ?_
    refine lv_bipush (v := 32) hx hb d_law_827 (by decide) ?_
    refine lv_lshl (v := ((xs (i + 8) : Int32).toInt64 : Int64) <<< ((32 : Int32).toInt64 &&& 63)) hx hb d_law_829 rfl ?_
    refine lv_aload_n hx hb d_law_830 rfl (lv_at hl 5 rfl) ?_
    refine lv_iload hx hb d_law_831 (lv_at hl 1 rfl) ?_
    refine lv_bipush (v := 9) hx hb d_law_833 (by decide) ?_
    refine lv_iadd hx hb d_law_835 ?_
    rw [show ((nI i) + 9 : Int32) = nI (i + 9) from nI_add _ 9]
    refine va_sld hx hb hX hbl hbA hS (vp_in_nI (by omega) (by omega)) d_law_836 ?_
    rw [show (xs (nI (i + 9)).toNatClampNeg : Int32) = xs (i + 9) from by rw [nI_clamp (by omega)]]
    refine lv_i2l (v := (xs (i + 9) : Int32).toInt64) hx hb d_law_837 rfl ?_
    refine lv_ldc2 (v := 4294967295) hx hb hown (hts _ (List.mem_cons_of_mem _ gk_1202)) d_law_838 ?_
    refine lv_land hx hb d_law_841 ?_
    refine lv_lor hx hb d_law_842 ?_
    rw [show ((((xs (i + 8) : Int32).toInt64 : Int64) <<< ((32 : Int32).toInt64 &&& 63)) ||| (((xs (i + 9) : Int32).toInt64) &&& 4294967295) : Int64) = x5 from hx5.symm]
    refine lv_aload_n hx hb d_law_843 rfl (lv_at hl 5 rfl) ?_
    refine lv_iload hx hb d_law_844 (lv_at hl 1 rfl) ?_
    refine lv_bipush (v := 10) hx hb d_law_846 (by decide) ?_
    refine lv_iadd hx hb d_law_848 ?_
    rw [show ((nI i) + 10 : Int32) = nI (i + 10) from nI_add _ 10]
    refine va_sld hx hb hX hbl hbA hS (vp_in_nI (by omega) (by omega)) d_law_849 ?_
    rw [show (xs (nI (i + 10)).toNatClampNeg : Int32) = xs (i + 10) from by rw [nI_clamp (by omega)]]
    refine lv_i2l (v := (xs (i + 10) : Int32).toInt64) hx hb d_law_850 rfl ?_
    refine lv_bipush (v := 32) hx hb d_law_851 (by decide) ?_
    refine lv_lshl (v := ((xs (i + 10) : Int32).toInt64 : Int64) <<< ((32 : Int32).toInt64 &&& 63)) hx hb d_law_853 rfl ?_
    refine lv_aload_n hx hb d_law_854 rfl (lv_at hl 5 rfl) ?_
    refine lv_iload hx hb d_law_855 (lv_at hl 1 rfl) ?_
    refine lv_bipush (v := 11) hx hb d_law_857 (by decide) ?_
    refine lv_iadd hx hb d_law_859 ?_
    rw [show ((nI i) + 11 : Int32) = nI (i + 11) from nI_add _ 11]
    refine va_sld hx hb hX hbl hbA hS (vp_in_nI (by omega) (by omega)) d_law_860 ?_
    rw [show (xs (nI (i + 11)).toNatClampNeg : Int32) = xs (i + 11) from by rw [nI_clamp (by omega)]]
    refine lv_i2l (v := (xs (i + 11) : Int32).toInt64) hx hb d_law_861 rfl ?_
    refine lv_ldc2 (v := 4294967295) hx hb hown (hts _ (List.mem_cons_of_mem _ gk_1202)) d_law_862 ?_
    refine lv_land hx hb d_law_865 ?_
    refine lv_lor hx hb d_law_866 ?_
    rw [show ((((xs (i + 10) : Int32).toInt64 : Int64) <<< ((32 : Int32).toInt64 &&& 63)) ||| (((xs (i + 11) : Int32).toInt64) &&& 4294967295) : Int64) = x6 from hx6.symm]
    refine lv_aload_n hx hb d_law_867 rfl (lv_at hl 5 rfl) ?_
    refine lv_iload hx hb d_law_868 (lv_at hl 1 rfl) ?_
    refine lv_bipush (v := 12) hx hb d_law_870 (by decide) ?_
    refine lv_iadd hx hb d_law_872 ?_
    rw [show ((nI i) + 12 : Int32) = nI (i + 12) from nI_add _ 12]
    refine va_sld hx hb hX hbl hbA hS (vp_in_nI (by omega) (by omega)) d_law_873 ?_
    rw [show (xs (nI (i + 12)).toNatClampNeg : Int32) = xs (i + 12) from by rw [nI_clamp (by omega)]]
    refine lv_i2l (v := (xs (i + 12) : Int32).toInt64) hx hb d_law_874 rfl ?_
    refine lv_bipush (v := 32) hx hb d_law_875 (by decide) ?_
    refine lv_lshl (v := ((xs (i + 12) : Int32).toInt64 : Int64) <<< ((32 : Int32).toInt64 &&& 63)) hx hb d_law_877 rfl ?_
    refine lv_aload_n hx hb d_law_878 rfl (lv_at hl 5 rfl) ?_
    refine lv_iload hx hb d_law_879 (lv_at hl 1 rfl) ?_
    refine lv_bipush (v := 13) hx hb d_law_881 (by decide) ?_
    refine lv_iadd hx hb d_law_883 ?_
    rw [show ((nI i) + 13 : Int32) = nI (i + 13) from nI_add _ 13]
    refine va_sld hx hb hX hbl hbA hS (vp_in_nI (by omega) (by omega)) d_law_884 ?_
    rw [show (xs (nI (i + 13)).toNatClampNeg : Int32) = xs (i + 13) from by rw [nI_clamp (by omega)]]
    refine lv_i2l (v := (xs (i + 13) : Int32).toInt64) hx hb d_law_885 rfl ?_
    refine lv_ldc2 (v := 4294967295) hx hb hown (hts _ (List.mem_cons_of_mem _ gk_1202)) d_law_886 ?_
    refine lv_land hx hb d_law_889 ?_
    refine lv_lor hx hb d_law_890 ?_
    rw [show ((((xs (i + 12) : Int32).toInt64 : Int64) <<< ((32 : Int32).toInt64 &&& 63)) ||| (((xs (i + 13) : Int32).toInt64) &&& 4294967295) : Int64) = x7 from hx7.symm]
    have hPc := hP.sub (ws' := (mo_ws m0 e0 (nI (t_tn T)) (nI n) (nI (t_bc T)) (lN P) (lN Q) (lN G) (lN (ckey (t_tn T) (t_kc T) (t_kp T))) (lN (t_pa T)) (lN (t_pb T)) (t_sht T) a0 a1 a2 a3 a4 a5 a6 a7 a8 a9 mb0 mb1 oc mb2 mb3 mb4 mb5 ++ (iw_ws a7 cI 256 bf ++ (iw_ws a8 cI 64 sc ++ (iw_ws a9 cI 8 st ++ (iw_ws mb0 cI 8 kS ++ (iw_ws mb1 cI 64 kR ++ (jw_ws a2 cJ 4 tf ++ (jw_ws a0 cJ 1232 nf ++ (jw_ws a1 cJ 616 cf ++ (iw_ws a6 cI 64 vf ++ (jw_ws mb3 cJ 128 md ++ (iw_ws a4 cI 4 kf ++ jw_ws a3 cJ 16 lf))))))))))))) [26, 27, 28, 29, 30, 31, 32, 33, 34, 39, 40, 35, 37] rfl
    have hDc := hD.sub (ws' := (mo_ws m0 e0 (nI (t_tn T)) (nI n) (nI (t_bc T)) (lN P) (lN Q) (lN G) (lN (ckey (t_tn T) (t_kc T) (t_kp T))) (lN (t_pa T)) (lN (t_pb T)) (t_sht T) a0 a1 a2 a3 a4 a5 a6 a7 a8 a9 mb0 mb1 oc mb2 mb3 mb4 mb5 ++ (iw_ws a7 cI 256 bf ++ (iw_ws a8 cI 64 sc ++ (iw_ws a9 cI 8 st ++ (iw_ws mb0 cI 8 kS ++ (iw_ws mb1 cI 64 kR ++ (jw_ws a2 cJ 4 tf ++ (jw_ws a0 cJ 1232 nf ++ (jw_ws a1 cJ 616 cf ++ (iw_ws a6 cI 64 vf ++ (jw_ws mb3 cJ 128 md ++ (iw_ws a4 cI 4 kf ++ jw_ws a3 cJ 16 lf))))))))))))) [26, 27, 28, 29, 30, 31, 32, 33, 34, 39, 40, 35, 37] (by decide) rfl
    have hKc := hK.sub (tys' := [(cJ, .long), (cI, .int)]) [0, 1] rfl
    have hFc := va_free (wc := (mo_ws m0 e0 (nI (t_tn T)) (nI n) (nI (t_bc T)) (lN P) (lN Q) (lN G) (lN (ckey (t_tn T) (t_kc T) (t_kp T))) (lN (t_pa T)) (lN (t_pb T)) (t_sht T) a0 a1 a2 a3 a4 a5 a6 a7 a8 a9 mb0 mb1 oc mb2 mb3 mb4 mb5 ++ (iw_ws a7 cI 256 bf ++ (iw_ws a8 cI 64 sc ++ (iw_ws a9 cI 8 st ++ (iw_ws mb0 cI 8 kS ++ (iw_ws mb1 cI 64 kR ++ (jw_ws a2 cJ 4 tf ++ (jw_ws a0 cJ 1232 nf ++ (jw_ws a1 cJ 616 cf ++ (iw_ws a6 cI 64 vf ++ (jw_ws mb3 cJ 128 md ++ (iw_ws a4 cI 4 kf ++ jw_ws a3 cJ 16 lf))))))))))))) hD hS hA [26, 27, 28, 29, 30, 31, 32, 33, 34, 39, 40, 35, 37] rfl
    refine va_calli (va_runV (As := [.int x1, .long x2, .long x3, .long x4, .long x5, .long x6, .long x7]) (rest := []) ⟨hx, hb, hml, hown, hts⟩ (c_Bm_ballot_1 l dC dI cJ cI H.size m0 e0 (t_tn T) n (t_bc T) P Q G (ckey (t_tn T) (t_kc T) (t_kp T)) (t_pa T) (t_pb T) (t_sht T) a0 a1 a2 a3 a4 a5 a6 a7 a8 a9 mb0 mb1 oc mb2 mb3 mb4 mb5 bf sc st vf kf tf nf cf md lf (t_ko T) (t_ao T) ky (fun i => lN (t_ao T i)) x1 x2 x3 x4 x5 x6 x7 htn hgr hn hsh0 hrk hrb hal ((bC1_iff hRT).mp hC1)) (cwV 7 hts (gw_V gk_1117 gk_1118 gk_1119 gk_7 gk_1120) rfl rfl rfl (by decide +kernel) ⟨(Nat.le_of_ble_eq_true rfl), (Nat.le_of_ble_eq_true rfl)⟩) ⟨fun a U g mk q => by obtain ⟨q0, q1, qP, qK, qD⟩ := q; exact ⟨q0, q1, qP, va_K.moved (u := U) (U := U.calling g mk a) (Vm.Alike.refl U.vm) qK, qD⟩, va_recv hK hP (ci := 8) (q0 := 26) rfl rfl, fun U hU hW => ⟨rfl, by rw [hU], by rw [hU]; exact hPc, va_K.moved hW.alike hKc, hDc.weaken (fun _ _ _ _ => trivial)⟩⟩ rfl rfl hl.1 rfl (lv_room (Nat.le_of_ble_eq_true rfl)) d_law_891 ⟨show cells + 8 + 0 ≤ 601024 by omega, show slots + 48 + 0 ≤ 7293034 by omega⟩) hS (fun q _ h => hFc q h) hFc (fun r_2 v9 t9 H1 locs ht hvm hw hB hz1 hk1 hS => ?_)
    obtain ⟨hP1, hK1, hD1⟩ := hB
    rw [ht] at hP1
    obtain ⟨hP, hD⟩ := va_joinQ (X := (jw_ws out cJ 1 of ++ (bb_ws b0 bd0 pr0 t0 au0 da (.ref g0) ++ (rw_ws da cJ (r8 u9.1.1 u9.1.2.1 u9.1.2.2.1 u9.1.2.2.2.1 u9.1.2.2.2.2.1 u9.1.2.2.2.2.2.1 u9.1.2.2.2.2.2.2.1 u9.1.2.2.2.2.2.2.2) ++ (bd_ws bd0 h0 ro lo n cR (rrf rb) (rrf lb) ++ (pr_ws pr0 h0 cm cJ u9.2.1 ++ (hu_ws h0 aw ax ay cJ cI u9.2.2 ++ (tt_ws t0 ka aa ba sa (.ref g0) cJ T ++ (au_ws au0 bd0 pr0 tu0 sd ++ (tt_ws tu0 uka uaa uba usa gu cJ T0 ++ (gp_ws g0 mF mE P f1 k1 Q f2 k2 G ++ (mo_ws m0 e0 (nI (t_tn T)) (nI n) (nI (t_bc T)) (lN P) (lN Q) (lN G) (lN (ckey (t_tn T) (t_kc T) (t_kp T))) (lN (t_pa T)) (lN (t_pb T)) (t_sht T) a0 a1 a2 a3 a4 a5 a6 a7 a8 a9 mb0 mb1 oc mb2 mb3 mb4 mb5 ++ (iw_ws a7 cI 256 bf ++ (iw_ws a8 cI 64 sc ++ (iw_ws a9 cI 8 st ++ (iw_ws mb0 cI 8 kS ++ (iw_ws mb1 cI 64 kR ++ (jw_ws a2 cJ 4 tf ++ (jw_ws a0 cJ 1232 nf ++ (jw_ws a1 cJ 616 cf ++ (iw_ws a4 cI 4 kf ++ (jw_ws mb2 cJ 4 ky ++ (jw_ws a3 cJ 16 lf ++ (iw_ws a5 cI 4 sf ++ (iw_ws a6 cI 64 vf ++ (jw_ws mb3 cJ 128 md ++ (jw_ws mb4 cJ 4 sh ++ iw_ws mb5 cI 64 ct))))))))))))))))))))))))))) (cx := (mo_ws m0 e0 (nI (t_tn T)) (nI n) (nI (t_bc T)) (lN P) (lN Q) (lN G) (lN (ckey (t_tn T) (t_kc T) (t_kp T))) (lN (t_pa T)) (lN (t_pb T)) (t_sht T) a0 a1 a2 a3 a4 a5 a6 a7 a8 a9 mb0 mb1 oc mb2 mb3 mb4 mb5 ++ (iw_ws a7 cI 256 bf ++ (iw_ws a8 cI 64 sc ++ (iw_ws a9 cI 8 st ++ (iw_ws mb0 cI 8 kS ++ (iw_ws mb1 cI 64 kR ++ (jw_ws a2 cJ 4 tf ++ (jw_ws a0 cJ 1232 nf ++ (jw_ws a1 cJ 616 cf ++ (iw_ws a6 cI 64 vf ++ (jw_ws mb3 cJ 128 md ++ (iw_ws a4 cI 4 kf ++ jw_ws a3 cJ 16 lf))))))))))))) (wr := (jw_ws out cJ 1 of ++ (bb_ws b0 bd0 pr0 t0 au0 da (.ref g0) ++ (rw_ws da cJ (r8 u9.1.1 u9.1.2.1 u9.1.2.2.1 u9.1.2.2.2.1 u9.1.2.2.2.2.1 u9.1.2.2.2.2.2.1 u9.1.2.2.2.2.2.2.1 u9.1.2.2.2.2.2.2.2) ++ (bd_ws bd0 h0 ro lo n cR (rrf rb) (rrf lb) ++ (pr_ws pr0 h0 cm cJ u9.2.1 ++ (hu_ws h0 aw ax ay cJ cI u9.2.2 ++ (tt_ws t0 ka aa ba sa (.ref g0) cJ T ++ (au_ws au0 bd0 pr0 tu0 sd ++ (tt_ws tu0 uka uaa uba usa gu cJ T0 ++ (gp_ws g0 mF mE P f1 k1 Q f2 k2 G ++ (jw_ws mb2 cJ 4 ky ++ (iw_ws a5 cI 4 sf ++ (jw_ws mb4 cJ 4 sh ++ iw_ws mb5 cI 64 ct)))))))))))))) (w1 := (mo_ws m0 1 (nI (t_tn T)) (nI n) (nI (t_bc T)) (lN P) (lN Q) (lN G) (lN (ckey (t_tn T) (t_kc T) (t_kp T))) (lN (t_pa T)) (lN (t_pb T)) (t_sht T) a0 a1 a2 a3 a4 a5 a6 a7 a8 a9 mb0 mb1 oc mb2 mb3 mb4 mb5 ++ (iw_ws a7 cI 256 bf ++ (iw_ws a8 cI 64 sc ++ (iw_ws a9 cI 8 st ++ (iw_ws mb0 cI 8 kS ++ (iw_ws mb1 cI 64 kR ++ (jw_ws a2 cJ 4 tf ++ (jw_ws a0 cJ 1232 nf ++ (jw_ws a1 cJ 616 cf ++ (iw_ws a6 cI 64 vf ++ (jw_ws mb3 cJ 128 md ++ (iw_ws a4 cI 4 kf ++ jw_ws a3 cJ 16 lf))))))))))))) (pl := bpool rb lb cJ R Lk) hP hD [26, 27, 28, 29, 30, 31, 32, 33, 34, 39, 40, 35, 37] [0, 1, 2, 3, 4, 5, 6, 7, 8, 9, 10, 11, 12, 13, 14, 15, 16, 17, 18, 19, 20, 21, 22, 23, 24, 25, 36, 38, 41, 42] rfl rfl (by decide) (by decide) hk1 hFc hP1 hD1
    have hP := hP.part (cx := (jw_ws out cJ 1 of ++ (bb_ws b0 bd0 pr0 t0 au0 da (.ref g0) ++ (rw_ws da cJ (r8 u9.1.1 u9.1.2.1 u9.1.2.2.1 u9.1.2.2.2.1 u9.1.2.2.2.2.1 u9.1.2.2.2.2.2.1 u9.1.2.2.2.2.2.2.1 u9.1.2.2.2.2.2.2.2) ++ (bd_ws bd0 h0 ro lo n cR (rrf rb) (rrf lb) ++ (pr_ws pr0 h0 cm cJ u9.2.1 ++ (hu_ws h0 aw ax ay cJ cI u9.2.2 ++ (tt_ws t0 ka aa ba sa (.ref g0) cJ T ++ (au_ws au0 bd0 pr0 tu0 sd ++ (tt_ws tu0 uka uaa uba usa gu cJ T0 ++ (gp_ws g0 mF mE P f1 k1 Q f2 k2 G ++ (mo_ws m0 1 (nI (t_tn T)) (nI n) (nI (t_bc T)) (lN P) (lN Q) (lN G) (lN (ckey (t_tn T) (t_kc T) (t_kp T))) (lN (t_pa T)) (lN (t_pb T)) (t_sht T) a0 a1 a2 a3 a4 a5 a6 a7 a8 a9 mb0 mb1 oc mb2 mb3 mb4 mb5 ++ (iw_ws a7 cI 256 bf ++ (iw_ws a8 cI 64 sc ++ (iw_ws a9 cI 8 st ++ (iw_ws mb0 cI 8 kS ++ (iw_ws mb1 cI 64 kR ++ (jw_ws a2 cJ 4 tf ++ (jw_ws a0 cJ 1232 nf ++ (jw_ws a1 cJ 616 cf ++ (iw_ws a4 cI 4 kf ++ (jw_ws mb2 cJ 4 ky ++ (jw_ws a3 cJ 16 lf ++ (iw_ws a5 cI 4 sf ++ (iw_ws a6 cI 64 vf ++ (jw_ws mb3 cJ 128 md ++ (jw_ws mb4 cJ 4 sh ++ iw_ws mb5 cI 64 ct))))))))))))))))))))))))))) [0, 1, 2, 3, 4, 5, 6, 7, 8, 9, 10, 11, 12, 13, 14, 15, 16, 17, 18, 19, 20, 21, 22, 23, 24, 25, 30, 31, 32, 33, 34, 35, 36, 37, 38, 41, 26, 42, 27, 39, 40, 28, 29] rfl
    have hD := hD.part (cx := (jw_ws out cJ 1 of ++ (bb_ws b0 bd0 pr0 t0 au0 da (.ref g0) ++ (rw_ws da cJ (r8 u9.1.1 u9.1.2.1 u9.1.2.2.1 u9.1.2.2.2.1 u9.1.2.2.2.2.1 u9.1.2.2.2.2.2.1 u9.1.2.2.2.2.2.2.1 u9.1.2.2.2.2.2.2.2) ++ (bd_ws bd0 h0 ro lo n cR (rrf rb) (rrf lb) ++ (pr_ws pr0 h0 cm cJ u9.2.1 ++ (hu_ws h0 aw ax ay cJ cI u9.2.2 ++ (tt_ws t0 ka aa ba sa (.ref g0) cJ T ++ (au_ws au0 bd0 pr0 tu0 sd ++ (tt_ws tu0 uka uaa uba usa gu cJ T0 ++ (gp_ws g0 mF mE P f1 k1 Q f2 k2 G ++ (mo_ws m0 1 (nI (t_tn T)) (nI n) (nI (t_bc T)) (lN P) (lN Q) (lN G) (lN (ckey (t_tn T) (t_kc T) (t_kp T))) (lN (t_pa T)) (lN (t_pb T)) (t_sht T) a0 a1 a2 a3 a4 a5 a6 a7 a8 a9 mb0 mb1 oc mb2 mb3 mb4 mb5 ++ (iw_ws a7 cI 256 bf ++ (iw_ws a8 cI 64 sc ++ (iw_ws a9 cI 8 st ++ (iw_ws mb0 cI 8 kS ++ (iw_ws mb1 cI 64 kR ++ (jw_ws a2 cJ 4 tf ++ (jw_ws a0 cJ 1232 nf ++ (jw_ws a1 cJ 616 cf ++ (iw_ws a4 cI 4 kf ++ (jw_ws mb2 cJ 4 ky ++ (jw_ws a3 cJ 16 lf ++ (iw_ws a5 cI 4 sf ++ (iw_ws a6 cI 64 vf ++ (jw_ws mb3 cJ 128 md ++ (jw_ws mb4 cJ 4 sh ++ iw_ws mb5 cI 64 ct))))))))))))))))))))))))))) [0, 1, 2, 3, 4, 5, 6, 7, 8, 9, 10, 11, 12, 13, 14, 15, 16, 17, 18, 19, 20, 21, 22, 23, 24, 25, 30, 31, 32, 33, 34, 35, 36, 37, 38, 41, 26, 42, 27, 39, 40, 28, 29] (by decide) rfl
    generalize H1 = H at hP hS ⊢
    clear hPc hDc hFc hP1 hD1 hK1 ht hk1 hz1
    refine lv_istore (lv' := [(6, .int r_2), (5, .int 1), (4, .int (nI i)), (3, .ref out), (2, .ref m0), (1, .ref b0), (0, .ref b)]) hx hb d_law_894 hl (by decide) rfl (fun ls hl => ?_)
    refine lv_aload_n hx hb d_law_896 rfl (lv_at hl 4 rfl) ?_
    have hPc := hP.sub (ws' := (mo_ws m0 1 (nI (t_tn T)) (nI n) (nI (t_bc T)) (lN P) (lN Q) (lN G) (lN (ckey (t_tn T) (t_kc T) (t_kp T))) (lN (t_pa T)) (lN (t_pb T)) (t_sht T) a0 a1 a2 a3 a4 a5 a6 a7 a8 a9 mb0 mb1 oc mb2 mb3 mb4 mb5)) [26] rfl
    have hKc := hK.sub (tys' := [(cJ, .long), (cI, .int)]) [0, 1] rfl
    refine va_calli (va_runV (As := []) (rest := []) ⟨hx, hb, hml, hown, hts⟩ (c_Bm_thrown l H dC dI cJ cI m0 1 (nI (t_tn T)) (nI n) (nI (t_bc T)) (lN P) (lN Q) (lN G) (lN (ckey (t_tn T) (t_kc T) (t_kp T))) (lN (t_pa T)) (lN (t_pb T)) (t_sht T) a0 a1 a2 a3 a4 a5 a6 a7 a8 a9 mb0 mb1 oc mb2 mb3 mb4 mb5 hPc) (cwV 0 hts (gw_V gk_1004 gk_1005 gk_1006 gk_7 gk_1007) rfl rfl rfl (by decide +kernel) ⟨(Nat.le_of_ble_eq_true rfl), (Nat.le_of_ble_eq_true rfl)⟩) ⟨fun a U g mk q => ⟨q.1, q.2.1, va_K.moved (u := U) (U := U.calling g mk a) (Vm.Alike.refl U.vm) q.2.2⟩, va_recv hK hP (ci := 8) (q0 := 26) rfl rfl, fun U hU hW => ⟨rfl, hU, va_K.moved hW.alike hKc⟩⟩ rfl rfl hl.1 rfl (lv_room (Nat.le_of_ble_eq_true rfl)) d_law_897 ⟨show cells + 8 + 0 + 0 ≤ 601024 by omega, show slots + 48 + 0 + 0 ≤ 7293034 by omega⟩) hS (fun q _ h => h.elim) (fun q h => h.elim) (fun r_3 w9 t9 H1 locs ht hvm hw9 hB hz1 hk1 hS => ?_)
    obtain rfl : H = H1 := hB.symm.trans ht
    have hw9 : r_3 = 1 := hw9
    subst hw9
    clear hPc hz1 hk1 hB
    refine lv_iload hx hb d_law_900 (lv_at hl 1 rfl) ?_
    refine lv_icmp_eq (tgt := 907) hx hb d_law_902 (by decide) (fun c_4 => ?_) (fun c_4 => ?_)
    · -- taken
      refine lv_iload hx hb d_law_907 (lv_at hl 1 rfl) ?_
      refine lv_if_ne (tgt := 924) hx hb d_law_909 (by decide) (fun c_5 => ?_) (fun c_5 => ?_)
      · -- taken
        refine lv_goto (tgt := 1965) hx hb d_law_924 (by decide) ?_
        refine W.widen (k := cells + 20) (n := slots + 200) (by omega) (by omega) ?_
        have hI9 : LI dC dI cJ cI cR A out b0 m0 H := LG.mk hP hD hR
        exact cont _ _ _ hS hI9 (lv_sub hl [2, 3, 4, 5, 6] rfl)
      · -- not taken
        exact absurd c_5 (by decide)
    · -- not taken
      exact absurd c_4 (by decide)
  rcases Nat.lt_or_ge n 150 with hn9 | hn9
  rotate_left
  · -- it holds
    refine lv_aload_n hx hb d_law_591 rfl (lv_at hl 3 rfl) ?_
    refine lv_aload_n hx hb d_law_592 rfl (lv_at hl 4 rfl) ?_
    refine lv_iload hx hb d_law_593 (lv_at hl 0 rfl) ?_
    refine lv_iconst (v := 1) hx hb d_law_595 (by decide) ?_
    refine lv_iadd hx hb d_law_596 ?_
    rw [show ((nI i) + 1 : Int32) = nI (i + 1) from nI_add _ 1]
    refine va_sld hx hb hX hbl hbA hS (vp_in_nI (by omega) (by omega)) d_law_597 ?_
    rw [show (xs (nI (i + 1)).toNatClampNeg : Int32) = xs (i + 1) from by rw [nI_clamp (by omega)]]
    rw [show (xs (i + 1) : Int32) = x1 from hx1.symm]
    refine lv_aload_n hx hb d_law_598 rfl (lv_at hl 4 rfl) ?_
    refine lv_iload hx hb d_law_599 (lv_at hl 0 rfl) ?_
    refine lv_iconst (v := 2) hx hb d_law_601 (by decide) ?_
    refine lv_iadd hx hb d_law_602 ?_
    rw [show ((nI i) + 2 : Int32) = nI (i + 2) from nI_add _ 2]
    refine va_sld hx hb hX hbl hbA hS (vp_in_nI (by omega) (by omega)) d_law_603 ?_
    rw [show (xs (nI (i + 2)).toNatClampNeg : Int32) = xs (i + 2) from by rw [nI_clamp (by omega)]]
    refine lv_i2l (v := (xs (i + 2) : Int32).toInt64) hx hb d_law_604 rfl ?_
    refine lv_bipush (v := 32) hx hb d_law_605 (by decide) ?_
    refine lv_lshl (v := ((xs (i + 2) : Int32).toInt64 : Int64) <<< ((32 : Int32).toInt64 &&& 63)) hx hb d_law_607 rfl ?_
    refine lv_aload_n hx hb d_law_608 rfl (lv_at hl 4 rfl) ?_
    refine lv_iload hx hb d_law_609 (lv_at hl 0 rfl) ?_
    refine lv_iconst (v := 3) hx hb d_law_611 (by decide) ?_
    refine lv_iadd hx hb d_law_612 ?_
    rw [show ((nI i) + 3 : Int32) = nI (i + 3) from nI_add _ 3]
    refine va_sld hx hb hX hbl hbA hS (vp_in_nI (by omega) (by omega)) d_law_613 ?_
    rw [show (xs (nI (i + 3)).toNatClampNeg : Int32) = xs (i + 3) from by rw [nI_clamp (by omega)]]
    refine lv_i2l (v := (xs (i + 3) : Int32).toInt64) hx hb d_law_614 rfl ?_
    refine lv_ldc2 (v := 4294967295) hx hb hown (hts _ (List.mem_cons_of_mem _ gk_1202)) d_law_615 ?_
    refine lv_land hx hb d_law_618 ?_
    refine lv_lor hx hb d_law_619 ?_
    rw [show ((((xs (i + 2) : Int32).toInt64 : Int64) <<< ((32 : Int32).toInt64 &&& 63)) ||| (((xs (i + 3) : Int32).toInt64) &&& 4294967295) : Int64) = x2 from hx2.symm]
    refine lv_aload_n hx hb d_law_620 rfl (lv_at hl 4 rfl) ?_
    refine lv_iload hx hb d_law_621 (lv_at hl 0 rfl) ?_
    refine lv_iconst (v := 4) hx hb d_law_623 (by decide) ?_
    refine lv_iadd hx hb d_law_624 ?_
    rw [show ((nI i) + 4 : Int32) = nI (i + 4) from nI_add _ 4]
    refine va_sld hx hb hX hbl hbA hS (vp_in_nI (by omega) (by omega)) d_law_625 ?_
    rw [show (xs (nI (i + 4)).toNatClampNeg : Int32) = xs (i + 4) from by rw [nI_clamp (by omega)]]
    refine lv_i2l (v := (xs (i + 4) : Int32).toInt64) hx hb d_law_626 rfl ?_
    refine lv_bipush (v := 32) hx hb d_law_627 (by decide) ?_
    refine lv_lshl (v := ((xs (i + 4) : Int32).toInt64 : Int64) <<< ((32 : Int32).toInt64 &&& 63)) hx hb d_law_629 rfl ?_
    refine lv_aload_n hx hb d_law_630 rfl (lv_at hl 4 rfl) ?_
    refine lv_iload hx hb d_law_631 (lv_at hl 0 rfl) ?_
    refine lv_iconst (v := 5) hx hb d_law_633 (by decide) ?_
    refine lv_iadd hx hb d_law_634 ?_
    rw [show ((nI i) + 5 : Int32) = nI (i + 5) from nI_add _ 5]
    refine va_sld hx hb hX hbl hbA hS (vp_in_nI (by omega) (by omega)) d_law_635 ?_
    rw [show (xs (nI (i + 5)).toNatClampNeg : Int32) = xs (i + 5) from by rw [nI_clamp (by omega)]]
    refine lv_i2l (v := (xs (i + 5) : Int32).toInt64) hx hb d_law_636 rfl ?_
    refine lv_ldc2 (v := 4294967295) hx hb hown (hts _ (List.mem_cons_of_mem _ gk_1202)) d_law_637 ?_
    refine lv_land hx hb d_law_640 ?_
    refine lv_lor hx hb d_law_641 ?_
    rw [show ((((xs (i + 4) : Int32).toInt64 : Int64) <<< ((32 : Int32).toInt64 &&& 63)) ||| (((xs (i + 5) : Int32).toInt64) &&& 4294967295) : Int64) = x3 from hx3.symm]
    refine lv_aload_n hx hb d_law_642 rfl (lv_at hl 4 rfl) ?_
    refine lv_iload hx hb d_law_643 (lv_at hl 0 rfl) ?_
    refine lv_bipush (v := 6) hx hb d_law_645 (by decide) ?_
    refine lv_iadd hx hb d_law_647 ?_
    rw [show ((nI i) + 6 : Int32) = nI (i + 6) from nI_add _ 6]
    refine va_sld hx hb hX hbl hbA hS (vp_in_nI (by omega) (by omega)) d_law_648 ?_
    rw [show (xs (nI (i + 6)).toNatClampNeg : Int32) = xs (i + 6) from by rw [nI_clamp (by omega)]]
    refine lv_i2l (v := (xs (i + 6) : Int32).toInt64) hx hb d_law_649 rfl ?_
    refine lv_bipush (v := 32) hx hb d_law_650 (by decide) ?_
    refine lv_lshl (v := ((xs (i + 6) : Int32).toInt64 : Int64) <<< ((32 : Int32).toInt64 &&& 63)) hx hb d_law_652 rfl ?_
    refine lv_aload_n hx hb d_law_653 rfl (lv_at hl 4 rfl) ?_
    refine lv_iload hx hb d_law_654 (lv_at hl 0 rfl) ?_
    refine lv_bipush (v := 7) hx hb d_law_656 (by decide) ?_
    refine lv_iadd hx hb d_law_658 ?_
    rw [show ((nI i) + 7 : Int32) = nI (i + 7) from nI_add _ 7]
    refine va_sld hx hb hX hbl hbA hS (vp_in_nI (by omega) (by omega)) d_law_659 ?_
    rw [show (xs (nI (i + 7)).toNatClampNeg : Int32) = xs (i + 7) from by rw [nI_clamp (by omega)]]
    refine lv_i2l (v := (xs (i + 7) : Int32).toInt64) hx hb d_law_660 rfl ?_
    refine lv_ldc2 (v := 4294967295) hx hb hown (hts _ (List.mem_cons_of_mem _ gk_1202)) d_law_661 ?_
    refine lv_land hx hb d_law_664 ?_
    refine lv_lor hx hb d_law_665 ?_
    rw [show ((((xs (i + 6) : Int32).toInt64 : Int64) <<< ((32 : Int32).toInt64 &&& 63)) ||| (((xs (i + 7) : Int32).toInt64) &&& 4294967295) : Int64) = x4 from hx4.symm]
    refine lv_aload_n hx hb d_law_666 rfl (lv_at hl 4 rfl) ?_
    refine lv_iload hx hb d_law_667 (lv_at hl 0 rfl) ?_
    refine lv_bipush (v := 8) hx hb d_law_669 (by decide) ?_
    refine lv_iadd hx hb d_law_671 ?_
    rw [show ((nI i) + 8 : Int32) = nI (i + 8) from nI_add _ 8]
    refine va_sld hx hb hX hbl hbA hS (vp_in_nI (by omega) (by omega)) d_law_672 ?_
    rw [show (xs (nI (i + 8)).toNatClampNeg : Int32) = xs (i + 8) from by rw [nI_clamp (by omega)]]
    refine lv_i2l (v := (xs (i + 8) : Int32).toInt64) hx hb d_law_673 rfl ?_
    refine lv_bipush (v := 32) hx hb d_law_674 (by decide) ?_
    refine lv_lshl (v := ((xs (i + 8) : Int32).toInt64 : Int64) <<< ((32 : Int32).toInt64 &&& 63)) hx hb d_law_676 rfl ?_
    refine lv_aload_n hx hb d_law_677 rfl (lv_at hl 4 rfl) ?_
    refine lv_iload hx hb d_law_678 (lv_at hl 0 rfl) ?_
    refine lv_bipush (v := 9) hx hb d_law_680 (by decide) ?_
    refine lv_iadd hx hb d_law_682 ?_
    rw [show ((nI i) + 9 : Int32) = nI (i + 9) from nI_add _ 9]
    refine va_sld hx hb hX hbl hbA hS (vp_in_nI (by omega) (by omega)) d_law_683 ?_
    rw [show (xs (nI (i + 9)).toNatClampNeg : Int32) = xs (i + 9) from by rw [nI_clamp (by omega)]]
    refine lv_i2l (v := (xs (i + 9) : Int32).toInt64) hx hb d_law_684 rfl ?_
    refine lv_ldc2 (v := 4294967295) hx hb hown (hts _ (List.mem_cons_of_mem _ gk_1202)) d_law_685 ?_
    refine lv_land hx hb d_law_688 ?_
    refine lv_lor hx hb d_law_689 ?_
    rw [show ((((xs (i + 8) : Int32).toInt64 : Int64) <<< ((32 : Int32).toInt64 &&& 63)) ||| (((xs (i + 9) : Int32).toInt64) &&& 4294967295) : Int64) = x5 from hx5.symm]
    refine lv_aload_n hx hb d_law_690 rfl (lv_at hl 4 rfl) ?_
    refine lv_iload hx hb d_law_691 (lv_at hl 0 rfl) ?_
    refine lv_bipush (v := 10) hx hb d_law_693 (by decide) ?_
    refine lv_iadd hx hb d_law_695 ?_
    rw [show ((nI i) + 10 : Int32) = nI (i + 10) from nI_add _ 10]
    refine va_sld hx hb hX hbl hbA hS (vp_in_nI (by omega) (by omega)) d_law_696 ?_
    rw [show (xs (nI (i + 10)).toNatClampNeg : Int32) = xs (i + 10) from by rw [nI_clamp (by omega)]]
    refine lv_i2l (v := (xs (i + 10) : Int32).toInt64) hx hb d_law_697 rfl ?_
    refine lv_bipush (v := 32) hx hb d_law_698 (by decide) ?_
    refine lv_lshl (v := ((xs (i + 10) : Int32).toInt64 : Int64) <<< ((32 : Int32).toInt64 &&& 63)) hx hb d_law_700 rfl ?_
    refine lv_aload_n hx hb d_law_701 rfl (lv_at hl 4 rfl) ?_
    refine lv_iload hx hb d_law_702 (lv_at hl 0 rfl) ?_
    refine lv_bipush (v := 11) hx hb d_law_704 (by decide) ?_
    refine lv_iadd hx hb d_law_706 ?_
    rw [show ((nI i) + 11 : Int32) = nI (i + 11) from nI_add _ 11]
    refine va_sld hx hb hX hbl hbA hS (vp_in_nI (by omega) (by omega)) d_law_707 ?_
    rw [show (xs (nI (i + 11)).toNatClampNeg : Int32) = xs (i + 11) from by rw [nI_clamp (by omega)]]
    refine lv_i2l (v := (xs (i + 11) : Int32).toInt64) hx hb d_law_708 rfl ?_
    refine lv_ldc2 (v := 4294967295) hx hb hown (hts _ (List.mem_cons_of_mem _ gk_1202)) d_law_709 ?_
    refine lv_land hx hb d_law_712 ?_
    refine lv_lor hx hb d_law_713 ?_
    rw [show ((((xs (i + 10) : Int32).toInt64 : Int64) <<< ((32 : Int32).toInt64 &&& 63)) ||| (((xs (i + 11) : Int32).toInt64) &&& 4294967295) : Int64) = x6 from hx6.symm]
    refine lv_aload_n hx hb d_law_714 rfl (lv_at hl 4 rfl) ?_
    refine lv_iload hx hb d_law_715 (lv_at hl 0 rfl) ?_
    refine lv_bipush (v := 12) hx hb d_law_717 (by decide) ?_
    refine lv_iadd hx hb d_law_719 ?_
    rw [show ((nI i) + 12 : Int32) = nI (i + 12) from nI_add _ 12]
    refine va_sld hx hb hX hbl hbA hS (vp_in_nI (by omega) (by omega)) d_law_720 ?_
    rw [show (xs (nI (i + 12)).toNatClampNeg : Int32) = xs (i + 12) from by rw [nI_clamp (by omega)]]
    refine lv_i2l (v := (xs (i + 12) : Int32).toInt64) hx hb d_law_721 rfl ?_
    refine lv_bipush (v := 32) hx hb d_law_722 (by decide) ?_
    refine lv_lshl (v := ((xs (i + 12) : Int32).toInt64 : Int64) <<< ((32 : Int32).toInt64 &&& 63)) hx hb d_law_724 rfl ?_
    refine lv_aload_n hx hb d_law_725 rfl (lv_at hl 4 rfl) ?_
    refine lv_iload hx hb d_law_726 (lv_at hl 0 rfl) ?_
    refine lv_bipush (v := 13) hx hb d_law_728 (by decide) ?_
    refine lv_iadd hx hb d_law_730 ?_
    rw [show ((nI i) + 13 : Int32) = nI (i + 13) from nI_add _ 13]
    refine va_sld hx hb hX hbl hbA hS (vp_in_nI (by omega) (by omega)) d_law_731 ?_
    rw [show (xs (nI (i + 13)).toNatClampNeg : Int32) = xs (i + 13) from by rw [nI_clamp (by omega)]]
    refine lv_i2l (v := (xs (i + 13) : Int32).toInt64) hx hb d_law_732 rfl ?_
    refine lv_ldc2 (v := 4294967295) hx hb hown (hts _ (List.mem_cons_of_mem _ gk_1202)) d_law_733 ?_
    refine lv_land hx hb d_law_736 ?_
    refine lv_lor hx hb d_law_737 ?_
    rw [show ((((xs (i + 12) : Int32).toInt64 : Int64) <<< ((32 : Int32).toInt64 &&& 63)) ||| (((xs (i + 13) : Int32).toInt64) &&& 4294967295) : Int64) = x7 from hx7.symm]
    refine lv_aload_n hx hb d_law_738 rfl (lv_at hl 1 rfl) ?_
    have hPc := hP.part (cx := (jw_ws out cJ 1 of ++ (bb_ws b0 bd0 pr0 t0 au0 da (.ref g0) ++ (rw_ws da cJ (r8 d0 d1 d2 d3 d4 d5 d6 d7) ++ (bd_ws bd0 h0 ro lo n cR (rrf rb) (rrf lb) ++ (pr_ws pr0 h0 cm cJ ccf ++ (ha_ws h0 aw ax ay cJ cI w csc cst cL ++ (tt_ws t0 ka aa ba sa (.ref g0) cJ T ++ gp_ws g0 mF mE P f1 k1 Q f2 k2 G)))))))) [0, 1, 2, 3, 4, 5, 6, 7, 8, 9, 10, 11, 12, 13, 14, 15, 16, 23, 24, 25] rfl
    have hDc := hD.part (cx := (jw_ws out cJ 1 of ++ (bb_ws b0 bd0 pr0 t0 au0 da (.ref g0) ++ (rw_ws da cJ (r8 d0 d1 d2 d3 d4 d5 d6 d7) ++ (bd_ws bd0 h0 ro lo n cR (rrf rb) (rrf lb) ++ (pr_ws pr0 h0 cm cJ ccf ++ (ha_ws h0 aw ax ay cJ cI w csc cst cL ++ (tt_ws t0 ka aa ba sa (.ref g0) cJ T ++ gp_ws g0 mF mE P f1 k1 Q f2 k2 G)))))))) [0, 1, 2, 3, 4, 5, 6, 7, 8, 9, 10, 11, 12, 13, 14, 15, 16, 23, 24, 25] (by decide) rfl
    have hKc := hK.sub (tys' := [(cJ, .long), (cI, .int), (cR, .array .long)]) [0, 1, 2] rfl
    have hFc := va_freeP (cx := (jw_ws out cJ 1 of ++ (bb_ws b0 bd0 pr0 t0 au0 da (.ref g0) ++ (rw_ws da cJ (r8 d0 d1 d2 d3 d4 d5 d6 d7) ++ (bd_ws bd0 h0 ro lo n cR (rrf rb) (rrf lb) ++ (pr_ws pr0 h0 cm cJ ccf ++ (ha_ws h0 aw ax ay cJ cI w csc cst cL ++ (tt_ws t0 ka aa ba sa (.ref g0) cJ T ++ gp_ws g0 mF mE P f1 k1 Q f2 k2 G)))))))) hD hS hA [0, 1, 2, 3, 4, 5, 6, 7, 8, 9, 10, 11, 12, 13, 14, 15, 16, 23, 24, 25] rfl
    have hZc0 : ha_Z rA sA (va_A ((jw_ws out cJ 1 of ++ (bb_ws b0 bd0 pr0 t0 au0 da (.ref g0) ++ (rw_ws da cJ (r8 d0 d1 d2 d3 d4 d5 d6 d7) ++ (bd_ws bd0 h0 ro lo n cR (rrf rb) (rrf lb) ++ (pr_ws pr0 h0 cm cJ ccf ++ (ha_ws h0 aw ax ay cJ cI w csc cst cL ++ (tt_ws t0 ka aa ba sa (.ref g0) cJ T ++ gp_ws g0 mF mE P f1 k1 Q f2 k2 G))))))) ++ bpool rb lb cJ R Lk) H.size) s H := (hZha.kept hS.2.1).narrow hFc
    have hZc1 : xz (va_A ((jw_ws out cJ 1 of ++ (bb_ws b0 bd0 pr0 t0 au0 da (.ref g0) ++ (rw_ws da cJ (r8 d0 d1 d2 d3 d4 d5 d6 d7) ++ (bd_ws bd0 h0 ro lo n cR (rrf rb) (rrf lb) ++ (pr_ws pr0 h0 cm cJ ccf ++ (ha_ws h0 aw ax ay cJ cI w csc cst cL ++ (tt_ws t0 ka aa ba sa (.ref g0) cJ T ++ gp_ws g0 mF mE P f1 k1 Q f2 k2 G))))))) ++ bpool rb lb cJ R Lk) H.size) s H := (hZx.kept hS.2.1).narrow hFc
    have hZc2 : nc_Z s := hZn
    refine vx_calli (vx_runSX (hh := h_Lw_ballot) (As := [.ref b0, .int x1, .long x2, .long x3, .long x4, .long x5, .long x6, .long x7, .ref out]) (rest := []) ⟨hx, hb, hml, hown, hts⟩ (c_Lw_ballot_2 l hnt dC dI cJ cI cR H.size b0 bd0 pr0 t0 au0 da h0 ro lo n rb lb cm ccf aw ax ay w csc cst cL ka aa ba sa T g0 mF mE P f1 k1 Q f2 k2 G rA sA R Lk d0 d1 d2 d3 d4 d5 d6 d7 x1 x2 x3 x4 x5 x6 x7 out of hok htok hN0 htn hkc hn hn0B hC1 hn9) (vx_cwSW 9 hts (gw_Sv gk_624 gk_625 gk_0 gk_626) rfl rfl rfl (by decide +kernel) ⟨(Nat.le_of_ble_eq_true rfl), (Nat.le_of_ble_eq_true rfl)⟩) ⟨fun a U g mk q => by obtain ⟨q0, q1, qP, qK, qD, qZ0, qZ1, qZ2⟩ := q; exact ⟨q0, q1, qP, va_K.moved (u := U) (U := U.calling g mk a) (Vm.Alike.refl U.vm) qK, qD, ha_Z.moved (u := U) (U := U.calling g mk a) (Vm.Alike.refl U.vm) qZ0, xz.same (u := U) (U := U.calling g mk a) rfl qZ1, nc_Z.moved (u := U) (U := U.calling g mk a) (Vm.Alike.refl U.vm) qZ2⟩, fun U hU hW => ⟨rfl, by rw [hU], by rw [hU]; exact hPc, va_K.moved hW.alike hKc, hDc.weaken (fun _ _ _ _ => trivial), by rw [hU]; exact ha_Z.moved hW.alike hZc0, by rw [hU]; exact xz.warm hW hZc1, nc_Z.moved hW.alike hZc2⟩⟩ rfl rfl hl.1 rfl (lv_room (Nat.le_of_ble_eq_true rfl)) d_law_739 ⟨show cells + 8 ≤ 601024 by omega, show slots + 48 ≤ 7293034 by omega⟩) hS (fun q _ h => hFc q h) hFc (fun q _ h => hFc q h) (fun E9 ce9 q9 u8 t9 H1 locs ht hvm hpx hbx hz1 hk1 hS hce hcv hcl => hpx.elim) (fun r_6 u9 t9 H1 locs ht hvm hw hB hz1 hk1 hS => ?_)
    obtain ⟨hP1, hK1, hD1⟩ := hB
    rw [ht] at hP1
    obtain ⟨hP, hD⟩ := va_joinP (X := (jw_ws out cJ 1 of ++ (bb_ws b0 bd0 pr0 t0 au0 da (.ref g0) ++ (rw_ws da cJ (r8 d0 d1 d2 d3 d4 d5 d6 d7) ++ (bd_ws bd0 h0 ro lo n cR (rrf rb) (rrf lb) ++ (pr_ws pr0 h0 cm cJ ccf ++ (ha_ws h0 aw ax ay cJ cI w csc cst cL ++ (tt_ws t0 ka aa ba sa (.ref g0) cJ T ++ (au_ws au0 bd0 pr0 tu0 sd ++ (tt_ws tu0 uka uaa uba usa gu cJ T0 ++ (gp_ws g0 mF mE P f1 k1 Q f2 k2 G ++ (mo_ws m0 e0 (nI (t_tn T)) (nI n) (nI (t_bc T)) (lN P) (lN Q) (lN G) (lN (ckey (t_tn T) (t_kc T) (t_kp T))) (lN (t_pa T)) (lN (t_pb T)) (t_sht T) a0 a1 a2 a3 a4 a5 a6 a7 a8 a9 mb0 mb1 oc mb2 mb3 mb4 mb5 ++ (iw_ws a7 cI 256 bf ++ (iw_ws a8 cI 64 sc ++ (iw_ws a9 cI 8 st ++ (iw_ws mb0 cI 8 kS ++ (iw_ws mb1 cI 64 kR ++ (jw_ws a2 cJ 4 tf ++ (jw_ws a0 cJ 1232 nf ++ (jw_ws a1 cJ 616 cf ++ (iw_ws a4 cI 4 kf ++ (jw_ws mb2 cJ 4 ky ++ (jw_ws a3 cJ 16 lf ++ (iw_ws a5 cI 4 sf ++ (iw_ws a6 cI 64 vf ++ (jw_ws mb3 cJ 128 md ++ (jw_ws mb4 cJ 4 sh ++ iw_ws mb5 cI 64 ct))))))))))))))))))))))))))) (cx := (jw_ws out cJ 1 of ++ (bb_ws b0 bd0 pr0 t0 au0 da (.ref g0) ++ (rw_ws da cJ (r8 d0 d1 d2 d3 d4 d5 d6 d7) ++ (bd_ws bd0 h0 ro lo n cR (rrf rb) (rrf lb) ++ (pr_ws pr0 h0 cm cJ ccf ++ (ha_ws h0 aw ax ay cJ cI w csc cst cL ++ (tt_ws t0 ka aa ba sa (.ref g0) cJ T ++ gp_ws g0 mF mE P f1 k1 Q f2 k2 G)))))))) (wr := (au_ws au0 bd0 pr0 tu0 sd ++ (tt_ws tu0 uka uaa uba usa gu cJ T0 ++ (mo_ws m0 e0 (nI (t_tn T)) (nI n) (nI (t_bc T)) (lN P) (lN Q) (lN G) (lN (ckey (t_tn T) (t_kc T) (t_kp T))) (lN (t_pa T)) (lN (t_pb T)) (t_sht T) a0 a1 a2 a3 a4 a5 a6 a7 a8 a9 mb0 mb1 oc mb2 mb3 mb4 mb5 ++ (iw_ws a7 cI 256 bf ++ (iw_ws a8 cI 64 sc ++ (iw_ws a9 cI 8 st ++ (iw_ws mb0 cI 8 kS ++ (iw_ws mb1 cI 64 kR ++ (jw_ws a2 cJ 4 tf ++ (jw_ws a0 cJ 1232 nf ++ (jw_ws a1 cJ 616 cf ++ (iw_ws a4 cI 4 kf ++ (jw_ws mb2 cJ 4 ky ++ (jw_ws a3 cJ 16 lf ++ (iw_ws a5 cI 4 sf ++ (iw_ws a6 cI 64 vf ++ (jw_ws mb3 cJ 128 md ++ (jw_ws mb4 cJ 4 sh ++ iw_ws mb5 cI 64 ct))))))))))))))))))) (rx := (jw_ws out cJ 1 of ++ (bb_ws b0 bd0 pr0 t0 au0 da (.ref g0) ++ (rw_ws da cJ (r8 u9.1.1 u9.1.2.1 u9.1.2.2.1 u9.1.2.2.2.1 u9.1.2.2.2.2.1 u9.1.2.2.2.2.2.1 u9.1.2.2.2.2.2.2.1 u9.1.2.2.2.2.2.2.2) ++ (bd_ws bd0 h0 ro lo n cR (rrf rb) (rrf lb) ++ (pr_ws pr0 h0 cm cJ u9.2.1 ++ (hu_ws h0 aw ax ay cJ cI u9.2.2 ++ (tt_ws t0 ka aa ba sa (.ref g0) cJ T ++ gp_ws g0 mF mE P f1 k1 Q f2 k2 G)))))))) (pl := bpool rb lb cJ R Lk) (pl1 := bpool rb lb cJ R Lk) hP hD [0, 1, 2, 3, 4, 5, 6, 7, 8, 9, 10, 11, 12, 13, 14, 15, 16, 23, 24, 25] [17, 18, 19, 20, 21, 22, 26, 27, 28, 29, 30, 31, 32, 33, 34, 35, 36, 37, 38, 39, 40, 41, 42] rfl rfl (by decide) (by decide) hk1 hFc hP1 hD1
    have hP := hP.part (cx := (jw_ws out cJ 1 of ++ (bb_ws b0 bd0 pr0 t0 au0 da (.ref g0) ++ (rw_ws da cJ (r8 u9.1.1 u9.1.2.1 u9.1.2.2.1 u9.1.2.2.2.1 u9.1.2.2.2.2.1 u9.1.2.2.2.2.2.1 u9.1.2.2.2.2.2.2.1 u9.1.2.2.2.2.2.2.2) ++ (bd_ws bd0 h0 ro lo n cR (rrf rb) (rrf lb) ++ (pr_ws pr0 h0 cm cJ u9.2.1 ++ (hu_ws h0 aw ax ay cJ cI u9.2.2 ++ (tt_ws t0 ka aa ba sa (.ref g0) cJ T ++ (au_ws au0 bd0 pr0 tu0 sd ++ (tt_ws tu0 uka uaa uba usa gu cJ T0 ++ (gp_ws g0 mF mE P f1 k1 Q f2 k2 G ++ (mo_ws m0 e0 (nI (t_tn T)) (nI n) (nI (t_bc T)) (lN P) (lN Q) (lN G) (lN (ckey (t_tn T) (t_kc T) (t_kp T))) (lN (t_pa T)) (lN (t_pb T)) (t_sht T) a0 a1 a2 a3 a4 a5 a6 a7 a8 a9 mb0 mb1 oc mb2 mb3 mb4 mb5 ++ (iw_ws a7 cI 256 bf ++ (iw_ws a8 cI 64 sc ++ (iw_ws a9 cI 8 st ++ (iw_ws mb0 cI 8 kS ++ (iw_ws mb1 cI 64 kR ++ (jw_ws a2 cJ 4 tf ++ (jw_ws a0 cJ 1232 nf ++ (jw_ws a1 cJ 616 cf ++ (iw_ws a4 cI 4 kf ++ (jw_ws mb2 cJ 4 ky ++ (jw_ws a3 cJ 16 lf ++ (iw_ws a5 cI 4 sf ++ (iw_ws a6 cI 64 vf ++ (jw_ws mb3 cJ 128 md ++ (jw_ws mb4 cJ 4 sh ++ iw_ws mb5 cI 64 ct))))))))))))))))))))))))))) [23, 24, 25, 26, 27, 28, 29, 30, 31, 32, 33, 34, 35, 36, 37, 38, 39, 0, 1, 2, 3, 4, 5, 40, 41, 42, 6, 7, 8, 9, 10, 11, 12, 13, 14, 15, 16, 17, 18, 19, 20, 21, 22] rfl
    have hD := hD.part (cx := (jw_ws out cJ 1 of ++ (bb_ws b0 bd0 pr0 t0 au0 da (.ref g0) ++ (rw_ws da cJ (r8 u9.1.1 u9.1.2.1 u9.1.2.2.1 u9.1.2.2.2.1 u9.1.2.2.2.2.1 u9.1.2.2.2.2.2.1 u9.1.2.2.2.2.2.2.1 u9.1.2.2.2.2.2.2.2) ++ (bd_ws bd0 h0 ro lo n cR (rrf rb) (rrf lb) ++ (pr_ws pr0 h0 cm cJ u9.2.1 ++ (hu_ws h0 aw ax ay cJ cI u9.2.2 ++ (tt_ws t0 ka aa ba sa (.ref g0) cJ T ++ (au_ws au0 bd0 pr0 tu0 sd ++ (tt_ws tu0 uka uaa uba usa gu cJ T0 ++ (gp_ws g0 mF mE P f1 k1 Q f2 k2 G ++ (mo_ws m0 e0 (nI (t_tn T)) (nI n) (nI (t_bc T)) (lN P) (lN Q) (lN G) (lN (ckey (t_tn T) (t_kc T) (t_kp T))) (lN (t_pa T)) (lN (t_pb T)) (t_sht T) a0 a1 a2 a3 a4 a5 a6 a7 a8 a9 mb0 mb1 oc mb2 mb3 mb4 mb5 ++ (iw_ws a7 cI 256 bf ++ (iw_ws a8 cI 64 sc ++ (iw_ws a9 cI 8 st ++ (iw_ws mb0 cI 8 kS ++ (iw_ws mb1 cI 64 kR ++ (jw_ws a2 cJ 4 tf ++ (jw_ws a0 cJ 1232 nf ++ (jw_ws a1 cJ 616 cf ++ (iw_ws a4 cI 4 kf ++ (jw_ws mb2 cJ 4 ky ++ (jw_ws a3 cJ 16 lf ++ (iw_ws a5 cI 4 sf ++ (iw_ws a6 cI 64 vf ++ (jw_ws mb3 cJ 128 md ++ (jw_ws mb4 cJ 4 sh ++ iw_ws mb5 cI 64 ct))))))))))))))))))))))))))) [23, 24, 25, 26, 27, 28, 29, 30, 31, 32, 33, 34, 35, 36, 37, 38, 39, 0, 1, 2, 3, 4, 5, 40, 41, 42, 6, 7, 8, 9, 10, 11, 12, 13, 14, 15, 16, 17, 18, 19, 20, 21, 22] (by decide) rfl
    generalize H1 = H at hP hS ⊢
    clear hPc hDc hFc hP1 hD1 hK1 ht hk1 hz1
    have hr9 : r_6 = 2 := hw
    subst hr9
    refine lv_istore (lv' := [(5, .int 2), (4, .int (nI i)), (3, .ref out), (2, .ref m0), (1, .ref b0), (0, .ref b)]) hx hb d_law_742 hl (by decide) rfl (fun ls hl => ?_)
    refine lv_aload_n hx hb d_law_744 rfl (lv_at hl 3 rfl) ?_
    refine lv_aload_n hx hb d_law_745 rfl (lv_at hl 5 rfl) ?_
    refine lv_iload hx hb d_law_746 (lv_at hl 1 rfl) ?_
    refine lv_iconst (v := 1) hx hb d_law_748 (by decide) ?_
    refine lv_iadd hx hb d_law_749 ?_
    rw [show ((nI i) + 1 : Int32) = nI (i + 1) from nI_add _ 1]
    refine va_sld hx hb hX hbl hbA hS (vp_in_nI (by omega) (by omega)) d_law_750 ?_
    rw [show (xs (nI (i + 1)).toNatClampNeg : Int32) = xs (i + 1) from by rw [nI_clamp (by omega)]]
    rw [show (xs (i + 1) : Int32) = x1 from hx1.symm]
    refine lv_aload_n hx hb d_law_751 rfl (lv_at hl 5 rfl) ?_
    refine lv_iload hx hb d_law_752 (lv_at hl 1 rfl) ?_
    refine lv_iconst (v := 2) hx hb d_law_754 (by decide) ?_
    refine lv_iadd hx hb d_law_755 ?_
    rw [show ((nI i) + 2 : Int32) = nI (i + 2) from nI_add _ 2]
    refine va_sld hx hb hX hbl hbA hS (vp_in_nI (by omega) (by omega)) d_law_756 ?_
    rw [show (xs (nI (i + 2)).toNatClampNeg : Int32) = xs (i + 2) from by rw [nI_clamp (by omega)]]
    refine lv_i2l (v := (xs (i + 2) : Int32).toInt64) hx hb d_law_757 rfl ?_
    refine lv_bipush (v := 32) hx hb d_law_758 (by decide) ?_
    refine lv_lshl (v := ((xs (i + 2) : Int32).toInt64 : Int64) <<< ((32 : Int32).toInt64 &&& 63)) hx hb d_law_760 rfl ?_
    refine lv_aload_n hx hb d_law_761 rfl (lv_at hl 5 rfl) ?_
    refine lv_iload hx hb d_law_762 (lv_at hl 1 rfl) ?_
    refine lv_iconst (v := 3) hx hb d_law_764 (by decide) ?_
    refine lv_iadd hx hb d_law_765 ?_
    rw [show ((nI i) + 3 : Int32) = nI (i + 3) from nI_add _ 3]
    refine va_sld hx hb hX hbl hbA hS (vp_in_nI (by omega) (by omega)) d_law_766 ?_
    rw [show (xs (nI (i + 3)).toNatClampNeg : Int32) = xs (i + 3) from by rw [nI_clamp (by omega)]]
    refine lv_i2l (v := (xs (i + 3) : Int32).toInt64) hx hb d_law_767 rfl ?_
    refine lv_ldc2 (v := 4294967295) hx hb hown (hts _ (List.mem_cons_of_mem _ gk_1202)) d_law_768 ?_
    refine lv_land hx hb d_law_771 ?_
    refine lv_lor hx hb d_law_772 ?_
    rw [show ((((xs (i + 2) : Int32).toInt64 : Int64) <<< ((32 : Int32).toInt64 &&& 63)) ||| (((xs (i + 3) : Int32).toInt64) &&& 4294967295) : Int64) = x2 from hx2.symm]
    refine lv_aload_n hx hb d_law_773 rfl (lv_at hl 5 rfl) ?_
    refine lv_iload hx hb d_law_774 (lv_at hl 1 rfl) ?_
    refine lv_iconst (v := 4) hx hb d_law_776 (by decide) ?_
    refine lv_iadd hx hb d_law_777 ?_
    rw [show ((nI i) + 4 : Int32) = nI (i + 4) from nI_add _ 4]
    refine va_sld hx hb hX hbl hbA hS (vp_in_nI (by omega) (by omega)) d_law_778 ?_
    rw [show (xs (nI (i + 4)).toNatClampNeg : Int32) = xs (i + 4) from by rw [nI_clamp (by omega)]]
    refine lv_i2l (v := (xs (i + 4) : Int32).toInt64) hx hb d_law_779 rfl ?_
    refine lv_bipush (v := 32) hx hb d_law_780 (by decide) ?_
    refine lv_lshl (v := ((xs (i + 4) : Int32).toInt64 : Int64) <<< ((32 : Int32).toInt64 &&& 63)) hx hb d_law_782 rfl ?_
    refine lv_aload_n hx hb d_law_783 rfl (lv_at hl 5 rfl) ?_
    refine lv_iload hx hb d_law_784 (lv_at hl 1 rfl) ?_
    refine lv_iconst (v := 5) hx hb d_law_786 (by decide) ?_
    refine lv_iadd hx hb d_law_787 ?_
    rw [show ((nI i) + 5 : Int32) = nI (i + 5) from nI_add _ 5]
    refine va_sld hx hb hX hbl hbA hS (vp_in_nI (by omega) (by omega)) d_law_788 ?_
    rw [show (xs (nI (i + 5)).toNatClampNeg : Int32) = xs (i + 5) from by rw [nI_clamp (by omega)]]
    refine lv_i2l (v := (xs (i + 5) : Int32).toInt64) hx hb d_law_789 rfl ?_
    refine lv_ldc2 (v := 4294967295) hx hb hown (hts _ (List.mem_cons_of_mem _ gk_1202)) d_law_790 ?_
    refine lv_land hx hb d_law_793 ?_
    refine lv_lor hx hb d_law_794 ?_
    rw [show ((((xs (i + 4) : Int32).toInt64 : Int64) <<< ((32 : Int32).toInt64 &&& 63)) ||| (((xs (i + 5) : Int32).toInt64) &&& 4294967295) : Int64) = x3 from hx3.symm]
    refine lv_aload_n hx hb d_law_795 rfl (lv_at hl 5 rfl) ?_
    refine lv_iload hx hb d_law_796 (lv_at hl 1 rfl) ?_
    refine lv_bipush (v := 6) hx hb d_law_798 (by decide) ?_
    refine lv_iadd hx hb d_law_800 ?_
    rw [show ((nI i) + 6 : Int32) = nI (i + 6) from nI_add _ 6]
    refine va_sld hx hb hX hbl hbA hS (vp_in_nI (by omega) (by omega)) d_law_801 ?_
    rw [show (xs (nI (i + 6)).toNatClampNeg : Int32) = xs (i + 6) from by rw [nI_clamp (by omega)]]
    refine lv_i2l (v := (xs (i + 6) : Int32).toInt64) hx hb d_law_802 rfl ?_
    refine lv_bipush (v := 32) hx hb d_law_803 (by decide) ?_
    refine lv_lshl (v := ((xs (i + 6) : Int32).toInt64 : Int64) <<< ((32 : Int32).toInt64 &&& 63)) hx hb d_law_805 rfl ?_
    refine lv_aload_n hx hb d_law_806 rfl (lv_at hl 5 rfl) ?_
    refine lv_iload hx hb d_law_807 (lv_at hl 1 rfl) ?_
    refine lv_bipush (v := 7) hx hb d_law_809 (by decide) ?_
    refine lv_iadd hx hb d_law_811 ?_
    rw [show ((nI i) + 7 : Int32) = nI (i + 7) from nI_add _ 7]
    refine va_sld hx hb hX hbl hbA hS (vp_in_nI (by omega) (by omega)) d_law_812 ?_
    rw [show (xs (nI (i + 7)).toNatClampNeg : Int32) = xs (i + 7) from by rw [nI_clamp (by omega)]]
    refine lv_i2l (v := (xs (i + 7) : Int32).toInt64) hx hb d_law_813 rfl ?_
    refine lv_ldc2 (v := 4294967295) hx hb hown (hts _ (List.mem_cons_of_mem _ gk_1202)) d_law_814 ?_
    refine lv_land hx hb d_law_817 ?_
    refine lv_lor hx hb d_law_818 ?_
    rw [show ((((xs (i + 6) : Int32).toInt64 : Int64) <<< ((32 : Int32).toInt64 &&& 63)) ||| (((xs (i + 7) : Int32).toInt64) &&& 4294967295) : Int64) = x4 from hx4.symm]
    refine lv_aload_n hx hb d_law_819 rfl (lv_at hl 5 rfl) ?_
    refine lv_iload hx hb d_law_820 (lv_at hl 1 rfl) ?_
    refine lv_bipush (v := 8) hx hb d_law_822 (by decide) ?_
    refine lv_iadd hx hb d_law_824 ?_
    rw [show ((nI i) + 8 : Int32) = nI (i + 8) from nI_add _ 8]
    refine va_sld hx hb hX hbl hbA hS (vp_in_nI (by omega) (by omega)) d_law_825 ?_
    rw [show (xs (nI (i + 8)).toNatClampNeg : Int32) = xs (i + 8) from by rw [nI_clamp (by omega)]]
    refine lv_i2l (v := (xs (i + 8) : Int32).toInt64) hx hb d_law_826 rfl ?_
    refine lv_bipush (v := 32) hx hb d_law_827 (by decide) ?_
    refine lv_lshl (v := ((xs (i + 8) : Int32).toInt64 : Int64) <<< ((32 : Int32).toInt64 &&& 63)) hx hb d_law_829 rfl ?_
    refine lv_aload_n hx hb d_law_830 rfl (lv_at hl 5 rfl) ?_
    refine lv_iload hx hb d_law_831 (lv_at hl 1 rfl) ?_
    refine lv_bipush (v := 9) hx hb d_law_833 (by decide) ?_
    refine lv_iadd hx hb d_law_835 ?_
    rw [show ((nI i) + 9 : Int32) = nI (i + 9) from nI_add _ 9]
    refine va_sld hx hb hX hbl hbA hS (vp_in_nI (by omega) (by omega)) d_law_836 ?_
    rw [show (xs (nI (i + 9)).toNatClampNeg : Int32) = xs (i + 9) from by rw [nI_clamp (by omega)]]
    refine lv_i2l (v := (xs (i + 9) : Int32).toInt64) hx hb d_law_837 rfl ?_
    refine lv_ldc2 (v := 4294967295) hx hb hown (hts _ (List.mem_cons_of_mem _ gk_1202)) d_law_838 ?_
    refine lv_land hx hb d_law_841 ?_
    refine lv_lor hx hb d_law_842 ?_
    rw [show ((((xs (i + 8) : Int32).toInt64 : Int64) <<< ((32 : Int32).toInt64 &&& 63)) ||| (((xs (i + 9) : Int32).toInt64) &&& 4294967295) : Int64) = x5 from hx5.symm]
    refine lv_aload_n hx hb d_law_843 rfl (lv_at hl 5 rfl) ?_
    refine lv_iload hx hb d_law_844 (lv_at hl 1 rfl) ?_
    refine lv_bipush (v := 10) hx hb d_law_846 (by decide) ?_
    refine lv_iadd hx hb d_law_848 ?_
    rw [show ((nI i) + 10 : Int32) = nI (i + 10) from nI_add _ 10]
    refine va_sld hx hb hX hbl hbA hS (vp_in_nI (by omega) (by omega)) d_law_849 ?_
    rw [show (xs (nI (i + 10)).toNatClampNeg : Int32) = xs (i + 10) from by rw [nI_clamp (by omega)]]
    refine lv_i2l (v := (xs (i + 10) : Int32).toInt64) hx hb d_law_850 rfl ?_
    refine lv_bipush (v := 32) hx hb d_law_851 (by decide) ?_
    refine lv_lshl (v := ((xs (i + 10) : Int32).toInt64 : Int64) <<< ((32 : Int32).toInt64 &&& 63)) hx hb d_law_853 rfl ?_
    refine lv_aload_n hx hb d_law_854 rfl (lv_at hl 5 rfl) ?_
    refine lv_iload hx hb d_law_855 (lv_at hl 1 rfl) ?_
    refine lv_bipush (v := 11) hx hb d_law_857 (by decide) ?_
    refine lv_iadd hx hb d_law_859 ?_
    rw [show ((nI i) + 11 : Int32) = nI (i + 11) from nI_add _ 11]
    refine va_sld hx hb hX hbl hbA hS (vp_in_nI (by omega) (by omega)) d_law_860 ?_
    rw [show (xs (nI (i + 11)).toNatClampNeg : Int32) = xs (i + 11) from by rw [nI_clamp (by omega)]]
    refine lv_i2l (v := (xs (i + 11) : Int32).toInt64) hx hb d_law_861 rfl ?_
    refine lv_ldc2 (v := 4294967295) hx hb hown (hts _ (List.mem_cons_of_mem _ gk_1202)) d_law_862 ?_
    refine lv_land hx hb d_law_865 ?_
    refine lv_lor hx hb d_law_866 ?_
    rw [show ((((xs (i + 10) : Int32).toInt64 : Int64) <<< ((32 : Int32).toInt64 &&& 63)) ||| (((xs (i + 11) : Int32).toInt64) &&& 4294967295) : Int64) = x6 from hx6.symm]
    refine lv_aload_n hx hb d_law_867 rfl (lv_at hl 5 rfl) ?_
    refine lv_iload hx hb d_law_868 (lv_at hl 1 rfl) ?_
    refine lv_bipush (v := 12) hx hb d_law_870 (by decide) ?_
    refine lv_iadd hx hb d_law_872 ?_
    rw [show ((nI i) + 12 : Int32) = nI (i + 12) from nI_add _ 12]
    refine va_sld hx hb hX hbl hbA hS (vp_in_nI (by omega) (by omega)) d_law_873 ?_
    rw [show (xs (nI (i + 12)).toNatClampNeg : Int32) = xs (i + 12) from by rw [nI_clamp (by omega)]]
    refine lv_i2l (v := (xs (i + 12) : Int32).toInt64) hx hb d_law_874 rfl ?_
    refine lv_bipush (v := 32) hx hb d_law_875 (by decide) ?_
    refine lv_lshl (v := ((xs (i + 12) : Int32).toInt64 : Int64) <<< ((32 : Int32).toInt64 &&& 63)) hx hb d_law_877 rfl ?_
    refine lv_aload_n hx hb d_law_878 rfl (lv_at hl 5 rfl) ?_
    refine lv_iload hx hb d_law_879 (lv_at hl 1 rfl) ?_
    refine lv_bipush (v := 13) hx hb d_law_881 (by decide) ?_
    refine lv_iadd hx hb d_law_883 ?_
    rw [show ((nI i) + 13 : Int32) = nI (i + 13) from nI_add _ 13]
    refine va_sld hx hb hX hbl hbA hS (vp_in_nI (by omega) (by omega)) d_law_884 ?_
    rw [show (xs (nI (i + 13)).toNatClampNeg : Int32) = xs (i + 13) from by rw [nI_clamp (by omega)]]
    refine lv_i2l (v := (xs (i + 13) : Int32).toInt64) hx hb d_law_885 rfl ?_
    refine lv_ldc2 (v := 4294967295) hx hb hown (hts _ (List.mem_cons_of_mem _ gk_1202)) d_law_886 ?_
    refine lv_land hx hb d_law_889 ?_
    refine lv_lor hx hb d_law_890 ?_
    rw [show ((((xs (i + 12) : Int32).toInt64 : Int64) <<< ((32 : Int32).toInt64 &&& 63)) ||| (((xs (i + 13) : Int32).toInt64) &&& 4294967295) : Int64) = x7 from hx7.symm]
    have hPc := hP.sub (ws' := (mo_ws m0 e0 (nI (t_tn T)) (nI n) (nI (t_bc T)) (lN P) (lN Q) (lN G) (lN (ckey (t_tn T) (t_kc T) (t_kp T))) (lN (t_pa T)) (lN (t_pb T)) (t_sht T) a0 a1 a2 a3 a4 a5 a6 a7 a8 a9 mb0 mb1 oc mb2 mb3 mb4 mb5 ++ (iw_ws a7 cI 256 bf ++ (iw_ws a8 cI 64 sc ++ (iw_ws a9 cI 8 st ++ (iw_ws mb0 cI 8 kS ++ (iw_ws mb1 cI 64 kR ++ (jw_ws a2 cJ 4 tf ++ (jw_ws a0 cJ 1232 nf ++ (jw_ws a1 cJ 616 cf ++ (iw_ws a6 cI 64 vf ++ (jw_ws mb3 cJ 128 md ++ (iw_ws a4 cI 4 kf ++ jw_ws a3 cJ 16 lf))))))))))))) [26, 27, 28, 29, 30, 31, 32, 33, 34, 39, 40, 35, 37] rfl
    have hDc := hD.sub (ws' := (mo_ws m0 e0 (nI (t_tn T)) (nI n) (nI (t_bc T)) (lN P) (lN Q) (lN G) (lN (ckey (t_tn T) (t_kc T) (t_kp T))) (lN (t_pa T)) (lN (t_pb T)) (t_sht T) a0 a1 a2 a3 a4 a5 a6 a7 a8 a9 mb0 mb1 oc mb2 mb3 mb4 mb5 ++ (iw_ws a7 cI 256 bf ++ (iw_ws a8 cI 64 sc ++ (iw_ws a9 cI 8 st ++ (iw_ws mb0 cI 8 kS ++ (iw_ws mb1 cI 64 kR ++ (jw_ws a2 cJ 4 tf ++ (jw_ws a0 cJ 1232 nf ++ (jw_ws a1 cJ 616 cf ++ (iw_ws a6 cI 64 vf ++ (jw_ws mb3 cJ 128 md ++ (iw_ws a4 cI 4 kf ++ jw_ws a3 cJ 16 lf))))))))))))) [26, 27, 28, 29, 30, 31, 32, 33, 34, 39, 40, 35, 37] (by decide) rfl
    have hKc := hK.sub (tys' := [(cJ, .long), (cI, .int)]) [0, 1] rfl
    have hFc := va_free (wc := (mo_ws m0 e0 (nI (t_tn T)) (nI n) (nI (t_bc T)) (lN P) (lN Q) (lN G) (lN (ckey (t_tn T) (t_kc T) (t_kp T))) (lN (t_pa T)) (lN (t_pb T)) (t_sht T) a0 a1 a2 a3 a4 a5 a6 a7 a8 a9 mb0 mb1 oc mb2 mb3 mb4 mb5 ++ (iw_ws a7 cI 256 bf ++ (iw_ws a8 cI 64 sc ++ (iw_ws a9 cI 8 st ++ (iw_ws mb0 cI 8 kS ++ (iw_ws mb1 cI 64 kR ++ (jw_ws a2 cJ 4 tf ++ (jw_ws a0 cJ 1232 nf ++ (jw_ws a1 cJ 616 cf ++ (iw_ws a6 cI 64 vf ++ (jw_ws mb3 cJ 128 md ++ (iw_ws a4 cI 4 kf ++ jw_ws a3 cJ 16 lf))))))))))))) hD hS hA [26, 27, 28, 29, 30, 31, 32, 33, 34, 39, 40, 35, 37] rfl
    refine va_calli (va_runV (As := [.int x1, .long x2, .long x3, .long x4, .long x5, .long x6, .long x7]) (rest := []) ⟨hx, hb, hml, hown, hts⟩ (c_Bm_ballot_2 l dC dI cJ cI H.size m0 e0 (t_tn T) n (t_bc T) P Q G (ckey (t_tn T) (t_kc T) (t_kp T)) (t_pa T) (t_pb T) (t_sht T) a0 a1 a2 a3 a4 a5 a6 a7 a8 a9 mb0 mb1 oc mb2 mb3 mb4 mb5 bf sc st vf kf tf nf cf md lf (t_ko T) (t_ao T) ky (fun i => lN (t_ao T i)) x1 x2 x3 x4 x5 x6 x7 htn hgr hn hsh0 hrk hrb hal (fun q => hC1 ((bC1_iff hRT).mpr q)) hn9) (cwV 7 hts (gw_V gk_1117 gk_1118 gk_1119 gk_7 gk_1120) rfl rfl rfl (by decide +kernel) ⟨(Nat.le_of_ble_eq_true rfl), (Nat.le_of_ble_eq_true rfl)⟩) ⟨fun a U g mk q => by obtain ⟨q0, q1, qP, qK, qD⟩ := q; exact ⟨q0, q1, qP, va_K.moved (u := U) (U := U.calling g mk a) (Vm.Alike.refl U.vm) qK, qD⟩, va_recv hK hP (ci := 8) (q0 := 26) rfl rfl, fun U hU hW => ⟨rfl, by rw [hU], by rw [hU]; exact hPc, va_K.moved hW.alike hKc, hDc.weaken (fun _ _ _ _ => trivial)⟩⟩ rfl rfl hl.1 rfl (lv_room (Nat.le_of_ble_eq_true rfl)) d_law_891 ⟨show cells + 8 + 0 ≤ 601024 by omega, show slots + 48 + 0 ≤ 7293034 by omega⟩) hS (fun q _ h => hFc q h) hFc (fun r_7 v9 t9 H1 locs ht hvm hw hB hz1 hk1 hS => ?_)
    obtain ⟨hP1, hK1, hD1⟩ := hB
    rw [ht] at hP1
    obtain ⟨hP, hD⟩ := va_joinQ (X := (jw_ws out cJ 1 of ++ (bb_ws b0 bd0 pr0 t0 au0 da (.ref g0) ++ (rw_ws da cJ (r8 u9.1.1 u9.1.2.1 u9.1.2.2.1 u9.1.2.2.2.1 u9.1.2.2.2.2.1 u9.1.2.2.2.2.2.1 u9.1.2.2.2.2.2.2.1 u9.1.2.2.2.2.2.2.2) ++ (bd_ws bd0 h0 ro lo n cR (rrf rb) (rrf lb) ++ (pr_ws pr0 h0 cm cJ u9.2.1 ++ (hu_ws h0 aw ax ay cJ cI u9.2.2 ++ (tt_ws t0 ka aa ba sa (.ref g0) cJ T ++ (au_ws au0 bd0 pr0 tu0 sd ++ (tt_ws tu0 uka uaa uba usa gu cJ T0 ++ (gp_ws g0 mF mE P f1 k1 Q f2 k2 G ++ (mo_ws m0 e0 (nI (t_tn T)) (nI n) (nI (t_bc T)) (lN P) (lN Q) (lN G) (lN (ckey (t_tn T) (t_kc T) (t_kp T))) (lN (t_pa T)) (lN (t_pb T)) (t_sht T) a0 a1 a2 a3 a4 a5 a6 a7 a8 a9 mb0 mb1 oc mb2 mb3 mb4 mb5 ++ (iw_ws a7 cI 256 bf ++ (iw_ws a8 cI 64 sc ++ (iw_ws a9 cI 8 st ++ (iw_ws mb0 cI 8 kS ++ (iw_ws mb1 cI 64 kR ++ (jw_ws a2 cJ 4 tf ++ (jw_ws a0 cJ 1232 nf ++ (jw_ws a1 cJ 616 cf ++ (iw_ws a4 cI 4 kf ++ (jw_ws mb2 cJ 4 ky ++ (jw_ws a3 cJ 16 lf ++ (iw_ws a5 cI 4 sf ++ (iw_ws a6 cI 64 vf ++ (jw_ws mb3 cJ 128 md ++ (jw_ws mb4 cJ 4 sh ++ iw_ws mb5 cI 64 ct))))))))))))))))))))))))))) (cx := (mo_ws m0 e0 (nI (t_tn T)) (nI n) (nI (t_bc T)) (lN P) (lN Q) (lN G) (lN (ckey (t_tn T) (t_kc T) (t_kp T))) (lN (t_pa T)) (lN (t_pb T)) (t_sht T) a0 a1 a2 a3 a4 a5 a6 a7 a8 a9 mb0 mb1 oc mb2 mb3 mb4 mb5 ++ (iw_ws a7 cI 256 bf ++ (iw_ws a8 cI 64 sc ++ (iw_ws a9 cI 8 st ++ (iw_ws mb0 cI 8 kS ++ (iw_ws mb1 cI 64 kR ++ (jw_ws a2 cJ 4 tf ++ (jw_ws a0 cJ 1232 nf ++ (jw_ws a1 cJ 616 cf ++ (iw_ws a6 cI 64 vf ++ (jw_ws mb3 cJ 128 md ++ (iw_ws a4 cI 4 kf ++ jw_ws a3 cJ 16 lf))))))))))))) (wr := (jw_ws out cJ 1 of ++ (bb_ws b0 bd0 pr0 t0 au0 da (.ref g0) ++ (rw_ws da cJ (r8 u9.1.1 u9.1.2.1 u9.1.2.2.1 u9.1.2.2.2.1 u9.1.2.2.2.2.1 u9.1.2.2.2.2.2.1 u9.1.2.2.2.2.2.2.1 u9.1.2.2.2.2.2.2.2) ++ (bd_ws bd0 h0 ro lo n cR (rrf rb) (rrf lb) ++ (pr_ws pr0 h0 cm cJ u9.2.1 ++ (hu_ws h0 aw ax ay cJ cI u9.2.2 ++ (tt_ws t0 ka aa ba sa (.ref g0) cJ T ++ (au_ws au0 bd0 pr0 tu0 sd ++ (tt_ws tu0 uka uaa uba usa gu cJ T0 ++ (gp_ws g0 mF mE P f1 k1 Q f2 k2 G ++ (jw_ws mb2 cJ 4 ky ++ (iw_ws a5 cI 4 sf ++ (jw_ws mb4 cJ 4 sh ++ iw_ws mb5 cI 64 ct)))))))))))))) (w1 := (mo_ws m0 2 (nI (t_tn T)) (nI n) (nI (t_bc T)) (lN P) (lN Q) (lN G) (lN (ckey (t_tn T) (t_kc T) (t_kp T))) (lN (t_pa T)) (lN (t_pb T)) (t_sht T) a0 a1 a2 a3 a4 a5 a6 a7 a8 a9 mb0 mb1 oc mb2 mb3 mb4 mb5 ++ (iw_ws a7 cI 256 bf ++ (iw_ws a8 cI 64 sc ++ (iw_ws a9 cI 8 st ++ (iw_ws mb0 cI 8 kS ++ (iw_ws mb1 cI 64 kR ++ (jw_ws a2 cJ 4 tf ++ (jw_ws a0 cJ 1232 nf ++ (jw_ws a1 cJ 616 cf ++ (iw_ws a6 cI 64 vf ++ (jw_ws mb3 cJ 128 md ++ (iw_ws a4 cI 4 kf ++ jw_ws a3 cJ 16 lf))))))))))))) (pl := bpool rb lb cJ R Lk) hP hD [26, 27, 28, 29, 30, 31, 32, 33, 34, 39, 40, 35, 37] [0, 1, 2, 3, 4, 5, 6, 7, 8, 9, 10, 11, 12, 13, 14, 15, 16, 17, 18, 19, 20, 21, 22, 23, 24, 25, 36, 38, 41, 42] rfl rfl (by decide) (by decide) hk1 hFc hP1 hD1
    have hP := hP.part (cx := (jw_ws out cJ 1 of ++ (bb_ws b0 bd0 pr0 t0 au0 da (.ref g0) ++ (rw_ws da cJ (r8 u9.1.1 u9.1.2.1 u9.1.2.2.1 u9.1.2.2.2.1 u9.1.2.2.2.2.1 u9.1.2.2.2.2.2.1 u9.1.2.2.2.2.2.2.1 u9.1.2.2.2.2.2.2.2) ++ (bd_ws bd0 h0 ro lo n cR (rrf rb) (rrf lb) ++ (pr_ws pr0 h0 cm cJ u9.2.1 ++ (hu_ws h0 aw ax ay cJ cI u9.2.2 ++ (tt_ws t0 ka aa ba sa (.ref g0) cJ T ++ (au_ws au0 bd0 pr0 tu0 sd ++ (tt_ws tu0 uka uaa uba usa gu cJ T0 ++ (gp_ws g0 mF mE P f1 k1 Q f2 k2 G ++ (mo_ws m0 2 (nI (t_tn T)) (nI n) (nI (t_bc T)) (lN P) (lN Q) (lN G) (lN (ckey (t_tn T) (t_kc T) (t_kp T))) (lN (t_pa T)) (lN (t_pb T)) (t_sht T) a0 a1 a2 a3 a4 a5 a6 a7 a8 a9 mb0 mb1 oc mb2 mb3 mb4 mb5 ++ (iw_ws a7 cI 256 bf ++ (iw_ws a8 cI 64 sc ++ (iw_ws a9 cI 8 st ++ (iw_ws mb0 cI 8 kS ++ (iw_ws mb1 cI 64 kR ++ (jw_ws a2 cJ 4 tf ++ (jw_ws a0 cJ 1232 nf ++ (jw_ws a1 cJ 616 cf ++ (iw_ws a4 cI 4 kf ++ (jw_ws mb2 cJ 4 ky ++ (jw_ws a3 cJ 16 lf ++ (iw_ws a5 cI 4 sf ++ (iw_ws a6 cI 64 vf ++ (jw_ws mb3 cJ 128 md ++ (jw_ws mb4 cJ 4 sh ++ iw_ws mb5 cI 64 ct))))))))))))))))))))))))))) [0, 1, 2, 3, 4, 5, 6, 7, 8, 9, 10, 11, 12, 13, 14, 15, 16, 17, 18, 19, 20, 21, 22, 23, 24, 25, 30, 31, 32, 33, 34, 35, 36, 37, 38, 41, 26, 42, 27, 39, 40, 28, 29] rfl
    have hD := hD.part (cx := (jw_ws out cJ 1 of ++ (bb_ws b0 bd0 pr0 t0 au0 da (.ref g0) ++ (rw_ws da cJ (r8 u9.1.1 u9.1.2.1 u9.1.2.2.1 u9.1.2.2.2.1 u9.1.2.2.2.2.1 u9.1.2.2.2.2.2.1 u9.1.2.2.2.2.2.2.1 u9.1.2.2.2.2.2.2.2) ++ (bd_ws bd0 h0 ro lo n cR (rrf rb) (rrf lb) ++ (pr_ws pr0 h0 cm cJ u9.2.1 ++ (hu_ws h0 aw ax ay cJ cI u9.2.2 ++ (tt_ws t0 ka aa ba sa (.ref g0) cJ T ++ (au_ws au0 bd0 pr0 tu0 sd ++ (tt_ws tu0 uka uaa uba usa gu cJ T0 ++ (gp_ws g0 mF mE P f1 k1 Q f2 k2 G ++ (mo_ws m0 2 (nI (t_tn T)) (nI n) (nI (t_bc T)) (lN P) (lN Q) (lN G) (lN (ckey (t_tn T) (t_kc T) (t_kp T))) (lN (t_pa T)) (lN (t_pb T)) (t_sht T) a0 a1 a2 a3 a4 a5 a6 a7 a8 a9 mb0 mb1 oc mb2 mb3 mb4 mb5 ++ (iw_ws a7 cI 256 bf ++ (iw_ws a8 cI 64 sc ++ (iw_ws a9 cI 8 st ++ (iw_ws mb0 cI 8 kS ++ (iw_ws mb1 cI 64 kR ++ (jw_ws a2 cJ 4 tf ++ (jw_ws a0 cJ 1232 nf ++ (jw_ws a1 cJ 616 cf ++ (iw_ws a4 cI 4 kf ++ (jw_ws mb2 cJ 4 ky ++ (jw_ws a3 cJ 16 lf ++ (iw_ws a5 cI 4 sf ++ (iw_ws a6 cI 64 vf ++ (jw_ws mb3 cJ 128 md ++ (jw_ws mb4 cJ 4 sh ++ iw_ws mb5 cI 64 ct))))))))))))))))))))))))))) [0, 1, 2, 3, 4, 5, 6, 7, 8, 9, 10, 11, 12, 13, 14, 15, 16, 17, 18, 19, 20, 21, 22, 23, 24, 25, 30, 31, 32, 33, 34, 35, 36, 37, 38, 41, 26, 42, 27, 39, 40, 28, 29] (by decide) rfl
    generalize H1 = H at hP hS ⊢
    clear hPc hDc hFc hP1 hD1 hK1 ht hk1 hz1
    refine lv_istore (lv' := [(6, .int r_7), (5, .int 2), (4, .int (nI i)), (3, .ref out), (2, .ref m0), (1, .ref b0), (0, .ref b)]) hx hb d_law_894 hl (by decide) rfl (fun ls hl => ?_)
    refine lv_aload_n hx hb d_law_896 rfl (lv_at hl 4 rfl) ?_
    have hPc := hP.sub (ws' := (mo_ws m0 2 (nI (t_tn T)) (nI n) (nI (t_bc T)) (lN P) (lN Q) (lN G) (lN (ckey (t_tn T) (t_kc T) (t_kp T))) (lN (t_pa T)) (lN (t_pb T)) (t_sht T) a0 a1 a2 a3 a4 a5 a6 a7 a8 a9 mb0 mb1 oc mb2 mb3 mb4 mb5)) [26] rfl
    have hKc := hK.sub (tys' := [(cJ, .long), (cI, .int)]) [0, 1] rfl
    refine va_calli (va_runV (As := []) (rest := []) ⟨hx, hb, hml, hown, hts⟩ (c_Bm_thrown l H dC dI cJ cI m0 2 (nI (t_tn T)) (nI n) (nI (t_bc T)) (lN P) (lN Q) (lN G) (lN (ckey (t_tn T) (t_kc T) (t_kp T))) (lN (t_pa T)) (lN (t_pb T)) (t_sht T) a0 a1 a2 a3 a4 a5 a6 a7 a8 a9 mb0 mb1 oc mb2 mb3 mb4 mb5 hPc) (cwV 0 hts (gw_V gk_1004 gk_1005 gk_1006 gk_7 gk_1007) rfl rfl rfl (by decide +kernel) ⟨(Nat.le_of_ble_eq_true rfl), (Nat.le_of_ble_eq_true rfl)⟩) ⟨fun a U g mk q => ⟨q.1, q.2.1, va_K.moved (u := U) (U := U.calling g mk a) (Vm.Alike.refl U.vm) q.2.2⟩, va_recv hK hP (ci := 8) (q0 := 26) rfl rfl, fun U hU hW => ⟨rfl, hU, va_K.moved hW.alike hKc⟩⟩ rfl rfl hl.1 rfl (lv_room (Nat.le_of_ble_eq_true rfl)) d_law_897 ⟨show cells + 8 + 0 + 0 ≤ 601024 by omega, show slots + 48 + 0 + 0 ≤ 7293034 by omega⟩) hS (fun q _ h => h.elim) (fun q h => h.elim) (fun r_8 w9 t9 H1 locs ht hvm hw9 hB hz1 hk1 hS => ?_)
    obtain rfl : H = H1 := hB.symm.trans ht
    have hw9 : r_8 = 2 := hw9
    subst hw9
    clear hPc hz1 hk1 hB
    refine lv_iload hx hb d_law_900 (lv_at hl 1 rfl) ?_
    refine lv_icmp_eq (tgt := 907) hx hb d_law_902 (by decide) (fun c_9 => ?_) (fun c_9 => ?_)
    · -- taken
      refine lv_iload hx hb d_law_907 (lv_at hl 1 rfl) ?_
      refine lv_if_ne (tgt := 924) hx hb d_law_909 (by decide) (fun c_10 => ?_) (fun c_10 => ?_)
      · -- taken
        refine lv_goto (tgt := 1965) hx hb d_law_924 (by decide) ?_
        refine W.widen (k := cells + 20) (n := slots + 200) (by omega) (by omega) ?_
        have hI9 : LI dC dI cJ cI cR A out b0 m0 H := LG.mk hP hD hR
        exact cont _ _ _ hS hI9 (lv_sub hl [2, 3, 4, 5, 6] rfl)
      · -- not taken
        exact absurd c_10 (by decide)
    · -- not taken
      exact absurd c_9 (by decide)
  by_cases hC3 : bC3 P Q G (ckey (t_tn T) (t_kc T) (t_kp T)) x1 x2 x3 x4 x5 x6 x7
  · -- it holds
    refine lv_aload_n hx hb d_law_591 rfl (lv_at hl 3 rfl) ?_
    refine lv_aload_n hx hb d_law_592 rfl (lv_at hl 4 rfl) ?_
    refine lv_iload hx hb d_law_593 (lv_at hl 0 rfl) ?_
    refine lv_iconst (v := 1) hx hb d_law_595 (by decide) ?_
    refine lv_iadd hx hb d_law_596 ?_
    rw [show ((nI i) + 1 : Int32) = nI (i + 1) from nI_add _ 1]
    refine va_sld hx hb hX hbl hbA hS (vp_in_nI (by omega) (by omega)) d_law_597 ?_
    rw [show (xs (nI (i + 1)).toNatClampNeg : Int32) = xs (i + 1) from by rw [nI_clamp (by omega)]]
    rw [show (xs (i + 1) : Int32) = x1 from hx1.symm]
    refine lv_aload_n hx hb d_law_598 rfl (lv_at hl 4 rfl) ?_
    refine lv_iload hx hb d_law_599 (lv_at hl 0 rfl) ?_
    refine lv_iconst (v := 2) hx hb d_law_601 (by decide) ?_
    refine lv_iadd hx hb d_law_602 ?_
    rw [show ((nI i) + 2 : Int32) = nI (i + 2) from nI_add _ 2]
    refine va_sld hx hb hX hbl hbA hS (vp_in_nI (by omega) (by omega)) d_law_603 ?_
    rw [show (xs (nI (i + 2)).toNatClampNeg : Int32) = xs (i + 2) from by rw [nI_clamp (by omega)]]
    refine lv_i2l (v := (xs (i + 2) : Int32).toInt64) hx hb d_law_604 rfl ?_
    refine lv_bipush (v := 32) hx hb d_law_605 (by decide) ?_
    refine lv_lshl (v := ((xs (i + 2) : Int32).toInt64 : Int64) <<< ((32 : Int32).toInt64 &&& 63)) hx hb d_law_607 rfl ?_
    refine lv_aload_n hx hb d_law_608 rfl (lv_at hl 4 rfl) ?_
    refine lv_iload hx hb d_law_609 (lv_at hl 0 rfl) ?_
    refine lv_iconst (v := 3) hx hb d_law_611 (by decide) ?_
    refine lv_iadd hx hb d_law_612 ?_
    rw [show ((nI i) + 3 : Int32) = nI (i + 3) from nI_add _ 3]
    refine va_sld hx hb hX hbl hbA hS (vp_in_nI (by omega) (by omega)) d_law_613 ?_
    rw [show (xs (nI (i + 3)).toNatClampNeg : Int32) = xs (i + 3) from by rw [nI_clamp (by omega)]]
    refine lv_i2l (v := (xs (i + 3) : Int32).toInt64) hx hb d_law_614 rfl ?_
    refine lv_ldc2 (v := 4294967295) hx hb hown (hts _ (List.mem_cons_of_mem _ gk_1202)) d_law_615 ?_
    refine lv_land hx hb d_law_618 ?_
    refine lv_lor hx hb d_law_619 ?_
    rw [show ((((xs (i + 2) : Int32).toInt64 : Int64) <<< ((32 : Int32).toInt64 &&& 63)) ||| (((xs (i + 3) : Int32).toInt64) &&& 4294967295) : Int64) = x2 from hx2.symm]
    refine lv_aload_n hx hb d_law_620 rfl (lv_at hl 4 rfl) ?_
    refine lv_iload hx hb d_law_621 (lv_at hl 0 rfl) ?_
    refine lv_iconst (v := 4) hx hb d_law_623 (by decide) ?_
    refine lv_iadd hx hb d_law_624 ?_
    rw [show ((nI i) + 4 : Int32) = nI (i + 4) from nI_add _ 4]
    refine va_sld hx hb hX hbl hbA hS (vp_in_nI (by omega) (by omega)) d_law_625 ?_
    rw [show (xs (nI (i + 4)).toNatClampNeg : Int32) = xs (i + 4) from by rw [nI_clamp (by omega)]]
    refine lv_i2l (v := (xs (i + 4) : Int32).toInt64) hx hb d_law_626 rfl ?_
    refine lv_bipush (v := 32) hx hb d_law_627 (by decide) ?_
    refine lv_lshl (v := ((xs (i + 4) : Int32).toInt64 : Int64) <<< ((32 : Int32).toInt64 &&& 63)) hx hb d_law_629 rfl ?_
    refine lv_aload_n hx hb d_law_630 rfl (lv_at hl 4 rfl) ?_
    refine lv_iload hx hb d_law_631 (lv_at hl 0 rfl) ?_
    refine lv_iconst (v := 5) hx hb d_law_633 (by decide) ?_
    refine lv_iadd hx hb d_law_634 ?_
    rw [show ((nI i) + 5 : Int32) = nI (i + 5) from nI_add _ 5]
    refine va_sld hx hb hX hbl hbA hS (vp_in_nI (by omega) (by omega)) d_law_635 ?_
    rw [show (xs (nI (i + 5)).toNatClampNeg : Int32) = xs (i + 5) from by rw [nI_clamp (by omega)]]
    refine lv_i2l (v := (xs (i + 5) : Int32).toInt64) hx hb d_law_636 rfl ?_
    refine lv_ldc2 (v := 4294967295) hx hb hown (hts _ (List.mem_cons_of_mem _ gk_1202)) d_law_637 ?_
    refine lv_land hx hb d_law_640 ?_
    refine lv_lor hx hb d_law_641 ?_
    rw [show ((((xs (i + 4) : Int32).toInt64 : Int64) <<< ((32 : Int32).toInt64 &&& 63)) ||| (((xs (i + 5) : Int32).toInt64) &&& 4294967295) : Int64) = x3 from hx3.symm]
    refine lv_aload_n hx hb d_law_642 rfl (lv_at hl 4 rfl) ?_
    refine lv_iload hx hb d_law_643 (lv_at hl 0 rfl) ?_
    refine lv_bipush (v := 6) hx hb d_law_645 (by decide) ?_
    refine lv_iadd hx hb d_law_647 ?_
    rw [show ((nI i) + 6 : Int32) = nI (i + 6) from nI_add _ 6]
    refine va_sld hx hb hX hbl hbA hS (vp_in_nI (by omega) (by omega)) d_law_648 ?_
    rw [show (xs (nI (i + 6)).toNatClampNeg : Int32) = xs (i + 6) from by rw [nI_clamp (by omega)]]
    refine lv_i2l (v := (xs (i + 6) : Int32).toInt64) hx hb d_law_649 rfl ?_
    refine lv_bipush (v := 32) hx hb d_law_650 (by decide) ?_
    refine lv_lshl (v := ((xs (i + 6) : Int32).toInt64 : Int64) <<< ((32 : Int32).toInt64 &&& 63)) hx hb d_law_652 rfl ?_
    refine lv_aload_n hx hb d_law_653 rfl (lv_at hl 4 rfl) ?_
    refine lv_iload hx hb d_law_654 (lv_at hl 0 rfl) ?_
    refine lv_bipush (v := 7) hx hb d_law_656 (by decide) ?_
    refine lv_iadd hx hb d_law_658 ?_
    rw [show ((nI i) + 7 : Int32) = nI (i + 7) from nI_add _ 7]
    refine va_sld hx hb hX hbl hbA hS (vp_in_nI (by omega) (by omega)) d_law_659 ?_
    rw [show (xs (nI (i + 7)).toNatClampNeg : Int32) = xs (i + 7) from by rw [nI_clamp (by omega)]]
    refine lv_i2l (v := (xs (i + 7) : Int32).toInt64) hx hb d_law_660 rfl ?_
    refine lv_ldc2 (v := 4294967295) hx hb hown (hts _ (List.mem_cons_of_mem _ gk_1202)) d_law_661 ?_
    refine lv_land hx hb d_law_664 ?_
    refine lv_lor hx hb d_law_665 ?_
    rw [show ((((xs (i + 6) : Int32).toInt64 : Int64) <<< ((32 : Int32).toInt64 &&& 63)) ||| (((xs (i + 7) : Int32).toInt64) &&& 4294967295) : Int64) = x4 from hx4.symm]
    refine lv_aload_n hx hb d_law_666 rfl (lv_at hl 4 rfl) ?_
    refine lv_iload hx hb d_law_667 (lv_at hl 0 rfl) ?_
    refine lv_bipush (v := 8) hx hb d_law_669 (by decide) ?_
    refine lv_iadd hx hb d_law_671 ?_
    rw [show ((nI i) + 8 : Int32) = nI (i + 8) from nI_add _ 8]
    refine va_sld hx hb hX hbl hbA hS (vp_in_nI (by omega) (by omega)) d_law_672 ?_
    rw [show (xs (nI (i + 8)).toNatClampNeg : Int32) = xs (i + 8) from by rw [nI_clamp (by omega)]]
    refine lv_i2l (v := (xs (i + 8) : Int32).toInt64) hx hb d_law_673 rfl ?_
    refine lv_bipush (v := 32) hx hb d_law_674 (by decide) ?_
    refine lv_lshl (v := ((xs (i + 8) : Int32).toInt64 : Int64) <<< ((32 : Int32).toInt64 &&& 63)) hx hb d_law_676 rfl ?_
    refine lv_aload_n hx hb d_law_677 rfl (lv_at hl 4 rfl) ?_
    refine lv_iload hx hb d_law_678 (lv_at hl 0 rfl) ?_
    refine lv_bipush (v := 9) hx hb d_law_680 (by decide) ?_
    refine lv_iadd hx hb d_law_682 ?_
    rw [show ((nI i) + 9 : Int32) = nI (i + 9) from nI_add _ 9]
    refine va_sld hx hb hX hbl hbA hS (vp_in_nI (by omega) (by omega)) d_law_683 ?_
    rw [show (xs (nI (i + 9)).toNatClampNeg : Int32) = xs (i + 9) from by rw [nI_clamp (by omega)]]
    refine lv_i2l (v := (xs (i + 9) : Int32).toInt64) hx hb d_law_684 rfl ?_
    refine lv_ldc2 (v := 4294967295) hx hb hown (hts _ (List.mem_cons_of_mem _ gk_1202)) d_law_685 ?_
    refine lv_land hx hb d_law_688 ?_
    refine lv_lor hx hb d_law_689 ?_
    rw [show ((((xs (i + 8) : Int32).toInt64 : Int64) <<< ((32 : Int32).toInt64 &&& 63)) ||| (((xs (i + 9) : Int32).toInt64) &&& 4294967295) : Int64) = x5 from hx5.symm]
    refine lv_aload_n hx hb d_law_690 rfl (lv_at hl 4 rfl) ?_
    refine lv_iload hx hb d_law_691 (lv_at hl 0 rfl) ?_
    refine lv_bipush (v := 10) hx hb d_law_693 (by decide) ?_
    refine lv_iadd hx hb d_law_695 ?_
    rw [show ((nI i) + 10 : Int32) = nI (i + 10) from nI_add _ 10]
    refine va_sld hx hb hX hbl hbA hS (vp_in_nI (by omega) (by omega)) d_law_696 ?_
    rw [show (xs (nI (i + 10)).toNatClampNeg : Int32) = xs (i + 10) from by rw [nI_clamp (by omega)]]
    refine lv_i2l (v := (xs (i + 10) : Int32).toInt64) hx hb d_law_697 rfl ?_
    refine lv_bipush (v := 32) hx hb d_law_698 (by decide) ?_
    refine lv_lshl (v := ((xs (i + 10) : Int32).toInt64 : Int64) <<< ((32 : Int32).toInt64 &&& 63)) hx hb d_law_700 rfl ?_
    refine lv_aload_n hx hb d_law_701 rfl (lv_at hl 4 rfl) ?_
    refine lv_iload hx hb d_law_702 (lv_at hl 0 rfl) ?_
    refine lv_bipush (v := 11) hx hb d_law_704 (by decide) ?_
    refine lv_iadd hx hb d_law_706 ?_
    rw [show ((nI i) + 11 : Int32) = nI (i + 11) from nI_add _ 11]
    refine va_sld hx hb hX hbl hbA hS (vp_in_nI (by omega) (by omega)) d_law_707 ?_
    rw [show (xs (nI (i + 11)).toNatClampNeg : Int32) = xs (i + 11) from by rw [nI_clamp (by omega)]]
    refine lv_i2l (v := (xs (i + 11) : Int32).toInt64) hx hb d_law_708 rfl ?_
    refine lv_ldc2 (v := 4294967295) hx hb hown (hts _ (List.mem_cons_of_mem _ gk_1202)) d_law_709 ?_
    refine lv_land hx hb d_law_712 ?_
    refine lv_lor hx hb d_law_713 ?_
    rw [show ((((xs (i + 10) : Int32).toInt64 : Int64) <<< ((32 : Int32).toInt64 &&& 63)) ||| (((xs (i + 11) : Int32).toInt64) &&& 4294967295) : Int64) = x6 from hx6.symm]
    refine lv_aload_n hx hb d_law_714 rfl (lv_at hl 4 rfl) ?_
    refine lv_iload hx hb d_law_715 (lv_at hl 0 rfl) ?_
    refine lv_bipush (v := 12) hx hb d_law_717 (by decide) ?_
    refine lv_iadd hx hb d_law_719 ?_
    rw [show ((nI i) + 12 : Int32) = nI (i + 12) from nI_add _ 12]
    refine va_sld hx hb hX hbl hbA hS (vp_in_nI (by omega) (by omega)) d_law_720 ?_
    rw [show (xs (nI (i + 12)).toNatClampNeg : Int32) = xs (i + 12) from by rw [nI_clamp (by omega)]]
    refine lv_i2l (v := (xs (i + 12) : Int32).toInt64) hx hb d_law_721 rfl ?_
    refine lv_bipush (v := 32) hx hb d_law_722 (by decide) ?_
    refine lv_lshl (v := ((xs (i + 12) : Int32).toInt64 : Int64) <<< ((32 : Int32).toInt64 &&& 63)) hx hb d_law_724 rfl ?_
    refine lv_aload_n hx hb d_law_725 rfl (lv_at hl 4 rfl) ?_
    refine lv_iload hx hb d_law_726 (lv_at hl 0 rfl) ?_
    refine lv_bipush (v := 13) hx hb d_law_728 (by decide) ?_
    refine lv_iadd hx hb d_law_730 ?_
    rw [show ((nI i) + 13 : Int32) = nI (i + 13) from nI_add _ 13]
    refine va_sld hx hb hX hbl hbA hS (vp_in_nI (by omega) (by omega)) d_law_731 ?_
    rw [show (xs (nI (i + 13)).toNatClampNeg : Int32) = xs (i + 13) from by rw [nI_clamp (by omega)]]
    refine lv_i2l (v := (xs (i + 13) : Int32).toInt64) hx hb d_law_732 rfl ?_
    refine lv_ldc2 (v := 4294967295) hx hb hown (hts _ (List.mem_cons_of_mem _ gk_1202)) d_law_733 ?_
    refine lv_land hx hb d_law_736 ?_
    refine lv_lor hx hb d_law_737 ?_
    rw [show ((((xs (i + 12) : Int32).toInt64 : Int64) <<< ((32 : Int32).toInt64 &&& 63)) ||| (((xs (i + 13) : Int32).toInt64) &&& 4294967295) : Int64) = x7 from hx7.symm]
    refine lv_aload_n hx hb d_law_738 rfl (lv_at hl 1 rfl) ?_
    have hPc := hP.part (cx := (jw_ws out cJ 1 of ++ (bb_ws b0 bd0 pr0 t0 au0 da (.ref g0) ++ (rw_ws da cJ (r8 d0 d1 d2 d3 d4 d5 d6 d7) ++ (bd_ws bd0 h0 ro lo n cR (rrf rb) (rrf lb) ++ (pr_ws pr0 h0 cm cJ ccf ++ (ha_ws h0 aw ax ay cJ cI w csc cst cL ++ (tt_ws t0 ka aa ba sa (.ref g0) cJ T ++ gp_ws g0 mF mE P f1 k1 Q f2 k2 G)))))))) [0, 1, 2, 3, 4, 5, 6, 7, 8, 9, 10, 11, 12, 13, 14, 15, 16, 23, 24, 25] rfl
    have hDc := hD.part (cx := (jw_ws out cJ 1 of ++ (bb_ws b0 bd0 pr0 t0 au0 da (.ref g0) ++ (rw_ws da cJ (r8 d0 d1 d2 d3 d4 d5 d6 d7) ++ (bd_ws bd0 h0 ro lo n cR (rrf rb) (rrf lb) ++ (pr_ws pr0 h0 cm cJ ccf ++ (ha_ws h0 aw ax ay cJ cI w csc cst cL ++ (tt_ws t0 ka aa ba sa (.ref g0) cJ T ++ gp_ws g0 mF mE P f1 k1 Q f2 k2 G)))))))) [0, 1, 2, 3, 4, 5, 6, 7, 8, 9, 10, 11, 12, 13, 14, 15, 16, 23, 24, 25] (by decide) rfl
    have hKc := hK.sub (tys' := [(cJ, .long), (cI, .int), (cR, .array .long)]) [0, 1, 2] rfl
    have hFc := va_freeP (cx := (jw_ws out cJ 1 of ++ (bb_ws b0 bd0 pr0 t0 au0 da (.ref g0) ++ (rw_ws da cJ (r8 d0 d1 d2 d3 d4 d5 d6 d7) ++ (bd_ws bd0 h0 ro lo n cR (rrf rb) (rrf lb) ++ (pr_ws pr0 h0 cm cJ ccf ++ (ha_ws h0 aw ax ay cJ cI w csc cst cL ++ (tt_ws t0 ka aa ba sa (.ref g0) cJ T ++ gp_ws g0 mF mE P f1 k1 Q f2 k2 G)))))))) hD hS hA [0, 1, 2, 3, 4, 5, 6, 7, 8, 9, 10, 11, 12, 13, 14, 15, 16, 23, 24, 25] rfl
    have hZc0 : ha_Z rA sA (va_A ((jw_ws out cJ 1 of ++ (bb_ws b0 bd0 pr0 t0 au0 da (.ref g0) ++ (rw_ws da cJ (r8 d0 d1 d2 d3 d4 d5 d6 d7) ++ (bd_ws bd0 h0 ro lo n cR (rrf rb) (rrf lb) ++ (pr_ws pr0 h0 cm cJ ccf ++ (ha_ws h0 aw ax ay cJ cI w csc cst cL ++ (tt_ws t0 ka aa ba sa (.ref g0) cJ T ++ gp_ws g0 mF mE P f1 k1 Q f2 k2 G))))))) ++ bpool rb lb cJ R Lk) H.size) s H := (hZha.kept hS.2.1).narrow hFc
    have hZc1 : xz (va_A ((jw_ws out cJ 1 of ++ (bb_ws b0 bd0 pr0 t0 au0 da (.ref g0) ++ (rw_ws da cJ (r8 d0 d1 d2 d3 d4 d5 d6 d7) ++ (bd_ws bd0 h0 ro lo n cR (rrf rb) (rrf lb) ++ (pr_ws pr0 h0 cm cJ ccf ++ (ha_ws h0 aw ax ay cJ cI w csc cst cL ++ (tt_ws t0 ka aa ba sa (.ref g0) cJ T ++ gp_ws g0 mF mE P f1 k1 Q f2 k2 G))))))) ++ bpool rb lb cJ R Lk) H.size) s H := (hZx.kept hS.2.1).narrow hFc
    have hZc2 : nc_Z s := hZn
    refine vx_calli (vx_runSX (hh := h_Lw_ballot) (As := [.ref b0, .int x1, .long x2, .long x3, .long x4, .long x5, .long x6, .long x7, .ref out]) (rest := []) ⟨hx, hb, hml, hown, hts⟩ (c_Lw_ballot_3 l hnt dC dI cJ cI cR H.size b0 bd0 pr0 t0 au0 da h0 ro lo n rb lb cm ccf aw ax ay w csc cst cL ka aa ba sa T g0 mF mE P f1 k1 Q f2 k2 G rA sA R Lk d0 d1 d2 d3 d4 d5 d6 d7 x1 x2 x3 x4 x5 x6 x7 out of hok htok hN0 htn hkc hn hn0B hC1 hn9 hC3) (vx_cwSW 9 hts (gw_Sv gk_624 gk_625 gk_0 gk_626) rfl rfl rfl (by decide +kernel) ⟨(Nat.le_of_ble_eq_true rfl), (Nat.le_of_ble_eq_true rfl)⟩) ⟨fun a U g mk q => by obtain ⟨q0, q1, qP, qK, qD, qZ0, qZ1, qZ2⟩ := q; exact ⟨q0, q1, qP, va_K.moved (u := U) (U := U.calling g mk a) (Vm.Alike.refl U.vm) qK, qD, ha_Z.moved (u := U) (U := U.calling g mk a) (Vm.Alike.refl U.vm) qZ0, xz.same (u := U) (U := U.calling g mk a) rfl qZ1, nc_Z.moved (u := U) (U := U.calling g mk a) (Vm.Alike.refl U.vm) qZ2⟩, fun U hU hW => ⟨rfl, by rw [hU], by rw [hU]; exact hPc, va_K.moved hW.alike hKc, hDc.weaken (fun _ _ _ _ => trivial), by rw [hU]; exact ha_Z.moved hW.alike hZc0, by rw [hU]; exact xz.warm hW hZc1, nc_Z.moved hW.alike hZc2⟩⟩ rfl rfl hl.1 rfl (lv_room (Nat.le_of_ble_eq_true rfl)) d_law_739 ⟨show cells + 8 ≤ 601024 by omega, show slots + 48 ≤ 7293034 by omega⟩) hS (fun q _ h => hFc q h) hFc (fun q _ h => hFc q h) (fun E9 ce9 q9 u8 t9 H1 locs ht hvm hpx hbx hz1 hk1 hS hce hcv hcl => hpx.elim) (fun r_11 u9 t9 H1 locs ht hvm hw hB hz1 hk1 hS => ?_)
    obtain ⟨hP1, hK1, hD1⟩ := hB
    rw [ht] at hP1
    obtain ⟨hP, hD⟩ := va_joinP (X := (jw_ws out cJ 1 of ++ (bb_ws b0 bd0 pr0 t0 au0 da (.ref g0) ++ (rw_ws da cJ (r8 d0 d1 d2 d3 d4 d5 d6 d7) ++ (bd_ws bd0 h0 ro lo n cR (rrf rb) (rrf lb) ++ (pr_ws pr0 h0 cm cJ ccf ++ (ha_ws h0 aw ax ay cJ cI w csc cst cL ++ (tt_ws t0 ka aa ba sa (.ref g0) cJ T ++ (au_ws au0 bd0 pr0 tu0 sd ++ (tt_ws tu0 uka uaa uba usa gu cJ T0 ++ (gp_ws g0 mF mE P f1 k1 Q f2 k2 G ++ (mo_ws m0 e0 (nI (t_tn T)) (nI n) (nI (t_bc T)) (lN P) (lN Q) (lN G) (lN (ckey (t_tn T) (t_kc T) (t_kp T))) (lN (t_pa T)) (lN (t_pb T)) (t_sht T) a0 a1 a2 a3 a4 a5 a6 a7 a8 a9 mb0 mb1 oc mb2 mb3 mb4 mb5 ++ (iw_ws a7 cI 256 bf ++ (iw_ws a8 cI 64 sc ++ (iw_ws a9 cI 8 st ++ (iw_ws mb0 cI 8 kS ++ (iw_ws mb1 cI 64 kR ++ (jw_ws a2 cJ 4 tf ++ (jw_ws a0 cJ 1232 nf ++ (jw_ws a1 cJ 616 cf ++ (iw_ws a4 cI 4 kf ++ (jw_ws mb2 cJ 4 ky ++ (jw_ws a3 cJ 16 lf ++ (iw_ws a5 cI 4 sf ++ (iw_ws a6 cI 64 vf ++ (jw_ws mb3 cJ 128 md ++ (jw_ws mb4 cJ 4 sh ++ iw_ws mb5 cI 64 ct))))))))))))))))))))))))))) (cx := (jw_ws out cJ 1 of ++ (bb_ws b0 bd0 pr0 t0 au0 da (.ref g0) ++ (rw_ws da cJ (r8 d0 d1 d2 d3 d4 d5 d6 d7) ++ (bd_ws bd0 h0 ro lo n cR (rrf rb) (rrf lb) ++ (pr_ws pr0 h0 cm cJ ccf ++ (ha_ws h0 aw ax ay cJ cI w csc cst cL ++ (tt_ws t0 ka aa ba sa (.ref g0) cJ T ++ gp_ws g0 mF mE P f1 k1 Q f2 k2 G)))))))) (wr := (au_ws au0 bd0 pr0 tu0 sd ++ (tt_ws tu0 uka uaa uba usa gu cJ T0 ++ (mo_ws m0 e0 (nI (t_tn T)) (nI n) (nI (t_bc T)) (lN P) (lN Q) (lN G) (lN (ckey (t_tn T) (t_kc T) (t_kp T))) (lN (t_pa T)) (lN (t_pb T)) (t_sht T) a0 a1 a2 a3 a4 a5 a6 a7 a8 a9 mb0 mb1 oc mb2 mb3 mb4 mb5 ++ (iw_ws a7 cI 256 bf ++ (iw_ws a8 cI 64 sc ++ (iw_ws a9 cI 8 st ++ (iw_ws mb0 cI 8 kS ++ (iw_ws mb1 cI 64 kR ++ (jw_ws a2 cJ 4 tf ++ (jw_ws a0 cJ 1232 nf ++ (jw_ws a1 cJ 616 cf ++ (iw_ws a4 cI 4 kf ++ (jw_ws mb2 cJ 4 ky ++ (jw_ws a3 cJ 16 lf ++ (iw_ws a5 cI 4 sf ++ (iw_ws a6 cI 64 vf ++ (jw_ws mb3 cJ 128 md ++ (jw_ws mb4 cJ 4 sh ++ iw_ws mb5 cI 64 ct))))))))))))))))))) (rx := (jw_ws out cJ 1 of ++ (bb_ws b0 bd0 pr0 t0 au0 da (.ref g0) ++ (rw_ws da cJ (r8 u9.1.1 u9.1.2.1 u9.1.2.2.1 u9.1.2.2.2.1 u9.1.2.2.2.2.1 u9.1.2.2.2.2.2.1 u9.1.2.2.2.2.2.2.1 u9.1.2.2.2.2.2.2.2) ++ (bd_ws bd0 h0 ro lo n cR (rrf rb) (rrf lb) ++ (pr_ws pr0 h0 cm cJ u9.2.1 ++ (hu_ws h0 aw ax ay cJ cI u9.2.2 ++ (tt_ws t0 ka aa ba sa (.ref g0) cJ T ++ gp_ws g0 mF mE P f1 k1 Q f2 k2 G)))))))) (pl := bpool rb lb cJ R Lk) (pl1 := bpool rb lb cJ R Lk) hP hD [0, 1, 2, 3, 4, 5, 6, 7, 8, 9, 10, 11, 12, 13, 14, 15, 16, 23, 24, 25] [17, 18, 19, 20, 21, 22, 26, 27, 28, 29, 30, 31, 32, 33, 34, 35, 36, 37, 38, 39, 40, 41, 42] rfl rfl (by decide) (by decide) hk1 hFc hP1 hD1
    have hP := hP.part (cx := (jw_ws out cJ 1 of ++ (bb_ws b0 bd0 pr0 t0 au0 da (.ref g0) ++ (rw_ws da cJ (r8 u9.1.1 u9.1.2.1 u9.1.2.2.1 u9.1.2.2.2.1 u9.1.2.2.2.2.1 u9.1.2.2.2.2.2.1 u9.1.2.2.2.2.2.2.1 u9.1.2.2.2.2.2.2.2) ++ (bd_ws bd0 h0 ro lo n cR (rrf rb) (rrf lb) ++ (pr_ws pr0 h0 cm cJ u9.2.1 ++ (hu_ws h0 aw ax ay cJ cI u9.2.2 ++ (tt_ws t0 ka aa ba sa (.ref g0) cJ T ++ (au_ws au0 bd0 pr0 tu0 sd ++ (tt_ws tu0 uka uaa uba usa gu cJ T0 ++ (gp_ws g0 mF mE P f1 k1 Q f2 k2 G ++ (mo_ws m0 e0 (nI (t_tn T)) (nI n) (nI (t_bc T)) (lN P) (lN Q) (lN G) (lN (ckey (t_tn T) (t_kc T) (t_kp T))) (lN (t_pa T)) (lN (t_pb T)) (t_sht T) a0 a1 a2 a3 a4 a5 a6 a7 a8 a9 mb0 mb1 oc mb2 mb3 mb4 mb5 ++ (iw_ws a7 cI 256 bf ++ (iw_ws a8 cI 64 sc ++ (iw_ws a9 cI 8 st ++ (iw_ws mb0 cI 8 kS ++ (iw_ws mb1 cI 64 kR ++ (jw_ws a2 cJ 4 tf ++ (jw_ws a0 cJ 1232 nf ++ (jw_ws a1 cJ 616 cf ++ (iw_ws a4 cI 4 kf ++ (jw_ws mb2 cJ 4 ky ++ (jw_ws a3 cJ 16 lf ++ (iw_ws a5 cI 4 sf ++ (iw_ws a6 cI 64 vf ++ (jw_ws mb3 cJ 128 md ++ (jw_ws mb4 cJ 4 sh ++ iw_ws mb5 cI 64 ct))))))))))))))))))))))))))) [23, 24, 25, 26, 27, 28, 29, 30, 31, 32, 33, 34, 35, 36, 37, 38, 39, 0, 1, 2, 3, 4, 5, 40, 41, 42, 6, 7, 8, 9, 10, 11, 12, 13, 14, 15, 16, 17, 18, 19, 20, 21, 22] rfl
    have hD := hD.part (cx := (jw_ws out cJ 1 of ++ (bb_ws b0 bd0 pr0 t0 au0 da (.ref g0) ++ (rw_ws da cJ (r8 u9.1.1 u9.1.2.1 u9.1.2.2.1 u9.1.2.2.2.1 u9.1.2.2.2.2.1 u9.1.2.2.2.2.2.1 u9.1.2.2.2.2.2.2.1 u9.1.2.2.2.2.2.2.2) ++ (bd_ws bd0 h0 ro lo n cR (rrf rb) (rrf lb) ++ (pr_ws pr0 h0 cm cJ u9.2.1 ++ (hu_ws h0 aw ax ay cJ cI u9.2.2 ++ (tt_ws t0 ka aa ba sa (.ref g0) cJ T ++ (au_ws au0 bd0 pr0 tu0 sd ++ (tt_ws tu0 uka uaa uba usa gu cJ T0 ++ (gp_ws g0 mF mE P f1 k1 Q f2 k2 G ++ (mo_ws m0 e0 (nI (t_tn T)) (nI n) (nI (t_bc T)) (lN P) (lN Q) (lN G) (lN (ckey (t_tn T) (t_kc T) (t_kp T))) (lN (t_pa T)) (lN (t_pb T)) (t_sht T) a0 a1 a2 a3 a4 a5 a6 a7 a8 a9 mb0 mb1 oc mb2 mb3 mb4 mb5 ++ (iw_ws a7 cI 256 bf ++ (iw_ws a8 cI 64 sc ++ (iw_ws a9 cI 8 st ++ (iw_ws mb0 cI 8 kS ++ (iw_ws mb1 cI 64 kR ++ (jw_ws a2 cJ 4 tf ++ (jw_ws a0 cJ 1232 nf ++ (jw_ws a1 cJ 616 cf ++ (iw_ws a4 cI 4 kf ++ (jw_ws mb2 cJ 4 ky ++ (jw_ws a3 cJ 16 lf ++ (iw_ws a5 cI 4 sf ++ (iw_ws a6 cI 64 vf ++ (jw_ws mb3 cJ 128 md ++ (jw_ws mb4 cJ 4 sh ++ iw_ws mb5 cI 64 ct))))))))))))))))))))))))))) [23, 24, 25, 26, 27, 28, 29, 30, 31, 32, 33, 34, 35, 36, 37, 38, 39, 0, 1, 2, 3, 4, 5, 40, 41, 42, 6, 7, 8, 9, 10, 11, 12, 13, 14, 15, 16, 17, 18, 19, 20, 21, 22] (by decide) rfl
    generalize H1 = H at hP hS ⊢
    clear hPc hDc hFc hP1 hD1 hK1 ht hk1 hz1
    have hr9 : r_11 = 3 := hw
    subst hr9
    refine lv_istore (lv' := [(5, .int 3), (4, .int (nI i)), (3, .ref out), (2, .ref m0), (1, .ref b0), (0, .ref b)]) hx hb d_law_742 hl (by decide) rfl (fun ls hl => ?_)
    refine lv_aload_n hx hb d_law_744 rfl (lv_at hl 3 rfl) ?_
    refine lv_aload_n hx hb d_law_745 rfl (lv_at hl 5 rfl) ?_
    refine lv_iload hx hb d_law_746 (lv_at hl 1 rfl) ?_
    refine lv_iconst (v := 1) hx hb d_law_748 (by decide) ?_
    refine lv_iadd hx hb d_law_749 ?_
    rw [show ((nI i) + 1 : Int32) = nI (i + 1) from nI_add _ 1]
    refine va_sld hx hb hX hbl hbA hS (vp_in_nI (by omega) (by omega)) d_law_750 ?_
    rw [show (xs (nI (i + 1)).toNatClampNeg : Int32) = xs (i + 1) from by rw [nI_clamp (by omega)]]
    rw [show (xs (i + 1) : Int32) = x1 from hx1.symm]
    refine lv_aload_n hx hb d_law_751 rfl (lv_at hl 5 rfl) ?_
    refine lv_iload hx hb d_law_752 (lv_at hl 1 rfl) ?_
    refine lv_iconst (v := 2) hx hb d_law_754 (by decide) ?_
    refine lv_iadd hx hb d_law_755 ?_
    rw [show ((nI i) + 2 : Int32) = nI (i + 2) from nI_add _ 2]
    refine va_sld hx hb hX hbl hbA hS (vp_in_nI (by omega) (by omega)) d_law_756 ?_
    rw [show (xs (nI (i + 2)).toNatClampNeg : Int32) = xs (i + 2) from by rw [nI_clamp (by omega)]]
    refine lv_i2l (v := (xs (i + 2) : Int32).toInt64) hx hb d_law_757 rfl ?_
    refine lv_bipush (v := 32) hx hb d_law_758 (by decide) ?_
    refine lv_lshl (v := ((xs (i + 2) : Int32).toInt64 : Int64) <<< ((32 : Int32).toInt64 &&& 63)) hx hb d_law_760 rfl ?_
    refine lv_aload_n hx hb d_law_761 rfl (lv_at hl 5 rfl) ?_
    refine lv_iload hx hb d_law_762 (lv_at hl 1 rfl) ?_
    refine lv_iconst (v := 3) hx hb d_law_764 (by decide) ?_
    refine lv_iadd hx hb d_law_765 ?_
    rw [show ((nI i) + 3 : Int32) = nI (i + 3) from nI_add _ 3]
    refine va_sld hx hb hX hbl hbA hS (vp_in_nI (by omega) (by omega)) d_law_766 ?_
    rw [show (xs (nI (i + 3)).toNatClampNeg : Int32) = xs (i + 3) from by rw [nI_clamp (by omega)]]
    refine lv_i2l (v := (xs (i + 3) : Int32).toInt64) hx hb d_law_767 rfl ?_
    refine lv_ldc2 (v := 4294967295) hx hb hown (hts _ (List.mem_cons_of_mem _ gk_1202)) d_law_768 ?_
    refine lv_land hx hb d_law_771 ?_
    refine lv_lor hx hb d_law_772 ?_
    rw [show ((((xs (i + 2) : Int32).toInt64 : Int64) <<< ((32 : Int32).toInt64 &&& 63)) ||| (((xs (i + 3) : Int32).toInt64) &&& 4294967295) : Int64) = x2 from hx2.symm]
    refine lv_aload_n hx hb d_law_773 rfl (lv_at hl 5 rfl) ?_
    refine lv_iload hx hb d_law_774 (lv_at hl 1 rfl) ?_
    refine lv_iconst (v := 4) hx hb d_law_776 (by decide) ?_
    refine lv_iadd hx hb d_law_777 ?_
    rw [show ((nI i) + 4 : Int32) = nI (i + 4) from nI_add _ 4]
    refine va_sld hx hb hX hbl hbA hS (vp_in_nI (by omega) (by omega)) d_law_778 ?_
    rw [show (xs (nI (i + 4)).toNatClampNeg : Int32) = xs (i + 4) from by rw [nI_clamp (by omega)]]
    refine lv_i2l (v := (xs (i + 4) : Int32).toInt64) hx hb d_law_779 rfl ?_
    refine lv_bipush (v := 32) hx hb d_law_780 (by decide) ?_
    refine lv_lshl (v := ((xs (i + 4) : Int32).toInt64 : Int64) <<< ((32 : Int32).toInt64 &&& 63)) hx hb d_law_782 rfl ?_
    refine lv_aload_n hx hb d_law_783 rfl (lv_at hl 5 rfl) ?_
    refine lv_iload hx hb d_law_784 (lv_at hl 1 rfl) ?_
    refine lv_iconst (v := 5) hx hb d_law_786 (by decide) ?_
    refine lv_iadd hx hb d_law_787 ?_
    rw [show ((nI i) + 5 : Int32) = nI (i + 5) from nI_add _ 5]
    refine va_sld hx hb hX hbl hbA hS (vp_in_nI (by omega) (by omega)) d_law_788 ?_
    rw [show (xs (nI (i + 5)).toNatClampNeg : Int32) = xs (i + 5) from by rw [nI_clamp (by omega)]]
    refine lv_i2l (v := (xs (i + 5) : Int32).toInt64) hx hb d_law_789 rfl ?_
    refine lv_ldc2 (v := 4294967295) hx hb hown (hts _ (List.mem_cons_of_mem _ gk_1202)) d_law_790 ?_
    refine lv_land hx hb d_law_793 ?_
    refine lv_lor hx hb d_law_794 ?_
    rw [show ((((xs (i + 4) : Int32).toInt64 : Int64) <<< ((32 : Int32).toInt64 &&& 63)) ||| (((xs (i + 5) : Int32).toInt64) &&& 4294967295) : Int64) = x3 from hx3.symm]
    refine lv_aload_n hx hb d_law_795 rfl (lv_at hl 5 rfl) ?_
    refine lv_iload hx hb d_law_796 (lv_at hl 1 rfl) ?_
    refine lv_bipush (v := 6) hx hb d_law_798 (by decide) ?_
    refine lv_iadd hx hb d_law_800 ?_
    rw [show ((nI i) + 6 : Int32) = nI (i + 6) from nI_add _ 6]
    refine va_sld hx hb hX hbl hbA hS (vp_in_nI (by omega) (by omega)) d_law_801 ?_
    rw [show (xs (nI (i + 6)).toNatClampNeg : Int32) = xs (i + 6) from by rw [nI_clamp (by omega)]]
    refine lv_i2l (v := (xs (i + 6) : Int32).toInt64) hx hb d_law_802 rfl ?_
    refine lv_bipush (v := 32) hx hb d_law_803 (by decide) ?_
    refine lv_lshl (v := ((xs (i + 6) : Int32).toInt64 : Int64) <<< ((32 : Int32).toInt64 &&& 63)) hx hb d_law_805 rfl ?_
    refine lv_aload_n hx hb d_law_806 rfl (lv_at hl 5 rfl) ?_
    refine lv_iload hx hb d_law_807 (lv_at hl 1 rfl) ?_
    refine lv_bipush (v := 7) hx hb d_law_809 (by decide) ?_
    refine lv_iadd hx hb d_law_811 ?_
    rw [show ((nI i) + 7 : Int32) = nI (i + 7) from nI_add _ 7]
    refine va_sld hx hb hX hbl hbA hS (vp_in_nI (by omega) (by omega)) d_law_812 ?_
    rw [show (xs (nI (i + 7)).toNatClampNeg : Int32) = xs (i + 7) from by rw [nI_clamp (by omega)]]
    refine lv_i2l (v := (xs (i + 7) : Int32).toInt64) hx hb d_law_813 rfl ?_
    refine lv_ldc2 (v := 4294967295) hx hb hown (hts _ (List.mem_cons_of_mem _ gk_1202)) d_law_814 ?_
    refine lv_land hx hb d_law_817 ?_
    refine lv_lor hx hb d_law_818 ?_
    rw [show ((((xs (i + 6) : Int32).toInt64 : Int64) <<< ((32 : Int32).toInt64 &&& 63)) ||| (((xs (i + 7) : Int32).toInt64) &&& 4294967295) : Int64) = x4 from hx4.symm]
    refine lv_aload_n hx hb d_law_819 rfl (lv_at hl 5 rfl) ?_
    refine lv_iload hx hb d_law_820 (lv_at hl 1 rfl) ?_
    refine lv_bipush (v := 8) hx hb d_law_822 (by decide) ?_
    refine lv_iadd hx hb d_law_824 ?_
    rw [show ((nI i) + 8 : Int32) = nI (i + 8) from nI_add _ 8]
    refine va_sld hx hb hX hbl hbA hS (vp_in_nI (by omega) (by omega)) d_law_825 ?_
    rw [show (xs (nI (i + 8)).toNatClampNeg : Int32) = xs (i + 8) from by rw [nI_clamp (by omega)]]
    refine lv_i2l (v := (xs (i + 8) : Int32).toInt64) hx hb d_law_826 rfl ?_
    refine lv_bipush (v := 32) hx hb d_law_827 (by decide) ?_
    refine lv_lshl (v := ((xs (i + 8) : Int32).toInt64 : Int64) <<< ((32 : Int32).toInt64 &&& 63)) hx hb d_law_829 rfl ?_
    refine lv_aload_n hx hb d_law_830 rfl (lv_at hl 5 rfl) ?_
    refine lv_iload hx hb d_law_831 (lv_at hl 1 rfl) ?_
    refine lv_bipush (v := 9) hx hb d_law_833 (by decide) ?_
    refine lv_iadd hx hb d_law_835 ?_
    rw [show ((nI i) + 9 : Int32) = nI (i + 9) from nI_add _ 9]
    refine va_sld hx hb hX hbl hbA hS (vp_in_nI (by omega) (by omega)) d_law_836 ?_
    rw [show (xs (nI (i + 9)).toNatClampNeg : Int32) = xs (i + 9) from by rw [nI_clamp (by omega)]]
    refine lv_i2l (v := (xs (i + 9) : Int32).toInt64) hx hb d_law_837 rfl ?_
    refine lv_ldc2 (v := 4294967295) hx hb hown (hts _ (List.mem_cons_of_mem _ gk_1202)) d_law_838 ?_
    refine lv_land hx hb d_law_841 ?_
    refine lv_lor hx hb d_law_842 ?_
    rw [show ((((xs (i + 8) : Int32).toInt64 : Int64) <<< ((32 : Int32).toInt64 &&& 63)) ||| (((xs (i + 9) : Int32).toInt64) &&& 4294967295) : Int64) = x5 from hx5.symm]
    refine lv_aload_n hx hb d_law_843 rfl (lv_at hl 5 rfl) ?_
    refine lv_iload hx hb d_law_844 (lv_at hl 1 rfl) ?_
    refine lv_bipush (v := 10) hx hb d_law_846 (by decide) ?_
    refine lv_iadd hx hb d_law_848 ?_
    rw [show ((nI i) + 10 : Int32) = nI (i + 10) from nI_add _ 10]
    refine va_sld hx hb hX hbl hbA hS (vp_in_nI (by omega) (by omega)) d_law_849 ?_
    rw [show (xs (nI (i + 10)).toNatClampNeg : Int32) = xs (i + 10) from by rw [nI_clamp (by omega)]]
    refine lv_i2l (v := (xs (i + 10) : Int32).toInt64) hx hb d_law_850 rfl ?_
    refine lv_bipush (v := 32) hx hb d_law_851 (by decide) ?_
    refine lv_lshl (v := ((xs (i + 10) : Int32).toInt64 : Int64) <<< ((32 : Int32).toInt64 &&& 63)) hx hb d_law_853 rfl ?_
    refine lv_aload_n hx hb d_law_854 rfl (lv_at hl 5 rfl) ?_
    refine lv_iload hx hb d_law_855 (lv_at hl 1 rfl) ?_
    refine lv_bipush (v := 11) hx hb d_law_857 (by decide) ?_
    refine lv_iadd hx hb d_law_859 ?_
    rw [show ((nI i) + 11 : Int32) = nI (i + 11) from nI_add _ 11]
    refine va_sld hx hb hX hbl hbA hS (vp_in_nI (by omega) (by omega)) d_law_860 ?_
    rw [show (xs (nI (i + 11)).toNatClampNeg : Int32) = xs (i + 11) from by rw [nI_clamp (by omega)]]
    refine lv_i2l (v := (xs (i + 11) : Int32).toInt64) hx hb d_law_861 rfl ?_
    refine lv_ldc2 (v := 4294967295) hx hb hown (hts _ (List.mem_cons_of_mem _ gk_1202)) d_law_862 ?_
    refine lv_land hx hb d_law_865 ?_
    refine lv_lor hx hb d_law_866 ?_
    rw [show ((((xs (i + 10) : Int32).toInt64 : Int64) <<< ((32 : Int32).toInt64 &&& 63)) ||| (((xs (i + 11) : Int32).toInt64) &&& 4294967295) : Int64) = x6 from hx6.symm]
    refine lv_aload_n hx hb d_law_867 rfl (lv_at hl 5 rfl) ?_
    refine lv_iload hx hb d_law_868 (lv_at hl 1 rfl) ?_
    refine lv_bipush (v := 12) hx hb d_law_870 (by decide) ?_
    refine lv_iadd hx hb d_law_872 ?_
    rw [show ((nI i) + 12 : Int32) = nI (i + 12) from nI_add _ 12]
    refine va_sld hx hb hX hbl hbA hS (vp_in_nI (by omega) (by omega)) d_law_873 ?_
    rw [show (xs (nI (i + 12)).toNatClampNeg : Int32) = xs (i + 12) from by rw [nI_clamp (by omega)]]
    refine lv_i2l (v := (xs (i + 12) : Int32).toInt64) hx hb d_law_874 rfl ?_
    refine lv_bipush (v := 32) hx hb d_law_875 (by decide) ?_
    refine lv_lshl (v := ((xs (i + 12) : Int32).toInt64 : Int64) <<< ((32 : Int32).toInt64 &&& 63)) hx hb d_law_877 rfl ?_
    refine lv_aload_n hx hb d_law_878 rfl (lv_at hl 5 rfl) ?_
    refine lv_iload hx hb d_law_879 (lv_at hl 1 rfl) ?_
    refine lv_bipush (v := 13) hx hb d_law_881 (by decide) ?_
    refine lv_iadd hx hb d_law_883 ?_
    rw [show ((nI i) + 13 : Int32) = nI (i + 13) from nI_add _ 13]
    refine va_sld hx hb hX hbl hbA hS (vp_in_nI (by omega) (by omega)) d_law_884 ?_
    rw [show (xs (nI (i + 13)).toNatClampNeg : Int32) = xs (i + 13) from by rw [nI_clamp (by omega)]]
    refine lv_i2l (v := (xs (i + 13) : Int32).toInt64) hx hb d_law_885 rfl ?_
    refine lv_ldc2 (v := 4294967295) hx hb hown (hts _ (List.mem_cons_of_mem _ gk_1202)) d_law_886 ?_
    refine lv_land hx hb d_law_889 ?_
    refine lv_lor hx hb d_law_890 ?_
    rw [show ((((xs (i + 12) : Int32).toInt64 : Int64) <<< ((32 : Int32).toInt64 &&& 63)) ||| (((xs (i + 13) : Int32).toInt64) &&& 4294967295) : Int64) = x7 from hx7.symm]
    have hPc := hP.sub (ws' := (mo_ws m0 e0 (nI (t_tn T)) (nI n) (nI (t_bc T)) (lN P) (lN Q) (lN G) (lN (ckey (t_tn T) (t_kc T) (t_kp T))) (lN (t_pa T)) (lN (t_pb T)) (t_sht T) a0 a1 a2 a3 a4 a5 a6 a7 a8 a9 mb0 mb1 oc mb2 mb3 mb4 mb5 ++ (iw_ws a7 cI 256 bf ++ (iw_ws a8 cI 64 sc ++ (iw_ws a9 cI 8 st ++ (iw_ws mb0 cI 8 kS ++ (iw_ws mb1 cI 64 kR ++ (jw_ws a2 cJ 4 tf ++ (jw_ws a0 cJ 1232 nf ++ (jw_ws a1 cJ 616 cf ++ (iw_ws a6 cI 64 vf ++ (jw_ws mb3 cJ 128 md ++ (iw_ws a4 cI 4 kf ++ jw_ws a3 cJ 16 lf))))))))))))) [26, 27, 28, 29, 30, 31, 32, 33, 34, 39, 40, 35, 37] rfl
    have hDc := hD.sub (ws' := (mo_ws m0 e0 (nI (t_tn T)) (nI n) (nI (t_bc T)) (lN P) (lN Q) (lN G) (lN (ckey (t_tn T) (t_kc T) (t_kp T))) (lN (t_pa T)) (lN (t_pb T)) (t_sht T) a0 a1 a2 a3 a4 a5 a6 a7 a8 a9 mb0 mb1 oc mb2 mb3 mb4 mb5 ++ (iw_ws a7 cI 256 bf ++ (iw_ws a8 cI 64 sc ++ (iw_ws a9 cI 8 st ++ (iw_ws mb0 cI 8 kS ++ (iw_ws mb1 cI 64 kR ++ (jw_ws a2 cJ 4 tf ++ (jw_ws a0 cJ 1232 nf ++ (jw_ws a1 cJ 616 cf ++ (iw_ws a6 cI 64 vf ++ (jw_ws mb3 cJ 128 md ++ (iw_ws a4 cI 4 kf ++ jw_ws a3 cJ 16 lf))))))))))))) [26, 27, 28, 29, 30, 31, 32, 33, 34, 39, 40, 35, 37] (by decide) rfl
    have hKc := hK.sub (tys' := [(cJ, .long), (cI, .int)]) [0, 1] rfl
    have hFc := va_free (wc := (mo_ws m0 e0 (nI (t_tn T)) (nI n) (nI (t_bc T)) (lN P) (lN Q) (lN G) (lN (ckey (t_tn T) (t_kc T) (t_kp T))) (lN (t_pa T)) (lN (t_pb T)) (t_sht T) a0 a1 a2 a3 a4 a5 a6 a7 a8 a9 mb0 mb1 oc mb2 mb3 mb4 mb5 ++ (iw_ws a7 cI 256 bf ++ (iw_ws a8 cI 64 sc ++ (iw_ws a9 cI 8 st ++ (iw_ws mb0 cI 8 kS ++ (iw_ws mb1 cI 64 kR ++ (jw_ws a2 cJ 4 tf ++ (jw_ws a0 cJ 1232 nf ++ (jw_ws a1 cJ 616 cf ++ (iw_ws a6 cI 64 vf ++ (jw_ws mb3 cJ 128 md ++ (iw_ws a4 cI 4 kf ++ jw_ws a3 cJ 16 lf))))))))))))) hD hS hA [26, 27, 28, 29, 30, 31, 32, 33, 34, 39, 40, 35, 37] rfl
    refine va_calli (va_runV (As := [.int x1, .long x2, .long x3, .long x4, .long x5, .long x6, .long x7]) (rest := []) ⟨hx, hb, hml, hown, hts⟩ (c_Bm_ballot_3 l dC dI cJ cI H.size m0 e0 (t_tn T) n (t_bc T) P Q G (ckey (t_tn T) (t_kc T) (t_kp T)) (t_pa T) (t_pb T) (t_sht T) a0 a1 a2 a3 a4 a5 a6 a7 a8 a9 mb0 mb1 oc mb2 mb3 mb4 mb5 bf sc st vf kf tf nf cf md lf (t_ko T) (t_ao T) ky (fun i => lN (t_ao T i)) x1 x2 x3 x4 x5 x6 x7 htn hgr hn hsh0 hrk hrb hal (fun q => hC1 ((bC1_iff hRT).mpr q)) hn9 hC3) (cwV 7 hts (gw_V gk_1117 gk_1118 gk_1119 gk_7 gk_1120) rfl rfl rfl (by decide +kernel) ⟨(Nat.le_of_ble_eq_true rfl), (Nat.le_of_ble_eq_true rfl)⟩) ⟨fun a U g mk q => by obtain ⟨q0, q1, qP, qK, qD⟩ := q; exact ⟨q0, q1, qP, va_K.moved (u := U) (U := U.calling g mk a) (Vm.Alike.refl U.vm) qK, qD⟩, va_recv hK hP (ci := 8) (q0 := 26) rfl rfl, fun U hU hW => ⟨rfl, by rw [hU], by rw [hU]; exact hPc, va_K.moved hW.alike hKc, hDc.weaken (fun _ _ _ _ => trivial)⟩⟩ rfl rfl hl.1 rfl (lv_room (Nat.le_of_ble_eq_true rfl)) d_law_891 ⟨show cells + 8 + 0 ≤ 601024 by omega, show slots + 48 + 0 ≤ 7293034 by omega⟩) hS (fun q _ h => hFc q h) hFc (fun r_12 v9 t9 H1 locs ht hvm hw hB hz1 hk1 hS => ?_)
    obtain ⟨hP1, hK1, hD1⟩ := hB
    rw [ht] at hP1
    obtain ⟨hP, hD⟩ := va_joinQ (X := (jw_ws out cJ 1 of ++ (bb_ws b0 bd0 pr0 t0 au0 da (.ref g0) ++ (rw_ws da cJ (r8 u9.1.1 u9.1.2.1 u9.1.2.2.1 u9.1.2.2.2.1 u9.1.2.2.2.2.1 u9.1.2.2.2.2.2.1 u9.1.2.2.2.2.2.2.1 u9.1.2.2.2.2.2.2.2) ++ (bd_ws bd0 h0 ro lo n cR (rrf rb) (rrf lb) ++ (pr_ws pr0 h0 cm cJ u9.2.1 ++ (hu_ws h0 aw ax ay cJ cI u9.2.2 ++ (tt_ws t0 ka aa ba sa (.ref g0) cJ T ++ (au_ws au0 bd0 pr0 tu0 sd ++ (tt_ws tu0 uka uaa uba usa gu cJ T0 ++ (gp_ws g0 mF mE P f1 k1 Q f2 k2 G ++ (mo_ws m0 e0 (nI (t_tn T)) (nI n) (nI (t_bc T)) (lN P) (lN Q) (lN G) (lN (ckey (t_tn T) (t_kc T) (t_kp T))) (lN (t_pa T)) (lN (t_pb T)) (t_sht T) a0 a1 a2 a3 a4 a5 a6 a7 a8 a9 mb0 mb1 oc mb2 mb3 mb4 mb5 ++ (iw_ws a7 cI 256 bf ++ (iw_ws a8 cI 64 sc ++ (iw_ws a9 cI 8 st ++ (iw_ws mb0 cI 8 kS ++ (iw_ws mb1 cI 64 kR ++ (jw_ws a2 cJ 4 tf ++ (jw_ws a0 cJ 1232 nf ++ (jw_ws a1 cJ 616 cf ++ (iw_ws a4 cI 4 kf ++ (jw_ws mb2 cJ 4 ky ++ (jw_ws a3 cJ 16 lf ++ (iw_ws a5 cI 4 sf ++ (iw_ws a6 cI 64 vf ++ (jw_ws mb3 cJ 128 md ++ (jw_ws mb4 cJ 4 sh ++ iw_ws mb5 cI 64 ct))))))))))))))))))))))))))) (cx := (mo_ws m0 e0 (nI (t_tn T)) (nI n) (nI (t_bc T)) (lN P) (lN Q) (lN G) (lN (ckey (t_tn T) (t_kc T) (t_kp T))) (lN (t_pa T)) (lN (t_pb T)) (t_sht T) a0 a1 a2 a3 a4 a5 a6 a7 a8 a9 mb0 mb1 oc mb2 mb3 mb4 mb5 ++ (iw_ws a7 cI 256 bf ++ (iw_ws a8 cI 64 sc ++ (iw_ws a9 cI 8 st ++ (iw_ws mb0 cI 8 kS ++ (iw_ws mb1 cI 64 kR ++ (jw_ws a2 cJ 4 tf ++ (jw_ws a0 cJ 1232 nf ++ (jw_ws a1 cJ 616 cf ++ (iw_ws a6 cI 64 vf ++ (jw_ws mb3 cJ 128 md ++ (iw_ws a4 cI 4 kf ++ jw_ws a3 cJ 16 lf))))))))))))) (wr := (jw_ws out cJ 1 of ++ (bb_ws b0 bd0 pr0 t0 au0 da (.ref g0) ++ (rw_ws da cJ (r8 u9.1.1 u9.1.2.1 u9.1.2.2.1 u9.1.2.2.2.1 u9.1.2.2.2.2.1 u9.1.2.2.2.2.2.1 u9.1.2.2.2.2.2.2.1 u9.1.2.2.2.2.2.2.2) ++ (bd_ws bd0 h0 ro lo n cR (rrf rb) (rrf lb) ++ (pr_ws pr0 h0 cm cJ u9.2.1 ++ (hu_ws h0 aw ax ay cJ cI u9.2.2 ++ (tt_ws t0 ka aa ba sa (.ref g0) cJ T ++ (au_ws au0 bd0 pr0 tu0 sd ++ (tt_ws tu0 uka uaa uba usa gu cJ T0 ++ (gp_ws g0 mF mE P f1 k1 Q f2 k2 G ++ (jw_ws mb2 cJ 4 ky ++ (iw_ws a5 cI 4 sf ++ (jw_ws mb4 cJ 4 sh ++ iw_ws mb5 cI 64 ct)))))))))))))) (w1 := (mo_ws m0 3 (nI (t_tn T)) (nI n) (nI (t_bc T)) (lN P) (lN Q) (lN G) (lN (ckey (t_tn T) (t_kc T) (t_kp T))) (lN (t_pa T)) (lN (t_pb T)) (t_sht T) a0 a1 a2 a3 a4 a5 a6 a7 a8 a9 mb0 mb1 v9.1.2.2.2.2 mb2 mb3 mb4 mb5 ++ (iw_ws a7 cI 256 v9.1.1 ++ (iw_ws a8 cI 64 v9.1.2.1 ++ (iw_ws a9 cI 8 v9.1.2.2.1 ++ (iw_ws mb0 cI 8 kS ++ (iw_ws mb1 cI 64 kR ++ (jw_ws a2 cJ 4 v9.1.2.2.2.1 ++ (jw_ws a0 cJ 1232 nf ++ (jw_ws a1 cJ 616 cf ++ (iw_ws a6 cI 64 vf ++ (jw_ws mb3 cJ 128 md ++ (iw_ws a4 cI 4 kf ++ jw_ws a3 cJ 16 v9.2))))))))))))) (pl := bpool rb lb cJ R Lk) hP hD [26, 27, 28, 29, 30, 31, 32, 33, 34, 39, 40, 35, 37] [0, 1, 2, 3, 4, 5, 6, 7, 8, 9, 10, 11, 12, 13, 14, 15, 16, 17, 18, 19, 20, 21, 22, 23, 24, 25, 36, 38, 41, 42] rfl rfl (by decide) (by decide) hk1 hFc hP1 hD1
    have hP := hP.part (cx := (jw_ws out cJ 1 of ++ (bb_ws b0 bd0 pr0 t0 au0 da (.ref g0) ++ (rw_ws da cJ (r8 u9.1.1 u9.1.2.1 u9.1.2.2.1 u9.1.2.2.2.1 u9.1.2.2.2.2.1 u9.1.2.2.2.2.2.1 u9.1.2.2.2.2.2.2.1 u9.1.2.2.2.2.2.2.2) ++ (bd_ws bd0 h0 ro lo n cR (rrf rb) (rrf lb) ++ (pr_ws pr0 h0 cm cJ u9.2.1 ++ (hu_ws h0 aw ax ay cJ cI u9.2.2 ++ (tt_ws t0 ka aa ba sa (.ref g0) cJ T ++ (au_ws au0 bd0 pr0 tu0 sd ++ (tt_ws tu0 uka uaa uba usa gu cJ T0 ++ (gp_ws g0 mF mE P f1 k1 Q f2 k2 G ++ (mo_ws m0 3 (nI (t_tn T)) (nI n) (nI (t_bc T)) (lN P) (lN Q) (lN G) (lN (ckey (t_tn T) (t_kc T) (t_kp T))) (lN (t_pa T)) (lN (t_pb T)) (t_sht T) a0 a1 a2 a3 a4 a5 a6 a7 a8 a9 mb0 mb1 v9.1.2.2.2.2 mb2 mb3 mb4 mb5 ++ (iw_ws a7 cI 256 v9.1.1 ++ (iw_ws a8 cI 64 v9.1.2.1 ++ (iw_ws a9 cI 8 v9.1.2.2.1 ++ (iw_ws mb0 cI 8 kS ++ (iw_ws mb1 cI 64 kR ++ (jw_ws a2 cJ 4 v9.1.2.2.2.1 ++ (jw_ws a0 cJ 1232 nf ++ (jw_ws a1 cJ 616 cf ++ (iw_ws a4 cI 4 kf ++ (jw_ws mb2 cJ 4 ky ++ (jw_ws a3 cJ 16 v9.2 ++ (iw_ws a5 cI 4 sf ++ (iw_ws a6 cI 64 vf ++ (jw_ws mb3 cJ 128 md ++ (jw_ws mb4 cJ 4 sh ++ iw_ws mb5 cI 64 ct))))))))))))))))))))))))))) [0, 1, 2, 3, 4, 5, 6, 7, 8, 9, 10, 11, 12, 13, 14, 15, 16, 17, 18, 19, 20, 21, 22, 23, 24, 25, 30, 31, 32, 33, 34, 35, 36, 37, 38, 41, 26, 42, 27, 39, 40, 28, 29] rfl
    have hD := hD.part (cx := (jw_ws out cJ 1 of ++ (bb_ws b0 bd0 pr0 t0 au0 da (.ref g0) ++ (rw_ws da cJ (r8 u9.1.1 u9.1.2.1 u9.1.2.2.1 u9.1.2.2.2.1 u9.1.2.2.2.2.1 u9.1.2.2.2.2.2.1 u9.1.2.2.2.2.2.2.1 u9.1.2.2.2.2.2.2.2) ++ (bd_ws bd0 h0 ro lo n cR (rrf rb) (rrf lb) ++ (pr_ws pr0 h0 cm cJ u9.2.1 ++ (hu_ws h0 aw ax ay cJ cI u9.2.2 ++ (tt_ws t0 ka aa ba sa (.ref g0) cJ T ++ (au_ws au0 bd0 pr0 tu0 sd ++ (tt_ws tu0 uka uaa uba usa gu cJ T0 ++ (gp_ws g0 mF mE P f1 k1 Q f2 k2 G ++ (mo_ws m0 3 (nI (t_tn T)) (nI n) (nI (t_bc T)) (lN P) (lN Q) (lN G) (lN (ckey (t_tn T) (t_kc T) (t_kp T))) (lN (t_pa T)) (lN (t_pb T)) (t_sht T) a0 a1 a2 a3 a4 a5 a6 a7 a8 a9 mb0 mb1 v9.1.2.2.2.2 mb2 mb3 mb4 mb5 ++ (iw_ws a7 cI 256 v9.1.1 ++ (iw_ws a8 cI 64 v9.1.2.1 ++ (iw_ws a9 cI 8 v9.1.2.2.1 ++ (iw_ws mb0 cI 8 kS ++ (iw_ws mb1 cI 64 kR ++ (jw_ws a2 cJ 4 v9.1.2.2.2.1 ++ (jw_ws a0 cJ 1232 nf ++ (jw_ws a1 cJ 616 cf ++ (iw_ws a4 cI 4 kf ++ (jw_ws mb2 cJ 4 ky ++ (jw_ws a3 cJ 16 v9.2 ++ (iw_ws a5 cI 4 sf ++ (iw_ws a6 cI 64 vf ++ (jw_ws mb3 cJ 128 md ++ (jw_ws mb4 cJ 4 sh ++ iw_ws mb5 cI 64 ct))))))))))))))))))))))))))) [0, 1, 2, 3, 4, 5, 6, 7, 8, 9, 10, 11, 12, 13, 14, 15, 16, 17, 18, 19, 20, 21, 22, 23, 24, 25, 30, 31, 32, 33, 34, 35, 36, 37, 38, 41, 26, 42, 27, 39, 40, 28, 29] (by decide) rfl
    generalize H1 = H at hP hS ⊢
    clear hPc hDc hFc hP1 hD1 hK1 ht hk1 hz1
    refine lv_istore (lv' := [(6, .int r_12), (5, .int 3), (4, .int (nI i)), (3, .ref out), (2, .ref m0), (1, .ref b0), (0, .ref b)]) hx hb d_law_894 hl (by decide) rfl (fun ls hl => ?_)
    refine lv_aload_n hx hb d_law_896 rfl (lv_at hl 4 rfl) ?_
    have hPc := hP.sub (ws' := (mo_ws m0 3 (nI (t_tn T)) (nI n) (nI (t_bc T)) (lN P) (lN Q) (lN G) (lN (ckey (t_tn T) (t_kc T) (t_kp T))) (lN (t_pa T)) (lN (t_pb T)) (t_sht T) a0 a1 a2 a3 a4 a5 a6 a7 a8 a9 mb0 mb1 v9.1.2.2.2.2 mb2 mb3 mb4 mb5)) [26] rfl
    have hKc := hK.sub (tys' := [(cJ, .long), (cI, .int)]) [0, 1] rfl
    refine va_calli (va_runV (As := []) (rest := []) ⟨hx, hb, hml, hown, hts⟩ (c_Bm_thrown l H dC dI cJ cI m0 3 (nI (t_tn T)) (nI n) (nI (t_bc T)) (lN P) (lN Q) (lN G) (lN (ckey (t_tn T) (t_kc T) (t_kp T))) (lN (t_pa T)) (lN (t_pb T)) (t_sht T) a0 a1 a2 a3 a4 a5 a6 a7 a8 a9 mb0 mb1 v9.1.2.2.2.2 mb2 mb3 mb4 mb5 hPc) (cwV 0 hts (gw_V gk_1004 gk_1005 gk_1006 gk_7 gk_1007) rfl rfl rfl (by decide +kernel) ⟨(Nat.le_of_ble_eq_true rfl), (Nat.le_of_ble_eq_true rfl)⟩) ⟨fun a U g mk q => ⟨q.1, q.2.1, va_K.moved (u := U) (U := U.calling g mk a) (Vm.Alike.refl U.vm) q.2.2⟩, va_recv hK hP (ci := 8) (q0 := 26) rfl rfl, fun U hU hW => ⟨rfl, hU, va_K.moved hW.alike hKc⟩⟩ rfl rfl hl.1 rfl (lv_room (Nat.le_of_ble_eq_true rfl)) d_law_897 ⟨show cells + 8 + 0 + 0 ≤ 601024 by omega, show slots + 48 + 0 + 0 ≤ 7293034 by omega⟩) hS (fun q _ h => h.elim) (fun q h => h.elim) (fun r_13 w9 t9 H1 locs ht hvm hw9 hB hz1 hk1 hS => ?_)
    obtain rfl : H = H1 := hB.symm.trans ht
    have hw9 : r_13 = 3 := hw9
    subst hw9
    clear hPc hz1 hk1 hB
    refine lv_iload hx hb d_law_900 (lv_at hl 1 rfl) ?_
    refine lv_icmp_eq (tgt := 907) hx hb d_law_902 (by decide) (fun c_14 => ?_) (fun c_14 => ?_)
    · -- taken
      refine lv_iload hx hb d_law_907 (lv_at hl 1 rfl) ?_
      refine lv_if_ne (tgt := 924) hx hb d_law_909 (by decide) (fun c_15 => ?_) (fun c_15 => ?_)
      · -- taken
        refine lv_goto (tgt := 1965) hx hb d_law_924 (by decide) ?_
        refine W.widen (k := cells + 20) (n := slots + 200) (by omega) (by omega) ?_
        have hI9 : LI dC dI cJ cI cR A out b0 m0 H := LG.mk hP hD hR
        exact cont _ _ _ hS hI9 (lv_sub hl [2, 3, 4, 5, 6] rfl)
      · -- not taken
        exact absurd c_15 (by decide)
    · -- not taken
      exact absurd c_14 (by decide)
  refine lv_aload_n hx hb d_law_591 rfl (lv_at hl 3 rfl) ?_
  refine lv_aload_n hx hb d_law_592 rfl (lv_at hl 4 rfl) ?_
  refine lv_iload hx hb d_law_593 (lv_at hl 0 rfl) ?_
  refine lv_iconst (v := 1) hx hb d_law_595 (by decide) ?_
  refine lv_iadd hx hb d_law_596 ?_
  rw [show ((nI i) + 1 : Int32) = nI (i + 1) from nI_add _ 1]
  refine va_sld hx hb hX hbl hbA hS (vp_in_nI (by omega) (by omega)) d_law_597 ?_
  rw [show (xs (nI (i + 1)).toNatClampNeg : Int32) = xs (i + 1) from by rw [nI_clamp (by omega)]]
  rw [show (xs (i + 1) : Int32) = x1 from hx1.symm]
  refine lv_aload_n hx hb d_law_598 rfl (lv_at hl 4 rfl) ?_
  refine lv_iload hx hb d_law_599 (lv_at hl 0 rfl) ?_
  refine lv_iconst (v := 2) hx hb d_law_601 (by decide) ?_
  refine lv_iadd hx hb d_law_602 ?_
  rw [show ((nI i) + 2 : Int32) = nI (i + 2) from nI_add _ 2]
  refine va_sld hx hb hX hbl hbA hS (vp_in_nI (by omega) (by omega)) d_law_603 ?_
  rw [show (xs (nI (i + 2)).toNatClampNeg : Int32) = xs (i + 2) from by rw [nI_clamp (by omega)]]
  refine lv_i2l (v := (xs (i + 2) : Int32).toInt64) hx hb d_law_604 rfl ?_
  refine lv_bipush (v := 32) hx hb d_law_605 (by decide) ?_
  refine lv_lshl (v := ((xs (i + 2) : Int32).toInt64 : Int64) <<< ((32 : Int32).toInt64 &&& 63)) hx hb d_law_607 rfl ?_
  refine lv_aload_n hx hb d_law_608 rfl (lv_at hl 4 rfl) ?_
  refine lv_iload hx hb d_law_609 (lv_at hl 0 rfl) ?_
  refine lv_iconst (v := 3) hx hb d_law_611 (by decide) ?_
  refine lv_iadd hx hb d_law_612 ?_
  rw [show ((nI i) + 3 : Int32) = nI (i + 3) from nI_add _ 3]
  refine va_sld hx hb hX hbl hbA hS (vp_in_nI (by omega) (by omega)) d_law_613 ?_
  rw [show (xs (nI (i + 3)).toNatClampNeg : Int32) = xs (i + 3) from by rw [nI_clamp (by omega)]]
  refine lv_i2l (v := (xs (i + 3) : Int32).toInt64) hx hb d_law_614 rfl ?_
  refine lv_ldc2 (v := 4294967295) hx hb hown (hts _ (List.mem_cons_of_mem _ gk_1202)) d_law_615 ?_
  refine lv_land hx hb d_law_618 ?_
  refine lv_lor hx hb d_law_619 ?_
  rw [show ((((xs (i + 2) : Int32).toInt64 : Int64) <<< ((32 : Int32).toInt64 &&& 63)) ||| (((xs (i + 3) : Int32).toInt64) &&& 4294967295) : Int64) = x2 from hx2.symm]
  refine lv_aload_n hx hb d_law_620 rfl (lv_at hl 4 rfl) ?_
  refine lv_iload hx hb d_law_621 (lv_at hl 0 rfl) ?_
  refine lv_iconst (v := 4) hx hb d_law_623 (by decide) ?_
  refine lv_iadd hx hb d_law_624 ?_
  rw [show ((nI i) + 4 : Int32) = nI (i + 4) from nI_add _ 4]
  refine va_sld hx hb hX hbl hbA hS (vp_in_nI (by omega) (by omega)) d_law_625 ?_
  rw [show (xs (nI (i + 4)).toNatClampNeg : Int32) = xs (i + 4) from by rw [nI_clamp (by omega)]]
  refine lv_i2l (v := (xs (i + 4) : Int32).toInt64) hx hb d_law_626 rfl ?_
  refine lv_bipush (v := 32) hx hb d_law_627 (by decide) ?_
  refine lv_lshl (v := ((xs (i + 4) : Int32).toInt64 : Int64) <<< ((32 : Int32).toInt64 &&& 63)) hx hb d_law_629 rfl ?_
  refine lv_aload_n hx hb d_law_630 rfl (lv_at hl 4 rfl) ?_
  refine lv_iload hx hb d_law_631 (lv_at hl 0 rfl) ?_
  refine lv_iconst (v := 5) hx hb d_law_633 (by decide) ?_
  refine lv_iadd hx hb d_law_634 ?_
  rw [show ((nI i) + 5 : Int32) = nI (i + 5) from nI_add _ 5]
  refine va_sld hx hb hX hbl hbA hS (vp_in_nI (by omega) (by omega)) d_law_635 ?_
  rw [show (xs (nI (i + 5)).toNatClampNeg : Int32) = xs (i + 5) from by rw [nI_clamp (by omega)]]
  refine lv_i2l (v := (xs (i + 5) : Int32).toInt64) hx hb d_law_636 rfl ?_
  refine lv_ldc2 (v := 4294967295) hx hb hown (hts _ (List.mem_cons_of_mem _ gk_1202)) d_law_637 ?_
  refine lv_land hx hb d_law_640 ?_
  refine lv_lor hx hb d_law_641 ?_
  rw [show ((((xs (i + 4) : Int32).toInt64 : Int64) <<< ((32 : Int32).toInt64 &&& 63)) ||| (((xs (i + 5) : Int32).toInt64) &&& 4294967295) : Int64) = x3 from hx3.symm]
  refine lv_aload_n hx hb d_law_642 rfl (lv_at hl 4 rfl) ?_
  refine lv_iload hx hb d_law_643 (lv_at hl 0 rfl) ?_
  refine lv_bipush (v := 6) hx hb d_law_645 (by decide) ?_
  refine lv_iadd hx hb d_law_647 ?_
  rw [show ((nI i) + 6 : Int32) = nI (i + 6) from nI_add _ 6]
  refine va_sld hx hb hX hbl hbA hS (vp_in_nI (by omega) (by omega)) d_law_648 ?_
  rw [show (xs (nI (i + 6)).toNatClampNeg : Int32) = xs (i + 6) from by rw [nI_clamp (by omega)]]
  refine lv_i2l (v := (xs (i + 6) : Int32).toInt64) hx hb d_law_649 rfl ?_
  refine lv_bipush (v := 32) hx hb d_law_650 (by decide) ?_
  refine lv_lshl (v := ((xs (i + 6) : Int32).toInt64 : Int64) <<< ((32 : Int32).toInt64 &&& 63)) hx hb d_law_652 rfl ?_
  refine lv_aload_n hx hb d_law_653 rfl (lv_at hl 4 rfl) ?_
  refine lv_iload hx hb d_law_654 (lv_at hl 0 rfl) ?_
  refine lv_bipush (v := 7) hx hb d_law_656 (by decide) ?_
  refine lv_iadd hx hb d_law_658 ?_
  rw [show ((nI i) + 7 : Int32) = nI (i + 7) from nI_add _ 7]
  refine va_sld hx hb hX hbl hbA hS (vp_in_nI (by omega) (by omega)) d_law_659 ?_
  rw [show (xs (nI (i + 7)).toNatClampNeg : Int32) = xs (i + 7) from by rw [nI_clamp (by omega)]]
  refine lv_i2l (v := (xs (i + 7) : Int32).toInt64) hx hb d_law_660 rfl ?_
  refine lv_ldc2 (v := 4294967295) hx hb hown (hts _ (List.mem_cons_of_mem _ gk_1202)) d_law_661 ?_
  refine lv_land hx hb d_law_664 ?_
  refine lv_lor hx hb d_law_665 ?_
  rw [show ((((xs (i + 6) : Int32).toInt64 : Int64) <<< ((32 : Int32).toInt64 &&& 63)) ||| (((xs (i + 7) : Int32).toInt64) &&& 4294967295) : Int64) = x4 from hx4.symm]
  refine lv_aload_n hx hb d_law_666 rfl (lv_at hl 4 rfl) ?_
  refine lv_iload hx hb d_law_667 (lv_at hl 0 rfl) ?_
  refine lv_bipush (v := 8) hx hb d_law_669 (by decide) ?_
  refine lv_iadd hx hb d_law_671 ?_
  rw [show ((nI i) + 8 : Int32) = nI (i + 8) from nI_add _ 8]
  refine va_sld hx hb hX hbl hbA hS (vp_in_nI (by omega) (by omega)) d_law_672 ?_
  rw [show (xs (nI (i + 8)).toNatClampNeg : Int32) = xs (i + 8) from by rw [nI_clamp (by omega)]]
  refine lv_i2l (v := (xs (i + 8) : Int32).toInt64) hx hb d_law_673 rfl ?_
  refine lv_bipush (v := 32) hx hb d_law_674 (by decide) ?_
  refine lv_lshl (v := ((xs (i + 8) : Int32).toInt64 : Int64) <<< ((32 : Int32).toInt64 &&& 63)) hx hb d_law_676 rfl ?_
  refine lv_aload_n hx hb d_law_677 rfl (lv_at hl 4 rfl) ?_
  refine lv_iload hx hb d_law_678 (lv_at hl 0 rfl) ?_
  refine lv_bipush (v := 9) hx hb d_law_680 (by decide) ?_
  refine lv_iadd hx hb d_law_682 ?_
  rw [show ((nI i) + 9 : Int32) = nI (i + 9) from nI_add _ 9]
  refine va_sld hx hb hX hbl hbA hS (vp_in_nI (by omega) (by omega)) d_law_683 ?_
  rw [show (xs (nI (i + 9)).toNatClampNeg : Int32) = xs (i + 9) from by rw [nI_clamp (by omega)]]
  refine lv_i2l (v := (xs (i + 9) : Int32).toInt64) hx hb d_law_684 rfl ?_
  refine lv_ldc2 (v := 4294967295) hx hb hown (hts _ (List.mem_cons_of_mem _ gk_1202)) d_law_685 ?_
  refine lv_land hx hb d_law_688 ?_
  refine lv_lor hx hb d_law_689 ?_
  rw [show ((((xs (i + 8) : Int32).toInt64 : Int64) <<< ((32 : Int32).toInt64 &&& 63)) ||| (((xs (i + 9) : Int32).toInt64) &&& 4294967295) : Int64) = x5 from hx5.symm]
  refine lv_aload_n hx hb d_law_690 rfl (lv_at hl 4 rfl) ?_
  refine lv_iload hx hb d_law_691 (lv_at hl 0 rfl) ?_
  refine lv_bipush (v := 10) hx hb d_law_693 (by decide) ?_
  refine lv_iadd hx hb d_law_695 ?_
  rw [show ((nI i) + 10 : Int32) = nI (i + 10) from nI_add _ 10]
  refine va_sld hx hb hX hbl hbA hS (vp_in_nI (by omega) (by omega)) d_law_696 ?_
  rw [show (xs (nI (i + 10)).toNatClampNeg : Int32) = xs (i + 10) from by rw [nI_clamp (by omega)]]
  refine lv_i2l (v := (xs (i + 10) : Int32).toInt64) hx hb d_law_697 rfl ?_
  refine lv_bipush (v := 32) hx hb d_law_698 (by decide) ?_
  refine lv_lshl (v := ((xs (i + 10) : Int32).toInt64 : Int64) <<< ((32 : Int32).toInt64 &&& 63)) hx hb d_law_700 rfl ?_
  refine lv_aload_n hx hb d_law_701 rfl (lv_at hl 4 rfl) ?_
  refine lv_iload hx hb d_law_702 (lv_at hl 0 rfl) ?_
  refine lv_bipush (v := 11) hx hb d_law_704 (by decide) ?_
  refine lv_iadd hx hb d_law_706 ?_
  rw [show ((nI i) + 11 : Int32) = nI (i + 11) from nI_add _ 11]
  refine va_sld hx hb hX hbl hbA hS (vp_in_nI (by omega) (by omega)) d_law_707 ?_
  rw [show (xs (nI (i + 11)).toNatClampNeg : Int32) = xs (i + 11) from by rw [nI_clamp (by omega)]]
  refine lv_i2l (v := (xs (i + 11) : Int32).toInt64) hx hb d_law_708 rfl ?_
  refine lv_ldc2 (v := 4294967295) hx hb hown (hts _ (List.mem_cons_of_mem _ gk_1202)) d_law_709 ?_
  refine lv_land hx hb d_law_712 ?_
  refine lv_lor hx hb d_law_713 ?_
  rw [show ((((xs (i + 10) : Int32).toInt64 : Int64) <<< ((32 : Int32).toInt64 &&& 63)) ||| (((xs (i + 11) : Int32).toInt64) &&& 4294967295) : Int64) = x6 from hx6.symm]
  refine lv_aload_n hx hb d_law_714 rfl (lv_at hl 4 rfl) ?_
  refine lv_iload hx hb d_law_715 (lv_at hl 0 rfl) ?_
  refine lv_bipush (v := 12) hx hb d_law_717 (by decide) ?_
  refine lv_iadd hx hb d_law_719 ?_
  rw [show ((nI i) + 12 : Int32) = nI (i + 12) from nI_add _ 12]
  refine va_sld hx hb hX hbl hbA hS (vp_in_nI (by omega) (by omega)) d_law_720 ?_
  rw [show (xs (nI (i + 12)).toNatClampNeg : Int32) = xs (i + 12) from by rw [nI_clamp (by omega)]]
  refine lv_i2l (v := (xs (i + 12) : Int32).toInt64) hx hb d_law_721 rfl ?_
  refine lv_bipush (v := 32) hx hb d_law_722 (by decide) ?_
  refine lv_lshl (v := ((xs (i + 12) : Int32).toInt64 : Int64) <<< ((32 : Int32).toInt64 &&& 63)) hx hb d_law_724 rfl ?_
  refine lv_aload_n hx hb d_law_725 rfl (lv_at hl 4 rfl) ?_
  refine lv_iload hx hb d_law_726 (lv_at hl 0 rfl) ?_
  refine lv_bipush (v := 13) hx hb d_law_728 (by decide) ?_
  refine lv_iadd hx hb d_law_730 ?_
  rw [show ((nI i) + 13 : Int32) = nI (i + 13) from nI_add _ 13]
  refine va_sld hx hb hX hbl hbA hS (vp_in_nI (by omega) (by omega)) d_law_731 ?_
  rw [show (xs (nI (i + 13)).toNatClampNeg : Int32) = xs (i + 13) from by rw [nI_clamp (by omega)]]
  refine lv_i2l (v := (xs (i + 13) : Int32).toInt64) hx hb d_law_732 rfl ?_
  refine lv_ldc2 (v := 4294967295) hx hb hown (hts _ (List.mem_cons_of_mem _ gk_1202)) d_law_733 ?_
  refine lv_land hx hb d_law_736 ?_
  refine lv_lor hx hb d_law_737 ?_
  rw [show ((((xs (i + 12) : Int32).toInt64 : Int64) <<< ((32 : Int32).toInt64 &&& 63)) ||| (((xs (i + 13) : Int32).toInt64) &&& 4294967295) : Int64) = x7 from hx7.symm]
  refine lv_aload_n hx hb d_law_738 rfl (lv_at hl 1 rfl) ?_
  have hPc := hP.part (cx := (jw_ws out cJ 1 of ++ (bb_ws b0 bd0 pr0 t0 au0 da (.ref g0) ++ (rw_ws da cJ (r8 d0 d1 d2 d3 d4 d5 d6 d7) ++ (bd_ws bd0 h0 ro lo n cR (rrf rb) (rrf lb) ++ (pr_ws pr0 h0 cm cJ ccf ++ (ha_ws h0 aw ax ay cJ cI w csc cst cL ++ (tt_ws t0 ka aa ba sa (.ref g0) cJ T ++ gp_ws g0 mF mE P f1 k1 Q f2 k2 G)))))))) [0, 1, 2, 3, 4, 5, 6, 7, 8, 9, 10, 11, 12, 13, 14, 15, 16, 23, 24, 25] rfl
  have hDc := hD.part (cx := (jw_ws out cJ 1 of ++ (bb_ws b0 bd0 pr0 t0 au0 da (.ref g0) ++ (rw_ws da cJ (r8 d0 d1 d2 d3 d4 d5 d6 d7) ++ (bd_ws bd0 h0 ro lo n cR (rrf rb) (rrf lb) ++ (pr_ws pr0 h0 cm cJ ccf ++ (ha_ws h0 aw ax ay cJ cI w csc cst cL ++ (tt_ws t0 ka aa ba sa (.ref g0) cJ T ++ gp_ws g0 mF mE P f1 k1 Q f2 k2 G)))))))) [0, 1, 2, 3, 4, 5, 6, 7, 8, 9, 10, 11, 12, 13, 14, 15, 16, 23, 24, 25] (by decide) rfl
  have hKc := hK.sub (tys' := [(cJ, .long), (cI, .int), (cR, .array .long)]) [0, 1, 2] rfl
  have hFc := va_freeP (cx := (jw_ws out cJ 1 of ++ (bb_ws b0 bd0 pr0 t0 au0 da (.ref g0) ++ (rw_ws da cJ (r8 d0 d1 d2 d3 d4 d5 d6 d7) ++ (bd_ws bd0 h0 ro lo n cR (rrf rb) (rrf lb) ++ (pr_ws pr0 h0 cm cJ ccf ++ (ha_ws h0 aw ax ay cJ cI w csc cst cL ++ (tt_ws t0 ka aa ba sa (.ref g0) cJ T ++ gp_ws g0 mF mE P f1 k1 Q f2 k2 G)))))))) hD hS hA [0, 1, 2, 3, 4, 5, 6, 7, 8, 9, 10, 11, 12, 13, 14, 15, 16, 23, 24, 25] rfl
  have hZc0 : ha_Z rA sA (va_A ((jw_ws out cJ 1 of ++ (bb_ws b0 bd0 pr0 t0 au0 da (.ref g0) ++ (rw_ws da cJ (r8 d0 d1 d2 d3 d4 d5 d6 d7) ++ (bd_ws bd0 h0 ro lo n cR (rrf rb) (rrf lb) ++ (pr_ws pr0 h0 cm cJ ccf ++ (ha_ws h0 aw ax ay cJ cI w csc cst cL ++ (tt_ws t0 ka aa ba sa (.ref g0) cJ T ++ gp_ws g0 mF mE P f1 k1 Q f2 k2 G))))))) ++ bpool rb lb cJ R Lk) H.size) s H := (hZha.kept hS.2.1).narrow hFc
  have hZc1 : xz (va_A ((jw_ws out cJ 1 of ++ (bb_ws b0 bd0 pr0 t0 au0 da (.ref g0) ++ (rw_ws da cJ (r8 d0 d1 d2 d3 d4 d5 d6 d7) ++ (bd_ws bd0 h0 ro lo n cR (rrf rb) (rrf lb) ++ (pr_ws pr0 h0 cm cJ ccf ++ (ha_ws h0 aw ax ay cJ cI w csc cst cL ++ (tt_ws t0 ka aa ba sa (.ref g0) cJ T ++ gp_ws g0 mF mE P f1 k1 Q f2 k2 G))))))) ++ bpool rb lb cJ R Lk) H.size) s H := (hZx.kept hS.2.1).narrow hFc
  have hZc2 : nc_Z s := hZn
  refine vx_calli (vx_runSX (hh := h_Lw_ballot) (As := [.ref b0, .int x1, .long x2, .long x3, .long x4, .long x5, .long x6, .long x7, .ref out]) (rest := []) ⟨hx, hb, hml, hown, hts⟩ (c_Lw_ballot_0 l hnt dC dI cJ cI cR H.size b0 bd0 pr0 t0 au0 da h0 ro lo n rb lb cm ccf aw ax ay w csc cst cL ka aa ba sa T g0 mF mE P f1 k1 Q f2 k2 G rA sA R Lk d0 d1 d2 d3 d4 d5 d6 d7 x1 x2 x3 x4 x5 x6 x7 out of hok htok hN0 htn hkc hn hn0B hC1 hn9 hC3) (vx_cwSW 9 hts (gw_Sv gk_624 gk_625 gk_0 gk_626) rfl rfl rfl (by decide +kernel) ⟨(Nat.le_of_ble_eq_true rfl), (Nat.le_of_ble_eq_true rfl)⟩) ⟨fun a U g mk q => by obtain ⟨q0, q1, qP, qK, qD, qZ0, qZ1, qZ2⟩ := q; exact ⟨q0, q1, qP, va_K.moved (u := U) (U := U.calling g mk a) (Vm.Alike.refl U.vm) qK, qD, ha_Z.moved (u := U) (U := U.calling g mk a) (Vm.Alike.refl U.vm) qZ0, xz.same (u := U) (U := U.calling g mk a) rfl qZ1, nc_Z.moved (u := U) (U := U.calling g mk a) (Vm.Alike.refl U.vm) qZ2⟩, fun U hU hW => ⟨rfl, by rw [hU], by rw [hU]; exact hPc, va_K.moved hW.alike hKc, hDc.weaken (fun _ _ _ _ => trivial), by rw [hU]; exact ha_Z.moved hW.alike hZc0, by rw [hU]; exact xz.warm hW hZc1, nc_Z.moved hW.alike hZc2⟩⟩ rfl rfl hl.1 rfl (lv_room (Nat.le_of_ble_eq_true rfl)) d_law_739 ⟨show cells + 8 ≤ 601024 by omega, show slots + 48 ≤ 7293034 by omega⟩) hS (fun q _ h => hFc q h) hFc (fun q _ h => hFc q h) (fun E9 ce9 q9 u8 t9 H1 locs ht hvm hpx hbx hz1 hk1 hS hce hcv hcl => hpx.elim) (fun r_16 u9 t9 H1 locs ht hvm hw hB hz1 hk1 hS => ?_)
  obtain ⟨hP1, hK1, hD1⟩ := hB
  rw [ht] at hP1
  obtain ⟨hP, hD⟩ := va_joinP (X := (jw_ws out cJ 1 of ++ (bb_ws b0 bd0 pr0 t0 au0 da (.ref g0) ++ (rw_ws da cJ (r8 d0 d1 d2 d3 d4 d5 d6 d7) ++ (bd_ws bd0 h0 ro lo n cR (rrf rb) (rrf lb) ++ (pr_ws pr0 h0 cm cJ ccf ++ (ha_ws h0 aw ax ay cJ cI w csc cst cL ++ (tt_ws t0 ka aa ba sa (.ref g0) cJ T ++ (au_ws au0 bd0 pr0 tu0 sd ++ (tt_ws tu0 uka uaa uba usa gu cJ T0 ++ (gp_ws g0 mF mE P f1 k1 Q f2 k2 G ++ (mo_ws m0 e0 (nI (t_tn T)) (nI n) (nI (t_bc T)) (lN P) (lN Q) (lN G) (lN (ckey (t_tn T) (t_kc T) (t_kp T))) (lN (t_pa T)) (lN (t_pb T)) (t_sht T) a0 a1 a2 a3 a4 a5 a6 a7 a8 a9 mb0 mb1 oc mb2 mb3 mb4 mb5 ++ (iw_ws a7 cI 256 bf ++ (iw_ws a8 cI 64 sc ++ (iw_ws a9 cI 8 st ++ (iw_ws mb0 cI 8 kS ++ (iw_ws mb1 cI 64 kR ++ (jw_ws a2 cJ 4 tf ++ (jw_ws a0 cJ 1232 nf ++ (jw_ws a1 cJ 616 cf ++ (iw_ws a4 cI 4 kf ++ (jw_ws mb2 cJ 4 ky ++ (jw_ws a3 cJ 16 lf ++ (iw_ws a5 cI 4 sf ++ (iw_ws a6 cI 64 vf ++ (jw_ws mb3 cJ 128 md ++ (jw_ws mb4 cJ 4 sh ++ iw_ws mb5 cI 64 ct))))))))))))))))))))))))))) (cx := (jw_ws out cJ 1 of ++ (bb_ws b0 bd0 pr0 t0 au0 da (.ref g0) ++ (rw_ws da cJ (r8 d0 d1 d2 d3 d4 d5 d6 d7) ++ (bd_ws bd0 h0 ro lo n cR (rrf rb) (rrf lb) ++ (pr_ws pr0 h0 cm cJ ccf ++ (ha_ws h0 aw ax ay cJ cI w csc cst cL ++ (tt_ws t0 ka aa ba sa (.ref g0) cJ T ++ gp_ws g0 mF mE P f1 k1 Q f2 k2 G)))))))) (wr := (au_ws au0 bd0 pr0 tu0 sd ++ (tt_ws tu0 uka uaa uba usa gu cJ T0 ++ (mo_ws m0 e0 (nI (t_tn T)) (nI n) (nI (t_bc T)) (lN P) (lN Q) (lN G) (lN (ckey (t_tn T) (t_kc T) (t_kp T))) (lN (t_pa T)) (lN (t_pb T)) (t_sht T) a0 a1 a2 a3 a4 a5 a6 a7 a8 a9 mb0 mb1 oc mb2 mb3 mb4 mb5 ++ (iw_ws a7 cI 256 bf ++ (iw_ws a8 cI 64 sc ++ (iw_ws a9 cI 8 st ++ (iw_ws mb0 cI 8 kS ++ (iw_ws mb1 cI 64 kR ++ (jw_ws a2 cJ 4 tf ++ (jw_ws a0 cJ 1232 nf ++ (jw_ws a1 cJ 616 cf ++ (iw_ws a4 cI 4 kf ++ (jw_ws mb2 cJ 4 ky ++ (jw_ws a3 cJ 16 lf ++ (iw_ws a5 cI 4 sf ++ (iw_ws a6 cI 64 vf ++ (jw_ws mb3 cJ 128 md ++ (jw_ws mb4 cJ 4 sh ++ iw_ws mb5 cI 64 ct))))))))))))))))))) (rx := (jw_ws out cJ 1 (vp_updL of 0 (lN n)) ++ (bb_ws b0 bd0 pr0 t0 au0 da (.ref g0) ++ (rw_ws da cJ (r8 (lN 2) (lN u9.1) x2 x3 x4 x5 x6 x7) ++ (bd_ws bd0 h0 ro lo (n + 1) cR (rrf rb) (rrf lb) ++ (pr_ws pr0 h0 cm cJ u9.2.1 ++ (hu_ws h0 aw ax ay cJ cI u9.2.2 ++ (tt_ws t0 ka aa ba sa (.ref g0) cJ (tBal u9.1 (vN x2) (vN x3) T) ++ gp_ws g0 mF mE P f1 k1 Q f2 k2 G)))))))) (pl := bpool rb lb cJ R Lk) (pl1 := bpool rb lb cJ (updF R n (r8 (lN 2) (lN u9.1) x2 x3 x4 x5 x6 x7)) (updF Lk n (lkw (msgL 2 n (r8 (lN 2) (lN u9.1) x2 x3 x4 x5 x6 x7) Lk)))) hP hD [0, 1, 2, 3, 4, 5, 6, 7, 8, 9, 10, 11, 12, 13, 14, 15, 16, 23, 24, 25] [17, 18, 19, 20, 21, 22, 26, 27, 28, 29, 30, 31, 32, 33, 34, 35, 36, 37, 38, 39, 40, 41, 42] rfl rfl (by decide) (by decide) hk1 hFc hP1 hD1
  have hP := hP.part (cx := (jw_ws out cJ 1 (vp_updL of 0 (lN n)) ++ (bb_ws b0 bd0 pr0 t0 au0 da (.ref g0) ++ (rw_ws da cJ (r8 (lN 2) (lN u9.1) x2 x3 x4 x5 x6 x7) ++ (bd_ws bd0 h0 ro lo (n + 1) cR (rrf rb) (rrf lb) ++ (pr_ws pr0 h0 cm cJ u9.2.1 ++ (hu_ws h0 aw ax ay cJ cI u9.2.2 ++ (tt_ws t0 ka aa ba sa (.ref g0) cJ (tBal u9.1 (vN x2) (vN x3) T) ++ (au_ws au0 bd0 pr0 tu0 sd ++ (tt_ws tu0 uka uaa uba usa gu cJ T0 ++ (gp_ws g0 mF mE P f1 k1 Q f2 k2 G ++ (mo_ws m0 e0 (nI (t_tn T)) (nI n) (nI (t_bc T)) (lN P) (lN Q) (lN G) (lN (ckey (t_tn T) (t_kc T) (t_kp T))) (lN (t_pa T)) (lN (t_pb T)) (t_sht T) a0 a1 a2 a3 a4 a5 a6 a7 a8 a9 mb0 mb1 oc mb2 mb3 mb4 mb5 ++ (iw_ws a7 cI 256 bf ++ (iw_ws a8 cI 64 sc ++ (iw_ws a9 cI 8 st ++ (iw_ws mb0 cI 8 kS ++ (iw_ws mb1 cI 64 kR ++ (jw_ws a2 cJ 4 tf ++ (jw_ws a0 cJ 1232 nf ++ (jw_ws a1 cJ 616 cf ++ (iw_ws a4 cI 4 kf ++ (jw_ws mb2 cJ 4 ky ++ (jw_ws a3 cJ 16 lf ++ (iw_ws a5 cI 4 sf ++ (iw_ws a6 cI 64 vf ++ (jw_ws mb3 cJ 128 md ++ (jw_ws mb4 cJ 4 sh ++ iw_ws mb5 cI 64 ct))))))))))))))))))))))))))) [23, 24, 25, 26, 27, 28, 29, 30, 31, 32, 33, 34, 35, 36, 37, 38, 39, 0, 1, 2, 3, 4, 5, 40, 41, 42, 6, 7, 8, 9, 10, 11, 12, 13, 14, 15, 16, 17, 18, 19, 20, 21, 22] rfl
  have hD := hD.part (cx := (jw_ws out cJ 1 (vp_updL of 0 (lN n)) ++ (bb_ws b0 bd0 pr0 t0 au0 da (.ref g0) ++ (rw_ws da cJ (r8 (lN 2) (lN u9.1) x2 x3 x4 x5 x6 x7) ++ (bd_ws bd0 h0 ro lo (n + 1) cR (rrf rb) (rrf lb) ++ (pr_ws pr0 h0 cm cJ u9.2.1 ++ (hu_ws h0 aw ax ay cJ cI u9.2.2 ++ (tt_ws t0 ka aa ba sa (.ref g0) cJ (tBal u9.1 (vN x2) (vN x3) T) ++ (au_ws au0 bd0 pr0 tu0 sd ++ (tt_ws tu0 uka uaa uba usa gu cJ T0 ++ (gp_ws g0 mF mE P f1 k1 Q f2 k2 G ++ (mo_ws m0 e0 (nI (t_tn T)) (nI n) (nI (t_bc T)) (lN P) (lN Q) (lN G) (lN (ckey (t_tn T) (t_kc T) (t_kp T))) (lN (t_pa T)) (lN (t_pb T)) (t_sht T) a0 a1 a2 a3 a4 a5 a6 a7 a8 a9 mb0 mb1 oc mb2 mb3 mb4 mb5 ++ (iw_ws a7 cI 256 bf ++ (iw_ws a8 cI 64 sc ++ (iw_ws a9 cI 8 st ++ (iw_ws mb0 cI 8 kS ++ (iw_ws mb1 cI 64 kR ++ (jw_ws a2 cJ 4 tf ++ (jw_ws a0 cJ 1232 nf ++ (jw_ws a1 cJ 616 cf ++ (iw_ws a4 cI 4 kf ++ (jw_ws mb2 cJ 4 ky ++ (jw_ws a3 cJ 16 lf ++ (iw_ws a5 cI 4 sf ++ (iw_ws a6 cI 64 vf ++ (jw_ws mb3 cJ 128 md ++ (jw_ws mb4 cJ 4 sh ++ iw_ws mb5 cI 64 ct))))))))))))))))))))))))))) [23, 24, 25, 26, 27, 28, 29, 30, 31, 32, 33, 34, 35, 36, 37, 38, 39, 0, 1, 2, 3, 4, 5, 40, 41, 42, 6, 7, 8, 9, 10, 11, 12, 13, 14, 15, 16, 17, 18, 19, 20, 21, 22] (by decide) rfl
  generalize H1 = H at hP hS ⊢
  clear hPc hDc hFc hP1 hD1 hK1 ht hk1 hz1
  have hr9 : r_16 = 0 := hw.1
  subst hr9
  have hw := hw.2
  obtain ⟨hxI, hI, _, _, _, hh⟩ := hw
  have hs : ¬ t_sht T = 1 := fun q => hC1 (Or.inl q)
  have hkk : 0 < t_tn T ∧ t_kc T = t_tn T := Classical.byContradiction (fun q => hC1 (Or.inr q))
  have hn0 : 0 < n := hn0B hkk
  refine lv_istore (lv' := [(5, .int 0), (4, .int (nI i)), (3, .ref out), (2, .ref m0), (1, .ref b0), (0, .ref b)]) hx hb d_law_742 hl (by decide) rfl (fun ls hl => ?_)
  refine lv_aload_n hx hb d_law_744 rfl (lv_at hl 3 rfl) ?_
  refine lv_aload_n hx hb d_law_745 rfl (lv_at hl 5 rfl) ?_
  refine lv_iload hx hb d_law_746 (lv_at hl 1 rfl) ?_
  refine lv_iconst (v := 1) hx hb d_law_748 (by decide) ?_
  refine lv_iadd hx hb d_law_749 ?_
  rw [show ((nI i) + 1 : Int32) = nI (i + 1) from nI_add _ 1]
  refine va_sld hx hb hX hbl hbA hS (vp_in_nI (by omega) (by omega)) d_law_750 ?_
  rw [show (xs (nI (i + 1)).toNatClampNeg : Int32) = xs (i + 1) from by rw [nI_clamp (by omega)]]
  rw [show (xs (i + 1) : Int32) = nI u9.1 from (hx1.symm.trans hxI)]
  refine lv_aload_n hx hb d_law_751 rfl (lv_at hl 5 rfl) ?_
  refine lv_iload hx hb d_law_752 (lv_at hl 1 rfl) ?_
  refine lv_iconst (v := 2) hx hb d_law_754 (by decide) ?_
  refine lv_iadd hx hb d_law_755 ?_
  rw [show ((nI i) + 2 : Int32) = nI (i + 2) from nI_add _ 2]
  refine va_sld hx hb hX hbl hbA hS (vp_in_nI (by omega) (by omega)) d_law_756 ?_
  rw [show (xs (nI (i + 2)).toNatClampNeg : Int32) = xs (i + 2) from by rw [nI_clamp (by omega)]]
  refine lv_i2l (v := (xs (i + 2) : Int32).toInt64) hx hb d_law_757 rfl ?_
  refine lv_bipush (v := 32) hx hb d_law_758 (by decide) ?_
  refine lv_lshl (v := ((xs (i + 2) : Int32).toInt64 : Int64) <<< ((32 : Int32).toInt64 &&& 63)) hx hb d_law_760 rfl ?_
  refine lv_aload_n hx hb d_law_761 rfl (lv_at hl 5 rfl) ?_
  refine lv_iload hx hb d_law_762 (lv_at hl 1 rfl) ?_
  refine lv_iconst (v := 3) hx hb d_law_764 (by decide) ?_
  refine lv_iadd hx hb d_law_765 ?_
  rw [show ((nI i) + 3 : Int32) = nI (i + 3) from nI_add _ 3]
  refine va_sld hx hb hX hbl hbA hS (vp_in_nI (by omega) (by omega)) d_law_766 ?_
  rw [show (xs (nI (i + 3)).toNatClampNeg : Int32) = xs (i + 3) from by rw [nI_clamp (by omega)]]
  refine lv_i2l (v := (xs (i + 3) : Int32).toInt64) hx hb d_law_767 rfl ?_
  refine lv_ldc2 (v := 4294967295) hx hb hown (hts _ (List.mem_cons_of_mem _ gk_1202)) d_law_768 ?_
  refine lv_land hx hb d_law_771 ?_
  refine lv_lor hx hb d_law_772 ?_
  rw [show ((((xs (i + 2) : Int32).toInt64 : Int64) <<< ((32 : Int32).toInt64 &&& 63)) ||| (((xs (i + 3) : Int32).toInt64) &&& 4294967295) : Int64) = lN (vN x2) from (hx2.symm.trans (vN_lN x2).symm)]
  refine lv_aload_n hx hb d_law_773 rfl (lv_at hl 5 rfl) ?_
  refine lv_iload hx hb d_law_774 (lv_at hl 1 rfl) ?_
  refine lv_iconst (v := 4) hx hb d_law_776 (by decide) ?_
  refine lv_iadd hx hb d_law_777 ?_
  rw [show ((nI i) + 4 : Int32) = nI (i + 4) from nI_add _ 4]
  refine va_sld hx hb hX hbl hbA hS (vp_in_nI (by omega) (by omega)) d_law_778 ?_
  rw [show (xs (nI (i + 4)).toNatClampNeg : Int32) = xs (i + 4) from by rw [nI_clamp (by omega)]]
  refine lv_i2l (v := (xs (i + 4) : Int32).toInt64) hx hb d_law_779 rfl ?_
  refine lv_bipush (v := 32) hx hb d_law_780 (by decide) ?_
  refine lv_lshl (v := ((xs (i + 4) : Int32).toInt64 : Int64) <<< ((32 : Int32).toInt64 &&& 63)) hx hb d_law_782 rfl ?_
  refine lv_aload_n hx hb d_law_783 rfl (lv_at hl 5 rfl) ?_
  refine lv_iload hx hb d_law_784 (lv_at hl 1 rfl) ?_
  refine lv_iconst (v := 5) hx hb d_law_786 (by decide) ?_
  refine lv_iadd hx hb d_law_787 ?_
  rw [show ((nI i) + 5 : Int32) = nI (i + 5) from nI_add _ 5]
  refine va_sld hx hb hX hbl hbA hS (vp_in_nI (by omega) (by omega)) d_law_788 ?_
  rw [show (xs (nI (i + 5)).toNatClampNeg : Int32) = xs (i + 5) from by rw [nI_clamp (by omega)]]
  refine lv_i2l (v := (xs (i + 5) : Int32).toInt64) hx hb d_law_789 rfl ?_
  refine lv_ldc2 (v := 4294967295) hx hb hown (hts _ (List.mem_cons_of_mem _ gk_1202)) d_law_790 ?_
  refine lv_land hx hb d_law_793 ?_
  refine lv_lor hx hb d_law_794 ?_
  rw [show ((((xs (i + 4) : Int32).toInt64 : Int64) <<< ((32 : Int32).toInt64 &&& 63)) ||| (((xs (i + 5) : Int32).toInt64) &&& 4294967295) : Int64) = lN (vN x3) from (hx3.symm.trans (vN_lN x3).symm)]
  refine lv_aload_n hx hb d_law_795 rfl (lv_at hl 5 rfl) ?_
  refine lv_iload hx hb d_law_796 (lv_at hl 1 rfl) ?_
  refine lv_bipush (v := 6) hx hb d_law_798 (by decide) ?_
  refine lv_iadd hx hb d_law_800 ?_
  rw [show ((nI i) + 6 : Int32) = nI (i + 6) from nI_add _ 6]
  refine va_sld hx hb hX hbl hbA hS (vp_in_nI (by omega) (by omega)) d_law_801 ?_
  rw [show (xs (nI (i + 6)).toNatClampNeg : Int32) = xs (i + 6) from by rw [nI_clamp (by omega)]]
  refine lv_i2l (v := (xs (i + 6) : Int32).toInt64) hx hb d_law_802 rfl ?_
  refine lv_bipush (v := 32) hx hb d_law_803 (by decide) ?_
  refine lv_lshl (v := ((xs (i + 6) : Int32).toInt64 : Int64) <<< ((32 : Int32).toInt64 &&& 63)) hx hb d_law_805 rfl ?_
  refine lv_aload_n hx hb d_law_806 rfl (lv_at hl 5 rfl) ?_
  refine lv_iload hx hb d_law_807 (lv_at hl 1 rfl) ?_
  refine lv_bipush (v := 7) hx hb d_law_809 (by decide) ?_
  refine lv_iadd hx hb d_law_811 ?_
  rw [show ((nI i) + 7 : Int32) = nI (i + 7) from nI_add _ 7]
  refine va_sld hx hb hX hbl hbA hS (vp_in_nI (by omega) (by omega)) d_law_812 ?_
  rw [show (xs (nI (i + 7)).toNatClampNeg : Int32) = xs (i + 7) from by rw [nI_clamp (by omega)]]
  refine lv_i2l (v := (xs (i + 7) : Int32).toInt64) hx hb d_law_813 rfl ?_
  refine lv_ldc2 (v := 4294967295) hx hb hown (hts _ (List.mem_cons_of_mem _ gk_1202)) d_law_814 ?_
  refine lv_land hx hb d_law_817 ?_
  refine lv_lor hx hb d_law_818 ?_
  rw [show ((((xs (i + 6) : Int32).toInt64 : Int64) <<< ((32 : Int32).toInt64 &&& 63)) ||| (((xs (i + 7) : Int32).toInt64) &&& 4294967295) : Int64) = x4 from hx4.symm]
  refine lv_aload_n hx hb d_law_819 rfl (lv_at hl 5 rfl) ?_
  refine lv_iload hx hb d_law_820 (lv_at hl 1 rfl) ?_
  refine lv_bipush (v := 8) hx hb d_law_822 (by decide) ?_
  refine lv_iadd hx hb d_law_824 ?_
  rw [show ((nI i) + 8 : Int32) = nI (i + 8) from nI_add _ 8]
  refine va_sld hx hb hX hbl hbA hS (vp_in_nI (by omega) (by omega)) d_law_825 ?_
  rw [show (xs (nI (i + 8)).toNatClampNeg : Int32) = xs (i + 8) from by rw [nI_clamp (by omega)]]
  refine lv_i2l (v := (xs (i + 8) : Int32).toInt64) hx hb d_law_826 rfl ?_
  refine lv_bipush (v := 32) hx hb d_law_827 (by decide) ?_
  refine lv_lshl (v := ((xs (i + 8) : Int32).toInt64 : Int64) <<< ((32 : Int32).toInt64 &&& 63)) hx hb d_law_829 rfl ?_
  refine lv_aload_n hx hb d_law_830 rfl (lv_at hl 5 rfl) ?_
  refine lv_iload hx hb d_law_831 (lv_at hl 1 rfl) ?_
  refine lv_bipush (v := 9) hx hb d_law_833 (by decide) ?_
  refine lv_iadd hx hb d_law_835 ?_
  rw [show ((nI i) + 9 : Int32) = nI (i + 9) from nI_add _ 9]
  refine va_sld hx hb hX hbl hbA hS (vp_in_nI (by omega) (by omega)) d_law_836 ?_
  rw [show (xs (nI (i + 9)).toNatClampNeg : Int32) = xs (i + 9) from by rw [nI_clamp (by omega)]]
  refine lv_i2l (v := (xs (i + 9) : Int32).toInt64) hx hb d_law_837 rfl ?_
  refine lv_ldc2 (v := 4294967295) hx hb hown (hts _ (List.mem_cons_of_mem _ gk_1202)) d_law_838 ?_
  refine lv_land hx hb d_law_841 ?_
  refine lv_lor hx hb d_law_842 ?_
  rw [show ((((xs (i + 8) : Int32).toInt64 : Int64) <<< ((32 : Int32).toInt64 &&& 63)) ||| (((xs (i + 9) : Int32).toInt64) &&& 4294967295) : Int64) = x5 from hx5.symm]
  refine lv_aload_n hx hb d_law_843 rfl (lv_at hl 5 rfl) ?_
  refine lv_iload hx hb d_law_844 (lv_at hl 1 rfl) ?_
  refine lv_bipush (v := 10) hx hb d_law_846 (by decide) ?_
  refine lv_iadd hx hb d_law_848 ?_
  rw [show ((nI i) + 10 : Int32) = nI (i + 10) from nI_add _ 10]
  refine va_sld hx hb hX hbl hbA hS (vp_in_nI (by omega) (by omega)) d_law_849 ?_
  rw [show (xs (nI (i + 10)).toNatClampNeg : Int32) = xs (i + 10) from by rw [nI_clamp (by omega)]]
  refine lv_i2l (v := (xs (i + 10) : Int32).toInt64) hx hb d_law_850 rfl ?_
  refine lv_bipush (v := 32) hx hb d_law_851 (by decide) ?_
  refine lv_lshl (v := ((xs (i + 10) : Int32).toInt64 : Int64) <<< ((32 : Int32).toInt64 &&& 63)) hx hb d_law_853 rfl ?_
  refine lv_aload_n hx hb d_law_854 rfl (lv_at hl 5 rfl) ?_
  refine lv_iload hx hb d_law_855 (lv_at hl 1 rfl) ?_
  refine lv_bipush (v := 11) hx hb d_law_857 (by decide) ?_
  refine lv_iadd hx hb d_law_859 ?_
  rw [show ((nI i) + 11 : Int32) = nI (i + 11) from nI_add _ 11]
  refine va_sld hx hb hX hbl hbA hS (vp_in_nI (by omega) (by omega)) d_law_860 ?_
  rw [show (xs (nI (i + 11)).toNatClampNeg : Int32) = xs (i + 11) from by rw [nI_clamp (by omega)]]
  refine lv_i2l (v := (xs (i + 11) : Int32).toInt64) hx hb d_law_861 rfl ?_
  refine lv_ldc2 (v := 4294967295) hx hb hown (hts _ (List.mem_cons_of_mem _ gk_1202)) d_law_862 ?_
  refine lv_land hx hb d_law_865 ?_
  refine lv_lor hx hb d_law_866 ?_
  rw [show ((((xs (i + 10) : Int32).toInt64 : Int64) <<< ((32 : Int32).toInt64 &&& 63)) ||| (((xs (i + 11) : Int32).toInt64) &&& 4294967295) : Int64) = x6 from hx6.symm]
  refine lv_aload_n hx hb d_law_867 rfl (lv_at hl 5 rfl) ?_
  refine lv_iload hx hb d_law_868 (lv_at hl 1 rfl) ?_
  refine lv_bipush (v := 12) hx hb d_law_870 (by decide) ?_
  refine lv_iadd hx hb d_law_872 ?_
  rw [show ((nI i) + 12 : Int32) = nI (i + 12) from nI_add _ 12]
  refine va_sld hx hb hX hbl hbA hS (vp_in_nI (by omega) (by omega)) d_law_873 ?_
  rw [show (xs (nI (i + 12)).toNatClampNeg : Int32) = xs (i + 12) from by rw [nI_clamp (by omega)]]
  refine lv_i2l (v := (xs (i + 12) : Int32).toInt64) hx hb d_law_874 rfl ?_
  refine lv_bipush (v := 32) hx hb d_law_875 (by decide) ?_
  refine lv_lshl (v := ((xs (i + 12) : Int32).toInt64 : Int64) <<< ((32 : Int32).toInt64 &&& 63)) hx hb d_law_877 rfl ?_
  refine lv_aload_n hx hb d_law_878 rfl (lv_at hl 5 rfl) ?_
  refine lv_iload hx hb d_law_879 (lv_at hl 1 rfl) ?_
  refine lv_bipush (v := 13) hx hb d_law_881 (by decide) ?_
  refine lv_iadd hx hb d_law_883 ?_
  rw [show ((nI i) + 13 : Int32) = nI (i + 13) from nI_add _ 13]
  refine va_sld hx hb hX hbl hbA hS (vp_in_nI (by omega) (by omega)) d_law_884 ?_
  rw [show (xs (nI (i + 13)).toNatClampNeg : Int32) = xs (i + 13) from by rw [nI_clamp (by omega)]]
  refine lv_i2l (v := (xs (i + 13) : Int32).toInt64) hx hb d_law_885 rfl ?_
  refine lv_ldc2 (v := 4294967295) hx hb hown (hts _ (List.mem_cons_of_mem _ gk_1202)) d_law_886 ?_
  refine lv_land hx hb d_law_889 ?_
  refine lv_lor hx hb d_law_890 ?_
  rw [show ((((xs (i + 12) : Int32).toInt64 : Int64) <<< ((32 : Int32).toInt64 &&& 63)) ||| (((xs (i + 13) : Int32).toInt64) &&& 4294967295) : Int64) = x7 from hx7.symm]
  have hPc := hP.sub (ws' := (mo_ws m0 e0 (nI (t_tn T)) (nI n) (nI (t_bc T)) (lN P) (lN Q) (lN G) (lN (ckey (t_tn T) (t_kc T) (t_kp T))) (lN (t_pa T)) (lN (t_pb T)) (t_sht T) a0 a1 a2 a3 a4 a5 a6 a7 a8 a9 mb0 mb1 oc mb2 mb3 mb4 mb5 ++ (iw_ws a7 cI 256 bf ++ (iw_ws a8 cI 64 sc ++ (iw_ws a9 cI 8 st ++ (iw_ws mb0 cI 8 kS ++ (iw_ws mb1 cI 64 kR ++ (jw_ws a2 cJ 4 tf ++ (jw_ws a0 cJ 1232 nf ++ (jw_ws a1 cJ 616 cf ++ (iw_ws a6 cI 64 vf ++ (jw_ws mb3 cJ 128 md ++ (iw_ws a4 cI 4 kf ++ jw_ws a3 cJ 16 lf))))))))))))) [26, 27, 28, 29, 30, 31, 32, 33, 34, 39, 40, 35, 37] rfl
  have hDc := hD.sub (ws' := (mo_ws m0 e0 (nI (t_tn T)) (nI n) (nI (t_bc T)) (lN P) (lN Q) (lN G) (lN (ckey (t_tn T) (t_kc T) (t_kp T))) (lN (t_pa T)) (lN (t_pb T)) (t_sht T) a0 a1 a2 a3 a4 a5 a6 a7 a8 a9 mb0 mb1 oc mb2 mb3 mb4 mb5 ++ (iw_ws a7 cI 256 bf ++ (iw_ws a8 cI 64 sc ++ (iw_ws a9 cI 8 st ++ (iw_ws mb0 cI 8 kS ++ (iw_ws mb1 cI 64 kR ++ (jw_ws a2 cJ 4 tf ++ (jw_ws a0 cJ 1232 nf ++ (jw_ws a1 cJ 616 cf ++ (iw_ws a6 cI 64 vf ++ (jw_ws mb3 cJ 128 md ++ (iw_ws a4 cI 4 kf ++ jw_ws a3 cJ 16 lf))))))))))))) [26, 27, 28, 29, 30, 31, 32, 33, 34, 39, 40, 35, 37] (by decide) rfl
  have hKc := hK.sub (tys' := [(cJ, .long), (cI, .int)]) [0, 1] rfl
  have hFc := va_free (wc := (mo_ws m0 e0 (nI (t_tn T)) (nI n) (nI (t_bc T)) (lN P) (lN Q) (lN G) (lN (ckey (t_tn T) (t_kc T) (t_kp T))) (lN (t_pa T)) (lN (t_pb T)) (t_sht T) a0 a1 a2 a3 a4 a5 a6 a7 a8 a9 mb0 mb1 oc mb2 mb3 mb4 mb5 ++ (iw_ws a7 cI 256 bf ++ (iw_ws a8 cI 64 sc ++ (iw_ws a9 cI 8 st ++ (iw_ws mb0 cI 8 kS ++ (iw_ws mb1 cI 64 kR ++ (jw_ws a2 cJ 4 tf ++ (jw_ws a0 cJ 1232 nf ++ (jw_ws a1 cJ 616 cf ++ (iw_ws a6 cI 64 vf ++ (jw_ws mb3 cJ 128 md ++ (iw_ws a4 cI 4 kf ++ jw_ws a3 cJ 16 lf))))))))))))) hD hS hA [26, 27, 28, 29, 30, 31, 32, 33, 34, 39, 40, 35, 37] rfl
  refine va_calli (va_runV (As := [.int (nI u9.1), .long (lN (vN x2)), .long (lN (vN x3)), .long x4, .long x5, .long x6, .long x7]) (rest := []) ⟨hx, hb, hml, hown, hts⟩ (c_Bm_ballot_0 l dC dI cJ cI H.size m0 e0 (t_tn T) n (t_bc T) P Q G (ckey (t_tn T) (t_kc T) (t_kp T)) (t_pa T) (t_pb T) (t_sht T) a0 a1 a2 a3 a4 a5 a6 a7 a8 a9 mb0 mb1 oc mb2 mb3 mb4 mb5 bf sc st vf kf tf nf cf md lf (t_ko T) (t_ao T) ky (fun i => lN (t_ao T i)) u9.1 (vN x2) (vN x3) x4 x5 x6 x7 htn hgr hn hsh0 hrk hrb hal (fun q => hC1 ((bC1_iff hRT).mpr q)) hn9 hn0 hI (by rw [vN_lN, vN_lN]; exact hh)) (cwV 7 hts (gw_V gk_1117 gk_1118 gk_1119 gk_7 gk_1120) rfl rfl rfl (by decide +kernel) ⟨(Nat.le_of_ble_eq_true rfl), (Nat.le_of_ble_eq_true rfl)⟩) ⟨fun a U g mk q => by obtain ⟨q0, q1, qP, qK, qD⟩ := q; exact ⟨q0, q1, qP, va_K.moved (u := U) (U := U.calling g mk a) (Vm.Alike.refl U.vm) qK, qD⟩, va_recv hK hP (ci := 8) (q0 := 26) rfl rfl, fun U hU hW => ⟨rfl, by rw [hU], by rw [hU]; exact hPc, va_K.moved hW.alike hKc, hDc.weaken (fun _ _ _ _ => trivial)⟩⟩ rfl rfl hl.1 rfl (lv_room (Nat.le_of_ble_eq_true rfl)) d_law_891 ⟨show cells + 8 + 0 ≤ 601024 by omega, show slots + 48 + 0 ≤ 7293034 by omega⟩) hS (fun q _ h => hFc q h) hFc (fun r_17 v9 t9 H1 locs ht hvm hw hB hz1 hk1 hS => ?_)
  obtain ⟨hP1, hK1, hD1⟩ := hB
  rw [ht] at hP1
  obtain ⟨hP, hD⟩ := va_joinQ (X := (jw_ws out cJ 1 (vp_updL of 0 (lN n)) ++ (bb_ws b0 bd0 pr0 t0 au0 da (.ref g0) ++ (rw_ws da cJ (r8 (lN 2) (lN u9.1) x2 x3 x4 x5 x6 x7) ++ (bd_ws bd0 h0 ro lo (n + 1) cR (rrf rb) (rrf lb) ++ (pr_ws pr0 h0 cm cJ u9.2.1 ++ (hu_ws h0 aw ax ay cJ cI u9.2.2 ++ (tt_ws t0 ka aa ba sa (.ref g0) cJ (tBal u9.1 (vN x2) (vN x3) T) ++ (au_ws au0 bd0 pr0 tu0 sd ++ (tt_ws tu0 uka uaa uba usa gu cJ T0 ++ (gp_ws g0 mF mE P f1 k1 Q f2 k2 G ++ (mo_ws m0 e0 (nI (t_tn T)) (nI n) (nI (t_bc T)) (lN P) (lN Q) (lN G) (lN (ckey (t_tn T) (t_kc T) (t_kp T))) (lN (t_pa T)) (lN (t_pb T)) (t_sht T) a0 a1 a2 a3 a4 a5 a6 a7 a8 a9 mb0 mb1 oc mb2 mb3 mb4 mb5 ++ (iw_ws a7 cI 256 bf ++ (iw_ws a8 cI 64 sc ++ (iw_ws a9 cI 8 st ++ (iw_ws mb0 cI 8 kS ++ (iw_ws mb1 cI 64 kR ++ (jw_ws a2 cJ 4 tf ++ (jw_ws a0 cJ 1232 nf ++ (jw_ws a1 cJ 616 cf ++ (iw_ws a4 cI 4 kf ++ (jw_ws mb2 cJ 4 ky ++ (jw_ws a3 cJ 16 lf ++ (iw_ws a5 cI 4 sf ++ (iw_ws a6 cI 64 vf ++ (jw_ws mb3 cJ 128 md ++ (jw_ws mb4 cJ 4 sh ++ iw_ws mb5 cI 64 ct))))))))))))))))))))))))))) (cx := (mo_ws m0 e0 (nI (t_tn T)) (nI n) (nI (t_bc T)) (lN P) (lN Q) (lN G) (lN (ckey (t_tn T) (t_kc T) (t_kp T))) (lN (t_pa T)) (lN (t_pb T)) (t_sht T) a0 a1 a2 a3 a4 a5 a6 a7 a8 a9 mb0 mb1 oc mb2 mb3 mb4 mb5 ++ (iw_ws a7 cI 256 bf ++ (iw_ws a8 cI 64 sc ++ (iw_ws a9 cI 8 st ++ (iw_ws mb0 cI 8 kS ++ (iw_ws mb1 cI 64 kR ++ (jw_ws a2 cJ 4 tf ++ (jw_ws a0 cJ 1232 nf ++ (jw_ws a1 cJ 616 cf ++ (iw_ws a6 cI 64 vf ++ (jw_ws mb3 cJ 128 md ++ (iw_ws a4 cI 4 kf ++ jw_ws a3 cJ 16 lf))))))))))))) (wr := (jw_ws out cJ 1 (vp_updL of 0 (lN n)) ++ (bb_ws b0 bd0 pr0 t0 au0 da (.ref g0) ++ (rw_ws da cJ (r8 (lN 2) (lN u9.1) x2 x3 x4 x5 x6 x7) ++ (bd_ws bd0 h0 ro lo (n + 1) cR (rrf rb) (rrf lb) ++ (pr_ws pr0 h0 cm cJ u9.2.1 ++ (hu_ws h0 aw ax ay cJ cI u9.2.2 ++ (tt_ws t0 ka aa ba sa (.ref g0) cJ (tBal u9.1 (vN x2) (vN x3) T) ++ (au_ws au0 bd0 pr0 tu0 sd ++ (tt_ws tu0 uka uaa uba usa gu cJ T0 ++ (gp_ws g0 mF mE P f1 k1 Q f2 k2 G ++ (jw_ws mb2 cJ 4 ky ++ (iw_ws a5 cI 4 sf ++ (jw_ws mb4 cJ 4 sh ++ iw_ws mb5 cI 64 ct)))))))))))))) (w1 := (mo_ws m0 0 (nI (t_tn T)) (nI (n + 1)) (nI (if (t_ao T) u9.1 = 0 then (t_bc T) + 1 else (t_bc T))) (lN P) (lN Q) (lN G) (lN (ckey (t_tn T) (t_kc T) (t_kp T))) (lN (t_pa T)) (lN (t_pb T)) (t_sht T) a0 a1 a2 a3 a4 a5 a6 a7 a8 a9 mb0 mb1 v9.1.2.2.2.2 mb2 mb3 mb4 mb5 ++ (iw_ws a7 cI 256 v9.1.1 ++ (iw_ws a8 cI 64 v9.1.2.1 ++ (iw_ws a9 cI 8 v9.1.2.2.1 ++ (iw_ws mb0 cI 8 kS ++ (iw_ws mb1 cI 64 kR ++ (jw_ws a2 cJ 4 v9.1.2.2.2.1 ++ (jw_ws a0 cJ 1232 (w8 nf (8 * n) (lN 2) (lN u9.1) (lN (vN x2)) (lN (vN x3)) x4 x5 x6 x7) ++ (jw_ws a1 cJ 616 (c4 cf (4 * n) (lkw [cf (4 * (n - 1) + 0), cf (4 * (n - 1) + 1), cf (4 * (n - 1) + 2), cf (4 * (n - 1) + 3), lN 2, lN u9.1, lN (vN x2), lN (vN x3), x4, x5, x6, x7])) ++ (iw_ws a6 cI 64 (upd vf u9.1 (nI n)) ++ (jw_ws mb3 cJ 128 (vp_updL (vp_updL md (2 * u9.1) (lN (vN x2))) (2 * u9.1 + 1) (lN (vN x3))) ++ (iw_ws a4 cI 4 kf ++ jw_ws a3 cJ 16 v9.2))))))))))))) (pl := bpool rb lb cJ (updF R n (r8 (lN 2) (lN u9.1) x2 x3 x4 x5 x6 x7)) (updF Lk n (lkw (msgL 2 n (r8 (lN 2) (lN u9.1) x2 x3 x4 x5 x6 x7) Lk)))) hP hD [26, 27, 28, 29, 30, 31, 32, 33, 34, 39, 40, 35, 37] [0, 1, 2, 3, 4, 5, 6, 7, 8, 9, 10, 11, 12, 13, 14, 15, 16, 17, 18, 19, 20, 21, 22, 23, 24, 25, 36, 38, 41, 42] rfl rfl (by decide) (by decide) hk1 hFc hP1 hD1
  have hP := hP.part (cx := (jw_ws out cJ 1 (vp_updL of 0 (lN n)) ++ (bb_ws b0 bd0 pr0 t0 au0 da (.ref g0) ++ (rw_ws da cJ (r8 (lN 2) (lN u9.1) x2 x3 x4 x5 x6 x7) ++ (bd_ws bd0 h0 ro lo (n + 1) cR (rrf rb) (rrf lb) ++ (pr_ws pr0 h0 cm cJ u9.2.1 ++ (hu_ws h0 aw ax ay cJ cI u9.2.2 ++ (tt_ws t0 ka aa ba sa (.ref g0) cJ (tBal u9.1 (vN x2) (vN x3) T) ++ (au_ws au0 bd0 pr0 tu0 sd ++ (tt_ws tu0 uka uaa uba usa gu cJ T0 ++ (gp_ws g0 mF mE P f1 k1 Q f2 k2 G ++ (mo_ws m0 0 (nI (t_tn T)) (nI (n + 1)) (nI (if (t_ao T) u9.1 = 0 then (t_bc T) + 1 else (t_bc T))) (lN P) (lN Q) (lN G) (lN (ckey (t_tn T) (t_kc T) (t_kp T))) (lN (t_pa T)) (lN (t_pb T)) (t_sht T) a0 a1 a2 a3 a4 a5 a6 a7 a8 a9 mb0 mb1 v9.1.2.2.2.2 mb2 mb3 mb4 mb5 ++ (iw_ws a7 cI 256 v9.1.1 ++ (iw_ws a8 cI 64 v9.1.2.1 ++ (iw_ws a9 cI 8 v9.1.2.2.1 ++ (iw_ws mb0 cI 8 kS ++ (iw_ws mb1 cI 64 kR ++ (jw_ws a2 cJ 4 v9.1.2.2.2.1 ++ (jw_ws a0 cJ 1232 (w8 nf (8 * n) (lN 2) (lN u9.1) (lN (vN x2)) (lN (vN x3)) x4 x5 x6 x7) ++ (jw_ws a1 cJ 616 (c4 cf (4 * n) (lkw [cf (4 * (n - 1) + 0), cf (4 * (n - 1) + 1), cf (4 * (n - 1) + 2), cf (4 * (n - 1) + 3), lN 2, lN u9.1, lN (vN x2), lN (vN x3), x4, x5, x6, x7])) ++ (iw_ws a4 cI 4 kf ++ (jw_ws mb2 cJ 4 ky ++ (jw_ws a3 cJ 16 v9.2 ++ (iw_ws a5 cI 4 sf ++ (iw_ws a6 cI 64 (upd vf u9.1 (nI n)) ++ (jw_ws mb3 cJ 128 (vp_updL (vp_updL md (2 * u9.1) (lN (vN x2))) (2 * u9.1 + 1) (lN (vN x3))) ++ (jw_ws mb4 cJ 4 sh ++ iw_ws mb5 cI 64 ct))))))))))))))))))))))))))) [0, 1, 2, 3, 4, 5, 6, 7, 8, 9, 10, 11, 12, 13, 14, 15, 16, 17, 18, 19, 20, 21, 22, 23, 24, 25, 30, 31, 32, 33, 34, 35, 36, 37, 38, 41, 26, 42, 27, 39, 40, 28, 29] rfl
  have hD := hD.part (cx := (jw_ws out cJ 1 (vp_updL of 0 (lN n)) ++ (bb_ws b0 bd0 pr0 t0 au0 da (.ref g0) ++ (rw_ws da cJ (r8 (lN 2) (lN u9.1) x2 x3 x4 x5 x6 x7) ++ (bd_ws bd0 h0 ro lo (n + 1) cR (rrf rb) (rrf lb) ++ (pr_ws pr0 h0 cm cJ u9.2.1 ++ (hu_ws h0 aw ax ay cJ cI u9.2.2 ++ (tt_ws t0 ka aa ba sa (.ref g0) cJ (tBal u9.1 (vN x2) (vN x3) T) ++ (au_ws au0 bd0 pr0 tu0 sd ++ (tt_ws tu0 uka uaa uba usa gu cJ T0 ++ (gp_ws g0 mF mE P f1 k1 Q f2 k2 G ++ (mo_ws m0 0 (nI (t_tn T)) (nI (n + 1)) (nI (if (t_ao T) u9.1 = 0 then (t_bc T) + 1 else (t_bc T))) (lN P) (lN Q) (lN G) (lN (ckey (t_tn T) (t_kc T) (t_kp T))) (lN (t_pa T)) (lN (t_pb T)) (t_sht T) a0 a1 a2 a3 a4 a5 a6 a7 a8 a9 mb0 mb1 v9.1.2.2.2.2 mb2 mb3 mb4 mb5 ++ (iw_ws a7 cI 256 v9.1.1 ++ (iw_ws a8 cI 64 v9.1.2.1 ++ (iw_ws a9 cI 8 v9.1.2.2.1 ++ (iw_ws mb0 cI 8 kS ++ (iw_ws mb1 cI 64 kR ++ (jw_ws a2 cJ 4 v9.1.2.2.2.1 ++ (jw_ws a0 cJ 1232 (w8 nf (8 * n) (lN 2) (lN u9.1) (lN (vN x2)) (lN (vN x3)) x4 x5 x6 x7) ++ (jw_ws a1 cJ 616 (c4 cf (4 * n) (lkw [cf (4 * (n - 1) + 0), cf (4 * (n - 1) + 1), cf (4 * (n - 1) + 2), cf (4 * (n - 1) + 3), lN 2, lN u9.1, lN (vN x2), lN (vN x3), x4, x5, x6, x7])) ++ (iw_ws a4 cI 4 kf ++ (jw_ws mb2 cJ 4 ky ++ (jw_ws a3 cJ 16 v9.2 ++ (iw_ws a5 cI 4 sf ++ (iw_ws a6 cI 64 (upd vf u9.1 (nI n)) ++ (jw_ws mb3 cJ 128 (vp_updL (vp_updL md (2 * u9.1) (lN (vN x2))) (2 * u9.1 + 1) (lN (vN x3))) ++ (jw_ws mb4 cJ 4 sh ++ iw_ws mb5 cI 64 ct))))))))))))))))))))))))))) [0, 1, 2, 3, 4, 5, 6, 7, 8, 9, 10, 11, 12, 13, 14, 15, 16, 17, 18, 19, 20, 21, 22, 23, 24, 25, 30, 31, 32, 33, 34, 35, 36, 37, 38, 41, 26, 42, 27, 39, 40, 28, 29] (by decide) rfl
  generalize H1 = H at hP hS ⊢
  clear hPc hDc hFc hP1 hD1 hK1 ht hk1 hz1
  have hr8 := hw
  subst hr8
  rw [vN_lN x2] at hP hD
  rw [vN_lN x3] at hP hD
  refine lv_istore (lv' := [(6, .int (nI n)), (5, .int 0), (4, .int (nI i)), (3, .ref out), (2, .ref m0), (1, .ref b0), (0, .ref b)]) hx hb d_law_894 hl (by decide) rfl (fun ls hl => ?_)
  refine lv_aload_n hx hb d_law_896 rfl (lv_at hl 4 rfl) ?_
  have hPc := hP.sub (ws' := (mo_ws m0 0 (nI (t_tn T)) (nI (n + 1)) (nI (if (t_ao T) u9.1 = 0 then (t_bc T) + 1 else (t_bc T))) (lN P) (lN Q) (lN G) (lN (ckey (t_tn T) (t_kc T) (t_kp T))) (lN (t_pa T)) (lN (t_pb T)) (t_sht T) a0 a1 a2 a3 a4 a5 a6 a7 a8 a9 mb0 mb1 v9.1.2.2.2.2 mb2 mb3 mb4 mb5)) [26] rfl
  have hKc := hK.sub (tys' := [(cJ, .long), (cI, .int)]) [0, 1] rfl
  refine va_calli (va_runV (As := []) (rest := []) ⟨hx, hb, hml, hown, hts⟩ (c_Bm_thrown l H dC dI cJ cI m0 0 (nI (t_tn T)) (nI (n + 1)) (nI (if (t_ao T) u9.1 = 0 then (t_bc T) + 1 else (t_bc T))) (lN P) (lN Q) (lN G) (lN (ckey (t_tn T) (t_kc T) (t_kp T))) (lN (t_pa T)) (lN (t_pb T)) (t_sht T) a0 a1 a2 a3 a4 a5 a6 a7 a8 a9 mb0 mb1 v9.1.2.2.2.2 mb2 mb3 mb4 mb5 hPc) (cwV 0 hts (gw_V gk_1004 gk_1005 gk_1006 gk_7 gk_1007) rfl rfl rfl (by decide +kernel) ⟨(Nat.le_of_ble_eq_true rfl), (Nat.le_of_ble_eq_true rfl)⟩) ⟨fun a U g mk q => ⟨q.1, q.2.1, va_K.moved (u := U) (U := U.calling g mk a) (Vm.Alike.refl U.vm) q.2.2⟩, va_recv hK hP (ci := 8) (q0 := 26) rfl rfl, fun U hU hW => ⟨rfl, hU, va_K.moved hW.alike hKc⟩⟩ rfl rfl hl.1 rfl (lv_room (Nat.le_of_ble_eq_true rfl)) d_law_897 ⟨show cells + 8 + 0 + 0 ≤ 601024 by omega, show slots + 48 + 0 + 0 ≤ 7293034 by omega⟩) hS (fun q _ h => h.elim) (fun q h => h.elim) (fun r_18 w9 t9 H1 locs ht hvm hw9 hB hz1 hk1 hS => ?_)
  obtain rfl : H = H1 := hB.symm.trans ht
  have hw9 : r_18 = 0 := hw9
  subst hw9
  clear hPc hz1 hk1 hB
  refine lv_iload hx hb d_law_900 (lv_at hl 1 rfl) ?_
  refine lv_icmp_eq (tgt := 907) hx hb d_law_902 (by decide) (fun c_19 => ?_) (fun c_19 => ?_)
  · -- taken
    refine lv_iload hx hb d_law_907 (lv_at hl 1 rfl) ?_
    refine lv_if_ne (tgt := 924) hx hb d_law_909 (by decide) (fun c_20 => ?_) (fun c_20 => ?_)
    · -- taken
      exact absurd rfl c_20
    · -- not taken
      refine lv_aload_n hx hb d_law_912 rfl (lv_at hl 3 rfl) ?_
      refine lv_iconst (v := 0) hx hb d_law_913 (by decide) ?_
      refine va_lald hx hb hK hP 0 0 rfl rfl (vp_lit rfl) d_law_914 ?_
      refine lv_topl (fun v_21 ev_21 => ?_)
      obtain rfl : v_21 = lN n := ev_21.trans rfl
      refine lv_iload hx hb d_law_915 (lv_at hl 0 rfl) ?_
      refine lv_i2l (v := (nI n : Int32).toInt64) hx hb d_law_917 rfl ?_
      refine W.lcmp hx hb d_law_918 ?_
      refine lv_if_eq (tgt := 924) hx hb d_law_919 (by decide) (fun c_22 => ?_) (fun c_22 => ?_)
      · -- taken
        refine lv_goto (tgt := 1965) hx hb d_law_924 (by decide) ?_
        refine W.widen (k := cells + 20) (n := slots + 200) (by omega) (by omega) ?_
        have hI9 : LI dC dI cJ cI cR A out b0 m0 H := LG.mk hP hD (rel_bal hR hI hs hkk.2 hn9 hh rfl (congrArg lkw (msg8 hn0 hcfR)))
        exact cont _ _ _ hS hI9 (lv_sub hl [2, 3, 4, 5, 6] rfl)
      · -- not taken
        exact absurd (lgc (nI_l (by omega)).symm) c_22
  · -- not taken
    exact absurd c_19 (by decide)
