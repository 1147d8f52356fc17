theorem d_Law_law_718 : decode b_Law_law 718 = .ok (.iload 5, 2) := by decide +kernel
theorem d_Law_law_720 : decode b_Law_law 720 = .ok (.if_icmp .eq 5, 3) := by decide +kernel
theorem d_Law_law_723 : decode b_Law_law 723 = .ok (.iconst 0, 1) := by decide +kernel
theorem d_Law_law_724 : decode b_Law_law 724 = .ok (.ireturn, 1) := by decide +kernel
theorem d_Law_law_725 : decode b_Law_law 725 = .ok (.iload 5, 2) := by decide +kernel
theorem d_Law_law_727 : decode b_Law_law 727 = .ok (.ifCond .ne 15, 3) := by decide +kernel
theorem d_Law_law_730 : decode b_Law_law 730 = .ok (.aload_n 3, 1) := by decide +kernel
theorem d_Law_law_731 : decode b_Law_law 731 = .ok (.iconst 0, 1) := by decide +kernel
theorem d_Law_law_732 : decode b_Law_law 732 = .ok (.laload, 1) := by decide +kernel
theorem d_Law_law_733 : decode b_Law_law 733 = .ok (.iload 6, 2) := by decide +kernel
theorem d_Law_law_735 : decode b_Law_law 735 = .ok (.i2l, 1) := by decide +kernel
theorem d_Law_law_736 : decode b_Law_law 736 = .ok (.lcmp, 1) := by decide +kernel
theorem d_Law_law_737 : decode b_Law_law 737 = .ok (.ifCond .eq 5, 3) := by decide +kernel
theorem d_Law_law_740 : decode b_Law_law 740 = .ok (.iconst 0, 1) := by decide +kernel
theorem d_Law_law_741 : decode b_Law_law 741 = .ok (.ireturn, 1) := by decide +kernel
theorem d_Law_law_742 : decode b_Law_law 742 = .ok (.goto 313, 3) := by decide +kernel
theorem d_Law_law_745 : decode b_Law_law 745 = .ok (.aload_n 1, 1) := by decide +kernel
theorem d_Law_law_746 : decode b_Law_law 746 = .ok (.aload_n 3, 1) := by decide +kernel
theorem d_Law_law_747 : decode b_Law_law 747 = .ok (.invokestatic 108, 3) := by decide +kernel
theorem d_Law_law_750 : decode b_Law_law 750 = .ok (.istore 5, 2) := by decide +kernel
theorem d_Law_law_752 : decode b_Law_law 752 = .ok (.aload_n 2, 1) := by decide +kernel
theorem d_Law_law_753 : decode b_Law_law 753 = .ok (.invokevirtual 110, 3) := by decide +kernel
theorem d_Law_law_756 : decode b_Law_law 756 = .ok (.istore 6, 2) := by decide +kernel
theorem d_Law_law_758 : decode b_Law_law 758 = .ok (.aload_n 2, 1) := by decide +kernel
theorem d_Law_law_759 : decode b_Law_law 759 = .ok (.invokevirtual 69, 3) := by decide +kernel
theorem d_Law_law_762 : decode b_Law_law 762 = .ok (.iload 5, 2) := by decide +kernel
theorem d_Law_law_764 : decode b_Law_law 764 = .ok (.if_icmp .eq 5, 3) := by decide +kernel
theorem d_Law_law_767 : decode b_Law_law 767 = .ok (.iconst 0, 1) := by decide +kernel
theorem d_Law_law_768 : decode b_Law_law 768 = .ok (.ireturn, 1) := by decide +kernel
theorem d_Law_law_769 : decode b_Law_law 769 = .ok (.iload 5, 2) := by decide +kernel
theorem d_Law_law_771 : decode b_Law_law 771 = .ok (.ifCond .ne 15, 3) := by decide +kernel
theorem d_Law_law_774 : decode b_Law_law 774 = .ok (.aload_n 3, 1) := by decide +kernel
theorem d_Law_law_775 : decode b_Law_law 775 = .ok (.iconst 0, 1) := by decide +kernel
theorem d_Law_law_776 : decode b_Law_law 776 = .ok (.laload, 1) := by decide +kernel
theorem d_Law_law_777 : decode b_Law_law 777 = .ok (.iload 6, 2) := by decide +kernel
theorem d_Law_law_779 : decode b_Law_law 779 = .ok (.i2l, 1) := by decide +kernel
theorem d_Law_law_780 : decode b_Law_law 780 = .ok (.lcmp, 1) := by decide +kernel
theorem d_Law_law_781 : decode b_Law_law 781 = .ok (.ifCond .eq 5, 3) := by decide +kernel
theorem d_Law_law_784 : decode b_Law_law 784 = .ok (.iconst 0, 1) := by decide +kernel
theorem d_Law_law_785 : decode b_Law_law 785 = .ok (.ireturn, 1) := by decide +kernel
theorem d_Law_law_786 : decode b_Law_law 786 = .ok (.goto 269, 3) := by decide +kernel
theorem d_Law_law_789 : decode b_Law_law 789 = .ok (.aload_n 1, 1) := by decide +kernel
theorem d_Law_law_790 : decode b_Law_law 790 = .ok (.aload_n 0, 1) := by decide +kernel
theorem d_Law_law_791 : decode b_Law_law 791 = .ok (.iload 4, 2) := by decide +kernel
theorem d_Law_law_793 : decode b_Law_law 793 = .ok (.iconst 1, 1) := by decide +kernel
theorem d_Law_law_794 : decode b_Law_law 794 = .ok (.iadd, 1) := by decide +kernel
theorem d_Law_law_795 : decode b_Law_law 795 = .ok (.iaload, 1) := by decide +kernel
theorem d_Law_law_796 : decode b_Law_law 796 = .ok (.invokevirtual 111, 3) := by decide +kernel
theorem d_Law_law_799 : decode b_Law_law 799 = .ok (.aload_n 2, 1) := by decide +kernel
theorem d_Law_law_800 : decode b_Law_law 800 = .ok (.aload_n 0, 1) := by decide +kernel
theorem d_Law_law_801 : decode b_Law_law 801 = .ok (.iload 4, 2) := by decide +kernel
theorem d_Law_law_803 : decode b_Law_law 803 = .ok (.iconst 1, 1) := by decide +kernel
theorem d_Law_law_804 : decode b_Law_law 804 = .ok (.iadd, 1) := by decide +kernel
theorem d_Law_law_805 : decode b_Law_law 805 = .ok (.iaload, 1) := by decide +kernel
theorem d_Law_law_806 : decode b_Law_law 806 = .ok (.invokevirtual 114, 3) := by decide +kernel
theorem d_Law_law_809 : decode b_Law_law 809 = .ok (.if_icmp .eq 246, 3) := by decide +kernel
theorem d_Law_law_812 : decode b_Law_law 812 = .ok (.iconst 0, 1) := by decide +kernel
theorem d_Law_law_813 : decode b_Law_law 813 = .ok (.ireturn, 1) := by decide +kernel
theorem d_Law_law_814 : decode b_Law_law 814 = .ok (.aload_n 1, 1) := by decide +kernel
theorem d_Law_law_815 : decode b_Law_law 815 = .ok (.aload_n 0, 1) := by decide +kernel
