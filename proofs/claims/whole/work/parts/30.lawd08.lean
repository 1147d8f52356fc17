theorem d_Law_law_816 : decode b_Law_law 816 = .ok (.iload 4, 2) := by decide +kernel
theorem d_Law_law_818 : decode b_Law_law 818 = .ok (.iconst 1, 1) := by decide +kernel
theorem d_Law_law_819 : decode b_Law_law 819 = .ok (.iadd, 1) := by decide +kernel
theorem d_Law_law_820 : decode b_Law_law 820 = .ok (.iaload, 1) := by decide +kernel
theorem d_Law_law_821 : decode b_Law_law 821 = .ok (.aload_n 0, 1) := by decide +kernel
theorem d_Law_law_822 : decode b_Law_law 822 = .ok (.iload 4, 2) := by decide +kernel
theorem d_Law_law_824 : decode b_Law_law 824 = .ok (.iconst 2, 1) := by decide +kernel
theorem d_Law_law_825 : decode b_Law_law 825 = .ok (.iadd, 1) := by decide +kernel
theorem d_Law_law_826 : decode b_Law_law 826 = .ok (.iaload, 1) := by decide +kernel
theorem d_Law_law_827 : decode b_Law_law 827 = .ok (.aload_n 0, 1) := by decide +kernel
theorem d_Law_law_828 : decode b_Law_law 828 = .ok (.iload 4, 2) := by decide +kernel
theorem d_Law_law_830 : decode b_Law_law 830 = .ok (.iconst 3, 1) := by decide +kernel
theorem d_Law_law_831 : decode b_Law_law 831 = .ok (.iadd, 1) := by decide +kernel
theorem d_Law_law_832 : decode b_Law_law 832 = .ok (.iaload, 1) := by decide +kernel
theorem d_Law_law_833 : decode b_Law_law 833 = .ok (.aload_n 3, 1) := by decide +kernel
theorem d_Law_law_834 : decode b_Law_law 834 = .ok (.invokestatic 115, 3) := by decide +kernel
theorem d_Law_law_837 : decode b_Law_law 837 = .ok (.istore 5, 2) := by decide +kernel
theorem d_Law_law_839 : decode b_Law_law 839 = .ok (.aload_n 2, 1) := by decide +kernel
theorem d_Law_law_840 : decode b_Law_law 840 = .ok (.aload_n 0, 1) := by decide +kernel
theorem d_Law_law_841 : decode b_Law_law 841 = .ok (.iload 4, 2) := by decide +kernel
theorem d_Law_law_843 : decode b_Law_law 843 = .ok (.iconst 1, 1) := by decide +kernel
theorem d_Law_law_844 : decode b_Law_law 844 = .ok (.iadd, 1) := by decide +kernel
theorem d_Law_law_845 : decode b_Law_law 845 = .ok (.iaload, 1) := by decide +kernel
theorem d_Law_law_846 : decode b_Law_law 846 = .ok (.aload_n 0, 1) := by decide +kernel
theorem d_Law_law_847 : decode b_Law_law 847 = .ok (.iload 4, 2) := by decide +kernel
theorem d_Law_law_849 : decode b_Law_law 849 = .ok (.iconst 2, 1) := by decide +kernel
theorem d_Law_law_850 : decode b_Law_law 850 = .ok (.iadd, 1) := by decide +kernel
theorem d_Law_law_851 : decode b_Law_law 851 = .ok (.iaload, 1) := by decide +kernel
theorem d_Law_law_852 : decode b_Law_law 852 = .ok (.aload_n 0, 1) := by decide +kernel
theorem d_Law_law_853 : decode b_Law_law 853 = .ok (.iload 4, 2) := by decide +kernel
theorem d_Law_law_855 : decode b_Law_law 855 = .ok (.iconst 3, 1) := by decide +kernel
theorem d_Law_law_856 : decode b_Law_law 856 = .ok (.iadd, 1) := by decide +kernel
theorem d_Law_law_857 : decode b_Law_law 857 = .ok (.iaload, 1) := by decide +kernel
theorem d_Law_law_858 : decode b_Law_law 858 = .ok (.invokevirtual 117, 3) := by decide +kernel
theorem d_Law_law_861 : decode b_Law_law 861 = .ok (.istore 6, 2) := by decide +kernel
theorem d_Law_law_863 : decode b_Law_law 863 = .ok (.aload_n 2, 1) := by decide +kernel
theorem d_Law_law_864 : decode b_Law_law 864 = .ok (.invokevirtual 69, 3) := by decide +kernel
theorem d_Law_law_867 : decode b_Law_law 867 = .ok (.iload 5, 2) := by decide +kernel
theorem d_Law_law_869 : decode b_Law_law 869 = .ok (.if_icmp .eq 5, 3) := by decide +kernel
theorem d_Law_law_872 : decode b_Law_law 872 = .ok (.iconst 0, 1) := by decide +kernel
theorem d_Law_law_873 : decode b_Law_law 873 = .ok (.ireturn, 1) := by decide +kernel
theorem d_Law_law_874 : decode b_Law_law 874 = .ok (.iload 5, 2) := by decide +kernel
theorem d_Law_law_876 : decode b_Law_law 876 = .ok (.ifCond .ne 15, 3) := by decide +kernel
theorem d_Law_law_879 : decode b_Law_law 879 = .ok (.aload_n 3, 1) := by decide +kernel
theorem d_Law_law_880 : decode b_Law_law 880 = .ok (.iconst 0, 1) := by decide +kernel
theorem d_Law_law_881 : decode b_Law_law 881 = .ok (.laload, 1) := by decide +kernel
theorem d_Law_law_882 : decode b_Law_law 882 = .ok (.iload 6, 2) := by decide +kernel
theorem d_Law_law_884 : decode b_Law_law 884 = .ok (.i2l, 1) := by decide +kernel
theorem d_Law_law_885 : decode b_Law_law 885 = .ok (.lcmp, 1) := by decide +kernel
theorem d_Law_law_886 : decode b_Law_law 886 = .ok (.ifCond .eq 5, 3) := by decide +kernel
theorem d_Law_law_889 : decode b_Law_law 889 = .ok (.iconst 0, 1) := by decide +kernel
theorem d_Law_law_890 : decode b_Law_law 890 = .ok (.ireturn, 1) := by decide +kernel
theorem d_Law_law_891 : decode b_Law_law 891 = .ok (.goto 164, 3) := by decide +kernel
theorem d_Law_law_894 : decode b_Law_law 894 = .ok (.aload_n 1, 1) := by decide +kernel
theorem d_Law_law_895 : decode b_Law_law 895 = .ok (.aload_n 0, 1) := by decide +kernel
theorem d_Law_law_896 : decode b_Law_law 896 = .ok (.iload 4, 2) := by decide +kernel
theorem d_Law_law_898 : decode b_Law_law 898 = .ok (.iconst 1, 1) := by decide +kernel
theorem d_Law_law_899 : decode b_Law_law 899 = .ok (.iadd, 1) := by decide +kernel
theorem d_Law_law_900 : decode b_Law_law 900 = .ok (.iaload, 1) := by decide +kernel
theorem d_Law_law_901 : decode b_Law_law 901 = .ok (.aload_n 0, 1) := by decide +kernel
