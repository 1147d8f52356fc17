theorem d_Law_law_902 : decode b_Law_law 902 = .ok (.iload 4, 2) := by decide +kernel
theorem d_Law_law_904 : decode b_Law_law 904 = .ok (.iconst 2, 1) := by decide +kernel
theorem d_Law_law_905 : decode b_Law_law 905 = .ok (.iadd, 1) := by decide +kernel
theorem d_Law_law_906 : decode b_Law_law 906 = .ok (.iaload, 1) := by decide +kernel
theorem d_Law_law_907 : decode b_Law_law 907 = .ok (.aload_n 3, 1) := by decide +kernel
theorem d_Law_law_908 : decode b_Law_law 908 = .ok (.invokestatic 118, 3) := by decide +kernel
theorem d_Law_law_911 : decode b_Law_law 911 = .ok (.istore 5, 2) := by decide +kernel
theorem d_Law_law_913 : decode b_Law_law 913 = .ok (.aload_n 2, 1) := by decide +kernel
theorem d_Law_law_914 : decode b_Law_law 914 = .ok (.aload_n 0, 1) := by decide +kernel
theorem d_Law_law_915 : decode b_Law_law 915 = .ok (.iload 4, 2) := by decide +kernel
theorem d_Law_law_917 : decode b_Law_law 917 = .ok (.iconst 1, 1) := by decide +kernel
theorem d_Law_law_918 : decode b_Law_law 918 = .ok (.iadd, 1) := by decide +kernel
theorem d_Law_law_919 : decode b_Law_law 919 = .ok (.iaload, 1) := by decide +kernel
theorem d_Law_law_920 : decode b_Law_law 920 = .ok (.aload_n 0, 1) := by decide +kernel
theorem d_Law_law_921 : decode b_Law_law 921 = .ok (.iload 4, 2) := by decide +kernel
theorem d_Law_law_923 : decode b_Law_law 923 = .ok (.iconst 2, 1) := by decide +kernel
theorem d_Law_law_924 : decode b_Law_law 924 = .ok (.iadd, 1) := by decide +kernel
theorem d_Law_law_925 : decode b_Law_law 925 = .ok (.iaload, 1) := by decide +kernel
theorem d_Law_law_926 : decode b_Law_law 926 = .ok (.invokevirtual 120, 3) := by decide +kernel
theorem d_Law_law_929 : decode b_Law_law 929 = .ok (.istore 6, 2) := by decide +kernel
theorem d_Law_law_931 : decode b_Law_law 931 = .ok (.aload_n 2, 1) := by decide +kernel
theorem d_Law_law_932 : decode b_Law_law 932 = .ok (.invokevirtual 69, 3) := by decide +kernel
theorem d_Law_law_935 : decode b_Law_law 935 = .ok (.iload 5, 2) := by decide +kernel
theorem d_Law_law_937 : decode b_Law_law 937 = .ok (.if_icmp .eq 5, 3) := by decide +kernel
theorem d_Law_law_940 : decode b_Law_law 940 = .ok (.iconst 0, 1) := by decide +kernel
theorem d_Law_law_941 : decode b_Law_law 941 = .ok (.ireturn, 1) := by decide +kernel
theorem d_Law_law_942 : decode b_Law_law 942 = .ok (.iload 5, 2) := by decide +kernel
theorem d_Law_law_944 : decode b_Law_law 944 = .ok (.ifCond .ne 15, 3) := by decide +kernel
theorem d_Law_law_947 : decode b_Law_law 947 = .ok (.aload_n 3, 1) := by decide +kernel
theorem d_Law_law_948 : decode b_Law_law 948 = .ok (.iconst 0, 1) := by decide +kernel
theorem d_Law_law_949 : decode b_Law_law 949 = .ok (.laload, 1) := by decide +kernel
theorem d_Law_law_950 : decode b_Law_law 950 = .ok (.iload 6, 2) := by decide +kernel
theorem d_Law_law_952 : decode b_Law_law 952 = .ok (.i2l, 1) := by decide +kernel
theorem d_Law_law_953 : decode b_Law_law 953 = .ok (.lcmp, 1) := by decide +kernel
theorem d_Law_law_954 : decode b_Law_law 954 = .ok (.ifCond .eq 5, 3) := by decide +kernel
theorem d_Law_law_957 : decode b_Law_law 957 = .ok (.iconst 0, 1) := by decide +kernel
theorem d_Law_law_958 : decode b_Law_law 958 = .ok (.ireturn, 1) := by decide +kernel
theorem d_Law_law_959 : decode b_Law_law 959 = .ok (.goto 96, 3) := by decide +kernel
theorem d_Law_law_962 : decode b_Law_law 962 = .ok (.aload_n 1, 1) := by decide +kernel
theorem d_Law_law_963 : decode b_Law_law 963 = .ok (.aload_n 0, 1) := by decide +kernel
theorem d_Law_law_964 : decode b_Law_law 964 = .ok (.iload 4, 2) := by decide +kernel
theorem d_Law_law_966 : decode b_Law_law 966 = .ok (.iconst 1, 1) := by decide +kernel
theorem d_Law_law_967 : decode b_Law_law 967 = .ok (.iadd, 1) := by decide +kernel
theorem d_Law_law_968 : decode b_Law_law 968 = .ok (.iaload, 1) := by decide +kernel
theorem d_Law_law_969 : decode b_Law_law 969 = .ok (.aload_n 0, 1) := by decide +kernel
theorem d_Law_law_970 : decode b_Law_law 970 = .ok (.iload 4, 2) := by decide +kernel
theorem d_Law_law_972 : decode b_Law_law 972 = .ok (.iconst 2, 1) := by decide +kernel
theorem d_Law_law_973 : decode b_Law_law 973 = .ok (.iadd, 1) := by decide +kernel
theorem d_Law_law_974 : decode b_Law_law 974 = .ok (.iaload, 1) := by decide +kernel
theorem d_Law_law_975 : decode b_Law_law 975 = .ok (.aload_n 3, 1) := by decide +kernel
theorem d_Law_law_976 : decode b_Law_law 976 = .ok (.invokestatic 121, 3) := by decide +kernel
theorem d_Law_law_979 : decode b_Law_law 979 = .ok (.istore 5, 2) := by decide +kernel
theorem d_Law_law_981 : decode b_Law_law 981 = .ok (.aload_n 2, 1) := by decide +kernel
theorem d_Law_law_982 : decode b_Law_law 982 = .ok (.aload_n 0, 1) := by decide +kernel
theorem d_Law_law_983 : decode b_Law_law 983 = .ok (.iload 4, 2) := by decide +kernel
theorem d_Law_law_985 : decode b_Law_law 985 = .ok (.iconst 1, 1) := by decide +kernel
theorem d_Law_law_986 : decode b_Law_law 986 = .ok (.iadd, 1) := by decide +kernel
theorem d_Law_law_987 : decode b_Law_law 987 = .ok (.iaload, 1) := by decide +kernel
theorem d_Law_law_988 : decode b_Law_law 988 = .ok (.aload_n 0, 1) := by decide +kernel
theorem d_Law_law_989 : decode b_Law_law 989 = .ok (.iload 4, 2) := by decide +kernel
