theorem d_Law_law_991 : decode b_Law_law 991 = .ok (.iconst 2, 1) := by decide +kernel
theorem d_Law_law_992 : decode b_Law_law 992 = .ok (.iadd, 1) := by decide +kernel
theorem d_Law_law_993 : decode b_Law_law 993 = .ok (.iaload, 1) := by decide +kernel
theorem d_Law_law_994 : decode b_Law_law 994 = .ok (.invokevirtual 123, 3) := by decide +kernel
theorem d_Law_law_997 : decode b_Law_law 997 = .ok (.istore 6, 2) := by decide +kernel
theorem d_Law_law_999 : decode b_Law_law 999 = .ok (.aload_n 2, 1) := by decide +kernel
theorem d_Law_law_1000 : decode b_Law_law 1000 = .ok (.invokevirtual 69, 3) := by decide +kernel
theorem d_Law_law_1003 : decode b_Law_law 1003 = .ok (.iload 5, 2) := by decide +kernel
theorem d_Law_law_1005 : decode b_Law_law 1005 = .ok (.if_icmp .eq 5, 3) := by decide +kernel
theorem d_Law_law_1008 : decode b_Law_law 1008 = .ok (.iconst 0, 1) := by decide +kernel
theorem d_Law_law_1009 : decode b_Law_law 1009 = .ok (.ireturn, 1) := by decide +kernel
theorem d_Law_law_1010 : decode b_Law_law 1010 = .ok (.iload 5, 2) := by decide +kernel
theorem d_Law_law_1012 : decode b_Law_law 1012 = .ok (.ifCond .ne 15, 3) := by decide +kernel
theorem d_Law_law_1015 : decode b_Law_law 1015 = .ok (.aload_n 3, 1) := by decide +kernel
theorem d_Law_law_1016 : decode b_Law_law 1016 = .ok (.iconst 0, 1) := by decide +kernel
theorem d_Law_law_1017 : decode b_Law_law 1017 = .ok (.laload, 1) := by decide +kernel
theorem d_Law_law_1018 : decode b_Law_law 1018 = .ok (.iload 6, 2) := by decide +kernel
theorem d_Law_law_1020 : decode b_Law_law 1020 = .ok (.i2l, 1) := by decide +kernel
theorem d_Law_law_1021 : decode b_Law_law 1021 = .ok (.lcmp, 1) := by decide +kernel
theorem d_Law_law_1022 : decode b_Law_law 1022 = .ok (.ifCond .eq 5, 3) := by decide +kernel
theorem d_Law_law_1025 : decode b_Law_law 1025 = .ok (.iconst 0, 1) := by decide +kernel
theorem d_Law_law_1026 : decode b_Law_law 1026 = .ok (.ireturn, 1) := by decide +kernel
theorem d_Law_law_1027 : decode b_Law_law 1027 = .ok (.goto 28, 3) := by decide +kernel
theorem d_Law_law_1030 : decode b_Law_law 1030 = .ok (.aload_n 1, 1) := by decide +kernel
theorem d_Law_law_1031 : decode b_Law_law 1031 = .ok (.aload_n 0, 1) := by decide +kernel
theorem d_Law_law_1032 : decode b_Law_law 1032 = .ok (.iload 4, 2) := by decide +kernel
theorem d_Law_law_1034 : decode b_Law_law 1034 = .ok (.iconst 1, 1) := by decide +kernel
theorem d_Law_law_1035 : decode b_Law_law 1035 = .ok (.iadd, 1) := by decide +kernel
theorem d_Law_law_1036 : decode b_Law_law 1036 = .ok (.iaload, 1) := by decide +kernel
theorem d_Law_law_1037 : decode b_Law_law 1037 = .ok (.invokevirtual 124, 3) := by decide +kernel
theorem d_Law_law_1040 : decode b_Law_law 1040 = .ok (.aload_n 2, 1) := by decide +kernel
theorem d_Law_law_1041 : decode b_Law_law 1041 = .ok (.aload_n 0, 1) := by decide +kernel
theorem d_Law_law_1042 : decode b_Law_law 1042 = .ok (.iload 4, 2) := by decide +kernel
theorem d_Law_law_1044 : decode b_Law_law 1044 = .ok (.iconst 1, 1) := by decide +kernel
theorem d_Law_law_1045 : decode b_Law_law 1045 = .ok (.iadd, 1) := by decide +kernel
theorem d_Law_law_1046 : decode b_Law_law 1046 = .ok (.iaload, 1) := by decide +kernel
theorem d_Law_law_1047 : decode b_Law_law 1047 = .ok (.invokevirtual 127, 3) := by decide +kernel
theorem d_Law_law_1050 : decode b_Law_law 1050 = .ok (.if_icmp .eq 5, 3) := by decide +kernel
theorem d_Law_law_1053 : decode b_Law_law 1053 = .ok (.iconst 0, 1) := by decide +kernel
theorem d_Law_law_1054 : decode b_Law_law 1054 = .ok (.ireturn, 1) := by decide +kernel
theorem d_Law_law_1055 : decode b_Law_law 1055 = .ok (.iinc 4 5, 3) := by decide +kernel
theorem d_Law_law_1058 : decode b_Law_law 1058 = .ok (.goto (-1035), 3) := by decide +kernel
theorem d_Law_law_1061 : decode b_Law_law 1061 = .ok (.iconst 1, 1) := by decide +kernel
theorem d_Law_law_1062 : decode b_Law_law 1062 = .ok (.ireturn, 1) := by decide +kernel
