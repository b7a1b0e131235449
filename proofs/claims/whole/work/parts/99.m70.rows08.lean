theorem dL_law_954 : decode cL_law 954 = .ok (.i2l, 1) := by decide +kernel
theorem dL_law_955 : decode cL_law 955 = .ok (.bipush 32, 2) := by decide +kernel
theorem dL_law_957 : decode cL_law 957 = .ok (.lshl, 1) := by decide +kernel
theorem dL_law_958 : decode cL_law 958 = .ok (.aload_n 0, 1) := by decide +kernel
theorem dL_law_959 : decode cL_law 959 = .ok (.iload 4, 2) := by decide +kernel
theorem dL_law_961 : decode cL_law 961 = .ok (.iconst 4, 1) := by decide +kernel
theorem dL_law_962 : decode cL_law 962 = .ok (.iadd, 1) := by decide +kernel
theorem dL_law_963 : decode cL_law 963 = .ok (.iaload, 1) := by decide +kernel
theorem dL_law_964 : decode cL_law 964 = .ok (.i2l, 1) := by decide +kernel
theorem dL_law_965 : decode cL_law 965 = .ok (.ldc2_w 171, 3) := by decide +kernel
theorem dL_law_968 : decode cL_law 968 = .ok (.land, 1) := by decide +kernel
theorem dL_law_969 : decode cL_law 969 = .ok (.lor, 1) := by decide +kernel
theorem dL_law_970 : decode cL_law 970 = .ok (.aload_n 3, 1) := by decide +kernel
theorem dL_law_971 : decode cL_law 971 = .ok (.invokestatic 177, 3) := by decide +kernel
theorem dL_law_974 : decode cL_law 974 = .ok (.istore 5, 2) := by decide +kernel
theorem dL_law_976 : decode cL_law 976 = .ok (.aload_n 2, 1) := by decide +kernel
theorem dL_law_977 : decode cL_law 977 = .ok (.aload_n 0, 1) := by decide +kernel
theorem dL_law_978 : decode cL_law 978 = .ok (.iload 4, 2) := by decide +kernel
theorem dL_law_980 : decode cL_law 980 = .ok (.iconst 1, 1) := by decide +kernel
theorem dL_law_981 : decode cL_law 981 = .ok (.iadd, 1) := by decide +kernel
theorem dL_law_982 : decode cL_law 982 = .ok (.iaload, 1) := by decide +kernel
theorem dL_law_983 : decode cL_law 983 = .ok (.aload_n 0, 1) := by decide +kernel
theorem dL_law_984 : decode cL_law 984 = .ok (.iload 4, 2) := by decide +kernel
theorem dL_law_986 : decode cL_law 986 = .ok (.iconst 2, 1) := by decide +kernel
theorem dL_law_987 : decode cL_law 987 = .ok (.iadd, 1) := by decide +kernel
theorem dL_law_988 : decode cL_law 988 = .ok (.iaload, 1) := by decide +kernel
theorem dL_law_989 : decode cL_law 989 = .ok (.aload_n 0, 1) := by decide +kernel
theorem dL_law_990 : decode cL_law 990 = .ok (.iload 4, 2) := by decide +kernel
theorem dL_law_992 : decode cL_law 992 = .ok (.iconst 3, 1) := by decide +kernel
theorem dL_law_993 : decode cL_law 993 = .ok (.iadd, 1) := by decide +kernel
theorem dL_law_994 : decode cL_law 994 = .ok (.iaload, 1) := by decide +kernel
theorem dL_law_995 : decode cL_law 995 = .ok (.i2l, 1) := by decide +kernel
theorem dL_law_996 : decode cL_law 996 = .ok (.bipush 32, 2) := by decide +kernel
theorem dL_law_998 : decode cL_law 998 = .ok (.lshl, 1) := by decide +kernel
theorem dL_law_999 : decode cL_law 999 = .ok (.aload_n 0, 1) := by decide +kernel
theorem dL_law_1000 : decode cL_law 1000 = .ok (.iload 4, 2) := by decide +kernel
theorem dL_law_1002 : decode cL_law 1002 = .ok (.iconst 4, 1) := by decide +kernel
theorem dL_law_1003 : decode cL_law 1003 = .ok (.iadd, 1) := by decide +kernel
theorem dL_law_1004 : decode cL_law 1004 = .ok (.iaload, 1) := by decide +kernel
theorem dL_law_1005 : decode cL_law 1005 = .ok (.i2l, 1) := by decide +kernel
theorem dL_law_1006 : decode cL_law 1006 = .ok (.ldc2_w 171, 3) := by decide +kernel
theorem dL_law_1009 : decode cL_law 1009 = .ok (.land, 1) := by decide +kernel
theorem dL_law_1010 : decode cL_law 1010 = .ok (.lor, 1) := by decide +kernel
theorem dL_law_1011 : decode cL_law 1011 = .ok (.invokevirtual 179, 3) := by decide +kernel
theorem dL_law_1014 : decode cL_law 1014 = .ok (.istore 6, 2) := by decide +kernel
theorem dL_law_1016 : decode cL_law 1016 = .ok (.aload_n 2, 1) := by decide +kernel
theorem dL_law_1017 : decode cL_law 1017 = .ok (.invokevirtual 149, 3) := by decide +kernel
theorem dL_law_1020 : decode cL_law 1020 = .ok (.iload 5, 2) := by decide +kernel
theorem dL_law_1022 : decode cL_law 1022 = .ok (.if_icmp .eq 5, 3) := by decide +kernel
theorem dL_law_1027 : decode cL_law 1027 = .ok (.iload 5, 2) := by decide +kernel
theorem dL_law_1029 : decode cL_law 1029 = .ok (.ifCond .ne 15, 3) := by decide +kernel
theorem dL_law_1032 : decode cL_law 1032 = .ok (.aload_n 3, 1) := by decide +kernel
theorem dL_law_1033 : decode cL_law 1033 = .ok (.iconst 0, 1) := by decide +kernel
theorem dL_law_1034 : decode cL_law 1034 = .ok (.laload, 1) := by decide +kernel
theorem dL_law_1035 : decode cL_law 1035 = .ok (.iload 6, 2) := by decide +kernel
theorem dL_law_1037 : decode cL_law 1037 = .ok (.i2l, 1) := by decide +kernel
theorem dL_law_1038 : decode cL_law 1038 = .ok (.lcmp, 1) := by decide +kernel
theorem dL_law_1039 : decode cL_law 1039 = .ok (.ifCond .eq 5, 3) := by decide +kernel
theorem dL_law_1044 : decode cL_law 1044 = .ok (.goto 2067, 3) := by decide +kernel
theorem dL_law_1047 : decode cL_law 1047 = .ok (.aload_n 1, 1) := by decide +kernel
