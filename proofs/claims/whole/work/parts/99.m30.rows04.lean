theorem dX12_isApart_1 : decode cX12_isApart 1 = .ok (.istore_n 2, 1) := by decide +kernel
theorem dX12_isApart_2 : decode cX12_isApart 2 = .ok (.iconst 0, 1) := by decide +kernel
theorem dX12_isApart_3 : decode cX12_isApart 3 = .ok (.istore_n 3, 1) := by decide +kernel
theorem dX12_isApart_4 : decode cX12_isApart 4 = .ok (.iload_n 3, 1) := by decide +kernel
theorem dX12_isApart_5 : decode cX12_isApart 5 = .ok (.aload_n 0, 1) := by decide +kernel
theorem dX12_isApart_6 : decode cX12_isApart 6 = .ok (.getfield 413, 3) := by decide +kernel
theorem dX12_isApart_9 : decode cX12_isApart 9 = .ok (.if_icmp .ge 55, 3) := by decide +kernel
theorem dX12_isApart_12 : decode cX12_isApart 12 = .ok (.aload_n 0, 1) := by decide +kernel
theorem dX12_isApart_13 : decode cX12_isApart 13 = .ok (.aload_n 0, 1) := by decide +kernel
theorem dX12_isApart_14 : decode cX12_isApart 14 = .ok (.getfield 125, 3) := by decide +kernel
theorem dX12_isApart_17 : decode cX12_isApart 17 = .ok (.iload_n 1, 1) := by decide +kernel
theorem dX12_isApart_18 : decode cX12_isApart 18 = .ok (.iaload, 1) := by decide +kernel
theorem dX12_isApart_19 : decode cX12_isApart 19 = .ok (.invokevirtual 416, 3) := by decide +kernel
theorem dX12_isApart_22 : decode cX12_isApart 22 = .ok (.ifCond .eq 42, 3) := by decide +kernel
theorem dX12_isApart_25 : decode cX12_isApart 25 = .ok (.iload_n 2, 1) := by decide +kernel
theorem dX12_isApart_26 : decode cX12_isApart 26 = .ok (.ifCond .ne 26, 3) := by decide +kernel
theorem dX12_isApart_29 : decode cX12_isApart 29 = .ok (.aload_n 0, 1) := by decide +kernel
theorem dX12_isApart_30 : decode cX12_isApart 30 = .ok (.getfield 122, 3) := by decide +kernel
theorem dX12_isApart_33 : decode cX12_isApart 33 = .ok (.iload_n 3, 1) := by decide +kernel
theorem dX12_isApart_34 : decode cX12_isApart 34 = .ok (.baload, 1) := by decide +kernel
theorem dX12_isApart_35 : decode cX12_isApart 35 = .ok (.ifCond .eq 21, 3) := by decide +kernel
theorem dX12_isApart_38 : decode cX12_isApart 38 = .ok (.aload_n 0, 1) := by decide +kernel
theorem dX12_isApart_39 : decode cX12_isApart 39 = .ok (.aload_n 0, 1) := by decide +kernel
theorem dX12_isApart_40 : decode cX12_isApart 40 = .ok (.getfield 125, 3) := by decide +kernel
theorem dX12_isApart_43 : decode cX12_isApart 43 = .ok (.iload_n 1, 1) := by decide +kernel
theorem dX12_isApart_44 : decode cX12_isApart 44 = .ok (.iaload, 1) := by decide +kernel
theorem dX12_isApart_45 : decode cX12_isApart 45 = .ok (.iload_n 3, 1) := by decide +kernel
theorem dX12_isApart_46 : decode cX12_isApart 46 = .ok (.invokevirtual 445, 3) := by decide +kernel
theorem dX12_isApart_49 : decode cX12_isApart 49 = .ok (.ifCond .eq 7, 3) := by decide +kernel
theorem dX12_isApart_52 : decode cX12_isApart 52 = .ok (.iconst 1, 1) := by decide +kernel
theorem dX12_isApart_53 : decode cX12_isApart 53 = .ok (.goto 4, 3) := by decide +kernel
theorem dX12_isApart_56 : decode cX12_isApart 56 = .ok (.iconst 0, 1) := by decide +kernel
theorem dX12_isApart_57 : decode cX12_isApart 57 = .ok (.istore_n 2, 1) := by decide +kernel
theorem dX12_isApart_58 : decode cX12_isApart 58 = .ok (.iinc 3 1, 3) := by decide +kernel
theorem dX12_isApart_61 : decode cX12_isApart 61 = .ok (.goto (-57), 3) := by decide +kernel
theorem dX12_isApart_64 : decode cX12_isApart 64 = .ok (.iload_n 2, 1) := by decide +kernel
theorem dX12_isApart_65 : decode cX12_isApart 65 = .ok (.ireturn, 1) := by decide +kernel
theorem dX12_isArrayType_0 : decode cX12_isArrayType 0 = .ok (.iload_n 1, 1) := by decide +kernel
theorem dX12_isArrayType_1 : decode cX12_isArrayType 1 = .ok (.bipush 20, 2) := by decide +kernel
theorem dX12_isArrayType_3 : decode cX12_isArrayType 3 = .ok (.if_icmp .lt 9, 3) := by decide +kernel
theorem dX12_isArrayType_6 : decode cX12_isArrayType 6 = .ok (.iload_n 1, 1) := by decide +kernel
theorem dX12_isArrayType_7 : decode cX12_isArrayType 7 = .ok (.bipush 24, 2) := by decide +kernel
theorem dX12_isArrayType_9 : decode cX12_isArrayType 9 = .ok (.if_icmp .le 26, 3) := by decide +kernel
theorem dX12_isArrayType_12 : decode cX12_isArrayType 12 = .ok (.iload_n 1, 1) := by decide +kernel
theorem dX12_isArrayType_13 : decode cX12_isArrayType 13 = .ok (.bipush 29, 2) := by decide +kernel
theorem dX12_isArrayType_15 : decode cX12_isArrayType 15 = .ok (.if_icmp .eq 20, 3) := by decide +kernel
theorem dX12_isArrayType_18 : decode cX12_isArrayType 18 = .ok (.iload_n 1, 1) := by decide +kernel
theorem dX12_isArrayType_19 : decode cX12_isArrayType 19 = .ok (.bipush 30, 2) := by decide +kernel
theorem dX12_isArrayType_21 : decode cX12_isArrayType 21 = .ok (.if_icmp .lt 18, 3) := by decide +kernel
theorem dX12_isArrayType_24 : decode cX12_isArrayType 24 = .ok (.aload_n 0, 1) := by decide +kernel
theorem dX12_isArrayType_25 : decode cX12_isArrayType 25 = .ok (.iload_n 1, 1) := by decide +kernel
theorem dX12_isArrayType_26 : decode cX12_isArrayType 26 = .ok (.bipush 30, 2) := by decide +kernel
theorem dX12_isArrayType_28 : decode cX12_isArrayType 28 = .ok (.isub, 1) := by decide +kernel
theorem dX12_isArrayType_29 : decode cX12_isArrayType 29 = .ok (.invokevirtual 416, 3) := by decide +kernel
theorem dX12_isArrayType_32 : decode cX12_isArrayType 32 = .ok (.ifCond .eq 7, 3) := by decide +kernel
theorem dX12_isArrayType_35 : decode cX12_isArrayType 35 = .ok (.iconst 1, 1) := by decide +kernel
theorem dX12_isArrayType_36 : decode cX12_isArrayType 36 = .ok (.goto 4, 3) := by decide +kernel
theorem dX12_isArrayType_39 : decode cX12_isArrayType 39 = .ok (.iconst 0, 1) := by decide +kernel
theorem dX12_isArrayType_40 : decode cX12_isArrayType 40 = .ok (.ireturn, 1) := by decide +kernel
theorem dX12_isChanged_0 : decode cX12_isChanged 0 = .ok (.aload_n 0, 1) := by decide +kernel
theorem dX12_isChanged_1 : decode cX12_isChanged 1 = .ok (.getfield 189, 3) := by decide +kernel
theorem dX12_isChanged_4 : decode cX12_isChanged 4 = .ok (.aload_n 0, 1) := by decide +kernel
theorem dX12_isChanged_5 : decode cX12_isChanged 5 = .ok (.iload_n 1, 1) := by decide +kernel
theorem dX12_isChanged_6 : decode cX12_isChanged 6 = .ok (.iload_n 2, 1) := by decide +kernel
theorem dX12_isChanged_7 : decode cX12_isChanged 7 = .ok (.invokevirtual 545, 3) := by decide +kernel
theorem dX12_isChanged_10 : decode cX12_isChanged 10 = .ok (.iaload, 1) := by decide +kernel
theorem dX12_isChanged_11 : decode cX12_isChanged 11 = .ok (.aload_n 0, 1) := by decide +kernel
theorem dX12_isChanged_12 : decode cX12_isChanged 12 = .ok (.getfield 189, 3) := by decide +kernel
theorem dX12_isChanged_15 : decode cX12_isChanged 15 = .ok (.aload_n 0, 1) := by decide +kernel
theorem dX12_isChanged_16 : decode cX12_isChanged 16 = .ok (.iload_n 3, 1) := by decide +kernel
theorem dX12_isChanged_17 : decode cX12_isChanged 17 = .ok (.iload 4, 2) := by decide +kernel
theorem dX12_isChanged_19 : decode cX12_isChanged 19 = .ok (.invokevirtual 545, 3) := by decide +kernel
theorem dX12_isChanged_22 : decode cX12_isChanged 22 = .ok (.iaload, 1) := by decide +kernel
theorem dX12_isChanged_23 : decode cX12_isChanged 23 = .ok (.if_icmp .ne 29, 3) := by decide +kernel
theorem dX12_isChanged_26 : decode cX12_isChanged 26 = .ok (.aload_n 0, 1) := by decide +kernel
theorem dX12_isChanged_27 : decode cX12_isChanged 27 = .ok (.getfield 192, 3) := by decide +kernel
theorem dX12_isChanged_30 : decode cX12_isChanged 30 = .ok (.aload_n 0, 1) := by decide +kernel
theorem dX12_isChanged_31 : decode cX12_isChanged 31 = .ok (.iload_n 1, 1) := by decide +kernel
theorem dX12_isChanged_32 : decode cX12_isChanged 32 = .ok (.iload_n 2, 1) := by decide +kernel
theorem dX12_isChanged_33 : decode cX12_isChanged 33 = .ok (.invokevirtual 545, 3) := by decide +kernel
theorem dX12_isChanged_36 : decode cX12_isChanged 36 = .ok (.iaload, 1) := by decide +kernel
theorem dX12_isChanged_37 : decode cX12_isChanged 37 = .ok (.aload_n 0, 1) := by decide +kernel
theorem dX12_isChanged_38 : decode cX12_isChanged 38 = .ok (.getfield 192, 3) := by decide +kernel
theorem dX12_isChanged_41 : decode cX12_isChanged 41 = .ok (.aload_n 0, 1) := by decide +kernel
theorem dX12_isChanged_42 : decode cX12_isChanged 42 = .ok (.iload_n 3, 1) := by decide +kernel
theorem dX12_isChanged_43 : decode cX12_isChanged 43 = .ok (.iload 4, 2) := by decide +kernel
theorem dX12_isChanged_45 : decode cX12_isChanged 45 = .ok (.invokevirtual 545, 3) := by decide +kernel
theorem dX12_isChanged_48 : decode cX12_isChanged 48 = .ok (.iaload, 1) := by decide +kernel
theorem dX12_isChanged_49 : decode cX12_isChanged 49 = .ok (.if_icmp .eq 7, 3) := by decide +kernel
theorem dX12_isChanged_52 : decode cX12_isChanged 52 = .ok (.iconst 1, 1) := by decide +kernel
theorem dX12_isChanged_53 : decode cX12_isChanged 53 = .ok (.goto 4, 3) := by decide +kernel
theorem dX12_isChanged_56 : decode cX12_isChanged 56 = .ok (.iconst 0, 1) := by decide +kernel
theorem dX12_isChanged_57 : decode cX12_isChanged 57 = .ok (.istore 5, 2) := by decide +kernel
theorem dX12_isChanged_59 : decode cX12_isChanged 59 = .ok (.iconst 0, 1) := by decide +kernel
theorem dX12_isChanged_60 : decode cX12_isChanged 60 = .ok (.istore 6, 2) := by decide +kernel
theorem dX12_isChanged_62 : decode cX12_isChanged 62 = .ok (.iload 5, 2) := by decide +kernel
theorem dX12_isChanged_64 : decode cX12_isChanged 64 = .ok (.ifCond .ne 48, 3) := by decide +kernel
theorem dX12_isChanged_67 : decode cX12_isChanged 67 = .ok (.iload 6, 2) := by decide +kernel
theorem dX12_isChanged_69 : decode cX12_isChanged 69 = .ok (.aload_n 0, 1) := by decide +kernel
theorem dX12_isChanged_70 : decode cX12_isChanged 70 = .ok (.iload_n 1, 1) := by decide +kernel
theorem dX12_isChanged_71 : decode cX12_isChanged 71 = .ok (.iload_n 2, 1) := by decide +kernel
theorem dX12_isChanged_72 : decode cX12_isChanged 72 = .ok (.invokevirtual 570, 3) := by decide +kernel
theorem dX12_isChanged_75 : decode cX12_isChanged 75 = .ok (.if_icmp .ge 37, 3) := by decide +kernel
theorem dX12_isChanged_78 : decode cX12_isChanged 78 = .ok (.aload_n 0, 1) := by decide +kernel
theorem dX12_isChanged_79 : decode cX12_isChanged 79 = .ok (.iload_n 1, 1) := by decide +kernel
theorem dX12_isChanged_80 : decode cX12_isChanged 80 = .ok (.iload_n 2, 1) := by decide +kernel
theorem dX12_isChanged_81 : decode cX12_isChanged 81 = .ok (.iload 6, 2) := by decide +kernel
theorem dX12_isChanged_83 : decode cX12_isChanged 83 = .ok (.invokevirtual 609, 3) := by decide +kernel
theorem dX12_isChanged_86 : decode cX12_isChanged 86 = .ok (.aload_n 0, 1) := by decide +kernel
theorem dX12_isChanged_87 : decode cX12_isChanged 87 = .ok (.iload_n 3, 1) := by decide +kernel
theorem dX12_isChanged_88 : decode cX12_isChanged 88 = .ok (.iload 4, 2) := by decide +kernel
theorem dX12_isChanged_90 : decode cX12_isChanged 90 = .ok (.iload 6, 2) := by decide +kernel
theorem dX12_isChanged_92 : decode cX12_isChanged 92 = .ok (.invokevirtual 609, 3) := by decide +kernel
theorem dX12_isChanged_95 : decode cX12_isChanged 95 = .ok (.lcmp, 1) := by decide +kernel
theorem dX12_isChanged_96 : decode cX12_isChanged 96 = .ok (.ifCond .eq 7, 3) := by decide +kernel
theorem dX12_isChanged_99 : decode cX12_isChanged 99 = .ok (.iconst 1, 1) := by decide +kernel
theorem dX12_isChanged_100 : decode cX12_isChanged 100 = .ok (.goto 4, 3) := by decide +kernel
theorem dX12_isChanged_103 : decode cX12_isChanged 103 = .ok (.iconst 0, 1) := by decide +kernel
theorem dX12_isChanged_104 : decode cX12_isChanged 104 = .ok (.istore 5, 2) := by decide +kernel
theorem dX12_isChanged_106 : decode cX12_isChanged 106 = .ok (.iinc 6 1, 3) := by decide +kernel
theorem dX12_isChanged_109 : decode cX12_isChanged 109 = .ok (.goto (-47), 3) := by decide +kernel
theorem dX12_isChanged_112 : decode cX12_isChanged 112 = .ok (.iload 5, 2) := by decide +kernel
theorem dX12_isChanged_114 : decode cX12_isChanged 114 = .ok (.ireturn, 1) := by decide +kernel
theorem dX12_isClass_0 : decode cX12_isClass 0 = .ok (.iload_n 1, 1) := by decide +kernel
theorem dX12_isClass_1 : decode cX12_isClass 1 = .ok (.ifCond .lt 15, 3) := by decide +kernel
theorem dX12_isClass_4 : decode cX12_isClass 4 = .ok (.iload_n 1, 1) := by decide +kernel
theorem dX12_isClass_5 : decode cX12_isClass 5 = .ok (.aload_n 0, 1) := by decide +kernel
theorem dX12_isClass_6 : decode cX12_isClass 6 = .ok (.getfield 413, 3) := by decide +kernel
theorem dX12_isClass_9 : decode cX12_isClass 9 = .ok (.if_icmp .ge 7, 3) := by decide +kernel
theorem dX12_isClass_12 : decode cX12_isClass 12 = .ok (.iconst 1, 1) := by decide +kernel
theorem dX12_isClass_13 : decode cX12_isClass 13 = .ok (.goto 4, 3) := by decide +kernel
theorem dX12_isClass_16 : decode cX12_isClass 16 = .ok (.iconst 0, 1) := by decide +kernel
theorem dX12_isClass_17 : decode cX12_isClass 17 = .ok (.ireturn, 1) := by decide +kernel
theorem dX12_isFact_0 : decode cX12_isFact 0 = .ok (.aload_n 0, 1) := by decide +kernel
theorem dX12_isFact_1 : decode cX12_isFact 1 = .ok (.iload_n 1, 1) := by decide +kernel
theorem dX12_isFact_2 : decode cX12_isFact 2 = .ok (.ifCond .lt 11, 3) := by decide +kernel
theorem dX12_isFact_5 : decode cX12_isFact 5 = .ok (.iload_n 1, 1) := by decide +kernel
theorem dX12_isFact_6 : decode cX12_isFact 6 = .ok (.aload_n 0, 1) := by decide +kernel
theorem dX12_isFact_7 : decode cX12_isFact 7 = .ok (.getfield 905, 3) := by decide +kernel
theorem dX12_isFact_10 : decode cX12_isFact 10 = .ok (.if_icmp .lt 7, 3) := by decide +kernel
theorem dX12_isFact_13 : decode cX12_isFact 13 = .ok (.iconst 1, 1) := by decide +kernel
theorem dX12_isFact_14 : decode cX12_isFact 14 = .ok (.goto 4, 3) := by decide +kernel
theorem dX12_isFact_17 : decode cX12_isFact 17 = .ok (.iconst 0, 1) := by decide +kernel
theorem dX12_isFact_18 : decode cX12_isFact 18 = .ok (.putfield 388, 3) := by decide +kernel
theorem dX12_isFact_21 : decode cX12_isFact 21 = .ok (.aload_n 0, 1) := by decide +kernel
theorem dX12_isFact_22 : decode cX12_isFact 22 = .ok (.getfield 388, 3) := by decide +kernel
theorem dX12_isFact_25 : decode cX12_isFact 25 = .ok (.ifCond .le 5, 3) := by decide +kernel
theorem dX12_isFact_28 : decode cX12_isFact 28 = .ok (.iconst 0, 1) := by decide +kernel
theorem dX12_isFact_29 : decode cX12_isFact 29 = .ok (.ireturn, 1) := by decide +kernel
theorem dX12_isFact_30 : decode cX12_isFact 30 = .ok (.iload_n 2, 1) := by decide +kernel
theorem dX12_isFact_31 : decode cX12_isFact 31 = .ok (.ifCond .lt 33, 3) := by decide +kernel
theorem dX12_isFact_34 : decode cX12_isFact 34 = .ok (.iload_n 2, 1) := by decide +kernel
theorem dX12_isFact_35 : decode cX12_isFact 35 = .ok (.bipush 40, 2) := by decide +kernel
theorem dX12_isFact_37 : decode cX12_isFact 37 = .ok (.if_icmp .ge 27, 3) := by decide +kernel
theorem dX12_isFact_40 : decode cX12_isFact 40 = .ok (.aload_n 0, 1) := by decide +kernel
theorem dX12_isFact_41 : decode cX12_isFact 41 = .ok (.getfield 324, 3) := by decide +kernel
theorem dX12_isFact_44 : decode cX12_isFact 44 = .ok (.iload_n 1, 1) := by decide +kernel
theorem dX12_isFact_45 : decode cX12_isFact 45 = .ok (.iaload, 1) := by decide +kernel
theorem dX12_isFact_46 : decode cX12_isFact 46 = .ok (.iconst 1, 1) := by decide +kernel
theorem dX12_isFact_47 : decode cX12_isFact 47 = .ok (.if_icmp .eq 13, 3) := by decide +kernel
theorem dX12_isFact_50 : decode cX12_isFact 50 = .ok (.iload_n 3, 1) := by decide +kernel
theorem dX12_isFact_51 : decode cX12_isFact 51 = .ok (.ifCond .lt 13, 3) := by decide +kernel
theorem dX12_isFact_54 : decode cX12_isFact 54 = .ok (.iload_n 3, 1) := by decide +kernel
theorem dX12_isFact_55 : decode cX12_isFact 55 = .ok (.bipush 40, 2) := by decide +kernel
theorem dX12_isFact_57 : decode cX12_isFact 57 = .ok (.if_icmp .ge 7, 3) := by decide +kernel
theorem dX12_isFact_60 : decode cX12_isFact 60 = .ok (.iconst 1, 1) := by decide +kernel
theorem dX12_isFact_61 : decode cX12_isFact 61 = .ok (.goto 4, 3) := by decide +kernel
theorem dX12_isFact_64 : decode cX12_isFact 64 = .ok (.iconst 0, 1) := by decide +kernel
theorem dX12_isFact_65 : decode cX12_isFact 65 = .ok (.istore 4, 2) := by decide +kernel
theorem dX12_isFact_67 : decode cX12_isFact 67 = .ok (.iload 4, 2) := by decide +kernel
theorem dX12_isFact_69 : decode cX12_isFact 69 = .ok (.ifCond .eq 17, 3) := by decide +kernel
theorem dX12_isFact_72 : decode cX12_isFact 72 = .ok (.aload_n 0, 1) := by decide +kernel
theorem dX12_isFact_73 : decode cX12_isFact 73 = .ok (.iload_n 1, 1) := by decide +kernel
theorem dX12_isFact_74 : decode cX12_isFact 74 = .ok (.iload_n 2, 1) := by decide +kernel
theorem dX12_isFact_75 : decode cX12_isFact 75 = .ok (.iload_n 3, 1) := by decide +kernel
theorem dX12_isFact_76 : decode cX12_isFact 76 = .ok (.invokevirtual 930, 3) := by decide +kernel
theorem dX12_isFact_79 : decode cX12_isFact 79 = .ok (.ifCond .eq 7, 3) := by decide +kernel
theorem dX12_isFact_82 : decode cX12_isFact 82 = .ok (.iconst 1, 1) := by decide +kernel
theorem dX12_isFact_83 : decode cX12_isFact 83 = .ok (.goto 4, 3) := by decide +kernel
theorem dX12_isFact_86 : decode cX12_isFact 86 = .ok (.iconst 0, 1) := by decide +kernel
theorem dX12_isFact_87 : decode cX12_isFact 87 = .ok (.ireturn, 1) := by decide +kernel
theorem dX12_isFactNow_0 : decode cX12_isFactNow 0 = .ok (.aload_n 0, 1) := by decide +kernel
theorem dX12_isFactNow_1 : decode cX12_isFactNow 1 = .ok (.getfield 324, 3) := by decide +kernel
theorem dX12_isFactNow_4 : decode cX12_isFactNow 4 = .ok (.iload_n 1, 1) := by decide +kernel
theorem dX12_isFactNow_5 : decode cX12_isFactNow 5 = .ok (.iaload, 1) := by decide +kernel
theorem dX12_isFactNow_6 : decode cX12_isFactNow 6 = .ok (.iconst 2, 1) := by decide +kernel
theorem dX12_isFactNow_7 : decode cX12_isFactNow 7 = .ok (.if_icmp .ne 23, 3) := by decide +kernel
theorem dX12_isFactNow_10 : decode cX12_isFactNow 10 = .ok (.aload_n 0, 1) := by decide +kernel
theorem dX12_isFactNow_11 : decode cX12_isFactNow 11 = .ok (.getfield 360, 3) := by decide +kernel
theorem dX12_isFactNow_14 : decode cX12_isFactNow 14 = .ok (.sipush 1600, 3) := by decide +kernel
theorem dX12_isFactNow_17 : decode cX12_isFactNow 17 = .ok (.iload_n 1, 1) := by decide +kernel
theorem dX12_isFactNow_18 : decode cX12_isFactNow 18 = .ok (.imul, 1) := by decide +kernel
theorem dX12_isFactNow_19 : decode cX12_isFactNow 19 = .ok (.bipush 40, 2) := by decide +kernel
theorem dX12_isFactNow_21 : decode cX12_isFactNow 21 = .ok (.iload_n 2, 1) := by decide +kernel
theorem dX12_isFactNow_22 : decode cX12_isFactNow 22 = .ok (.imul, 1) := by decide +kernel
theorem dX12_isFactNow_23 : decode cX12_isFactNow 23 = .ok (.iadd, 1) := by decide +kernel
theorem dX12_isFactNow_24 : decode cX12_isFactNow 24 = .ok (.iload_n 3, 1) := by decide +kernel
theorem dX12_isFactNow_25 : decode cX12_isFactNow 25 = .ok (.iadd, 1) := by decide +kernel
theorem dX12_isFactNow_26 : decode cX12_isFactNow 26 = .ok (.baload, 1) := by decide +kernel
theorem dX12_isFactNow_27 : decode cX12_isFactNow 27 = .ok (.goto 14, 3) := by decide +kernel
theorem dX12_isFactNow_30 : decode cX12_isFactNow 30 = .ok (.aload_n 0, 1) := by decide +kernel
theorem dX12_isFactNow_31 : decode cX12_isFactNow 31 = .ok (.getfield 357, 3) := by decide +kernel
theorem dX12_isFactNow_34 : decode cX12_isFactNow 34 = .ok (.bipush 40, 2) := by decide +kernel
theorem dX12_isFactNow_36 : decode cX12_isFactNow 36 = .ok (.iload_n 1, 1) := by decide +kernel
theorem dX12_isFactNow_37 : decode cX12_isFactNow 37 = .ok (.imul, 1) := by decide +kernel
theorem dX12_isFactNow_38 : decode cX12_isFactNow 38 = .ok (.iload_n 2, 1) := by decide +kernel
theorem dX12_isFactNow_39 : decode cX12_isFactNow 39 = .ok (.iadd, 1) := by decide +kernel
theorem dX12_isFactNow_40 : decode cX12_isFactNow 40 = .ok (.baload, 1) := by decide +kernel
theorem dX12_isFactNow_41 : decode cX12_isFactNow 41 = .ok (.ireturn, 1) := by decide +kernel
theorem dX12_isHeld_0 : decode cX12_isHeld 0 = .ok (.iconst 0, 1) := by decide +kernel
theorem dX12_isHeld_1 : decode cX12_isHeld 1 = .ok (.istore_n 3, 1) := by decide +kernel
theorem dX12_isHeld_2 : decode cX12_isHeld 2 = .ok (.iconst 0, 1) := by decide +kernel
theorem dX12_isHeld_3 : decode cX12_isHeld 3 = .ok (.istore 4, 2) := by decide +kernel
theorem dX12_isHeld_5 : decode cX12_isHeld 5 = .ok (.iload 4, 2) := by decide +kernel
theorem dX12_isHeld_7 : decode cX12_isHeld 7 = .ok (.aload_n 0, 1) := by decide +kernel
theorem dX12_isHeld_8 : decode cX12_isHeld 8 = .ok (.getfield 336, 3) := by decide +kernel
theorem dX12_isHeld_11 : decode cX12_isHeld 11 = .ok (.iload_n 1, 1) := by decide +kernel
theorem dX12_isHeld_12 : decode cX12_isHeld 12 = .ok (.iaload, 1) := by decide +kernel
theorem dX12_isHeld_13 : decode cX12_isHeld 13 = .ok (.if_icmp .ge 64, 3) := by decide +kernel
theorem dX12_isHeld_16 : decode cX12_isHeld 16 = .ok (.iload_n 3, 1) := by decide +kernel
theorem dX12_isHeld_17 : decode cX12_isHeld 17 = .ok (.ifCond .ne 48, 3) := by decide +kernel
theorem dX12_isHeld_20 : decode cX12_isHeld 20 = .ok (.aload_n 0, 1) := by decide +kernel
theorem dX12_isHeld_21 : decode cX12_isHeld 21 = .ok (.getfield 339, 3) := by decide +kernel
theorem dX12_isHeld_24 : decode cX12_isHeld 24 = .ok (.iconst 4, 1) := by decide +kernel
theorem dX12_isHeld_25 : decode cX12_isHeld 25 = .ok (.iload_n 1, 1) := by decide +kernel
theorem dX12_isHeld_26 : decode cX12_isHeld 26 = .ok (.imul, 1) := by decide +kernel
theorem dX12_isHeld_27 : decode cX12_isHeld 27 = .ok (.iload 4, 2) := by decide +kernel
theorem dX12_isHeld_29 : decode cX12_isHeld 29 = .ok (.iadd, 1) := by decide +kernel
theorem dX12_isHeld_30 : decode cX12_isHeld 30 = .ok (.iaload, 1) := by decide +kernel
theorem dX12_isHeld_31 : decode cX12_isHeld 31 = .ok (.iconst 2, 1) := by decide +kernel
theorem dX12_isHeld_32 : decode cX12_isHeld 32 = .ok (.if_icmp .gt 37, 3) := by decide +kernel
theorem dX12_isHeld_35 : decode cX12_isHeld 35 = .ok (.aload_n 0, 1) := by decide +kernel
theorem dX12_isHeld_36 : decode cX12_isHeld 36 = .ok (.getfield 345, 3) := by decide +kernel
theorem dX12_isHeld_39 : decode cX12_isHeld 39 = .ok (.iconst 4, 1) := by decide +kernel
theorem dX12_isHeld_40 : decode cX12_isHeld 40 = .ok (.iload_n 1, 1) := by decide +kernel
theorem dX12_isHeld_41 : decode cX12_isHeld 41 = .ok (.imul, 1) := by decide +kernel
theorem dX12_isHeld_42 : decode cX12_isHeld 42 = .ok (.iload 4, 2) := by decide +kernel
theorem dX12_isHeld_44 : decode cX12_isHeld 44 = .ok (.iadd, 1) := by decide +kernel
theorem dX12_isHeld_45 : decode cX12_isHeld 45 = .ok (.iaload, 1) := by decide +kernel
theorem dX12_isHeld_46 : decode cX12_isHeld 46 = .ok (.iload_n 2, 1) := by decide +kernel
theorem dX12_isHeld_47 : decode cX12_isHeld 47 = .ok (.if_icmp .eq 18, 3) := by decide +kernel
theorem dX12_isHeld_50 : decode cX12_isHeld 50 = .ok (.aload_n 0, 1) := by decide +kernel
theorem dX12_isHeld_51 : decode cX12_isHeld 51 = .ok (.getfield 348, 3) := by decide +kernel
theorem dX12_isHeld_54 : decode cX12_isHeld 54 = .ok (.iconst 4, 1) := by decide +kernel
theorem dX12_isHeld_55 : decode cX12_isHeld 55 = .ok (.iload_n 1, 1) := by decide +kernel
theorem dX12_isHeld_56 : decode cX12_isHeld 56 = .ok (.imul, 1) := by decide +kernel
theorem dX12_isHeld_57 : decode cX12_isHeld 57 = .ok (.iload 4, 2) := by decide +kernel
theorem dX12_isHeld_59 : decode cX12_isHeld 59 = .ok (.iadd, 1) := by decide +kernel
theorem dX12_isHeld_60 : decode cX12_isHeld 60 = .ok (.iaload, 1) := by decide +kernel
theorem dX12_isHeld_61 : decode cX12_isHeld 61 = .ok (.iload_n 2, 1) := by decide +kernel
theorem dX12_isHeld_62 : decode cX12_isHeld 62 = .ok (.if_icmp .ne 7, 3) := by decide +kernel
theorem dX12_isHeld_65 : decode cX12_isHeld 65 = .ok (.iconst 1, 1) := by decide +kernel
theorem dX12_isHeld_66 : decode cX12_isHeld 66 = .ok (.goto 4, 3) := by decide +kernel
theorem dX12_isHeld_69 : decode cX12_isHeld 69 = .ok (.iconst 0, 1) := by decide +kernel
theorem dX12_isHeld_70 : decode cX12_isHeld 70 = .ok (.istore_n 3, 1) := by decide +kernel
theorem dX12_isHeld_71 : decode cX12_isHeld 71 = .ok (.iinc 4 1, 3) := by decide +kernel
theorem dX12_isHeld_74 : decode cX12_isHeld 74 = .ok (.goto (-69), 3) := by decide +kernel
theorem dX12_isHeld_77 : decode cX12_isHeld 77 = .ok (.iload_n 3, 1) := by decide +kernel
theorem dX12_isHeld_78 : decode cX12_isHeld 78 = .ok (.ireturn, 1) := by decide +kernel
theorem dX12_isKey_0 : decode cX12_isKey 0 = .ok (.aload_n 0, 1) := by decide +kernel
theorem dX12_isKey_1 : decode cX12_isKey 1 = .ok (.getfield 644, 3) := by decide +kernel
theorem dX12_isKey_4 : decode cX12_isKey 4 = .ok (.iconst 1, 1) := by decide +kernel
theorem dX12_isKey_5 : decode cX12_isKey 5 = .ok (.if_icmp .ne 21, 3) := by decide +kernel
theorem dX12_isKey_8 : decode cX12_isKey 8 = .ok (.aload_n 0, 1) := by decide +kernel
theorem dX12_isKey_9 : decode cX12_isKey 9 = .ok (.getfield 640, 3) := by decide +kernel
theorem dX12_isKey_12 : decode cX12_isKey 12 = .ok (.aload_n 0, 1) := by decide +kernel
theorem dX12_isKey_13 : decode cX12_isKey 13 = .ok (.getfield 74, 3) := by decide +kernel
theorem dX12_isKey_16 : decode cX12_isKey 16 = .ok (.iload_n 1, 1) := by decide +kernel
theorem dX12_isKey_17 : decode cX12_isKey 17 = .ok (.laload, 1) := by decide +kernel
theorem dX12_isKey_18 : decode cX12_isKey 18 = .ok (.lcmp, 1) := by decide +kernel
theorem dX12_isKey_19 : decode cX12_isKey 19 = .ok (.ifCond .ne 7, 3) := by decide +kernel
theorem dX12_isKey_22 : decode cX12_isKey 22 = .ok (.iconst 1, 1) := by decide +kernel
theorem dX12_isKey_23 : decode cX12_isKey 23 = .ok (.goto 4, 3) := by decide +kernel
theorem dX12_isKey_26 : decode cX12_isKey 26 = .ok (.iconst 0, 1) := by decide +kernel
theorem dX12_isKey_27 : decode cX12_isKey 27 = .ok (.ireturn, 1) := by decide +kernel
theorem dX12_isLetter_0 : decode cX12_isLetter 0 = .ok (.iload_n 0, 1) := by decide +kernel
theorem dX12_isLetter_1 : decode cX12_isLetter 1 = .ok (.bipush 65, 2) := by decide +kernel
theorem dX12_isLetter_3 : decode cX12_isLetter 3 = .ok (.if_icmp .lt 9, 3) := by decide +kernel
theorem dX12_isLetter_6 : decode cX12_isLetter 6 = .ok (.iload_n 0, 1) := by decide +kernel
theorem dX12_isLetter_7 : decode cX12_isLetter 7 = .ok (.bipush 90, 2) := by decide +kernel
theorem dX12_isLetter_9 : decode cX12_isLetter 9 = .ok (.if_icmp .le 15, 3) := by decide +kernel
theorem dX12_isLetter_12 : decode cX12_isLetter 12 = .ok (.iload_n 0, 1) := by decide +kernel
theorem dX12_isLetter_13 : decode cX12_isLetter 13 = .ok (.bipush 97, 2) := by decide +kernel
theorem dX12_isLetter_15 : decode cX12_isLetter 15 = .ok (.if_icmp .lt 13, 3) := by decide +kernel
theorem dX12_isLetter_18 : decode cX12_isLetter 18 = .ok (.iload_n 0, 1) := by decide +kernel
theorem dX12_isLetter_19 : decode cX12_isLetter 19 = .ok (.bipush 122, 2) := by decide +kernel
theorem dX12_isLetter_21 : decode cX12_isLetter 21 = .ok (.if_icmp .gt 7, 3) := by decide +kernel
theorem dX12_isLetter_24 : decode cX12_isLetter 24 = .ok (.iconst 1, 1) := by decide +kernel
theorem dX12_isLetter_25 : decode cX12_isLetter 25 = .ok (.goto 4, 3) := by decide +kernel
theorem dX12_isLetter_28 : decode cX12_isLetter 28 = .ok (.iconst 0, 1) := by decide +kernel
theorem dX12_isLetter_29 : decode cX12_isLetter 29 = .ok (.ireturn, 1) := by decide +kernel
theorem dX12_isLinkSlot_0 : decode cX12_isLinkSlot 0 = .ok (.aload_n 0, 1) := by decide +kernel
theorem dX12_isLinkSlot_1 : decode cX12_isLinkSlot 1 = .ok (.aload_n 0, 1) := by decide +kernel
theorem dX12_isLinkSlot_2 : decode cX12_isLinkSlot 2 = .ok (.getfield 125, 3) := by decide +kernel
theorem dX12_isLinkSlot_5 : decode cX12_isLinkSlot 5 = .ok (.iload_n 1, 1) := by decide +kernel
theorem dX12_isLinkSlot_6 : decode cX12_isLinkSlot 6 = .ok (.iaload, 1) := by decide +kernel
theorem dX12_isLinkSlot_7 : decode cX12_isLinkSlot 7 = .ok (.iload_n 2, 1) := by decide +kernel
theorem dX12_isLinkSlot_8 : decode cX12_isLinkSlot 8 = .ok (.invokevirtual 458, 3) := by decide +kernel
theorem dX12_isLinkSlot_11 : decode cX12_isLinkSlot 11 = .ok (.iconst 5, 1) := by decide +kernel
theorem dX12_isLinkSlot_12 : decode cX12_isLinkSlot 12 = .ok (.if_icmp .ne 7, 3) := by decide +kernel
theorem dX12_isLinkSlot_15 : decode cX12_isLinkSlot 15 = .ok (.iconst 1, 1) := by decide +kernel
theorem dX12_isLinkSlot_16 : decode cX12_isLinkSlot 16 = .ok (.goto 4, 3) := by decide +kernel
theorem dX12_isLinkSlot_19 : decode cX12_isLinkSlot 19 = .ok (.iconst 0, 1) := by decide +kernel
theorem dX12_isLinkSlot_20 : decode cX12_isLinkSlot 20 = .ok (.ireturn, 1) := by decide +kernel
theorem dX12_isLinkStatic_0 : decode cX12_isLinkStatic 0 = .ok (.iload_n 1, 1) := by decide +kernel
theorem dX12_isLinkStatic_1 : decode cX12_isLinkStatic 1 = .ok (.bipush 6, 2) := by decide +kernel
theorem dX12_isLinkStatic_3 : decode cX12_isLinkStatic 3 = .ok (.irem, 1) := by decide +kernel
theorem dX12_isLinkStatic_4 : decode cX12_isLinkStatic 4 = .ok (.aload_n 0, 1) := by decide +kernel
theorem dX12_isLinkStatic_5 : decode cX12_isLinkStatic 5 = .ok (.getfield 94, 3) := by decide +kernel
theorem dX12_isLinkStatic_8 : decode cX12_isLinkStatic 8 = .ok (.iload_n 1, 1) := by decide +kernel
theorem dX12_isLinkStatic_9 : decode cX12_isLinkStatic 9 = .ok (.bipush 6, 2) := by decide +kernel
theorem dX12_isLinkStatic_11 : decode cX12_isLinkStatic 11 = .ok (.idiv, 1) := by decide +kernel
theorem dX12_isLinkStatic_12 : decode cX12_isLinkStatic 12 = .ok (.iaload, 1) := by decide +kernel
theorem dX12_isLinkStatic_13 : decode cX12_isLinkStatic 13 = .ok (.if_icmp .ge 26, 3) := by decide +kernel
theorem dX12_isLinkStatic_16 : decode cX12_isLinkStatic 16 = .ok (.aload_n 0, 1) := by decide +kernel
theorem dX12_isLinkStatic_17 : decode cX12_isLinkStatic 17 = .ok (.getfield 119, 3) := by decide +kernel
theorem dX12_isLinkStatic_20 : decode cX12_isLinkStatic 20 = .ok (.iload_n 1, 1) := by decide +kernel
theorem dX12_isLinkStatic_21 : decode cX12_isLinkStatic 21 = .ok (.baload, 1) := by decide +kernel
theorem dX12_isLinkStatic_22 : decode cX12_isLinkStatic 22 = .ok (.ifCond .eq 17, 3) := by decide +kernel
theorem dX12_isLinkStatic_25 : decode cX12_isLinkStatic 25 = .ok (.aload_n 0, 1) := by decide +kernel
theorem dX12_isLinkStatic_26 : decode cX12_isLinkStatic 26 = .ok (.getfield 103, 3) := by decide +kernel
theorem dX12_isLinkStatic_29 : decode cX12_isLinkStatic 29 = .ok (.iload_n 1, 1) := by decide +kernel
theorem dX12_isLinkStatic_30 : decode cX12_isLinkStatic 30 = .ok (.iaload, 1) := by decide +kernel
theorem dX12_isLinkStatic_31 : decode cX12_isLinkStatic 31 = .ok (.iconst 5, 1) := by decide +kernel
theorem dX12_isLinkStatic_32 : decode cX12_isLinkStatic 32 = .ok (.if_icmp .ne 7, 3) := by decide +kernel
theorem dX12_isLinkStatic_35 : decode cX12_isLinkStatic 35 = .ok (.iconst 1, 1) := by decide +kernel
theorem dX12_isLinkStatic_36 : decode cX12_isLinkStatic 36 = .ok (.goto 4, 3) := by decide +kernel
theorem dX12_isLinkStatic_39 : decode cX12_isLinkStatic 39 = .ok (.iconst 0, 1) := by decide +kernel
theorem dX12_isLinkStatic_40 : decode cX12_isLinkStatic 40 = .ok (.ireturn, 1) := by decide +kernel
theorem dX12_isLinkType_0 : decode cX12_isLinkType 0 = .ok (.iload_n 1, 1) := by decide +kernel
theorem dX12_isLinkType_1 : decode cX12_isLinkType 1 = .ok (.iconst (-1), 1) := by decide +kernel
theorem dX12_isLinkType_2 : decode cX12_isLinkType 2 = .ok (.if_icmp .eq 46, 3) := by decide +kernel
theorem dX12_isLinkType_5 : decode cX12_isLinkType 5 = .ok (.aload_n 0, 1) := by decide +kernel
theorem dX12_isLinkType_6 : decode cX12_isLinkType 6 = .ok (.iload_n 1, 1) := by decide +kernel
theorem dX12_isLinkType_7 : decode cX12_isLinkType 7 = .ok (.invokevirtual 416, 3) := by decide +kernel
theorem dX12_isLinkType_10 : decode cX12_isLinkType 10 = .ok (.ifCond .ne 38, 3) := by decide +kernel
theorem dX12_isLinkType_13 : decode cX12_isLinkType 13 = .ok (.iload_n 1, 1) := by decide +kernel
theorem dX12_isLinkType_14 : decode cX12_isLinkType 14 = .ok (.bipush 20, 2) := by decide +kernel
theorem dX12_isLinkType_16 : decode cX12_isLinkType 16 = .ok (.if_icmp .lt 9, 3) := by decide +kernel
theorem dX12_isLinkType_19 : decode cX12_isLinkType 19 = .ok (.iload_n 1, 1) := by decide +kernel
theorem dX12_isLinkType_20 : decode cX12_isLinkType 20 = .ok (.bipush 24, 2) := by decide +kernel
theorem dX12_isLinkType_22 : decode cX12_isLinkType 22 = .ok (.if_icmp .le 26, 3) := by decide +kernel
theorem dX12_isLinkType_25 : decode cX12_isLinkType 25 = .ok (.iload_n 1, 1) := by decide +kernel
theorem dX12_isLinkType_26 : decode cX12_isLinkType 26 = .ok (.bipush 29, 2) := by decide +kernel
theorem dX12_isLinkType_28 : decode cX12_isLinkType 28 = .ok (.if_icmp .eq 20, 3) := by decide +kernel
theorem dX12_isLinkType_31 : decode cX12_isLinkType 31 = .ok (.iload_n 1, 1) := by decide +kernel
theorem dX12_isLinkType_32 : decode cX12_isLinkType 32 = .ok (.bipush 30, 2) := by decide +kernel
theorem dX12_isLinkType_34 : decode cX12_isLinkType 34 = .ok (.if_icmp .lt 18, 3) := by decide +kernel
theorem dX12_isLinkType_37 : decode cX12_isLinkType 37 = .ok (.aload_n 0, 1) := by decide +kernel
theorem dX12_isLinkType_38 : decode cX12_isLinkType 38 = .ok (.iload_n 1, 1) := by decide +kernel
theorem dX12_isLinkType_39 : decode cX12_isLinkType 39 = .ok (.bipush 30, 2) := by decide +kernel
theorem dX12_isLinkType_41 : decode cX12_isLinkType 41 = .ok (.isub, 1) := by decide +kernel
theorem dX12_isLinkType_42 : decode cX12_isLinkType 42 = .ok (.invokevirtual 416, 3) := by decide +kernel
theorem dX12_isLinkType_45 : decode cX12_isLinkType 45 = .ok (.ifCond .eq 7, 3) := by decide +kernel
theorem dX12_isLinkType_48 : decode cX12_isLinkType 48 = .ok (.iconst 1, 1) := by decide +kernel
theorem dX12_isLinkType_49 : decode cX12_isLinkType 49 = .ok (.goto 4, 3) := by decide +kernel
theorem dX12_isLinkType_52 : decode cX12_isLinkType 52 = .ok (.iconst 0, 1) := by decide +kernel
theorem dX12_isLinkType_53 : decode cX12_isLinkType 53 = .ok (.ireturn, 1) := by decide +kernel
theorem dX12_isName_0 : decode cX12_isName 0 = .ok (.aload_n 0, 1) := by decide +kernel
theorem dX12_isName_1 : decode cX12_isName 1 = .ok (.getfield 644, 3) := by decide +kernel
theorem dX12_isName_4 : decode cX12_isName 4 = .ok (.iconst 1, 1) := by decide +kernel
theorem dX12_isName_5 : decode cX12_isName 5 = .ok (.if_icmp .ne 19, 3) := by decide +kernel
theorem dX12_isName_8 : decode cX12_isName 8 = .ok (.aload_n 0, 1) := by decide +kernel
theorem dX12_isName_9 : decode cX12_isName 9 = .ok (.aload_n 0, 1) := by decide +kernel
theorem dX12_isName_10 : decode cX12_isName 10 = .ok (.getfield 640, 3) := by decide +kernel
theorem dX12_isName_13 : decode cX12_isName 13 = .ok (.invokevirtual 409, 3) := by decide +kernel
theorem dX12_isName_16 : decode cX12_isName 16 = .ok (.iconst (-1), 1) := by decide +kernel
theorem dX12_isName_17 : decode cX12_isName 17 = .ok (.if_icmp .ne 7, 3) := by decide +kernel
theorem dX12_isName_20 : decode cX12_isName 20 = .ok (.iconst 1, 1) := by decide +kernel
theorem dX12_isName_21 : decode cX12_isName 21 = .ok (.goto 4, 3) := by decide +kernel
theorem dX12_isName_24 : decode cX12_isName 24 = .ok (.iconst 0, 1) := by decide +kernel
theorem dX12_isName_25 : decode cX12_isName 25 = .ok (.ireturn, 1) := by decide +kernel
theorem dX12_isNamed_0 : decode cX12_isNamed 0 = .ok (.aload_n 0, 1) := by decide +kernel
theorem dX12_isNamed_1 : decode cX12_isNamed 1 = .ok (.getfield 78, 3) := by decide +kernel
theorem dX12_isNamed_4 : decode cX12_isNamed 4 = .ok (.iload_n 1, 1) := by decide +kernel
theorem dX12_isNamed_5 : decode cX12_isNamed 5 = .ok (.laload, 1) := by decide +kernel
theorem dX12_isNamed_6 : decode cX12_isNamed 6 = .ok (.lload_n 2, 1) := by decide +kernel
theorem dX12_isNamed_7 : decode cX12_isNamed 7 = .ok (.lcmp, 1) := by decide +kernel
theorem dX12_isNamed_8 : decode cX12_isNamed 8 = .ok (.ifCond .ne 7, 3) := by decide +kernel
theorem dX12_isNamed_11 : decode cX12_isNamed 11 = .ok (.iconst 1, 1) := by decide +kernel
theorem dX12_isNamed_12 : decode cX12_isNamed 12 = .ok (.goto 4, 3) := by decide +kernel
theorem dX12_isNamed_15 : decode cX12_isNamed 15 = .ok (.iconst 0, 1) := by decide +kernel
theorem dX12_isNamed_16 : decode cX12_isNamed 16 = .ok (.istore 5, 2) := by decide +kernel
theorem dX12_isNamed_18 : decode cX12_isNamed 18 = .ok (.aload_n 0, 1) := by decide +kernel
theorem dX12_isNamed_19 : decode cX12_isNamed 19 = .ok (.getfield 91, 3) := by decide +kernel
theorem dX12_isNamed_22 : decode cX12_isNamed 22 = .ok (.iload_n 1, 1) := by decide +kernel
theorem dX12_isNamed_23 : decode cX12_isNamed 23 = .ok (.iaload, 1) := by decide +kernel
theorem dX12_isNamed_24 : decode cX12_isNamed 24 = .ok (.istore 6, 2) := by decide +kernel
theorem dX12_isNamed_26 : decode cX12_isNamed 26 = .ok (.iload 6, 2) := by decide +kernel
theorem dX12_isNamed_28 : decode cX12_isNamed 28 = .ok (.iconst (-1), 1) := by decide +kernel
theorem dX12_isNamed_29 : decode cX12_isNamed 29 = .ok (.if_icmp .eq 44, 3) := by decide +kernel
theorem dX12_isNamed_32 : decode cX12_isNamed 32 = .ok (.iload 4, 2) := by decide +kernel
theorem dX12_isNamed_34 : decode cX12_isNamed 34 = .ok (.ifCond .eq 39, 3) := by decide +kernel
theorem dX12_isNamed_37 : decode cX12_isNamed 37 = .ok (.iload 5, 2) := by decide +kernel
theorem dX12_isNamed_39 : decode cX12_isNamed 39 = .ok (.ifCond .ne 15, 3) := by decide +kernel
theorem dX12_isNamed_42 : decode cX12_isNamed 42 = .ok (.aload_n 0, 1) := by decide +kernel
theorem dX12_isNamed_43 : decode cX12_isNamed 43 = .ok (.getfield 78, 3) := by decide +kernel
theorem dX12_isNamed_46 : decode cX12_isNamed 46 = .ok (.iload 6, 2) := by decide +kernel
theorem dX12_isNamed_48 : decode cX12_isNamed 48 = .ok (.laload, 1) := by decide +kernel
theorem dX12_isNamed_49 : decode cX12_isNamed 49 = .ok (.lload_n 2, 1) := by decide +kernel
theorem dX12_isNamed_50 : decode cX12_isNamed 50 = .ok (.lcmp, 1) := by decide +kernel
theorem dX12_isNamed_51 : decode cX12_isNamed 51 = .ok (.ifCond .ne 7, 3) := by decide +kernel
theorem dX12_isNamed_54 : decode cX12_isNamed 54 = .ok (.iconst 1, 1) := by decide +kernel
theorem dX12_isNamed_55 : decode cX12_isNamed 55 = .ok (.goto 4, 3) := by decide +kernel
theorem dX12_isNamed_58 : decode cX12_isNamed 58 = .ok (.iconst 0, 1) := by decide +kernel
theorem dX12_isNamed_59 : decode cX12_isNamed 59 = .ok (.istore 5, 2) := by decide +kernel
theorem dX12_isNamed_61 : decode cX12_isNamed 61 = .ok (.aload_n 0, 1) := by decide +kernel
theorem dX12_isNamed_62 : decode cX12_isNamed 62 = .ok (.getfield 91, 3) := by decide +kernel
theorem dX12_isNamed_65 : decode cX12_isNamed 65 = .ok (.iload 6, 2) := by decide +kernel
theorem dX12_isNamed_67 : decode cX12_isNamed 67 = .ok (.iaload, 1) := by decide +kernel
theorem dX12_isNamed_68 : decode cX12_isNamed 68 = .ok (.istore 6, 2) := by decide +kernel
theorem dX12_isNamed_70 : decode cX12_isNamed 70 = .ok (.goto (-44), 3) := by decide +kernel
theorem dX12_isNamed_73 : decode cX12_isNamed 73 = .ok (.iload 5, 2) := by decide +kernel
theorem dX12_isNamed_75 : decode cX12_isNamed 75 = .ok (.ireturn, 1) := by decide +kernel
theorem dX12_isObject_0 : decode cX12_isObject 0 = .ok (.iload_n 1, 1) := by decide +kernel
theorem dX12_isObject_1 : decode cX12_isObject 1 = .ok (.ifCond .lt 24, 3) := by decide +kernel
theorem dX12_isObject_4 : decode cX12_isObject 4 = .ok (.iload_n 1, 1) := by decide +kernel
theorem dX12_isObject_5 : decode cX12_isObject 5 = .ok (.aload_n 0, 1) := by decide +kernel
theorem dX12_isObject_6 : decode cX12_isObject 6 = .ok (.getfield 435, 3) := by decide +kernel
theorem dX12_isObject_9 : decode cX12_isObject 9 = .ok (.if_icmp .ge 16, 3) := by decide +kernel
theorem dX12_isObject_12 : decode cX12_isObject 12 = .ok (.aload_n 0, 1) := by decide +kernel
theorem dX12_isObject_13 : decode cX12_isObject 13 = .ok (.getfield 134, 3) := by decide +kernel
theorem dX12_isObject_16 : decode cX12_isObject 16 = .ok (.iload_n 1, 1) := by decide +kernel
theorem dX12_isObject_17 : decode cX12_isObject 17 = .ok (.baload, 1) := by decide +kernel
theorem dX12_isObject_18 : decode cX12_isObject 18 = .ok (.ifCond .eq 7, 3) := by decide +kernel
theorem dX12_isObject_21 : decode cX12_isObject 21 = .ok (.iconst 1, 1) := by decide +kernel
theorem dX12_isObject_22 : decode cX12_isObject 22 = .ok (.goto 4, 3) := by decide +kernel
theorem dX12_isObject_25 : decode cX12_isObject 25 = .ok (.iconst 0, 1) := by decide +kernel
theorem dX12_isObject_26 : decode cX12_isObject 26 = .ok (.ireturn, 1) := by decide +kernel
theorem dX12_isOfKind_0 : decode cX12_isOfKind 0 = .ok (.iload_n 1, 1) := by decide +kernel
theorem dX12_isOfKind_1 : decode cX12_isOfKind 1 = .ok (.iconst 5, 1) := by decide +kernel
theorem dX12_isOfKind_2 : decode cX12_isOfKind 2 = .ok (.if_icmp .ne 58, 3) := by decide +kernel
theorem dX12_isOfKind_5 : decode cX12_isOfKind 5 = .ok (.lload_n 3, 1) := by decide +kernel
theorem dX12_isOfKind_6 : decode cX12_isOfKind 6 = .ok (.ldc2_w 433, 3) := by decide +kernel
theorem dX12_isOfKind_9 : decode cX12_isOfKind 9 = .ok (.lcmp, 1) := by decide +kernel
theorem dX12_isOfKind_10 : decode cX12_isOfKind 10 = .ok (.ifCond .eq 44, 3) := by decide +kernel
theorem dX12_isOfKind_13 : decode cX12_isOfKind 13 = .ok (.lload_n 3, 1) := by decide +kernel
theorem dX12_isOfKind_14 : decode cX12_isOfKind 14 = .ok (.lconst 0, 1) := by decide +kernel
theorem dX12_isOfKind_15 : decode cX12_isOfKind 15 = .ok (.lcmp, 1) := by decide +kernel
theorem dX12_isOfKind_16 : decode cX12_isOfKind 16 = .ok (.ifCond .lt 42, 3) := by decide +kernel
theorem dX12_isOfKind_19 : decode cX12_isOfKind 19 = .ok (.lload_n 3, 1) := by decide +kernel
theorem dX12_isOfKind_20 : decode cX12_isOfKind 20 = .ok (.aload_n 0, 1) := by decide +kernel
theorem dX12_isOfKind_21 : decode cX12_isOfKind 21 = .ok (.getfield 435, 3) := by decide +kernel
theorem dX12_isOfKind_24 : decode cX12_isOfKind 24 = .ok (.i2l, 1) := by decide +kernel
theorem dX12_isOfKind_25 : decode cX12_isOfKind 25 = .ok (.lcmp, 1) := by decide +kernel
theorem dX12_isOfKind_26 : decode cX12_isOfKind 26 = .ok (.ifCond .ge 32, 3) := by decide +kernel
theorem dX12_isOfKind_29 : decode cX12_isOfKind 29 = .ok (.aload_n 0, 1) := by decide +kernel
theorem dX12_isOfKind_30 : decode cX12_isOfKind 30 = .ok (.getfield 134, 3) := by decide +kernel
theorem dX12_isOfKind_33 : decode cX12_isOfKind 33 = .ok (.lload_n 3, 1) := by decide +kernel
theorem dX12_isOfKind_34 : decode cX12_isOfKind 34 = .ok (.l2i, 1) := by decide +kernel
theorem dX12_isOfKind_35 : decode cX12_isOfKind 35 = .ok (.baload, 1) := by decide +kernel
theorem dX12_isOfKind_36 : decode cX12_isOfKind 36 = .ok (.ifCond .eq 22, 3) := by decide +kernel
theorem dX12_isOfKind_39 : decode cX12_isOfKind 39 = .ok (.aload_n 0, 1) := by decide +kernel
theorem dX12_isOfKind_40 : decode cX12_isOfKind 40 = .ok (.aload_n 0, 1) := by decide +kernel
theorem dX12_isOfKind_41 : decode cX12_isOfKind 41 = .ok (.getfield 125, 3) := by decide +kernel
theorem dX12_isOfKind_44 : decode cX12_isOfKind 44 = .ok (.lload_n 3, 1) := by decide +kernel
theorem dX12_isOfKind_45 : decode cX12_isOfKind 45 = .ok (.l2i, 1) := by decide +kernel
theorem dX12_isOfKind_46 : decode cX12_isOfKind 46 = .ok (.iaload, 1) := by decide +kernel
theorem dX12_isOfKind_47 : decode cX12_isOfKind 47 = .ok (.iload_n 2, 1) := by decide +kernel
theorem dX12_isOfKind_48 : decode cX12_isOfKind 48 = .ok (.invokevirtual 449, 3) := by decide +kernel
theorem dX12_isOfKind_51 : decode cX12_isOfKind 51 = .ok (.ifCond .eq 7, 3) := by decide +kernel
theorem dX12_isOfKind_54 : decode cX12_isOfKind 54 = .ok (.iconst 1, 1) := by decide +kernel
theorem dX12_isOfKind_55 : decode cX12_isOfKind 55 = .ok (.goto 4, 3) := by decide +kernel
theorem dX12_isOfKind_58 : decode cX12_isOfKind 58 = .ok (.iconst 0, 1) := by decide +kernel
theorem dX12_isOfKind_59 : decode cX12_isOfKind 59 = .ok (.ireturn, 1) := by decide +kernel
theorem dX12_isOfKind_60 : decode cX12_isOfKind 60 = .ok (.iload_n 1, 1) := by decide +kernel
theorem dX12_isOfKind_61 : decode cX12_isOfKind 61 = .ok (.ifCond .ne 7, 3) := by decide +kernel
theorem dX12_isOfKind_64 : decode cX12_isOfKind 64 = .ok (.iconst 1, 1) := by decide +kernel
theorem dX12_isOfKind_65 : decode cX12_isOfKind 65 = .ok (.goto 35, 3) := by decide +kernel
theorem dX12_isOfKind_68 : decode cX12_isOfKind 68 = .ok (.iload_n 1, 1) := by decide +kernel
theorem dX12_isOfKind_69 : decode cX12_isOfKind 69 = .ok (.iconst 1, 1) := by decide +kernel
theorem dX12_isOfKind_70 : decode cX12_isOfKind 70 = .ok (.if_icmp .ne 8, 3) := by decide +kernel
theorem dX12_isOfKind_73 : decode cX12_isOfKind 73 = .ok (.bipush 8, 2) := by decide +kernel
theorem dX12_isOfKind_75 : decode cX12_isOfKind 75 = .ok (.goto 25, 3) := by decide +kernel
theorem dX12_isOfKind_78 : decode cX12_isOfKind 78 = .ok (.iload_n 1, 1) := by decide +kernel
theorem dX12_isOfKind_79 : decode cX12_isOfKind 79 = .ok (.iconst 2, 1) := by decide +kernel
theorem dX12_isOfKind_80 : decode cX12_isOfKind 80 = .ok (.if_icmp .ne 8, 3) := by decide +kernel
theorem dX12_isOfKind_83 : decode cX12_isOfKind 83 = .ok (.bipush 16, 2) := by decide +kernel
theorem dX12_isOfKind_85 : decode cX12_isOfKind 85 = .ok (.goto 15, 3) := by decide +kernel
theorem dX12_isOfKind_88 : decode cX12_isOfKind 88 = .ok (.iload_n 1, 1) := by decide +kernel
theorem dX12_isOfKind_89 : decode cX12_isOfKind 89 = .ok (.iconst 3, 1) := by decide +kernel
theorem dX12_isOfKind_90 : decode cX12_isOfKind 90 = .ok (.if_icmp .ne 8, 3) := by decide +kernel
theorem dX12_isOfKind_93 : decode cX12_isOfKind 93 = .ok (.bipush 32, 2) := by decide +kernel
theorem dX12_isOfKind_95 : decode cX12_isOfKind 95 = .ok (.goto 5, 3) := by decide +kernel
theorem dX12_isOfKind_98 : decode cX12_isOfKind 98 = .ok (.bipush 64, 2) := by decide +kernel
theorem dX12_isOfKind_100 : decode cX12_isOfKind 100 = .ok (.istore 5, 2) := by decide +kernel
theorem dX12_isOfKind_102 : decode cX12_isOfKind 102 = .ok (.iload_n 1, 1) := by decide +kernel
theorem dX12_isOfKind_103 : decode cX12_isOfKind 103 = .ok (.ifCond .ne 21, 3) := by decide +kernel
theorem dX12_isOfKind_106 : decode cX12_isOfKind 106 = .ok (.lload_n 3, 1) := by decide +kernel
theorem dX12_isOfKind_107 : decode cX12_isOfKind 107 = .ok (.lconst 0, 1) := by decide +kernel
theorem dX12_isOfKind_108 : decode cX12_isOfKind 108 = .ok (.lcmp, 1) := by decide +kernel
theorem dX12_isOfKind_109 : decode cX12_isOfKind 109 = .ok (.ifCond .eq 9, 3) := by decide +kernel
theorem dX12_isOfKind_112 : decode cX12_isOfKind 112 = .ok (.lload_n 3, 1) := by decide +kernel
theorem dX12_isOfKind_113 : decode cX12_isOfKind 113 = .ok (.lconst 1, 1) := by decide +kernel
theorem dX12_isOfKind_114 : decode cX12_isOfKind 114 = .ok (.lcmp, 1) := by decide +kernel
theorem dX12_isOfKind_115 : decode cX12_isOfKind 115 = .ok (.ifCond .ne 7, 3) := by decide +kernel
theorem dX12_isOfKind_118 : decode cX12_isOfKind 118 = .ok (.iconst 1, 1) := by decide +kernel
theorem dX12_isOfKind_119 : decode cX12_isOfKind 119 = .ok (.goto 4, 3) := by decide +kernel
theorem dX12_isOfKind_122 : decode cX12_isOfKind 122 = .ok (.iconst 0, 1) := by decide +kernel
theorem dX12_isOfKind_123 : decode cX12_isOfKind 123 = .ok (.ireturn, 1) := by decide +kernel
theorem dX12_isOfKind_124 : decode cX12_isOfKind 124 = .ok (.iload 5, 2) := by decide +kernel
theorem dX12_isOfKind_126 : decode cX12_isOfKind 126 = .ok (.bipush 64, 2) := by decide +kernel
theorem dX12_isOfKind_128 : decode cX12_isOfKind 128 = .ok (.if_icmp .eq 26, 3) := by decide +kernel
theorem dX12_isOfKind_131 : decode cX12_isOfKind 131 = .ok (.lload_n 3, 1) := by decide +kernel
theorem dX12_isOfKind_132 : decode cX12_isOfKind 132 = .ok (.lconst 1, 1) := by decide +kernel
theorem dX12_isOfKind_133 : decode cX12_isOfKind 133 = .ok (.iload 5, 2) := by decide +kernel
theorem dX12_isOfKind_135 : decode cX12_isOfKind 135 = .ok (.iconst 1, 1) := by decide +kernel
theorem dX12_isOfKind_136 : decode cX12_isOfKind 136 = .ok (.isub, 1) := by decide +kernel
theorem dX12_isOfKind_137 : decode cX12_isOfKind 137 = .ok (.lshl, 1) := by decide +kernel
theorem dX12_isOfKind_138 : decode cX12_isOfKind 138 = .ok (.lneg, 1) := by decide +kernel
theorem dX12_isOfKind_139 : decode cX12_isOfKind 139 = .ok (.lcmp, 1) := by decide +kernel
theorem dX12_isOfKind_140 : decode cX12_isOfKind 140 = .ok (.ifCond .lt 18, 3) := by decide +kernel
theorem dX12_isOfKind_143 : decode cX12_isOfKind 143 = .ok (.lload_n 3, 1) := by decide +kernel
theorem dX12_isOfKind_144 : decode cX12_isOfKind 144 = .ok (.lconst 1, 1) := by decide +kernel
theorem dX12_isOfKind_145 : decode cX12_isOfKind 145 = .ok (.iload 5, 2) := by decide +kernel
theorem dX12_isOfKind_147 : decode cX12_isOfKind 147 = .ok (.iconst 1, 1) := by decide +kernel
theorem dX12_isOfKind_148 : decode cX12_isOfKind 148 = .ok (.isub, 1) := by decide +kernel
theorem dX12_isOfKind_149 : decode cX12_isOfKind 149 = .ok (.lshl, 1) := by decide +kernel
theorem dX12_isOfKind_150 : decode cX12_isOfKind 150 = .ok (.lcmp, 1) := by decide +kernel
theorem dX12_isOfKind_151 : decode cX12_isOfKind 151 = .ok (.ifCond .ge 7, 3) := by decide +kernel
theorem dX12_isOfKind_154 : decode cX12_isOfKind 154 = .ok (.iconst 1, 1) := by decide +kernel
theorem dX12_isOfKind_155 : decode cX12_isOfKind 155 = .ok (.goto 4, 3) := by decide +kernel
theorem dX12_isOfKind_158 : decode cX12_isOfKind 158 = .ok (.iconst 0, 1) := by decide +kernel
theorem dX12_isOfKind_159 : decode cX12_isOfKind 159 = .ok (.ireturn, 1) := by decide +kernel
theorem dX12_isPicture_0 : decode cX12_isPicture 0 = .ok (.iload_n 1, 1) := by decide +kernel
theorem dX12_isPicture_1 : decode cX12_isPicture 1 = .ok (.ifCond .lt 12, 3) := by decide +kernel
theorem dX12_isPicture_4 : decode cX12_isPicture 4 = .ok (.iload_n 1, 1) := by decide +kernel
theorem dX12_isPicture_5 : decode cX12_isPicture 5 = .ok (.iconst 4, 1) := by decide +kernel
theorem dX12_isPicture_6 : decode cX12_isPicture 6 = .ok (.if_icmp .ge 7, 3) := by decide +kernel
theorem dX12_isPicture_9 : decode cX12_isPicture 9 = .ok (.iconst 1, 1) := by decide +kernel
theorem dX12_isPicture_10 : decode cX12_isPicture 10 = .ok (.goto 4, 3) := by decide +kernel
theorem dX12_isPicture_13 : decode cX12_isPicture 13 = .ok (.iconst 0, 1) := by decide +kernel
theorem dX12_isPicture_14 : decode cX12_isPicture 14 = .ok (.ireturn, 1) := by decide +kernel
theorem dX12_isRuleName_0 : decode cX12_isRuleName 0 = .ok (.aload_n 0, 1) := by decide +kernel
theorem dX12_isRuleName_1 : decode cX12_isRuleName 1 = .ok (.invokevirtual 710, 3) := by decide +kernel
theorem dX12_isRuleName_4 : decode cX12_isRuleName 4 = .ok (.ifCond .eq 35, 3) := by decide +kernel
theorem dX12_isRuleName_7 : decode cX12_isRuleName 7 = .ok (.aload_n 0, 1) := by decide +kernel
theorem dX12_isRuleName_8 : decode cX12_isRuleName 8 = .ok (.getfield 640, 3) := by decide +kernel
theorem dX12_isRuleName_11 : decode cX12_isRuleName 11 = .ok (.ldc2_w 881, 3) := by decide +kernel
theorem dX12_isRuleName_14 : decode cX12_isRuleName 14 = .ok (.invokestatic 384, 3) := by decide +kernel
theorem dX12_isRuleName_17 : decode cX12_isRuleName 17 = .ok (.lcmp, 1) := by decide +kernel
theorem dX12_isRuleName_18 : decode cX12_isRuleName 18 = .ok (.ifCond .eq 21, 3) := by decide +kernel
theorem dX12_isRuleName_21 : decode cX12_isRuleName 21 = .ok (.aload_n 0, 1) := by decide +kernel
theorem dX12_isRuleName_22 : decode cX12_isRuleName 22 = .ok (.getfield 640, 3) := by decide +kernel
theorem dX12_isRuleName_25 : decode cX12_isRuleName 25 = .ok (.ldc2_w 883, 3) := by decide +kernel
theorem dX12_isRuleName_28 : decode cX12_isRuleName 28 = .ok (.invokestatic 384, 3) := by decide +kernel
theorem dX12_isRuleName_31 : decode cX12_isRuleName 31 = .ok (.lcmp, 1) := by decide +kernel
theorem dX12_isRuleName_32 : decode cX12_isRuleName 32 = .ok (.ifCond .eq 7, 3) := by decide +kernel
theorem dX12_isRuleName_35 : decode cX12_isRuleName 35 = .ok (.iconst 1, 1) := by decide +kernel
theorem dX12_isRuleName_36 : decode cX12_isRuleName 36 = .ok (.goto 4, 3) := by decide +kernel
theorem dX12_isRuleName_39 : decode cX12_isRuleName 39 = .ok (.iconst 0, 1) := by decide +kernel
theorem dX12_isRuleName_40 : decode cX12_isRuleName 40 = .ok (.ireturn, 1) := by decide +kernel
theorem dX12_isSign_0 : decode cX12_isSign 0 = .ok (.aload_n 0, 1) := by decide +kernel
theorem dX12_isSign_1 : decode cX12_isSign 1 = .ok (.getfield 644, 3) := by decide +kernel
theorem dX12_isSign_4 : decode cX12_isSign 4 = .ok (.iconst 3, 1) := by decide +kernel
theorem dX12_isSign_5 : decode cX12_isSign 5 = .ok (.if_icmp .ne 16, 3) := by decide +kernel
theorem dX12_isSign_8 : decode cX12_isSign 8 = .ok (.aload_n 0, 1) := by decide +kernel
theorem dX12_isSign_9 : decode cX12_isSign 9 = .ok (.getfield 640, 3) := by decide +kernel
theorem dX12_isSign_12 : decode cX12_isSign 12 = .ok (.lload_n 1, 1) := by decide +kernel
theorem dX12_isSign_13 : decode cX12_isSign 13 = .ok (.lcmp, 1) := by decide +kernel
theorem dX12_isSign_14 : decode cX12_isSign 14 = .ok (.ifCond .ne 7, 3) := by decide +kernel
theorem dX12_isSign_17 : decode cX12_isSign 17 = .ok (.iconst 1, 1) := by decide +kernel
theorem dX12_isSign_18 : decode cX12_isSign 18 = .ok (.goto 4, 3) := by decide +kernel
theorem dX12_isSign_21 : decode cX12_isSign 21 = .ok (.iconst 0, 1) := by decide +kernel
theorem dX12_isSign_22 : decode cX12_isSign 22 = .ok (.ireturn, 1) := by decide +kernel
theorem dX12_isThing_0 : decode cX12_isThing 0 = .ok (.aload_n 0, 1) := by decide +kernel
theorem dX12_isThing_1 : decode cX12_isThing 1 = .ok (.iload_n 1, 1) := by decide +kernel
theorem dX12_isThing_2 : decode cX12_isThing 2 = .ok (.invokevirtual 542, 3) := by decide +kernel
theorem dX12_isThing_5 : decode cX12_isThing 5 = .ok (.ifCond .eq 21, 3) := by decide +kernel
theorem dX12_isThing_8 : decode cX12_isThing 8 = .ok (.iload_n 2, 1) := by decide +kernel
theorem dX12_isThing_9 : decode cX12_isThing 9 = .ok (.ifCond .lt 17, 3) := by decide +kernel
theorem dX12_isThing_12 : decode cX12_isThing 12 = .ok (.iload_n 2, 1) := by decide +kernel
theorem dX12_isThing_13 : decode cX12_isThing 13 = .ok (.aload_n 0, 1) := by decide +kernel
theorem dX12_isThing_14 : decode cX12_isThing 14 = .ok (.getfield 183, 3) := by decide +kernel
theorem dX12_isThing_17 : decode cX12_isThing 17 = .ok (.iload_n 1, 1) := by decide +kernel
theorem dX12_isThing_18 : decode cX12_isThing 18 = .ok (.iaload, 1) := by decide +kernel
theorem dX12_isThing_19 : decode cX12_isThing 19 = .ok (.if_icmp .ge 7, 3) := by decide +kernel
theorem dX12_isThing_22 : decode cX12_isThing 22 = .ok (.iconst 1, 1) := by decide +kernel
theorem dX12_isThing_23 : decode cX12_isThing 23 = .ok (.goto 4, 3) := by decide +kernel
theorem dX12_isThing_26 : decode cX12_isThing 26 = .ok (.iconst 0, 1) := by decide +kernel
theorem dX12_isThing_27 : decode cX12_isThing 27 = .ok (.ireturn, 1) := by decide +kernel
theorem dX12_isTrueNow_0 : decode cX12_isTrueNow 0 = .ok (.aload_n 0, 1) := by decide +kernel
theorem dX12_isTrueNow_1 : decode cX12_isTrueNow 1 = .ok (.iconst 4, 1) := by decide +kernel
theorem dX12_isTrueNow_2 : decode cX12_isTrueNow 2 = .ok (.invokevirtual 865, 3) := by decide +kernel
theorem dX12_isTrueNow_5 : decode cX12_isTrueNow 5 = .ok (.aload_n 0, 1) := by decide +kernel
theorem dX12_isTrueNow_6 : decode cX12_isTrueNow 6 = .ok (.aload_n 0, 1) := by decide +kernel
theorem dX12_isTrueNow_7 : decode cX12_isTrueNow 7 = .ok (.getfield 309, 3) := by decide +kernel
theorem dX12_isTrueNow_10 : decode cX12_isTrueNow 10 = .ok (.iload_n 1, 1) := by decide +kernel
theorem dX12_isTrueNow_11 : decode cX12_isTrueNow 11 = .ok (.iaload, 1) := by decide +kernel
theorem dX12_isTrueNow_12 : decode cX12_isTrueNow 12 = .ok (.invokevirtual 829, 3) := by decide +kernel
theorem dX12_isTrueNow_15 : decode cX12_isTrueNow 15 = .ok (.aload_n 0, 1) := by decide +kernel
theorem dX12_isTrueNow_16 : decode cX12_isTrueNow 16 = .ok (.getfield 782, 3) := by decide +kernel
theorem dX12_isTrueNow_19 : decode cX12_isTrueNow 19 = .ok (.ifCond .ne 24, 3) := by decide +kernel
theorem dX12_isTrueNow_22 : decode cX12_isTrueNow 22 = .ok (.aload_n 0, 1) := by decide +kernel
theorem dX12_isTrueNow_23 : decode cX12_isTrueNow 23 = .ok (.getfield 785, 3) := by decide +kernel
theorem dX12_isTrueNow_26 : decode cX12_isTrueNow 26 = .ok (.iconst 1, 1) := by decide +kernel
theorem dX12_isTrueNow_27 : decode cX12_isTrueNow 27 = .ok (.if_icmp .ne 16, 3) := by decide +kernel
theorem dX12_isTrueNow_30 : decode cX12_isTrueNow 30 = .ok (.aload_n 0, 1) := by decide +kernel
theorem dX12_isTrueNow_31 : decode cX12_isTrueNow 31 = .ok (.getfield 788, 3) := by decide +kernel
theorem dX12_isTrueNow_34 : decode cX12_isTrueNow 34 = .ok (.lconst 1, 1) := by decide +kernel
theorem dX12_isTrueNow_35 : decode cX12_isTrueNow 35 = .ok (.lcmp, 1) := by decide +kernel
theorem dX12_isTrueNow_36 : decode cX12_isTrueNow 36 = .ok (.ifCond .ne 7, 3) := by decide +kernel
theorem dX12_isTrueNow_39 : decode cX12_isTrueNow 39 = .ok (.iconst 1, 1) := by decide +kernel
theorem dX12_isTrueNow_40 : decode cX12_isTrueNow 40 = .ok (.goto 4, 3) := by decide +kernel
theorem dX12_isTrueNow_43 : decode cX12_isTrueNow 43 = .ok (.iconst 0, 1) := by decide +kernel
theorem dX12_isTrueNow_44 : decode cX12_isTrueNow 44 = .ok (.ireturn, 1) := by decide +kernel
theorem dX12_isType_0 : decode cX12_isType 0 = .ok (.lload_n 1, 1) := by decide +kernel
theorem dX12_isType_1 : decode cX12_isType 1 = .ok (.lconst 0, 1) := by decide +kernel
theorem dX12_isType_2 : decode cX12_isType 2 = .ok (.lcmp, 1) := by decide +kernel
theorem dX12_isType_3 : decode cX12_isType 3 = .ok (.ifCond .lt 33, 3) := by decide +kernel
theorem dX12_isType_6 : decode cX12_isType 6 = .ok (.lload_n 1, 1) := by decide +kernel
theorem dX12_isType_7 : decode cX12_isType 7 = .ok (.ldc2_w 981, 3) := by decide +kernel
theorem dX12_isType_10 : decode cX12_isType 10 = .ok (.lcmp, 1) := by decide +kernel
theorem dX12_isType_11 : decode cX12_isType 11 = .ok (.ifCond .ge 25, 3) := by decide +kernel
theorem dX12_isType_14 : decode cX12_isType 14 = .ok (.aload_n 0, 1) := by decide +kernel
theorem dX12_isType_15 : decode cX12_isType 15 = .ok (.lload_n 1, 1) := by decide +kernel
theorem dX12_isType_16 : decode cX12_isType 16 = .ok (.l2i, 1) := by decide +kernel
theorem dX12_isType_17 : decode cX12_isType 17 = .ok (.invokevirtual 416, 3) := by decide +kernel
theorem dX12_isType_20 : decode cX12_isType 20 = .ok (.ifCond .ne 12, 3) := by decide +kernel
theorem dX12_isType_23 : decode cX12_isType 23 = .ok (.aload_n 0, 1) := by decide +kernel
theorem dX12_isType_24 : decode cX12_isType 24 = .ok (.lload_n 1, 1) := by decide +kernel
theorem dX12_isType_25 : decode cX12_isType 25 = .ok (.l2i, 1) := by decide +kernel
theorem dX12_isType_26 : decode cX12_isType 26 = .ok (.invokevirtual 464, 3) := by decide +kernel
theorem dX12_isType_29 : decode cX12_isType 29 = .ok (.ifCond .eq 7, 3) := by decide +kernel
theorem dX12_isType_32 : decode cX12_isType 32 = .ok (.iconst 1, 1) := by decide +kernel
theorem dX12_isType_33 : decode cX12_isType 33 = .ok (.goto 4, 3) := by decide +kernel
theorem dX12_isType_36 : decode cX12_isType 36 = .ok (.iconst 0, 1) := by decide +kernel
theorem dX12_isType_37 : decode cX12_isType 37 = .ok (.ireturn, 1) := by decide +kernel
theorem dX12_join_0 : decode cX12_join 0 = .ok (.aload_n 0, 1) := by decide +kernel
theorem dX12_join_1 : decode cX12_join 1 = .ok (.getfield 363, 3) := by decide +kernel
theorem dX12_join_4 : decode cX12_join 4 = .ok (.aload_n 0, 1) := by decide +kernel
theorem dX12_join_5 : decode cX12_join 5 = .ok (.getfield 330, 3) := by decide +kernel
theorem dX12_join_8 : decode cX12_join 8 = .ok (.iload_n 1, 1) := by decide +kernel
theorem dX12_join_9 : decode cX12_join 9 = .ok (.iaload, 1) := by decide +kernel
theorem dX12_join_10 : decode cX12_join 10 = .ok (.baload, 1) := by decide +kernel
theorem dX12_join_11 : decode cX12_join 11 = .ok (.ifCond .eq 31, 3) := by decide +kernel
theorem dX12_join_14 : decode cX12_join 14 = .ok (.aload_n 0, 1) := by decide +kernel
theorem dX12_join_15 : decode cX12_join 15 = .ok (.getfield 333, 3) := by decide +kernel
theorem dX12_join_18 : decode cX12_join 18 = .ok (.iload_n 1, 1) := by decide +kernel
theorem dX12_join_19 : decode cX12_join 19 = .ok (.iaload, 1) := by decide +kernel
theorem dX12_join_20 : decode cX12_join 20 = .ok (.iconst (-1), 1) := by decide +kernel
theorem dX12_join_21 : decode cX12_join 21 = .ok (.if_icmp .eq 17, 3) := by decide +kernel
theorem dX12_join_24 : decode cX12_join 24 = .ok (.aload_n 0, 1) := by decide +kernel
theorem dX12_join_25 : decode cX12_join 25 = .ok (.getfield 363, 3) := by decide +kernel
theorem dX12_join_28 : decode cX12_join 28 = .ok (.aload_n 0, 1) := by decide +kernel
theorem dX12_join_29 : decode cX12_join 29 = .ok (.getfield 333, 3) := by decide +kernel
theorem dX12_join_32 : decode cX12_join 32 = .ok (.iload_n 1, 1) := by decide +kernel
theorem dX12_join_33 : decode cX12_join 33 = .ok (.iaload, 1) := by decide +kernel
theorem dX12_join_34 : decode cX12_join 34 = .ok (.baload, 1) := by decide +kernel
theorem dX12_join_35 : decode cX12_join 35 = .ok (.ifCond .eq 7, 3) := by decide +kernel
theorem dX12_join_38 : decode cX12_join 38 = .ok (.iconst 1, 1) := by decide +kernel
theorem dX12_join_39 : decode cX12_join 39 = .ok (.goto 4, 3) := by decide +kernel
theorem dX12_join_42 : decode cX12_join 42 = .ok (.iconst 0, 1) := by decide +kernel
theorem dX12_join_43 : decode cX12_join 43 = .ok (.istore_n 3, 1) := by decide +kernel
theorem dX12_join_44 : decode cX12_join 44 = .ok (.iload_n 3, 1) := by decide +kernel
theorem dX12_join_45 : decode cX12_join 45 = .ok (.ifCond .eq 54, 3) := by decide +kernel
theorem dX12_join_48 : decode cX12_join 48 = .ok (.aload_n 0, 1) := by decide +kernel
theorem dX12_join_49 : decode cX12_join 49 = .ok (.aload_n 0, 1) := by decide +kernel
theorem dX12_join_50 : decode cX12_join 50 = .ok (.getfield 327, 3) := by decide +kernel
theorem dX12_join_53 : decode cX12_join 53 = .ok (.iload_n 1, 1) := by decide +kernel
theorem dX12_join_54 : decode cX12_join 54 = .ok (.iaload, 1) := by decide +kernel
theorem dX12_join_55 : decode cX12_join 55 = .ok (.aload_n 0, 1) := by decide +kernel
theorem dX12_join_56 : decode cX12_join 56 = .ok (.getfield 354, 3) := by decide +kernel
theorem dX12_join_59 : decode cX12_join 59 = .ok (.aload_n 0, 1) := by decide +kernel
theorem dX12_join_60 : decode cX12_join 60 = .ok (.getfield 330, 3) := by decide +kernel
theorem dX12_join_63 : decode cX12_join 63 = .ok (.iload_n 1, 1) := by decide +kernel
theorem dX12_join_64 : decode cX12_join 64 = .ok (.iaload, 1) := by decide +kernel
theorem dX12_join_65 : decode cX12_join 65 = .ok (.iaload, 1) := by decide +kernel
theorem dX12_join_66 : decode cX12_join 66 = .ok (.aload_n 0, 1) := by decide +kernel
theorem dX12_join_67 : decode cX12_join 67 = .ok (.getfield 333, 3) := by decide +kernel
theorem dX12_join_70 : decode cX12_join 70 = .ok (.iload_n 1, 1) := by decide +kernel
theorem dX12_join_71 : decode cX12_join 71 = .ok (.iaload, 1) := by decide +kernel
theorem dX12_join_72 : decode cX12_join 72 = .ok (.iconst (-1), 1) := by decide +kernel
theorem dX12_join_73 : decode cX12_join 73 = .ok (.if_icmp .ne 7, 3) := by decide +kernel
theorem dX12_join_76 : decode cX12_join 76 = .ok (.iconst 0, 1) := by decide +kernel
theorem dX12_join_77 : decode cX12_join 77 = .ok (.goto 14, 3) := by decide +kernel
theorem dX12_join_80 : decode cX12_join 80 = .ok (.aload_n 0, 1) := by decide +kernel
theorem dX12_join_81 : decode cX12_join 81 = .ok (.getfield 354, 3) := by decide +kernel
theorem dX12_join_84 : decode cX12_join 84 = .ok (.aload_n 0, 1) := by decide +kernel
theorem dX12_join_85 : decode cX12_join 85 = .ok (.getfield 333, 3) := by decide +kernel
theorem dX12_join_88 : decode cX12_join 88 = .ok (.iload_n 1, 1) := by decide +kernel
theorem dX12_join_89 : decode cX12_join 89 = .ok (.iaload, 1) := by decide +kernel
theorem dX12_join_90 : decode cX12_join 90 = .ok (.iaload, 1) := by decide +kernel
theorem dX12_join_91 : decode cX12_join 91 = .ok (.invokevirtual 930, 3) := by decide +kernel
theorem dX12_join_94 : decode cX12_join 94 = .ok (.ifCond .eq 5, 3) := by decide +kernel
theorem dX12_join_97 : decode cX12_join 97 = .ok (.iconst 1, 1) := by decide +kernel
theorem dX12_join_98 : decode cX12_join 98 = .ok (.ireturn, 1) := by decide +kernel
theorem dX12_join_99 : decode cX12_join 99 = .ok (.iload_n 2, 1) := by decide +kernel
theorem dX12_join_100 : decode cX12_join 100 = .ok (.aload_n 0, 1) := by decide +kernel
theorem dX12_join_101 : decode cX12_join 101 = .ok (.getfield 336, 3) := by decide +kernel
theorem dX12_join_104 : decode cX12_join 104 = .ok (.iload_n 1, 1) := by decide +kernel
theorem dX12_join_105 : decode cX12_join 105 = .ok (.iaload, 1) := by decide +kernel
theorem dX12_join_106 : decode cX12_join 106 = .ok (.if_icmp .ne 98, 3) := by decide +kernel
theorem dX12_join_109 : decode cX12_join 109 = .ok (.aload_n 0, 1) := by decide +kernel
theorem dX12_join_110 : decode cX12_join 110 = .ok (.getfield 324, 3) := by decide +kernel
theorem dX12_join_113 : decode cX12_join 113 = .ok (.aload_n 0, 1) := by decide +kernel
theorem dX12_join_114 : decode cX12_join 114 = .ok (.getfield 327, 3) := by decide +kernel
theorem dX12_join_117 : decode cX12_join 117 = .ok (.iload_n 1, 1) := by decide +kernel
theorem dX12_join_118 : decode cX12_join 118 = .ok (.iaload, 1) := by decide +kernel
theorem dX12_join_119 : decode cX12_join 119 = .ok (.iaload, 1) := by decide +kernel
theorem dX12_join_120 : decode cX12_join 120 = .ok (.iconst 2, 1) := by decide +kernel
theorem dX12_join_121 : decode cX12_join 121 = .ok (.if_icmp .ne 49, 3) := by decide +kernel
theorem dX12_join_124 : decode cX12_join 124 = .ok (.aload_n 0, 1) := by decide +kernel
theorem dX12_join_125 : decode cX12_join 125 = .ok (.getfield 360, 3) := by decide +kernel
theorem dX12_join_128 : decode cX12_join 128 = .ok (.sipush 1600, 3) := by decide +kernel
theorem dX12_join_131 : decode cX12_join 131 = .ok (.aload_n 0, 1) := by decide +kernel
theorem dX12_join_132 : decode cX12_join 132 = .ok (.getfield 327, 3) := by decide +kernel
theorem dX12_join_135 : decode cX12_join 135 = .ok (.iload_n 1, 1) := by decide +kernel
theorem dX12_join_136 : decode cX12_join 136 = .ok (.iaload, 1) := by decide +kernel
theorem dX12_join_137 : decode cX12_join 137 = .ok (.imul, 1) := by decide +kernel
theorem dX12_join_138 : decode cX12_join 138 = .ok (.bipush 40, 2) := by decide +kernel
theorem dX12_join_140 : decode cX12_join 140 = .ok (.aload_n 0, 1) := by decide +kernel
theorem dX12_join_141 : decode cX12_join 141 = .ok (.getfield 354, 3) := by decide +kernel
theorem dX12_join_144 : decode cX12_join 144 = .ok (.aload_n 0, 1) := by decide +kernel
theorem dX12_join_145 : decode cX12_join 145 = .ok (.getfield 330, 3) := by decide +kernel
theorem dX12_join_148 : decode cX12_join 148 = .ok (.iload_n 1, 1) := by decide +kernel
theorem dX12_join_149 : decode cX12_join 149 = .ok (.iaload, 1) := by decide +kernel
theorem dX12_join_150 : decode cX12_join 150 = .ok (.iaload, 1) := by decide +kernel
theorem dX12_join_151 : decode cX12_join 151 = .ok (.imul, 1) := by decide +kernel
theorem dX12_join_152 : decode cX12_join 152 = .ok (.iadd, 1) := by decide +kernel
theorem dX12_join_153 : decode cX12_join 153 = .ok (.aload_n 0, 1) := by decide +kernel
theorem dX12_join_154 : decode cX12_join 154 = .ok (.getfield 354, 3) := by decide +kernel
theorem dX12_join_157 : decode cX12_join 157 = .ok (.aload_n 0, 1) := by decide +kernel
theorem dX12_join_158 : decode cX12_join 158 = .ok (.getfield 333, 3) := by decide +kernel
theorem dX12_join_161 : decode cX12_join 161 = .ok (.iload_n 1, 1) := by decide +kernel
theorem dX12_join_162 : decode cX12_join 162 = .ok (.iaload, 1) := by decide +kernel
theorem dX12_join_163 : decode cX12_join 163 = .ok (.iaload, 1) := by decide +kernel
theorem dX12_join_164 : decode cX12_join 164 = .ok (.iadd, 1) := by decide +kernel
theorem dX12_join_165 : decode cX12_join 165 = .ok (.iconst 1, 1) := by decide +kernel
theorem dX12_join_166 : decode cX12_join 166 = .ok (.bastore, 1) := by decide +kernel
theorem dX12_join_167 : decode cX12_join 167 = .ok (.goto 30, 3) := by decide +kernel
theorem dX12_join_170 : decode cX12_join 170 = .ok (.aload_n 0, 1) := by decide +kernel
theorem dX12_join_171 : decode cX12_join 171 = .ok (.getfield 357, 3) := by decide +kernel
theorem dX12_join_174 : decode cX12_join 174 = .ok (.bipush 40, 2) := by decide +kernel
theorem dX12_join_176 : decode cX12_join 176 = .ok (.aload_n 0, 1) := by decide +kernel
theorem dX12_join_177 : decode cX12_join 177 = .ok (.getfield 327, 3) := by decide +kernel
theorem dX12_join_180 : decode cX12_join 180 = .ok (.iload_n 1, 1) := by decide +kernel
theorem dX12_join_181 : decode cX12_join 181 = .ok (.iaload, 1) := by decide +kernel
theorem dX12_join_182 : decode cX12_join 182 = .ok (.imul, 1) := by decide +kernel
theorem dX12_join_183 : decode cX12_join 183 = .ok (.aload_n 0, 1) := by decide +kernel
theorem dX12_join_184 : decode cX12_join 184 = .ok (.getfield 354, 3) := by decide +kernel
theorem dX12_join_187 : decode cX12_join 187 = .ok (.aload_n 0, 1) := by decide +kernel
theorem dX12_join_188 : decode cX12_join 188 = .ok (.getfield 330, 3) := by decide +kernel
theorem dX12_join_191 : decode cX12_join 191 = .ok (.iload_n 1, 1) := by decide +kernel
theorem dX12_join_192 : decode cX12_join 192 = .ok (.iaload, 1) := by decide +kernel
theorem dX12_join_193 : decode cX12_join 193 = .ok (.iaload, 1) := by decide +kernel
theorem dX12_join_194 : decode cX12_join 194 = .ok (.iadd, 1) := by decide +kernel
theorem dX12_join_195 : decode cX12_join 195 = .ok (.iconst 1, 1) := by decide +kernel
theorem dX12_join_196 : decode cX12_join 196 = .ok (.bastore, 1) := by decide +kernel
theorem dX12_join_197 : decode cX12_join 197 = .ok (.aload_n 0, 1) := by decide +kernel
theorem dX12_join_198 : decode cX12_join 198 = .ok (.iconst 1, 1) := by decide +kernel
theorem dX12_join_199 : decode cX12_join 199 = .ok (.putfield 933, 3) := by decide +kernel
theorem dX12_join_202 : decode cX12_join 202 = .ok (.iconst 1, 1) := by decide +kernel
theorem dX12_join_203 : decode cX12_join 203 = .ok (.ireturn, 1) := by decide +kernel
theorem dX12_join_204 : decode cX12_join 204 = .ok (.iconst 4, 1) := by decide +kernel
theorem dX12_join_205 : decode cX12_join 205 = .ok (.iload_n 1, 1) := by decide +kernel
theorem dX12_join_206 : decode cX12_join 206 = .ok (.imul, 1) := by decide +kernel
theorem dX12_join_207 : decode cX12_join 207 = .ok (.iload_n 2, 1) := by decide +kernel
theorem dX12_join_208 : decode cX12_join 208 = .ok (.iadd, 1) := by decide +kernel
theorem dX12_join_209 : decode cX12_join 209 = .ok (.istore 4, 2) := by decide +kernel
theorem dX12_join_211 : decode cX12_join 211 = .ok (.aload_n 0, 1) := by decide +kernel
theorem dX12_join_212 : decode cX12_join 212 = .ok (.getfield 345, 3) := by decide +kernel
theorem dX12_join_215 : decode cX12_join 215 = .ok (.iload 4, 2) := by decide +kernel
theorem dX12_join_217 : decode cX12_join 217 = .ok (.iaload, 1) := by decide +kernel
theorem dX12_join_218 : decode cX12_join 218 = .ok (.istore 5, 2) := by decide +kernel
theorem dX12_join_220 : decode cX12_join 220 = .ok (.aload_n 0, 1) := by decide +kernel
theorem dX12_join_221 : decode cX12_join 221 = .ok (.getfield 348, 3) := by decide +kernel
theorem dX12_join_224 : decode cX12_join 224 = .ok (.iload 4, 2) := by decide +kernel
theorem dX12_join_226 : decode cX12_join 226 = .ok (.iaload, 1) := by decide +kernel
theorem dX12_join_227 : decode cX12_join 227 = .ok (.istore 6, 2) := by decide +kernel
theorem dX12_join_229 : decode cX12_join 229 = .ok (.aload_n 0, 1) := by decide +kernel
theorem dX12_join_230 : decode cX12_join 230 = .ok (.getfield 363, 3) := by decide +kernel
theorem dX12_join_233 : decode cX12_join 233 = .ok (.iload 5, 2) := by decide +kernel
theorem dX12_join_235 : decode cX12_join 235 = .ok (.baload, 1) := by decide +kernel
theorem dX12_join_236 : decode cX12_join 236 = .ok (.istore 7, 2) := by decide +kernel
theorem dX12_join_238 : decode cX12_join 238 = .ok (.iload 6, 2) := by decide +kernel
theorem dX12_join_240 : decode cX12_join 240 = .ok (.iconst (-1), 1) := by decide +kernel
theorem dX12_join_241 : decode cX12_join 241 = .ok (.if_icmp .eq 13, 3) := by decide +kernel
theorem dX12_join_244 : decode cX12_join 244 = .ok (.aload_n 0, 1) := by decide +kernel
theorem dX12_join_245 : decode cX12_join 245 = .ok (.getfield 363, 3) := by decide +kernel
theorem dX12_join_248 : decode cX12_join 248 = .ok (.iload 6, 2) := by decide +kernel
theorem dX12_join_250 : decode cX12_join 250 = .ok (.baload, 1) := by decide +kernel
theorem dX12_join_251 : decode cX12_join 251 = .ok (.ifCond .eq 7, 3) := by decide +kernel
theorem dX12_join_254 : decode cX12_join 254 = .ok (.iconst 1, 1) := by decide +kernel
theorem dX12_join_255 : decode cX12_join 255 = .ok (.goto 4, 3) := by decide +kernel
theorem dX12_join_258 : decode cX12_join 258 = .ok (.iconst 0, 1) := by decide +kernel
theorem dX12_join_259 : decode cX12_join 259 = .ok (.istore 8, 2) := by decide +kernel
theorem dX12_join_261 : decode cX12_join 261 = .ok (.iconst 0, 1) := by decide +kernel
theorem dX12_join_262 : decode cX12_join 262 = .ok (.istore 9, 2) := by decide +kernel
theorem dX12_join_264 : decode cX12_join 264 = .ok (.iload 7, 2) := by decide +kernel
theorem dX12_join_266 : decode cX12_join 266 = .ok (.ifCond .eq 13, 3) := by decide +kernel
theorem dX12_join_269 : decode cX12_join 269 = .ok (.aload_n 0, 1) := by decide +kernel
theorem dX12_join_270 : decode cX12_join 270 = .ok (.getfield 354, 3) := by decide +kernel
theorem dX12_join_273 : decode cX12_join 273 = .ok (.iload 5, 2) := by decide +kernel
theorem dX12_join_275 : decode cX12_join 275 = .ok (.iaload, 1) := by decide +kernel
theorem dX12_join_276 : decode cX12_join 276 = .ok (.goto 4, 3) := by decide +kernel
theorem dX12_join_279 : decode cX12_join 279 = .ok (.iconst 0, 1) := by decide +kernel
theorem dX12_join_280 : decode cX12_join 280 = .ok (.istore 10, 2) := by decide +kernel
theorem dX12_join_282 : decode cX12_join 282 = .ok (.iload 10, 2) := by decide +kernel
theorem dX12_join_284 : decode cX12_join 284 = .ok (.iload 7, 2) := by decide +kernel
theorem dX12_join_286 : decode cX12_join 286 = .ok (.ifCond .eq 15, 3) := by decide +kernel
theorem dX12_join_289 : decode cX12_join 289 = .ok (.aload_n 0, 1) := by decide +kernel
theorem dX12_join_290 : decode cX12_join 290 = .ok (.getfield 354, 3) := by decide +kernel
theorem dX12_join_293 : decode cX12_join 293 = .ok (.iload 5, 2) := by decide +kernel
theorem dX12_join_295 : decode cX12_join 295 = .ok (.iaload, 1) := by decide +kernel
theorem dX12_join_296 : decode cX12_join 296 = .ok (.iconst 1, 1) := by decide +kernel
theorem dX12_join_297 : decode cX12_join 297 = .ok (.iadd, 1) := by decide +kernel
theorem dX12_join_298 : decode cX12_join 298 = .ok (.goto 12, 3) := by decide +kernel
theorem dX12_join_301 : decode cX12_join 301 = .ok (.aload_n 0, 1) := by decide +kernel
theorem dX12_join_302 : decode cX12_join 302 = .ok (.getfield 183, 3) := by decide +kernel
theorem dX12_join_305 : decode cX12_join 305 = .ok (.aload_n 0, 1) := by decide +kernel
theorem dX12_join_306 : decode cX12_join 306 = .ok (.getfield 826, 3) := by decide +kernel
theorem dX12_join_309 : decode cX12_join 309 = .ok (.iaload, 1) := by decide +kernel
theorem dX12_join_310 : decode cX12_join 310 = .ok (.if_icmp .ge 227, 3) := by decide +kernel
theorem dX12_join_313 : decode cX12_join 313 = .ok (.iload 9, 2) := by decide +kernel
theorem dX12_join_315 : decode cX12_join 315 = .ok (.ifCond .eq 7, 3) := by decide +kernel
theorem dX12_join_318 : decode cX12_join 318 = .ok (.iload_n 3, 1) := by decide +kernel
theorem dX12_join_319 : decode cX12_join 319 = .ok (.ifCond .ne 218, 3) := by decide +kernel
theorem dX12_join_322 : decode cX12_join 322 = .ok (.aload_n 0, 1) := by decide +kernel
theorem dX12_join_323 : decode cX12_join 323 = .ok (.getfield 354, 3) := by decide +kernel
theorem dX12_join_326 : decode cX12_join 326 = .ok (.iload 5, 2) := by decide +kernel
theorem dX12_join_328 : decode cX12_join 328 = .ok (.iload 10, 2) := by decide +kernel
theorem dX12_join_330 : decode cX12_join 330 = .ok (.iastore, 1) := by decide +kernel
theorem dX12_join_331 : decode cX12_join 331 = .ok (.aload_n 0, 1) := by decide +kernel
theorem dX12_join_332 : decode cX12_join 332 = .ok (.getfield 363, 3) := by decide +kernel
theorem dX12_join_335 : decode cX12_join 335 = .ok (.iload 5, 2) := by decide +kernel
theorem dX12_join_337 : decode cX12_join 337 = .ok (.iconst 1, 1) := by decide +kernel
theorem dX12_join_338 : decode cX12_join 338 = .ok (.bastore, 1) := by decide +kernel
theorem dX12_join_339 : decode cX12_join 339 = .ok (.iload 6, 2) := by decide +kernel
theorem dX12_join_341 : decode cX12_join 341 = .ok (.iconst (-1), 1) := by decide +kernel
theorem dX12_join_342 : decode cX12_join 342 = .ok (.if_icmp .eq 13, 3) := by decide +kernel
theorem dX12_join_345 : decode cX12_join 345 = .ok (.aload_n 0, 1) := by decide +kernel
theorem dX12_join_346 : decode cX12_join 346 = .ok (.getfield 363, 3) := by decide +kernel
theorem dX12_join_349 : decode cX12_join 349 = .ok (.iload 6, 2) := by decide +kernel
theorem dX12_join_351 : decode cX12_join 351 = .ok (.baload, 1) := by decide +kernel
theorem dX12_join_352 : decode cX12_join 352 = .ok (.ifCond .eq 7, 3) := by decide +kernel
theorem dX12_join_355 : decode cX12_join 355 = .ok (.iconst 1, 1) := by decide +kernel
theorem dX12_join_356 : decode cX12_join 356 = .ok (.goto 4, 3) := by decide +kernel
theorem dX12_join_359 : decode cX12_join 359 = .ok (.iconst 0, 1) := by decide +kernel
theorem dX12_join_360 : decode cX12_join 360 = .ok (.istore 11, 2) := by decide +kernel
theorem dX12_join_362 : decode cX12_join 362 = .ok (.iload 11, 2) := by decide +kernel
theorem dX12_join_364 : decode cX12_join 364 = .ok (.ifCond .eq 23, 3) := by decide +kernel
theorem dX12_join_367 : decode cX12_join 367 = .ok (.iload 6, 2) := by decide +kernel
theorem dX12_join_369 : decode cX12_join 369 = .ok (.iconst (-1), 1) := by decide +kernel
theorem dX12_join_370 : decode cX12_join 370 = .ok (.if_icmp .ne 7, 3) := by decide +kernel
theorem dX12_join_373 : decode cX12_join 373 = .ok (.iconst 0, 1) := by decide +kernel
theorem dX12_join_374 : decode cX12_join 374 = .ok (.goto 14, 3) := by decide +kernel
theorem dX12_join_377 : decode cX12_join 377 = .ok (.aload_n 0, 1) := by decide +kernel
theorem dX12_join_378 : decode cX12_join 378 = .ok (.getfield 354, 3) := by decide +kernel
theorem dX12_join_381 : decode cX12_join 381 = .ok (.iload 6, 2) := by decide +kernel
theorem dX12_join_383 : decode cX12_join 383 = .ok (.iaload, 1) := by decide +kernel
theorem dX12_join_384 : decode cX12_join 384 = .ok (.goto 4, 3) := by decide +kernel
theorem dX12_join_387 : decode cX12_join 387 = .ok (.iconst 0, 1) := by decide +kernel
theorem dX12_join_388 : decode cX12_join 388 = .ok (.istore 12, 2) := by decide +kernel
theorem dX12_join_390 : decode cX12_join 390 = .ok (.iload 12, 2) := by decide +kernel
theorem dX12_join_392 : decode cX12_join 392 = .ok (.iload 11, 2) := by decide +kernel
theorem dX12_join_394 : decode cX12_join 394 = .ok (.ifCond .eq 25, 3) := by decide +kernel
theorem dX12_join_397 : decode cX12_join 397 = .ok (.iload 6, 2) := by decide +kernel
theorem dX12_join_399 : decode cX12_join 399 = .ok (.iconst (-1), 1) := by decide +kernel
theorem dX12_join_400 : decode cX12_join 400 = .ok (.if_icmp .ne 7, 3) := by decide +kernel
theorem dX12_join_403 : decode cX12_join 403 = .ok (.iconst 0, 1) := by decide +kernel
theorem dX12_join_404 : decode cX12_join 404 = .ok (.goto 10, 3) := by decide +kernel
theorem dX12_join_407 : decode cX12_join 407 = .ok (.aload_n 0, 1) := by decide +kernel
theorem dX12_join_408 : decode cX12_join 408 = .ok (.getfield 354, 3) := by decide +kernel
theorem dX12_join_411 : decode cX12_join 411 = .ok (.iload 6, 2) := by decide +kernel
theorem dX12_join_413 : decode cX12_join 413 = .ok (.iaload, 1) := by decide +kernel
theorem dX12_join_414 : decode cX12_join 414 = .ok (.iconst 1, 1) := by decide +kernel
theorem dX12_join_415 : decode cX12_join 415 = .ok (.iadd, 1) := by decide +kernel
theorem dX12_join_416 : decode cX12_join 416 = .ok (.goto 12, 3) := by decide +kernel
theorem dX12_join_419 : decode cX12_join 419 = .ok (.aload_n 0, 1) := by decide +kernel
theorem dX12_join_420 : decode cX12_join 420 = .ok (.getfield 183, 3) := by decide +kernel
theorem dX12_join_423 : decode cX12_join 423 = .ok (.aload_n 0, 1) := by decide +kernel
theorem dX12_join_424 : decode cX12_join 424 = .ok (.getfield 826, 3) := by decide +kernel
theorem dX12_join_427 : decode cX12_join 427 = .ok (.iaload, 1) := by decide +kernel
theorem dX12_join_428 : decode cX12_join 428 = .ok (.if_icmp .ge 90, 3) := by decide +kernel
theorem dX12_join_431 : decode cX12_join 431 = .ok (.iload 9, 2) := by decide +kernel
theorem dX12_join_433 : decode cX12_join 433 = .ok (.ifCond .eq 7, 3) := by decide +kernel
theorem dX12_join_436 : decode cX12_join 436 = .ok (.iload_n 3, 1) := by decide +kernel
theorem dX12_join_437 : decode cX12_join 437 = .ok (.ifCond .ne 81, 3) := by decide +kernel
theorem dX12_join_440 : decode cX12_join 440 = .ok (.iload 6, 2) := by decide +kernel
theorem dX12_join_442 : decode cX12_join 442 = .ok (.iconst (-1), 1) := by decide +kernel
theorem dX12_join_443 : decode cX12_join 443 = .ok (.if_icmp .eq 20, 3) := by decide +kernel
theorem dX12_join_446 : decode cX12_join 446 = .ok (.aload_n 0, 1) := by decide +kernel
theorem dX12_join_447 : decode cX12_join 447 = .ok (.getfield 354, 3) := by decide +kernel
theorem dX12_join_450 : decode cX12_join 450 = .ok (.iload 6, 2) := by decide +kernel
theorem dX12_join_452 : decode cX12_join 452 = .ok (.iload 12, 2) := by decide +kernel
theorem dX12_join_454 : decode cX12_join 454 = .ok (.iastore, 1) := by decide +kernel
theorem dX12_join_455 : decode cX12_join 455 = .ok (.aload_n 0, 1) := by decide +kernel
theorem dX12_join_456 : decode cX12_join 456 = .ok (.getfield 363, 3) := by decide +kernel
theorem dX12_join_459 : decode cX12_join 459 = .ok (.iload 6, 2) := by decide +kernel
theorem dX12_join_461 : decode cX12_join 461 = .ok (.iconst 1, 1) := by decide +kernel
theorem dX12_join_462 : decode cX12_join 462 = .ok (.bastore, 1) := by decide +kernel
theorem dX12_join_463 : decode cX12_join 463 = .ok (.aload_n 0, 1) := by decide +kernel
theorem dX12_join_464 : decode cX12_join 464 = .ok (.iload 4, 2) := by decide +kernel
theorem dX12_join_466 : decode cX12_join 466 = .ok (.iload 10, 2) := by decide +kernel
theorem dX12_join_468 : decode cX12_join 468 = .ok (.iload 12, 2) := by decide +kernel
theorem dX12_join_470 : decode cX12_join 470 = .ok (.invokevirtual 936, 3) := by decide +kernel
theorem dX12_join_473 : decode cX12_join 473 = .ok (.ifCond .eq 26, 3) := by decide +kernel
theorem dX12_join_476 : decode cX12_join 476 = .ok (.aload_n 0, 1) := by decide +kernel
theorem dX12_join_477 : decode cX12_join 477 = .ok (.iload_n 1, 1) := by decide +kernel
theorem dX12_join_478 : decode cX12_join 478 = .ok (.iload_n 2, 1) := by decide +kernel
theorem dX12_join_479 : decode cX12_join 479 = .ok (.iconst 1, 1) := by decide +kernel
theorem dX12_join_480 : decode cX12_join 480 = .ok (.iadd, 1) := by decide +kernel
theorem dX12_join_481 : decode cX12_join 481 = .ok (.invokevirtual 939, 3) := by decide +kernel
theorem dX12_join_484 : decode cX12_join 484 = .ok (.ifCond .ne 8, 3) := by decide +kernel
theorem dX12_join_487 : decode cX12_join 487 = .ok (.iload 9, 2) := by decide +kernel
theorem dX12_join_489 : decode cX12_join 489 = .ok (.ifCond .eq 7, 3) := by decide +kernel
theorem dX12_join_492 : decode cX12_join 492 = .ok (.iconst 1, 1) := by decide +kernel
theorem dX12_join_493 : decode cX12_join 493 = .ok (.goto 4, 3) := by decide +kernel
theorem dX12_join_496 : decode cX12_join 496 = .ok (.iconst 0, 1) := by decide +kernel
theorem dX12_join_497 : decode cX12_join 497 = .ok (.istore 9, 2) := by decide +kernel
theorem dX12_join_499 : decode cX12_join 499 = .ok (.iload 11, 2) := by decide +kernel
theorem dX12_join_501 : decode cX12_join 501 = .ok (.ifCond .ne 11, 3) := by decide +kernel
theorem dX12_join_504 : decode cX12_join 504 = .ok (.aload_n 0, 1) := by decide +kernel
theorem dX12_join_505 : decode cX12_join 505 = .ok (.getfield 363, 3) := by decide +kernel
theorem dX12_join_508 : decode cX12_join 508 = .ok (.iload 6, 2) := by decide +kernel
theorem dX12_join_510 : decode cX12_join 510 = .ok (.iconst 0, 1) := by decide +kernel
theorem dX12_join_511 : decode cX12_join 511 = .ok (.bastore, 1) := by decide +kernel
theorem dX12_join_512 : decode cX12_join 512 = .ok (.iinc 12 1, 3) := by decide +kernel
theorem dX12_join_515 : decode cX12_join 515 = .ok (.goto (-125), 3) := by decide +kernel
theorem dX12_join_518 : decode cX12_join 518 = .ok (.iload 7, 2) := by decide +kernel
theorem dX12_join_520 : decode cX12_join 520 = .ok (.ifCond .ne 11, 3) := by decide +kernel
theorem dX12_join_523 : decode cX12_join 523 = .ok (.aload_n 0, 1) := by decide +kernel
theorem dX12_join_524 : decode cX12_join 524 = .ok (.getfield 363, 3) := by decide +kernel
theorem dX12_join_527 : decode cX12_join 527 = .ok (.iload 5, 2) := by decide +kernel
theorem dX12_join_529 : decode cX12_join 529 = .ok (.iconst 0, 1) := by decide +kernel
theorem dX12_join_530 : decode cX12_join 530 = .ok (.bastore, 1) := by decide +kernel
theorem dX12_join_531 : decode cX12_join 531 = .ok (.iinc 10 1, 3) := by decide +kernel
theorem dX12_join_534 : decode cX12_join 534 = .ok (.goto (-252), 3) := by decide +kernel
theorem dX12_join_537 : decode cX12_join 537 = .ok (.iload 8, 2) := by decide +kernel
theorem dX12_join_539 : decode cX12_join 539 = .ok (.ifCond .ne 11, 3) := by decide +kernel
theorem dX12_join_542 : decode cX12_join 542 = .ok (.aload_n 0, 1) := by decide +kernel
theorem dX12_join_543 : decode cX12_join 543 = .ok (.getfield 363, 3) := by decide +kernel
theorem dX12_join_546 : decode cX12_join 546 = .ok (.iload 6, 2) := by decide +kernel
theorem dX12_join_548 : decode cX12_join 548 = .ok (.iconst 0, 1) := by decide +kernel
theorem dX12_join_549 : decode cX12_join 549 = .ok (.bastore, 1) := by decide +kernel
theorem dX12_join_550 : decode cX12_join 550 = .ok (.iload 7, 2) := by decide +kernel
theorem dX12_join_552 : decode cX12_join 552 = .ok (.ifCond .ne 11, 3) := by decide +kernel
theorem dX12_join_555 : decode cX12_join 555 = .ok (.aload_n 0, 1) := by decide +kernel
theorem dX12_join_556 : decode cX12_join 556 = .ok (.getfield 363, 3) := by decide +kernel
theorem dX12_join_559 : decode cX12_join 559 = .ok (.iload 5, 2) := by decide +kernel
theorem dX12_join_561 : decode cX12_join 561 = .ok (.iconst 0, 1) := by decide +kernel
theorem dX12_join_562 : decode cX12_join 562 = .ok (.bastore, 1) := by decide +kernel
theorem dX12_join_563 : decode cX12_join 563 = .ok (.iload 9, 2) := by decide +kernel
theorem dX12_join_565 : decode cX12_join 565 = .ok (.ireturn, 1) := by decide +kernel
theorem dX12_keep_0 : decode cX12_keep 0 = .ok (.aload_n 0, 1) := by decide +kernel
theorem dX12_keep_1 : decode cX12_keep 1 = .ok (.aload_n 0, 1) := by decide +kernel
theorem dX12_keep_2 : decode cX12_keep 2 = .ok (.iload_n 1, 1) := by decide +kernel
theorem dX12_keep_3 : decode cX12_keep 3 = .ok (.invokevirtual 542, 3) := by decide +kernel
theorem dX12_keep_6 : decode cX12_keep 6 = .ok (.ifCond .eq 7, 3) := by decide +kernel
theorem dX12_keep_9 : decode cX12_keep 9 = .ok (.iconst 0, 1) := by decide +kernel
theorem dX12_keep_10 : decode cX12_keep 10 = .ok (.goto 4, 3) := by decide +kernel
theorem dX12_keep_13 : decode cX12_keep 13 = .ok (.iconst 1, 1) := by decide +kernel
theorem dX12_keep_14 : decode cX12_keep 14 = .ok (.putfield 388, 3) := by decide +kernel
theorem dX12_keep_17 : decode cX12_keep 17 = .ok (.aload_n 0, 1) := by decide +kernel
theorem dX12_keep_18 : decode cX12_keep 18 = .ok (.getfield 388, 3) := by decide +kernel
theorem dX12_keep_21 : decode cX12_keep 21 = .ok (.ifCond .le 5, 3) := by decide +kernel
theorem dX12_keep_24 : decode cX12_keep 24 = .ok (.iconst 0, 1) := by decide +kernel
theorem dX12_keep_25 : decode cX12_keep 25 = .ok (.ireturn, 1) := by decide +kernel
theorem dX12_keep_26 : decode cX12_keep 26 = .ok (.aload_n 0, 1) := by decide +kernel
theorem dX12_keep_27 : decode cX12_keep 27 = .ok (.aload_n 0, 1) := by decide +kernel
theorem dX12_keep_28 : decode cX12_keep 28 = .ok (.iload_n 1, 1) := by decide +kernel
theorem dX12_keep_29 : decode cX12_keep 29 = .ok (.invokevirtual 972, 3) := by decide +kernel
theorem dX12_keep_32 : decode cX12_keep 32 = .ok (.ifCond .eq 20, 3) := by decide +kernel
theorem dX12_keep_35 : decode cX12_keep 35 = .ok (.aload_n 0, 1) := by decide +kernel
theorem dX12_keep_36 : decode cX12_keep 36 = .ok (.getfield 1027, 3) := by decide +kernel
theorem dX12_keep_39 : decode cX12_keep 39 = .ok (.iconst 2, 1) := by decide +kernel
theorem dX12_keep_40 : decode cX12_keep 40 = .ok (.iadd, 1) := by decide +kernel
theorem dX12_keep_41 : decode cX12_keep 41 = .ok (.aload_n 0, 1) := by decide +kernel
theorem dX12_keep_42 : decode cX12_keep 42 = .ok (.getfield 953, 3) := by decide +kernel
theorem dX12_keep_45 : decode cX12_keep 45 = .ok (.iadd, 1) := by decide +kernel
theorem dX12_keep_46 : decode cX12_keep 46 = .ok (.sipush 8000, 3) := by decide +kernel
theorem dX12_keep_49 : decode cX12_keep 49 = .ok (.if_icmp .le 7, 3) := by decide +kernel
theorem dX12_keep_52 : decode cX12_keep 52 = .ok (.iconst 2, 1) := by decide +kernel
theorem dX12_keep_53 : decode cX12_keep 53 = .ok (.goto 4, 3) := by decide +kernel
theorem dX12_keep_56 : decode cX12_keep 56 = .ok (.iconst 0, 1) := by decide +kernel
theorem dX12_keep_57 : decode cX12_keep 57 = .ok (.putfield 388, 3) := by decide +kernel
theorem dX12_keep_60 : decode cX12_keep 60 = .ok (.aload_n 0, 1) := by decide +kernel
theorem dX12_keep_61 : decode cX12_keep 61 = .ok (.getfield 388, 3) := by decide +kernel
theorem dX12_keep_64 : decode cX12_keep 64 = .ok (.ifCond .le 5, 3) := by decide +kernel
theorem dX12_keep_67 : decode cX12_keep 67 = .ok (.iconst 0, 1) := by decide +kernel
theorem dX12_keep_68 : decode cX12_keep 68 = .ok (.ireturn, 1) := by decide +kernel
theorem dX12_keep_69 : decode cX12_keep 69 = .ok (.aload_n 0, 1) := by decide +kernel
theorem dX12_keep_70 : decode cX12_keep 70 = .ok (.getfield 381, 3) := by decide +kernel
theorem dX12_keep_73 : decode cX12_keep 73 = .ok (.aload_n 0, 1) := by decide +kernel
theorem dX12_keep_74 : decode cX12_keep 74 = .ok (.getfield 1030, 3) := by decide +kernel
theorem dX12_keep_77 : decode cX12_keep 77 = .ok (.aload_n 0, 1) := by decide +kernel
theorem dX12_keep_78 : decode cX12_keep 78 = .ok (.getfield 1027, 3) := by decide +kernel
theorem dX12_keep_81 : decode cX12_keep 81 = .ok (.iastore, 1) := by decide +kernel
theorem dX12_keep_82 : decode cX12_keep 82 = .ok (.aload_n 0, 1) := by decide +kernel
theorem dX12_keep_83 : decode cX12_keep 83 = .ok (.dup, 1) := by decide +kernel
theorem dX12_keep_84 : decode cX12_keep 84 = .ok (.getfield 1030, 3) := by decide +kernel
theorem dX12_keep_87 : decode cX12_keep 87 = .ok (.iconst 1, 1) := by decide +kernel
theorem dX12_keep_88 : decode cX12_keep 88 = .ok (.iadd, 1) := by decide +kernel
theorem dX12_keep_89 : decode cX12_keep 89 = .ok (.putfield 1030, 3) := by decide +kernel
theorem dX12_keep_92 : decode cX12_keep 92 = .ok (.aload_n 0, 1) := by decide +kernel
theorem dX12_keep_93 : decode cX12_keep 93 = .ok (.getfield 372, 3) := by decide +kernel
theorem dX12_keep_96 : decode cX12_keep 96 = .ok (.aload_n 0, 1) := by decide +kernel
theorem dX12_keep_97 : decode cX12_keep 97 = .ok (.getfield 1027, 3) := by decide +kernel
theorem dX12_keep_100 : decode cX12_keep 100 = .ok (.aload_n 0, 1) := by decide +kernel
theorem dX12_keep_101 : decode cX12_keep 101 = .ok (.getfield 953, 3) := by decide +kernel
theorem dX12_keep_104 : decode cX12_keep 104 = .ok (.i2b, 1) := by decide +kernel
theorem dX12_keep_105 : decode cX12_keep 105 = .ok (.bastore, 1) := by decide +kernel
theorem dX12_keep_106 : decode cX12_keep 106 = .ok (.aload_n 0, 1) := by decide +kernel
theorem dX12_keep_107 : decode cX12_keep 107 = .ok (.getfield 372, 3) := by decide +kernel
theorem dX12_keep_110 : decode cX12_keep 110 = .ok (.aload_n 0, 1) := by decide +kernel
theorem dX12_keep_111 : decode cX12_keep 111 = .ok (.getfield 1027, 3) := by decide +kernel
theorem dX12_keep_114 : decode cX12_keep 114 = .ok (.iconst 1, 1) := by decide +kernel
theorem dX12_keep_115 : decode cX12_keep 115 = .ok (.iadd, 1) := by decide +kernel
theorem dX12_keep_116 : decode cX12_keep 116 = .ok (.aload_n 0, 1) := by decide +kernel
theorem dX12_keep_117 : decode cX12_keep 117 = .ok (.getfield 953, 3) := by decide +kernel
theorem dX12_keep_120 : decode cX12_keep 120 = .ok (.bipush 8, 2) := by decide +kernel
theorem dX12_keep_122 : decode cX12_keep 122 = .ok (.ishr, 1) := by decide +kernel
theorem dX12_keep_123 : decode cX12_keep 123 = .ok (.i2b, 1) := by decide +kernel
theorem dX12_keep_124 : decode cX12_keep 124 = .ok (.bastore, 1) := by decide +kernel
theorem dX12_keep_125 : decode cX12_keep 125 = .ok (.iconst 0, 1) := by decide +kernel
theorem dX12_keep_126 : decode cX12_keep 126 = .ok (.istore_n 2, 1) := by decide +kernel
theorem dX12_keep_127 : decode cX12_keep 127 = .ok (.iload_n 2, 1) := by decide +kernel
theorem dX12_keep_128 : decode cX12_keep 128 = .ok (.aload_n 0, 1) := by decide +kernel
theorem dX12_keep_129 : decode cX12_keep 129 = .ok (.getfield 953, 3) := by decide +kernel
theorem dX12_keep_132 : decode cX12_keep 132 = .ok (.if_icmp .ge 28, 3) := by decide +kernel
theorem dX12_keep_135 : decode cX12_keep 135 = .ok (.aload_n 0, 1) := by decide +kernel
theorem dX12_keep_136 : decode cX12_keep 136 = .ok (.getfield 372, 3) := by decide +kernel
theorem dX12_keep_139 : decode cX12_keep 139 = .ok (.aload_n 0, 1) := by decide +kernel
theorem dX12_keep_140 : decode cX12_keep 140 = .ok (.getfield 1027, 3) := by decide +kernel
theorem dX12_keep_143 : decode cX12_keep 143 = .ok (.iconst 2, 1) := by decide +kernel
theorem dX12_keep_144 : decode cX12_keep 144 = .ok (.iadd, 1) := by decide +kernel
theorem dX12_keep_145 : decode cX12_keep 145 = .ok (.iload_n 2, 1) := by decide +kernel
theorem dX12_keep_146 : decode cX12_keep 146 = .ok (.iadd, 1) := by decide +kernel
theorem dX12_keep_147 : decode cX12_keep 147 = .ok (.aload_n 0, 1) := by decide +kernel
theorem dX12_keep_148 : decode cX12_keep 148 = .ok (.getfield 369, 3) := by decide +kernel
theorem dX12_keep_151 : decode cX12_keep 151 = .ok (.iload_n 2, 1) := by decide +kernel
theorem dX12_keep_152 : decode cX12_keep 152 = .ok (.baload, 1) := by decide +kernel
theorem dX12_keep_153 : decode cX12_keep 153 = .ok (.bastore, 1) := by decide +kernel
theorem dX12_keep_154 : decode cX12_keep 154 = .ok (.iinc 2 1, 3) := by decide +kernel
theorem dX12_keep_157 : decode cX12_keep 157 = .ok (.goto (-30), 3) := by decide +kernel
theorem dX12_keep_160 : decode cX12_keep 160 = .ok (.aload_n 0, 1) := by decide +kernel
theorem dX12_keep_161 : decode cX12_keep 161 = .ok (.dup, 1) := by decide +kernel
theorem dX12_keep_162 : decode cX12_keep 162 = .ok (.getfield 1027, 3) := by decide +kernel
theorem dX12_keep_165 : decode cX12_keep 165 = .ok (.iconst 2, 1) := by decide +kernel
theorem dX12_keep_166 : decode cX12_keep 166 = .ok (.aload_n 0, 1) := by decide +kernel
theorem dX12_keep_167 : decode cX12_keep 167 = .ok (.getfield 953, 3) := by decide +kernel
theorem dX12_keep_170 : decode cX12_keep 170 = .ok (.iadd, 1) := by decide +kernel
theorem dX12_keep_171 : decode cX12_keep 171 = .ok (.iadd, 1) := by decide +kernel
theorem dX12_keep_172 : decode cX12_keep 172 = .ok (.putfield 1027, 3) := by decide +kernel
theorem dX12_keep_175 : decode cX12_keep 175 = .ok (.aload_n 0, 1) := by decide +kernel
theorem dX12_keep_176 : decode cX12_keep 176 = .ok (.getfield 1030, 3) := by decide +kernel
theorem dX12_keep_179 : decode cX12_keep 179 = .ok (.ireturn, 1) := by decide +kernel
theorem dX12_keyAtHand_0 : decode cX12_keyAtHand 0 = .ok (.aload_n 0, 1) := by decide +kernel
theorem dX12_keyAtHand_1 : decode cX12_keyAtHand 1 = .ok (.getfield 644, 3) := by decide +kernel
theorem dX12_keyAtHand_4 : decode cX12_keyAtHand 4 = .ok (.iconst 1, 1) := by decide +kernel
theorem dX12_keyAtHand_5 : decode cX12_keyAtHand 5 = .ok (.if_icmp .ne 14, 3) := by decide +kernel
theorem dX12_keyAtHand_8 : decode cX12_keyAtHand 8 = .ok (.aload_n 0, 1) := by decide +kernel
theorem dX12_keyAtHand_9 : decode cX12_keyAtHand 9 = .ok (.aload_n 0, 1) := by decide +kernel
theorem dX12_keyAtHand_10 : decode cX12_keyAtHand 10 = .ok (.getfield 640, 3) := by decide +kernel
theorem dX12_keyAtHand_13 : decode cX12_keyAtHand 13 = .ok (.invokevirtual 409, 3) := by decide +kernel
theorem dX12_keyAtHand_16 : decode cX12_keyAtHand 16 = .ok (.goto 4, 3) := by decide +kernel
theorem dX12_keyAtHand_19 : decode cX12_keyAtHand 19 = .ok (.iconst (-1), 1) := by decide +kernel
theorem dX12_keyAtHand_20 : decode cX12_keyAtHand 20 = .ok (.ireturn, 1) := by decide +kernel
theorem dX12_keyOf_0 : decode cX12_keyOf 0 = .ok (.iconst (-1), 1) := by decide +kernel
theorem dX12_keyOf_1 : decode cX12_keyOf 1 = .ok (.istore_n 3, 1) := by decide +kernel
theorem dX12_keyOf_2 : decode cX12_keyOf 2 = .ok (.iconst 0, 1) := by decide +kernel
theorem dX12_keyOf_3 : decode cX12_keyOf 3 = .ok (.istore 4, 2) := by decide +kernel
theorem dX12_keyOf_5 : decode cX12_keyOf 5 = .ok (.iload 4, 2) := by decide +kernel
theorem dX12_keyOf_7 : decode cX12_keyOf 7 = .ok (.bipush 29, 2) := by decide +kernel
theorem dX12_keyOf_9 : decode cX12_keyOf 9 = .ok (.if_icmp .ge 28, 3) := by decide +kernel
theorem dX12_keyOf_12 : decode cX12_keyOf 12 = .ok (.aload_n 0, 1) := by decide +kernel
theorem dX12_keyOf_13 : decode cX12_keyOf 13 = .ok (.getfield 74, 3) := by decide +kernel
theorem dX12_keyOf_16 : decode cX12_keyOf 16 = .ok (.iload 4, 2) := by decide +kernel
theorem dX12_keyOf_18 : decode cX12_keyOf 18 = .ok (.laload, 1) := by decide +kernel
theorem dX12_keyOf_19 : decode cX12_keyOf 19 = .ok (.lload_n 1, 1) := by decide +kernel
theorem dX12_keyOf_20 : decode cX12_keyOf 20 = .ok (.lcmp, 1) := by decide +kernel
theorem dX12_keyOf_21 : decode cX12_keyOf 21 = .ok (.ifCond .ne 8, 3) := by decide +kernel
theorem dX12_keyOf_24 : decode cX12_keyOf 24 = .ok (.iload 4, 2) := by decide +kernel
theorem dX12_keyOf_26 : decode cX12_keyOf 26 = .ok (.goto 4, 3) := by decide +kernel
theorem dX12_keyOf_29 : decode cX12_keyOf 29 = .ok (.iload_n 3, 1) := by decide +kernel
theorem dX12_keyOf_30 : decode cX12_keyOf 30 = .ok (.istore_n 3, 1) := by decide +kernel
theorem dX12_keyOf_31 : decode cX12_keyOf 31 = .ok (.iinc 4 1, 3) := by decide +kernel
theorem dX12_keyOf_34 : decode cX12_keyOf 34 = .ok (.goto (-29), 3) := by decide +kernel
theorem dX12_keyOf_37 : decode cX12_keyOf 37 = .ok (.iload_n 3, 1) := by decide +kernel
theorem dX12_keyOf_38 : decode cX12_keyOf 38 = .ok (.ireturn, 1) := by decide +kernel
theorem dX12_kindOf_0 : decode cX12_kindOf 0 = .ok (.aload_n 0, 1) := by decide +kernel
theorem dX12_kindOf_1 : decode cX12_kindOf 1 = .ok (.iload_n 1, 1) := by decide +kernel
theorem dX12_kindOf_2 : decode cX12_kindOf 2 = .ok (.invokevirtual 416, 3) := by decide +kernel
theorem dX12_kindOf_5 : decode cX12_kindOf 5 = .ok (.ifCond .eq 17, 3) := by decide +kernel
theorem dX12_kindOf_8 : decode cX12_kindOf 8 = .ok (.aload_n 0, 1) := by decide +kernel
theorem dX12_kindOf_9 : decode cX12_kindOf 9 = .ok (.getfield 103, 3) := by decide +kernel
theorem dX12_kindOf_12 : decode cX12_kindOf 12 = .ok (.aload_n 0, 1) := by decide +kernel
theorem dX12_kindOf_13 : decode cX12_kindOf 13 = .ok (.iload_n 1, 1) := by decide +kernel
theorem dX12_kindOf_14 : decode cX12_kindOf 14 = .ok (.iload_n 2, 1) := by decide +kernel
theorem dX12_kindOf_15 : decode cX12_kindOf 15 = .ok (.invokevirtual 441, 3) := by decide +kernel
theorem dX12_kindOf_18 : decode cX12_kindOf 18 = .ok (.iaload, 1) := by decide +kernel
theorem dX12_kindOf_19 : decode cX12_kindOf 19 = .ok (.goto 17, 3) := by decide +kernel
theorem dX12_kindOf_22 : decode cX12_kindOf 22 = .ok (.iload_n 1, 1) := by decide +kernel
theorem dX12_kindOf_23 : decode cX12_kindOf 23 = .ok (.bipush 29, 2) := by decide +kernel
theorem dX12_kindOf_25 : decode cX12_kindOf 25 = .ok (.if_icmp .lt 7, 3) := by decide +kernel
theorem dX12_kindOf_28 : decode cX12_kindOf 28 = .ok (.iconst 5, 1) := by decide +kernel
theorem dX12_kindOf_29 : decode cX12_kindOf 29 = .ok (.goto 7, 3) := by decide +kernel
theorem dX12_kindOf_32 : decode cX12_kindOf 32 = .ok (.iload_n 1, 1) := by decide +kernel
theorem dX12_kindOf_33 : decode cX12_kindOf 33 = .ok (.bipush 20, 2) := by decide +kernel
theorem dX12_kindOf_35 : decode cX12_kindOf 35 = .ok (.isub, 1) := by decide +kernel
theorem dX12_kindOf_36 : decode cX12_kindOf 36 = .ok (.ireturn, 1) := by decide +kernel
theorem dX12_layOut_0 : decode cX12_layOut 0 = .ok (.aload_n 0, 1) := by decide +kernel
theorem dX12_layOut_1 : decode cX12_layOut 1 = .ok (.getfield 91, 3) := by decide +kernel
theorem dX12_layOut_4 : decode cX12_layOut 4 = .ok (.iload_n 1, 1) := by decide +kernel
theorem dX12_layOut_5 : decode cX12_layOut 5 = .ok (.iaload, 1) := by decide +kernel
theorem dX12_layOut_6 : decode cX12_layOut 6 = .ok (.iconst (-1), 1) := by decide +kernel
theorem dX12_layOut_7 : decode cX12_layOut 7 = .ok (.if_icmp .ne 7, 3) := by decide +kernel
theorem dX12_layOut_10 : decode cX12_layOut 10 = .ok (.iconst 0, 1) := by decide +kernel
theorem dX12_layOut_11 : decode cX12_layOut 11 = .ok (.goto 14, 3) := by decide +kernel
theorem dX12_layOut_14 : decode cX12_layOut 14 = .ok (.aload_n 0, 1) := by decide +kernel
theorem dX12_layOut_15 : decode cX12_layOut 15 = .ok (.getfield 97, 3) := by decide +kernel
theorem dX12_layOut_18 : decode cX12_layOut 18 = .ok (.aload_n 0, 1) := by decide +kernel
theorem dX12_layOut_19 : decode cX12_layOut 19 = .ok (.getfield 91, 3) := by decide +kernel
theorem dX12_layOut_22 : decode cX12_layOut 22 = .ok (.iload_n 1, 1) := by decide +kernel
theorem dX12_layOut_23 : decode cX12_layOut 23 = .ok (.iaload, 1) := by decide +kernel
theorem dX12_layOut_24 : decode cX12_layOut 24 = .ok (.iaload, 1) := by decide +kernel
theorem dX12_layOut_25 : decode cX12_layOut 25 = .ok (.istore_n 2, 1) := by decide +kernel
theorem dX12_layOut_26 : decode cX12_layOut 26 = .ok (.iconst 0, 1) := by decide +kernel
theorem dX12_layOut_27 : decode cX12_layOut 27 = .ok (.istore_n 3, 1) := by decide +kernel
theorem dX12_layOut_28 : decode cX12_layOut 28 = .ok (.iconst 0, 1) := by decide +kernel
theorem dX12_layOut_29 : decode cX12_layOut 29 = .ok (.istore 4, 2) := by decide +kernel
theorem dX12_layOut_31 : decode cX12_layOut 31 = .ok (.iload 4, 2) := by decide +kernel
theorem dX12_layOut_33 : decode cX12_layOut 33 = .ok (.aload_n 0, 1) := by decide +kernel
theorem dX12_layOut_34 : decode cX12_layOut 34 = .ok (.getfield 94, 3) := by decide +kernel
theorem dX12_layOut_37 : decode cX12_layOut 37 = .ok (.iload_n 1, 1) := by decide +kernel
theorem dX12_layOut_38 : decode cX12_layOut 38 = .ok (.iaload, 1) := by decide +kernel
theorem dX12_layOut_39 : decode cX12_layOut 39 = .ok (.if_icmp .ge 53, 3) := by decide +kernel
theorem dX12_layOut_42 : decode cX12_layOut 42 = .ok (.bipush 6, 2) := by decide +kernel
theorem dX12_layOut_44 : decode cX12_layOut 44 = .ok (.iload_n 1, 1) := by decide +kernel
theorem dX12_layOut_45 : decode cX12_layOut 45 = .ok (.imul, 1) := by decide +kernel
theorem dX12_layOut_46 : decode cX12_layOut 46 = .ok (.iload 4, 2) := by decide +kernel
theorem dX12_layOut_48 : decode cX12_layOut 48 = .ok (.iadd, 1) := by decide +kernel
theorem dX12_layOut_49 : decode cX12_layOut 49 = .ok (.istore 5, 2) := by decide +kernel
theorem dX12_layOut_51 : decode cX12_layOut 51 = .ok (.aload_n 0, 1) := by decide +kernel
theorem dX12_layOut_52 : decode cX12_layOut 52 = .ok (.getfield 119, 3) := by decide +kernel
theorem dX12_layOut_55 : decode cX12_layOut 55 = .ok (.iload 5, 2) := by decide +kernel
theorem dX12_layOut_57 : decode cX12_layOut 57 = .ok (.baload, 1) := by decide +kernel
theorem dX12_layOut_58 : decode cX12_layOut 58 = .ok (.ifCond .eq 17, 3) := by decide +kernel
theorem dX12_layOut_61 : decode cX12_layOut 61 = .ok (.aload_n 0, 1) := by decide +kernel
theorem dX12_layOut_62 : decode cX12_layOut 62 = .ok (.getfield 109, 3) := by decide +kernel
theorem dX12_layOut_65 : decode cX12_layOut 65 = .ok (.iload 5, 2) := by decide +kernel
theorem dX12_layOut_67 : decode cX12_layOut 67 = .ok (.iload_n 3, 1) := by decide +kernel
theorem dX12_layOut_68 : decode cX12_layOut 68 = .ok (.iastore, 1) := by decide +kernel
theorem dX12_layOut_69 : decode cX12_layOut 69 = .ok (.iinc 3 1, 3) := by decide +kernel
theorem dX12_layOut_72 : decode cX12_layOut 72 = .ok (.goto 14, 3) := by decide +kernel
theorem dX12_layOut_75 : decode cX12_layOut 75 = .ok (.aload_n 0, 1) := by decide +kernel
theorem dX12_layOut_76 : decode cX12_layOut 76 = .ok (.getfield 109, 3) := by decide +kernel
theorem dX12_layOut_79 : decode cX12_layOut 79 = .ok (.iload 5, 2) := by decide +kernel
theorem dX12_layOut_81 : decode cX12_layOut 81 = .ok (.iload_n 2, 1) := by decide +kernel
theorem dX12_layOut_82 : decode cX12_layOut 82 = .ok (.iastore, 1) := by decide +kernel
theorem dX12_layOut_83 : decode cX12_layOut 83 = .ok (.iinc 2 1, 3) := by decide +kernel
theorem dX12_layOut_86 : decode cX12_layOut 86 = .ok (.iinc 4 1, 3) := by decide +kernel
theorem dX12_layOut_89 : decode cX12_layOut 89 = .ok (.goto (-58), 3) := by decide +kernel
theorem dX12_layOut_92 : decode cX12_layOut 92 = .ok (.aload_n 0, 1) := by decide +kernel
theorem dX12_layOut_93 : decode cX12_layOut 93 = .ok (.getfield 97, 3) := by decide +kernel
theorem dX12_layOut_96 : decode cX12_layOut 96 = .ok (.iload_n 1, 1) := by decide +kernel
theorem dX12_layOut_97 : decode cX12_layOut 97 = .ok (.iload_n 2, 1) := by decide +kernel
theorem dX12_layOut_98 : decode cX12_layOut 98 = .ok (.iastore, 1) := by decide +kernel
theorem dX12_layOut_99 : decode cX12_layOut 99 = .ok (.aload_n 0, 1) := by decide +kernel
theorem dX12_layOut_100 : decode cX12_layOut 100 = .ok (.getfield 91, 3) := by decide +kernel
theorem dX12_layOut_103 : decode cX12_layOut 103 = .ok (.iload_n 1, 1) := by decide +kernel
theorem dX12_layOut_104 : decode cX12_layOut 104 = .ok (.iaload, 1) := by decide +kernel
theorem dX12_layOut_105 : decode cX12_layOut 105 = .ok (.iconst (-1), 1) := by decide +kernel
theorem dX12_layOut_106 : decode cX12_layOut 106 = .ok (.if_icmp .ne 8, 3) := by decide +kernel
theorem dX12_layOut_109 : decode cX12_layOut 109 = .ok (.bipush 12, 2) := by decide +kernel
theorem dX12_layOut_111 : decode cX12_layOut 111 = .ok (.goto 14, 3) := by decide +kernel
theorem dX12_layOut_114 : decode cX12_layOut 114 = .ok (.aload_n 0, 1) := by decide +kernel
theorem dX12_layOut_115 : decode cX12_layOut 115 = .ok (.getfield 100, 3) := by decide +kernel
theorem dX12_layOut_118 : decode cX12_layOut 118 = .ok (.aload_n 0, 1) := by decide +kernel
theorem dX12_layOut_119 : decode cX12_layOut 119 = .ok (.getfield 91, 3) := by decide +kernel
theorem dX12_layOut_122 : decode cX12_layOut 122 = .ok (.iload_n 1, 1) := by decide +kernel
theorem dX12_layOut_123 : decode cX12_layOut 123 = .ok (.iaload, 1) := by decide +kernel
theorem dX12_layOut_124 : decode cX12_layOut 124 = .ok (.iaload, 1) := by decide +kernel
theorem dX12_layOut_125 : decode cX12_layOut 125 = .ok (.istore 4, 2) := by decide +kernel
theorem dX12_layOut_127 : decode cX12_layOut 127 = .ok (.bipush 8, 2) := by decide +kernel
theorem dX12_layOut_129 : decode cX12_layOut 129 = .ok (.istore 5, 2) := by decide +kernel
theorem dX12_layOut_131 : decode cX12_layOut 131 = .ok (.iload 5, 2) := by decide +kernel
theorem dX12_layOut_133 : decode cX12_layOut 133 = .ok (.ifCond .le 99, 3) := by decide +kernel
theorem dX12_layOut_136 : decode cX12_layOut 136 = .ok (.iconst 0, 1) := by decide +kernel
theorem dX12_layOut_137 : decode cX12_layOut 137 = .ok (.istore 6, 2) := by decide +kernel
theorem dX12_layOut_139 : decode cX12_layOut 139 = .ok (.iload 6, 2) := by decide +kernel
theorem dX12_layOut_141 : decode cX12_layOut 141 = .ok (.aload_n 0, 1) := by decide +kernel
theorem dX12_layOut_142 : decode cX12_layOut 142 = .ok (.getfield 94, 3) := by decide +kernel
theorem dX12_layOut_145 : decode cX12_layOut 145 = .ok (.iload_n 1, 1) := by decide +kernel
theorem dX12_layOut_146 : decode cX12_layOut 146 = .ok (.iaload, 1) := by decide +kernel
theorem dX12_layOut_147 : decode cX12_layOut 147 = .ok (.if_icmp .ge 76, 3) := by decide +kernel
theorem dX12_layOut_150 : decode cX12_layOut 150 = .ok (.bipush 6, 2) := by decide +kernel
theorem dX12_layOut_152 : decode cX12_layOut 152 = .ok (.iload_n 1, 1) := by decide +kernel
theorem dX12_layOut_153 : decode cX12_layOut 153 = .ok (.imul, 1) := by decide +kernel
theorem dX12_layOut_154 : decode cX12_layOut 154 = .ok (.iload 6, 2) := by decide +kernel
theorem dX12_layOut_156 : decode cX12_layOut 156 = .ok (.iadd, 1) := by decide +kernel
theorem dX12_layOut_157 : decode cX12_layOut 157 = .ok (.istore 7, 2) := by decide +kernel
theorem dX12_layOut_159 : decode cX12_layOut 159 = .ok (.aload_n 0, 1) := by decide +kernel
theorem dX12_layOut_160 : decode cX12_layOut 160 = .ok (.getfield 119, 3) := by decide +kernel
theorem dX12_layOut_163 : decode cX12_layOut 163 = .ok (.iload 7, 2) := by decide +kernel
theorem dX12_layOut_165 : decode cX12_layOut 165 = .ok (.baload, 1) := by decide +kernel
theorem dX12_layOut_166 : decode cX12_layOut 166 = .ok (.ifCond .ne 51, 3) := by decide +kernel
theorem dX12_layOut_169 : decode cX12_layOut 169 = .ok (.aload_n 0, 1) := by decide +kernel
theorem dX12_layOut_170 : decode cX12_layOut 170 = .ok (.getfield 103, 3) := by decide +kernel
theorem dX12_layOut_173 : decode cX12_layOut 173 = .ok (.iload 7, 2) := by decide +kernel
theorem dX12_layOut_175 : decode cX12_layOut 175 = .ok (.iaload, 1) := by decide +kernel
theorem dX12_layOut_176 : decode cX12_layOut 176 = .ok (.invokestatic 427, 3) := by decide +kernel
theorem dX12_layOut_179 : decode cX12_layOut 179 = .ok (.iload 5, 2) := by decide +kernel
theorem dX12_layOut_181 : decode cX12_layOut 181 = .ok (.if_icmp .eq 6, 3) := by decide +kernel
theorem dX12_layOut_184 : decode cX12_layOut 184 = .ok (.goto 33, 3) := by decide +kernel
theorem dX12_layOut_187 : decode cX12_layOut 187 = .ok (.iload 4, 2) := by decide +kernel
theorem dX12_layOut_189 : decode cX12_layOut 189 = .ok (.iload 5, 2) := by decide +kernel
theorem dX12_layOut_191 : decode cX12_layOut 191 = .ok (.irem, 1) := by decide +kernel
theorem dX12_layOut_192 : decode cX12_layOut 192 = .ok (.ifCond .eq 9, 3) := by decide +kernel
theorem dX12_layOut_195 : decode cX12_layOut 195 = .ok (.iinc 4 1, 3) := by decide +kernel
theorem dX12_layOut_198 : decode cX12_layOut 198 = .ok (.goto (-11), 3) := by decide +kernel
theorem dX12_layOut_201 : decode cX12_layOut 201 = .ok (.aload_n 0, 1) := by decide +kernel
theorem dX12_layOut_202 : decode cX12_layOut 202 = .ok (.getfield 112, 3) := by decide +kernel
theorem dX12_layOut_205 : decode cX12_layOut 205 = .ok (.iload 7, 2) := by decide +kernel
theorem dX12_layOut_207 : decode cX12_layOut 207 = .ok (.iload 4, 2) := by decide +kernel
theorem dX12_layOut_209 : decode cX12_layOut 209 = .ok (.iastore, 1) := by decide +kernel
theorem dX12_layOut_210 : decode cX12_layOut 210 = .ok (.iload 4, 2) := by decide +kernel
theorem dX12_layOut_212 : decode cX12_layOut 212 = .ok (.iload 5, 2) := by decide +kernel
theorem dX12_layOut_214 : decode cX12_layOut 214 = .ok (.iadd, 1) := by decide +kernel
theorem dX12_layOut_215 : decode cX12_layOut 215 = .ok (.istore 4, 2) := by decide +kernel
theorem dX12_layOut_217 : decode cX12_layOut 217 = .ok (.iinc 6 1, 3) := by decide +kernel
theorem dX12_layOut_220 : decode cX12_layOut 220 = .ok (.goto (-81), 3) := by decide +kernel
theorem dX12_layOut_223 : decode cX12_layOut 223 = .ok (.iload 5, 2) := by decide +kernel
theorem dX12_layOut_225 : decode cX12_layOut 225 = .ok (.iconst 2, 1) := by decide +kernel
theorem dX12_layOut_226 : decode cX12_layOut 226 = .ok (.idiv, 1) := by decide +kernel
theorem dX12_layOut_227 : decode cX12_layOut 227 = .ok (.istore 5, 2) := by decide +kernel
theorem dX12_layOut_229 : decode cX12_layOut 229 = .ok (.goto (-98), 3) := by decide +kernel
theorem dX12_layOut_232 : decode cX12_layOut 232 = .ok (.aload_n 0, 1) := by decide +kernel
theorem dX12_layOut_233 : decode cX12_layOut 233 = .ok (.getfield 100, 3) := by decide +kernel
theorem dX12_layOut_236 : decode cX12_layOut 236 = .ok (.iload_n 1, 1) := by decide +kernel
theorem dX12_layOut_237 : decode cX12_layOut 237 = .ok (.iload 4, 2) := by decide +kernel
theorem dX12_layOut_239 : decode cX12_layOut 239 = .ok (.iastore, 1) := by decide +kernel
theorem dX12_layOut_240 : decode cX12_layOut 240 = .ok (.return_, 1) := by decide +kernel
theorem dX12_letter_0 : decode cX12_letter 0 = .ok (.aload_n 0, 1) := by decide +kernel
theorem dX12_letter_1 : decode cX12_letter 1 = .ok (.iconst 0, 1) := by decide +kernel
theorem dX12_letter_2 : decode cX12_letter 2 = .ok (.putfield 388, 3) := by decide +kernel
theorem dX12_letter_5 : decode cX12_letter 5 = .ok (.iload_n 1, 1) := by decide +kernel
theorem dX12_letter_6 : decode cX12_letter 6 = .ok (.ifCond .lt 24, 3) := by decide +kernel
theorem dX12_letter_9 : decode cX12_letter 9 = .ok (.iload_n 1, 1) := by decide +kernel
theorem dX12_letter_10 : decode cX12_letter 10 = .ok (.aload_n 0, 1) := by decide +kernel
theorem dX12_letter_11 : decode cX12_letter 11 = .ok (.getfield 391, 3) := by decide +kernel
theorem dX12_letter_14 : decode cX12_letter 14 = .ok (.if_icmp .ge 16, 3) := by decide +kernel
theorem dX12_letter_17 : decode cX12_letter 17 = .ok (.aload_n 0, 1) := by decide +kernel
theorem dX12_letter_18 : decode cX12_letter 18 = .ok (.getfield 7, 3) := by decide +kernel
theorem dX12_letter_21 : decode cX12_letter 21 = .ok (.iload_n 1, 1) := by decide +kernel
theorem dX12_letter_22 : decode cX12_letter 22 = .ok (.baload, 1) := by decide +kernel
theorem dX12_letter_23 : decode cX12_letter 23 = .ok (.sipush 255, 3) := by decide +kernel
theorem dX12_letter_26 : decode cX12_letter 26 = .ok (.iand, 1) := by decide +kernel
theorem dX12_letter_27 : decode cX12_letter 27 = .ok (.goto 4, 3) := by decide +kernel
theorem dX12_letter_30 : decode cX12_letter 30 = .ok (.iconst (-1), 1) := by decide +kernel
theorem dX12_letter_31 : decode cX12_letter 31 = .ok (.ireturn, 1) := by decide +kernel
theorem dX12_like_0 : decode cX12_like 0 = .ok (.aload_n 0, 1) := by decide +kernel
theorem dX12_like_1 : decode cX12_like 1 = .ok (.aload_n 0, 1) := by decide +kernel
theorem dX12_like_2 : decode cX12_like 2 = .ok (.iload_n 1, 1) := by decide +kernel
theorem dX12_like_3 : decode cX12_like 3 = .ok (.iload_n 2, 1) := by decide +kernel
theorem dX12_like_4 : decode cX12_like 4 = .ok (.invokevirtual 600, 3) := by decide +kernel
theorem dX12_like_7 : decode cX12_like 7 = .ok (.ifCond .eq 13, 3) := by decide +kernel
theorem dX12_like_10 : decode cX12_like 10 = .ok (.aload_n 0, 1) := by decide +kernel
theorem dX12_like_11 : decode cX12_like 11 = .ok (.iload_n 3, 1) := by decide +kernel
theorem dX12_like_12 : decode cX12_like 12 = .ok (.iload 4, 2) := by decide +kernel
theorem dX12_like_14 : decode cX12_like 14 = .ok (.invokevirtual 600, 3) := by decide +kernel
theorem dX12_like_17 : decode cX12_like 17 = .ok (.ifCond .ne 7, 3) := by decide +kernel
theorem dX12_like_20 : decode cX12_like 20 = .ok (.iconst 1, 1) := by decide +kernel
theorem dX12_like_21 : decode cX12_like 21 = .ok (.goto 4, 3) := by decide +kernel
theorem dX12_like_24 : decode cX12_like 24 = .ok (.iconst 0, 1) := by decide +kernel
theorem dX12_like_25 : decode cX12_like 25 = .ok (.putfield 388, 3) := by decide +kernel
theorem dX12_like_28 : decode cX12_like 28 = .ok (.aload_n 0, 1) := by decide +kernel
theorem dX12_like_29 : decode cX12_like 29 = .ok (.getfield 388, 3) := by decide +kernel
theorem dX12_like_32 : decode cX12_like 32 = .ok (.ifCond .le 5, 3) := by decide +kernel
theorem dX12_like_35 : decode cX12_like 35 = .ok (.iconst 0, 1) := by decide +kernel
theorem dX12_like_36 : decode cX12_like 36 = .ok (.ireturn, 1) := by decide +kernel
theorem dX12_like_37 : decode cX12_like 37 = .ok (.iconst 0, 1) := by decide +kernel
theorem dX12_like_38 : decode cX12_like 38 = .ok (.istore 5, 2) := by decide +kernel
theorem dX12_like_40 : decode cX12_like 40 = .ok (.iload 5, 2) := by decide +kernel
theorem dX12_like_42 : decode cX12_like 42 = .ok (.sipush 400, 3) := by decide +kernel
theorem dX12_like_45 : decode cX12_like 45 = .ok (.if_icmp .ge 25, 3) := by decide +kernel
theorem dX12_like_48 : decode cX12_like 48 = .ok (.aload_n 0, 1) := by decide +kernel
theorem dX12_like_49 : decode cX12_like 49 = .ok (.getfield 262, 3) := by decide +kernel
theorem dX12_like_52 : decode cX12_like 52 = .ok (.iload 5, 2) := by decide +kernel
theorem dX12_like_54 : decode cX12_like 54 = .ok (.iconst (-1), 1) := by decide +kernel
theorem dX12_like_55 : decode cX12_like 55 = .ok (.iastore, 1) := by decide +kernel
theorem dX12_like_56 : decode cX12_like 56 = .ok (.aload_n 0, 1) := by decide +kernel
theorem dX12_like_57 : decode cX12_like 57 = .ok (.getfield 265, 3) := by decide +kernel
theorem dX12_like_60 : decode cX12_like 60 = .ok (.iload 5, 2) := by decide +kernel
theorem dX12_like_62 : decode cX12_like 62 = .ok (.iconst (-1), 1) := by decide +kernel
theorem dX12_like_63 : decode cX12_like 63 = .ok (.iastore, 1) := by decide +kernel
theorem dX12_like_64 : decode cX12_like 64 = .ok (.iinc 5 1, 3) := by decide +kernel
theorem dX12_like_67 : decode cX12_like 67 = .ok (.goto (-27), 3) := by decide +kernel
theorem dX12_like_70 : decode cX12_like 70 = .ok (.aload_n 0, 1) := by decide +kernel
theorem dX12_like_71 : decode cX12_like 71 = .ok (.iconst 0, 1) := by decide +kernel
theorem dX12_like_72 : decode cX12_like 72 = .ok (.putfield 581, 3) := by decide +kernel
theorem dX12_like_75 : decode cX12_like 75 = .ok (.aload_n 0, 1) := by decide +kernel
theorem dX12_like_76 : decode cX12_like 76 = .ok (.iload_n 2, 1) := by decide +kernel
theorem dX12_like_77 : decode cX12_like 77 = .ok (.iload 4, 2) := by decide +kernel
theorem dX12_like_79 : decode cX12_like 79 = .ok (.invokevirtual 622, 3) := by decide +kernel
theorem dX12_like_82 : decode cX12_like 82 = .ok (.istore 5, 2) := by decide +kernel
theorem dX12_like_84 : decode cX12_like 84 = .ok (.iconst 0, 1) := by decide +kernel
theorem dX12_like_85 : decode cX12_like 85 = .ok (.istore 6, 2) := by decide +kernel
theorem dX12_like_87 : decode cX12_like 87 = .ok (.iload 6, 2) := by decide +kernel
theorem dX12_like_89 : decode cX12_like 89 = .ok (.aload_n 0, 1) := by decide +kernel
theorem dX12_like_90 : decode cX12_like 90 = .ok (.getfield 581, 3) := by decide +kernel
theorem dX12_like_93 : decode cX12_like 93 = .ok (.if_icmp .ge 211, 3) := by decide +kernel
theorem dX12_like_96 : decode cX12_like 96 = .ok (.iload 5, 2) := by decide +kernel
theorem dX12_like_98 : decode cX12_like 98 = .ok (.ifCond .eq 206, 3) := by decide +kernel
theorem dX12_like_101 : decode cX12_like 101 = .ok (.aload_n 0, 1) := by decide +kernel
theorem dX12_like_102 : decode cX12_like 102 = .ok (.getfield 256, 3) := by decide +kernel
theorem dX12_like_105 : decode cX12_like 105 = .ok (.iload 6, 2) := by decide +kernel
theorem dX12_like_107 : decode cX12_like 107 = .ok (.iaload, 1) := by decide +kernel
theorem dX12_like_108 : decode cX12_like 108 = .ok (.istore 7, 2) := by decide +kernel
theorem dX12_like_110 : decode cX12_like 110 = .ok (.aload_n 0, 1) := by decide +kernel
theorem dX12_like_111 : decode cX12_like 111 = .ok (.getfield 262, 3) := by decide +kernel
theorem dX12_like_114 : decode cX12_like 114 = .ok (.iload 7, 2) := by decide +kernel
theorem dX12_like_116 : decode cX12_like 116 = .ok (.iaload, 1) := by decide +kernel
theorem dX12_like_117 : decode cX12_like 117 = .ok (.istore 8, 2) := by decide +kernel
theorem dX12_like_119 : decode cX12_like 119 = .ok (.aload_n 0, 1) := by decide +kernel
theorem dX12_like_120 : decode cX12_like 120 = .ok (.getfield 189, 3) := by decide +kernel
theorem dX12_like_123 : decode cX12_like 123 = .ok (.aload_n 0, 1) := by decide +kernel
theorem dX12_like_124 : decode cX12_like 124 = .ok (.iload_n 1, 1) := by decide +kernel
theorem dX12_like_125 : decode cX12_like 125 = .ok (.iload 7, 2) := by decide +kernel
theorem dX12_like_127 : decode cX12_like 127 = .ok (.invokevirtual 545, 3) := by decide +kernel
theorem dX12_like_130 : decode cX12_like 130 = .ok (.iaload, 1) := by decide +kernel
theorem dX12_like_131 : decode cX12_like 131 = .ok (.aload_n 0, 1) := by decide +kernel
theorem dX12_like_132 : decode cX12_like 132 = .ok (.getfield 189, 3) := by decide +kernel
theorem dX12_like_135 : decode cX12_like 135 = .ok (.aload_n 0, 1) := by decide +kernel
theorem dX12_like_136 : decode cX12_like 136 = .ok (.iload_n 3, 1) := by decide +kernel
theorem dX12_like_137 : decode cX12_like 137 = .ok (.iload 8, 2) := by decide +kernel
theorem dX12_like_139 : decode cX12_like 139 = .ok (.invokevirtual 545, 3) := by decide +kernel
theorem dX12_like_142 : decode cX12_like 142 = .ok (.iaload, 1) := by decide +kernel
theorem dX12_like_143 : decode cX12_like 143 = .ok (.if_icmp .ne 34, 3) := by decide +kernel
theorem dX12_like_146 : decode cX12_like 146 = .ok (.aload_n 0, 1) := by decide +kernel
theorem dX12_like_147 : decode cX12_like 147 = .ok (.getfield 192, 3) := by decide +kernel
theorem dX12_like_150 : decode cX12_like 150 = .ok (.aload_n 0, 1) := by decide +kernel
theorem dX12_like_151 : decode cX12_like 151 = .ok (.iload_n 1, 1) := by decide +kernel
theorem dX12_like_152 : decode cX12_like 152 = .ok (.iload 7, 2) := by decide +kernel
theorem dX12_like_154 : decode cX12_like 154 = .ok (.invokevirtual 545, 3) := by decide +kernel
theorem dX12_like_157 : decode cX12_like 157 = .ok (.iaload, 1) := by decide +kernel
theorem dX12_like_158 : decode cX12_like 158 = .ok (.aload_n 0, 1) := by decide +kernel
theorem dX12_like_159 : decode cX12_like 159 = .ok (.getfield 192, 3) := by decide +kernel
theorem dX12_like_162 : decode cX12_like 162 = .ok (.aload_n 0, 1) := by decide +kernel
theorem dX12_like_163 : decode cX12_like 163 = .ok (.iload_n 3, 1) := by decide +kernel
theorem dX12_like_164 : decode cX12_like 164 = .ok (.iload 8, 2) := by decide +kernel
theorem dX12_like_166 : decode cX12_like 166 = .ok (.invokevirtual 545, 3) := by decide +kernel
theorem dX12_like_169 : decode cX12_like 169 = .ok (.iaload, 1) := by decide +kernel
theorem dX12_like_170 : decode cX12_like 170 = .ok (.if_icmp .ne 7, 3) := by decide +kernel
theorem dX12_like_173 : decode cX12_like 173 = .ok (.iconst 1, 1) := by decide +kernel
theorem dX12_like_174 : decode cX12_like 174 = .ok (.goto 4, 3) := by decide +kernel
theorem dX12_like_177 : decode cX12_like 177 = .ok (.iconst 0, 1) := by decide +kernel
theorem dX12_like_178 : decode cX12_like 178 = .ok (.istore 5, 2) := by decide +kernel
theorem dX12_like_180 : decode cX12_like 180 = .ok (.iconst 0, 1) := by decide +kernel
theorem dX12_like_181 : decode cX12_like 181 = .ok (.istore 9, 2) := by decide +kernel
theorem dX12_like_183 : decode cX12_like 183 = .ok (.iload 5, 2) := by decide +kernel
theorem dX12_like_185 : decode cX12_like 185 = .ok (.ifCond .eq 113, 3) := by decide +kernel
theorem dX12_like_188 : decode cX12_like 188 = .ok (.iload 9, 2) := by decide +kernel
theorem dX12_like_190 : decode cX12_like 190 = .ok (.aload_n 0, 1) := by decide +kernel
theorem dX12_like_191 : decode cX12_like 191 = .ok (.iload_n 1, 1) := by decide +kernel
theorem dX12_like_192 : decode cX12_like 192 = .ok (.iload 7, 2) := by decide +kernel
theorem dX12_like_194 : decode cX12_like 194 = .ok (.invokevirtual 570, 3) := by decide +kernel
theorem dX12_like_197 : decode cX12_like 197 = .ok (.if_icmp .ge 101, 3) := by decide +kernel
theorem dX12_like_200 : decode cX12_like 200 = .ok (.aload_n 0, 1) := by decide +kernel
theorem dX12_like_201 : decode cX12_like 201 = .ok (.iload_n 1, 1) := by decide +kernel
theorem dX12_like_202 : decode cX12_like 202 = .ok (.iload 7, 2) := by decide +kernel
theorem dX12_like_204 : decode cX12_like 204 = .ok (.iload 9, 2) := by decide +kernel
theorem dX12_like_206 : decode cX12_like 206 = .ok (.invokevirtual 577, 3) := by decide +kernel
theorem dX12_like_209 : decode cX12_like 209 = .ok (.lstore 10, 2) := by decide +kernel
theorem dX12_like_211 : decode cX12_like 211 = .ok (.aload_n 0, 1) := by decide +kernel
theorem dX12_like_212 : decode cX12_like 212 = .ok (.iload_n 3, 1) := by decide +kernel
theorem dX12_like_213 : decode cX12_like 213 = .ok (.iload 8, 2) := by decide +kernel
theorem dX12_like_215 : decode cX12_like 215 = .ok (.iload 9, 2) := by decide +kernel
theorem dX12_like_217 : decode cX12_like 217 = .ok (.invokevirtual 577, 3) := by decide +kernel
theorem dX12_like_220 : decode cX12_like 220 = .ok (.lstore 12, 2) := by decide +kernel
theorem dX12_like_222 : decode cX12_like 222 = .ok (.aload_n 0, 1) := by decide +kernel
theorem dX12_like_223 : decode cX12_like 223 = .ok (.iload_n 1, 1) := by decide +kernel
theorem dX12_like_224 : decode cX12_like 224 = .ok (.iload 7, 2) := by decide +kernel
theorem dX12_like_226 : decode cX12_like 226 = .ok (.iload 9, 2) := by decide +kernel
theorem dX12_like_228 : decode cX12_like 228 = .ok (.invokevirtual 573, 3) := by decide +kernel
theorem dX12_like_231 : decode cX12_like 231 = .ok (.ifCond .eq 25, 3) := by decide +kernel
theorem dX12_like_234 : decode cX12_like 234 = .ok (.lload 10, 2) := by decide +kernel
theorem dX12_like_236 : decode cX12_like 236 = .ok (.ldc2_w 433, 3) := by decide +kernel
theorem dX12_like_239 : decode cX12_like 239 = .ok (.lcmp, 1) := by decide +kernel
theorem dX12_like_240 : decode cX12_like 240 = .ok (.ifCond .eq 16, 3) := by decide +kernel
theorem dX12_like_243 : decode cX12_like 243 = .ok (.lload 12, 2) := by decide +kernel
theorem dX12_like_245 : decode cX12_like 245 = .ok (.ldc2_w 433, 3) := by decide +kernel
theorem dX12_like_248 : decode cX12_like 248 = .ok (.lcmp, 1) := by decide +kernel
theorem dX12_like_249 : decode cX12_like 249 = .ok (.ifCond .eq 7, 3) := by decide +kernel
theorem dX12_like_252 : decode cX12_like 252 = .ok (.iconst 1, 1) := by decide +kernel
theorem dX12_like_253 : decode cX12_like 253 = .ok (.goto 4, 3) := by decide +kernel
theorem dX12_like_256 : decode cX12_like 256 = .ok (.iconst 0, 1) := by decide +kernel
theorem dX12_like_257 : decode cX12_like 257 = .ok (.istore 14, 2) := by decide +kernel
theorem dX12_like_259 : decode cX12_like 259 = .ok (.iload 14, 2) := by decide +kernel
theorem dX12_like_261 : decode cX12_like 261 = .ok (.ifCond .eq 16, 3) := by decide +kernel
theorem dX12_like_264 : decode cX12_like 264 = .ok (.aload_n 0, 1) := by decide +kernel
theorem dX12_like_265 : decode cX12_like 265 = .ok (.lload 10, 2) := by decide +kernel
theorem dX12_like_267 : decode cX12_like 267 = .ok (.l2i, 1) := by decide +kernel
theorem dX12_like_268 : decode cX12_like 268 = .ok (.lload 12, 2) := by decide +kernel
theorem dX12_like_270 : decode cX12_like 270 = .ok (.l2i, 1) := by decide +kernel
theorem dX12_like_271 : decode cX12_like 271 = .ok (.invokevirtual 622, 3) := by decide +kernel
theorem dX12_like_274 : decode cX12_like 274 = .ok (.goto 16, 3) := by decide +kernel
theorem dX12_like_277 : decode cX12_like 277 = .ok (.lload 10, 2) := by decide +kernel
theorem dX12_like_279 : decode cX12_like 279 = .ok (.lload 12, 2) := by decide +kernel
theorem dX12_like_281 : decode cX12_like 281 = .ok (.lcmp, 1) := by decide +kernel
theorem dX12_like_282 : decode cX12_like 282 = .ok (.ifCond .ne 7, 3) := by decide +kernel
theorem dX12_like_285 : decode cX12_like 285 = .ok (.iconst 1, 1) := by decide +kernel
theorem dX12_like_286 : decode cX12_like 286 = .ok (.goto 4, 3) := by decide +kernel
theorem dX12_like_289 : decode cX12_like 289 = .ok (.iconst 0, 1) := by decide +kernel
theorem dX12_like_290 : decode cX12_like 290 = .ok (.istore 5, 2) := by decide +kernel
theorem dX12_like_292 : decode cX12_like 292 = .ok (.iinc 9 1, 3) := by decide +kernel
theorem dX12_like_295 : decode cX12_like 295 = .ok (.goto (-112), 3) := by decide +kernel
theorem dX12_like_298 : decode cX12_like 298 = .ok (.iinc 6 1, 3) := by decide +kernel
theorem dX12_like_301 : decode cX12_like 301 = .ok (.goto (-214), 3) := by decide +kernel
theorem dX12_like_304 : decode cX12_like 304 = .ok (.iload 5, 2) := by decide +kernel
theorem dX12_like_306 : decode cX12_like 306 = .ok (.ireturn, 1) := by decide +kernel
theorem dX12_link_0 : decode cX12_link 0 = .ok (.lload_n 1, 1) := by decide +kernel
theorem dX12_link_1 : decode cX12_link 1 = .ok (.ldc2_w 433, 3) := by decide +kernel
theorem dX12_link_4 : decode cX12_link 4 = .ok (.lcmp, 1) := by decide +kernel
theorem dX12_link_5 : decode cX12_link 5 = .ok (.ifCond .ne 12, 3) := by decide +kernel
theorem dX12_link_8 : decode cX12_link 8 = .ok (.aload_n 0, 1) := by decide +kernel
theorem dX12_link_9 : decode cX12_link 9 = .ok (.iconst 3, 1) := by decide +kernel
theorem dX12_link_10 : decode cX12_link 10 = .ok (.lconst 0, 1) := by decide +kernel
theorem dX12_link_11 : decode cX12_link 11 = .ok (.invokevirtual 791, 3) := by decide +kernel
theorem dX12_link_14 : decode cX12_link 14 = .ok (.goto 9, 3) := by decide +kernel
theorem dX12_link_17 : decode cX12_link 17 = .ok (.aload_n 0, 1) := by decide +kernel
theorem dX12_link_18 : decode cX12_link 18 = .ok (.iconst 2, 1) := by decide +kernel
theorem dX12_link_19 : decode cX12_link 19 = .ok (.lload_n 1, 1) := by decide +kernel
theorem dX12_link_20 : decode cX12_link 20 = .ok (.invokevirtual 791, 3) := by decide +kernel
theorem dX12_link_23 : decode cX12_link 23 = .ok (.return_, 1) := by decide +kernel
theorem dX12_linkOf_0 : decode cX12_linkOf 0 = .ok (.aload_n 0, 1) := by decide +kernel
theorem dX12_linkOf_1 : decode cX12_linkOf 1 = .ok (.iload_n 1, 1) := by decide +kernel
theorem dX12_linkOf_2 : decode cX12_linkOf 2 = .ok (.invokevirtual 416, 3) := by decide +kernel
theorem dX12_linkOf_5 : decode cX12_linkOf 5 = .ok (.ifCond .eq 17, 3) := by decide +kernel
theorem dX12_linkOf_8 : decode cX12_linkOf 8 = .ok (.aload_n 0, 1) := by decide +kernel
theorem dX12_linkOf_9 : decode cX12_linkOf 9 = .ok (.getfield 106, 3) := by decide +kernel
theorem dX12_linkOf_12 : decode cX12_linkOf 12 = .ok (.aload_n 0, 1) := by decide +kernel
theorem dX12_linkOf_13 : decode cX12_linkOf 13 = .ok (.iload_n 1, 1) := by decide +kernel
theorem dX12_linkOf_14 : decode cX12_linkOf 14 = .ok (.iload_n 2, 1) := by decide +kernel
theorem dX12_linkOf_15 : decode cX12_linkOf 15 = .ok (.invokevirtual 441, 3) := by decide +kernel
theorem dX12_linkOf_18 : decode cX12_linkOf 18 = .ok (.iaload, 1) := by decide +kernel
theorem dX12_linkOf_19 : decode cX12_linkOf 19 = .ok (.goto 17, 3) := by decide +kernel
theorem dX12_linkOf_22 : decode cX12_linkOf 22 = .ok (.iload_n 1, 1) := by decide +kernel
theorem dX12_linkOf_23 : decode cX12_linkOf 23 = .ok (.bipush 29, 2) := by decide +kernel
theorem dX12_linkOf_25 : decode cX12_linkOf 25 = .ok (.if_icmp .ne 7, 3) := by decide +kernel
theorem dX12_linkOf_28 : decode cX12_linkOf 28 = .ok (.iconst (-1), 1) := by decide +kernel
theorem dX12_linkOf_29 : decode cX12_linkOf 29 = .ok (.goto 7, 3) := by decide +kernel
theorem dX12_linkOf_32 : decode cX12_linkOf 32 = .ok (.iload_n 1, 1) := by decide +kernel
theorem dX12_linkOf_33 : decode cX12_linkOf 33 = .ok (.bipush 30, 2) := by decide +kernel
theorem dX12_linkOf_35 : decode cX12_linkOf 35 = .ok (.isub, 1) := by decide +kernel
theorem dX12_linkOf_36 : decode cX12_linkOf 36 = .ok (.ireturn, 1) := by decide +kernel
theorem dX12_linksIn_0 : decode cX12_linksIn 0 = .ok (.aload_n 0, 1) := by decide +kernel
theorem dX12_linksIn_1 : decode cX12_linksIn 1 = .ok (.aload_n 0, 1) := by decide +kernel
theorem dX12_linksIn_2 : decode cX12_linksIn 2 = .ok (.getfield 189, 3) := by decide +kernel
theorem dX12_linksIn_5 : decode cX12_linksIn 5 = .ok (.aload_n 0, 1) := by decide +kernel
theorem dX12_linksIn_6 : decode cX12_linksIn 6 = .ok (.iload_n 1, 1) := by decide +kernel
theorem dX12_linksIn_7 : decode cX12_linksIn 7 = .ok (.iload_n 2, 1) := by decide +kernel
theorem dX12_linksIn_8 : decode cX12_linksIn 8 = .ok (.invokevirtual 545, 3) := by decide +kernel
theorem dX12_linksIn_11 : decode cX12_linksIn 11 = .ok (.iaload, 1) := by decide +kernel
theorem dX12_linksIn_12 : decode cX12_linksIn 12 = .ok (.iload_n 3, 1) := by decide +kernel
theorem dX12_linksIn_13 : decode cX12_linksIn 13 = .ok (.invokevirtual 458, 3) := by decide +kernel
theorem dX12_linksIn_16 : decode cX12_linksIn 16 = .ok (.iconst 5, 1) := by decide +kernel
theorem dX12_linksIn_17 : decode cX12_linksIn 17 = .ok (.if_icmp .ne 7, 3) := by decide +kernel
theorem dX12_linksIn_20 : decode cX12_linksIn 20 = .ok (.iconst 1, 1) := by decide +kernel
theorem dX12_linksIn_21 : decode cX12_linksIn 21 = .ok (.goto 4, 3) := by decide +kernel
theorem dX12_linksIn_24 : decode cX12_linksIn 24 = .ok (.iconst 0, 1) := by decide +kernel
theorem dX12_linksIn_25 : decode cX12_linksIn 25 = .ok (.ireturn, 1) := by decide +kernel
theorem dX12_load_0 : decode cX12_load 0 = .ok (.aload_n 0, 1) := by decide +kernel
theorem dX12_load_1 : decode cX12_load 1 = .ok (.aload_n 0, 1) := by decide +kernel
theorem dX12_load_2 : decode cX12_load 2 = .ok (.iload_n 1, 1) := by decide +kernel
theorem dX12_load_3 : decode cX12_load 3 = .ok (.invokevirtual 542, 3) := by decide +kernel
theorem dX12_load_6 : decode cX12_load 6 = .ok (.ifCond .eq 7, 3) := by decide +kernel
theorem dX12_load_9 : decode cX12_load 9 = .ok (.iconst 0, 1) := by decide +kernel
theorem dX12_load_10 : decode cX12_load 10 = .ok (.goto 4, 3) := by decide +kernel
theorem dX12_load_13 : decode cX12_load 13 = .ok (.iconst 1, 1) := by decide +kernel
theorem dX12_load_14 : decode cX12_load 14 = .ok (.putfield 388, 3) := by decide +kernel
theorem dX12_load_17 : decode cX12_load 17 = .ok (.aload_n 0, 1) := by decide +kernel
theorem dX12_load_18 : decode cX12_load 18 = .ok (.getfield 388, 3) := by decide +kernel
theorem dX12_load_21 : decode cX12_load 21 = .ok (.ifCond .le 5, 3) := by decide +kernel
theorem dX12_load_24 : decode cX12_load 24 = .ok (.iconst 0, 1) := by decide +kernel
theorem dX12_load_25 : decode cX12_load 25 = .ok (.ireturn, 1) := by decide +kernel
theorem dX12_load_26 : decode cX12_load 26 = .ok (.aload_n 0, 1) := by decide +kernel
theorem dX12_load_27 : decode cX12_load 27 = .ok (.aload_n 0, 1) := by decide +kernel
theorem dX12_load_28 : decode cX12_load 28 = .ok (.getfield 391, 3) := by decide +kernel
theorem dX12_load_31 : decode cX12_load 31 = .ok (.putfield 953, 3) := by decide +kernel
theorem dX12_load_34 : decode cX12_load 34 = .ok (.iconst 0, 1) := by decide +kernel
theorem dX12_load_35 : decode cX12_load 35 = .ok (.istore_n 2, 1) := by decide +kernel
theorem dX12_load_36 : decode cX12_load 36 = .ok (.iload_n 2, 1) := by decide +kernel
theorem dX12_load_37 : decode cX12_load 37 = .ok (.aload_n 0, 1) := by decide +kernel
theorem dX12_load_38 : decode cX12_load 38 = .ok (.getfield 391, 3) := by decide +kernel
theorem dX12_load_41 : decode cX12_load 41 = .ok (.if_icmp .ge 21, 3) := by decide +kernel
theorem dX12_load_44 : decode cX12_load 44 = .ok (.aload_n 0, 1) := by decide +kernel
theorem dX12_load_45 : decode cX12_load 45 = .ok (.getfield 369, 3) := by decide +kernel
theorem dX12_load_48 : decode cX12_load 48 = .ok (.iload_n 2, 1) := by decide +kernel
theorem dX12_load_49 : decode cX12_load 49 = .ok (.aload_n 0, 1) := by decide +kernel
theorem dX12_load_50 : decode cX12_load 50 = .ok (.getfield 7, 3) := by decide +kernel
theorem dX12_load_53 : decode cX12_load 53 = .ok (.iload_n 2, 1) := by decide +kernel
theorem dX12_load_54 : decode cX12_load 54 = .ok (.baload, 1) := by decide +kernel
theorem dX12_load_55 : decode cX12_load 55 = .ok (.bastore, 1) := by decide +kernel
theorem dX12_load_56 : decode cX12_load 56 = .ok (.iinc 2 1, 3) := by decide +kernel
theorem dX12_load_59 : decode cX12_load 59 = .ok (.goto (-23), 3) := by decide +kernel
theorem dX12_load_62 : decode cX12_load 62 = .ok (.aload_n 0, 1) := by decide +kernel
theorem dX12_load_63 : decode cX12_load 63 = .ok (.invokevirtual 1021, 3) := by decide +kernel
theorem dX12_load_66 : decode cX12_load 66 = .ok (.aload_n 0, 1) := by decide +kernel
theorem dX12_load_67 : decode cX12_load 67 = .ok (.aload_n 0, 1) := by decide +kernel
theorem dX12_load_68 : decode cX12_load 68 = .ok (.getfield 625, 3) := by decide +kernel
theorem dX12_load_71 : decode cX12_load 71 = .ok (.putfield 776, 3) := by decide +kernel
theorem dX12_load_74 : decode cX12_load 74 = .ok (.aload_n 0, 1) := by decide +kernel
theorem dX12_load_75 : decode cX12_load 75 = .ok (.aload_n 0, 1) := by decide +kernel
theorem dX12_load_76 : decode cX12_load 76 = .ok (.getfield 625, 3) := by decide +kernel
theorem dX12_load_79 : decode cX12_load 79 = .ok (.ifCond .le 10, 3) := by decide +kernel
theorem dX12_load_82 : decode cX12_load 82 = .ok (.aload_n 0, 1) := by decide +kernel
theorem dX12_load_83 : decode cX12_load 83 = .ok (.getfield 628, 3) := by decide +kernel
theorem dX12_load_86 : decode cX12_load 86 = .ok (.goto 4, 3) := by decide +kernel
theorem dX12_load_89 : decode cX12_load 89 = .ok (.iconst (-1), 1) := by decide +kernel
theorem dX12_load_90 : decode cX12_load 90 = .ok (.putfield 268, 3) := by decide +kernel
theorem dX12_load_93 : decode cX12_load 93 = .ok (.aload_n 0, 1) := by decide +kernel
theorem dX12_load_94 : decode cX12_load 94 = .ok (.aload_n 0, 1) := by decide +kernel
theorem dX12_load_95 : decode cX12_load 95 = .ok (.getfield 625, 3) := by decide +kernel
theorem dX12_load_98 : decode cX12_load 98 = .ok (.ifCond .le 7, 3) := by decide +kernel
theorem dX12_load_101 : decode cX12_load 101 = .ok (.iconst 2, 1) := by decide +kernel
theorem dX12_load_102 : decode cX12_load 102 = .ok (.goto 4, 3) := by decide +kernel
theorem dX12_load_105 : decode cX12_load 105 = .ok (.iconst 0, 1) := by decide +kernel
theorem dX12_load_106 : decode cX12_load 106 = .ok (.putfield 388, 3) := by decide +kernel
theorem dX12_load_109 : decode cX12_load 109 = .ok (.aload_n 0, 1) := by decide +kernel
theorem dX12_load_110 : decode cX12_load 110 = .ok (.getfield 388, 3) := by decide +kernel
theorem dX12_load_113 : decode cX12_load 113 = .ok (.ifCond .le 5, 3) := by decide +kernel
theorem dX12_load_116 : decode cX12_load 116 = .ok (.iconst 0, 1) := by decide +kernel
theorem dX12_load_117 : decode cX12_load 117 = .ok (.ireturn, 1) := by decide +kernel
theorem dX12_load_118 : decode cX12_load 118 = .ok (.aload_n 0, 1) := by decide +kernel
theorem dX12_load_119 : decode cX12_load 119 = .ok (.iload_n 1, 1) := by decide +kernel
theorem dX12_load_120 : decode cX12_load 120 = .ok (.invokevirtual 1024, 3) := by decide +kernel
theorem dX12_load_123 : decode cX12_load 123 = .ok (.aload_n 0, 1) := by decide +kernel
theorem dX12_load_124 : decode cX12_load 124 = .ok (.getfield 183, 3) := by decide +kernel
theorem dX12_load_127 : decode cX12_load 127 = .ok (.iload_n 1, 1) := by decide +kernel
theorem dX12_load_128 : decode cX12_load 128 = .ok (.iaload, 1) := by decide +kernel
theorem dX12_load_129 : decode cX12_load 129 = .ok (.ireturn, 1) := by decide +kernel
theorem dX12_look_0 : decode cX12_look 0 = .ok (.aload_n 0, 1) := by decide +kernel
theorem dX12_look_1 : decode cX12_look 1 = .ok (.getfield 103, 3) := by decide +kernel
theorem dX12_look_4 : decode cX12_look 4 = .ok (.aload_n 0, 1) := by decide +kernel
theorem dX12_look_5 : decode cX12_look 5 = .ok (.getfield 156, 3) := by decide +kernel
theorem dX12_look_8 : decode cX12_look 8 = .ok (.iload_n 1, 1) := by decide +kernel
theorem dX12_look_9 : decode cX12_look 9 = .ok (.iaload, 1) := by decide +kernel
theorem dX12_look_10 : decode cX12_look 10 = .ok (.iaload, 1) := by decide +kernel
theorem dX12_look_11 : decode cX12_look 11 = .ok (.iconst 5, 1) := by decide +kernel
theorem dX12_look_12 : decode cX12_look 12 = .ok (.if_icmp .ne 7, 3) := by decide +kernel
theorem dX12_look_15 : decode cX12_look 15 = .ok (.iconst 1, 1) := by decide +kernel
theorem dX12_look_16 : decode cX12_look 16 = .ok (.goto 4, 3) := by decide +kernel
theorem dX12_look_19 : decode cX12_look 19 = .ok (.iconst 0, 1) := by decide +kernel
theorem dX12_look_20 : decode cX12_look 20 = .ok (.istore 7, 2) := by decide +kernel
theorem dX12_look_22 : decode cX12_look 22 = .ok (.iload 7, 2) := by decide +kernel
theorem dX12_look_24 : decode cX12_look 24 = .ok (.ifCond .eq 9, 3) := by decide +kernel
theorem dX12_look_27 : decode cX12_look 27 = .ok (.ldc2_w 433, 3) := by decide +kernel
theorem dX12_look_30 : decode cX12_look 30 = .ok (.goto 4, 3) := by decide +kernel
theorem dX12_look_33 : decode cX12_look 33 = .ok (.lconst 0, 1) := by decide +kernel
theorem dX12_look_34 : decode cX12_look 34 = .ok (.lstore 8, 2) := by decide +kernel
theorem dX12_look_36 : decode cX12_look 36 = .ok (.aload_n 0, 1) := by decide +kernel
theorem dX12_look_37 : decode cX12_look 37 = .ok (.getfield 159, 3) := by decide +kernel
theorem dX12_look_40 : decode cX12_look 40 = .ok (.iload_n 1, 1) := by decide +kernel
theorem dX12_look_41 : decode cX12_look 41 = .ok (.iaload, 1) := by decide +kernel
theorem dX12_look_42 : decode cX12_look 42 = .ok (.ifCond .eq 87, 3) := by decide +kernel
theorem dX12_look_45 : decode cX12_look 45 = .ok (.aload_n 0, 1) := by decide +kernel
theorem dX12_look_46 : decode cX12_look 46 = .ok (.getfield 159, 3) := by decide +kernel
theorem dX12_look_49 : decode cX12_look 49 = .ok (.iload_n 1, 1) := by decide +kernel
theorem dX12_look_50 : decode cX12_look 50 = .ok (.iaload, 1) := by decide +kernel
theorem dX12_look_51 : decode cX12_look 51 = .ok (.iconst 1, 1) := by decide +kernel
theorem dX12_look_52 : decode cX12_look 52 = .ok (.if_icmp .ne 10, 3) := by decide +kernel
theorem dX12_look_55 : decode cX12_look 55 = .ok (.lload 5, 2) := by decide +kernel
theorem dX12_look_57 : decode cX12_look 57 = .ok (.lload_n 3, 1) := by decide +kernel
theorem dX12_look_58 : decode cX12_look 58 = .ok (.lcmp, 1) := by decide +kernel
theorem dX12_look_59 : decode cX12_look 59 = .ok (.ifCond .ne 70, 3) := by decide +kernel
theorem dX12_look_62 : decode cX12_look 62 = .ok (.aload_n 0, 1) := by decide +kernel
theorem dX12_look_63 : decode cX12_look 63 = .ok (.getfield 159, 3) := by decide +kernel
theorem dX12_look_66 : decode cX12_look 66 = .ok (.iload_n 1, 1) := by decide +kernel
theorem dX12_look_67 : decode cX12_look 67 = .ok (.iaload, 1) := by decide +kernel
theorem dX12_look_68 : decode cX12_look 68 = .ok (.iconst 2, 1) := by decide +kernel
theorem dX12_look_69 : decode cX12_look 69 = .ok (.if_icmp .ne 18, 3) := by decide +kernel
theorem dX12_look_72 : decode cX12_look 72 = .ok (.lload 5, 2) := by decide +kernel
theorem dX12_look_74 : decode cX12_look 74 = .ok (.lload 8, 2) := by decide +kernel
theorem dX12_look_76 : decode cX12_look 76 = .ok (.lcmp, 1) := by decide +kernel
theorem dX12_look_77 : decode cX12_look 77 = .ok (.ifCond .ne 10, 3) := by decide +kernel
theorem dX12_look_80 : decode cX12_look 80 = .ok (.lload_n 3, 1) := by decide +kernel
theorem dX12_look_81 : decode cX12_look 81 = .ok (.lload 8, 2) := by decide +kernel
theorem dX12_look_83 : decode cX12_look 83 = .ok (.lcmp, 1) := by decide +kernel
theorem dX12_look_84 : decode cX12_look 84 = .ok (.ifCond .ne 45, 3) := by decide +kernel
theorem dX12_look_87 : decode cX12_look 87 = .ok (.aload_n 0, 1) := by decide +kernel
theorem dX12_look_88 : decode cX12_look 88 = .ok (.getfield 159, 3) := by decide +kernel
theorem dX12_look_91 : decode cX12_look 91 = .ok (.iload_n 1, 1) := by decide +kernel
theorem dX12_look_92 : decode cX12_look 92 = .ok (.iaload, 1) := by decide +kernel
theorem dX12_look_93 : decode cX12_look 93 = .ok (.iconst 3, 1) := by decide +kernel
theorem dX12_look_94 : decode cX12_look 94 = .ok (.if_icmp .ne 39, 3) := by decide +kernel
theorem dX12_look_97 : decode cX12_look 97 = .ok (.iload 7, 2) := by decide +kernel
theorem dX12_look_99 : decode cX12_look 99 = .ok (.ifCond .eq 23, 3) := by decide +kernel
theorem dX12_look_102 : decode cX12_look 102 = .ok (.lload_n 3, 1) := by decide +kernel
theorem dX12_look_103 : decode cX12_look 103 = .ok (.ldc2_w 433, 3) := by decide +kernel
theorem dX12_look_106 : decode cX12_look 106 = .ok (.lcmp, 1) := by decide +kernel
theorem dX12_look_107 : decode cX12_look 107 = .ok (.ifCond .ne 26, 3) := by decide +kernel
theorem dX12_look_110 : decode cX12_look 110 = .ok (.lload 5, 2) := by decide +kernel
theorem dX12_look_112 : decode cX12_look 112 = .ok (.ldc2_w 433, 3) := by decide +kernel
theorem dX12_look_115 : decode cX12_look 115 = .ok (.lcmp, 1) := by decide +kernel
theorem dX12_look_116 : decode cX12_look 116 = .ok (.ifCond .eq 17, 3) := by decide +kernel
theorem dX12_look_119 : decode cX12_look 119 = .ok (.goto 10, 3) := by decide +kernel
theorem dX12_look_122 : decode cX12_look 122 = .ok (.lload 5, 2) := by decide +kernel
theorem dX12_look_124 : decode cX12_look 124 = .ok (.lload_n 3, 1) := by decide +kernel
theorem dX12_look_125 : decode cX12_look 125 = .ok (.lcmp, 1) := by decide +kernel
theorem dX12_look_126 : decode cX12_look 126 = .ok (.ifCond .le 7, 3) := by decide +kernel
theorem dX12_look_129 : decode cX12_look 129 = .ok (.iconst 1, 1) := by decide +kernel
theorem dX12_look_130 : decode cX12_look 130 = .ok (.goto 4, 3) := by decide +kernel
theorem dX12_look_133 : decode cX12_look 133 = .ok (.iconst 0, 1) := by decide +kernel
theorem dX12_look_134 : decode cX12_look 134 = .ok (.istore 10, 2) := by decide +kernel
theorem dX12_look_136 : decode cX12_look 136 = .ok (.iload 10, 2) := by decide +kernel
theorem dX12_look_138 : decode cX12_look 138 = .ok (.ifCond .ne 4, 3) := by decide +kernel
theorem dX12_look_141 : decode cX12_look 141 = .ok (.return_, 1) := by decide +kernel
theorem dX12_look_142 : decode cX12_look 142 = .ok (.bipush 6, 2) := by decide +kernel
theorem dX12_look_144 : decode cX12_look 144 = .ok (.iload_n 1, 1) := by decide +kernel
theorem dX12_look_145 : decode cX12_look 145 = .ok (.imul, 1) := by decide +kernel
theorem dX12_look_146 : decode cX12_look 146 = .ok (.istore 11, 2) := by decide +kernel
theorem dX12_look_148 : decode cX12_look 148 = .ok (.aload_n 0, 1) := by decide +kernel
theorem dX12_look_149 : decode cX12_look 149 = .ok (.getfield 162, 3) := by decide +kernel
theorem dX12_look_152 : decode cX12_look 152 = .ok (.iload_n 1, 1) := by decide +kernel
theorem dX12_look_153 : decode cX12_look 153 = .ok (.iaload, 1) := by decide +kernel
theorem dX12_look_154 : decode cX12_look 154 = .ok (.bipush 6, 2) := by decide +kernel
theorem dX12_look_156 : decode cX12_look 156 = .ok (.if_icmp .ne 96, 3) := by decide +kernel
theorem dX12_look_159 : decode cX12_look 159 = .ok (.iload 11, 2) := by decide +kernel
theorem dX12_look_161 : decode cX12_look 161 = .ok (.istore 12, 2) := by decide +kernel
theorem dX12_look_163 : decode cX12_look 163 = .ok (.iload 12, 2) := by decide +kernel
theorem dX12_look_165 : decode cX12_look 165 = .ok (.iload 11, 2) := by decide +kernel
theorem dX12_look_167 : decode cX12_look 167 = .ok (.iconst 5, 1) := by decide +kernel
theorem dX12_look_168 : decode cX12_look 168 = .ok (.iadd, 1) := by decide +kernel
theorem dX12_look_169 : decode cX12_look 169 = .ok (.if_icmp .ge 73, 3) := by decide +kernel
theorem dX12_look_172 : decode cX12_look 172 = .ok (.aload_n 0, 1) := by decide +kernel
theorem dX12_look_173 : decode cX12_look 173 = .ok (.getfield 165, 3) := by decide +kernel
theorem dX12_look_176 : decode cX12_look 176 = .ok (.iload 12, 2) := by decide +kernel
theorem dX12_look_178 : decode cX12_look 178 = .ok (.aload_n 0, 1) := by decide +kernel
theorem dX12_look_179 : decode cX12_look 179 = .ok (.getfield 165, 3) := by decide +kernel
theorem dX12_look_182 : decode cX12_look 182 = .ok (.iload 12, 2) := by decide +kernel
theorem dX12_look_184 : decode cX12_look 184 = .ok (.iconst 1, 1) := by decide +kernel
theorem dX12_look_185 : decode cX12_look 185 = .ok (.iadd, 1) := by decide +kernel
theorem dX12_look_186 : decode cX12_look 186 = .ok (.iaload, 1) := by decide +kernel
theorem dX12_look_187 : decode cX12_look 187 = .ok (.iastore, 1) := by decide +kernel
theorem dX12_look_188 : decode cX12_look 188 = .ok (.aload_n 0, 1) := by decide +kernel
theorem dX12_look_189 : decode cX12_look 189 = .ok (.getfield 168, 3) := by decide +kernel
theorem dX12_look_192 : decode cX12_look 192 = .ok (.iload 12, 2) := by decide +kernel
theorem dX12_look_194 : decode cX12_look 194 = .ok (.aload_n 0, 1) := by decide +kernel
theorem dX12_look_195 : decode cX12_look 195 = .ok (.getfield 168, 3) := by decide +kernel
theorem dX12_look_198 : decode cX12_look 198 = .ok (.iload 12, 2) := by decide +kernel
theorem dX12_look_200 : decode cX12_look 200 = .ok (.iconst 1, 1) := by decide +kernel
theorem dX12_look_201 : decode cX12_look 201 = .ok (.iadd, 1) := by decide +kernel
theorem dX12_look_202 : decode cX12_look 202 = .ok (.iaload, 1) := by decide +kernel
theorem dX12_look_203 : decode cX12_look 203 = .ok (.iastore, 1) := by decide +kernel
theorem dX12_look_204 : decode cX12_look 204 = .ok (.aload_n 0, 1) := by decide +kernel
theorem dX12_look_205 : decode cX12_look 205 = .ok (.getfield 171, 3) := by decide +kernel
theorem dX12_look_208 : decode cX12_look 208 = .ok (.iload 12, 2) := by decide +kernel
theorem dX12_look_210 : decode cX12_look 210 = .ok (.aload_n 0, 1) := by decide +kernel
theorem dX12_look_211 : decode cX12_look 211 = .ok (.getfield 171, 3) := by decide +kernel
theorem dX12_look_214 : decode cX12_look 214 = .ok (.iload 12, 2) := by decide +kernel
theorem dX12_look_216 : decode cX12_look 216 = .ok (.iconst 1, 1) := by decide +kernel
theorem dX12_look_217 : decode cX12_look 217 = .ok (.iadd, 1) := by decide +kernel
theorem dX12_look_218 : decode cX12_look 218 = .ok (.laload, 1) := by decide +kernel
theorem dX12_look_219 : decode cX12_look 219 = .ok (.lastore, 1) := by decide +kernel
theorem dX12_look_220 : decode cX12_look 220 = .ok (.aload_n 0, 1) := by decide +kernel
theorem dX12_look_221 : decode cX12_look 221 = .ok (.getfield 174, 3) := by decide +kernel
theorem dX12_look_224 : decode cX12_look 224 = .ok (.iload 12, 2) := by decide +kernel
theorem dX12_look_226 : decode cX12_look 226 = .ok (.aload_n 0, 1) := by decide +kernel
theorem dX12_look_227 : decode cX12_look 227 = .ok (.getfield 174, 3) := by decide +kernel
theorem dX12_look_230 : decode cX12_look 230 = .ok (.iload 12, 2) := by decide +kernel
theorem dX12_look_232 : decode cX12_look 232 = .ok (.iconst 1, 1) := by decide +kernel
theorem dX12_look_233 : decode cX12_look 233 = .ok (.iadd, 1) := by decide +kernel
theorem dX12_look_234 : decode cX12_look 234 = .ok (.laload, 1) := by decide +kernel
theorem dX12_look_235 : decode cX12_look 235 = .ok (.lastore, 1) := by decide +kernel
theorem dX12_look_236 : decode cX12_look 236 = .ok (.iinc 12 1, 3) := by decide +kernel
theorem dX12_look_239 : decode cX12_look 239 = .ok (.goto (-76), 3) := by decide +kernel
theorem dX12_look_242 : decode cX12_look 242 = .ok (.aload_n 0, 1) := by decide +kernel
theorem dX12_look_243 : decode cX12_look 243 = .ok (.getfield 162, 3) := by decide +kernel
theorem dX12_look_246 : decode cX12_look 246 = .ok (.iload_n 1, 1) := by decide +kernel
theorem dX12_look_247 : decode cX12_look 247 = .ok (.dup2, 1) := by decide +kernel
theorem dX12_look_248 : decode cX12_look 248 = .ok (.iaload, 1) := by decide +kernel
theorem dX12_look_249 : decode cX12_look 249 = .ok (.iconst 1, 1) := by decide +kernel
theorem dX12_look_250 : decode cX12_look 250 = .ok (.isub, 1) := by decide +kernel
theorem dX12_look_251 : decode cX12_look 251 = .ok (.iastore, 1) := by decide +kernel
theorem dX12_look_252 : decode cX12_look 252 = .ok (.iload 11, 2) := by decide +kernel
theorem dX12_look_254 : decode cX12_look 254 = .ok (.aload_n 0, 1) := by decide +kernel
theorem dX12_look_255 : decode cX12_look 255 = .ok (.getfield 162, 3) := by decide +kernel
theorem dX12_look_258 : decode cX12_look 258 = .ok (.iload_n 1, 1) := by decide +kernel
theorem dX12_look_259 : decode cX12_look 259 = .ok (.iaload, 1) := by decide +kernel
theorem dX12_look_260 : decode cX12_look 260 = .ok (.iadd, 1) := by decide +kernel
theorem dX12_look_261 : decode cX12_look 261 = .ok (.istore 12, 2) := by decide +kernel
theorem dX12_look_263 : decode cX12_look 263 = .ok (.aload_n 0, 1) := by decide +kernel
theorem dX12_look_264 : decode cX12_look 264 = .ok (.getfield 165, 3) := by decide +kernel
theorem dX12_look_267 : decode cX12_look 267 = .ok (.iload 12, 2) := by decide +kernel
theorem dX12_look_269 : decode cX12_look 269 = .ok (.aload_n 0, 1) := by decide +kernel
theorem dX12_look_270 : decode cX12_look 270 = .ok (.getfield 482, 3) := by decide +kernel
theorem dX12_look_273 : decode cX12_look 273 = .ok (.iastore, 1) := by decide +kernel
theorem dX12_look_274 : decode cX12_look 274 = .ok (.aload_n 0, 1) := by decide +kernel
theorem dX12_look_275 : decode cX12_look 275 = .ok (.getfield 168, 3) := by decide +kernel
theorem dX12_look_278 : decode cX12_look 278 = .ok (.iload 12, 2) := by decide +kernel
theorem dX12_look_280 : decode cX12_look 280 = .ok (.iload_n 2, 1) := by decide +kernel
theorem dX12_look_281 : decode cX12_look 281 = .ok (.iastore, 1) := by decide +kernel
theorem dX12_look_282 : decode cX12_look 282 = .ok (.aload_n 0, 1) := by decide +kernel
theorem dX12_look_283 : decode cX12_look 283 = .ok (.getfield 171, 3) := by decide +kernel
theorem dX12_look_286 : decode cX12_look 286 = .ok (.iload 12, 2) := by decide +kernel
theorem dX12_look_288 : decode cX12_look 288 = .ok (.lload_n 3, 1) := by decide +kernel
theorem dX12_look_289 : decode cX12_look 289 = .ok (.lastore, 1) := by decide +kernel
theorem dX12_look_290 : decode cX12_look 290 = .ok (.aload_n 0, 1) := by decide +kernel
theorem dX12_look_291 : decode cX12_look 291 = .ok (.getfield 174, 3) := by decide +kernel
theorem dX12_look_294 : decode cX12_look 294 = .ok (.iload 12, 2) := by decide +kernel
theorem dX12_look_296 : decode cX12_look 296 = .ok (.lload 5, 2) := by decide +kernel
theorem dX12_look_298 : decode cX12_look 298 = .ok (.lastore, 1) := by decide +kernel
theorem dX12_look_299 : decode cX12_look 299 = .ok (.aload_n 0, 1) := by decide +kernel
theorem dX12_look_300 : decode cX12_look 300 = .ok (.getfield 162, 3) := by decide +kernel
theorem dX12_look_303 : decode cX12_look 303 = .ok (.iload_n 1, 1) := by decide +kernel
theorem dX12_look_304 : decode cX12_look 304 = .ok (.dup2, 1) := by decide +kernel
theorem dX12_look_305 : decode cX12_look 305 = .ok (.iaload, 1) := by decide +kernel
theorem dX12_look_306 : decode cX12_look 306 = .ok (.iconst 1, 1) := by decide +kernel
theorem dX12_look_307 : decode cX12_look 307 = .ok (.iadd, 1) := by decide +kernel
theorem dX12_look_308 : decode cX12_look 308 = .ok (.iastore, 1) := by decide +kernel
theorem dX12_look_309 : decode cX12_look 309 = .ok (.return_, 1) := by decide +kernel
theorem dX12_lookAtPromises_0 : decode cX12_lookAtPromises 0 = .ok (.iconst 0, 1) := by decide +kernel
theorem dX12_lookAtPromises_1 : decode cX12_lookAtPromises 1 = .ok (.istore_n 2, 1) := by decide +kernel
theorem dX12_lookAtPromises_2 : decode cX12_lookAtPromises 2 = .ok (.iconst 0, 1) := by decide +kernel
theorem dX12_lookAtPromises_3 : decode cX12_lookAtPromises 3 = .ok (.istore_n 3, 1) := by decide +kernel
theorem dX12_lookAtPromises_4 : decode cX12_lookAtPromises 4 = .ok (.iload_n 3, 1) := by decide +kernel
theorem dX12_lookAtPromises_5 : decode cX12_lookAtPromises 5 = .ok (.aload_n 0, 1) := by decide +kernel
theorem dX12_lookAtPromises_6 : decode cX12_lookAtPromises 6 = .ok (.getfield 872, 3) := by decide +kernel
theorem dX12_lookAtPromises_9 : decode cX12_lookAtPromises 9 = .ok (.if_icmp .ge 30, 3) := by decide +kernel
theorem dX12_lookAtPromises_12 : decode cX12_lookAtPromises 12 = .ok (.iload_n 2, 1) := by decide +kernel
theorem dX12_lookAtPromises_13 : decode cX12_lookAtPromises 13 = .ok (.ifCond .ne 14, 3) := by decide +kernel
theorem dX12_lookAtPromises_16 : decode cX12_lookAtPromises 16 = .ok (.aload_n 0, 1) := by decide +kernel
theorem dX12_lookAtPromises_17 : decode cX12_lookAtPromises 17 = .ok (.getfield 312, 3) := by decide +kernel
theorem dX12_lookAtPromises_20 : decode cX12_lookAtPromises 20 = .ok (.iload_n 3, 1) := by decide +kernel
theorem dX12_lookAtPromises_21 : decode cX12_lookAtPromises 21 = .ok (.iaload, 1) := by decide +kernel
theorem dX12_lookAtPromises_22 : decode cX12_lookAtPromises 22 = .ok (.bipush (-2), 2) := by decide +kernel
theorem dX12_lookAtPromises_24 : decode cX12_lookAtPromises 24 = .ok (.if_icmp .ne 7, 3) := by decide +kernel
theorem dX12_lookAtPromises_27 : decode cX12_lookAtPromises 27 = .ok (.iconst 1, 1) := by decide +kernel
theorem dX12_lookAtPromises_28 : decode cX12_lookAtPromises 28 = .ok (.goto 4, 3) := by decide +kernel
theorem dX12_lookAtPromises_31 : decode cX12_lookAtPromises 31 = .ok (.iconst 0, 1) := by decide +kernel
theorem dX12_lookAtPromises_32 : decode cX12_lookAtPromises 32 = .ok (.istore_n 2, 1) := by decide +kernel
theorem dX12_lookAtPromises_33 : decode cX12_lookAtPromises 33 = .ok (.iinc 3 1, 3) := by decide +kernel
theorem dX12_lookAtPromises_36 : decode cX12_lookAtPromises 36 = .ok (.goto (-32), 3) := by decide +kernel
theorem dX12_lookAtPromises_39 : decode cX12_lookAtPromises 39 = .ok (.iload_n 2, 1) := by decide +kernel
theorem dX12_lookAtPromises_40 : decode cX12_lookAtPromises 40 = .ok (.ifCond .ne 4, 3) := by decide +kernel
theorem dX12_lookAtPromises_43 : decode cX12_lookAtPromises 43 = .ok (.return_, 1) := by decide +kernel
theorem dX12_lookAtPromises_44 : decode cX12_lookAtPromises 44 = .ok (.aload_n 0, 1) := by decide +kernel
theorem dX12_lookAtPromises_45 : decode cX12_lookAtPromises 45 = .ok (.invokevirtual 875, 3) := by decide +kernel
theorem dX12_lookAtPromises_48 : decode cX12_lookAtPromises 48 = .ok (.iconst 0, 1) := by decide +kernel
theorem dX12_lookAtPromises_49 : decode cX12_lookAtPromises 49 = .ok (.istore_n 3, 1) := by decide +kernel
theorem dX12_lookAtPromises_50 : decode cX12_lookAtPromises 50 = .ok (.iload_n 3, 1) := by decide +kernel
theorem dX12_lookAtPromises_51 : decode cX12_lookAtPromises 51 = .ok (.aload_n 0, 1) := by decide +kernel
theorem dX12_lookAtPromises_52 : decode cX12_lookAtPromises 52 = .ok (.getfield 872, 3) := by decide +kernel
theorem dX12_lookAtPromises_55 : decode cX12_lookAtPromises 55 = .ok (.if_icmp .ge 35, 3) := by decide +kernel
theorem dX12_lookAtPromises_58 : decode cX12_lookAtPromises 58 = .ok (.aload_n 0, 1) := by decide +kernel
theorem dX12_lookAtPromises_59 : decode cX12_lookAtPromises 59 = .ok (.getfield 312, 3) := by decide +kernel
theorem dX12_lookAtPromises_62 : decode cX12_lookAtPromises 62 = .ok (.iload_n 3, 1) := by decide +kernel
theorem dX12_lookAtPromises_63 : decode cX12_lookAtPromises 63 = .ok (.iaload, 1) := by decide +kernel
theorem dX12_lookAtPromises_64 : decode cX12_lookAtPromises 64 = .ok (.bipush (-2), 2) := by decide +kernel
theorem dX12_lookAtPromises_66 : decode cX12_lookAtPromises 66 = .ok (.if_icmp .ne 18, 3) := by decide +kernel
theorem dX12_lookAtPromises_69 : decode cX12_lookAtPromises 69 = .ok (.aload_n 0, 1) := by decide +kernel
theorem dX12_lookAtPromises_70 : decode cX12_lookAtPromises 70 = .ok (.iload_n 3, 1) := by decide +kernel
theorem dX12_lookAtPromises_71 : decode cX12_lookAtPromises 71 = .ok (.invokevirtual 878, 3) := by decide +kernel
theorem dX12_lookAtPromises_74 : decode cX12_lookAtPromises 74 = .ok (.ifCond .ne 10, 3) := by decide +kernel
theorem dX12_lookAtPromises_77 : decode cX12_lookAtPromises 77 = .ok (.aload_n 0, 1) := by decide +kernel
theorem dX12_lookAtPromises_78 : decode cX12_lookAtPromises 78 = .ok (.getfield 312, 3) := by decide +kernel
theorem dX12_lookAtPromises_81 : decode cX12_lookAtPromises 81 = .ok (.iload_n 3, 1) := by decide +kernel
theorem dX12_lookAtPromises_82 : decode cX12_lookAtPromises 82 = .ok (.iload_n 1, 1) := by decide +kernel
theorem dX12_lookAtPromises_83 : decode cX12_lookAtPromises 83 = .ok (.iastore, 1) := by decide +kernel
theorem dX12_lookAtPromises_84 : decode cX12_lookAtPromises 84 = .ok (.iinc 3 1, 3) := by decide +kernel
theorem dX12_lookAtPromises_87 : decode cX12_lookAtPromises 87 = .ok (.goto (-37), 3) := by decide +kernel
theorem dX12_lookAtPromises_90 : decode cX12_lookAtPromises 90 = .ok (.return_, 1) := by decide +kernel
theorem dX12_lost_0 : decode cX12_lost 0 = .ok (.aload_n 0, 1) := by decide +kernel
theorem dX12_lost_1 : decode cX12_lost 1 = .ok (.aload_n 0, 1) := by decide +kernel
theorem dX12_lost_2 : decode cX12_lost 2 = .ok (.iload_n 1, 1) := by decide +kernel
theorem dX12_lost_3 : decode cX12_lost 3 = .ok (.invokevirtual 542, 3) := by decide +kernel
theorem dX12_lost_6 : decode cX12_lost 6 = .ok (.ifCond .eq 7, 3) := by decide +kernel
theorem dX12_lost_9 : decode cX12_lost 9 = .ok (.iconst 0, 1) := by decide +kernel
theorem dX12_lost_10 : decode cX12_lost 10 = .ok (.goto 4, 3) := by decide +kernel
theorem dX12_lost_13 : decode cX12_lost 13 = .ok (.iconst 1, 1) := by decide +kernel
theorem dX12_lost_14 : decode cX12_lost 14 = .ok (.putfield 388, 3) := by decide +kernel
theorem dX12_lost_17 : decode cX12_lost 17 = .ok (.aload_n 0, 1) := by decide +kernel
theorem dX12_lost_18 : decode cX12_lost 18 = .ok (.getfield 388, 3) := by decide +kernel
theorem dX12_lost_21 : decode cX12_lost 21 = .ok (.ifCond .le 5, 3) := by decide +kernel
theorem dX12_lost_24 : decode cX12_lost 24 = .ok (.iconst 0, 1) := by decide +kernel
theorem dX12_lost_25 : decode cX12_lost 25 = .ok (.ireturn, 1) := by decide +kernel
theorem dX12_lost_26 : decode cX12_lost 26 = .ok (.aload_n 0, 1) := by decide +kernel
theorem dX12_lost_27 : decode cX12_lost 27 = .ok (.iload_n 1, 1) := by decide +kernel
theorem dX12_lost_28 : decode cX12_lost 28 = .ok (.iconst (-1), 1) := by decide +kernel
theorem dX12_lost_29 : decode cX12_lost 29 = .ok (.iconst (-1), 1) := by decide +kernel
theorem dX12_lost_30 : decode cX12_lost 30 = .ok (.iconst 1, 1) := by decide +kernel
theorem dX12_lost_31 : decode cX12_lost 31 = .ok (.invokevirtual 591, 3) := by decide +kernel
theorem dX12_lost_34 : decode cX12_lost 34 = .ok (.aload_n 0, 1) := by decide +kernel
theorem dX12_lost_35 : decode cX12_lost 35 = .ok (.getfield 225, 3) := by decide +kernel
theorem dX12_lost_38 : decode cX12_lost 38 = .ok (.iload_n 1, 1) := by decide +kernel
