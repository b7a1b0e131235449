theorem dX5_allSizes_18 : decode cX5_allSizes 18 = .ok (.iload_n 3, 1) := by decide +kernel
theorem dX5_allSizes_19 : decode cX5_allSizes 19 = .ok (.iaload, 1) := by decide +kernel
theorem dX5_allSizes_20 : decode cX5_allSizes 20 = .ok (.aload_n 0, 1) := by decide +kernel
theorem dX5_allSizes_21 : decode cX5_allSizes 21 = .ok (.getfield 18, 3) := by decide +kernel
theorem dX5_allSizes_24 : decode cX5_allSizes 24 = .ok (.iload_n 3, 1) := by decide +kernel
theorem dX5_allSizes_25 : decode cX5_allSizes 25 = .ok (.iaload, 1) := by decide +kernel
theorem dX5_allSizes_26 : decode cX5_allSizes 26 = .ok (.invokevirtual 198, 3) := by decide +kernel
theorem dX5_allSizes_29 : decode cX5_allSizes 29 = .ok (.iadd, 1) := by decide +kernel
theorem dX5_allSizes_30 : decode cX5_allSizes 30 = .ok (.istore_n 2, 1) := by decide +kernel
theorem dX5_allSizes_31 : decode cX5_allSizes 31 = .ok (.iinc 3 1, 3) := by decide +kernel
theorem dX5_allSizes_34 : decode cX5_allSizes 34 = .ok (.goto (-30), 3) := by decide +kernel
theorem dX5_allSizes_37 : decode cX5_allSizes 37 = .ok (.iload_n 2, 1) := by decide +kernel
theorem dX5_allSizes_38 : decode cX5_allSizes 38 = .ok (.ireturn, 1) := by decide +kernel
theorem dX5_countHeirs_0 : decode cX5_countHeirs 0 = .ok (.iconst 0, 1) := by decide +kernel
theorem dX5_countHeirs_1 : decode cX5_countHeirs 1 = .ok (.istore_n 3, 1) := by decide +kernel
theorem dX5_countHeirs_2 : decode cX5_countHeirs 2 = .ok (.iconst 0, 1) := by decide +kernel
theorem dX5_countHeirs_3 : decode cX5_countHeirs 3 = .ok (.istore 4, 2) := by decide +kernel
theorem dX5_countHeirs_5 : decode cX5_countHeirs 5 = .ok (.iload 4, 2) := by decide +kernel
theorem dX5_countHeirs_7 : decode cX5_countHeirs 7 = .ok (.aload_n 0, 1) := by decide +kernel
theorem dX5_countHeirs_8 : decode cX5_countHeirs 8 = .ok (.getfield 82, 3) := by decide +kernel
theorem dX5_countHeirs_11 : decode cX5_countHeirs 11 = .ok (.if_icmp .ge 40, 3) := by decide +kernel
theorem dX5_countHeirs_14 : decode cX5_countHeirs 14 = .ok (.aload_n 0, 1) := by decide +kernel
theorem dX5_countHeirs_15 : decode cX5_countHeirs 15 = .ok (.getfield 15, 3) := by decide +kernel
theorem dX5_countHeirs_18 : decode cX5_countHeirs 18 = .ok (.iload 4, 2) := by decide +kernel
theorem dX5_countHeirs_20 : decode cX5_countHeirs 20 = .ok (.iaload, 1) := by decide +kernel
theorem dX5_countHeirs_21 : decode cX5_countHeirs 21 = .ok (.invokestatic 202, 3) := by decide +kernel
theorem dX5_countHeirs_24 : decode cX5_countHeirs 24 = .ok (.ifCond .ne 21, 3) := by decide +kernel
theorem dX5_countHeirs_27 : decode cX5_countHeirs 27 = .ok (.aload_n 1, 1) := by decide +kernel
theorem dX5_countHeirs_28 : decode cX5_countHeirs 28 = .ok (.aload_n 0, 1) := by decide +kernel
theorem dX5_countHeirs_29 : decode cX5_countHeirs 29 = .ok (.getfield 15, 3) := by decide +kernel
theorem dX5_countHeirs_32 : decode cX5_countHeirs 32 = .ok (.iload 4, 2) := by decide +kernel
theorem dX5_countHeirs_34 : decode cX5_countHeirs 34 = .ok (.iaload, 1) := by decide +kernel
theorem dX5_countHeirs_35 : decode cX5_countHeirs 35 = .ok (.iload_n 2, 1) := by decide +kernel
theorem dX5_countHeirs_36 : decode cX5_countHeirs 36 = .ok (.invokevirtual 205, 3) := by decide +kernel
theorem dX5_countHeirs_39 : decode cX5_countHeirs 39 = .ok (.ifCond .eq 6, 3) := by decide +kernel
theorem dX5_countHeirs_42 : decode cX5_countHeirs 42 = .ok (.iinc 3 1, 3) := by decide +kernel
theorem dX5_countHeirs_45 : decode cX5_countHeirs 45 = .ok (.iinc 4 1, 3) := by decide +kernel
theorem dX5_countHeirs_48 : decode cX5_countHeirs 48 = .ok (.goto (-43), 3) := by decide +kernel
theorem dX5_countHeirs_51 : decode cX5_countHeirs 51 = .ok (.iload_n 3, 1) := by decide +kernel
theorem dX5_countHeirs_52 : decode cX5_countHeirs 52 = .ok (.ireturn, 1) := by decide +kernel
theorem dX5_countOf_0 : decode cX5_countOf 0 = .ok (.iconst 0, 1) := by decide +kernel
theorem dX5_countOf_1 : decode cX5_countOf 1 = .ok (.istore_n 2, 1) := by decide +kernel
theorem dX5_countOf_2 : decode cX5_countOf 2 = .ok (.iconst 0, 1) := by decide +kernel
theorem dX5_countOf_3 : decode cX5_countOf 3 = .ok (.istore_n 3, 1) := by decide +kernel
theorem dX5_countOf_4 : decode cX5_countOf 4 = .ok (.iload_n 3, 1) := by decide +kernel
theorem dX5_countOf_5 : decode cX5_countOf 5 = .ok (.aload_n 0, 1) := by decide +kernel
theorem dX5_countOf_6 : decode cX5_countOf 6 = .ok (.getfield 82, 3) := by decide +kernel
theorem dX5_countOf_9 : decode cX5_countOf 9 = .ok (.if_icmp .ge 22, 3) := by decide +kernel
theorem dX5_countOf_12 : decode cX5_countOf 12 = .ok (.aload_n 0, 1) := by decide +kernel
theorem dX5_countOf_13 : decode cX5_countOf 13 = .ok (.getfield 15, 3) := by decide +kernel
theorem dX5_countOf_16 : decode cX5_countOf 16 = .ok (.iload_n 3, 1) := by decide +kernel
theorem dX5_countOf_17 : decode cX5_countOf 17 = .ok (.iaload, 1) := by decide +kernel
theorem dX5_countOf_18 : decode cX5_countOf 18 = .ok (.iload_n 1, 1) := by decide +kernel
theorem dX5_countOf_19 : decode cX5_countOf 19 = .ok (.if_icmp .ne 6, 3) := by decide +kernel
theorem dX5_countOf_22 : decode cX5_countOf 22 = .ok (.iinc 2 1, 3) := by decide +kernel
theorem dX5_countOf_25 : decode cX5_countOf 25 = .ok (.iinc 3 1, 3) := by decide +kernel
theorem dX5_countOf_28 : decode cX5_countOf 28 = .ok (.goto (-24), 3) := by decide +kernel
theorem dX5_countOf_31 : decode cX5_countOf 31 = .ok (.iload_n 2, 1) := by decide +kernel
theorem dX5_countOf_32 : decode cX5_countOf 32 = .ok (.ireturn, 1) := by decide +kernel
theorem dX5_dominatedBy_0 : decode cX5_dominatedBy 0 = .ok (.aload_n 0, 1) := by decide +kernel
theorem dX5_dominatedBy_1 : decode cX5_dominatedBy 1 = .ok (.invokevirtual 162, 3) := by decide +kernel
theorem dX5_dominatedBy_4 : decode cX5_dominatedBy 4 = .ok (.aload_n 0, 1) := by decide +kernel
theorem dX5_dominatedBy_5 : decode cX5_dominatedBy 5 = .ok (.getfield 78, 3) := by decide +kernel
theorem dX5_dominatedBy_8 : decode cX5_dominatedBy 8 = .ok (.getfield 171, 3) := by decide +kernel
theorem dX5_dominatedBy_11 : decode cX5_dominatedBy 11 = .ok (.iload_n 1, 1) := by decide +kernel
theorem dX5_dominatedBy_12 : decode cX5_dominatedBy 12 = .ok (.iaload, 1) := by decide +kernel
theorem dX5_dominatedBy_13 : decode cX5_dominatedBy 13 = .ok (.ireturn, 1) := by decide +kernel
theorem dX5_dominatorOf_0 : decode cX5_dominatorOf 0 = .ok (.aload_n 0, 1) := by decide +kernel
theorem dX5_dominatorOf_1 : decode cX5_dominatorOf 1 = .ok (.invokevirtual 162, 3) := by decide +kernel
theorem dX5_dominatorOf_4 : decode cX5_dominatorOf 4 = .ok (.aload_n 0, 1) := by decide +kernel
theorem dX5_dominatorOf_5 : decode cX5_dominatorOf 5 = .ok (.getfield 78, 3) := by decide +kernel
theorem dX5_dominatorOf_8 : decode cX5_dominatorOf 8 = .ok (.getfield 165, 3) := by decide +kernel
theorem dX5_dominatorOf_11 : decode cX5_dominatorOf 11 = .ok (.iload_n 1, 1) := by decide +kernel
theorem dX5_dominatorOf_12 : decode cX5_dominatorOf 12 = .ok (.iaload, 1) := by decide +kernel
theorem dX5_dominatorOf_13 : decode cX5_dominatorOf 13 = .ok (.ireturn, 1) := by decide +kernel
theorem dX5_doubledSizes_0 : decode cX5_doubledSizes 0 = .ok (.aload_n 0, 1) := by decide +kernel
theorem dX5_doubledSizes_1 : decode cX5_doubledSizes 1 = .ok (.getfield 78, 3) := by decide +kernel
theorem dX5_doubledSizes_4 : decode cX5_doubledSizes 4 = .ok (.aload_n 0, 1) := by decide +kernel
theorem dX5_doubledSizes_5 : decode cX5_doubledSizes 5 = .ok (.invokevirtual 189, 3) := by decide +kernel
theorem dX5_doubledSizes_8 : decode cX5_doubledSizes 8 = .ok (.iconst 0, 1) := by decide +kernel
theorem dX5_doubledSizes_9 : decode cX5_doubledSizes 9 = .ok (.istore_n 2, 1) := by decide +kernel
theorem dX5_doubledSizes_10 : decode cX5_doubledSizes 10 = .ok (.iconst 0, 1) := by decide +kernel
theorem dX5_doubledSizes_11 : decode cX5_doubledSizes 11 = .ok (.istore_n 3, 1) := by decide +kernel
theorem dX5_doubledSizes_12 : decode cX5_doubledSizes 12 = .ok (.iconst 0, 1) := by decide +kernel
theorem dX5_doubledSizes_13 : decode cX5_doubledSizes 13 = .ok (.istore 4, 2) := by decide +kernel
theorem dX5_doubledSizes_15 : decode cX5_doubledSizes 15 = .ok (.iload 4, 2) := by decide +kernel
theorem dX5_doubledSizes_17 : decode cX5_doubledSizes 17 = .ok (.aload_n 0, 1) := by decide +kernel
theorem dX5_doubledSizes_18 : decode cX5_doubledSizes 18 = .ok (.getfield 82, 3) := by decide +kernel
theorem dX5_doubledSizes_21 : decode cX5_doubledSizes 21 = .ok (.if_icmp .ge 64, 3) := by decide +kernel
theorem dX5_doubledSizes_24 : decode cX5_doubledSizes 24 = .ok (.aload_n 0, 1) := by decide +kernel
theorem dX5_doubledSizes_25 : decode cX5_doubledSizes 25 = .ok (.getfield 78, 3) := by decide +kernel
theorem dX5_doubledSizes_28 : decode cX5_doubledSizes 28 = .ok (.getfield 192, 3) := by decide +kernel
theorem dX5_doubledSizes_31 : decode cX5_doubledSizes 31 = .ok (.iload 4, 2) := by decide +kernel
theorem dX5_doubledSizes_33 : decode cX5_doubledSizes 33 = .ok (.iaload, 1) := by decide +kernel
theorem dX5_doubledSizes_34 : decode cX5_doubledSizes 34 = .ok (.iload_n 3, 1) := by decide +kernel
theorem dX5_doubledSizes_35 : decode cX5_doubledSizes 35 = .ok (.if_icmp .ne 9, 3) := by decide +kernel
theorem dX5_doubledSizes_38 : decode cX5_doubledSizes 38 = .ok (.iinc 3 1, 3) := by decide +kernel
theorem dX5_doubledSizes_41 : decode cX5_doubledSizes 41 = .ok (.goto 38, 3) := by decide +kernel
theorem dX5_doubledSizes_44 : decode cX5_doubledSizes 44 = .ok (.aload_n 0, 1) := by decide +kernel
theorem dX5_doubledSizes_45 : decode cX5_doubledSizes 45 = .ok (.getfield 78, 3) := by decide +kernel
theorem dX5_doubledSizes_48 : decode cX5_doubledSizes 48 = .ok (.getfield 192, 3) := by decide +kernel
theorem dX5_doubledSizes_51 : decode cX5_doubledSizes 51 = .ok (.iload 4, 2) := by decide +kernel
theorem dX5_doubledSizes_53 : decode cX5_doubledSizes 53 = .ok (.iaload, 1) := by decide +kernel
theorem dX5_doubledSizes_54 : decode cX5_doubledSizes 54 = .ok (.iconst (-1), 1) := by decide +kernel
theorem dX5_doubledSizes_55 : decode cX5_doubledSizes 55 = .ok (.if_icmp .eq 24, 3) := by decide +kernel
theorem dX5_doubledSizes_58 : decode cX5_doubledSizes 58 = .ok (.iload_n 2, 1) := by decide +kernel
theorem dX5_doubledSizes_59 : decode cX5_doubledSizes 59 = .ok (.aload_n 1, 1) := by decide +kernel
theorem dX5_doubledSizes_60 : decode cX5_doubledSizes 60 = .ok (.aload_n 0, 1) := by decide +kernel
theorem dX5_doubledSizes_61 : decode cX5_doubledSizes 61 = .ok (.getfield 15, 3) := by decide +kernel
theorem dX5_doubledSizes_64 : decode cX5_doubledSizes 64 = .ok (.iload 4, 2) := by decide +kernel
theorem dX5_doubledSizes_66 : decode cX5_doubledSizes 66 = .ok (.iaload, 1) := by decide +kernel
theorem dX5_doubledSizes_67 : decode cX5_doubledSizes 67 = .ok (.aload_n 0, 1) := by decide +kernel
theorem dX5_doubledSizes_68 : decode cX5_doubledSizes 68 = .ok (.getfield 18, 3) := by decide +kernel
theorem dX5_doubledSizes_71 : decode cX5_doubledSizes 71 = .ok (.iload 4, 2) := by decide +kernel
theorem dX5_doubledSizes_73 : decode cX5_doubledSizes 73 = .ok (.iaload, 1) := by decide +kernel
theorem dX5_doubledSizes_74 : decode cX5_doubledSizes 74 = .ok (.invokevirtual 198, 3) := by decide +kernel
theorem dX5_doubledSizes_77 : decode cX5_doubledSizes 77 = .ok (.iadd, 1) := by decide +kernel
theorem dX5_doubledSizes_78 : decode cX5_doubledSizes 78 = .ok (.istore_n 2, 1) := by decide +kernel
theorem dX5_doubledSizes_79 : decode cX5_doubledSizes 79 = .ok (.iinc 4 1, 3) := by decide +kernel
theorem dX5_doubledSizes_82 : decode cX5_doubledSizes 82 = .ok (.goto (-67), 3) := by decide +kernel
theorem dX5_doubledSizes_85 : decode cX5_doubledSizes 85 = .ok (.iload_n 2, 1) := by decide +kernel
theorem dX5_doubledSizes_86 : decode cX5_doubledSizes 86 = .ok (.ireturn, 1) := by decide +kernel
theorem dX5_findLost_0 : decode cX5_findLost 0 = .ok (.aload_n 0, 1) := by decide +kernel
theorem dX5_findLost_1 : decode cX5_findLost 1 = .ok (.getfield 64, 3) := by decide +kernel
theorem dX5_findLost_4 : decode cX5_findLost 4 = .ok (.iconst 0, 1) := by decide +kernel
theorem dX5_findLost_5 : decode cX5_findLost 5 = .ok (.aload_n 0, 1) := by decide +kernel
theorem dX5_findLost_6 : decode cX5_findLost 6 = .ok (.getfield 82, 3) := by decide +kernel
theorem dX5_findLost_9 : decode cX5_findLost 9 = .ok (.iconst 0, 1) := by decide +kernel
theorem dX5_findLost_10 : decode cX5_findLost 10 = .ok (.invokestatic 209, 3) := by decide +kernel
theorem dX5_findLost_13 : decode cX5_findLost 13 = .ok (.iconst 0, 1) := by decide +kernel
theorem dX5_findLost_14 : decode cX5_findLost 14 = .ok (.istore_n 1, 1) := by decide +kernel
theorem dX5_findLost_15 : decode cX5_findLost 15 = .ok (.iconst 0, 1) := by decide +kernel
theorem dX5_findLost_16 : decode cX5_findLost 16 = .ok (.istore_n 2, 1) := by decide +kernel
theorem dX5_findLost_17 : decode cX5_findLost 17 = .ok (.iload_n 2, 1) := by decide +kernel
theorem dX5_findLost_18 : decode cX5_findLost 18 = .ok (.aload_n 0, 1) := by decide +kernel
theorem dX5_findLost_19 : decode cX5_findLost 19 = .ok (.getfield 86, 3) := by decide +kernel
theorem dX5_findLost_22 : decode cX5_findLost 22 = .ok (.if_icmp .ge 21, 3) := by decide +kernel
theorem dX5_findLost_25 : decode cX5_findLost 25 = .ok (.aload_n 0, 1) := by decide +kernel
theorem dX5_findLost_26 : decode cX5_findLost 26 = .ok (.aload_n 0, 1) := by decide +kernel
theorem dX5_findLost_27 : decode cX5_findLost 27 = .ok (.getfield 55, 3) := by decide +kernel
theorem dX5_findLost_30 : decode cX5_findLost 30 = .ok (.iload_n 2, 1) := by decide +kernel
theorem dX5_findLost_31 : decode cX5_findLost 31 = .ok (.iaload, 1) := by decide +kernel
theorem dX5_findLost_32 : decode cX5_findLost 32 = .ok (.iload_n 1, 1) := by decide +kernel
theorem dX5_findLost_33 : decode cX5_findLost 33 = .ok (.invokevirtual 212, 3) := by decide +kernel
theorem dX5_findLost_36 : decode cX5_findLost 36 = .ok (.istore_n 1, 1) := by decide +kernel
theorem dX5_findLost_37 : decode cX5_findLost 37 = .ok (.iinc 2 1, 3) := by decide +kernel
theorem dX5_findLost_40 : decode cX5_findLost 40 = .ok (.goto (-23), 3) := by decide +kernel
theorem dX5_findLost_43 : decode cX5_findLost 43 = .ok (.iconst 0, 1) := by decide +kernel
theorem dX5_findLost_44 : decode cX5_findLost 44 = .ok (.istore_n 2, 1) := by decide +kernel
theorem dX5_findLost_45 : decode cX5_findLost 45 = .ok (.iload_n 2, 1) := by decide +kernel
theorem dX5_findLost_46 : decode cX5_findLost 46 = .ok (.iload_n 1, 1) := by decide +kernel
theorem dX5_findLost_47 : decode cX5_findLost 47 = .ok (.if_icmp .ge 87, 3) := by decide +kernel
theorem dX5_findLost_50 : decode cX5_findLost 50 = .ok (.iload_n 2, 1) := by decide +kernel
theorem dX5_findLost_51 : decode cX5_findLost 51 = .ok (.aload_n 0, 1) := by decide +kernel
theorem dX5_findLost_52 : decode cX5_findLost 52 = .ok (.getfield 82, 3) := by decide +kernel
theorem dX5_findLost_55 : decode cX5_findLost 55 = .ok (.if_icmp .ge 79, 3) := by decide +kernel
theorem dX5_findLost_58 : decode cX5_findLost 58 = .ok (.aload_n 0, 1) := by decide +kernel
theorem dX5_findLost_59 : decode cX5_findLost 59 = .ok (.getfield 21, 3) := by decide +kernel
theorem dX5_findLost_62 : decode cX5_findLost 62 = .ok (.aload_n 0, 1) := by decide +kernel
theorem dX5_findLost_63 : decode cX5_findLost 63 = .ok (.getfield 70, 3) := by decide +kernel
theorem dX5_findLost_66 : decode cX5_findLost 66 = .ok (.iload_n 2, 1) := by decide +kernel
theorem dX5_findLost_67 : decode cX5_findLost 67 = .ok (.iaload, 1) := by decide +kernel
theorem dX5_findLost_68 : decode cX5_findLost 68 = .ok (.iaload, 1) := by decide +kernel
theorem dX5_findLost_69 : decode cX5_findLost 69 = .ok (.istore_n 3, 1) := by decide +kernel
theorem dX5_findLost_70 : decode cX5_findLost 70 = .ok (.iload_n 3, 1) := by decide +kernel
theorem dX5_findLost_71 : decode cX5_findLost 71 = .ok (.aload_n 0, 1) := by decide +kernel
theorem dX5_findLost_72 : decode cX5_findLost 72 = .ok (.getfield 21, 3) := by decide +kernel
theorem dX5_findLost_75 : decode cX5_findLost 75 = .ok (.aload_n 0, 1) := by decide +kernel
theorem dX5_findLost_76 : decode cX5_findLost 76 = .ok (.getfield 70, 3) := by decide +kernel
theorem dX5_findLost_79 : decode cX5_findLost 79 = .ok (.iload_n 2, 1) := by decide +kernel
theorem dX5_findLost_80 : decode cX5_findLost 80 = .ok (.iaload, 1) := by decide +kernel
theorem dX5_findLost_81 : decode cX5_findLost 81 = .ok (.iconst 1, 1) := by decide +kernel
theorem dX5_findLost_82 : decode cX5_findLost 82 = .ok (.iadd, 1) := by decide +kernel
theorem dX5_findLost_83 : decode cX5_findLost 83 = .ok (.iaload, 1) := by decide +kernel
theorem dX5_findLost_84 : decode cX5_findLost 84 = .ok (.if_icmp .ge 44, 3) := by decide +kernel
theorem dX5_findLost_87 : decode cX5_findLost 87 = .ok (.aload_n 0, 1) := by decide +kernel
theorem dX5_findLost_88 : decode cX5_findLost 88 = .ok (.getfield 48, 3) := by decide +kernel
theorem dX5_findLost_91 : decode cX5_findLost 91 = .ok (.iload_n 3, 1) := by decide +kernel
theorem dX5_findLost_92 : decode cX5_findLost 92 = .ok (.baload, 1) := by decide +kernel
theorem dX5_findLost_93 : decode cX5_findLost 93 = .ok (.ifCond .eq 29, 3) := by decide +kernel
theorem dX5_findLost_96 : decode cX5_findLost 96 = .ok (.aload_n 0, 1) := by decide +kernel
theorem dX5_findLost_97 : decode cX5_findLost 97 = .ok (.getfield 44, 3) := by decide +kernel
theorem dX5_findLost_100 : decode cX5_findLost 100 = .ok (.iload_n 3, 1) := by decide +kernel
theorem dX5_findLost_101 : decode cX5_findLost 101 = .ok (.laload, 1) := by decide +kernel
theorem dX5_findLost_102 : decode cX5_findLost 102 = .ok (.ldc2_w 128, 3) := by decide +kernel
theorem dX5_findLost_105 : decode cX5_findLost 105 = .ok (.lcmp, 1) := by decide +kernel
theorem dX5_findLost_106 : decode cX5_findLost 106 = .ok (.ifCond .eq 16, 3) := by decide +kernel
theorem dX5_findLost_109 : decode cX5_findLost 109 = .ok (.aload_n 0, 1) := by decide +kernel
theorem dX5_findLost_110 : decode cX5_findLost 110 = .ok (.aload_n 0, 1) := by decide +kernel
theorem dX5_findLost_111 : decode cX5_findLost 111 = .ok (.getfield 44, 3) := by decide +kernel
theorem dX5_findLost_114 : decode cX5_findLost 114 = .ok (.iload_n 3, 1) := by decide +kernel
theorem dX5_findLost_115 : decode cX5_findLost 115 = .ok (.laload, 1) := by decide +kernel
theorem dX5_findLost_116 : decode cX5_findLost 116 = .ok (.l2i, 1) := by decide +kernel
theorem dX5_findLost_117 : decode cX5_findLost 117 = .ok (.iload_n 1, 1) := by decide +kernel
theorem dX5_findLost_118 : decode cX5_findLost 118 = .ok (.invokevirtual 212, 3) := by decide +kernel
theorem dX5_findLost_121 : decode cX5_findLost 121 = .ok (.istore_n 1, 1) := by decide +kernel
theorem dX5_findLost_122 : decode cX5_findLost 122 = .ok (.iinc 3 1, 3) := by decide +kernel
theorem dX5_findLost_125 : decode cX5_findLost 125 = .ok (.goto (-55), 3) := by decide +kernel
theorem dX5_findLost_128 : decode cX5_findLost 128 = .ok (.iinc 2 1, 3) := by decide +kernel
theorem dX5_findLost_131 : decode cX5_findLost 131 = .ok (.goto (-86), 3) := by decide +kernel
theorem dX5_findLost_134 : decode cX5_findLost 134 = .ok (.aload_n 0, 1) := by decide +kernel
theorem dX5_findLost_135 : decode cX5_findLost 135 = .ok (.iconst 0, 1) := by decide +kernel
theorem dX5_findLost_136 : decode cX5_findLost 136 = .ok (.putfield 89, 3) := by decide +kernel
theorem dX5_findLost_139 : decode cX5_findLost 139 = .ok (.iconst 0, 1) := by decide +kernel
theorem dX5_findLost_140 : decode cX5_findLost 140 = .ok (.istore_n 2, 1) := by decide +kernel
theorem dX5_findLost_141 : decode cX5_findLost 141 = .ok (.iload_n 2, 1) := by decide +kernel
theorem dX5_findLost_142 : decode cX5_findLost 142 = .ok (.aload_n 0, 1) := by decide +kernel
theorem dX5_findLost_143 : decode cX5_findLost 143 = .ok (.getfield 82, 3) := by decide +kernel
theorem dX5_findLost_146 : decode cX5_findLost 146 = .ok (.if_icmp .ge 38, 3) := by decide +kernel
theorem dX5_findLost_149 : decode cX5_findLost 149 = .ok (.aload_n 0, 1) := by decide +kernel
theorem dX5_findLost_150 : decode cX5_findLost 150 = .ok (.getfield 64, 3) := by decide +kernel
theorem dX5_findLost_153 : decode cX5_findLost 153 = .ok (.iload_n 2, 1) := by decide +kernel
theorem dX5_findLost_154 : decode cX5_findLost 154 = .ok (.iaload, 1) := by decide +kernel
theorem dX5_findLost_155 : decode cX5_findLost 155 = .ok (.ifCond .ne 23, 3) := by decide +kernel
theorem dX5_findLost_158 : decode cX5_findLost 158 = .ok (.aload_n 0, 1) := by decide +kernel
theorem dX5_findLost_159 : decode cX5_findLost 159 = .ok (.getfield 61, 3) := by decide +kernel
theorem dX5_findLost_162 : decode cX5_findLost 162 = .ok (.aload_n 0, 1) := by decide +kernel
theorem dX5_findLost_163 : decode cX5_findLost 163 = .ok (.getfield 89, 3) := by decide +kernel
theorem dX5_findLost_166 : decode cX5_findLost 166 = .ok (.iload_n 2, 1) := by decide +kernel
theorem dX5_findLost_167 : decode cX5_findLost 167 = .ok (.iastore, 1) := by decide +kernel
theorem dX5_findLost_168 : decode cX5_findLost 168 = .ok (.aload_n 0, 1) := by decide +kernel
theorem dX5_findLost_169 : decode cX5_findLost 169 = .ok (.dup, 1) := by decide +kernel
theorem dX5_findLost_170 : decode cX5_findLost 170 = .ok (.getfield 89, 3) := by decide +kernel
theorem dX5_findLost_173 : decode cX5_findLost 173 = .ok (.iconst 1, 1) := by decide +kernel
theorem dX5_findLost_174 : decode cX5_findLost 174 = .ok (.iadd, 1) := by decide +kernel
theorem dX5_findLost_175 : decode cX5_findLost 175 = .ok (.putfield 89, 3) := by decide +kernel
theorem dX5_findLost_178 : decode cX5_findLost 178 = .ok (.iinc 2 1, 3) := by decide +kernel
theorem dX5_findLost_181 : decode cX5_findLost 181 = .ok (.goto (-40), 3) := by decide +kernel
theorem dX5_findLost_184 : decode cX5_findLost 184 = .ok (.aload_n 0, 1) := by decide +kernel
theorem dX5_findLost_185 : decode cX5_findLost 185 = .ok (.getfield 89, 3) := by decide +kernel
theorem dX5_findLost_188 : decode cX5_findLost 188 = .ok (.ireturn, 1) := by decide +kernel
theorem dX5_findWays_0 : decode cX5_findWays 0 = .ok (.iconst 0, 1) := by decide +kernel
theorem dX5_findWays_1 : decode cX5_findWays 1 = .ok (.istore_n 1, 1) := by decide +kernel
theorem dX5_findWays_2 : decode cX5_findWays 2 = .ok (.iconst 0, 1) := by decide +kernel
theorem dX5_findWays_3 : decode cX5_findWays 3 = .ok (.istore_n 2, 1) := by decide +kernel
theorem dX5_findWays_4 : decode cX5_findWays 4 = .ok (.iload_n 2, 1) := by decide +kernel
theorem dX5_findWays_5 : decode cX5_findWays 5 = .ok (.aload_n 0, 1) := by decide +kernel
theorem dX5_findWays_6 : decode cX5_findWays 6 = .ok (.getfield 86, 3) := by decide +kernel
theorem dX5_findWays_9 : decode cX5_findWays 9 = .ok (.if_icmp .ge 46, 3) := by decide +kernel
theorem dX5_findWays_12 : decode cX5_findWays 12 = .ok (.aload_n 0, 1) := by decide +kernel
theorem dX5_findWays_13 : decode cX5_findWays 13 = .ok (.getfield 55, 3) := by decide +kernel
theorem dX5_findWays_16 : decode cX5_findWays 16 = .ok (.iload_n 2, 1) := by decide +kernel
theorem dX5_findWays_17 : decode cX5_findWays 17 = .ok (.iaload, 1) := by decide +kernel
theorem dX5_findWays_18 : decode cX5_findWays 18 = .ok (.iload_n 1, 1) := by decide +kernel
theorem dX5_findWays_19 : decode cX5_findWays 19 = .ok (.if_icmp .le 5, 3) := by decide +kernel
theorem dX5_findWays_22 : decode cX5_findWays 22 = .ok (.iload_n 1, 1) := by decide +kernel
theorem dX5_findWays_23 : decode cX5_findWays 23 = .ok (.ireturn, 1) := by decide +kernel
theorem dX5_findWays_24 : decode cX5_findWays 24 = .ok (.aload_n 0, 1) := by decide +kernel
theorem dX5_findWays_25 : decode cX5_findWays 25 = .ok (.getfield 55, 3) := by decide +kernel
theorem dX5_findWays_28 : decode cX5_findWays 28 = .ok (.iload_n 2, 1) := by decide +kernel
theorem dX5_findWays_29 : decode cX5_findWays 29 = .ok (.iaload, 1) := by decide +kernel
theorem dX5_findWays_30 : decode cX5_findWays 30 = .ok (.iload_n 1, 1) := by decide +kernel
theorem dX5_findWays_31 : decode cX5_findWays 31 = .ok (.if_icmp .ne 18, 3) := by decide +kernel
theorem dX5_findWays_34 : decode cX5_findWays 34 = .ok (.aload_n 0, 1) := by decide +kernel
theorem dX5_findWays_35 : decode cX5_findWays 35 = .ok (.iload_n 1, 1) := by decide +kernel
theorem dX5_findWays_36 : decode cX5_findWays 36 = .ok (.iconst (-1), 1) := by decide +kernel
theorem dX5_findWays_37 : decode cX5_findWays 37 = .ok (.aload_n 0, 1) := by decide +kernel
theorem dX5_findWays_38 : decode cX5_findWays 38 = .ok (.getfield 52, 3) := by decide +kernel
theorem dX5_findWays_41 : decode cX5_findWays 41 = .ok (.iload_n 2, 1) := by decide +kernel
theorem dX5_findWays_42 : decode cX5_findWays 42 = .ok (.iaload, 1) := by decide +kernel
theorem dX5_findWays_43 : decode cX5_findWays 43 = .ok (.invokevirtual 148, 3) := by decide +kernel
theorem dX5_findWays_46 : decode cX5_findWays 46 = .ok (.iinc 1 1, 3) := by decide +kernel
theorem dX5_findWays_49 : decode cX5_findWays 49 = .ok (.iinc 2 1, 3) := by decide +kernel
theorem dX5_findWays_52 : decode cX5_findWays 52 = .ok (.goto (-48), 3) := by decide +kernel
theorem dX5_findWays_55 : decode cX5_findWays 55 = .ok (.iconst 0, 1) := by decide +kernel
theorem dX5_findWays_56 : decode cX5_findWays 56 = .ok (.istore_n 2, 1) := by decide +kernel
theorem dX5_findWays_57 : decode cX5_findWays 57 = .ok (.iload_n 2, 1) := by decide +kernel
theorem dX5_findWays_58 : decode cX5_findWays 58 = .ok (.iload_n 1, 1) := by decide +kernel
theorem dX5_findWays_59 : decode cX5_findWays 59 = .ok (.if_icmp .ge 103, 3) := by decide +kernel
theorem dX5_findWays_62 : decode cX5_findWays 62 = .ok (.iload_n 2, 1) := by decide +kernel
theorem dX5_findWays_63 : decode cX5_findWays 63 = .ok (.aload_n 0, 1) := by decide +kernel
theorem dX5_findWays_64 : decode cX5_findWays 64 = .ok (.getfield 82, 3) := by decide +kernel
theorem dX5_findWays_67 : decode cX5_findWays 67 = .ok (.if_icmp .ge 95, 3) := by decide +kernel
theorem dX5_findWays_70 : decode cX5_findWays 70 = .ok (.aload_n 0, 1) := by decide +kernel
theorem dX5_findWays_71 : decode cX5_findWays 71 = .ok (.getfield 21, 3) := by decide +kernel
theorem dX5_findWays_74 : decode cX5_findWays 74 = .ok (.iload_n 2, 1) := by decide +kernel
theorem dX5_findWays_75 : decode cX5_findWays 75 = .ok (.iaload, 1) := by decide +kernel
theorem dX5_findWays_76 : decode cX5_findWays 76 = .ok (.istore_n 3, 1) := by decide +kernel
theorem dX5_findWays_77 : decode cX5_findWays 77 = .ok (.iload_n 3, 1) := by decide +kernel
theorem dX5_findWays_78 : decode cX5_findWays 78 = .ok (.aload_n 0, 1) := by decide +kernel
theorem dX5_findWays_79 : decode cX5_findWays 79 = .ok (.getfield 21, 3) := by decide +kernel
theorem dX5_findWays_82 : decode cX5_findWays 82 = .ok (.iload_n 2, 1) := by decide +kernel
theorem dX5_findWays_83 : decode cX5_findWays 83 = .ok (.iconst 1, 1) := by decide +kernel
theorem dX5_findWays_84 : decode cX5_findWays 84 = .ok (.iadd, 1) := by decide +kernel
theorem dX5_findWays_85 : decode cX5_findWays 85 = .ok (.iaload, 1) := by decide +kernel
theorem dX5_findWays_86 : decode cX5_findWays 86 = .ok (.if_icmp .ge 70, 3) := by decide +kernel
theorem dX5_findWays_89 : decode cX5_findWays 89 = .ok (.aload_n 0, 1) := by decide +kernel
theorem dX5_findWays_90 : decode cX5_findWays 90 = .ok (.getfield 48, 3) := by decide +kernel
theorem dX5_findWays_93 : decode cX5_findWays 93 = .ok (.iload_n 3, 1) := by decide +kernel
theorem dX5_findWays_94 : decode cX5_findWays 94 = .ok (.baload, 1) := by decide +kernel
theorem dX5_findWays_95 : decode cX5_findWays 95 = .ok (.ifCond .eq 17, 3) := by decide +kernel
theorem dX5_findWays_98 : decode cX5_findWays 98 = .ok (.aload_n 0, 1) := by decide +kernel
theorem dX5_findWays_99 : decode cX5_findWays 99 = .ok (.getfield 44, 3) := by decide +kernel
theorem dX5_findWays_102 : decode cX5_findWays 102 = .ok (.iload_n 3, 1) := by decide +kernel
theorem dX5_findWays_103 : decode cX5_findWays 103 = .ok (.laload, 1) := by decide +kernel
theorem dX5_findWays_104 : decode cX5_findWays 104 = .ok (.iload_n 1, 1) := by decide +kernel
theorem dX5_findWays_105 : decode cX5_findWays 105 = .ok (.i2l, 1) := by decide +kernel
theorem dX5_findWays_106 : decode cX5_findWays 106 = .ok (.lcmp, 1) := by decide +kernel
theorem dX5_findWays_107 : decode cX5_findWays 107 = .ok (.ifCond .le 5, 3) := by decide +kernel
theorem dX5_findWays_110 : decode cX5_findWays 110 = .ok (.iload_n 1, 1) := by decide +kernel
theorem dX5_findWays_111 : decode cX5_findWays 111 = .ok (.ireturn, 1) := by decide +kernel
theorem dX5_findWays_112 : decode cX5_findWays 112 = .ok (.aload_n 0, 1) := by decide +kernel
theorem dX5_findWays_113 : decode cX5_findWays 113 = .ok (.getfield 48, 3) := by decide +kernel
theorem dX5_findWays_116 : decode cX5_findWays 116 = .ok (.iload_n 3, 1) := by decide +kernel
theorem dX5_findWays_117 : decode cX5_findWays 117 = .ok (.baload, 1) := by decide +kernel
theorem dX5_findWays_118 : decode cX5_findWays 118 = .ok (.ifCond .eq 32, 3) := by decide +kernel
theorem dX5_findWays_121 : decode cX5_findWays 121 = .ok (.aload_n 0, 1) := by decide +kernel
theorem dX5_findWays_122 : decode cX5_findWays 122 = .ok (.getfield 44, 3) := by decide +kernel
theorem dX5_findWays_125 : decode cX5_findWays 125 = .ok (.iload_n 3, 1) := by decide +kernel
theorem dX5_findWays_126 : decode cX5_findWays 126 = .ok (.laload, 1) := by decide +kernel
theorem dX5_findWays_127 : decode cX5_findWays 127 = .ok (.iload_n 1, 1) := by decide +kernel
theorem dX5_findWays_128 : decode cX5_findWays 128 = .ok (.i2l, 1) := by decide +kernel
theorem dX5_findWays_129 : decode cX5_findWays 129 = .ok (.lcmp, 1) := by decide +kernel
theorem dX5_findWays_130 : decode cX5_findWays 130 = .ok (.ifCond .ne 20, 3) := by decide +kernel
theorem dX5_findWays_133 : decode cX5_findWays 133 = .ok (.aload_n 0, 1) := by decide +kernel
theorem dX5_findWays_134 : decode cX5_findWays 134 = .ok (.iload_n 1, 1) := by decide +kernel
theorem dX5_findWays_135 : decode cX5_findWays 135 = .ok (.iload_n 2, 1) := by decide +kernel
theorem dX5_findWays_136 : decode cX5_findWays 136 = .ok (.iload_n 3, 1) := by decide +kernel
theorem dX5_findWays_137 : decode cX5_findWays 137 = .ok (.aload_n 0, 1) := by decide +kernel
theorem dX5_findWays_138 : decode cX5_findWays 138 = .ok (.getfield 21, 3) := by decide +kernel
theorem dX5_findWays_141 : decode cX5_findWays 141 = .ok (.iload_n 2, 1) := by decide +kernel
theorem dX5_findWays_142 : decode cX5_findWays 142 = .ok (.iaload, 1) := by decide +kernel
theorem dX5_findWays_143 : decode cX5_findWays 143 = .ok (.isub, 1) := by decide +kernel
theorem dX5_findWays_144 : decode cX5_findWays 144 = .ok (.invokevirtual 148, 3) := by decide +kernel
theorem dX5_findWays_147 : decode cX5_findWays 147 = .ok (.iinc 1 1, 3) := by decide +kernel
theorem dX5_findWays_150 : decode cX5_findWays 150 = .ok (.iinc 3 1, 3) := by decide +kernel
theorem dX5_findWays_153 : decode cX5_findWays 153 = .ok (.goto (-76), 3) := by decide +kernel
theorem dX5_findWays_156 : decode cX5_findWays 156 = .ok (.iinc 2 1, 3) := by decide +kernel
theorem dX5_findWays_159 : decode cX5_findWays 159 = .ok (.goto (-102), 3) := by decide +kernel
theorem dX5_findWays_162 : decode cX5_findWays 162 = .ok (.iload_n 1, 1) := by decide +kernel
theorem dX5_findWays_163 : decode cX5_findWays 163 = .ok (.ireturn, 1) := by decide +kernel
theorem dX5_forget_0 : decode cX5_forget 0 = .ok (.iconst 0, 1) := by decide +kernel
theorem dX5_forget_1 : decode cX5_forget 1 = .ok (.istore_n 1, 1) := by decide +kernel
theorem dX5_forget_2 : decode cX5_forget 2 = .ok (.iload_n 1, 1) := by decide +kernel
theorem dX5_forget_3 : decode cX5_forget 3 = .ok (.aload_n 0, 1) := by decide +kernel
theorem dX5_forget_4 : decode cX5_forget 4 = .ok (.getfield 82, 3) := by decide +kernel
theorem dX5_forget_7 : decode cX5_forget 7 = .ok (.if_icmp .ge 28, 3) := by decide +kernel
theorem dX5_forget_10 : decode cX5_forget 10 = .ok (.aload_n 0, 1) := by decide +kernel
theorem dX5_forget_11 : decode cX5_forget 11 = .ok (.getfield 35, 3) := by decide +kernel
theorem dX5_forget_14 : decode cX5_forget 14 = .ok (.aload_n 0, 1) := by decide +kernel
theorem dX5_forget_15 : decode cX5_forget 15 = .ok (.getfield 11, 3) := by decide +kernel
theorem dX5_forget_18 : decode cX5_forget 18 = .ok (.iload_n 1, 1) := by decide +kernel
theorem dX5_forget_19 : decode cX5_forget 19 = .ok (.iaload, 1) := by decide +kernel
theorem dX5_forget_20 : decode cX5_forget 20 = .ok (.iconst (-1), 1) := by decide +kernel
theorem dX5_forget_21 : decode cX5_forget 21 = .ok (.iastore, 1) := by decide +kernel
theorem dX5_forget_22 : decode cX5_forget 22 = .ok (.aload_n 0, 1) := by decide +kernel
theorem dX5_forget_23 : decode cX5_forget 23 = .ok (.getfield 58, 3) := by decide +kernel
theorem dX5_forget_26 : decode cX5_forget 26 = .ok (.iload_n 1, 1) := by decide +kernel
theorem dX5_forget_27 : decode cX5_forget 27 = .ok (.iconst 0, 1) := by decide +kernel
theorem dX5_forget_28 : decode cX5_forget 28 = .ok (.bastore, 1) := by decide +kernel
theorem dX5_forget_29 : decode cX5_forget 29 = .ok (.iinc 1 1, 3) := by decide +kernel
theorem dX5_forget_32 : decode cX5_forget 32 = .ok (.goto (-30), 3) := by decide +kernel
theorem dX5_forget_35 : decode cX5_forget 35 = .ok (.aload_n 0, 1) := by decide +kernel
theorem dX5_forget_36 : decode cX5_forget 36 = .ok (.iconst 0, 1) := by decide +kernel
theorem dX5_forget_37 : decode cX5_forget 37 = .ok (.putfield 82, 3) := by decide +kernel
theorem dX5_forget_40 : decode cX5_forget 40 = .ok (.aload_n 0, 1) := by decide +kernel
theorem dX5_forget_41 : decode cX5_forget 41 = .ok (.iconst 0, 1) := by decide +kernel
theorem dX5_forget_42 : decode cX5_forget 42 = .ok (.putfield 86, 3) := by decide +kernel
theorem dX5_forget_45 : decode cX5_forget 45 = .ok (.aload_n 0, 1) := by decide +kernel
theorem dX5_forget_46 : decode cX5_forget 46 = .ok (.iconst 0, 1) := by decide +kernel
theorem dX5_forget_47 : decode cX5_forget 47 = .ok (.putfield 89, 3) := by decide +kernel
theorem dX5_forget_50 : decode cX5_forget 50 = .ok (.aload_n 0, 1) := by decide +kernel
theorem dX5_forget_51 : decode cX5_forget 51 = .ok (.getfield 78, 3) := by decide +kernel
theorem dX5_forget_54 : decode cX5_forget 54 = .ok (.iconst 0, 1) := by decide +kernel
theorem dX5_forget_55 : decode cX5_forget 55 = .ok (.putfield 92, 3) := by decide +kernel
theorem dX5_forget_58 : decode cX5_forget 58 = .ok (.return_, 1) := by decide +kernel
theorem dX5_holdersOf_0 : decode cX5_holdersOf 0 = .ok (.aload_n 0, 1) := by decide +kernel
theorem dX5_holdersOf_1 : decode cX5_holdersOf 1 = .ok (.getfield 78, 3) := by decide +kernel
theorem dX5_holdersOf_4 : decode cX5_holdersOf 4 = .ok (.aload_n 0, 1) := by decide +kernel
theorem dX5_holdersOf_5 : decode cX5_holdersOf 5 = .ok (.invokevirtual 155, 3) := by decide +kernel
theorem dX5_holdersOf_8 : decode cX5_holdersOf 8 = .ok (.aload_n 0, 1) := by decide +kernel
theorem dX5_holdersOf_9 : decode cX5_holdersOf 9 = .ok (.getfield 78, 3) := by decide +kernel
theorem dX5_holdersOf_12 : decode cX5_holdersOf 12 = .ok (.getfield 159, 3) := by decide +kernel
theorem dX5_holdersOf_15 : decode cX5_holdersOf 15 = .ok (.iload_n 1, 1) := by decide +kernel
theorem dX5_holdersOf_16 : decode cX5_holdersOf 16 = .ok (.iconst 1, 1) := by decide +kernel
theorem dX5_holdersOf_17 : decode cX5_holdersOf 17 = .ok (.iadd, 1) := by decide +kernel
theorem dX5_holdersOf_18 : decode cX5_holdersOf 18 = .ok (.iaload, 1) := by decide +kernel
theorem dX5_holdersOf_19 : decode cX5_holdersOf 19 = .ok (.aload_n 0, 1) := by decide +kernel
theorem dX5_holdersOf_20 : decode cX5_holdersOf 20 = .ok (.getfield 78, 3) := by decide +kernel
theorem dX5_holdersOf_23 : decode cX5_holdersOf 23 = .ok (.getfield 159, 3) := by decide +kernel
theorem dX5_holdersOf_26 : decode cX5_holdersOf 26 = .ok (.iload_n 1, 1) := by decide +kernel
theorem dX5_holdersOf_27 : decode cX5_holdersOf 27 = .ok (.iaload, 1) := by decide +kernel
theorem dX5_holdersOf_28 : decode cX5_holdersOf 28 = .ok (.isub, 1) := by decide +kernel
theorem dX5_holdersOf_29 : decode cX5_holdersOf 29 = .ok (.ireturn, 1) := by decide +kernel
theorem dX5_isLike_0 : decode cX5_isLike 0 = .ok (.aload_n 0, 1) := by decide +kernel
theorem dX5_isLike_1 : decode cX5_isLike 1 = .ok (.getfield 64, 3) := by decide +kernel
theorem dX5_isLike_4 : decode cX5_isLike 4 = .ok (.iconst 0, 1) := by decide +kernel
theorem dX5_isLike_5 : decode cX5_isLike 5 = .ok (.aload_n 0, 1) := by decide +kernel
theorem dX5_isLike_6 : decode cX5_isLike 6 = .ok (.getfield 82, 3) := by decide +kernel
theorem dX5_isLike_9 : decode cX5_isLike 9 = .ok (.iconst (-1), 1) := by decide +kernel
theorem dX5_isLike_10 : decode cX5_isLike 10 = .ok (.invokestatic 209, 3) := by decide +kernel
theorem dX5_isLike_13 : decode cX5_isLike 13 = .ok (.aload_n 2, 1) := by decide +kernel
theorem dX5_isLike_14 : decode cX5_isLike 14 = .ok (.getfield 67, 3) := by decide +kernel
theorem dX5_isLike_17 : decode cX5_isLike 17 = .ok (.iconst 0, 1) := by decide +kernel
theorem dX5_isLike_18 : decode cX5_isLike 18 = .ok (.aload_n 2, 1) := by decide +kernel
theorem dX5_isLike_19 : decode cX5_isLike 19 = .ok (.getfield 82, 3) := by decide +kernel
theorem dX5_isLike_22 : decode cX5_isLike 22 = .ok (.iconst (-1), 1) := by decide +kernel
theorem dX5_isLike_23 : decode cX5_isLike 23 = .ok (.invokestatic 209, 3) := by decide +kernel
theorem dX5_isLike_26 : decode cX5_isLike 26 = .ok (.aload_n 0, 1) := by decide +kernel
theorem dX5_isLike_27 : decode cX5_isLike 27 = .ok (.getfield 64, 3) := by decide +kernel
theorem dX5_isLike_30 : decode cX5_isLike 30 = .ok (.iload_n 1, 1) := by decide +kernel
theorem dX5_isLike_31 : decode cX5_isLike 31 = .ok (.iload_n 3, 1) := by decide +kernel
theorem dX5_isLike_32 : decode cX5_isLike 32 = .ok (.iastore, 1) := by decide +kernel
theorem dX5_isLike_33 : decode cX5_isLike 33 = .ok (.aload_n 2, 1) := by decide +kernel
theorem dX5_isLike_34 : decode cX5_isLike 34 = .ok (.getfield 67, 3) := by decide +kernel
theorem dX5_isLike_37 : decode cX5_isLike 37 = .ok (.iload_n 3, 1) := by decide +kernel
theorem dX5_isLike_38 : decode cX5_isLike 38 = .ok (.iload_n 1, 1) := by decide +kernel
theorem dX5_isLike_39 : decode cX5_isLike 39 = .ok (.iastore, 1) := by decide +kernel
theorem dX5_isLike_40 : decode cX5_isLike 40 = .ok (.aload_n 0, 1) := by decide +kernel
theorem dX5_isLike_41 : decode cX5_isLike 41 = .ok (.getfield 70, 3) := by decide +kernel
theorem dX5_isLike_44 : decode cX5_isLike 44 = .ok (.iconst 0, 1) := by decide +kernel
theorem dX5_isLike_45 : decode cX5_isLike 45 = .ok (.iload_n 1, 1) := by decide +kernel
theorem dX5_isLike_46 : decode cX5_isLike 46 = .ok (.iastore, 1) := by decide +kernel
theorem dX5_isLike_47 : decode cX5_isLike 47 = .ok (.iconst 1, 1) := by decide +kernel
theorem dX5_isLike_48 : decode cX5_isLike 48 = .ok (.istore 4, 2) := by decide +kernel
theorem dX5_isLike_50 : decode cX5_isLike 50 = .ok (.iconst 0, 1) := by decide +kernel
theorem dX5_isLike_51 : decode cX5_isLike 51 = .ok (.istore 5, 2) := by decide +kernel
theorem dX5_isLike_53 : decode cX5_isLike 53 = .ok (.iload 5, 2) := by decide +kernel
theorem dX5_isLike_55 : decode cX5_isLike 55 = .ok (.iload 4, 2) := by decide +kernel
theorem dX5_isLike_57 : decode cX5_isLike 57 = .ok (.if_icmp .ge 42, 3) := by decide +kernel
theorem dX5_isLike_60 : decode cX5_isLike 60 = .ok (.iload 5, 2) := by decide +kernel
theorem dX5_isLike_62 : decode cX5_isLike 62 = .ok (.aload_n 0, 1) := by decide +kernel
theorem dX5_isLike_63 : decode cX5_isLike 63 = .ok (.getfield 82, 3) := by decide +kernel
theorem dX5_isLike_66 : decode cX5_isLike 66 = .ok (.if_icmp .ge 33, 3) := by decide +kernel
theorem dX5_isLike_69 : decode cX5_isLike 69 = .ok (.aload_n 0, 1) := by decide +kernel
theorem dX5_isLike_70 : decode cX5_isLike 70 = .ok (.aload_n 0, 1) := by decide +kernel
theorem dX5_isLike_71 : decode cX5_isLike 71 = .ok (.getfield 70, 3) := by decide +kernel
theorem dX5_isLike_74 : decode cX5_isLike 74 = .ok (.iload 5, 2) := by decide +kernel
theorem dX5_isLike_76 : decode cX5_isLike 76 = .ok (.iaload, 1) := by decide +kernel
theorem dX5_isLike_77 : decode cX5_isLike 77 = .ok (.aload_n 2, 1) := by decide +kernel
theorem dX5_isLike_78 : decode cX5_isLike 78 = .ok (.iload 4, 2) := by decide +kernel
theorem dX5_isLike_80 : decode cX5_isLike 80 = .ok (.invokevirtual 219, 3) := by decide +kernel
theorem dX5_isLike_83 : decode cX5_isLike 83 = .ok (.istore 4, 2) := by decide +kernel
theorem dX5_isLike_85 : decode cX5_isLike 85 = .ok (.iload 4, 2) := by decide +kernel
theorem dX5_isLike_87 : decode cX5_isLike 87 = .ok (.iconst (-1), 1) := by decide +kernel
theorem dX5_isLike_88 : decode cX5_isLike 88 = .ok (.if_icmp .ne 5, 3) := by decide +kernel
theorem dX5_isLike_91 : decode cX5_isLike 91 = .ok (.iconst 0, 1) := by decide +kernel
theorem dX5_isLike_92 : decode cX5_isLike 92 = .ok (.ireturn, 1) := by decide +kernel
theorem dX5_isLike_93 : decode cX5_isLike 93 = .ok (.iinc 5 1, 3) := by decide +kernel
theorem dX5_isLike_96 : decode cX5_isLike 96 = .ok (.goto (-43), 3) := by decide +kernel
theorem dX5_isLike_99 : decode cX5_isLike 99 = .ok (.iconst 1, 1) := by decide +kernel
theorem dX5_isLike_100 : decode cX5_isLike 100 = .ok (.ireturn, 1) := by decide +kernel
theorem dX5_isSame_0 : decode cX5_isSame 0 = .ok (.aload_n 0, 1) := by decide +kernel
theorem dX5_isSame_1 : decode cX5_isSame 1 = .ok (.getfield 15, 3) := by decide +kernel
theorem dX5_isSame_4 : decode cX5_isSame 4 = .ok (.iload_n 1, 1) := by decide +kernel
theorem dX5_isSame_5 : decode cX5_isSame 5 = .ok (.iaload, 1) := by decide +kernel
theorem dX5_isSame_6 : decode cX5_isSame 6 = .ok (.aload_n 2, 1) := by decide +kernel
theorem dX5_isSame_7 : decode cX5_isSame 7 = .ok (.getfield 15, 3) := by decide +kernel
theorem dX5_isSame_10 : decode cX5_isSame 10 = .ok (.iload_n 3, 1) := by decide +kernel
theorem dX5_isSame_11 : decode cX5_isSame 11 = .ok (.iaload, 1) := by decide +kernel
theorem dX5_isSame_12 : decode cX5_isSame 12 = .ok (.if_icmp .ne 18, 3) := by decide +kernel
theorem dX5_isSame_15 : decode cX5_isSame 15 = .ok (.aload_n 0, 1) := by decide +kernel
theorem dX5_isSame_16 : decode cX5_isSame 16 = .ok (.getfield 18, 3) := by decide +kernel
theorem dX5_isSame_19 : decode cX5_isSame 19 = .ok (.iload_n 1, 1) := by decide +kernel
theorem dX5_isSame_20 : decode cX5_isSame 20 = .ok (.iaload, 1) := by decide +kernel
theorem dX5_isSame_21 : decode cX5_isSame 21 = .ok (.aload_n 2, 1) := by decide +kernel
theorem dX5_isSame_22 : decode cX5_isSame 22 = .ok (.getfield 18, 3) := by decide +kernel
theorem dX5_isSame_25 : decode cX5_isSame 25 = .ok (.iload_n 3, 1) := by decide +kernel
theorem dX5_isSame_26 : decode cX5_isSame 26 = .ok (.iaload, 1) := by decide +kernel
theorem dX5_isSame_27 : decode cX5_isSame 27 = .ok (.if_icmp .eq 5, 3) := by decide +kernel
theorem dX5_isSame_30 : decode cX5_isSame 30 = .ok (.iconst 0, 1) := by decide +kernel
theorem dX5_isSame_31 : decode cX5_isSame 31 = .ok (.ireturn, 1) := by decide +kernel
theorem dX5_isSame_32 : decode cX5_isSame 32 = .ok (.aload_n 2, 1) := by decide +kernel
theorem dX5_isSame_33 : decode cX5_isSame 33 = .ok (.getfield 21, 3) := by decide +kernel
theorem dX5_isSame_36 : decode cX5_isSame 36 = .ok (.iload_n 3, 1) := by decide +kernel
theorem dX5_isSame_37 : decode cX5_isSame 37 = .ok (.iaload, 1) := by decide +kernel
theorem dX5_isSame_38 : decode cX5_isSame 38 = .ok (.aload_n 0, 1) := by decide +kernel
theorem dX5_isSame_39 : decode cX5_isSame 39 = .ok (.getfield 21, 3) := by decide +kernel
theorem dX5_isSame_42 : decode cX5_isSame 42 = .ok (.iload_n 1, 1) := by decide +kernel
theorem dX5_isSame_43 : decode cX5_isSame 43 = .ok (.iaload, 1) := by decide +kernel
theorem dX5_isSame_44 : decode cX5_isSame 44 = .ok (.isub, 1) := by decide +kernel
theorem dX5_isSame_45 : decode cX5_isSame 45 = .ok (.istore 4, 2) := by decide +kernel
theorem dX5_isSame_47 : decode cX5_isSame 47 = .ok (.aload_n 0, 1) := by decide +kernel
theorem dX5_isSame_48 : decode cX5_isSame 48 = .ok (.getfield 21, 3) := by decide +kernel
theorem dX5_isSame_51 : decode cX5_isSame 51 = .ok (.iload_n 1, 1) := by decide +kernel
theorem dX5_isSame_52 : decode cX5_isSame 52 = .ok (.iaload, 1) := by decide +kernel
theorem dX5_isSame_53 : decode cX5_isSame 53 = .ok (.istore 5, 2) := by decide +kernel
theorem dX5_isSame_55 : decode cX5_isSame 55 = .ok (.iload 5, 2) := by decide +kernel
theorem dX5_isSame_57 : decode cX5_isSame 57 = .ok (.aload_n 0, 1) := by decide +kernel
theorem dX5_isSame_58 : decode cX5_isSame 58 = .ok (.getfield 21, 3) := by decide +kernel
theorem dX5_isSame_61 : decode cX5_isSame 61 = .ok (.iload_n 1, 1) := by decide +kernel
theorem dX5_isSame_62 : decode cX5_isSame 62 = .ok (.iconst 1, 1) := by decide +kernel
theorem dX5_isSame_63 : decode cX5_isSame 63 = .ok (.iadd, 1) := by decide +kernel
theorem dX5_isSame_64 : decode cX5_isSame 64 = .ok (.iaload, 1) := by decide +kernel
theorem dX5_isSame_65 : decode cX5_isSame 65 = .ok (.if_icmp .ge 102, 3) := by decide +kernel
theorem dX5_isSame_68 : decode cX5_isSame 68 = .ok (.aload_n 0, 1) := by decide +kernel
theorem dX5_isSame_69 : decode cX5_isSame 69 = .ok (.getfield 44, 3) := by decide +kernel
theorem dX5_isSame_72 : decode cX5_isSame 72 = .ok (.iload 5, 2) := by decide +kernel
theorem dX5_isSame_74 : decode cX5_isSame 74 = .ok (.laload, 1) := by decide +kernel
theorem dX5_isSame_75 : decode cX5_isSame 75 = .ok (.lstore 6, 2) := by decide +kernel
theorem dX5_isSame_77 : decode cX5_isSame 77 = .ok (.aload_n 2, 1) := by decide +kernel
theorem dX5_isSame_78 : decode cX5_isSame 78 = .ok (.getfield 44, 3) := by decide +kernel
theorem dX5_isSame_81 : decode cX5_isSame 81 = .ok (.iload 5, 2) := by decide +kernel
theorem dX5_isSame_83 : decode cX5_isSame 83 = .ok (.iload 4, 2) := by decide +kernel
theorem dX5_isSame_85 : decode cX5_isSame 85 = .ok (.iadd, 1) := by decide +kernel
theorem dX5_isSame_86 : decode cX5_isSame 86 = .ok (.laload, 1) := by decide +kernel
theorem dX5_isSame_87 : decode cX5_isSame 87 = .ok (.lstore 8, 2) := by decide +kernel
theorem dX5_isSame_89 : decode cX5_isSame 89 = .ok (.aload_n 0, 1) := by decide +kernel
theorem dX5_isSame_90 : decode cX5_isSame 90 = .ok (.getfield 48, 3) := by decide +kernel
theorem dX5_isSame_93 : decode cX5_isSame 93 = .ok (.iload 5, 2) := by decide +kernel
theorem dX5_isSame_95 : decode cX5_isSame 95 = .ok (.baload, 1) := by decide +kernel
theorem dX5_isSame_96 : decode cX5_isSame 96 = .ok (.ifCond .eq 55, 3) := by decide +kernel
theorem dX5_isSame_99 : decode cX5_isSame 99 = .ok (.lload 6, 2) := by decide +kernel
theorem dX5_isSame_101 : decode cX5_isSame 101 = .ok (.ldc2_w 128, 3) := by decide +kernel
theorem dX5_isSame_104 : decode cX5_isSame 104 = .ok (.lcmp, 1) := by decide +kernel
theorem dX5_isSame_105 : decode cX5_isSame 105 = .ok (.ifCond .ne 9, 3) := by decide +kernel
theorem dX5_isSame_108 : decode cX5_isSame 108 = .ok (.ldc2_w 128, 3) := by decide +kernel
theorem dX5_isSame_111 : decode cX5_isSame 111 = .ok (.goto 12, 3) := by decide +kernel
theorem dX5_isSame_114 : decode cX5_isSame 114 = .ok (.aload_n 0, 1) := by decide +kernel
theorem dX5_isSame_115 : decode cX5_isSame 115 = .ok (.getfield 11, 3) := by decide +kernel
theorem dX5_isSame_118 : decode cX5_isSame 118 = .ok (.lload 6, 2) := by decide +kernel
theorem dX5_isSame_120 : decode cX5_isSame 120 = .ok (.l2i, 1) := by decide +kernel
theorem dX5_isSame_121 : decode cX5_isSame 121 = .ok (.iaload, 1) := by decide +kernel
theorem dX5_isSame_122 : decode cX5_isSame 122 = .ok (.i2l, 1) := by decide +kernel
theorem dX5_isSame_123 : decode cX5_isSame 123 = .ok (.lstore 6, 2) := by decide +kernel
theorem dX5_isSame_125 : decode cX5_isSame 125 = .ok (.lload 8, 2) := by decide +kernel
theorem dX5_isSame_127 : decode cX5_isSame 127 = .ok (.ldc2_w 128, 3) := by decide +kernel
theorem dX5_isSame_130 : decode cX5_isSame 130 = .ok (.lcmp, 1) := by decide +kernel
theorem dX5_isSame_131 : decode cX5_isSame 131 = .ok (.ifCond .ne 9, 3) := by decide +kernel
theorem dX5_isSame_134 : decode cX5_isSame 134 = .ok (.ldc2_w 128, 3) := by decide +kernel
theorem dX5_isSame_137 : decode cX5_isSame 137 = .ok (.goto 12, 3) := by decide +kernel
theorem dX5_isSame_140 : decode cX5_isSame 140 = .ok (.aload_n 2, 1) := by decide +kernel
theorem dX5_isSame_141 : decode cX5_isSame 141 = .ok (.getfield 11, 3) := by decide +kernel
theorem dX5_isSame_144 : decode cX5_isSame 144 = .ok (.lload 8, 2) := by decide +kernel
theorem dX5_isSame_146 : decode cX5_isSame 146 = .ok (.l2i, 1) := by decide +kernel
theorem dX5_isSame_147 : decode cX5_isSame 147 = .ok (.iaload, 1) := by decide +kernel
theorem dX5_isSame_148 : decode cX5_isSame 148 = .ok (.i2l, 1) := by decide +kernel
theorem dX5_isSame_149 : decode cX5_isSame 149 = .ok (.lstore 8, 2) := by decide +kernel
theorem dX5_isSame_151 : decode cX5_isSame 151 = .ok (.lload 6, 2) := by decide +kernel
theorem dX5_isSame_153 : decode cX5_isSame 153 = .ok (.lload 8, 2) := by decide +kernel
theorem dX5_isSame_155 : decode cX5_isSame 155 = .ok (.lcmp, 1) := by decide +kernel
theorem dX5_isSame_156 : decode cX5_isSame 156 = .ok (.ifCond .eq 5, 3) := by decide +kernel
theorem dX5_isSame_159 : decode cX5_isSame 159 = .ok (.iconst 0, 1) := by decide +kernel
theorem dX5_isSame_160 : decode cX5_isSame 160 = .ok (.ireturn, 1) := by decide +kernel
theorem dX5_isSame_161 : decode cX5_isSame 161 = .ok (.iinc 5 1, 3) := by decide +kernel
theorem dX5_isSame_164 : decode cX5_isSame 164 = .ok (.goto (-109), 3) := by decide +kernel
theorem dX5_isSame_167 : decode cX5_isSame 167 = .ok (.iconst 1, 1) := by decide +kernel
theorem dX5_isSame_168 : decode cX5_isSame 168 = .ok (.ireturn, 1) := by decide +kernel
theorem dX5_keptBy_0 : decode cX5_keptBy 0 = .ok (.aload_n 0, 1) := by decide +kernel
theorem dX5_keptBy_1 : decode cX5_keptBy 1 = .ok (.invokevirtual 162, 3) := by decide +kernel
theorem dX5_keptBy_4 : decode cX5_keptBy 4 = .ok (.aload_n 0, 1) := by decide +kernel
theorem dX5_keptBy_5 : decode cX5_keptBy 5 = .ok (.getfield 78, 3) := by decide +kernel
theorem dX5_keptBy_8 : decode cX5_keptBy 8 = .ok (.getfield 168, 3) := by decide +kernel
theorem dX5_keptBy_11 : decode cX5_keptBy 11 = .ok (.iload_n 1, 1) := by decide +kernel
theorem dX5_keptBy_12 : decode cX5_keptBy 12 = .ok (.iaload, 1) := by decide +kernel
theorem dX5_keptBy_13 : decode cX5_keptBy 13 = .ok (.ireturn, 1) := by decide +kernel
theorem dX5_listChanged_0 : decode cX5_listChanged 0 = .ok (.iconst 0, 1) := by decide +kernel
theorem dX5_listChanged_1 : decode cX5_listChanged 1 = .ok (.istore_n 3, 1) := by decide +kernel
theorem dX5_listChanged_2 : decode cX5_listChanged 2 = .ok (.iconst 0, 1) := by decide +kernel
theorem dX5_listChanged_3 : decode cX5_listChanged 3 = .ok (.istore 4, 2) := by decide +kernel
theorem dX5_listChanged_5 : decode cX5_listChanged 5 = .ok (.iload 4, 2) := by decide +kernel
theorem dX5_listChanged_7 : decode cX5_listChanged 7 = .ok (.aload_n 0, 1) := by decide +kernel
theorem dX5_listChanged_8 : decode cX5_listChanged 8 = .ok (.getfield 82, 3) := by decide +kernel
theorem dX5_listChanged_11 : decode cX5_listChanged 11 = .ok (.if_icmp .ge 49, 3) := by decide +kernel
theorem dX5_listChanged_14 : decode cX5_listChanged 14 = .ok (.aload_n 1, 1) := by decide +kernel
theorem dX5_listChanged_15 : decode cX5_listChanged 15 = .ok (.getfield 35, 3) := by decide +kernel
theorem dX5_listChanged_18 : decode cX5_listChanged 18 = .ok (.aload_n 0, 1) := by decide +kernel
theorem dX5_listChanged_19 : decode cX5_listChanged 19 = .ok (.getfield 11, 3) := by decide +kernel
theorem dX5_listChanged_22 : decode cX5_listChanged 22 = .ok (.iload 4, 2) := by decide +kernel
theorem dX5_listChanged_24 : decode cX5_listChanged 24 = .ok (.iaload, 1) := by decide +kernel
theorem dX5_listChanged_25 : decode cX5_listChanged 25 = .ok (.iaload, 1) := by decide +kernel
theorem dX5_listChanged_26 : decode cX5_listChanged 26 = .ok (.istore 5, 2) := by decide +kernel
theorem dX5_listChanged_28 : decode cX5_listChanged 28 = .ok (.iload 5, 2) := by decide +kernel
theorem dX5_listChanged_30 : decode cX5_listChanged 30 = .ok (.iconst (-1), 1) := by decide +kernel
theorem dX5_listChanged_31 : decode cX5_listChanged 31 = .ok (.if_icmp .eq 23, 3) := by decide +kernel
theorem dX5_listChanged_34 : decode cX5_listChanged 34 = .ok (.aload_n 0, 1) := by decide +kernel
theorem dX5_listChanged_35 : decode cX5_listChanged 35 = .ok (.iload 4, 2) := by decide +kernel
theorem dX5_listChanged_37 : decode cX5_listChanged 37 = .ok (.aload_n 1, 1) := by decide +kernel
theorem dX5_listChanged_38 : decode cX5_listChanged 38 = .ok (.iload 5, 2) := by decide +kernel
theorem dX5_listChanged_40 : decode cX5_listChanged 40 = .ok (.invokevirtual 215, 3) := by decide +kernel
theorem dX5_listChanged_43 : decode cX5_listChanged 43 = .ok (.ifCond .ne 11, 3) := by decide +kernel
theorem dX5_listChanged_46 : decode cX5_listChanged 46 = .ok (.aload_n 2, 1) := by decide +kernel
theorem dX5_listChanged_47 : decode cX5_listChanged 47 = .ok (.iload_n 3, 1) := by decide +kernel
theorem dX5_listChanged_48 : decode cX5_listChanged 48 = .ok (.iload 4, 2) := by decide +kernel
theorem dX5_listChanged_50 : decode cX5_listChanged 50 = .ok (.iastore, 1) := by decide +kernel
theorem dX5_listChanged_51 : decode cX5_listChanged 51 = .ok (.iinc 3 1, 3) := by decide +kernel
theorem dX5_listChanged_54 : decode cX5_listChanged 54 = .ok (.iinc 4 1, 3) := by decide +kernel
theorem dX5_listChanged_57 : decode cX5_listChanged 57 = .ok (.goto (-52), 3) := by decide +kernel
theorem dX5_listChanged_60 : decode cX5_listChanged 60 = .ok (.iload_n 3, 1) := by decide +kernel
theorem dX5_listChanged_61 : decode cX5_listChanged 61 = .ok (.ireturn, 1) := by decide +kernel
theorem dX5_listMissing_0 : decode cX5_listMissing 0 = .ok (.iconst 0, 1) := by decide +kernel
theorem dX5_listMissing_1 : decode cX5_listMissing 1 = .ok (.istore_n 3, 1) := by decide +kernel
theorem dX5_listMissing_2 : decode cX5_listMissing 2 = .ok (.iconst 0, 1) := by decide +kernel
theorem dX5_listMissing_3 : decode cX5_listMissing 3 = .ok (.istore 4, 2) := by decide +kernel
theorem dX5_listMissing_5 : decode cX5_listMissing 5 = .ok (.iload 4, 2) := by decide +kernel
theorem dX5_listMissing_7 : decode cX5_listMissing 7 = .ok (.aload_n 0, 1) := by decide +kernel
theorem dX5_listMissing_8 : decode cX5_listMissing 8 = .ok (.getfield 82, 3) := by decide +kernel
theorem dX5_listMissing_11 : decode cX5_listMissing 11 = .ok (.if_icmp .ge 33, 3) := by decide +kernel
theorem dX5_listMissing_14 : decode cX5_listMissing 14 = .ok (.aload_n 1, 1) := by decide +kernel
theorem dX5_listMissing_15 : decode cX5_listMissing 15 = .ok (.getfield 35, 3) := by decide +kernel
theorem dX5_listMissing_18 : decode cX5_listMissing 18 = .ok (.aload_n 0, 1) := by decide +kernel
theorem dX5_listMissing_19 : decode cX5_listMissing 19 = .ok (.getfield 11, 3) := by decide +kernel
theorem dX5_listMissing_22 : decode cX5_listMissing 22 = .ok (.iload 4, 2) := by decide +kernel
theorem dX5_listMissing_24 : decode cX5_listMissing 24 = .ok (.iaload, 1) := by decide +kernel
theorem dX5_listMissing_25 : decode cX5_listMissing 25 = .ok (.iaload, 1) := by decide +kernel
theorem dX5_listMissing_26 : decode cX5_listMissing 26 = .ok (.iconst (-1), 1) := by decide +kernel
theorem dX5_listMissing_27 : decode cX5_listMissing 27 = .ok (.if_icmp .ne 11, 3) := by decide +kernel
theorem dX5_listMissing_30 : decode cX5_listMissing 30 = .ok (.aload_n 2, 1) := by decide +kernel
theorem dX5_listMissing_31 : decode cX5_listMissing 31 = .ok (.iload_n 3, 1) := by decide +kernel
theorem dX5_listMissing_32 : decode cX5_listMissing 32 = .ok (.iload 4, 2) := by decide +kernel
theorem dX5_listMissing_34 : decode cX5_listMissing 34 = .ok (.iastore, 1) := by decide +kernel
theorem dX5_listMissing_35 : decode cX5_listMissing 35 = .ok (.iinc 3 1, 3) := by decide +kernel
theorem dX5_listMissing_38 : decode cX5_listMissing 38 = .ok (.iinc 4 1, 3) := by decide +kernel
theorem dX5_listMissing_41 : decode cX5_listMissing 41 = .ok (.goto (-36), 3) := by decide +kernel
theorem dX5_listMissing_44 : decode cX5_listMissing 44 = .ok (.iload_n 3, 1) := by decide +kernel
theorem dX5_listMissing_45 : decode cX5_listMissing 45 = .ok (.ireturn, 1) := by decide +kernel
theorem dX5_meet_0 : decode cX5_meet 0 = .ok (.aload_n 0, 1) := by decide +kernel
theorem dX5_meet_1 : decode cX5_meet 1 = .ok (.getfield 35, 3) := by decide +kernel
theorem dX5_meet_4 : decode cX5_meet 4 = .ok (.iload_n 2, 1) := by decide +kernel
theorem dX5_meet_5 : decode cX5_meet 5 = .ok (.iaload, 1) := by decide +kernel
theorem dX5_meet_6 : decode cX5_meet 6 = .ok (.iconst (-1), 1) := by decide +kernel
theorem dX5_meet_7 : decode cX5_meet 7 = .ok (.if_icmp .eq 10, 3) := by decide +kernel
theorem dX5_meet_10 : decode cX5_meet 10 = .ok (.aload_n 0, 1) := by decide +kernel
theorem dX5_meet_11 : decode cX5_meet 11 = .ok (.getfield 35, 3) := by decide +kernel
theorem dX5_meet_14 : decode cX5_meet 14 = .ok (.iload_n 2, 1) := by decide +kernel
theorem dX5_meet_15 : decode cX5_meet 15 = .ok (.iaload, 1) := by decide +kernel
theorem dX5_meet_16 : decode cX5_meet 16 = .ok (.ireturn, 1) := by decide +kernel
theorem dX5_meet_17 : decode cX5_meet 17 = .ok (.aload_n 0, 1) := by decide +kernel
theorem dX5_meet_18 : decode cX5_meet 18 = .ok (.iload_n 2, 1) := by decide +kernel
theorem dX5_meet_19 : decode cX5_meet 19 = .ok (.aload_n 1, 1) := by decide +kernel
theorem dX5_meet_20 : decode cX5_meet 20 = .ok (.getfield 138, 3) := by decide +kernel
theorem dX5_meet_23 : decode cX5_meet 23 = .ok (.iload_n 2, 1) := by decide +kernel
theorem dX5_meet_24 : decode cX5_meet 24 = .ok (.iaload, 1) := by decide +kernel
theorem dX5_meet_25 : decode cX5_meet 25 = .ok (.aload_n 1, 1) := by decide +kernel
theorem dX5_meet_26 : decode cX5_meet 26 = .ok (.getfield 139, 3) := by decide +kernel
theorem dX5_meet_29 : decode cX5_meet 29 = .ok (.iload_n 2, 1) := by decide +kernel
theorem dX5_meet_30 : decode cX5_meet 30 = .ok (.iaload, 1) := by decide +kernel
theorem dX5_meet_31 : decode cX5_meet 31 = .ok (.aload_n 1, 1) := by decide +kernel
theorem dX5_meet_32 : decode cX5_meet 32 = .ok (.iload_n 2, 1) := by decide +kernel
theorem dX5_meet_33 : decode cX5_meet 33 = .ok (.invokevirtual 140, 3) := by decide +kernel
theorem dX5_meet_36 : decode cX5_meet 36 = .ok (.invokevirtual 144, 3) := by decide +kernel
theorem dX5_meet_39 : decode cX5_meet 39 = .ok (.istore 5, 2) := by decide +kernel
theorem dX5_meet_41 : decode cX5_meet 41 = .ok (.aload_n 0, 1) := by decide +kernel
theorem dX5_meet_42 : decode cX5_meet 42 = .ok (.iload 5, 2) := by decide +kernel
theorem dX5_meet_44 : decode cX5_meet 44 = .ok (.iload_n 3, 1) := by decide +kernel
theorem dX5_meet_45 : decode cX5_meet 45 = .ok (.iload 4, 2) := by decide +kernel
theorem dX5_meet_47 : decode cX5_meet 47 = .ok (.invokevirtual 148, 3) := by decide +kernel
theorem dX5_meet_50 : decode cX5_meet 50 = .ok (.iload 5, 2) := by decide +kernel
theorem dX5_meet_52 : decode cX5_meet 52 = .ok (.ireturn, 1) := by decide +kernel
theorem dX5_meetRoot_0 : decode cX5_meetRoot 0 = .ok (.lload_n 2, 1) := by decide +kernel
theorem dX5_meetRoot_1 : decode cX5_meetRoot 1 = .ok (.ldc2_w 128, 3) := by decide +kernel
theorem dX5_meetRoot_4 : decode cX5_meetRoot 4 = .ok (.lcmp, 1) := by decide +kernel
theorem dX5_meetRoot_5 : decode cX5_meetRoot 5 = .ok (.ifCond .eq 19, 3) := by decide +kernel
theorem dX5_meetRoot_8 : decode cX5_meetRoot 8 = .ok (.aload_n 0, 1) := by decide +kernel
theorem dX5_meetRoot_9 : decode cX5_meetRoot 9 = .ok (.iload 4, 2) := by decide +kernel
theorem dX5_meetRoot_11 : decode cX5_meetRoot 11 = .ok (.aload_n 0, 1) := by decide +kernel
theorem dX5_meetRoot_12 : decode cX5_meetRoot 12 = .ok (.aload_n 1, 1) := by decide +kernel
theorem dX5_meetRoot_13 : decode cX5_meetRoot 13 = .ok (.lload_n 2, 1) := by decide +kernel
theorem dX5_meetRoot_14 : decode cX5_meetRoot 14 = .ok (.l2i, 1) := by decide +kernel
theorem dX5_meetRoot_15 : decode cX5_meetRoot 15 = .ok (.iconst (-1), 1) := by decide +kernel
theorem dX5_meetRoot_16 : decode cX5_meetRoot 16 = .ok (.iload 4, 2) := by decide +kernel
theorem dX5_meetRoot_18 : decode cX5_meetRoot 18 = .ok (.invokevirtual 130, 3) := by decide +kernel
theorem dX5_meetRoot_21 : decode cX5_meetRoot 21 = .ok (.invokevirtual 134, 3) := by decide +kernel
theorem dX5_meetRoot_24 : decode cX5_meetRoot 24 = .ok (.return_, 1) := by decide +kernel
theorem dX5_memberOf_0 : decode cX5_memberOf 0 = .ok (.iload_n 3, 1) := by decide +kernel
theorem dX5_memberOf_1 : decode cX5_memberOf 1 = .ok (.istore 4, 2) := by decide +kernel
theorem dX5_memberOf_3 : decode cX5_memberOf 3 = .ok (.iconst 0, 1) := by decide +kernel
theorem dX5_memberOf_4 : decode cX5_memberOf 4 = .ok (.istore 5, 2) := by decide +kernel
theorem dX5_memberOf_6 : decode cX5_memberOf 6 = .ok (.iload 5, 2) := by decide +kernel
theorem dX5_memberOf_8 : decode cX5_memberOf 8 = .ok (.aload_n 0, 1) := by decide +kernel
theorem dX5_memberOf_9 : decode cX5_memberOf 9 = .ok (.getfield 82, 3) := by decide +kernel
theorem dX5_memberOf_12 : decode cX5_memberOf 12 = .ok (.if_icmp .ge 28, 3) := by decide +kernel
theorem dX5_memberOf_15 : decode cX5_memberOf 15 = .ok (.aload_n 1, 1) := by decide +kernel
theorem dX5_memberOf_16 : decode cX5_memberOf 16 = .ok (.iload 5, 2) := by decide +kernel
theorem dX5_memberOf_18 : decode cX5_memberOf 18 = .ok (.iaload, 1) := by decide +kernel
theorem dX5_memberOf_19 : decode cX5_memberOf 19 = .ok (.iload_n 2, 1) := by decide +kernel
theorem dX5_memberOf_20 : decode cX5_memberOf 20 = .ok (.if_icmp .ne 14, 3) := by decide +kernel
theorem dX5_memberOf_23 : decode cX5_memberOf 23 = .ok (.iload 4, 2) := by decide +kernel
theorem dX5_memberOf_25 : decode cX5_memberOf 25 = .ok (.ifCond .ne 6, 3) := by decide +kernel
theorem dX5_memberOf_28 : decode cX5_memberOf 28 = .ok (.iload 5, 2) := by decide +kernel
theorem dX5_memberOf_30 : decode cX5_memberOf 30 = .ok (.ireturn, 1) := by decide +kernel
theorem dX5_memberOf_31 : decode cX5_memberOf 31 = .ok (.iinc 4 (-1), 3) := by decide +kernel
theorem dX5_memberOf_34 : decode cX5_memberOf 34 = .ok (.iinc 5 1, 3) := by decide +kernel
theorem dX5_memberOf_37 : decode cX5_memberOf 37 = .ok (.goto (-31), 3) := by decide +kernel
theorem dX5_memberOf_40 : decode cX5_memberOf 40 = .ok (.iconst (-1), 1) := by decide +kernel
theorem dX5_memberOf_41 : decode cX5_memberOf 41 = .ok (.ireturn, 1) := by decide +kernel
theorem dX5_needDominators_0 : decode cX5_needDominators 0 = .ok (.aload_n 0, 1) := by decide +kernel
theorem dX5_needDominators_1 : decode cX5_needDominators 1 = .ok (.getfield 78, 3) := by decide +kernel
theorem dX5_needDominators_4 : decode cX5_needDominators 4 = .ok (.aload_n 0, 1) := by decide +kernel
theorem dX5_needDominators_5 : decode cX5_needDominators 5 = .ok (.invokevirtual 155, 3) := by decide +kernel
theorem dX5_needDominators_8 : decode cX5_needDominators 8 = .ok (.aload_n 0, 1) := by decide +kernel
theorem dX5_needDominators_9 : decode cX5_needDominators 9 = .ok (.getfield 78, 3) := by decide +kernel
theorem dX5_needDominators_12 : decode cX5_needDominators 12 = .ok (.aload_n 0, 1) := by decide +kernel
theorem dX5_needDominators_13 : decode cX5_needDominators 13 = .ok (.invokevirtual 174, 3) := by decide +kernel
theorem dX5_needDominators_16 : decode cX5_needDominators 16 = .ok (.return_, 1) := by decide +kernel
theorem dX5_pairSlots_0 : decode cX5_pairSlots 0 = .ok (.aload_n 0, 1) := by decide +kernel
theorem dX5_pairSlots_1 : decode cX5_pairSlots 1 = .ok (.getfield 64, 3) := by decide +kernel
theorem dX5_pairSlots_4 : decode cX5_pairSlots 4 = .ok (.iload_n 1, 1) := by decide +kernel
theorem dX5_pairSlots_5 : decode cX5_pairSlots 5 = .ok (.iaload, 1) := by decide +kernel
theorem dX5_pairSlots_6 : decode cX5_pairSlots 6 = .ok (.istore 4, 2) := by decide +kernel
theorem dX5_pairSlots_8 : decode cX5_pairSlots 8 = .ok (.aload_n 0, 1) := by decide +kernel
theorem dX5_pairSlots_9 : decode cX5_pairSlots 9 = .ok (.getfield 15, 3) := by decide +kernel
theorem dX5_pairSlots_12 : decode cX5_pairSlots 12 = .ok (.iload_n 1, 1) := by decide +kernel
theorem dX5_pairSlots_13 : decode cX5_pairSlots 13 = .ok (.iaload, 1) := by decide +kernel
theorem dX5_pairSlots_14 : decode cX5_pairSlots 14 = .ok (.aload_n 2, 1) := by decide +kernel
theorem dX5_pairSlots_15 : decode cX5_pairSlots 15 = .ok (.getfield 15, 3) := by decide +kernel
theorem dX5_pairSlots_18 : decode cX5_pairSlots 18 = .ok (.iload 4, 2) := by decide +kernel
theorem dX5_pairSlots_20 : decode cX5_pairSlots 20 = .ok (.iaload, 1) := by decide +kernel
theorem dX5_pairSlots_21 : decode cX5_pairSlots 21 = .ok (.if_icmp .ne 19, 3) := by decide +kernel
theorem dX5_pairSlots_24 : decode cX5_pairSlots 24 = .ok (.aload_n 0, 1) := by decide +kernel
theorem dX5_pairSlots_25 : decode cX5_pairSlots 25 = .ok (.getfield 18, 3) := by decide +kernel
theorem dX5_pairSlots_28 : decode cX5_pairSlots 28 = .ok (.iload_n 1, 1) := by decide +kernel
theorem dX5_pairSlots_29 : decode cX5_pairSlots 29 = .ok (.iaload, 1) := by decide +kernel
theorem dX5_pairSlots_30 : decode cX5_pairSlots 30 = .ok (.aload_n 2, 1) := by decide +kernel
theorem dX5_pairSlots_31 : decode cX5_pairSlots 31 = .ok (.getfield 18, 3) := by decide +kernel
theorem dX5_pairSlots_34 : decode cX5_pairSlots 34 = .ok (.iload 4, 2) := by decide +kernel
theorem dX5_pairSlots_36 : decode cX5_pairSlots 36 = .ok (.iaload, 1) := by decide +kernel
theorem dX5_pairSlots_37 : decode cX5_pairSlots 37 = .ok (.if_icmp .eq 5, 3) := by decide +kernel
theorem dX5_pairSlots_40 : decode cX5_pairSlots 40 = .ok (.iconst (-1), 1) := by decide +kernel
theorem dX5_pairSlots_41 : decode cX5_pairSlots 41 = .ok (.ireturn, 1) := by decide +kernel
theorem dX5_pairSlots_42 : decode cX5_pairSlots 42 = .ok (.iload_n 3, 1) := by decide +kernel
theorem dX5_pairSlots_43 : decode cX5_pairSlots 43 = .ok (.istore 5, 2) := by decide +kernel
theorem dX5_pairSlots_45 : decode cX5_pairSlots 45 = .ok (.aload_n 2, 1) := by decide +kernel
theorem dX5_pairSlots_46 : decode cX5_pairSlots 46 = .ok (.getfield 21, 3) := by decide +kernel
theorem dX5_pairSlots_49 : decode cX5_pairSlots 49 = .ok (.iload 4, 2) := by decide +kernel
theorem dX5_pairSlots_51 : decode cX5_pairSlots 51 = .ok (.iaload, 1) := by decide +kernel
theorem dX5_pairSlots_52 : decode cX5_pairSlots 52 = .ok (.aload_n 0, 1) := by decide +kernel
theorem dX5_pairSlots_53 : decode cX5_pairSlots 53 = .ok (.getfield 21, 3) := by decide +kernel
theorem dX5_pairSlots_56 : decode cX5_pairSlots 56 = .ok (.iload_n 1, 1) := by decide +kernel
theorem dX5_pairSlots_57 : decode cX5_pairSlots 57 = .ok (.iaload, 1) := by decide +kernel
theorem dX5_pairSlots_58 : decode cX5_pairSlots 58 = .ok (.isub, 1) := by decide +kernel
theorem dX5_pairSlots_59 : decode cX5_pairSlots 59 = .ok (.istore 6, 2) := by decide +kernel
theorem dX5_pairSlots_61 : decode cX5_pairSlots 61 = .ok (.aload_n 0, 1) := by decide +kernel
theorem dX5_pairSlots_62 : decode cX5_pairSlots 62 = .ok (.getfield 21, 3) := by decide +kernel
theorem dX5_pairSlots_65 : decode cX5_pairSlots 65 = .ok (.iload_n 1, 1) := by decide +kernel
theorem dX5_pairSlots_66 : decode cX5_pairSlots 66 = .ok (.iaload, 1) := by decide +kernel
theorem dX5_pairSlots_67 : decode cX5_pairSlots 67 = .ok (.istore 7, 2) := by decide +kernel
theorem dX5_pairSlots_69 : decode cX5_pairSlots 69 = .ok (.iload 7, 2) := by decide +kernel
theorem dX5_pairSlots_71 : decode cX5_pairSlots 71 = .ok (.aload_n 0, 1) := by decide +kernel
theorem dX5_pairSlots_72 : decode cX5_pairSlots 72 = .ok (.getfield 21, 3) := by decide +kernel
theorem dX5_pairSlots_75 : decode cX5_pairSlots 75 = .ok (.iload_n 1, 1) := by decide +kernel
theorem dX5_pairSlots_76 : decode cX5_pairSlots 76 = .ok (.iconst 1, 1) := by decide +kernel
theorem dX5_pairSlots_77 : decode cX5_pairSlots 77 = .ok (.iadd, 1) := by decide +kernel
theorem dX5_pairSlots_78 : decode cX5_pairSlots 78 = .ok (.iaload, 1) := by decide +kernel
theorem dX5_pairSlots_79 : decode cX5_pairSlots 79 = .ok (.if_icmp .ge 147, 3) := by decide +kernel
theorem dX5_pairSlots_82 : decode cX5_pairSlots 82 = .ok (.aload_n 0, 1) := by decide +kernel
theorem dX5_pairSlots_83 : decode cX5_pairSlots 83 = .ok (.getfield 44, 3) := by decide +kernel
theorem dX5_pairSlots_86 : decode cX5_pairSlots 86 = .ok (.iload 7, 2) := by decide +kernel
theorem dX5_pairSlots_88 : decode cX5_pairSlots 88 = .ok (.laload, 1) := by decide +kernel
theorem dX5_pairSlots_89 : decode cX5_pairSlots 89 = .ok (.lstore 8, 2) := by decide +kernel
theorem dX5_pairSlots_91 : decode cX5_pairSlots 91 = .ok (.aload_n 2, 1) := by decide +kernel
theorem dX5_pairSlots_92 : decode cX5_pairSlots 92 = .ok (.getfield 44, 3) := by decide +kernel
theorem dX5_pairSlots_95 : decode cX5_pairSlots 95 = .ok (.iload 7, 2) := by decide +kernel
theorem dX5_pairSlots_97 : decode cX5_pairSlots 97 = .ok (.iload 6, 2) := by decide +kernel
theorem dX5_pairSlots_99 : decode cX5_pairSlots 99 = .ok (.iadd, 1) := by decide +kernel
theorem dX5_pairSlots_100 : decode cX5_pairSlots 100 = .ok (.laload, 1) := by decide +kernel
theorem dX5_pairSlots_101 : decode cX5_pairSlots 101 = .ok (.lstore 10, 2) := by decide +kernel
theorem dX5_pairSlots_103 : decode cX5_pairSlots 103 = .ok (.aload_n 0, 1) := by decide +kernel
theorem dX5_pairSlots_104 : decode cX5_pairSlots 104 = .ok (.getfield 48, 3) := by decide +kernel
theorem dX5_pairSlots_107 : decode cX5_pairSlots 107 = .ok (.iload 7, 2) := by decide +kernel
theorem dX5_pairSlots_109 : decode cX5_pairSlots 109 = .ok (.baload, 1) := by decide +kernel
theorem dX5_pairSlots_110 : decode cX5_pairSlots 110 = .ok (.ifCond .eq 21, 3) := by decide +kernel
theorem dX5_pairSlots_113 : decode cX5_pairSlots 113 = .ok (.lload 8, 2) := by decide +kernel
theorem dX5_pairSlots_115 : decode cX5_pairSlots 115 = .ok (.ldc2_w 128, 3) := by decide +kernel
theorem dX5_pairSlots_118 : decode cX5_pairSlots 118 = .ok (.lcmp, 1) := by decide +kernel
theorem dX5_pairSlots_119 : decode cX5_pairSlots 119 = .ok (.ifCond .eq 12, 3) := by decide +kernel
theorem dX5_pairSlots_122 : decode cX5_pairSlots 122 = .ok (.lload 10, 2) := by decide +kernel
theorem dX5_pairSlots_124 : decode cX5_pairSlots 124 = .ok (.ldc2_w 128, 3) := by decide +kernel
theorem dX5_pairSlots_127 : decode cX5_pairSlots 127 = .ok (.lcmp, 1) := by decide +kernel
theorem dX5_pairSlots_128 : decode cX5_pairSlots 128 = .ok (.ifCond .ne 13, 3) := by decide +kernel
theorem dX5_pairSlots_131 : decode cX5_pairSlots 131 = .ok (.lload 8, 2) := by decide +kernel
theorem dX5_pairSlots_133 : decode cX5_pairSlots 133 = .ok (.lload 10, 2) := by decide +kernel
theorem dX5_pairSlots_135 : decode cX5_pairSlots 135 = .ok (.lcmp, 1) := by decide +kernel
theorem dX5_pairSlots_136 : decode cX5_pairSlots 136 = .ok (.ifCond .eq 84, 3) := by decide +kernel
theorem dX5_pairSlots_139 : decode cX5_pairSlots 139 = .ok (.iconst (-1), 1) := by decide +kernel
theorem dX5_pairSlots_140 : decode cX5_pairSlots 140 = .ok (.ireturn, 1) := by decide +kernel
theorem dX5_pairSlots_141 : decode cX5_pairSlots 141 = .ok (.aload_n 0, 1) := by decide +kernel
theorem dX5_pairSlots_142 : decode cX5_pairSlots 142 = .ok (.getfield 64, 3) := by decide +kernel
theorem dX5_pairSlots_145 : decode cX5_pairSlots 145 = .ok (.lload 8, 2) := by decide +kernel
theorem dX5_pairSlots_147 : decode cX5_pairSlots 147 = .ok (.l2i, 1) := by decide +kernel
theorem dX5_pairSlots_148 : decode cX5_pairSlots 148 = .ok (.iaload, 1) := by decide +kernel
theorem dX5_pairSlots_149 : decode cX5_pairSlots 149 = .ok (.iconst (-1), 1) := by decide +kernel
theorem dX5_pairSlots_150 : decode cX5_pairSlots 150 = .ok (.if_icmp .ne 53, 3) := by decide +kernel
theorem dX5_pairSlots_153 : decode cX5_pairSlots 153 = .ok (.aload_n 2, 1) := by decide +kernel
theorem dX5_pairSlots_154 : decode cX5_pairSlots 154 = .ok (.getfield 67, 3) := by decide +kernel
theorem dX5_pairSlots_157 : decode cX5_pairSlots 157 = .ok (.lload 10, 2) := by decide +kernel
theorem dX5_pairSlots_159 : decode cX5_pairSlots 159 = .ok (.l2i, 1) := by decide +kernel
theorem dX5_pairSlots_160 : decode cX5_pairSlots 160 = .ok (.iaload, 1) := by decide +kernel
theorem dX5_pairSlots_161 : decode cX5_pairSlots 161 = .ok (.iconst (-1), 1) := by decide +kernel
theorem dX5_pairSlots_162 : decode cX5_pairSlots 162 = .ok (.if_icmp .ne 41, 3) := by decide +kernel
theorem dX5_pairSlots_165 : decode cX5_pairSlots 165 = .ok (.aload_n 0, 1) := by decide +kernel
theorem dX5_pairSlots_166 : decode cX5_pairSlots 166 = .ok (.getfield 64, 3) := by decide +kernel
theorem dX5_pairSlots_169 : decode cX5_pairSlots 169 = .ok (.lload 8, 2) := by decide +kernel
theorem dX5_pairSlots_171 : decode cX5_pairSlots 171 = .ok (.l2i, 1) := by decide +kernel
theorem dX5_pairSlots_172 : decode cX5_pairSlots 172 = .ok (.lload 10, 2) := by decide +kernel
theorem dX5_pairSlots_174 : decode cX5_pairSlots 174 = .ok (.l2i, 1) := by decide +kernel
theorem dX5_pairSlots_175 : decode cX5_pairSlots 175 = .ok (.iastore, 1) := by decide +kernel
theorem dX5_pairSlots_176 : decode cX5_pairSlots 176 = .ok (.aload_n 2, 1) := by decide +kernel
theorem dX5_pairSlots_177 : decode cX5_pairSlots 177 = .ok (.getfield 67, 3) := by decide +kernel
theorem dX5_pairSlots_180 : decode cX5_pairSlots 180 = .ok (.lload 10, 2) := by decide +kernel
theorem dX5_pairSlots_182 : decode cX5_pairSlots 182 = .ok (.l2i, 1) := by decide +kernel
theorem dX5_pairSlots_183 : decode cX5_pairSlots 183 = .ok (.lload 8, 2) := by decide +kernel
theorem dX5_pairSlots_185 : decode cX5_pairSlots 185 = .ok (.l2i, 1) := by decide +kernel
theorem dX5_pairSlots_186 : decode cX5_pairSlots 186 = .ok (.iastore, 1) := by decide +kernel
theorem dX5_pairSlots_187 : decode cX5_pairSlots 187 = .ok (.aload_n 0, 1) := by decide +kernel
theorem dX5_pairSlots_188 : decode cX5_pairSlots 188 = .ok (.getfield 70, 3) := by decide +kernel
theorem dX5_pairSlots_191 : decode cX5_pairSlots 191 = .ok (.iload 5, 2) := by decide +kernel
theorem dX5_pairSlots_193 : decode cX5_pairSlots 193 = .ok (.lload 8, 2) := by decide +kernel
theorem dX5_pairSlots_195 : decode cX5_pairSlots 195 = .ok (.l2i, 1) := by decide +kernel
theorem dX5_pairSlots_196 : decode cX5_pairSlots 196 = .ok (.iastore, 1) := by decide +kernel
theorem dX5_pairSlots_197 : decode cX5_pairSlots 197 = .ok (.iinc 5 1, 3) := by decide +kernel
theorem dX5_pairSlots_200 : decode cX5_pairSlots 200 = .ok (.goto 20, 3) := by decide +kernel
theorem dX5_pairSlots_203 : decode cX5_pairSlots 203 = .ok (.aload_n 0, 1) := by decide +kernel
theorem dX5_pairSlots_204 : decode cX5_pairSlots 204 = .ok (.getfield 64, 3) := by decide +kernel
theorem dX5_pairSlots_207 : decode cX5_pairSlots 207 = .ok (.lload 8, 2) := by decide +kernel
theorem dX5_pairSlots_209 : decode cX5_pairSlots 209 = .ok (.l2i, 1) := by decide +kernel
theorem dX5_pairSlots_210 : decode cX5_pairSlots 210 = .ok (.iaload, 1) := by decide +kernel
theorem dX5_pairSlots_211 : decode cX5_pairSlots 211 = .ok (.i2l, 1) := by decide +kernel
theorem dX5_pairSlots_212 : decode cX5_pairSlots 212 = .ok (.lload 10, 2) := by decide +kernel
theorem dX5_pairSlots_214 : decode cX5_pairSlots 214 = .ok (.lcmp, 1) := by decide +kernel
theorem dX5_pairSlots_215 : decode cX5_pairSlots 215 = .ok (.ifCond .eq 5, 3) := by decide +kernel
theorem dX5_pairSlots_218 : decode cX5_pairSlots 218 = .ok (.iconst (-1), 1) := by decide +kernel
theorem dX5_pairSlots_219 : decode cX5_pairSlots 219 = .ok (.ireturn, 1) := by decide +kernel
theorem dX5_pairSlots_220 : decode cX5_pairSlots 220 = .ok (.iinc 7 1, 3) := by decide +kernel
theorem dX5_pairSlots_223 : decode cX5_pairSlots 223 = .ok (.goto (-154), 3) := by decide +kernel
theorem dX5_pairSlots_226 : decode cX5_pairSlots 226 = .ok (.iload 5, 2) := by decide +kernel
theorem dX5_pairSlots_228 : decode cX5_pairSlots 228 = .ok (.ireturn, 1) := by decide +kernel
theorem dX5_reach_0 : decode cX5_reach 0 = .ok (.aload_n 0, 1) := by decide +kernel
theorem dX5_reach_1 : decode cX5_reach 1 = .ok (.getfield 64, 3) := by decide +kernel
theorem dX5_reach_4 : decode cX5_reach 4 = .ok (.iload_n 1, 1) := by decide +kernel
theorem dX5_reach_5 : decode cX5_reach 5 = .ok (.iaload, 1) := by decide +kernel
theorem dX5_reach_6 : decode cX5_reach 6 = .ok (.ifCond .ne 12, 3) := by decide +kernel
theorem dX5_reach_9 : decode cX5_reach 9 = .ok (.aload_n 0, 1) := by decide +kernel
theorem dX5_reach_10 : decode cX5_reach 10 = .ok (.getfield 58, 3) := by decide +kernel
theorem dX5_reach_13 : decode cX5_reach 13 = .ok (.iload_n 1, 1) := by decide +kernel
theorem dX5_reach_14 : decode cX5_reach 14 = .ok (.baload, 1) := by decide +kernel
theorem dX5_reach_15 : decode cX5_reach 15 = .ok (.ifCond .eq 5, 3) := by decide +kernel
theorem dX5_reach_18 : decode cX5_reach 18 = .ok (.iload_n 2, 1) := by decide +kernel
theorem dX5_reach_19 : decode cX5_reach 19 = .ok (.ireturn, 1) := by decide +kernel
theorem dX5_reach_20 : decode cX5_reach 20 = .ok (.aload_n 0, 1) := by decide +kernel
theorem dX5_reach_21 : decode cX5_reach 21 = .ok (.getfield 64, 3) := by decide +kernel
theorem dX5_reach_24 : decode cX5_reach 24 = .ok (.iload_n 1, 1) := by decide +kernel
theorem dX5_reach_25 : decode cX5_reach 25 = .ok (.iconst 1, 1) := by decide +kernel
theorem dX5_reach_26 : decode cX5_reach 26 = .ok (.iastore, 1) := by decide +kernel
theorem dX5_reach_27 : decode cX5_reach 27 = .ok (.aload_n 0, 1) := by decide +kernel
theorem dX5_reach_28 : decode cX5_reach 28 = .ok (.getfield 70, 3) := by decide +kernel
theorem dX5_reach_31 : decode cX5_reach 31 = .ok (.iload_n 2, 1) := by decide +kernel
theorem dX5_reach_32 : decode cX5_reach 32 = .ok (.iload_n 1, 1) := by decide +kernel
theorem dX5_reach_33 : decode cX5_reach 33 = .ok (.iastore, 1) := by decide +kernel
theorem dX5_reach_34 : decode cX5_reach 34 = .ok (.iload_n 2, 1) := by decide +kernel
theorem dX5_reach_35 : decode cX5_reach 35 = .ok (.iconst 1, 1) := by decide +kernel
theorem dX5_reach_36 : decode cX5_reach 36 = .ok (.iadd, 1) := by decide +kernel
theorem dX5_reach_37 : decode cX5_reach 37 = .ok (.ireturn, 1) := by decide +kernel
theorem dX5_ringCount_0 : decode cX5_ringCount 0 = .ok (.aload_n 0, 1) := by decide +kernel
theorem dX5_ringCount_1 : decode cX5_ringCount 1 = .ok (.getfield 78, 3) := by decide +kernel
theorem dX5_ringCount_4 : decode cX5_ringCount 4 = .ok (.aload_n 0, 1) := by decide +kernel
theorem dX5_ringCount_5 : decode cX5_ringCount 5 = .ok (.invokevirtual 176, 3) := by decide +kernel
theorem dX5_ringCount_8 : decode cX5_ringCount 8 = .ok (.aload_n 0, 1) := by decide +kernel
theorem dX5_ringCount_9 : decode cX5_ringCount 9 = .ok (.getfield 78, 3) := by decide +kernel
theorem dX5_ringCount_12 : decode cX5_ringCount 12 = .ok (.getfield 182, 3) := by decide +kernel
theorem dX5_ringCount_15 : decode cX5_ringCount 15 = .ok (.ireturn, 1) := by decide +kernel
theorem dX5_ringMember_0 : decode cX5_ringMember 0 = .ok (.aload_n 0, 1) := by decide +kernel
theorem dX5_ringMember_1 : decode cX5_ringMember 1 = .ok (.getfield 78, 3) := by decide +kernel
theorem dX5_ringMember_4 : decode cX5_ringMember 4 = .ok (.aload_n 0, 1) := by decide +kernel
theorem dX5_ringMember_5 : decode cX5_ringMember 5 = .ok (.invokevirtual 176, 3) := by decide +kernel
theorem dX5_ringMember_8 : decode cX5_ringMember 8 = .ok (.aload_n 0, 1) := by decide +kernel
theorem dX5_ringMember_9 : decode cX5_ringMember 9 = .ok (.aload_n 0, 1) := by decide +kernel
theorem dX5_ringMember_10 : decode cX5_ringMember 10 = .ok (.getfield 78, 3) := by decide +kernel
theorem dX5_ringMember_13 : decode cX5_ringMember 13 = .ok (.getfield 179, 3) := by decide +kernel
theorem dX5_ringMember_16 : decode cX5_ringMember 16 = .ok (.iload_n 1, 1) := by decide +kernel
theorem dX5_ringMember_17 : decode cX5_ringMember 17 = .ok (.iload_n 2, 1) := by decide +kernel
theorem dX5_ringMember_18 : decode cX5_ringMember 18 = .ok (.invokevirtual 185, 3) := by decide +kernel
theorem dX5_ringMember_21 : decode cX5_ringMember 21 = .ok (.ireturn, 1) := by decide +kernel
theorem dX5_ringOf_0 : decode cX5_ringOf 0 = .ok (.aload_n 0, 1) := by decide +kernel
theorem dX5_ringOf_1 : decode cX5_ringOf 1 = .ok (.getfield 78, 3) := by decide +kernel
theorem dX5_ringOf_4 : decode cX5_ringOf 4 = .ok (.aload_n 0, 1) := by decide +kernel
theorem dX5_ringOf_5 : decode cX5_ringOf 5 = .ok (.invokevirtual 176, 3) := by decide +kernel
theorem dX5_ringOf_8 : decode cX5_ringOf 8 = .ok (.aload_n 0, 1) := by decide +kernel
theorem dX5_ringOf_9 : decode cX5_ringOf 9 = .ok (.getfield 78, 3) := by decide +kernel
theorem dX5_ringOf_12 : decode cX5_ringOf 12 = .ok (.getfield 179, 3) := by decide +kernel
theorem dX5_ringOf_15 : decode cX5_ringOf 15 = .ok (.iload_n 1, 1) := by decide +kernel
theorem dX5_ringOf_16 : decode cX5_ringOf 16 = .ok (.iaload, 1) := by decide +kernel
theorem dX5_ringOf_17 : decode cX5_ringOf 17 = .ok (.ireturn, 1) := by decide +kernel
theorem dX5_setWay_0 : decode cX5_setWay 0 = .ok (.aload_n 0, 1) := by decide +kernel
theorem dX5_setWay_1 : decode cX5_setWay 1 = .ok (.getfield 27, 3) := by decide +kernel
theorem dX5_setWay_4 : decode cX5_setWay 4 = .ok (.iload_n 1, 1) := by decide +kernel
theorem dX5_setWay_5 : decode cX5_setWay 5 = .ok (.iload_n 2, 1) := by decide +kernel
theorem dX5_setWay_6 : decode cX5_setWay 6 = .ok (.iastore, 1) := by decide +kernel
theorem dX5_setWay_7 : decode cX5_setWay 7 = .ok (.aload_n 0, 1) := by decide +kernel
theorem dX5_setWay_8 : decode cX5_setWay 8 = .ok (.getfield 30, 3) := by decide +kernel
theorem dX5_setWay_11 : decode cX5_setWay 11 = .ok (.iload_n 1, 1) := by decide +kernel
theorem dX5_setWay_12 : decode cX5_setWay 12 = .ok (.iload_n 3, 1) := by decide +kernel
theorem dX5_setWay_13 : decode cX5_setWay 13 = .ok (.iastore, 1) := by decide +kernel
theorem dX5_setWay_14 : decode cX5_setWay 14 = .ok (.aload_n 0, 1) := by decide +kernel
theorem dX5_setWay_15 : decode cX5_setWay 15 = .ok (.getfield 24, 3) := by decide +kernel
theorem dX5_setWay_18 : decode cX5_setWay 18 = .ok (.iload_n 1, 1) := by decide +kernel
theorem dX5_setWay_19 : decode cX5_setWay 19 = .ok (.iload_n 2, 1) := by decide +kernel
theorem dX5_setWay_20 : decode cX5_setWay 20 = .ok (.iconst (-1), 1) := by decide +kernel
theorem dX5_setWay_21 : decode cX5_setWay 21 = .ok (.if_icmp .ne 7, 3) := by decide +kernel
theorem dX5_setWay_24 : decode cX5_setWay 24 = .ok (.iconst 0, 1) := by decide +kernel
theorem dX5_setWay_25 : decode cX5_setWay 25 = .ok (.goto 11, 3) := by decide +kernel
theorem dX5_setWay_28 : decode cX5_setWay 28 = .ok (.aload_n 0, 1) := by decide +kernel
theorem dX5_setWay_29 : decode cX5_setWay 29 = .ok (.getfield 24, 3) := by decide +kernel
theorem dX5_setWay_32 : decode cX5_setWay 32 = .ok (.iload_n 2, 1) := by decide +kernel
theorem dX5_setWay_33 : decode cX5_setWay 33 = .ok (.iaload, 1) := by decide +kernel
theorem dX5_setWay_34 : decode cX5_setWay 34 = .ok (.iconst 1, 1) := by decide +kernel
theorem dX5_setWay_35 : decode cX5_setWay 35 = .ok (.iadd, 1) := by decide +kernel
theorem dX5_setWay_36 : decode cX5_setWay 36 = .ok (.iastore, 1) := by decide +kernel
theorem dX5_setWay_37 : decode cX5_setWay 37 = .ok (.return_, 1) := by decide +kernel
theorem dX5_takeFrom_0 : decode cX5_takeFrom 0 = .ok (.aload_n 0, 1) := by decide +kernel
theorem dX5_takeFrom_1 : decode cX5_takeFrom 1 = .ok (.invokevirtual 95, 3) := by decide +kernel
theorem dX5_takeFrom_4 : decode cX5_takeFrom 4 = .ok (.iconst 0, 1) := by decide +kernel
theorem dX5_takeFrom_5 : decode cX5_takeFrom 5 = .ok (.istore_n 2, 1) := by decide +kernel
theorem dX5_takeFrom_6 : decode cX5_takeFrom 6 = .ok (.iload_n 2, 1) := by decide +kernel
theorem dX5_takeFrom_7 : decode cX5_takeFrom 7 = .ok (.aload_n 1, 1) := by decide +kernel
theorem dX5_takeFrom_8 : decode cX5_takeFrom 8 = .ok (.getfield 98, 3) := by decide +kernel
theorem dX5_takeFrom_11 : decode cX5_takeFrom 11 = .ok (.if_icmp .ge 22, 3) := by decide +kernel
theorem dX5_takeFrom_14 : decode cX5_takeFrom 14 = .ok (.aload_n 0, 1) := by decide +kernel
theorem dX5_takeFrom_15 : decode cX5_takeFrom 15 = .ok (.aload_n 1, 1) := by decide +kernel
theorem dX5_takeFrom_16 : decode cX5_takeFrom 16 = .ok (.aload_n 1, 1) := by decide +kernel
theorem dX5_takeFrom_17 : decode cX5_takeFrom 17 = .ok (.getfield 101, 3) := by decide +kernel
theorem dX5_takeFrom_20 : decode cX5_takeFrom 20 = .ok (.iload_n 2, 1) := by decide +kernel
theorem dX5_takeFrom_21 : decode cX5_takeFrom 21 = .ok (.iaload, 1) := by decide +kernel
theorem dX5_takeFrom_22 : decode cX5_takeFrom 22 = .ok (.i2l, 1) := by decide +kernel
theorem dX5_takeFrom_23 : decode cX5_takeFrom 23 = .ok (.iload_n 2, 1) := by decide +kernel
theorem dX5_takeFrom_24 : decode cX5_takeFrom 24 = .ok (.invokevirtual 103, 3) := by decide +kernel
theorem dX5_takeFrom_27 : decode cX5_takeFrom 27 = .ok (.iinc 2 1, 3) := by decide +kernel
theorem dX5_takeFrom_30 : decode cX5_takeFrom 30 = .ok (.goto (-24), 3) := by decide +kernel
theorem dX5_takeFrom_33 : decode cX5_takeFrom 33 = .ok (.aload_n 1, 1) := by decide +kernel
theorem dX5_takeFrom_34 : decode cX5_takeFrom 34 = .ok (.getfield 98, 3) := by decide +kernel
theorem dX5_takeFrom_37 : decode cX5_takeFrom 37 = .ok (.istore_n 2, 1) := by decide +kernel
theorem dX5_takeFrom_38 : decode cX5_takeFrom 38 = .ok (.iconst 0, 1) := by decide +kernel
theorem dX5_takeFrom_39 : decode cX5_takeFrom 39 = .ok (.istore_n 3, 1) := by decide +kernel
theorem dX5_takeFrom_40 : decode cX5_takeFrom 40 = .ok (.iload_n 3, 1) := by decide +kernel
theorem dX5_takeFrom_41 : decode cX5_takeFrom 41 = .ok (.aload_n 1, 1) := by decide +kernel
theorem dX5_takeFrom_42 : decode cX5_takeFrom 42 = .ok (.getfield 107, 3) := by decide +kernel
theorem dX5_takeFrom_45 : decode cX5_takeFrom 45 = .ok (.invokevirtual 111, 3) := by decide +kernel
theorem dX5_takeFrom_48 : decode cX5_takeFrom 48 = .ok (.if_icmp .ge 35, 3) := by decide +kernel
theorem dX5_takeFrom_51 : decode cX5_takeFrom 51 = .ok (.aload_n 1, 1) := by decide +kernel
theorem dX5_takeFrom_52 : decode cX5_takeFrom 52 = .ok (.getfield 107, 3) := by decide +kernel
theorem dX5_takeFrom_55 : decode cX5_takeFrom 55 = .ok (.iload_n 3, 1) := by decide +kernel
theorem dX5_takeFrom_56 : decode cX5_takeFrom 56 = .ok (.invokevirtual 117, 3) := by decide +kernel
theorem dX5_takeFrom_59 : decode cX5_takeFrom 59 = .ok (.ifCond .eq 18, 3) := by decide +kernel
theorem dX5_takeFrom_62 : decode cX5_takeFrom 62 = .ok (.aload_n 0, 1) := by decide +kernel
theorem dX5_takeFrom_63 : decode cX5_takeFrom 63 = .ok (.aload_n 1, 1) := by decide +kernel
theorem dX5_takeFrom_64 : decode cX5_takeFrom 64 = .ok (.aload_n 1, 1) := by decide +kernel
theorem dX5_takeFrom_65 : decode cX5_takeFrom 65 = .ok (.getfield 121, 3) := by decide +kernel
theorem dX5_takeFrom_68 : decode cX5_takeFrom 68 = .ok (.iload_n 3, 1) := by decide +kernel
theorem dX5_takeFrom_69 : decode cX5_takeFrom 69 = .ok (.laload, 1) := by decide +kernel
theorem dX5_takeFrom_70 : decode cX5_takeFrom 70 = .ok (.iload_n 2, 1) := by decide +kernel
theorem dX5_takeFrom_71 : decode cX5_takeFrom 71 = .ok (.invokevirtual 103, 3) := by decide +kernel
theorem dX5_takeFrom_74 : decode cX5_takeFrom 74 = .ok (.iinc 2 1, 3) := by decide +kernel
theorem dX5_takeFrom_77 : decode cX5_takeFrom 77 = .ok (.iinc 3 1, 3) := by decide +kernel
theorem dX5_takeFrom_80 : decode cX5_takeFrom 80 = .ok (.goto (-40), 3) := by decide +kernel
theorem dX5_takeFrom_83 : decode cX5_takeFrom 83 = .ok (.iconst 0, 1) := by decide +kernel
theorem dX5_takeFrom_84 : decode cX5_takeFrom 84 = .ok (.istore_n 3, 1) := by decide +kernel
theorem dX5_takeFrom_85 : decode cX5_takeFrom 85 = .ok (.iload_n 3, 1) := by decide +kernel
theorem dX5_takeFrom_86 : decode cX5_takeFrom 86 = .ok (.aload_n 0, 1) := by decide +kernel
theorem dX5_takeFrom_87 : decode cX5_takeFrom 87 = .ok (.getfield 82, 3) := by decide +kernel
theorem dX5_takeFrom_90 : decode cX5_takeFrom 90 = .ok (.if_icmp .ge 22, 3) := by decide +kernel
theorem dX5_takeFrom_93 : decode cX5_takeFrom 93 = .ok (.iload_n 3, 1) := by decide +kernel
theorem dX5_takeFrom_94 : decode cX5_takeFrom 94 = .ok (.sipush 400, 3) := by decide +kernel
theorem dX5_takeFrom_97 : decode cX5_takeFrom 97 = .ok (.if_icmp .ge 15, 3) := by decide +kernel
theorem dX5_takeFrom_100 : decode cX5_takeFrom 100 = .ok (.aload_n 0, 1) := by decide +kernel
theorem dX5_takeFrom_101 : decode cX5_takeFrom 101 = .ok (.aload_n 1, 1) := by decide +kernel
theorem dX5_takeFrom_102 : decode cX5_takeFrom 102 = .ok (.iload_n 3, 1) := by decide +kernel
theorem dX5_takeFrom_103 : decode cX5_takeFrom 103 = .ok (.invokevirtual 124, 3) := by decide +kernel
theorem dX5_takeFrom_106 : decode cX5_takeFrom 106 = .ok (.iinc 3 1, 3) := by decide +kernel
theorem dX5_takeFrom_109 : decode cX5_takeFrom 109 = .ok (.goto (-24), 3) := by decide +kernel
theorem dX5_takeFrom_112 : decode cX5_takeFrom 112 = .ok (.return_, 1) := by decide +kernel
theorem dX5_takeSlots_0 : decode cX5_takeSlots 0 = .ok (.aload_n 1, 1) := by decide +kernel
theorem dX5_takeSlots_1 : decode cX5_takeSlots 1 = .ok (.getfield 152, 3) := by decide +kernel
theorem dX5_takeSlots_4 : decode cX5_takeSlots 4 = .ok (.aload_n 0, 1) := by decide +kernel
theorem dX5_takeSlots_5 : decode cX5_takeSlots 5 = .ok (.getfield 11, 3) := by decide +kernel
theorem dX5_takeSlots_8 : decode cX5_takeSlots 8 = .ok (.iload_n 2, 1) := by decide +kernel
theorem dX5_takeSlots_9 : decode cX5_takeSlots 9 = .ok (.iaload, 1) := by decide +kernel
theorem dX5_takeSlots_10 : decode cX5_takeSlots 10 = .ok (.iaload, 1) := by decide +kernel
theorem dX5_takeSlots_11 : decode cX5_takeSlots 11 = .ok (.istore_n 3, 1) := by decide +kernel
theorem dX5_takeSlots_12 : decode cX5_takeSlots 12 = .ok (.aload_n 0, 1) := by decide +kernel
theorem dX5_takeSlots_13 : decode cX5_takeSlots 13 = .ok (.getfield 21, 3) := by decide +kernel
theorem dX5_takeSlots_16 : decode cX5_takeSlots 16 = .ok (.iload_n 2, 1) := by decide +kernel
theorem dX5_takeSlots_17 : decode cX5_takeSlots 17 = .ok (.iconst 1, 1) := by decide +kernel
theorem dX5_takeSlots_18 : decode cX5_takeSlots 18 = .ok (.iadd, 1) := by decide +kernel
theorem dX5_takeSlots_19 : decode cX5_takeSlots 19 = .ok (.iaload, 1) := by decide +kernel
theorem dX5_takeSlots_20 : decode cX5_takeSlots 20 = .ok (.aload_n 0, 1) := by decide +kernel
theorem dX5_takeSlots_21 : decode cX5_takeSlots 21 = .ok (.getfield 21, 3) := by decide +kernel
theorem dX5_takeSlots_24 : decode cX5_takeSlots 24 = .ok (.iload_n 2, 1) := by decide +kernel
theorem dX5_takeSlots_25 : decode cX5_takeSlots 25 = .ok (.iaload, 1) := by decide +kernel
theorem dX5_takeSlots_26 : decode cX5_takeSlots 26 = .ok (.isub, 1) := by decide +kernel
theorem dX5_takeSlots_27 : decode cX5_takeSlots 27 = .ok (.istore 4, 2) := by decide +kernel
theorem dX5_takeSlots_29 : decode cX5_takeSlots 29 = .ok (.iconst 0, 1) := by decide +kernel
theorem dX5_takeSlots_30 : decode cX5_takeSlots 30 = .ok (.istore 5, 2) := by decide +kernel
theorem dX5_takeSlots_32 : decode cX5_takeSlots 32 = .ok (.iload 5, 2) := by decide +kernel
theorem dX5_takeSlots_34 : decode cX5_takeSlots 34 = .ok (.iload 4, 2) := by decide +kernel
theorem dX5_takeSlots_36 : decode cX5_takeSlots 36 = .ok (.if_icmp .ge 92, 3) := by decide +kernel
theorem dX5_takeSlots_39 : decode cX5_takeSlots 39 = .ok (.aload_n 1, 1) := by decide +kernel
theorem dX5_takeSlots_40 : decode cX5_takeSlots 40 = .ok (.getfield 153, 3) := by decide +kernel
theorem dX5_takeSlots_43 : decode cX5_takeSlots 43 = .ok (.iload_n 3, 1) := by decide +kernel
theorem dX5_takeSlots_44 : decode cX5_takeSlots 44 = .ok (.iload 5, 2) := by decide +kernel
theorem dX5_takeSlots_46 : decode cX5_takeSlots 46 = .ok (.iadd, 1) := by decide +kernel
theorem dX5_takeSlots_47 : decode cX5_takeSlots 47 = .ok (.laload, 1) := by decide +kernel
theorem dX5_takeSlots_48 : decode cX5_takeSlots 48 = .ok (.lstore 6, 2) := by decide +kernel
theorem dX5_takeSlots_50 : decode cX5_takeSlots 50 = .ok (.aload_n 1, 1) := by decide +kernel
theorem dX5_takeSlots_51 : decode cX5_takeSlots 51 = .ok (.getfield 154, 3) := by decide +kernel
theorem dX5_takeSlots_54 : decode cX5_takeSlots 54 = .ok (.iload_n 3, 1) := by decide +kernel
theorem dX5_takeSlots_55 : decode cX5_takeSlots 55 = .ok (.iload 5, 2) := by decide +kernel
theorem dX5_takeSlots_57 : decode cX5_takeSlots 57 = .ok (.iadd, 1) := by decide +kernel
theorem dX5_takeSlots_58 : decode cX5_takeSlots 58 = .ok (.baload, 1) := by decide +kernel
theorem dX5_takeSlots_59 : decode cX5_takeSlots 59 = .ok (.istore 8, 2) := by decide +kernel
theorem dX5_takeSlots_61 : decode cX5_takeSlots 61 = .ok (.aload_n 0, 1) := by decide +kernel
theorem dX5_takeSlots_62 : decode cX5_takeSlots 62 = .ok (.getfield 48, 3) := by decide +kernel
theorem dX5_takeSlots_65 : decode cX5_takeSlots 65 = .ok (.aload_n 0, 1) := by decide +kernel
theorem dX5_takeSlots_66 : decode cX5_takeSlots 66 = .ok (.getfield 21, 3) := by decide +kernel
theorem dX5_takeSlots_69 : decode cX5_takeSlots 69 = .ok (.iload_n 2, 1) := by decide +kernel
theorem dX5_takeSlots_70 : decode cX5_takeSlots 70 = .ok (.iaload, 1) := by decide +kernel
theorem dX5_takeSlots_71 : decode cX5_takeSlots 71 = .ok (.iload 5, 2) := by decide +kernel
theorem dX5_takeSlots_73 : decode cX5_takeSlots 73 = .ok (.iadd, 1) := by decide +kernel
theorem dX5_takeSlots_74 : decode cX5_takeSlots 74 = .ok (.iload 8, 2) := by decide +kernel
theorem dX5_takeSlots_76 : decode cX5_takeSlots 76 = .ok (.bastore, 1) := by decide +kernel
theorem dX5_takeSlots_77 : decode cX5_takeSlots 77 = .ok (.aload_n 0, 1) := by decide +kernel
theorem dX5_takeSlots_78 : decode cX5_takeSlots 78 = .ok (.getfield 44, 3) := by decide +kernel
theorem dX5_takeSlots_81 : decode cX5_takeSlots 81 = .ok (.aload_n 0, 1) := by decide +kernel
theorem dX5_takeSlots_82 : decode cX5_takeSlots 82 = .ok (.getfield 21, 3) := by decide +kernel
theorem dX5_takeSlots_85 : decode cX5_takeSlots 85 = .ok (.iload_n 2, 1) := by decide +kernel
theorem dX5_takeSlots_86 : decode cX5_takeSlots 86 = .ok (.iaload, 1) := by decide +kernel
theorem dX5_takeSlots_87 : decode cX5_takeSlots 87 = .ok (.iload 5, 2) := by decide +kernel
theorem dX5_takeSlots_89 : decode cX5_takeSlots 89 = .ok (.iadd, 1) := by decide +kernel
theorem dX5_takeSlots_90 : decode cX5_takeSlots 90 = .ok (.iload 8, 2) := by decide +kernel
theorem dX5_takeSlots_92 : decode cX5_takeSlots 92 = .ok (.ifCond .eq 27, 3) := by decide +kernel
theorem dX5_takeSlots_95 : decode cX5_takeSlots 95 = .ok (.lload 6, 2) := by decide +kernel
theorem dX5_takeSlots_97 : decode cX5_takeSlots 97 = .ok (.ldc2_w 128, 3) := by decide +kernel
theorem dX5_takeSlots_100 : decode cX5_takeSlots 100 = .ok (.lcmp, 1) := by decide +kernel
theorem dX5_takeSlots_101 : decode cX5_takeSlots 101 = .ok (.ifCond .eq 18, 3) := by decide +kernel
theorem dX5_takeSlots_104 : decode cX5_takeSlots 104 = .ok (.aload_n 0, 1) := by decide +kernel
theorem dX5_takeSlots_105 : decode cX5_takeSlots 105 = .ok (.aload_n 1, 1) := by decide +kernel
theorem dX5_takeSlots_106 : decode cX5_takeSlots 106 = .ok (.lload 6, 2) := by decide +kernel
theorem dX5_takeSlots_108 : decode cX5_takeSlots 108 = .ok (.l2i, 1) := by decide +kernel
theorem dX5_takeSlots_109 : decode cX5_takeSlots 109 = .ok (.iload_n 2, 1) := by decide +kernel
theorem dX5_takeSlots_110 : decode cX5_takeSlots 110 = .ok (.iload 5, 2) := by decide +kernel
theorem dX5_takeSlots_112 : decode cX5_takeSlots 112 = .ok (.invokevirtual 130, 3) := by decide +kernel
theorem dX5_takeSlots_115 : decode cX5_takeSlots 115 = .ok (.i2l, 1) := by decide +kernel
theorem dX5_takeSlots_116 : decode cX5_takeSlots 116 = .ok (.goto 5, 3) := by decide +kernel
theorem dX5_takeSlots_119 : decode cX5_takeSlots 119 = .ok (.lload 6, 2) := by decide +kernel
theorem dX5_takeSlots_121 : decode cX5_takeSlots 121 = .ok (.lastore, 1) := by decide +kernel
theorem dX5_takeSlots_122 : decode cX5_takeSlots 122 = .ok (.iinc 5 1, 3) := by decide +kernel
theorem dX5_takeSlots_125 : decode cX5_takeSlots 125 = .ok (.goto (-93), 3) := by decide +kernel
theorem dX5_takeSlots_128 : decode cX5_takeSlots 128 = .ok (.return_, 1) := by decide +kernel
theorem dX5_twinCount_0 : decode cX5_twinCount 0 = .ok (.aload_n 0, 1) := by decide +kernel
theorem dX5_twinCount_1 : decode cX5_twinCount 1 = .ok (.getfield 78, 3) := by decide +kernel
theorem dX5_twinCount_4 : decode cX5_twinCount 4 = .ok (.aload_n 0, 1) := by decide +kernel
theorem dX5_twinCount_5 : decode cX5_twinCount 5 = .ok (.invokevirtual 189, 3) := by decide +kernel
theorem dX5_twinCount_8 : decode cX5_twinCount 8 = .ok (.aload_n 0, 1) := by decide +kernel
theorem dX5_twinCount_9 : decode cX5_twinCount 9 = .ok (.getfield 78, 3) := by decide +kernel
theorem dX5_twinCount_12 : decode cX5_twinCount 12 = .ok (.getfield 195, 3) := by decide +kernel
theorem dX5_twinCount_15 : decode cX5_twinCount 15 = .ok (.ireturn, 1) := by decide +kernel
theorem dX5_twinMember_0 : decode cX5_twinMember 0 = .ok (.aload_n 0, 1) := by decide +kernel
theorem dX5_twinMember_1 : decode cX5_twinMember 1 = .ok (.getfield 78, 3) := by decide +kernel
theorem dX5_twinMember_4 : decode cX5_twinMember 4 = .ok (.aload_n 0, 1) := by decide +kernel
theorem dX5_twinMember_5 : decode cX5_twinMember 5 = .ok (.invokevirtual 189, 3) := by decide +kernel
theorem dX5_twinMember_8 : decode cX5_twinMember 8 = .ok (.aload_n 0, 1) := by decide +kernel
theorem dX5_twinMember_9 : decode cX5_twinMember 9 = .ok (.aload_n 0, 1) := by decide +kernel
theorem dX5_twinMember_10 : decode cX5_twinMember 10 = .ok (.getfield 78, 3) := by decide +kernel
theorem dX5_twinMember_13 : decode cX5_twinMember 13 = .ok (.getfield 192, 3) := by decide +kernel
theorem dX5_twinMember_16 : decode cX5_twinMember 16 = .ok (.iload_n 1, 1) := by decide +kernel
theorem dX5_twinMember_17 : decode cX5_twinMember 17 = .ok (.iload_n 2, 1) := by decide +kernel
theorem dX5_twinMember_18 : decode cX5_twinMember 18 = .ok (.invokevirtual 185, 3) := by decide +kernel
theorem dX5_twinMember_21 : decode cX5_twinMember 21 = .ok (.ireturn, 1) := by decide +kernel
theorem dX5_twinOf_0 : decode cX5_twinOf 0 = .ok (.aload_n 0, 1) := by decide +kernel
theorem dX5_twinOf_1 : decode cX5_twinOf 1 = .ok (.getfield 78, 3) := by decide +kernel
theorem dX5_twinOf_4 : decode cX5_twinOf 4 = .ok (.aload_n 0, 1) := by decide +kernel
theorem dX5_twinOf_5 : decode cX5_twinOf 5 = .ok (.invokevirtual 189, 3) := by decide +kernel
theorem dX5_twinOf_8 : decode cX5_twinOf 8 = .ok (.aload_n 0, 1) := by decide +kernel
theorem dX5_twinOf_9 : decode cX5_twinOf 9 = .ok (.getfield 78, 3) := by decide +kernel
theorem dX5_twinOf_12 : decode cX5_twinOf 12 = .ok (.getfield 192, 3) := by decide +kernel
theorem dX5_twinOf_15 : decode cX5_twinOf 15 = .ok (.iload_n 1, 1) := by decide +kernel
theorem dX5_twinOf_16 : decode cX5_twinOf 16 = .ok (.iaload, 1) := by decide +kernel
theorem dX5_twinOf_17 : decode cX5_twinOf 17 = .ok (.ireturn, 1) := by decide +kernel
theorem dX6_addNest_0 : decode cX6_addNest 0 = .ok (.aload_n 0, 1) := by decide +kernel
theorem dX6_addNest_1 : decode cX6_addNest 1 = .ok (.getfield 90, 3) := by decide +kernel
theorem dX6_addNest_4 : decode cX6_addNest 4 = .ok (.bipush 10, 2) := by decide +kernel
theorem dX6_addNest_6 : decode cX6_addNest 6 = .ok (.if_icmp .ne 9, 3) := by decide +kernel
theorem dX6_addNest_9 : decode cX6_addNest 9 = .ok (.aload_n 0, 1) := by decide +kernel
theorem dX6_addNest_10 : decode cX6_addNest 10 = .ok (.iconst 4, 1) := by decide +kernel
theorem dX6_addNest_11 : decode cX6_addNest 11 = .ok (.invokevirtual 112, 3) := by decide +kernel
theorem dX6_addNest_14 : decode cX6_addNest 14 = .ok (.ireturn, 1) := by decide +kernel
theorem dX6_addNest_15 : decode cX6_addNest 15 = .ok (.aload_n 0, 1) := by decide +kernel
theorem dX6_addNest_16 : decode cX6_addNest 16 = .ok (.dup, 1) := by decide +kernel
theorem dX6_addNest_17 : decode cX6_addNest 17 = .ok (.getfield 90, 3) := by decide +kernel
theorem dX6_addNest_20 : decode cX6_addNest 20 = .ok (.iconst 1, 1) := by decide +kernel
theorem dX6_addNest_21 : decode cX6_addNest 21 = .ok (.iadd, 1) := by decide +kernel
theorem dX6_addNest_22 : decode cX6_addNest 22 = .ok (.putfield 90, 3) := by decide +kernel
theorem dX6_addNest_25 : decode cX6_addNest 25 = .ok (.iconst 1, 1) := by decide +kernel
theorem dX6_addNest_26 : decode cX6_addNest 26 = .ok (.ireturn, 1) := by decide +kernel
theorem dX6_addNode_0 : decode cX6_addNode 0 = .ok (.aload_n 0, 1) := by decide +kernel
theorem dX6_addNode_1 : decode cX6_addNode 1 = .ok (.getfield 87, 3) := by decide +kernel
theorem dX6_addNode_4 : decode cX6_addNode 4 = .ok (.bipush 120, 2) := by decide +kernel
theorem dX6_addNode_6 : decode cX6_addNode 6 = .ok (.if_icmp .ne 9, 3) := by decide +kernel
theorem dX6_addNode_9 : decode cX6_addNode 9 = .ok (.aload_n 0, 1) := by decide +kernel
theorem dX6_addNode_10 : decode cX6_addNode 10 = .ok (.iconst 4, 1) := by decide +kernel
theorem dX6_addNode_11 : decode cX6_addNode 11 = .ok (.invokevirtual 112, 3) := by decide +kernel
theorem dX6_addNode_14 : decode cX6_addNode 14 = .ok (.ireturn, 1) := by decide +kernel
theorem dX6_addNode_15 : decode cX6_addNode 15 = .ok (.aload_n 0, 1) := by decide +kernel
theorem dX6_addNode_16 : decode cX6_addNode 16 = .ok (.dup, 1) := by decide +kernel
theorem dX6_addNode_17 : decode cX6_addNode 17 = .ok (.getfield 87, 3) := by decide +kernel
theorem dX6_addNode_20 : decode cX6_addNode 20 = .ok (.iconst 1, 1) := by decide +kernel
theorem dX6_addNode_21 : decode cX6_addNode 21 = .ok (.iadd, 1) := by decide +kernel
theorem dX6_addNode_22 : decode cX6_addNode 22 = .ok (.putfield 87, 3) := by decide +kernel
theorem dX6_addNode_25 : decode cX6_addNode 25 = .ok (.iconst 1, 1) := by decide +kernel
theorem dX6_addNode_26 : decode cX6_addNode 26 = .ok (.ireturn, 1) := by decide +kernel
theorem dX6_comparisonOf_0 : decode cX6_comparisonOf 0 = .ok (.iload_n 0, 1) := by decide +kernel
theorem dX6_comparisonOf_1 : decode cX6_comparisonOf 1 = .ok (.lookupswitch 88 #[(12, 67), (13, 73), (14, 79), (20, 70), (21, 76), (22, 82), (42, 85)], 67) := by decide +kernel
theorem dX6_comparisonOf_68 : decode cX6_comparisonOf 68 = .ok (.bipush 16, 2) := by decide +kernel
theorem dX6_comparisonOf_70 : decode cX6_comparisonOf 70 = .ok (.ireturn, 1) := by decide +kernel
theorem dX6_comparisonOf_71 : decode cX6_comparisonOf 71 = .ok (.bipush 17, 2) := by decide +kernel
theorem dX6_comparisonOf_73 : decode cX6_comparisonOf 73 = .ok (.ireturn, 1) := by decide +kernel
theorem dX6_comparisonOf_74 : decode cX6_comparisonOf 74 = .ok (.bipush 18, 2) := by decide +kernel
theorem dX6_comparisonOf_76 : decode cX6_comparisonOf 76 = .ok (.ireturn, 1) := by decide +kernel
theorem dX6_comparisonOf_77 : decode cX6_comparisonOf 77 = .ok (.bipush 19, 2) := by decide +kernel
theorem dX6_comparisonOf_79 : decode cX6_comparisonOf 79 = .ok (.ireturn, 1) := by decide +kernel
theorem dX6_comparisonOf_80 : decode cX6_comparisonOf 80 = .ok (.bipush 20, 2) := by decide +kernel
theorem dX6_comparisonOf_82 : decode cX6_comparisonOf 82 = .ok (.ireturn, 1) := by decide +kernel
theorem dX6_comparisonOf_83 : decode cX6_comparisonOf 83 = .ok (.bipush 21, 2) := by decide +kernel
theorem dX6_comparisonOf_85 : decode cX6_comparisonOf 85 = .ok (.ireturn, 1) := by decide +kernel
theorem dX6_comparisonOf_86 : decode cX6_comparisonOf 86 = .ok (.bipush 14, 2) := by decide +kernel
theorem dX6_comparisonOf_88 : decode cX6_comparisonOf 88 = .ok (.ireturn, 1) := by decide +kernel
theorem dX6_comparisonOf_89 : decode cX6_comparisonOf 89 = .ok (.iconst (-1), 1) := by decide +kernel
theorem dX6_comparisonOf_90 : decode cX6_comparisonOf 90 = .ok (.ireturn, 1) := by decide +kernel
theorem dX6_emit_0 : decode cX6_emit 0 = .ok (.aload_n 0, 1) := by decide +kernel
theorem dX6_emit_1 : decode cX6_emit 1 = .ok (.getfield 72, 3) := by decide +kernel
theorem dX6_emit_4 : decode cX6_emit 4 = .ok (.sipush 499, 3) := by decide +kernel
theorem dX6_emit_7 : decode cX6_emit 7 = .ok (.invokestatic 105, 3) := by decide +kernel
theorem dX6_emit_10 : decode cX6_emit 10 = .ok (.istore 6, 2) := by decide +kernel
theorem dX6_emit_12 : decode cX6_emit 12 = .ok (.aload_n 0, 1) := by decide +kernel
theorem dX6_emit_13 : decode cX6_emit 13 = .ok (.getfield 15, 3) := by decide +kernel
theorem dX6_emit_16 : decode cX6_emit 16 = .ok (.iload 6, 2) := by decide +kernel
theorem dX6_emit_18 : decode cX6_emit 18 = .ok (.iload_n 1, 1) := by decide +kernel
theorem dX6_emit_19 : decode cX6_emit 19 = .ok (.iastore, 1) := by decide +kernel
theorem dX6_emit_20 : decode cX6_emit 20 = .ok (.aload_n 0, 1) := by decide +kernel
theorem dX6_emit_21 : decode cX6_emit 21 = .ok (.getfield 19, 3) := by decide +kernel
theorem dX6_emit_24 : decode cX6_emit 24 = .ok (.iload 6, 2) := by decide +kernel
theorem dX6_emit_26 : decode cX6_emit 26 = .ok (.iload_n 2, 1) := by decide +kernel
theorem dX6_emit_27 : decode cX6_emit 27 = .ok (.iastore, 1) := by decide +kernel
theorem dX6_emit_28 : decode cX6_emit 28 = .ok (.aload_n 0, 1) := by decide +kernel
theorem dX6_emit_29 : decode cX6_emit 29 = .ok (.getfield 22, 3) := by decide +kernel
theorem dX6_emit_32 : decode cX6_emit 32 = .ok (.iload 6, 2) := by decide +kernel
theorem dX6_emit_34 : decode cX6_emit 34 = .ok (.iload_n 3, 1) := by decide +kernel
theorem dX6_emit_35 : decode cX6_emit 35 = .ok (.iastore, 1) := by decide +kernel
theorem dX6_emit_36 : decode cX6_emit 36 = .ok (.aload_n 0, 1) := by decide +kernel
theorem dX6_emit_37 : decode cX6_emit 37 = .ok (.getfield 25, 3) := by decide +kernel
theorem dX6_emit_40 : decode cX6_emit 40 = .ok (.iload 6, 2) := by decide +kernel
theorem dX6_emit_42 : decode cX6_emit 42 = .ok (.lload 4, 2) := by decide +kernel
theorem dX6_emit_44 : decode cX6_emit 44 = .ok (.lastore, 1) := by decide +kernel
theorem dX6_emit_45 : decode cX6_emit 45 = .ok (.aload_n 0, 1) := by decide +kernel
theorem dX6_emit_46 : decode cX6_emit 46 = .ok (.iload 6, 2) := by decide +kernel
theorem dX6_emit_48 : decode cX6_emit 48 = .ok (.iconst 1, 1) := by decide +kernel
theorem dX6_emit_49 : decode cX6_emit 49 = .ok (.iadd, 1) := by decide +kernel
theorem dX6_emit_50 : decode cX6_emit 50 = .ok (.putfield 72, 3) := by decide +kernel
theorem dX6_emit_53 : decode cX6_emit 53 = .ok (.iload_n 1, 1) := by decide +kernel
theorem dX6_emit_54 : decode cX6_emit 54 = .ok (.bipush 31, 2) := by decide +kernel
theorem dX6_emit_56 : decode cX6_emit 56 = .ok (.if_icmp .eq 9, 3) := by decide +kernel
theorem dX6_emit_59 : decode cX6_emit 59 = .ok (.iload_n 1, 1) := by decide +kernel
theorem dX6_emit_60 : decode cX6_emit 60 = .ok (.bipush 8, 2) := by decide +kernel
theorem dX6_emit_62 : decode cX6_emit 62 = .ok (.if_icmp .ne 8, 3) := by decide +kernel
theorem dX6_emit_65 : decode cX6_emit 65 = .ok (.aload_n 0, 1) := by decide +kernel
theorem dX6_emit_66 : decode cX6_emit 66 = .ok (.iconst 1, 1) := by decide +kernel
theorem dX6_emit_67 : decode cX6_emit 67 = .ok (.putfield 81, 3) := by decide +kernel
theorem dX6_emit_70 : decode cX6_emit 70 = .ok (.iload_n 1, 1) := by decide +kernel
theorem dX6_emit_71 : decode cX6_emit 71 = .ok (.bipush 8, 2) := by decide +kernel
theorem dX6_emit_73 : decode cX6_emit 73 = .ok (.if_icmp .ne 8, 3) := by decide +kernel
theorem dX6_emit_76 : decode cX6_emit 76 = .ok (.aload_n 0, 1) := by decide +kernel
theorem dX6_emit_77 : decode cX6_emit 77 = .ok (.iconst 1, 1) := by decide +kernel
theorem dX6_emit_78 : decode cX6_emit 78 = .ok (.putfield 84, 3) := by decide +kernel
theorem dX6_emit_81 : decode cX6_emit 81 = .ok (.iload 6, 2) := by decide +kernel
theorem dX6_emit_83 : decode cX6_emit 83 = .ok (.ireturn, 1) := by decide +kernel
theorem dX6_fail_0 : decode cX6_fail 0 = .ok (.aload_n 0, 1) := by decide +kernel
theorem dX6_fail_1 : decode cX6_fail 1 = .ok (.iload_n 1, 1) := by decide +kernel
theorem dX6_fail_2 : decode cX6_fail 2 = .ok (.putfield 75, 3) := by decide +kernel
theorem dX6_fail_5 : decode cX6_fail 5 = .ok (.aload_n 0, 1) := by decide +kernel
theorem dX6_fail_6 : decode cX6_fail 6 = .ok (.aload_n 0, 1) := by decide +kernel
theorem dX6_fail_7 : decode cX6_fail 7 = .ok (.getfield 9, 3) := by decide +kernel
theorem dX6_fail_10 : decode cX6_fail 10 = .ok (.getfield 111, 3) := by decide +kernel
theorem dX6_fail_13 : decode cX6_fail 13 = .ok (.putfield 78, 3) := by decide +kernel
theorem dX6_fail_16 : decode cX6_fail 16 = .ok (.iconst 0, 1) := by decide +kernel
theorem dX6_fail_17 : decode cX6_fail 17 = .ok (.ireturn, 1) := by decide +kernel
theorem dX6_pass_0 : decode cX6_pass 0 = .ok (.aload_n 0, 1) := by decide +kernel
theorem dX6_pass_1 : decode cX6_pass 1 = .ok (.getfield 9, 3) := by decide +kernel
theorem dX6_pass_4 : decode cX6_pass 4 = .ok (.getfield 45, 3) := by decide +kernel
theorem dX6_pass_7 : decode cX6_pass 7 = .ok (.iload_n 1, 1) := by decide +kernel
theorem dX6_pass_8 : decode cX6_pass 8 = .ok (.if_icmp .eq 8, 3) := by decide +kernel
theorem dX6_pass_11 : decode cX6_pass 11 = .ok (.aload_n 0, 1) := by decide +kernel
theorem dX6_pass_12 : decode cX6_pass 12 = .ok (.invokevirtual 51, 3) := by decide +kernel
theorem dX6_pass_15 : decode cX6_pass 15 = .ok (.ireturn, 1) := by decide +kernel
theorem dX6_pass_16 : decode cX6_pass 16 = .ok (.aload_n 0, 1) := by decide +kernel
theorem dX6_pass_17 : decode cX6_pass 17 = .ok (.getfield 9, 3) := by decide +kernel
theorem dX6_pass_20 : decode cX6_pass 20 = .ok (.invokevirtual 69, 3) := by decide +kernel
theorem dX6_pass_23 : decode cX6_pass 23 = .ok (.iconst 1, 1) := by decide +kernel
theorem dX6_pass_24 : decode cX6_pass 24 = .ok (.ireturn, 1) := by decide +kernel
theorem dX6_readAnds_0 : decode cX6_readAnds 0 = .ok (.aload_n 0, 1) := by decide +kernel
theorem dX6_readAnds_1 : decode cX6_readAnds 1 = .ok (.invokevirtual 131, 3) := by decide +kernel
theorem dX6_readAnds_4 : decode cX6_readAnds 4 = .ok (.ifCond .ne 5, 3) := by decide +kernel
theorem dX6_readAnds_7 : decode cX6_readAnds 7 = .ok (.iconst 0, 1) := by decide +kernel
theorem dX6_readAnds_8 : decode cX6_readAnds 8 = .ok (.ireturn, 1) := by decide +kernel
theorem dX6_readAnds_9 : decode cX6_readAnds 9 = .ok (.iconst 0, 1) := by decide +kernel
theorem dX6_readAnds_10 : decode cX6_readAnds 10 = .ok (.istore_n 1, 1) := by decide +kernel
theorem dX6_readAnds_11 : decode cX6_readAnds 11 = .ok (.iload_n 1, 1) := by decide +kernel
theorem dX6_readAnds_12 : decode cX6_readAnds 12 = .ok (.bipush 120, 2) := by decide +kernel
theorem dX6_readAnds_14 : decode cX6_readAnds 14 = .ok (.if_icmp .gt 76, 3) := by decide +kernel
theorem dX6_readAnds_17 : decode cX6_readAnds 17 = .ok (.aload_n 0, 1) := by decide +kernel
theorem dX6_readAnds_18 : decode cX6_readAnds 18 = .ok (.getfield 9, 3) := by decide +kernel
theorem dX6_readAnds_21 : decode cX6_readAnds 21 = .ok (.getfield 45, 3) := by decide +kernel
theorem dX6_readAnds_24 : decode cX6_readAnds 24 = .ok (.bipush 36, 2) := by decide +kernel
theorem dX6_readAnds_26 : decode cX6_readAnds 26 = .ok (.if_icmp .ne 64, 3) := by decide +kernel
theorem dX6_readAnds_29 : decode cX6_readAnds 29 = .ok (.aload_n 0, 1) := by decide +kernel
theorem dX6_readAnds_30 : decode cX6_readAnds 30 = .ok (.invokevirtual 115, 3) := by decide +kernel
theorem dX6_readAnds_33 : decode cX6_readAnds 33 = .ok (.ifCond .ne 5, 3) := by decide +kernel
theorem dX6_readAnds_36 : decode cX6_readAnds 36 = .ok (.iconst 0, 1) := by decide +kernel
theorem dX6_readAnds_37 : decode cX6_readAnds 37 = .ok (.ireturn, 1) := by decide +kernel
theorem dX6_readAnds_38 : decode cX6_readAnds 38 = .ok (.aload_n 0, 1) := by decide +kernel
theorem dX6_readAnds_39 : decode cX6_readAnds 39 = .ok (.bipush 33, 2) := by decide +kernel
theorem dX6_readAnds_41 : decode cX6_readAnds 41 = .ok (.iconst 0, 1) := by decide +kernel
theorem dX6_readAnds_42 : decode cX6_readAnds 42 = .ok (.iconst 0, 1) := by decide +kernel
theorem dX6_readAnds_43 : decode cX6_readAnds 43 = .ok (.lconst 0, 1) := by decide +kernel
theorem dX6_readAnds_44 : decode cX6_readAnds 44 = .ok (.invokevirtual 58, 3) := by decide +kernel
theorem dX6_readAnds_47 : decode cX6_readAnds 47 = .ok (.istore_n 2, 1) := by decide +kernel
theorem dX6_readAnds_48 : decode cX6_readAnds 48 = .ok (.aload_n 0, 1) := by decide +kernel
theorem dX6_readAnds_49 : decode cX6_readAnds 49 = .ok (.getfield 9, 3) := by decide +kernel
theorem dX6_readAnds_52 : decode cX6_readAnds 52 = .ok (.invokevirtual 69, 3) := by decide +kernel
theorem dX6_readAnds_55 : decode cX6_readAnds 55 = .ok (.aload_n 0, 1) := by decide +kernel
theorem dX6_readAnds_56 : decode cX6_readAnds 56 = .ok (.invokevirtual 131, 3) := by decide +kernel
theorem dX6_readAnds_59 : decode cX6_readAnds 59 = .ok (.ifCond .ne 5, 3) := by decide +kernel
theorem dX6_readAnds_62 : decode cX6_readAnds 62 = .ok (.iconst 0, 1) := by decide +kernel
theorem dX6_readAnds_63 : decode cX6_readAnds 63 = .ok (.ireturn, 1) := by decide +kernel
theorem dX6_readAnds_64 : decode cX6_readAnds 64 = .ok (.aload_n 0, 1) := by decide +kernel
theorem dX6_readAnds_65 : decode cX6_readAnds 65 = .ok (.bipush 35, 2) := by decide +kernel
theorem dX6_readAnds_67 : decode cX6_readAnds 67 = .ok (.iconst 0, 1) := by decide +kernel
theorem dX6_readAnds_68 : decode cX6_readAnds 68 = .ok (.iconst 0, 1) := by decide +kernel
theorem dX6_readAnds_69 : decode cX6_readAnds 69 = .ok (.lconst 0, 1) := by decide +kernel
theorem dX6_readAnds_70 : decode cX6_readAnds 70 = .ok (.invokevirtual 58, 3) := by decide +kernel
theorem dX6_readAnds_73 : decode cX6_readAnds 73 = .ok (.pop, 1) := by decide +kernel
theorem dX6_readAnds_74 : decode cX6_readAnds 74 = .ok (.aload_n 0, 1) := by decide +kernel
theorem dX6_readAnds_75 : decode cX6_readAnds 75 = .ok (.getfield 22, 3) := by decide +kernel
theorem dX6_readAnds_78 : decode cX6_readAnds 78 = .ok (.iload_n 2, 1) := by decide +kernel
theorem dX6_readAnds_79 : decode cX6_readAnds 79 = .ok (.aload_n 0, 1) := by decide +kernel
theorem dX6_readAnds_80 : decode cX6_readAnds 80 = .ok (.getfield 72, 3) := by decide +kernel
theorem dX6_readAnds_83 : decode cX6_readAnds 83 = .ok (.iastore, 1) := by decide +kernel
theorem dX6_readAnds_84 : decode cX6_readAnds 84 = .ok (.iinc 1 1, 3) := by decide +kernel
theorem dX6_readAnds_87 : decode cX6_readAnds 87 = .ok (.goto (-76), 3) := by decide +kernel
theorem dX6_readAnds_90 : decode cX6_readAnds 90 = .ok (.iconst 1, 1) := by decide +kernel
theorem dX6_readAnds_91 : decode cX6_readAnds 91 = .ok (.ireturn, 1) := by decide +kernel
theorem dX6_readAtom_0 : decode cX6_readAtom 0 = .ok (.aload_n 0, 1) := by decide +kernel
theorem dX6_readAtom_1 : decode cX6_readAtom 1 = .ok (.getfield 9, 3) := by decide +kernel
theorem dX6_readAtom_4 : decode cX6_readAtom 4 = .ok (.getfield 45, 3) := by decide +kernel
theorem dX6_readAtom_7 : decode cX6_readAtom 7 = .ok (.lookupswitch 149 #[(2, 134), (3, 73), (4, 144), (33, 139), (39, 87), (40, 95), (41, 103), (58, 111)], 73) := by decide +kernel
theorem dX6_readAtom_80 : decode cX6_readAtom 80 = .ok (.aload_n 0, 1) := by decide +kernel
theorem dX6_readAtom_81 : decode cX6_readAtom 81 = .ok (.iconst 0, 1) := by decide +kernel
theorem dX6_readAtom_82 : decode cX6_readAtom 82 = .ok (.iconst 0, 1) := by decide +kernel
theorem dX6_readAtom_83 : decode cX6_readAtom 83 = .ok (.aload_n 0, 1) := by decide +kernel
theorem dX6_readAtom_84 : decode cX6_readAtom 84 = .ok (.getfield 9, 3) := by decide +kernel
theorem dX6_readAtom_87 : decode cX6_readAtom 87 = .ok (.getfield 118, 3) := by decide +kernel
theorem dX6_readAtom_90 : decode cX6_readAtom 90 = .ok (.invokevirtual 159, 3) := by decide +kernel
theorem dX6_readAtom_93 : decode cX6_readAtom 93 = .ok (.ireturn, 1) := by decide +kernel
theorem dX6_readAtom_94 : decode cX6_readAtom 94 = .ok (.aload_n 0, 1) := by decide +kernel
theorem dX6_readAtom_95 : decode cX6_readAtom 95 = .ok (.iconst 1, 1) := by decide +kernel
theorem dX6_readAtom_96 : decode cX6_readAtom 96 = .ok (.iconst 0, 1) := by decide +kernel
theorem dX6_readAtom_97 : decode cX6_readAtom 97 = .ok (.lconst 0, 1) := by decide +kernel
theorem dX6_readAtom_98 : decode cX6_readAtom 98 = .ok (.invokevirtual 159, 3) := by decide +kernel
theorem dX6_readAtom_101 : decode cX6_readAtom 101 = .ok (.ireturn, 1) := by decide +kernel
theorem dX6_readAtom_102 : decode cX6_readAtom 102 = .ok (.aload_n 0, 1) := by decide +kernel
theorem dX6_readAtom_103 : decode cX6_readAtom 103 = .ok (.iconst 2, 1) := by decide +kernel
theorem dX6_readAtom_104 : decode cX6_readAtom 104 = .ok (.iconst 0, 1) := by decide +kernel
theorem dX6_readAtom_105 : decode cX6_readAtom 105 = .ok (.lconst 0, 1) := by decide +kernel
theorem dX6_readAtom_106 : decode cX6_readAtom 106 = .ok (.invokevirtual 159, 3) := by decide +kernel
theorem dX6_readAtom_109 : decode cX6_readAtom 109 = .ok (.ireturn, 1) := by decide +kernel
theorem dX6_readAtom_110 : decode cX6_readAtom 110 = .ok (.aload_n 0, 1) := by decide +kernel
theorem dX6_readAtom_111 : decode cX6_readAtom 111 = .ok (.iconst 3, 1) := by decide +kernel
theorem dX6_readAtom_112 : decode cX6_readAtom 112 = .ok (.iconst 0, 1) := by decide +kernel
theorem dX6_readAtom_113 : decode cX6_readAtom 113 = .ok (.lconst 0, 1) := by decide +kernel
theorem dX6_readAtom_114 : decode cX6_readAtom 114 = .ok (.invokevirtual 159, 3) := by decide +kernel
theorem dX6_readAtom_117 : decode cX6_readAtom 117 = .ok (.ireturn, 1) := by decide +kernel
theorem dX6_readAtom_118 : decode cX6_readAtom 118 = .ok (.aload_n 0, 1) := by decide +kernel
theorem dX6_readAtom_119 : decode cX6_readAtom 119 = .ok (.getfield 62, 3) := by decide +kernel
theorem dX6_readAtom_122 : decode cX6_readAtom 122 = .ok (.ifCond .eq 13, 3) := by decide +kernel
theorem dX6_readAtom_125 : decode cX6_readAtom 125 = .ok (.aload_n 0, 1) := by decide +kernel
theorem dX6_readAtom_126 : decode cX6_readAtom 126 = .ok (.iconst 5, 1) := by decide +kernel
theorem dX6_readAtom_127 : decode cX6_readAtom 127 = .ok (.iconst 0, 1) := by decide +kernel
theorem dX6_readAtom_128 : decode cX6_readAtom 128 = .ok (.lconst 0, 1) := by decide +kernel
theorem dX6_readAtom_129 : decode cX6_readAtom 129 = .ok (.invokevirtual 159, 3) := by decide +kernel
theorem dX6_readAtom_132 : decode cX6_readAtom 132 = .ok (.goto 8, 3) := by decide +kernel
theorem dX6_readAtom_135 : decode cX6_readAtom 135 = .ok (.aload_n 0, 1) := by decide +kernel
theorem dX6_readAtom_136 : decode cX6_readAtom 136 = .ok (.iconst 3, 1) := by decide +kernel
theorem dX6_readAtom_137 : decode cX6_readAtom 137 = .ok (.invokevirtual 112, 3) := by decide +kernel
theorem dX6_readAtom_140 : decode cX6_readAtom 140 = .ok (.ireturn, 1) := by decide +kernel
theorem dX6_readAtom_141 : decode cX6_readAtom 141 = .ok (.aload_n 0, 1) := by decide +kernel
theorem dX6_readAtom_142 : decode cX6_readAtom 142 = .ok (.invokevirtual 163, 3) := by decide +kernel
theorem dX6_readAtom_145 : decode cX6_readAtom 145 = .ok (.ireturn, 1) := by decide +kernel
theorem dX6_readAtom_146 : decode cX6_readAtom 146 = .ok (.aload_n 0, 1) := by decide +kernel
theorem dX6_readAtom_147 : decode cX6_readAtom 147 = .ok (.invokevirtual 166, 3) := by decide +kernel
theorem dX6_readAtom_150 : decode cX6_readAtom 150 = .ok (.ireturn, 1) := by decide +kernel
theorem dX6_readAtom_151 : decode cX6_readAtom 151 = .ok (.aload_n 0, 1) := by decide +kernel
theorem dX6_readAtom_152 : decode cX6_readAtom 152 = .ok (.invokevirtual 169, 3) := by decide +kernel
theorem dX6_readAtom_155 : decode cX6_readAtom 155 = .ok (.ireturn, 1) := by decide +kernel
theorem dX6_readAtom_156 : decode cX6_readAtom 156 = .ok (.aload_n 0, 1) := by decide +kernel
theorem dX6_readAtom_157 : decode cX6_readAtom 157 = .ok (.getfield 9, 3) := by decide +kernel
theorem dX6_readAtom_160 : decode cX6_readAtom 160 = .ok (.getfield 45, 3) := by decide +kernel
theorem dX6_readAtom_163 : decode cX6_readAtom 163 = .ok (.bipush 44, 2) := by decide +kernel
theorem dX6_readAtom_165 : decode cX6_readAtom 165 = .ok (.if_icmp .lt 22, 3) := by decide +kernel
theorem dX6_readAtom_168 : decode cX6_readAtom 168 = .ok (.aload_n 0, 1) := by decide +kernel
theorem dX6_readAtom_169 : decode cX6_readAtom 169 = .ok (.getfield 9, 3) := by decide +kernel
theorem dX6_readAtom_172 : decode cX6_readAtom 172 = .ok (.getfield 45, 3) := by decide +kernel
theorem dX6_readAtom_175 : decode cX6_readAtom 175 = .ok (.bipush 49, 2) := by decide +kernel
theorem dX6_readAtom_177 : decode cX6_readAtom 177 = .ok (.if_icmp .gt 10, 3) := by decide +kernel
theorem dX6_readAtom_180 : decode cX6_readAtom 180 = .ok (.aload_n 0, 1) := by decide +kernel
theorem dX6_readAtom_181 : decode cX6_readAtom 181 = .ok (.invokevirtual 172, 3) := by decide +kernel
theorem dX6_readAtom_184 : decode cX6_readAtom 184 = .ok (.goto 7, 3) := by decide +kernel
theorem dX6_readAtom_187 : decode cX6_readAtom 187 = .ok (.aload_n 0, 1) := by decide +kernel
theorem dX6_readAtom_188 : decode cX6_readAtom 188 = .ok (.invokevirtual 51, 3) := by decide +kernel
theorem dX6_readAtom_191 : decode cX6_readAtom 191 = .ok (.ireturn, 1) := by decide +kernel
theorem dX6_readComparison_0 : decode cX6_readComparison 0 = .ok (.aload_n 0, 1) := by decide +kernel
theorem dX6_readComparison_1 : decode cX6_readComparison 1 = .ok (.invokevirtual 137, 3) := by decide +kernel
theorem dX6_readComparison_4 : decode cX6_readComparison 4 = .ok (.ifCond .ne 5, 3) := by decide +kernel
theorem dX6_readComparison_7 : decode cX6_readComparison 7 = .ok (.iconst 0, 1) := by decide +kernel
theorem dX6_readComparison_8 : decode cX6_readComparison 8 = .ok (.ireturn, 1) := by decide +kernel
theorem dX6_readComparison_9 : decode cX6_readComparison 9 = .ok (.aload_n 0, 1) := by decide +kernel
theorem dX6_readComparison_10 : decode cX6_readComparison 10 = .ok (.getfield 9, 3) := by decide +kernel
theorem dX6_readComparison_13 : decode cX6_readComparison 13 = .ok (.getfield 45, 3) := by decide +kernel
theorem dX6_readComparison_16 : decode cX6_readComparison 16 = .ok (.invokestatic 140, 3) := by decide +kernel
theorem dX6_readComparison_19 : decode cX6_readComparison 19 = .ok (.istore_n 1, 1) := by decide +kernel
theorem dX6_readComparison_20 : decode cX6_readComparison 20 = .ok (.iload_n 1, 1) := by decide +kernel
theorem dX6_readComparison_21 : decode cX6_readComparison 21 = .ok (.iconst (-1), 1) := by decide +kernel
theorem dX6_readComparison_22 : decode cX6_readComparison 22 = .ok (.if_icmp .ne 5, 3) := by decide +kernel
theorem dX6_readComparison_25 : decode cX6_readComparison 25 = .ok (.iconst 1, 1) := by decide +kernel
theorem dX6_readComparison_26 : decode cX6_readComparison 26 = .ok (.ireturn, 1) := by decide +kernel
theorem dX6_readComparison_27 : decode cX6_readComparison 27 = .ok (.aload_n 0, 1) := by decide +kernel
theorem dX6_readComparison_28 : decode cX6_readComparison 28 = .ok (.invokevirtual 115, 3) := by decide +kernel
theorem dX6_readComparison_31 : decode cX6_readComparison 31 = .ok (.ifCond .ne 5, 3) := by decide +kernel
theorem dX6_readComparison_34 : decode cX6_readComparison 34 = .ok (.iconst 0, 1) := by decide +kernel
theorem dX6_readComparison_35 : decode cX6_readComparison 35 = .ok (.ireturn, 1) := by decide +kernel
theorem dX6_readComparison_36 : decode cX6_readComparison 36 = .ok (.aload_n 0, 1) := by decide +kernel
theorem dX6_readComparison_37 : decode cX6_readComparison 37 = .ok (.getfield 9, 3) := by decide +kernel
theorem dX6_readComparison_40 : decode cX6_readComparison 40 = .ok (.invokevirtual 69, 3) := by decide +kernel
theorem dX6_readComparison_43 : decode cX6_readComparison 43 = .ok (.iload_n 1, 1) := by decide +kernel
theorem dX6_readComparison_44 : decode cX6_readComparison 44 = .ok (.bipush 14, 2) := by decide +kernel
theorem dX6_readComparison_46 : decode cX6_readComparison 46 = .ok (.if_icmp .ne 25, 3) := by decide +kernel
theorem dX6_readComparison_49 : decode cX6_readComparison 49 = .ok (.aload_n 0, 1) := by decide +kernel
theorem dX6_readComparison_50 : decode cX6_readComparison 50 = .ok (.bipush 14, 2) := by decide +kernel
theorem dX6_readComparison_52 : decode cX6_readComparison 52 = .ok (.iconst 0, 1) := by decide +kernel
theorem dX6_readComparison_53 : decode cX6_readComparison 53 = .ok (.iconst 0, 1) := by decide +kernel
theorem dX6_readComparison_54 : decode cX6_readComparison 54 = .ok (.aload_n 0, 1) := by decide +kernel
theorem dX6_readComparison_55 : decode cX6_readComparison 55 = .ok (.getfield 9, 3) := by decide +kernel
theorem dX6_readComparison_58 : decode cX6_readComparison 58 = .ok (.getfield 118, 3) := by decide +kernel
theorem dX6_readComparison_61 : decode cX6_readComparison 61 = .ok (.invokevirtual 58, 3) := by decide +kernel
theorem dX6_readComparison_64 : decode cX6_readComparison 64 = .ok (.pop, 1) := by decide +kernel
theorem dX6_readComparison_65 : decode cX6_readComparison 65 = .ok (.aload_n 0, 1) := by decide +kernel
theorem dX6_readComparison_66 : decode cX6_readComparison 66 = .ok (.iconst 2, 1) := by decide +kernel
theorem dX6_readComparison_67 : decode cX6_readComparison 67 = .ok (.invokevirtual 122, 3) := by decide +kernel
theorem dX6_readComparison_70 : decode cX6_readComparison 70 = .ok (.ireturn, 1) := by decide +kernel
theorem dX6_readComparison_71 : decode cX6_readComparison 71 = .ok (.aload_n 0, 1) := by decide +kernel
theorem dX6_readComparison_72 : decode cX6_readComparison 72 = .ok (.invokevirtual 137, 3) := by decide +kernel
theorem dX6_readComparison_75 : decode cX6_readComparison 75 = .ok (.ifCond .ne 5, 3) := by decide +kernel
theorem dX6_readComparison_78 : decode cX6_readComparison 78 = .ok (.iconst 0, 1) := by decide +kernel
theorem dX6_readComparison_79 : decode cX6_readComparison 79 = .ok (.ireturn, 1) := by decide +kernel
theorem dX6_readComparison_80 : decode cX6_readComparison 80 = .ok (.aload_n 0, 1) := by decide +kernel
theorem dX6_readComparison_81 : decode cX6_readComparison 81 = .ok (.iload_n 1, 1) := by decide +kernel
theorem dX6_readComparison_82 : decode cX6_readComparison 82 = .ok (.iconst 0, 1) := by decide +kernel
theorem dX6_readComparison_83 : decode cX6_readComparison 83 = .ok (.iconst 0, 1) := by decide +kernel
theorem dX6_readComparison_84 : decode cX6_readComparison 84 = .ok (.lconst 0, 1) := by decide +kernel
theorem dX6_readComparison_85 : decode cX6_readComparison 85 = .ok (.invokevirtual 58, 3) := by decide +kernel
theorem dX6_readComparison_88 : decode cX6_readComparison 88 = .ok (.pop, 1) := by decide +kernel
theorem dX6_readComparison_89 : decode cX6_readComparison 89 = .ok (.iconst 1, 1) := by decide +kernel
theorem dX6_readComparison_90 : decode cX6_readComparison 90 = .ok (.ireturn, 1) := by decide +kernel
theorem dX6_readE_0 : decode cX6_readE 0 = .ok (.aload_n 0, 1) := by decide +kernel
theorem dX6_readE_1 : decode cX6_readE 1 = .ok (.invokevirtual 128, 3) := by decide +kernel
theorem dX6_readE_4 : decode cX6_readE 4 = .ok (.ifCond .ne 5, 3) := by decide +kernel
theorem dX6_readE_7 : decode cX6_readE 7 = .ok (.iconst 0, 1) := by decide +kernel
theorem dX6_readE_8 : decode cX6_readE 8 = .ok (.ireturn, 1) := by decide +kernel
theorem dX6_readE_9 : decode cX6_readE 9 = .ok (.iconst 0, 1) := by decide +kernel
theorem dX6_readE_10 : decode cX6_readE 10 = .ok (.istore_n 1, 1) := by decide +kernel
theorem dX6_readE_11 : decode cX6_readE 11 = .ok (.iload_n 1, 1) := by decide +kernel
theorem dX6_readE_12 : decode cX6_readE 12 = .ok (.bipush 120, 2) := by decide +kernel
theorem dX6_readE_14 : decode cX6_readE 14 = .ok (.if_icmp .gt 76, 3) := by decide +kernel
theorem dX6_readE_17 : decode cX6_readE 17 = .ok (.aload_n 0, 1) := by decide +kernel
theorem dX6_readE_18 : decode cX6_readE 18 = .ok (.getfield 9, 3) := by decide +kernel
theorem dX6_readE_21 : decode cX6_readE 21 = .ok (.getfield 45, 3) := by decide +kernel
theorem dX6_readE_24 : decode cX6_readE 24 = .ok (.bipush 37, 2) := by decide +kernel
theorem dX6_readE_26 : decode cX6_readE 26 = .ok (.if_icmp .ne 64, 3) := by decide +kernel
theorem dX6_readE_29 : decode cX6_readE 29 = .ok (.aload_n 0, 1) := by decide +kernel
theorem dX6_readE_30 : decode cX6_readE 30 = .ok (.invokevirtual 115, 3) := by decide +kernel
theorem dX6_readE_33 : decode cX6_readE 33 = .ok (.ifCond .ne 5, 3) := by decide +kernel
theorem dX6_readE_36 : decode cX6_readE 36 = .ok (.iconst 0, 1) := by decide +kernel
theorem dX6_readE_37 : decode cX6_readE 37 = .ok (.ireturn, 1) := by decide +kernel
theorem dX6_readE_38 : decode cX6_readE 38 = .ok (.aload_n 0, 1) := by decide +kernel
theorem dX6_readE_39 : decode cX6_readE 39 = .ok (.bipush 34, 2) := by decide +kernel
theorem dX6_readE_41 : decode cX6_readE 41 = .ok (.iconst 0, 1) := by decide +kernel
theorem dX6_readE_42 : decode cX6_readE 42 = .ok (.iconst 0, 1) := by decide +kernel
theorem dX6_readE_43 : decode cX6_readE 43 = .ok (.lconst 0, 1) := by decide +kernel
theorem dX6_readE_44 : decode cX6_readE 44 = .ok (.invokevirtual 58, 3) := by decide +kernel
theorem dX6_readE_47 : decode cX6_readE 47 = .ok (.istore_n 2, 1) := by decide +kernel
theorem dX6_readE_48 : decode cX6_readE 48 = .ok (.aload_n 0, 1) := by decide +kernel
theorem dX6_readE_49 : decode cX6_readE 49 = .ok (.getfield 9, 3) := by decide +kernel
theorem dX6_readE_52 : decode cX6_readE 52 = .ok (.invokevirtual 69, 3) := by decide +kernel
theorem dX6_readE_55 : decode cX6_readE 55 = .ok (.aload_n 0, 1) := by decide +kernel
theorem dX6_readE_56 : decode cX6_readE 56 = .ok (.invokevirtual 128, 3) := by decide +kernel
theorem dX6_readE_59 : decode cX6_readE 59 = .ok (.ifCond .ne 5, 3) := by decide +kernel
theorem dX6_readE_62 : decode cX6_readE 62 = .ok (.iconst 0, 1) := by decide +kernel
theorem dX6_readE_63 : decode cX6_readE 63 = .ok (.ireturn, 1) := by decide +kernel
theorem dX6_readE_64 : decode cX6_readE 64 = .ok (.aload_n 0, 1) := by decide +kernel
theorem dX6_readE_65 : decode cX6_readE 65 = .ok (.bipush 35, 2) := by decide +kernel
theorem dX6_readE_67 : decode cX6_readE 67 = .ok (.iconst 0, 1) := by decide +kernel
theorem dX6_readE_68 : decode cX6_readE 68 = .ok (.iconst 0, 1) := by decide +kernel
theorem dX6_readE_69 : decode cX6_readE 69 = .ok (.lconst 0, 1) := by decide +kernel
theorem dX6_readE_70 : decode cX6_readE 70 = .ok (.invokevirtual 58, 3) := by decide +kernel
theorem dX6_readE_73 : decode cX6_readE 73 = .ok (.pop, 1) := by decide +kernel
theorem dX6_readE_74 : decode cX6_readE 74 = .ok (.aload_n 0, 1) := by decide +kernel
theorem dX6_readE_75 : decode cX6_readE 75 = .ok (.getfield 22, 3) := by decide +kernel
theorem dX6_readE_78 : decode cX6_readE 78 = .ok (.iload_n 2, 1) := by decide +kernel
theorem dX6_readE_79 : decode cX6_readE 79 = .ok (.aload_n 0, 1) := by decide +kernel
theorem dX6_readE_80 : decode cX6_readE 80 = .ok (.getfield 72, 3) := by decide +kernel
theorem dX6_readE_83 : decode cX6_readE 83 = .ok (.iastore, 1) := by decide +kernel
theorem dX6_readE_84 : decode cX6_readE 84 = .ok (.iinc 1 1, 3) := by decide +kernel
theorem dX6_readE_87 : decode cX6_readE 87 = .ok (.goto (-76), 3) := by decide +kernel
theorem dX6_readE_90 : decode cX6_readE 90 = .ok (.iconst 1, 1) := by decide +kernel
theorem dX6_readE_91 : decode cX6_readE 91 = .ok (.ireturn, 1) := by decide +kernel
theorem dX6_readFold_0 : decode cX6_readFold 0 = .ok (.aload_n 0, 1) := by decide +kernel
theorem dX6_readFold_1 : decode cX6_readFold 1 = .ok (.getfield 9, 3) := by decide +kernel
theorem dX6_readFold_4 : decode cX6_readFold 4 = .ok (.getfield 45, 3) := by decide +kernel
theorem dX6_readFold_7 : decode cX6_readFold 7 = .ok (.istore_n 1, 1) := by decide +kernel
theorem dX6_readFold_8 : decode cX6_readFold 8 = .ok (.aload_n 0, 1) := by decide +kernel
theorem dX6_readFold_9 : decode cX6_readFold 9 = .ok (.invokevirtual 115, 3) := by decide +kernel
theorem dX6_readFold_12 : decode cX6_readFold 12 = .ok (.ifCond .eq 10, 3) := by decide +kernel
theorem dX6_readFold_15 : decode cX6_readFold 15 = .ok (.aload_n 0, 1) := by decide +kernel
theorem dX6_readFold_16 : decode cX6_readFold 16 = .ok (.invokevirtual 156, 3) := by decide +kernel
theorem dX6_readFold_19 : decode cX6_readFold 19 = .ok (.ifCond .ne 5, 3) := by decide +kernel
theorem dX6_readFold_22 : decode cX6_readFold 22 = .ok (.iconst 0, 1) := by decide +kernel
theorem dX6_readFold_23 : decode cX6_readFold 23 = .ok (.ireturn, 1) := by decide +kernel
theorem dX6_readFold_24 : decode cX6_readFold 24 = .ok (.aload_n 0, 1) := by decide +kernel
theorem dX6_readFold_25 : decode cX6_readFold 25 = .ok (.getfield 9, 3) := by decide +kernel
theorem dX6_readFold_28 : decode cX6_readFold 28 = .ok (.invokevirtual 69, 3) := by decide +kernel
theorem dX6_readFold_31 : decode cX6_readFold 31 = .ok (.aload_n 0, 1) := by decide +kernel
theorem dX6_readFold_32 : decode cX6_readFold 32 = .ok (.iconst 4, 1) := by decide +kernel
theorem dX6_readFold_33 : decode cX6_readFold 33 = .ok (.invokevirtual 122, 3) := by decide +kernel
theorem dX6_readFold_36 : decode cX6_readFold 36 = .ok (.ifCond .ne 5, 3) := by decide +kernel
theorem dX6_readFold_39 : decode cX6_readFold 39 = .ok (.iconst 0, 1) := by decide +kernel
theorem dX6_readFold_40 : decode cX6_readFold 40 = .ok (.ireturn, 1) := by decide +kernel
theorem dX6_readFold_41 : decode cX6_readFold 41 = .ok (.aload_n 0, 1) := by decide +kernel
theorem dX6_readFold_42 : decode cX6_readFold 42 = .ok (.getfield 9, 3) := by decide +kernel
theorem dX6_readFold_45 : decode cX6_readFold 45 = .ok (.getfield 118, 3) := by decide +kernel
theorem dX6_readFold_48 : decode cX6_readFold 48 = .ok (.lstore_n 2, 1) := by decide +kernel
theorem dX6_readFold_49 : decode cX6_readFold 49 = .ok (.aload_n 0, 1) := by decide +kernel
theorem dX6_readFold_50 : decode cX6_readFold 50 = .ok (.iconst 2, 1) := by decide +kernel
theorem dX6_readFold_51 : decode cX6_readFold 51 = .ok (.invokevirtual 122, 3) := by decide +kernel
theorem dX6_readFold_54 : decode cX6_readFold 54 = .ok (.ifCond .eq 12, 3) := by decide +kernel
theorem dX6_readFold_57 : decode cX6_readFold 57 = .ok (.aload_n 0, 1) := by decide +kernel
theorem dX6_readFold_58 : decode cX6_readFold 58 = .ok (.bipush 43, 2) := by decide +kernel
theorem dX6_readFold_60 : decode cX6_readFold 60 = .ok (.invokevirtual 122, 3) := by decide +kernel
theorem dX6_readFold_63 : decode cX6_readFold 63 = .ok (.ifCond .ne 5, 3) := by decide +kernel
theorem dX6_readFold_66 : decode cX6_readFold 66 = .ok (.iconst 0, 1) := by decide +kernel
theorem dX6_readFold_67 : decode cX6_readFold 67 = .ok (.ireturn, 1) := by decide +kernel
theorem dX6_readFold_68 : decode cX6_readFold 68 = .ok (.aload_n 0, 1) := by decide +kernel
theorem dX6_readFold_69 : decode cX6_readFold 69 = .ok (.dup, 1) := by decide +kernel
theorem dX6_readFold_70 : decode cX6_readFold 70 = .ok (.getfield 93, 3) := by decide +kernel
theorem dX6_readFold_73 : decode cX6_readFold 73 = .ok (.iconst 1, 1) := by decide +kernel
theorem dX6_readFold_74 : decode cX6_readFold 74 = .ok (.iadd, 1) := by decide +kernel
theorem dX6_readFold_75 : decode cX6_readFold 75 = .ok (.putfield 93, 3) := by decide +kernel
theorem dX6_readFold_78 : decode cX6_readFold 78 = .ok (.aload_n 0, 1) := by decide +kernel
theorem dX6_readFold_79 : decode cX6_readFold 79 = .ok (.getfield 93, 3) := by decide +kernel
theorem dX6_readFold_82 : decode cX6_readFold 82 = .ok (.istore 4, 2) := by decide +kernel
theorem dX6_readFold_84 : decode cX6_readFold 84 = .ok (.aload_n 0, 1) := by decide +kernel
theorem dX6_readFold_85 : decode cX6_readFold 85 = .ok (.bipush 6, 2) := by decide +kernel
theorem dX6_readFold_87 : decode cX6_readFold 87 = .ok (.iload 4, 2) := by decide +kernel
theorem dX6_readFold_89 : decode cX6_readFold 89 = .ok (.iconst 0, 1) := by decide +kernel
theorem dX6_readFold_90 : decode cX6_readFold 90 = .ok (.iload_n 1, 1) := by decide +kernel
theorem dX6_readFold_91 : decode cX6_readFold 91 = .ok (.i2l, 1) := by decide +kernel
theorem dX6_readFold_92 : decode cX6_readFold 92 = .ok (.invokevirtual 58, 3) := by decide +kernel
theorem dX6_readFold_95 : decode cX6_readFold 95 = .ok (.pop, 1) := by decide +kernel
theorem dX6_readFold_96 : decode cX6_readFold 96 = .ok (.aload_n 0, 1) := by decide +kernel
theorem dX6_readFold_97 : decode cX6_readFold 97 = .ok (.iload 4, 2) := by decide +kernel
theorem dX6_readFold_99 : decode cX6_readFold 99 = .ok (.invokevirtual 54, 3) := by decide +kernel
theorem dX6_readFold_102 : decode cX6_readFold 102 = .ok (.ifCond .ne 5, 3) := by decide +kernel
theorem dX6_readFold_105 : decode cX6_readFold 105 = .ok (.iconst 0, 1) := by decide +kernel
theorem dX6_readFold_106 : decode cX6_readFold 106 = .ok (.ireturn, 1) := by decide +kernel
theorem dX6_readFold_107 : decode cX6_readFold 107 = .ok (.aload_n 0, 1) := by decide +kernel
theorem dX6_readFold_108 : decode cX6_readFold 108 = .ok (.getfield 29, 3) := by decide +kernel
theorem dX6_readFold_111 : decode cX6_readFold 111 = .ok (.aload_n 0, 1) := by decide +kernel
theorem dX6_readFold_112 : decode cX6_readFold 112 = .ok (.getfield 96, 3) := by decide +kernel
theorem dX6_readFold_115 : decode cX6_readFold 115 = .ok (.lload_n 2, 1) := by decide +kernel
theorem dX6_readFold_116 : decode cX6_readFold 116 = .ok (.lastore, 1) := by decide +kernel
theorem dX6_readFold_117 : decode cX6_readFold 117 = .ok (.aload_n 0, 1) := by decide +kernel
theorem dX6_readFold_118 : decode cX6_readFold 118 = .ok (.getfield 32, 3) := by decide +kernel
theorem dX6_readFold_121 : decode cX6_readFold 121 = .ok (.aload_n 0, 1) := by decide +kernel
theorem dX6_readFold_122 : decode cX6_readFold 122 = .ok (.getfield 96, 3) := by decide +kernel
theorem dX6_readFold_125 : decode cX6_readFold 125 = .ok (.iload 4, 2) := by decide +kernel
theorem dX6_readFold_127 : decode cX6_readFold 127 = .ok (.iastore, 1) := by decide +kernel
theorem dX6_readFold_128 : decode cX6_readFold 128 = .ok (.aload_n 0, 1) := by decide +kernel
theorem dX6_readFold_129 : decode cX6_readFold 129 = .ok (.dup, 1) := by decide +kernel
theorem dX6_readFold_130 : decode cX6_readFold 130 = .ok (.getfield 96, 3) := by decide +kernel
theorem dX6_readFold_133 : decode cX6_readFold 133 = .ok (.iconst 1, 1) := by decide +kernel
theorem dX6_readFold_134 : decode cX6_readFold 134 = .ok (.iadd, 1) := by decide +kernel
theorem dX6_readFold_135 : decode cX6_readFold 135 = .ok (.putfield 96, 3) := by decide +kernel
theorem dX6_readFold_138 : decode cX6_readFold 138 = .ok (.aload_n 0, 1) := by decide +kernel
theorem dX6_readFold_139 : decode cX6_readFold 139 = .ok (.iload_n 1, 1) := by decide +kernel
theorem dX6_readFold_140 : decode cX6_readFold 140 = .ok (.iload 4, 2) := by decide +kernel
theorem dX6_readFold_142 : decode cX6_readFold 142 = .ok (.invokevirtual 175, 3) := by decide +kernel
theorem dX6_readFold_145 : decode cX6_readFold 145 = .ok (.ifCond .ne 5, 3) := by decide +kernel
theorem dX6_readFold_148 : decode cX6_readFold 148 = .ok (.iconst 0, 1) := by decide +kernel
theorem dX6_readFold_149 : decode cX6_readFold 149 = .ok (.ireturn, 1) := by decide +kernel
theorem dX6_readFold_150 : decode cX6_readFold 150 = .ok (.aload_n 0, 1) := by decide +kernel
theorem dX6_readFold_151 : decode cX6_readFold 151 = .ok (.dup, 1) := by decide +kernel
theorem dX6_readFold_152 : decode cX6_readFold 152 = .ok (.getfield 96, 3) := by decide +kernel
theorem dX6_readFold_155 : decode cX6_readFold 155 = .ok (.iconst 1, 1) := by decide +kernel
theorem dX6_readFold_156 : decode cX6_readFold 156 = .ok (.isub, 1) := by decide +kernel
theorem dX6_readFold_157 : decode cX6_readFold 157 = .ok (.putfield 96, 3) := by decide +kernel
theorem dX6_readFold_160 : decode cX6_readFold 160 = .ok (.aload_n 0, 1) := by decide +kernel
theorem dX6_readFold_161 : decode cX6_readFold 161 = .ok (.dup, 1) := by decide +kernel
theorem dX6_readFold_162 : decode cX6_readFold 162 = .ok (.getfield 93, 3) := by decide +kernel
theorem dX6_readFold_165 : decode cX6_readFold 165 = .ok (.iconst 1, 1) := by decide +kernel
theorem dX6_readFold_166 : decode cX6_readFold 166 = .ok (.isub, 1) := by decide +kernel
theorem dX6_readFold_167 : decode cX6_readFold 167 = .ok (.putfield 93, 3) := by decide +kernel
theorem dX6_readFold_170 : decode cX6_readFold 170 = .ok (.aload_n 0, 1) := by decide +kernel
theorem dX6_readFold_171 : decode cX6_readFold 171 = .ok (.dup, 1) := by decide +kernel
theorem dX6_readFold_172 : decode cX6_readFold 172 = .ok (.getfield 90, 3) := by decide +kernel
theorem dX6_readFold_175 : decode cX6_readFold 175 = .ok (.iconst 1, 1) := by decide +kernel
theorem dX6_readFold_176 : decode cX6_readFold 176 = .ok (.isub, 1) := by decide +kernel
theorem dX6_readFold_177 : decode cX6_readFold 177 = .ok (.putfield 90, 3) := by decide +kernel
theorem dX6_readFold_180 : decode cX6_readFold 180 = .ok (.iconst 1, 1) := by decide +kernel
theorem dX6_readFold_181 : decode cX6_readFold 181 = .ok (.ireturn, 1) := by decide +kernel
theorem dX6_readFoldBody_0 : decode cX6_readFoldBody 0 = .ok (.aload_n 0, 1) := by decide +kernel
theorem dX6_readFoldBody_1 : decode cX6_readFoldBody 1 = .ok (.bipush 36, 2) := by decide +kernel
theorem dX6_readFoldBody_3 : decode cX6_readFoldBody 3 = .ok (.iload_n 2, 1) := by decide +kernel
theorem dX6_readFoldBody_4 : decode cX6_readFoldBody 4 = .ok (.iconst 0, 1) := by decide +kernel
theorem dX6_readFoldBody_5 : decode cX6_readFoldBody 5 = .ok (.lconst 0, 1) := by decide +kernel
theorem dX6_readFoldBody_6 : decode cX6_readFoldBody 6 = .ok (.invokevirtual 58, 3) := by decide +kernel
theorem dX6_readFoldBody_9 : decode cX6_readFoldBody 9 = .ok (.istore_n 3, 1) := by decide +kernel
theorem dX6_readFoldBody_10 : decode cX6_readFoldBody 10 = .ok (.aload_n 0, 1) := by decide +kernel
theorem dX6_readFoldBody_11 : decode cX6_readFoldBody 11 = .ok (.iload_n 3, 1) := by decide +kernel
theorem dX6_readFoldBody_12 : decode cX6_readFoldBody 12 = .ok (.invokevirtual 66, 3) := by decide +kernel
theorem dX6_readFoldBody_15 : decode cX6_readFoldBody 15 = .ok (.ifCond .ne 5, 3) := by decide +kernel
theorem dX6_readFoldBody_18 : decode cX6_readFoldBody 18 = .ok (.iconst 0, 1) := by decide +kernel
theorem dX6_readFoldBody_19 : decode cX6_readFoldBody 19 = .ok (.ireturn, 1) := by decide +kernel
theorem dX6_readFoldBody_20 : decode cX6_readFoldBody 20 = .ok (.iload_n 1, 1) := by decide +kernel
theorem dX6_readFoldBody_21 : decode cX6_readFoldBody 21 = .ok (.bipush 44, 2) := by decide +kernel
theorem dX6_readFoldBody_23 : decode cX6_readFoldBody 23 = .ok (.if_icmp .eq 21, 3) := by decide +kernel
theorem dX6_readFoldBody_26 : decode cX6_readFoldBody 26 = .ok (.aload_n 0, 1) := by decide +kernel
theorem dX6_readFoldBody_27 : decode cX6_readFoldBody 27 = .ok (.bipush 9, 2) := by decide +kernel
theorem dX6_readFoldBody_29 : decode cX6_readFoldBody 29 = .ok (.invokevirtual 122, 3) := by decide +kernel
theorem dX6_readFoldBody_32 : decode cX6_readFoldBody 32 = .ok (.ifCond .eq 10, 3) := by decide +kernel
theorem dX6_readFoldBody_35 : decode cX6_readFoldBody 35 = .ok (.aload_n 0, 1) := by decide +kernel
theorem dX6_readFoldBody_36 : decode cX6_readFoldBody 36 = .ok (.invokevirtual 41, 3) := by decide +kernel
theorem dX6_readFoldBody_39 : decode cX6_readFoldBody 39 = .ok (.ifCond .ne 5, 3) := by decide +kernel
theorem dX6_readFoldBody_42 : decode cX6_readFoldBody 42 = .ok (.iconst 0, 1) := by decide +kernel
theorem dX6_readFoldBody_43 : decode cX6_readFoldBody 43 = .ok (.ireturn, 1) := by decide +kernel
theorem dX6_readFoldBody_44 : decode cX6_readFoldBody 44 = .ok (.aload_n 0, 1) := by decide +kernel
theorem dX6_readFoldBody_45 : decode cX6_readFoldBody 45 = .ok (.bipush 38, 2) := by decide +kernel
theorem dX6_readFoldBody_47 : decode cX6_readFoldBody 47 = .ok (.iload_n 2, 1) := by decide +kernel
theorem dX6_readFoldBody_48 : decode cX6_readFoldBody 48 = .ok (.iload_n 3, 1) := by decide +kernel
theorem dX6_readFoldBody_49 : decode cX6_readFoldBody 49 = .ok (.iload_n 1, 1) := by decide +kernel
theorem dX6_readFoldBody_50 : decode cX6_readFoldBody 50 = .ok (.i2l, 1) := by decide +kernel
theorem dX6_readFoldBody_51 : decode cX6_readFoldBody 51 = .ok (.invokevirtual 58, 3) := by decide +kernel
theorem dX6_readFoldBody_54 : decode cX6_readFoldBody 54 = .ok (.pop, 1) := by decide +kernel
theorem dX6_readFoldBody_55 : decode cX6_readFoldBody 55 = .ok (.aload_n 0, 1) := by decide +kernel
theorem dX6_readFoldBody_56 : decode cX6_readFoldBody 56 = .ok (.getfield 22, 3) := by decide +kernel
theorem dX6_readFoldBody_59 : decode cX6_readFoldBody 59 = .ok (.iload_n 3, 1) := by decide +kernel
theorem dX6_readFoldBody_60 : decode cX6_readFoldBody 60 = .ok (.aload_n 0, 1) := by decide +kernel
theorem dX6_readFoldBody_61 : decode cX6_readFoldBody 61 = .ok (.getfield 72, 3) := by decide +kernel
theorem dX6_readFoldBody_64 : decode cX6_readFoldBody 64 = .ok (.iastore, 1) := by decide +kernel
theorem dX6_readFoldBody_65 : decode cX6_readFoldBody 65 = .ok (.aload_n 0, 1) := by decide +kernel
theorem dX6_readFoldBody_66 : decode cX6_readFoldBody 66 = .ok (.bipush 39, 2) := by decide +kernel
theorem dX6_readFoldBody_68 : decode cX6_readFoldBody 68 = .ok (.iload_n 2, 1) := by decide +kernel
theorem dX6_readFoldBody_69 : decode cX6_readFoldBody 69 = .ok (.iconst 0, 1) := by decide +kernel
theorem dX6_readFoldBody_70 : decode cX6_readFoldBody 70 = .ok (.iload_n 1, 1) := by decide +kernel
theorem dX6_readFoldBody_71 : decode cX6_readFoldBody 71 = .ok (.i2l, 1) := by decide +kernel
theorem dX6_readFoldBody_72 : decode cX6_readFoldBody 72 = .ok (.invokevirtual 58, 3) := by decide +kernel
theorem dX6_readFoldBody_75 : decode cX6_readFoldBody 75 = .ok (.pop, 1) := by decide +kernel
theorem dX6_readFoldBody_76 : decode cX6_readFoldBody 76 = .ok (.aload_n 0, 1) := by decide +kernel
theorem dX6_readFoldBody_77 : decode cX6_readFoldBody 77 = .ok (.iconst 5, 1) := by decide +kernel
theorem dX6_readFoldBody_78 : decode cX6_readFoldBody 78 = .ok (.invokevirtual 122, 3) := by decide +kernel
theorem dX6_readFoldBody_81 : decode cX6_readFoldBody 81 = .ok (.ireturn, 1) := by decide +kernel
theorem dX6_readInner_0 : decode cX6_readInner 0 = .ok (.aload_n 0, 1) := by decide +kernel
theorem dX6_readInner_1 : decode cX6_readInner 1 = .ok (.invokevirtual 156, 3) := by decide +kernel
theorem dX6_readInner_4 : decode cX6_readInner 4 = .ok (.ifCond .ne 5, 3) := by decide +kernel
theorem dX6_readInner_7 : decode cX6_readInner 7 = .ok (.iconst 0, 1) := by decide +kernel
theorem dX6_readInner_8 : decode cX6_readInner 8 = .ok (.ireturn, 1) := by decide +kernel
theorem dX6_readInner_9 : decode cX6_readInner 9 = .ok (.aload_n 0, 1) := by decide +kernel
theorem dX6_readInner_10 : decode cX6_readInner 10 = .ok (.getfield 9, 3) := by decide +kernel
theorem dX6_readInner_13 : decode cX6_readInner 13 = .ok (.invokevirtual 69, 3) := by decide +kernel
theorem dX6_readInner_16 : decode cX6_readInner 16 = .ok (.aload_n 0, 1) := by decide +kernel
theorem dX6_readInner_17 : decode cX6_readInner 17 = .ok (.invokevirtual 41, 3) := by decide +kernel
theorem dX6_readInner_20 : decode cX6_readInner 20 = .ok (.ifCond .eq 11, 3) := by decide +kernel
theorem dX6_readInner_23 : decode cX6_readInner 23 = .ok (.aload_n 0, 1) := by decide +kernel
theorem dX6_readInner_24 : decode cX6_readInner 24 = .ok (.iconst 5, 1) := by decide +kernel
theorem dX6_readInner_25 : decode cX6_readInner 25 = .ok (.invokevirtual 122, 3) := by decide +kernel
theorem dX6_readInner_28 : decode cX6_readInner 28 = .ok (.ifCond .ne 5, 3) := by decide +kernel
theorem dX6_readInner_31 : decode cX6_readInner 31 = .ok (.iconst 0, 1) := by decide +kernel
theorem dX6_readInner_32 : decode cX6_readInner 32 = .ok (.ireturn, 1) := by decide +kernel
theorem dX6_readInner_33 : decode cX6_readInner 33 = .ok (.aload_n 0, 1) := by decide +kernel
theorem dX6_readInner_34 : decode cX6_readInner 34 = .ok (.dup, 1) := by decide +kernel
theorem dX6_readInner_35 : decode cX6_readInner 35 = .ok (.getfield 90, 3) := by decide +kernel
theorem dX6_readInner_38 : decode cX6_readInner 38 = .ok (.iconst 1, 1) := by decide +kernel
theorem dX6_readInner_39 : decode cX6_readInner 39 = .ok (.isub, 1) := by decide +kernel
theorem dX6_readInner_40 : decode cX6_readInner 40 = .ok (.putfield 90, 3) := by decide +kernel
theorem dX6_readInner_43 : decode cX6_readInner 43 = .ok (.iconst 1, 1) := by decide +kernel
theorem dX6_readInner_44 : decode cX6_readInner 44 = .ok (.ireturn, 1) := by decide +kernel
theorem dX6_readLeaf_0 : decode cX6_readLeaf 0 = .ok (.aload_n 0, 1) := by decide +kernel
theorem dX6_readLeaf_1 : decode cX6_readLeaf 1 = .ok (.invokevirtual 115, 3) := by decide +kernel
theorem dX6_readLeaf_4 : decode cX6_readLeaf 4 = .ok (.ifCond .ne 5, 3) := by decide +kernel
theorem dX6_readLeaf_7 : decode cX6_readLeaf 7 = .ok (.iconst 0, 1) := by decide +kernel
theorem dX6_readLeaf_8 : decode cX6_readLeaf 8 = .ok (.ireturn, 1) := by decide +kernel
theorem dX6_readLeaf_9 : decode cX6_readLeaf 9 = .ok (.aload_n 0, 1) := by decide +kernel
theorem dX6_readLeaf_10 : decode cX6_readLeaf 10 = .ok (.iload_n 1, 1) := by decide +kernel
theorem dX6_readLeaf_11 : decode cX6_readLeaf 11 = .ok (.iload_n 2, 1) := by decide +kernel
theorem dX6_readLeaf_12 : decode cX6_readLeaf 12 = .ok (.iconst 0, 1) := by decide +kernel
theorem dX6_readLeaf_13 : decode cX6_readLeaf 13 = .ok (.lload_n 3, 1) := by decide +kernel
theorem dX6_readLeaf_14 : decode cX6_readLeaf 14 = .ok (.invokevirtual 58, 3) := by decide +kernel
theorem dX6_readLeaf_17 : decode cX6_readLeaf 17 = .ok (.pop, 1) := by decide +kernel
theorem dX6_readLeaf_18 : decode cX6_readLeaf 18 = .ok (.aload_n 0, 1) := by decide +kernel
theorem dX6_readLeaf_19 : decode cX6_readLeaf 19 = .ok (.getfield 9, 3) := by decide +kernel
theorem dX6_readLeaf_22 : decode cX6_readLeaf 22 = .ok (.invokevirtual 69, 3) := by decide +kernel
theorem dX6_readLeaf_25 : decode cX6_readLeaf 25 = .ok (.iconst 1, 1) := by decide +kernel
theorem dX6_readLeaf_26 : decode cX6_readLeaf 26 = .ok (.ireturn, 1) := by decide +kernel
theorem dX6_readNots_0 : decode cX6_readNots 0 = .ok (.iconst 0, 1) := by decide +kernel
theorem dX6_readNots_1 : decode cX6_readNots 1 = .ok (.istore_n 1, 1) := by decide +kernel
theorem dX6_readNots_2 : decode cX6_readNots 2 = .ok (.aload_n 0, 1) := by decide +kernel
theorem dX6_readNots_3 : decode cX6_readNots 3 = .ok (.getfield 9, 3) := by decide +kernel
theorem dX6_readNots_6 : decode cX6_readNots 6 = .ok (.getfield 45, 3) := by decide +kernel
theorem dX6_readNots_9 : decode cX6_readNots 9 = .ok (.bipush 38, 2) := by decide +kernel
theorem dX6_readNots_11 : decode cX6_readNots 11 = .ok (.if_icmp .ne 31, 3) := by decide +kernel
theorem dX6_readNots_14 : decode cX6_readNots 14 = .ok (.iload_n 1, 1) := by decide +kernel
theorem dX6_readNots_15 : decode cX6_readNots 15 = .ok (.bipush 120, 2) := by decide +kernel
theorem dX6_readNots_17 : decode cX6_readNots 17 = .ok (.if_icmp .gt 25, 3) := by decide +kernel
theorem dX6_readNots_20 : decode cX6_readNots 20 = .ok (.aload_n 0, 1) := by decide +kernel
theorem dX6_readNots_21 : decode cX6_readNots 21 = .ok (.invokevirtual 115, 3) := by decide +kernel
theorem dX6_readNots_24 : decode cX6_readNots 24 = .ok (.ifCond .ne 5, 3) := by decide +kernel
theorem dX6_readNots_27 : decode cX6_readNots 27 = .ok (.iconst 0, 1) := by decide +kernel
theorem dX6_readNots_28 : decode cX6_readNots 28 = .ok (.ireturn, 1) := by decide +kernel
theorem dX6_readNots_29 : decode cX6_readNots 29 = .ok (.iinc 1 1, 3) := by decide +kernel
theorem dX6_readNots_32 : decode cX6_readNots 32 = .ok (.aload_n 0, 1) := by decide +kernel
theorem dX6_readNots_33 : decode cX6_readNots 33 = .ok (.getfield 9, 3) := by decide +kernel
theorem dX6_readNots_36 : decode cX6_readNots 36 = .ok (.invokevirtual 69, 3) := by decide +kernel
theorem dX6_readNots_39 : decode cX6_readNots 39 = .ok (.goto (-37), 3) := by decide +kernel
theorem dX6_readNots_42 : decode cX6_readNots 42 = .ok (.aload_n 0, 1) := by decide +kernel
theorem dX6_readNots_43 : decode cX6_readNots 43 = .ok (.invokevirtual 134, 3) := by decide +kernel
theorem dX6_readNots_46 : decode cX6_readNots 46 = .ok (.ifCond .ne 5, 3) := by decide +kernel
theorem dX6_readNots_49 : decode cX6_readNots 49 = .ok (.iconst 0, 1) := by decide +kernel
theorem dX6_readNots_50 : decode cX6_readNots 50 = .ok (.ireturn, 1) := by decide +kernel
theorem dX6_readNots_51 : decode cX6_readNots 51 = .ok (.iconst 0, 1) := by decide +kernel
theorem dX6_readNots_52 : decode cX6_readNots 52 = .ok (.istore_n 2, 1) := by decide +kernel
theorem dX6_readNots_53 : decode cX6_readNots 53 = .ok (.iload_n 2, 1) := by decide +kernel
theorem dX6_readNots_54 : decode cX6_readNots 54 = .ok (.iload_n 1, 1) := by decide +kernel
theorem dX6_readNots_55 : decode cX6_readNots 55 = .ok (.if_icmp .ge 19, 3) := by decide +kernel
theorem dX6_readNots_58 : decode cX6_readNots 58 = .ok (.aload_n 0, 1) := by decide +kernel
theorem dX6_readNots_59 : decode cX6_readNots 59 = .ok (.bipush 13, 2) := by decide +kernel
theorem dX6_readNots_61 : decode cX6_readNots 61 = .ok (.iconst 0, 1) := by decide +kernel
theorem dX6_readNots_62 : decode cX6_readNots 62 = .ok (.iconst 0, 1) := by decide +kernel
theorem dX6_readNots_63 : decode cX6_readNots 63 = .ok (.lconst 0, 1) := by decide +kernel
theorem dX6_readNots_64 : decode cX6_readNots 64 = .ok (.invokevirtual 58, 3) := by decide +kernel
theorem dX6_readNots_67 : decode cX6_readNots 67 = .ok (.pop, 1) := by decide +kernel
theorem dX6_readNots_68 : decode cX6_readNots 68 = .ok (.iinc 2 1, 3) := by decide +kernel
theorem dX6_readNots_71 : decode cX6_readNots 71 = .ok (.goto (-18), 3) := by decide +kernel
theorem dX6_readNots_74 : decode cX6_readNots 74 = .ok (.iconst 1, 1) := by decide +kernel
theorem dX6_readNots_75 : decode cX6_readNots 75 = .ok (.ireturn, 1) := by decide +kernel
theorem dX6_readP_0 : decode cX6_readP 0 = .ok (.aload_n 0, 1) := by decide +kernel
theorem dX6_readP_1 : decode cX6_readP 1 = .ok (.getfield 99, 3) := by decide +kernel
theorem dX6_readP_4 : decode cX6_readP 4 = .ok (.istore_n 1, 1) := by decide +kernel
theorem dX6_readP_5 : decode cX6_readP 5 = .ok (.iconst 0, 1) := by decide +kernel
theorem dX6_readP_6 : decode cX6_readP 6 = .ok (.istore_n 2, 1) := by decide +kernel
theorem dX6_readP_7 : decode cX6_readP 7 = .ok (.iload_n 2, 1) := by decide +kernel
theorem dX6_readP_8 : decode cX6_readP 8 = .ok (.bipush 120, 2) := by decide +kernel
theorem dX6_readP_10 : decode cX6_readP 10 = .ok (.if_icmp .gt 81, 3) := by decide +kernel
theorem dX6_readP_13 : decode cX6_readP 13 = .ok (.aload_n 0, 1) := by decide +kernel
theorem dX6_readP_14 : decode cX6_readP 14 = .ok (.getfield 9, 3) := by decide +kernel
theorem dX6_readP_17 : decode cX6_readP 17 = .ok (.getfield 45, 3) := by decide +kernel
theorem dX6_readP_20 : decode cX6_readP 20 = .ok (.bipush 50, 2) := by decide +kernel
theorem dX6_readP_22 : decode cX6_readP 22 = .ok (.if_icmp .lt 69, 3) := by decide +kernel
theorem dX6_readP_25 : decode cX6_readP 25 = .ok (.aload_n 0, 1) := by decide +kernel
theorem dX6_readP_26 : decode cX6_readP 26 = .ok (.getfield 9, 3) := by decide +kernel
theorem dX6_readP_29 : decode cX6_readP 29 = .ok (.getfield 45, 3) := by decide +kernel
theorem dX6_readP_32 : decode cX6_readP 32 = .ok (.bipush 53, 2) := by decide +kernel
theorem dX6_readP_34 : decode cX6_readP 34 = .ok (.if_icmp .gt 57, 3) := by decide +kernel
theorem dX6_readP_37 : decode cX6_readP 37 = .ok (.aload_n 0, 1) := by decide +kernel
theorem dX6_readP_38 : decode cX6_readP 38 = .ok (.invokevirtual 115, 3) := by decide +kernel
theorem dX6_readP_41 : decode cX6_readP 41 = .ok (.ifCond .ne 5, 3) := by decide +kernel
theorem dX6_readP_44 : decode cX6_readP 44 = .ok (.iconst 0, 1) := by decide +kernel
theorem dX6_readP_45 : decode cX6_readP 45 = .ok (.ireturn, 1) := by decide +kernel
theorem dX6_readP_46 : decode cX6_readP 46 = .ok (.aload_n 0, 1) := by decide +kernel
theorem dX6_readP_47 : decode cX6_readP 47 = .ok (.getfield 35, 3) := by decide +kernel
theorem dX6_readP_50 : decode cX6_readP 50 = .ok (.aload_n 0, 1) := by decide +kernel
theorem dX6_readP_51 : decode cX6_readP 51 = .ok (.getfield 99, 3) := by decide +kernel
theorem dX6_readP_54 : decode cX6_readP 54 = .ok (.bipush 7, 2) := by decide +kernel
theorem dX6_readP_56 : decode cX6_readP 56 = .ok (.aload_n 0, 1) := by decide +kernel
theorem dX6_readP_57 : decode cX6_readP 57 = .ok (.getfield 9, 3) := by decide +kernel
theorem dX6_readP_60 : decode cX6_readP 60 = .ok (.getfield 45, 3) := by decide +kernel
theorem dX6_readP_63 : decode cX6_readP 63 = .ok (.iadd, 1) := by decide +kernel
theorem dX6_readP_64 : decode cX6_readP 64 = .ok (.bipush 50, 2) := by decide +kernel
theorem dX6_readP_66 : decode cX6_readP 66 = .ok (.isub, 1) := by decide +kernel
theorem dX6_readP_67 : decode cX6_readP 67 = .ok (.iastore, 1) := by decide +kernel
theorem dX6_readP_68 : decode cX6_readP 68 = .ok (.aload_n 0, 1) := by decide +kernel
theorem dX6_readP_69 : decode cX6_readP 69 = .ok (.dup, 1) := by decide +kernel
theorem dX6_readP_70 : decode cX6_readP 70 = .ok (.getfield 99, 3) := by decide +kernel
theorem dX6_readP_73 : decode cX6_readP 73 = .ok (.iconst 1, 1) := by decide +kernel
theorem dX6_readP_74 : decode cX6_readP 74 = .ok (.iadd, 1) := by decide +kernel
theorem dX6_readP_75 : decode cX6_readP 75 = .ok (.putfield 99, 3) := by decide +kernel
theorem dX6_readP_78 : decode cX6_readP 78 = .ok (.aload_n 0, 1) := by decide +kernel
theorem dX6_readP_79 : decode cX6_readP 79 = .ok (.getfield 9, 3) := by decide +kernel
theorem dX6_readP_82 : decode cX6_readP 82 = .ok (.invokevirtual 69, 3) := by decide +kernel
theorem dX6_readP_85 : decode cX6_readP 85 = .ok (.iinc 2 1, 3) := by decide +kernel
theorem dX6_readP_88 : decode cX6_readP 88 = .ok (.goto (-81), 3) := by decide +kernel
theorem dX6_readP_91 : decode cX6_readP 91 = .ok (.aload_n 0, 1) := by decide +kernel
theorem dX6_readP_92 : decode cX6_readP 92 = .ok (.invokevirtual 150, 3) := by decide +kernel
theorem dX6_readP_95 : decode cX6_readP 95 = .ok (.ifCond .eq 10, 3) := by decide +kernel
theorem dX6_readP_98 : decode cX6_readP 98 = .ok (.aload_n 0, 1) := by decide +kernel
theorem dX6_readP_99 : decode cX6_readP 99 = .ok (.invokevirtual 153, 3) := by decide +kernel
theorem dX6_readP_102 : decode cX6_readP 102 = .ok (.ifCond .ne 5, 3) := by decide +kernel
theorem dX6_readP_105 : decode cX6_readP 105 = .ok (.iconst 0, 1) := by decide +kernel
theorem dX6_readP_106 : decode cX6_readP 106 = .ok (.ireturn, 1) := by decide +kernel
theorem dX6_readP_107 : decode cX6_readP 107 = .ok (.aload_n 0, 1) := by decide +kernel
theorem dX6_readP_108 : decode cX6_readP 108 = .ok (.getfield 99, 3) := by decide +kernel
theorem dX6_readP_111 : decode cX6_readP 111 = .ok (.iload_n 1, 1) := by decide +kernel
theorem dX6_readP_112 : decode cX6_readP 112 = .ok (.if_icmp .le 33, 3) := by decide +kernel
theorem dX6_readP_115 : decode cX6_readP 115 = .ok (.aload_n 0, 1) := by decide +kernel
theorem dX6_readP_116 : decode cX6_readP 116 = .ok (.dup, 1) := by decide +kernel
theorem dX6_readP_117 : decode cX6_readP 117 = .ok (.getfield 99, 3) := by decide +kernel
theorem dX6_readP_120 : decode cX6_readP 120 = .ok (.iconst 1, 1) := by decide +kernel
theorem dX6_readP_121 : decode cX6_readP 121 = .ok (.isub, 1) := by decide +kernel
theorem dX6_readP_122 : decode cX6_readP 122 = .ok (.putfield 99, 3) := by decide +kernel
theorem dX6_readP_125 : decode cX6_readP 125 = .ok (.aload_n 0, 1) := by decide +kernel
theorem dX6_readP_126 : decode cX6_readP 126 = .ok (.aload_n 0, 1) := by decide +kernel
theorem dX6_readP_127 : decode cX6_readP 127 = .ok (.getfield 35, 3) := by decide +kernel
theorem dX6_readP_130 : decode cX6_readP 130 = .ok (.aload_n 0, 1) := by decide +kernel
theorem dX6_readP_131 : decode cX6_readP 131 = .ok (.getfield 99, 3) := by decide +kernel
theorem dX6_readP_134 : decode cX6_readP 134 = .ok (.iaload, 1) := by decide +kernel
theorem dX6_readP_135 : decode cX6_readP 135 = .ok (.iconst 0, 1) := by decide +kernel
theorem dX6_readP_136 : decode cX6_readP 136 = .ok (.iconst 0, 1) := by decide +kernel
theorem dX6_readP_137 : decode cX6_readP 137 = .ok (.lconst 0, 1) := by decide +kernel
theorem dX6_readP_138 : decode cX6_readP 138 = .ok (.invokevirtual 58, 3) := by decide +kernel
theorem dX6_readP_141 : decode cX6_readP 141 = .ok (.pop, 1) := by decide +kernel
theorem dX6_readP_142 : decode cX6_readP 142 = .ok (.goto (-35), 3) := by decide +kernel
theorem dX6_readP_145 : decode cX6_readP 145 = .ok (.iconst 1, 1) := by decide +kernel
theorem dX6_readP_146 : decode cX6_readP 146 = .ok (.ireturn, 1) := by decide +kernel
theorem dX6_readProducts_0 : decode cX6_readProducts 0 = .ok (.aload_n 0, 1) := by decide +kernel
theorem dX6_readProducts_1 : decode cX6_readProducts 1 = .ok (.invokevirtual 147, 3) := by decide +kernel
theorem dX6_readProducts_4 : decode cX6_readProducts 4 = .ok (.ifCond .ne 5, 3) := by decide +kernel
theorem dX6_readProducts_7 : decode cX6_readProducts 7 = .ok (.iconst 0, 1) := by decide +kernel
theorem dX6_readProducts_8 : decode cX6_readProducts 8 = .ok (.ireturn, 1) := by decide +kernel
theorem dX6_readProducts_9 : decode cX6_readProducts 9 = .ok (.iconst 0, 1) := by decide +kernel
theorem dX6_readProducts_10 : decode cX6_readProducts 10 = .ok (.istore_n 1, 1) := by decide +kernel
theorem dX6_readProducts_11 : decode cX6_readProducts 11 = .ok (.iload_n 1, 1) := by decide +kernel
theorem dX6_readProducts_12 : decode cX6_readProducts 12 = .ok (.bipush 120, 2) := by decide +kernel
theorem dX6_readProducts_14 : decode cX6_readProducts 14 = .ok (.if_icmp .gt 81, 3) := by decide +kernel
theorem dX6_readProducts_17 : decode cX6_readProducts 17 = .ok (.aload_n 0, 1) := by decide +kernel
theorem dX6_readProducts_18 : decode cX6_readProducts 18 = .ok (.getfield 9, 3) := by decide +kernel
theorem dX6_readProducts_21 : decode cX6_readProducts 21 = .ok (.getfield 45, 3) := by decide +kernel
theorem dX6_readProducts_24 : decode cX6_readProducts 24 = .ok (.bipush 17, 2) := by decide +kernel
theorem dX6_readProducts_26 : decode cX6_readProducts 26 = .ok (.if_icmp .lt 69, 3) := by decide +kernel
theorem dX6_readProducts_29 : decode cX6_readProducts 29 = .ok (.aload_n 0, 1) := by decide +kernel
theorem dX6_readProducts_30 : decode cX6_readProducts 30 = .ok (.getfield 9, 3) := by decide +kernel
theorem dX6_readProducts_33 : decode cX6_readProducts 33 = .ok (.getfield 45, 3) := by decide +kernel
theorem dX6_readProducts_36 : decode cX6_readProducts 36 = .ok (.bipush 19, 2) := by decide +kernel
theorem dX6_readProducts_38 : decode cX6_readProducts 38 = .ok (.if_icmp .gt 57, 3) := by decide +kernel
