theorem dX12_copyNow_176 : decode cX12_copyNow 176 = .ok (.aload_n 0, 1) := by decide +kernel
theorem dX12_copyNow_177 : decode cX12_copyNow 177 = .ok (.getfield 237, 3) := by decide +kernel
theorem dX12_copyNow_180 : decode cX12_copyNow 180 = .ok (.sipush 512, 3) := by decide +kernel
theorem dX12_copyNow_183 : decode cX12_copyNow 183 = .ok (.iload_n 2, 1) := by decide +kernel
theorem dX12_copyNow_184 : decode cX12_copyNow 184 = .ok (.iadd, 1) := by decide +kernel
theorem dX12_copyNow_185 : decode cX12_copyNow 185 = .ok (.iaload, 1) := by decide +kernel
theorem dX12_copyNow_186 : decode cX12_copyNow 186 = .ok (.aload_n 0, 1) := by decide +kernel
theorem dX12_copyNow_187 : decode cX12_copyNow 187 = .ok (.getfield 240, 3) := by decide +kernel
theorem dX12_copyNow_190 : decode cX12_copyNow 190 = .ok (.sipush 512, 3) := by decide +kernel
theorem dX12_copyNow_193 : decode cX12_copyNow 193 = .ok (.iload_n 2, 1) := by decide +kernel
theorem dX12_copyNow_194 : decode cX12_copyNow 194 = .ok (.iadd, 1) := by decide +kernel
theorem dX12_copyNow_195 : decode cX12_copyNow 195 = .ok (.iaload, 1) := by decide +kernel
theorem dX12_copyNow_196 : decode cX12_copyNow 196 = .ok (.invokevirtual 548, 3) := by decide +kernel
theorem dX12_copyNow_199 : decode cX12_copyNow 199 = .ok (.iinc 2 1, 3) := by decide +kernel
theorem dX12_copyNow_202 : decode cX12_copyNow 202 = .ok (.goto (-38), 3) := by decide +kernel
theorem dX12_copyNow_205 : decode cX12_copyNow 205 = .ok (.aload_n 0, 1) := by decide +kernel
theorem dX12_copyNow_206 : decode cX12_copyNow 206 = .ok (.iload_n 1, 1) := by decide +kernel
theorem dX12_copyNow_207 : decode cX12_copyNow 207 = .ok (.invokevirtual 555, 3) := by decide +kernel
theorem dX12_copyNow_210 : decode cX12_copyNow 210 = .ok (.return_, 1) := by decide +kernel
theorem dX12_count_0 : decode cX12_count 0 = .ok (.iconst 0, 1) := by decide +kernel
theorem dX12_count_1 : decode cX12_count 1 = .ok (.istore_n 2, 1) := by decide +kernel
theorem dX12_count_2 : decode cX12_count 2 = .ok (.iconst 0, 1) := by decide +kernel
theorem dX12_count_3 : decode cX12_count 3 = .ok (.istore_n 3, 1) := by decide +kernel
theorem dX12_count_4 : decode cX12_count 4 = .ok (.iload_n 3, 1) := by decide +kernel
theorem dX12_count_5 : decode cX12_count 5 = .ok (.bipush 40, 2) := by decide +kernel
theorem dX12_count_7 : decode cX12_count 7 = .ok (.if_icmp .ge 96, 3) := by decide +kernel
theorem dX12_count_10 : decode cX12_count 10 = .ok (.aload_n 0, 1) := by decide +kernel
theorem dX12_count_11 : decode cX12_count 11 = .ok (.getfield 324, 3) := by decide +kernel
theorem dX12_count_14 : decode cX12_count 14 = .ok (.iload_n 1, 1) := by decide +kernel
theorem dX12_count_15 : decode cX12_count 15 = .ok (.iaload, 1) := by decide +kernel
theorem dX12_count_16 : decode cX12_count 16 = .ok (.iconst 1, 1) := by decide +kernel
theorem dX12_count_17 : decode cX12_count 17 = .ok (.if_icmp .ne 25, 3) := by decide +kernel
theorem dX12_count_20 : decode cX12_count 20 = .ok (.iload_n 2, 1) := by decide +kernel
theorem dX12_count_21 : decode cX12_count 21 = .ok (.aload_n 0, 1) := by decide +kernel
theorem dX12_count_22 : decode cX12_count 22 = .ok (.getfield 357, 3) := by decide +kernel
theorem dX12_count_25 : decode cX12_count 25 = .ok (.bipush 40, 2) := by decide +kernel
theorem dX12_count_27 : decode cX12_count 27 = .ok (.iload_n 1, 1) := by decide +kernel
theorem dX12_count_28 : decode cX12_count 28 = .ok (.imul, 1) := by decide +kernel
theorem dX12_count_29 : decode cX12_count 29 = .ok (.iload_n 3, 1) := by decide +kernel
theorem dX12_count_30 : decode cX12_count 30 = .ok (.iadd, 1) := by decide +kernel
theorem dX12_count_31 : decode cX12_count 31 = .ok (.baload, 1) := by decide +kernel
theorem dX12_count_32 : decode cX12_count 32 = .ok (.ifCond .eq 7, 3) := by decide +kernel
theorem dX12_count_35 : decode cX12_count 35 = .ok (.iconst 1, 1) := by decide +kernel
theorem dX12_count_36 : decode cX12_count 36 = .ok (.goto 4, 3) := by decide +kernel
theorem dX12_count_39 : decode cX12_count 39 = .ok (.iconst 0, 1) := by decide +kernel
theorem dX12_count_40 : decode cX12_count 40 = .ok (.iadd, 1) := by decide +kernel
theorem dX12_count_41 : decode cX12_count 41 = .ok (.istore_n 2, 1) := by decide +kernel
theorem dX12_count_42 : decode cX12_count 42 = .ok (.iconst 0, 1) := by decide +kernel
theorem dX12_count_43 : decode cX12_count 43 = .ok (.istore 4, 2) := by decide +kernel
theorem dX12_count_45 : decode cX12_count 45 = .ok (.iload 4, 2) := by decide +kernel
theorem dX12_count_47 : decode cX12_count 47 = .ok (.bipush 40, 2) := by decide +kernel
theorem dX12_count_49 : decode cX12_count 49 = .ok (.if_icmp .ge 48, 3) := by decide +kernel
theorem dX12_count_52 : decode cX12_count 52 = .ok (.aload_n 0, 1) := by decide +kernel
theorem dX12_count_53 : decode cX12_count 53 = .ok (.getfield 324, 3) := by decide +kernel
theorem dX12_count_56 : decode cX12_count 56 = .ok (.iload_n 1, 1) := by decide +kernel
theorem dX12_count_57 : decode cX12_count 57 = .ok (.iaload, 1) := by decide +kernel
theorem dX12_count_58 : decode cX12_count 58 = .ok (.iconst 2, 1) := by decide +kernel
theorem dX12_count_59 : decode cX12_count 59 = .ok (.if_icmp .ne 38, 3) := by decide +kernel
theorem dX12_count_62 : decode cX12_count 62 = .ok (.iload_n 2, 1) := by decide +kernel
theorem dX12_count_63 : decode cX12_count 63 = .ok (.aload_n 0, 1) := by decide +kernel
theorem dX12_count_64 : decode cX12_count 64 = .ok (.getfield 360, 3) := by decide +kernel
theorem dX12_count_67 : decode cX12_count 67 = .ok (.sipush 1600, 3) := by decide +kernel
theorem dX12_count_70 : decode cX12_count 70 = .ok (.iload_n 1, 1) := by decide +kernel
theorem dX12_count_71 : decode cX12_count 71 = .ok (.imul, 1) := by decide +kernel
theorem dX12_count_72 : decode cX12_count 72 = .ok (.bipush 40, 2) := by decide +kernel
theorem dX12_count_74 : decode cX12_count 74 = .ok (.iload_n 3, 1) := by decide +kernel
theorem dX12_count_75 : decode cX12_count 75 = .ok (.imul, 1) := by decide +kernel
theorem dX12_count_76 : decode cX12_count 76 = .ok (.iadd, 1) := by decide +kernel
theorem dX12_count_77 : decode cX12_count 77 = .ok (.iload 4, 2) := by decide +kernel
theorem dX12_count_79 : decode cX12_count 79 = .ok (.iadd, 1) := by decide +kernel
theorem dX12_count_80 : decode cX12_count 80 = .ok (.baload, 1) := by decide +kernel
theorem dX12_count_81 : decode cX12_count 81 = .ok (.ifCond .eq 7, 3) := by decide +kernel
theorem dX12_count_84 : decode cX12_count 84 = .ok (.iconst 1, 1) := by decide +kernel
theorem dX12_count_85 : decode cX12_count 85 = .ok (.goto 4, 3) := by decide +kernel
theorem dX12_count_88 : decode cX12_count 88 = .ok (.iconst 0, 1) := by decide +kernel
theorem dX12_count_89 : decode cX12_count 89 = .ok (.iadd, 1) := by decide +kernel
theorem dX12_count_90 : decode cX12_count 90 = .ok (.istore_n 2, 1) := by decide +kernel
theorem dX12_count_91 : decode cX12_count 91 = .ok (.iinc 4 1, 3) := by decide +kernel
theorem dX12_count_94 : decode cX12_count 94 = .ok (.goto (-49), 3) := by decide +kernel
theorem dX12_count_97 : decode cX12_count 97 = .ok (.iinc 3 1, 3) := by decide +kernel
theorem dX12_count_100 : decode cX12_count 100 = .ok (.goto (-96), 3) := by decide +kernel
theorem dX12_count_103 : decode cX12_count 103 = .ok (.iload_n 2, 1) := by decide +kernel
theorem dX12_count_104 : decode cX12_count 104 = .ok (.ireturn, 1) := by decide +kernel
theorem dX12_cut_0 : decode cX12_cut 0 = .ok (.aload_n 0, 1) := by decide +kernel
theorem dX12_cut_1 : decode cX12_cut 1 = .ok (.iconst 0, 1) := by decide +kernel
theorem dX12_cut_2 : decode cX12_cut 2 = .ok (.putfield 388, 3) := by decide +kernel
theorem dX12_cut_5 : decode cX12_cut 5 = .ok (.iload_n 1, 1) := by decide +kernel
theorem dX12_cut_6 : decode cX12_cut 6 = .ok (.ifCond .lt 11, 3) := by decide +kernel
theorem dX12_cut_9 : decode cX12_cut 9 = .ok (.iload_n 1, 1) := by decide +kernel
theorem dX12_cut_10 : decode cX12_cut 10 = .ok (.aload_n 0, 1) := by decide +kernel
theorem dX12_cut_11 : decode cX12_cut 11 = .ok (.getfield 391, 3) := by decide +kernel
theorem dX12_cut_14 : decode cX12_cut 14 = .ok (.if_icmp .le 5, 3) := by decide +kernel
theorem dX12_cut_17 : decode cX12_cut 17 = .ok (.iconst 0, 1) := by decide +kernel
theorem dX12_cut_18 : decode cX12_cut 18 = .ok (.ireturn, 1) := by decide +kernel
theorem dX12_cut_19 : decode cX12_cut 19 = .ok (.aload_n 0, 1) := by decide +kernel
theorem dX12_cut_20 : decode cX12_cut 20 = .ok (.iload_n 1, 1) := by decide +kernel
theorem dX12_cut_21 : decode cX12_cut 21 = .ok (.putfield 391, 3) := by decide +kernel
theorem dX12_cut_24 : decode cX12_cut 24 = .ok (.iconst 1, 1) := by decide +kernel
theorem dX12_cut_25 : decode cX12_cut 25 = .ok (.ireturn, 1) := by decide +kernel
theorem dX12_end_0 : decode cX12_end 0 = .ok (.aload_n 0, 1) := by decide +kernel
theorem dX12_end_1 : decode cX12_end 1 = .ok (.iconst 0, 1) := by decide +kernel
theorem dX12_end_2 : decode cX12_end 2 = .ok (.putfield 388, 3) := by decide +kernel
theorem dX12_end_5 : decode cX12_end 5 = .ok (.iload_n 1, 1) := by decide +kernel
theorem dX12_end_6 : decode cX12_end 6 = .ok (.ifCond .lt 21, 3) := by decide +kernel
theorem dX12_end_9 : decode cX12_end 9 = .ok (.iload_n 1, 1) := by decide +kernel
theorem dX12_end_10 : decode cX12_end 10 = .ok (.bipush 20, 2) := by decide +kernel
theorem dX12_end_12 : decode cX12_end 12 = .ok (.if_icmp .gt 15, 3) := by decide +kernel
theorem dX12_end_15 : decode cX12_end 15 = .ok (.aload_n 0, 1) := by decide +kernel
theorem dX12_end_16 : decode cX12_end 16 = .ok (.getfield 391, 3) := by decide +kernel
theorem dX12_end_19 : decode cX12_end 19 = .ok (.iload_n 1, 1) := by decide +kernel
theorem dX12_end_20 : decode cX12_end 20 = .ok (.iadd, 1) := by decide +kernel
theorem dX12_end_21 : decode cX12_end 21 = .ok (.sipush 4000, 3) := by decide +kernel
theorem dX12_end_24 : decode cX12_end 24 = .ok (.if_icmp .le 5, 3) := by decide +kernel
theorem dX12_end_27 : decode cX12_end 27 = .ok (.iconst (-1), 1) := by decide +kernel
theorem dX12_end_28 : decode cX12_end 28 = .ok (.ireturn, 1) := by decide +kernel
theorem dX12_end_29 : decode cX12_end 29 = .ok (.iconst 0, 1) := by decide +kernel
theorem dX12_end_30 : decode cX12_end 30 = .ok (.istore_n 2, 1) := by decide +kernel
theorem dX12_end_31 : decode cX12_end 31 = .ok (.iload_n 2, 1) := by decide +kernel
theorem dX12_end_32 : decode cX12_end 32 = .ok (.iload_n 1, 1) := by decide +kernel
theorem dX12_end_33 : decode cX12_end 33 = .ok (.if_icmp .ge 26, 3) := by decide +kernel
theorem dX12_end_36 : decode cX12_end 36 = .ok (.aload_n 0, 1) := by decide +kernel
theorem dX12_end_37 : decode cX12_end 37 = .ok (.getfield 7, 3) := by decide +kernel
theorem dX12_end_40 : decode cX12_end 40 = .ok (.aload_n 0, 1) := by decide +kernel
theorem dX12_end_41 : decode cX12_end 41 = .ok (.getfield 391, 3) := by decide +kernel
theorem dX12_end_44 : decode cX12_end 44 = .ok (.iload_n 2, 1) := by decide +kernel
theorem dX12_end_45 : decode cX12_end 45 = .ok (.iadd, 1) := by decide +kernel
theorem dX12_end_46 : decode cX12_end 46 = .ok (.aload_n 0, 1) := by decide +kernel
theorem dX12_end_47 : decode cX12_end 47 = .ok (.getfield 13, 3) := by decide +kernel
theorem dX12_end_50 : decode cX12_end 50 = .ok (.iload_n 2, 1) := by decide +kernel
theorem dX12_end_51 : decode cX12_end 51 = .ok (.baload, 1) := by decide +kernel
theorem dX12_end_52 : decode cX12_end 52 = .ok (.bastore, 1) := by decide +kernel
theorem dX12_end_53 : decode cX12_end 53 = .ok (.iinc 2 1, 3) := by decide +kernel
theorem dX12_end_56 : decode cX12_end 56 = .ok (.goto (-25), 3) := by decide +kernel
theorem dX12_end_59 : decode cX12_end 59 = .ok (.aload_n 0, 1) := by decide +kernel
theorem dX12_end_60 : decode cX12_end 60 = .ok (.dup, 1) := by decide +kernel
theorem dX12_end_61 : decode cX12_end 61 = .ok (.getfield 391, 3) := by decide +kernel
theorem dX12_end_64 : decode cX12_end 64 = .ok (.iload_n 1, 1) := by decide +kernel
theorem dX12_end_65 : decode cX12_end 65 = .ok (.iadd, 1) := by decide +kernel
theorem dX12_end_66 : decode cX12_end 66 = .ok (.putfield 391, 3) := by decide +kernel
theorem dX12_end_69 : decode cX12_end 69 = .ok (.iconst 0, 1) := by decide +kernel
theorem dX12_end_70 : decode cX12_end 70 = .ok (.istore_n 2, 1) := by decide +kernel
theorem dX12_end_71 : decode cX12_end 71 = .ok (.iload_n 2, 1) := by decide +kernel
theorem dX12_end_72 : decode cX12_end 72 = .ok (.bipush 20, 2) := by decide +kernel
theorem dX12_end_74 : decode cX12_end 74 = .ok (.if_icmp .ge 16, 3) := by decide +kernel
theorem dX12_end_77 : decode cX12_end 77 = .ok (.aload_n 0, 1) := by decide +kernel
theorem dX12_end_78 : decode cX12_end 78 = .ok (.getfield 13, 3) := by decide +kernel
theorem dX12_end_81 : decode cX12_end 81 = .ok (.iload_n 2, 1) := by decide +kernel
theorem dX12_end_82 : decode cX12_end 82 = .ok (.iconst 0, 1) := by decide +kernel
theorem dX12_end_83 : decode cX12_end 83 = .ok (.bastore, 1) := by decide +kernel
theorem dX12_end_84 : decode cX12_end 84 = .ok (.iinc 2 1, 3) := by decide +kernel
theorem dX12_end_87 : decode cX12_end 87 = .ok (.goto (-16), 3) := by decide +kernel
theorem dX12_end_90 : decode cX12_end 90 = .ok (.aload_n 0, 1) := by decide +kernel
theorem dX12_end_91 : decode cX12_end 91 = .ok (.getfield 391, 3) := by decide +kernel
theorem dX12_end_94 : decode cX12_end 94 = .ok (.ireturn, 1) := by decide +kernel
theorem dX12_endText_0 : decode cX12_endText 0 = .ok (.aload_n 0, 1) := by decide +kernel
theorem dX12_endText_1 : decode cX12_endText 1 = .ok (.getfield 625, 3) := by decide +kernel
theorem dX12_endText_4 : decode cX12_endText 4 = .ok (.ifCond .ne 14, 3) := by decide +kernel
theorem dX12_endText_7 : decode cX12_endText 7 = .ok (.aload_n 0, 1) := by decide +kernel
theorem dX12_endText_8 : decode cX12_endText 8 = .ok (.getfield 644, 3) := by decide +kernel
theorem dX12_endText_11 : decode cX12_endText 11 = .ok (.ifCond .eq 7, 3) := by decide +kernel
theorem dX12_endText_14 : decode cX12_endText 14 = .ok (.aload_n 0, 1) := by decide +kernel
theorem dX12_endText_15 : decode cX12_endText 15 = .ok (.invokevirtual 664, 3) := by decide +kernel
theorem dX12_endText_18 : decode cX12_endText 18 = .ok (.aload_n 0, 1) := by decide +kernel
theorem dX12_endText_19 : decode cX12_endText 19 = .ok (.aload_n 0, 1) := by decide +kernel
theorem dX12_endText_20 : decode cX12_endText 20 = .ok (.getfield 625, 3) := by decide +kernel
theorem dX12_endText_23 : decode cX12_endText 23 = .ok (.putfield 776, 3) := by decide +kernel
theorem dX12_endText_26 : decode cX12_endText 26 = .ok (.aload_n 0, 1) := by decide +kernel
theorem dX12_endText_27 : decode cX12_endText 27 = .ok (.aload_n 0, 1) := by decide +kernel
theorem dX12_endText_28 : decode cX12_endText 28 = .ok (.getfield 625, 3) := by decide +kernel
theorem dX12_endText_31 : decode cX12_endText 31 = .ok (.ifCond .le 10, 3) := by decide +kernel
theorem dX12_endText_34 : decode cX12_endText 34 = .ok (.aload_n 0, 1) := by decide +kernel
theorem dX12_endText_35 : decode cX12_endText 35 = .ok (.getfield 628, 3) := by decide +kernel
theorem dX12_endText_38 : decode cX12_endText 38 = .ok (.goto 4, 3) := by decide +kernel
theorem dX12_endText_41 : decode cX12_endText 41 = .ok (.iconst (-1), 1) := by decide +kernel
theorem dX12_endText_42 : decode cX12_endText 42 = .ok (.putfield 268, 3) := by decide +kernel
theorem dX12_endText_45 : decode cX12_endText 45 = .ok (.return_, 1) := by decide +kernel
theorem dX12_facts_0 : decode cX12_facts 0 = .ok (.aload_n 0, 1) := by decide +kernel
theorem dX12_facts_1 : decode cX12_facts 1 = .ok (.iconst 0, 1) := by decide +kernel
theorem dX12_facts_2 : decode cX12_facts 2 = .ok (.putfield 388, 3) := by decide +kernel
theorem dX12_facts_5 : decode cX12_facts 5 = .ok (.iload_n 1, 1) := by decide +kernel
theorem dX12_facts_6 : decode cX12_facts 6 = .ok (.ifCond .lt 19, 3) := by decide +kernel
theorem dX12_facts_9 : decode cX12_facts 9 = .ok (.iload_n 1, 1) := by decide +kernel
theorem dX12_facts_10 : decode cX12_facts 10 = .ok (.aload_n 0, 1) := by decide +kernel
theorem dX12_facts_11 : decode cX12_facts 11 = .ok (.getfield 905, 3) := by decide +kernel
theorem dX12_facts_14 : decode cX12_facts 14 = .ok (.if_icmp .ge 11, 3) := by decide +kernel
theorem dX12_facts_17 : decode cX12_facts 17 = .ok (.aload_n 0, 1) := by decide +kernel
theorem dX12_facts_18 : decode cX12_facts 18 = .ok (.iload_n 1, 1) := by decide +kernel
theorem dX12_facts_19 : decode cX12_facts 19 = .ok (.invokevirtual 948, 3) := by decide +kernel
theorem dX12_facts_22 : decode cX12_facts 22 = .ok (.goto 4, 3) := by decide +kernel
theorem dX12_facts_25 : decode cX12_facts 25 = .ok (.iconst (-1), 1) := by decide +kernel
theorem dX12_facts_26 : decode cX12_facts 26 = .ok (.ireturn, 1) := by decide +kernel
theorem dX12_fail_0 : decode cX12_fail 0 = .ok (.aload_n 0, 1) := by decide +kernel
theorem dX12_fail_1 : decode cX12_fail 1 = .ok (.getfield 625, 3) := by decide +kernel
theorem dX12_fail_4 : decode cX12_fail 4 = .ok (.ifCond .le 4, 3) := by decide +kernel
theorem dX12_fail_7 : decode cX12_fail 7 = .ok (.return_, 1) := by decide +kernel
theorem dX12_fail_8 : decode cX12_fail 8 = .ok (.aload_n 0, 1) := by decide +kernel
theorem dX12_fail_9 : decode cX12_fail 9 = .ok (.iload_n 1, 1) := by decide +kernel
theorem dX12_fail_10 : decode cX12_fail 10 = .ok (.putfield 625, 3) := by decide +kernel
theorem dX12_fail_13 : decode cX12_fail 13 = .ok (.aload_n 0, 1) := by decide +kernel
theorem dX12_fail_14 : decode cX12_fail 14 = .ok (.iload_n 2, 1) := by decide +kernel
theorem dX12_fail_15 : decode cX12_fail 15 = .ok (.putfield 628, 3) := by decide +kernel
theorem dX12_fail_18 : decode cX12_fail 18 = .ok (.return_, 1) := by decide +kernel
theorem dX12_fault_0 : decode cX12_fault 0 = .ok (.aload_n 0, 1) := by decide +kernel
theorem dX12_fault_1 : decode cX12_fault 1 = .ok (.iconst 0, 1) := by decide +kernel
theorem dX12_fault_2 : decode cX12_fault 2 = .ok (.putfield 388, 3) := by decide +kernel
theorem dX12_fault_5 : decode cX12_fault 5 = .ok (.iload_n 1, 1) := by decide +kernel
theorem dX12_fault_6 : decode cX12_fault 6 = .ok (.ifCond .ne 10, 3) := by decide +kernel
theorem dX12_fault_9 : decode cX12_fault 9 = .ok (.aload_n 0, 1) := by decide +kernel
theorem dX12_fault_10 : decode cX12_fault 10 = .ok (.getfield 776, 3) := by decide +kernel
theorem dX12_fault_13 : decode cX12_fault 13 = .ok (.goto 16, 3) := by decide +kernel
theorem dX12_fault_16 : decode cX12_fault 16 = .ok (.iload_n 1, 1) := by decide +kernel
theorem dX12_fault_17 : decode cX12_fault 17 = .ok (.iconst 1, 1) := by decide +kernel
theorem dX12_fault_18 : decode cX12_fault 18 = .ok (.if_icmp .ne 10, 3) := by decide +kernel
theorem dX12_fault_21 : decode cX12_fault 21 = .ok (.aload_n 0, 1) := by decide +kernel
theorem dX12_fault_22 : decode cX12_fault 22 = .ok (.getfield 268, 3) := by decide +kernel
theorem dX12_fault_25 : decode cX12_fault 25 = .ok (.goto 4, 3) := by decide +kernel
theorem dX12_fault_28 : decode cX12_fault 28 = .ok (.iconst (-1), 1) := by decide +kernel
theorem dX12_fault_29 : decode cX12_fault 29 = .ok (.ireturn, 1) := by decide +kernel
theorem dX12_feed_0 : decode cX12_feed 0 = .ok (.aload_n 0, 1) := by decide +kernel
theorem dX12_feed_1 : decode cX12_feed 1 = .ok (.iconst 0, 1) := by decide +kernel
theorem dX12_feed_2 : decode cX12_feed 2 = .ok (.putfield 388, 3) := by decide +kernel
theorem dX12_feed_5 : decode cX12_feed 5 = .ok (.iconst 0, 1) := by decide +kernel
theorem dX12_feed_6 : decode cX12_feed 6 = .ok (.istore 6, 2) := by decide +kernel
theorem dX12_feed_8 : decode cX12_feed 8 = .ok (.iload 6, 2) := by decide +kernel
theorem dX12_feed_10 : decode cX12_feed 10 = .ok (.iconst 4, 1) := by decide +kernel
theorem dX12_feed_11 : decode cX12_feed 11 = .ok (.if_icmp .ge 92, 3) := by decide +kernel
theorem dX12_feed_14 : decode cX12_feed 14 = .ok (.bipush 24, 2) := by decide +kernel
theorem dX12_feed_16 : decode cX12_feed 16 = .ok (.bipush 8, 2) := by decide +kernel
theorem dX12_feed_18 : decode cX12_feed 18 = .ok (.iload 6, 2) := by decide +kernel
theorem dX12_feed_20 : decode cX12_feed 20 = .ok (.imul, 1) := by decide +kernel
theorem dX12_feed_21 : decode cX12_feed 21 = .ok (.isub, 1) := by decide +kernel
theorem dX12_feed_22 : decode cX12_feed 22 = .ok (.istore 7, 2) := by decide +kernel
theorem dX12_feed_24 : decode cX12_feed 24 = .ok (.aload_n 0, 1) := by decide +kernel
theorem dX12_feed_25 : decode cX12_feed 25 = .ok (.getfield 13, 3) := by decide +kernel
theorem dX12_feed_28 : decode cX12_feed 28 = .ok (.iload 6, 2) := by decide +kernel
theorem dX12_feed_30 : decode cX12_feed 30 = .ok (.iload_n 1, 1) := by decide +kernel
theorem dX12_feed_31 : decode cX12_feed 31 = .ok (.iload 7, 2) := by decide +kernel
theorem dX12_feed_33 : decode cX12_feed 33 = .ok (.ishr, 1) := by decide +kernel
theorem dX12_feed_34 : decode cX12_feed 34 = .ok (.i2b, 1) := by decide +kernel
theorem dX12_feed_35 : decode cX12_feed 35 = .ok (.bastore, 1) := by decide +kernel
theorem dX12_feed_36 : decode cX12_feed 36 = .ok (.aload_n 0, 1) := by decide +kernel
theorem dX12_feed_37 : decode cX12_feed 37 = .ok (.getfield 13, 3) := by decide +kernel
theorem dX12_feed_40 : decode cX12_feed 40 = .ok (.iconst 4, 1) := by decide +kernel
theorem dX12_feed_41 : decode cX12_feed 41 = .ok (.iload 6, 2) := by decide +kernel
theorem dX12_feed_43 : decode cX12_feed 43 = .ok (.iadd, 1) := by decide +kernel
theorem dX12_feed_44 : decode cX12_feed 44 = .ok (.iload_n 2, 1) := by decide +kernel
theorem dX12_feed_45 : decode cX12_feed 45 = .ok (.iload 7, 2) := by decide +kernel
theorem dX12_feed_47 : decode cX12_feed 47 = .ok (.ishr, 1) := by decide +kernel
theorem dX12_feed_48 : decode cX12_feed 48 = .ok (.i2b, 1) := by decide +kernel
theorem dX12_feed_49 : decode cX12_feed 49 = .ok (.bastore, 1) := by decide +kernel
theorem dX12_feed_50 : decode cX12_feed 50 = .ok (.aload_n 0, 1) := by decide +kernel
theorem dX12_feed_51 : decode cX12_feed 51 = .ok (.getfield 13, 3) := by decide +kernel
theorem dX12_feed_54 : decode cX12_feed 54 = .ok (.bipush 8, 2) := by decide +kernel
theorem dX12_feed_56 : decode cX12_feed 56 = .ok (.iload 6, 2) := by decide +kernel
theorem dX12_feed_58 : decode cX12_feed 58 = .ok (.iadd, 1) := by decide +kernel
theorem dX12_feed_59 : decode cX12_feed 59 = .ok (.iload_n 3, 1) := by decide +kernel
theorem dX12_feed_60 : decode cX12_feed 60 = .ok (.iload 7, 2) := by decide +kernel
theorem dX12_feed_62 : decode cX12_feed 62 = .ok (.ishr, 1) := by decide +kernel
theorem dX12_feed_63 : decode cX12_feed 63 = .ok (.i2b, 1) := by decide +kernel
theorem dX12_feed_64 : decode cX12_feed 64 = .ok (.bastore, 1) := by decide +kernel
theorem dX12_feed_65 : decode cX12_feed 65 = .ok (.aload_n 0, 1) := by decide +kernel
theorem dX12_feed_66 : decode cX12_feed 66 = .ok (.getfield 13, 3) := by decide +kernel
theorem dX12_feed_69 : decode cX12_feed 69 = .ok (.bipush 12, 2) := by decide +kernel
theorem dX12_feed_71 : decode cX12_feed 71 = .ok (.iload 6, 2) := by decide +kernel
theorem dX12_feed_73 : decode cX12_feed 73 = .ok (.iadd, 1) := by decide +kernel
theorem dX12_feed_74 : decode cX12_feed 74 = .ok (.iload 4, 2) := by decide +kernel
theorem dX12_feed_76 : decode cX12_feed 76 = .ok (.iload 7, 2) := by decide +kernel
theorem dX12_feed_78 : decode cX12_feed 78 = .ok (.ishr, 1) := by decide +kernel
theorem dX12_feed_79 : decode cX12_feed 79 = .ok (.i2b, 1) := by decide +kernel
theorem dX12_feed_80 : decode cX12_feed 80 = .ok (.bastore, 1) := by decide +kernel
theorem dX12_feed_81 : decode cX12_feed 81 = .ok (.aload_n 0, 1) := by decide +kernel
theorem dX12_feed_82 : decode cX12_feed 82 = .ok (.getfield 13, 3) := by decide +kernel
theorem dX12_feed_85 : decode cX12_feed 85 = .ok (.bipush 16, 2) := by decide +kernel
theorem dX12_feed_87 : decode cX12_feed 87 = .ok (.iload 6, 2) := by decide +kernel
theorem dX12_feed_89 : decode cX12_feed 89 = .ok (.iadd, 1) := by decide +kernel
theorem dX12_feed_90 : decode cX12_feed 90 = .ok (.iload 5, 2) := by decide +kernel
theorem dX12_feed_92 : decode cX12_feed 92 = .ok (.iload 7, 2) := by decide +kernel
theorem dX12_feed_94 : decode cX12_feed 94 = .ok (.ishr, 1) := by decide +kernel
theorem dX12_feed_95 : decode cX12_feed 95 = .ok (.i2b, 1) := by decide +kernel
theorem dX12_feed_96 : decode cX12_feed 96 = .ok (.bastore, 1) := by decide +kernel
theorem dX12_feed_97 : decode cX12_feed 97 = .ok (.iinc 6 1, 3) := by decide +kernel
theorem dX12_feed_100 : decode cX12_feed 100 = .ok (.goto (-92), 3) := by decide +kernel
theorem dX12_feed_103 : decode cX12_feed 103 = .ok (.return_, 1) := by decide +kernel
theorem dX12_field_0 : decode cX12_field 0 = .ok (.aload_n 0, 1) := by decide +kernel
theorem dX12_field_1 : decode cX12_field 1 = .ok (.aload_n 0, 1) := by decide +kernel
theorem dX12_field_2 : decode cX12_field 2 = .ok (.iload_n 1, 1) := by decide +kernel
theorem dX12_field_3 : decode cX12_field 3 = .ok (.invokevirtual 416, 3) := by decide +kernel
theorem dX12_field_6 : decode cX12_field 6 = .ok (.ifCond .eq 7, 3) := by decide +kernel
theorem dX12_field_9 : decode cX12_field 9 = .ok (.iconst 0, 1) := by decide +kernel
theorem dX12_field_10 : decode cX12_field 10 = .ok (.goto 4, 3) := by decide +kernel
theorem dX12_field_13 : decode cX12_field 13 = .ok (.iconst 1, 1) := by decide +kernel
theorem dX12_field_14 : decode cX12_field 14 = .ok (.putfield 388, 3) := by decide +kernel
theorem dX12_field_17 : decode cX12_field 17 = .ok (.aload_n 0, 1) := by decide +kernel
theorem dX12_field_18 : decode cX12_field 18 = .ok (.getfield 388, 3) := by decide +kernel
theorem dX12_field_21 : decode cX12_field 21 = .ok (.ifCond .le 5, 3) := by decide +kernel
theorem dX12_field_24 : decode cX12_field 24 = .ok (.iconst 0, 1) := by decide +kernel
theorem dX12_field_25 : decode cX12_field 25 = .ok (.ireturn, 1) := by decide +kernel
theorem dX12_field_26 : decode cX12_field 26 = .ok (.aload_n 0, 1) := by decide +kernel
theorem dX12_field_27 : decode cX12_field 27 = .ok (.invokevirtual 419, 3) := by decide +kernel
theorem dX12_field_30 : decode cX12_field 30 = .ok (.lstore 5, 2) := by decide +kernel
theorem dX12_field_32 : decode cX12_field 32 = .ok (.aload_n 0, 1) := by decide +kernel
theorem dX12_field_33 : decode cX12_field 33 = .ok (.lload 5, 2) := by decide +kernel
theorem dX12_field_35 : decode cX12_field 35 = .ok (.lconst 0, 1) := by decide +kernel
theorem dX12_field_36 : decode cX12_field 36 = .ok (.lcmp, 1) := by decide +kernel
theorem dX12_field_37 : decode cX12_field 37 = .ok (.ifCond .eq 25, 3) := by decide +kernel
theorem dX12_field_40 : decode cX12_field 40 = .ok (.iload_n 2, 1) := by decide +kernel
theorem dX12_field_41 : decode cX12_field 41 = .ok (.ifCond .lt 21, 3) := by decide +kernel
theorem dX12_field_44 : decode cX12_field 44 = .ok (.iload_n 2, 1) := by decide +kernel
theorem dX12_field_45 : decode cX12_field 45 = .ok (.iconst 5, 1) := by decide +kernel
theorem dX12_field_46 : decode cX12_field 46 = .ok (.if_icmp .gt 16, 3) := by decide +kernel
theorem dX12_field_49 : decode cX12_field 49 = .ok (.iload_n 2, 1) := by decide +kernel
theorem dX12_field_50 : decode cX12_field 50 = .ok (.iconst 5, 1) := by decide +kernel
theorem dX12_field_51 : decode cX12_field 51 = .ok (.if_icmp .ne 15, 3) := by decide +kernel
theorem dX12_field_54 : decode cX12_field 54 = .ok (.aload_n 0, 1) := by decide +kernel
theorem dX12_field_55 : decode cX12_field 55 = .ok (.iload_n 3, 1) := by decide +kernel
theorem dX12_field_56 : decode cX12_field 56 = .ok (.invokevirtual 430, 3) := by decide +kernel
theorem dX12_field_59 : decode cX12_field 59 = .ok (.ifCond .ne 7, 3) := by decide +kernel
theorem dX12_field_62 : decode cX12_field 62 = .ok (.iconst 2, 1) := by decide +kernel
theorem dX12_field_63 : decode cX12_field 63 = .ok (.goto 4, 3) := by decide +kernel
theorem dX12_field_66 : decode cX12_field 66 = .ok (.iconst 0, 1) := by decide +kernel
theorem dX12_field_67 : decode cX12_field 67 = .ok (.putfield 388, 3) := by decide +kernel
theorem dX12_field_70 : decode cX12_field 70 = .ok (.aload_n 0, 1) := by decide +kernel
theorem dX12_field_71 : decode cX12_field 71 = .ok (.getfield 388, 3) := by decide +kernel
theorem dX12_field_74 : decode cX12_field 74 = .ok (.ifCond .le 5, 3) := by decide +kernel
theorem dX12_field_77 : decode cX12_field 77 = .ok (.iconst 0, 1) := by decide +kernel
theorem dX12_field_78 : decode cX12_field 78 = .ok (.ireturn, 1) := by decide +kernel
theorem dX12_field_79 : decode cX12_field 79 = .ok (.aload_n 0, 1) := by decide +kernel
theorem dX12_field_80 : decode cX12_field 80 = .ok (.getfield 115, 3) := by decide +kernel
theorem dX12_field_83 : decode cX12_field 83 = .ok (.iload_n 1, 1) := by decide +kernel
theorem dX12_field_84 : decode cX12_field 84 = .ok (.baload, 1) := by decide +kernel
theorem dX12_field_85 : decode cX12_field 85 = .ok (.ifCond .ne 14, 3) := by decide +kernel
theorem dX12_field_88 : decode cX12_field 88 = .ok (.aload_n 0, 1) := by decide +kernel
theorem dX12_field_89 : decode cX12_field 89 = .ok (.getfield 94, 3) := by decide +kernel
theorem dX12_field_92 : decode cX12_field 92 = .ok (.iload_n 1, 1) := by decide +kernel
theorem dX12_field_93 : decode cX12_field 93 = .ok (.iaload, 1) := by decide +kernel
theorem dX12_field_94 : decode cX12_field 94 = .ok (.bipush 6, 2) := by decide +kernel
theorem dX12_field_96 : decode cX12_field 96 = .ok (.if_icmp .ne 7, 3) := by decide +kernel
theorem dX12_field_99 : decode cX12_field 99 = .ok (.iconst 1, 1) := by decide +kernel
theorem dX12_field_100 : decode cX12_field 100 = .ok (.goto 4, 3) := by decide +kernel
theorem dX12_field_103 : decode cX12_field 103 = .ok (.iconst 0, 1) := by decide +kernel
theorem dX12_field_104 : decode cX12_field 104 = .ok (.istore 7, 2) := by decide +kernel
theorem dX12_field_106 : decode cX12_field 106 = .ok (.iconst 0, 1) := by decide +kernel
theorem dX12_field_107 : decode cX12_field 107 = .ok (.istore 8, 2) := by decide +kernel
theorem dX12_field_109 : decode cX12_field 109 = .ok (.iload 8, 2) := by decide +kernel
theorem dX12_field_111 : decode cX12_field 111 = .ok (.aload_n 0, 1) := by decide +kernel
theorem dX12_field_112 : decode cX12_field 112 = .ok (.getfield 94, 3) := by decide +kernel
theorem dX12_field_115 : decode cX12_field 115 = .ok (.iload_n 1, 1) := by decide +kernel
theorem dX12_field_116 : decode cX12_field 116 = .ok (.iaload, 1) := by decide +kernel
theorem dX12_field_117 : decode cX12_field 117 = .ok (.if_icmp .ge 39, 3) := by decide +kernel
theorem dX12_field_120 : decode cX12_field 120 = .ok (.iload 7, 2) := by decide +kernel
theorem dX12_field_122 : decode cX12_field 122 = .ok (.ifCond .ne 21, 3) := by decide +kernel
theorem dX12_field_125 : decode cX12_field 125 = .ok (.aload_n 0, 1) := by decide +kernel
theorem dX12_field_126 : decode cX12_field 126 = .ok (.getfield 81, 3) := by decide +kernel
theorem dX12_field_129 : decode cX12_field 129 = .ok (.bipush 6, 2) := by decide +kernel
theorem dX12_field_131 : decode cX12_field 131 = .ok (.iload_n 1, 1) := by decide +kernel
theorem dX12_field_132 : decode cX12_field 132 = .ok (.imul, 1) := by decide +kernel
theorem dX12_field_133 : decode cX12_field 133 = .ok (.iload 8, 2) := by decide +kernel
theorem dX12_field_135 : decode cX12_field 135 = .ok (.iadd, 1) := by decide +kernel
theorem dX12_field_136 : decode cX12_field 136 = .ok (.laload, 1) := by decide +kernel
theorem dX12_field_137 : decode cX12_field 137 = .ok (.lload 5, 2) := by decide +kernel
theorem dX12_field_139 : decode cX12_field 139 = .ok (.lcmp, 1) := by decide +kernel
theorem dX12_field_140 : decode cX12_field 140 = .ok (.ifCond .ne 7, 3) := by decide +kernel
theorem dX12_field_143 : decode cX12_field 143 = .ok (.iconst 1, 1) := by decide +kernel
theorem dX12_field_144 : decode cX12_field 144 = .ok (.goto 4, 3) := by decide +kernel
theorem dX12_field_147 : decode cX12_field 147 = .ok (.iconst 0, 1) := by decide +kernel
theorem dX12_field_148 : decode cX12_field 148 = .ok (.istore 7, 2) := by decide +kernel
theorem dX12_field_150 : decode cX12_field 150 = .ok (.iinc 8 1, 3) := by decide +kernel
theorem dX12_field_153 : decode cX12_field 153 = .ok (.goto (-44), 3) := by decide +kernel
theorem dX12_field_156 : decode cX12_field 156 = .ok (.aload_n 0, 1) := by decide +kernel
theorem dX12_field_157 : decode cX12_field 157 = .ok (.iload 7, 2) := by decide +kernel
theorem dX12_field_159 : decode cX12_field 159 = .ok (.ifCond .eq 7, 3) := by decide +kernel
theorem dX12_field_162 : decode cX12_field 162 = .ok (.iconst 3, 1) := by decide +kernel
theorem dX12_field_163 : decode cX12_field 163 = .ok (.goto 4, 3) := by decide +kernel
theorem dX12_field_166 : decode cX12_field 166 = .ok (.iconst 0, 1) := by decide +kernel
theorem dX12_field_167 : decode cX12_field 167 = .ok (.putfield 388, 3) := by decide +kernel
theorem dX12_field_170 : decode cX12_field 170 = .ok (.aload_n 0, 1) := by decide +kernel
theorem dX12_field_171 : decode cX12_field 171 = .ok (.getfield 388, 3) := by decide +kernel
theorem dX12_field_174 : decode cX12_field 174 = .ok (.ifCond .le 5, 3) := by decide +kernel
theorem dX12_field_177 : decode cX12_field 177 = .ok (.iconst 0, 1) := by decide +kernel
theorem dX12_field_178 : decode cX12_field 178 = .ok (.ireturn, 1) := by decide +kernel
theorem dX12_field_179 : decode cX12_field 179 = .ok (.bipush 6, 2) := by decide +kernel
theorem dX12_field_181 : decode cX12_field 181 = .ok (.iload_n 1, 1) := by decide +kernel
theorem dX12_field_182 : decode cX12_field 182 = .ok (.imul, 1) := by decide +kernel
theorem dX12_field_183 : decode cX12_field 183 = .ok (.aload_n 0, 1) := by decide +kernel
theorem dX12_field_184 : decode cX12_field 184 = .ok (.getfield 94, 3) := by decide +kernel
theorem dX12_field_187 : decode cX12_field 187 = .ok (.iload_n 1, 1) := by decide +kernel
theorem dX12_field_188 : decode cX12_field 188 = .ok (.iaload, 1) := by decide +kernel
theorem dX12_field_189 : decode cX12_field 189 = .ok (.iadd, 1) := by decide +kernel
theorem dX12_field_190 : decode cX12_field 190 = .ok (.istore 8, 2) := by decide +kernel
theorem dX12_field_192 : decode cX12_field 192 = .ok (.aload_n 0, 1) := by decide +kernel
theorem dX12_field_193 : decode cX12_field 193 = .ok (.getfield 94, 3) := by decide +kernel
theorem dX12_field_196 : decode cX12_field 196 = .ok (.iload_n 1, 1) := by decide +kernel
theorem dX12_field_197 : decode cX12_field 197 = .ok (.dup2, 1) := by decide +kernel
theorem dX12_field_198 : decode cX12_field 198 = .ok (.iaload, 1) := by decide +kernel
theorem dX12_field_199 : decode cX12_field 199 = .ok (.iconst 1, 1) := by decide +kernel
theorem dX12_field_200 : decode cX12_field 200 = .ok (.iadd, 1) := by decide +kernel
theorem dX12_field_201 : decode cX12_field 201 = .ok (.iastore, 1) := by decide +kernel
theorem dX12_field_202 : decode cX12_field 202 = .ok (.aload_n 0, 1) := by decide +kernel
theorem dX12_field_203 : decode cX12_field 203 = .ok (.getfield 81, 3) := by decide +kernel
theorem dX12_field_206 : decode cX12_field 206 = .ok (.iload 8, 2) := by decide +kernel
theorem dX12_field_208 : decode cX12_field 208 = .ok (.lload 5, 2) := by decide +kernel
theorem dX12_field_210 : decode cX12_field 210 = .ok (.lastore, 1) := by decide +kernel
theorem dX12_field_211 : decode cX12_field 211 = .ok (.aload_n 0, 1) := by decide +kernel
theorem dX12_field_212 : decode cX12_field 212 = .ok (.getfield 103, 3) := by decide +kernel
theorem dX12_field_215 : decode cX12_field 215 = .ok (.iload 8, 2) := by decide +kernel
theorem dX12_field_217 : decode cX12_field 217 = .ok (.iload_n 2, 1) := by decide +kernel
theorem dX12_field_218 : decode cX12_field 218 = .ok (.iastore, 1) := by decide +kernel
theorem dX12_field_219 : decode cX12_field 219 = .ok (.aload_n 0, 1) := by decide +kernel
theorem dX12_field_220 : decode cX12_field 220 = .ok (.getfield 106, 3) := by decide +kernel
theorem dX12_field_223 : decode cX12_field 223 = .ok (.iload 8, 2) := by decide +kernel
theorem dX12_field_225 : decode cX12_field 225 = .ok (.iload_n 2, 1) := by decide +kernel
theorem dX12_field_226 : decode cX12_field 226 = .ok (.iconst 5, 1) := by decide +kernel
theorem dX12_field_227 : decode cX12_field 227 = .ok (.if_icmp .ne 7, 3) := by decide +kernel
theorem dX12_field_230 : decode cX12_field 230 = .ok (.iload_n 3, 1) := by decide +kernel
theorem dX12_field_231 : decode cX12_field 231 = .ok (.goto 4, 3) := by decide +kernel
theorem dX12_field_234 : decode cX12_field 234 = .ok (.iconst (-1), 1) := by decide +kernel
theorem dX12_field_235 : decode cX12_field 235 = .ok (.iastore, 1) := by decide +kernel
theorem dX12_field_236 : decode cX12_field 236 = .ok (.aload_n 0, 1) := by decide +kernel
theorem dX12_field_237 : decode cX12_field 237 = .ok (.getfield 119, 3) := by decide +kernel
theorem dX12_field_240 : decode cX12_field 240 = .ok (.iload 8, 2) := by decide +kernel
theorem dX12_field_242 : decode cX12_field 242 = .ok (.iload 4, 2) := by decide +kernel
theorem dX12_field_244 : decode cX12_field 244 = .ok (.bastore, 1) := by decide +kernel
theorem dX12_field_245 : decode cX12_field 245 = .ok (.aload_n 0, 1) := by decide +kernel
theorem dX12_field_246 : decode cX12_field 246 = .ok (.getfield 84, 3) := by decide +kernel
theorem dX12_field_249 : decode cX12_field 249 = .ok (.iload 8, 2) := by decide +kernel
theorem dX12_field_251 : decode cX12_field 251 = .ok (.iload_n 2, 1) := by decide +kernel
theorem dX12_field_252 : decode cX12_field 252 = .ok (.iconst 5, 1) := by decide +kernel
theorem dX12_field_253 : decode cX12_field 253 = .ok (.if_icmp .ne 9, 3) := by decide +kernel
theorem dX12_field_256 : decode cX12_field 256 = .ok (.ldc2_w 433, 3) := by decide +kernel
theorem dX12_field_259 : decode cX12_field 259 = .ok (.goto 4, 3) := by decide +kernel
theorem dX12_field_262 : decode cX12_field 262 = .ok (.lconst 0, 1) := by decide +kernel
theorem dX12_field_263 : decode cX12_field 263 = .ok (.lastore, 1) := by decide +kernel
theorem dX12_field_264 : decode cX12_field 264 = .ok (.aload_n 0, 1) := by decide +kernel
theorem dX12_field_265 : decode cX12_field 265 = .ok (.iload_n 1, 1) := by decide +kernel
theorem dX12_field_266 : decode cX12_field 266 = .ok (.invokevirtual 423, 3) := by decide +kernel
theorem dX12_field_269 : decode cX12_field 269 = .ok (.aload_n 0, 1) := by decide +kernel
theorem dX12_field_270 : decode cX12_field 270 = .ok (.iconst 0, 1) := by decide +kernel
theorem dX12_field_271 : decode cX12_field 271 = .ok (.putfield 391, 3) := by decide +kernel
theorem dX12_field_274 : decode cX12_field 274 = .ok (.aload_n 0, 1) := by decide +kernel
theorem dX12_field_275 : decode cX12_field 275 = .ok (.getfield 94, 3) := by decide +kernel
theorem dX12_field_278 : decode cX12_field 278 = .ok (.iload_n 1, 1) := by decide +kernel
theorem dX12_field_279 : decode cX12_field 279 = .ok (.iaload, 1) := by decide +kernel
theorem dX12_field_280 : decode cX12_field 280 = .ok (.iconst 1, 1) := by decide +kernel
theorem dX12_field_281 : decode cX12_field 281 = .ok (.isub, 1) := by decide +kernel
theorem dX12_field_282 : decode cX12_field 282 = .ok (.ireturn, 1) := by decide +kernel
theorem dX12_fieldLook_0 : decode cX12_fieldLook 0 = .ok (.aload_n 0, 1) := by decide +kernel
theorem dX12_fieldLook_1 : decode cX12_fieldLook 1 = .ok (.iconst 0, 1) := by decide +kernel
theorem dX12_fieldLook_2 : decode cX12_fieldLook 2 = .ok (.putfield 388, 3) := by decide +kernel
theorem dX12_fieldLook_5 : decode cX12_fieldLook 5 = .ok (.aload_n 0, 1) := by decide +kernel
theorem dX12_fieldLook_6 : decode cX12_fieldLook 6 = .ok (.iload_n 1, 1) := by decide +kernel
theorem dX12_fieldLook_7 : decode cX12_fieldLook 7 = .ok (.invokevirtual 416, 3) := by decide +kernel
theorem dX12_fieldLook_10 : decode cX12_fieldLook 10 = .ok (.ifCond .eq 17, 3) := by decide +kernel
theorem dX12_fieldLook_13 : decode cX12_fieldLook 13 = .ok (.iload_n 2, 1) := by decide +kernel
theorem dX12_fieldLook_14 : decode cX12_fieldLook 14 = .ok (.ifCond .lt 13, 3) := by decide +kernel
theorem dX12_fieldLook_17 : decode cX12_fieldLook 17 = .ok (.iload_n 2, 1) := by decide +kernel
theorem dX12_fieldLook_18 : decode cX12_fieldLook 18 = .ok (.aload_n 0, 1) := by decide +kernel
theorem dX12_fieldLook_19 : decode cX12_fieldLook 19 = .ok (.getfield 94, 3) := by decide +kernel
theorem dX12_fieldLook_22 : decode cX12_fieldLook 22 = .ok (.iload_n 1, 1) := by decide +kernel
theorem dX12_fieldLook_23 : decode cX12_fieldLook 23 = .ok (.iaload, 1) := by decide +kernel
theorem dX12_fieldLook_24 : decode cX12_fieldLook 24 = .ok (.if_icmp .lt 5, 3) := by decide +kernel
theorem dX12_fieldLook_27 : decode cX12_fieldLook 27 = .ok (.iconst (-1), 1) := by decide +kernel
theorem dX12_fieldLook_28 : decode cX12_fieldLook 28 = .ok (.ireturn, 1) := by decide +kernel
theorem dX12_fieldLook_29 : decode cX12_fieldLook 29 = .ok (.bipush 6, 2) := by decide +kernel
theorem dX12_fieldLook_31 : decode cX12_fieldLook 31 = .ok (.iload_n 1, 1) := by decide +kernel
theorem dX12_fieldLook_32 : decode cX12_fieldLook 32 = .ok (.imul, 1) := by decide +kernel
theorem dX12_fieldLook_33 : decode cX12_fieldLook 33 = .ok (.iload_n 2, 1) := by decide +kernel
theorem dX12_fieldLook_34 : decode cX12_fieldLook 34 = .ok (.iadd, 1) := by decide +kernel
theorem dX12_fieldLook_35 : decode cX12_fieldLook 35 = .ok (.istore 4, 2) := by decide +kernel
theorem dX12_fieldLook_37 : decode cX12_fieldLook 37 = .ok (.iload_n 3, 1) := by decide +kernel
theorem dX12_fieldLook_38 : decode cX12_fieldLook 38 = .ok (.tableswitch 96 0 4 #[34, 42, 50, 66, 74], 34) := by decide +kernel
theorem dX12_fieldLook_72 : decode cX12_fieldLook 72 = .ok (.aload_n 0, 1) := by decide +kernel
theorem dX12_fieldLook_73 : decode cX12_fieldLook 73 = .ok (.getfield 103, 3) := by decide +kernel
theorem dX12_fieldLook_76 : decode cX12_fieldLook 76 = .ok (.iload 4, 2) := by decide +kernel
theorem dX12_fieldLook_78 : decode cX12_fieldLook 78 = .ok (.iaload, 1) := by decide +kernel
theorem dX12_fieldLook_79 : decode cX12_fieldLook 79 = .ok (.ireturn, 1) := by decide +kernel
theorem dX12_fieldLook_80 : decode cX12_fieldLook 80 = .ok (.aload_n 0, 1) := by decide +kernel
theorem dX12_fieldLook_81 : decode cX12_fieldLook 81 = .ok (.getfield 106, 3) := by decide +kernel
theorem dX12_fieldLook_84 : decode cX12_fieldLook 84 = .ok (.iload 4, 2) := by decide +kernel
theorem dX12_fieldLook_86 : decode cX12_fieldLook 86 = .ok (.iaload, 1) := by decide +kernel
theorem dX12_fieldLook_87 : decode cX12_fieldLook 87 = .ok (.ireturn, 1) := by decide +kernel
theorem dX12_fieldLook_88 : decode cX12_fieldLook 88 = .ok (.aload_n 0, 1) := by decide +kernel
theorem dX12_fieldLook_89 : decode cX12_fieldLook 89 = .ok (.getfield 119, 3) := by decide +kernel
theorem dX12_fieldLook_92 : decode cX12_fieldLook 92 = .ok (.iload 4, 2) := by decide +kernel
theorem dX12_fieldLook_94 : decode cX12_fieldLook 94 = .ok (.baload, 1) := by decide +kernel
theorem dX12_fieldLook_95 : decode cX12_fieldLook 95 = .ok (.ifCond .eq 7, 3) := by decide +kernel
theorem dX12_fieldLook_98 : decode cX12_fieldLook 98 = .ok (.iconst 1, 1) := by decide +kernel
theorem dX12_fieldLook_99 : decode cX12_fieldLook 99 = .ok (.goto 4, 3) := by decide +kernel
theorem dX12_fieldLook_102 : decode cX12_fieldLook 102 = .ok (.iconst 0, 1) := by decide +kernel
theorem dX12_fieldLook_103 : decode cX12_fieldLook 103 = .ok (.ireturn, 1) := by decide +kernel
theorem dX12_fieldLook_104 : decode cX12_fieldLook 104 = .ok (.aload_n 0, 1) := by decide +kernel
theorem dX12_fieldLook_105 : decode cX12_fieldLook 105 = .ok (.getfield 109, 3) := by decide +kernel
theorem dX12_fieldLook_108 : decode cX12_fieldLook 108 = .ok (.iload 4, 2) := by decide +kernel
theorem dX12_fieldLook_110 : decode cX12_fieldLook 110 = .ok (.iaload, 1) := by decide +kernel
theorem dX12_fieldLook_111 : decode cX12_fieldLook 111 = .ok (.ireturn, 1) := by decide +kernel
theorem dX12_fieldLook_112 : decode cX12_fieldLook 112 = .ok (.aload_n 0, 1) := by decide +kernel
theorem dX12_fieldLook_113 : decode cX12_fieldLook 113 = .ok (.getfield 119, 3) := by decide +kernel
theorem dX12_fieldLook_116 : decode cX12_fieldLook 116 = .ok (.iload 4, 2) := by decide +kernel
theorem dX12_fieldLook_118 : decode cX12_fieldLook 118 = .ok (.baload, 1) := by decide +kernel
theorem dX12_fieldLook_119 : decode cX12_fieldLook 119 = .ok (.ifCond .eq 7, 3) := by decide +kernel
theorem dX12_fieldLook_122 : decode cX12_fieldLook 122 = .ok (.iconst (-1), 1) := by decide +kernel
theorem dX12_fieldLook_123 : decode cX12_fieldLook 123 = .ok (.goto 10, 3) := by decide +kernel
theorem dX12_fieldLook_126 : decode cX12_fieldLook 126 = .ok (.aload_n 0, 1) := by decide +kernel
theorem dX12_fieldLook_127 : decode cX12_fieldLook 127 = .ok (.getfield 112, 3) := by decide +kernel
theorem dX12_fieldLook_130 : decode cX12_fieldLook 130 = .ok (.iload 4, 2) := by decide +kernel
theorem dX12_fieldLook_132 : decode cX12_fieldLook 132 = .ok (.iaload, 1) := by decide +kernel
theorem dX12_fieldLook_133 : decode cX12_fieldLook 133 = .ok (.ireturn, 1) := by decide +kernel
theorem dX12_fieldLook_134 : decode cX12_fieldLook 134 = .ok (.iconst (-1), 1) := by decide +kernel
theorem dX12_fieldLook_135 : decode cX12_fieldLook 135 = .ok (.ireturn, 1) := by decide +kernel
theorem dX12_fieldOf_0 : decode cX12_fieldOf 0 = .ok (.iload_n 1, 1) := by decide +kernel
theorem dX12_fieldOf_1 : decode cX12_fieldOf 1 = .ok (.istore_n 3, 1) := by decide +kernel
theorem dX12_fieldOf_2 : decode cX12_fieldOf 2 = .ok (.aload_n 0, 1) := by decide +kernel
theorem dX12_fieldOf_3 : decode cX12_fieldOf 3 = .ok (.getfield 91, 3) := by decide +kernel
theorem dX12_fieldOf_6 : decode cX12_fieldOf 6 = .ok (.iload_n 3, 1) := by decide +kernel
theorem dX12_fieldOf_7 : decode cX12_fieldOf 7 = .ok (.iaload, 1) := by decide +kernel
theorem dX12_fieldOf_8 : decode cX12_fieldOf 8 = .ok (.iconst (-1), 1) := by decide +kernel
theorem dX12_fieldOf_9 : decode cX12_fieldOf 9 = .ok (.if_icmp .eq 28, 3) := by decide +kernel
theorem dX12_fieldOf_12 : decode cX12_fieldOf 12 = .ok (.iload_n 2, 1) := by decide +kernel
theorem dX12_fieldOf_13 : decode cX12_fieldOf 13 = .ok (.aload_n 0, 1) := by decide +kernel
theorem dX12_fieldOf_14 : decode cX12_fieldOf 14 = .ok (.getfield 97, 3) := by decide +kernel
theorem dX12_fieldOf_17 : decode cX12_fieldOf 17 = .ok (.aload_n 0, 1) := by decide +kernel
theorem dX12_fieldOf_18 : decode cX12_fieldOf 18 = .ok (.getfield 91, 3) := by decide +kernel
theorem dX12_fieldOf_21 : decode cX12_fieldOf 21 = .ok (.iload_n 3, 1) := by decide +kernel
theorem dX12_fieldOf_22 : decode cX12_fieldOf 22 = .ok (.iaload, 1) := by decide +kernel
theorem dX12_fieldOf_23 : decode cX12_fieldOf 23 = .ok (.iaload, 1) := by decide +kernel
theorem dX12_fieldOf_24 : decode cX12_fieldOf 24 = .ok (.if_icmp .ge 13, 3) := by decide +kernel
theorem dX12_fieldOf_27 : decode cX12_fieldOf 27 = .ok (.aload_n 0, 1) := by decide +kernel
theorem dX12_fieldOf_28 : decode cX12_fieldOf 28 = .ok (.getfield 91, 3) := by decide +kernel
theorem dX12_fieldOf_31 : decode cX12_fieldOf 31 = .ok (.iload_n 3, 1) := by decide +kernel
theorem dX12_fieldOf_32 : decode cX12_fieldOf 32 = .ok (.iaload, 1) := by decide +kernel
theorem dX12_fieldOf_33 : decode cX12_fieldOf 33 = .ok (.istore_n 3, 1) := by decide +kernel
theorem dX12_fieldOf_34 : decode cX12_fieldOf 34 = .ok (.goto (-32), 3) := by decide +kernel
theorem dX12_fieldOf_37 : decode cX12_fieldOf 37 = .ok (.iconst (-1), 1) := by decide +kernel
theorem dX12_fieldOf_38 : decode cX12_fieldOf 38 = .ok (.istore 4, 2) := by decide +kernel
theorem dX12_fieldOf_40 : decode cX12_fieldOf 40 = .ok (.iconst 0, 1) := by decide +kernel
theorem dX12_fieldOf_41 : decode cX12_fieldOf 41 = .ok (.istore 5, 2) := by decide +kernel
theorem dX12_fieldOf_43 : decode cX12_fieldOf 43 = .ok (.iload 5, 2) := by decide +kernel
theorem dX12_fieldOf_45 : decode cX12_fieldOf 45 = .ok (.aload_n 0, 1) := by decide +kernel
theorem dX12_fieldOf_46 : decode cX12_fieldOf 46 = .ok (.getfield 94, 3) := by decide +kernel
theorem dX12_fieldOf_49 : decode cX12_fieldOf 49 = .ok (.iload_n 3, 1) := by decide +kernel
theorem dX12_fieldOf_50 : decode cX12_fieldOf 50 = .ok (.iaload, 1) := by decide +kernel
theorem dX12_fieldOf_51 : decode cX12_fieldOf 51 = .ok (.if_icmp .ge 54, 3) := by decide +kernel
theorem dX12_fieldOf_54 : decode cX12_fieldOf 54 = .ok (.aload_n 0, 1) := by decide +kernel
theorem dX12_fieldOf_55 : decode cX12_fieldOf 55 = .ok (.getfield 119, 3) := by decide +kernel
theorem dX12_fieldOf_58 : decode cX12_fieldOf 58 = .ok (.bipush 6, 2) := by decide +kernel
theorem dX12_fieldOf_60 : decode cX12_fieldOf 60 = .ok (.iload_n 3, 1) := by decide +kernel
theorem dX12_fieldOf_61 : decode cX12_fieldOf 61 = .ok (.imul, 1) := by decide +kernel
theorem dX12_fieldOf_62 : decode cX12_fieldOf 62 = .ok (.iload 5, 2) := by decide +kernel
theorem dX12_fieldOf_64 : decode cX12_fieldOf 64 = .ok (.iadd, 1) := by decide +kernel
theorem dX12_fieldOf_65 : decode cX12_fieldOf 65 = .ok (.baload, 1) := by decide +kernel
theorem dX12_fieldOf_66 : decode cX12_fieldOf 66 = .ok (.ifCond .ne 29, 3) := by decide +kernel
theorem dX12_fieldOf_69 : decode cX12_fieldOf 69 = .ok (.aload_n 0, 1) := by decide +kernel
theorem dX12_fieldOf_70 : decode cX12_fieldOf 70 = .ok (.getfield 109, 3) := by decide +kernel
theorem dX12_fieldOf_73 : decode cX12_fieldOf 73 = .ok (.bipush 6, 2) := by decide +kernel
theorem dX12_fieldOf_75 : decode cX12_fieldOf 75 = .ok (.iload_n 3, 1) := by decide +kernel
theorem dX12_fieldOf_76 : decode cX12_fieldOf 76 = .ok (.imul, 1) := by decide +kernel
theorem dX12_fieldOf_77 : decode cX12_fieldOf 77 = .ok (.iload 5, 2) := by decide +kernel
theorem dX12_fieldOf_79 : decode cX12_fieldOf 79 = .ok (.iadd, 1) := by decide +kernel
theorem dX12_fieldOf_80 : decode cX12_fieldOf 80 = .ok (.iaload, 1) := by decide +kernel
theorem dX12_fieldOf_81 : decode cX12_fieldOf 81 = .ok (.iload_n 2, 1) := by decide +kernel
theorem dX12_fieldOf_82 : decode cX12_fieldOf 82 = .ok (.if_icmp .ne 13, 3) := by decide +kernel
theorem dX12_fieldOf_85 : decode cX12_fieldOf 85 = .ok (.bipush 6, 2) := by decide +kernel
theorem dX12_fieldOf_87 : decode cX12_fieldOf 87 = .ok (.iload_n 3, 1) := by decide +kernel
theorem dX12_fieldOf_88 : decode cX12_fieldOf 88 = .ok (.imul, 1) := by decide +kernel
theorem dX12_fieldOf_89 : decode cX12_fieldOf 89 = .ok (.iload 5, 2) := by decide +kernel
theorem dX12_fieldOf_91 : decode cX12_fieldOf 91 = .ok (.iadd, 1) := by decide +kernel
theorem dX12_fieldOf_92 : decode cX12_fieldOf 92 = .ok (.goto 5, 3) := by decide +kernel
theorem dX12_fieldOf_95 : decode cX12_fieldOf 95 = .ok (.iload 4, 2) := by decide +kernel
theorem dX12_fieldOf_97 : decode cX12_fieldOf 97 = .ok (.istore 4, 2) := by decide +kernel
theorem dX12_fieldOf_99 : decode cX12_fieldOf 99 = .ok (.iinc 5 1, 3) := by decide +kernel
theorem dX12_fieldOf_102 : decode cX12_fieldOf 102 = .ok (.goto (-59), 3) := by decide +kernel
theorem dX12_fieldOf_105 : decode cX12_fieldOf 105 = .ok (.iload 4, 2) := by decide +kernel
theorem dX12_fieldOf_107 : decode cX12_fieldOf 107 = .ok (.ireturn, 1) := by decide +kernel
theorem dX12_findDominators_0 : decode cX12_findDominators 0 = .ok (.iconst 0, 1) := by decide +kernel
theorem dX12_findDominators_1 : decode cX12_findDominators 1 = .ok (.istore_n 2, 1) := by decide +kernel
theorem dX12_findDominators_2 : decode cX12_findDominators 2 = .ok (.iload_n 2, 1) := by decide +kernel
theorem dX12_findDominators_3 : decode cX12_findDominators 3 = .ok (.aload_n 0, 1) := by decide +kernel
theorem dX12_findDominators_4 : decode cX12_findDominators 4 = .ok (.getfield 183, 3) := by decide +kernel
theorem dX12_findDominators_7 : decode cX12_findDominators 7 = .ok (.iload_n 1, 1) := by decide +kernel
theorem dX12_findDominators_8 : decode cX12_findDominators 8 = .ok (.iaload, 1) := by decide +kernel
theorem dX12_findDominators_9 : decode cX12_findDominators 9 = .ok (.if_icmp .ge 21, 3) := by decide +kernel
theorem dX12_findDominators_12 : decode cX12_findDominators 12 = .ok (.aload_n 0, 1) := by decide +kernel
theorem dX12_findDominators_13 : decode cX12_findDominators 13 = .ok (.getfield 207, 3) := by decide +kernel
theorem dX12_findDominators_16 : decode cX12_findDominators 16 = .ok (.aload_n 0, 1) := by decide +kernel
theorem dX12_findDominators_17 : decode cX12_findDominators 17 = .ok (.iload_n 1, 1) := by decide +kernel
theorem dX12_findDominators_18 : decode cX12_findDominators 18 = .ok (.iload_n 2, 1) := by decide +kernel
theorem dX12_findDominators_19 : decode cX12_findDominators 19 = .ok (.invokevirtual 545, 3) := by decide +kernel
theorem dX12_findDominators_22 : decode cX12_findDominators 22 = .ok (.iconst (-1), 1) := by decide +kernel
theorem dX12_findDominators_23 : decode cX12_findDominators 23 = .ok (.iastore, 1) := by decide +kernel
theorem dX12_findDominators_24 : decode cX12_findDominators 24 = .ok (.iinc 2 1, 3) := by decide +kernel
theorem dX12_findDominators_27 : decode cX12_findDominators 27 = .ok (.goto (-25), 3) := by decide +kernel
theorem dX12_findDominators_30 : decode cX12_findDominators 30 = .ok (.iconst 0, 1) := by decide +kernel
theorem dX12_findDominators_31 : decode cX12_findDominators 31 = .ok (.istore_n 2, 1) := by decide +kernel
theorem dX12_findDominators_32 : decode cX12_findDominators 32 = .ok (.iload_n 2, 1) := by decide +kernel
theorem dX12_findDominators_33 : decode cX12_findDominators 33 = .ok (.aload_n 0, 1) := by decide +kernel
theorem dX12_findDominators_34 : decode cX12_findDominators 34 = .ok (.getfield 183, 3) := by decide +kernel
theorem dX12_findDominators_37 : decode cX12_findDominators 37 = .ok (.iload_n 1, 1) := by decide +kernel
theorem dX12_findDominators_38 : decode cX12_findDominators 38 = .ok (.iaload, 1) := by decide +kernel
theorem dX12_findDominators_39 : decode cX12_findDominators 39 = .ok (.if_icmp .ge 199, 3) := by decide +kernel
theorem dX12_findDominators_42 : decode cX12_findDominators 42 = .ok (.aload_n 0, 1) := by decide +kernel
theorem dX12_findDominators_43 : decode cX12_findDominators 43 = .ok (.iload_n 1, 1) := by decide +kernel
theorem dX12_findDominators_44 : decode cX12_findDominators 44 = .ok (.iconst (-1), 1) := by decide +kernel
theorem dX12_findDominators_45 : decode cX12_findDominators 45 = .ok (.iload_n 2, 1) := by decide +kernel
theorem dX12_findDominators_46 : decode cX12_findDominators 46 = .ok (.iconst 0, 1) := by decide +kernel
theorem dX12_findDominators_47 : decode cX12_findDominators 47 = .ok (.invokevirtual 591, 3) := by decide +kernel
theorem dX12_findDominators_50 : decode cX12_findDominators 50 = .ok (.iconst 0, 1) := by decide +kernel
theorem dX12_findDominators_51 : decode cX12_findDominators 51 = .ok (.istore_n 3, 1) := by decide +kernel
theorem dX12_findDominators_52 : decode cX12_findDominators 52 = .ok (.iconst 0, 1) := by decide +kernel
theorem dX12_findDominators_53 : decode cX12_findDominators 53 = .ok (.istore 4, 2) := by decide +kernel
theorem dX12_findDominators_55 : decode cX12_findDominators 55 = .ok (.iconst 0, 1) := by decide +kernel
theorem dX12_findDominators_56 : decode cX12_findDominators 56 = .ok (.istore 5, 2) := by decide +kernel
theorem dX12_findDominators_58 : decode cX12_findDominators 58 = .ok (.iload 5, 2) := by decide +kernel
theorem dX12_findDominators_60 : decode cX12_findDominators 60 = .ok (.aload_n 0, 1) := by decide +kernel
theorem dX12_findDominators_61 : decode cX12_findDominators 61 = .ok (.getfield 183, 3) := by decide +kernel
theorem dX12_findDominators_64 : decode cX12_findDominators 64 = .ok (.iload_n 1, 1) := by decide +kernel
theorem dX12_findDominators_65 : decode cX12_findDominators 65 = .ok (.iaload, 1) := by decide +kernel
theorem dX12_findDominators_66 : decode cX12_findDominators 66 = .ok (.if_icmp .ge 53, 3) := by decide +kernel
theorem dX12_findDominators_69 : decode cX12_findDominators 69 = .ok (.iload_n 3, 1) := by decide +kernel
theorem dX12_findDominators_70 : decode cX12_findDominators 70 = .ok (.aload_n 0, 1) := by decide +kernel
theorem dX12_findDominators_71 : decode cX12_findDominators 71 = .ok (.getfield 249, 3) := by decide +kernel
theorem dX12_findDominators_74 : decode cX12_findDominators 74 = .ok (.iload 5, 2) := by decide +kernel
theorem dX12_findDominators_76 : decode cX12_findDominators 76 = .ok (.baload, 1) := by decide +kernel
theorem dX12_findDominators_77 : decode cX12_findDominators 77 = .ok (.ifCond .eq 7, 3) := by decide +kernel
theorem dX12_findDominators_80 : decode cX12_findDominators 80 = .ok (.iconst 0, 1) := by decide +kernel
theorem dX12_findDominators_81 : decode cX12_findDominators 81 = .ok (.goto 4, 3) := by decide +kernel
theorem dX12_findDominators_84 : decode cX12_findDominators 84 = .ok (.iconst 1, 1) := by decide +kernel
theorem dX12_findDominators_85 : decode cX12_findDominators 85 = .ok (.iadd, 1) := by decide +kernel
theorem dX12_findDominators_86 : decode cX12_findDominators 86 = .ok (.istore_n 3, 1) := by decide +kernel
theorem dX12_findDominators_87 : decode cX12_findDominators 87 = .ok (.iload 4, 2) := by decide +kernel
theorem dX12_findDominators_89 : decode cX12_findDominators 89 = .ok (.aload_n 0, 1) := by decide +kernel
theorem dX12_findDominators_90 : decode cX12_findDominators 90 = .ok (.getfield 249, 3) := by decide +kernel
theorem dX12_findDominators_93 : decode cX12_findDominators 93 = .ok (.iload 5, 2) := by decide +kernel
theorem dX12_findDominators_95 : decode cX12_findDominators 95 = .ok (.baload, 1) := by decide +kernel
theorem dX12_findDominators_96 : decode cX12_findDominators 96 = .ok (.ifCond .eq 7, 3) := by decide +kernel
theorem dX12_findDominators_99 : decode cX12_findDominators 99 = .ok (.iconst 0, 1) := by decide +kernel
theorem dX12_findDominators_100 : decode cX12_findDominators 100 = .ok (.goto 10, 3) := by decide +kernel
theorem dX12_findDominators_103 : decode cX12_findDominators 103 = .ok (.aload_n 0, 1) := by decide +kernel
theorem dX12_findDominators_104 : decode cX12_findDominators 104 = .ok (.iload_n 1, 1) := by decide +kernel
theorem dX12_findDominators_105 : decode cX12_findDominators 105 = .ok (.iload 5, 2) := by decide +kernel
theorem dX12_findDominators_107 : decode cX12_findDominators 107 = .ok (.invokevirtual 594, 3) := by decide +kernel
theorem dX12_findDominators_110 : decode cX12_findDominators 110 = .ok (.iadd, 1) := by decide +kernel
theorem dX12_findDominators_111 : decode cX12_findDominators 111 = .ok (.istore 4, 2) := by decide +kernel
theorem dX12_findDominators_113 : decode cX12_findDominators 113 = .ok (.iinc 5 1, 3) := by decide +kernel
theorem dX12_findDominators_116 : decode cX12_findDominators 116 = .ok (.goto (-58), 3) := by decide +kernel
theorem dX12_findDominators_119 : decode cX12_findDominators 119 = .ok (.aload_n 0, 1) := by decide +kernel
theorem dX12_findDominators_120 : decode cX12_findDominators 120 = .ok (.getfield 213, 3) := by decide +kernel
theorem dX12_findDominators_123 : decode cX12_findDominators 123 = .ok (.aload_n 0, 1) := by decide +kernel
theorem dX12_findDominators_124 : decode cX12_findDominators 124 = .ok (.iload_n 1, 1) := by decide +kernel
theorem dX12_findDominators_125 : decode cX12_findDominators 125 = .ok (.iload_n 2, 1) := by decide +kernel
theorem dX12_findDominators_126 : decode cX12_findDominators 126 = .ok (.invokevirtual 545, 3) := by decide +kernel
theorem dX12_findDominators_129 : decode cX12_findDominators 129 = .ok (.iload_n 3, 1) := by decide +kernel
theorem dX12_findDominators_130 : decode cX12_findDominators 130 = .ok (.iastore, 1) := by decide +kernel
theorem dX12_findDominators_131 : decode cX12_findDominators 131 = .ok (.aload_n 0, 1) := by decide +kernel
theorem dX12_findDominators_132 : decode cX12_findDominators 132 = .ok (.getfield 210, 3) := by decide +kernel
theorem dX12_findDominators_135 : decode cX12_findDominators 135 = .ok (.aload_n 0, 1) := by decide +kernel
theorem dX12_findDominators_136 : decode cX12_findDominators 136 = .ok (.iload_n 1, 1) := by decide +kernel
theorem dX12_findDominators_137 : decode cX12_findDominators 137 = .ok (.iload_n 2, 1) := by decide +kernel
theorem dX12_findDominators_138 : decode cX12_findDominators 138 = .ok (.invokevirtual 545, 3) := by decide +kernel
theorem dX12_findDominators_141 : decode cX12_findDominators 141 = .ok (.iload 4, 2) := by decide +kernel
theorem dX12_findDominators_143 : decode cX12_findDominators 143 = .ok (.iastore, 1) := by decide +kernel
theorem dX12_findDominators_144 : decode cX12_findDominators 144 = .ok (.iconst 0, 1) := by decide +kernel
theorem dX12_findDominators_145 : decode cX12_findDominators 145 = .ok (.istore 5, 2) := by decide +kernel
theorem dX12_findDominators_147 : decode cX12_findDominators 147 = .ok (.iload 5, 2) := by decide +kernel
theorem dX12_findDominators_149 : decode cX12_findDominators 149 = .ok (.aload_n 0, 1) := by decide +kernel
theorem dX12_findDominators_150 : decode cX12_findDominators 150 = .ok (.getfield 183, 3) := by decide +kernel
theorem dX12_findDominators_153 : decode cX12_findDominators 153 = .ok (.iload_n 1, 1) := by decide +kernel
theorem dX12_findDominators_154 : decode cX12_findDominators 154 = .ok (.iaload, 1) := by decide +kernel
theorem dX12_findDominators_155 : decode cX12_findDominators 155 = .ok (.if_icmp .ge 77, 3) := by decide +kernel
theorem dX12_findDominators_158 : decode cX12_findDominators 158 = .ok (.aload_n 0, 1) := by decide +kernel
theorem dX12_findDominators_159 : decode cX12_findDominators 159 = .ok (.getfield 249, 3) := by decide +kernel
theorem dX12_findDominators_162 : decode cX12_findDominators 162 = .ok (.iload 5, 2) := by decide +kernel
theorem dX12_findDominators_164 : decode cX12_findDominators 164 = .ok (.baload, 1) := by decide +kernel
theorem dX12_findDominators_165 : decode cX12_findDominators 165 = .ok (.ifCond .ne 61, 3) := by decide +kernel
theorem dX12_findDominators_168 : decode cX12_findDominators 168 = .ok (.iload 5, 2) := by decide +kernel
theorem dX12_findDominators_170 : decode cX12_findDominators 170 = .ok (.iload_n 2, 1) := by decide +kernel
theorem dX12_findDominators_171 : decode cX12_findDominators 171 = .ok (.if_icmp .ne 6, 3) := by decide +kernel
theorem dX12_findDominators_174 : decode cX12_findDominators 174 = .ok (.goto 52, 3) := by decide +kernel
theorem dX12_findDominators_177 : decode cX12_findDominators 177 = .ok (.aload_n 0, 1) := by decide +kernel
theorem dX12_findDominators_178 : decode cX12_findDominators 178 = .ok (.getfield 207, 3) := by decide +kernel
theorem dX12_findDominators_181 : decode cX12_findDominators 181 = .ok (.aload_n 0, 1) := by decide +kernel
theorem dX12_findDominators_182 : decode cX12_findDominators 182 = .ok (.iload_n 1, 1) := by decide +kernel
theorem dX12_findDominators_183 : decode cX12_findDominators 183 = .ok (.iload 5, 2) := by decide +kernel
theorem dX12_findDominators_185 : decode cX12_findDominators 185 = .ok (.invokevirtual 545, 3) := by decide +kernel
theorem dX12_findDominators_188 : decode cX12_findDominators 188 = .ok (.iaload, 1) := by decide +kernel
theorem dX12_findDominators_189 : decode cX12_findDominators 189 = .ok (.istore 6, 2) := by decide +kernel
theorem dX12_findDominators_191 : decode cX12_findDominators 191 = .ok (.iload 6, 2) := by decide +kernel
theorem dX12_findDominators_193 : decode cX12_findDominators 193 = .ok (.iconst (-1), 1) := by decide +kernel
theorem dX12_findDominators_194 : decode cX12_findDominators 194 = .ok (.if_icmp .eq 19, 3) := by decide +kernel
theorem dX12_findDominators_197 : decode cX12_findDominators 197 = .ok (.iload_n 3, 1) := by decide +kernel
theorem dX12_findDominators_198 : decode cX12_findDominators 198 = .ok (.aload_n 0, 1) := by decide +kernel
theorem dX12_findDominators_199 : decode cX12_findDominators 199 = .ok (.getfield 213, 3) := by decide +kernel
theorem dX12_findDominators_202 : decode cX12_findDominators 202 = .ok (.aload_n 0, 1) := by decide +kernel
theorem dX12_findDominators_203 : decode cX12_findDominators 203 = .ok (.iload_n 1, 1) := by decide +kernel
theorem dX12_findDominators_204 : decode cX12_findDominators 204 = .ok (.iload 6, 2) := by decide +kernel
theorem dX12_findDominators_206 : decode cX12_findDominators 206 = .ok (.invokevirtual 545, 3) := by decide +kernel
theorem dX12_findDominators_209 : decode cX12_findDominators 209 = .ok (.iaload, 1) := by decide +kernel
theorem dX12_findDominators_210 : decode cX12_findDominators 210 = .ok (.if_icmp .ge 16, 3) := by decide +kernel
theorem dX12_findDominators_213 : decode cX12_findDominators 213 = .ok (.aload_n 0, 1) := by decide +kernel
theorem dX12_findDominators_214 : decode cX12_findDominators 214 = .ok (.getfield 207, 3) := by decide +kernel
theorem dX12_findDominators_217 : decode cX12_findDominators 217 = .ok (.aload_n 0, 1) := by decide +kernel
theorem dX12_findDominators_218 : decode cX12_findDominators 218 = .ok (.iload_n 1, 1) := by decide +kernel
theorem dX12_findDominators_219 : decode cX12_findDominators 219 = .ok (.iload 5, 2) := by decide +kernel
theorem dX12_findDominators_221 : decode cX12_findDominators 221 = .ok (.invokevirtual 545, 3) := by decide +kernel
theorem dX12_findDominators_224 : decode cX12_findDominators 224 = .ok (.iload_n 2, 1) := by decide +kernel
theorem dX12_findDominators_225 : decode cX12_findDominators 225 = .ok (.iastore, 1) := by decide +kernel
theorem dX12_findDominators_226 : decode cX12_findDominators 226 = .ok (.iinc 5 1, 3) := by decide +kernel
theorem dX12_findDominators_229 : decode cX12_findDominators 229 = .ok (.goto (-82), 3) := by decide +kernel
theorem dX12_findDominators_232 : decode cX12_findDominators 232 = .ok (.iinc 2 1, 3) := by decide +kernel
theorem dX12_findDominators_235 : decode cX12_findDominators 235 = .ok (.goto (-203), 3) := by decide +kernel
theorem dX12_findDominators_238 : decode cX12_findDominators 238 = .ok (.return_, 1) := by decide +kernel
theorem dX12_findGroups_0 : decode cX12_findGroups 0 = .ok (.aload_n 0, 1) := by decide +kernel
theorem dX12_findGroups_1 : decode cX12_findGroups 1 = .ok (.getfield 231, 3) := by decide +kernel
theorem dX12_findGroups_4 : decode cX12_findGroups 4 = .ok (.iload_n 1, 1) := by decide +kernel
theorem dX12_findGroups_5 : decode cX12_findGroups 5 = .ok (.iconst 0, 1) := by decide +kernel
theorem dX12_findGroups_6 : decode cX12_findGroups 6 = .ok (.iastore, 1) := by decide +kernel
theorem dX12_findGroups_7 : decode cX12_findGroups 7 = .ok (.iconst 0, 1) := by decide +kernel
theorem dX12_findGroups_8 : decode cX12_findGroups 8 = .ok (.istore_n 2, 1) := by decide +kernel
theorem dX12_findGroups_9 : decode cX12_findGroups 9 = .ok (.iload_n 2, 1) := by decide +kernel
theorem dX12_findGroups_10 : decode cX12_findGroups 10 = .ok (.aload_n 0, 1) := by decide +kernel
theorem dX12_findGroups_11 : decode cX12_findGroups 11 = .ok (.getfield 183, 3) := by decide +kernel
theorem dX12_findGroups_14 : decode cX12_findGroups 14 = .ok (.iload_n 1, 1) := by decide +kernel
theorem dX12_findGroups_15 : decode cX12_findGroups 15 = .ok (.iaload, 1) := by decide +kernel
theorem dX12_findGroups_16 : decode cX12_findGroups 16 = .ok (.if_icmp .ge 21, 3) := by decide +kernel
theorem dX12_findGroups_19 : decode cX12_findGroups 19 = .ok (.aload_n 0, 1) := by decide +kernel
theorem dX12_findGroups_20 : decode cX12_findGroups 20 = .ok (.getfield 219, 3) := by decide +kernel
theorem dX12_findGroups_23 : decode cX12_findGroups 23 = .ok (.aload_n 0, 1) := by decide +kernel
theorem dX12_findGroups_24 : decode cX12_findGroups 24 = .ok (.iload_n 1, 1) := by decide +kernel
theorem dX12_findGroups_25 : decode cX12_findGroups 25 = .ok (.iload_n 2, 1) := by decide +kernel
theorem dX12_findGroups_26 : decode cX12_findGroups 26 = .ok (.invokevirtual 545, 3) := by decide +kernel
theorem dX12_findGroups_29 : decode cX12_findGroups 29 = .ok (.iconst (-1), 1) := by decide +kernel
theorem dX12_findGroups_30 : decode cX12_findGroups 30 = .ok (.iastore, 1) := by decide +kernel
theorem dX12_findGroups_31 : decode cX12_findGroups 31 = .ok (.iinc 2 1, 3) := by decide +kernel
theorem dX12_findGroups_34 : decode cX12_findGroups 34 = .ok (.goto (-25), 3) := by decide +kernel
theorem dX12_findGroups_37 : decode cX12_findGroups 37 = .ok (.iconst 0, 1) := by decide +kernel
theorem dX12_findGroups_38 : decode cX12_findGroups 38 = .ok (.istore_n 2, 1) := by decide +kernel
theorem dX12_findGroups_39 : decode cX12_findGroups 39 = .ok (.iload_n 2, 1) := by decide +kernel
theorem dX12_findGroups_40 : decode cX12_findGroups 40 = .ok (.aload_n 0, 1) := by decide +kernel
theorem dX12_findGroups_41 : decode cX12_findGroups 41 = .ok (.getfield 183, 3) := by decide +kernel
theorem dX12_findGroups_44 : decode cX12_findGroups 44 = .ok (.iload_n 1, 1) := by decide +kernel
theorem dX12_findGroups_45 : decode cX12_findGroups 45 = .ok (.iaload, 1) := by decide +kernel
theorem dX12_findGroups_46 : decode cX12_findGroups 46 = .ok (.if_icmp .ge 135, 3) := by decide +kernel
theorem dX12_findGroups_49 : decode cX12_findGroups 49 = .ok (.aload_n 0, 1) := by decide +kernel
theorem dX12_findGroups_50 : decode cX12_findGroups 50 = .ok (.getfield 219, 3) := by decide +kernel
theorem dX12_findGroups_53 : decode cX12_findGroups 53 = .ok (.aload_n 0, 1) := by decide +kernel
theorem dX12_findGroups_54 : decode cX12_findGroups 54 = .ok (.iload_n 1, 1) := by decide +kernel
theorem dX12_findGroups_55 : decode cX12_findGroups 55 = .ok (.iload_n 2, 1) := by decide +kernel
theorem dX12_findGroups_56 : decode cX12_findGroups 56 = .ok (.invokevirtual 545, 3) := by decide +kernel
theorem dX12_findGroups_59 : decode cX12_findGroups 59 = .ok (.iaload, 1) := by decide +kernel
theorem dX12_findGroups_60 : decode cX12_findGroups 60 = .ok (.iconst (-1), 1) := by decide +kernel
theorem dX12_findGroups_61 : decode cX12_findGroups 61 = .ok (.if_icmp .eq 6, 3) := by decide +kernel
theorem dX12_findGroups_64 : decode cX12_findGroups 64 = .ok (.goto 111, 3) := by decide +kernel
theorem dX12_findGroups_67 : decode cX12_findGroups 67 = .ok (.iconst 0, 1) := by decide +kernel
theorem dX12_findGroups_68 : decode cX12_findGroups 68 = .ok (.istore_n 3, 1) := by decide +kernel
theorem dX12_findGroups_69 : decode cX12_findGroups 69 = .ok (.iload_n 2, 1) := by decide +kernel
theorem dX12_findGroups_70 : decode cX12_findGroups 70 = .ok (.iconst 1, 1) := by decide +kernel
theorem dX12_findGroups_71 : decode cX12_findGroups 71 = .ok (.iadd, 1) := by decide +kernel
theorem dX12_findGroups_72 : decode cX12_findGroups 72 = .ok (.istore 4, 2) := by decide +kernel
theorem dX12_findGroups_74 : decode cX12_findGroups 74 = .ok (.iload 4, 2) := by decide +kernel
theorem dX12_findGroups_76 : decode cX12_findGroups 76 = .ok (.aload_n 0, 1) := by decide +kernel
theorem dX12_findGroups_77 : decode cX12_findGroups 77 = .ok (.getfield 183, 3) := by decide +kernel
theorem dX12_findGroups_80 : decode cX12_findGroups 80 = .ok (.iload_n 1, 1) := by decide +kernel
theorem dX12_findGroups_81 : decode cX12_findGroups 81 = .ok (.iaload, 1) := by decide +kernel
theorem dX12_findGroups_82 : decode cX12_findGroups 82 = .ok (.if_icmp .ge 59, 3) := by decide +kernel
theorem dX12_findGroups_85 : decode cX12_findGroups 85 = .ok (.aload_n 0, 1) := by decide +kernel
theorem dX12_findGroups_86 : decode cX12_findGroups 86 = .ok (.getfield 219, 3) := by decide +kernel
theorem dX12_findGroups_89 : decode cX12_findGroups 89 = .ok (.aload_n 0, 1) := by decide +kernel
theorem dX12_findGroups_90 : decode cX12_findGroups 90 = .ok (.iload_n 1, 1) := by decide +kernel
theorem dX12_findGroups_91 : decode cX12_findGroups 91 = .ok (.iload 4, 2) := by decide +kernel
theorem dX12_findGroups_93 : decode cX12_findGroups 93 = .ok (.invokevirtual 545, 3) := by decide +kernel
theorem dX12_findGroups_96 : decode cX12_findGroups 96 = .ok (.iaload, 1) := by decide +kernel
theorem dX12_findGroups_97 : decode cX12_findGroups 97 = .ok (.iconst (-1), 1) := by decide +kernel
theorem dX12_findGroups_98 : decode cX12_findGroups 98 = .ok (.if_icmp .ne 37, 3) := by decide +kernel
theorem dX12_findGroups_101 : decode cX12_findGroups 101 = .ok (.aload_n 0, 1) := by decide +kernel
theorem dX12_findGroups_102 : decode cX12_findGroups 102 = .ok (.iload_n 1, 1) := by decide +kernel
theorem dX12_findGroups_103 : decode cX12_findGroups 103 = .ok (.iload_n 2, 1) := by decide +kernel
theorem dX12_findGroups_104 : decode cX12_findGroups 104 = .ok (.iload 4, 2) := by decide +kernel
theorem dX12_findGroups_106 : decode cX12_findGroups 106 = .ok (.invokevirtual 597, 3) := by decide +kernel
theorem dX12_findGroups_109 : decode cX12_findGroups 109 = .ok (.ifCond .ne 6, 3) := by decide +kernel
theorem dX12_findGroups_112 : decode cX12_findGroups 112 = .ok (.goto 23, 3) := by decide +kernel
theorem dX12_findGroups_115 : decode cX12_findGroups 115 = .ok (.aload_n 0, 1) := by decide +kernel
theorem dX12_findGroups_116 : decode cX12_findGroups 116 = .ok (.getfield 219, 3) := by decide +kernel
theorem dX12_findGroups_119 : decode cX12_findGroups 119 = .ok (.aload_n 0, 1) := by decide +kernel
theorem dX12_findGroups_120 : decode cX12_findGroups 120 = .ok (.iload_n 1, 1) := by decide +kernel
theorem dX12_findGroups_121 : decode cX12_findGroups 121 = .ok (.iload 4, 2) := by decide +kernel
theorem dX12_findGroups_123 : decode cX12_findGroups 123 = .ok (.invokevirtual 545, 3) := by decide +kernel
theorem dX12_findGroups_126 : decode cX12_findGroups 126 = .ok (.aload_n 0, 1) := by decide +kernel
theorem dX12_findGroups_127 : decode cX12_findGroups 127 = .ok (.getfield 231, 3) := by decide +kernel
theorem dX12_findGroups_130 : decode cX12_findGroups 130 = .ok (.iload_n 1, 1) := by decide +kernel
theorem dX12_findGroups_131 : decode cX12_findGroups 131 = .ok (.iaload, 1) := by decide +kernel
theorem dX12_findGroups_132 : decode cX12_findGroups 132 = .ok (.iastore, 1) := by decide +kernel
theorem dX12_findGroups_133 : decode cX12_findGroups 133 = .ok (.iconst 1, 1) := by decide +kernel
theorem dX12_findGroups_134 : decode cX12_findGroups 134 = .ok (.istore_n 3, 1) := by decide +kernel
theorem dX12_findGroups_135 : decode cX12_findGroups 135 = .ok (.iinc 4 1, 3) := by decide +kernel
theorem dX12_findGroups_138 : decode cX12_findGroups 138 = .ok (.goto (-64), 3) := by decide +kernel
theorem dX12_findGroups_141 : decode cX12_findGroups 141 = .ok (.iload_n 3, 1) := by decide +kernel
theorem dX12_findGroups_142 : decode cX12_findGroups 142 = .ok (.ifCond .ne 6, 3) := by decide +kernel
theorem dX12_findGroups_145 : decode cX12_findGroups 145 = .ok (.goto 30, 3) := by decide +kernel
theorem dX12_findGroups_148 : decode cX12_findGroups 148 = .ok (.aload_n 0, 1) := by decide +kernel
theorem dX12_findGroups_149 : decode cX12_findGroups 149 = .ok (.getfield 219, 3) := by decide +kernel
theorem dX12_findGroups_152 : decode cX12_findGroups 152 = .ok (.aload_n 0, 1) := by decide +kernel
theorem dX12_findGroups_153 : decode cX12_findGroups 153 = .ok (.iload_n 1, 1) := by decide +kernel
theorem dX12_findGroups_154 : decode cX12_findGroups 154 = .ok (.iload_n 2, 1) := by decide +kernel
theorem dX12_findGroups_155 : decode cX12_findGroups 155 = .ok (.invokevirtual 545, 3) := by decide +kernel
theorem dX12_findGroups_158 : decode cX12_findGroups 158 = .ok (.aload_n 0, 1) := by decide +kernel
theorem dX12_findGroups_159 : decode cX12_findGroups 159 = .ok (.getfield 231, 3) := by decide +kernel
theorem dX12_findGroups_162 : decode cX12_findGroups 162 = .ok (.iload_n 1, 1) := by decide +kernel
theorem dX12_findGroups_163 : decode cX12_findGroups 163 = .ok (.iaload, 1) := by decide +kernel
theorem dX12_findGroups_164 : decode cX12_findGroups 164 = .ok (.iastore, 1) := by decide +kernel
theorem dX12_findGroups_165 : decode cX12_findGroups 165 = .ok (.aload_n 0, 1) := by decide +kernel
theorem dX12_findGroups_166 : decode cX12_findGroups 166 = .ok (.getfield 231, 3) := by decide +kernel
theorem dX12_findGroups_169 : decode cX12_findGroups 169 = .ok (.iload_n 1, 1) := by decide +kernel
theorem dX12_findGroups_170 : decode cX12_findGroups 170 = .ok (.dup2, 1) := by decide +kernel
theorem dX12_findGroups_171 : decode cX12_findGroups 171 = .ok (.iaload, 1) := by decide +kernel
theorem dX12_findGroups_172 : decode cX12_findGroups 172 = .ok (.iconst 1, 1) := by decide +kernel
theorem dX12_findGroups_173 : decode cX12_findGroups 173 = .ok (.iadd, 1) := by decide +kernel
theorem dX12_findGroups_174 : decode cX12_findGroups 174 = .ok (.iastore, 1) := by decide +kernel
theorem dX12_findGroups_175 : decode cX12_findGroups 175 = .ok (.iinc 2 1, 3) := by decide +kernel
theorem dX12_findGroups_178 : decode cX12_findGroups 178 = .ok (.goto (-139), 3) := by decide +kernel
theorem dX12_findGroups_181 : decode cX12_findGroups 181 = .ok (.return_, 1) := by decide +kernel
theorem dX12_findLinks_0 : decode cX12_findLinks 0 = .ok (.aload_n 0, 1) := by decide +kernel
theorem dX12_findLinks_1 : decode cX12_findLinks 1 = .ok (.getfield 183, 3) := by decide +kernel
theorem dX12_findLinks_4 : decode cX12_findLinks 4 = .ok (.iload_n 1, 1) := by decide +kernel
theorem dX12_findLinks_5 : decode cX12_findLinks 5 = .ok (.iaload, 1) := by decide +kernel
theorem dX12_findLinks_6 : decode cX12_findLinks 6 = .ok (.istore_n 2, 1) := by decide +kernel
theorem dX12_findLinks_7 : decode cX12_findLinks 7 = .ok (.iconst 0, 1) := by decide +kernel
theorem dX12_findLinks_8 : decode cX12_findLinks 8 = .ok (.istore_n 3, 1) := by decide +kernel
theorem dX12_findLinks_9 : decode cX12_findLinks 9 = .ok (.iload_n 3, 1) := by decide +kernel
theorem dX12_findLinks_10 : decode cX12_findLinks 10 = .ok (.iload_n 2, 1) := by decide +kernel
theorem dX12_findLinks_11 : decode cX12_findLinks 11 = .ok (.if_icmp .ge 105, 3) := by decide +kernel
theorem dX12_findLinks_14 : decode cX12_findLinks 14 = .ok (.iconst 0, 1) := by decide +kernel
theorem dX12_findLinks_15 : decode cX12_findLinks 15 = .ok (.istore 4, 2) := by decide +kernel
theorem dX12_findLinks_17 : decode cX12_findLinks 17 = .ok (.iload 4, 2) := by decide +kernel
theorem dX12_findLinks_19 : decode cX12_findLinks 19 = .ok (.iload_n 2, 1) := by decide +kernel
theorem dX12_findLinks_20 : decode cX12_findLinks 20 = .ok (.if_icmp .ge 23, 3) := by decide +kernel
theorem dX12_findLinks_23 : decode cX12_findLinks 23 = .ok (.aload_n 0, 1) := by decide +kernel
theorem dX12_findLinks_24 : decode cX12_findLinks 24 = .ok (.getfield 253, 3) := by decide +kernel
theorem dX12_findLinks_27 : decode cX12_findLinks 27 = .ok (.sipush 400, 3) := by decide +kernel
theorem dX12_findLinks_30 : decode cX12_findLinks 30 = .ok (.iload_n 3, 1) := by decide +kernel
theorem dX12_findLinks_31 : decode cX12_findLinks 31 = .ok (.imul, 1) := by decide +kernel
theorem dX12_findLinks_32 : decode cX12_findLinks 32 = .ok (.iload 4, 2) := by decide +kernel
theorem dX12_findLinks_34 : decode cX12_findLinks 34 = .ok (.iadd, 1) := by decide +kernel
theorem dX12_findLinks_35 : decode cX12_findLinks 35 = .ok (.iconst 0, 1) := by decide +kernel
theorem dX12_findLinks_36 : decode cX12_findLinks 36 = .ok (.bastore, 1) := by decide +kernel
theorem dX12_findLinks_37 : decode cX12_findLinks 37 = .ok (.iinc 4 1, 3) := by decide +kernel
theorem dX12_findLinks_40 : decode cX12_findLinks 40 = .ok (.goto (-23), 3) := by decide +kernel
theorem dX12_findLinks_43 : decode cX12_findLinks 43 = .ok (.iconst 0, 1) := by decide +kernel
theorem dX12_findLinks_44 : decode cX12_findLinks 44 = .ok (.istore 4, 2) := by decide +kernel
theorem dX12_findLinks_46 : decode cX12_findLinks 46 = .ok (.iload 4, 2) := by decide +kernel
theorem dX12_findLinks_48 : decode cX12_findLinks 48 = .ok (.aload_n 0, 1) := by decide +kernel
theorem dX12_findLinks_49 : decode cX12_findLinks 49 = .ok (.iload_n 1, 1) := by decide +kernel
theorem dX12_findLinks_50 : decode cX12_findLinks 50 = .ok (.iload_n 3, 1) := by decide +kernel
theorem dX12_findLinks_51 : decode cX12_findLinks 51 = .ok (.invokevirtual 570, 3) := by decide +kernel
theorem dX12_findLinks_54 : decode cX12_findLinks 54 = .ok (.if_icmp .ge 56, 3) := by decide +kernel
theorem dX12_findLinks_57 : decode cX12_findLinks 57 = .ok (.aload_n 0, 1) := by decide +kernel
theorem dX12_findLinks_58 : decode cX12_findLinks 58 = .ok (.iload_n 1, 1) := by decide +kernel
theorem dX12_findLinks_59 : decode cX12_findLinks 59 = .ok (.iload_n 3, 1) := by decide +kernel
theorem dX12_findLinks_60 : decode cX12_findLinks 60 = .ok (.iload 4, 2) := by decide +kernel
theorem dX12_findLinks_62 : decode cX12_findLinks 62 = .ok (.invokevirtual 573, 3) := by decide +kernel
theorem dX12_findLinks_65 : decode cX12_findLinks 65 = .ok (.ifCond .eq 39, 3) := by decide +kernel
theorem dX12_findLinks_68 : decode cX12_findLinks 68 = .ok (.aload_n 0, 1) := by decide +kernel
theorem dX12_findLinks_69 : decode cX12_findLinks 69 = .ok (.iload_n 1, 1) := by decide +kernel
theorem dX12_findLinks_70 : decode cX12_findLinks 70 = .ok (.iload_n 3, 1) := by decide +kernel
theorem dX12_findLinks_71 : decode cX12_findLinks 71 = .ok (.iload 4, 2) := by decide +kernel
theorem dX12_findLinks_73 : decode cX12_findLinks 73 = .ok (.invokevirtual 577, 3) := by decide +kernel
theorem dX12_findLinks_76 : decode cX12_findLinks 76 = .ok (.ldc2_w 433, 3) := by decide +kernel
theorem dX12_findLinks_79 : decode cX12_findLinks 79 = .ok (.lcmp, 1) := by decide +kernel
theorem dX12_findLinks_80 : decode cX12_findLinks 80 = .ok (.ifCond .eq 24, 3) := by decide +kernel
theorem dX12_findLinks_83 : decode cX12_findLinks 83 = .ok (.aload_n 0, 1) := by decide +kernel
theorem dX12_findLinks_84 : decode cX12_findLinks 84 = .ok (.getfield 253, 3) := by decide +kernel
theorem dX12_findLinks_87 : decode cX12_findLinks 87 = .ok (.sipush 400, 3) := by decide +kernel
theorem dX12_findLinks_90 : decode cX12_findLinks 90 = .ok (.iload_n 3, 1) := by decide +kernel
theorem dX12_findLinks_91 : decode cX12_findLinks 91 = .ok (.imul, 1) := by decide +kernel
theorem dX12_findLinks_92 : decode cX12_findLinks 92 = .ok (.aload_n 0, 1) := by decide +kernel
theorem dX12_findLinks_93 : decode cX12_findLinks 93 = .ok (.iload_n 1, 1) := by decide +kernel
theorem dX12_findLinks_94 : decode cX12_findLinks 94 = .ok (.iload_n 3, 1) := by decide +kernel
theorem dX12_findLinks_95 : decode cX12_findLinks 95 = .ok (.iload 4, 2) := by decide +kernel
theorem dX12_findLinks_97 : decode cX12_findLinks 97 = .ok (.invokevirtual 577, 3) := by decide +kernel
theorem dX12_findLinks_100 : decode cX12_findLinks 100 = .ok (.l2i, 1) := by decide +kernel
theorem dX12_findLinks_101 : decode cX12_findLinks 101 = .ok (.iadd, 1) := by decide +kernel
theorem dX12_findLinks_102 : decode cX12_findLinks 102 = .ok (.iconst 1, 1) := by decide +kernel
theorem dX12_findLinks_103 : decode cX12_findLinks 103 = .ok (.bastore, 1) := by decide +kernel
theorem dX12_findLinks_104 : decode cX12_findLinks 104 = .ok (.iinc 4 1, 3) := by decide +kernel
theorem dX12_findLinks_107 : decode cX12_findLinks 107 = .ok (.goto (-61), 3) := by decide +kernel
theorem dX12_findLinks_110 : decode cX12_findLinks 110 = .ok (.iinc 3 1, 3) := by decide +kernel
theorem dX12_findLinks_113 : decode cX12_findLinks 113 = .ok (.goto (-104), 3) := by decide +kernel
theorem dX12_findLinks_116 : decode cX12_findLinks 116 = .ok (.return_, 1) := by decide +kernel
theorem dX12_findRings_0 : decode cX12_findRings 0 = .ok (.aload_n 0, 1) := by decide +kernel
theorem dX12_findRings_1 : decode cX12_findRings 1 = .ok (.getfield 183, 3) := by decide +kernel
theorem dX12_findRings_4 : decode cX12_findRings 4 = .ok (.iload_n 1, 1) := by decide +kernel
theorem dX12_findRings_5 : decode cX12_findRings 5 = .ok (.iaload, 1) := by decide +kernel
theorem dX12_findRings_6 : decode cX12_findRings 6 = .ok (.istore_n 2, 1) := by decide +kernel
theorem dX12_findRings_7 : decode cX12_findRings 7 = .ok (.iconst 0, 1) := by decide +kernel
theorem dX12_findRings_8 : decode cX12_findRings 8 = .ok (.istore_n 3, 1) := by decide +kernel
theorem dX12_findRings_9 : decode cX12_findRings 9 = .ok (.iload_n 3, 1) := by decide +kernel
theorem dX12_findRings_10 : decode cX12_findRings 10 = .ok (.iload_n 2, 1) := by decide +kernel
theorem dX12_findRings_11 : decode cX12_findRings 11 = .ok (.if_icmp .ge 64, 3) := by decide +kernel
theorem dX12_findRings_14 : decode cX12_findRings 14 = .ok (.aload_n 0, 1) := by decide +kernel
theorem dX12_findRings_15 : decode cX12_findRings 15 = .ok (.iload_n 1, 1) := by decide +kernel
theorem dX12_findRings_16 : decode cX12_findRings 16 = .ok (.iload_n 3, 1) := by decide +kernel
theorem dX12_findRings_17 : decode cX12_findRings 17 = .ok (.iconst (-1), 1) := by decide +kernel
theorem dX12_findRings_18 : decode cX12_findRings 18 = .ok (.iconst 0, 1) := by decide +kernel
theorem dX12_findRings_19 : decode cX12_findRings 19 = .ok (.invokevirtual 591, 3) := by decide +kernel
theorem dX12_findRings_22 : decode cX12_findRings 22 = .ok (.iconst 0, 1) := by decide +kernel
theorem dX12_findRings_23 : decode cX12_findRings 23 = .ok (.istore 4, 2) := by decide +kernel
theorem dX12_findRings_25 : decode cX12_findRings 25 = .ok (.iload 4, 2) := by decide +kernel
theorem dX12_findRings_27 : decode cX12_findRings 27 = .ok (.iload_n 2, 1) := by decide +kernel
theorem dX12_findRings_28 : decode cX12_findRings 28 = .ok (.if_icmp .ge 29, 3) := by decide +kernel
theorem dX12_findRings_31 : decode cX12_findRings 31 = .ok (.aload_n 0, 1) := by decide +kernel
theorem dX12_findRings_32 : decode cX12_findRings 32 = .ok (.getfield 253, 3) := by decide +kernel
theorem dX12_findRings_35 : decode cX12_findRings 35 = .ok (.sipush 400, 3) := by decide +kernel
theorem dX12_findRings_38 : decode cX12_findRings 38 = .ok (.iload_n 3, 1) := by decide +kernel
theorem dX12_findRings_39 : decode cX12_findRings 39 = .ok (.imul, 1) := by decide +kernel
theorem dX12_findRings_40 : decode cX12_findRings 40 = .ok (.iload 4, 2) := by decide +kernel
theorem dX12_findRings_42 : decode cX12_findRings 42 = .ok (.iadd, 1) := by decide +kernel
theorem dX12_findRings_43 : decode cX12_findRings 43 = .ok (.aload_n 0, 1) := by decide +kernel
theorem dX12_findRings_44 : decode cX12_findRings 44 = .ok (.getfield 249, 3) := by decide +kernel
theorem dX12_findRings_47 : decode cX12_findRings 47 = .ok (.iload 4, 2) := by decide +kernel
theorem dX12_findRings_49 : decode cX12_findRings 49 = .ok (.baload, 1) := by decide +kernel
theorem dX12_findRings_50 : decode cX12_findRings 50 = .ok (.bastore, 1) := by decide +kernel
theorem dX12_findRings_51 : decode cX12_findRings 51 = .ok (.iinc 4 1, 3) := by decide +kernel
theorem dX12_findRings_54 : decode cX12_findRings 54 = .ok (.goto (-29), 3) := by decide +kernel
theorem dX12_findRings_57 : decode cX12_findRings 57 = .ok (.aload_n 0, 1) := by decide +kernel
theorem dX12_findRings_58 : decode cX12_findRings 58 = .ok (.getfield 216, 3) := by decide +kernel
theorem dX12_findRings_61 : decode cX12_findRings 61 = .ok (.aload_n 0, 1) := by decide +kernel
theorem dX12_findRings_62 : decode cX12_findRings 62 = .ok (.iload_n 1, 1) := by decide +kernel
theorem dX12_findRings_63 : decode cX12_findRings 63 = .ok (.iload_n 3, 1) := by decide +kernel
theorem dX12_findRings_64 : decode cX12_findRings 64 = .ok (.invokevirtual 545, 3) := by decide +kernel
theorem dX12_findRings_67 : decode cX12_findRings 67 = .ok (.iconst (-1), 1) := by decide +kernel
theorem dX12_findRings_68 : decode cX12_findRings 68 = .ok (.iastore, 1) := by decide +kernel
theorem dX12_findRings_69 : decode cX12_findRings 69 = .ok (.iinc 3 1, 3) := by decide +kernel
theorem dX12_findRings_72 : decode cX12_findRings 72 = .ok (.goto (-63), 3) := by decide +kernel
theorem dX12_findRings_75 : decode cX12_findRings 75 = .ok (.aload_n 0, 1) := by decide +kernel
theorem dX12_findRings_76 : decode cX12_findRings 76 = .ok (.getfield 228, 3) := by decide +kernel
theorem dX12_findRings_79 : decode cX12_findRings 79 = .ok (.iload_n 1, 1) := by decide +kernel
theorem dX12_findRings_80 : decode cX12_findRings 80 = .ok (.iconst 0, 1) := by decide +kernel
theorem dX12_findRings_81 : decode cX12_findRings 81 = .ok (.iastore, 1) := by decide +kernel
theorem dX12_findRings_82 : decode cX12_findRings 82 = .ok (.iconst 0, 1) := by decide +kernel
theorem dX12_findRings_83 : decode cX12_findRings 83 = .ok (.istore_n 3, 1) := by decide +kernel
theorem dX12_findRings_84 : decode cX12_findRings 84 = .ok (.iload_n 3, 1) := by decide +kernel
theorem dX12_findRings_85 : decode cX12_findRings 85 = .ok (.iload_n 2, 1) := by decide +kernel
theorem dX12_findRings_86 : decode cX12_findRings 86 = .ok (.if_icmp .ge 117, 3) := by decide +kernel
theorem dX12_findRings_89 : decode cX12_findRings 89 = .ok (.aload_n 0, 1) := by decide +kernel
theorem dX12_findRings_90 : decode cX12_findRings 90 = .ok (.getfield 216, 3) := by decide +kernel
theorem dX12_findRings_93 : decode cX12_findRings 93 = .ok (.aload_n 0, 1) := by decide +kernel
theorem dX12_findRings_94 : decode cX12_findRings 94 = .ok (.iload_n 1, 1) := by decide +kernel
theorem dX12_findRings_95 : decode cX12_findRings 95 = .ok (.iload_n 3, 1) := by decide +kernel
theorem dX12_findRings_96 : decode cX12_findRings 96 = .ok (.invokevirtual 545, 3) := by decide +kernel
theorem dX12_findRings_99 : decode cX12_findRings 99 = .ok (.iaload, 1) := by decide +kernel
theorem dX12_findRings_100 : decode cX12_findRings 100 = .ok (.iconst (-1), 1) := by decide +kernel
theorem dX12_findRings_101 : decode cX12_findRings 101 = .ok (.if_icmp .ne 96, 3) := by decide +kernel
theorem dX12_findRings_104 : decode cX12_findRings 104 = .ok (.aload_n 0, 1) := by decide +kernel
theorem dX12_findRings_105 : decode cX12_findRings 105 = .ok (.getfield 253, 3) := by decide +kernel
theorem dX12_findRings_108 : decode cX12_findRings 108 = .ok (.sipush 400, 3) := by decide +kernel
theorem dX12_findRings_111 : decode cX12_findRings 111 = .ok (.iload_n 3, 1) := by decide +kernel
theorem dX12_findRings_112 : decode cX12_findRings 112 = .ok (.imul, 1) := by decide +kernel
theorem dX12_findRings_113 : decode cX12_findRings 113 = .ok (.iload_n 3, 1) := by decide +kernel
theorem dX12_findRings_114 : decode cX12_findRings 114 = .ok (.iadd, 1) := by decide +kernel
theorem dX12_findRings_115 : decode cX12_findRings 115 = .ok (.baload, 1) := by decide +kernel
theorem dX12_findRings_116 : decode cX12_findRings 116 = .ok (.ifCond .ne 6, 3) := by decide +kernel
theorem dX12_findRings_119 : decode cX12_findRings 119 = .ok (.goto 78, 3) := by decide +kernel
theorem dX12_findRings_122 : decode cX12_findRings 122 = .ok (.iload_n 3, 1) := by decide +kernel
theorem dX12_findRings_123 : decode cX12_findRings 123 = .ok (.istore 4, 2) := by decide +kernel
theorem dX12_findRings_125 : decode cX12_findRings 125 = .ok (.iload 4, 2) := by decide +kernel
theorem dX12_findRings_127 : decode cX12_findRings 127 = .ok (.iload_n 2, 1) := by decide +kernel
theorem dX12_findRings_128 : decode cX12_findRings 128 = .ok (.if_icmp .ge 59, 3) := by decide +kernel
theorem dX12_findRings_131 : decode cX12_findRings 131 = .ok (.aload_n 0, 1) := by decide +kernel
theorem dX12_findRings_132 : decode cX12_findRings 132 = .ok (.getfield 253, 3) := by decide +kernel
theorem dX12_findRings_135 : decode cX12_findRings 135 = .ok (.sipush 400, 3) := by decide +kernel
theorem dX12_findRings_138 : decode cX12_findRings 138 = .ok (.iload_n 3, 1) := by decide +kernel
theorem dX12_findRings_139 : decode cX12_findRings 139 = .ok (.imul, 1) := by decide +kernel
theorem dX12_findRings_140 : decode cX12_findRings 140 = .ok (.iload 4, 2) := by decide +kernel
theorem dX12_findRings_142 : decode cX12_findRings 142 = .ok (.iadd, 1) := by decide +kernel
theorem dX12_findRings_143 : decode cX12_findRings 143 = .ok (.baload, 1) := by decide +kernel
theorem dX12_findRings_144 : decode cX12_findRings 144 = .ok (.ifCond .eq 37, 3) := by decide +kernel
theorem dX12_findRings_147 : decode cX12_findRings 147 = .ok (.aload_n 0, 1) := by decide +kernel
theorem dX12_findRings_148 : decode cX12_findRings 148 = .ok (.getfield 253, 3) := by decide +kernel
theorem dX12_findRings_151 : decode cX12_findRings 151 = .ok (.sipush 400, 3) := by decide +kernel
theorem dX12_findRings_154 : decode cX12_findRings 154 = .ok (.iload 4, 2) := by decide +kernel
theorem dX12_findRings_156 : decode cX12_findRings 156 = .ok (.imul, 1) := by decide +kernel
theorem dX12_findRings_157 : decode cX12_findRings 157 = .ok (.iload_n 3, 1) := by decide +kernel
theorem dX12_findRings_158 : decode cX12_findRings 158 = .ok (.iadd, 1) := by decide +kernel
theorem dX12_findRings_159 : decode cX12_findRings 159 = .ok (.baload, 1) := by decide +kernel
theorem dX12_findRings_160 : decode cX12_findRings 160 = .ok (.ifCond .eq 21, 3) := by decide +kernel
theorem dX12_findRings_163 : decode cX12_findRings 163 = .ok (.aload_n 0, 1) := by decide +kernel
theorem dX12_findRings_164 : decode cX12_findRings 164 = .ok (.getfield 216, 3) := by decide +kernel
theorem dX12_findRings_167 : decode cX12_findRings 167 = .ok (.aload_n 0, 1) := by decide +kernel
theorem dX12_findRings_168 : decode cX12_findRings 168 = .ok (.iload_n 1, 1) := by decide +kernel
theorem dX12_findRings_169 : decode cX12_findRings 169 = .ok (.iload 4, 2) := by decide +kernel
theorem dX12_findRings_171 : decode cX12_findRings 171 = .ok (.invokevirtual 545, 3) := by decide +kernel
theorem dX12_findRings_174 : decode cX12_findRings 174 = .ok (.aload_n 0, 1) := by decide +kernel
theorem dX12_findRings_175 : decode cX12_findRings 175 = .ok (.getfield 228, 3) := by decide +kernel
theorem dX12_findRings_178 : decode cX12_findRings 178 = .ok (.iload_n 1, 1) := by decide +kernel
theorem dX12_findRings_179 : decode cX12_findRings 179 = .ok (.iaload, 1) := by decide +kernel
theorem dX12_findRings_180 : decode cX12_findRings 180 = .ok (.iastore, 1) := by decide +kernel
theorem dX12_findRings_181 : decode cX12_findRings 181 = .ok (.iinc 4 1, 3) := by decide +kernel
theorem dX12_findRings_184 : decode cX12_findRings 184 = .ok (.goto (-59), 3) := by decide +kernel
theorem dX12_findRings_187 : decode cX12_findRings 187 = .ok (.aload_n 0, 1) := by decide +kernel
theorem dX12_findRings_188 : decode cX12_findRings 188 = .ok (.getfield 228, 3) := by decide +kernel
theorem dX12_findRings_191 : decode cX12_findRings 191 = .ok (.iload_n 1, 1) := by decide +kernel
theorem dX12_findRings_192 : decode cX12_findRings 192 = .ok (.dup2, 1) := by decide +kernel
theorem dX12_findRings_193 : decode cX12_findRings 193 = .ok (.iaload, 1) := by decide +kernel
theorem dX12_findRings_194 : decode cX12_findRings 194 = .ok (.iconst 1, 1) := by decide +kernel
theorem dX12_findRings_195 : decode cX12_findRings 195 = .ok (.iadd, 1) := by decide +kernel
theorem dX12_findRings_196 : decode cX12_findRings 196 = .ok (.iastore, 1) := by decide +kernel
theorem dX12_findRings_197 : decode cX12_findRings 197 = .ok (.iinc 3 1, 3) := by decide +kernel
theorem dX12_findRings_200 : decode cX12_findRings 200 = .ok (.goto (-116), 3) := by decide +kernel
theorem dX12_findRings_203 : decode cX12_findRings 203 = .ok (.return_, 1) := by decide +kernel
theorem dX12_findWays_0 : decode cX12_findWays 0 = .ok (.iconst 0, 1) := by decide +kernel
theorem dX12_findWays_1 : decode cX12_findWays 1 = .ok (.istore_n 2, 1) := by decide +kernel
theorem dX12_findWays_2 : decode cX12_findWays 2 = .ok (.iload_n 2, 1) := by decide +kernel
theorem dX12_findWays_3 : decode cX12_findWays 3 = .ok (.aload_n 0, 1) := by decide +kernel
theorem dX12_findWays_4 : decode cX12_findWays 4 = .ok (.getfield 183, 3) := by decide +kernel
theorem dX12_findWays_7 : decode cX12_findWays 7 = .ok (.iload_n 1, 1) := by decide +kernel
theorem dX12_findWays_8 : decode cX12_findWays 8 = .ok (.iaload, 1) := by decide +kernel
theorem dX12_findWays_9 : decode cX12_findWays 9 = .ok (.if_icmp .ge 16, 3) := by decide +kernel
theorem dX12_findWays_12 : decode cX12_findWays 12 = .ok (.aload_n 0, 1) := by decide +kernel
theorem dX12_findWays_13 : decode cX12_findWays 13 = .ok (.getfield 249, 3) := by decide +kernel
theorem dX12_findWays_16 : decode cX12_findWays 16 = .ok (.iload_n 2, 1) := by decide +kernel
theorem dX12_findWays_17 : decode cX12_findWays 17 = .ok (.iconst 0, 1) := by decide +kernel
theorem dX12_findWays_18 : decode cX12_findWays 18 = .ok (.bastore, 1) := by decide +kernel
theorem dX12_findWays_19 : decode cX12_findWays 19 = .ok (.iinc 2 1, 3) := by decide +kernel
theorem dX12_findWays_22 : decode cX12_findWays 22 = .ok (.goto (-20), 3) := by decide +kernel
theorem dX12_findWays_25 : decode cX12_findWays 25 = .ok (.iconst 0, 1) := by decide +kernel
theorem dX12_findWays_26 : decode cX12_findWays 26 = .ok (.istore_n 2, 1) := by decide +kernel
theorem dX12_findWays_27 : decode cX12_findWays 27 = .ok (.iload_n 2, 1) := by decide +kernel
theorem dX12_findWays_28 : decode cX12_findWays 28 = .ok (.aload_n 0, 1) := by decide +kernel
theorem dX12_findWays_29 : decode cX12_findWays 29 = .ok (.getfield 234, 3) := by decide +kernel
theorem dX12_findWays_32 : decode cX12_findWays 32 = .ok (.iload_n 1, 1) := by decide +kernel
theorem dX12_findWays_33 : decode cX12_findWays 33 = .ok (.iaload, 1) := by decide +kernel
theorem dX12_findWays_34 : decode cX12_findWays 34 = .ok (.if_icmp .ge 88, 3) := by decide +kernel
theorem dX12_findWays_37 : decode cX12_findWays 37 = .ok (.aload_n 0, 1) := by decide +kernel
theorem dX12_findWays_38 : decode cX12_findWays 38 = .ok (.getfield 240, 3) := by decide +kernel
theorem dX12_findWays_41 : decode cX12_findWays 41 = .ok (.sipush 128, 3) := by decide +kernel
theorem dX12_findWays_44 : decode cX12_findWays 44 = .ok (.iload_n 1, 1) := by decide +kernel
theorem dX12_findWays_45 : decode cX12_findWays 45 = .ok (.imul, 1) := by decide +kernel
theorem dX12_findWays_46 : decode cX12_findWays 46 = .ok (.iload_n 2, 1) := by decide +kernel
theorem dX12_findWays_47 : decode cX12_findWays 47 = .ok (.iadd, 1) := by decide +kernel
theorem dX12_findWays_48 : decode cX12_findWays 48 = .ok (.iaload, 1) := by decide +kernel
theorem dX12_findWays_49 : decode cX12_findWays 49 = .ok (.istore_n 3, 1) := by decide +kernel
theorem dX12_findWays_50 : decode cX12_findWays 50 = .ok (.aload_n 0, 1) := by decide +kernel
theorem dX12_findWays_51 : decode cX12_findWays 51 = .ok (.getfield 249, 3) := by decide +kernel
theorem dX12_findWays_54 : decode cX12_findWays 54 = .ok (.iload_n 3, 1) := by decide +kernel
theorem dX12_findWays_55 : decode cX12_findWays 55 = .ok (.baload, 1) := by decide +kernel
theorem dX12_findWays_56 : decode cX12_findWays 56 = .ok (.ifCond .eq 6, 3) := by decide +kernel
theorem dX12_findWays_59 : decode cX12_findWays 59 = .ok (.goto 57, 3) := by decide +kernel
theorem dX12_findWays_62 : decode cX12_findWays 62 = .ok (.aload_n 0, 1) := by decide +kernel
theorem dX12_findWays_63 : decode cX12_findWays 63 = .ok (.getfield 249, 3) := by decide +kernel
theorem dX12_findWays_66 : decode cX12_findWays 66 = .ok (.iload_n 3, 1) := by decide +kernel
theorem dX12_findWays_67 : decode cX12_findWays 67 = .ok (.iconst 1, 1) := by decide +kernel
theorem dX12_findWays_68 : decode cX12_findWays 68 = .ok (.bastore, 1) := by decide +kernel
theorem dX12_findWays_69 : decode cX12_findWays 69 = .ok (.aload_n 0, 1) := by decide +kernel
theorem dX12_findWays_70 : decode cX12_findWays 70 = .ok (.getfield 198, 3) := by decide +kernel
theorem dX12_findWays_73 : decode cX12_findWays 73 = .ok (.aload_n 0, 1) := by decide +kernel
theorem dX12_findWays_74 : decode cX12_findWays 74 = .ok (.iload_n 1, 1) := by decide +kernel
theorem dX12_findWays_75 : decode cX12_findWays 75 = .ok (.iload_n 3, 1) := by decide +kernel
theorem dX12_findWays_76 : decode cX12_findWays 76 = .ok (.invokevirtual 545, 3) := by decide +kernel
theorem dX12_findWays_79 : decode cX12_findWays 79 = .ok (.iconst 0, 1) := by decide +kernel
theorem dX12_findWays_80 : decode cX12_findWays 80 = .ok (.iastore, 1) := by decide +kernel
theorem dX12_findWays_81 : decode cX12_findWays 81 = .ok (.aload_n 0, 1) := by decide +kernel
theorem dX12_findWays_82 : decode cX12_findWays 82 = .ok (.getfield 201, 3) := by decide +kernel
theorem dX12_findWays_85 : decode cX12_findWays 85 = .ok (.aload_n 0, 1) := by decide +kernel
theorem dX12_findWays_86 : decode cX12_findWays 86 = .ok (.iload_n 1, 1) := by decide +kernel
theorem dX12_findWays_87 : decode cX12_findWays 87 = .ok (.iload_n 3, 1) := by decide +kernel
theorem dX12_findWays_88 : decode cX12_findWays 88 = .ok (.invokevirtual 545, 3) := by decide +kernel
theorem dX12_findWays_91 : decode cX12_findWays 91 = .ok (.iconst (-1), 1) := by decide +kernel
theorem dX12_findWays_92 : decode cX12_findWays 92 = .ok (.iastore, 1) := by decide +kernel
theorem dX12_findWays_93 : decode cX12_findWays 93 = .ok (.aload_n 0, 1) := by decide +kernel
theorem dX12_findWays_94 : decode cX12_findWays 94 = .ok (.getfield 204, 3) := by decide +kernel
theorem dX12_findWays_97 : decode cX12_findWays 97 = .ok (.aload_n 0, 1) := by decide +kernel
theorem dX12_findWays_98 : decode cX12_findWays 98 = .ok (.iload_n 1, 1) := by decide +kernel
theorem dX12_findWays_99 : decode cX12_findWays 99 = .ok (.iload_n 3, 1) := by decide +kernel
theorem dX12_findWays_100 : decode cX12_findWays 100 = .ok (.invokevirtual 545, 3) := by decide +kernel
theorem dX12_findWays_103 : decode cX12_findWays 103 = .ok (.aload_n 0, 1) := by decide +kernel
theorem dX12_findWays_104 : decode cX12_findWays 104 = .ok (.getfield 237, 3) := by decide +kernel
theorem dX12_findWays_107 : decode cX12_findWays 107 = .ok (.sipush 128, 3) := by decide +kernel
theorem dX12_findWays_110 : decode cX12_findWays 110 = .ok (.iload_n 1, 1) := by decide +kernel
theorem dX12_findWays_111 : decode cX12_findWays 111 = .ok (.imul, 1) := by decide +kernel
theorem dX12_findWays_112 : decode cX12_findWays 112 = .ok (.iload_n 2, 1) := by decide +kernel
theorem dX12_findWays_113 : decode cX12_findWays 113 = .ok (.iadd, 1) := by decide +kernel
theorem dX12_findWays_114 : decode cX12_findWays 114 = .ok (.iaload, 1) := by decide +kernel
theorem dX12_findWays_115 : decode cX12_findWays 115 = .ok (.iastore, 1) := by decide +kernel
theorem dX12_findWays_116 : decode cX12_findWays 116 = .ok (.iinc 2 1, 3) := by decide +kernel
theorem dX12_findWays_119 : decode cX12_findWays 119 = .ok (.goto (-92), 3) := by decide +kernel
theorem dX12_findWays_122 : decode cX12_findWays 122 = .ok (.iconst 0, 1) := by decide +kernel
theorem dX12_findWays_123 : decode cX12_findWays 123 = .ok (.istore_n 2, 1) := by decide +kernel
theorem dX12_findWays_124 : decode cX12_findWays 124 = .ok (.iload_n 2, 1) := by decide +kernel
theorem dX12_findWays_125 : decode cX12_findWays 125 = .ok (.aload_n 0, 1) := by decide +kernel
theorem dX12_findWays_126 : decode cX12_findWays 126 = .ok (.getfield 183, 3) := by decide +kernel
theorem dX12_findWays_129 : decode cX12_findWays 129 = .ok (.iload_n 1, 1) := by decide +kernel
theorem dX12_findWays_130 : decode cX12_findWays 130 = .ok (.iaload, 1) := by decide +kernel
theorem dX12_findWays_131 : decode cX12_findWays 131 = .ok (.if_icmp .ge 129, 3) := by decide +kernel
theorem dX12_findWays_134 : decode cX12_findWays 134 = .ok (.iconst 0, 1) := by decide +kernel
theorem dX12_findWays_135 : decode cX12_findWays 135 = .ok (.istore_n 3, 1) := by decide +kernel
theorem dX12_findWays_136 : decode cX12_findWays 136 = .ok (.iload_n 3, 1) := by decide +kernel
theorem dX12_findWays_137 : decode cX12_findWays 137 = .ok (.aload_n 0, 1) := by decide +kernel
theorem dX12_findWays_138 : decode cX12_findWays 138 = .ok (.iload_n 1, 1) := by decide +kernel
theorem dX12_findWays_139 : decode cX12_findWays 139 = .ok (.iload_n 2, 1) := by decide +kernel
theorem dX12_findWays_140 : decode cX12_findWays 140 = .ok (.invokevirtual 570, 3) := by decide +kernel
theorem dX12_findWays_143 : decode cX12_findWays 143 = .ok (.if_icmp .ge 111, 3) := by decide +kernel
theorem dX12_findWays_146 : decode cX12_findWays 146 = .ok (.aload_n 0, 1) := by decide +kernel
theorem dX12_findWays_147 : decode cX12_findWays 147 = .ok (.iload_n 1, 1) := by decide +kernel
theorem dX12_findWays_148 : decode cX12_findWays 148 = .ok (.iload_n 2, 1) := by decide +kernel
theorem dX12_findWays_149 : decode cX12_findWays 149 = .ok (.iload_n 3, 1) := by decide +kernel
theorem dX12_findWays_150 : decode cX12_findWays 150 = .ok (.invokevirtual 573, 3) := by decide +kernel
theorem dX12_findWays_153 : decode cX12_findWays 153 = .ok (.ifCond .eq 14, 3) := by decide +kernel
theorem dX12_findWays_156 : decode cX12_findWays 156 = .ok (.aload_n 0, 1) := by decide +kernel
theorem dX12_findWays_157 : decode cX12_findWays 157 = .ok (.iload_n 1, 1) := by decide +kernel
theorem dX12_findWays_158 : decode cX12_findWays 158 = .ok (.iload_n 2, 1) := by decide +kernel
theorem dX12_findWays_159 : decode cX12_findWays 159 = .ok (.iload_n 3, 1) := by decide +kernel
theorem dX12_findWays_160 : decode cX12_findWays 160 = .ok (.invokevirtual 577, 3) := by decide +kernel
theorem dX12_findWays_163 : decode cX12_findWays 163 = .ok (.l2i, 1) := by decide +kernel
theorem dX12_findWays_164 : decode cX12_findWays 164 = .ok (.goto 4, 3) := by decide +kernel
theorem dX12_findWays_167 : decode cX12_findWays 167 = .ok (.iconst (-1), 1) := by decide +kernel
theorem dX12_findWays_168 : decode cX12_findWays 168 = .ok (.istore 4, 2) := by decide +kernel
theorem dX12_findWays_170 : decode cX12_findWays 170 = .ok (.iload 4, 2) := by decide +kernel
theorem dX12_findWays_172 : decode cX12_findWays 172 = .ok (.iconst (-1), 1) := by decide +kernel
theorem dX12_findWays_173 : decode cX12_findWays 173 = .ok (.if_icmp .eq 75, 3) := by decide +kernel
theorem dX12_findWays_176 : decode cX12_findWays 176 = .ok (.aload_n 0, 1) := by decide +kernel
theorem dX12_findWays_177 : decode cX12_findWays 177 = .ok (.getfield 249, 3) := by decide +kernel
theorem dX12_findWays_180 : decode cX12_findWays 180 = .ok (.iload 4, 2) := by decide +kernel
theorem dX12_findWays_182 : decode cX12_findWays 182 = .ok (.baload, 1) := by decide +kernel
theorem dX12_findWays_183 : decode cX12_findWays 183 = .ok (.ifCond .eq 6, 3) := by decide +kernel
theorem dX12_findWays_186 : decode cX12_findWays 186 = .ok (.goto 62, 3) := by decide +kernel
theorem dX12_findWays_189 : decode cX12_findWays 189 = .ok (.aload_n 0, 1) := by decide +kernel
theorem dX12_findWays_190 : decode cX12_findWays 190 = .ok (.getfield 249, 3) := by decide +kernel
theorem dX12_findWays_193 : decode cX12_findWays 193 = .ok (.iload 4, 2) := by decide +kernel
theorem dX12_findWays_195 : decode cX12_findWays 195 = .ok (.iconst 1, 1) := by decide +kernel
theorem dX12_findWays_196 : decode cX12_findWays 196 = .ok (.bastore, 1) := by decide +kernel
theorem dX12_findWays_197 : decode cX12_findWays 197 = .ok (.aload_n 0, 1) := by decide +kernel
theorem dX12_findWays_198 : decode cX12_findWays 198 = .ok (.getfield 198, 3) := by decide +kernel
theorem dX12_findWays_201 : decode cX12_findWays 201 = .ok (.aload_n 0, 1) := by decide +kernel
theorem dX12_findWays_202 : decode cX12_findWays 202 = .ok (.iload_n 1, 1) := by decide +kernel
theorem dX12_findWays_203 : decode cX12_findWays 203 = .ok (.iload 4, 2) := by decide +kernel
theorem dX12_findWays_205 : decode cX12_findWays 205 = .ok (.invokevirtual 545, 3) := by decide +kernel
theorem dX12_findWays_208 : decode cX12_findWays 208 = .ok (.aload_n 0, 1) := by decide +kernel
theorem dX12_findWays_209 : decode cX12_findWays 209 = .ok (.getfield 198, 3) := by decide +kernel
theorem dX12_findWays_212 : decode cX12_findWays 212 = .ok (.aload_n 0, 1) := by decide +kernel
theorem dX12_findWays_213 : decode cX12_findWays 213 = .ok (.iload_n 1, 1) := by decide +kernel
theorem dX12_findWays_214 : decode cX12_findWays 214 = .ok (.iload_n 2, 1) := by decide +kernel
theorem dX12_findWays_215 : decode cX12_findWays 215 = .ok (.invokevirtual 545, 3) := by decide +kernel
theorem dX12_findWays_218 : decode cX12_findWays 218 = .ok (.iaload, 1) := by decide +kernel
theorem dX12_findWays_219 : decode cX12_findWays 219 = .ok (.iconst 1, 1) := by decide +kernel
theorem dX12_findWays_220 : decode cX12_findWays 220 = .ok (.iadd, 1) := by decide +kernel
theorem dX12_findWays_221 : decode cX12_findWays 221 = .ok (.iastore, 1) := by decide +kernel
theorem dX12_findWays_222 : decode cX12_findWays 222 = .ok (.aload_n 0, 1) := by decide +kernel
theorem dX12_findWays_223 : decode cX12_findWays 223 = .ok (.getfield 201, 3) := by decide +kernel
theorem dX12_findWays_226 : decode cX12_findWays 226 = .ok (.aload_n 0, 1) := by decide +kernel
theorem dX12_findWays_227 : decode cX12_findWays 227 = .ok (.iload_n 1, 1) := by decide +kernel
theorem dX12_findWays_228 : decode cX12_findWays 228 = .ok (.iload 4, 2) := by decide +kernel
theorem dX12_findWays_230 : decode cX12_findWays 230 = .ok (.invokevirtual 545, 3) := by decide +kernel
theorem dX12_findWays_233 : decode cX12_findWays 233 = .ok (.iload_n 2, 1) := by decide +kernel
theorem dX12_findWays_234 : decode cX12_findWays 234 = .ok (.iastore, 1) := by decide +kernel
theorem dX12_findWays_235 : decode cX12_findWays 235 = .ok (.aload_n 0, 1) := by decide +kernel
theorem dX12_findWays_236 : decode cX12_findWays 236 = .ok (.getfield 204, 3) := by decide +kernel
theorem dX12_findWays_239 : decode cX12_findWays 239 = .ok (.aload_n 0, 1) := by decide +kernel
theorem dX12_findWays_240 : decode cX12_findWays 240 = .ok (.iload_n 1, 1) := by decide +kernel
theorem dX12_findWays_241 : decode cX12_findWays 241 = .ok (.iload 4, 2) := by decide +kernel
theorem dX12_findWays_243 : decode cX12_findWays 243 = .ok (.invokevirtual 545, 3) := by decide +kernel
theorem dX12_findWays_246 : decode cX12_findWays 246 = .ok (.iload_n 3, 1) := by decide +kernel
theorem dX12_findWays_247 : decode cX12_findWays 247 = .ok (.iastore, 1) := by decide +kernel
theorem dX12_findWays_248 : decode cX12_findWays 248 = .ok (.iinc 3 1, 3) := by decide +kernel
theorem dX12_findWays_251 : decode cX12_findWays 251 = .ok (.goto (-115), 3) := by decide +kernel
theorem dX12_findWays_254 : decode cX12_findWays 254 = .ok (.iinc 2 1, 3) := by decide +kernel
theorem dX12_findWays_257 : decode cX12_findWays 257 = .ok (.goto (-133), 3) := by decide +kernel
theorem dX12_findWays_260 : decode cX12_findWays 260 = .ok (.return_, 1) := by decide +kernel
theorem dX12_firstOfGroup_0 : decode cX12_firstOfGroup 0 = .ok (.iconst 0, 1) := by decide +kernel
theorem dX12_firstOfGroup_1 : decode cX12_firstOfGroup 1 = .ok (.istore_n 3, 1) := by decide +kernel
theorem dX12_firstOfGroup_2 : decode cX12_firstOfGroup 2 = .ok (.aload_n 0, 1) := by decide +kernel
theorem dX12_firstOfGroup_3 : decode cX12_firstOfGroup 3 = .ok (.getfield 219, 3) := by decide +kernel
theorem dX12_firstOfGroup_6 : decode cX12_firstOfGroup 6 = .ok (.aload_n 0, 1) := by decide +kernel
theorem dX12_firstOfGroup_7 : decode cX12_firstOfGroup 7 = .ok (.iload_n 1, 1) := by decide +kernel
theorem dX12_firstOfGroup_8 : decode cX12_firstOfGroup 8 = .ok (.iload_n 3, 1) := by decide +kernel
theorem dX12_firstOfGroup_9 : decode cX12_firstOfGroup 9 = .ok (.invokevirtual 545, 3) := by decide +kernel
theorem dX12_firstOfGroup_12 : decode cX12_firstOfGroup 12 = .ok (.iaload, 1) := by decide +kernel
theorem dX12_firstOfGroup_13 : decode cX12_firstOfGroup 13 = .ok (.aload_n 0, 1) := by decide +kernel
theorem dX12_firstOfGroup_14 : decode cX12_firstOfGroup 14 = .ok (.getfield 219, 3) := by decide +kernel
theorem dX12_firstOfGroup_17 : decode cX12_firstOfGroup 17 = .ok (.aload_n 0, 1) := by decide +kernel
theorem dX12_firstOfGroup_18 : decode cX12_firstOfGroup 18 = .ok (.iload_n 1, 1) := by decide +kernel
theorem dX12_firstOfGroup_19 : decode cX12_firstOfGroup 19 = .ok (.iload_n 2, 1) := by decide +kernel
theorem dX12_firstOfGroup_20 : decode cX12_firstOfGroup 20 = .ok (.invokevirtual 545, 3) := by decide +kernel
theorem dX12_firstOfGroup_23 : decode cX12_firstOfGroup 23 = .ok (.iaload, 1) := by decide +kernel
theorem dX12_firstOfGroup_24 : decode cX12_firstOfGroup 24 = .ok (.if_icmp .eq 9, 3) := by decide +kernel
theorem dX12_firstOfGroup_27 : decode cX12_firstOfGroup 27 = .ok (.iinc 3 1, 3) := by decide +kernel
theorem dX12_firstOfGroup_30 : decode cX12_firstOfGroup 30 = .ok (.goto (-28), 3) := by decide +kernel
theorem dX12_firstOfGroup_33 : decode cX12_firstOfGroup 33 = .ok (.iload_n 3, 1) := by decide +kernel
theorem dX12_firstOfGroup_34 : decode cX12_firstOfGroup 34 = .ok (.ireturn, 1) := by decide +kernel
theorem dX12_fits_0 : decode cX12_fits 0 = .ok (.iload_n 2, 1) := by decide +kernel
theorem dX12_fits_1 : decode cX12_fits 1 = .ok (.iconst (-1), 1) := by decide +kernel
theorem dX12_fits_2 : decode cX12_fits 2 = .ok (.if_icmp .eq 8, 3) := by decide +kernel
theorem dX12_fits_5 : decode cX12_fits 5 = .ok (.iload_n 1, 1) := by decide +kernel
theorem dX12_fits_6 : decode cX12_fits 6 = .ok (.iload_n 2, 1) := by decide +kernel
theorem dX12_fits_7 : decode cX12_fits 7 = .ok (.if_icmp .ne 5, 3) := by decide +kernel
theorem dX12_fits_10 : decode cX12_fits 10 = .ok (.iconst 1, 1) := by decide +kernel
theorem dX12_fits_11 : decode cX12_fits 11 = .ok (.ireturn, 1) := by decide +kernel
theorem dX12_fits_12 : decode cX12_fits 12 = .ok (.aload_n 0, 1) := by decide +kernel
theorem dX12_fits_13 : decode cX12_fits 13 = .ok (.iload_n 2, 1) := by decide +kernel
theorem dX12_fits_14 : decode cX12_fits 14 = .ok (.invokevirtual 416, 3) := by decide +kernel
theorem dX12_fits_17 : decode cX12_fits 17 = .ok (.ifCond .eq 26, 3) := by decide +kernel
theorem dX12_fits_20 : decode cX12_fits 20 = .ok (.aload_n 0, 1) := by decide +kernel
theorem dX12_fits_21 : decode cX12_fits 21 = .ok (.iload_n 1, 1) := by decide +kernel
theorem dX12_fits_22 : decode cX12_fits 22 = .ok (.invokevirtual 416, 3) := by decide +kernel
theorem dX12_fits_25 : decode cX12_fits 25 = .ok (.ifCond .eq 16, 3) := by decide +kernel
theorem dX12_fits_28 : decode cX12_fits 28 = .ok (.aload_n 0, 1) := by decide +kernel
theorem dX12_fits_29 : decode cX12_fits 29 = .ok (.iload_n 1, 1) := by decide +kernel
theorem dX12_fits_30 : decode cX12_fits 30 = .ok (.iload_n 2, 1) := by decide +kernel
theorem dX12_fits_31 : decode cX12_fits 31 = .ok (.invokevirtual 445, 3) := by decide +kernel
theorem dX12_fits_34 : decode cX12_fits 34 = .ok (.ifCond .eq 7, 3) := by decide +kernel
theorem dX12_fits_37 : decode cX12_fits 37 = .ok (.iconst 1, 1) := by decide +kernel
theorem dX12_fits_38 : decode cX12_fits 38 = .ok (.goto 4, 3) := by decide +kernel
theorem dX12_fits_41 : decode cX12_fits 41 = .ok (.iconst 0, 1) := by decide +kernel
theorem dX12_fits_42 : decode cX12_fits 42 = .ok (.ireturn, 1) := by decide +kernel
theorem dX12_fits_43 : decode cX12_fits 43 = .ok (.iload_n 1, 1) := by decide +kernel
theorem dX12_fits_44 : decode cX12_fits 44 = .ok (.bipush 30, 2) := by decide +kernel
theorem dX12_fits_46 : decode cX12_fits 46 = .ok (.if_icmp .ge 5, 3) := by decide +kernel
theorem dX12_fits_49 : decode cX12_fits 49 = .ok (.iconst 0, 1) := by decide +kernel
theorem dX12_fits_50 : decode cX12_fits 50 = .ok (.ireturn, 1) := by decide +kernel
theorem dX12_fits_51 : decode cX12_fits 51 = .ok (.iload_n 2, 1) := by decide +kernel
theorem dX12_fits_52 : decode cX12_fits 52 = .ok (.bipush 29, 2) := by decide +kernel
theorem dX12_fits_54 : decode cX12_fits 54 = .ok (.if_icmp .eq 24, 3) := by decide +kernel
theorem dX12_fits_57 : decode cX12_fits 57 = .ok (.iload_n 2, 1) := by decide +kernel
theorem dX12_fits_58 : decode cX12_fits 58 = .ok (.bipush 30, 2) := by decide +kernel
theorem dX12_fits_60 : decode cX12_fits 60 = .ok (.if_icmp .lt 22, 3) := by decide +kernel
theorem dX12_fits_63 : decode cX12_fits 63 = .ok (.aload_n 0, 1) := by decide +kernel
theorem dX12_fits_64 : decode cX12_fits 64 = .ok (.iload_n 1, 1) := by decide +kernel
theorem dX12_fits_65 : decode cX12_fits 65 = .ok (.bipush 30, 2) := by decide +kernel
theorem dX12_fits_67 : decode cX12_fits 67 = .ok (.isub, 1) := by decide +kernel
theorem dX12_fits_68 : decode cX12_fits 68 = .ok (.iload_n 2, 1) := by decide +kernel
theorem dX12_fits_69 : decode cX12_fits 69 = .ok (.bipush 30, 2) := by decide +kernel
theorem dX12_fits_71 : decode cX12_fits 71 = .ok (.isub, 1) := by decide +kernel
theorem dX12_fits_72 : decode cX12_fits 72 = .ok (.invokevirtual 445, 3) := by decide +kernel
theorem dX12_fits_75 : decode cX12_fits 75 = .ok (.ifCond .eq 7, 3) := by decide +kernel
theorem dX12_fits_78 : decode cX12_fits 78 = .ok (.iconst 1, 1) := by decide +kernel
theorem dX12_fits_79 : decode cX12_fits 79 = .ok (.goto 4, 3) := by decide +kernel
theorem dX12_fits_82 : decode cX12_fits 82 = .ok (.iconst 0, 1) := by decide +kernel
theorem dX12_fits_83 : decode cX12_fits 83 = .ok (.ireturn, 1) := by decide +kernel
theorem dX12_flip_0 : decode cX12_flip 0 = .ok (.aload_n 0, 1) := by decide +kernel
theorem dX12_flip_1 : decode cX12_flip 1 = .ok (.iconst 0, 1) := by decide +kernel
theorem dX12_flip_2 : decode cX12_flip 2 = .ok (.putfield 388, 3) := by decide +kernel
theorem dX12_flip_5 : decode cX12_flip 5 = .ok (.iload_n 1, 1) := by decide +kernel
theorem dX12_flip_6 : decode cX12_flip 6 = .ok (.ifCond .lt 21, 3) := by decide +kernel
theorem dX12_flip_9 : decode cX12_flip 9 = .ok (.iload_n 1, 1) := by decide +kernel
theorem dX12_flip_10 : decode cX12_flip 10 = .ok (.aload_n 0, 1) := by decide +kernel
theorem dX12_flip_11 : decode cX12_flip 11 = .ok (.getfield 391, 3) := by decide +kernel
theorem dX12_flip_14 : decode cX12_flip 14 = .ok (.if_icmp .ge 13, 3) := by decide +kernel
theorem dX12_flip_17 : decode cX12_flip 17 = .ok (.iload_n 2, 1) := by decide +kernel
theorem dX12_flip_18 : decode cX12_flip 18 = .ok (.ifCond .lt 9, 3) := by decide +kernel
theorem dX12_flip_21 : decode cX12_flip 21 = .ok (.iload_n 2, 1) := by decide +kernel
theorem dX12_flip_22 : decode cX12_flip 22 = .ok (.bipush 7, 2) := by decide +kernel
theorem dX12_flip_24 : decode cX12_flip 24 = .ok (.if_icmp .le 5, 3) := by decide +kernel
theorem dX12_flip_27 : decode cX12_flip 27 = .ok (.iconst 0, 1) := by decide +kernel
theorem dX12_flip_28 : decode cX12_flip 28 = .ok (.ireturn, 1) := by decide +kernel
theorem dX12_flip_29 : decode cX12_flip 29 = .ok (.aload_n 0, 1) := by decide +kernel
theorem dX12_flip_30 : decode cX12_flip 30 = .ok (.getfield 7, 3) := by decide +kernel
theorem dX12_flip_33 : decode cX12_flip 33 = .ok (.iload_n 1, 1) := by decide +kernel
theorem dX12_flip_34 : decode cX12_flip 34 = .ok (.aload_n 0, 1) := by decide +kernel
theorem dX12_flip_35 : decode cX12_flip 35 = .ok (.getfield 7, 3) := by decide +kernel
theorem dX12_flip_38 : decode cX12_flip 38 = .ok (.iload_n 1, 1) := by decide +kernel
theorem dX12_flip_39 : decode cX12_flip 39 = .ok (.baload, 1) := by decide +kernel
theorem dX12_flip_40 : decode cX12_flip 40 = .ok (.iconst 1, 1) := by decide +kernel
theorem dX12_flip_41 : decode cX12_flip 41 = .ok (.iload_n 2, 1) := by decide +kernel
theorem dX12_flip_42 : decode cX12_flip 42 = .ok (.ishl, 1) := by decide +kernel
theorem dX12_flip_43 : decode cX12_flip 43 = .ok (.ixor, 1) := by decide +kernel
theorem dX12_flip_44 : decode cX12_flip 44 = .ok (.i2b, 1) := by decide +kernel
theorem dX12_flip_45 : decode cX12_flip 45 = .ok (.bastore, 1) := by decide +kernel
theorem dX12_flip_46 : decode cX12_flip 46 = .ok (.iconst 1, 1) := by decide +kernel
theorem dX12_flip_47 : decode cX12_flip 47 = .ok (.ireturn, 1) := by decide +kernel
theorem dX12_gather_0 : decode cX12_gather 0 = .ok (.aload_n 0, 1) := by decide +kernel
theorem dX12_gather_1 : decode cX12_gather 1 = .ok (.getfield 294, 3) := by decide +kernel
theorem dX12_gather_4 : decode cX12_gather 4 = .ok (.sipush 4400, 3) := by decide +kernel
theorem dX12_gather_7 : decode cX12_gather 7 = .ok (.iload_n 1, 1) := by decide +kernel
theorem dX12_gather_8 : decode cX12_gather 8 = .ok (.imul, 1) := by decide +kernel
theorem dX12_gather_9 : decode cX12_gather 9 = .ok (.aload_n 0, 1) := by decide +kernel
theorem dX12_gather_10 : decode cX12_gather 10 = .ok (.getfield 297, 3) := by decide +kernel
theorem dX12_gather_13 : decode cX12_gather 13 = .ok (.iload_n 1, 1) := by decide +kernel
theorem dX12_gather_14 : decode cX12_gather 14 = .ok (.iaload, 1) := by decide +kernel
theorem dX12_gather_15 : decode cX12_gather 15 = .ok (.iadd, 1) := by decide +kernel
theorem dX12_gather_16 : decode cX12_gather 16 = .ok (.iload_n 2, 1) := by decide +kernel
theorem dX12_gather_17 : decode cX12_gather 17 = .ok (.iastore, 1) := by decide +kernel
theorem dX12_gather_18 : decode cX12_gather 18 = .ok (.aload_n 0, 1) := by decide +kernel
theorem dX12_gather_19 : decode cX12_gather 19 = .ok (.getfield 297, 3) := by decide +kernel
theorem dX12_gather_22 : decode cX12_gather 22 = .ok (.iload_n 1, 1) := by decide +kernel
theorem dX12_gather_23 : decode cX12_gather 23 = .ok (.dup2, 1) := by decide +kernel
theorem dX12_gather_24 : decode cX12_gather 24 = .ok (.iaload, 1) := by decide +kernel
theorem dX12_gather_25 : decode cX12_gather 25 = .ok (.iconst 1, 1) := by decide +kernel
theorem dX12_gather_26 : decode cX12_gather 26 = .ok (.iadd, 1) := by decide +kernel
theorem dX12_gather_27 : decode cX12_gather 27 = .ok (.iastore, 1) := by decide +kernel
theorem dX12_gather_28 : decode cX12_gather 28 = .ok (.return_, 1) := by decide +kernel
theorem dX12_get_0 : decode cX12_get 0 = .ok (.aload_n 0, 1) := by decide +kernel
theorem dX12_get_1 : decode cX12_get 1 = .ok (.aload_n 0, 1) := by decide +kernel
theorem dX12_get_2 : decode cX12_get 2 = .ok (.iload_n 1, 1) := by decide +kernel
theorem dX12_get_3 : decode cX12_get 3 = .ok (.invokevirtual 473, 3) := by decide +kernel
theorem dX12_get_6 : decode cX12_get 6 = .ok (.ifCond .eq 27, 3) := by decide +kernel
theorem dX12_get_9 : decode cX12_get 9 = .ok (.iload_n 2, 1) := by decide +kernel
theorem dX12_get_10 : decode cX12_get 10 = .ok (.ifCond .lt 23, 3) := by decide +kernel
theorem dX12_get_13 : decode cX12_get 13 = .ok (.iload_n 2, 1) := by decide +kernel
theorem dX12_get_14 : decode cX12_get 14 = .ok (.aload_n 0, 1) := by decide +kernel
theorem dX12_get_15 : decode cX12_get 15 = .ok (.aload_n 0, 1) := by decide +kernel
theorem dX12_get_16 : decode cX12_get 16 = .ok (.getfield 125, 3) := by decide +kernel
theorem dX12_get_19 : decode cX12_get 19 = .ok (.iload_n 1, 1) := by decide +kernel
theorem dX12_get_20 : decode cX12_get 20 = .ok (.iaload, 1) := by decide +kernel
theorem dX12_get_21 : decode cX12_get 21 = .ok (.aload_n 0, 1) := by decide +kernel
theorem dX12_get_22 : decode cX12_get 22 = .ok (.getfield 128, 3) := by decide +kernel
theorem dX12_get_25 : decode cX12_get 25 = .ok (.iload_n 1, 1) := by decide +kernel
theorem dX12_get_26 : decode cX12_get 26 = .ok (.iaload, 1) := by decide +kernel
theorem dX12_get_27 : decode cX12_get 27 = .ok (.invokevirtual 455, 3) := by decide +kernel
theorem dX12_get_30 : decode cX12_get 30 = .ok (.if_icmp .lt 7, 3) := by decide +kernel
theorem dX12_get_33 : decode cX12_get 33 = .ok (.iconst 1, 1) := by decide +kernel
theorem dX12_get_34 : decode cX12_get 34 = .ok (.goto 4, 3) := by decide +kernel
theorem dX12_get_37 : decode cX12_get 37 = .ok (.iconst 0, 1) := by decide +kernel
theorem dX12_get_38 : decode cX12_get 38 = .ok (.putfield 388, 3) := by decide +kernel
theorem dX12_get_41 : decode cX12_get 41 = .ok (.aload_n 0, 1) := by decide +kernel
theorem dX12_get_42 : decode cX12_get 42 = .ok (.getfield 388, 3) := by decide +kernel
theorem dX12_get_45 : decode cX12_get 45 = .ok (.ifCond .le 7, 3) := by decide +kernel
theorem dX12_get_48 : decode cX12_get 48 = .ok (.lconst 0, 1) := by decide +kernel
theorem dX12_get_49 : decode cX12_get 49 = .ok (.goto 16, 3) := by decide +kernel
theorem dX12_get_52 : decode cX12_get 52 = .ok (.aload_n 0, 1) := by decide +kernel
theorem dX12_get_53 : decode cX12_get 53 = .ok (.getfield 138, 3) := by decide +kernel
theorem dX12_get_56 : decode cX12_get 56 = .ok (.aload_n 0, 1) := by decide +kernel
theorem dX12_get_57 : decode cX12_get 57 = .ok (.getfield 131, 3) := by decide +kernel
theorem dX12_get_60 : decode cX12_get 60 = .ok (.iload_n 1, 1) := by decide +kernel
theorem dX12_get_61 : decode cX12_get 61 = .ok (.iaload, 1) := by decide +kernel
theorem dX12_get_62 : decode cX12_get 62 = .ok (.iload_n 2, 1) := by decide +kernel
theorem dX12_get_63 : decode cX12_get 63 = .ok (.iadd, 1) := by decide +kernel
theorem dX12_get_64 : decode cX12_get 64 = .ok (.laload, 1) := by decide +kernel
theorem dX12_get_65 : decode cX12_get 65 = .ok (.lreturn, 1) := by decide +kernel
theorem dX12_getStatic_0 : decode cX12_getStatic 0 = .ok (.aload_n 0, 1) := by decide +kernel
theorem dX12_getStatic_1 : decode cX12_getStatic 1 = .ok (.iload_n 1, 1) := by decide +kernel
theorem dX12_getStatic_2 : decode cX12_getStatic 2 = .ok (.iload_n 2, 1) := by decide +kernel
theorem dX12_getStatic_3 : decode cX12_getStatic 3 = .ok (.invokevirtual 506, 3) := by decide +kernel
theorem dX12_getStatic_6 : decode cX12_getStatic 6 = .ok (.istore_n 3, 1) := by decide +kernel
theorem dX12_getStatic_7 : decode cX12_getStatic 7 = .ok (.aload_n 0, 1) := by decide +kernel
theorem dX12_getStatic_8 : decode cX12_getStatic 8 = .ok (.iload_n 3, 1) := by decide +kernel
theorem dX12_getStatic_9 : decode cX12_getStatic 9 = .ok (.iconst (-1), 1) := by decide +kernel
theorem dX12_getStatic_10 : decode cX12_getStatic 10 = .ok (.if_icmp .ne 7, 3) := by decide +kernel
theorem dX12_getStatic_13 : decode cX12_getStatic 13 = .ok (.iconst 1, 1) := by decide +kernel
theorem dX12_getStatic_14 : decode cX12_getStatic 14 = .ok (.goto 4, 3) := by decide +kernel
theorem dX12_getStatic_17 : decode cX12_getStatic 17 = .ok (.iconst 0, 1) := by decide +kernel
theorem dX12_getStatic_18 : decode cX12_getStatic 18 = .ok (.putfield 388, 3) := by decide +kernel
theorem dX12_getStatic_21 : decode cX12_getStatic 21 = .ok (.aload_n 0, 1) := by decide +kernel
theorem dX12_getStatic_22 : decode cX12_getStatic 22 = .ok (.getfield 388, 3) := by decide +kernel
theorem dX12_getStatic_25 : decode cX12_getStatic 25 = .ok (.ifCond .le 7, 3) := by decide +kernel
theorem dX12_getStatic_28 : decode cX12_getStatic 28 = .ok (.lconst 0, 1) := by decide +kernel
theorem dX12_getStatic_29 : decode cX12_getStatic 29 = .ok (.goto 9, 3) := by decide +kernel
theorem dX12_getStatic_32 : decode cX12_getStatic 32 = .ok (.aload_n 0, 1) := by decide +kernel
theorem dX12_getStatic_33 : decode cX12_getStatic 33 = .ok (.getfield 84, 3) := by decide +kernel
theorem dX12_getStatic_36 : decode cX12_getStatic 36 = .ok (.iload_n 3, 1) := by decide +kernel
theorem dX12_getStatic_37 : decode cX12_getStatic 37 = .ok (.laload, 1) := by decide +kernel
theorem dX12_getStatic_38 : decode cX12_getStatic 38 = .ok (.lreturn, 1) := by decide +kernel
theorem dX12_give_0 : decode cX12_give 0 = .ok (.aload_n 0, 1) := by decide +kernel
theorem dX12_give_1 : decode cX12_give 1 = .ok (.iload_n 1, 1) := by decide +kernel
theorem dX12_give_2 : decode cX12_give 2 = .ok (.putfield 785, 3) := by decide +kernel
theorem dX12_give_5 : decode cX12_give 5 = .ok (.aload_n 0, 1) := by decide +kernel
theorem dX12_give_6 : decode cX12_give 6 = .ok (.lload_n 2, 1) := by decide +kernel
theorem dX12_give_7 : decode cX12_give 7 = .ok (.putfield 788, 3) := by decide +kernel
theorem dX12_give_10 : decode cX12_give 10 = .ok (.return_, 1) := by decide +kernel
theorem dX12_grown_0 : decode cX12_grown 0 = .ok (.aload_n 0, 1) := by decide +kernel
theorem dX12_grown_1 : decode cX12_grown 1 = .ok (.iconst 0, 1) := by decide +kernel
theorem dX12_grown_2 : decode cX12_grown 2 = .ok (.putfield 388, 3) := by decide +kernel
theorem dX12_grown_5 : decode cX12_grown 5 = .ok (.iload_n 1, 1) := by decide +kernel
theorem dX12_grown_6 : decode cX12_grown 6 = .ok (.ifCond .lt 20, 3) := by decide +kernel
theorem dX12_grown_9 : decode cX12_grown 9 = .ok (.iload_n 1, 1) := by decide +kernel
theorem dX12_grown_10 : decode cX12_grown 10 = .ok (.aload_n 0, 1) := by decide +kernel
theorem dX12_grown_11 : decode cX12_grown 11 = .ok (.getfield 612, 3) := by decide +kernel
theorem dX12_grown_14 : decode cX12_grown 14 = .ok (.if_icmp .ge 12, 3) := by decide +kernel
theorem dX12_grown_17 : decode cX12_grown 17 = .ok (.aload_n 0, 1) := by decide +kernel
theorem dX12_grown_18 : decode cX12_grown 18 = .ok (.getfield 259, 3) := by decide +kernel
theorem dX12_grown_21 : decode cX12_grown 21 = .ok (.iload_n 1, 1) := by decide +kernel
theorem dX12_grown_22 : decode cX12_grown 22 = .ok (.iaload, 1) := by decide +kernel
theorem dX12_grown_23 : decode cX12_grown 23 = .ok (.goto 4, 3) := by decide +kernel
theorem dX12_grown_26 : decode cX12_grown 26 = .ok (.iconst (-1), 1) := by decide +kernel
theorem dX12_grown_27 : decode cX12_grown 27 = .ok (.ireturn, 1) := by decide +kernel
theorem dX12_growth_0 : decode cX12_growth 0 = .ok (.aload_n 0, 1) := by decide +kernel
theorem dX12_growth_1 : decode cX12_growth 1 = .ok (.aload_n 0, 1) := by decide +kernel
theorem dX12_growth_2 : decode cX12_growth 2 = .ok (.iload_n 1, 1) := by decide +kernel
theorem dX12_growth_3 : decode cX12_growth 3 = .ok (.invokevirtual 542, 3) := by decide +kernel
theorem dX12_growth_6 : decode cX12_growth 6 = .ok (.ifCond .eq 20, 3) := by decide +kernel
theorem dX12_growth_9 : decode cX12_growth 9 = .ok (.aload_n 0, 1) := by decide +kernel
theorem dX12_growth_10 : decode cX12_growth 10 = .ok (.iload_n 2, 1) := by decide +kernel
theorem dX12_growth_11 : decode cX12_growth 11 = .ok (.invokevirtual 542, 3) := by decide +kernel
theorem dX12_growth_14 : decode cX12_growth 14 = .ok (.ifCond .eq 12, 3) := by decide +kernel
theorem dX12_growth_17 : decode cX12_growth 17 = .ok (.iload_n 3, 1) := by decide +kernel
theorem dX12_growth_18 : decode cX12_growth 18 = .ok (.ifCond .lt 8, 3) := by decide +kernel
theorem dX12_growth_21 : decode cX12_growth 21 = .ok (.iload_n 3, 1) := by decide +kernel
theorem dX12_growth_22 : decode cX12_growth 22 = .ok (.iconst 2, 1) := by decide +kernel
theorem dX12_growth_23 : decode cX12_growth 23 = .ok (.if_icmp .le 7, 3) := by decide +kernel
theorem dX12_growth_26 : decode cX12_growth 26 = .ok (.iconst 1, 1) := by decide +kernel
theorem dX12_growth_27 : decode cX12_growth 27 = .ok (.goto 4, 3) := by decide +kernel
theorem dX12_growth_30 : decode cX12_growth 30 = .ok (.iconst 0, 1) := by decide +kernel
theorem dX12_growth_31 : decode cX12_growth 31 = .ok (.putfield 388, 3) := by decide +kernel
theorem dX12_growth_34 : decode cX12_growth 34 = .ok (.aload_n 0, 1) := by decide +kernel
theorem dX12_growth_35 : decode cX12_growth 35 = .ok (.getfield 388, 3) := by decide +kernel
theorem dX12_growth_38 : decode cX12_growth 38 = .ok (.ifCond .le 5, 3) := by decide +kernel
theorem dX12_growth_41 : decode cX12_growth 41 = .ok (.iconst 0, 1) := by decide +kernel
theorem dX12_growth_42 : decode cX12_growth 42 = .ok (.ireturn, 1) := by decide +kernel
theorem dX12_growth_43 : decode cX12_growth 43 = .ok (.aload_n 0, 1) := by decide +kernel
theorem dX12_growth_44 : decode cX12_growth 44 = .ok (.iconst 0, 1) := by decide +kernel
theorem dX12_growth_45 : decode cX12_growth 45 = .ok (.putfield 612, 3) := by decide +kernel
theorem dX12_growth_48 : decode cX12_growth 48 = .ok (.iload_n 3, 1) := by decide +kernel
theorem dX12_growth_49 : decode cX12_growth 49 = .ok (.iconst 1, 1) := by decide +kernel
theorem dX12_growth_50 : decode cX12_growth 50 = .ok (.if_icmp .ne 7, 3) := by decide +kernel
theorem dX12_growth_53 : decode cX12_growth 53 = .ok (.iload_n 1, 1) := by decide +kernel
theorem dX12_growth_54 : decode cX12_growth 54 = .ok (.goto 4, 3) := by decide +kernel
theorem dX12_growth_57 : decode cX12_growth 57 = .ok (.iload_n 2, 1) := by decide +kernel
theorem dX12_growth_58 : decode cX12_growth 58 = .ok (.istore 4, 2) := by decide +kernel
theorem dX12_growth_60 : decode cX12_growth 60 = .ok (.iload_n 3, 1) := by decide +kernel
theorem dX12_growth_61 : decode cX12_growth 61 = .ok (.iconst 1, 1) := by decide +kernel
theorem dX12_growth_62 : decode cX12_growth 62 = .ok (.if_icmp .ne 7, 3) := by decide +kernel
theorem dX12_growth_65 : decode cX12_growth 65 = .ok (.iload_n 2, 1) := by decide +kernel
theorem dX12_growth_66 : decode cX12_growth 66 = .ok (.goto 4, 3) := by decide +kernel
theorem dX12_growth_69 : decode cX12_growth 69 = .ok (.iload_n 1, 1) := by decide +kernel
theorem dX12_growth_70 : decode cX12_growth 70 = .ok (.istore 5, 2) := by decide +kernel
theorem dX12_growth_72 : decode cX12_growth 72 = .ok (.iconst 0, 1) := by decide +kernel
theorem dX12_growth_73 : decode cX12_growth 73 = .ok (.istore 6, 2) := by decide +kernel
theorem dX12_growth_75 : decode cX12_growth 75 = .ok (.iload 6, 2) := by decide +kernel
theorem dX12_growth_77 : decode cX12_growth 77 = .ok (.aload_n 0, 1) := by decide +kernel
theorem dX12_growth_78 : decode cX12_growth 78 = .ok (.getfield 183, 3) := by decide +kernel
theorem dX12_growth_81 : decode cX12_growth 81 = .ok (.iload 4, 2) := by decide +kernel
theorem dX12_growth_83 : decode cX12_growth 83 = .ok (.iaload, 1) := by decide +kernel
theorem dX12_growth_84 : decode cX12_growth 84 = .ok (.if_icmp .ge 89, 3) := by decide +kernel
theorem dX12_growth_87 : decode cX12_growth 87 = .ok (.aload_n 0, 1) := by decide +kernel
theorem dX12_growth_88 : decode cX12_growth 88 = .ok (.iload 5, 2) := by decide +kernel
theorem dX12_growth_90 : decode cX12_growth 90 = .ok (.aload_n 0, 1) := by decide +kernel
theorem dX12_growth_91 : decode cX12_growth 91 = .ok (.getfield 186, 3) := by decide +kernel
theorem dX12_growth_94 : decode cX12_growth 94 = .ok (.aload_n 0, 1) := by decide +kernel
theorem dX12_growth_95 : decode cX12_growth 95 = .ok (.iload 4, 2) := by decide +kernel
theorem dX12_growth_97 : decode cX12_growth 97 = .ok (.iload 6, 2) := by decide +kernel
theorem dX12_growth_99 : decode cX12_growth 99 = .ok (.invokevirtual 545, 3) := by decide +kernel
theorem dX12_growth_102 : decode cX12_growth 102 = .ok (.iaload, 1) := by decide +kernel
theorem dX12_growth_103 : decode cX12_growth 103 = .ok (.invokevirtual 615, 3) := by decide +kernel
theorem dX12_growth_106 : decode cX12_growth 106 = .ok (.istore 7, 2) := by decide +kernel
theorem dX12_growth_108 : decode cX12_growth 108 = .ok (.iload_n 3, 1) := by decide +kernel
theorem dX12_growth_109 : decode cX12_growth 109 = .ok (.iconst 2, 1) := by decide +kernel
theorem dX12_growth_110 : decode cX12_growth 110 = .ok (.if_icmp .ne 27, 3) := by decide +kernel
theorem dX12_growth_113 : decode cX12_growth 113 = .ok (.iload 7, 2) := by decide +kernel
theorem dX12_growth_115 : decode cX12_growth 115 = .ok (.iconst (-1), 1) := by decide +kernel
theorem dX12_growth_116 : decode cX12_growth 116 = .ok (.if_icmp .eq 51, 3) := by decide +kernel
theorem dX12_growth_119 : decode cX12_growth 119 = .ok (.aload_n 0, 1) := by decide +kernel
theorem dX12_growth_120 : decode cX12_growth 120 = .ok (.iload 5, 2) := by decide +kernel
theorem dX12_growth_122 : decode cX12_growth 122 = .ok (.iload 7, 2) := by decide +kernel
theorem dX12_growth_124 : decode cX12_growth 124 = .ok (.iload 4, 2) := by decide +kernel
theorem dX12_growth_126 : decode cX12_growth 126 = .ok (.iload 6, 2) := by decide +kernel
theorem dX12_growth_128 : decode cX12_growth 128 = .ok (.invokevirtual 618, 3) := by decide +kernel
theorem dX12_growth_131 : decode cX12_growth 131 = .ok (.ifCond .ne 15, 3) := by decide +kernel
theorem dX12_growth_134 : decode cX12_growth 134 = .ok (.goto 33, 3) := by decide +kernel
theorem dX12_growth_137 : decode cX12_growth 137 = .ok (.iload 7, 2) := by decide +kernel
theorem dX12_growth_139 : decode cX12_growth 139 = .ok (.iconst (-1), 1) := by decide +kernel
theorem dX12_growth_140 : decode cX12_growth 140 = .ok (.if_icmp .eq 6, 3) := by decide +kernel
theorem dX12_growth_143 : decode cX12_growth 143 = .ok (.goto 24, 3) := by decide +kernel
theorem dX12_growth_146 : decode cX12_growth 146 = .ok (.aload_n 0, 1) := by decide +kernel
theorem dX12_growth_147 : decode cX12_growth 147 = .ok (.getfield 259, 3) := by decide +kernel
theorem dX12_growth_150 : decode cX12_growth 150 = .ok (.aload_n 0, 1) := by decide +kernel
theorem dX12_growth_151 : decode cX12_growth 151 = .ok (.getfield 612, 3) := by decide +kernel
theorem dX12_growth_154 : decode cX12_growth 154 = .ok (.iload 6, 2) := by decide +kernel
theorem dX12_growth_156 : decode cX12_growth 156 = .ok (.iastore, 1) := by decide +kernel
theorem dX12_growth_157 : decode cX12_growth 157 = .ok (.aload_n 0, 1) := by decide +kernel
theorem dX12_growth_158 : decode cX12_growth 158 = .ok (.dup, 1) := by decide +kernel
theorem dX12_growth_159 : decode cX12_growth 159 = .ok (.getfield 612, 3) := by decide +kernel
theorem dX12_growth_162 : decode cX12_growth 162 = .ok (.iconst 1, 1) := by decide +kernel
theorem dX12_growth_163 : decode cX12_growth 163 = .ok (.iadd, 1) := by decide +kernel
theorem dX12_growth_164 : decode cX12_growth 164 = .ok (.putfield 612, 3) := by decide +kernel
theorem dX12_growth_167 : decode cX12_growth 167 = .ok (.iinc 6 1, 3) := by decide +kernel
theorem dX12_growth_170 : decode cX12_growth 170 = .ok (.goto (-95), 3) := by decide +kernel
theorem dX12_growth_173 : decode cX12_growth 173 = .ok (.aload_n 0, 1) := by decide +kernel
theorem dX12_growth_174 : decode cX12_growth 174 = .ok (.getfield 612, 3) := by decide +kernel
theorem dX12_growth_177 : decode cX12_growth 177 = .ok (.ireturn, 1) := by decide +kernel
theorem dX12_holder_0 : decode cX12_holder 0 = .ok (.aload_n 0, 1) := by decide +kernel
theorem dX12_holder_1 : decode cX12_holder 1 = .ok (.aload_n 0, 1) := by decide +kernel
theorem dX12_holder_2 : decode cX12_holder 2 = .ok (.iload_n 1, 1) := by decide +kernel
theorem dX12_holder_3 : decode cX12_holder 3 = .ok (.iload_n 2, 1) := by decide +kernel
theorem dX12_holder_4 : decode cX12_holder 4 = .ok (.invokevirtual 600, 3) := by decide +kernel
theorem dX12_holder_7 : decode cX12_holder 7 = .ok (.ifCond .eq 28, 3) := by decide +kernel
theorem dX12_holder_10 : decode cX12_holder 10 = .ok (.iload_n 3, 1) := by decide +kernel
theorem dX12_holder_11 : decode cX12_holder 11 = .ok (.ifCond .lt 24, 3) := by decide +kernel
theorem dX12_holder_14 : decode cX12_holder 14 = .ok (.iload_n 3, 1) := by decide +kernel
theorem dX12_holder_15 : decode cX12_holder 15 = .ok (.aload_n 0, 1) := by decide +kernel
theorem dX12_holder_16 : decode cX12_holder 16 = .ok (.iload_n 1, 1) := by decide +kernel
theorem dX12_holder_17 : decode cX12_holder 17 = .ok (.iload_n 2, 1) := by decide +kernel
theorem dX12_holder_18 : decode cX12_holder 18 = .ok (.invokevirtual 603, 3) := by decide +kernel
theorem dX12_holder_21 : decode cX12_holder 21 = .ok (.if_icmp .ge 14, 3) := by decide +kernel
theorem dX12_holder_24 : decode cX12_holder 24 = .ok (.iload 4, 2) := by decide +kernel
theorem dX12_holder_26 : decode cX12_holder 26 = .ok (.ifCond .lt 9, 3) := by decide +kernel
theorem dX12_holder_29 : decode cX12_holder 29 = .ok (.iload 4, 2) := by decide +kernel
theorem dX12_holder_31 : decode cX12_holder 31 = .ok (.iconst 1, 1) := by decide +kernel
theorem dX12_holder_32 : decode cX12_holder 32 = .ok (.if_icmp .le 7, 3) := by decide +kernel
theorem dX12_holder_35 : decode cX12_holder 35 = .ok (.iconst 1, 1) := by decide +kernel
theorem dX12_holder_36 : decode cX12_holder 36 = .ok (.goto 4, 3) := by decide +kernel
theorem dX12_holder_39 : decode cX12_holder 39 = .ok (.iconst 0, 1) := by decide +kernel
theorem dX12_holder_40 : decode cX12_holder 40 = .ok (.putfield 388, 3) := by decide +kernel
theorem dX12_holder_43 : decode cX12_holder 43 = .ok (.aload_n 0, 1) := by decide +kernel
theorem dX12_holder_44 : decode cX12_holder 44 = .ok (.getfield 388, 3) := by decide +kernel
theorem dX12_holder_47 : decode cX12_holder 47 = .ok (.ifCond .le 5, 3) := by decide +kernel
theorem dX12_holder_50 : decode cX12_holder 50 = .ok (.iconst 0, 1) := by decide +kernel
theorem dX12_holder_51 : decode cX12_holder 51 = .ok (.ireturn, 1) := by decide +kernel
theorem dX12_holder_52 : decode cX12_holder 52 = .ok (.iload_n 3, 1) := by decide +kernel
theorem dX12_holder_53 : decode cX12_holder 53 = .ok (.istore 5, 2) := by decide +kernel
theorem dX12_holder_55 : decode cX12_holder 55 = .ok (.iconst 0, 1) := by decide +kernel
theorem dX12_holder_56 : decode cX12_holder 56 = .ok (.istore 6, 2) := by decide +kernel
theorem dX12_holder_58 : decode cX12_holder 58 = .ok (.iload 6, 2) := by decide +kernel
theorem dX12_holder_60 : decode cX12_holder 60 = .ok (.aload_n 0, 1) := by decide +kernel
theorem dX12_holder_61 : decode cX12_holder 61 = .ok (.getfield 234, 3) := by decide +kernel
theorem dX12_holder_64 : decode cX12_holder 64 = .ok (.iload_n 1, 1) := by decide +kernel
theorem dX12_holder_65 : decode cX12_holder 65 = .ok (.iaload, 1) := by decide +kernel
theorem dX12_holder_66 : decode cX12_holder 66 = .ok (.if_icmp .ge 60, 3) := by decide +kernel
theorem dX12_holder_69 : decode cX12_holder 69 = .ok (.aload_n 0, 1) := by decide +kernel
theorem dX12_holder_70 : decode cX12_holder 70 = .ok (.getfield 240, 3) := by decide +kernel
theorem dX12_holder_73 : decode cX12_holder 73 = .ok (.sipush 128, 3) := by decide +kernel
theorem dX12_holder_76 : decode cX12_holder 76 = .ok (.iload_n 1, 1) := by decide +kernel
theorem dX12_holder_77 : decode cX12_holder 77 = .ok (.imul, 1) := by decide +kernel
theorem dX12_holder_78 : decode cX12_holder 78 = .ok (.iload 6, 2) := by decide +kernel
theorem dX12_holder_80 : decode cX12_holder 80 = .ok (.iadd, 1) := by decide +kernel
theorem dX12_holder_81 : decode cX12_holder 81 = .ok (.iaload, 1) := by decide +kernel
theorem dX12_holder_82 : decode cX12_holder 82 = .ok (.iload_n 2, 1) := by decide +kernel
theorem dX12_holder_83 : decode cX12_holder 83 = .ok (.if_icmp .eq 6, 3) := by decide +kernel
theorem dX12_holder_86 : decode cX12_holder 86 = .ok (.goto 34, 3) := by decide +kernel
theorem dX12_holder_89 : decode cX12_holder 89 = .ok (.iload 5, 2) := by decide +kernel
theorem dX12_holder_91 : decode cX12_holder 91 = .ok (.ifCond .ne 26, 3) := by decide +kernel
theorem dX12_holder_94 : decode cX12_holder 94 = .ok (.iload 4, 2) := by decide +kernel
theorem dX12_holder_96 : decode cX12_holder 96 = .ok (.ifCond .ne 7, 3) := by decide +kernel
theorem dX12_holder_99 : decode cX12_holder 99 = .ok (.iconst (-1), 1) := by decide +kernel
theorem dX12_holder_100 : decode cX12_holder 100 = .ok (.goto 16, 3) := by decide +kernel
theorem dX12_holder_103 : decode cX12_holder 103 = .ok (.aload_n 0, 1) := by decide +kernel
theorem dX12_holder_104 : decode cX12_holder 104 = .ok (.getfield 237, 3) := by decide +kernel
theorem dX12_holder_107 : decode cX12_holder 107 = .ok (.sipush 128, 3) := by decide +kernel
theorem dX12_holder_110 : decode cX12_holder 110 = .ok (.iload_n 1, 1) := by decide +kernel
theorem dX12_holder_111 : decode cX12_holder 111 = .ok (.imul, 1) := by decide +kernel
theorem dX12_holder_112 : decode cX12_holder 112 = .ok (.iload 6, 2) := by decide +kernel
theorem dX12_holder_114 : decode cX12_holder 114 = .ok (.iadd, 1) := by decide +kernel
theorem dX12_holder_115 : decode cX12_holder 115 = .ok (.iaload, 1) := by decide +kernel
theorem dX12_holder_116 : decode cX12_holder 116 = .ok (.ireturn, 1) := by decide +kernel
theorem dX12_holder_117 : decode cX12_holder 117 = .ok (.iinc 5 (-1), 3) := by decide +kernel
theorem dX12_holder_120 : decode cX12_holder 120 = .ok (.iinc 6 1, 3) := by decide +kernel
theorem dX12_holder_123 : decode cX12_holder 123 = .ok (.goto (-65), 3) := by decide +kernel
theorem dX12_holder_126 : decode cX12_holder 126 = .ok (.iconst (-1), 1) := by decide +kernel
theorem dX12_holder_127 : decode cX12_holder 127 = .ok (.istore 6, 2) := by decide +kernel
theorem dX12_holder_129 : decode cX12_holder 129 = .ok (.iconst 0, 1) := by decide +kernel
theorem dX12_holder_130 : decode cX12_holder 130 = .ok (.istore 7, 2) := by decide +kernel
theorem dX12_holder_132 : decode cX12_holder 132 = .ok (.iload 7, 2) := by decide +kernel
theorem dX12_holder_134 : decode cX12_holder 134 = .ok (.aload_n 0, 1) := by decide +kernel
theorem dX12_holder_135 : decode cX12_holder 135 = .ok (.getfield 183, 3) := by decide +kernel
theorem dX12_holder_138 : decode cX12_holder 138 = .ok (.iload_n 1, 1) := by decide +kernel
theorem dX12_holder_139 : decode cX12_holder 139 = .ok (.iaload, 1) := by decide +kernel
theorem dX12_holder_140 : decode cX12_holder 140 = .ok (.if_icmp .ge 87, 3) := by decide +kernel
theorem dX12_holder_143 : decode cX12_holder 143 = .ok (.iload 5, 2) := by decide +kernel
theorem dX12_holder_145 : decode cX12_holder 145 = .ok (.ifCond .lt 82, 3) := by decide +kernel
theorem dX12_holder_148 : decode cX12_holder 148 = .ok (.iconst 0, 1) := by decide +kernel
theorem dX12_holder_149 : decode cX12_holder 149 = .ok (.istore 8, 2) := by decide +kernel
theorem dX12_holder_151 : decode cX12_holder 151 = .ok (.iload 8, 2) := by decide +kernel
theorem dX12_holder_153 : decode cX12_holder 153 = .ok (.aload_n 0, 1) := by decide +kernel
theorem dX12_holder_154 : decode cX12_holder 154 = .ok (.iload_n 1, 1) := by decide +kernel
theorem dX12_holder_155 : decode cX12_holder 155 = .ok (.iload 7, 2) := by decide +kernel
theorem dX12_holder_157 : decode cX12_holder 157 = .ok (.invokevirtual 570, 3) := by decide +kernel
theorem dX12_holder_160 : decode cX12_holder 160 = .ok (.if_icmp .ge 61, 3) := by decide +kernel
theorem dX12_holder_163 : decode cX12_holder 163 = .ok (.iload 5, 2) := by decide +kernel
theorem dX12_holder_165 : decode cX12_holder 165 = .ok (.ifCond .lt 56, 3) := by decide +kernel
theorem dX12_holder_168 : decode cX12_holder 168 = .ok (.aload_n 0, 1) := by decide +kernel
theorem dX12_holder_169 : decode cX12_holder 169 = .ok (.iload_n 1, 1) := by decide +kernel
theorem dX12_holder_170 : decode cX12_holder 170 = .ok (.iload 7, 2) := by decide +kernel
theorem dX12_holder_172 : decode cX12_holder 172 = .ok (.iload 8, 2) := by decide +kernel
theorem dX12_holder_174 : decode cX12_holder 174 = .ok (.invokevirtual 573, 3) := by decide +kernel
theorem dX12_holder_177 : decode cX12_holder 177 = .ok (.ifCond .eq 38, 3) := by decide +kernel
theorem dX12_holder_180 : decode cX12_holder 180 = .ok (.aload_n 0, 1) := by decide +kernel
theorem dX12_holder_181 : decode cX12_holder 181 = .ok (.iload_n 1, 1) := by decide +kernel
theorem dX12_holder_182 : decode cX12_holder 182 = .ok (.iload 7, 2) := by decide +kernel
theorem dX12_holder_184 : decode cX12_holder 184 = .ok (.iload 8, 2) := by decide +kernel
theorem dX12_holder_186 : decode cX12_holder 186 = .ok (.invokevirtual 577, 3) := by decide +kernel
theorem dX12_holder_189 : decode cX12_holder 189 = .ok (.iload_n 2, 1) := by decide +kernel
theorem dX12_holder_190 : decode cX12_holder 190 = .ok (.i2l, 1) := by decide +kernel
theorem dX12_holder_191 : decode cX12_holder 191 = .ok (.lcmp, 1) := by decide +kernel
theorem dX12_holder_192 : decode cX12_holder 192 = .ok (.ifCond .eq 6, 3) := by decide +kernel
theorem dX12_holder_195 : decode cX12_holder 195 = .ok (.goto 20, 3) := by decide +kernel
theorem dX12_holder_198 : decode cX12_holder 198 = .ok (.iload 4, 2) := by decide +kernel
theorem dX12_holder_200 : decode cX12_holder 200 = .ok (.ifCond .ne 8, 3) := by decide +kernel
theorem dX12_holder_203 : decode cX12_holder 203 = .ok (.iload 7, 2) := by decide +kernel
theorem dX12_holder_205 : decode cX12_holder 205 = .ok (.goto 5, 3) := by decide +kernel
theorem dX12_holder_208 : decode cX12_holder 208 = .ok (.iload 8, 2) := by decide +kernel
theorem dX12_holder_210 : decode cX12_holder 210 = .ok (.istore 6, 2) := by decide +kernel
theorem dX12_holder_212 : decode cX12_holder 212 = .ok (.iinc 5 (-1), 3) := by decide +kernel
theorem dX12_holder_215 : decode cX12_holder 215 = .ok (.iinc 8 1, 3) := by decide +kernel
theorem dX12_holder_218 : decode cX12_holder 218 = .ok (.goto (-67), 3) := by decide +kernel
theorem dX12_holder_221 : decode cX12_holder 221 = .ok (.iinc 7 1, 3) := by decide +kernel
theorem dX12_holder_224 : decode cX12_holder 224 = .ok (.goto (-92), 3) := by decide +kernel
theorem dX12_holder_227 : decode cX12_holder 227 = .ok (.iload 6, 2) := by decide +kernel
theorem dX12_holder_229 : decode cX12_holder 229 = .ok (.ireturn, 1) := by decide +kernel
theorem dX12_holders_0 : decode cX12_holders 0 = .ok (.iconst 0, 1) := by decide +kernel
theorem dX12_holders_1 : decode cX12_holders 1 = .ok (.istore_n 3, 1) := by decide +kernel
theorem dX12_holders_2 : decode cX12_holders 2 = .ok (.iconst 0, 1) := by decide +kernel
theorem dX12_holders_3 : decode cX12_holders 3 = .ok (.istore 4, 2) := by decide +kernel
theorem dX12_holders_5 : decode cX12_holders 5 = .ok (.iload 4, 2) := by decide +kernel
theorem dX12_holders_7 : decode cX12_holders 7 = .ok (.aload_n 0, 1) := by decide +kernel
theorem dX12_holders_8 : decode cX12_holders 8 = .ok (.getfield 234, 3) := by decide +kernel
theorem dX12_holders_11 : decode cX12_holders 11 = .ok (.iload_n 1, 1) := by decide +kernel
theorem dX12_holders_12 : decode cX12_holders 12 = .ok (.iaload, 1) := by decide +kernel
theorem dX12_holders_13 : decode cX12_holders 13 = .ok (.if_icmp .ge 34, 3) := by decide +kernel
theorem dX12_holders_16 : decode cX12_holders 16 = .ok (.iload_n 3, 1) := by decide +kernel
theorem dX12_holders_17 : decode cX12_holders 17 = .ok (.aload_n 0, 1) := by decide +kernel
theorem dX12_holders_18 : decode cX12_holders 18 = .ok (.getfield 240, 3) := by decide +kernel
theorem dX12_holders_21 : decode cX12_holders 21 = .ok (.sipush 128, 3) := by decide +kernel
theorem dX12_holders_24 : decode cX12_holders 24 = .ok (.iload_n 1, 1) := by decide +kernel
theorem dX12_holders_25 : decode cX12_holders 25 = .ok (.imul, 1) := by decide +kernel
theorem dX12_holders_26 : decode cX12_holders 26 = .ok (.iload 4, 2) := by decide +kernel
theorem dX12_holders_28 : decode cX12_holders 28 = .ok (.iadd, 1) := by decide +kernel
theorem dX12_holders_29 : decode cX12_holders 29 = .ok (.iaload, 1) := by decide +kernel
theorem dX12_holders_30 : decode cX12_holders 30 = .ok (.iload_n 2, 1) := by decide +kernel
theorem dX12_holders_31 : decode cX12_holders 31 = .ok (.if_icmp .ne 7, 3) := by decide +kernel
theorem dX12_holders_34 : decode cX12_holders 34 = .ok (.iconst 1, 1) := by decide +kernel
theorem dX12_holders_35 : decode cX12_holders 35 = .ok (.goto 4, 3) := by decide +kernel
theorem dX12_holders_38 : decode cX12_holders 38 = .ok (.iconst 0, 1) := by decide +kernel
theorem dX12_holders_39 : decode cX12_holders 39 = .ok (.iadd, 1) := by decide +kernel
theorem dX12_holders_40 : decode cX12_holders 40 = .ok (.istore_n 3, 1) := by decide +kernel
theorem dX12_holders_41 : decode cX12_holders 41 = .ok (.iinc 4 1, 3) := by decide +kernel
theorem dX12_holders_44 : decode cX12_holders 44 = .ok (.goto (-39), 3) := by decide +kernel
theorem dX12_holders_47 : decode cX12_holders 47 = .ok (.iconst 0, 1) := by decide +kernel
theorem dX12_holders_48 : decode cX12_holders 48 = .ok (.istore 4, 2) := by decide +kernel
theorem dX12_holders_50 : decode cX12_holders 50 = .ok (.iload 4, 2) := by decide +kernel
theorem dX12_holders_52 : decode cX12_holders 52 = .ok (.aload_n 0, 1) := by decide +kernel
theorem dX12_holders_53 : decode cX12_holders 53 = .ok (.getfield 183, 3) := by decide +kernel
theorem dX12_holders_56 : decode cX12_holders 56 = .ok (.iload_n 1, 1) := by decide +kernel
theorem dX12_holders_57 : decode cX12_holders 57 = .ok (.iaload, 1) := by decide +kernel
theorem dX12_holders_58 : decode cX12_holders 58 = .ok (.if_icmp .ge 65, 3) := by decide +kernel
theorem dX12_holders_61 : decode cX12_holders 61 = .ok (.iconst 0, 1) := by decide +kernel
theorem dX12_holders_62 : decode cX12_holders 62 = .ok (.istore 5, 2) := by decide +kernel
theorem dX12_holders_64 : decode cX12_holders 64 = .ok (.iload 5, 2) := by decide +kernel
theorem dX12_holders_66 : decode cX12_holders 66 = .ok (.aload_n 0, 1) := by decide +kernel
theorem dX12_holders_67 : decode cX12_holders 67 = .ok (.iload_n 1, 1) := by decide +kernel
theorem dX12_holders_68 : decode cX12_holders 68 = .ok (.iload 4, 2) := by decide +kernel
theorem dX12_holders_70 : decode cX12_holders 70 = .ok (.invokevirtual 570, 3) := by decide +kernel
theorem dX12_holders_73 : decode cX12_holders 73 = .ok (.if_icmp .ge 44, 3) := by decide +kernel
theorem dX12_holders_76 : decode cX12_holders 76 = .ok (.iload_n 3, 1) := by decide +kernel
theorem dX12_holders_77 : decode cX12_holders 77 = .ok (.aload_n 0, 1) := by decide +kernel
theorem dX12_holders_78 : decode cX12_holders 78 = .ok (.iload_n 1, 1) := by decide +kernel
theorem dX12_holders_79 : decode cX12_holders 79 = .ok (.iload 4, 2) := by decide +kernel
theorem dX12_holders_81 : decode cX12_holders 81 = .ok (.iload 5, 2) := by decide +kernel
theorem dX12_holders_83 : decode cX12_holders 83 = .ok (.invokevirtual 573, 3) := by decide +kernel
theorem dX12_holders_86 : decode cX12_holders 86 = .ok (.ifCond .eq 22, 3) := by decide +kernel
theorem dX12_holders_89 : decode cX12_holders 89 = .ok (.aload_n 0, 1) := by decide +kernel
theorem dX12_holders_90 : decode cX12_holders 90 = .ok (.iload_n 1, 1) := by decide +kernel
theorem dX12_holders_91 : decode cX12_holders 91 = .ok (.iload 4, 2) := by decide +kernel
theorem dX12_holders_93 : decode cX12_holders 93 = .ok (.iload 5, 2) := by decide +kernel
theorem dX12_holders_95 : decode cX12_holders 95 = .ok (.invokevirtual 577, 3) := by decide +kernel
theorem dX12_holders_98 : decode cX12_holders 98 = .ok (.iload_n 2, 1) := by decide +kernel
theorem dX12_holders_99 : decode cX12_holders 99 = .ok (.i2l, 1) := by decide +kernel
theorem dX12_holders_100 : decode cX12_holders 100 = .ok (.lcmp, 1) := by decide +kernel
theorem dX12_holders_101 : decode cX12_holders 101 = .ok (.ifCond .ne 7, 3) := by decide +kernel
theorem dX12_holders_104 : decode cX12_holders 104 = .ok (.iconst 1, 1) := by decide +kernel
theorem dX12_holders_105 : decode cX12_holders 105 = .ok (.goto 4, 3) := by decide +kernel
theorem dX12_holders_108 : decode cX12_holders 108 = .ok (.iconst 0, 1) := by decide +kernel
theorem dX12_holders_109 : decode cX12_holders 109 = .ok (.iadd, 1) := by decide +kernel
theorem dX12_holders_110 : decode cX12_holders 110 = .ok (.istore_n 3, 1) := by decide +kernel
theorem dX12_holders_111 : decode cX12_holders 111 = .ok (.iinc 5 1, 3) := by decide +kernel
theorem dX12_holders_114 : decode cX12_holders 114 = .ok (.goto (-50), 3) := by decide +kernel
theorem dX12_holders_117 : decode cX12_holders 117 = .ok (.iinc 4 1, 3) := by decide +kernel
theorem dX12_holders_120 : decode cX12_holders 120 = .ok (.goto (-70), 3) := by decide +kernel
theorem dX12_holders_123 : decode cX12_holders 123 = .ok (.iload_n 3, 1) := by decide +kernel
theorem dX12_holders_124 : decode cX12_holders 124 = .ok (.ireturn, 1) := by decide +kernel
theorem dX12_holds_0 : decode cX12_holds 0 = .ok (.aload_n 0, 1) := by decide +kernel
theorem dX12_holds_1 : decode cX12_holds 1 = .ok (.getfield 339, 3) := by decide +kernel
theorem dX12_holds_4 : decode cX12_holds 4 = .ok (.iload_n 1, 1) := by decide +kernel
theorem dX12_holds_5 : decode cX12_holds 5 = .ok (.iaload, 1) := by decide +kernel
theorem dX12_holds_6 : decode cX12_holds 6 = .ok (.tableswitch 122 0 3 #[30, 43, 56, 111], 30) := by decide +kernel
theorem dX12_holds_36 : decode cX12_holds 36 = .ok (.aload_n 0, 1) := by decide +kernel
theorem dX12_holds_37 : decode cX12_holds 37 = .ok (.aload_n 0, 1) := by decide +kernel
theorem dX12_holds_38 : decode cX12_holds 38 = .ok (.getfield 342, 3) := by decide +kernel
theorem dX12_holds_41 : decode cX12_holds 41 = .ok (.iload_n 1, 1) := by decide +kernel
theorem dX12_holds_42 : decode cX12_holds 42 = .ok (.iaload, 1) := by decide +kernel
theorem dX12_holds_43 : decode cX12_holds 43 = .ok (.iload_n 2, 1) := by decide +kernel
theorem dX12_holds_44 : decode cX12_holds 44 = .ok (.iload_n 3, 1) := by decide +kernel
theorem dX12_holds_45 : decode cX12_holds 45 = .ok (.invokevirtual 930, 3) := by decide +kernel
theorem dX12_holds_48 : decode cX12_holds 48 = .ok (.ireturn, 1) := by decide +kernel
theorem dX12_holds_49 : decode cX12_holds 49 = .ok (.aload_n 0, 1) := by decide +kernel
theorem dX12_holds_50 : decode cX12_holds 50 = .ok (.getfield 253, 3) := by decide +kernel
theorem dX12_holds_53 : decode cX12_holds 53 = .ok (.sipush 400, 3) := by decide +kernel
theorem dX12_holds_56 : decode cX12_holds 56 = .ok (.iload_n 2, 1) := by decide +kernel
theorem dX12_holds_57 : decode cX12_holds 57 = .ok (.imul, 1) := by decide +kernel
theorem dX12_holds_58 : decode cX12_holds 58 = .ok (.iload_n 3, 1) := by decide +kernel
theorem dX12_holds_59 : decode cX12_holds 59 = .ok (.iadd, 1) := by decide +kernel
theorem dX12_holds_60 : decode cX12_holds 60 = .ok (.baload, 1) := by decide +kernel
theorem dX12_holds_61 : decode cX12_holds 61 = .ok (.ireturn, 1) := by decide +kernel
theorem dX12_holds_62 : decode cX12_holds 62 = .ok (.aload_n 0, 1) := by decide +kernel
theorem dX12_holds_63 : decode cX12_holds 63 = .ok (.aload_n 0, 1) := by decide +kernel
theorem dX12_holds_64 : decode cX12_holds 64 = .ok (.getfield 189, 3) := by decide +kernel
theorem dX12_holds_67 : decode cX12_holds 67 = .ok (.aload_n 0, 1) := by decide +kernel
theorem dX12_holds_68 : decode cX12_holds 68 = .ok (.aload_n 0, 1) := by decide +kernel
theorem dX12_holds_69 : decode cX12_holds 69 = .ok (.getfield 826, 3) := by decide +kernel
theorem dX12_holds_72 : decode cX12_holds 72 = .ok (.iload_n 2, 1) := by decide +kernel
theorem dX12_holds_73 : decode cX12_holds 73 = .ok (.invokevirtual 545, 3) := by decide +kernel
theorem dX12_holds_76 : decode cX12_holds 76 = .ok (.iaload, 1) := by decide +kernel
theorem dX12_holds_77 : decode cX12_holds 77 = .ok (.invokevirtual 416, 3) := by decide +kernel
theorem dX12_holds_80 : decode cX12_holds 80 = .ok (.ifCond .eq 35, 3) := by decide +kernel
theorem dX12_holds_83 : decode cX12_holds 83 = .ok (.aload_n 0, 1) := by decide +kernel
theorem dX12_holds_84 : decode cX12_holds 84 = .ok (.aload_n 0, 1) := by decide +kernel
theorem dX12_holds_85 : decode cX12_holds 85 = .ok (.getfield 189, 3) := by decide +kernel
theorem dX12_holds_88 : decode cX12_holds 88 = .ok (.aload_n 0, 1) := by decide +kernel
theorem dX12_holds_89 : decode cX12_holds 89 = .ok (.aload_n 0, 1) := by decide +kernel
theorem dX12_holds_90 : decode cX12_holds 90 = .ok (.getfield 826, 3) := by decide +kernel
theorem dX12_holds_93 : decode cX12_holds 93 = .ok (.iload_n 2, 1) := by decide +kernel
theorem dX12_holds_94 : decode cX12_holds 94 = .ok (.invokevirtual 545, 3) := by decide +kernel
theorem dX12_holds_97 : decode cX12_holds 97 = .ok (.iaload, 1) := by decide +kernel
theorem dX12_holds_98 : decode cX12_holds 98 = .ok (.aload_n 0, 1) := by decide +kernel
theorem dX12_holds_99 : decode cX12_holds 99 = .ok (.getfield 321, 3) := by decide +kernel
theorem dX12_holds_102 : decode cX12_holds 102 = .ok (.iload_n 1, 1) := by decide +kernel
theorem dX12_holds_103 : decode cX12_holds 103 = .ok (.laload, 1) := by decide +kernel
theorem dX12_holds_104 : decode cX12_holds 104 = .ok (.iconst 1, 1) := by decide +kernel
theorem dX12_holds_105 : decode cX12_holds 105 = .ok (.invokevirtual 832, 3) := by decide +kernel
theorem dX12_holds_108 : decode cX12_holds 108 = .ok (.ifCond .eq 7, 3) := by decide +kernel
theorem dX12_holds_111 : decode cX12_holds 111 = .ok (.iconst 1, 1) := by decide +kernel
theorem dX12_holds_112 : decode cX12_holds 112 = .ok (.goto 4, 3) := by decide +kernel
theorem dX12_holds_115 : decode cX12_holds 115 = .ok (.iconst 0, 1) := by decide +kernel
theorem dX12_holds_116 : decode cX12_holds 116 = .ok (.ireturn, 1) := by decide +kernel
theorem dX12_holds_117 : decode cX12_holds 117 = .ok (.iload_n 2, 1) := by decide +kernel
theorem dX12_holds_118 : decode cX12_holds 118 = .ok (.iload_n 3, 1) := by decide +kernel
theorem dX12_holds_119 : decode cX12_holds 119 = .ok (.if_icmp .ne 7, 3) := by decide +kernel
theorem dX12_holds_122 : decode cX12_holds 122 = .ok (.iconst 1, 1) := by decide +kernel
theorem dX12_holds_123 : decode cX12_holds 123 = .ok (.goto 4, 3) := by decide +kernel
theorem dX12_holds_126 : decode cX12_holds 126 = .ok (.iconst 0, 1) := by decide +kernel
theorem dX12_holds_127 : decode cX12_holds 127 = .ok (.ireturn, 1) := by decide +kernel
theorem dX12_holds_128 : decode cX12_holds 128 = .ok (.iload_n 2, 1) := by decide +kernel
theorem dX12_holds_129 : decode cX12_holds 129 = .ok (.iload_n 3, 1) := by decide +kernel
theorem dX12_holds_130 : decode cX12_holds 130 = .ok (.if_icmp .eq 7, 3) := by decide +kernel
theorem dX12_holds_133 : decode cX12_holds 133 = .ok (.iconst 1, 1) := by decide +kernel
theorem dX12_holds_134 : decode cX12_holds 134 = .ok (.goto 4, 3) := by decide +kernel
theorem dX12_holds_137 : decode cX12_holds 137 = .ok (.iconst 0, 1) := by decide +kernel
theorem dX12_holds_138 : decode cX12_holds 138 = .ok (.ireturn, 1) := by decide +kernel
theorem dX12_is_0 : decode cX12_is 0 = .ok (.iload_n 1, 1) := by decide +kernel
theorem dX12_is_1 : decode cX12_is 1 = .ok (.istore_n 3, 1) := by decide +kernel
theorem dX12_is_2 : decode cX12_is 2 = .ok (.iload_n 3, 1) := by decide +kernel
theorem dX12_is_3 : decode cX12_is 3 = .ok (.iconst (-1), 1) := by decide +kernel
theorem dX12_is_4 : decode cX12_is 4 = .ok (.if_icmp .eq 18, 3) := by decide +kernel
theorem dX12_is_7 : decode cX12_is 7 = .ok (.iload_n 3, 1) := by decide +kernel
theorem dX12_is_8 : decode cX12_is 8 = .ok (.iload_n 2, 1) := by decide +kernel
theorem dX12_is_9 : decode cX12_is 9 = .ok (.if_icmp .eq 13, 3) := by decide +kernel
theorem dX12_is_12 : decode cX12_is 12 = .ok (.aload_n 0, 1) := by decide +kernel
theorem dX12_is_13 : decode cX12_is 13 = .ok (.getfield 91, 3) := by decide +kernel
theorem dX12_is_16 : decode cX12_is 16 = .ok (.iload_n 3, 1) := by decide +kernel
theorem dX12_is_17 : decode cX12_is 17 = .ok (.iaload, 1) := by decide +kernel
theorem dX12_is_18 : decode cX12_is 18 = .ok (.istore_n 3, 1) := by decide +kernel
theorem dX12_is_19 : decode cX12_is 19 = .ok (.goto (-17), 3) := by decide +kernel
theorem dX12_is_22 : decode cX12_is 22 = .ok (.iload_n 3, 1) := by decide +kernel
theorem dX12_is_23 : decode cX12_is 23 = .ok (.iconst (-1), 1) := by decide +kernel
theorem dX12_is_24 : decode cX12_is 24 = .ok (.if_icmp .eq 7, 3) := by decide +kernel
theorem dX12_is_27 : decode cX12_is 27 = .ok (.iconst 1, 1) := by decide +kernel
theorem dX12_is_28 : decode cX12_is 28 = .ok (.goto 4, 3) := by decide +kernel
theorem dX12_is_31 : decode cX12_is 31 = .ok (.iconst 0, 1) := by decide +kernel
theorem dX12_is_32 : decode cX12_is 32 = .ok (.ireturn, 1) := by decide +kernel
theorem dX12_isApart_0 : decode cX12_isApart 0 = .ok (.iconst 0, 1) := by decide +kernel
