theorem dX12_lost_39 : decode cX12_lost 39 = .ok (.iconst 0, 1) := by decide +kernel
theorem dX12_lost_40 : decode cX12_lost 40 = .ok (.iastore, 1) := by decide +kernel
theorem dX12_lost_41 : decode cX12_lost 41 = .ok (.iconst 0, 1) := by decide +kernel
theorem dX12_lost_42 : decode cX12_lost 42 = .ok (.istore_n 2, 1) := by decide +kernel
theorem dX12_lost_43 : decode cX12_lost 43 = .ok (.iload_n 2, 1) := by decide +kernel
theorem dX12_lost_44 : decode cX12_lost 44 = .ok (.aload_n 0, 1) := by decide +kernel
theorem dX12_lost_45 : decode cX12_lost 45 = .ok (.getfield 183, 3) := by decide +kernel
theorem dX12_lost_48 : decode cX12_lost 48 = .ok (.iload_n 1, 1) := by decide +kernel
theorem dX12_lost_49 : decode cX12_lost 49 = .ok (.iaload, 1) := by decide +kernel
theorem dX12_lost_50 : decode cX12_lost 50 = .ok (.if_icmp .ge 48, 3) := by decide +kernel
theorem dX12_lost_53 : decode cX12_lost 53 = .ok (.aload_n 0, 1) := by decide +kernel
theorem dX12_lost_54 : decode cX12_lost 54 = .ok (.getfield 249, 3) := by decide +kernel
theorem dX12_lost_57 : decode cX12_lost 57 = .ok (.iload_n 2, 1) := by decide +kernel
theorem dX12_lost_58 : decode cX12_lost 58 = .ok (.baload, 1) := by decide +kernel
theorem dX12_lost_59 : decode cX12_lost 59 = .ok (.ifCond .eq 6, 3) := by decide +kernel
theorem dX12_lost_62 : decode cX12_lost 62 = .ok (.goto 30, 3) := by decide +kernel
theorem dX12_lost_65 : decode cX12_lost 65 = .ok (.aload_n 0, 1) := by decide +kernel
theorem dX12_lost_66 : decode cX12_lost 66 = .ok (.getfield 222, 3) := by decide +kernel
theorem dX12_lost_69 : decode cX12_lost 69 = .ok (.aload_n 0, 1) := by decide +kernel
theorem dX12_lost_70 : decode cX12_lost 70 = .ok (.iload_n 1, 1) := by decide +kernel
theorem dX12_lost_71 : decode cX12_lost 71 = .ok (.aload_n 0, 1) := by decide +kernel
theorem dX12_lost_72 : decode cX12_lost 72 = .ok (.getfield 225, 3) := by decide +kernel
theorem dX12_lost_75 : decode cX12_lost 75 = .ok (.iload_n 1, 1) := by decide +kernel
theorem dX12_lost_76 : decode cX12_lost 76 = .ok (.iaload, 1) := by decide +kernel
theorem dX12_lost_77 : decode cX12_lost 77 = .ok (.invokevirtual 545, 3) := by decide +kernel
theorem dX12_lost_80 : decode cX12_lost 80 = .ok (.iload_n 2, 1) := by decide +kernel
theorem dX12_lost_81 : decode cX12_lost 81 = .ok (.iastore, 1) := by decide +kernel
theorem dX12_lost_82 : decode cX12_lost 82 = .ok (.aload_n 0, 1) := by decide +kernel
theorem dX12_lost_83 : decode cX12_lost 83 = .ok (.getfield 225, 3) := by decide +kernel
theorem dX12_lost_86 : decode cX12_lost 86 = .ok (.iload_n 1, 1) := by decide +kernel
theorem dX12_lost_87 : decode cX12_lost 87 = .ok (.dup2, 1) := by decide +kernel
theorem dX12_lost_88 : decode cX12_lost 88 = .ok (.iaload, 1) := by decide +kernel
theorem dX12_lost_89 : decode cX12_lost 89 = .ok (.iconst 1, 1) := by decide +kernel
theorem dX12_lost_90 : decode cX12_lost 90 = .ok (.iadd, 1) := by decide +kernel
theorem dX12_lost_91 : decode cX12_lost 91 = .ok (.iastore, 1) := by decide +kernel
theorem dX12_lost_92 : decode cX12_lost 92 = .ok (.iinc 2 1, 3) := by decide +kernel
theorem dX12_lost_95 : decode cX12_lost 95 = .ok (.goto (-52), 3) := by decide +kernel
theorem dX12_lost_98 : decode cX12_lost 98 = .ok (.aload_n 0, 1) := by decide +kernel
theorem dX12_lost_99 : decode cX12_lost 99 = .ok (.getfield 225, 3) := by decide +kernel
theorem dX12_lost_102 : decode cX12_lost 102 = .ok (.iload_n 1, 1) := by decide +kernel
theorem dX12_lost_103 : decode cX12_lost 103 = .ok (.iaload, 1) := by decide +kernel
theorem dX12_lost_104 : decode cX12_lost 104 = .ok (.ireturn, 1) := by decide +kernel
theorem dX12_lostThing_0 : decode cX12_lostThing 0 = .ok (.aload_n 0, 1) := by decide +kernel
theorem dX12_lostThing_1 : decode cX12_lostThing 1 = .ok (.iconst 0, 1) := by decide +kernel
theorem dX12_lostThing_2 : decode cX12_lostThing 2 = .ok (.putfield 388, 3) := by decide +kernel
theorem dX12_lostThing_5 : decode cX12_lostThing 5 = .ok (.aload_n 0, 1) := by decide +kernel
theorem dX12_lostThing_6 : decode cX12_lostThing 6 = .ok (.iload_n 1, 1) := by decide +kernel
theorem dX12_lostThing_7 : decode cX12_lostThing 7 = .ok (.invokevirtual 542, 3) := by decide +kernel
theorem dX12_lostThing_10 : decode cX12_lostThing 10 = .ok (.ifCond .eq 31, 3) := by decide +kernel
theorem dX12_lostThing_13 : decode cX12_lostThing 13 = .ok (.iload_n 2, 1) := by decide +kernel
theorem dX12_lostThing_14 : decode cX12_lostThing 14 = .ok (.ifCond .lt 27, 3) := by decide +kernel
theorem dX12_lostThing_17 : decode cX12_lostThing 17 = .ok (.iload_n 2, 1) := by decide +kernel
theorem dX12_lostThing_18 : decode cX12_lostThing 18 = .ok (.aload_n 0, 1) := by decide +kernel
theorem dX12_lostThing_19 : decode cX12_lostThing 19 = .ok (.getfield 225, 3) := by decide +kernel
theorem dX12_lostThing_22 : decode cX12_lostThing 22 = .ok (.iload_n 1, 1) := by decide +kernel
theorem dX12_lostThing_23 : decode cX12_lostThing 23 = .ok (.iaload, 1) := by decide +kernel
theorem dX12_lostThing_24 : decode cX12_lostThing 24 = .ok (.if_icmp .ge 17, 3) := by decide +kernel
theorem dX12_lostThing_27 : decode cX12_lostThing 27 = .ok (.aload_n 0, 1) := by decide +kernel
theorem dX12_lostThing_28 : decode cX12_lostThing 28 = .ok (.getfield 222, 3) := by decide +kernel
theorem dX12_lostThing_31 : decode cX12_lostThing 31 = .ok (.aload_n 0, 1) := by decide +kernel
theorem dX12_lostThing_32 : decode cX12_lostThing 32 = .ok (.iload_n 1, 1) := by decide +kernel
theorem dX12_lostThing_33 : decode cX12_lostThing 33 = .ok (.iload_n 2, 1) := by decide +kernel
theorem dX12_lostThing_34 : decode cX12_lostThing 34 = .ok (.invokevirtual 545, 3) := by decide +kernel
theorem dX12_lostThing_37 : decode cX12_lostThing 37 = .ok (.iaload, 1) := by decide +kernel
theorem dX12_lostThing_38 : decode cX12_lostThing 38 = .ok (.goto 4, 3) := by decide +kernel
theorem dX12_lostThing_41 : decode cX12_lostThing 41 = .ok (.iconst (-1), 1) := by decide +kernel
theorem dX12_lostThing_42 : decode cX12_lostThing 42 = .ok (.ireturn, 1) := by decide +kernel
theorem dX12_make_0 : decode cX12_make 0 = .ok (.aload_n 0, 1) := by decide +kernel
theorem dX12_make_1 : decode cX12_make 1 = .ok (.aload_n 0, 1) := by decide +kernel
theorem dX12_make_2 : decode cX12_make 2 = .ok (.iload_n 1, 1) := by decide +kernel
theorem dX12_make_3 : decode cX12_make 3 = .ok (.invokevirtual 416, 3) := by decide +kernel
theorem dX12_make_6 : decode cX12_make 6 = .ok (.ifCond .ne 25, 3) := by decide +kernel
theorem dX12_make_9 : decode cX12_make 9 = .ok (.aload_n 0, 1) := by decide +kernel
theorem dX12_make_10 : decode cX12_make 10 = .ok (.iload_n 1, 1) := by decide +kernel
theorem dX12_make_11 : decode cX12_make 11 = .ok (.invokevirtual 464, 3) := by decide +kernel
theorem dX12_make_14 : decode cX12_make 14 = .ok (.ifCond .eq 13, 3) := by decide +kernel
theorem dX12_make_17 : decode cX12_make 17 = .ok (.iload_n 2, 1) := by decide +kernel
theorem dX12_make_18 : decode cX12_make 18 = .ok (.ifCond .lt 9, 3) := by decide +kernel
theorem dX12_make_21 : decode cX12_make 21 = .ok (.iload_n 2, 1) := by decide +kernel
theorem dX12_make_22 : decode cX12_make 22 = .ok (.bipush 60, 2) := by decide +kernel
theorem dX12_make_24 : decode cX12_make 24 = .ok (.if_icmp .le 7, 3) := by decide +kernel
theorem dX12_make_27 : decode cX12_make 27 = .ok (.iconst 1, 1) := by decide +kernel
theorem dX12_make_28 : decode cX12_make 28 = .ok (.goto 4, 3) := by decide +kernel
theorem dX12_make_31 : decode cX12_make 31 = .ok (.iconst 0, 1) := by decide +kernel
theorem dX12_make_32 : decode cX12_make 32 = .ok (.putfield 388, 3) := by decide +kernel
theorem dX12_make_35 : decode cX12_make 35 = .ok (.aload_n 0, 1) := by decide +kernel
theorem dX12_make_36 : decode cX12_make 36 = .ok (.getfield 388, 3) := by decide +kernel
theorem dX12_make_39 : decode cX12_make 39 = .ok (.ifCond .le 5, 3) := by decide +kernel
theorem dX12_make_42 : decode cX12_make 42 = .ok (.iconst 0, 1) := by decide +kernel
theorem dX12_make_43 : decode cX12_make 43 = .ok (.ireturn, 1) := by decide +kernel
theorem dX12_make_44 : decode cX12_make 44 = .ok (.aload_n 0, 1) := by decide +kernel
theorem dX12_make_45 : decode cX12_make 45 = .ok (.aload_n 0, 1) := by decide +kernel
theorem dX12_make_46 : decode cX12_make 46 = .ok (.getfield 435, 3) := by decide +kernel
theorem dX12_make_49 : decode cX12_make 49 = .ok (.sipush 400, 3) := by decide +kernel
theorem dX12_make_52 : decode cX12_make 52 = .ok (.if_icmp .eq 20, 3) := by decide +kernel
theorem dX12_make_55 : decode cX12_make 55 = .ok (.aload_n 0, 1) := by decide +kernel
theorem dX12_make_56 : decode cX12_make 56 = .ok (.getfield 461, 3) := by decide +kernel
theorem dX12_make_59 : decode cX12_make 59 = .ok (.aload_n 0, 1) := by decide +kernel
theorem dX12_make_60 : decode cX12_make 60 = .ok (.iload_n 1, 1) := by decide +kernel
theorem dX12_make_61 : decode cX12_make 61 = .ok (.iload_n 2, 1) := by decide +kernel
theorem dX12_make_62 : decode cX12_make 62 = .ok (.invokevirtual 455, 3) := by decide +kernel
theorem dX12_make_65 : decode cX12_make 65 = .ok (.iadd, 1) := by decide +kernel
theorem dX12_make_66 : decode cX12_make 66 = .ok (.sipush 4000, 3) := by decide +kernel
theorem dX12_make_69 : decode cX12_make 69 = .ok (.if_icmp .le 7, 3) := by decide +kernel
theorem dX12_make_72 : decode cX12_make 72 = .ok (.iconst 2, 1) := by decide +kernel
theorem dX12_make_73 : decode cX12_make 73 = .ok (.goto 4, 3) := by decide +kernel
theorem dX12_make_76 : decode cX12_make 76 = .ok (.iconst 0, 1) := by decide +kernel
theorem dX12_make_77 : decode cX12_make 77 = .ok (.putfield 388, 3) := by decide +kernel
theorem dX12_make_80 : decode cX12_make 80 = .ok (.aload_n 0, 1) := by decide +kernel
theorem dX12_make_81 : decode cX12_make 81 = .ok (.getfield 388, 3) := by decide +kernel
theorem dX12_make_84 : decode cX12_make 84 = .ok (.ifCond .le 5, 3) := by decide +kernel
theorem dX12_make_87 : decode cX12_make 87 = .ok (.iconst 0, 1) := by decide +kernel
theorem dX12_make_88 : decode cX12_make 88 = .ok (.ireturn, 1) := by decide +kernel
theorem dX12_make_89 : decode cX12_make 89 = .ok (.aload_n 0, 1) := by decide +kernel
theorem dX12_make_90 : decode cX12_make 90 = .ok (.iload_n 1, 1) := by decide +kernel
theorem dX12_make_91 : decode cX12_make 91 = .ok (.invokevirtual 416, 3) := by decide +kernel
theorem dX12_make_94 : decode cX12_make 94 = .ok (.ifCond .eq 27, 3) := by decide +kernel
theorem dX12_make_97 : decode cX12_make 97 = .ok (.iload_n 1, 1) := by decide +kernel
theorem dX12_make_98 : decode cX12_make 98 = .ok (.istore_n 3, 1) := by decide +kernel
theorem dX12_make_99 : decode cX12_make 99 = .ok (.iload_n 3, 1) := by decide +kernel
theorem dX12_make_100 : decode cX12_make 100 = .ok (.iconst (-1), 1) := by decide +kernel
theorem dX12_make_101 : decode cX12_make 101 = .ok (.if_icmp .eq 20, 3) := by decide +kernel
theorem dX12_make_104 : decode cX12_make 104 = .ok (.aload_n 0, 1) := by decide +kernel
theorem dX12_make_105 : decode cX12_make 105 = .ok (.getfield 115, 3) := by decide +kernel
theorem dX12_make_108 : decode cX12_make 108 = .ok (.iload_n 3, 1) := by decide +kernel
theorem dX12_make_109 : decode cX12_make 109 = .ok (.iconst 1, 1) := by decide +kernel
theorem dX12_make_110 : decode cX12_make 110 = .ok (.bastore, 1) := by decide +kernel
theorem dX12_make_111 : decode cX12_make 111 = .ok (.aload_n 0, 1) := by decide +kernel
theorem dX12_make_112 : decode cX12_make 112 = .ok (.getfield 91, 3) := by decide +kernel
theorem dX12_make_115 : decode cX12_make 115 = .ok (.iload_n 3, 1) := by decide +kernel
theorem dX12_make_116 : decode cX12_make 116 = .ok (.iaload, 1) := by decide +kernel
theorem dX12_make_117 : decode cX12_make 117 = .ok (.istore_n 3, 1) := by decide +kernel
theorem dX12_make_118 : decode cX12_make 118 = .ok (.goto (-19), 3) := by decide +kernel
theorem dX12_make_121 : decode cX12_make 121 = .ok (.aload_n 0, 1) := by decide +kernel
theorem dX12_make_122 : decode cX12_make 122 = .ok (.iload_n 1, 1) := by decide +kernel
theorem dX12_make_123 : decode cX12_make 123 = .ok (.iload_n 2, 1) := by decide +kernel
theorem dX12_make_124 : decode cX12_make 124 = .ok (.invokevirtual 467, 3) := by decide +kernel
theorem dX12_make_127 : decode cX12_make 127 = .ok (.ireturn, 1) := by decide +kernel
theorem dX12_meet_0 : decode cX12_meet 0 = .ok (.lload_n 1, 1) := by decide +kernel
theorem dX12_meet_1 : decode cX12_meet 1 = .ok (.lconst 0, 1) := by decide +kernel
theorem dX12_meet_2 : decode cX12_meet 2 = .ok (.lcmp, 1) := by decide +kernel
theorem dX12_meet_3 : decode cX12_meet 3 = .ok (.ifCond .lt 14, 3) := by decide +kernel
theorem dX12_meet_6 : decode cX12_meet 6 = .ok (.aload_n 0, 1) := by decide +kernel
theorem dX12_meet_7 : decode cX12_meet 7 = .ok (.getfield 180, 3) := by decide +kernel
theorem dX12_meet_10 : decode cX12_meet 10 = .ok (.lload_n 1, 1) := by decide +kernel
theorem dX12_meet_11 : decode cX12_meet 11 = .ok (.l2i, 1) := by decide +kernel
theorem dX12_meet_12 : decode cX12_meet 12 = .ok (.iaload, 1) := by decide +kernel
theorem dX12_meet_13 : decode cX12_meet 13 = .ok (.iconst (-1), 1) := by decide +kernel
theorem dX12_meet_14 : decode cX12_meet 14 = .ok (.if_icmp .eq 4, 3) := by decide +kernel
theorem dX12_meet_17 : decode cX12_meet 17 = .ok (.return_, 1) := by decide +kernel
theorem dX12_meet_18 : decode cX12_meet 18 = .ok (.aload_n 0, 1) := by decide +kernel
theorem dX12_meet_19 : decode cX12_meet 19 = .ok (.getfield 180, 3) := by decide +kernel
theorem dX12_meet_22 : decode cX12_meet 22 = .ok (.lload_n 1, 1) := by decide +kernel
theorem dX12_meet_23 : decode cX12_meet 23 = .ok (.l2i, 1) := by decide +kernel
theorem dX12_meet_24 : decode cX12_meet 24 = .ok (.aload_n 0, 1) := by decide +kernel
theorem dX12_meet_25 : decode cX12_meet 25 = .ok (.getfield 522, 3) := by decide +kernel
theorem dX12_meet_28 : decode cX12_meet 28 = .ok (.iastore, 1) := by decide +kernel
theorem dX12_meet_29 : decode cX12_meet 29 = .ok (.aload_n 0, 1) := by decide +kernel
theorem dX12_meet_30 : decode cX12_meet 30 = .ok (.getfield 177, 3) := by decide +kernel
theorem dX12_meet_33 : decode cX12_meet 33 = .ok (.aload_n 0, 1) := by decide +kernel
theorem dX12_meet_34 : decode cX12_meet 34 = .ok (.getfield 522, 3) := by decide +kernel
theorem dX12_meet_37 : decode cX12_meet 37 = .ok (.lload_n 1, 1) := by decide +kernel
theorem dX12_meet_38 : decode cX12_meet 38 = .ok (.l2i, 1) := by decide +kernel
theorem dX12_meet_39 : decode cX12_meet 39 = .ok (.iastore, 1) := by decide +kernel
theorem dX12_meet_40 : decode cX12_meet 40 = .ok (.aload_n 0, 1) := by decide +kernel
theorem dX12_meet_41 : decode cX12_meet 41 = .ok (.dup, 1) := by decide +kernel
theorem dX12_meet_42 : decode cX12_meet 42 = .ok (.getfield 522, 3) := by decide +kernel
theorem dX12_meet_45 : decode cX12_meet 45 = .ok (.iconst 1, 1) := by decide +kernel
theorem dX12_meet_46 : decode cX12_meet 46 = .ok (.iadd, 1) := by decide +kernel
theorem dX12_meet_47 : decode cX12_meet 47 = .ok (.putfield 522, 3) := by decide +kernel
theorem dX12_meet_50 : decode cX12_meet 50 = .ok (.return_, 1) := by decide +kernel
theorem dX12_meetNext_0 : decode cX12_meetNext 0 = .ok (.aload_n 0, 1) := by decide +kernel
theorem dX12_meetNext_1 : decode cX12_meetNext 1 = .ok (.getfield 249, 3) := by decide +kernel
theorem dX12_meetNext_4 : decode cX12_meetNext 4 = .ok (.iload_n 1, 1) := by decide +kernel
theorem dX12_meetNext_5 : decode cX12_meetNext 5 = .ok (.baload, 1) := by decide +kernel
theorem dX12_meetNext_6 : decode cX12_meetNext 6 = .ok (.ifCond .eq 5, 3) := by decide +kernel
theorem dX12_meetNext_9 : decode cX12_meetNext 9 = .ok (.iload_n 2, 1) := by decide +kernel
theorem dX12_meetNext_10 : decode cX12_meetNext 10 = .ok (.ireturn, 1) := by decide +kernel
theorem dX12_meetNext_11 : decode cX12_meetNext 11 = .ok (.iload_n 1, 1) := by decide +kernel
theorem dX12_meetNext_12 : decode cX12_meetNext 12 = .ok (.iload_n 2, 1) := by decide +kernel
theorem dX12_meetNext_13 : decode cX12_meetNext 13 = .ok (.if_icmp .eq 15, 3) := by decide +kernel
theorem dX12_meetNext_16 : decode cX12_meetNext 16 = .ok (.aload_n 0, 1) := by decide +kernel
theorem dX12_meetNext_17 : decode cX12_meetNext 17 = .ok (.bipush 7, 2) := by decide +kernel
theorem dX12_meetNext_19 : decode cX12_meetNext 19 = .ok (.aload_n 0, 1) := by decide +kernel
theorem dX12_meetNext_20 : decode cX12_meetNext 20 = .ok (.getfield 375, 3) := by decide +kernel
theorem dX12_meetNext_23 : decode cX12_meetNext 23 = .ok (.iload_n 2, 1) := by decide +kernel
theorem dX12_meetNext_24 : decode cX12_meetNext 24 = .ok (.iaload, 1) := by decide +kernel
theorem dX12_meetNext_25 : decode cX12_meetNext 25 = .ok (.invokevirtual 653, 3) := by decide +kernel
theorem dX12_meetNext_28 : decode cX12_meetNext 28 = .ok (.aload_n 0, 1) := by decide +kernel
theorem dX12_meetNext_29 : decode cX12_meetNext 29 = .ok (.getfield 249, 3) := by decide +kernel
theorem dX12_meetNext_32 : decode cX12_meetNext 32 = .ok (.iload_n 1, 1) := by decide +kernel
theorem dX12_meetNext_33 : decode cX12_meetNext 33 = .ok (.iconst 1, 1) := by decide +kernel
theorem dX12_meetNext_34 : decode cX12_meetNext 34 = .ok (.bastore, 1) := by decide +kernel
theorem dX12_meetNext_35 : decode cX12_meetNext 35 = .ok (.iload_n 2, 1) := by decide +kernel
theorem dX12_meetNext_36 : decode cX12_meetNext 36 = .ok (.iconst 1, 1) := by decide +kernel
theorem dX12_meetNext_37 : decode cX12_meetNext 37 = .ok (.iadd, 1) := by decide +kernel
theorem dX12_meetNext_38 : decode cX12_meetNext 38 = .ok (.ireturn, 1) := by decide +kernel
theorem dX12_meetSlots_0 : decode cX12_meetSlots 0 = .ok (.iconst 0, 1) := by decide +kernel
theorem dX12_meetSlots_1 : decode cX12_meetSlots 1 = .ok (.istore_n 3, 1) := by decide +kernel
theorem dX12_meetSlots_2 : decode cX12_meetSlots 2 = .ok (.iload_n 3, 1) := by decide +kernel
theorem dX12_meetSlots_3 : decode cX12_meetSlots 3 = .ok (.aload_n 0, 1) := by decide +kernel
theorem dX12_meetSlots_4 : decode cX12_meetSlots 4 = .ok (.aload_n 0, 1) := by decide +kernel
theorem dX12_meetSlots_5 : decode cX12_meetSlots 5 = .ok (.getfield 125, 3) := by decide +kernel
theorem dX12_meetSlots_8 : decode cX12_meetSlots 8 = .ok (.iload_n 1, 1) := by decide +kernel
theorem dX12_meetSlots_9 : decode cX12_meetSlots 9 = .ok (.iaload, 1) := by decide +kernel
theorem dX12_meetSlots_10 : decode cX12_meetSlots 10 = .ok (.aload_n 0, 1) := by decide +kernel
theorem dX12_meetSlots_11 : decode cX12_meetSlots 11 = .ok (.getfield 128, 3) := by decide +kernel
theorem dX12_meetSlots_14 : decode cX12_meetSlots 14 = .ok (.iload_n 1, 1) := by decide +kernel
theorem dX12_meetSlots_15 : decode cX12_meetSlots 15 = .ok (.iaload, 1) := by decide +kernel
theorem dX12_meetSlots_16 : decode cX12_meetSlots 16 = .ok (.invokevirtual 455, 3) := by decide +kernel
theorem dX12_meetSlots_19 : decode cX12_meetSlots 19 = .ok (.if_icmp .ge 65, 3) := by decide +kernel
theorem dX12_meetSlots_22 : decode cX12_meetSlots 22 = .ok (.aload_n 0, 1) := by decide +kernel
theorem dX12_meetSlots_23 : decode cX12_meetSlots 23 = .ok (.iload_n 1, 1) := by decide +kernel
theorem dX12_meetSlots_24 : decode cX12_meetSlots 24 = .ok (.iload_n 3, 1) := by decide +kernel
theorem dX12_meetSlots_25 : decode cX12_meetSlots 25 = .ok (.invokevirtual 512, 3) := by decide +kernel
theorem dX12_meetSlots_28 : decode cX12_meetSlots 28 = .ok (.ifCond .ne 6, 3) := by decide +kernel
theorem dX12_meetSlots_31 : decode cX12_meetSlots 31 = .ok (.goto 47, 3) := by decide +kernel
theorem dX12_meetSlots_34 : decode cX12_meetSlots 34 = .ok (.aload_n 0, 1) := by decide +kernel
theorem dX12_meetSlots_35 : decode cX12_meetSlots 35 = .ok (.getfield 138, 3) := by decide +kernel
theorem dX12_meetSlots_38 : decode cX12_meetSlots 38 = .ok (.aload_n 0, 1) := by decide +kernel
theorem dX12_meetSlots_39 : decode cX12_meetSlots 39 = .ok (.getfield 131, 3) := by decide +kernel
theorem dX12_meetSlots_42 : decode cX12_meetSlots 42 = .ok (.iload_n 1, 1) := by decide +kernel
theorem dX12_meetSlots_43 : decode cX12_meetSlots 43 = .ok (.iaload, 1) := by decide +kernel
theorem dX12_meetSlots_44 : decode cX12_meetSlots 44 = .ok (.iload_n 3, 1) := by decide +kernel
theorem dX12_meetSlots_45 : decode cX12_meetSlots 45 = .ok (.iadd, 1) := by decide +kernel
theorem dX12_meetSlots_46 : decode cX12_meetSlots 46 = .ok (.laload, 1) := by decide +kernel
theorem dX12_meetSlots_47 : decode cX12_meetSlots 47 = .ok (.lstore 4, 2) := by decide +kernel
theorem dX12_meetSlots_49 : decode cX12_meetSlots 49 = .ok (.lload 4, 2) := by decide +kernel
theorem dX12_meetSlots_51 : decode cX12_meetSlots 51 = .ok (.ldc2_w 433, 3) := by decide +kernel
theorem dX12_meetSlots_54 : decode cX12_meetSlots 54 = .ok (.lcmp, 1) := by decide +kernel
theorem dX12_meetSlots_55 : decode cX12_meetSlots 55 = .ok (.ifCond .eq 23, 3) := by decide +kernel
theorem dX12_meetSlots_58 : decode cX12_meetSlots 58 = .ok (.iload_n 2, 1) := by decide +kernel
theorem dX12_meetSlots_59 : decode cX12_meetSlots 59 = .ok (.ifCond .eq 13, 3) := by decide +kernel
theorem dX12_meetSlots_62 : decode cX12_meetSlots 62 = .ok (.aload_n 0, 1) := by decide +kernel
theorem dX12_meetSlots_63 : decode cX12_meetSlots 63 = .ok (.lload 4, 2) := by decide +kernel
theorem dX12_meetSlots_65 : decode cX12_meetSlots 65 = .ok (.l2i, 1) := by decide +kernel
theorem dX12_meetSlots_66 : decode cX12_meetSlots 66 = .ok (.invokevirtual 525, 3) := by decide +kernel
theorem dX12_meetSlots_69 : decode cX12_meetSlots 69 = .ok (.ifCond .ne 9, 3) := by decide +kernel
theorem dX12_meetSlots_72 : decode cX12_meetSlots 72 = .ok (.aload_n 0, 1) := by decide +kernel
theorem dX12_meetSlots_73 : decode cX12_meetSlots 73 = .ok (.lload 4, 2) := by decide +kernel
theorem dX12_meetSlots_75 : decode cX12_meetSlots 75 = .ok (.invokevirtual 528, 3) := by decide +kernel
theorem dX12_meetSlots_78 : decode cX12_meetSlots 78 = .ok (.iinc 3 1, 3) := by decide +kernel
theorem dX12_meetSlots_81 : decode cX12_meetSlots 81 = .ok (.goto (-79), 3) := by decide +kernel
theorem dX12_meetSlots_84 : decode cX12_meetSlots 84 = .ok (.return_, 1) := by decide +kernel
theorem dX12_member_0 : decode cX12_member 0 = .ok (.iconst (-1), 1) := by decide +kernel
theorem dX12_member_1 : decode cX12_member 1 = .ok (.istore 5, 2) := by decide +kernel
theorem dX12_member_3 : decode cX12_member 3 = .ok (.iload 4, 2) := by decide +kernel
theorem dX12_member_5 : decode cX12_member 5 = .ok (.istore 6, 2) := by decide +kernel
theorem dX12_member_7 : decode cX12_member 7 = .ok (.iconst 0, 1) := by decide +kernel
theorem dX12_member_8 : decode cX12_member 8 = .ok (.istore 7, 2) := by decide +kernel
theorem dX12_member_10 : decode cX12_member 10 = .ok (.aload_n 0, 1) := by decide +kernel
theorem dX12_member_11 : decode cX12_member 11 = .ok (.iload_n 1, 1) := by decide +kernel
theorem dX12_member_12 : decode cX12_member 12 = .ok (.invokevirtual 542, 3) := by decide +kernel
theorem dX12_member_15 : decode cX12_member 15 = .ok (.ifCond .eq 94, 3) := by decide +kernel
theorem dX12_member_18 : decode cX12_member 18 = .ok (.iload_n 3, 1) := by decide +kernel
theorem dX12_member_19 : decode cX12_member 19 = .ok (.ifCond .lt 90, 3) := by decide +kernel
theorem dX12_member_22 : decode cX12_member 22 = .ok (.iload_n 2, 1) := by decide +kernel
theorem dX12_member_23 : decode cX12_member 23 = .ok (.ifCond .lt 86, 3) := by decide +kernel
theorem dX12_member_26 : decode cX12_member 26 = .ok (.iload_n 2, 1) := by decide +kernel
theorem dX12_member_27 : decode cX12_member 27 = .ok (.iconst 2, 1) := by decide +kernel
theorem dX12_member_28 : decode cX12_member 28 = .ok (.if_icmp .ge 81, 3) := by decide +kernel
theorem dX12_member_31 : decode cX12_member 31 = .ok (.iload 4, 2) := by decide +kernel
theorem dX12_member_33 : decode cX12_member 33 = .ok (.ifCond .lt 76, 3) := by decide +kernel
theorem dX12_member_36 : decode cX12_member 36 = .ok (.iload 7, 2) := by decide +kernel
theorem dX12_member_38 : decode cX12_member 38 = .ok (.aload_n 0, 1) := by decide +kernel
theorem dX12_member_39 : decode cX12_member 39 = .ok (.getfield 183, 3) := by decide +kernel
theorem dX12_member_42 : decode cX12_member 42 = .ok (.iload_n 1, 1) := by decide +kernel
theorem dX12_member_43 : decode cX12_member 43 = .ok (.iaload, 1) := by decide +kernel
theorem dX12_member_44 : decode cX12_member 44 = .ok (.if_icmp .ge 65, 3) := by decide +kernel
theorem dX12_member_47 : decode cX12_member 47 = .ok (.iload 5, 2) := by decide +kernel
theorem dX12_member_49 : decode cX12_member 49 = .ok (.iconst (-1), 1) := by decide +kernel
theorem dX12_member_50 : decode cX12_member 50 = .ok (.if_icmp .ne 59, 3) := by decide +kernel
theorem dX12_member_53 : decode cX12_member 53 = .ok (.iload_n 2, 1) := by decide +kernel
theorem dX12_member_54 : decode cX12_member 54 = .ok (.ifCond .ne 18, 3) := by decide +kernel
theorem dX12_member_57 : decode cX12_member 57 = .ok (.aload_n 0, 1) := by decide +kernel
theorem dX12_member_58 : decode cX12_member 58 = .ok (.getfield 216, 3) := by decide +kernel
theorem dX12_member_61 : decode cX12_member 61 = .ok (.aload_n 0, 1) := by decide +kernel
theorem dX12_member_62 : decode cX12_member 62 = .ok (.iload_n 1, 1) := by decide +kernel
theorem dX12_member_63 : decode cX12_member 63 = .ok (.iload 7, 2) := by decide +kernel
theorem dX12_member_65 : decode cX12_member 65 = .ok (.invokevirtual 545, 3) := by decide +kernel
theorem dX12_member_68 : decode cX12_member 68 = .ok (.iaload, 1) := by decide +kernel
theorem dX12_member_69 : decode cX12_member 69 = .ok (.goto 15, 3) := by decide +kernel
theorem dX12_member_72 : decode cX12_member 72 = .ok (.aload_n 0, 1) := by decide +kernel
theorem dX12_member_73 : decode cX12_member 73 = .ok (.getfield 219, 3) := by decide +kernel
theorem dX12_member_76 : decode cX12_member 76 = .ok (.aload_n 0, 1) := by decide +kernel
theorem dX12_member_77 : decode cX12_member 77 = .ok (.iload_n 1, 1) := by decide +kernel
theorem dX12_member_78 : decode cX12_member 78 = .ok (.iload 7, 2) := by decide +kernel
theorem dX12_member_80 : decode cX12_member 80 = .ok (.invokevirtual 545, 3) := by decide +kernel
theorem dX12_member_83 : decode cX12_member 83 = .ok (.iaload, 1) := by decide +kernel
theorem dX12_member_84 : decode cX12_member 84 = .ok (.iload_n 3, 1) := by decide +kernel
theorem dX12_member_85 : decode cX12_member 85 = .ok (.if_icmp .eq 6, 3) := by decide +kernel
theorem dX12_member_88 : decode cX12_member 88 = .ok (.goto 15, 3) := by decide +kernel
theorem dX12_member_91 : decode cX12_member 91 = .ok (.iload 6, 2) := by decide +kernel
theorem dX12_member_93 : decode cX12_member 93 = .ok (.ifCond .ne 7, 3) := by decide +kernel
theorem dX12_member_96 : decode cX12_member 96 = .ok (.iload 7, 2) := by decide +kernel
theorem dX12_member_98 : decode cX12_member 98 = .ok (.istore 5, 2) := by decide +kernel
theorem dX12_member_100 : decode cX12_member 100 = .ok (.iinc 6 (-1), 3) := by decide +kernel
theorem dX12_member_103 : decode cX12_member 103 = .ok (.iinc 7 1, 3) := by decide +kernel
theorem dX12_member_106 : decode cX12_member 106 = .ok (.goto (-96), 3) := by decide +kernel
theorem dX12_member_109 : decode cX12_member 109 = .ok (.aload_n 0, 1) := by decide +kernel
theorem dX12_member_110 : decode cX12_member 110 = .ok (.iload 5, 2) := by decide +kernel
theorem dX12_member_112 : decode cX12_member 112 = .ok (.iconst (-1), 1) := by decide +kernel
theorem dX12_member_113 : decode cX12_member 113 = .ok (.if_icmp .ne 7, 3) := by decide +kernel
theorem dX12_member_116 : decode cX12_member 116 = .ok (.iconst 1, 1) := by decide +kernel
theorem dX12_member_117 : decode cX12_member 117 = .ok (.goto 4, 3) := by decide +kernel
theorem dX12_member_120 : decode cX12_member 120 = .ok (.iconst 0, 1) := by decide +kernel
theorem dX12_member_121 : decode cX12_member 121 = .ok (.putfield 388, 3) := by decide +kernel
theorem dX12_member_124 : decode cX12_member 124 = .ok (.aload_n 0, 1) := by decide +kernel
theorem dX12_member_125 : decode cX12_member 125 = .ok (.getfield 388, 3) := by decide +kernel
theorem dX12_member_128 : decode cX12_member 128 = .ok (.ifCond .le 7, 3) := by decide +kernel
theorem dX12_member_131 : decode cX12_member 131 = .ok (.iconst 0, 1) := by decide +kernel
theorem dX12_member_132 : decode cX12_member 132 = .ok (.goto 5, 3) := by decide +kernel
theorem dX12_member_135 : decode cX12_member 135 = .ok (.iload 5, 2) := by decide +kernel
theorem dX12_member_137 : decode cX12_member 137 = .ok (.ireturn, 1) := by decide +kernel
theorem dX12_needSign_0 : decode cX12_needSign 0 = .ok (.aload_n 0, 1) := by decide +kernel
theorem dX12_needSign_1 : decode cX12_needSign 1 = .ok (.getfield 625, 3) := by decide +kernel
theorem dX12_needSign_4 : decode cX12_needSign 4 = .ok (.ifCond .le 4, 3) := by decide +kernel
theorem dX12_needSign_7 : decode cX12_needSign 7 = .ok (.return_, 1) := by decide +kernel
theorem dX12_needSign_8 : decode cX12_needSign 8 = .ok (.aload_n 0, 1) := by decide +kernel
theorem dX12_needSign_9 : decode cX12_needSign 9 = .ok (.lload_n 1, 1) := by decide +kernel
theorem dX12_needSign_10 : decode cX12_needSign 10 = .ok (.invokevirtual 657, 3) := by decide +kernel
theorem dX12_needSign_13 : decode cX12_needSign 13 = .ok (.ifCond .eq 10, 3) := by decide +kernel
theorem dX12_needSign_16 : decode cX12_needSign 16 = .ok (.aload_n 0, 1) := by decide +kernel
theorem dX12_needSign_17 : decode cX12_needSign 17 = .ok (.invokevirtual 661, 3) := by decide +kernel
theorem dX12_needSign_20 : decode cX12_needSign 20 = .ok (.goto 7, 3) := by decide +kernel
theorem dX12_needSign_23 : decode cX12_needSign 23 = .ok (.aload_n 0, 1) := by decide +kernel
theorem dX12_needSign_24 : decode cX12_needSign 24 = .ok (.invokevirtual 664, 3) := by decide +kernel
theorem dX12_needSign_27 : decode cX12_needSign 27 = .ok (.return_, 1) := by decide +kernel
theorem dX12_nest_0 : decode cX12_nest 0 = .ok (.aload_n 0, 1) := by decide +kernel
theorem dX12_nest_1 : decode cX12_nest 1 = .ok (.getfield 625, 3) := by decide +kernel
theorem dX12_nest_4 : decode cX12_nest 4 = .ok (.ifCond .ne 21, 3) := by decide +kernel
theorem dX12_nest_7 : decode cX12_nest 7 = .ok (.aload_n 0, 1) := by decide +kernel
theorem dX12_nest_8 : decode cX12_nest 8 = .ok (.getfield 676, 3) := by decide +kernel
theorem dX12_nest_11 : decode cX12_nest 11 = .ok (.bipush 10, 2) := by decide +kernel
theorem dX12_nest_13 : decode cX12_nest 13 = .ok (.if_icmp .ne 12, 3) := by decide +kernel
theorem dX12_nest_16 : decode cX12_nest 16 = .ok (.aload_n 0, 1) := by decide +kernel
theorem dX12_nest_17 : decode cX12_nest 17 = .ok (.iconst 4, 1) := by decide +kernel
theorem dX12_nest_18 : decode cX12_nest 18 = .ok (.aload_n 0, 1) := by decide +kernel
theorem dX12_nest_19 : decode cX12_nest 19 = .ok (.getfield 637, 3) := by decide +kernel
theorem dX12_nest_22 : decode cX12_nest 22 = .ok (.invokevirtual 653, 3) := by decide +kernel
theorem dX12_nest_25 : decode cX12_nest 25 = .ok (.aload_n 0, 1) := by decide +kernel
theorem dX12_nest_26 : decode cX12_nest 26 = .ok (.dup, 1) := by decide +kernel
theorem dX12_nest_27 : decode cX12_nest 27 = .ok (.getfield 676, 3) := by decide +kernel
theorem dX12_nest_30 : decode cX12_nest 30 = .ok (.iconst 1, 1) := by decide +kernel
theorem dX12_nest_31 : decode cX12_nest 31 = .ok (.iadd, 1) := by decide +kernel
theorem dX12_nest_32 : decode cX12_nest 32 = .ok (.putfield 676, 3) := by decide +kernel
theorem dX12_nest_35 : decode cX12_nest 35 = .ok (.return_, 1) := by decide +kernel
theorem dX12_node_0 : decode cX12_node 0 = .ok (.aload_n 0, 1) := by decide +kernel
theorem dX12_node_1 : decode cX12_node 1 = .ok (.getfield 625, 3) := by decide +kernel
theorem dX12_node_4 : decode cX12_node 4 = .ok (.ifCond .ne 21, 3) := by decide +kernel
theorem dX12_node_7 : decode cX12_node 7 = .ok (.aload_n 0, 1) := by decide +kernel
theorem dX12_node_8 : decode cX12_node 8 = .ok (.getfield 670, 3) := by decide +kernel
theorem dX12_node_11 : decode cX12_node 11 = .ok (.bipush 120, 2) := by decide +kernel
theorem dX12_node_13 : decode cX12_node 13 = .ok (.if_icmp .ne 12, 3) := by decide +kernel
theorem dX12_node_16 : decode cX12_node 16 = .ok (.aload_n 0, 1) := by decide +kernel
theorem dX12_node_17 : decode cX12_node 17 = .ok (.iconst 4, 1) := by decide +kernel
theorem dX12_node_18 : decode cX12_node 18 = .ok (.aload_n 0, 1) := by decide +kernel
theorem dX12_node_19 : decode cX12_node 19 = .ok (.getfield 637, 3) := by decide +kernel
theorem dX12_node_22 : decode cX12_node 22 = .ok (.invokevirtual 653, 3) := by decide +kernel
theorem dX12_node_25 : decode cX12_node 25 = .ok (.aload_n 0, 1) := by decide +kernel
theorem dX12_node_26 : decode cX12_node 26 = .ok (.getfield 625, 3) := by decide +kernel
theorem dX12_node_29 : decode cX12_node 29 = .ok (.ifCond .le 8, 3) := by decide +kernel
theorem dX12_node_32 : decode cX12_node 32 = .ok (.aload_n 0, 1) := by decide +kernel
theorem dX12_node_33 : decode cX12_node 33 = .ok (.getfield 673, 3) := by decide +kernel
theorem dX12_node_36 : decode cX12_node 36 = .ok (.ireturn, 1) := by decide +kernel
theorem dX12_node_37 : decode cX12_node 37 = .ok (.aload_n 0, 1) := by decide +kernel
theorem dX12_node_38 : decode cX12_node 38 = .ok (.getfield 673, 3) := by decide +kernel
theorem dX12_node_41 : decode cX12_node 41 = .ok (.aload_n 0, 1) := by decide +kernel
theorem dX12_node_42 : decode cX12_node 42 = .ok (.getfield 670, 3) := by decide +kernel
theorem dX12_node_45 : decode cX12_node 45 = .ok (.iadd, 1) := by decide +kernel
theorem dX12_node_46 : decode cX12_node 46 = .ok (.istore_n 2, 1) := by decide +kernel
theorem dX12_node_47 : decode cX12_node 47 = .ok (.aload_n 0, 1) := by decide +kernel
theorem dX12_node_48 : decode cX12_node 48 = .ok (.dup, 1) := by decide +kernel
theorem dX12_node_49 : decode cX12_node 49 = .ok (.getfield 670, 3) := by decide +kernel
theorem dX12_node_52 : decode cX12_node 52 = .ok (.iconst 1, 1) := by decide +kernel
theorem dX12_node_53 : decode cX12_node 53 = .ok (.iadd, 1) := by decide +kernel
theorem dX12_node_54 : decode cX12_node 54 = .ok (.putfield 670, 3) := by decide +kernel
theorem dX12_node_57 : decode cX12_node 57 = .ok (.aload_n 0, 1) := by decide +kernel
theorem dX12_node_58 : decode cX12_node 58 = .ok (.getfield 272, 3) := by decide +kernel
theorem dX12_node_61 : decode cX12_node 61 = .ok (.iload_n 2, 1) := by decide +kernel
theorem dX12_node_62 : decode cX12_node 62 = .ok (.iload_n 1, 1) := by decide +kernel
theorem dX12_node_63 : decode cX12_node 63 = .ok (.iastore, 1) := by decide +kernel
theorem dX12_node_64 : decode cX12_node 64 = .ok (.aload_n 0, 1) := by decide +kernel
theorem dX12_node_65 : decode cX12_node 65 = .ok (.getfield 275, 3) := by decide +kernel
theorem dX12_node_68 : decode cX12_node 68 = .ok (.iload_n 2, 1) := by decide +kernel
theorem dX12_node_69 : decode cX12_node 69 = .ok (.iconst (-1), 1) := by decide +kernel
theorem dX12_node_70 : decode cX12_node 70 = .ok (.iastore, 1) := by decide +kernel
theorem dX12_node_71 : decode cX12_node 71 = .ok (.aload_n 0, 1) := by decide +kernel
theorem dX12_node_72 : decode cX12_node 72 = .ok (.getfield 278, 3) := by decide +kernel
theorem dX12_node_75 : decode cX12_node 75 = .ok (.iload_n 2, 1) := by decide +kernel
theorem dX12_node_76 : decode cX12_node 76 = .ok (.iconst (-1), 1) := by decide +kernel
theorem dX12_node_77 : decode cX12_node 77 = .ok (.iastore, 1) := by decide +kernel
theorem dX12_node_78 : decode cX12_node 78 = .ok (.aload_n 0, 1) := by decide +kernel
theorem dX12_node_79 : decode cX12_node 79 = .ok (.getfield 281, 3) := by decide +kernel
theorem dX12_node_82 : decode cX12_node 82 = .ok (.iload_n 2, 1) := by decide +kernel
theorem dX12_node_83 : decode cX12_node 83 = .ok (.iconst (-1), 1) := by decide +kernel
theorem dX12_node_84 : decode cX12_node 84 = .ok (.iastore, 1) := by decide +kernel
theorem dX12_node_85 : decode cX12_node 85 = .ok (.aload_n 0, 1) := by decide +kernel
theorem dX12_node_86 : decode cX12_node 86 = .ok (.getfield 284, 3) := by decide +kernel
theorem dX12_node_89 : decode cX12_node 89 = .ok (.iload_n 2, 1) := by decide +kernel
theorem dX12_node_90 : decode cX12_node 90 = .ok (.aload_n 0, 1) := by decide +kernel
theorem dX12_node_91 : decode cX12_node 91 = .ok (.getfield 640, 3) := by decide +kernel
theorem dX12_node_94 : decode cX12_node 94 = .ok (.lastore, 1) := by decide +kernel
theorem dX12_node_95 : decode cX12_node 95 = .ok (.iload_n 2, 1) := by decide +kernel
theorem dX12_node_96 : decode cX12_node 96 = .ok (.ireturn, 1) := by decide +kernel
theorem dX12_nothing_0 : decode cX12_nothing 0 = .ok (.aload_n 0, 1) := by decide +kernel
theorem dX12_nothing_1 : decode cX12_nothing 1 = .ok (.iconst 4, 1) := by decide +kernel
theorem dX12_nothing_2 : decode cX12_nothing 2 = .ok (.lconst 0, 1) := by decide +kernel
theorem dX12_nothing_3 : decode cX12_nothing 3 = .ok (.invokevirtual 791, 3) := by decide +kernel
theorem dX12_nothing_6 : decode cX12_nothing 6 = .ok (.return_, 1) := by decide +kernel
theorem dX12_object_0 : decode cX12_object 0 = .ok (.aload_n 0, 1) := by decide +kernel
theorem dX12_object_1 : decode cX12_object 1 = .ok (.iconst 0, 1) := by decide +kernel
theorem dX12_object_2 : decode cX12_object 2 = .ok (.putfield 388, 3) := by decide +kernel
theorem dX12_object_5 : decode cX12_object 5 = .ok (.aload_n 0, 1) := by decide +kernel
theorem dX12_object_6 : decode cX12_object 6 = .ok (.iload_n 1, 1) := by decide +kernel
theorem dX12_object_7 : decode cX12_object 7 = .ok (.invokevirtual 473, 3) := by decide +kernel
theorem dX12_object_10 : decode cX12_object 10 = .ok (.ifCond .ne 5, 3) := by decide +kernel
theorem dX12_object_13 : decode cX12_object 13 = .ok (.iconst (-1), 1) := by decide +kernel
theorem dX12_object_14 : decode cX12_object 14 = .ok (.ireturn, 1) := by decide +kernel
theorem dX12_object_15 : decode cX12_object 15 = .ok (.iload_n 2, 1) := by decide +kernel
theorem dX12_object_16 : decode cX12_object 16 = .ok (.ifCond .ne 12, 3) := by decide +kernel
theorem dX12_object_19 : decode cX12_object 19 = .ok (.aload_n 0, 1) := by decide +kernel
theorem dX12_object_20 : decode cX12_object 20 = .ok (.getfield 125, 3) := by decide +kernel
theorem dX12_object_23 : decode cX12_object 23 = .ok (.iload_n 1, 1) := by decide +kernel
theorem dX12_object_24 : decode cX12_object 24 = .ok (.iaload, 1) := by decide +kernel
theorem dX12_object_25 : decode cX12_object 25 = .ok (.goto 42, 3) := by decide +kernel
theorem dX12_object_28 : decode cX12_object 28 = .ok (.iload_n 2, 1) := by decide +kernel
theorem dX12_object_29 : decode cX12_object 29 = .ok (.iconst 1, 1) := by decide +kernel
theorem dX12_object_30 : decode cX12_object 30 = .ok (.if_icmp .ne 12, 3) := by decide +kernel
theorem dX12_object_33 : decode cX12_object 33 = .ok (.aload_n 0, 1) := by decide +kernel
theorem dX12_object_34 : decode cX12_object 34 = .ok (.getfield 128, 3) := by decide +kernel
theorem dX12_object_37 : decode cX12_object 37 = .ok (.iload_n 1, 1) := by decide +kernel
theorem dX12_object_38 : decode cX12_object 38 = .ok (.iaload, 1) := by decide +kernel
theorem dX12_object_39 : decode cX12_object 39 = .ok (.goto 28, 3) := by decide +kernel
theorem dX12_object_42 : decode cX12_object 42 = .ok (.iload_n 2, 1) := by decide +kernel
theorem dX12_object_43 : decode cX12_object 43 = .ok (.iconst 2, 1) := by decide +kernel
theorem dX12_object_44 : decode cX12_object 44 = .ok (.if_icmp .ne 22, 3) := by decide +kernel
theorem dX12_object_47 : decode cX12_object 47 = .ok (.aload_n 0, 1) := by decide +kernel
theorem dX12_object_48 : decode cX12_object 48 = .ok (.aload_n 0, 1) := by decide +kernel
theorem dX12_object_49 : decode cX12_object 49 = .ok (.getfield 125, 3) := by decide +kernel
theorem dX12_object_52 : decode cX12_object 52 = .ok (.iload_n 1, 1) := by decide +kernel
theorem dX12_object_53 : decode cX12_object 53 = .ok (.iaload, 1) := by decide +kernel
theorem dX12_object_54 : decode cX12_object 54 = .ok (.aload_n 0, 1) := by decide +kernel
theorem dX12_object_55 : decode cX12_object 55 = .ok (.getfield 128, 3) := by decide +kernel
theorem dX12_object_58 : decode cX12_object 58 = .ok (.iload_n 1, 1) := by decide +kernel
theorem dX12_object_59 : decode cX12_object 59 = .ok (.iaload, 1) := by decide +kernel
theorem dX12_object_60 : decode cX12_object 60 = .ok (.invokevirtual 509, 3) := by decide +kernel
theorem dX12_object_63 : decode cX12_object 63 = .ok (.goto 4, 3) := by decide +kernel
theorem dX12_object_66 : decode cX12_object 66 = .ok (.iconst (-1), 1) := by decide +kernel
theorem dX12_object_67 : decode cX12_object 67 = .ok (.ireturn, 1) := by decide +kernel
theorem dX12_objectSize_0 : decode cX12_objectSize 0 = .ok (.aload_n 0, 1) := by decide +kernel
theorem dX12_objectSize_1 : decode cX12_objectSize 1 = .ok (.iload_n 1, 1) := by decide +kernel
theorem dX12_objectSize_2 : decode cX12_objectSize 2 = .ok (.invokevirtual 416, 3) := by decide +kernel
theorem dX12_objectSize_5 : decode cX12_objectSize 5 = .ok (.ifCond .eq 9, 3) := by decide +kernel
theorem dX12_objectSize_8 : decode cX12_objectSize 8 = .ok (.aload_n 0, 1) := by decide +kernel
theorem dX12_objectSize_9 : decode cX12_objectSize 9 = .ok (.iload_n 1, 1) := by decide +kernel
theorem dX12_objectSize_10 : decode cX12_objectSize 10 = .ok (.invokevirtual 438, 3) := by decide +kernel
theorem dX12_objectSize_13 : decode cX12_objectSize 13 = .ok (.ireturn, 1) := by decide +kernel
theorem dX12_objectSize_14 : decode cX12_objectSize 14 = .ok (.iload_n 1, 1) := by decide +kernel
theorem dX12_objectSize_15 : decode cX12_objectSize 15 = .ok (.bipush 29, 2) := by decide +kernel
theorem dX12_objectSize_17 : decode cX12_objectSize 17 = .ok (.if_icmp .lt 7, 3) := by decide +kernel
theorem dX12_objectSize_20 : decode cX12_objectSize 20 = .ok (.iconst 4, 1) := by decide +kernel
theorem dX12_objectSize_21 : decode cX12_objectSize 21 = .ok (.goto 10, 3) := by decide +kernel
theorem dX12_objectSize_24 : decode cX12_objectSize 24 = .ok (.iload_n 1, 1) := by decide +kernel
theorem dX12_objectSize_25 : decode cX12_objectSize 25 = .ok (.bipush 20, 2) := by decide +kernel
theorem dX12_objectSize_27 : decode cX12_objectSize 27 = .ok (.isub, 1) := by decide +kernel
theorem dX12_objectSize_28 : decode cX12_objectSize 28 = .ok (.invokestatic 427, 3) := by decide +kernel
theorem dX12_objectSize_31 : decode cX12_objectSize 31 = .ok (.istore_n 3, 1) := by decide +kernel
theorem dX12_objectSize_32 : decode cX12_objectSize 32 = .ok (.bipush 16, 2) := by decide +kernel
theorem dX12_objectSize_34 : decode cX12_objectSize 34 = .ok (.iload_n 2, 1) := by decide +kernel
theorem dX12_objectSize_35 : decode cX12_objectSize 35 = .ok (.iload_n 3, 1) := by decide +kernel
theorem dX12_objectSize_36 : decode cX12_objectSize 36 = .ok (.imul, 1) := by decide +kernel
theorem dX12_objectSize_37 : decode cX12_objectSize 37 = .ok (.iadd, 1) := by decide +kernel
theorem dX12_objectSize_38 : decode cX12_objectSize 38 = .ok (.bipush 7, 2) := by decide +kernel
theorem dX12_objectSize_40 : decode cX12_objectSize 40 = .ok (.iadd, 1) := by decide +kernel
theorem dX12_objectSize_41 : decode cX12_objectSize 41 = .ok (.bipush 8, 2) := by decide +kernel
theorem dX12_objectSize_43 : decode cX12_objectSize 43 = .ok (.idiv, 1) := by decide +kernel
theorem dX12_objectSize_44 : decode cX12_objectSize 44 = .ok (.bipush 8, 2) := by decide +kernel
theorem dX12_objectSize_46 : decode cX12_objectSize 46 = .ok (.imul, 1) := by decide +kernel
theorem dX12_objectSize_47 : decode cX12_objectSize 47 = .ok (.ireturn, 1) := by decide +kernel
theorem dX12_pair_0 : decode cX12_pair 0 = .ok (.aload_n 0, 1) := by decide +kernel
theorem dX12_pair_1 : decode cX12_pair 1 = .ok (.getfield 262, 3) := by decide +kernel
theorem dX12_pair_4 : decode cX12_pair 4 = .ok (.iload_n 1, 1) := by decide +kernel
theorem dX12_pair_5 : decode cX12_pair 5 = .ok (.iaload, 1) := by decide +kernel
theorem dX12_pair_6 : decode cX12_pair 6 = .ok (.iconst (-1), 1) := by decide +kernel
theorem dX12_pair_7 : decode cX12_pair 7 = .ok (.if_icmp .ne 13, 3) := by decide +kernel
theorem dX12_pair_10 : decode cX12_pair 10 = .ok (.aload_n 0, 1) := by decide +kernel
theorem dX12_pair_11 : decode cX12_pair 11 = .ok (.getfield 265, 3) := by decide +kernel
theorem dX12_pair_14 : decode cX12_pair 14 = .ok (.iload_n 2, 1) := by decide +kernel
theorem dX12_pair_15 : decode cX12_pair 15 = .ok (.iaload, 1) := by decide +kernel
theorem dX12_pair_16 : decode cX12_pair 16 = .ok (.iconst (-1), 1) := by decide +kernel
theorem dX12_pair_17 : decode cX12_pair 17 = .ok (.if_icmp .eq 19, 3) := by decide +kernel
theorem dX12_pair_20 : decode cX12_pair 20 = .ok (.aload_n 0, 1) := by decide +kernel
theorem dX12_pair_21 : decode cX12_pair 21 = .ok (.getfield 262, 3) := by decide +kernel
theorem dX12_pair_24 : decode cX12_pair 24 = .ok (.iload_n 1, 1) := by decide +kernel
theorem dX12_pair_25 : decode cX12_pair 25 = .ok (.iaload, 1) := by decide +kernel
theorem dX12_pair_26 : decode cX12_pair 26 = .ok (.iload_n 2, 1) := by decide +kernel
theorem dX12_pair_27 : decode cX12_pair 27 = .ok (.if_icmp .ne 7, 3) := by decide +kernel
theorem dX12_pair_30 : decode cX12_pair 30 = .ok (.iconst 1, 1) := by decide +kernel
theorem dX12_pair_31 : decode cX12_pair 31 = .ok (.goto 4, 3) := by decide +kernel
theorem dX12_pair_34 : decode cX12_pair 34 = .ok (.iconst 0, 1) := by decide +kernel
theorem dX12_pair_35 : decode cX12_pair 35 = .ok (.ireturn, 1) := by decide +kernel
theorem dX12_pair_36 : decode cX12_pair 36 = .ok (.aload_n 0, 1) := by decide +kernel
theorem dX12_pair_37 : decode cX12_pair 37 = .ok (.getfield 262, 3) := by decide +kernel
theorem dX12_pair_40 : decode cX12_pair 40 = .ok (.iload_n 1, 1) := by decide +kernel
theorem dX12_pair_41 : decode cX12_pair 41 = .ok (.iload_n 2, 1) := by decide +kernel
theorem dX12_pair_42 : decode cX12_pair 42 = .ok (.iastore, 1) := by decide +kernel
theorem dX12_pair_43 : decode cX12_pair 43 = .ok (.aload_n 0, 1) := by decide +kernel
theorem dX12_pair_44 : decode cX12_pair 44 = .ok (.getfield 265, 3) := by decide +kernel
theorem dX12_pair_47 : decode cX12_pair 47 = .ok (.iload_n 2, 1) := by decide +kernel
theorem dX12_pair_48 : decode cX12_pair 48 = .ok (.iload_n 1, 1) := by decide +kernel
theorem dX12_pair_49 : decode cX12_pair 49 = .ok (.iastore, 1) := by decide +kernel
theorem dX12_pair_50 : decode cX12_pair 50 = .ok (.aload_n 0, 1) := by decide +kernel
theorem dX12_pair_51 : decode cX12_pair 51 = .ok (.getfield 256, 3) := by decide +kernel
theorem dX12_pair_54 : decode cX12_pair 54 = .ok (.aload_n 0, 1) := by decide +kernel
theorem dX12_pair_55 : decode cX12_pair 55 = .ok (.getfield 581, 3) := by decide +kernel
theorem dX12_pair_58 : decode cX12_pair 58 = .ok (.iload_n 1, 1) := by decide +kernel
theorem dX12_pair_59 : decode cX12_pair 59 = .ok (.iastore, 1) := by decide +kernel
theorem dX12_pair_60 : decode cX12_pair 60 = .ok (.aload_n 0, 1) := by decide +kernel
theorem dX12_pair_61 : decode cX12_pair 61 = .ok (.dup, 1) := by decide +kernel
theorem dX12_pair_62 : decode cX12_pair 62 = .ok (.getfield 581, 3) := by decide +kernel
theorem dX12_pair_65 : decode cX12_pair 65 = .ok (.iconst 1, 1) := by decide +kernel
theorem dX12_pair_66 : decode cX12_pair 66 = .ok (.iadd, 1) := by decide +kernel
theorem dX12_pair_67 : decode cX12_pair 67 = .ok (.putfield 581, 3) := by decide +kernel
theorem dX12_pair_70 : decode cX12_pair 70 = .ok (.iconst 1, 1) := by decide +kernel
theorem dX12_pair_71 : decode cX12_pair 71 = .ok (.ireturn, 1) := by decide +kernel
theorem dX12_picture_0 : decode cX12_picture 0 = .ok (.aload_n 0, 1) := by decide +kernel
theorem dX12_picture_1 : decode cX12_picture 1 = .ok (.iconst 0, 1) := by decide +kernel
theorem dX12_picture_2 : decode cX12_picture 2 = .ok (.putfield 388, 3) := by decide +kernel
theorem dX12_picture_5 : decode cX12_picture 5 = .ok (.aload_n 0, 1) := by decide +kernel
theorem dX12_picture_6 : decode cX12_picture 6 = .ok (.iload_n 1, 1) := by decide +kernel
theorem dX12_picture_7 : decode cX12_picture 7 = .ok (.invokevirtual 542, 3) := by decide +kernel
theorem dX12_picture_10 : decode cX12_picture 10 = .ok (.ifCond .ne 5, 3) := by decide +kernel
theorem dX12_picture_13 : decode cX12_picture 13 = .ok (.iconst (-1), 1) := by decide +kernel
theorem dX12_picture_14 : decode cX12_picture 14 = .ok (.ireturn, 1) := by decide +kernel
theorem dX12_picture_15 : decode cX12_picture 15 = .ok (.iconst 0, 1) := by decide +kernel
theorem dX12_picture_16 : decode cX12_picture 16 = .ok (.istore_n 3, 1) := by decide +kernel
theorem dX12_picture_17 : decode cX12_picture 17 = .ok (.iconst 0, 1) := by decide +kernel
theorem dX12_picture_18 : decode cX12_picture 18 = .ok (.istore 4, 2) := by decide +kernel
theorem dX12_picture_20 : decode cX12_picture 20 = .ok (.iconst (-1), 1) := by decide +kernel
theorem dX12_picture_21 : decode cX12_picture 21 = .ok (.istore 5, 2) := by decide +kernel
theorem dX12_picture_23 : decode cX12_picture 23 = .ok (.iconst 0, 1) := by decide +kernel
theorem dX12_picture_24 : decode cX12_picture 24 = .ok (.istore 6, 2) := by decide +kernel
theorem dX12_picture_26 : decode cX12_picture 26 = .ok (.iconst 0, 1) := by decide +kernel
theorem dX12_picture_27 : decode cX12_picture 27 = .ok (.istore 7, 2) := by decide +kernel
theorem dX12_picture_29 : decode cX12_picture 29 = .ok (.iconst 0, 1) := by decide +kernel
theorem dX12_picture_30 : decode cX12_picture 30 = .ok (.istore 8, 2) := by decide +kernel
theorem dX12_picture_32 : decode cX12_picture 32 = .ok (.iload 8, 2) := by decide +kernel
theorem dX12_picture_34 : decode cX12_picture 34 = .ok (.aload_n 0, 1) := by decide +kernel
theorem dX12_picture_35 : decode cX12_picture 35 = .ok (.getfield 183, 3) := by decide +kernel
theorem dX12_picture_38 : decode cX12_picture 38 = .ok (.iload_n 1, 1) := by decide +kernel
theorem dX12_picture_39 : decode cX12_picture 39 = .ok (.iaload, 1) := by decide +kernel
theorem dX12_picture_40 : decode cX12_picture 40 = .ok (.if_icmp .ge 184, 3) := by decide +kernel
theorem dX12_picture_43 : decode cX12_picture 43 = .ok (.aload_n 0, 1) := by decide +kernel
theorem dX12_picture_44 : decode cX12_picture 44 = .ok (.getfield 189, 3) := by decide +kernel
theorem dX12_picture_47 : decode cX12_picture 47 = .ok (.aload_n 0, 1) := by decide +kernel
theorem dX12_picture_48 : decode cX12_picture 48 = .ok (.iload_n 1, 1) := by decide +kernel
theorem dX12_picture_49 : decode cX12_picture 49 = .ok (.iload 8, 2) := by decide +kernel
theorem dX12_picture_51 : decode cX12_picture 51 = .ok (.invokevirtual 545, 3) := by decide +kernel
theorem dX12_picture_54 : decode cX12_picture 54 = .ok (.iaload, 1) := by decide +kernel
theorem dX12_picture_55 : decode cX12_picture 55 = .ok (.istore 9, 2) := by decide +kernel
theorem dX12_picture_57 : decode cX12_picture 57 = .ok (.iload_n 3, 1) := by decide +kernel
theorem dX12_picture_58 : decode cX12_picture 58 = .ok (.aload_n 0, 1) := by decide +kernel
theorem dX12_picture_59 : decode cX12_picture 59 = .ok (.iload_n 1, 1) := by decide +kernel
theorem dX12_picture_60 : decode cX12_picture 60 = .ok (.iload 8, 2) := by decide +kernel
theorem dX12_picture_62 : decode cX12_picture 62 = .ok (.invokevirtual 594, 3) := by decide +kernel
theorem dX12_picture_65 : decode cX12_picture 65 = .ok (.iadd, 1) := by decide +kernel
theorem dX12_picture_66 : decode cX12_picture 66 = .ok (.istore_n 3, 1) := by decide +kernel
theorem dX12_picture_67 : decode cX12_picture 67 = .ok (.iload 4, 2) := by decide +kernel
theorem dX12_picture_69 : decode cX12_picture 69 = .ok (.aload_n 0, 1) := by decide +kernel
theorem dX12_picture_70 : decode cX12_picture 70 = .ok (.getfield 219, 3) := by decide +kernel
theorem dX12_picture_73 : decode cX12_picture 73 = .ok (.aload_n 0, 1) := by decide +kernel
theorem dX12_picture_74 : decode cX12_picture 74 = .ok (.iload_n 1, 1) := by decide +kernel
theorem dX12_picture_75 : decode cX12_picture 75 = .ok (.iload 8, 2) := by decide +kernel
theorem dX12_picture_77 : decode cX12_picture 77 = .ok (.invokevirtual 545, 3) := by decide +kernel
theorem dX12_picture_80 : decode cX12_picture 80 = .ok (.iaload, 1) := by decide +kernel
theorem dX12_picture_81 : decode cX12_picture 81 = .ok (.iconst (-1), 1) := by decide +kernel
theorem dX12_picture_82 : decode cX12_picture 82 = .ok (.if_icmp .eq 25, 3) := by decide +kernel
theorem dX12_picture_85 : decode cX12_picture 85 = .ok (.aload_n 0, 1) := by decide +kernel
theorem dX12_picture_86 : decode cX12_picture 86 = .ok (.iload_n 1, 1) := by decide +kernel
theorem dX12_picture_87 : decode cX12_picture 87 = .ok (.iload 8, 2) := by decide +kernel
theorem dX12_picture_89 : decode cX12_picture 89 = .ok (.invokevirtual 606, 3) := by decide +kernel
theorem dX12_picture_92 : decode cX12_picture 92 = .ok (.iload 8, 2) := by decide +kernel
theorem dX12_picture_94 : decode cX12_picture 94 = .ok (.if_icmp .eq 13, 3) := by decide +kernel
theorem dX12_picture_97 : decode cX12_picture 97 = .ok (.aload_n 0, 1) := by decide +kernel
theorem dX12_picture_98 : decode cX12_picture 98 = .ok (.iload_n 1, 1) := by decide +kernel
theorem dX12_picture_99 : decode cX12_picture 99 = .ok (.iload 8, 2) := by decide +kernel
theorem dX12_picture_101 : decode cX12_picture 101 = .ok (.invokevirtual 594, 3) := by decide +kernel
theorem dX12_picture_104 : decode cX12_picture 104 = .ok (.goto 4, 3) := by decide +kernel
theorem dX12_picture_107 : decode cX12_picture 107 = .ok (.iconst 0, 1) := by decide +kernel
theorem dX12_picture_108 : decode cX12_picture 108 = .ok (.iadd, 1) := by decide +kernel
theorem dX12_picture_109 : decode cX12_picture 109 = .ok (.istore 4, 2) := by decide +kernel
theorem dX12_picture_111 : decode cX12_picture 111 = .ok (.aload_n 0, 1) := by decide +kernel
theorem dX12_picture_112 : decode cX12_picture 112 = .ok (.getfield 198, 3) := by decide +kernel
theorem dX12_picture_115 : decode cX12_picture 115 = .ok (.aload_n 0, 1) := by decide +kernel
theorem dX12_picture_116 : decode cX12_picture 116 = .ok (.iload_n 1, 1) := by decide +kernel
theorem dX12_picture_117 : decode cX12_picture 117 = .ok (.iload 8, 2) := by decide +kernel
theorem dX12_picture_119 : decode cX12_picture 119 = .ok (.invokevirtual 545, 3) := by decide +kernel
theorem dX12_picture_122 : decode cX12_picture 122 = .ok (.iaload, 1) := by decide +kernel
theorem dX12_picture_123 : decode cX12_picture 123 = .ok (.iload 5, 2) := by decide +kernel
theorem dX12_picture_125 : decode cX12_picture 125 = .ok (.if_icmp .le 18, 3) := by decide +kernel
theorem dX12_picture_128 : decode cX12_picture 128 = .ok (.aload_n 0, 1) := by decide +kernel
theorem dX12_picture_129 : decode cX12_picture 129 = .ok (.getfield 198, 3) := by decide +kernel
theorem dX12_picture_132 : decode cX12_picture 132 = .ok (.aload_n 0, 1) := by decide +kernel
theorem dX12_picture_133 : decode cX12_picture 133 = .ok (.iload_n 1, 1) := by decide +kernel
theorem dX12_picture_134 : decode cX12_picture 134 = .ok (.iload 8, 2) := by decide +kernel
theorem dX12_picture_136 : decode cX12_picture 136 = .ok (.invokevirtual 545, 3) := by decide +kernel
theorem dX12_picture_139 : decode cX12_picture 139 = .ok (.iaload, 1) := by decide +kernel
theorem dX12_picture_140 : decode cX12_picture 140 = .ok (.goto 5, 3) := by decide +kernel
theorem dX12_picture_143 : decode cX12_picture 143 = .ok (.iload 5, 2) := by decide +kernel
theorem dX12_picture_145 : decode cX12_picture 145 = .ok (.istore 5, 2) := by decide +kernel
theorem dX12_picture_147 : decode cX12_picture 147 = .ok (.iload 6, 2) := by decide +kernel
theorem dX12_picture_149 : decode cX12_picture 149 = .ok (.iload 9, 2) := by decide +kernel
theorem dX12_picture_151 : decode cX12_picture 151 = .ok (.iload_n 2, 1) := by decide +kernel
theorem dX12_picture_152 : decode cX12_picture 152 = .ok (.bipush 100, 2) := by decide +kernel
theorem dX12_picture_154 : decode cX12_picture 154 = .ok (.isub, 1) := by decide +kernel
theorem dX12_picture_155 : decode cX12_picture 155 = .ok (.if_icmp .ne 7, 3) := by decide +kernel
theorem dX12_picture_158 : decode cX12_picture 158 = .ok (.iconst 1, 1) := by decide +kernel
theorem dX12_picture_159 : decode cX12_picture 159 = .ok (.goto 4, 3) := by decide +kernel
theorem dX12_picture_162 : decode cX12_picture 162 = .ok (.iconst 0, 1) := by decide +kernel
theorem dX12_picture_163 : decode cX12_picture 163 = .ok (.iadd, 1) := by decide +kernel
theorem dX12_picture_164 : decode cX12_picture 164 = .ok (.istore 6, 2) := by decide +kernel
theorem dX12_picture_166 : decode cX12_picture 166 = .ok (.iload 7, 2) := by decide +kernel
theorem dX12_picture_168 : decode cX12_picture 168 = .ok (.aload_n 0, 1) := by decide +kernel
theorem dX12_picture_169 : decode cX12_picture 169 = .ok (.iload 9, 2) := by decide +kernel
theorem dX12_picture_171 : decode cX12_picture 171 = .ok (.invokevirtual 416, 3) := by decide +kernel
theorem dX12_picture_174 : decode cX12_picture 174 = .ok (.ifCond .eq 40, 3) := by decide +kernel
theorem dX12_picture_177 : decode cX12_picture 177 = .ok (.iload_n 2, 1) := by decide +kernel
theorem dX12_picture_178 : decode cX12_picture 178 = .ok (.sipush 200, 3) := by decide +kernel
theorem dX12_picture_181 : decode cX12_picture 181 = .ok (.if_icmp .lt 33, 3) := by decide +kernel
theorem dX12_picture_184 : decode cX12_picture 184 = .ok (.aload_n 0, 1) := by decide +kernel
theorem dX12_picture_185 : decode cX12_picture 185 = .ok (.iload_n 2, 1) := by decide +kernel
theorem dX12_picture_186 : decode cX12_picture 186 = .ok (.sipush 200, 3) := by decide +kernel
theorem dX12_picture_189 : decode cX12_picture 189 = .ok (.isub, 1) := by decide +kernel
theorem dX12_picture_190 : decode cX12_picture 190 = .ok (.invokevirtual 416, 3) := by decide +kernel
theorem dX12_picture_193 : decode cX12_picture 193 = .ok (.ifCond .eq 21, 3) := by decide +kernel
theorem dX12_picture_196 : decode cX12_picture 196 = .ok (.aload_n 0, 1) := by decide +kernel
theorem dX12_picture_197 : decode cX12_picture 197 = .ok (.iload 9, 2) := by decide +kernel
theorem dX12_picture_199 : decode cX12_picture 199 = .ok (.iload_n 2, 1) := by decide +kernel
theorem dX12_picture_200 : decode cX12_picture 200 = .ok (.sipush 200, 3) := by decide +kernel
theorem dX12_picture_203 : decode cX12_picture 203 = .ok (.isub, 1) := by decide +kernel
theorem dX12_picture_204 : decode cX12_picture 204 = .ok (.invokevirtual 445, 3) := by decide +kernel
theorem dX12_picture_207 : decode cX12_picture 207 = .ok (.ifCond .eq 7, 3) := by decide +kernel
theorem dX12_picture_210 : decode cX12_picture 210 = .ok (.iconst 1, 1) := by decide +kernel
theorem dX12_picture_211 : decode cX12_picture 211 = .ok (.goto 4, 3) := by decide +kernel
theorem dX12_picture_214 : decode cX12_picture 214 = .ok (.iconst 0, 1) := by decide +kernel
theorem dX12_picture_215 : decode cX12_picture 215 = .ok (.iadd, 1) := by decide +kernel
theorem dX12_picture_216 : decode cX12_picture 216 = .ok (.istore 7, 2) := by decide +kernel
theorem dX12_picture_218 : decode cX12_picture 218 = .ok (.iinc 8 1, 3) := by decide +kernel
theorem dX12_picture_221 : decode cX12_picture 221 = .ok (.goto (-189), 3) := by decide +kernel
theorem dX12_picture_224 : decode cX12_picture 224 = .ok (.iload_n 2, 1) := by decide +kernel
theorem dX12_picture_225 : decode cX12_picture 225 = .ok (.sipush 200, 3) := by decide +kernel
theorem dX12_picture_228 : decode cX12_picture 228 = .ok (.if_icmp .lt 22, 3) := by decide +kernel
theorem dX12_picture_231 : decode cX12_picture 231 = .ok (.aload_n 0, 1) := by decide +kernel
theorem dX12_picture_232 : decode cX12_picture 232 = .ok (.iload_n 2, 1) := by decide +kernel
theorem dX12_picture_233 : decode cX12_picture 233 = .ok (.sipush 200, 3) := by decide +kernel
theorem dX12_picture_236 : decode cX12_picture 236 = .ok (.isub, 1) := by decide +kernel
theorem dX12_picture_237 : decode cX12_picture 237 = .ok (.invokevirtual 416, 3) := by decide +kernel
theorem dX12_picture_240 : decode cX12_picture 240 = .ok (.ifCond .eq 8, 3) := by decide +kernel
theorem dX12_picture_243 : decode cX12_picture 243 = .ok (.iload 7, 2) := by decide +kernel
theorem dX12_picture_245 : decode cX12_picture 245 = .ok (.goto 4, 3) := by decide +kernel
theorem dX12_picture_248 : decode cX12_picture 248 = .ok (.iconst (-1), 1) := by decide +kernel
theorem dX12_picture_249 : decode cX12_picture 249 = .ok (.ireturn, 1) := by decide +kernel
theorem dX12_picture_250 : decode cX12_picture 250 = .ok (.iload_n 2, 1) := by decide +kernel
theorem dX12_picture_251 : decode cX12_picture 251 = .ok (.bipush 100, 2) := by decide +kernel
theorem dX12_picture_253 : decode cX12_picture 253 = .ok (.if_icmp .lt 21, 3) := by decide +kernel
theorem dX12_picture_256 : decode cX12_picture 256 = .ok (.aload_n 0, 1) := by decide +kernel
theorem dX12_picture_257 : decode cX12_picture 257 = .ok (.iload_n 2, 1) := by decide +kernel
theorem dX12_picture_258 : decode cX12_picture 258 = .ok (.bipush 100, 2) := by decide +kernel
theorem dX12_picture_260 : decode cX12_picture 260 = .ok (.isub, 1) := by decide +kernel
theorem dX12_picture_261 : decode cX12_picture 261 = .ok (.invokevirtual 416, 3) := by decide +kernel
theorem dX12_picture_264 : decode cX12_picture 264 = .ok (.ifCond .eq 8, 3) := by decide +kernel
theorem dX12_picture_267 : decode cX12_picture 267 = .ok (.iload 6, 2) := by decide +kernel
theorem dX12_picture_269 : decode cX12_picture 269 = .ok (.goto 4, 3) := by decide +kernel
theorem dX12_picture_272 : decode cX12_picture 272 = .ok (.iconst (-1), 1) := by decide +kernel
theorem dX12_picture_273 : decode cX12_picture 273 = .ok (.ireturn, 1) := by decide +kernel
theorem dX12_picture_274 : decode cX12_picture 274 = .ok (.iload_n 2, 1) := by decide +kernel
theorem dX12_picture_275 : decode cX12_picture 275 = .ok (.ifCond .ne 12, 3) := by decide +kernel
theorem dX12_picture_278 : decode cX12_picture 278 = .ok (.aload_n 0, 1) := by decide +kernel
theorem dX12_picture_279 : decode cX12_picture 279 = .ok (.getfield 183, 3) := by decide +kernel
theorem dX12_picture_282 : decode cX12_picture 282 = .ok (.iload_n 1, 1) := by decide +kernel
theorem dX12_picture_283 : decode cX12_picture 283 = .ok (.iaload, 1) := by decide +kernel
theorem dX12_picture_284 : decode cX12_picture 284 = .ok (.goto 61, 3) := by decide +kernel
theorem dX12_picture_287 : decode cX12_picture 287 = .ok (.iload_n 2, 1) := by decide +kernel
theorem dX12_picture_288 : decode cX12_picture 288 = .ok (.iconst 1, 1) := by decide +kernel
theorem dX12_picture_289 : decode cX12_picture 289 = .ok (.if_icmp .ne 12, 3) := by decide +kernel
theorem dX12_picture_292 : decode cX12_picture 292 = .ok (.aload_n 0, 1) := by decide +kernel
theorem dX12_picture_293 : decode cX12_picture 293 = .ok (.getfield 228, 3) := by decide +kernel
theorem dX12_picture_296 : decode cX12_picture 296 = .ok (.iload_n 1, 1) := by decide +kernel
theorem dX12_picture_297 : decode cX12_picture 297 = .ok (.iaload, 1) := by decide +kernel
theorem dX12_picture_298 : decode cX12_picture 298 = .ok (.goto 47, 3) := by decide +kernel
theorem dX12_picture_301 : decode cX12_picture 301 = .ok (.iload_n 2, 1) := by decide +kernel
theorem dX12_picture_302 : decode cX12_picture 302 = .ok (.iconst 2, 1) := by decide +kernel
theorem dX12_picture_303 : decode cX12_picture 303 = .ok (.if_icmp .ne 12, 3) := by decide +kernel
theorem dX12_picture_306 : decode cX12_picture 306 = .ok (.aload_n 0, 1) := by decide +kernel
theorem dX12_picture_307 : decode cX12_picture 307 = .ok (.getfield 231, 3) := by decide +kernel
theorem dX12_picture_310 : decode cX12_picture 310 = .ok (.iload_n 1, 1) := by decide +kernel
theorem dX12_picture_311 : decode cX12_picture 311 = .ok (.iaload, 1) := by decide +kernel
theorem dX12_picture_312 : decode cX12_picture 312 = .ok (.goto 33, 3) := by decide +kernel
theorem dX12_picture_315 : decode cX12_picture 315 = .ok (.iload_n 2, 1) := by decide +kernel
theorem dX12_picture_316 : decode cX12_picture 316 = .ok (.iconst 3, 1) := by decide +kernel
theorem dX12_picture_317 : decode cX12_picture 317 = .ok (.if_icmp .ne 7, 3) := by decide +kernel
theorem dX12_picture_320 : decode cX12_picture 320 = .ok (.iload_n 3, 1) := by decide +kernel
theorem dX12_picture_321 : decode cX12_picture 321 = .ok (.goto 24, 3) := by decide +kernel
theorem dX12_picture_324 : decode cX12_picture 324 = .ok (.iload_n 2, 1) := by decide +kernel
theorem dX12_picture_325 : decode cX12_picture 325 = .ok (.iconst 4, 1) := by decide +kernel
theorem dX12_picture_326 : decode cX12_picture 326 = .ok (.if_icmp .ne 8, 3) := by decide +kernel
theorem dX12_picture_329 : decode cX12_picture 329 = .ok (.iload 4, 2) := by decide +kernel
theorem dX12_picture_331 : decode cX12_picture 331 = .ok (.goto 14, 3) := by decide +kernel
theorem dX12_picture_334 : decode cX12_picture 334 = .ok (.iload_n 2, 1) := by decide +kernel
theorem dX12_picture_335 : decode cX12_picture 335 = .ok (.iconst 5, 1) := by decide +kernel
theorem dX12_picture_336 : decode cX12_picture 336 = .ok (.if_icmp .ne 8, 3) := by decide +kernel
theorem dX12_picture_339 : decode cX12_picture 339 = .ok (.iload 5, 2) := by decide +kernel
theorem dX12_picture_341 : decode cX12_picture 341 = .ok (.goto 4, 3) := by decide +kernel
theorem dX12_picture_344 : decode cX12_picture 344 = .ok (.iconst (-1), 1) := by decide +kernel
theorem dX12_picture_345 : decode cX12_picture 345 = .ok (.ireturn, 1) := by decide +kernel
theorem dX12_picture0_0 : decode cX12_picture0 0 = .ok (.aload_n 0, 1) := by decide +kernel
theorem dX12_picture0_1 : decode cX12_picture0 1 = .ok (.invokevirtual 539, 3) := by decide +kernel
theorem dX12_picture0_4 : decode cX12_picture0 4 = .ok (.aload_n 0, 1) := by decide +kernel
theorem dX12_picture0_5 : decode cX12_picture0 5 = .ok (.getfield 183, 3) := by decide +kernel
theorem dX12_picture0_8 : decode cX12_picture0 8 = .ok (.iload_n 1, 1) := by decide +kernel
theorem dX12_picture0_9 : decode cX12_picture0 9 = .ok (.aload_n 0, 1) := by decide +kernel
theorem dX12_picture0_10 : decode cX12_picture0 10 = .ok (.getfield 522, 3) := by decide +kernel
theorem dX12_picture0_13 : decode cX12_picture0 13 = .ok (.iastore, 1) := by decide +kernel
theorem dX12_picture0_14 : decode cX12_picture0 14 = .ok (.aload_n 0, 1) := by decide +kernel
theorem dX12_picture0_15 : decode cX12_picture0 15 = .ok (.getfield 234, 3) := by decide +kernel
theorem dX12_picture0_18 : decode cX12_picture0 18 = .ok (.iload_n 1, 1) := by decide +kernel
theorem dX12_picture0_19 : decode cX12_picture0 19 = .ok (.iconst 0, 1) := by decide +kernel
theorem dX12_picture0_20 : decode cX12_picture0 20 = .ok (.iastore, 1) := by decide +kernel
theorem dX12_picture0_21 : decode cX12_picture0 21 = .ok (.aload_n 0, 1) := by decide +kernel
theorem dX12_picture0_22 : decode cX12_picture0 22 = .ok (.getfield 470, 3) := by decide +kernel
theorem dX12_picture0_25 : decode cX12_picture0 25 = .ok (.istore_n 2, 1) := by decide +kernel
theorem dX12_picture0_26 : decode cX12_picture0 26 = .ok (.iconst 0, 1) := by decide +kernel
theorem dX12_picture0_27 : decode cX12_picture0 27 = .ok (.istore_n 3, 1) := by decide +kernel
theorem dX12_picture0_28 : decode cX12_picture0 28 = .ok (.iload_n 3, 1) := by decide +kernel
theorem dX12_picture0_29 : decode cX12_picture0 29 = .ok (.aload_n 0, 1) := by decide +kernel
theorem dX12_picture0_30 : decode cX12_picture0 30 = .ok (.getfield 470, 3) := by decide +kernel
theorem dX12_picture0_33 : decode cX12_picture0 33 = .ok (.if_icmp .ge 26, 3) := by decide +kernel
theorem dX12_picture0_36 : decode cX12_picture0 36 = .ok (.aload_n 0, 1) := by decide +kernel
theorem dX12_picture0_37 : decode cX12_picture0 37 = .ok (.iload_n 1, 1) := by decide +kernel
theorem dX12_picture0_38 : decode cX12_picture0 38 = .ok (.iload_n 3, 1) := by decide +kernel
theorem dX12_picture0_39 : decode cX12_picture0 39 = .ok (.aload_n 0, 1) := by decide +kernel
theorem dX12_picture0_40 : decode cX12_picture0 40 = .ok (.getfield 180, 3) := by decide +kernel
theorem dX12_picture0_43 : decode cX12_picture0 43 = .ok (.aload_n 0, 1) := by decide +kernel
theorem dX12_picture0_44 : decode cX12_picture0 44 = .ok (.getfield 141, 3) := by decide +kernel
theorem dX12_picture0_47 : decode cX12_picture0 47 = .ok (.iload_n 3, 1) := by decide +kernel
theorem dX12_picture0_48 : decode cX12_picture0 48 = .ok (.iaload, 1) := by decide +kernel
theorem dX12_picture0_49 : decode cX12_picture0 49 = .ok (.iaload, 1) := by decide +kernel
theorem dX12_picture0_50 : decode cX12_picture0 50 = .ok (.invokevirtual 548, 3) := by decide +kernel
theorem dX12_picture0_53 : decode cX12_picture0 53 = .ok (.iinc 3 1, 3) := by decide +kernel
theorem dX12_picture0_56 : decode cX12_picture0 56 = .ok (.goto (-28), 3) := by decide +kernel
theorem dX12_picture0_59 : decode cX12_picture0 59 = .ok (.iconst 0, 1) := by decide +kernel
theorem dX12_picture0_60 : decode cX12_picture0 60 = .ok (.istore_n 3, 1) := by decide +kernel
theorem dX12_picture0_61 : decode cX12_picture0 61 = .ok (.iload_n 3, 1) := by decide +kernel
theorem dX12_picture0_62 : decode cX12_picture0 62 = .ok (.bipush 6, 2) := by decide +kernel
theorem dX12_picture0_64 : decode cX12_picture0 64 = .ok (.aload_n 0, 1) := by decide +kernel
theorem dX12_picture0_65 : decode cX12_picture0 65 = .ok (.getfield 413, 3) := by decide +kernel
theorem dX12_picture0_68 : decode cX12_picture0 68 = .ok (.imul, 1) := by decide +kernel
theorem dX12_picture0_69 : decode cX12_picture0 69 = .ok (.if_icmp .ge 54, 3) := by decide +kernel
theorem dX12_picture0_72 : decode cX12_picture0 72 = .ok (.aload_n 0, 1) := by decide +kernel
theorem dX12_picture0_73 : decode cX12_picture0 73 = .ok (.iload_n 3, 1) := by decide +kernel
theorem dX12_picture0_74 : decode cX12_picture0 74 = .ok (.invokevirtual 519, 3) := by decide +kernel
theorem dX12_picture0_77 : decode cX12_picture0 77 = .ok (.ifCond .ne 6, 3) := by decide +kernel
theorem dX12_picture0_80 : decode cX12_picture0 80 = .ok (.goto 37, 3) := by decide +kernel
theorem dX12_picture0_83 : decode cX12_picture0 83 = .ok (.aload_n 0, 1) := by decide +kernel
theorem dX12_picture0_84 : decode cX12_picture0 84 = .ok (.getfield 84, 3) := by decide +kernel
theorem dX12_picture0_87 : decode cX12_picture0 87 = .ok (.iload_n 3, 1) := by decide +kernel
theorem dX12_picture0_88 : decode cX12_picture0 88 = .ok (.laload, 1) := by decide +kernel
theorem dX12_picture0_89 : decode cX12_picture0 89 = .ok (.ldc2_w 433, 3) := by decide +kernel
theorem dX12_picture0_92 : decode cX12_picture0 92 = .ok (.lcmp, 1) := by decide +kernel
theorem dX12_picture0_93 : decode cX12_picture0 93 = .ok (.ifCond .eq 21, 3) := by decide +kernel
theorem dX12_picture0_96 : decode cX12_picture0 96 = .ok (.aload_n 0, 1) := by decide +kernel
theorem dX12_picture0_97 : decode cX12_picture0 97 = .ok (.iload_n 1, 1) := by decide +kernel
theorem dX12_picture0_98 : decode cX12_picture0 98 = .ok (.iload_n 2, 1) := by decide +kernel
theorem dX12_picture0_99 : decode cX12_picture0 99 = .ok (.aload_n 0, 1) := by decide +kernel
theorem dX12_picture0_100 : decode cX12_picture0 100 = .ok (.getfield 180, 3) := by decide +kernel
theorem dX12_picture0_103 : decode cX12_picture0 103 = .ok (.aload_n 0, 1) := by decide +kernel
theorem dX12_picture0_104 : decode cX12_picture0 104 = .ok (.getfield 84, 3) := by decide +kernel
theorem dX12_picture0_107 : decode cX12_picture0 107 = .ok (.iload_n 3, 1) := by decide +kernel
theorem dX12_picture0_108 : decode cX12_picture0 108 = .ok (.laload, 1) := by decide +kernel
theorem dX12_picture0_109 : decode cX12_picture0 109 = .ok (.l2i, 1) := by decide +kernel
theorem dX12_picture0_110 : decode cX12_picture0 110 = .ok (.iaload, 1) := by decide +kernel
theorem dX12_picture0_111 : decode cX12_picture0 111 = .ok (.invokevirtual 548, 3) := by decide +kernel
theorem dX12_picture0_114 : decode cX12_picture0 114 = .ok (.iinc 2 1, 3) := by decide +kernel
theorem dX12_picture0_117 : decode cX12_picture0 117 = .ok (.iinc 3 1, 3) := by decide +kernel
theorem dX12_picture0_120 : decode cX12_picture0 120 = .ok (.goto (-59), 3) := by decide +kernel
theorem dX12_picture0_123 : decode cX12_picture0 123 = .ok (.iconst 0, 1) := by decide +kernel
theorem dX12_picture0_124 : decode cX12_picture0 124 = .ok (.istore_n 3, 1) := by decide +kernel
theorem dX12_picture0_125 : decode cX12_picture0 125 = .ok (.iconst 0, 1) := by decide +kernel
theorem dX12_picture0_126 : decode cX12_picture0 126 = .ok (.istore 4, 2) := by decide +kernel
theorem dX12_picture0_128 : decode cX12_picture0 128 = .ok (.iload 4, 2) := by decide +kernel
theorem dX12_picture0_130 : decode cX12_picture0 130 = .ok (.aload_n 0, 1) := by decide +kernel
theorem dX12_picture0_131 : decode cX12_picture0 131 = .ok (.getfield 522, 3) := by decide +kernel
theorem dX12_picture0_134 : decode cX12_picture0 134 = .ok (.if_icmp .ge 190, 3) := by decide +kernel
theorem dX12_picture0_137 : decode cX12_picture0 137 = .ok (.aload_n 0, 1) := by decide +kernel
theorem dX12_picture0_138 : decode cX12_picture0 138 = .ok (.getfield 177, 3) := by decide +kernel
theorem dX12_picture0_141 : decode cX12_picture0 141 = .ok (.iload 4, 2) := by decide +kernel
theorem dX12_picture0_143 : decode cX12_picture0 143 = .ok (.iaload, 1) := by decide +kernel
theorem dX12_picture0_144 : decode cX12_picture0 144 = .ok (.istore 5, 2) := by decide +kernel
theorem dX12_picture0_146 : decode cX12_picture0 146 = .ok (.aload_n 0, 1) := by decide +kernel
theorem dX12_picture0_147 : decode cX12_picture0 147 = .ok (.getfield 186, 3) := by decide +kernel
theorem dX12_picture0_150 : decode cX12_picture0 150 = .ok (.aload_n 0, 1) := by decide +kernel
theorem dX12_picture0_151 : decode cX12_picture0 151 = .ok (.iload_n 1, 1) := by decide +kernel
theorem dX12_picture0_152 : decode cX12_picture0 152 = .ok (.iload 4, 2) := by decide +kernel
theorem dX12_picture0_154 : decode cX12_picture0 154 = .ok (.invokevirtual 545, 3) := by decide +kernel
theorem dX12_picture0_157 : decode cX12_picture0 157 = .ok (.iload 5, 2) := by decide +kernel
theorem dX12_picture0_159 : decode cX12_picture0 159 = .ok (.iastore, 1) := by decide +kernel
theorem dX12_picture0_160 : decode cX12_picture0 160 = .ok (.aload_n 0, 1) := by decide +kernel
theorem dX12_picture0_161 : decode cX12_picture0 161 = .ok (.getfield 189, 3) := by decide +kernel
theorem dX12_picture0_164 : decode cX12_picture0 164 = .ok (.aload_n 0, 1) := by decide +kernel
theorem dX12_picture0_165 : decode cX12_picture0 165 = .ok (.iload_n 1, 1) := by decide +kernel
theorem dX12_picture0_166 : decode cX12_picture0 166 = .ok (.iload 4, 2) := by decide +kernel
theorem dX12_picture0_168 : decode cX12_picture0 168 = .ok (.invokevirtual 545, 3) := by decide +kernel
theorem dX12_picture0_171 : decode cX12_picture0 171 = .ok (.aload_n 0, 1) := by decide +kernel
theorem dX12_picture0_172 : decode cX12_picture0 172 = .ok (.getfield 125, 3) := by decide +kernel
theorem dX12_picture0_175 : decode cX12_picture0 175 = .ok (.iload 5, 2) := by decide +kernel
theorem dX12_picture0_177 : decode cX12_picture0 177 = .ok (.iaload, 1) := by decide +kernel
theorem dX12_picture0_178 : decode cX12_picture0 178 = .ok (.iastore, 1) := by decide +kernel
theorem dX12_picture0_179 : decode cX12_picture0 179 = .ok (.aload_n 0, 1) := by decide +kernel
theorem dX12_picture0_180 : decode cX12_picture0 180 = .ok (.getfield 192, 3) := by decide +kernel
theorem dX12_picture0_183 : decode cX12_picture0 183 = .ok (.aload_n 0, 1) := by decide +kernel
theorem dX12_picture0_184 : decode cX12_picture0 184 = .ok (.iload_n 1, 1) := by decide +kernel
theorem dX12_picture0_185 : decode cX12_picture0 185 = .ok (.iload 4, 2) := by decide +kernel
theorem dX12_picture0_187 : decode cX12_picture0 187 = .ok (.invokevirtual 545, 3) := by decide +kernel
theorem dX12_picture0_190 : decode cX12_picture0 190 = .ok (.aload_n 0, 1) := by decide +kernel
theorem dX12_picture0_191 : decode cX12_picture0 191 = .ok (.getfield 128, 3) := by decide +kernel
theorem dX12_picture0_194 : decode cX12_picture0 194 = .ok (.iload 5, 2) := by decide +kernel
theorem dX12_picture0_196 : decode cX12_picture0 196 = .ok (.iaload, 1) := by decide +kernel
theorem dX12_picture0_197 : decode cX12_picture0 197 = .ok (.iastore, 1) := by decide +kernel
theorem dX12_picture0_198 : decode cX12_picture0 198 = .ok (.aload_n 0, 1) := by decide +kernel
theorem dX12_picture0_199 : decode cX12_picture0 199 = .ok (.getfield 195, 3) := by decide +kernel
theorem dX12_picture0_202 : decode cX12_picture0 202 = .ok (.aload_n 0, 1) := by decide +kernel
theorem dX12_picture0_203 : decode cX12_picture0 203 = .ok (.iload_n 1, 1) := by decide +kernel
theorem dX12_picture0_204 : decode cX12_picture0 204 = .ok (.iload 4, 2) := by decide +kernel
theorem dX12_picture0_206 : decode cX12_picture0 206 = .ok (.invokevirtual 545, 3) := by decide +kernel
theorem dX12_picture0_209 : decode cX12_picture0 209 = .ok (.iload_n 3, 1) := by decide +kernel
theorem dX12_picture0_210 : decode cX12_picture0 210 = .ok (.iastore, 1) := by decide +kernel
theorem dX12_picture0_211 : decode cX12_picture0 211 = .ok (.aload_n 0, 1) := by decide +kernel
theorem dX12_picture0_212 : decode cX12_picture0 212 = .ok (.aload_n 0, 1) := by decide +kernel
theorem dX12_picture0_213 : decode cX12_picture0 213 = .ok (.getfield 125, 3) := by decide +kernel
theorem dX12_picture0_216 : decode cX12_picture0 216 = .ok (.iload 5, 2) := by decide +kernel
theorem dX12_picture0_218 : decode cX12_picture0 218 = .ok (.iaload, 1) := by decide +kernel
theorem dX12_picture0_219 : decode cX12_picture0 219 = .ok (.aload_n 0, 1) := by decide +kernel
theorem dX12_picture0_220 : decode cX12_picture0 220 = .ok (.getfield 128, 3) := by decide +kernel
theorem dX12_picture0_223 : decode cX12_picture0 223 = .ok (.iload 5, 2) := by decide +kernel
theorem dX12_picture0_225 : decode cX12_picture0 225 = .ok (.iaload, 1) := by decide +kernel
theorem dX12_picture0_226 : decode cX12_picture0 226 = .ok (.invokevirtual 455, 3) := by decide +kernel
theorem dX12_picture0_229 : decode cX12_picture0 229 = .ok (.istore 6, 2) := by decide +kernel
theorem dX12_picture0_231 : decode cX12_picture0 231 = .ok (.iconst 0, 1) := by decide +kernel
theorem dX12_picture0_232 : decode cX12_picture0 232 = .ok (.istore 7, 2) := by decide +kernel
theorem dX12_picture0_234 : decode cX12_picture0 234 = .ok (.iload 7, 2) := by decide +kernel
theorem dX12_picture0_236 : decode cX12_picture0 236 = .ok (.iload 6, 2) := by decide +kernel
theorem dX12_picture0_238 : decode cX12_picture0 238 = .ok (.if_icmp .ge 75, 3) := by decide +kernel
theorem dX12_picture0_241 : decode cX12_picture0 241 = .ok (.aload_n 0, 1) := by decide +kernel
theorem dX12_picture0_242 : decode cX12_picture0 242 = .ok (.getfield 138, 3) := by decide +kernel
theorem dX12_picture0_245 : decode cX12_picture0 245 = .ok (.aload_n 0, 1) := by decide +kernel
theorem dX12_picture0_246 : decode cX12_picture0 246 = .ok (.getfield 131, 3) := by decide +kernel
theorem dX12_picture0_249 : decode cX12_picture0 249 = .ok (.iload 5, 2) := by decide +kernel
theorem dX12_picture0_251 : decode cX12_picture0 251 = .ok (.iaload, 1) := by decide +kernel
theorem dX12_picture0_252 : decode cX12_picture0 252 = .ok (.iload 7, 2) := by decide +kernel
theorem dX12_picture0_254 : decode cX12_picture0 254 = .ok (.iadd, 1) := by decide +kernel
theorem dX12_picture0_255 : decode cX12_picture0 255 = .ok (.laload, 1) := by decide +kernel
theorem dX12_picture0_256 : decode cX12_picture0 256 = .ok (.lstore 8, 2) := by decide +kernel
theorem dX12_picture0_258 : decode cX12_picture0 258 = .ok (.aload_n 0, 1) := by decide +kernel
theorem dX12_picture0_259 : decode cX12_picture0 259 = .ok (.getfield 243, 3) := by decide +kernel
theorem dX12_picture0_262 : decode cX12_picture0 262 = .ok (.sipush 4000, 3) := by decide +kernel
theorem dX12_picture0_265 : decode cX12_picture0 265 = .ok (.iload_n 1, 1) := by decide +kernel
theorem dX12_picture0_266 : decode cX12_picture0 266 = .ok (.imul, 1) := by decide +kernel
theorem dX12_picture0_267 : decode cX12_picture0 267 = .ok (.iload_n 3, 1) := by decide +kernel
theorem dX12_picture0_268 : decode cX12_picture0 268 = .ok (.iadd, 1) := by decide +kernel
theorem dX12_picture0_269 : decode cX12_picture0 269 = .ok (.iload 7, 2) := by decide +kernel
theorem dX12_picture0_271 : decode cX12_picture0 271 = .ok (.iadd, 1) := by decide +kernel
theorem dX12_picture0_272 : decode cX12_picture0 272 = .ok (.aload_n 0, 1) := by decide +kernel
theorem dX12_picture0_273 : decode cX12_picture0 273 = .ok (.iload 5, 2) := by decide +kernel
theorem dX12_picture0_275 : decode cX12_picture0 275 = .ok (.iload 7, 2) := by decide +kernel
theorem dX12_picture0_277 : decode cX12_picture0 277 = .ok (.invokevirtual 512, 3) := by decide +kernel
theorem dX12_picture0_280 : decode cX12_picture0 280 = .ok (.ifCond .eq 24, 3) := by decide +kernel
theorem dX12_picture0_283 : decode cX12_picture0 283 = .ok (.lload 8, 2) := by decide +kernel
theorem dX12_picture0_285 : decode cX12_picture0 285 = .ok (.ldc2_w 433, 3) := by decide +kernel
theorem dX12_picture0_288 : decode cX12_picture0 288 = .ok (.lcmp, 1) := by decide +kernel
theorem dX12_picture0_289 : decode cX12_picture0 289 = .ok (.ifCond .eq 15, 3) := by decide +kernel
theorem dX12_picture0_292 : decode cX12_picture0 292 = .ok (.aload_n 0, 1) := by decide +kernel
theorem dX12_picture0_293 : decode cX12_picture0 293 = .ok (.getfield 180, 3) := by decide +kernel
theorem dX12_picture0_296 : decode cX12_picture0 296 = .ok (.lload 8, 2) := by decide +kernel
theorem dX12_picture0_298 : decode cX12_picture0 298 = .ok (.l2i, 1) := by decide +kernel
theorem dX12_picture0_299 : decode cX12_picture0 299 = .ok (.iaload, 1) := by decide +kernel
theorem dX12_picture0_300 : decode cX12_picture0 300 = .ok (.i2l, 1) := by decide +kernel
theorem dX12_picture0_301 : decode cX12_picture0 301 = .ok (.goto 5, 3) := by decide +kernel
theorem dX12_picture0_304 : decode cX12_picture0 304 = .ok (.lload 8, 2) := by decide +kernel
theorem dX12_picture0_306 : decode cX12_picture0 306 = .ok (.lastore, 1) := by decide +kernel
theorem dX12_picture0_307 : decode cX12_picture0 307 = .ok (.iinc 7 1, 3) := by decide +kernel
theorem dX12_picture0_310 : decode cX12_picture0 310 = .ok (.goto (-76), 3) := by decide +kernel
theorem dX12_picture0_313 : decode cX12_picture0 313 = .ok (.iload_n 3, 1) := by decide +kernel
theorem dX12_picture0_314 : decode cX12_picture0 314 = .ok (.iload 6, 2) := by decide +kernel
theorem dX12_picture0_316 : decode cX12_picture0 316 = .ok (.iadd, 1) := by decide +kernel
theorem dX12_picture0_317 : decode cX12_picture0 317 = .ok (.istore_n 3, 1) := by decide +kernel
theorem dX12_picture0_318 : decode cX12_picture0 318 = .ok (.iinc 4 1, 3) := by decide +kernel
theorem dX12_picture0_321 : decode cX12_picture0 321 = .ok (.goto (-193), 3) := by decide +kernel
theorem dX12_picture0_324 : decode cX12_picture0 324 = .ok (.return_, 1) := by decide +kernel
theorem dX12_promise_0 : decode cX12_promise 0 = .ok (.aload_n 0, 1) := by decide +kernel
theorem dX12_promise_1 : decode cX12_promise 1 = .ok (.aload_n 0, 1) := by decide +kernel
theorem dX12_promise_2 : decode cX12_promise 2 = .ok (.getfield 872, 3) := by decide +kernel
theorem dX12_promise_5 : decode cX12_promise 5 = .ok (.iconst 3, 1) := by decide +kernel
theorem dX12_promise_6 : decode cX12_promise 6 = .ok (.if_icmp .ne 7, 3) := by decide +kernel
theorem dX12_promise_9 : decode cX12_promise 9 = .ok (.iconst 1, 1) := by decide +kernel
theorem dX12_promise_10 : decode cX12_promise 10 = .ok (.goto 4, 3) := by decide +kernel
theorem dX12_promise_13 : decode cX12_promise 13 = .ok (.iconst 0, 1) := by decide +kernel
theorem dX12_promise_14 : decode cX12_promise 14 = .ok (.putfield 388, 3) := by decide +kernel
theorem dX12_promise_17 : decode cX12_promise 17 = .ok (.aload_n 0, 1) := by decide +kernel
theorem dX12_promise_18 : decode cX12_promise 18 = .ok (.getfield 388, 3) := by decide +kernel
theorem dX12_promise_21 : decode cX12_promise 21 = .ok (.ifCond .le 5, 3) := by decide +kernel
theorem dX12_promise_24 : decode cX12_promise 24 = .ok (.iconst 0, 1) := by decide +kernel
theorem dX12_promise_25 : decode cX12_promise 25 = .ok (.ireturn, 1) := by decide +kernel
theorem dX12_promise_26 : decode cX12_promise 26 = .ok (.aload_n 0, 1) := by decide +kernel
theorem dX12_promise_27 : decode cX12_promise 27 = .ok (.bipush 120, 2) := by decide +kernel
theorem dX12_promise_29 : decode cX12_promise 29 = .ok (.aload_n 0, 1) := by decide +kernel
theorem dX12_promise_30 : decode cX12_promise 30 = .ok (.getfield 872, 3) := by decide +kernel
theorem dX12_promise_33 : decode cX12_promise 33 = .ok (.iconst 1, 1) := by decide +kernel
theorem dX12_promise_34 : decode cX12_promise 34 = .ok (.iadd, 1) := by decide +kernel
theorem dX12_promise_35 : decode cX12_promise 35 = .ok (.imul, 1) := by decide +kernel
theorem dX12_promise_36 : decode cX12_promise 36 = .ok (.invokevirtual 855, 3) := by decide +kernel
theorem dX12_promise_39 : decode cX12_promise 39 = .ok (.aload_n 0, 1) := by decide +kernel
theorem dX12_promise_40 : decode cX12_promise 40 = .ok (.iconst 0, 1) := by decide +kernel
theorem dX12_promise_41 : decode cX12_promise 41 = .ok (.putfield 764, 3) := by decide +kernel
theorem dX12_promise_44 : decode cX12_promise 44 = .ok (.aload_n 0, 1) := by decide +kernel
theorem dX12_promise_45 : decode cX12_promise 45 = .ok (.invokevirtual 743, 3) := by decide +kernel
theorem dX12_promise_48 : decode cX12_promise 48 = .ok (.istore_n 1, 1) := by decide +kernel
theorem dX12_promise_49 : decode cX12_promise 49 = .ok (.aload_n 0, 1) := by decide +kernel
theorem dX12_promise_50 : decode cX12_promise 50 = .ok (.invokevirtual 858, 3) := by decide +kernel
theorem dX12_promise_53 : decode cX12_promise 53 = .ok (.aload_n 0, 1) := by decide +kernel
theorem dX12_promise_54 : decode cX12_promise 54 = .ok (.aload_n 0, 1) := by decide +kernel
theorem dX12_promise_55 : decode cX12_promise 55 = .ok (.getfield 776, 3) := by decide +kernel
theorem dX12_promise_58 : decode cX12_promise 58 = .ok (.ifCond .le 7, 3) := by decide +kernel
theorem dX12_promise_61 : decode cX12_promise 61 = .ok (.iconst 2, 1) := by decide +kernel
theorem dX12_promise_62 : decode cX12_promise 62 = .ok (.goto 4, 3) := by decide +kernel
theorem dX12_promise_65 : decode cX12_promise 65 = .ok (.iconst 0, 1) := by decide +kernel
theorem dX12_promise_66 : decode cX12_promise 66 = .ok (.putfield 388, 3) := by decide +kernel
theorem dX12_promise_69 : decode cX12_promise 69 = .ok (.aload_n 0, 1) := by decide +kernel
theorem dX12_promise_70 : decode cX12_promise 70 = .ok (.getfield 388, 3) := by decide +kernel
theorem dX12_promise_73 : decode cX12_promise 73 = .ok (.ifCond .le 5, 3) := by decide +kernel
theorem dX12_promise_76 : decode cX12_promise 76 = .ok (.iconst 0, 1) := by decide +kernel
theorem dX12_promise_77 : decode cX12_promise 77 = .ok (.ireturn, 1) := by decide +kernel
theorem dX12_promise_78 : decode cX12_promise 78 = .ok (.aload_n 0, 1) := by decide +kernel
theorem dX12_promise_79 : decode cX12_promise 79 = .ok (.getfield 309, 3) := by decide +kernel
theorem dX12_promise_82 : decode cX12_promise 82 = .ok (.aload_n 0, 1) := by decide +kernel
theorem dX12_promise_83 : decode cX12_promise 83 = .ok (.getfield 872, 3) := by decide +kernel
theorem dX12_promise_86 : decode cX12_promise 86 = .ok (.iload_n 1, 1) := by decide +kernel
theorem dX12_promise_87 : decode cX12_promise 87 = .ok (.iastore, 1) := by decide +kernel
theorem dX12_promise_88 : decode cX12_promise 88 = .ok (.iconst 0, 1) := by decide +kernel
theorem dX12_promise_89 : decode cX12_promise 89 = .ok (.istore_n 2, 1) := by decide +kernel
theorem dX12_promise_90 : decode cX12_promise 90 = .ok (.iload_n 2, 1) := by decide +kernel
theorem dX12_promise_91 : decode cX12_promise 91 = .ok (.aload_n 0, 1) := by decide +kernel
theorem dX12_promise_92 : decode cX12_promise 92 = .ok (.getfield 670, 3) := by decide +kernel
theorem dX12_promise_95 : decode cX12_promise 95 = .ok (.if_icmp .ge 41, 3) := by decide +kernel
theorem dX12_promise_98 : decode cX12_promise 98 = .ok (.aload_n 0, 1) := by decide +kernel
theorem dX12_promise_99 : decode cX12_promise 99 = .ok (.aload_n 0, 1) := by decide +kernel
theorem dX12_promise_100 : decode cX12_promise 100 = .ok (.getfield 869, 3) := by decide +kernel
theorem dX12_promise_103 : decode cX12_promise 103 = .ok (.ifCond .ne 19, 3) := by decide +kernel
theorem dX12_promise_106 : decode cX12_promise 106 = .ok (.aload_n 0, 1) := by decide +kernel
theorem dX12_promise_107 : decode cX12_promise 107 = .ok (.getfield 272, 3) := by decide +kernel
theorem dX12_promise_110 : decode cX12_promise 110 = .ok (.aload_n 0, 1) := by decide +kernel
theorem dX12_promise_111 : decode cX12_promise 111 = .ok (.getfield 673, 3) := by decide +kernel
theorem dX12_promise_114 : decode cX12_promise 114 = .ok (.iload_n 2, 1) := by decide +kernel
theorem dX12_promise_115 : decode cX12_promise 115 = .ok (.iadd, 1) := by decide +kernel
theorem dX12_promise_116 : decode cX12_promise 116 = .ok (.iaload, 1) := by decide +kernel
theorem dX12_promise_117 : decode cX12_promise 117 = .ok (.bipush 20, 2) := by decide +kernel
theorem dX12_promise_119 : decode cX12_promise 119 = .ok (.if_icmp .ne 7, 3) := by decide +kernel
theorem dX12_promise_122 : decode cX12_promise 122 = .ok (.iconst 1, 1) := by decide +kernel
theorem dX12_promise_123 : decode cX12_promise 123 = .ok (.goto 4, 3) := by decide +kernel
theorem dX12_promise_126 : decode cX12_promise 126 = .ok (.iconst 0, 1) := by decide +kernel
theorem dX12_promise_127 : decode cX12_promise 127 = .ok (.putfield 869, 3) := by decide +kernel
theorem dX12_promise_130 : decode cX12_promise 130 = .ok (.iinc 2 1, 3) := by decide +kernel
theorem dX12_promise_133 : decode cX12_promise 133 = .ok (.goto (-43), 3) := by decide +kernel
theorem dX12_promise_136 : decode cX12_promise 136 = .ok (.aload_n 0, 1) := by decide +kernel
theorem dX12_promise_137 : decode cX12_promise 137 = .ok (.invokevirtual 875, 3) := by decide +kernel
theorem dX12_promise_140 : decode cX12_promise 140 = .ok (.aload_n 0, 1) := by decide +kernel
theorem dX12_promise_141 : decode cX12_promise 141 = .ok (.getfield 312, 3) := by decide +kernel
theorem dX12_promise_144 : decode cX12_promise 144 = .ok (.aload_n 0, 1) := by decide +kernel
theorem dX12_promise_145 : decode cX12_promise 145 = .ok (.getfield 872, 3) := by decide +kernel
theorem dX12_promise_148 : decode cX12_promise 148 = .ok (.aload_n 0, 1) := by decide +kernel
theorem dX12_promise_149 : decode cX12_promise 149 = .ok (.aload_n 0, 1) := by decide +kernel
theorem dX12_promise_150 : decode cX12_promise 150 = .ok (.getfield 872, 3) := by decide +kernel
theorem dX12_promise_153 : decode cX12_promise 153 = .ok (.invokevirtual 878, 3) := by decide +kernel
theorem dX12_promise_156 : decode cX12_promise 156 = .ok (.ifCond .eq 8, 3) := by decide +kernel
theorem dX12_promise_159 : decode cX12_promise 159 = .ok (.bipush (-2), 2) := by decide +kernel
theorem dX12_promise_161 : decode cX12_promise 161 = .ok (.goto 4, 3) := by decide +kernel
theorem dX12_promise_164 : decode cX12_promise 164 = .ok (.iconst (-1), 1) := by decide +kernel
theorem dX12_promise_165 : decode cX12_promise 165 = .ok (.iastore, 1) := by decide +kernel
theorem dX12_promise_166 : decode cX12_promise 166 = .ok (.aload_n 0, 1) := by decide +kernel
theorem dX12_promise_167 : decode cX12_promise 167 = .ok (.dup, 1) := by decide +kernel
theorem dX12_promise_168 : decode cX12_promise 168 = .ok (.getfield 872, 3) := by decide +kernel
theorem dX12_promise_171 : decode cX12_promise 171 = .ok (.iconst 1, 1) := by decide +kernel
theorem dX12_promise_172 : decode cX12_promise 172 = .ok (.iadd, 1) := by decide +kernel
theorem dX12_promise_173 : decode cX12_promise 173 = .ok (.putfield 872, 3) := by decide +kernel
theorem dX12_promise_176 : decode cX12_promise 176 = .ok (.aload_n 0, 1) := by decide +kernel
theorem dX12_promise_177 : decode cX12_promise 177 = .ok (.getfield 872, 3) := by decide +kernel
theorem dX12_promise_180 : decode cX12_promise 180 = .ok (.iconst 1, 1) := by decide +kernel
theorem dX12_promise_181 : decode cX12_promise 181 = .ok (.isub, 1) := by decide +kernel
theorem dX12_promise_182 : decode cX12_promise 182 = .ok (.ireturn, 1) := by decide +kernel
theorem dX12_putNumber_0 : decode cX12_putNumber 0 = .ok (.lload_n 1, 1) := by decide +kernel
theorem dX12_putNumber_1 : decode cX12_putNumber 1 = .ok (.lstore_n 3, 1) := by decide +kernel
theorem dX12_putNumber_2 : decode cX12_putNumber 2 = .ok (.lload_n 3, 1) := by decide +kernel
theorem dX12_putNumber_3 : decode cX12_putNumber 3 = .ok (.ldc2_w 951, 3) := by decide +kernel
theorem dX12_putNumber_6 : decode cX12_putNumber 6 = .ok (.land, 1) := by decide +kernel
theorem dX12_putNumber_7 : decode cX12_putNumber 7 = .ok (.l2i, 1) := by decide +kernel
theorem dX12_putNumber_8 : decode cX12_putNumber 8 = .ok (.istore 5, 2) := by decide +kernel
theorem dX12_putNumber_10 : decode cX12_putNumber 10 = .ok (.lload_n 3, 1) := by decide +kernel
theorem dX12_putNumber_11 : decode cX12_putNumber 11 = .ok (.bipush 7, 2) := by decide +kernel
theorem dX12_putNumber_13 : decode cX12_putNumber 13 = .ok (.lushr, 1) := by decide +kernel
theorem dX12_putNumber_14 : decode cX12_putNumber 14 = .ok (.lstore_n 3, 1) := by decide +kernel
theorem dX12_putNumber_15 : decode cX12_putNumber 15 = .ok (.aload_n 0, 1) := by decide +kernel
theorem dX12_putNumber_16 : decode cX12_putNumber 16 = .ok (.getfield 953, 3) := by decide +kernel
theorem dX12_putNumber_19 : decode cX12_putNumber 19 = .ok (.sipush 9000, 3) := by decide +kernel
theorem dX12_putNumber_22 : decode cX12_putNumber 22 = .ok (.if_icmp .ge 30, 3) := by decide +kernel
theorem dX12_putNumber_25 : decode cX12_putNumber 25 = .ok (.aload_n 0, 1) := by decide +kernel
theorem dX12_putNumber_26 : decode cX12_putNumber 26 = .ok (.getfield 369, 3) := by decide +kernel
theorem dX12_putNumber_29 : decode cX12_putNumber 29 = .ok (.aload_n 0, 1) := by decide +kernel
theorem dX12_putNumber_30 : decode cX12_putNumber 30 = .ok (.getfield 953, 3) := by decide +kernel
theorem dX12_putNumber_33 : decode cX12_putNumber 33 = .ok (.lload_n 3, 1) := by decide +kernel
theorem dX12_putNumber_34 : decode cX12_putNumber 34 = .ok (.lconst 0, 1) := by decide +kernel
theorem dX12_putNumber_35 : decode cX12_putNumber 35 = .ok (.lcmp, 1) := by decide +kernel
theorem dX12_putNumber_36 : decode cX12_putNumber 36 = .ok (.ifCond .ne 8, 3) := by decide +kernel
theorem dX12_putNumber_39 : decode cX12_putNumber 39 = .ok (.iload 5, 2) := by decide +kernel
theorem dX12_putNumber_41 : decode cX12_putNumber 41 = .ok (.goto 9, 3) := by decide +kernel
theorem dX12_putNumber_44 : decode cX12_putNumber 44 = .ok (.iload 5, 2) := by decide +kernel
theorem dX12_putNumber_46 : decode cX12_putNumber 46 = .ok (.sipush 128, 3) := by decide +kernel
theorem dX12_putNumber_49 : decode cX12_putNumber 49 = .ok (.iadd, 1) := by decide +kernel
theorem dX12_putNumber_50 : decode cX12_putNumber 50 = .ok (.i2b, 1) := by decide +kernel
theorem dX12_putNumber_51 : decode cX12_putNumber 51 = .ok (.bastore, 1) := by decide +kernel
theorem dX12_putNumber_52 : decode cX12_putNumber 52 = .ok (.aload_n 0, 1) := by decide +kernel
theorem dX12_putNumber_53 : decode cX12_putNumber 53 = .ok (.dup, 1) := by decide +kernel
theorem dX12_putNumber_54 : decode cX12_putNumber 54 = .ok (.getfield 953, 3) := by decide +kernel
theorem dX12_putNumber_57 : decode cX12_putNumber 57 = .ok (.iconst 1, 1) := by decide +kernel
theorem dX12_putNumber_58 : decode cX12_putNumber 58 = .ok (.iadd, 1) := by decide +kernel
theorem dX12_putNumber_59 : decode cX12_putNumber 59 = .ok (.putfield 953, 3) := by decide +kernel
theorem dX12_putNumber_62 : decode cX12_putNumber 62 = .ok (.lload_n 3, 1) := by decide +kernel
theorem dX12_putNumber_63 : decode cX12_putNumber 63 = .ok (.lconst 0, 1) := by decide +kernel
theorem dX12_putNumber_64 : decode cX12_putNumber 64 = .ok (.lcmp, 1) := by decide +kernel
theorem dX12_putNumber_65 : decode cX12_putNumber 65 = .ok (.ifCond .ne (-63), 3) := by decide +kernel
theorem dX12_putNumber_68 : decode cX12_putNumber 68 = .ok (.return_, 1) := by decide +kernel
theorem dX12_putPicture_0 : decode cX12_putPicture 0 = .ok (.aload_n 0, 1) := by decide +kernel
theorem dX12_putPicture_1 : decode cX12_putPicture 1 = .ok (.iconst 0, 1) := by decide +kernel
theorem dX12_putPicture_2 : decode cX12_putPicture 2 = .ok (.putfield 953, 3) := by decide +kernel
theorem dX12_putPicture_5 : decode cX12_putPicture 5 = .ok (.aload_n 0, 1) := by decide +kernel
theorem dX12_putPicture_6 : decode cX12_putPicture 6 = .ok (.ldc2_w 957, 3) := by decide +kernel
theorem dX12_putPicture_9 : decode cX12_putPicture 9 = .ok (.invokevirtual 959, 3) := by decide +kernel
theorem dX12_putPicture_12 : decode cX12_putPicture 12 = .ok (.aload_n 0, 1) := by decide +kernel
theorem dX12_putPicture_13 : decode cX12_putPicture 13 = .ok (.ldc2_w 962, 3) := by decide +kernel
theorem dX12_putPicture_16 : decode cX12_putPicture 16 = .ok (.invokevirtual 959, 3) := by decide +kernel
theorem dX12_putPicture_19 : decode cX12_putPicture 19 = .ok (.aload_n 0, 1) := by decide +kernel
theorem dX12_putPicture_20 : decode cX12_putPicture 20 = .ok (.aload_n 0, 1) := by decide +kernel
theorem dX12_putPicture_21 : decode cX12_putPicture 21 = .ok (.getfield 183, 3) := by decide +kernel
theorem dX12_putPicture_24 : decode cX12_putPicture 24 = .ok (.iload_n 1, 1) := by decide +kernel
theorem dX12_putPicture_25 : decode cX12_putPicture 25 = .ok (.iaload, 1) := by decide +kernel
theorem dX12_putPicture_26 : decode cX12_putPicture 26 = .ok (.i2l, 1) := by decide +kernel
theorem dX12_putPicture_27 : decode cX12_putPicture 27 = .ok (.invokevirtual 959, 3) := by decide +kernel
theorem dX12_putPicture_30 : decode cX12_putPicture 30 = .ok (.iconst 0, 1) := by decide +kernel
theorem dX12_putPicture_31 : decode cX12_putPicture 31 = .ok (.istore_n 2, 1) := by decide +kernel
theorem dX12_putPicture_32 : decode cX12_putPicture 32 = .ok (.iload_n 2, 1) := by decide +kernel
theorem dX12_putPicture_33 : decode cX12_putPicture 33 = .ok (.aload_n 0, 1) := by decide +kernel
theorem dX12_putPicture_34 : decode cX12_putPicture 34 = .ok (.getfield 183, 3) := by decide +kernel
theorem dX12_putPicture_37 : decode cX12_putPicture 37 = .ok (.iload_n 1, 1) := by decide +kernel
theorem dX12_putPicture_38 : decode cX12_putPicture 38 = .ok (.iaload, 1) := by decide +kernel
theorem dX12_putPicture_39 : decode cX12_putPicture 39 = .ok (.if_icmp .ge 129, 3) := by decide +kernel
theorem dX12_putPicture_42 : decode cX12_putPicture 42 = .ok (.aload_n 0, 1) := by decide +kernel
theorem dX12_putPicture_43 : decode cX12_putPicture 43 = .ok (.aload_n 0, 1) := by decide +kernel
theorem dX12_putPicture_44 : decode cX12_putPicture 44 = .ok (.getfield 186, 3) := by decide +kernel
theorem dX12_putPicture_47 : decode cX12_putPicture 47 = .ok (.aload_n 0, 1) := by decide +kernel
theorem dX12_putPicture_48 : decode cX12_putPicture 48 = .ok (.iload_n 1, 1) := by decide +kernel
theorem dX12_putPicture_49 : decode cX12_putPicture 49 = .ok (.iload_n 2, 1) := by decide +kernel
theorem dX12_putPicture_50 : decode cX12_putPicture 50 = .ok (.invokevirtual 545, 3) := by decide +kernel
theorem dX12_putPicture_53 : decode cX12_putPicture 53 = .ok (.iaload, 1) := by decide +kernel
theorem dX12_putPicture_54 : decode cX12_putPicture 54 = .ok (.i2l, 1) := by decide +kernel
theorem dX12_putPicture_55 : decode cX12_putPicture 55 = .ok (.invokevirtual 959, 3) := by decide +kernel
theorem dX12_putPicture_58 : decode cX12_putPicture 58 = .ok (.aload_n 0, 1) := by decide +kernel
theorem dX12_putPicture_59 : decode cX12_putPicture 59 = .ok (.aload_n 0, 1) := by decide +kernel
theorem dX12_putPicture_60 : decode cX12_putPicture 60 = .ok (.getfield 189, 3) := by decide +kernel
theorem dX12_putPicture_63 : decode cX12_putPicture 63 = .ok (.aload_n 0, 1) := by decide +kernel
theorem dX12_putPicture_64 : decode cX12_putPicture 64 = .ok (.iload_n 1, 1) := by decide +kernel
theorem dX12_putPicture_65 : decode cX12_putPicture 65 = .ok (.iload_n 2, 1) := by decide +kernel
theorem dX12_putPicture_66 : decode cX12_putPicture 66 = .ok (.invokevirtual 545, 3) := by decide +kernel
theorem dX12_putPicture_69 : decode cX12_putPicture 69 = .ok (.iaload, 1) := by decide +kernel
theorem dX12_putPicture_70 : decode cX12_putPicture 70 = .ok (.i2l, 1) := by decide +kernel
theorem dX12_putPicture_71 : decode cX12_putPicture 71 = .ok (.invokevirtual 959, 3) := by decide +kernel
theorem dX12_putPicture_74 : decode cX12_putPicture 74 = .ok (.aload_n 0, 1) := by decide +kernel
theorem dX12_putPicture_75 : decode cX12_putPicture 75 = .ok (.aload_n 0, 1) := by decide +kernel
theorem dX12_putPicture_76 : decode cX12_putPicture 76 = .ok (.getfield 192, 3) := by decide +kernel
theorem dX12_putPicture_79 : decode cX12_putPicture 79 = .ok (.aload_n 0, 1) := by decide +kernel
theorem dX12_putPicture_80 : decode cX12_putPicture 80 = .ok (.iload_n 1, 1) := by decide +kernel
theorem dX12_putPicture_81 : decode cX12_putPicture 81 = .ok (.iload_n 2, 1) := by decide +kernel
theorem dX12_putPicture_82 : decode cX12_putPicture 82 = .ok (.invokevirtual 545, 3) := by decide +kernel
theorem dX12_putPicture_85 : decode cX12_putPicture 85 = .ok (.iaload, 1) := by decide +kernel
theorem dX12_putPicture_86 : decode cX12_putPicture 86 = .ok (.i2l, 1) := by decide +kernel
theorem dX12_putPicture_87 : decode cX12_putPicture 87 = .ok (.invokevirtual 959, 3) := by decide +kernel
theorem dX12_putPicture_90 : decode cX12_putPicture 90 = .ok (.iconst 0, 1) := by decide +kernel
theorem dX12_putPicture_91 : decode cX12_putPicture 91 = .ok (.istore_n 3, 1) := by decide +kernel
theorem dX12_putPicture_92 : decode cX12_putPicture 92 = .ok (.iload_n 3, 1) := by decide +kernel
theorem dX12_putPicture_93 : decode cX12_putPicture 93 = .ok (.aload_n 0, 1) := by decide +kernel
theorem dX12_putPicture_94 : decode cX12_putPicture 94 = .ok (.iload_n 1, 1) := by decide +kernel
theorem dX12_putPicture_95 : decode cX12_putPicture 95 = .ok (.iload_n 2, 1) := by decide +kernel
theorem dX12_putPicture_96 : decode cX12_putPicture 96 = .ok (.invokevirtual 570, 3) := by decide +kernel
theorem dX12_putPicture_99 : decode cX12_putPicture 99 = .ok (.if_icmp .ge 63, 3) := by decide +kernel
theorem dX12_putPicture_102 : decode cX12_putPicture 102 = .ok (.aload_n 0, 1) := by decide +kernel
theorem dX12_putPicture_103 : decode cX12_putPicture 103 = .ok (.iload_n 1, 1) := by decide +kernel
theorem dX12_putPicture_104 : decode cX12_putPicture 104 = .ok (.iload_n 2, 1) := by decide +kernel
theorem dX12_putPicture_105 : decode cX12_putPicture 105 = .ok (.iload_n 3, 1) := by decide +kernel
theorem dX12_putPicture_106 : decode cX12_putPicture 106 = .ok (.invokevirtual 577, 3) := by decide +kernel
theorem dX12_putPicture_109 : decode cX12_putPicture 109 = .ok (.lstore 4, 2) := by decide +kernel
theorem dX12_putPicture_111 : decode cX12_putPicture 111 = .ok (.aload_n 0, 1) := by decide +kernel
theorem dX12_putPicture_112 : decode cX12_putPicture 112 = .ok (.aload_n 0, 1) := by decide +kernel
theorem dX12_putPicture_113 : decode cX12_putPicture 113 = .ok (.iload_n 1, 1) := by decide +kernel
theorem dX12_putPicture_114 : decode cX12_putPicture 114 = .ok (.iload_n 2, 1) := by decide +kernel
theorem dX12_putPicture_115 : decode cX12_putPicture 115 = .ok (.iload_n 3, 1) := by decide +kernel
theorem dX12_putPicture_116 : decode cX12_putPicture 116 = .ok (.invokevirtual 573, 3) := by decide +kernel
theorem dX12_putPicture_119 : decode cX12_putPicture 119 = .ok (.ifCond .eq 10, 3) := by decide +kernel
theorem dX12_putPicture_122 : decode cX12_putPicture 122 = .ok (.lload 4, 2) := by decide +kernel
theorem dX12_putPicture_124 : decode cX12_putPicture 124 = .ok (.lconst 1, 1) := by decide +kernel
theorem dX12_putPicture_125 : decode cX12_putPicture 125 = .ok (.ladd, 1) := by decide +kernel
theorem dX12_putPicture_126 : decode cX12_putPicture 126 = .ok (.goto 27, 3) := by decide +kernel
theorem dX12_putPicture_129 : decode cX12_putPicture 129 = .ok (.lload 4, 2) := by decide +kernel
theorem dX12_putPicture_131 : decode cX12_putPicture 131 = .ok (.lconst 0, 1) := by decide +kernel
theorem dX12_putPicture_132 : decode cX12_putPicture 132 = .ok (.lcmp, 1) := by decide +kernel
theorem dX12_putPicture_133 : decode cX12_putPicture 133 = .ok (.ifCond .ge 14, 3) := by decide +kernel
theorem dX12_putPicture_136 : decode cX12_putPicture 136 = .ok (.ldc2_w 964, 3) := by decide +kernel
theorem dX12_putPicture_139 : decode cX12_putPicture 139 = .ok (.lload 4, 2) := by decide +kernel
theorem dX12_putPicture_141 : decode cX12_putPicture 141 = .ok (.lmul, 1) := by decide +kernel
theorem dX12_putPicture_142 : decode cX12_putPicture 142 = .ok (.lconst 1, 1) := by decide +kernel
theorem dX12_putPicture_143 : decode cX12_putPicture 143 = .ok (.lsub, 1) := by decide +kernel
theorem dX12_putPicture_144 : decode cX12_putPicture 144 = .ok (.goto 9, 3) := by decide +kernel
theorem dX12_putPicture_147 : decode cX12_putPicture 147 = .ok (.ldc2_w 966, 3) := by decide +kernel
theorem dX12_putPicture_150 : decode cX12_putPicture 150 = .ok (.lload 4, 2) := by decide +kernel
theorem dX12_putPicture_152 : decode cX12_putPicture 152 = .ok (.lmul, 1) := by decide +kernel
theorem dX12_putPicture_153 : decode cX12_putPicture 153 = .ok (.invokevirtual 959, 3) := by decide +kernel
theorem dX12_putPicture_156 : decode cX12_putPicture 156 = .ok (.iinc 3 1, 3) := by decide +kernel
theorem dX12_putPicture_159 : decode cX12_putPicture 159 = .ok (.goto (-67), 3) := by decide +kernel
theorem dX12_putPicture_162 : decode cX12_putPicture 162 = .ok (.iinc 2 1, 3) := by decide +kernel
theorem dX12_putPicture_165 : decode cX12_putPicture 165 = .ok (.goto (-133), 3) := by decide +kernel
theorem dX12_putPicture_168 : decode cX12_putPicture 168 = .ok (.aload_n 0, 1) := by decide +kernel
theorem dX12_putPicture_169 : decode cX12_putPicture 169 = .ok (.aload_n 0, 1) := by decide +kernel
theorem dX12_putPicture_170 : decode cX12_putPicture 170 = .ok (.getfield 234, 3) := by decide +kernel
theorem dX12_putPicture_173 : decode cX12_putPicture 173 = .ok (.iload_n 1, 1) := by decide +kernel
theorem dX12_putPicture_174 : decode cX12_putPicture 174 = .ok (.iaload, 1) := by decide +kernel
theorem dX12_putPicture_175 : decode cX12_putPicture 175 = .ok (.i2l, 1) := by decide +kernel
theorem dX12_putPicture_176 : decode cX12_putPicture 176 = .ok (.invokevirtual 959, 3) := by decide +kernel
theorem dX12_putPicture_179 : decode cX12_putPicture 179 = .ok (.iconst 0, 1) := by decide +kernel
theorem dX12_putPicture_180 : decode cX12_putPicture 180 = .ok (.istore_n 2, 1) := by decide +kernel
theorem dX12_putPicture_181 : decode cX12_putPicture 181 = .ok (.iload_n 2, 1) := by decide +kernel
theorem dX12_putPicture_182 : decode cX12_putPicture 182 = .ok (.aload_n 0, 1) := by decide +kernel
theorem dX12_putPicture_183 : decode cX12_putPicture 183 = .ok (.getfield 234, 3) := by decide +kernel
theorem dX12_putPicture_186 : decode cX12_putPicture 186 = .ok (.iload_n 1, 1) := by decide +kernel
theorem dX12_putPicture_187 : decode cX12_putPicture 187 = .ok (.iaload, 1) := by decide +kernel
theorem dX12_putPicture_188 : decode cX12_putPicture 188 = .ok (.if_icmp .ge 43, 3) := by decide +kernel
theorem dX12_putPicture_191 : decode cX12_putPicture 191 = .ok (.aload_n 0, 1) := by decide +kernel
theorem dX12_putPicture_192 : decode cX12_putPicture 192 = .ok (.aload_n 0, 1) := by decide +kernel
theorem dX12_putPicture_193 : decode cX12_putPicture 193 = .ok (.getfield 237, 3) := by decide +kernel
theorem dX12_putPicture_196 : decode cX12_putPicture 196 = .ok (.sipush 128, 3) := by decide +kernel
theorem dX12_putPicture_199 : decode cX12_putPicture 199 = .ok (.iload_n 1, 1) := by decide +kernel
theorem dX12_putPicture_200 : decode cX12_putPicture 200 = .ok (.imul, 1) := by decide +kernel
theorem dX12_putPicture_201 : decode cX12_putPicture 201 = .ok (.iload_n 2, 1) := by decide +kernel
theorem dX12_putPicture_202 : decode cX12_putPicture 202 = .ok (.iadd, 1) := by decide +kernel
theorem dX12_putPicture_203 : decode cX12_putPicture 203 = .ok (.iaload, 1) := by decide +kernel
theorem dX12_putPicture_204 : decode cX12_putPicture 204 = .ok (.i2l, 1) := by decide +kernel
theorem dX12_putPicture_205 : decode cX12_putPicture 205 = .ok (.invokevirtual 959, 3) := by decide +kernel
theorem dX12_putPicture_208 : decode cX12_putPicture 208 = .ok (.aload_n 0, 1) := by decide +kernel
theorem dX12_putPicture_209 : decode cX12_putPicture 209 = .ok (.aload_n 0, 1) := by decide +kernel
theorem dX12_putPicture_210 : decode cX12_putPicture 210 = .ok (.getfield 240, 3) := by decide +kernel
theorem dX12_putPicture_213 : decode cX12_putPicture 213 = .ok (.sipush 128, 3) := by decide +kernel
theorem dX12_putPicture_216 : decode cX12_putPicture 216 = .ok (.iload_n 1, 1) := by decide +kernel
theorem dX12_putPicture_217 : decode cX12_putPicture 217 = .ok (.imul, 1) := by decide +kernel
theorem dX12_putPicture_218 : decode cX12_putPicture 218 = .ok (.iload_n 2, 1) := by decide +kernel
theorem dX12_putPicture_219 : decode cX12_putPicture 219 = .ok (.iadd, 1) := by decide +kernel
theorem dX12_putPicture_220 : decode cX12_putPicture 220 = .ok (.iaload, 1) := by decide +kernel
theorem dX12_putPicture_221 : decode cX12_putPicture 221 = .ok (.i2l, 1) := by decide +kernel
theorem dX12_putPicture_222 : decode cX12_putPicture 222 = .ok (.invokevirtual 959, 3) := by decide +kernel
theorem dX12_putPicture_225 : decode cX12_putPicture 225 = .ok (.iinc 2 1, 3) := by decide +kernel
theorem dX12_putPicture_228 : decode cX12_putPicture 228 = .ok (.goto (-47), 3) := by decide +kernel
theorem dX12_putPicture_231 : decode cX12_putPicture 231 = .ok (.aload_n 0, 1) := by decide +kernel
theorem dX12_putPicture_232 : decode cX12_putPicture 232 = .ok (.getfield 953, 3) := by decide +kernel
theorem dX12_putPicture_235 : decode cX12_putPicture 235 = .ok (.iconst 4, 1) := by decide +kernel
theorem dX12_putPicture_236 : decode cX12_putPicture 236 = .ok (.iadd, 1) := by decide +kernel
theorem dX12_putPicture_237 : decode cX12_putPicture 237 = .ok (.sipush 4000, 3) := by decide +kernel
theorem dX12_putPicture_240 : decode cX12_putPicture 240 = .ok (.if_icmp .le 5, 3) := by decide +kernel
theorem dX12_putPicture_243 : decode cX12_putPicture 243 = .ok (.iconst 0, 1) := by decide +kernel
theorem dX12_putPicture_244 : decode cX12_putPicture 244 = .ok (.ireturn, 1) := by decide +kernel
theorem dX12_putPicture_245 : decode cX12_putPicture 245 = .ok (.aload_n 0, 1) := by decide +kernel
theorem dX12_putPicture_246 : decode cX12_putPicture 246 = .ok (.getfield 369, 3) := by decide +kernel
theorem dX12_putPicture_249 : decode cX12_putPicture 249 = .ok (.iconst 0, 1) := by decide +kernel
theorem dX12_putPicture_250 : decode cX12_putPicture 250 = .ok (.aload_n 0, 1) := by decide +kernel
theorem dX12_putPicture_251 : decode cX12_putPicture 251 = .ok (.getfield 953, 3) := by decide +kernel
theorem dX12_putPicture_254 : decode cX12_putPicture 254 = .ok (.invokestatic 968, 3) := by decide +kernel
theorem dX12_putPicture_257 : decode cX12_putPicture 257 = .ok (.istore_n 2, 1) := by decide +kernel
theorem dX12_putPicture_258 : decode cX12_putPicture 258 = .ok (.iconst 0, 1) := by decide +kernel
theorem dX12_putPicture_259 : decode cX12_putPicture 259 = .ok (.istore_n 3, 1) := by decide +kernel
theorem dX12_putPicture_260 : decode cX12_putPicture 260 = .ok (.iload_n 3, 1) := by decide +kernel
theorem dX12_putPicture_261 : decode cX12_putPicture 261 = .ok (.iconst 4, 1) := by decide +kernel
theorem dX12_putPicture_262 : decode cX12_putPicture 262 = .ok (.if_icmp .ge 35, 3) := by decide +kernel
theorem dX12_putPicture_265 : decode cX12_putPicture 265 = .ok (.aload_n 0, 1) := by decide +kernel
theorem dX12_putPicture_266 : decode cX12_putPicture 266 = .ok (.getfield 369, 3) := by decide +kernel
theorem dX12_putPicture_269 : decode cX12_putPicture 269 = .ok (.aload_n 0, 1) := by decide +kernel
theorem dX12_putPicture_270 : decode cX12_putPicture 270 = .ok (.getfield 953, 3) := by decide +kernel
theorem dX12_putPicture_273 : decode cX12_putPicture 273 = .ok (.iload_n 2, 1) := by decide +kernel
theorem dX12_putPicture_274 : decode cX12_putPicture 274 = .ok (.bipush 8, 2) := by decide +kernel
theorem dX12_putPicture_276 : decode cX12_putPicture 276 = .ok (.iload_n 3, 1) := by decide +kernel
theorem dX12_putPicture_277 : decode cX12_putPicture 277 = .ok (.imul, 1) := by decide +kernel
theorem dX12_putPicture_278 : decode cX12_putPicture 278 = .ok (.ishr, 1) := by decide +kernel
theorem dX12_putPicture_279 : decode cX12_putPicture 279 = .ok (.i2b, 1) := by decide +kernel
theorem dX12_putPicture_280 : decode cX12_putPicture 280 = .ok (.bastore, 1) := by decide +kernel
theorem dX12_putPicture_281 : decode cX12_putPicture 281 = .ok (.aload_n 0, 1) := by decide +kernel
theorem dX12_putPicture_282 : decode cX12_putPicture 282 = .ok (.dup, 1) := by decide +kernel
theorem dX12_putPicture_283 : decode cX12_putPicture 283 = .ok (.getfield 953, 3) := by decide +kernel
theorem dX12_putPicture_286 : decode cX12_putPicture 286 = .ok (.iconst 1, 1) := by decide +kernel
theorem dX12_putPicture_287 : decode cX12_putPicture 287 = .ok (.iadd, 1) := by decide +kernel
theorem dX12_putPicture_288 : decode cX12_putPicture 288 = .ok (.putfield 953, 3) := by decide +kernel
theorem dX12_putPicture_291 : decode cX12_putPicture 291 = .ok (.iinc 3 1, 3) := by decide +kernel
theorem dX12_putPicture_294 : decode cX12_putPicture 294 = .ok (.goto (-34), 3) := by decide +kernel
theorem dX12_putPicture_297 : decode cX12_putPicture 297 = .ok (.iconst 1, 1) := by decide +kernel
theorem dX12_putPicture_298 : decode cX12_putPicture 298 = .ok (.ireturn, 1) := by decide +kernel
theorem dX12_reach_0 : decode cX12_reach 0 = .ok (.iconst 0, 1) := by decide +kernel
theorem dX12_reach_1 : decode cX12_reach 1 = .ok (.istore 5, 2) := by decide +kernel
theorem dX12_reach_3 : decode cX12_reach 3 = .ok (.iload 5, 2) := by decide +kernel
theorem dX12_reach_5 : decode cX12_reach 5 = .ok (.aload_n 0, 1) := by decide +kernel
theorem dX12_reach_6 : decode cX12_reach 6 = .ok (.getfield 183, 3) := by decide +kernel
theorem dX12_reach_9 : decode cX12_reach 9 = .ok (.iload_n 1, 1) := by decide +kernel
theorem dX12_reach_10 : decode cX12_reach 10 = .ok (.iaload, 1) := by decide +kernel
theorem dX12_reach_11 : decode cX12_reach 11 = .ok (.if_icmp .ge 17, 3) := by decide +kernel
theorem dX12_reach_14 : decode cX12_reach 14 = .ok (.aload_n 0, 1) := by decide +kernel
theorem dX12_reach_15 : decode cX12_reach 15 = .ok (.getfield 249, 3) := by decide +kernel
theorem dX12_reach_18 : decode cX12_reach 18 = .ok (.iload 5, 2) := by decide +kernel
theorem dX12_reach_20 : decode cX12_reach 20 = .ok (.iconst 0, 1) := by decide +kernel
theorem dX12_reach_21 : decode cX12_reach 21 = .ok (.bastore, 1) := by decide +kernel
theorem dX12_reach_22 : decode cX12_reach 22 = .ok (.iinc 5 1, 3) := by decide +kernel
theorem dX12_reach_25 : decode cX12_reach 25 = .ok (.goto (-22), 3) := by decide +kernel
theorem dX12_reach_28 : decode cX12_reach 28 = .ok (.aload_n 0, 1) := by decide +kernel
theorem dX12_reach_29 : decode cX12_reach 29 = .ok (.iconst 0, 1) := by decide +kernel
theorem dX12_reach_30 : decode cX12_reach 30 = .ok (.putfield 581, 3) := by decide +kernel
theorem dX12_reach_33 : decode cX12_reach 33 = .ok (.iload_n 2, 1) := by decide +kernel
theorem dX12_reach_34 : decode cX12_reach 34 = .ok (.iconst (-1), 1) := by decide +kernel
theorem dX12_reach_35 : decode cX12_reach 35 = .ok (.if_icmp .ne 47, 3) := by decide +kernel
theorem dX12_reach_38 : decode cX12_reach 38 = .ok (.iconst 0, 1) := by decide +kernel
theorem dX12_reach_39 : decode cX12_reach 39 = .ok (.istore 5, 2) := by decide +kernel
theorem dX12_reach_41 : decode cX12_reach 41 = .ok (.iload 5, 2) := by decide +kernel
theorem dX12_reach_43 : decode cX12_reach 43 = .ok (.aload_n 0, 1) := by decide +kernel
theorem dX12_reach_44 : decode cX12_reach 44 = .ok (.getfield 234, 3) := by decide +kernel
theorem dX12_reach_47 : decode cX12_reach 47 = .ok (.iload_n 1, 1) := by decide +kernel
theorem dX12_reach_48 : decode cX12_reach 48 = .ok (.iaload, 1) := by decide +kernel
theorem dX12_reach_49 : decode cX12_reach 49 = .ok (.if_icmp .ge 30, 3) := by decide +kernel
theorem dX12_reach_52 : decode cX12_reach 52 = .ok (.aload_n 0, 1) := by decide +kernel
theorem dX12_reach_53 : decode cX12_reach 53 = .ok (.iload_n 1, 1) := by decide +kernel
theorem dX12_reach_54 : decode cX12_reach 54 = .ok (.aload_n 0, 1) := by decide +kernel
theorem dX12_reach_55 : decode cX12_reach 55 = .ok (.getfield 240, 3) := by decide +kernel
theorem dX12_reach_58 : decode cX12_reach 58 = .ok (.sipush 128, 3) := by decide +kernel
theorem dX12_reach_61 : decode cX12_reach 61 = .ok (.iload_n 1, 1) := by decide +kernel
theorem dX12_reach_62 : decode cX12_reach 62 = .ok (.imul, 1) := by decide +kernel
theorem dX12_reach_63 : decode cX12_reach 63 = .ok (.iload 5, 2) := by decide +kernel
theorem dX12_reach_65 : decode cX12_reach 65 = .ok (.iadd, 1) := by decide +kernel
theorem dX12_reach_66 : decode cX12_reach 66 = .ok (.iaload, 1) := by decide +kernel
theorem dX12_reach_67 : decode cX12_reach 67 = .ok (.iload_n 3, 1) := by decide +kernel
theorem dX12_reach_68 : decode cX12_reach 68 = .ok (.iload 4, 2) := by decide +kernel
theorem dX12_reach_70 : decode cX12_reach 70 = .ok (.invokevirtual 584, 3) := by decide +kernel
theorem dX12_reach_73 : decode cX12_reach 73 = .ok (.iinc 5 1, 3) := by decide +kernel
theorem dX12_reach_76 : decode cX12_reach 76 = .ok (.goto (-35), 3) := by decide +kernel
theorem dX12_reach_79 : decode cX12_reach 79 = .ok (.goto 12, 3) := by decide +kernel
theorem dX12_reach_82 : decode cX12_reach 82 = .ok (.aload_n 0, 1) := by decide +kernel
theorem dX12_reach_83 : decode cX12_reach 83 = .ok (.iload_n 1, 1) := by decide +kernel
theorem dX12_reach_84 : decode cX12_reach 84 = .ok (.iload_n 2, 1) := by decide +kernel
theorem dX12_reach_85 : decode cX12_reach 85 = .ok (.iload_n 3, 1) := by decide +kernel
theorem dX12_reach_86 : decode cX12_reach 86 = .ok (.iload 4, 2) := by decide +kernel
theorem dX12_reach_88 : decode cX12_reach 88 = .ok (.invokevirtual 588, 3) := by decide +kernel
theorem dX12_reach_91 : decode cX12_reach 91 = .ok (.iconst 0, 1) := by decide +kernel
theorem dX12_reach_92 : decode cX12_reach 92 = .ok (.istore 5, 2) := by decide +kernel
theorem dX12_reach_94 : decode cX12_reach 94 = .ok (.iload 5, 2) := by decide +kernel
theorem dX12_reach_96 : decode cX12_reach 96 = .ok (.aload_n 0, 1) := by decide +kernel
theorem dX12_reach_97 : decode cX12_reach 97 = .ok (.getfield 581, 3) := by decide +kernel
theorem dX12_reach_100 : decode cX12_reach 100 = .ok (.if_icmp .ge 24, 3) := by decide +kernel
theorem dX12_reach_103 : decode cX12_reach 103 = .ok (.aload_n 0, 1) := by decide +kernel
theorem dX12_reach_104 : decode cX12_reach 104 = .ok (.iload_n 1, 1) := by decide +kernel
theorem dX12_reach_105 : decode cX12_reach 105 = .ok (.aload_n 0, 1) := by decide +kernel
theorem dX12_reach_106 : decode cX12_reach 106 = .ok (.getfield 256, 3) := by decide +kernel
theorem dX12_reach_109 : decode cX12_reach 109 = .ok (.iload 5, 2) := by decide +kernel
theorem dX12_reach_111 : decode cX12_reach 111 = .ok (.iaload, 1) := by decide +kernel
theorem dX12_reach_112 : decode cX12_reach 112 = .ok (.iload_n 3, 1) := by decide +kernel
theorem dX12_reach_113 : decode cX12_reach 113 = .ok (.iload 4, 2) := by decide +kernel
theorem dX12_reach_115 : decode cX12_reach 115 = .ok (.invokevirtual 588, 3) := by decide +kernel
theorem dX12_reach_118 : decode cX12_reach 118 = .ok (.iinc 5 1, 3) := by decide +kernel
theorem dX12_reach_121 : decode cX12_reach 121 = .ok (.goto (-27), 3) := by decide +kernel
theorem dX12_reach_124 : decode cX12_reach 124 = .ok (.return_, 1) := by decide +kernel
theorem dX12_readAnd_0 : decode cX12_readAnd 0 = .ok (.aload_n 0, 1) := by decide +kernel
theorem dX12_readAnd_1 : decode cX12_readAnd 1 = .ok (.invokevirtual 686, 3) := by decide +kernel
theorem dX12_readAnd_4 : decode cX12_readAnd 4 = .ok (.istore_n 1, 1) := by decide +kernel
theorem dX12_readAnd_5 : decode cX12_readAnd 5 = .ok (.aload_n 0, 1) := by decide +kernel
theorem dX12_readAnd_6 : decode cX12_readAnd 6 = .ok (.getfield 625, 3) := by decide +kernel
theorem dX12_readAnd_9 : decode cX12_readAnd 9 = .ok (.ifCond .ne 43, 3) := by decide +kernel
theorem dX12_readAnd_12 : decode cX12_readAnd 12 = .ok (.aload_n 0, 1) := by decide +kernel
theorem dX12_readAnd_13 : decode cX12_readAnd 13 = .ok (.iconst 5, 1) := by decide +kernel
theorem dX12_readAnd_14 : decode cX12_readAnd 14 = .ok (.invokevirtual 667, 3) := by decide +kernel
theorem dX12_readAnd_17 : decode cX12_readAnd 17 = .ok (.ifCond .eq 35, 3) := by decide +kernel
theorem dX12_readAnd_20 : decode cX12_readAnd 20 = .ok (.aload_n 0, 1) := by decide +kernel
theorem dX12_readAnd_21 : decode cX12_readAnd 21 = .ok (.iconst 5, 1) := by decide +kernel
theorem dX12_readAnd_22 : decode cX12_readAnd 22 = .ok (.invokevirtual 683, 3) := by decide +kernel
theorem dX12_readAnd_25 : decode cX12_readAnd 25 = .ok (.istore_n 2, 1) := by decide +kernel
theorem dX12_readAnd_26 : decode cX12_readAnd 26 = .ok (.aload_n 0, 1) := by decide +kernel
theorem dX12_readAnd_27 : decode cX12_readAnd 27 = .ok (.invokevirtual 661, 3) := by decide +kernel
theorem dX12_readAnd_30 : decode cX12_readAnd 30 = .ok (.aload_n 0, 1) := by decide +kernel
theorem dX12_readAnd_31 : decode cX12_readAnd 31 = .ok (.getfield 275, 3) := by decide +kernel
theorem dX12_readAnd_34 : decode cX12_readAnd 34 = .ok (.iload_n 2, 1) := by decide +kernel
theorem dX12_readAnd_35 : decode cX12_readAnd 35 = .ok (.iload_n 1, 1) := by decide +kernel
theorem dX12_readAnd_36 : decode cX12_readAnd 36 = .ok (.iastore, 1) := by decide +kernel
theorem dX12_readAnd_37 : decode cX12_readAnd 37 = .ok (.aload_n 0, 1) := by decide +kernel
theorem dX12_readAnd_38 : decode cX12_readAnd 38 = .ok (.getfield 278, 3) := by decide +kernel
theorem dX12_readAnd_41 : decode cX12_readAnd 41 = .ok (.iload_n 2, 1) := by decide +kernel
theorem dX12_readAnd_42 : decode cX12_readAnd 42 = .ok (.aload_n 0, 1) := by decide +kernel
theorem dX12_readAnd_43 : decode cX12_readAnd 43 = .ok (.invokevirtual 686, 3) := by decide +kernel
theorem dX12_readAnd_46 : decode cX12_readAnd 46 = .ok (.iastore, 1) := by decide +kernel
theorem dX12_readAnd_47 : decode cX12_readAnd 47 = .ok (.iload_n 2, 1) := by decide +kernel
theorem dX12_readAnd_48 : decode cX12_readAnd 48 = .ok (.istore_n 1, 1) := by decide +kernel
theorem dX12_readAnd_49 : decode cX12_readAnd 49 = .ok (.goto (-44), 3) := by decide +kernel
theorem dX12_readAnd_52 : decode cX12_readAnd 52 = .ok (.iload_n 1, 1) := by decide +kernel
theorem dX12_readAnd_53 : decode cX12_readAnd 53 = .ok (.ireturn, 1) := by decide +kernel
theorem dX12_readAtom_0 : decode cX12_readAtom 0 = .ok (.aload_n 0, 1) := by decide +kernel
theorem dX12_readAtom_1 : decode cX12_readAtom 1 = .ok (.getfield 625, 3) := by decide +kernel
theorem dX12_readAtom_4 : decode cX12_readAtom 4 = .ok (.ifCond .le 8, 3) := by decide +kernel
theorem dX12_readAtom_7 : decode cX12_readAtom 7 = .ok (.aload_n 0, 1) := by decide +kernel
theorem dX12_readAtom_8 : decode cX12_readAtom 8 = .ok (.getfield 673, 3) := by decide +kernel
theorem dX12_readAtom_11 : decode cX12_readAtom 11 = .ok (.ireturn, 1) := by decide +kernel
theorem dX12_readAtom_12 : decode cX12_readAtom 12 = .ok (.aload_n 0, 1) := by decide +kernel
theorem dX12_readAtom_13 : decode cX12_readAtom 13 = .ok (.invokevirtual 751, 3) := by decide +kernel
theorem dX12_readAtom_16 : decode cX12_readAtom 16 = .ok (.istore_n 1, 1) := by decide +kernel
theorem dX12_readAtom_17 : decode cX12_readAtom 17 = .ok (.aload_n 0, 1) := by decide +kernel
theorem dX12_readAtom_18 : decode cX12_readAtom 18 = .ok (.ldc2_w 754, 3) := by decide +kernel
theorem dX12_readAtom_21 : decode cX12_readAtom 21 = .ok (.invokevirtual 657, 3) := by decide +kernel
theorem dX12_readAtom_24 : decode cX12_readAtom 24 = .ok (.ifCond .eq 56, 3) := by decide +kernel
theorem dX12_readAtom_27 : decode cX12_readAtom 27 = .ok (.aload_n 0, 1) := by decide +kernel
theorem dX12_readAtom_28 : decode cX12_readAtom 28 = .ok (.invokevirtual 740, 3) := by decide +kernel
theorem dX12_readAtom_31 : decode cX12_readAtom 31 = .ok (.aload_n 0, 1) := by decide +kernel
theorem dX12_readAtom_32 : decode cX12_readAtom 32 = .ok (.getfield 625, 3) := by decide +kernel
theorem dX12_readAtom_35 : decode cX12_readAtom 35 = .ok (.ifCond .ne 7, 3) := by decide +kernel
theorem dX12_readAtom_38 : decode cX12_readAtom 38 = .ok (.aload_n 0, 1) := by decide +kernel
theorem dX12_readAtom_39 : decode cX12_readAtom 39 = .ok (.invokevirtual 661, 3) := by decide +kernel
theorem dX12_readAtom_42 : decode cX12_readAtom 42 = .ok (.aload_n 0, 1) := by decide +kernel
theorem dX12_readAtom_43 : decode cX12_readAtom 43 = .ok (.getfield 625, 3) := by decide +kernel
theorem dX12_readAtom_46 : decode cX12_readAtom 46 = .ok (.ifCond .ne 10, 3) := by decide +kernel
theorem dX12_readAtom_49 : decode cX12_readAtom 49 = .ok (.aload_n 0, 1) := by decide +kernel
theorem dX12_readAtom_50 : decode cX12_readAtom 50 = .ok (.invokevirtual 743, 3) := by decide +kernel
theorem dX12_readAtom_53 : decode cX12_readAtom 53 = .ok (.goto 7, 3) := by decide +kernel
theorem dX12_readAtom_56 : decode cX12_readAtom 56 = .ok (.aload_n 0, 1) := by decide +kernel
theorem dX12_readAtom_57 : decode cX12_readAtom 57 = .ok (.getfield 673, 3) := by decide +kernel
theorem dX12_readAtom_60 : decode cX12_readAtom 60 = .ok (.istore_n 2, 1) := by decide +kernel
theorem dX12_readAtom_61 : decode cX12_readAtom 61 = .ok (.aload_n 0, 1) := by decide +kernel
theorem dX12_readAtom_62 : decode cX12_readAtom 62 = .ok (.ldc2_w 756, 3) := by decide +kernel
theorem dX12_readAtom_65 : decode cX12_readAtom 65 = .ok (.invokevirtual 748, 3) := by decide +kernel
theorem dX12_readAtom_68 : decode cX12_readAtom 68 = .ok (.aload_n 0, 1) := by decide +kernel
theorem dX12_readAtom_69 : decode cX12_readAtom 69 = .ok (.dup, 1) := by decide +kernel
theorem dX12_readAtom_70 : decode cX12_readAtom 70 = .ok (.getfield 676, 3) := by decide +kernel
theorem dX12_readAtom_73 : decode cX12_readAtom 73 = .ok (.iconst 1, 1) := by decide +kernel
theorem dX12_readAtom_74 : decode cX12_readAtom 74 = .ok (.isub, 1) := by decide +kernel
theorem dX12_readAtom_75 : decode cX12_readAtom 75 = .ok (.putfield 676, 3) := by decide +kernel
theorem dX12_readAtom_78 : decode cX12_readAtom 78 = .ok (.iload_n 2, 1) := by decide +kernel
theorem dX12_readAtom_79 : decode cX12_readAtom 79 = .ok (.ireturn, 1) := by decide +kernel
theorem dX12_readAtom_80 : decode cX12_readAtom 80 = .ok (.iload_n 1, 1) := by decide +kernel
theorem dX12_readAtom_81 : decode cX12_readAtom 81 = .ok (.bipush 13, 2) := by decide +kernel
theorem dX12_readAtom_83 : decode cX12_readAtom 83 = .ok (.if_icmp .lt 15, 3) := by decide +kernel
theorem dX12_readAtom_86 : decode cX12_readAtom 86 = .ok (.iload_n 1, 1) := by decide +kernel
theorem dX12_readAtom_87 : decode cX12_readAtom 87 = .ok (.bipush 18, 2) := by decide +kernel
theorem dX12_readAtom_89 : decode cX12_readAtom 89 = .ok (.if_icmp .gt 9, 3) := by decide +kernel
theorem dX12_readAtom_92 : decode cX12_readAtom 92 = .ok (.aload_n 0, 1) := by decide +kernel
theorem dX12_readAtom_93 : decode cX12_readAtom 93 = .ok (.iload_n 1, 1) := by decide +kernel
theorem dX12_readAtom_94 : decode cX12_readAtom 94 = .ok (.invokevirtual 758, 3) := by decide +kernel
theorem dX12_readAtom_97 : decode cX12_readAtom 97 = .ok (.ireturn, 1) := by decide +kernel
theorem dX12_readAtom_98 : decode cX12_readAtom 98 = .ok (.iload_n 1, 1) := by decide +kernel
theorem dX12_readAtom_99 : decode cX12_readAtom 99 = .ok (.bipush 19, 2) := by decide +kernel
theorem dX12_readAtom_101 : decode cX12_readAtom 101 = .ok (.if_icmp .lt 38, 3) := by decide +kernel
theorem dX12_readAtom_104 : decode cX12_readAtom 104 = .ok (.iload_n 1, 1) := by decide +kernel
theorem dX12_readAtom_105 : decode cX12_readAtom 105 = .ok (.bipush 22, 2) := by decide +kernel
theorem dX12_readAtom_107 : decode cX12_readAtom 107 = .ok (.if_icmp .gt 32, 3) := by decide +kernel
theorem dX12_readAtom_110 : decode cX12_readAtom 110 = .ok (.aload_n 0, 1) := by decide +kernel
theorem dX12_readAtom_111 : decode cX12_readAtom 111 = .ok (.iload_n 1, 1) := by decide +kernel
theorem dX12_readAtom_112 : decode cX12_readAtom 112 = .ok (.invokevirtual 683, 3) := by decide +kernel
theorem dX12_readAtom_115 : decode cX12_readAtom 115 = .ok (.istore_n 2, 1) := by decide +kernel
theorem dX12_readAtom_116 : decode cX12_readAtom 116 = .ok (.aload_n 0, 1) := by decide +kernel
theorem dX12_readAtom_117 : decode cX12_readAtom 117 = .ok (.getfield 625, 3) := by decide +kernel
theorem dX12_readAtom_120 : decode cX12_readAtom 120 = .ok (.ifCond .ne 7, 3) := by decide +kernel
theorem dX12_readAtom_123 : decode cX12_readAtom 123 = .ok (.aload_n 0, 1) := by decide +kernel
theorem dX12_readAtom_124 : decode cX12_readAtom 124 = .ok (.invokevirtual 661, 3) := by decide +kernel
theorem dX12_readAtom_127 : decode cX12_readAtom 127 = .ok (.aload_n 0, 1) := by decide +kernel
theorem dX12_readAtom_128 : decode cX12_readAtom 128 = .ok (.getfield 275, 3) := by decide +kernel
theorem dX12_readAtom_131 : decode cX12_readAtom 131 = .ok (.iload_n 2, 1) := by decide +kernel
theorem dX12_readAtom_132 : decode cX12_readAtom 132 = .ok (.aload_n 0, 1) := by decide +kernel
theorem dX12_readAtom_133 : decode cX12_readAtom 133 = .ok (.invokevirtual 730, 3) := by decide +kernel
theorem dX12_readAtom_136 : decode cX12_readAtom 136 = .ok (.iastore, 1) := by decide +kernel
theorem dX12_readAtom_137 : decode cX12_readAtom 137 = .ok (.iload_n 2, 1) := by decide +kernel
theorem dX12_readAtom_138 : decode cX12_readAtom 138 = .ok (.ireturn, 1) := by decide +kernel
theorem dX12_readAtom_139 : decode cX12_readAtom 139 = .ok (.iload_n 1, 1) := by decide +kernel
theorem dX12_readAtom_140 : decode cX12_readAtom 140 = .ok (.bipush 28, 2) := by decide +kernel
theorem dX12_readAtom_142 : decode cX12_readAtom 142 = .ok (.if_icmp .ne 63, 3) := by decide +kernel
theorem dX12_readAtom_145 : decode cX12_readAtom 145 = .ok (.aload_n 0, 1) := by decide +kernel
theorem dX12_readAtom_146 : decode cX12_readAtom 146 = .ok (.bipush 28, 2) := by decide +kernel
theorem dX12_readAtom_148 : decode cX12_readAtom 148 = .ok (.invokevirtual 683, 3) := by decide +kernel
theorem dX12_readAtom_151 : decode cX12_readAtom 151 = .ok (.istore_n 2, 1) := by decide +kernel
theorem dX12_readAtom_152 : decode cX12_readAtom 152 = .ok (.aload_n 0, 1) := by decide +kernel
theorem dX12_readAtom_153 : decode cX12_readAtom 153 = .ok (.getfield 625, 3) := by decide +kernel
theorem dX12_readAtom_156 : decode cX12_readAtom 156 = .ok (.ifCond .ne 7, 3) := by decide +kernel
theorem dX12_readAtom_159 : decode cX12_readAtom 159 = .ok (.aload_n 0, 1) := by decide +kernel
theorem dX12_readAtom_160 : decode cX12_readAtom 160 = .ok (.invokevirtual 661, 3) := by decide +kernel
theorem dX12_readAtom_163 : decode cX12_readAtom 163 = .ok (.aload_n 0, 1) := by decide +kernel
theorem dX12_readAtom_164 : decode cX12_readAtom 164 = .ok (.getfield 625, 3) := by decide +kernel
theorem dX12_readAtom_167 : decode cX12_readAtom 167 = .ok (.ifCond .ne 15, 3) := by decide +kernel
theorem dX12_readAtom_170 : decode cX12_readAtom 170 = .ok (.aload_n 0, 1) := by decide +kernel
theorem dX12_readAtom_171 : decode cX12_readAtom 171 = .ok (.getfield 644, 3) := by decide +kernel
theorem dX12_readAtom_174 : decode cX12_readAtom 174 = .ok (.iconst 2, 1) := by decide +kernel
theorem dX12_readAtom_175 : decode cX12_readAtom 175 = .ok (.if_icmp .eq 7, 3) := by decide +kernel
theorem dX12_readAtom_178 : decode cX12_readAtom 178 = .ok (.aload_n 0, 1) := by decide +kernel
theorem dX12_readAtom_179 : decode cX12_readAtom 179 = .ok (.invokevirtual 664, 3) := by decide +kernel
theorem dX12_readAtom_182 : decode cX12_readAtom 182 = .ok (.aload_n 0, 1) := by decide +kernel
theorem dX12_readAtom_183 : decode cX12_readAtom 183 = .ok (.getfield 284, 3) := by decide +kernel
theorem dX12_readAtom_186 : decode cX12_readAtom 186 = .ok (.iload_n 2, 1) := by decide +kernel
theorem dX12_readAtom_187 : decode cX12_readAtom 187 = .ok (.aload_n 0, 1) := by decide +kernel
theorem dX12_readAtom_188 : decode cX12_readAtom 188 = .ok (.getfield 640, 3) := by decide +kernel
theorem dX12_readAtom_191 : decode cX12_readAtom 191 = .ok (.lastore, 1) := by decide +kernel
theorem dX12_readAtom_192 : decode cX12_readAtom 192 = .ok (.aload_n 0, 1) := by decide +kernel
theorem dX12_readAtom_193 : decode cX12_readAtom 193 = .ok (.getfield 625, 3) := by decide +kernel
theorem dX12_readAtom_196 : decode cX12_readAtom 196 = .ok (.ifCond .ne 7, 3) := by decide +kernel
theorem dX12_readAtom_199 : decode cX12_readAtom 199 = .ok (.aload_n 0, 1) := by decide +kernel
theorem dX12_readAtom_200 : decode cX12_readAtom 200 = .ok (.invokevirtual 661, 3) := by decide +kernel
theorem dX12_readAtom_203 : decode cX12_readAtom 203 = .ok (.iload_n 2, 1) := by decide +kernel
theorem dX12_readAtom_204 : decode cX12_readAtom 204 = .ok (.ireturn, 1) := by decide +kernel
theorem dX12_readAtom_205 : decode cX12_readAtom 205 = .ok (.aload_n 0, 1) := by decide +kernel
theorem dX12_readAtom_206 : decode cX12_readAtom 206 = .ok (.getfield 644, 3) := by decide +kernel
theorem dX12_readAtom_209 : decode cX12_readAtom 209 = .ok (.iconst 2, 1) := by decide +kernel
theorem dX12_readAtom_210 : decode cX12_readAtom 210 = .ok (.if_icmp .eq 27, 3) := by decide +kernel
theorem dX12_readAtom_213 : decode cX12_readAtom 213 = .ok (.iload_n 1, 1) := by decide +kernel
theorem dX12_readAtom_214 : decode cX12_readAtom 214 = .ok (.bipush 8, 2) := by decide +kernel
theorem dX12_readAtom_216 : decode cX12_readAtom 216 = .ok (.if_icmp .eq 21, 3) := by decide +kernel
theorem dX12_readAtom_219 : decode cX12_readAtom 219 = .ok (.iload_n 1, 1) := by decide +kernel
theorem dX12_readAtom_220 : decode cX12_readAtom 220 = .ok (.bipush 9, 2) := by decide +kernel
theorem dX12_readAtom_222 : decode cX12_readAtom 222 = .ok (.if_icmp .eq 15, 3) := by decide +kernel
theorem dX12_readAtom_225 : decode cX12_readAtom 225 = .ok (.iload_n 1, 1) := by decide +kernel
theorem dX12_readAtom_226 : decode cX12_readAtom 226 = .ok (.bipush 10, 2) := by decide +kernel
theorem dX12_readAtom_228 : decode cX12_readAtom 228 = .ok (.if_icmp .eq 9, 3) := by decide +kernel
theorem dX12_readAtom_231 : decode cX12_readAtom 231 = .ok (.iload_n 1, 1) := by decide +kernel
theorem dX12_readAtom_232 : decode cX12_readAtom 232 = .ok (.bipush 27, 2) := by decide +kernel
theorem dX12_readAtom_234 : decode cX12_readAtom 234 = .ok (.if_icmp .ne 7, 3) := by decide +kernel
theorem dX12_readAtom_237 : decode cX12_readAtom 237 = .ok (.iconst 1, 1) := by decide +kernel
theorem dX12_readAtom_238 : decode cX12_readAtom 238 = .ok (.goto 4, 3) := by decide +kernel
theorem dX12_readAtom_241 : decode cX12_readAtom 241 = .ok (.iconst 0, 1) := by decide +kernel
theorem dX12_readAtom_242 : decode cX12_readAtom 242 = .ok (.istore_n 2, 1) := by decide +kernel
theorem dX12_readAtom_243 : decode cX12_readAtom 243 = .ok (.iload_n 2, 1) := by decide +kernel
theorem dX12_readAtom_244 : decode cX12_readAtom 244 = .ok (.ifCond .ne 19, 3) := by decide +kernel
theorem dX12_readAtom_247 : decode cX12_readAtom 247 = .ok (.aload_n 0, 1) := by decide +kernel
theorem dX12_readAtom_248 : decode cX12_readAtom 248 = .ok (.invokevirtual 710, 3) := by decide +kernel
theorem dX12_readAtom_251 : decode cX12_readAtom 251 = .ok (.ifCond .ne 12, 3) := by decide +kernel
theorem dX12_readAtom_254 : decode cX12_readAtom 254 = .ok (.aload_n 0, 1) := by decide +kernel
theorem dX12_readAtom_255 : decode cX12_readAtom 255 = .ok (.invokevirtual 664, 3) := by decide +kernel
theorem dX12_readAtom_258 : decode cX12_readAtom 258 = .ok (.aload_n 0, 1) := by decide +kernel
theorem dX12_readAtom_259 : decode cX12_readAtom 259 = .ok (.getfield 673, 3) := by decide +kernel
theorem dX12_readAtom_262 : decode cX12_readAtom 262 = .ok (.ireturn, 1) := by decide +kernel
theorem dX12_readAtom_263 : decode cX12_readAtom 263 = .ok (.iconst (-1), 1) := by decide +kernel
theorem dX12_readAtom_264 : decode cX12_readAtom 264 = .ok (.istore_n 3, 1) := by decide +kernel
theorem dX12_readAtom_265 : decode cX12_readAtom 265 = .ok (.iconst 0, 1) := by decide +kernel
theorem dX12_readAtom_266 : decode cX12_readAtom 266 = .ok (.istore 4, 2) := by decide +kernel
theorem dX12_readAtom_268 : decode cX12_readAtom 268 = .ok (.iload 4, 2) := by decide +kernel
theorem dX12_readAtom_270 : decode cX12_readAtom 270 = .ok (.aload_n 0, 1) := by decide +kernel
theorem dX12_readAtom_271 : decode cX12_readAtom 271 = .ok (.getfield 761, 3) := by decide +kernel
theorem dX12_readAtom_274 : decode cX12_readAtom 274 = .ok (.if_icmp .ge 35, 3) := by decide +kernel
theorem dX12_readAtom_277 : decode cX12_readAtom 277 = .ok (.iload_n 2, 1) := by decide +kernel
theorem dX12_readAtom_278 : decode cX12_readAtom 278 = .ok (.ifCond .ne 31, 3) := by decide +kernel
theorem dX12_readAtom_281 : decode cX12_readAtom 281 = .ok (.aload_n 0, 1) := by decide +kernel
theorem dX12_readAtom_282 : decode cX12_readAtom 282 = .ok (.getfield 287, 3) := by decide +kernel
theorem dX12_readAtom_285 : decode cX12_readAtom 285 = .ok (.iload 4, 2) := by decide +kernel
theorem dX12_readAtom_287 : decode cX12_readAtom 287 = .ok (.laload, 1) := by decide +kernel
theorem dX12_readAtom_288 : decode cX12_readAtom 288 = .ok (.aload_n 0, 1) := by decide +kernel
theorem dX12_readAtom_289 : decode cX12_readAtom 289 = .ok (.getfield 640, 3) := by decide +kernel
theorem dX12_readAtom_292 : decode cX12_readAtom 292 = .ok (.lcmp, 1) := by decide +kernel
theorem dX12_readAtom_293 : decode cX12_readAtom 293 = .ok (.ifCond .ne 8, 3) := by decide +kernel
theorem dX12_readAtom_296 : decode cX12_readAtom 296 = .ok (.iload 4, 2) := by decide +kernel
theorem dX12_readAtom_298 : decode cX12_readAtom 298 = .ok (.goto 4, 3) := by decide +kernel
theorem dX12_readAtom_301 : decode cX12_readAtom 301 = .ok (.iload_n 3, 1) := by decide +kernel
theorem dX12_readAtom_302 : decode cX12_readAtom 302 = .ok (.istore_n 3, 1) := by decide +kernel
theorem dX12_readAtom_303 : decode cX12_readAtom 303 = .ok (.iinc 4 1, 3) := by decide +kernel
theorem dX12_readAtom_306 : decode cX12_readAtom 306 = .ok (.goto (-38), 3) := by decide +kernel
theorem dX12_readAtom_309 : decode cX12_readAtom 309 = .ok (.iload_n 1, 1) := by decide +kernel
theorem dX12_readAtom_310 : decode cX12_readAtom 310 = .ok (.bipush 27, 2) := by decide +kernel
theorem dX12_readAtom_312 : decode cX12_readAtom 312 = .ok (.if_icmp .ne 10, 3) := by decide +kernel
theorem dX12_readAtom_315 : decode cX12_readAtom 315 = .ok (.aload_n 0, 1) := by decide +kernel
theorem dX12_readAtom_316 : decode cX12_readAtom 316 = .ok (.getfield 764, 3) := by decide +kernel
theorem dX12_readAtom_319 : decode cX12_readAtom 319 = .ok (.ifCond .eq 12, 3) := by decide +kernel
theorem dX12_readAtom_322 : decode cX12_readAtom 322 = .ok (.iload_n 2, 1) := by decide +kernel
theorem dX12_readAtom_323 : decode cX12_readAtom 323 = .ok (.ifCond .ne 17, 3) := by decide +kernel
theorem dX12_readAtom_326 : decode cX12_readAtom 326 = .ok (.iload_n 3, 1) := by decide +kernel
theorem dX12_readAtom_327 : decode cX12_readAtom 327 = .ok (.iconst (-1), 1) := by decide +kernel
theorem dX12_readAtom_328 : decode cX12_readAtom 328 = .ok (.if_icmp .ne 12, 3) := by decide +kernel
theorem dX12_readAtom_331 : decode cX12_readAtom 331 = .ok (.aload_n 0, 1) := by decide +kernel
theorem dX12_readAtom_332 : decode cX12_readAtom 332 = .ok (.iconst 3, 1) := by decide +kernel
theorem dX12_readAtom_333 : decode cX12_readAtom 333 = .ok (.aload_n 0, 1) := by decide +kernel
theorem dX12_readAtom_334 : decode cX12_readAtom 334 = .ok (.getfield 637, 3) := by decide +kernel
theorem dX12_readAtom_337 : decode cX12_readAtom 337 = .ok (.invokevirtual 653, 3) := by decide +kernel
theorem dX12_readAtom_340 : decode cX12_readAtom 340 = .ok (.aload_n 0, 1) := by decide +kernel
theorem dX12_readAtom_341 : decode cX12_readAtom 341 = .ok (.aload_n 0, 1) := by decide +kernel
theorem dX12_readAtom_342 : decode cX12_readAtom 342 = .ok (.getfield 644, 3) := by decide +kernel
theorem dX12_readAtom_345 : decode cX12_readAtom 345 = .ok (.iconst 2, 1) := by decide +kernel
theorem dX12_readAtom_346 : decode cX12_readAtom 346 = .ok (.if_icmp .ne 8, 3) := by decide +kernel
theorem dX12_readAtom_349 : decode cX12_readAtom 349 = .ok (.bipush 100, 2) := by decide +kernel
theorem dX12_readAtom_351 : decode cX12_readAtom 351 = .ok (.goto 13, 3) := by decide +kernel
theorem dX12_readAtom_354 : decode cX12_readAtom 354 = .ok (.iload_n 2, 1) := by decide +kernel
theorem dX12_readAtom_355 : decode cX12_readAtom 355 = .ok (.ifCond .eq 7, 3) := by decide +kernel
theorem dX12_readAtom_358 : decode cX12_readAtom 358 = .ok (.iload_n 1, 1) := by decide +kernel
theorem dX12_readAtom_359 : decode cX12_readAtom 359 = .ok (.goto 5, 3) := by decide +kernel
theorem dX12_readAtom_362 : decode cX12_readAtom 362 = .ok (.bipush 101, 2) := by decide +kernel
theorem dX12_readAtom_364 : decode cX12_readAtom 364 = .ok (.invokevirtual 683, 3) := by decide +kernel
theorem dX12_readAtom_367 : decode cX12_readAtom 367 = .ok (.istore 4, 2) := by decide +kernel
theorem dX12_readAtom_369 : decode cX12_readAtom 369 = .ok (.aload_n 0, 1) := by decide +kernel
theorem dX12_readAtom_370 : decode cX12_readAtom 370 = .ok (.getfield 625, 3) := by decide +kernel
theorem dX12_readAtom_373 : decode cX12_readAtom 373 = .ok (.ifCond .le 6, 3) := by decide +kernel
theorem dX12_readAtom_376 : decode cX12_readAtom 376 = .ok (.iload 4, 2) := by decide +kernel
theorem dX12_readAtom_378 : decode cX12_readAtom 378 = .ok (.ireturn, 1) := by decide +kernel
theorem dX12_readAtom_379 : decode cX12_readAtom 379 = .ok (.aload_n 0, 1) := by decide +kernel
theorem dX12_readAtom_380 : decode cX12_readAtom 380 = .ok (.getfield 275, 3) := by decide +kernel
theorem dX12_readAtom_383 : decode cX12_readAtom 383 = .ok (.iload 4, 2) := by decide +kernel
theorem dX12_readAtom_385 : decode cX12_readAtom 385 = .ok (.iload_n 3, 1) := by decide +kernel
theorem dX12_readAtom_386 : decode cX12_readAtom 386 = .ok (.iastore, 1) := by decide +kernel
theorem dX12_readAtom_387 : decode cX12_readAtom 387 = .ok (.aload_n 0, 1) := by decide +kernel
theorem dX12_readAtom_388 : decode cX12_readAtom 388 = .ok (.invokevirtual 661, 3) := by decide +kernel
theorem dX12_readAtom_391 : decode cX12_readAtom 391 = .ok (.iload 4, 2) := by decide +kernel
theorem dX12_readAtom_393 : decode cX12_readAtom 393 = .ok (.ireturn, 1) := by decide +kernel
theorem dX12_readAtomOf_0 : decode cX12_readAtomOf 0 = .ok (.aload_n 0, 1) := by decide +kernel
theorem dX12_readAtomOf_1 : decode cX12_readAtomOf 1 = .ok (.getfield 644, 3) := by decide +kernel
theorem dX12_readAtomOf_4 : decode cX12_readAtomOf 4 = .ok (.iconst 1, 1) := by decide +kernel
theorem dX12_readAtomOf_5 : decode cX12_readAtomOf 5 = .ok (.if_icmp .ne 21, 3) := by decide +kernel
theorem dX12_readAtomOf_8 : decode cX12_readAtomOf 8 = .ok (.aload_n 0, 1) := by decide +kernel
theorem dX12_readAtomOf_9 : decode cX12_readAtomOf 9 = .ok (.getfield 640, 3) := by decide +kernel
theorem dX12_readAtomOf_12 : decode cX12_readAtomOf 12 = .ok (.ldc2_w 883, 3) := by decide +kernel
theorem dX12_readAtomOf_15 : decode cX12_readAtomOf 15 = .ok (.invokestatic 384, 3) := by decide +kernel
theorem dX12_readAtomOf_18 : decode cX12_readAtomOf 18 = .ok (.lcmp, 1) := by decide +kernel
theorem dX12_readAtomOf_19 : decode cX12_readAtomOf 19 = .ok (.ifCond .ne 7, 3) := by decide +kernel
theorem dX12_readAtomOf_22 : decode cX12_readAtomOf 22 = .ok (.iconst 1, 1) := by decide +kernel
theorem dX12_readAtomOf_23 : decode cX12_readAtomOf 23 = .ok (.goto 4, 3) := by decide +kernel
theorem dX12_readAtomOf_26 : decode cX12_readAtomOf 26 = .ok (.iconst 0, 1) := by decide +kernel
theorem dX12_readAtomOf_27 : decode cX12_readAtomOf 27 = .ok (.istore_n 2, 1) := by decide +kernel
theorem dX12_readAtomOf_28 : decode cX12_readAtomOf 28 = .ok (.iload_n 2, 1) := by decide +kernel
theorem dX12_readAtomOf_29 : decode cX12_readAtomOf 29 = .ok (.ifCond .ne 14, 3) := by decide +kernel
theorem dX12_readAtomOf_32 : decode cX12_readAtomOf 32 = .ok (.aload_n 0, 1) := by decide +kernel
theorem dX12_readAtomOf_33 : decode cX12_readAtomOf 33 = .ok (.invokevirtual 885, 3) := by decide +kernel
theorem dX12_readAtomOf_36 : decode cX12_readAtomOf 36 = .ok (.ifCond .ne 7, 3) := by decide +kernel
theorem dX12_readAtomOf_39 : decode cX12_readAtomOf 39 = .ok (.aload_n 0, 1) := by decide +kernel
theorem dX12_readAtomOf_40 : decode cX12_readAtomOf 40 = .ok (.invokevirtual 664, 3) := by decide +kernel
theorem dX12_readAtomOf_43 : decode cX12_readAtomOf 43 = .ok (.aload_n 0, 1) := by decide +kernel
theorem dX12_readAtomOf_44 : decode cX12_readAtomOf 44 = .ok (.getfield 625, 3) := by decide +kernel
theorem dX12_readAtomOf_47 : decode cX12_readAtomOf 47 = .ok (.ifCond .ne 22, 3) := by decide +kernel
theorem dX12_readAtomOf_50 : decode cX12_readAtomOf 50 = .ok (.aload_n 0, 1) := by decide +kernel
theorem dX12_readAtomOf_51 : decode cX12_readAtomOf 51 = .ok (.getfield 336, 3) := by decide +kernel
theorem dX12_readAtomOf_54 : decode cX12_readAtomOf 54 = .ok (.iload_n 1, 1) := by decide +kernel
theorem dX12_readAtomOf_55 : decode cX12_readAtomOf 55 = .ok (.iaload, 1) := by decide +kernel
theorem dX12_readAtomOf_56 : decode cX12_readAtomOf 56 = .ok (.iconst 4, 1) := by decide +kernel
theorem dX12_readAtomOf_57 : decode cX12_readAtomOf 57 = .ok (.if_icmp .ne 12, 3) := by decide +kernel
theorem dX12_readAtomOf_60 : decode cX12_readAtomOf 60 = .ok (.aload_n 0, 1) := by decide +kernel
theorem dX12_readAtomOf_61 : decode cX12_readAtomOf 61 = .ok (.iconst 4, 1) := by decide +kernel
theorem dX12_readAtomOf_62 : decode cX12_readAtomOf 62 = .ok (.aload_n 0, 1) := by decide +kernel
theorem dX12_readAtomOf_63 : decode cX12_readAtomOf 63 = .ok (.getfield 637, 3) := by decide +kernel
theorem dX12_readAtomOf_66 : decode cX12_readAtomOf 66 = .ok (.invokevirtual 653, 3) := by decide +kernel
theorem dX12_readAtomOf_69 : decode cX12_readAtomOf 69 = .ok (.aload_n 0, 1) := by decide +kernel
theorem dX12_readAtomOf_70 : decode cX12_readAtomOf 70 = .ok (.getfield 625, 3) := by decide +kernel
theorem dX12_readAtomOf_73 : decode cX12_readAtomOf 73 = .ok (.ifCond .le 4, 3) := by decide +kernel
theorem dX12_readAtomOf_76 : decode cX12_readAtomOf 76 = .ok (.return_, 1) := by decide +kernel
theorem dX12_readAtomOf_77 : decode cX12_readAtomOf 77 = .ok (.iconst 4, 1) := by decide +kernel
theorem dX12_readAtomOf_78 : decode cX12_readAtomOf 78 = .ok (.iload_n 1, 1) := by decide +kernel
theorem dX12_readAtomOf_79 : decode cX12_readAtomOf 79 = .ok (.imul, 1) := by decide +kernel
theorem dX12_readAtomOf_80 : decode cX12_readAtomOf 80 = .ok (.aload_n 0, 1) := by decide +kernel
theorem dX12_readAtomOf_81 : decode cX12_readAtomOf 81 = .ok (.getfield 336, 3) := by decide +kernel
theorem dX12_readAtomOf_84 : decode cX12_readAtomOf 84 = .ok (.iload_n 1, 1) := by decide +kernel
theorem dX12_readAtomOf_85 : decode cX12_readAtomOf 85 = .ok (.iaload, 1) := by decide +kernel
theorem dX12_readAtomOf_86 : decode cX12_readAtomOf 86 = .ok (.iadd, 1) := by decide +kernel
theorem dX12_readAtomOf_87 : decode cX12_readAtomOf 87 = .ok (.istore_n 3, 1) := by decide +kernel
theorem dX12_readAtomOf_88 : decode cX12_readAtomOf 88 = .ok (.aload_n 0, 1) := by decide +kernel
theorem dX12_readAtomOf_89 : decode cX12_readAtomOf 89 = .ok (.getfield 336, 3) := by decide +kernel
theorem dX12_readAtomOf_92 : decode cX12_readAtomOf 92 = .ok (.iload_n 1, 1) := by decide +kernel
theorem dX12_readAtomOf_93 : decode cX12_readAtomOf 93 = .ok (.dup2, 1) := by decide +kernel
theorem dX12_readAtomOf_94 : decode cX12_readAtomOf 94 = .ok (.iaload, 1) := by decide +kernel
theorem dX12_readAtomOf_95 : decode cX12_readAtomOf 95 = .ok (.iconst 1, 1) := by decide +kernel
theorem dX12_readAtomOf_96 : decode cX12_readAtomOf 96 = .ok (.iadd, 1) := by decide +kernel
theorem dX12_readAtomOf_97 : decode cX12_readAtomOf 97 = .ok (.iastore, 1) := by decide +kernel
theorem dX12_readAtomOf_98 : decode cX12_readAtomOf 98 = .ok (.aload_n 0, 1) := by decide +kernel
theorem dX12_readAtomOf_99 : decode cX12_readAtomOf 99 = .ok (.getfield 637, 3) := by decide +kernel
theorem dX12_readAtomOf_102 : decode cX12_readAtomOf 102 = .ok (.istore 4, 2) := by decide +kernel
theorem dX12_readAtomOf_104 : decode cX12_readAtomOf 104 = .ok (.aload_n 0, 1) := by decide +kernel
theorem dX12_readAtomOf_105 : decode cX12_readAtomOf 105 = .ok (.getfield 348, 3) := by decide +kernel
theorem dX12_readAtomOf_108 : decode cX12_readAtomOf 108 = .ok (.iload_n 3, 1) := by decide +kernel
theorem dX12_readAtomOf_109 : decode cX12_readAtomOf 109 = .ok (.iconst (-1), 1) := by decide +kernel
theorem dX12_readAtomOf_110 : decode cX12_readAtomOf 110 = .ok (.iastore, 1) := by decide +kernel
theorem dX12_readAtomOf_111 : decode cX12_readAtomOf 111 = .ok (.iload_n 2, 1) := by decide +kernel
theorem dX12_readAtomOf_112 : decode cX12_readAtomOf 112 = .ok (.ifCond .eq 43, 3) := by decide +kernel
theorem dX12_readAtomOf_115 : decode cX12_readAtomOf 115 = .ok (.aload_n 0, 1) := by decide +kernel
theorem dX12_readAtomOf_116 : decode cX12_readAtomOf 116 = .ok (.invokevirtual 661, 3) := by decide +kernel
theorem dX12_readAtomOf_119 : decode cX12_readAtomOf 119 = .ok (.aload_n 0, 1) := by decide +kernel
theorem dX12_readAtomOf_120 : decode cX12_readAtomOf 120 = .ok (.getfield 339, 3) := by decide +kernel
theorem dX12_readAtomOf_123 : decode cX12_readAtomOf 123 = .ok (.iload_n 3, 1) := by decide +kernel
theorem dX12_readAtomOf_124 : decode cX12_readAtomOf 124 = .ok (.iconst 1, 1) := by decide +kernel
theorem dX12_readAtomOf_125 : decode cX12_readAtomOf 125 = .ok (.iastore, 1) := by decide +kernel
theorem dX12_readAtomOf_126 : decode cX12_readAtomOf 126 = .ok (.aload_n 0, 1) := by decide +kernel
theorem dX12_readAtomOf_127 : decode cX12_readAtomOf 127 = .ok (.iconst (-1), 1) := by decide +kernel
theorem dX12_readAtomOf_128 : decode cX12_readAtomOf 128 = .ok (.iload 4, 2) := by decide +kernel
theorem dX12_readAtomOf_130 : decode cX12_readAtomOf 130 = .ok (.iconst 1, 1) := by decide +kernel
theorem dX12_readAtomOf_131 : decode cX12_readAtomOf 131 = .ok (.invokevirtual 914, 3) := by decide +kernel
theorem dX12_readAtomOf_134 : decode cX12_readAtomOf 134 = .ok (.aload_n 0, 1) := by decide +kernel
theorem dX12_readAtomOf_135 : decode cX12_readAtomOf 135 = .ok (.getfield 345, 3) := by decide +kernel
theorem dX12_readAtomOf_138 : decode cX12_readAtomOf 138 = .ok (.iload_n 3, 1) := by decide +kernel
theorem dX12_readAtomOf_139 : decode cX12_readAtomOf 139 = .ok (.aload_n 0, 1) := by decide +kernel
theorem dX12_readAtomOf_140 : decode cX12_readAtomOf 140 = .ok (.getfield 894, 3) := by decide +kernel
theorem dX12_readAtomOf_143 : decode cX12_readAtomOf 143 = .ok (.iastore, 1) := by decide +kernel
theorem dX12_readAtomOf_144 : decode cX12_readAtomOf 144 = .ok (.aload_n 0, 1) := by decide +kernel
theorem dX12_readAtomOf_145 : decode cX12_readAtomOf 145 = .ok (.getfield 348, 3) := by decide +kernel
theorem dX12_readAtomOf_148 : decode cX12_readAtomOf 148 = .ok (.iload_n 3, 1) := by decide +kernel
theorem dX12_readAtomOf_149 : decode cX12_readAtomOf 149 = .ok (.aload_n 0, 1) := by decide +kernel
theorem dX12_readAtomOf_150 : decode cX12_readAtomOf 150 = .ok (.getfield 897, 3) := by decide +kernel
theorem dX12_readAtomOf_153 : decode cX12_readAtomOf 153 = .ok (.iastore, 1) := by decide +kernel
theorem dX12_readAtomOf_154 : decode cX12_readAtomOf 154 = .ok (.return_, 1) := by decide +kernel
theorem dX12_readAtomOf_155 : decode cX12_readAtomOf 155 = .ok (.aload_n 0, 1) := by decide +kernel
theorem dX12_readAtomOf_156 : decode cX12_readAtomOf 156 = .ok (.getfield 640, 3) := by decide +kernel
theorem dX12_readAtomOf_159 : decode cX12_readAtomOf 159 = .ok (.lstore 5, 2) := by decide +kernel
theorem dX12_readAtomOf_161 : decode cX12_readAtomOf 161 = .ok (.aload_n 0, 1) := by decide +kernel
theorem dX12_readAtomOf_162 : decode cX12_readAtomOf 162 = .ok (.getfield 631, 3) := by decide +kernel
theorem dX12_readAtomOf_165 : decode cX12_readAtomOf 165 = .ok (.istore 7, 2) := by decide +kernel
theorem dX12_readAtomOf_167 : decode cX12_readAtomOf 167 = .ok (.aload_n 0, 1) := by decide +kernel
theorem dX12_readAtomOf_168 : decode cX12_readAtomOf 168 = .ok (.invokevirtual 661, 3) := by decide +kernel
theorem dX12_readAtomOf_171 : decode cX12_readAtomOf 171 = .ok (.aload_n 0, 1) := by decide +kernel
theorem dX12_readAtomOf_172 : decode cX12_readAtomOf 172 = .ok (.ldc2_w 754, 3) := by decide +kernel
theorem dX12_readAtomOf_175 : decode cX12_readAtomOf 175 = .ok (.invokevirtual 657, 3) := by decide +kernel
theorem dX12_readAtomOf_178 : decode cX12_readAtomOf 178 = .ok (.ifCond .eq 15, 3) := by decide +kernel
theorem dX12_readAtomOf_181 : decode cX12_readAtomOf 181 = .ok (.aload_n 0, 1) := by decide +kernel
theorem dX12_readAtomOf_182 : decode cX12_readAtomOf 182 = .ok (.iload_n 3, 1) := by decide +kernel
theorem dX12_readAtomOf_183 : decode cX12_readAtomOf 183 = .ok (.lload 5, 2) := by decide +kernel
theorem dX12_readAtomOf_185 : decode cX12_readAtomOf 185 = .ok (.iload 4, 2) := by decide +kernel
theorem dX12_readAtomOf_187 : decode cX12_readAtomOf 187 = .ok (.invokevirtual 926, 3) := by decide +kernel
theorem dX12_readAtomOf_190 : decode cX12_readAtomOf 190 = .ok (.goto 145, 3) := by decide +kernel
theorem dX12_readAtomOf_193 : decode cX12_readAtomOf 193 = .ok (.aload_n 0, 1) := by decide +kernel
theorem dX12_readAtomOf_194 : decode cX12_readAtomOf 194 = .ok (.ldc2_w 774, 3) := by decide +kernel
theorem dX12_readAtomOf_197 : decode cX12_readAtomOf 197 = .ok (.invokevirtual 657, 3) := by decide +kernel
theorem dX12_readAtomOf_200 : decode cX12_readAtomOf 200 = .ok (.ifCond .eq 35, 3) := by decide +kernel
theorem dX12_readAtomOf_203 : decode cX12_readAtomOf 203 = .ok (.aload_n 0, 1) := by decide +kernel
theorem dX12_readAtomOf_204 : decode cX12_readAtomOf 204 = .ok (.getfield 339, 3) := by decide +kernel
theorem dX12_readAtomOf_207 : decode cX12_readAtomOf 207 = .ok (.iload_n 3, 1) := by decide +kernel
theorem dX12_readAtomOf_208 : decode cX12_readAtomOf 208 = .ok (.iconst 2, 1) := by decide +kernel
theorem dX12_readAtomOf_209 : decode cX12_readAtomOf 209 = .ok (.iastore, 1) := by decide +kernel
theorem dX12_readAtomOf_210 : decode cX12_readAtomOf 210 = .ok (.aload_n 0, 1) := by decide +kernel
theorem dX12_readAtomOf_211 : decode cX12_readAtomOf 211 = .ok (.getfield 321, 3) := by decide +kernel
theorem dX12_readAtomOf_214 : decode cX12_readAtomOf 214 = .ok (.iload_n 3, 1) := by decide +kernel
theorem dX12_readAtomOf_215 : decode cX12_readAtomOf 215 = .ok (.lload 5, 2) := by decide +kernel
theorem dX12_readAtomOf_217 : decode cX12_readAtomOf 217 = .ok (.lastore, 1) := by decide +kernel
theorem dX12_readAtomOf_218 : decode cX12_readAtomOf 218 = .ok (.aload_n 0, 1) := by decide +kernel
theorem dX12_readAtomOf_219 : decode cX12_readAtomOf 219 = .ok (.invokevirtual 661, 3) := by decide +kernel
theorem dX12_readAtomOf_222 : decode cX12_readAtomOf 222 = .ok (.aload_n 0, 1) := by decide +kernel
theorem dX12_readAtomOf_223 : decode cX12_readAtomOf 223 = .ok (.getfield 345, 3) := by decide +kernel
theorem dX12_readAtomOf_226 : decode cX12_readAtomOf 226 = .ok (.iload_n 3, 1) := by decide +kernel
theorem dX12_readAtomOf_227 : decode cX12_readAtomOf 227 = .ok (.aload_n 0, 1) := by decide +kernel
theorem dX12_readAtomOf_228 : decode cX12_readAtomOf 228 = .ok (.invokevirtual 891, 3) := by decide +kernel
theorem dX12_readAtomOf_231 : decode cX12_readAtomOf 231 = .ok (.iastore, 1) := by decide +kernel
theorem dX12_readAtomOf_232 : decode cX12_readAtomOf 232 = .ok (.goto 103, 3) := by decide +kernel
theorem dX12_readAtomOf_235 : decode cX12_readAtomOf 235 = .ok (.aload_n 0, 1) := by decide +kernel
theorem dX12_readAtomOf_236 : decode cX12_readAtomOf 236 = .ok (.ldc2_w 692, 3) := by decide +kernel
theorem dX12_readAtomOf_239 : decode cX12_readAtomOf 239 = .ok (.invokevirtual 657, 3) := by decide +kernel
theorem dX12_readAtomOf_242 : decode cX12_readAtomOf 242 = .ok (.ifCond .ne 13, 3) := by decide +kernel
theorem dX12_readAtomOf_245 : decode cX12_readAtomOf 245 = .ok (.aload_n 0, 1) := by decide +kernel
theorem dX12_readAtomOf_246 : decode cX12_readAtomOf 246 = .ok (.ldc2_w 694, 3) := by decide +kernel
theorem dX12_readAtomOf_249 : decode cX12_readAtomOf 249 = .ok (.invokevirtual 657, 3) := by decide +kernel
theorem dX12_readAtomOf_252 : decode cX12_readAtomOf 252 = .ok (.ifCond .eq 79, 3) := by decide +kernel
theorem dX12_readAtomOf_255 : decode cX12_readAtomOf 255 = .ok (.aload_n 0, 1) := by decide +kernel
theorem dX12_readAtomOf_256 : decode cX12_readAtomOf 256 = .ok (.getfield 339, 3) := by decide +kernel
theorem dX12_readAtomOf_259 : decode cX12_readAtomOf 259 = .ok (.iload_n 3, 1) := by decide +kernel
theorem dX12_readAtomOf_260 : decode cX12_readAtomOf 260 = .ok (.aload_n 0, 1) := by decide +kernel
theorem dX12_readAtomOf_261 : decode cX12_readAtomOf 261 = .ok (.ldc2_w 692, 3) := by decide +kernel
theorem dX12_readAtomOf_264 : decode cX12_readAtomOf 264 = .ok (.invokevirtual 657, 3) := by decide +kernel
theorem dX12_readAtomOf_267 : decode cX12_readAtomOf 267 = .ok (.ifCond .eq 7, 3) := by decide +kernel
theorem dX12_readAtomOf_270 : decode cX12_readAtomOf 270 = .ok (.iconst 3, 1) := by decide +kernel
theorem dX12_readAtomOf_271 : decode cX12_readAtomOf 271 = .ok (.goto 4, 3) := by decide +kernel
theorem dX12_readAtomOf_274 : decode cX12_readAtomOf 274 = .ok (.iconst 4, 1) := by decide +kernel
theorem dX12_readAtomOf_275 : decode cX12_readAtomOf 275 = .ok (.iastore, 1) := by decide +kernel
theorem dX12_readAtomOf_276 : decode cX12_readAtomOf 276 = .ok (.aload_n 0, 1) := by decide +kernel
theorem dX12_readAtomOf_277 : decode cX12_readAtomOf 277 = .ok (.iload 4, 2) := by decide +kernel
theorem dX12_readAtomOf_279 : decode cX12_readAtomOf 279 = .ok (.putfield 631, 3) := by decide +kernel
theorem dX12_readAtomOf_282 : decode cX12_readAtomOf 282 = .ok (.aload_n 0, 1) := by decide +kernel
theorem dX12_readAtomOf_283 : decode cX12_readAtomOf 283 = .ok (.invokevirtual 661, 3) := by decide +kernel
theorem dX12_readAtomOf_286 : decode cX12_readAtomOf 286 = .ok (.aload_n 0, 1) := by decide +kernel
theorem dX12_readAtomOf_287 : decode cX12_readAtomOf 287 = .ok (.getfield 345, 3) := by decide +kernel
theorem dX12_readAtomOf_290 : decode cX12_readAtomOf 290 = .ok (.iload_n 3, 1) := by decide +kernel
theorem dX12_readAtomOf_291 : decode cX12_readAtomOf 291 = .ok (.aload_n 0, 1) := by decide +kernel
theorem dX12_readAtomOf_292 : decode cX12_readAtomOf 292 = .ok (.invokevirtual 891, 3) := by decide +kernel
theorem dX12_readAtomOf_295 : decode cX12_readAtomOf 295 = .ok (.iastore, 1) := by decide +kernel
theorem dX12_readAtomOf_296 : decode cX12_readAtomOf 296 = .ok (.aload_n 0, 1) := by decide +kernel
theorem dX12_readAtomOf_297 : decode cX12_readAtomOf 297 = .ok (.getfield 625, 3) := by decide +kernel
theorem dX12_readAtomOf_300 : decode cX12_readAtomOf 300 = .ok (.ifCond .ne 7, 3) := by decide +kernel
theorem dX12_readAtomOf_303 : decode cX12_readAtomOf 303 = .ok (.aload_n 0, 1) := by decide +kernel
theorem dX12_readAtomOf_304 : decode cX12_readAtomOf 304 = .ok (.invokevirtual 661, 3) := by decide +kernel
theorem dX12_readAtomOf_307 : decode cX12_readAtomOf 307 = .ok (.aload_n 0, 1) := by decide +kernel
theorem dX12_readAtomOf_308 : decode cX12_readAtomOf 308 = .ok (.getfield 348, 3) := by decide +kernel
theorem dX12_readAtomOf_311 : decode cX12_readAtomOf 311 = .ok (.iload_n 3, 1) := by decide +kernel
theorem dX12_readAtomOf_312 : decode cX12_readAtomOf 312 = .ok (.aload_n 0, 1) := by decide +kernel
theorem dX12_readAtomOf_313 : decode cX12_readAtomOf 313 = .ok (.getfield 625, 3) := by decide +kernel
theorem dX12_readAtomOf_316 : decode cX12_readAtomOf 316 = .ok (.ifCond .ne 10, 3) := by decide +kernel
theorem dX12_readAtomOf_319 : decode cX12_readAtomOf 319 = .ok (.aload_n 0, 1) := by decide +kernel
theorem dX12_readAtomOf_320 : decode cX12_readAtomOf 320 = .ok (.invokevirtual 891, 3) := by decide +kernel
theorem dX12_readAtomOf_323 : decode cX12_readAtomOf 323 = .ok (.goto 4, 3) := by decide +kernel
theorem dX12_readAtomOf_326 : decode cX12_readAtomOf 326 = .ok (.iconst (-1), 1) := by decide +kernel
theorem dX12_readAtomOf_327 : decode cX12_readAtomOf 327 = .ok (.iastore, 1) := by decide +kernel
theorem dX12_readAtomOf_328 : decode cX12_readAtomOf 328 = .ok (.goto 7, 3) := by decide +kernel
theorem dX12_readAtomOf_331 : decode cX12_readAtomOf 331 = .ok (.aload_n 0, 1) := by decide +kernel
theorem dX12_readAtomOf_332 : decode cX12_readAtomOf 332 = .ok (.invokevirtual 664, 3) := by decide +kernel
theorem dX12_readAtomOf_335 : decode cX12_readAtomOf 335 = .ok (.return_, 1) := by decide +kernel
theorem dX12_readCompared_0 : decode cX12_readCompared 0 = .ok (.aload_n 0, 1) := by decide +kernel
theorem dX12_readCompared_1 : decode cX12_readCompared 1 = .ok (.invokevirtual 704, 3) := by decide +kernel
theorem dX12_readCompared_4 : decode cX12_readCompared 4 = .ok (.istore_n 1, 1) := by decide +kernel
theorem dX12_readCompared_5 : decode cX12_readCompared 5 = .ok (.aload_n 0, 1) := by decide +kernel
theorem dX12_readCompared_6 : decode cX12_readCompared 6 = .ok (.getfield 625, 3) := by decide +kernel
theorem dX12_readCompared_9 : decode cX12_readCompared 9 = .ok (.ifCond .le 5, 3) := by decide +kernel
theorem dX12_readCompared_12 : decode cX12_readCompared 12 = .ok (.iload_n 1, 1) := by decide +kernel
theorem dX12_readCompared_13 : decode cX12_readCompared 13 = .ok (.ireturn, 1) := by decide +kernel
theorem dX12_readCompared_14 : decode cX12_readCompared 14 = .ok (.aload_n 0, 1) := by decide +kernel
theorem dX12_readCompared_15 : decode cX12_readCompared 15 = .ok (.invokevirtual 707, 3) := by decide +kernel
theorem dX12_readCompared_18 : decode cX12_readCompared 18 = .ok (.istore_n 2, 1) := by decide +kernel
