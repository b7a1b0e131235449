theorem dX12_walkRoots_14 : decode cX12_walkRoots 14 = .ok (.aload_n 0, 1) := by decide +kernel
theorem dX12_walkRoots_15 : decode cX12_walkRoots 15 = .ok (.aload_n 0, 1) := by decide +kernel
theorem dX12_walkRoots_16 : decode cX12_walkRoots 16 = .ok (.getfield 141, 3) := by decide +kernel
theorem dX12_walkRoots_19 : decode cX12_walkRoots 19 = .ok (.iload_n 1, 1) := by decide +kernel
theorem dX12_walkRoots_20 : decode cX12_walkRoots 20 = .ok (.iaload, 1) := by decide +kernel
theorem dX12_walkRoots_21 : decode cX12_walkRoots 21 = .ok (.i2l, 1) := by decide +kernel
theorem dX12_walkRoots_22 : decode cX12_walkRoots 22 = .ok (.invokevirtual 528, 3) := by decide +kernel
theorem dX12_walkRoots_25 : decode cX12_walkRoots 25 = .ok (.iinc 1 1, 3) := by decide +kernel
theorem dX12_walkRoots_28 : decode cX12_walkRoots 28 = .ok (.goto (-22), 3) := by decide +kernel
theorem dX12_walkRoots_31 : decode cX12_walkRoots 31 = .ok (.iconst 0, 1) := by decide +kernel
theorem dX12_walkRoots_32 : decode cX12_walkRoots 32 = .ok (.istore_n 1, 1) := by decide +kernel
theorem dX12_walkRoots_33 : decode cX12_walkRoots 33 = .ok (.iload_n 1, 1) := by decide +kernel
theorem dX12_walkRoots_34 : decode cX12_walkRoots 34 = .ok (.bipush 6, 2) := by decide +kernel
theorem dX12_walkRoots_36 : decode cX12_walkRoots 36 = .ok (.aload_n 0, 1) := by decide +kernel
theorem dX12_walkRoots_37 : decode cX12_walkRoots 37 = .ok (.getfield 413, 3) := by decide +kernel
theorem dX12_walkRoots_40 : decode cX12_walkRoots 40 = .ok (.imul, 1) := by decide +kernel
theorem dX12_walkRoots_41 : decode cX12_walkRoots 41 = .ok (.if_icmp .ge 27, 3) := by decide +kernel
theorem dX12_walkRoots_44 : decode cX12_walkRoots 44 = .ok (.aload_n 0, 1) := by decide +kernel
theorem dX12_walkRoots_45 : decode cX12_walkRoots 45 = .ok (.iload_n 1, 1) := by decide +kernel
theorem dX12_walkRoots_46 : decode cX12_walkRoots 46 = .ok (.invokevirtual 519, 3) := by decide +kernel
theorem dX12_walkRoots_49 : decode cX12_walkRoots 49 = .ok (.ifCond .eq 13, 3) := by decide +kernel
theorem dX12_walkRoots_52 : decode cX12_walkRoots 52 = .ok (.aload_n 0, 1) := by decide +kernel
theorem dX12_walkRoots_53 : decode cX12_walkRoots 53 = .ok (.aload_n 0, 1) := by decide +kernel
theorem dX12_walkRoots_54 : decode cX12_walkRoots 54 = .ok (.getfield 84, 3) := by decide +kernel
theorem dX12_walkRoots_57 : decode cX12_walkRoots 57 = .ok (.iload_n 1, 1) := by decide +kernel
theorem dX12_walkRoots_58 : decode cX12_walkRoots 58 = .ok (.laload, 1) := by decide +kernel
theorem dX12_walkRoots_59 : decode cX12_walkRoots 59 = .ok (.invokevirtual 528, 3) := by decide +kernel
theorem dX12_walkRoots_62 : decode cX12_walkRoots 62 = .ok (.iinc 1 1, 3) := by decide +kernel
theorem dX12_walkRoots_65 : decode cX12_walkRoots 65 = .ok (.goto (-32), 3) := by decide +kernel
theorem dX12_walkRoots_68 : decode cX12_walkRoots 68 = .ok (.iconst 0, 1) := by decide +kernel
theorem dX12_walkRoots_69 : decode cX12_walkRoots 69 = .ok (.istore_n 1, 1) := by decide +kernel
theorem dX12_walkRoots_70 : decode cX12_walkRoots 70 = .ok (.iload_n 1, 1) := by decide +kernel
theorem dX12_walkRoots_71 : decode cX12_walkRoots 71 = .ok (.aload_n 0, 1) := by decide +kernel
theorem dX12_walkRoots_72 : decode cX12_walkRoots 72 = .ok (.getfield 522, 3) := by decide +kernel
theorem dX12_walkRoots_75 : decode cX12_walkRoots 75 = .ok (.if_icmp .ge 20, 3) := by decide +kernel
theorem dX12_walkRoots_78 : decode cX12_walkRoots 78 = .ok (.aload_n 0, 1) := by decide +kernel
theorem dX12_walkRoots_79 : decode cX12_walkRoots 79 = .ok (.aload_n 0, 1) := by decide +kernel
theorem dX12_walkRoots_80 : decode cX12_walkRoots 80 = .ok (.getfield 177, 3) := by decide +kernel
theorem dX12_walkRoots_83 : decode cX12_walkRoots 83 = .ok (.iload_n 1, 1) := by decide +kernel
theorem dX12_walkRoots_84 : decode cX12_walkRoots 84 = .ok (.iaload, 1) := by decide +kernel
theorem dX12_walkRoots_85 : decode cX12_walkRoots 85 = .ok (.iconst 0, 1) := by decide +kernel
theorem dX12_walkRoots_86 : decode cX12_walkRoots 86 = .ok (.invokevirtual 535, 3) := by decide +kernel
theorem dX12_walkRoots_89 : decode cX12_walkRoots 89 = .ok (.iinc 1 1, 3) := by decide +kernel
theorem dX12_walkRoots_92 : decode cX12_walkRoots 92 = .ok (.goto (-22), 3) := by decide +kernel
theorem dX12_walkRoots_95 : decode cX12_walkRoots 95 = .ok (.return_, 1) := by decide +kernel
theorem dX12_watch_0 : decode cX12_watch 0 = .ok (.aload_n 0, 1) := by decide +kernel
theorem dX12_watch_1 : decode cX12_watch 1 = .ok (.aload_n 0, 1) := by decide +kernel
theorem dX12_watch_2 : decode cX12_watch 2 = .ok (.iload_n 1, 1) := by decide +kernel
theorem dX12_watch_3 : decode cX12_watch 3 = .ok (.invokevirtual 416, 3) := by decide +kernel
theorem dX12_watch_6 : decode cX12_watch 6 = .ok (.ifCond .eq 17, 3) := by decide +kernel
theorem dX12_watch_9 : decode cX12_watch 9 = .ok (.iload_n 2, 1) := by decide +kernel
theorem dX12_watch_10 : decode cX12_watch 10 = .ok (.ifCond .lt 13, 3) := by decide +kernel
theorem dX12_watch_13 : decode cX12_watch 13 = .ok (.iload_n 2, 1) := by decide +kernel
theorem dX12_watch_14 : decode cX12_watch 14 = .ok (.aload_n 0, 1) := by decide +kernel
theorem dX12_watch_15 : decode cX12_watch 15 = .ok (.getfield 94, 3) := by decide +kernel
theorem dX12_watch_18 : decode cX12_watch 18 = .ok (.iload_n 1, 1) := by decide +kernel
theorem dX12_watch_19 : decode cX12_watch 19 = .ok (.iaload, 1) := by decide +kernel
theorem dX12_watch_20 : decode cX12_watch 20 = .ok (.if_icmp .lt 7, 3) := by decide +kernel
theorem dX12_watch_23 : decode cX12_watch 23 = .ok (.iconst 1, 1) := by decide +kernel
theorem dX12_watch_24 : decode cX12_watch 24 = .ok (.goto 30, 3) := by decide +kernel
theorem dX12_watch_27 : decode cX12_watch 27 = .ok (.iload_n 3, 1) := by decide +kernel
theorem dX12_watch_28 : decode cX12_watch 28 = .ok (.ifCond .lt 8, 3) := by decide +kernel
theorem dX12_watch_31 : decode cX12_watch 31 = .ok (.iload_n 3, 1) := by decide +kernel
theorem dX12_watch_32 : decode cX12_watch 32 = .ok (.iconst 3, 1) := by decide +kernel
theorem dX12_watch_33 : decode cX12_watch 33 = .ok (.if_icmp .le 7, 3) := by decide +kernel
theorem dX12_watch_36 : decode cX12_watch 36 = .ok (.iconst 2, 1) := by decide +kernel
theorem dX12_watch_37 : decode cX12_watch 37 = .ok (.goto 17, 3) := by decide +kernel
theorem dX12_watch_40 : decode cX12_watch 40 = .ok (.aload_n 0, 1) := by decide +kernel
theorem dX12_watch_41 : decode cX12_watch 41 = .ok (.getfield 485, 3) := by decide +kernel
theorem dX12_watch_44 : decode cX12_watch 44 = .ok (.bipush 6, 2) := by decide +kernel
theorem dX12_watch_46 : decode cX12_watch 46 = .ok (.if_icmp .ne 7, 3) := by decide +kernel
theorem dX12_watch_49 : decode cX12_watch 49 = .ok (.iconst 3, 1) := by decide +kernel
theorem dX12_watch_50 : decode cX12_watch 50 = .ok (.goto 4, 3) := by decide +kernel
theorem dX12_watch_53 : decode cX12_watch 53 = .ok (.iconst 0, 1) := by decide +kernel
theorem dX12_watch_54 : decode cX12_watch 54 = .ok (.putfield 388, 3) := by decide +kernel
theorem dX12_watch_57 : decode cX12_watch 57 = .ok (.aload_n 0, 1) := by decide +kernel
theorem dX12_watch_58 : decode cX12_watch 58 = .ok (.getfield 388, 3) := by decide +kernel
theorem dX12_watch_61 : decode cX12_watch 61 = .ok (.ifCond .le 5, 3) := by decide +kernel
theorem dX12_watch_64 : decode cX12_watch 64 = .ok (.iconst 0, 1) := by decide +kernel
theorem dX12_watch_65 : decode cX12_watch 65 = .ok (.ireturn, 1) := by decide +kernel
theorem dX12_watch_66 : decode cX12_watch 66 = .ok (.aload_n 0, 1) := by decide +kernel
theorem dX12_watch_67 : decode cX12_watch 67 = .ok (.getfield 156, 3) := by decide +kernel
theorem dX12_watch_70 : decode cX12_watch 70 = .ok (.aload_n 0, 1) := by decide +kernel
theorem dX12_watch_71 : decode cX12_watch 71 = .ok (.getfield 485, 3) := by decide +kernel
theorem dX12_watch_74 : decode cX12_watch 74 = .ok (.bipush 6, 2) := by decide +kernel
theorem dX12_watch_76 : decode cX12_watch 76 = .ok (.iload_n 1, 1) := by decide +kernel
theorem dX12_watch_77 : decode cX12_watch 77 = .ok (.imul, 1) := by decide +kernel
theorem dX12_watch_78 : decode cX12_watch 78 = .ok (.iload_n 2, 1) := by decide +kernel
theorem dX12_watch_79 : decode cX12_watch 79 = .ok (.iadd, 1) := by decide +kernel
theorem dX12_watch_80 : decode cX12_watch 80 = .ok (.iastore, 1) := by decide +kernel
theorem dX12_watch_81 : decode cX12_watch 81 = .ok (.aload_n 0, 1) := by decide +kernel
theorem dX12_watch_82 : decode cX12_watch 82 = .ok (.getfield 159, 3) := by decide +kernel
theorem dX12_watch_85 : decode cX12_watch 85 = .ok (.aload_n 0, 1) := by decide +kernel
theorem dX12_watch_86 : decode cX12_watch 86 = .ok (.getfield 485, 3) := by decide +kernel
theorem dX12_watch_89 : decode cX12_watch 89 = .ok (.iload_n 3, 1) := by decide +kernel
theorem dX12_watch_90 : decode cX12_watch 90 = .ok (.iastore, 1) := by decide +kernel
theorem dX12_watch_91 : decode cX12_watch 91 = .ok (.aload_n 0, 1) := by decide +kernel
theorem dX12_watch_92 : decode cX12_watch 92 = .ok (.getfield 162, 3) := by decide +kernel
theorem dX12_watch_95 : decode cX12_watch 95 = .ok (.aload_n 0, 1) := by decide +kernel
theorem dX12_watch_96 : decode cX12_watch 96 = .ok (.getfield 485, 3) := by decide +kernel
theorem dX12_watch_99 : decode cX12_watch 99 = .ok (.iconst 0, 1) := by decide +kernel
theorem dX12_watch_100 : decode cX12_watch 100 = .ok (.iastore, 1) := by decide +kernel
theorem dX12_watch_101 : decode cX12_watch 101 = .ok (.aload_n 0, 1) := by decide +kernel
theorem dX12_watch_102 : decode cX12_watch 102 = .ok (.dup, 1) := by decide +kernel
theorem dX12_watch_103 : decode cX12_watch 103 = .ok (.getfield 485, 3) := by decide +kernel
theorem dX12_watch_106 : decode cX12_watch 106 = .ok (.iconst 1, 1) := by decide +kernel
theorem dX12_watch_107 : decode cX12_watch 107 = .ok (.iadd, 1) := by decide +kernel
theorem dX12_watch_108 : decode cX12_watch 108 = .ok (.putfield 485, 3) := by decide +kernel
theorem dX12_watch_111 : decode cX12_watch 111 = .ok (.aload_n 0, 1) := by decide +kernel
theorem dX12_watch_112 : decode cX12_watch 112 = .ok (.getfield 485, 3) := by decide +kernel
theorem dX12_watch_115 : decode cX12_watch 115 = .ok (.iconst 1, 1) := by decide +kernel
theorem dX12_watch_116 : decode cX12_watch 116 = .ok (.isub, 1) := by decide +kernel
theorem dX12_watch_117 : decode cX12_watch 117 = .ok (.ireturn, 1) := by decide +kernel
theorem dX12_width_0 : decode cX12_width 0 = .ok (.iload_n 0, 1) := by decide +kernel
theorem dX12_width_1 : decode cX12_width 1 = .ok (.iconst 2, 1) := by decide +kernel
theorem dX12_width_2 : decode cX12_width 2 = .ok (.if_icmp .ge 7, 3) := by decide +kernel
theorem dX12_width_5 : decode cX12_width 5 = .ok (.iconst 1, 1) := by decide +kernel
theorem dX12_width_6 : decode cX12_width 6 = .ok (.goto 23, 3) := by decide +kernel
theorem dX12_width_9 : decode cX12_width 9 = .ok (.iload_n 0, 1) := by decide +kernel
theorem dX12_width_10 : decode cX12_width 10 = .ok (.iconst 2, 1) := by decide +kernel
theorem dX12_width_11 : decode cX12_width 11 = .ok (.if_icmp .ne 7, 3) := by decide +kernel
theorem dX12_width_14 : decode cX12_width 14 = .ok (.iconst 2, 1) := by decide +kernel
theorem dX12_width_15 : decode cX12_width 15 = .ok (.goto 14, 3) := by decide +kernel
theorem dX12_width_18 : decode cX12_width 18 = .ok (.iload_n 0, 1) := by decide +kernel
theorem dX12_width_19 : decode cX12_width 19 = .ok (.iconst 4, 1) := by decide +kernel
theorem dX12_width_20 : decode cX12_width 20 = .ok (.if_icmp .ne 8, 3) := by decide +kernel
theorem dX12_width_23 : decode cX12_width 23 = .ok (.bipush 8, 2) := by decide +kernel
theorem dX12_width_25 : decode cX12_width 25 = .ok (.goto 4, 3) := by decide +kernel
theorem dX12_width_28 : decode cX12_width 28 = .ok (.iconst 4, 1) := by decide +kernel
theorem dX12_width_29 : decode cX12_width 29 = .ok (.ireturn, 1) := by decide +kernel
theorem dX12_wipe_0 : decode cX12_wipe 0 = .ok (.aload_n 0, 1) := by decide +kernel
theorem dX12_wipe_1 : decode cX12_wipe 1 = .ok (.iconst 0, 1) := by decide +kernel
theorem dX12_wipe_2 : decode cX12_wipe 2 = .ok (.putfield 388, 3) := by decide +kernel
theorem dX12_wipe_5 : decode cX12_wipe 5 = .ok (.aload_n 0, 1) := by decide +kernel
theorem dX12_wipe_6 : decode cX12_wipe 6 = .ok (.iconst 0, 1) := by decide +kernel
theorem dX12_wipe_7 : decode cX12_wipe 7 = .ok (.putfield 391, 3) := by decide +kernel
theorem dX12_wipe_10 : decode cX12_wipe 10 = .ok (.return_, 1) := by decide +kernel
theorem dX12_work_0 : decode cX12_work 0 = .ok (.aload_n 0, 1) := by decide +kernel
theorem dX12_work_1 : decode cX12_work 1 = .ok (.getfield 782, 3) := by decide +kernel
theorem dX12_work_4 : decode cX12_work 4 = .ok (.ifCond .ne 7, 3) := by decide +kernel
theorem dX12_work_7 : decode cX12_work 7 = .ok (.aload_n 0, 1) := by decide +kernel
theorem dX12_work_8 : decode cX12_work 8 = .ok (.invokevirtual 795, 3) := by decide +kernel
theorem dX12_work_11 : decode cX12_work 11 = .ok (.aload_n 0, 1) := by decide +kernel
theorem dX12_work_12 : decode cX12_work 12 = .ok (.getfield 782, 3) := by decide +kernel
theorem dX12_work_15 : decode cX12_work 15 = .ok (.ifCond .eq 8, 3) := by decide +kernel
theorem dX12_work_18 : decode cX12_work 18 = .ok (.aload_n 0, 1) := by decide +kernel
theorem dX12_work_19 : decode cX12_work 19 = .ok (.invokevirtual 798, 3) := by decide +kernel
theorem dX12_work_22 : decode cX12_work 22 = .ok (.return_, 1) := by decide +kernel
theorem dX12_work_23 : decode cX12_work 23 = .ok (.aload_n 0, 1) := by decide +kernel
theorem dX12_work_24 : decode cX12_work 24 = .ok (.getfield 272, 3) := by decide +kernel
theorem dX12_work_27 : decode cX12_work 27 = .ok (.iload_n 1, 1) := by decide +kernel
theorem dX12_work_28 : decode cX12_work 28 = .ok (.iaload, 1) := by decide +kernel
theorem dX12_work_29 : decode cX12_work 29 = .ok (.istore_n 2, 1) := by decide +kernel
theorem dX12_work_30 : decode cX12_work 30 = .ok (.iload_n 2, 1) := by decide +kernel
theorem dX12_work_31 : decode cX12_work 31 = .ok (.bipush 13, 2) := by decide +kernel
theorem dX12_work_33 : decode cX12_work 33 = .ok (.if_icmp .lt 17, 3) := by decide +kernel
theorem dX12_work_36 : decode cX12_work 36 = .ok (.iload_n 2, 1) := by decide +kernel
theorem dX12_work_37 : decode cX12_work 37 = .ok (.bipush 18, 2) := by decide +kernel
theorem dX12_work_39 : decode cX12_work 39 = .ok (.if_icmp .gt 11, 3) := by decide +kernel
theorem dX12_work_42 : decode cX12_work 42 = .ok (.aload_n 0, 1) := by decide +kernel
theorem dX12_work_43 : decode cX12_work 43 = .ok (.iload_n 1, 1) := by decide +kernel
theorem dX12_work_44 : decode cX12_work 44 = .ok (.invokevirtual 801, 3) := by decide +kernel
theorem dX12_work_47 : decode cX12_work 47 = .ok (.goto 196, 3) := by decide +kernel
theorem dX12_work_50 : decode cX12_work 50 = .ok (.iload_n 2, 1) := by decide +kernel
theorem dX12_work_51 : decode cX12_work 51 = .ok (.iconst 5, 1) := by decide +kernel
theorem dX12_work_52 : decode cX12_work 52 = .ok (.if_icmp .eq 9, 3) := by decide +kernel
theorem dX12_work_55 : decode cX12_work 55 = .ok (.iload_n 2, 1) := by decide +kernel
theorem dX12_work_56 : decode cX12_work 56 = .ok (.bipush 6, 2) := by decide +kernel
theorem dX12_work_58 : decode cX12_work 58 = .ok (.if_icmp .ne 22, 3) := by decide +kernel
theorem dX12_work_61 : decode cX12_work 61 = .ok (.aload_n 0, 1) := by decide +kernel
theorem dX12_work_62 : decode cX12_work 62 = .ok (.iload_n 1, 1) := by decide +kernel
theorem dX12_work_63 : decode cX12_work 63 = .ok (.iload_n 2, 1) := by decide +kernel
theorem dX12_work_64 : decode cX12_work 64 = .ok (.bipush 6, 2) := by decide +kernel
theorem dX12_work_66 : decode cX12_work 66 = .ok (.if_icmp .ne 7, 3) := by decide +kernel
theorem dX12_work_69 : decode cX12_work 69 = .ok (.iconst 1, 1) := by decide +kernel
theorem dX12_work_70 : decode cX12_work 70 = .ok (.goto 4, 3) := by decide +kernel
theorem dX12_work_73 : decode cX12_work 73 = .ok (.iconst 0, 1) := by decide +kernel
theorem dX12_work_74 : decode cX12_work 74 = .ok (.invokevirtual 804, 3) := by decide +kernel
theorem dX12_work_77 : decode cX12_work 77 = .ok (.goto 166, 3) := by decide +kernel
theorem dX12_work_80 : decode cX12_work 80 = .ok (.iload_n 2, 1) := by decide +kernel
theorem dX12_work_81 : decode cX12_work 81 = .ok (.bipush 102, 2) := by decide +kernel
theorem dX12_work_83 : decode cX12_work 83 = .ok (.if_icmp .lt 17, 3) := by decide +kernel
theorem dX12_work_86 : decode cX12_work 86 = .ok (.iload_n 2, 1) := by decide +kernel
theorem dX12_work_87 : decode cX12_work 87 = .ok (.bipush 112, 2) := by decide +kernel
theorem dX12_work_89 : decode cX12_work 89 = .ok (.if_icmp .gt 11, 3) := by decide +kernel
theorem dX12_work_92 : decode cX12_work 92 = .ok (.aload_n 0, 1) := by decide +kernel
theorem dX12_work_93 : decode cX12_work 93 = .ok (.iload_n 1, 1) := by decide +kernel
theorem dX12_work_94 : decode cX12_work 94 = .ok (.invokevirtual 807, 3) := by decide +kernel
theorem dX12_work_97 : decode cX12_work 97 = .ok (.goto 146, 3) := by decide +kernel
theorem dX12_work_100 : decode cX12_work 100 = .ok (.iload_n 2, 1) := by decide +kernel
theorem dX12_work_101 : decode cX12_work 101 = .ok (.bipush 100, 2) := by decide +kernel
theorem dX12_work_103 : decode cX12_work 103 = .ok (.if_icmp .ne 17, 3) := by decide +kernel
theorem dX12_work_106 : decode cX12_work 106 = .ok (.aload_n 0, 1) := by decide +kernel
theorem dX12_work_107 : decode cX12_work 107 = .ok (.iconst 0, 1) := by decide +kernel
theorem dX12_work_108 : decode cX12_work 108 = .ok (.aload_n 0, 1) := by decide +kernel
theorem dX12_work_109 : decode cX12_work 109 = .ok (.getfield 284, 3) := by decide +kernel
theorem dX12_work_112 : decode cX12_work 112 = .ok (.iload_n 1, 1) := by decide +kernel
theorem dX12_work_113 : decode cX12_work 113 = .ok (.laload, 1) := by decide +kernel
theorem dX12_work_114 : decode cX12_work 114 = .ok (.invokevirtual 791, 3) := by decide +kernel
theorem dX12_work_117 : decode cX12_work 117 = .ok (.goto 126, 3) := by decide +kernel
theorem dX12_work_120 : decode cX12_work 120 = .ok (.iload_n 2, 1) := by decide +kernel
theorem dX12_work_121 : decode cX12_work 121 = .ok (.bipush 101, 2) := by decide +kernel
theorem dX12_work_123 : decode cX12_work 123 = .ok (.if_icmp .ne 23, 3) := by decide +kernel
theorem dX12_work_126 : decode cX12_work 126 = .ok (.aload_n 0, 1) := by decide +kernel
theorem dX12_work_127 : decode cX12_work 127 = .ok (.iconst 2, 1) := by decide +kernel
theorem dX12_work_128 : decode cX12_work 128 = .ok (.aload_n 0, 1) := by decide +kernel
theorem dX12_work_129 : decode cX12_work 129 = .ok (.getfield 290, 3) := by decide +kernel
theorem dX12_work_132 : decode cX12_work 132 = .ok (.aload_n 0, 1) := by decide +kernel
theorem dX12_work_133 : decode cX12_work 133 = .ok (.getfield 275, 3) := by decide +kernel
theorem dX12_work_136 : decode cX12_work 136 = .ok (.iload_n 1, 1) := by decide +kernel
theorem dX12_work_137 : decode cX12_work 137 = .ok (.iaload, 1) := by decide +kernel
theorem dX12_work_138 : decode cX12_work 138 = .ok (.iaload, 1) := by decide +kernel
theorem dX12_work_139 : decode cX12_work 139 = .ok (.i2l, 1) := by decide +kernel
theorem dX12_work_140 : decode cX12_work 140 = .ok (.invokevirtual 791, 3) := by decide +kernel
theorem dX12_work_143 : decode cX12_work 143 = .ok (.goto 100, 3) := by decide +kernel
theorem dX12_work_146 : decode cX12_work 146 = .ok (.iload_n 2, 1) := by decide +kernel
theorem dX12_work_147 : decode cX12_work 147 = .ok (.bipush 27, 2) := by decide +kernel
theorem dX12_work_149 : decode cX12_work 149 = .ok (.if_icmp .ne 16, 3) := by decide +kernel
theorem dX12_work_152 : decode cX12_work 152 = .ok (.aload_n 0, 1) := by decide +kernel
theorem dX12_work_153 : decode cX12_work 153 = .ok (.iconst 2, 1) := by decide +kernel
theorem dX12_work_154 : decode cX12_work 154 = .ok (.aload_n 0, 1) := by decide +kernel
theorem dX12_work_155 : decode cX12_work 155 = .ok (.getfield 810, 3) := by decide +kernel
theorem dX12_work_158 : decode cX12_work 158 = .ok (.i2l, 1) := by decide +kernel
theorem dX12_work_159 : decode cX12_work 159 = .ok (.invokevirtual 791, 3) := by decide +kernel
theorem dX12_work_162 : decode cX12_work 162 = .ok (.goto 81, 3) := by decide +kernel
theorem dX12_work_165 : decode cX12_work 165 = .ok (.iload_n 2, 1) := by decide +kernel
theorem dX12_work_166 : decode cX12_work 166 = .ok (.bipush 8, 2) := by decide +kernel
theorem dX12_work_168 : decode cX12_work 168 = .ok (.if_icmp .ne 12, 3) := by decide +kernel
theorem dX12_work_171 : decode cX12_work 171 = .ok (.aload_n 0, 1) := by decide +kernel
theorem dX12_work_172 : decode cX12_work 172 = .ok (.iconst 3, 1) := by decide +kernel
theorem dX12_work_173 : decode cX12_work 173 = .ok (.lconst 0, 1) := by decide +kernel
theorem dX12_work_174 : decode cX12_work 174 = .ok (.invokevirtual 791, 3) := by decide +kernel
theorem dX12_work_177 : decode cX12_work 177 = .ok (.goto 66, 3) := by decide +kernel
theorem dX12_work_180 : decode cX12_work 180 = .ok (.iload_n 2, 1) := by decide +kernel
theorem dX12_work_181 : decode cX12_work 181 = .ok (.bipush 9, 2) := by decide +kernel
theorem dX12_work_183 : decode cX12_work 183 = .ok (.if_icmp .eq 9, 3) := by decide +kernel
theorem dX12_work_186 : decode cX12_work 186 = .ok (.iload_n 2, 1) := by decide +kernel
theorem dX12_work_187 : decode cX12_work 187 = .ok (.bipush 10, 2) := by decide +kernel
theorem dX12_work_189 : decode cX12_work 189 = .ok (.if_icmp .ne 21, 3) := by decide +kernel
theorem dX12_work_192 : decode cX12_work 192 = .ok (.aload_n 0, 1) := by decide +kernel
theorem dX12_work_193 : decode cX12_work 193 = .ok (.iload_n 2, 1) := by decide +kernel
theorem dX12_work_194 : decode cX12_work 194 = .ok (.bipush 9, 2) := by decide +kernel
theorem dX12_work_196 : decode cX12_work 196 = .ok (.if_icmp .ne 7, 3) := by decide +kernel
theorem dX12_work_199 : decode cX12_work 199 = .ok (.iconst 1, 1) := by decide +kernel
theorem dX12_work_200 : decode cX12_work 200 = .ok (.goto 4, 3) := by decide +kernel
theorem dX12_work_203 : decode cX12_work 203 = .ok (.iconst 0, 1) := by decide +kernel
theorem dX12_work_204 : decode cX12_work 204 = .ok (.invokevirtual 813, 3) := by decide +kernel
theorem dX12_work_207 : decode cX12_work 207 = .ok (.goto 36, 3) := by decide +kernel
theorem dX12_work_210 : decode cX12_work 210 = .ok (.iload_n 2, 1) := by decide +kernel
theorem dX12_work_211 : decode cX12_work 211 = .ok (.bipush 115, 2) := by decide +kernel
theorem dX12_work_213 : decode cX12_work 213 = .ok (.if_icmp .ne 11, 3) := by decide +kernel
theorem dX12_work_216 : decode cX12_work 216 = .ok (.aload_n 0, 1) := by decide +kernel
theorem dX12_work_217 : decode cX12_work 217 = .ok (.iload_n 1, 1) := by decide +kernel
theorem dX12_work_218 : decode cX12_work 218 = .ok (.invokevirtual 817, 3) := by decide +kernel
theorem dX12_work_221 : decode cX12_work 221 = .ok (.goto 22, 3) := by decide +kernel
theorem dX12_work_224 : decode cX12_work 224 = .ok (.iload_n 2, 1) := by decide +kernel
theorem dX12_work_225 : decode cX12_work 225 = .ok (.bipush 28, 2) := by decide +kernel
theorem dX12_work_227 : decode cX12_work 227 = .ok (.if_icmp .ne 11, 3) := by decide +kernel
theorem dX12_work_230 : decode cX12_work 230 = .ok (.aload_n 0, 1) := by decide +kernel
theorem dX12_work_231 : decode cX12_work 231 = .ok (.iload_n 1, 1) := by decide +kernel
theorem dX12_work_232 : decode cX12_work 232 = .ok (.invokevirtual 820, 3) := by decide +kernel
theorem dX12_work_235 : decode cX12_work 235 = .ok (.goto 8, 3) := by decide +kernel
theorem dX12_work_238 : decode cX12_work 238 = .ok (.aload_n 0, 1) := by decide +kernel
theorem dX12_work_239 : decode cX12_work 239 = .ok (.iload_n 1, 1) := by decide +kernel
theorem dX12_work_240 : decode cX12_work 240 = .ok (.invokevirtual 823, 3) := by decide +kernel
theorem dX12_work_243 : decode cX12_work 243 = .ok (.return_, 1) := by decide +kernel
theorem dX12_workBoth_0 : decode cX12_workBoth 0 = .ok (.aload_n 0, 1) := by decide +kernel
theorem dX12_workBoth_1 : decode cX12_workBoth 1 = .ok (.aload_n 0, 1) := by decide +kernel
theorem dX12_workBoth_2 : decode cX12_workBoth 2 = .ok (.getfield 275, 3) := by decide +kernel
theorem dX12_workBoth_5 : decode cX12_workBoth 5 = .ok (.iload_n 1, 1) := by decide +kernel
theorem dX12_workBoth_6 : decode cX12_workBoth 6 = .ok (.iaload, 1) := by decide +kernel
theorem dX12_workBoth_7 : decode cX12_workBoth 7 = .ok (.invokevirtual 829, 3) := by decide +kernel
theorem dX12_workBoth_10 : decode cX12_workBoth 10 = .ok (.aload_n 0, 1) := by decide +kernel
theorem dX12_workBoth_11 : decode cX12_workBoth 11 = .ok (.getfield 782, 3) := by decide +kernel
theorem dX12_workBoth_14 : decode cX12_workBoth 14 = .ok (.ifCond .eq 4, 3) := by decide +kernel
theorem dX12_workBoth_17 : decode cX12_workBoth 17 = .ok (.return_, 1) := by decide +kernel
theorem dX12_workBoth_18 : decode cX12_workBoth 18 = .ok (.aload_n 0, 1) := by decide +kernel
theorem dX12_workBoth_19 : decode cX12_workBoth 19 = .ok (.getfield 785, 3) := by decide +kernel
theorem dX12_workBoth_22 : decode cX12_workBoth 22 = .ok (.iconst 1, 1) := by decide +kernel
theorem dX12_workBoth_23 : decode cX12_workBoth 23 = .ok (.if_icmp .eq 7, 3) := by decide +kernel
theorem dX12_workBoth_26 : decode cX12_workBoth 26 = .ok (.aload_n 0, 1) := by decide +kernel
theorem dX12_workBoth_27 : decode cX12_workBoth 27 = .ok (.invokevirtual 798, 3) := by decide +kernel
theorem dX12_workBoth_30 : decode cX12_workBoth 30 = .ok (.aload_n 0, 1) := by decide +kernel
theorem dX12_workBoth_31 : decode cX12_workBoth 31 = .ok (.getfield 785, 3) := by decide +kernel
theorem dX12_workBoth_34 : decode cX12_workBoth 34 = .ok (.iconst 1, 1) := by decide +kernel
theorem dX12_workBoth_35 : decode cX12_workBoth 35 = .ok (.if_icmp .ne 20, 3) := by decide +kernel
theorem dX12_workBoth_38 : decode cX12_workBoth 38 = .ok (.aload_n 0, 1) := by decide +kernel
theorem dX12_workBoth_39 : decode cX12_workBoth 39 = .ok (.getfield 788, 3) := by decide +kernel
theorem dX12_workBoth_42 : decode cX12_workBoth 42 = .ok (.iload_n 2, 1) := by decide +kernel
theorem dX12_workBoth_43 : decode cX12_workBoth 43 = .ok (.ifCond .eq 7, 3) := by decide +kernel
theorem dX12_workBoth_46 : decode cX12_workBoth 46 = .ok (.lconst 1, 1) := by decide +kernel
theorem dX12_workBoth_47 : decode cX12_workBoth 47 = .ok (.goto 4, 3) := by decide +kernel
theorem dX12_workBoth_50 : decode cX12_workBoth 50 = .ok (.lconst 0, 1) := by decide +kernel
theorem dX12_workBoth_51 : decode cX12_workBoth 51 = .ok (.lcmp, 1) := by decide +kernel
theorem dX12_workBoth_52 : decode cX12_workBoth 52 = .ok (.ifCond .ne 4, 3) := by decide +kernel
theorem dX12_workBoth_55 : decode cX12_workBoth 55 = .ok (.return_, 1) := by decide +kernel
theorem dX12_workBoth_56 : decode cX12_workBoth 56 = .ok (.aload_n 0, 1) := by decide +kernel
theorem dX12_workBoth_57 : decode cX12_workBoth 57 = .ok (.aload_n 0, 1) := by decide +kernel
theorem dX12_workBoth_58 : decode cX12_workBoth 58 = .ok (.getfield 278, 3) := by decide +kernel
theorem dX12_workBoth_61 : decode cX12_workBoth 61 = .ok (.iload_n 1, 1) := by decide +kernel
theorem dX12_workBoth_62 : decode cX12_workBoth 62 = .ok (.iaload, 1) := by decide +kernel
theorem dX12_workBoth_63 : decode cX12_workBoth 63 = .ok (.invokevirtual 829, 3) := by decide +kernel
theorem dX12_workBoth_66 : decode cX12_workBoth 66 = .ok (.aload_n 0, 1) := by decide +kernel
theorem dX12_workBoth_67 : decode cX12_workBoth 67 = .ok (.getfield 785, 3) := by decide +kernel
theorem dX12_workBoth_70 : decode cX12_workBoth 70 = .ok (.iconst 1, 1) := by decide +kernel
theorem dX12_workBoth_71 : decode cX12_workBoth 71 = .ok (.if_icmp .eq 7, 3) := by decide +kernel
theorem dX12_workBoth_74 : decode cX12_workBoth 74 = .ok (.aload_n 0, 1) := by decide +kernel
theorem dX12_workBoth_75 : decode cX12_workBoth 75 = .ok (.invokevirtual 798, 3) := by decide +kernel
theorem dX12_workBoth_78 : decode cX12_workBoth 78 = .ok (.return_, 1) := by decide +kernel
theorem dX12_workField_0 : decode cX12_workField 0 = .ok (.iconst (-1), 1) := by decide +kernel
theorem dX12_workField_1 : decode cX12_workField 1 = .ok (.istore 5, 2) := by decide +kernel
theorem dX12_workField_3 : decode cX12_workField 3 = .ok (.iload_n 2, 1) := by decide +kernel
theorem dX12_workField_4 : decode cX12_workField 4 = .ok (.ifCond .eq 7, 3) := by decide +kernel
theorem dX12_workField_7 : decode cX12_workField 7 = .ok (.iconst (-1), 1) := by decide +kernel
theorem dX12_workField_8 : decode cX12_workField 8 = .ok (.goto 17, 3) := by decide +kernel
theorem dX12_workField_11 : decode cX12_workField 11 = .ok (.aload_n 0, 1) := by decide +kernel
theorem dX12_workField_12 : decode cX12_workField 12 = .ok (.getfield 189, 3) := by decide +kernel
theorem dX12_workField_15 : decode cX12_workField 15 = .ok (.aload_n 0, 1) := by decide +kernel
theorem dX12_workField_16 : decode cX12_workField 16 = .ok (.aload_n 0, 1) := by decide +kernel
theorem dX12_workField_17 : decode cX12_workField 17 = .ok (.getfield 826, 3) := by decide +kernel
theorem dX12_workField_20 : decode cX12_workField 20 = .ok (.iload_n 1, 1) := by decide +kernel
theorem dX12_workField_21 : decode cX12_workField 21 = .ok (.invokevirtual 545, 3) := by decide +kernel
theorem dX12_workField_24 : decode cX12_workField 24 = .ok (.iaload, 1) := by decide +kernel
theorem dX12_workField_25 : decode cX12_workField 25 = .ok (.istore 6, 2) := by decide +kernel
theorem dX12_workField_27 : decode cX12_workField 27 = .ok (.iload 6, 2) := by decide +kernel
theorem dX12_workField_29 : decode cX12_workField 29 = .ok (.iconst (-1), 1) := by decide +kernel
theorem dX12_workField_30 : decode cX12_workField 30 = .ok (.if_icmp .eq 91, 3) := by decide +kernel
theorem dX12_workField_33 : decode cX12_workField 33 = .ok (.iload 5, 2) := by decide +kernel
theorem dX12_workField_35 : decode cX12_workField 35 = .ok (.iconst (-1), 1) := by decide +kernel
theorem dX12_workField_36 : decode cX12_workField 36 = .ok (.if_icmp .ne 85, 3) := by decide +kernel
theorem dX12_workField_39 : decode cX12_workField 39 = .ok (.iconst 0, 1) := by decide +kernel
theorem dX12_workField_40 : decode cX12_workField 40 = .ok (.istore 7, 2) := by decide +kernel
theorem dX12_workField_42 : decode cX12_workField 42 = .ok (.iload 7, 2) := by decide +kernel
theorem dX12_workField_44 : decode cX12_workField 44 = .ok (.aload_n 0, 1) := by decide +kernel
theorem dX12_workField_45 : decode cX12_workField 45 = .ok (.getfield 94, 3) := by decide +kernel
theorem dX12_workField_48 : decode cX12_workField 48 = .ok (.iload 6, 2) := by decide +kernel
theorem dX12_workField_50 : decode cX12_workField 50 = .ok (.iaload, 1) := by decide +kernel
theorem dX12_workField_51 : decode cX12_workField 51 = .ok (.if_icmp .ge 58, 3) := by decide +kernel
theorem dX12_workField_54 : decode cX12_workField 54 = .ok (.aload_n 0, 1) := by decide +kernel
theorem dX12_workField_55 : decode cX12_workField 55 = .ok (.getfield 119, 3) := by decide +kernel
theorem dX12_workField_58 : decode cX12_workField 58 = .ok (.bipush 6, 2) := by decide +kernel
theorem dX12_workField_60 : decode cX12_workField 60 = .ok (.iload 6, 2) := by decide +kernel
theorem dX12_workField_62 : decode cX12_workField 62 = .ok (.imul, 1) := by decide +kernel
theorem dX12_workField_63 : decode cX12_workField 63 = .ok (.iload 7, 2) := by decide +kernel
theorem dX12_workField_65 : decode cX12_workField 65 = .ok (.iadd, 1) := by decide +kernel
theorem dX12_workField_66 : decode cX12_workField 66 = .ok (.baload, 1) := by decide +kernel
theorem dX12_workField_67 : decode cX12_workField 67 = .ok (.ifCond .ne 32, 3) := by decide +kernel
theorem dX12_workField_70 : decode cX12_workField 70 = .ok (.aload_n 0, 1) := by decide +kernel
theorem dX12_workField_71 : decode cX12_workField 71 = .ok (.getfield 81, 3) := by decide +kernel
theorem dX12_workField_74 : decode cX12_workField 74 = .ok (.bipush 6, 2) := by decide +kernel
theorem dX12_workField_76 : decode cX12_workField 76 = .ok (.iload 6, 2) := by decide +kernel
theorem dX12_workField_78 : decode cX12_workField 78 = .ok (.imul, 1) := by decide +kernel
theorem dX12_workField_79 : decode cX12_workField 79 = .ok (.iload 7, 2) := by decide +kernel
theorem dX12_workField_81 : decode cX12_workField 81 = .ok (.iadd, 1) := by decide +kernel
theorem dX12_workField_82 : decode cX12_workField 82 = .ok (.laload, 1) := by decide +kernel
theorem dX12_workField_83 : decode cX12_workField 83 = .ok (.lload_n 3, 1) := by decide +kernel
theorem dX12_workField_84 : decode cX12_workField 84 = .ok (.lcmp, 1) := by decide +kernel
theorem dX12_workField_85 : decode cX12_workField 85 = .ok (.ifCond .ne 14, 3) := by decide +kernel
theorem dX12_workField_88 : decode cX12_workField 88 = .ok (.bipush 6, 2) := by decide +kernel
theorem dX12_workField_90 : decode cX12_workField 90 = .ok (.iload 6, 2) := by decide +kernel
theorem dX12_workField_92 : decode cX12_workField 92 = .ok (.imul, 1) := by decide +kernel
theorem dX12_workField_93 : decode cX12_workField 93 = .ok (.iload 7, 2) := by decide +kernel
theorem dX12_workField_95 : decode cX12_workField 95 = .ok (.iadd, 1) := by decide +kernel
theorem dX12_workField_96 : decode cX12_workField 96 = .ok (.goto 5, 3) := by decide +kernel
theorem dX12_workField_99 : decode cX12_workField 99 = .ok (.iload 5, 2) := by decide +kernel
theorem dX12_workField_101 : decode cX12_workField 101 = .ok (.istore 5, 2) := by decide +kernel
theorem dX12_workField_103 : decode cX12_workField 103 = .ok (.iinc 7 1, 3) := by decide +kernel
theorem dX12_workField_106 : decode cX12_workField 106 = .ok (.goto (-64), 3) := by decide +kernel
theorem dX12_workField_109 : decode cX12_workField 109 = .ok (.aload_n 0, 1) := by decide +kernel
theorem dX12_workField_110 : decode cX12_workField 110 = .ok (.getfield 91, 3) := by decide +kernel
theorem dX12_workField_113 : decode cX12_workField 113 = .ok (.iload 6, 2) := by decide +kernel
theorem dX12_workField_115 : decode cX12_workField 115 = .ok (.iaload, 1) := by decide +kernel
theorem dX12_workField_116 : decode cX12_workField 116 = .ok (.istore 6, 2) := by decide +kernel
theorem dX12_workField_118 : decode cX12_workField 118 = .ok (.goto (-91), 3) := by decide +kernel
theorem dX12_workField_121 : decode cX12_workField 121 = .ok (.iload 5, 2) := by decide +kernel
theorem dX12_workField_123 : decode cX12_workField 123 = .ok (.iconst (-1), 1) := by decide +kernel
theorem dX12_workField_124 : decode cX12_workField 124 = .ok (.if_icmp .ne 10, 3) := by decide +kernel
theorem dX12_workField_127 : decode cX12_workField 127 = .ok (.aload_n 0, 1) := by decide +kernel
theorem dX12_workField_128 : decode cX12_workField 128 = .ok (.invokevirtual 798, 3) := by decide +kernel
theorem dX12_workField_131 : decode cX12_workField 131 = .ok (.goto 58, 3) := by decide +kernel
theorem dX12_workField_134 : decode cX12_workField 134 = .ok (.aload_n 0, 1) := by decide +kernel
theorem dX12_workField_135 : decode cX12_workField 135 = .ok (.getfield 103, 3) := by decide +kernel
theorem dX12_workField_138 : decode cX12_workField 138 = .ok (.iload 5, 2) := by decide +kernel
theorem dX12_workField_140 : decode cX12_workField 140 = .ok (.iaload, 1) := by decide +kernel
theorem dX12_workField_141 : decode cX12_workField 141 = .ok (.iconst 5, 1) := by decide +kernel
theorem dX12_workField_142 : decode cX12_workField 142 = .ok (.if_icmp .ne 26, 3) := by decide +kernel
theorem dX12_workField_145 : decode cX12_workField 145 = .ok (.aload_n 0, 1) := by decide +kernel
theorem dX12_workField_146 : decode cX12_workField 146 = .ok (.aload_n 0, 1) := by decide +kernel
theorem dX12_workField_147 : decode cX12_workField 147 = .ok (.aload_n 0, 1) := by decide +kernel
theorem dX12_workField_148 : decode cX12_workField 148 = .ok (.getfield 826, 3) := by decide +kernel
theorem dX12_workField_151 : decode cX12_workField 151 = .ok (.iload_n 1, 1) := by decide +kernel
theorem dX12_workField_152 : decode cX12_workField 152 = .ok (.aload_n 0, 1) := by decide +kernel
theorem dX12_workField_153 : decode cX12_workField 153 = .ok (.getfield 109, 3) := by decide +kernel
theorem dX12_workField_156 : decode cX12_workField 156 = .ok (.iload 5, 2) := by decide +kernel
theorem dX12_workField_158 : decode cX12_workField 158 = .ok (.iaload, 1) := by decide +kernel
theorem dX12_workField_159 : decode cX12_workField 159 = .ok (.invokevirtual 577, 3) := by decide +kernel
theorem dX12_workField_162 : decode cX12_workField 162 = .ok (.invokevirtual 840, 3) := by decide +kernel
theorem dX12_workField_165 : decode cX12_workField 165 = .ok (.goto 24, 3) := by decide +kernel
theorem dX12_workField_168 : decode cX12_workField 168 = .ok (.aload_n 0, 1) := by decide +kernel
theorem dX12_workField_169 : decode cX12_workField 169 = .ok (.iconst 0, 1) := by decide +kernel
theorem dX12_workField_170 : decode cX12_workField 170 = .ok (.aload_n 0, 1) := by decide +kernel
theorem dX12_workField_171 : decode cX12_workField 171 = .ok (.aload_n 0, 1) := by decide +kernel
theorem dX12_workField_172 : decode cX12_workField 172 = .ok (.getfield 826, 3) := by decide +kernel
theorem dX12_workField_175 : decode cX12_workField 175 = .ok (.iload_n 1, 1) := by decide +kernel
theorem dX12_workField_176 : decode cX12_workField 176 = .ok (.aload_n 0, 1) := by decide +kernel
theorem dX12_workField_177 : decode cX12_workField 177 = .ok (.getfield 109, 3) := by decide +kernel
theorem dX12_workField_180 : decode cX12_workField 180 = .ok (.iload 5, 2) := by decide +kernel
theorem dX12_workField_182 : decode cX12_workField 182 = .ok (.iaload, 1) := by decide +kernel
theorem dX12_workField_183 : decode cX12_workField 183 = .ok (.invokevirtual 577, 3) := by decide +kernel
theorem dX12_workField_186 : decode cX12_workField 186 = .ok (.invokevirtual 791, 3) := by decide +kernel
theorem dX12_workField_189 : decode cX12_workField 189 = .ok (.return_, 1) := by decide +kernel
theorem dX12_workFold_0 : decode cX12_workFold 0 = .ok (.aload_n 0, 1) := by decide +kernel
theorem dX12_workFold_1 : decode cX12_workFold 1 = .ok (.getfield 272, 3) := by decide +kernel
theorem dX12_workFold_4 : decode cX12_workFold 4 = .ok (.iload_n 1, 1) := by decide +kernel
theorem dX12_workFold_5 : decode cX12_workFold 5 = .ok (.iaload, 1) := by decide +kernel
theorem dX12_workFold_6 : decode cX12_workFold 6 = .ok (.istore_n 2, 1) := by decide +kernel
theorem dX12_workFold_7 : decode cX12_workFold 7 = .ok (.aload_n 0, 1) := by decide +kernel
theorem dX12_workFold_8 : decode cX12_workFold 8 = .ok (.getfield 846, 3) := by decide +kernel
theorem dX12_workFold_11 : decode cX12_workFold 11 = .ok (.istore_n 3, 1) := by decide +kernel
theorem dX12_workFold_12 : decode cX12_workFold 12 = .ok (.aload_n 0, 1) := by decide +kernel
theorem dX12_workFold_13 : decode cX12_workFold 13 = .ok (.aload_n 0, 1) := by decide +kernel
theorem dX12_workFold_14 : decode cX12_workFold 14 = .ok (.getfield 275, 3) := by decide +kernel
theorem dX12_workFold_17 : decode cX12_workFold 17 = .ok (.iload_n 1, 1) := by decide +kernel
theorem dX12_workFold_18 : decode cX12_workFold 18 = .ok (.iaload, 1) := by decide +kernel
theorem dX12_workFold_19 : decode cX12_workFold 19 = .ok (.iload_n 3, 1) := by decide +kernel
theorem dX12_workFold_20 : decode cX12_workFold 20 = .ok (.invokevirtual 849, 3) := by decide +kernel
theorem dX12_workFold_23 : decode cX12_workFold 23 = .ok (.lconst 0, 1) := by decide +kernel
theorem dX12_workFold_24 : decode cX12_workFold 24 = .ok (.lstore 4, 2) := by decide +kernel
theorem dX12_workFold_26 : decode cX12_workFold 26 = .ok (.iconst 0, 1) := by decide +kernel
theorem dX12_workFold_27 : decode cX12_workFold 27 = .ok (.istore 6, 2) := by decide +kernel
theorem dX12_workFold_29 : decode cX12_workFold 29 = .ok (.iconst 0, 1) := by decide +kernel
theorem dX12_workFold_30 : decode cX12_workFold 30 = .ok (.istore 7, 2) := by decide +kernel
theorem dX12_workFold_32 : decode cX12_workFold 32 = .ok (.aload_n 0, 1) := by decide +kernel
theorem dX12_workFold_33 : decode cX12_workFold 33 = .ok (.dup, 1) := by decide +kernel
theorem dX12_workFold_34 : decode cX12_workFold 34 = .ok (.getfield 846, 3) := by decide +kernel
theorem dX12_workFold_37 : decode cX12_workFold 37 = .ok (.iconst 1, 1) := by decide +kernel
theorem dX12_workFold_38 : decode cX12_workFold 38 = .ok (.iadd, 1) := by decide +kernel
theorem dX12_workFold_39 : decode cX12_workFold 39 = .ok (.putfield 846, 3) := by decide +kernel
theorem dX12_workFold_42 : decode cX12_workFold 42 = .ok (.iconst 0, 1) := by decide +kernel
theorem dX12_workFold_43 : decode cX12_workFold 43 = .ok (.istore 8, 2) := by decide +kernel
theorem dX12_workFold_45 : decode cX12_workFold 45 = .ok (.iload 8, 2) := by decide +kernel
theorem dX12_workFold_47 : decode cX12_workFold 47 = .ok (.aload_n 0, 1) := by decide +kernel
theorem dX12_workFold_48 : decode cX12_workFold 48 = .ok (.getfield 297, 3) := by decide +kernel
theorem dX12_workFold_51 : decode cX12_workFold 51 = .ok (.iload_n 3, 1) := by decide +kernel
theorem dX12_workFold_52 : decode cX12_workFold 52 = .ok (.iaload, 1) := by decide +kernel
theorem dX12_workFold_53 : decode cX12_workFold 53 = .ok (.if_icmp .ge 279, 3) := by decide +kernel
theorem dX12_workFold_56 : decode cX12_workFold 56 = .ok (.aload_n 0, 1) := by decide +kernel
theorem dX12_workFold_57 : decode cX12_workFold 57 = .ok (.getfield 782, 3) := by decide +kernel
theorem dX12_workFold_60 : decode cX12_workFold 60 = .ok (.ifCond .ne 272, 3) := by decide +kernel
theorem dX12_workFold_63 : decode cX12_workFold 63 = .ok (.iload 7, 2) := by decide +kernel
theorem dX12_workFold_65 : decode cX12_workFold 65 = .ok (.ifCond .ne 267, 3) := by decide +kernel
theorem dX12_workFold_68 : decode cX12_workFold 68 = .ok (.aload_n 0, 1) := by decide +kernel
theorem dX12_workFold_69 : decode cX12_workFold 69 = .ok (.invokevirtual 795, 3) := by decide +kernel
theorem dX12_workFold_72 : decode cX12_workFold 72 = .ok (.aload_n 0, 1) := by decide +kernel
theorem dX12_workFold_73 : decode cX12_workFold 73 = .ok (.getfield 782, 3) := by decide +kernel
theorem dX12_workFold_76 : decode cX12_workFold 76 = .ok (.ifCond .eq 6, 3) := by decide +kernel
theorem dX12_workFold_79 : decode cX12_workFold 79 = .ok (.goto 247, 3) := by decide +kernel
theorem dX12_workFold_82 : decode cX12_workFold 82 = .ok (.aload_n 0, 1) := by decide +kernel
theorem dX12_workFold_83 : decode cX12_workFold 83 = .ok (.getfield 290, 3) := by decide +kernel
theorem dX12_workFold_86 : decode cX12_workFold 86 = .ok (.iload_n 3, 1) := by decide +kernel
theorem dX12_workFold_87 : decode cX12_workFold 87 = .ok (.aload_n 0, 1) := by decide +kernel
theorem dX12_workFold_88 : decode cX12_workFold 88 = .ok (.getfield 294, 3) := by decide +kernel
theorem dX12_workFold_91 : decode cX12_workFold 91 = .ok (.sipush 4400, 3) := by decide +kernel
theorem dX12_workFold_94 : decode cX12_workFold 94 = .ok (.iload_n 3, 1) := by decide +kernel
theorem dX12_workFold_95 : decode cX12_workFold 95 = .ok (.imul, 1) := by decide +kernel
theorem dX12_workFold_96 : decode cX12_workFold 96 = .ok (.iload 8, 2) := by decide +kernel
theorem dX12_workFold_98 : decode cX12_workFold 98 = .ok (.iadd, 1) := by decide +kernel
theorem dX12_workFold_99 : decode cX12_workFold 99 = .ok (.iaload, 1) := by decide +kernel
theorem dX12_workFold_100 : decode cX12_workFold 100 = .ok (.iastore, 1) := by decide +kernel
theorem dX12_workFold_101 : decode cX12_workFold 101 = .ok (.aload_n 0, 1) := by decide +kernel
theorem dX12_workFold_102 : decode cX12_workFold 102 = .ok (.getfield 278, 3) := by decide +kernel
theorem dX12_workFold_105 : decode cX12_workFold 105 = .ok (.iload_n 1, 1) := by decide +kernel
theorem dX12_workFold_106 : decode cX12_workFold 106 = .ok (.iaload, 1) := by decide +kernel
theorem dX12_workFold_107 : decode cX12_workFold 107 = .ok (.iconst (-1), 1) := by decide +kernel
theorem dX12_workFold_108 : decode cX12_workFold 108 = .ok (.if_icmp .eq 13, 3) := by decide +kernel
theorem dX12_workFold_111 : decode cX12_workFold 111 = .ok (.aload_n 0, 1) := by decide +kernel
theorem dX12_workFold_112 : decode cX12_workFold 112 = .ok (.aload_n 0, 1) := by decide +kernel
theorem dX12_workFold_113 : decode cX12_workFold 113 = .ok (.getfield 278, 3) := by decide +kernel
theorem dX12_workFold_116 : decode cX12_workFold 116 = .ok (.iload_n 1, 1) := by decide +kernel
theorem dX12_workFold_117 : decode cX12_workFold 117 = .ok (.iaload, 1) := by decide +kernel
theorem dX12_workFold_118 : decode cX12_workFold 118 = .ok (.invokevirtual 829, 3) := by decide +kernel
theorem dX12_workFold_121 : decode cX12_workFold 121 = .ok (.aload_n 0, 1) := by decide +kernel
theorem dX12_workFold_122 : decode cX12_workFold 122 = .ok (.getfield 782, 3) := by decide +kernel
theorem dX12_workFold_125 : decode cX12_workFold 125 = .ok (.ifCond .ne 201, 3) := by decide +kernel
theorem dX12_workFold_128 : decode cX12_workFold 128 = .ok (.aload_n 0, 1) := by decide +kernel
theorem dX12_workFold_129 : decode cX12_workFold 129 = .ok (.getfield 278, 3) := by decide +kernel
theorem dX12_workFold_132 : decode cX12_workFold 132 = .ok (.iload_n 1, 1) := by decide +kernel
theorem dX12_workFold_133 : decode cX12_workFold 133 = .ok (.iaload, 1) := by decide +kernel
theorem dX12_workFold_134 : decode cX12_workFold 134 = .ok (.iconst (-1), 1) := by decide +kernel
theorem dX12_workFold_135 : decode cX12_workFold 135 = .ok (.if_icmp .eq 23, 3) := by decide +kernel
theorem dX12_workFold_138 : decode cX12_workFold 138 = .ok (.aload_n 0, 1) := by decide +kernel
theorem dX12_workFold_139 : decode cX12_workFold 139 = .ok (.getfield 785, 3) := by decide +kernel
theorem dX12_workFold_142 : decode cX12_workFold 142 = .ok (.iconst 1, 1) := by decide +kernel
theorem dX12_workFold_143 : decode cX12_workFold 143 = .ok (.if_icmp .ne 183, 3) := by decide +kernel
theorem dX12_workFold_146 : decode cX12_workFold 146 = .ok (.aload_n 0, 1) := by decide +kernel
theorem dX12_workFold_147 : decode cX12_workFold 147 = .ok (.getfield 788, 3) := by decide +kernel
theorem dX12_workFold_150 : decode cX12_workFold 150 = .ok (.lconst 0, 1) := by decide +kernel
theorem dX12_workFold_151 : decode cX12_workFold 151 = .ok (.lcmp, 1) := by decide +kernel
theorem dX12_workFold_152 : decode cX12_workFold 152 = .ok (.ifCond .ne 6, 3) := by decide +kernel
theorem dX12_workFold_155 : decode cX12_workFold 155 = .ok (.goto 171, 3) := by decide +kernel
theorem dX12_workFold_158 : decode cX12_workFold 158 = .ok (.iload_n 2, 1) := by decide +kernel
theorem dX12_workFold_159 : decode cX12_workFold 159 = .ok (.bipush 13, 2) := by decide +kernel
theorem dX12_workFold_161 : decode cX12_workFold 161 = .ok (.if_icmp .ne 12, 3) := by decide +kernel
theorem dX12_workFold_164 : decode cX12_workFold 164 = .ok (.lload 4, 2) := by decide +kernel
theorem dX12_workFold_166 : decode cX12_workFold 166 = .ok (.lconst 1, 1) := by decide +kernel
theorem dX12_workFold_167 : decode cX12_workFold 167 = .ok (.ladd, 1) := by decide +kernel
theorem dX12_workFold_168 : decode cX12_workFold 168 = .ok (.lstore 4, 2) := by decide +kernel
theorem dX12_workFold_170 : decode cX12_workFold 170 = .ok (.goto 156, 3) := by decide +kernel
theorem dX12_workFold_173 : decode cX12_workFold 173 = .ok (.aload_n 0, 1) := by decide +kernel
theorem dX12_workFold_174 : decode cX12_workFold 174 = .ok (.aload_n 0, 1) := by decide +kernel
theorem dX12_workFold_175 : decode cX12_workFold 175 = .ok (.getfield 281, 3) := by decide +kernel
theorem dX12_workFold_178 : decode cX12_workFold 178 = .ok (.iload_n 1, 1) := by decide +kernel
theorem dX12_workFold_179 : decode cX12_workFold 179 = .ok (.iaload, 1) := by decide +kernel
theorem dX12_workFold_180 : decode cX12_workFold 180 = .ok (.invokevirtual 829, 3) := by decide +kernel
theorem dX12_workFold_183 : decode cX12_workFold 183 = .ok (.aload_n 0, 1) := by decide +kernel
theorem dX12_workFold_184 : decode cX12_workFold 184 = .ok (.getfield 782, 3) := by decide +kernel
theorem dX12_workFold_187 : decode cX12_workFold 187 = .ok (.ifCond .eq 6, 3) := by decide +kernel
theorem dX12_workFold_190 : decode cX12_workFold 190 = .ok (.goto 136, 3) := by decide +kernel
theorem dX12_workFold_193 : decode cX12_workFold 193 = .ok (.aload_n 0, 1) := by decide +kernel
theorem dX12_workFold_194 : decode cX12_workFold 194 = .ok (.getfield 785, 3) := by decide +kernel
theorem dX12_workFold_197 : decode cX12_workFold 197 = .ok (.iconst 1, 1) := by decide +kernel
theorem dX12_workFold_198 : decode cX12_workFold 198 = .ok (.if_icmp .ne 16, 3) := by decide +kernel
theorem dX12_workFold_201 : decode cX12_workFold 201 = .ok (.aload_n 0, 1) := by decide +kernel
theorem dX12_workFold_202 : decode cX12_workFold 202 = .ok (.getfield 788, 3) := by decide +kernel
theorem dX12_workFold_205 : decode cX12_workFold 205 = .ok (.lconst 1, 1) := by decide +kernel
theorem dX12_workFold_206 : decode cX12_workFold 206 = .ok (.lcmp, 1) := by decide +kernel
theorem dX12_workFold_207 : decode cX12_workFold 207 = .ok (.ifCond .ne 7, 3) := by decide +kernel
theorem dX12_workFold_210 : decode cX12_workFold 210 = .ok (.iconst 1, 1) := by decide +kernel
theorem dX12_workFold_211 : decode cX12_workFold 211 = .ok (.goto 4, 3) := by decide +kernel
theorem dX12_workFold_214 : decode cX12_workFold 214 = .ok (.iconst 0, 1) := by decide +kernel
theorem dX12_workFold_215 : decode cX12_workFold 215 = .ok (.istore 9, 2) := by decide +kernel
theorem dX12_workFold_217 : decode cX12_workFold 217 = .ok (.iload_n 2, 1) := by decide +kernel
theorem dX12_workFold_218 : decode cX12_workFold 218 = .ok (.bipush 17, 2) := by decide +kernel
theorem dX12_workFold_220 : decode cX12_workFold 220 = .ok (.if_icmp .eq 9, 3) := by decide +kernel
theorem dX12_workFold_223 : decode cX12_workFold 223 = .ok (.iload_n 2, 1) := by decide +kernel
theorem dX12_workFold_224 : decode cX12_workFold 224 = .ok (.bipush 18, 2) := by decide +kernel
theorem dX12_workFold_226 : decode cX12_workFold 226 = .ok (.if_icmp .ne 29, 3) := by decide +kernel
theorem dX12_workFold_229 : decode cX12_workFold 229 = .ok (.iload 9, 2) := by decide +kernel
theorem dX12_workFold_231 : decode cX12_workFold 231 = .ok (.iload_n 2, 1) := by decide +kernel
theorem dX12_workFold_232 : decode cX12_workFold 232 = .ok (.bipush 17, 2) := by decide +kernel
theorem dX12_workFold_234 : decode cX12_workFold 234 = .ok (.if_icmp .ne 7, 3) := by decide +kernel
theorem dX12_workFold_237 : decode cX12_workFold 237 = .ok (.iconst 1, 1) := by decide +kernel
theorem dX12_workFold_238 : decode cX12_workFold 238 = .ok (.goto 4, 3) := by decide +kernel
theorem dX12_workFold_241 : decode cX12_workFold 241 = .ok (.iconst 0, 1) := by decide +kernel
theorem dX12_workFold_242 : decode cX12_workFold 242 = .ok (.if_icmp .ne 7, 3) := by decide +kernel
theorem dX12_workFold_245 : decode cX12_workFold 245 = .ok (.iconst 1, 1) := by decide +kernel
theorem dX12_workFold_246 : decode cX12_workFold 246 = .ok (.goto 4, 3) := by decide +kernel
theorem dX12_workFold_249 : decode cX12_workFold 249 = .ok (.iconst 0, 1) := by decide +kernel
theorem dX12_workFold_250 : decode cX12_workFold 250 = .ok (.istore 7, 2) := by decide +kernel
theorem dX12_workFold_252 : decode cX12_workFold 252 = .ok (.goto 74, 3) := by decide +kernel
theorem dX12_workFold_255 : decode cX12_workFold 255 = .ok (.aload_n 0, 1) := by decide +kernel
theorem dX12_workFold_256 : decode cX12_workFold 256 = .ok (.getfield 785, 3) := by decide +kernel
theorem dX12_workFold_259 : decode cX12_workFold 259 = .ok (.ifCond .ne 67, 3) := by decide +kernel
theorem dX12_workFold_262 : decode cX12_workFold 262 = .ok (.iload_n 2, 1) := by decide +kernel
theorem dX12_workFold_263 : decode cX12_workFold 263 = .ok (.bipush 14, 2) := by decide +kernel
theorem dX12_workFold_265 : decode cX12_workFold 265 = .ok (.if_icmp .ne 13, 3) := by decide +kernel
theorem dX12_workFold_268 : decode cX12_workFold 268 = .ok (.lload 4, 2) := by decide +kernel
theorem dX12_workFold_270 : decode cX12_workFold 270 = .ok (.aload_n 0, 1) := by decide +kernel
theorem dX12_workFold_271 : decode cX12_workFold 271 = .ok (.getfield 788, 3) := by decide +kernel
theorem dX12_workFold_274 : decode cX12_workFold 274 = .ok (.ladd, 1) := by decide +kernel
theorem dX12_workFold_275 : decode cX12_workFold 275 = .ok (.goto 46, 3) := by decide +kernel
theorem dX12_workFold_278 : decode cX12_workFold 278 = .ok (.iload 6, 2) := by decide +kernel
theorem dX12_workFold_280 : decode cX12_workFold 280 = .ok (.ifCond .eq 32, 3) := by decide +kernel
theorem dX12_workFold_283 : decode cX12_workFold 283 = .ok (.iload_n 2, 1) := by decide +kernel
theorem dX12_workFold_284 : decode cX12_workFold 284 = .ok (.bipush 15, 2) := by decide +kernel
theorem dX12_workFold_286 : decode cX12_workFold 286 = .ok (.if_icmp .ne 16, 3) := by decide +kernel
theorem dX12_workFold_289 : decode cX12_workFold 289 = .ok (.aload_n 0, 1) := by decide +kernel
theorem dX12_workFold_290 : decode cX12_workFold 290 = .ok (.getfield 788, 3) := by decide +kernel
theorem dX12_workFold_293 : decode cX12_workFold 293 = .ok (.lload 4, 2) := by decide +kernel
theorem dX12_workFold_295 : decode cX12_workFold 295 = .ok (.lcmp, 1) := by decide +kernel
theorem dX12_workFold_296 : decode cX12_workFold 296 = .ok (.ifCond .le 23, 3) := by decide +kernel
theorem dX12_workFold_299 : decode cX12_workFold 299 = .ok (.goto 13, 3) := by decide +kernel
theorem dX12_workFold_302 : decode cX12_workFold 302 = .ok (.aload_n 0, 1) := by decide +kernel
theorem dX12_workFold_303 : decode cX12_workFold 303 = .ok (.getfield 788, 3) := by decide +kernel
theorem dX12_workFold_306 : decode cX12_workFold 306 = .ok (.lload 4, 2) := by decide +kernel
theorem dX12_workFold_308 : decode cX12_workFold 308 = .ok (.lcmp, 1) := by decide +kernel
theorem dX12_workFold_309 : decode cX12_workFold 309 = .ok (.ifCond .ge 10, 3) := by decide +kernel
theorem dX12_workFold_312 : decode cX12_workFold 312 = .ok (.aload_n 0, 1) := by decide +kernel
theorem dX12_workFold_313 : decode cX12_workFold 313 = .ok (.getfield 788, 3) := by decide +kernel
theorem dX12_workFold_316 : decode cX12_workFold 316 = .ok (.goto 5, 3) := by decide +kernel
theorem dX12_workFold_319 : decode cX12_workFold 319 = .ok (.lload 4, 2) := by decide +kernel
theorem dX12_workFold_321 : decode cX12_workFold 321 = .ok (.lstore 4, 2) := by decide +kernel
theorem dX12_workFold_323 : decode cX12_workFold 323 = .ok (.iconst 1, 1) := by decide +kernel
theorem dX12_workFold_324 : decode cX12_workFold 324 = .ok (.istore 6, 2) := by decide +kernel
theorem dX12_workFold_326 : decode cX12_workFold 326 = .ok (.iinc 8 1, 3) := by decide +kernel
theorem dX12_workFold_329 : decode cX12_workFold 329 = .ok (.goto (-284), 3) := by decide +kernel
theorem dX12_workFold_332 : decode cX12_workFold 332 = .ok (.aload_n 0, 1) := by decide +kernel
theorem dX12_workFold_333 : decode cX12_workFold 333 = .ok (.dup, 1) := by decide +kernel
theorem dX12_workFold_334 : decode cX12_workFold 334 = .ok (.getfield 846, 3) := by decide +kernel
theorem dX12_workFold_337 : decode cX12_workFold 337 = .ok (.iconst 1, 1) := by decide +kernel
theorem dX12_workFold_338 : decode cX12_workFold 338 = .ok (.isub, 1) := by decide +kernel
theorem dX12_workFold_339 : decode cX12_workFold 339 = .ok (.putfield 846, 3) := by decide +kernel
theorem dX12_workFold_342 : decode cX12_workFold 342 = .ok (.aload_n 0, 1) := by decide +kernel
theorem dX12_workFold_343 : decode cX12_workFold 343 = .ok (.getfield 782, 3) := by decide +kernel
theorem dX12_workFold_346 : decode cX12_workFold 346 = .ok (.ifCond .ne 20, 3) := by decide +kernel
theorem dX12_workFold_349 : decode cX12_workFold 349 = .ok (.iload_n 2, 1) := by decide +kernel
theorem dX12_workFold_350 : decode cX12_workFold 350 = .ok (.bipush 15, 2) := by decide +kernel
theorem dX12_workFold_352 : decode cX12_workFold 352 = .ok (.if_icmp .eq 9, 3) := by decide +kernel
theorem dX12_workFold_355 : decode cX12_workFold 355 = .ok (.iload_n 2, 1) := by decide +kernel
theorem dX12_workFold_356 : decode cX12_workFold 356 = .ok (.bipush 16, 2) := by decide +kernel
theorem dX12_workFold_358 : decode cX12_workFold 358 = .ok (.if_icmp .ne 15, 3) := by decide +kernel
theorem dX12_workFold_361 : decode cX12_workFold 361 = .ok (.iload 6, 2) := by decide +kernel
theorem dX12_workFold_363 : decode cX12_workFold 363 = .ok (.ifCond .ne 10, 3) := by decide +kernel
theorem dX12_workFold_366 : decode cX12_workFold 366 = .ok (.aload_n 0, 1) := by decide +kernel
theorem dX12_workFold_367 : decode cX12_workFold 367 = .ok (.invokevirtual 798, 3) := by decide +kernel
theorem dX12_workFold_370 : decode cX12_workFold 370 = .ok (.goto 50, 3) := by decide +kernel
theorem dX12_workFold_373 : decode cX12_workFold 373 = .ok (.iload_n 2, 1) := by decide +kernel
theorem dX12_workFold_374 : decode cX12_workFold 374 = .ok (.bipush 17, 2) := by decide +kernel
theorem dX12_workFold_376 : decode cX12_workFold 376 = .ok (.if_icmp .eq 9, 3) := by decide +kernel
theorem dX12_workFold_379 : decode cX12_workFold 379 = .ok (.iload_n 2, 1) := by decide +kernel
theorem dX12_workFold_380 : decode cX12_workFold 380 = .ok (.bipush 18, 2) := by decide +kernel
theorem dX12_workFold_382 : decode cX12_workFold 382 = .ok (.if_icmp .ne 31, 3) := by decide +kernel
theorem dX12_workFold_385 : decode cX12_workFold 385 = .ok (.aload_n 0, 1) := by decide +kernel
theorem dX12_workFold_386 : decode cX12_workFold 386 = .ok (.iload 7, 2) := by decide +kernel
theorem dX12_workFold_388 : decode cX12_workFold 388 = .ok (.iload_n 2, 1) := by decide +kernel
theorem dX12_workFold_389 : decode cX12_workFold 389 = .ok (.bipush 17, 2) := by decide +kernel
theorem dX12_workFold_391 : decode cX12_workFold 391 = .ok (.if_icmp .ne 7, 3) := by decide +kernel
theorem dX12_workFold_394 : decode cX12_workFold 394 = .ok (.iconst 1, 1) := by decide +kernel
theorem dX12_workFold_395 : decode cX12_workFold 395 = .ok (.goto 4, 3) := by decide +kernel
theorem dX12_workFold_398 : decode cX12_workFold 398 = .ok (.iconst 0, 1) := by decide +kernel
theorem dX12_workFold_399 : decode cX12_workFold 399 = .ok (.if_icmp .ne 7, 3) := by decide +kernel
theorem dX12_workFold_402 : decode cX12_workFold 402 = .ok (.iconst 1, 1) := by decide +kernel
theorem dX12_workFold_403 : decode cX12_workFold 403 = .ok (.goto 4, 3) := by decide +kernel
theorem dX12_workFold_406 : decode cX12_workFold 406 = .ok (.iconst 0, 1) := by decide +kernel
theorem dX12_workFold_407 : decode cX12_workFold 407 = .ok (.invokevirtual 813, 3) := by decide +kernel
theorem dX12_workFold_410 : decode cX12_workFold 410 = .ok (.goto 10, 3) := by decide +kernel
theorem dX12_workFold_413 : decode cX12_workFold 413 = .ok (.aload_n 0, 1) := by decide +kernel
theorem dX12_workFold_414 : decode cX12_workFold 414 = .ok (.iconst 0, 1) := by decide +kernel
theorem dX12_workFold_415 : decode cX12_workFold 415 = .ok (.lload 4, 2) := by decide +kernel
theorem dX12_workFold_417 : decode cX12_workFold 417 = .ok (.invokevirtual 791, 3) := by decide +kernel
theorem dX12_workFold_420 : decode cX12_workFold 420 = .ok (.return_, 1) := by decide +kernel
theorem dX12_workNumbered_0 : decode cX12_workNumbered 0 = .ok (.aload_n 0, 1) := by decide +kernel
theorem dX12_workNumbered_1 : decode cX12_workNumbered 1 = .ok (.getfield 284, 3) := by decide +kernel
theorem dX12_workNumbered_4 : decode cX12_workNumbered 4 = .ok (.iload_n 1, 1) := by decide +kernel
theorem dX12_workNumbered_5 : decode cX12_workNumbered 5 = .ok (.laload, 1) := by decide +kernel
theorem dX12_workNumbered_6 : decode cX12_workNumbered 6 = .ok (.aload_n 0, 1) := by decide +kernel
theorem dX12_workNumbered_7 : decode cX12_workNumbered 7 = .ok (.getfield 183, 3) := by decide +kernel
theorem dX12_workNumbered_10 : decode cX12_workNumbered 10 = .ok (.aload_n 0, 1) := by decide +kernel
theorem dX12_workNumbered_11 : decode cX12_workNumbered 11 = .ok (.getfield 826, 3) := by decide +kernel
theorem dX12_workNumbered_14 : decode cX12_workNumbered 14 = .ok (.iaload, 1) := by decide +kernel
theorem dX12_workNumbered_15 : decode cX12_workNumbered 15 = .ok (.i2l, 1) := by decide +kernel
theorem dX12_workNumbered_16 : decode cX12_workNumbered 16 = .ok (.lcmp, 1) := by decide +kernel
theorem dX12_workNumbered_17 : decode cX12_workNumbered 17 = .ok (.ifCond .ge 17, 3) := by decide +kernel
theorem dX12_workNumbered_20 : decode cX12_workNumbered 20 = .ok (.aload_n 0, 1) := by decide +kernel
theorem dX12_workNumbered_21 : decode cX12_workNumbered 21 = .ok (.iconst 2, 1) := by decide +kernel
theorem dX12_workNumbered_22 : decode cX12_workNumbered 22 = .ok (.aload_n 0, 1) := by decide +kernel
theorem dX12_workNumbered_23 : decode cX12_workNumbered 23 = .ok (.getfield 284, 3) := by decide +kernel
theorem dX12_workNumbered_26 : decode cX12_workNumbered 26 = .ok (.iload_n 1, 1) := by decide +kernel
theorem dX12_workNumbered_27 : decode cX12_workNumbered 27 = .ok (.laload, 1) := by decide +kernel
theorem dX12_workNumbered_28 : decode cX12_workNumbered 28 = .ok (.invokevirtual 791, 3) := by decide +kernel
theorem dX12_workNumbered_31 : decode cX12_workNumbered 31 = .ok (.goto 7, 3) := by decide +kernel
theorem dX12_workNumbered_34 : decode cX12_workNumbered 34 = .ok (.aload_n 0, 1) := by decide +kernel
theorem dX12_workNumbered_35 : decode cX12_workNumbered 35 = .ok (.invokevirtual 798, 3) := by decide +kernel
theorem dX12_workNumbered_38 : decode cX12_workNumbered 38 = .ok (.return_, 1) := by decide +kernel
theorem dX12_workOne_0 : decode cX12_workOne 0 = .ok (.aload_n 0, 1) := by decide +kernel
theorem dX12_workOne_1 : decode cX12_workOne 1 = .ok (.aload_n 0, 1) := by decide +kernel
theorem dX12_workOne_2 : decode cX12_workOne 2 = .ok (.getfield 275, 3) := by decide +kernel
theorem dX12_workOne_5 : decode cX12_workOne 5 = .ok (.iload_n 1, 1) := by decide +kernel
theorem dX12_workOne_6 : decode cX12_workOne 6 = .ok (.iaload, 1) := by decide +kernel
theorem dX12_workOne_7 : decode cX12_workOne 7 = .ok (.invokevirtual 829, 3) := by decide +kernel
theorem dX12_workOne_10 : decode cX12_workOne 10 = .ok (.aload_n 0, 1) := by decide +kernel
theorem dX12_workOne_11 : decode cX12_workOne 11 = .ok (.getfield 782, 3) := by decide +kernel
theorem dX12_workOne_14 : decode cX12_workOne 14 = .ok (.ifCond .eq 4, 3) := by decide +kernel
theorem dX12_workOne_17 : decode cX12_workOne 17 = .ok (.return_, 1) := by decide +kernel
theorem dX12_workOne_18 : decode cX12_workOne 18 = .ok (.aload_n 0, 1) := by decide +kernel
theorem dX12_workOne_19 : decode cX12_workOne 19 = .ok (.getfield 272, 3) := by decide +kernel
theorem dX12_workOne_22 : decode cX12_workOne 22 = .ok (.iload_n 1, 1) := by decide +kernel
theorem dX12_workOne_23 : decode cX12_workOne 23 = .ok (.iaload, 1) := by decide +kernel
theorem dX12_workOne_24 : decode cX12_workOne 24 = .ok (.istore_n 2, 1) := by decide +kernel
theorem dX12_workOne_25 : decode cX12_workOne 25 = .ok (.aload_n 0, 1) := by decide +kernel
theorem dX12_workOne_26 : decode cX12_workOne 26 = .ok (.getfield 785, 3) := by decide +kernel
theorem dX12_workOne_29 : decode cX12_workOne 29 = .ok (.iconst 2, 1) := by decide +kernel
theorem dX12_workOne_30 : decode cX12_workOne 30 = .ok (.if_icmp .ne 11, 3) := by decide +kernel
theorem dX12_workOne_33 : decode cX12_workOne 33 = .ok (.aload_n 0, 1) := by decide +kernel
theorem dX12_workOne_34 : decode cX12_workOne 34 = .ok (.getfield 788, 3) := by decide +kernel
theorem dX12_workOne_37 : decode cX12_workOne 37 = .ok (.l2i, 1) := by decide +kernel
theorem dX12_workOne_38 : decode cX12_workOne 38 = .ok (.goto 4, 3) := by decide +kernel
theorem dX12_workOne_41 : decode cX12_workOne 41 = .ok (.iconst (-1), 1) := by decide +kernel
theorem dX12_workOne_42 : decode cX12_workOne 42 = .ok (.istore_n 3, 1) := by decide +kernel
theorem dX12_workOne_43 : decode cX12_workOne 43 = .ok (.iload_n 3, 1) := by decide +kernel
theorem dX12_workOne_44 : decode cX12_workOne 44 = .ok (.iconst (-1), 1) := by decide +kernel
theorem dX12_workOne_45 : decode cX12_workOne 45 = .ok (.if_icmp .eq 28, 3) := by decide +kernel
theorem dX12_workOne_48 : decode cX12_workOne 48 = .ok (.aload_n 0, 1) := by decide +kernel
theorem dX12_workOne_49 : decode cX12_workOne 49 = .ok (.aload_n 0, 1) := by decide +kernel
theorem dX12_workOne_50 : decode cX12_workOne 50 = .ok (.getfield 189, 3) := by decide +kernel
theorem dX12_workOne_53 : decode cX12_workOne 53 = .ok (.aload_n 0, 1) := by decide +kernel
theorem dX12_workOne_54 : decode cX12_workOne 54 = .ok (.aload_n 0, 1) := by decide +kernel
theorem dX12_workOne_55 : decode cX12_workOne 55 = .ok (.getfield 826, 3) := by decide +kernel
theorem dX12_workOne_58 : decode cX12_workOne 58 = .ok (.iload_n 3, 1) := by decide +kernel
theorem dX12_workOne_59 : decode cX12_workOne 59 = .ok (.invokevirtual 545, 3) := by decide +kernel
theorem dX12_workOne_62 : decode cX12_workOne 62 = .ok (.iaload, 1) := by decide +kernel
theorem dX12_workOne_63 : decode cX12_workOne 63 = .ok (.invokevirtual 416, 3) := by decide +kernel
theorem dX12_workOne_66 : decode cX12_workOne 66 = .ok (.ifCond .ne 7, 3) := by decide +kernel
theorem dX12_workOne_69 : decode cX12_workOne 69 = .ok (.iconst 1, 1) := by decide +kernel
theorem dX12_workOne_70 : decode cX12_workOne 70 = .ok (.goto 4, 3) := by decide +kernel
theorem dX12_workOne_73 : decode cX12_workOne 73 = .ok (.iconst 0, 1) := by decide +kernel
theorem dX12_workOne_74 : decode cX12_workOne 74 = .ok (.istore 4, 2) := by decide +kernel
theorem dX12_workOne_76 : decode cX12_workOne 76 = .ok (.iload_n 2, 1) := by decide +kernel
theorem dX12_workOne_77 : decode cX12_workOne 77 = .ok (.bipush 7, 2) := by decide +kernel
theorem dX12_workOne_79 : decode cX12_workOne 79 = .ok (.if_icmp .ne 39, 3) := by decide +kernel
theorem dX12_workOne_82 : decode cX12_workOne 82 = .ok (.aload_n 0, 1) := by decide +kernel
theorem dX12_workOne_83 : decode cX12_workOne 83 = .ok (.getfield 785, 3) := by decide +kernel
theorem dX12_workOne_86 : decode cX12_workOne 86 = .ok (.iconst 1, 1) := by decide +kernel
theorem dX12_workOne_87 : decode cX12_workOne 87 = .ok (.if_icmp .ne 24, 3) := by decide +kernel
theorem dX12_workOne_90 : decode cX12_workOne 90 = .ok (.aload_n 0, 1) := by decide +kernel
theorem dX12_workOne_91 : decode cX12_workOne 91 = .ok (.aload_n 0, 1) := by decide +kernel
theorem dX12_workOne_92 : decode cX12_workOne 92 = .ok (.getfield 788, 3) := by decide +kernel
theorem dX12_workOne_95 : decode cX12_workOne 95 = .ok (.lconst 0, 1) := by decide +kernel
theorem dX12_workOne_96 : decode cX12_workOne 96 = .ok (.lcmp, 1) := by decide +kernel
theorem dX12_workOne_97 : decode cX12_workOne 97 = .ok (.ifCond .ne 7, 3) := by decide +kernel
theorem dX12_workOne_100 : decode cX12_workOne 100 = .ok (.iconst 1, 1) := by decide +kernel
theorem dX12_workOne_101 : decode cX12_workOne 101 = .ok (.goto 4, 3) := by decide +kernel
theorem dX12_workOne_104 : decode cX12_workOne 104 = .ok (.iconst 0, 1) := by decide +kernel
theorem dX12_workOne_105 : decode cX12_workOne 105 = .ok (.invokevirtual 813, 3) := by decide +kernel
theorem dX12_workOne_108 : decode cX12_workOne 108 = .ok (.goto 242, 3) := by decide +kernel
theorem dX12_workOne_111 : decode cX12_workOne 111 = .ok (.aload_n 0, 1) := by decide +kernel
theorem dX12_workOne_112 : decode cX12_workOne 112 = .ok (.invokevirtual 798, 3) := by decide +kernel
theorem dX12_workOne_115 : decode cX12_workOne 115 = .ok (.goto 235, 3) := by decide +kernel
theorem dX12_workOne_118 : decode cX12_workOne 118 = .ok (.iload_n 2, 1) := by decide +kernel
theorem dX12_workOne_119 : decode cX12_workOne 119 = .ok (.bipush 113, 2) := by decide +kernel
theorem dX12_workOne_121 : decode cX12_workOne 121 = .ok (.if_icmp .ne 30, 3) := by decide +kernel
theorem dX12_workOne_124 : decode cX12_workOne 124 = .ok (.aload_n 0, 1) := by decide +kernel
theorem dX12_workOne_125 : decode cX12_workOne 125 = .ok (.getfield 785, 3) := by decide +kernel
theorem dX12_workOne_128 : decode cX12_workOne 128 = .ok (.ifCond .ne 16, 3) := by decide +kernel
theorem dX12_workOne_131 : decode cX12_workOne 131 = .ok (.aload_n 0, 1) := by decide +kernel
theorem dX12_workOne_132 : decode cX12_workOne 132 = .ok (.iconst 0, 1) := by decide +kernel
theorem dX12_workOne_133 : decode cX12_workOne 133 = .ok (.aload_n 0, 1) := by decide +kernel
theorem dX12_workOne_134 : decode cX12_workOne 134 = .ok (.getfield 788, 3) := by decide +kernel
theorem dX12_workOne_137 : decode cX12_workOne 137 = .ok (.lneg, 1) := by decide +kernel
theorem dX12_workOne_138 : decode cX12_workOne 138 = .ok (.invokevirtual 791, 3) := by decide +kernel
theorem dX12_workOne_141 : decode cX12_workOne 141 = .ok (.goto 209, 3) := by decide +kernel
theorem dX12_workOne_144 : decode cX12_workOne 144 = .ok (.aload_n 0, 1) := by decide +kernel
theorem dX12_workOne_145 : decode cX12_workOne 145 = .ok (.invokevirtual 798, 3) := by decide +kernel
theorem dX12_workOne_148 : decode cX12_workOne 148 = .ok (.goto 202, 3) := by decide +kernel
theorem dX12_workOne_151 : decode cX12_workOne 151 = .ok (.iload_n 3, 1) := by decide +kernel
theorem dX12_workOne_152 : decode cX12_workOne 152 = .ok (.iconst (-1), 1) := by decide +kernel
theorem dX12_workOne_153 : decode cX12_workOne 153 = .ok (.if_icmp .ne 10, 3) := by decide +kernel
theorem dX12_workOne_156 : decode cX12_workOne 156 = .ok (.aload_n 0, 1) := by decide +kernel
theorem dX12_workOne_157 : decode cX12_workOne 157 = .ok (.invokevirtual 798, 3) := by decide +kernel
theorem dX12_workOne_160 : decode cX12_workOne 160 = .ok (.goto 190, 3) := by decide +kernel
theorem dX12_workOne_163 : decode cX12_workOne 163 = .ok (.iload_n 2, 1) := by decide +kernel
theorem dX12_workOne_164 : decode cX12_workOne 164 = .ok (.bipush 11, 2) := by decide +kernel
theorem dX12_workOne_166 : decode cX12_workOne 166 = .ok (.if_icmp .ne 48, 3) := by decide +kernel
theorem dX12_workOne_169 : decode cX12_workOne 169 = .ok (.aload_n 0, 1) := by decide +kernel
theorem dX12_workOne_170 : decode cX12_workOne 170 = .ok (.iload 4, 2) := by decide +kernel
theorem dX12_workOne_172 : decode cX12_workOne 172 = .ok (.ifCond .ne 35, 3) := by decide +kernel
theorem dX12_workOne_175 : decode cX12_workOne 175 = .ok (.aload_n 0, 1) := by decide +kernel
theorem dX12_workOne_176 : decode cX12_workOne 176 = .ok (.aload_n 0, 1) := by decide +kernel
theorem dX12_workOne_177 : decode cX12_workOne 177 = .ok (.getfield 189, 3) := by decide +kernel
theorem dX12_workOne_180 : decode cX12_workOne 180 = .ok (.aload_n 0, 1) := by decide +kernel
theorem dX12_workOne_181 : decode cX12_workOne 181 = .ok (.aload_n 0, 1) := by decide +kernel
theorem dX12_workOne_182 : decode cX12_workOne 182 = .ok (.getfield 826, 3) := by decide +kernel
theorem dX12_workOne_185 : decode cX12_workOne 185 = .ok (.iload_n 3, 1) := by decide +kernel
theorem dX12_workOne_186 : decode cX12_workOne 186 = .ok (.invokevirtual 545, 3) := by decide +kernel
theorem dX12_workOne_189 : decode cX12_workOne 189 = .ok (.iaload, 1) := by decide +kernel
theorem dX12_workOne_190 : decode cX12_workOne 190 = .ok (.aload_n 0, 1) := by decide +kernel
theorem dX12_workOne_191 : decode cX12_workOne 191 = .ok (.getfield 284, 3) := by decide +kernel
theorem dX12_workOne_194 : decode cX12_workOne 194 = .ok (.iload_n 1, 1) := by decide +kernel
theorem dX12_workOne_195 : decode cX12_workOne 195 = .ok (.laload, 1) := by decide +kernel
theorem dX12_workOne_196 : decode cX12_workOne 196 = .ok (.iconst 1, 1) := by decide +kernel
theorem dX12_workOne_197 : decode cX12_workOne 197 = .ok (.invokevirtual 832, 3) := by decide +kernel
theorem dX12_workOne_200 : decode cX12_workOne 200 = .ok (.ifCond .eq 7, 3) := by decide +kernel
theorem dX12_workOne_203 : decode cX12_workOne 203 = .ok (.iconst 1, 1) := by decide +kernel
theorem dX12_workOne_204 : decode cX12_workOne 204 = .ok (.goto 4, 3) := by decide +kernel
theorem dX12_workOne_207 : decode cX12_workOne 207 = .ok (.iconst 0, 1) := by decide +kernel
theorem dX12_workOne_208 : decode cX12_workOne 208 = .ok (.invokevirtual 813, 3) := by decide +kernel
theorem dX12_workOne_211 : decode cX12_workOne 211 = .ok (.goto 139, 3) := by decide +kernel
theorem dX12_workOne_214 : decode cX12_workOne 214 = .ok (.iload_n 2, 1) := by decide +kernel
theorem dX12_workOne_215 : decode cX12_workOne 215 = .ok (.bipush 19, 2) := by decide +kernel
theorem dX12_workOne_217 : decode cX12_workOne 217 = .ok (.if_icmp .ne 21, 3) := by decide +kernel
theorem dX12_workOne_220 : decode cX12_workOne 220 = .ok (.aload_n 0, 1) := by decide +kernel
theorem dX12_workOne_221 : decode cX12_workOne 221 = .ok (.iconst 0, 1) := by decide +kernel
theorem dX12_workOne_222 : decode cX12_workOne 222 = .ok (.aload_n 0, 1) := by decide +kernel
theorem dX12_workOne_223 : decode cX12_workOne 223 = .ok (.aload_n 0, 1) := by decide +kernel
theorem dX12_workOne_224 : decode cX12_workOne 224 = .ok (.getfield 826, 3) := by decide +kernel
theorem dX12_workOne_227 : decode cX12_workOne 227 = .ok (.iload_n 3, 1) := by decide +kernel
theorem dX12_workOne_228 : decode cX12_workOne 228 = .ok (.invokevirtual 594, 3) := by decide +kernel
theorem dX12_workOne_231 : decode cX12_workOne 231 = .ok (.i2l, 1) := by decide +kernel
theorem dX12_workOne_232 : decode cX12_workOne 232 = .ok (.invokevirtual 791, 3) := by decide +kernel
theorem dX12_workOne_235 : decode cX12_workOne 235 = .ok (.goto 115, 3) := by decide +kernel
theorem dX12_workOne_238 : decode cX12_workOne 238 = .ok (.iload_n 2, 1) := by decide +kernel
theorem dX12_workOne_239 : decode cX12_workOne 239 = .ok (.bipush 20, 2) := by decide +kernel
theorem dX12_workOne_241 : decode cX12_workOne 241 = .ok (.if_icmp .ne 26, 3) := by decide +kernel
theorem dX12_workOne_244 : decode cX12_workOne 244 = .ok (.aload_n 0, 1) := by decide +kernel
theorem dX12_workOne_245 : decode cX12_workOne 245 = .ok (.iconst 0, 1) := by decide +kernel
theorem dX12_workOne_246 : decode cX12_workOne 246 = .ok (.aload_n 0, 1) := by decide +kernel
theorem dX12_workOne_247 : decode cX12_workOne 247 = .ok (.getfield 210, 3) := by decide +kernel
theorem dX12_workOne_250 : decode cX12_workOne 250 = .ok (.aload_n 0, 1) := by decide +kernel
theorem dX12_workOne_251 : decode cX12_workOne 251 = .ok (.aload_n 0, 1) := by decide +kernel
theorem dX12_workOne_252 : decode cX12_workOne 252 = .ok (.getfield 826, 3) := by decide +kernel
theorem dX12_workOne_255 : decode cX12_workOne 255 = .ok (.iload_n 3, 1) := by decide +kernel
theorem dX12_workOne_256 : decode cX12_workOne 256 = .ok (.invokevirtual 545, 3) := by decide +kernel
theorem dX12_workOne_259 : decode cX12_workOne 259 = .ok (.iaload, 1) := by decide +kernel
theorem dX12_workOne_260 : decode cX12_workOne 260 = .ok (.i2l, 1) := by decide +kernel
theorem dX12_workOne_261 : decode cX12_workOne 261 = .ok (.invokevirtual 791, 3) := by decide +kernel
theorem dX12_workOne_264 : decode cX12_workOne 264 = .ok (.goto 86, 3) := by decide +kernel
theorem dX12_workOne_267 : decode cX12_workOne 267 = .ok (.iload_n 2, 1) := by decide +kernel
theorem dX12_workOne_268 : decode cX12_workOne 268 = .ok (.bipush 21, 2) := by decide +kernel
theorem dX12_workOne_270 : decode cX12_workOne 270 = .ok (.if_icmp .ne 26, 3) := by decide +kernel
theorem dX12_workOne_273 : decode cX12_workOne 273 = .ok (.aload_n 0, 1) := by decide +kernel
theorem dX12_workOne_274 : decode cX12_workOne 274 = .ok (.iconst 0, 1) := by decide +kernel
theorem dX12_workOne_275 : decode cX12_workOne 275 = .ok (.aload_n 0, 1) := by decide +kernel
theorem dX12_workOne_276 : decode cX12_workOne 276 = .ok (.getfield 198, 3) := by decide +kernel
theorem dX12_workOne_279 : decode cX12_workOne 279 = .ok (.aload_n 0, 1) := by decide +kernel
theorem dX12_workOne_280 : decode cX12_workOne 280 = .ok (.aload_n 0, 1) := by decide +kernel
theorem dX12_workOne_281 : decode cX12_workOne 281 = .ok (.getfield 826, 3) := by decide +kernel
theorem dX12_workOne_284 : decode cX12_workOne 284 = .ok (.iload_n 3, 1) := by decide +kernel
theorem dX12_workOne_285 : decode cX12_workOne 285 = .ok (.invokevirtual 545, 3) := by decide +kernel
theorem dX12_workOne_288 : decode cX12_workOne 288 = .ok (.iaload, 1) := by decide +kernel
theorem dX12_workOne_289 : decode cX12_workOne 289 = .ok (.i2l, 1) := by decide +kernel
theorem dX12_workOne_290 : decode cX12_workOne 290 = .ok (.invokevirtual 791, 3) := by decide +kernel
theorem dX12_workOne_293 : decode cX12_workOne 293 = .ok (.goto 57, 3) := by decide +kernel
theorem dX12_workOne_296 : decode cX12_workOne 296 = .ok (.iload_n 2, 1) := by decide +kernel
theorem dX12_workOne_297 : decode cX12_workOne 297 = .ok (.bipush 22, 2) := by decide +kernel
theorem dX12_workOne_299 : decode cX12_workOne 299 = .ok (.if_icmp .ne 38, 3) := by decide +kernel
theorem dX12_workOne_302 : decode cX12_workOne 302 = .ok (.iload 4, 2) := by decide +kernel
theorem dX12_workOne_304 : decode cX12_workOne 304 = .ok (.ifCond .eq 26, 3) := by decide +kernel
theorem dX12_workOne_307 : decode cX12_workOne 307 = .ok (.aload_n 0, 1) := by decide +kernel
theorem dX12_workOne_308 : decode cX12_workOne 308 = .ok (.iconst 0, 1) := by decide +kernel
theorem dX12_workOne_309 : decode cX12_workOne 309 = .ok (.aload_n 0, 1) := by decide +kernel
theorem dX12_workOne_310 : decode cX12_workOne 310 = .ok (.getfield 192, 3) := by decide +kernel
theorem dX12_workOne_313 : decode cX12_workOne 313 = .ok (.aload_n 0, 1) := by decide +kernel
theorem dX12_workOne_314 : decode cX12_workOne 314 = .ok (.aload_n 0, 1) := by decide +kernel
theorem dX12_workOne_315 : decode cX12_workOne 315 = .ok (.getfield 826, 3) := by decide +kernel
theorem dX12_workOne_318 : decode cX12_workOne 318 = .ok (.iload_n 3, 1) := by decide +kernel
theorem dX12_workOne_319 : decode cX12_workOne 319 = .ok (.invokevirtual 545, 3) := by decide +kernel
theorem dX12_workOne_322 : decode cX12_workOne 322 = .ok (.iaload, 1) := by decide +kernel
theorem dX12_workOne_323 : decode cX12_workOne 323 = .ok (.i2l, 1) := by decide +kernel
theorem dX12_workOne_324 : decode cX12_workOne 324 = .ok (.invokevirtual 791, 3) := by decide +kernel
theorem dX12_workOne_327 : decode cX12_workOne 327 = .ok (.goto 23, 3) := by decide +kernel
theorem dX12_workOne_330 : decode cX12_workOne 330 = .ok (.aload_n 0, 1) := by decide +kernel
theorem dX12_workOne_331 : decode cX12_workOne 331 = .ok (.invokevirtual 798, 3) := by decide +kernel
theorem dX12_workOne_334 : decode cX12_workOne 334 = .ok (.goto 16, 3) := by decide +kernel
theorem dX12_workOne_337 : decode cX12_workOne 337 = .ok (.aload_n 0, 1) := by decide +kernel
theorem dX12_workOne_338 : decode cX12_workOne 338 = .ok (.iload_n 3, 1) := by decide +kernel
theorem dX12_workOne_339 : decode cX12_workOne 339 = .ok (.iload 4, 2) := by decide +kernel
theorem dX12_workOne_341 : decode cX12_workOne 341 = .ok (.aload_n 0, 1) := by decide +kernel
theorem dX12_workOne_342 : decode cX12_workOne 342 = .ok (.getfield 284, 3) := by decide +kernel
theorem dX12_workOne_345 : decode cX12_workOne 345 = .ok (.iload_n 1, 1) := by decide +kernel
theorem dX12_workOne_346 : decode cX12_workOne 346 = .ok (.laload, 1) := by decide +kernel
theorem dX12_workOne_347 : decode cX12_workOne 347 = .ok (.invokevirtual 836, 3) := by decide +kernel
theorem dX12_workOne_350 : decode cX12_workOne 350 = .ok (.return_, 1) := by decide +kernel
theorem dX12_workPart_0 : decode cX12_workPart 0 = .ok (.aload_n 0, 1) := by decide +kernel
theorem dX12_workPart_1 : decode cX12_workPart 1 = .ok (.aload_n 0, 1) := by decide +kernel
theorem dX12_workPart_2 : decode cX12_workPart 2 = .ok (.getfield 275, 3) := by decide +kernel
theorem dX12_workPart_5 : decode cX12_workPart 5 = .ok (.iload_n 1, 1) := by decide +kernel
theorem dX12_workPart_6 : decode cX12_workPart 6 = .ok (.iaload, 1) := by decide +kernel
theorem dX12_workPart_7 : decode cX12_workPart 7 = .ok (.invokevirtual 829, 3) := by decide +kernel
theorem dX12_workPart_10 : decode cX12_workPart 10 = .ok (.aload_n 0, 1) := by decide +kernel
theorem dX12_workPart_11 : decode cX12_workPart 11 = .ok (.getfield 785, 3) := by decide +kernel
theorem dX12_workPart_14 : decode cX12_workPart 14 = .ok (.iconst 2, 1) := by decide +kernel
theorem dX12_workPart_15 : decode cX12_workPart 15 = .ok (.if_icmp .ne 11, 3) := by decide +kernel
theorem dX12_workPart_18 : decode cX12_workPart 18 = .ok (.aload_n 0, 1) := by decide +kernel
theorem dX12_workPart_19 : decode cX12_workPart 19 = .ok (.getfield 788, 3) := by decide +kernel
theorem dX12_workPart_22 : decode cX12_workPart 22 = .ok (.l2i, 1) := by decide +kernel
theorem dX12_workPart_23 : decode cX12_workPart 23 = .ok (.goto 4, 3) := by decide +kernel
theorem dX12_workPart_26 : decode cX12_workPart 26 = .ok (.iconst (-1), 1) := by decide +kernel
theorem dX12_workPart_27 : decode cX12_workPart 27 = .ok (.istore_n 2, 1) := by decide +kernel
theorem dX12_workPart_28 : decode cX12_workPart 28 = .ok (.aload_n 0, 1) := by decide +kernel
theorem dX12_workPart_29 : decode cX12_workPart 29 = .ok (.aload_n 0, 1) := by decide +kernel
theorem dX12_workPart_30 : decode cX12_workPart 30 = .ok (.getfield 278, 3) := by decide +kernel
theorem dX12_workPart_33 : decode cX12_workPart 33 = .ok (.iload_n 1, 1) := by decide +kernel
theorem dX12_workPart_34 : decode cX12_workPart 34 = .ok (.iaload, 1) := by decide +kernel
theorem dX12_workPart_35 : decode cX12_workPart 35 = .ok (.invokevirtual 829, 3) := by decide +kernel
theorem dX12_workPart_38 : decode cX12_workPart 38 = .ok (.aload_n 0, 1) := by decide +kernel
theorem dX12_workPart_39 : decode cX12_workPart 39 = .ok (.getfield 782, 3) := by decide +kernel
theorem dX12_workPart_42 : decode cX12_workPart 42 = .ok (.ifCond .eq 4, 3) := by decide +kernel
theorem dX12_workPart_45 : decode cX12_workPart 45 = .ok (.return_, 1) := by decide +kernel
theorem dX12_workPart_46 : decode cX12_workPart 46 = .ok (.iload_n 2, 1) := by decide +kernel
theorem dX12_workPart_47 : decode cX12_workPart 47 = .ok (.iconst (-1), 1) := by decide +kernel
theorem dX12_workPart_48 : decode cX12_workPart 48 = .ok (.if_icmp .eq 67, 3) := by decide +kernel
theorem dX12_workPart_51 : decode cX12_workPart 51 = .ok (.aload_n 0, 1) := by decide +kernel
theorem dX12_workPart_52 : decode cX12_workPart 52 = .ok (.aload_n 0, 1) := by decide +kernel
theorem dX12_workPart_53 : decode cX12_workPart 53 = .ok (.getfield 189, 3) := by decide +kernel
theorem dX12_workPart_56 : decode cX12_workPart 56 = .ok (.aload_n 0, 1) := by decide +kernel
theorem dX12_workPart_57 : decode cX12_workPart 57 = .ok (.aload_n 0, 1) := by decide +kernel
theorem dX12_workPart_58 : decode cX12_workPart 58 = .ok (.getfield 826, 3) := by decide +kernel
theorem dX12_workPart_61 : decode cX12_workPart 61 = .ok (.iload_n 2, 1) := by decide +kernel
theorem dX12_workPart_62 : decode cX12_workPart 62 = .ok (.invokevirtual 545, 3) := by decide +kernel
theorem dX12_workPart_65 : decode cX12_workPart 65 = .ok (.iaload, 1) := by decide +kernel
theorem dX12_workPart_66 : decode cX12_workPart 66 = .ok (.invokevirtual 416, 3) := by decide +kernel
theorem dX12_workPart_69 : decode cX12_workPart 69 = .ok (.ifCond .ne 46, 3) := by decide +kernel
theorem dX12_workPart_72 : decode cX12_workPart 72 = .ok (.aload_n 0, 1) := by decide +kernel
theorem dX12_workPart_73 : decode cX12_workPart 73 = .ok (.getfield 785, 3) := by decide +kernel
theorem dX12_workPart_76 : decode cX12_workPart 76 = .ok (.ifCond .ne 39, 3) := by decide +kernel
theorem dX12_workPart_79 : decode cX12_workPart 79 = .ok (.aload_n 0, 1) := by decide +kernel
theorem dX12_workPart_80 : decode cX12_workPart 80 = .ok (.getfield 788, 3) := by decide +kernel
theorem dX12_workPart_83 : decode cX12_workPart 83 = .ok (.lconst 0, 1) := by decide +kernel
theorem dX12_workPart_84 : decode cX12_workPart 84 = .ok (.lcmp, 1) := by decide +kernel
theorem dX12_workPart_85 : decode cX12_workPart 85 = .ok (.ifCond .lt 30, 3) := by decide +kernel
theorem dX12_workPart_88 : decode cX12_workPart 88 = .ok (.aload_n 0, 1) := by decide +kernel
theorem dX12_workPart_89 : decode cX12_workPart 89 = .ok (.getfield 788, 3) := by decide +kernel
theorem dX12_workPart_92 : decode cX12_workPart 92 = .ok (.aload_n 0, 1) := by decide +kernel
theorem dX12_workPart_93 : decode cX12_workPart 93 = .ok (.getfield 192, 3) := by decide +kernel
theorem dX12_workPart_96 : decode cX12_workPart 96 = .ok (.aload_n 0, 1) := by decide +kernel
theorem dX12_workPart_97 : decode cX12_workPart 97 = .ok (.aload_n 0, 1) := by decide +kernel
theorem dX12_workPart_98 : decode cX12_workPart 98 = .ok (.getfield 826, 3) := by decide +kernel
theorem dX12_workPart_101 : decode cX12_workPart 101 = .ok (.iload_n 2, 1) := by decide +kernel
theorem dX12_workPart_102 : decode cX12_workPart 102 = .ok (.invokevirtual 545, 3) := by decide +kernel
theorem dX12_workPart_105 : decode cX12_workPart 105 = .ok (.iaload, 1) := by decide +kernel
theorem dX12_workPart_106 : decode cX12_workPart 106 = .ok (.i2l, 1) := by decide +kernel
theorem dX12_workPart_107 : decode cX12_workPart 107 = .ok (.lcmp, 1) := by decide +kernel
theorem dX12_workPart_108 : decode cX12_workPart 108 = .ok (.ifCond .ge 7, 3) := by decide +kernel
theorem dX12_workPart_111 : decode cX12_workPart 111 = .ok (.iconst 1, 1) := by decide +kernel
theorem dX12_workPart_112 : decode cX12_workPart 112 = .ok (.goto 4, 3) := by decide +kernel
theorem dX12_workPart_115 : decode cX12_workPart 115 = .ok (.iconst 0, 1) := by decide +kernel
theorem dX12_workPart_116 : decode cX12_workPart 116 = .ok (.istore_n 3, 1) := by decide +kernel
theorem dX12_workPart_117 : decode cX12_workPart 117 = .ok (.iload_n 3, 1) := by decide +kernel
theorem dX12_workPart_118 : decode cX12_workPart 118 = .ok (.ifCond .ne 10, 3) := by decide +kernel
theorem dX12_workPart_121 : decode cX12_workPart 121 = .ok (.aload_n 0, 1) := by decide +kernel
theorem dX12_workPart_122 : decode cX12_workPart 122 = .ok (.invokevirtual 798, 3) := by decide +kernel
theorem dX12_workPart_125 : decode cX12_workPart 125 = .ok (.goto 60, 3) := by decide +kernel
theorem dX12_workPart_128 : decode cX12_workPart 128 = .ok (.aload_n 0, 1) := by decide +kernel
theorem dX12_workPart_129 : decode cX12_workPart 129 = .ok (.aload_n 0, 1) := by decide +kernel
theorem dX12_workPart_130 : decode cX12_workPart 130 = .ok (.getfield 826, 3) := by decide +kernel
theorem dX12_workPart_133 : decode cX12_workPart 133 = .ok (.iload_n 2, 1) := by decide +kernel
theorem dX12_workPart_134 : decode cX12_workPart 134 = .ok (.aload_n 0, 1) := by decide +kernel
theorem dX12_workPart_135 : decode cX12_workPart 135 = .ok (.getfield 788, 3) := by decide +kernel
theorem dX12_workPart_138 : decode cX12_workPart 138 = .ok (.l2i, 1) := by decide +kernel
theorem dX12_workPart_139 : decode cX12_workPart 139 = .ok (.invokevirtual 573, 3) := by decide +kernel
theorem dX12_workPart_142 : decode cX12_workPart 142 = .ok (.ifCond .eq 24, 3) := by decide +kernel
theorem dX12_workPart_145 : decode cX12_workPart 145 = .ok (.aload_n 0, 1) := by decide +kernel
theorem dX12_workPart_146 : decode cX12_workPart 146 = .ok (.aload_n 0, 1) := by decide +kernel
theorem dX12_workPart_147 : decode cX12_workPart 147 = .ok (.aload_n 0, 1) := by decide +kernel
theorem dX12_workPart_148 : decode cX12_workPart 148 = .ok (.getfield 826, 3) := by decide +kernel
theorem dX12_workPart_151 : decode cX12_workPart 151 = .ok (.iload_n 2, 1) := by decide +kernel
theorem dX12_workPart_152 : decode cX12_workPart 152 = .ok (.aload_n 0, 1) := by decide +kernel
theorem dX12_workPart_153 : decode cX12_workPart 153 = .ok (.getfield 788, 3) := by decide +kernel
theorem dX12_workPart_156 : decode cX12_workPart 156 = .ok (.l2i, 1) := by decide +kernel
theorem dX12_workPart_157 : decode cX12_workPart 157 = .ok (.invokevirtual 577, 3) := by decide +kernel
theorem dX12_workPart_160 : decode cX12_workPart 160 = .ok (.invokevirtual 840, 3) := by decide +kernel
theorem dX12_workPart_163 : decode cX12_workPart 163 = .ok (.goto 22, 3) := by decide +kernel
theorem dX12_workPart_166 : decode cX12_workPart 166 = .ok (.aload_n 0, 1) := by decide +kernel
theorem dX12_workPart_167 : decode cX12_workPart 167 = .ok (.iconst 0, 1) := by decide +kernel
theorem dX12_workPart_168 : decode cX12_workPart 168 = .ok (.aload_n 0, 1) := by decide +kernel
theorem dX12_workPart_169 : decode cX12_workPart 169 = .ok (.aload_n 0, 1) := by decide +kernel
theorem dX12_workPart_170 : decode cX12_workPart 170 = .ok (.getfield 826, 3) := by decide +kernel
theorem dX12_workPart_173 : decode cX12_workPart 173 = .ok (.iload_n 2, 1) := by decide +kernel
theorem dX12_workPart_174 : decode cX12_workPart 174 = .ok (.aload_n 0, 1) := by decide +kernel
theorem dX12_workPart_175 : decode cX12_workPart 175 = .ok (.getfield 788, 3) := by decide +kernel
theorem dX12_workPart_178 : decode cX12_workPart 178 = .ok (.l2i, 1) := by decide +kernel
theorem dX12_workPart_179 : decode cX12_workPart 179 = .ok (.invokevirtual 577, 3) := by decide +kernel
theorem dX12_workPart_182 : decode cX12_workPart 182 = .ok (.invokevirtual 791, 3) := by decide +kernel
theorem dX12_workPart_185 : decode cX12_workPart 185 = .ok (.return_, 1) := by decide +kernel
theorem dX12_workSet_0 : decode cX12_workSet 0 = .ok (.aload_n 0, 1) := by decide +kernel
theorem dX12_workSet_1 : decode cX12_workSet 1 = .ok (.getfield 272, 3) := by decide +kernel
theorem dX12_workSet_4 : decode cX12_workSet 4 = .ok (.iload_n 1, 1) := by decide +kernel
theorem dX12_workSet_5 : decode cX12_workSet 5 = .ok (.iaload, 1) := by decide +kernel
theorem dX12_workSet_6 : decode cX12_workSet 6 = .ok (.istore_n 3, 1) := by decide +kernel
theorem dX12_workSet_7 : decode cX12_workSet 7 = .ok (.aload_n 0, 1) := by decide +kernel
theorem dX12_workSet_8 : decode cX12_workSet 8 = .ok (.getfield 297, 3) := by decide +kernel
theorem dX12_workSet_11 : decode cX12_workSet 11 = .ok (.iload_n 2, 1) := by decide +kernel
theorem dX12_workSet_12 : decode cX12_workSet 12 = .ok (.iconst 0, 1) := by decide +kernel
theorem dX12_workSet_13 : decode cX12_workSet 13 = .ok (.iastore, 1) := by decide +kernel
theorem dX12_workSet_14 : decode cX12_workSet 14 = .ok (.aload_n 0, 1) := by decide +kernel
theorem dX12_workSet_15 : decode cX12_workSet 15 = .ok (.invokevirtual 795, 3) := by decide +kernel
theorem dX12_workSet_18 : decode cX12_workSet 18 = .ok (.aload_n 0, 1) := by decide +kernel
theorem dX12_workSet_19 : decode cX12_workSet 19 = .ok (.getfield 782, 3) := by decide +kernel
theorem dX12_workSet_22 : decode cX12_workSet 22 = .ok (.ifCond .eq 4, 3) := by decide +kernel
theorem dX12_workSet_25 : decode cX12_workSet 25 = .ok (.return_, 1) := by decide +kernel
theorem dX12_workSet_26 : decode cX12_workSet 26 = .ok (.iload_n 3, 1) := by decide +kernel
theorem dX12_workSet_27 : decode cX12_workSet 27 = .ok (.ifCond .eq 13, 3) := by decide +kernel
theorem dX12_workSet_30 : decode cX12_workSet 30 = .ok (.iload_n 3, 1) := by decide +kernel
theorem dX12_workSet_31 : decode cX12_workSet 31 = .ok (.iconst 1, 1) := by decide +kernel
theorem dX12_workSet_32 : decode cX12_workSet 32 = .ok (.if_icmp .eq 8, 3) := by decide +kernel
theorem dX12_workSet_35 : decode cX12_workSet 35 = .ok (.iload_n 3, 1) := by decide +kernel
theorem dX12_workSet_36 : decode cX12_workSet 36 = .ok (.iconst 2, 1) := by decide +kernel
theorem dX12_workSet_37 : decode cX12_workSet 37 = .ok (.if_icmp .ne 89, 3) := by decide +kernel
theorem dX12_workSet_40 : decode cX12_workSet 40 = .ok (.iconst 0, 1) := by decide +kernel
theorem dX12_workSet_41 : decode cX12_workSet 41 = .ok (.istore 4, 2) := by decide +kernel
theorem dX12_workSet_43 : decode cX12_workSet 43 = .ok (.iload 4, 2) := by decide +kernel
theorem dX12_workSet_45 : decode cX12_workSet 45 = .ok (.aload_n 0, 1) := by decide +kernel
theorem dX12_workSet_46 : decode cX12_workSet 46 = .ok (.getfield 183, 3) := by decide +kernel
theorem dX12_workSet_49 : decode cX12_workSet 49 = .ok (.aload_n 0, 1) := by decide +kernel
theorem dX12_workSet_50 : decode cX12_workSet 50 = .ok (.getfield 826, 3) := by decide +kernel
theorem dX12_workSet_53 : decode cX12_workSet 53 = .ok (.iaload, 1) := by decide +kernel
theorem dX12_workSet_54 : decode cX12_workSet 54 = .ok (.if_icmp .ge 71, 3) := by decide +kernel
theorem dX12_workSet_57 : decode cX12_workSet 57 = .ok (.aload_n 0, 1) := by decide +kernel
theorem dX12_workSet_58 : decode cX12_workSet 58 = .ok (.getfield 189, 3) := by decide +kernel
theorem dX12_workSet_61 : decode cX12_workSet 61 = .ok (.aload_n 0, 1) := by decide +kernel
theorem dX12_workSet_62 : decode cX12_workSet 62 = .ok (.aload_n 0, 1) := by decide +kernel
theorem dX12_workSet_63 : decode cX12_workSet 63 = .ok (.getfield 826, 3) := by decide +kernel
theorem dX12_workSet_66 : decode cX12_workSet 66 = .ok (.iload 4, 2) := by decide +kernel
theorem dX12_workSet_68 : decode cX12_workSet 68 = .ok (.invokevirtual 545, 3) := by decide +kernel
theorem dX12_workSet_71 : decode cX12_workSet 71 = .ok (.iaload, 1) := by decide +kernel
theorem dX12_workSet_72 : decode cX12_workSet 72 = .ok (.istore 5, 2) := by decide +kernel
theorem dX12_workSet_74 : decode cX12_workSet 74 = .ok (.iload_n 3, 1) := by decide +kernel
theorem dX12_workSet_75 : decode cX12_workSet 75 = .ok (.iconst 2, 1) := by decide +kernel
theorem dX12_workSet_76 : decode cX12_workSet 76 = .ok (.if_icmp .eq 36, 3) := by decide +kernel
theorem dX12_workSet_79 : decode cX12_workSet 79 = .ok (.aload_n 0, 1) := by decide +kernel
theorem dX12_workSet_80 : decode cX12_workSet 80 = .ok (.iload 5, 2) := by decide +kernel
theorem dX12_workSet_82 : decode cX12_workSet 82 = .ok (.invokevirtual 416, 3) := by decide +kernel
theorem dX12_workSet_85 : decode cX12_workSet 85 = .ok (.ifCond .eq 34, 3) := by decide +kernel
theorem dX12_workSet_88 : decode cX12_workSet 88 = .ok (.aload_n 0, 1) := by decide +kernel
theorem dX12_workSet_89 : decode cX12_workSet 89 = .ok (.iload 5, 2) := by decide +kernel
theorem dX12_workSet_91 : decode cX12_workSet 91 = .ok (.aload_n 0, 1) := by decide +kernel
theorem dX12_workSet_92 : decode cX12_workSet 92 = .ok (.getfield 284, 3) := by decide +kernel
theorem dX12_workSet_95 : decode cX12_workSet 95 = .ok (.iload_n 1, 1) := by decide +kernel
theorem dX12_workSet_96 : decode cX12_workSet 96 = .ok (.laload, 1) := by decide +kernel
theorem dX12_workSet_97 : decode cX12_workSet 97 = .ok (.iload_n 3, 1) := by decide +kernel
theorem dX12_workSet_98 : decode cX12_workSet 98 = .ok (.ifCond .ne 7, 3) := by decide +kernel
theorem dX12_workSet_101 : decode cX12_workSet 101 = .ok (.iconst 1, 1) := by decide +kernel
theorem dX12_workSet_102 : decode cX12_workSet 102 = .ok (.goto 4, 3) := by decide +kernel
theorem dX12_workSet_105 : decode cX12_workSet 105 = .ok (.iconst 0, 1) := by decide +kernel
theorem dX12_workSet_106 : decode cX12_workSet 106 = .ok (.invokevirtual 832, 3) := by decide +kernel
theorem dX12_workSet_109 : decode cX12_workSet 109 = .ok (.ifCond .eq 10, 3) := by decide +kernel
theorem dX12_workSet_112 : decode cX12_workSet 112 = .ok (.aload_n 0, 1) := by decide +kernel
theorem dX12_workSet_113 : decode cX12_workSet 113 = .ok (.iload_n 2, 1) := by decide +kernel
theorem dX12_workSet_114 : decode cX12_workSet 114 = .ok (.iload 4, 2) := by decide +kernel
theorem dX12_workSet_116 : decode cX12_workSet 116 = .ok (.invokevirtual 843, 3) := by decide +kernel
theorem dX12_workSet_119 : decode cX12_workSet 119 = .ok (.iinc 4 1, 3) := by decide +kernel
theorem dX12_workSet_122 : decode cX12_workSet 122 = .ok (.goto (-79), 3) := by decide +kernel
theorem dX12_workSet_125 : decode cX12_workSet 125 = .ok (.return_, 1) := by decide +kernel
theorem dX12_workSet_126 : decode cX12_workSet 126 = .ok (.aload_n 0, 1) := by decide +kernel
theorem dX12_workSet_127 : decode cX12_workSet 127 = .ok (.aload_n 0, 1) := by decide +kernel
theorem dX12_workSet_128 : decode cX12_workSet 128 = .ok (.getfield 275, 3) := by decide +kernel
theorem dX12_workSet_131 : decode cX12_workSet 131 = .ok (.iload_n 1, 1) := by decide +kernel
theorem dX12_workSet_132 : decode cX12_workSet 132 = .ok (.iaload, 1) := by decide +kernel
theorem dX12_workSet_133 : decode cX12_workSet 133 = .ok (.invokevirtual 829, 3) := by decide +kernel
theorem dX12_workSet_136 : decode cX12_workSet 136 = .ok (.aload_n 0, 1) := by decide +kernel
theorem dX12_workSet_137 : decode cX12_workSet 137 = .ok (.getfield 297, 3) := by decide +kernel
theorem dX12_workSet_140 : decode cX12_workSet 140 = .ok (.iload_n 2, 1) := by decide +kernel
theorem dX12_workSet_141 : decode cX12_workSet 141 = .ok (.iconst 0, 1) := by decide +kernel
theorem dX12_workSet_142 : decode cX12_workSet 142 = .ok (.iastore, 1) := by decide +kernel
theorem dX12_workSet_143 : decode cX12_workSet 143 = .ok (.aload_n 0, 1) := by decide +kernel
theorem dX12_workSet_144 : decode cX12_workSet 144 = .ok (.getfield 782, 3) := by decide +kernel
theorem dX12_workSet_147 : decode cX12_workSet 147 = .ok (.ifCond .ne 11, 3) := by decide +kernel
theorem dX12_workSet_150 : decode cX12_workSet 150 = .ok (.aload_n 0, 1) := by decide +kernel
theorem dX12_workSet_151 : decode cX12_workSet 151 = .ok (.getfield 785, 3) := by decide +kernel
theorem dX12_workSet_154 : decode cX12_workSet 154 = .ok (.iconst 2, 1) := by decide +kernel
theorem dX12_workSet_155 : decode cX12_workSet 155 = .ok (.if_icmp .eq 4, 3) := by decide +kernel
theorem dX12_workSet_158 : decode cX12_workSet 158 = .ok (.return_, 1) := by decide +kernel
theorem dX12_workSet_159 : decode cX12_workSet 159 = .ok (.aload_n 0, 1) := by decide +kernel
theorem dX12_workSet_160 : decode cX12_workSet 160 = .ok (.getfield 788, 3) := by decide +kernel
theorem dX12_workSet_163 : decode cX12_workSet 163 = .ok (.l2i, 1) := by decide +kernel
theorem dX12_workSet_164 : decode cX12_workSet 164 = .ok (.istore 4, 2) := by decide +kernel
theorem dX12_workSet_166 : decode cX12_workSet 166 = .ok (.iload_n 3, 1) := by decide +kernel
theorem dX12_workSet_167 : decode cX12_workSet 167 = .ok (.bipush 24, 2) := by decide +kernel
theorem dX12_workSet_169 : decode cX12_workSet 169 = .ok (.if_icmp .ne 82, 3) := by decide +kernel
theorem dX12_workSet_172 : decode cX12_workSet 172 = .ok (.iconst 0, 1) := by decide +kernel
theorem dX12_workSet_173 : decode cX12_workSet 173 = .ok (.istore 5, 2) := by decide +kernel
theorem dX12_workSet_175 : decode cX12_workSet 175 = .ok (.iload 5, 2) := by decide +kernel
theorem dX12_workSet_177 : decode cX12_workSet 177 = .ok (.aload_n 0, 1) := by decide +kernel
theorem dX12_workSet_178 : decode cX12_workSet 178 = .ok (.aload_n 0, 1) := by decide +kernel
theorem dX12_workSet_179 : decode cX12_workSet 179 = .ok (.getfield 826, 3) := by decide +kernel
theorem dX12_workSet_182 : decode cX12_workSet 182 = .ok (.iload 4, 2) := by decide +kernel
theorem dX12_workSet_184 : decode cX12_workSet 184 = .ok (.invokevirtual 570, 3) := by decide +kernel
theorem dX12_workSet_187 : decode cX12_workSet 187 = .ok (.if_icmp .ge 61, 3) := by decide +kernel
theorem dX12_workSet_190 : decode cX12_workSet 190 = .ok (.aload_n 0, 1) := by decide +kernel
theorem dX12_workSet_191 : decode cX12_workSet 191 = .ok (.aload_n 0, 1) := by decide +kernel
theorem dX12_workSet_192 : decode cX12_workSet 192 = .ok (.getfield 826, 3) := by decide +kernel
theorem dX12_workSet_195 : decode cX12_workSet 195 = .ok (.iload 4, 2) := by decide +kernel
theorem dX12_workSet_197 : decode cX12_workSet 197 = .ok (.iload 5, 2) := by decide +kernel
theorem dX12_workSet_199 : decode cX12_workSet 199 = .ok (.invokevirtual 573, 3) := by decide +kernel
theorem dX12_workSet_202 : decode cX12_workSet 202 = .ok (.ifCond .eq 40, 3) := by decide +kernel
theorem dX12_workSet_205 : decode cX12_workSet 205 = .ok (.aload_n 0, 1) := by decide +kernel
theorem dX12_workSet_206 : decode cX12_workSet 206 = .ok (.aload_n 0, 1) := by decide +kernel
theorem dX12_workSet_207 : decode cX12_workSet 207 = .ok (.getfield 826, 3) := by decide +kernel
theorem dX12_workSet_210 : decode cX12_workSet 210 = .ok (.iload 4, 2) := by decide +kernel
theorem dX12_workSet_212 : decode cX12_workSet 212 = .ok (.iload 5, 2) := by decide +kernel
theorem dX12_workSet_214 : decode cX12_workSet 214 = .ok (.invokevirtual 577, 3) := by decide +kernel
theorem dX12_workSet_217 : decode cX12_workSet 217 = .ok (.ldc2_w 433, 3) := by decide +kernel
theorem dX12_workSet_220 : decode cX12_workSet 220 = .ok (.lcmp, 1) := by decide +kernel
theorem dX12_workSet_221 : decode cX12_workSet 221 = .ok (.ifCond .eq 21, 3) := by decide +kernel
theorem dX12_workSet_224 : decode cX12_workSet 224 = .ok (.aload_n 0, 1) := by decide +kernel
theorem dX12_workSet_225 : decode cX12_workSet 225 = .ok (.iload_n 2, 1) := by decide +kernel
theorem dX12_workSet_226 : decode cX12_workSet 226 = .ok (.aload_n 0, 1) := by decide +kernel
theorem dX12_workSet_227 : decode cX12_workSet 227 = .ok (.aload_n 0, 1) := by decide +kernel
theorem dX12_workSet_228 : decode cX12_workSet 228 = .ok (.getfield 826, 3) := by decide +kernel
theorem dX12_workSet_231 : decode cX12_workSet 231 = .ok (.iload 4, 2) := by decide +kernel
theorem dX12_workSet_233 : decode cX12_workSet 233 = .ok (.iload 5, 2) := by decide +kernel
theorem dX12_workSet_235 : decode cX12_workSet 235 = .ok (.invokevirtual 577, 3) := by decide +kernel
theorem dX12_workSet_238 : decode cX12_workSet 238 = .ok (.l2i, 1) := by decide +kernel
theorem dX12_workSet_239 : decode cX12_workSet 239 = .ok (.invokevirtual 843, 3) := by decide +kernel
theorem dX12_workSet_242 : decode cX12_workSet 242 = .ok (.iinc 5 1, 3) := by decide +kernel
theorem dX12_workSet_245 : decode cX12_workSet 245 = .ok (.goto (-70), 3) := by decide +kernel
theorem dX12_workSet_248 : decode cX12_workSet 248 = .ok (.goto 213, 3) := by decide +kernel
theorem dX12_workSet_251 : decode cX12_workSet 251 = .ok (.iload_n 3, 1) := by decide +kernel
theorem dX12_workSet_252 : decode cX12_workSet 252 = .ok (.bipush 25, 2) := by decide +kernel
theorem dX12_workSet_254 : decode cX12_workSet 254 = .ok (.if_icmp .ne 94, 3) := by decide +kernel
theorem dX12_workSet_257 : decode cX12_workSet 257 = .ok (.iconst 0, 1) := by decide +kernel
theorem dX12_workSet_258 : decode cX12_workSet 258 = .ok (.istore 5, 2) := by decide +kernel
theorem dX12_workSet_260 : decode cX12_workSet 260 = .ok (.iload 5, 2) := by decide +kernel
theorem dX12_workSet_262 : decode cX12_workSet 262 = .ok (.aload_n 0, 1) := by decide +kernel
theorem dX12_workSet_263 : decode cX12_workSet 263 = .ok (.getfield 183, 3) := by decide +kernel
theorem dX12_workSet_266 : decode cX12_workSet 266 = .ok (.aload_n 0, 1) := by decide +kernel
theorem dX12_workSet_267 : decode cX12_workSet 267 = .ok (.getfield 826, 3) := by decide +kernel
theorem dX12_workSet_270 : decode cX12_workSet 270 = .ok (.iaload, 1) := by decide +kernel
theorem dX12_workSet_271 : decode cX12_workSet 271 = .ok (.if_icmp .ge 74, 3) := by decide +kernel
theorem dX12_workSet_274 : decode cX12_workSet 274 = .ok (.iconst 0, 1) := by decide +kernel
theorem dX12_workSet_275 : decode cX12_workSet 275 = .ok (.istore 6, 2) := by decide +kernel
theorem dX12_workSet_277 : decode cX12_workSet 277 = .ok (.iload 6, 2) := by decide +kernel
theorem dX12_workSet_279 : decode cX12_workSet 279 = .ok (.aload_n 0, 1) := by decide +kernel
theorem dX12_workSet_280 : decode cX12_workSet 280 = .ok (.aload_n 0, 1) := by decide +kernel
theorem dX12_workSet_281 : decode cX12_workSet 281 = .ok (.getfield 826, 3) := by decide +kernel
theorem dX12_workSet_284 : decode cX12_workSet 284 = .ok (.iload 5, 2) := by decide +kernel
theorem dX12_workSet_286 : decode cX12_workSet 286 = .ok (.invokevirtual 570, 3) := by decide +kernel
theorem dX12_workSet_289 : decode cX12_workSet 289 = .ok (.if_icmp .ge 50, 3) := by decide +kernel
theorem dX12_workSet_292 : decode cX12_workSet 292 = .ok (.aload_n 0, 1) := by decide +kernel
theorem dX12_workSet_293 : decode cX12_workSet 293 = .ok (.aload_n 0, 1) := by decide +kernel
theorem dX12_workSet_294 : decode cX12_workSet 294 = .ok (.getfield 826, 3) := by decide +kernel
theorem dX12_workSet_297 : decode cX12_workSet 297 = .ok (.iload 5, 2) := by decide +kernel
theorem dX12_workSet_299 : decode cX12_workSet 299 = .ok (.iload 6, 2) := by decide +kernel
theorem dX12_workSet_301 : decode cX12_workSet 301 = .ok (.invokevirtual 573, 3) := by decide +kernel
theorem dX12_workSet_304 : decode cX12_workSet 304 = .ok (.ifCond .eq 29, 3) := by decide +kernel
theorem dX12_workSet_307 : decode cX12_workSet 307 = .ok (.aload_n 0, 1) := by decide +kernel
theorem dX12_workSet_308 : decode cX12_workSet 308 = .ok (.aload_n 0, 1) := by decide +kernel
theorem dX12_workSet_309 : decode cX12_workSet 309 = .ok (.getfield 826, 3) := by decide +kernel
theorem dX12_workSet_312 : decode cX12_workSet 312 = .ok (.iload 5, 2) := by decide +kernel
theorem dX12_workSet_314 : decode cX12_workSet 314 = .ok (.iload 6, 2) := by decide +kernel
theorem dX12_workSet_316 : decode cX12_workSet 316 = .ok (.invokevirtual 577, 3) := by decide +kernel
theorem dX12_workSet_319 : decode cX12_workSet 319 = .ok (.iload 4, 2) := by decide +kernel
theorem dX12_workSet_321 : decode cX12_workSet 321 = .ok (.i2l, 1) := by decide +kernel
theorem dX12_workSet_322 : decode cX12_workSet 322 = .ok (.lcmp, 1) := by decide +kernel
theorem dX12_workSet_323 : decode cX12_workSet 323 = .ok (.ifCond .ne 10, 3) := by decide +kernel
theorem dX12_workSet_326 : decode cX12_workSet 326 = .ok (.aload_n 0, 1) := by decide +kernel
theorem dX12_workSet_327 : decode cX12_workSet 327 = .ok (.iload_n 2, 1) := by decide +kernel
theorem dX12_workSet_328 : decode cX12_workSet 328 = .ok (.iload 5, 2) := by decide +kernel
theorem dX12_workSet_330 : decode cX12_workSet 330 = .ok (.invokevirtual 843, 3) := by decide +kernel
theorem dX12_workSet_333 : decode cX12_workSet 333 = .ok (.iinc 6 1, 3) := by decide +kernel
theorem dX12_workSet_336 : decode cX12_workSet 336 = .ok (.goto (-59), 3) := by decide +kernel
theorem dX12_workSet_339 : decode cX12_workSet 339 = .ok (.iinc 5 1, 3) := by decide +kernel
theorem dX12_workSet_342 : decode cX12_workSet 342 = .ok (.goto (-82), 3) := by decide +kernel
theorem dX12_workSet_345 : decode cX12_workSet 345 = .ok (.goto 116, 3) := by decide +kernel
theorem dX12_workSet_348 : decode cX12_workSet 348 = .ok (.iconst 0, 1) := by decide +kernel
theorem dX12_workSet_349 : decode cX12_workSet 349 = .ok (.istore 5, 2) := by decide +kernel
theorem dX12_workSet_351 : decode cX12_workSet 351 = .ok (.iload 5, 2) := by decide +kernel
theorem dX12_workSet_353 : decode cX12_workSet 353 = .ok (.aload_n 0, 1) := by decide +kernel
theorem dX12_workSet_354 : decode cX12_workSet 354 = .ok (.getfield 183, 3) := by decide +kernel
theorem dX12_workSet_357 : decode cX12_workSet 357 = .ok (.aload_n 0, 1) := by decide +kernel
theorem dX12_workSet_358 : decode cX12_workSet 358 = .ok (.getfield 826, 3) := by decide +kernel
theorem dX12_workSet_361 : decode cX12_workSet 361 = .ok (.iaload, 1) := by decide +kernel
theorem dX12_workSet_362 : decode cX12_workSet 362 = .ok (.if_icmp .ge 17, 3) := by decide +kernel
theorem dX12_workSet_365 : decode cX12_workSet 365 = .ok (.aload_n 0, 1) := by decide +kernel
theorem dX12_workSet_366 : decode cX12_workSet 366 = .ok (.getfield 249, 3) := by decide +kernel
theorem dX12_workSet_369 : decode cX12_workSet 369 = .ok (.iload 5, 2) := by decide +kernel
theorem dX12_workSet_371 : decode cX12_workSet 371 = .ok (.iconst 0, 1) := by decide +kernel
theorem dX12_workSet_372 : decode cX12_workSet 372 = .ok (.bastore, 1) := by decide +kernel
theorem dX12_workSet_373 : decode cX12_workSet 373 = .ok (.iinc 5 1, 3) := by decide +kernel
theorem dX12_workSet_376 : decode cX12_workSet 376 = .ok (.goto (-25), 3) := by decide +kernel
theorem dX12_workSet_379 : decode cX12_workSet 379 = .ok (.aload_n 0, 1) := by decide +kernel
theorem dX12_workSet_380 : decode cX12_workSet 380 = .ok (.iconst 0, 1) := by decide +kernel
theorem dX12_workSet_381 : decode cX12_workSet 381 = .ok (.putfield 581, 3) := by decide +kernel
theorem dX12_workSet_384 : decode cX12_workSet 384 = .ok (.aload_n 0, 1) := by decide +kernel
theorem dX12_workSet_385 : decode cX12_workSet 385 = .ok (.aload_n 0, 1) := by decide +kernel
theorem dX12_workSet_386 : decode cX12_workSet 386 = .ok (.getfield 826, 3) := by decide +kernel
theorem dX12_workSet_389 : decode cX12_workSet 389 = .ok (.iload 4, 2) := by decide +kernel
theorem dX12_workSet_391 : decode cX12_workSet 391 = .ok (.iconst (-1), 1) := by decide +kernel
theorem dX12_workSet_392 : decode cX12_workSet 392 = .ok (.iconst 0, 1) := by decide +kernel
theorem dX12_workSet_393 : decode cX12_workSet 393 = .ok (.invokevirtual 584, 3) := by decide +kernel
theorem dX12_workSet_396 : decode cX12_workSet 396 = .ok (.iconst 0, 1) := by decide +kernel
theorem dX12_workSet_397 : decode cX12_workSet 397 = .ok (.istore 5, 2) := by decide +kernel
theorem dX12_workSet_399 : decode cX12_workSet 399 = .ok (.iload 5, 2) := by decide +kernel
theorem dX12_workSet_401 : decode cX12_workSet 401 = .ok (.aload_n 0, 1) := by decide +kernel
theorem dX12_workSet_402 : decode cX12_workSet 402 = .ok (.getfield 581, 3) := by decide +kernel
theorem dX12_workSet_405 : decode cX12_workSet 405 = .ok (.if_icmp .ge 26, 3) := by decide +kernel
theorem dX12_workSet_408 : decode cX12_workSet 408 = .ok (.aload_n 0, 1) := by decide +kernel
theorem dX12_workSet_409 : decode cX12_workSet 409 = .ok (.aload_n 0, 1) := by decide +kernel
theorem dX12_workSet_410 : decode cX12_workSet 410 = .ok (.getfield 826, 3) := by decide +kernel
theorem dX12_workSet_413 : decode cX12_workSet 413 = .ok (.aload_n 0, 1) := by decide +kernel
theorem dX12_workSet_414 : decode cX12_workSet 414 = .ok (.getfield 256, 3) := by decide +kernel
theorem dX12_workSet_417 : decode cX12_workSet 417 = .ok (.iload 5, 2) := by decide +kernel
theorem dX12_workSet_419 : decode cX12_workSet 419 = .ok (.iaload, 1) := by decide +kernel
theorem dX12_workSet_420 : decode cX12_workSet 420 = .ok (.iconst (-1), 1) := by decide +kernel
theorem dX12_workSet_421 : decode cX12_workSet 421 = .ok (.iconst 0, 1) := by decide +kernel
theorem dX12_workSet_422 : decode cX12_workSet 422 = .ok (.invokevirtual 588, 3) := by decide +kernel
theorem dX12_workSet_425 : decode cX12_workSet 425 = .ok (.iinc 5 1, 3) := by decide +kernel
theorem dX12_workSet_428 : decode cX12_workSet 428 = .ok (.goto (-29), 3) := by decide +kernel
theorem dX12_workSet_431 : decode cX12_workSet 431 = .ok (.iconst 0, 1) := by decide +kernel
theorem dX12_workSet_432 : decode cX12_workSet 432 = .ok (.istore 5, 2) := by decide +kernel
theorem dX12_workSet_434 : decode cX12_workSet 434 = .ok (.iload 5, 2) := by decide +kernel
theorem dX12_workSet_436 : decode cX12_workSet 436 = .ok (.aload_n 0, 1) := by decide +kernel
theorem dX12_workSet_437 : decode cX12_workSet 437 = .ok (.getfield 581, 3) := by decide +kernel
theorem dX12_workSet_440 : decode cX12_workSet 440 = .ok (.if_icmp .ge 21, 3) := by decide +kernel
theorem dX12_workSet_443 : decode cX12_workSet 443 = .ok (.aload_n 0, 1) := by decide +kernel
theorem dX12_workSet_444 : decode cX12_workSet 444 = .ok (.iload_n 2, 1) := by decide +kernel
theorem dX12_workSet_445 : decode cX12_workSet 445 = .ok (.aload_n 0, 1) := by decide +kernel
theorem dX12_workSet_446 : decode cX12_workSet 446 = .ok (.getfield 256, 3) := by decide +kernel
theorem dX12_workSet_449 : decode cX12_workSet 449 = .ok (.iload 5, 2) := by decide +kernel
theorem dX12_workSet_451 : decode cX12_workSet 451 = .ok (.iaload, 1) := by decide +kernel
theorem dX12_workSet_452 : decode cX12_workSet 452 = .ok (.invokevirtual 843, 3) := by decide +kernel
theorem dX12_workSet_455 : decode cX12_workSet 455 = .ok (.iinc 5 1, 3) := by decide +kernel
theorem dX12_workSet_458 : decode cX12_workSet 458 = .ok (.goto (-24), 3) := by decide +kernel
theorem dX12_workSet_461 : decode cX12_workSet 461 = .ok (.return_, 1) := by decide +kernel
theorem dX12_workTwo_0 : decode cX12_workTwo 0 = .ok (.aload_n 0, 1) := by decide +kernel
theorem dX12_workTwo_1 : decode cX12_workTwo 1 = .ok (.aload_n 0, 1) := by decide +kernel
theorem dX12_workTwo_2 : decode cX12_workTwo 2 = .ok (.getfield 275, 3) := by decide +kernel
theorem dX12_workTwo_5 : decode cX12_workTwo 5 = .ok (.iload_n 1, 1) := by decide +kernel
theorem dX12_workTwo_6 : decode cX12_workTwo 6 = .ok (.iaload, 1) := by decide +kernel
theorem dX12_workTwo_7 : decode cX12_workTwo 7 = .ok (.invokevirtual 829, 3) := by decide +kernel
theorem dX12_workTwo_10 : decode cX12_workTwo 10 = .ok (.aload_n 0, 1) := by decide +kernel
theorem dX12_workTwo_11 : decode cX12_workTwo 11 = .ok (.getfield 785, 3) := by decide +kernel
theorem dX12_workTwo_14 : decode cX12_workTwo 14 = .ok (.istore_n 2, 1) := by decide +kernel
theorem dX12_workTwo_15 : decode cX12_workTwo 15 = .ok (.aload_n 0, 1) := by decide +kernel
theorem dX12_workTwo_16 : decode cX12_workTwo 16 = .ok (.getfield 788, 3) := by decide +kernel
theorem dX12_workTwo_19 : decode cX12_workTwo 19 = .ok (.lstore_n 3, 1) := by decide +kernel
theorem dX12_workTwo_20 : decode cX12_workTwo 20 = .ok (.aload_n 0, 1) := by decide +kernel
theorem dX12_workTwo_21 : decode cX12_workTwo 21 = .ok (.aload_n 0, 1) := by decide +kernel
theorem dX12_workTwo_22 : decode cX12_workTwo 22 = .ok (.getfield 278, 3) := by decide +kernel
theorem dX12_workTwo_25 : decode cX12_workTwo 25 = .ok (.iload_n 1, 1) := by decide +kernel
theorem dX12_workTwo_26 : decode cX12_workTwo 26 = .ok (.iaload, 1) := by decide +kernel
theorem dX12_workTwo_27 : decode cX12_workTwo 27 = .ok (.invokevirtual 829, 3) := by decide +kernel
theorem dX12_workTwo_30 : decode cX12_workTwo 30 = .ok (.aload_n 0, 1) := by decide +kernel
theorem dX12_workTwo_31 : decode cX12_workTwo 31 = .ok (.getfield 782, 3) := by decide +kernel
theorem dX12_workTwo_34 : decode cX12_workTwo 34 = .ok (.ifCond .eq 4, 3) := by decide +kernel
theorem dX12_workTwo_37 : decode cX12_workTwo 37 = .ok (.return_, 1) := by decide +kernel
theorem dX12_workTwo_38 : decode cX12_workTwo 38 = .ok (.aload_n 0, 1) := by decide +kernel
theorem dX12_workTwo_39 : decode cX12_workTwo 39 = .ok (.getfield 788, 3) := by decide +kernel
theorem dX12_workTwo_42 : decode cX12_workTwo 42 = .ok (.lstore 5, 2) := by decide +kernel
theorem dX12_workTwo_44 : decode cX12_workTwo 44 = .ok (.aload_n 0, 1) := by decide +kernel
theorem dX12_workTwo_45 : decode cX12_workTwo 45 = .ok (.getfield 272, 3) := by decide +kernel
theorem dX12_workTwo_48 : decode cX12_workTwo 48 = .ok (.iload_n 1, 1) := by decide +kernel
theorem dX12_workTwo_49 : decode cX12_workTwo 49 = .ok (.iaload, 1) := by decide +kernel
theorem dX12_workTwo_50 : decode cX12_workTwo 50 = .ok (.istore 7, 2) := by decide +kernel
theorem dX12_workTwo_52 : decode cX12_workTwo 52 = .ok (.iload_n 2, 1) := by decide +kernel
theorem dX12_workTwo_53 : decode cX12_workTwo 53 = .ok (.iconst 2, 1) := by decide +kernel
theorem dX12_workTwo_54 : decode cX12_workTwo 54 = .ok (.if_icmp .eq 8, 3) := by decide +kernel
theorem dX12_workTwo_57 : decode cX12_workTwo 57 = .ok (.iload_n 2, 1) := by decide +kernel
theorem dX12_workTwo_58 : decode cX12_workTwo 58 = .ok (.iconst 3, 1) := by decide +kernel
theorem dX12_workTwo_59 : decode cX12_workTwo 59 = .ok (.if_icmp .ne 23, 3) := by decide +kernel
theorem dX12_workTwo_62 : decode cX12_workTwo 62 = .ok (.aload_n 0, 1) := by decide +kernel
theorem dX12_workTwo_63 : decode cX12_workTwo 63 = .ok (.getfield 785, 3) := by decide +kernel
theorem dX12_workTwo_66 : decode cX12_workTwo 66 = .ok (.iconst 2, 1) := by decide +kernel
theorem dX12_workTwo_67 : decode cX12_workTwo 67 = .ok (.if_icmp .eq 11, 3) := by decide +kernel
theorem dX12_workTwo_70 : decode cX12_workTwo 70 = .ok (.aload_n 0, 1) := by decide +kernel
theorem dX12_workTwo_71 : decode cX12_workTwo 71 = .ok (.getfield 785, 3) := by decide +kernel
theorem dX12_workTwo_74 : decode cX12_workTwo 74 = .ok (.iconst 3, 1) := by decide +kernel
theorem dX12_workTwo_75 : decode cX12_workTwo 75 = .ok (.if_icmp .ne 7, 3) := by decide +kernel
theorem dX12_workTwo_78 : decode cX12_workTwo 78 = .ok (.iconst 1, 1) := by decide +kernel
theorem dX12_workTwo_79 : decode cX12_workTwo 79 = .ok (.goto 4, 3) := by decide +kernel
theorem dX12_workTwo_82 : decode cX12_workTwo 82 = .ok (.iconst 0, 1) := by decide +kernel
theorem dX12_workTwo_83 : decode cX12_workTwo 83 = .ok (.istore 8, 2) := by decide +kernel
theorem dX12_workTwo_85 : decode cX12_workTwo 85 = .ok (.iload 7, 2) := by decide +kernel
theorem dX12_workTwo_87 : decode cX12_workTwo 87 = .ok (.bipush 102, 2) := by decide +kernel
theorem dX12_workTwo_89 : decode cX12_workTwo 89 = .ok (.if_icmp .eq 10, 3) := by decide +kernel
theorem dX12_workTwo_92 : decode cX12_workTwo 92 = .ok (.iload 7, 2) := by decide +kernel
theorem dX12_workTwo_94 : decode cX12_workTwo 94 = .ok (.bipush 103, 2) := by decide +kernel
theorem dX12_workTwo_96 : decode cX12_workTwo 96 = .ok (.if_icmp .ne 77, 3) := by decide +kernel
theorem dX12_workTwo_99 : decode cX12_workTwo 99 = .ok (.iload_n 2, 1) := by decide +kernel
theorem dX12_workTwo_100 : decode cX12_workTwo 100 = .ok (.aload_n 0, 1) := by decide +kernel
theorem dX12_workTwo_101 : decode cX12_workTwo 101 = .ok (.getfield 785, 3) := by decide +kernel
theorem dX12_workTwo_104 : decode cX12_workTwo 104 = .ok (.if_icmp .ne 14, 3) := by decide +kernel
theorem dX12_workTwo_107 : decode cX12_workTwo 107 = .ok (.lload_n 3, 1) := by decide +kernel
theorem dX12_workTwo_108 : decode cX12_workTwo 108 = .ok (.lload 5, 2) := by decide +kernel
theorem dX12_workTwo_110 : decode cX12_workTwo 110 = .ok (.lcmp, 1) := by decide +kernel
theorem dX12_workTwo_111 : decode cX12_workTwo 111 = .ok (.ifCond .ne 7, 3) := by decide +kernel
theorem dX12_workTwo_114 : decode cX12_workTwo 114 = .ok (.iconst 1, 1) := by decide +kernel
theorem dX12_workTwo_115 : decode cX12_workTwo 115 = .ok (.goto 4, 3) := by decide +kernel
theorem dX12_workTwo_118 : decode cX12_workTwo 118 = .ok (.iconst 0, 1) := by decide +kernel
theorem dX12_workTwo_119 : decode cX12_workTwo 119 = .ok (.istore 9, 2) := by decide +kernel
theorem dX12_workTwo_121 : decode cX12_workTwo 121 = .ok (.iload 8, 2) := by decide +kernel
theorem dX12_workTwo_123 : decode cX12_workTwo 123 = .ok (.ifCond .ne 16, 3) := by decide +kernel
theorem dX12_workTwo_126 : decode cX12_workTwo 126 = .ok (.iload_n 2, 1) := by decide +kernel
theorem dX12_workTwo_127 : decode cX12_workTwo 127 = .ok (.aload_n 0, 1) := by decide +kernel
theorem dX12_workTwo_128 : decode cX12_workTwo 128 = .ok (.getfield 785, 3) := by decide +kernel
theorem dX12_workTwo_131 : decode cX12_workTwo 131 = .ok (.if_icmp .ne 37, 3) := by decide +kernel
theorem dX12_workTwo_134 : decode cX12_workTwo 134 = .ok (.iload_n 2, 1) := by decide +kernel
theorem dX12_workTwo_135 : decode cX12_workTwo 135 = .ok (.iconst 2, 1) := by decide +kernel
theorem dX12_workTwo_136 : decode cX12_workTwo 136 = .ok (.if_icmp .ge 32, 3) := by decide +kernel
theorem dX12_workTwo_139 : decode cX12_workTwo 139 = .ok (.aload_n 0, 1) := by decide +kernel
theorem dX12_workTwo_140 : decode cX12_workTwo 140 = .ok (.iload 9, 2) := by decide +kernel
theorem dX12_workTwo_142 : decode cX12_workTwo 142 = .ok (.iload 7, 2) := by decide +kernel
theorem dX12_workTwo_144 : decode cX12_workTwo 144 = .ok (.bipush 102, 2) := by decide +kernel
theorem dX12_workTwo_146 : decode cX12_workTwo 146 = .ok (.if_icmp .ne 7, 3) := by decide +kernel
theorem dX12_workTwo_149 : decode cX12_workTwo 149 = .ok (.iconst 1, 1) := by decide +kernel
theorem dX12_workTwo_150 : decode cX12_workTwo 150 = .ok (.goto 4, 3) := by decide +kernel
theorem dX12_workTwo_153 : decode cX12_workTwo 153 = .ok (.iconst 0, 1) := by decide +kernel
theorem dX12_workTwo_154 : decode cX12_workTwo 154 = .ok (.if_icmp .ne 7, 3) := by decide +kernel
theorem dX12_workTwo_157 : decode cX12_workTwo 157 = .ok (.iconst 1, 1) := by decide +kernel
theorem dX12_workTwo_158 : decode cX12_workTwo 158 = .ok (.goto 4, 3) := by decide +kernel
theorem dX12_workTwo_161 : decode cX12_workTwo 161 = .ok (.iconst 0, 1) := by decide +kernel
theorem dX12_workTwo_162 : decode cX12_workTwo 162 = .ok (.invokevirtual 813, 3) := by decide +kernel
theorem dX12_workTwo_165 : decode cX12_workTwo 165 = .ok (.goto 7, 3) := by decide +kernel
theorem dX12_workTwo_168 : decode cX12_workTwo 168 = .ok (.aload_n 0, 1) := by decide +kernel
theorem dX12_workTwo_169 : decode cX12_workTwo 169 = .ok (.invokevirtual 798, 3) := by decide +kernel
theorem dX12_workTwo_172 : decode cX12_workTwo 172 = .ok (.return_, 1) := by decide +kernel
theorem dX12_workTwo_173 : decode cX12_workTwo 173 = .ok (.iload_n 2, 1) := by decide +kernel
theorem dX12_workTwo_174 : decode cX12_workTwo 174 = .ok (.ifCond .ne 31, 3) := by decide +kernel
theorem dX12_workTwo_177 : decode cX12_workTwo 177 = .ok (.aload_n 0, 1) := by decide +kernel
theorem dX12_workTwo_178 : decode cX12_workTwo 178 = .ok (.getfield 785, 3) := by decide +kernel
theorem dX12_workTwo_181 : decode cX12_workTwo 181 = .ok (.ifCond .ne 24, 3) := by decide +kernel
theorem dX12_workTwo_184 : decode cX12_workTwo 184 = .ok (.iload 7, 2) := by decide +kernel
theorem dX12_workTwo_186 : decode cX12_workTwo 186 = .ok (.bipush 111, 2) := by decide +kernel
theorem dX12_workTwo_188 : decode cX12_workTwo 188 = .ok (.if_icmp .eq 10, 3) := by decide +kernel
theorem dX12_workTwo_191 : decode cX12_workTwo 191 = .ok (.iload 7, 2) := by decide +kernel
theorem dX12_workTwo_193 : decode cX12_workTwo 193 = .ok (.bipush 112, 2) := by decide +kernel
theorem dX12_workTwo_195 : decode cX12_workTwo 195 = .ok (.if_icmp .ne 15, 3) := by decide +kernel
theorem dX12_workTwo_198 : decode cX12_workTwo 198 = .ok (.lload 5, 2) := by decide +kernel
theorem dX12_workTwo_200 : decode cX12_workTwo 200 = .ok (.lconst 0, 1) := by decide +kernel
theorem dX12_workTwo_201 : decode cX12_workTwo 201 = .ok (.lcmp, 1) := by decide +kernel
theorem dX12_workTwo_202 : decode cX12_workTwo 202 = .ok (.ifCond .ne 8, 3) := by decide +kernel
theorem dX12_workTwo_205 : decode cX12_workTwo 205 = .ok (.aload_n 0, 1) := by decide +kernel
theorem dX12_workTwo_206 : decode cX12_workTwo 206 = .ok (.invokevirtual 798, 3) := by decide +kernel
theorem dX12_workTwo_209 : decode cX12_workTwo 209 = .ok (.return_, 1) := by decide +kernel
theorem dX12_workTwo_210 : decode cX12_workTwo 210 = .ok (.iload 7, 2) := by decide +kernel
theorem dX12_workTwo_212 : decode cX12_workTwo 212 = .ok (.tableswitch 172 104 111 #[48, 67, 86, 105, 124, 136, 148, 160], 48) := by decide +kernel
theorem dX12_workTwo_260 : decode cX12_workTwo 260 = .ok (.aload_n 0, 1) := by decide +kernel
theorem dX12_workTwo_261 : decode cX12_workTwo 261 = .ok (.lload_n 3, 1) := by decide +kernel
theorem dX12_workTwo_262 : decode cX12_workTwo 262 = .ok (.lload 5, 2) := by decide +kernel
theorem dX12_workTwo_264 : decode cX12_workTwo 264 = .ok (.lcmp, 1) := by decide +kernel
theorem dX12_workTwo_265 : decode cX12_workTwo 265 = .ok (.ifCond .ge 7, 3) := by decide +kernel
theorem dX12_workTwo_268 : decode cX12_workTwo 268 = .ok (.iconst 1, 1) := by decide +kernel
theorem dX12_workTwo_269 : decode cX12_workTwo 269 = .ok (.goto 4, 3) := by decide +kernel
theorem dX12_workTwo_272 : decode cX12_workTwo 272 = .ok (.iconst 0, 1) := by decide +kernel
theorem dX12_workTwo_273 : decode cX12_workTwo 273 = .ok (.invokevirtual 813, 3) := by decide +kernel
theorem dX12_workTwo_276 : decode cX12_workTwo 276 = .ok (.goto 117, 3) := by decide +kernel
theorem dX12_workTwo_279 : decode cX12_workTwo 279 = .ok (.aload_n 0, 1) := by decide +kernel
theorem dX12_workTwo_280 : decode cX12_workTwo 280 = .ok (.lload_n 3, 1) := by decide +kernel
theorem dX12_workTwo_281 : decode cX12_workTwo 281 = .ok (.lload 5, 2) := by decide +kernel
theorem dX12_workTwo_283 : decode cX12_workTwo 283 = .ok (.lcmp, 1) := by decide +kernel
theorem dX12_workTwo_284 : decode cX12_workTwo 284 = .ok (.ifCond .gt 7, 3) := by decide +kernel
theorem dX12_workTwo_287 : decode cX12_workTwo 287 = .ok (.iconst 1, 1) := by decide +kernel
theorem dX12_workTwo_288 : decode cX12_workTwo 288 = .ok (.goto 4, 3) := by decide +kernel
theorem dX12_workTwo_291 : decode cX12_workTwo 291 = .ok (.iconst 0, 1) := by decide +kernel
theorem dX12_workTwo_292 : decode cX12_workTwo 292 = .ok (.invokevirtual 813, 3) := by decide +kernel
theorem dX12_workTwo_295 : decode cX12_workTwo 295 = .ok (.goto 98, 3) := by decide +kernel
theorem dX12_workTwo_298 : decode cX12_workTwo 298 = .ok (.aload_n 0, 1) := by decide +kernel
theorem dX12_workTwo_299 : decode cX12_workTwo 299 = .ok (.lload_n 3, 1) := by decide +kernel
theorem dX12_workTwo_300 : decode cX12_workTwo 300 = .ok (.lload 5, 2) := by decide +kernel
theorem dX12_workTwo_302 : decode cX12_workTwo 302 = .ok (.lcmp, 1) := by decide +kernel
theorem dX12_workTwo_303 : decode cX12_workTwo 303 = .ok (.ifCond .le 7, 3) := by decide +kernel
theorem dX12_workTwo_306 : decode cX12_workTwo 306 = .ok (.iconst 1, 1) := by decide +kernel
theorem dX12_workTwo_307 : decode cX12_workTwo 307 = .ok (.goto 4, 3) := by decide +kernel
theorem dX12_workTwo_310 : decode cX12_workTwo 310 = .ok (.iconst 0, 1) := by decide +kernel
theorem dX12_workTwo_311 : decode cX12_workTwo 311 = .ok (.invokevirtual 813, 3) := by decide +kernel
theorem dX12_workTwo_314 : decode cX12_workTwo 314 = .ok (.goto 79, 3) := by decide +kernel
theorem dX12_workTwo_317 : decode cX12_workTwo 317 = .ok (.aload_n 0, 1) := by decide +kernel
theorem dX12_workTwo_318 : decode cX12_workTwo 318 = .ok (.lload_n 3, 1) := by decide +kernel
theorem dX12_workTwo_319 : decode cX12_workTwo 319 = .ok (.lload 5, 2) := by decide +kernel
theorem dX12_workTwo_321 : decode cX12_workTwo 321 = .ok (.lcmp, 1) := by decide +kernel
theorem dX12_workTwo_322 : decode cX12_workTwo 322 = .ok (.ifCond .lt 7, 3) := by decide +kernel
theorem dX12_workTwo_325 : decode cX12_workTwo 325 = .ok (.iconst 1, 1) := by decide +kernel
theorem dX12_workTwo_326 : decode cX12_workTwo 326 = .ok (.goto 4, 3) := by decide +kernel
theorem dX12_workTwo_329 : decode cX12_workTwo 329 = .ok (.iconst 0, 1) := by decide +kernel
theorem dX12_workTwo_330 : decode cX12_workTwo 330 = .ok (.invokevirtual 813, 3) := by decide +kernel
theorem dX12_workTwo_333 : decode cX12_workTwo 333 = .ok (.goto 60, 3) := by decide +kernel
theorem dX12_workTwo_336 : decode cX12_workTwo 336 = .ok (.aload_n 0, 1) := by decide +kernel
theorem dX12_workTwo_337 : decode cX12_workTwo 337 = .ok (.iconst 0, 1) := by decide +kernel
theorem dX12_workTwo_338 : decode cX12_workTwo 338 = .ok (.lload_n 3, 1) := by decide +kernel
theorem dX12_workTwo_339 : decode cX12_workTwo 339 = .ok (.lload 5, 2) := by decide +kernel
theorem dX12_workTwo_341 : decode cX12_workTwo 341 = .ok (.ladd, 1) := by decide +kernel
theorem dX12_workTwo_342 : decode cX12_workTwo 342 = .ok (.invokevirtual 791, 3) := by decide +kernel
theorem dX12_workTwo_345 : decode cX12_workTwo 345 = .ok (.goto 48, 3) := by decide +kernel
theorem dX12_workTwo_348 : decode cX12_workTwo 348 = .ok (.aload_n 0, 1) := by decide +kernel
theorem dX12_workTwo_349 : decode cX12_workTwo 349 = .ok (.iconst 0, 1) := by decide +kernel
theorem dX12_workTwo_350 : decode cX12_workTwo 350 = .ok (.lload_n 3, 1) := by decide +kernel
theorem dX12_workTwo_351 : decode cX12_workTwo 351 = .ok (.lload 5, 2) := by decide +kernel
theorem dX12_workTwo_353 : decode cX12_workTwo 353 = .ok (.lsub, 1) := by decide +kernel
theorem dX12_workTwo_354 : decode cX12_workTwo 354 = .ok (.invokevirtual 791, 3) := by decide +kernel
theorem dX12_workTwo_357 : decode cX12_workTwo 357 = .ok (.goto 36, 3) := by decide +kernel
theorem dX12_workTwo_360 : decode cX12_workTwo 360 = .ok (.aload_n 0, 1) := by decide +kernel
theorem dX12_workTwo_361 : decode cX12_workTwo 361 = .ok (.iconst 0, 1) := by decide +kernel
theorem dX12_workTwo_362 : decode cX12_workTwo 362 = .ok (.lload_n 3, 1) := by decide +kernel
theorem dX12_workTwo_363 : decode cX12_workTwo 363 = .ok (.lload 5, 2) := by decide +kernel
theorem dX12_workTwo_365 : decode cX12_workTwo 365 = .ok (.lmul, 1) := by decide +kernel
theorem dX12_workTwo_366 : decode cX12_workTwo 366 = .ok (.invokevirtual 791, 3) := by decide +kernel
theorem dX12_workTwo_369 : decode cX12_workTwo 369 = .ok (.goto 24, 3) := by decide +kernel
theorem dX12_workTwo_372 : decode cX12_workTwo 372 = .ok (.aload_n 0, 1) := by decide +kernel
theorem dX12_workTwo_373 : decode cX12_workTwo 373 = .ok (.iconst 0, 1) := by decide +kernel
theorem dX12_workTwo_374 : decode cX12_workTwo 374 = .ok (.lload_n 3, 1) := by decide +kernel
theorem dX12_workTwo_375 : decode cX12_workTwo 375 = .ok (.lload 5, 2) := by decide +kernel
theorem dX12_workTwo_377 : decode cX12_workTwo 377 = .ok (.ldiv, 1) := by decide +kernel
theorem dX12_workTwo_378 : decode cX12_workTwo 378 = .ok (.invokevirtual 791, 3) := by decide +kernel
theorem dX12_workTwo_381 : decode cX12_workTwo 381 = .ok (.goto 12, 3) := by decide +kernel
theorem dX12_workTwo_384 : decode cX12_workTwo 384 = .ok (.aload_n 0, 1) := by decide +kernel
theorem dX12_workTwo_385 : decode cX12_workTwo 385 = .ok (.iconst 0, 1) := by decide +kernel
theorem dX12_workTwo_386 : decode cX12_workTwo 386 = .ok (.lload_n 3, 1) := by decide +kernel
theorem dX12_workTwo_387 : decode cX12_workTwo 387 = .ok (.lload 5, 2) := by decide +kernel
theorem dX12_workTwo_389 : decode cX12_workTwo 389 = .ok (.lrem, 1) := by decide +kernel
theorem dX12_workTwo_390 : decode cX12_workTwo 390 = .ok (.invokevirtual 791, 3) := by decide +kernel
theorem dX12_workTwo_393 : decode cX12_workTwo 393 = .ok (.return_, 1) := by decide +kernel
theorem dX12_write_0 : decode cX12_write 0 = .ok (.iload_n 1, 1) := by decide +kernel
theorem dX12_write_1 : decode cX12_write 1 = .ok (.iconst (-1), 1) := by decide +kernel
theorem dX12_write_2 : decode cX12_write 2 = .ok (.if_icmp .ne 12, 3) := by decide +kernel
theorem dX12_write_5 : decode cX12_write 5 = .ok (.aload_n 0, 1) := by decide +kernel
theorem dX12_write_6 : decode cX12_write 6 = .ok (.getfield 84, 3) := by decide +kernel
theorem dX12_write_9 : decode cX12_write 9 = .ok (.iload_n 2, 1) := by decide +kernel
theorem dX12_write_10 : decode cX12_write 10 = .ok (.laload, 1) := by decide +kernel
theorem dX12_write_11 : decode cX12_write 11 = .ok (.goto 16, 3) := by decide +kernel
theorem dX12_write_14 : decode cX12_write 14 = .ok (.aload_n 0, 1) := by decide +kernel
theorem dX12_write_15 : decode cX12_write 15 = .ok (.getfield 138, 3) := by decide +kernel
theorem dX12_write_18 : decode cX12_write 18 = .ok (.aload_n 0, 1) := by decide +kernel
theorem dX12_write_19 : decode cX12_write 19 = .ok (.getfield 131, 3) := by decide +kernel
theorem dX12_write_22 : decode cX12_write 22 = .ok (.iload_n 1, 1) := by decide +kernel
theorem dX12_write_23 : decode cX12_write 23 = .ok (.iaload, 1) := by decide +kernel
theorem dX12_write_24 : decode cX12_write 24 = .ok (.iload_n 2, 1) := by decide +kernel
theorem dX12_write_25 : decode cX12_write 25 = .ok (.iadd, 1) := by decide +kernel
theorem dX12_write_26 : decode cX12_write 26 = .ok (.laload, 1) := by decide +kernel
theorem dX12_write_27 : decode cX12_write 27 = .ok (.lstore 5, 2) := by decide +kernel
theorem dX12_write_29 : decode cX12_write 29 = .ok (.iload_n 1, 1) := by decide +kernel
theorem dX12_write_30 : decode cX12_write 30 = .ok (.iconst (-1), 1) := by decide +kernel
theorem dX12_write_31 : decode cX12_write 31 = .ok (.if_icmp .ne 13, 3) := by decide +kernel
theorem dX12_write_34 : decode cX12_write 34 = .ok (.aload_n 0, 1) := by decide +kernel
theorem dX12_write_35 : decode cX12_write 35 = .ok (.getfield 84, 3) := by decide +kernel
theorem dX12_write_38 : decode cX12_write 38 = .ok (.iload_n 2, 1) := by decide +kernel
theorem dX12_write_39 : decode cX12_write 39 = .ok (.lload_n 3, 1) := by decide +kernel
theorem dX12_write_40 : decode cX12_write 40 = .ok (.lastore, 1) := by decide +kernel
theorem dX12_write_41 : decode cX12_write 41 = .ok (.goto 17, 3) := by decide +kernel
theorem dX12_write_44 : decode cX12_write 44 = .ok (.aload_n 0, 1) := by decide +kernel
theorem dX12_write_45 : decode cX12_write 45 = .ok (.getfield 138, 3) := by decide +kernel
theorem dX12_write_48 : decode cX12_write 48 = .ok (.aload_n 0, 1) := by decide +kernel
theorem dX12_write_49 : decode cX12_write 49 = .ok (.getfield 131, 3) := by decide +kernel
theorem dX12_write_52 : decode cX12_write 52 = .ok (.iload_n 1, 1) := by decide +kernel
theorem dX12_write_53 : decode cX12_write 53 = .ok (.iaload, 1) := by decide +kernel
theorem dX12_write_54 : decode cX12_write 54 = .ok (.iload_n 2, 1) := by decide +kernel
theorem dX12_write_55 : decode cX12_write 55 = .ok (.iadd, 1) := by decide +kernel
theorem dX12_write_56 : decode cX12_write 56 = .ok (.lload_n 3, 1) := by decide +kernel
theorem dX12_write_57 : decode cX12_write 57 = .ok (.lastore, 1) := by decide +kernel
theorem dX12_write_58 : decode cX12_write 58 = .ok (.aload_n 0, 1) := by decide +kernel
theorem dX12_write_59 : decode cX12_write 59 = .ok (.getfield 479, 3) := by decide +kernel
theorem dX12_write_62 : decode cX12_write 62 = .ok (.bipush 100, 2) := by decide +kernel
theorem dX12_write_64 : decode cX12_write 64 = .ok (.if_icmp .ne 93, 3) := by decide +kernel
theorem dX12_write_67 : decode cX12_write 67 = .ok (.iconst 0, 1) := by decide +kernel
theorem dX12_write_68 : decode cX12_write 68 = .ok (.istore 7, 2) := by decide +kernel
theorem dX12_write_70 : decode cX12_write 70 = .ok (.iload 7, 2) := by decide +kernel
theorem dX12_write_72 : decode cX12_write 72 = .ok (.bipush 99, 2) := by decide +kernel
theorem dX12_write_74 : decode cX12_write 74 = .ok (.if_icmp .ge 73, 3) := by decide +kernel
theorem dX12_write_77 : decode cX12_write 77 = .ok (.aload_n 0, 1) := by decide +kernel
theorem dX12_write_78 : decode cX12_write 78 = .ok (.getfield 144, 3) := by decide +kernel
theorem dX12_write_81 : decode cX12_write 81 = .ok (.iload 7, 2) := by decide +kernel
theorem dX12_write_83 : decode cX12_write 83 = .ok (.aload_n 0, 1) := by decide +kernel
theorem dX12_write_84 : decode cX12_write 84 = .ok (.getfield 144, 3) := by decide +kernel
theorem dX12_write_87 : decode cX12_write 87 = .ok (.iload 7, 2) := by decide +kernel
theorem dX12_write_89 : decode cX12_write 89 = .ok (.iconst 1, 1) := by decide +kernel
theorem dX12_write_90 : decode cX12_write 90 = .ok (.iadd, 1) := by decide +kernel
theorem dX12_write_91 : decode cX12_write 91 = .ok (.iaload, 1) := by decide +kernel
theorem dX12_write_92 : decode cX12_write 92 = .ok (.iastore, 1) := by decide +kernel
theorem dX12_write_93 : decode cX12_write 93 = .ok (.aload_n 0, 1) := by decide +kernel
theorem dX12_write_94 : decode cX12_write 94 = .ok (.getfield 147, 3) := by decide +kernel
theorem dX12_write_97 : decode cX12_write 97 = .ok (.iload 7, 2) := by decide +kernel
theorem dX12_write_99 : decode cX12_write 99 = .ok (.aload_n 0, 1) := by decide +kernel
theorem dX12_write_100 : decode cX12_write 100 = .ok (.getfield 147, 3) := by decide +kernel
theorem dX12_write_103 : decode cX12_write 103 = .ok (.iload 7, 2) := by decide +kernel
theorem dX12_write_105 : decode cX12_write 105 = .ok (.iconst 1, 1) := by decide +kernel
theorem dX12_write_106 : decode cX12_write 106 = .ok (.iadd, 1) := by decide +kernel
theorem dX12_write_107 : decode cX12_write 107 = .ok (.iaload, 1) := by decide +kernel
theorem dX12_write_108 : decode cX12_write 108 = .ok (.iastore, 1) := by decide +kernel
theorem dX12_write_109 : decode cX12_write 109 = .ok (.aload_n 0, 1) := by decide +kernel
theorem dX12_write_110 : decode cX12_write 110 = .ok (.getfield 150, 3) := by decide +kernel
theorem dX12_write_113 : decode cX12_write 113 = .ok (.iload 7, 2) := by decide +kernel
theorem dX12_write_115 : decode cX12_write 115 = .ok (.aload_n 0, 1) := by decide +kernel
theorem dX12_write_116 : decode cX12_write 116 = .ok (.getfield 150, 3) := by decide +kernel
theorem dX12_write_119 : decode cX12_write 119 = .ok (.iload 7, 2) := by decide +kernel
theorem dX12_write_121 : decode cX12_write 121 = .ok (.iconst 1, 1) := by decide +kernel
theorem dX12_write_122 : decode cX12_write 122 = .ok (.iadd, 1) := by decide +kernel
theorem dX12_write_123 : decode cX12_write 123 = .ok (.iaload, 1) := by decide +kernel
theorem dX12_write_124 : decode cX12_write 124 = .ok (.iastore, 1) := by decide +kernel
theorem dX12_write_125 : decode cX12_write 125 = .ok (.aload_n 0, 1) := by decide +kernel
theorem dX12_write_126 : decode cX12_write 126 = .ok (.getfield 153, 3) := by decide +kernel
theorem dX12_write_129 : decode cX12_write 129 = .ok (.iload 7, 2) := by decide +kernel
theorem dX12_write_131 : decode cX12_write 131 = .ok (.aload_n 0, 1) := by decide +kernel
theorem dX12_write_132 : decode cX12_write 132 = .ok (.getfield 153, 3) := by decide +kernel
theorem dX12_write_135 : decode cX12_write 135 = .ok (.iload 7, 2) := by decide +kernel
theorem dX12_write_137 : decode cX12_write 137 = .ok (.iconst 1, 1) := by decide +kernel
theorem dX12_write_138 : decode cX12_write 138 = .ok (.iadd, 1) := by decide +kernel
theorem dX12_write_139 : decode cX12_write 139 = .ok (.laload, 1) := by decide +kernel
theorem dX12_write_140 : decode cX12_write 140 = .ok (.lastore, 1) := by decide +kernel
theorem dX12_write_141 : decode cX12_write 141 = .ok (.iinc 7 1, 3) := by decide +kernel
theorem dX12_write_144 : decode cX12_write 144 = .ok (.goto (-74), 3) := by decide +kernel
theorem dX12_write_147 : decode cX12_write 147 = .ok (.aload_n 0, 1) := by decide +kernel
theorem dX12_write_148 : decode cX12_write 148 = .ok (.dup, 1) := by decide +kernel
theorem dX12_write_149 : decode cX12_write 149 = .ok (.getfield 479, 3) := by decide +kernel
theorem dX12_write_152 : decode cX12_write 152 = .ok (.iconst 1, 1) := by decide +kernel
theorem dX12_write_153 : decode cX12_write 153 = .ok (.isub, 1) := by decide +kernel
theorem dX12_write_154 : decode cX12_write 154 = .ok (.putfield 479, 3) := by decide +kernel
theorem dX12_write_157 : decode cX12_write 157 = .ok (.aload_n 0, 1) := by decide +kernel
theorem dX12_write_158 : decode cX12_write 158 = .ok (.getfield 144, 3) := by decide +kernel
theorem dX12_write_161 : decode cX12_write 161 = .ok (.aload_n 0, 1) := by decide +kernel
theorem dX12_write_162 : decode cX12_write 162 = .ok (.getfield 479, 3) := by decide +kernel
theorem dX12_write_165 : decode cX12_write 165 = .ok (.iload_n 1, 1) := by decide +kernel
theorem dX12_write_166 : decode cX12_write 166 = .ok (.iastore, 1) := by decide +kernel
theorem dX12_write_167 : decode cX12_write 167 = .ok (.aload_n 0, 1) := by decide +kernel
theorem dX12_write_168 : decode cX12_write 168 = .ok (.getfield 147, 3) := by decide +kernel
theorem dX12_write_171 : decode cX12_write 171 = .ok (.aload_n 0, 1) := by decide +kernel
theorem dX12_write_172 : decode cX12_write 172 = .ok (.getfield 479, 3) := by decide +kernel
theorem dX12_write_175 : decode cX12_write 175 = .ok (.iload_n 2, 1) := by decide +kernel
theorem dX12_write_176 : decode cX12_write 176 = .ok (.iastore, 1) := by decide +kernel
theorem dX12_write_177 : decode cX12_write 177 = .ok (.aload_n 0, 1) := by decide +kernel
theorem dX12_write_178 : decode cX12_write 178 = .ok (.getfield 150, 3) := by decide +kernel
theorem dX12_write_181 : decode cX12_write 181 = .ok (.aload_n 0, 1) := by decide +kernel
theorem dX12_write_182 : decode cX12_write 182 = .ok (.getfield 479, 3) := by decide +kernel
theorem dX12_write_185 : decode cX12_write 185 = .ok (.aload_n 0, 1) := by decide +kernel
theorem dX12_write_186 : decode cX12_write 186 = .ok (.getfield 482, 3) := by decide +kernel
theorem dX12_write_189 : decode cX12_write 189 = .ok (.iastore, 1) := by decide +kernel
theorem dX12_write_190 : decode cX12_write 190 = .ok (.aload_n 0, 1) := by decide +kernel
theorem dX12_write_191 : decode cX12_write 191 = .ok (.getfield 153, 3) := by decide +kernel
theorem dX12_write_194 : decode cX12_write 194 = .ok (.aload_n 0, 1) := by decide +kernel
theorem dX12_write_195 : decode cX12_write 195 = .ok (.getfield 479, 3) := by decide +kernel
theorem dX12_write_198 : decode cX12_write 198 = .ok (.lload 5, 2) := by decide +kernel
theorem dX12_write_200 : decode cX12_write 200 = .ok (.lastore, 1) := by decide +kernel
theorem dX12_write_201 : decode cX12_write 201 = .ok (.aload_n 0, 1) := by decide +kernel
theorem dX12_write_202 : decode cX12_write 202 = .ok (.dup, 1) := by decide +kernel
theorem dX12_write_203 : decode cX12_write 203 = .ok (.getfield 479, 3) := by decide +kernel
theorem dX12_write_206 : decode cX12_write 206 = .ok (.iconst 1, 1) := by decide +kernel
theorem dX12_write_207 : decode cX12_write 207 = .ok (.iadd, 1) := by decide +kernel
theorem dX12_write_208 : decode cX12_write 208 = .ok (.putfield 479, 3) := by decide +kernel
theorem dX12_write_211 : decode cX12_write 211 = .ok (.iload_n 1, 1) := by decide +kernel
theorem dX12_write_212 : decode cX12_write 212 = .ok (.iconst (-1), 1) := by decide +kernel
theorem dX12_write_213 : decode cX12_write 213 = .ok (.if_icmp .ne 7, 3) := by decide +kernel
theorem dX12_write_216 : decode cX12_write 216 = .ok (.iload_n 2, 1) := by decide +kernel
theorem dX12_write_217 : decode cX12_write 217 = .ok (.goto 31, 3) := by decide +kernel
theorem dX12_write_220 : decode cX12_write 220 = .ok (.aload_n 0, 1) := by decide +kernel
theorem dX12_write_221 : decode cX12_write 221 = .ok (.aload_n 0, 1) := by decide +kernel
theorem dX12_write_222 : decode cX12_write 222 = .ok (.getfield 125, 3) := by decide +kernel
theorem dX12_write_225 : decode cX12_write 225 = .ok (.iload_n 1, 1) := by decide +kernel
theorem dX12_write_226 : decode cX12_write 226 = .ok (.iaload, 1) := by decide +kernel
theorem dX12_write_227 : decode cX12_write 227 = .ok (.invokevirtual 416, 3) := by decide +kernel
theorem dX12_write_230 : decode cX12_write 230 = .ok (.ifCond .eq 17, 3) := by decide +kernel
theorem dX12_write_233 : decode cX12_write 233 = .ok (.aload_n 0, 1) := by decide +kernel
theorem dX12_write_234 : decode cX12_write 234 = .ok (.aload_n 0, 1) := by decide +kernel
theorem dX12_write_235 : decode cX12_write 235 = .ok (.getfield 125, 3) := by decide +kernel
theorem dX12_write_238 : decode cX12_write 238 = .ok (.iload_n 1, 1) := by decide +kernel
theorem dX12_write_239 : decode cX12_write 239 = .ok (.iaload, 1) := by decide +kernel
theorem dX12_write_240 : decode cX12_write 240 = .ok (.iload_n 2, 1) := by decide +kernel
theorem dX12_write_241 : decode cX12_write 241 = .ok (.invokevirtual 441, 3) := by decide +kernel
theorem dX12_write_244 : decode cX12_write 244 = .ok (.goto 4, 3) := by decide +kernel
theorem dX12_write_247 : decode cX12_write 247 = .ok (.iconst (-1), 1) := by decide +kernel
theorem dX12_write_248 : decode cX12_write 248 = .ok (.istore 7, 2) := by decide +kernel
theorem dX12_write_250 : decode cX12_write 250 = .ok (.iconst 0, 1) := by decide +kernel
theorem dX12_write_251 : decode cX12_write 251 = .ok (.istore 8, 2) := by decide +kernel
theorem dX12_write_253 : decode cX12_write 253 = .ok (.iload 8, 2) := by decide +kernel
theorem dX12_write_255 : decode cX12_write 255 = .ok (.aload_n 0, 1) := by decide +kernel
theorem dX12_write_256 : decode cX12_write 256 = .ok (.getfield 485, 3) := by decide +kernel
theorem dX12_write_259 : decode cX12_write 259 = .ok (.if_icmp .ge 37, 3) := by decide +kernel
theorem dX12_write_262 : decode cX12_write 262 = .ok (.iload 7, 2) := by decide +kernel
theorem dX12_write_264 : decode cX12_write 264 = .ok (.iconst (-1), 1) := by decide +kernel
theorem dX12_write_265 : decode cX12_write 265 = .ok (.if_icmp .eq 25, 3) := by decide +kernel
theorem dX12_write_268 : decode cX12_write 268 = .ok (.aload_n 0, 1) := by decide +kernel
theorem dX12_write_269 : decode cX12_write 269 = .ok (.getfield 156, 3) := by decide +kernel
theorem dX12_write_272 : decode cX12_write 272 = .ok (.iload 8, 2) := by decide +kernel
theorem dX12_write_274 : decode cX12_write 274 = .ok (.iaload, 1) := by decide +kernel
theorem dX12_write_275 : decode cX12_write 275 = .ok (.iload 7, 2) := by decide +kernel
theorem dX12_write_277 : decode cX12_write 277 = .ok (.if_icmp .ne 13, 3) := by decide +kernel
theorem dX12_write_280 : decode cX12_write 280 = .ok (.aload_n 0, 1) := by decide +kernel
theorem dX12_write_281 : decode cX12_write 281 = .ok (.iload 8, 2) := by decide +kernel
theorem dX12_write_283 : decode cX12_write 283 = .ok (.iload_n 1, 1) := by decide +kernel
theorem dX12_write_284 : decode cX12_write 284 = .ok (.lload 5, 2) := by decide +kernel
theorem dX12_write_286 : decode cX12_write 286 = .ok (.lload_n 3, 1) := by decide +kernel
theorem dX12_write_287 : decode cX12_write 287 = .ok (.invokevirtual 488, 3) := by decide +kernel
theorem dX12_write_290 : decode cX12_write 290 = .ok (.iinc 8 1, 3) := by decide +kernel
theorem dX12_write_293 : decode cX12_write 293 = .ok (.goto (-40), 3) := by decide +kernel
theorem dX12_write_296 : decode cX12_write 296 = .ok (.aload_n 0, 1) := by decide +kernel
theorem dX12_write_297 : decode cX12_write 297 = .ok (.dup, 1) := by decide +kernel
theorem dX12_write_298 : decode cX12_write 298 = .ok (.getfield 482, 3) := by decide +kernel
theorem dX12_write_301 : decode cX12_write 301 = .ok (.iconst 1, 1) := by decide +kernel
theorem dX12_write_302 : decode cX12_write 302 = .ok (.iadd, 1) := by decide +kernel
theorem dX12_write_303 : decode cX12_write 303 = .ok (.putfield 482, 3) := by decide +kernel
theorem dX12_write_306 : decode cX12_write 306 = .ok (.return_, 1) := by decide +kernel
theorem dX12_wrong_0 : decode cX12_wrong 0 = .ok (.aload_n 0, 1) := by decide +kernel
theorem dX12_wrong_1 : decode cX12_wrong 1 = .ok (.aload_n 0, 1) := by decide +kernel
theorem dX12_wrong_2 : decode cX12_wrong 2 = .ok (.getfield 644, 3) := by decide +kernel
theorem dX12_wrong_5 : decode cX12_wrong 5 = .ok (.iconst 4, 1) := by decide +kernel
theorem dX12_wrong_6 : decode cX12_wrong 6 = .ok (.if_icmp .ne 7, 3) := by decide +kernel
theorem dX12_wrong_9 : decode cX12_wrong 9 = .ok (.iconst 2, 1) := by decide +kernel
theorem dX12_wrong_10 : decode cX12_wrong 10 = .ok (.goto 4, 3) := by decide +kernel
theorem dX12_wrong_13 : decode cX12_wrong 13 = .ok (.iconst 1, 1) := by decide +kernel
theorem dX12_wrong_14 : decode cX12_wrong 14 = .ok (.aload_n 0, 1) := by decide +kernel
theorem dX12_wrong_15 : decode cX12_wrong 15 = .ok (.getfield 637, 3) := by decide +kernel
theorem dX12_wrong_18 : decode cX12_wrong 18 = .ok (.invokevirtual 653, 3) := by decide +kernel
theorem dX12_wrong_21 : decode cX12_wrong 21 = .ok (.return_, 1) := by decide +kernel
theorem dX1_addFact_0 : decode cX1_addFact 0 = .ok (.iload_n 1, 1) := by decide +kernel
theorem dX1_addFact_1 : decode cX1_addFact 1 = .ok (.bipush 40, 2) := by decide +kernel
theorem dX1_addFact_3 : decode cX1_addFact 3 = .ok (.imul, 1) := by decide +kernel
theorem dX1_addFact_4 : decode cX1_addFact 4 = .ok (.istore 4, 2) := by decide +kernel
theorem dX1_addFact_6 : decode cX1_addFact 6 = .ok (.aload_n 0, 1) := by decide +kernel
theorem dX1_addFact_7 : decode cX1_addFact 7 = .ok (.getfield 15, 3) := by decide +kernel
theorem dX1_addFact_10 : decode cX1_addFact 10 = .ok (.iload 4, 2) := by decide +kernel
theorem dX1_addFact_12 : decode cX1_addFact 12 = .ok (.iload_n 2, 1) := by decide +kernel
theorem dX1_addFact_13 : decode cX1_addFact 13 = .ok (.iadd, 1) := by decide +kernel
theorem dX1_addFact_14 : decode cX1_addFact 14 = .ok (.laload, 1) := by decide +kernel
theorem dX1_addFact_15 : decode cX1_addFact 15 = .ok (.iload_n 3, 1) := by decide +kernel
theorem dX1_addFact_16 : decode cX1_addFact 16 = .ok (.lshr, 1) := by decide +kernel
theorem dX1_addFact_17 : decode cX1_addFact 17 = .ok (.lconst 1, 1) := by decide +kernel
theorem dX1_addFact_18 : decode cX1_addFact 18 = .ok (.land, 1) := by decide +kernel
theorem dX1_addFact_19 : decode cX1_addFact 19 = .ok (.lconst 0, 1) := by decide +kernel
theorem dX1_addFact_20 : decode cX1_addFact 20 = .ok (.lcmp, 1) := by decide +kernel
theorem dX1_addFact_21 : decode cX1_addFact 21 = .ok (.ifCond .eq 4, 3) := by decide +kernel
theorem dX1_addFact_24 : decode cX1_addFact 24 = .ok (.return_, 1) := by decide +kernel
theorem dX1_addFact_25 : decode cX1_addFact 25 = .ok (.aload_n 0, 1) := by decide +kernel
theorem dX1_addFact_26 : decode cX1_addFact 26 = .ok (.getfield 15, 3) := by decide +kernel
theorem dX1_addFact_29 : decode cX1_addFact 29 = .ok (.iload 4, 2) := by decide +kernel
theorem dX1_addFact_31 : decode cX1_addFact 31 = .ok (.iload_n 2, 1) := by decide +kernel
theorem dX1_addFact_32 : decode cX1_addFact 32 = .ok (.iadd, 1) := by decide +kernel
theorem dX1_addFact_33 : decode cX1_addFact 33 = .ok (.dup2, 1) := by decide +kernel
theorem dX1_addFact_34 : decode cX1_addFact 34 = .ok (.laload, 1) := by decide +kernel
theorem dX1_addFact_35 : decode cX1_addFact 35 = .ok (.lconst 1, 1) := by decide +kernel
theorem dX1_addFact_36 : decode cX1_addFact 36 = .ok (.iload_n 3, 1) := by decide +kernel
theorem dX1_addFact_37 : decode cX1_addFact 37 = .ok (.lshl, 1) := by decide +kernel
theorem dX1_addFact_38 : decode cX1_addFact 38 = .ok (.lor, 1) := by decide +kernel
theorem dX1_addFact_39 : decode cX1_addFact 39 = .ok (.lastore, 1) := by decide +kernel
theorem dX1_addFact_40 : decode cX1_addFact 40 = .ok (.aload_n 0, 1) := by decide +kernel
theorem dX1_addFact_41 : decode cX1_addFact 41 = .ok (.getfield 19, 3) := by decide +kernel
theorem dX1_addFact_44 : decode cX1_addFact 44 = .ok (.iload 4, 2) := by decide +kernel
theorem dX1_addFact_46 : decode cX1_addFact 46 = .ok (.iload_n 3, 1) := by decide +kernel
theorem dX1_addFact_47 : decode cX1_addFact 47 = .ok (.iadd, 1) := by decide +kernel
theorem dX1_addFact_48 : decode cX1_addFact 48 = .ok (.dup2, 1) := by decide +kernel
theorem dX1_addFact_49 : decode cX1_addFact 49 = .ok (.laload, 1) := by decide +kernel
theorem dX1_addFact_50 : decode cX1_addFact 50 = .ok (.lconst 1, 1) := by decide +kernel
theorem dX1_addFact_51 : decode cX1_addFact 51 = .ok (.iload_n 2, 1) := by decide +kernel
theorem dX1_addFact_52 : decode cX1_addFact 52 = .ok (.lshl, 1) := by decide +kernel
theorem dX1_addFact_53 : decode cX1_addFact 53 = .ok (.lor, 1) := by decide +kernel
theorem dX1_addFact_54 : decode cX1_addFact 54 = .ok (.lastore, 1) := by decide +kernel
theorem dX1_addFact_55 : decode cX1_addFact 55 = .ok (.iload_n 2, 1) := by decide +kernel
theorem dX1_addFact_56 : decode cX1_addFact 56 = .ok (.iload_n 3, 1) := by decide +kernel
theorem dX1_addFact_57 : decode cX1_addFact 57 = .ok (.if_icmp .ne 15, 3) := by decide +kernel
theorem dX1_addFact_60 : decode cX1_addFact 60 = .ok (.aload_n 0, 1) := by decide +kernel
theorem dX1_addFact_61 : decode cX1_addFact 61 = .ok (.getfield 22, 3) := by decide +kernel
theorem dX1_addFact_64 : decode cX1_addFact 64 = .ok (.iload_n 1, 1) := by decide +kernel
theorem dX1_addFact_65 : decode cX1_addFact 65 = .ok (.dup2, 1) := by decide +kernel
theorem dX1_addFact_66 : decode cX1_addFact 66 = .ok (.laload, 1) := by decide +kernel
theorem dX1_addFact_67 : decode cX1_addFact 67 = .ok (.lconst 1, 1) := by decide +kernel
theorem dX1_addFact_68 : decode cX1_addFact 68 = .ok (.iload_n 2, 1) := by decide +kernel
theorem dX1_addFact_69 : decode cX1_addFact 69 = .ok (.lshl, 1) := by decide +kernel
theorem dX1_addFact_70 : decode cX1_addFact 70 = .ok (.lor, 1) := by decide +kernel
theorem dX1_addFact_71 : decode cX1_addFact 71 = .ok (.lastore, 1) := by decide +kernel
theorem dX1_addFact_72 : decode cX1_addFact 72 = .ok (.aload_n 0, 1) := by decide +kernel
theorem dX1_addFact_73 : decode cX1_addFact 73 = .ok (.iconst 1, 1) := by decide +kernel
theorem dX1_addFact_74 : decode cX1_addFact 74 = .ok (.putfield 68, 3) := by decide +kernel
theorem dX1_addFact_77 : decode cX1_addFact 77 = .ok (.return_, 1) := by decide +kernel
theorem dX1_addGiven_0 : decode cX1_addGiven 0 = .ok (.iconst 0, 1) := by decide +kernel
theorem dX1_addGiven_1 : decode cX1_addGiven 1 = .ok (.istore_n 2, 1) := by decide +kernel
theorem dX1_addGiven_2 : decode cX1_addGiven 2 = .ok (.iload_n 2, 1) := by decide +kernel
theorem dX1_addGiven_3 : decode cX1_addGiven 3 = .ok (.aload_n 0, 1) := by decide +kernel
theorem dX1_addGiven_4 : decode cX1_addGiven 4 = .ok (.getfield 50, 3) := by decide +kernel
theorem dX1_addGiven_7 : decode cX1_addGiven 7 = .ok (.if_icmp .ge 104, 3) := by decide +kernel
theorem dX1_addGiven_10 : decode cX1_addGiven 10 = .ok (.aload_n 1, 1) := by decide +kernel
theorem dX1_addGiven_11 : decode cX1_addGiven 11 = .ok (.getfield 80, 3) := by decide +kernel
theorem dX1_addGiven_14 : decode cX1_addGiven 14 = .ok (.iload_n 2, 1) := by decide +kernel
theorem dX1_addGiven_15 : decode cX1_addGiven 15 = .ok (.iaload, 1) := by decide +kernel
theorem dX1_addGiven_16 : decode cX1_addGiven 16 = .ok (.istore_n 3, 1) := by decide +kernel
theorem dX1_addGiven_17 : decode cX1_addGiven 17 = .ok (.iload_n 3, 1) := by decide +kernel
theorem dX1_addGiven_18 : decode cX1_addGiven 18 = .ok (.aload_n 1, 1) := by decide +kernel
theorem dX1_addGiven_19 : decode cX1_addGiven 19 = .ok (.getfield 80, 3) := by decide +kernel
theorem dX1_addGiven_22 : decode cX1_addGiven 22 = .ok (.iload_n 2, 1) := by decide +kernel
theorem dX1_addGiven_23 : decode cX1_addGiven 23 = .ok (.iconst 1, 1) := by decide +kernel
theorem dX1_addGiven_24 : decode cX1_addGiven 24 = .ok (.iadd, 1) := by decide +kernel
theorem dX1_addGiven_25 : decode cX1_addGiven 25 = .ok (.iaload, 1) := by decide +kernel
theorem dX1_addGiven_26 : decode cX1_addGiven 26 = .ok (.if_icmp .ge 45, 3) := by decide +kernel
theorem dX1_addGiven_29 : decode cX1_addGiven 29 = .ok (.aload_n 1, 1) := by decide +kernel
theorem dX1_addGiven_30 : decode cX1_addGiven 30 = .ok (.getfield 83, 3) := by decide +kernel
theorem dX1_addGiven_33 : decode cX1_addGiven 33 = .ok (.iload_n 3, 1) := by decide +kernel
theorem dX1_addGiven_34 : decode cX1_addGiven 34 = .ok (.baload, 1) := by decide +kernel
theorem dX1_addGiven_35 : decode cX1_addGiven 35 = .ok (.ifCond .eq 30, 3) := by decide +kernel
theorem dX1_addGiven_38 : decode cX1_addGiven 38 = .ok (.aload_n 1, 1) := by decide +kernel
theorem dX1_addGiven_39 : decode cX1_addGiven 39 = .ok (.getfield 87, 3) := by decide +kernel
theorem dX1_addGiven_42 : decode cX1_addGiven 42 = .ok (.iload_n 3, 1) := by decide +kernel
theorem dX1_addGiven_43 : decode cX1_addGiven 43 = .ok (.laload, 1) := by decide +kernel
theorem dX1_addGiven_44 : decode cX1_addGiven 44 = .ok (.ldc2_w 90, 3) := by decide +kernel
theorem dX1_addGiven_47 : decode cX1_addGiven 47 = .ok (.lcmp, 1) := by decide +kernel
theorem dX1_addGiven_48 : decode cX1_addGiven 48 = .ok (.ifCond .eq 17, 3) := by decide +kernel
theorem dX1_addGiven_51 : decode cX1_addGiven 51 = .ok (.aload_n 0, 1) := by decide +kernel
theorem dX1_addGiven_52 : decode cX1_addGiven 52 = .ok (.bipush 6, 2) := by decide +kernel
theorem dX1_addGiven_54 : decode cX1_addGiven 54 = .ok (.iload_n 2, 1) := by decide +kernel
theorem dX1_addGiven_55 : decode cX1_addGiven 55 = .ok (.aload_n 1, 1) := by decide +kernel
theorem dX1_addGiven_56 : decode cX1_addGiven 56 = .ok (.getfield 87, 3) := by decide +kernel
theorem dX1_addGiven_59 : decode cX1_addGiven 59 = .ok (.iload_n 3, 1) := by decide +kernel
theorem dX1_addGiven_60 : decode cX1_addGiven 60 = .ok (.laload, 1) := by decide +kernel
theorem dX1_addGiven_61 : decode cX1_addGiven 61 = .ok (.l2i, 1) := by decide +kernel
theorem dX1_addGiven_62 : decode cX1_addGiven 62 = .ok (.invokevirtual 92, 3) := by decide +kernel
theorem dX1_addGiven_65 : decode cX1_addGiven 65 = .ok (.iinc 3 1, 3) := by decide +kernel
theorem dX1_addGiven_68 : decode cX1_addGiven 68 = .ok (.goto (-51), 3) := by decide +kernel
theorem dX1_addGiven_71 : decode cX1_addGiven 71 = .ok (.iconst 0, 1) := by decide +kernel
theorem dX1_addGiven_72 : decode cX1_addGiven 72 = .ok (.istore_n 3, 1) := by decide +kernel
theorem dX1_addGiven_73 : decode cX1_addGiven 73 = .ok (.iload_n 3, 1) := by decide +kernel
theorem dX1_addGiven_74 : decode cX1_addGiven 74 = .ok (.aload_n 0, 1) := by decide +kernel
theorem dX1_addGiven_75 : decode cX1_addGiven 75 = .ok (.getfield 50, 3) := by decide +kernel
theorem dX1_addGiven_78 : decode cX1_addGiven 78 = .ok (.if_icmp .ge 27, 3) := by decide +kernel
theorem dX1_addGiven_81 : decode cX1_addGiven 81 = .ok (.aload_n 0, 1) := by decide +kernel
theorem dX1_addGiven_82 : decode cX1_addGiven 82 = .ok (.iload_n 2, 1) := by decide +kernel
theorem dX1_addGiven_83 : decode cX1_addGiven 83 = .ok (.iload_n 3, 1) := by decide +kernel
theorem dX1_addGiven_84 : decode cX1_addGiven 84 = .ok (.if_icmp .ne 8, 3) := by decide +kernel
theorem dX1_addGiven_87 : decode cX1_addGiven 87 = .ok (.bipush 7, 2) := by decide +kernel
theorem dX1_addGiven_89 : decode cX1_addGiven 89 = .ok (.goto 5, 3) := by decide +kernel
theorem dX1_addGiven_92 : decode cX1_addGiven 92 = .ok (.bipush 8, 2) := by decide +kernel
theorem dX1_addGiven_94 : decode cX1_addGiven 94 = .ok (.iload_n 2, 1) := by decide +kernel
theorem dX1_addGiven_95 : decode cX1_addGiven 95 = .ok (.iload_n 3, 1) := by decide +kernel
theorem dX1_addGiven_96 : decode cX1_addGiven 96 = .ok (.invokevirtual 92, 3) := by decide +kernel
theorem dX1_addGiven_99 : decode cX1_addGiven 99 = .ok (.iinc 3 1, 3) := by decide +kernel
theorem dX1_addGiven_102 : decode cX1_addGiven 102 = .ok (.goto (-29), 3) := by decide +kernel
theorem dX1_addGiven_105 : decode cX1_addGiven 105 = .ok (.iinc 2 1, 3) := by decide +kernel
theorem dX1_addGiven_108 : decode cX1_addGiven 108 = .ok (.goto (-106), 3) := by decide +kernel
theorem dX1_addGiven_111 : decode cX1_addGiven 111 = .ok (.return_, 1) := by decide +kernel
theorem dX1_candidates_0 : decode cX1_candidates 0 = .ok (.aload_n 0, 1) := by decide +kernel
theorem dX1_candidates_1 : decode cX1_candidates 1 = .ok (.getfield 51, 3) := by decide +kernel
theorem dX1_candidates_4 : decode cX1_candidates 4 = .ok (.lstore_n 3, 1) := by decide +kernel
theorem dX1_candidates_5 : decode cX1_candidates 5 = .ok (.iconst 0, 1) := by decide +kernel
theorem dX1_candidates_6 : decode cX1_candidates 6 = .ok (.istore 5, 2) := by decide +kernel
theorem dX1_candidates_8 : decode cX1_candidates 8 = .ok (.iload 5, 2) := by decide +kernel
theorem dX1_candidates_10 : decode cX1_candidates 10 = .ok (.aload_n 0, 1) := by decide +kernel
theorem dX1_candidates_11 : decode cX1_candidates 11 = .ok (.getfield 34, 3) := by decide +kernel
theorem dX1_candidates_14 : decode cX1_candidates 14 = .ok (.getfield 96, 3) := by decide +kernel
theorem dX1_candidates_17 : decode cX1_candidates 17 = .ok (.iload_n 1, 1) := by decide +kernel
theorem dX1_candidates_18 : decode cX1_candidates 18 = .ok (.iaload, 1) := by decide +kernel
theorem dX1_candidates_19 : decode cX1_candidates 19 = .ok (.if_icmp .ge 171, 3) := by decide +kernel
theorem dX1_candidates_22 : decode cX1_candidates 22 = .ok (.iload_n 1, 1) := by decide +kernel
theorem dX1_candidates_23 : decode cX1_candidates 23 = .ok (.iconst 4, 1) := by decide +kernel
theorem dX1_candidates_24 : decode cX1_candidates 24 = .ok (.imul, 1) := by decide +kernel
theorem dX1_candidates_25 : decode cX1_candidates 25 = .ok (.iload 5, 2) := by decide +kernel
theorem dX1_candidates_27 : decode cX1_candidates 27 = .ok (.iadd, 1) := by decide +kernel
theorem dX1_candidates_28 : decode cX1_candidates 28 = .ok (.istore 6, 2) := by decide +kernel
theorem dX1_candidates_30 : decode cX1_candidates 30 = .ok (.aload_n 0, 1) := by decide +kernel
theorem dX1_candidates_31 : decode cX1_candidates 31 = .ok (.getfield 34, 3) := by decide +kernel
theorem dX1_candidates_34 : decode cX1_candidates 34 = .ok (.getfield 130, 3) := by decide +kernel
theorem dX1_candidates_37 : decode cX1_candidates 37 = .ok (.iload 6, 2) := by decide +kernel
theorem dX1_candidates_39 : decode cX1_candidates 39 = .ok (.iaload, 1) := by decide +kernel
theorem dX1_candidates_40 : decode cX1_candidates 40 = .ok (.istore 7, 2) := by decide +kernel
theorem dX1_candidates_42 : decode cX1_candidates 42 = .ok (.aload_n 0, 1) := by decide +kernel
theorem dX1_candidates_43 : decode cX1_candidates 43 = .ok (.getfield 34, 3) := by decide +kernel
theorem dX1_candidates_46 : decode cX1_candidates 46 = .ok (.getfield 133, 3) := by decide +kernel
theorem dX1_candidates_49 : decode cX1_candidates 49 = .ok (.iload 6, 2) := by decide +kernel
theorem dX1_candidates_51 : decode cX1_candidates 51 = .ok (.iaload, 1) := by decide +kernel
theorem dX1_candidates_52 : decode cX1_candidates 52 = .ok (.istore 8, 2) := by decide +kernel
theorem dX1_candidates_54 : decode cX1_candidates 54 = .ok (.aload_n 0, 1) := by decide +kernel
theorem dX1_candidates_55 : decode cX1_candidates 55 = .ok (.getfield 34, 3) := by decide +kernel
theorem dX1_candidates_58 : decode cX1_candidates 58 = .ok (.getfield 99, 3) := by decide +kernel
theorem dX1_candidates_61 : decode cX1_candidates 61 = .ok (.iload 6, 2) := by decide +kernel
theorem dX1_candidates_63 : decode cX1_candidates 63 = .ok (.iaload, 1) := by decide +kernel
theorem dX1_candidates_64 : decode cX1_candidates 64 = .ok (.bipush 40, 2) := by decide +kernel
theorem dX1_candidates_66 : decode cX1_candidates 66 = .ok (.imul, 1) := by decide +kernel
theorem dX1_candidates_67 : decode cX1_candidates 67 = .ok (.istore 9, 2) := by decide +kernel
theorem dX1_candidates_69 : decode cX1_candidates 69 = .ok (.iload 7, 2) := by decide +kernel
theorem dX1_candidates_71 : decode cX1_candidates 71 = .ok (.iload 8, 2) := by decide +kernel
theorem dX1_candidates_73 : decode cX1_candidates 73 = .ok (.invokestatic 136, 3) := by decide +kernel
theorem dX1_candidates_76 : decode cX1_candidates 76 = .ok (.iload_n 2, 1) := by decide +kernel
theorem dX1_candidates_77 : decode cX1_candidates 77 = .ok (.if_icmp .eq 6, 3) := by decide +kernel
theorem dX1_candidates_80 : decode cX1_candidates 80 = .ok (.goto 104, 3) := by decide +kernel
theorem dX1_candidates_83 : decode cX1_candidates 83 = .ok (.aload_n 0, 1) := by decide +kernel
theorem dX1_candidates_84 : decode cX1_candidates 84 = .ok (.getfield 34, 3) := by decide +kernel
theorem dX1_candidates_87 : decode cX1_candidates 87 = .ok (.getfield 99, 3) := by decide +kernel
theorem dX1_candidates_90 : decode cX1_candidates 90 = .ok (.iload 6, 2) := by decide +kernel
theorem dX1_candidates_92 : decode cX1_candidates 92 = .ok (.iaload, 1) := by decide +kernel
theorem dX1_candidates_93 : decode cX1_candidates 93 = .ok (.bipush 9, 2) := by decide +kernel
theorem dX1_candidates_95 : decode cX1_candidates 95 = .ok (.if_icmp .ne 16, 3) := by decide +kernel
theorem dX1_candidates_98 : decode cX1_candidates 98 = .ok (.lload_n 3, 1) := by decide +kernel
