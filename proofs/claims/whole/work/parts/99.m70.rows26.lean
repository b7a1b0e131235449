theorem dL_law_2705 : decode cL_law 2705 = .ok (.iadd, 1) := by decide +kernel
theorem dL_law_2706 : decode cL_law 2706 = .ok (.iaload, 1) := by decide +kernel
theorem dL_law_2707 : decode cL_law 2707 = .ok (.aload_n 3, 1) := by decide +kernel
theorem dL_law_2708 : decode cL_law 2708 = .ok (.invokestatic 284, 3) := by decide +kernel
theorem dL_law_2711 : decode cL_law 2711 = .ok (.istore 5, 2) := by decide +kernel
theorem dL_law_2713 : decode cL_law 2713 = .ok (.aload_n 2, 1) := by decide +kernel
theorem dL_law_2714 : decode cL_law 2714 = .ok (.aload_n 0, 1) := by decide +kernel
theorem dL_law_2715 : decode cL_law 2715 = .ok (.iload 4, 2) := by decide +kernel
theorem dL_law_2717 : decode cL_law 2717 = .ok (.iconst 1, 1) := by decide +kernel
theorem dL_law_2718 : decode cL_law 2718 = .ok (.iadd, 1) := by decide +kernel
theorem dL_law_2719 : decode cL_law 2719 = .ok (.iaload, 1) := by decide +kernel
theorem dL_law_2720 : decode cL_law 2720 = .ok (.aload_n 0, 1) := by decide +kernel
theorem dL_law_2721 : decode cL_law 2721 = .ok (.iload 4, 2) := by decide +kernel
theorem dL_law_2723 : decode cL_law 2723 = .ok (.iconst 2, 1) := by decide +kernel
theorem dL_law_2724 : decode cL_law 2724 = .ok (.iadd, 1) := by decide +kernel
theorem dL_law_2725 : decode cL_law 2725 = .ok (.iaload, 1) := by decide +kernel
theorem dL_law_2726 : decode cL_law 2726 = .ok (.aload_n 0, 1) := by decide +kernel
theorem dL_law_2727 : decode cL_law 2727 = .ok (.iload 4, 2) := by decide +kernel
theorem dL_law_2729 : decode cL_law 2729 = .ok (.iconst 3, 1) := by decide +kernel
theorem dL_law_2730 : decode cL_law 2730 = .ok (.iadd, 1) := by decide +kernel
theorem dL_law_2731 : decode cL_law 2731 = .ok (.iaload, 1) := by decide +kernel
theorem dL_law_2732 : decode cL_law 2732 = .ok (.invokevirtual 286, 3) := by decide +kernel
theorem dL_law_2735 : decode cL_law 2735 = .ok (.istore 6, 2) := by decide +kernel
theorem dL_law_2737 : decode cL_law 2737 = .ok (.aload_n 2, 1) := by decide +kernel
theorem dL_law_2738 : decode cL_law 2738 = .ok (.invokevirtual 149, 3) := by decide +kernel
theorem dL_law_2741 : decode cL_law 2741 = .ok (.iload 5, 2) := by decide +kernel
theorem dL_law_2743 : decode cL_law 2743 = .ok (.if_icmp .eq 5, 3) := by decide +kernel
theorem dL_law_2748 : decode cL_law 2748 = .ok (.iload 5, 2) := by decide +kernel
theorem dL_law_2750 : decode cL_law 2750 = .ok (.ifCond .ne 22, 3) := by decide +kernel
theorem dL_law_2753 : decode cL_law 2753 = .ok (.aload_n 3, 1) := by decide +kernel
theorem dL_law_2754 : decode cL_law 2754 = .ok (.iconst 0, 1) := by decide +kernel
theorem dL_law_2755 : decode cL_law 2755 = .ok (.laload, 1) := by decide +kernel
theorem dL_law_2756 : decode cL_law 2756 = .ok (.iload 6, 2) := by decide +kernel
theorem dL_law_2758 : decode cL_law 2758 = .ok (.ifCond .eq 7, 3) := by decide +kernel
theorem dL_law_2761 : decode cL_law 2761 = .ok (.lconst 1, 1) := by decide +kernel
theorem dL_law_2762 : decode cL_law 2762 = .ok (.goto 4, 3) := by decide +kernel
theorem dL_law_2765 : decode cL_law 2765 = .ok (.lconst 0, 1) := by decide +kernel
theorem dL_law_2766 : decode cL_law 2766 = .ok (.lcmp, 1) := by decide +kernel
theorem dL_law_2767 : decode cL_law 2767 = .ok (.ifCond .eq 5, 3) := by decide +kernel
theorem dL_law_2772 : decode cL_law 2772 = .ok (.goto 339, 3) := by decide +kernel
theorem dL_law_2775 : decode cL_law 2775 = .ok (.aload_n 1, 1) := by decide +kernel
theorem dL_law_2776 : decode cL_law 2776 = .ok (.aload_n 0, 1) := by decide +kernel
theorem dL_law_2777 : decode cL_law 2777 = .ok (.iload 4, 2) := by decide +kernel
theorem dL_law_2779 : decode cL_law 2779 = .ok (.iconst 1, 1) := by decide +kernel
theorem dL_law_2780 : decode cL_law 2780 = .ok (.iadd, 1) := by decide +kernel
theorem dL_law_2781 : decode cL_law 2781 = .ok (.iaload, 1) := by decide +kernel
theorem dL_law_2782 : decode cL_law 2782 = .ok (.invokevirtual 287, 3) := by decide +kernel
theorem dL_law_2785 : decode cL_law 2785 = .ok (.aload_n 2, 1) := by decide +kernel
theorem dL_law_2786 : decode cL_law 2786 = .ok (.aload_n 0, 1) := by decide +kernel
theorem dL_law_2787 : decode cL_law 2787 = .ok (.iload 4, 2) := by decide +kernel
theorem dL_law_2789 : decode cL_law 2789 = .ok (.iconst 1, 1) := by decide +kernel
theorem dL_law_2790 : decode cL_law 2790 = .ok (.iadd, 1) := by decide +kernel
theorem dL_law_2791 : decode cL_law 2791 = .ok (.iaload, 1) := by decide +kernel
theorem dL_law_2792 : decode cL_law 2792 = .ok (.invokevirtual 290, 3) := by decide +kernel
theorem dL_law_2795 : decode cL_law 2795 = .ok (.if_icmp .eq 316, 3) := by decide +kernel
theorem dL_law_2800 : decode cL_law 2800 = .ok (.aload_n 1, 1) := by decide +kernel
theorem dL_law_2801 : decode cL_law 2801 = .ok (.aload_n 0, 1) := by decide +kernel
theorem dL_law_2802 : decode cL_law 2802 = .ok (.iload 4, 2) := by decide +kernel
theorem dL_law_2804 : decode cL_law 2804 = .ok (.iconst 1, 1) := by decide +kernel
theorem dL_law_2805 : decode cL_law 2805 = .ok (.iadd, 1) := by decide +kernel
