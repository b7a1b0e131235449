theorem dL_law_2607 : decode cL_law 2607 = .ok (.aload_n 1, 1) := by decide +kernel
theorem dL_law_2608 : decode cL_law 2608 = .ok (.aload_n 0, 1) := by decide +kernel
theorem dL_law_2609 : decode cL_law 2609 = .ok (.iload 4, 2) := by decide +kernel
theorem dL_law_2611 : decode cL_law 2611 = .ok (.iconst 1, 1) := by decide +kernel
theorem dL_law_2612 : decode cL_law 2612 = .ok (.iadd, 1) := by decide +kernel
theorem dL_law_2613 : decode cL_law 2613 = .ok (.iaload, 1) := by decide +kernel
theorem dL_law_2614 : decode cL_law 2614 = .ok (.aload_n 3, 1) := by decide +kernel
theorem dL_law_2615 : decode cL_law 2615 = .ok (.invokestatic 277, 3) := by decide +kernel
theorem dL_law_2618 : decode cL_law 2618 = .ok (.istore 5, 2) := by decide +kernel
theorem dL_law_2620 : decode cL_law 2620 = .ok (.aload_n 2, 1) := by decide +kernel
theorem dL_law_2621 : decode cL_law 2621 = .ok (.aload_n 0, 1) := by decide +kernel
theorem dL_law_2622 : decode cL_law 2622 = .ok (.iload 4, 2) := by decide +kernel
theorem dL_law_2624 : decode cL_law 2624 = .ok (.iconst 1, 1) := by decide +kernel
theorem dL_law_2625 : decode cL_law 2625 = .ok (.iadd, 1) := by decide +kernel
theorem dL_law_2626 : decode cL_law 2626 = .ok (.iaload, 1) := by decide +kernel
theorem dL_law_2627 : decode cL_law 2627 = .ok (.invokevirtual 279, 3) := by decide +kernel
theorem dL_law_2630 : decode cL_law 2630 = .ok (.istore 6, 2) := by decide +kernel
theorem dL_law_2632 : decode cL_law 2632 = .ok (.aload_n 2, 1) := by decide +kernel
theorem dL_law_2633 : decode cL_law 2633 = .ok (.invokevirtual 149, 3) := by decide +kernel
theorem dL_law_2636 : decode cL_law 2636 = .ok (.iload 5, 2) := by decide +kernel
theorem dL_law_2638 : decode cL_law 2638 = .ok (.if_icmp .eq 5, 3) := by decide +kernel
theorem dL_law_2643 : decode cL_law 2643 = .ok (.iload 5, 2) := by decide +kernel
theorem dL_law_2645 : decode cL_law 2645 = .ok (.ifCond .ne 15, 3) := by decide +kernel
theorem dL_law_2648 : decode cL_law 2648 = .ok (.aload_n 3, 1) := by decide +kernel
theorem dL_law_2649 : decode cL_law 2649 = .ok (.iconst 0, 1) := by decide +kernel
theorem dL_law_2650 : decode cL_law 2650 = .ok (.laload, 1) := by decide +kernel
theorem dL_law_2651 : decode cL_law 2651 = .ok (.iload 6, 2) := by decide +kernel
theorem dL_law_2653 : decode cL_law 2653 = .ok (.i2l, 1) := by decide +kernel
theorem dL_law_2654 : decode cL_law 2654 = .ok (.lcmp, 1) := by decide +kernel
theorem dL_law_2655 : decode cL_law 2655 = .ok (.ifCond .eq 5, 3) := by decide +kernel
theorem dL_law_2660 : decode cL_law 2660 = .ok (.goto 451, 3) := by decide +kernel
theorem dL_law_2663 : decode cL_law 2663 = .ok (.aload_n 1, 1) := by decide +kernel
theorem dL_law_2664 : decode cL_law 2664 = .ok (.aload_n 0, 1) := by decide +kernel
theorem dL_law_2665 : decode cL_law 2665 = .ok (.iload 4, 2) := by decide +kernel
theorem dL_law_2667 : decode cL_law 2667 = .ok (.iconst 1, 1) := by decide +kernel
theorem dL_law_2668 : decode cL_law 2668 = .ok (.iadd, 1) := by decide +kernel
theorem dL_law_2669 : decode cL_law 2669 = .ok (.iaload, 1) := by decide +kernel
theorem dL_law_2670 : decode cL_law 2670 = .ok (.invokevirtual 280, 3) := by decide +kernel
theorem dL_law_2673 : decode cL_law 2673 = .ok (.aload_n 2, 1) := by decide +kernel
theorem dL_law_2674 : decode cL_law 2674 = .ok (.aload_n 0, 1) := by decide +kernel
theorem dL_law_2675 : decode cL_law 2675 = .ok (.iload 4, 2) := by decide +kernel
theorem dL_law_2677 : decode cL_law 2677 = .ok (.iconst 1, 1) := by decide +kernel
theorem dL_law_2678 : decode cL_law 2678 = .ok (.iadd, 1) := by decide +kernel
theorem dL_law_2679 : decode cL_law 2679 = .ok (.iaload, 1) := by decide +kernel
theorem dL_law_2680 : decode cL_law 2680 = .ok (.invokevirtual 283, 3) := by decide +kernel
theorem dL_law_2683 : decode cL_law 2683 = .ok (.if_icmp .eq 428, 3) := by decide +kernel
theorem dL_law_2688 : decode cL_law 2688 = .ok (.aload_n 1, 1) := by decide +kernel
theorem dL_law_2689 : decode cL_law 2689 = .ok (.aload_n 0, 1) := by decide +kernel
theorem dL_law_2690 : decode cL_law 2690 = .ok (.iload 4, 2) := by decide +kernel
theorem dL_law_2692 : decode cL_law 2692 = .ok (.iconst 1, 1) := by decide +kernel
theorem dL_law_2693 : decode cL_law 2693 = .ok (.iadd, 1) := by decide +kernel
theorem dL_law_2694 : decode cL_law 2694 = .ok (.iaload, 1) := by decide +kernel
theorem dL_law_2695 : decode cL_law 2695 = .ok (.aload_n 0, 1) := by decide +kernel
theorem dL_law_2696 : decode cL_law 2696 = .ok (.iload 4, 2) := by decide +kernel
theorem dL_law_2698 : decode cL_law 2698 = .ok (.iconst 2, 1) := by decide +kernel
theorem dL_law_2699 : decode cL_law 2699 = .ok (.iadd, 1) := by decide +kernel
theorem dL_law_2700 : decode cL_law 2700 = .ok (.iaload, 1) := by decide +kernel
theorem dL_law_2701 : decode cL_law 2701 = .ok (.aload_n 0, 1) := by decide +kernel
theorem dL_law_2702 : decode cL_law 2702 = .ok (.iload 4, 2) := by decide +kernel
theorem dL_law_2704 : decode cL_law 2704 = .ok (.iconst 3, 1) := by decide +kernel
