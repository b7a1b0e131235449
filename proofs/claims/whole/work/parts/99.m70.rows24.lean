theorem dL_law_2499 : decode cL_law 2499 = .ok (.iload 4, 2) := by decide +kernel
theorem dL_law_2501 : decode cL_law 2501 = .ok (.iconst 1, 1) := by decide +kernel
theorem dL_law_2502 : decode cL_law 2502 = .ok (.iadd, 1) := by decide +kernel
theorem dL_law_2503 : decode cL_law 2503 = .ok (.iaload, 1) := by decide +kernel
theorem dL_law_2504 : decode cL_law 2504 = .ok (.invokevirtual 273, 3) := by decide +kernel
theorem dL_law_2507 : decode cL_law 2507 = .ok (.istore 6, 2) := by decide +kernel
theorem dL_law_2509 : decode cL_law 2509 = .ok (.aload_n 2, 1) := by decide +kernel
theorem dL_law_2510 : decode cL_law 2510 = .ok (.invokevirtual 149, 3) := by decide +kernel
theorem dL_law_2513 : decode cL_law 2513 = .ok (.iload 5, 2) := by decide +kernel
theorem dL_law_2515 : decode cL_law 2515 = .ok (.if_icmp .eq 5, 3) := by decide +kernel
theorem dL_law_2520 : decode cL_law 2520 = .ok (.iload 5, 2) := by decide +kernel
theorem dL_law_2522 : decode cL_law 2522 = .ok (.ifCond .ne 15, 3) := by decide +kernel
theorem dL_law_2525 : decode cL_law 2525 = .ok (.aload_n 3, 1) := by decide +kernel
theorem dL_law_2526 : decode cL_law 2526 = .ok (.iconst 0, 1) := by decide +kernel
theorem dL_law_2527 : decode cL_law 2527 = .ok (.laload, 1) := by decide +kernel
theorem dL_law_2528 : decode cL_law 2528 = .ok (.iload 6, 2) := by decide +kernel
theorem dL_law_2530 : decode cL_law 2530 = .ok (.i2l, 1) := by decide +kernel
theorem dL_law_2531 : decode cL_law 2531 = .ok (.lcmp, 1) := by decide +kernel
theorem dL_law_2532 : decode cL_law 2532 = .ok (.ifCond .eq 5, 3) := by decide +kernel
theorem dL_law_2537 : decode cL_law 2537 = .ok (.goto 574, 3) := by decide +kernel
theorem dL_law_2540 : decode cL_law 2540 = .ok (.aload_n 1, 1) := by decide +kernel
theorem dL_law_2541 : decode cL_law 2541 = .ok (.aload_n 0, 1) := by decide +kernel
theorem dL_law_2542 : decode cL_law 2542 = .ok (.iload 4, 2) := by decide +kernel
theorem dL_law_2544 : decode cL_law 2544 = .ok (.iconst 1, 1) := by decide +kernel
theorem dL_law_2545 : decode cL_law 2545 = .ok (.iadd, 1) := by decide +kernel
theorem dL_law_2546 : decode cL_law 2546 = .ok (.iaload, 1) := by decide +kernel
theorem dL_law_2547 : decode cL_law 2547 = .ok (.aload_n 0, 1) := by decide +kernel
theorem dL_law_2548 : decode cL_law 2548 = .ok (.iload 4, 2) := by decide +kernel
theorem dL_law_2550 : decode cL_law 2550 = .ok (.iconst 2, 1) := by decide +kernel
theorem dL_law_2551 : decode cL_law 2551 = .ok (.iadd, 1) := by decide +kernel
theorem dL_law_2552 : decode cL_law 2552 = .ok (.iaload, 1) := by decide +kernel
theorem dL_law_2553 : decode cL_law 2553 = .ok (.aload_n 3, 1) := by decide +kernel
theorem dL_law_2554 : decode cL_law 2554 = .ok (.invokestatic 274, 3) := by decide +kernel
theorem dL_law_2557 : decode cL_law 2557 = .ok (.istore 5, 2) := by decide +kernel
theorem dL_law_2559 : decode cL_law 2559 = .ok (.aload_n 2, 1) := by decide +kernel
theorem dL_law_2560 : decode cL_law 2560 = .ok (.aload_n 0, 1) := by decide +kernel
theorem dL_law_2561 : decode cL_law 2561 = .ok (.iload 4, 2) := by decide +kernel
theorem dL_law_2563 : decode cL_law 2563 = .ok (.iconst 1, 1) := by decide +kernel
theorem dL_law_2564 : decode cL_law 2564 = .ok (.iadd, 1) := by decide +kernel
theorem dL_law_2565 : decode cL_law 2565 = .ok (.iaload, 1) := by decide +kernel
theorem dL_law_2566 : decode cL_law 2566 = .ok (.aload_n 0, 1) := by decide +kernel
theorem dL_law_2567 : decode cL_law 2567 = .ok (.iload 4, 2) := by decide +kernel
theorem dL_law_2569 : decode cL_law 2569 = .ok (.iconst 2, 1) := by decide +kernel
theorem dL_law_2570 : decode cL_law 2570 = .ok (.iadd, 1) := by decide +kernel
theorem dL_law_2571 : decode cL_law 2571 = .ok (.iaload, 1) := by decide +kernel
theorem dL_law_2572 : decode cL_law 2572 = .ok (.invokevirtual 276, 3) := by decide +kernel
theorem dL_law_2575 : decode cL_law 2575 = .ok (.lstore 6, 2) := by decide +kernel
theorem dL_law_2577 : decode cL_law 2577 = .ok (.aload_n 2, 1) := by decide +kernel
theorem dL_law_2578 : decode cL_law 2578 = .ok (.invokevirtual 149, 3) := by decide +kernel
theorem dL_law_2581 : decode cL_law 2581 = .ok (.iload 5, 2) := by decide +kernel
theorem dL_law_2583 : decode cL_law 2583 = .ok (.if_icmp .eq 5, 3) := by decide +kernel
theorem dL_law_2588 : decode cL_law 2588 = .ok (.iload 5, 2) := by decide +kernel
theorem dL_law_2590 : decode cL_law 2590 = .ok (.ifCond .ne 14, 3) := by decide +kernel
theorem dL_law_2593 : decode cL_law 2593 = .ok (.aload_n 3, 1) := by decide +kernel
theorem dL_law_2594 : decode cL_law 2594 = .ok (.iconst 0, 1) := by decide +kernel
theorem dL_law_2595 : decode cL_law 2595 = .ok (.laload, 1) := by decide +kernel
theorem dL_law_2596 : decode cL_law 2596 = .ok (.lload 6, 2) := by decide +kernel
theorem dL_law_2598 : decode cL_law 2598 = .ok (.lcmp, 1) := by decide +kernel
theorem dL_law_2599 : decode cL_law 2599 = .ok (.ifCond .eq 5, 3) := by decide +kernel
theorem dL_law_2604 : decode cL_law 2604 = .ok (.goto 507, 3) := by decide +kernel
