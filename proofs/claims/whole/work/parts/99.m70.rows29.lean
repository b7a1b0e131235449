theorem dL_law_3020 : decode cL_law 3020 = .ok (.iload 4, 2) := by decide +kernel
theorem dL_law_3022 : decode cL_law 3022 = .ok (.iconst 1, 1) := by decide +kernel
theorem dL_law_3023 : decode cL_law 3023 = .ok (.iadd, 1) := by decide +kernel
theorem dL_law_3024 : decode cL_law 3024 = .ok (.iaload, 1) := by decide +kernel
theorem dL_law_3025 : decode cL_law 3025 = .ok (.aload_n 0, 1) := by decide +kernel
theorem dL_law_3026 : decode cL_law 3026 = .ok (.iload 4, 2) := by decide +kernel
theorem dL_law_3028 : decode cL_law 3028 = .ok (.iconst 2, 1) := by decide +kernel
theorem dL_law_3029 : decode cL_law 3029 = .ok (.iadd, 1) := by decide +kernel
theorem dL_law_3030 : decode cL_law 3030 = .ok (.iaload, 1) := by decide +kernel
theorem dL_law_3031 : decode cL_law 3031 = .ok (.aload_n 3, 1) := by decide +kernel
theorem dL_law_3032 : decode cL_law 3032 = .ok (.invokestatic 308, 3) := by decide +kernel
theorem dL_law_3035 : decode cL_law 3035 = .ok (.istore 5, 2) := by decide +kernel
theorem dL_law_3037 : decode cL_law 3037 = .ok (.aload_n 2, 1) := by decide +kernel
theorem dL_law_3038 : decode cL_law 3038 = .ok (.aload_n 0, 1) := by decide +kernel
theorem dL_law_3039 : decode cL_law 3039 = .ok (.iload 4, 2) := by decide +kernel
theorem dL_law_3041 : decode cL_law 3041 = .ok (.iconst 1, 1) := by decide +kernel
theorem dL_law_3042 : decode cL_law 3042 = .ok (.iadd, 1) := by decide +kernel
theorem dL_law_3043 : decode cL_law 3043 = .ok (.iaload, 1) := by decide +kernel
theorem dL_law_3044 : decode cL_law 3044 = .ok (.aload_n 0, 1) := by decide +kernel
theorem dL_law_3045 : decode cL_law 3045 = .ok (.iload 4, 2) := by decide +kernel
theorem dL_law_3047 : decode cL_law 3047 = .ok (.iconst 2, 1) := by decide +kernel
theorem dL_law_3048 : decode cL_law 3048 = .ok (.iadd, 1) := by decide +kernel
theorem dL_law_3049 : decode cL_law 3049 = .ok (.iaload, 1) := by decide +kernel
theorem dL_law_3050 : decode cL_law 3050 = .ok (.invokevirtual 310, 3) := by decide +kernel
theorem dL_law_3053 : decode cL_law 3053 = .ok (.istore 6, 2) := by decide +kernel
theorem dL_law_3055 : decode cL_law 3055 = .ok (.aload_n 2, 1) := by decide +kernel
theorem dL_law_3056 : decode cL_law 3056 = .ok (.invokevirtual 149, 3) := by decide +kernel
theorem dL_law_3059 : decode cL_law 3059 = .ok (.iload 5, 2) := by decide +kernel
theorem dL_law_3061 : decode cL_law 3061 = .ok (.if_icmp .eq 5, 3) := by decide +kernel
theorem dL_law_3066 : decode cL_law 3066 = .ok (.iload 5, 2) := by decide +kernel
theorem dL_law_3068 : decode cL_law 3068 = .ok (.ifCond .ne 15, 3) := by decide +kernel
theorem dL_law_3071 : decode cL_law 3071 = .ok (.aload_n 3, 1) := by decide +kernel
theorem dL_law_3072 : decode cL_law 3072 = .ok (.iconst 0, 1) := by decide +kernel
theorem dL_law_3073 : decode cL_law 3073 = .ok (.laload, 1) := by decide +kernel
theorem dL_law_3074 : decode cL_law 3074 = .ok (.iload 6, 2) := by decide +kernel
theorem dL_law_3076 : decode cL_law 3076 = .ok (.i2l, 1) := by decide +kernel
theorem dL_law_3077 : decode cL_law 3077 = .ok (.lcmp, 1) := by decide +kernel
theorem dL_law_3078 : decode cL_law 3078 = .ok (.ifCond .eq 5, 3) := by decide +kernel
theorem dL_law_3083 : decode cL_law 3083 = .ok (.goto 28, 3) := by decide +kernel
theorem dL_law_3086 : decode cL_law 3086 = .ok (.aload_n 1, 1) := by decide +kernel
theorem dL_law_3087 : decode cL_law 3087 = .ok (.aload_n 0, 1) := by decide +kernel
theorem dL_law_3088 : decode cL_law 3088 = .ok (.iload 4, 2) := by decide +kernel
theorem dL_law_3090 : decode cL_law 3090 = .ok (.iconst 1, 1) := by decide +kernel
theorem dL_law_3091 : decode cL_law 3091 = .ok (.iadd, 1) := by decide +kernel
theorem dL_law_3092 : decode cL_law 3092 = .ok (.iaload, 1) := by decide +kernel
theorem dL_law_3093 : decode cL_law 3093 = .ok (.invokevirtual 311, 3) := by decide +kernel
theorem dL_law_3096 : decode cL_law 3096 = .ok (.aload_n 2, 1) := by decide +kernel
theorem dL_law_3097 : decode cL_law 3097 = .ok (.aload_n 0, 1) := by decide +kernel
theorem dL_law_3098 : decode cL_law 3098 = .ok (.iload 4, 2) := by decide +kernel
theorem dL_law_3100 : decode cL_law 3100 = .ok (.iconst 1, 1) := by decide +kernel
theorem dL_law_3101 : decode cL_law 3101 = .ok (.iadd, 1) := by decide +kernel
theorem dL_law_3102 : decode cL_law 3102 = .ok (.iaload, 1) := by decide +kernel
theorem dL_law_3103 : decode cL_law 3103 = .ok (.invokevirtual 314, 3) := by decide +kernel
theorem dL_law_3106 : decode cL_law 3106 = .ok (.if_icmp .eq 5, 3) := by decide +kernel
theorem dL_law_3111 : decode cL_law 3111 = .ok (.iinc 4 6, 3) := by decide +kernel
theorem dL_law_3114 : decode cL_law 3114 = .ok (.goto (-3091), 3) := by decide +kernel
theorem dL_law_3117 : decode cL_law 3117 = .ok (.iconst 1, 1) := by decide +kernel
theorem dL_law_3118 : decode cL_law 3118 = .ok (.ireturn, 1) := by decide +kernel
