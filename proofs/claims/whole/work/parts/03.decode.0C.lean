theorem dC_init_0 : decode cC_init 0 = .ok (.aload_n 0, 1) := by decide +kernel
theorem dC_init_1 : decode cC_init 1 = .ok (.invokespecial 3, 3) := by decide +kernel
theorem dC_init_4 : decode cC_init 4 = .ok (.aload_n 0, 1) := by decide +kernel
theorem dC_init_5 : decode cC_init 5 = .ok (.bipush 101, 2) := by decide +kernel
theorem dC_init_7 : decode cC_init 7 = .ok (.newarray .long, 2) := by decide +kernel
theorem dC_init_9 : decode cC_init 9 = .ok (.putfield 9, 3) := by decide +kernel
theorem dC_init_12 : decode cC_init 12 = .ok (.aload_n 0, 1) := by decide +kernel
theorem dC_init_13 : decode cC_init 13 = .ok (.bipush 69, 2) := by decide +kernel
theorem dC_init_15 : decode cC_init 15 = .ok (.newarray .boolean, 2) := by decide +kernel
theorem dC_init_17 : decode cC_init 17 = .ok (.putfield 15, 3) := by decide +kernel
theorem dC_init_20 : decode cC_init 20 = .ok (.aload_n 0, 1) := by decide +kernel
theorem dC_init_21 : decode cC_init 21 = .ok (.iconst 0, 1) := by decide +kernel
theorem dC_init_22 : decode cC_init 22 = .ok (.putfield 19, 3) := by decide +kernel
theorem dC_init_25 : decode cC_init 25 = .ok (.aload_n 0, 1) := by decide +kernel
theorem dC_init_26 : decode cC_init 26 = .ok (.iconst 0, 1) := by decide +kernel
theorem dC_init_27 : decode cC_init 27 = .ok (.putfield 23, 3) := by decide +kernel
theorem dC_init_30 : decode cC_init 30 = .ok (.aload_n 0, 1) := by decide +kernel
theorem dC_init_31 : decode cC_init 31 = .ok (.lconst 0, 1) := by decide +kernel
theorem dC_init_32 : decode cC_init 32 = .ok (.putfield 27, 3) := by decide +kernel
theorem dC_init_35 : decode cC_init 35 = .ok (.return_, 1) := by decide +kernel
theorem dC_stepsTo_0 : decode cC_stepsTo 0 = .ok (.iload_n 1, 1) := by decide +kernel
theorem dC_stepsTo_1 : decode cC_stepsTo 1 = .ok (.aload_n 0, 1) := by decide +kernel
theorem dC_stepsTo_2 : decode cC_stepsTo 2 = .ok (.getfield 23, 3) := by decide +kernel
theorem dC_stepsTo_5 : decode cC_stepsTo 5 = .ok (.if_icmp .lt 12, 3) := by decide +kernel
theorem dC_stepsTo_8 : decode cC_stepsTo 8 = .ok (.iload_n 1, 1) := by decide +kernel
theorem dC_stepsTo_9 : decode cC_stepsTo 9 = .ok (.aload_n 0, 1) := by decide +kernel
theorem dC_stepsTo_10 : decode cC_stepsTo 10 = .ok (.getfield 23, 3) := by decide +kernel
theorem dC_stepsTo_13 : decode cC_stepsTo 13 = .ok (.isub, 1) := by decide +kernel
theorem dC_stepsTo_14 : decode cC_stepsTo 14 = .ok (.goto 12, 3) := by decide +kernel
theorem dC_stepsTo_17 : decode cC_stepsTo 17 = .ok (.iload_n 1, 1) := by decide +kernel
theorem dC_stepsTo_18 : decode cC_stepsTo 18 = .ok (.aload_n 0, 1) := by decide +kernel
theorem dC_stepsTo_19 : decode cC_stepsTo 19 = .ok (.getfield 23, 3) := by decide +kernel
theorem dC_stepsTo_22 : decode cC_stepsTo 22 = .ok (.isub, 1) := by decide +kernel
theorem dC_stepsTo_23 : decode cC_stepsTo 23 = .ok (.bipush 101, 2) := by decide +kernel
theorem dC_stepsTo_25 : decode cC_stepsTo 25 = .ok (.iadd, 1) := by decide +kernel
theorem dC_stepsTo_26 : decode cC_stepsTo 26 = .ok (.ireturn, 1) := by decide +kernel
theorem dC_turnTo_0 : decode cC_turnTo 0 = .ok (.aload_n 0, 1) := by decide +kernel
theorem dC_turnTo_1 : decode cC_turnTo 1 = .ok (.dup, 1) := by decide +kernel
theorem dC_turnTo_2 : decode cC_turnTo 2 = .ok (.getfield 27, 3) := by decide +kernel
theorem dC_turnTo_5 : decode cC_turnTo 5 = .ok (.aload_n 0, 1) := by decide +kernel
theorem dC_turnTo_6 : decode cC_turnTo 6 = .ok (.iload_n 1, 1) := by decide +kernel
theorem dC_turnTo_7 : decode cC_turnTo 7 = .ok (.invokevirtual 31, 3) := by decide +kernel
theorem dC_turnTo_10 : decode cC_turnTo 10 = .ok (.i2l, 1) := by decide +kernel
theorem dC_turnTo_11 : decode cC_turnTo 11 = .ok (.ladd, 1) := by decide +kernel
theorem dC_turnTo_12 : decode cC_turnTo 12 = .ok (.putfield 27, 3) := by decide +kernel
theorem dC_turnTo_15 : decode cC_turnTo 15 = .ok (.aload_n 0, 1) := by decide +kernel
theorem dC_turnTo_16 : decode cC_turnTo 16 = .ok (.iload_n 1, 1) := by decide +kernel
theorem dC_turnTo_17 : decode cC_turnTo 17 = .ok (.putfield 23, 3) := by decide +kernel
theorem dC_turnTo_20 : decode cC_turnTo 20 = .ok (.return_, 1) := by decide +kernel
theorem dC_goodLoops_0 : decode cC_goodLoops 0 = .ok (.iconst 0, 1) := by decide +kernel
theorem dC_goodLoops_1 : decode cC_goodLoops 1 = .ok (.istore_n 1, 1) := by decide +kernel
theorem dC_goodLoops_2 : decode cC_goodLoops 2 = .ok (.iconst 0, 1) := by decide +kernel
theorem dC_goodLoops_3 : decode cC_goodLoops 3 = .ok (.istore_n 2, 1) := by decide +kernel
theorem dC_goodLoops_4 : decode cC_goodLoops 4 = .ok (.iload_n 2, 1) := by decide +kernel
theorem dC_goodLoops_5 : decode cC_goodLoops 5 = .ok (.bipush 69, 2) := by decide +kernel
theorem dC_goodLoops_7 : decode cC_goodLoops 7 = .ok (.if_icmp .ge 21, 3) := by decide +kernel
theorem dC_goodLoops_10 : decode cC_goodLoops 10 = .ok (.aload_n 0, 1) := by decide +kernel
theorem dC_goodLoops_11 : decode cC_goodLoops 11 = .ok (.getfield 15, 3) := by decide +kernel
theorem dC_goodLoops_14 : decode cC_goodLoops 14 = .ok (.iload_n 2, 1) := by decide +kernel
theorem dC_goodLoops_15 : decode cC_goodLoops 15 = .ok (.baload, 1) := by decide +kernel
theorem dC_goodLoops_16 : decode cC_goodLoops 16 = .ok (.ifCond .ne 6, 3) := by decide +kernel
theorem dC_goodLoops_19 : decode cC_goodLoops 19 = .ok (.iinc 1 1, 3) := by decide +kernel
theorem dC_goodLoops_22 : decode cC_goodLoops 22 = .ok (.iinc 2 1, 3) := by decide +kernel
theorem dC_goodLoops_25 : decode cC_goodLoops 25 = .ok (.goto (-21), 3) := by decide +kernel
theorem dC_goodLoops_28 : decode cC_goodLoops 28 = .ok (.iload_n 1, 1) := by decide +kernel
theorem dC_goodLoops_29 : decode cC_goodLoops 29 = .ok (.ireturn, 1) := by decide +kernel
theorem dC_clearPages_0 : decode cC_clearPages 0 = .ok (.iconst 0, 1) := by decide +kernel
theorem dC_clearPages_1 : decode cC_clearPages 1 = .ok (.istore_n 1, 1) := by decide +kernel
theorem dC_clearPages_2 : decode cC_clearPages 2 = .ok (.iload_n 1, 1) := by decide +kernel
theorem dC_clearPages_3 : decode cC_clearPages 3 = .ok (.bipush 101, 2) := by decide +kernel
theorem dC_clearPages_5 : decode cC_clearPages 5 = .ok (.if_icmp .ge 16, 3) := by decide +kernel
theorem dC_clearPages_8 : decode cC_clearPages 8 = .ok (.aload_n 0, 1) := by decide +kernel
theorem dC_clearPages_9 : decode cC_clearPages 9 = .ok (.getfield 9, 3) := by decide +kernel
theorem dC_clearPages_12 : decode cC_clearPages 12 = .ok (.iload_n 1, 1) := by decide +kernel
theorem dC_clearPages_13 : decode cC_clearPages 13 = .ok (.lconst 0, 1) := by decide +kernel
theorem dC_clearPages_14 : decode cC_clearPages 14 = .ok (.lastore, 1) := by decide +kernel
theorem dC_clearPages_15 : decode cC_clearPages 15 = .ok (.iinc 1 1, 3) := by decide +kernel
theorem dC_clearPages_18 : decode cC_clearPages 18 = .ok (.goto (-16), 3) := by decide +kernel
theorem dC_clearPages_21 : decode cC_clearPages 21 = .ok (.return_, 1) := by decide +kernel
