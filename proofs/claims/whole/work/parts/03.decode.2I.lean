theorem dI_init_0 : decode cI_init 0 = .ok (.aload_n 0, 1) := by decide +kernel
theorem dI_init_1 : decode cI_init 1 = .ok (.invokespecial 3, 3) := by decide +kernel
theorem dI_init_4 : decode cI_init 4 = .ok (.aload_n 0, 1) := by decide +kernel
theorem dI_init_5 : decode cI_init 5 = .ok (.bipush 20, 2) := by decide +kernel
theorem dI_init_7 : decode cI_init 7 = .ok (.newarray .long, 2) := by decide +kernel
theorem dI_init_9 : decode cI_init 9 = .ok (.putfield 9, 3) := by decide +kernel
theorem dI_init_12 : decode cI_init 12 = .ok (.return_, 1) := by decide +kernel
theorem dI_clear_0 : decode cI_clear 0 = .ok (.iconst 0, 1) := by decide +kernel
theorem dI_clear_1 : decode cI_clear 1 = .ok (.istore_n 1, 1) := by decide +kernel
theorem dI_clear_2 : decode cI_clear 2 = .ok (.iload_n 1, 1) := by decide +kernel
theorem dI_clear_3 : decode cI_clear 3 = .ok (.bipush 20, 2) := by decide +kernel
theorem dI_clear_5 : decode cI_clear 5 = .ok (.if_icmp .ge 16, 3) := by decide +kernel
theorem dI_clear_8 : decode cI_clear 8 = .ok (.aload_n 0, 1) := by decide +kernel
theorem dI_clear_9 : decode cI_clear 9 = .ok (.getfield 9, 3) := by decide +kernel
theorem dI_clear_12 : decode cI_clear 12 = .ok (.iload_n 1, 1) := by decide +kernel
theorem dI_clear_13 : decode cI_clear 13 = .ok (.lconst 0, 1) := by decide +kernel
theorem dI_clear_14 : decode cI_clear 14 = .ok (.lastore, 1) := by decide +kernel
theorem dI_clear_15 : decode cI_clear 15 = .ok (.iinc 1 1, 3) := by decide +kernel
theorem dI_clear_18 : decode cI_clear 18 = .ok (.goto (-16), 3) := by decide +kernel
theorem dI_clear_21 : decode cI_clear 21 = .ok (.return_, 1) := by decide +kernel
theorem dI_number_0 : decode cI_number 0 = .ok (.iconst 0, 1) := by decide +kernel
theorem dI_number_1 : decode cI_number 1 = .ok (.istore_n 3, 1) := by decide +kernel
theorem dI_number_2 : decode cI_number 2 = .ok (.iconst 0, 1) := by decide +kernel
theorem dI_number_3 : decode cI_number 3 = .ok (.istore 4, 2) := by decide +kernel
theorem dI_number_5 : decode cI_number 5 = .ok (.iload 4, 2) := by decide +kernel
theorem dI_number_7 : decode cI_number 7 = .ok (.iload_n 2, 1) := by decide +kernel
theorem dI_number_8 : decode cI_number 8 = .ok (.if_icmp .ge 52, 3) := by decide +kernel
theorem dI_number_11 : decode cI_number 11 = .ok (.iload_n 1, 1) := by decide +kernel
theorem dI_number_12 : decode cI_number 12 = .ok (.iload 4, 2) := by decide +kernel
theorem dI_number_14 : decode cI_number 14 = .ok (.iadd, 1) := by decide +kernel
theorem dI_number_15 : decode cI_number 15 = .ok (.istore 5, 2) := by decide +kernel
theorem dI_number_17 : decode cI_number 17 = .ok (.aload_n 0, 1) := by decide +kernel
theorem dI_number_18 : decode cI_number 18 = .ok (.getfield 9, 3) := by decide +kernel
theorem dI_number_21 : decode cI_number 21 = .ok (.iload 5, 2) := by decide +kernel
theorem dI_number_23 : decode cI_number 23 = .ok (.bipush 8, 2) := by decide +kernel
theorem dI_number_25 : decode cI_number 25 = .ok (.idiv, 1) := by decide +kernel
theorem dI_number_26 : decode cI_number 26 = .ok (.laload, 1) := by decide +kernel
theorem dI_number_27 : decode cI_number 27 = .ok (.bipush 8, 2) := by decide +kernel
theorem dI_number_29 : decode cI_number 29 = .ok (.iload 5, 2) := by decide +kernel
theorem dI_number_31 : decode cI_number 31 = .ok (.bipush 8, 2) := by decide +kernel
theorem dI_number_33 : decode cI_number 33 = .ok (.irem, 1) := by decide +kernel
theorem dI_number_34 : decode cI_number 34 = .ok (.imul, 1) := by decide +kernel
theorem dI_number_35 : decode cI_number 35 = .ok (.lushr, 1) := by decide +kernel
theorem dI_number_36 : decode cI_number 36 = .ok (.l2i, 1) := by decide +kernel
theorem dI_number_37 : decode cI_number 37 = .ok (.sipush 255, 3) := by decide +kernel
theorem dI_number_40 : decode cI_number 40 = .ok (.iand, 1) := by decide +kernel
theorem dI_number_41 : decode cI_number 41 = .ok (.istore 6, 2) := by decide +kernel
theorem dI_number_43 : decode cI_number 43 = .ok (.iload_n 3, 1) := by decide +kernel
theorem dI_number_44 : decode cI_number 44 = .ok (.iload 6, 2) := by decide +kernel
theorem dI_number_46 : decode cI_number 46 = .ok (.bipush 8, 2) := by decide +kernel
theorem dI_number_48 : decode cI_number 48 = .ok (.iload 4, 2) := by decide +kernel
theorem dI_number_50 : decode cI_number 50 = .ok (.imul, 1) := by decide +kernel
theorem dI_number_51 : decode cI_number 51 = .ok (.ishl, 1) := by decide +kernel
theorem dI_number_52 : decode cI_number 52 = .ok (.ior, 1) := by decide +kernel
theorem dI_number_53 : decode cI_number 53 = .ok (.istore_n 3, 1) := by decide +kernel
theorem dI_number_54 : decode cI_number 54 = .ok (.iinc 4 1, 3) := by decide +kernel
theorem dI_number_57 : decode cI_number 57 = .ok (.goto (-52), 3) := by decide +kernel
theorem dI_number_60 : decode cI_number 60 = .ok (.iload_n 3, 1) := by decide +kernel
theorem dI_number_61 : decode cI_number 61 = .ok (.ireturn, 1) := by decide +kernel
theorem dI_pageNumber_0 : decode cI_pageNumber 0 = .ok (.aload_n 0, 1) := by decide +kernel
theorem dI_pageNumber_1 : decode cI_pageNumber 1 = .ok (.iload_n 1, 1) := by decide +kernel
theorem dI_pageNumber_2 : decode cI_pageNumber 2 = .ok (.iconst 1, 1) := by decide +kernel
theorem dI_pageNumber_3 : decode cI_pageNumber 3 = .ok (.invokevirtual 15, 3) := by decide +kernel
theorem dI_pageNumber_6 : decode cI_pageNumber 6 = .ok (.istore_n 2, 1) := by decide +kernel
theorem dI_pageNumber_7 : decode cI_pageNumber 7 = .ok (.iload_n 2, 1) := by decide +kernel
theorem dI_pageNumber_8 : decode cI_pageNumber 8 = .ok (.bipush 101, 2) := by decide +kernel
theorem dI_pageNumber_10 : decode cI_pageNumber 10 = .ok (.if_icmp .ge 7, 3) := by decide +kernel
theorem dI_pageNumber_13 : decode cI_pageNumber 13 = .ok (.iload_n 2, 1) := by decide +kernel
theorem dI_pageNumber_14 : decode cI_pageNumber 14 = .ok (.goto 4, 3) := by decide +kernel
theorem dI_pageNumber_17 : decode cI_pageNumber 17 = .ok (.iconst 0, 1) := by decide +kernel
theorem dI_pageNumber_18 : decode cI_pageNumber 18 = .ok (.ireturn, 1) := by decide +kernel
theorem dI_putNumber_0 : decode cI_putNumber 0 = .ok (.iconst 0, 1) := by decide +kernel
theorem dI_putNumber_1 : decode cI_putNumber 1 = .ok (.istore 4, 2) := by decide +kernel
theorem dI_putNumber_3 : decode cI_putNumber 3 = .ok (.iload 4, 2) := by decide +kernel
theorem dI_putNumber_5 : decode cI_putNumber 5 = .ok (.iload_n 2, 1) := by decide +kernel
theorem dI_putNumber_6 : decode cI_putNumber 6 = .ok (.if_icmp .ge 53, 3) := by decide +kernel
theorem dI_putNumber_9 : decode cI_putNumber 9 = .ok (.iload_n 1, 1) := by decide +kernel
theorem dI_putNumber_10 : decode cI_putNumber 10 = .ok (.iload 4, 2) := by decide +kernel
theorem dI_putNumber_12 : decode cI_putNumber 12 = .ok (.iadd, 1) := by decide +kernel
theorem dI_putNumber_13 : decode cI_putNumber 13 = .ok (.istore 5, 2) := by decide +kernel
theorem dI_putNumber_15 : decode cI_putNumber 15 = .ok (.iload_n 3, 1) := by decide +kernel
theorem dI_putNumber_16 : decode cI_putNumber 16 = .ok (.bipush 8, 2) := by decide +kernel
theorem dI_putNumber_18 : decode cI_putNumber 18 = .ok (.iload 4, 2) := by decide +kernel
theorem dI_putNumber_20 : decode cI_putNumber 20 = .ok (.imul, 1) := by decide +kernel
theorem dI_putNumber_21 : decode cI_putNumber 21 = .ok (.iushr, 1) := by decide +kernel
theorem dI_putNumber_22 : decode cI_putNumber 22 = .ok (.sipush 255, 3) := by decide +kernel
theorem dI_putNumber_25 : decode cI_putNumber 25 = .ok (.iand, 1) := by decide +kernel
theorem dI_putNumber_26 : decode cI_putNumber 26 = .ok (.i2l, 1) := by decide +kernel
theorem dI_putNumber_27 : decode cI_putNumber 27 = .ok (.lstore 6, 2) := by decide +kernel
theorem dI_putNumber_29 : decode cI_putNumber 29 = .ok (.aload_n 0, 1) := by decide +kernel
theorem dI_putNumber_30 : decode cI_putNumber 30 = .ok (.getfield 9, 3) := by decide +kernel
theorem dI_putNumber_33 : decode cI_putNumber 33 = .ok (.iload 5, 2) := by decide +kernel
theorem dI_putNumber_35 : decode cI_putNumber 35 = .ok (.bipush 8, 2) := by decide +kernel
theorem dI_putNumber_37 : decode cI_putNumber 37 = .ok (.idiv, 1) := by decide +kernel
theorem dI_putNumber_38 : decode cI_putNumber 38 = .ok (.dup2, 1) := by decide +kernel
theorem dI_putNumber_39 : decode cI_putNumber 39 = .ok (.laload, 1) := by decide +kernel
theorem dI_putNumber_40 : decode cI_putNumber 40 = .ok (.lload 6, 2) := by decide +kernel
theorem dI_putNumber_42 : decode cI_putNumber 42 = .ok (.bipush 8, 2) := by decide +kernel
theorem dI_putNumber_44 : decode cI_putNumber 44 = .ok (.iload 5, 2) := by decide +kernel
theorem dI_putNumber_46 : decode cI_putNumber 46 = .ok (.bipush 8, 2) := by decide +kernel
theorem dI_putNumber_48 : decode cI_putNumber 48 = .ok (.irem, 1) := by decide +kernel
theorem dI_putNumber_49 : decode cI_putNumber 49 = .ok (.imul, 1) := by decide +kernel
theorem dI_putNumber_50 : decode cI_putNumber 50 = .ok (.lshl, 1) := by decide +kernel
theorem dI_putNumber_51 : decode cI_putNumber 51 = .ok (.lor, 1) := by decide +kernel
theorem dI_putNumber_52 : decode cI_putNumber 52 = .ok (.lastore, 1) := by decide +kernel
theorem dI_putNumber_53 : decode cI_putNumber 53 = .ok (.iinc 4 1, 3) := by decide +kernel
theorem dI_putNumber_56 : decode cI_putNumber 56 = .ok (.goto (-53), 3) := by decide +kernel
theorem dI_putNumber_59 : decode cI_putNumber 59 = .ok (.return_, 1) := by decide +kernel
theorem dI_dueSum_0 : decode cI_dueSum 0 = .ok (.iconst 1, 1) := by decide +kernel
theorem dI_dueSum_1 : decode cI_dueSum 1 = .ok (.istore_n 1, 1) := by decide +kernel
theorem dI_dueSum_2 : decode cI_dueSum 2 = .ok (.iconst 0, 1) := by decide +kernel
theorem dI_dueSum_3 : decode cI_dueSum 3 = .ok (.istore_n 2, 1) := by decide +kernel
theorem dI_dueSum_4 : decode cI_dueSum 4 = .ok (.iload_n 2, 1) := by decide +kernel
theorem dI_dueSum_5 : decode cI_dueSum 5 = .ok (.sipush 158, 3) := by decide +kernel
theorem dI_dueSum_8 : decode cI_dueSum 8 = .ok (.if_icmp .ge 18, 3) := by decide +kernel
theorem dI_dueSum_11 : decode cI_dueSum 11 = .ok (.iload_n 1, 1) := by decide +kernel
theorem dI_dueSum_12 : decode cI_dueSum 12 = .ok (.aload_n 0, 1) := by decide +kernel
theorem dI_dueSum_13 : decode cI_dueSum 13 = .ok (.iload_n 2, 1) := by decide +kernel
theorem dI_dueSum_14 : decode cI_dueSum 14 = .ok (.iconst 1, 1) := by decide +kernel
theorem dI_dueSum_15 : decode cI_dueSum 15 = .ok (.invokevirtual 15, 3) := by decide +kernel
theorem dI_dueSum_18 : decode cI_dueSum 18 = .ok (.iadd, 1) := by decide +kernel
theorem dI_dueSum_19 : decode cI_dueSum 19 = .ok (.istore_n 1, 1) := by decide +kernel
theorem dI_dueSum_20 : decode cI_dueSum 20 = .ok (.iinc 2 1, 3) := by decide +kernel
theorem dI_dueSum_23 : decode cI_dueSum 23 = .ok (.goto (-19), 3) := by decide +kernel
theorem dI_dueSum_26 : decode cI_dueSum 26 = .ok (.iload_n 1, 1) := by decide +kernel
theorem dI_dueSum_27 : decode cI_dueSum 27 = .ok (.ireturn, 1) := by decide +kernel
theorem dI_isValid_0 : decode cI_isValid 0 = .ok (.aload_n 0, 1) := by decide +kernel
theorem dI_isValid_1 : decode cI_isValid 1 = .ok (.sipush 158, 3) := by decide +kernel
theorem dI_isValid_4 : decode cI_isValid 4 = .ok (.iconst 2, 1) := by decide +kernel
theorem dI_isValid_5 : decode cI_isValid 5 = .ok (.invokevirtual 15, 3) := by decide +kernel
theorem dI_isValid_8 : decode cI_isValid 8 = .ok (.aload_n 0, 1) := by decide +kernel
theorem dI_isValid_9 : decode cI_isValid 9 = .ok (.invokevirtual 19, 3) := by decide +kernel
theorem dI_isValid_12 : decode cI_isValid 12 = .ok (.if_icmp .ne 7, 3) := by decide +kernel
theorem dI_isValid_15 : decode cI_isValid 15 = .ok (.iconst 1, 1) := by decide +kernel
theorem dI_isValid_16 : decode cI_isValid 16 = .ok (.goto 4, 3) := by decide +kernel
theorem dI_isValid_19 : decode cI_isValid 19 = .ok (.iconst 0, 1) := by decide +kernel
theorem dI_isValid_20 : decode cI_isValid 20 = .ok (.ireturn, 1) := by decide +kernel
