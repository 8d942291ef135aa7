theorem dD_init_0 : decode cD_init 0 = .ok (.aload_n 0, 1) := by decide +kernel
theorem dD_init_1 : decode cD_init 1 = .ok (.invokespecial 3, 3) := by decide +kernel
theorem dD_init_4 : decode cD_init 4 = .ok (.aload_n 0, 1) := by decide +kernel
theorem dD_init_5 : decode cD_init 5 = .ok (.bipush 8, 2) := by decide +kernel
theorem dD_init_7 : decode cD_init 7 = .ok (.anewarray 9, 3) := by decide +kernel
theorem dD_init_10 : decode cD_init 10 = .ok (.putfield 11, 3) := by decide +kernel
theorem dD_init_13 : decode cD_init 13 = .ok (.iconst 0, 1) := by decide +kernel
theorem dD_init_14 : decode cD_init 14 = .ok (.istore_n 1, 1) := by decide +kernel
theorem dD_init_15 : decode cD_init 15 = .ok (.iload_n 1, 1) := by decide +kernel
theorem dD_init_16 : decode cD_init 16 = .ok (.bipush 8, 2) := by decide +kernel
theorem dD_init_18 : decode cD_init 18 = .ok (.if_icmp .ge 22, 3) := by decide +kernel
theorem dD_init_21 : decode cD_init 21 = .ok (.aload_n 0, 1) := by decide +kernel
theorem dD_init_22 : decode cD_init 22 = .ok (.getfield 11, 3) := by decide +kernel
theorem dD_init_25 : decode cD_init 25 = .ok (.iload_n 1, 1) := by decide +kernel
theorem dD_init_26 : decode cD_init 26 = .ok (.new 9, 3) := by decide +kernel
theorem dD_init_29 : decode cD_init 29 = .ok (.dup, 1) := by decide +kernel
theorem dD_init_30 : decode cD_init 30 = .ok (.invokespecial 17, 3) := by decide +kernel
theorem dD_init_33 : decode cD_init 33 = .ok (.aastore, 1) := by decide +kernel
theorem dD_init_34 : decode cD_init 34 = .ok (.iinc 1 1, 3) := by decide +kernel
theorem dD_init_37 : decode cD_init 37 = .ok (.goto (-22), 3) := by decide +kernel
theorem dD_init_40 : decode cD_init 40 = .ok (.aload_n 0, 1) := by decide +kernel
theorem dD_init_41 : decode cD_init 41 = .ok (.bipush 101, 2) := by decide +kernel
theorem dD_init_43 : decode cD_init 43 = .ok (.newarray .int, 2) := by decide +kernel
theorem dD_init_45 : decode cD_init 45 = .ok (.putfield 18, 3) := by decide +kernel
theorem dD_init_48 : decode cD_init 48 = .ok (.aload_n 0, 1) := by decide +kernel
theorem dD_init_49 : decode cD_init 49 = .ok (.bipush 101, 2) := by decide +kernel
theorem dD_init_51 : decode cD_init 51 = .ok (.newarray .boolean, 2) := by decide +kernel
theorem dD_init_53 : decode cD_init 53 = .ok (.putfield 22, 3) := by decide +kernel
theorem dD_init_56 : decode cD_init 56 = .ok (.aload_n 0, 1) := by decide +kernel
theorem dD_init_57 : decode cD_init 57 = .ok (.bipush 101, 2) := by decide +kernel
theorem dD_init_59 : decode cD_init 59 = .ok (.newarray .boolean, 2) := by decide +kernel
theorem dD_init_61 : decode cD_init 61 = .ok (.putfield 26, 3) := by decide +kernel
theorem dD_init_64 : decode cD_init 64 = .ok (.return_, 1) := by decide +kernel
theorem dD_forget_0 : decode cD_forget 0 = .ok (.iconst 0, 1) := by decide +kernel
theorem dD_forget_1 : decode cD_forget 1 = .ok (.istore_n 1, 1) := by decide +kernel
theorem dD_forget_2 : decode cD_forget 2 = .ok (.iload_n 1, 1) := by decide +kernel
theorem dD_forget_3 : decode cD_forget 3 = .ok (.bipush 8, 2) := by decide +kernel
theorem dD_forget_5 : decode cD_forget 5 = .ok (.if_icmp .ge 18, 3) := by decide +kernel
theorem dD_forget_8 : decode cD_forget 8 = .ok (.aload_n 0, 1) := by decide +kernel
theorem dD_forget_9 : decode cD_forget 9 = .ok (.getfield 11, 3) := by decide +kernel
theorem dD_forget_12 : decode cD_forget 12 = .ok (.iload_n 1, 1) := by decide +kernel
theorem dD_forget_13 : decode cD_forget 13 = .ok (.aaload, 1) := by decide +kernel
theorem dD_forget_14 : decode cD_forget 14 = .ok (.invokevirtual 29, 3) := by decide +kernel
theorem dD_forget_17 : decode cD_forget 17 = .ok (.iinc 1 1, 3) := by decide +kernel
theorem dD_forget_20 : decode cD_forget 20 = .ok (.goto (-18), 3) := by decide +kernel
theorem dD_forget_23 : decode cD_forget 23 = .ok (.iconst 0, 1) := by decide +kernel
theorem dD_forget_24 : decode cD_forget 24 = .ok (.istore_n 1, 1) := by decide +kernel
theorem dD_forget_25 : decode cD_forget 25 = .ok (.iload_n 1, 1) := by decide +kernel
theorem dD_forget_26 : decode cD_forget 26 = .ok (.bipush 101, 2) := by decide +kernel
theorem dD_forget_28 : decode cD_forget 28 = .ok (.if_icmp .ge 30, 3) := by decide +kernel
theorem dD_forget_31 : decode cD_forget 31 = .ok (.aload_n 0, 1) := by decide +kernel
theorem dD_forget_32 : decode cD_forget 32 = .ok (.getfield 18, 3) := by decide +kernel
theorem dD_forget_35 : decode cD_forget 35 = .ok (.iload_n 1, 1) := by decide +kernel
theorem dD_forget_36 : decode cD_forget 36 = .ok (.iconst 0, 1) := by decide +kernel
theorem dD_forget_37 : decode cD_forget 37 = .ok (.iastore, 1) := by decide +kernel
theorem dD_forget_38 : decode cD_forget 38 = .ok (.aload_n 0, 1) := by decide +kernel
theorem dD_forget_39 : decode cD_forget 39 = .ok (.getfield 22, 3) := by decide +kernel
theorem dD_forget_42 : decode cD_forget 42 = .ok (.iload_n 1, 1) := by decide +kernel
theorem dD_forget_43 : decode cD_forget 43 = .ok (.iconst 0, 1) := by decide +kernel
theorem dD_forget_44 : decode cD_forget 44 = .ok (.bastore, 1) := by decide +kernel
theorem dD_forget_45 : decode cD_forget 45 = .ok (.aload_n 0, 1) := by decide +kernel
theorem dD_forget_46 : decode cD_forget 46 = .ok (.getfield 26, 3) := by decide +kernel
theorem dD_forget_49 : decode cD_forget 49 = .ok (.iload_n 1, 1) := by decide +kernel
theorem dD_forget_50 : decode cD_forget 50 = .ok (.iconst 0, 1) := by decide +kernel
theorem dD_forget_51 : decode cD_forget 51 = .ok (.bastore, 1) := by decide +kernel
theorem dD_forget_52 : decode cD_forget 52 = .ok (.iinc 1 1, 3) := by decide +kernel
theorem dD_forget_55 : decode cD_forget 55 = .ok (.goto (-30), 3) := by decide +kernel
theorem dD_forget_58 : decode cD_forget 58 = .ok (.return_, 1) := by decide +kernel
theorem dD_numberOf_0 : decode cD_numberOf 0 = .ok (.iconst 0, 1) := by decide +kernel
theorem dD_numberOf_1 : decode cD_numberOf 1 = .ok (.istore_n 2, 1) := by decide +kernel
theorem dD_numberOf_2 : decode cD_numberOf 2 = .ok (.iload_n 2, 1) := by decide +kernel
theorem dD_numberOf_3 : decode cD_numberOf 3 = .ok (.bipush 8, 2) := by decide +kernel
theorem dD_numberOf_5 : decode cD_numberOf 5 = .ok (.if_icmp .ge 24, 3) := by decide +kernel
theorem dD_numberOf_8 : decode cD_numberOf 8 = .ok (.aload_n 0, 1) := by decide +kernel
theorem dD_numberOf_9 : decode cD_numberOf 9 = .ok (.getfield 11, 3) := by decide +kernel
theorem dD_numberOf_12 : decode cD_numberOf 12 = .ok (.iload_n 2, 1) := by decide +kernel
theorem dD_numberOf_13 : decode cD_numberOf 13 = .ok (.aaload, 1) := by decide +kernel
theorem dD_numberOf_14 : decode cD_numberOf 14 = .ok (.getfield 32, 3) := by decide +kernel
theorem dD_numberOf_17 : decode cD_numberOf 17 = .ok (.iload_n 1, 1) := by decide +kernel
theorem dD_numberOf_18 : decode cD_numberOf 18 = .ok (.if_icmp .ne 5, 3) := by decide +kernel
theorem dD_numberOf_21 : decode cD_numberOf 21 = .ok (.iload_n 2, 1) := by decide +kernel
theorem dD_numberOf_22 : decode cD_numberOf 22 = .ok (.ireturn, 1) := by decide +kernel
theorem dD_numberOf_23 : decode cD_numberOf 23 = .ok (.iinc 2 1, 3) := by decide +kernel
theorem dD_numberOf_26 : decode cD_numberOf 26 = .ok (.goto (-24), 3) := by decide +kernel
theorem dD_numberOf_29 : decode cD_numberOf 29 = .ok (.iconst (-1), 1) := by decide +kernel
theorem dD_numberOf_30 : decode cD_numberOf 30 = .ok (.ireturn, 1) := by decide +kernel
theorem dD_isFree_0 : decode cD_isFree 0 = .ok (.iload_n 1, 1) := by decide +kernel
theorem dD_isFree_1 : decode cD_isFree 1 = .ok (.bipush 40, 2) := by decide +kernel
theorem dD_isFree_3 : decode cD_isFree 3 = .ok (.if_icmp .lt 25, 3) := by decide +kernel
theorem dD_isFree_6 : decode cD_isFree 6 = .ok (.aload_n 0, 1) := by decide +kernel
theorem dD_isFree_7 : decode cD_isFree 7 = .ok (.getfield 22, 3) := by decide +kernel
theorem dD_isFree_10 : decode cD_isFree 10 = .ok (.iload_n 1, 1) := by decide +kernel
theorem dD_isFree_11 : decode cD_isFree 11 = .ok (.baload, 1) := by decide +kernel
theorem dD_isFree_12 : decode cD_isFree 12 = .ok (.ifCond .ne 16, 3) := by decide +kernel
theorem dD_isFree_15 : decode cD_isFree 15 = .ok (.aload_n 0, 1) := by decide +kernel
theorem dD_isFree_16 : decode cD_isFree 16 = .ok (.getfield 26, 3) := by decide +kernel
theorem dD_isFree_19 : decode cD_isFree 19 = .ok (.iload_n 1, 1) := by decide +kernel
theorem dD_isFree_20 : decode cD_isFree 20 = .ok (.baload, 1) := by decide +kernel
theorem dD_isFree_21 : decode cD_isFree 21 = .ok (.ifCond .ne 7, 3) := by decide +kernel
theorem dD_isFree_24 : decode cD_isFree 24 = .ok (.iconst 1, 1) := by decide +kernel
theorem dD_isFree_25 : decode cD_isFree 25 = .ok (.goto 4, 3) := by decide +kernel
theorem dD_isFree_28 : decode cD_isFree 28 = .ok (.iconst 0, 1) := by decide +kernel
theorem dD_isFree_29 : decode cD_isFree 29 = .ok (.ireturn, 1) := by decide +kernel
theorem dD_leastFree_0 : decode cD_leastFree 0 = .ok (.bipush 40, 2) := by decide +kernel
theorem dD_leastFree_2 : decode cD_leastFree 2 = .ok (.istore_n 1, 1) := by decide +kernel
theorem dD_leastFree_3 : decode cD_leastFree 3 = .ok (.iload_n 1, 1) := by decide +kernel
theorem dD_leastFree_4 : decode cD_leastFree 4 = .ok (.bipush 101, 2) := by decide +kernel
theorem dD_leastFree_6 : decode cD_leastFree 6 = .ok (.if_icmp .ge 19, 3) := by decide +kernel
theorem dD_leastFree_9 : decode cD_leastFree 9 = .ok (.aload_n 0, 1) := by decide +kernel
theorem dD_leastFree_10 : decode cD_leastFree 10 = .ok (.iload_n 1, 1) := by decide +kernel
theorem dD_leastFree_11 : decode cD_leastFree 11 = .ok (.invokevirtual 36, 3) := by decide +kernel
theorem dD_leastFree_14 : decode cD_leastFree 14 = .ok (.ifCond .eq 5, 3) := by decide +kernel
theorem dD_leastFree_17 : decode cD_leastFree 17 = .ok (.iload_n 1, 1) := by decide +kernel
theorem dD_leastFree_18 : decode cD_leastFree 18 = .ok (.ireturn, 1) := by decide +kernel
theorem dD_leastFree_19 : decode cD_leastFree 19 = .ok (.iinc 1 1, 3) := by decide +kernel
theorem dD_leastFree_22 : decode cD_leastFree 22 = .ok (.goto (-19), 3) := by decide +kernel
theorem dD_leastFree_25 : decode cD_leastFree 25 = .ok (.iconst (-1), 1) := by decide +kernel
theorem dD_leastFree_26 : decode cD_leastFree 26 = .ok (.ireturn, 1) := by decide +kernel
theorem dD_countFree_0 : decode cD_countFree 0 = .ok (.iconst 0, 1) := by decide +kernel
theorem dD_countFree_1 : decode cD_countFree 1 = .ok (.istore_n 1, 1) := by decide +kernel
theorem dD_countFree_2 : decode cD_countFree 2 = .ok (.bipush 40, 2) := by decide +kernel
theorem dD_countFree_4 : decode cD_countFree 4 = .ok (.istore_n 2, 1) := by decide +kernel
theorem dD_countFree_5 : decode cD_countFree 5 = .ok (.iload_n 2, 1) := by decide +kernel
theorem dD_countFree_6 : decode cD_countFree 6 = .ok (.bipush 101, 2) := by decide +kernel
theorem dD_countFree_8 : decode cD_countFree 8 = .ok (.if_icmp .ge 20, 3) := by decide +kernel
theorem dD_countFree_11 : decode cD_countFree 11 = .ok (.aload_n 0, 1) := by decide +kernel
theorem dD_countFree_12 : decode cD_countFree 12 = .ok (.iload_n 2, 1) := by decide +kernel
theorem dD_countFree_13 : decode cD_countFree 13 = .ok (.invokevirtual 36, 3) := by decide +kernel
theorem dD_countFree_16 : decode cD_countFree 16 = .ok (.ifCond .eq 6, 3) := by decide +kernel
theorem dD_countFree_19 : decode cD_countFree 19 = .ok (.iinc 1 1, 3) := by decide +kernel
theorem dD_countFree_22 : decode cD_countFree 22 = .ok (.iinc 2 1, 3) := by decide +kernel
theorem dD_countFree_25 : decode cD_countFree 25 = .ok (.goto (-20), 3) := by decide +kernel
theorem dD_countFree_28 : decode cD_countFree 28 = .ok (.iload_n 1, 1) := by decide +kernel
theorem dD_countFree_29 : decode cD_countFree 29 = .ok (.ireturn, 1) := by decide +kernel
theorem dD_pageAt_0 : decode cD_pageAt 0 = .ok (.aload_n 1, 1) := by decide +kernel
theorem dD_pageAt_1 : decode cD_pageAt 1 = .ok (.getfield 40, 3) := by decide +kernel
theorem dD_pageAt_4 : decode cD_pageAt 4 = .ok (.istore_n 3, 1) := by decide +kernel
theorem dD_pageAt_5 : decode cD_pageAt 5 = .ok (.iconst 0, 1) := by decide +kernel
theorem dD_pageAt_6 : decode cD_pageAt 6 = .ok (.istore 4, 2) := by decide +kernel
theorem dD_pageAt_8 : decode cD_pageAt 8 = .ok (.iload 4, 2) := by decide +kernel
theorem dD_pageAt_10 : decode cD_pageAt 10 = .ok (.iload_n 2, 1) := by decide +kernel
theorem dD_pageAt_11 : decode cD_pageAt 11 = .ok (.if_icmp .ge 16, 3) := by decide +kernel
theorem dD_pageAt_14 : decode cD_pageAt 14 = .ok (.aload_n 0, 1) := by decide +kernel
theorem dD_pageAt_15 : decode cD_pageAt 15 = .ok (.getfield 18, 3) := by decide +kernel
theorem dD_pageAt_18 : decode cD_pageAt 18 = .ok (.iload_n 3, 1) := by decide +kernel
theorem dD_pageAt_19 : decode cD_pageAt 19 = .ok (.iaload, 1) := by decide +kernel
theorem dD_pageAt_20 : decode cD_pageAt 20 = .ok (.istore_n 3, 1) := by decide +kernel
theorem dD_pageAt_21 : decode cD_pageAt 21 = .ok (.iinc 4 1, 3) := by decide +kernel
theorem dD_pageAt_24 : decode cD_pageAt 24 = .ok (.goto (-16), 3) := by decide +kernel
theorem dD_pageAt_27 : decode cD_pageAt 27 = .ok (.iload_n 3, 1) := by decide +kernel
theorem dD_pageAt_28 : decode cD_pageAt 28 = .ok (.ireturn, 1) := by decide +kernel
theorem dD_putPageAt_0 : decode cD_putPageAt 0 = .ok (.iload_n 2, 1) := by decide +kernel
theorem dD_putPageAt_1 : decode cD_putPageAt 1 = .ok (.ifCond .ne 11, 3) := by decide +kernel
theorem dD_putPageAt_4 : decode cD_putPageAt 4 = .ok (.aload_n 1, 1) := by decide +kernel
theorem dD_putPageAt_5 : decode cD_putPageAt 5 = .ok (.iload_n 3, 1) := by decide +kernel
theorem dD_putPageAt_6 : decode cD_putPageAt 6 = .ok (.putfield 40, 3) := by decide +kernel
theorem dD_putPageAt_9 : decode cD_putPageAt 9 = .ok (.goto 17, 3) := by decide +kernel
theorem dD_putPageAt_12 : decode cD_putPageAt 12 = .ok (.aload_n 0, 1) := by decide +kernel
theorem dD_putPageAt_13 : decode cD_putPageAt 13 = .ok (.getfield 18, 3) := by decide +kernel
theorem dD_putPageAt_16 : decode cD_putPageAt 16 = .ok (.aload_n 0, 1) := by decide +kernel
theorem dD_putPageAt_17 : decode cD_putPageAt 17 = .ok (.aload_n 1, 1) := by decide +kernel
theorem dD_putPageAt_18 : decode cD_putPageAt 18 = .ok (.iload_n 2, 1) := by decide +kernel
theorem dD_putPageAt_19 : decode cD_putPageAt 19 = .ok (.iconst 1, 1) := by decide +kernel
theorem dD_putPageAt_20 : decode cD_putPageAt 20 = .ok (.isub, 1) := by decide +kernel
theorem dD_putPageAt_21 : decode cD_putPageAt 21 = .ok (.invokevirtual 43, 3) := by decide +kernel
theorem dD_putPageAt_24 : decode cD_putPageAt 24 = .ok (.iload_n 3, 1) := by decide +kernel
theorem dD_putPageAt_25 : decode cD_putPageAt 25 = .ok (.iastore, 1) := by decide +kernel
theorem dD_putPageAt_26 : decode cD_putPageAt 26 = .ok (.return_, 1) := by decide +kernel
theorem dD_addPage_0 : decode cD_addPage 0 = .ok (.aload_n 0, 1) := by decide +kernel
theorem dD_addPage_1 : decode cD_addPage 1 = .ok (.aload_n 1, 1) := by decide +kernel
theorem dD_addPage_2 : decode cD_addPage 2 = .ok (.aload_n 1, 1) := by decide +kernel
theorem dD_addPage_3 : decode cD_addPage 3 = .ok (.getfield 47, 3) := by decide +kernel
theorem dD_addPage_6 : decode cD_addPage 6 = .ok (.invokestatic 50, 3) := by decide +kernel
theorem dD_addPage_9 : decode cD_addPage 9 = .ok (.iload_n 2, 1) := by decide +kernel
theorem dD_addPage_10 : decode cD_addPage 10 = .ok (.invokevirtual 54, 3) := by decide +kernel
theorem dD_addPage_13 : decode cD_addPage 13 = .ok (.aload_n 0, 1) := by decide +kernel
theorem dD_addPage_14 : decode cD_addPage 14 = .ok (.getfield 22, 3) := by decide +kernel
theorem dD_addPage_17 : decode cD_addPage 17 = .ok (.iload_n 2, 1) := by decide +kernel
theorem dD_addPage_18 : decode cD_addPage 18 = .ok (.iconst 1, 1) := by decide +kernel
theorem dD_addPage_19 : decode cD_addPage 19 = .ok (.bastore, 1) := by decide +kernel
theorem dD_addPage_20 : decode cD_addPage 20 = .ok (.return_, 1) := by decide +kernel
theorem dD_replaceLastPage_0 : decode cD_replaceLastPage 0 = .ok (.aload_n 1, 1) := by decide +kernel
theorem dD_replaceLastPage_1 : decode cD_replaceLastPage 1 = .ok (.getfield 47, 3) := by decide +kernel
theorem dD_replaceLastPage_4 : decode cD_replaceLastPage 4 = .ok (.invokestatic 50, 3) := by decide +kernel
theorem dD_replaceLastPage_7 : decode cD_replaceLastPage 7 = .ok (.iconst 1, 1) := by decide +kernel
theorem dD_replaceLastPage_8 : decode cD_replaceLastPage 8 = .ok (.isub, 1) := by decide +kernel
theorem dD_replaceLastPage_9 : decode cD_replaceLastPage 9 = .ok (.istore_n 3, 1) := by decide +kernel
theorem dD_replaceLastPage_10 : decode cD_replaceLastPage 10 = .ok (.aload_n 0, 1) := by decide +kernel
theorem dD_replaceLastPage_11 : decode cD_replaceLastPage 11 = .ok (.getfield 22, 3) := by decide +kernel
theorem dD_replaceLastPage_14 : decode cD_replaceLastPage 14 = .ok (.aload_n 0, 1) := by decide +kernel
theorem dD_replaceLastPage_15 : decode cD_replaceLastPage 15 = .ok (.aload_n 1, 1) := by decide +kernel
theorem dD_replaceLastPage_16 : decode cD_replaceLastPage 16 = .ok (.iload_n 3, 1) := by decide +kernel
theorem dD_replaceLastPage_17 : decode cD_replaceLastPage 17 = .ok (.invokevirtual 43, 3) := by decide +kernel
theorem dD_replaceLastPage_20 : decode cD_replaceLastPage 20 = .ok (.iconst 0, 1) := by decide +kernel
theorem dD_replaceLastPage_21 : decode cD_replaceLastPage 21 = .ok (.bastore, 1) := by decide +kernel
theorem dD_replaceLastPage_22 : decode cD_replaceLastPage 22 = .ok (.aload_n 0, 1) := by decide +kernel
theorem dD_replaceLastPage_23 : decode cD_replaceLastPage 23 = .ok (.aload_n 1, 1) := by decide +kernel
theorem dD_replaceLastPage_24 : decode cD_replaceLastPage 24 = .ok (.iload_n 3, 1) := by decide +kernel
theorem dD_replaceLastPage_25 : decode cD_replaceLastPage 25 = .ok (.iload_n 2, 1) := by decide +kernel
theorem dD_replaceLastPage_26 : decode cD_replaceLastPage 26 = .ok (.invokevirtual 54, 3) := by decide +kernel
theorem dD_replaceLastPage_29 : decode cD_replaceLastPage 29 = .ok (.aload_n 0, 1) := by decide +kernel
theorem dD_replaceLastPage_30 : decode cD_replaceLastPage 30 = .ok (.getfield 22, 3) := by decide +kernel
theorem dD_replaceLastPage_33 : decode cD_replaceLastPage 33 = .ok (.iload_n 2, 1) := by decide +kernel
theorem dD_replaceLastPage_34 : decode cD_replaceLastPage 34 = .ok (.iconst 1, 1) := by decide +kernel
theorem dD_replaceLastPage_35 : decode cD_replaceLastPage 35 = .ok (.bastore, 1) := by decide +kernel
theorem dD_replaceLastPage_36 : decode cD_replaceLastPage 36 = .ok (.return_, 1) := by decide +kernel
theorem dD_shorten_0 : decode cD_shorten 0 = .ok (.iload_n 2, 1) := by decide +kernel
theorem dD_shorten_1 : decode cD_shorten 1 = .ok (.invokestatic 50, 3) := by decide +kernel
theorem dD_shorten_4 : decode cD_shorten 4 = .ok (.istore_n 3, 1) := by decide +kernel
theorem dD_shorten_5 : decode cD_shorten 5 = .ok (.aload_n 1, 1) := by decide +kernel
theorem dD_shorten_6 : decode cD_shorten 6 = .ok (.getfield 47, 3) := by decide +kernel
theorem dD_shorten_9 : decode cD_shorten 9 = .ok (.invokestatic 50, 3) := by decide +kernel
theorem dD_shorten_12 : decode cD_shorten 12 = .ok (.iload_n 3, 1) := by decide +kernel
theorem dD_shorten_13 : decode cD_shorten 13 = .ok (.isub, 1) := by decide +kernel
theorem dD_shorten_14 : decode cD_shorten 14 = .ok (.istore 4, 2) := by decide +kernel
theorem dD_shorten_16 : decode cD_shorten 16 = .ok (.iload 4, 2) := by decide +kernel
theorem dD_shorten_18 : decode cD_shorten 18 = .ok (.ifCond .le 27, 3) := by decide +kernel
theorem dD_shorten_21 : decode cD_shorten 21 = .ok (.aload_n 0, 1) := by decide +kernel
theorem dD_shorten_22 : decode cD_shorten 22 = .ok (.aload_n 1, 1) := by decide +kernel
theorem dD_shorten_23 : decode cD_shorten 23 = .ok (.iload_n 3, 1) := by decide +kernel
theorem dD_shorten_24 : decode cD_shorten 24 = .ok (.invokevirtual 43, 3) := by decide +kernel
theorem dD_shorten_27 : decode cD_shorten 27 = .ok (.istore 5, 2) := by decide +kernel
theorem dD_shorten_29 : decode cD_shorten 29 = .ok (.aload_n 0, 1) := by decide +kernel
theorem dD_shorten_30 : decode cD_shorten 30 = .ok (.aload_n 1, 1) := by decide +kernel
theorem dD_shorten_31 : decode cD_shorten 31 = .ok (.iload_n 3, 1) := by decide +kernel
theorem dD_shorten_32 : decode cD_shorten 32 = .ok (.iconst 0, 1) := by decide +kernel
theorem dD_shorten_33 : decode cD_shorten 33 = .ok (.invokevirtual 54, 3) := by decide +kernel
theorem dD_shorten_36 : decode cD_shorten 36 = .ok (.aload_n 0, 1) := by decide +kernel
theorem dD_shorten_37 : decode cD_shorten 37 = .ok (.aload_n 1, 1) := by decide +kernel
theorem dD_shorten_38 : decode cD_shorten 38 = .ok (.iload 5, 2) := by decide +kernel
theorem dD_shorten_40 : decode cD_shorten 40 = .ok (.iload 4, 2) := by decide +kernel
theorem dD_shorten_42 : decode cD_shorten 42 = .ok (.invokevirtual 58, 3) := by decide +kernel
theorem dD_shorten_45 : decode cD_shorten 45 = .ok (.aload_n 1, 1) := by decide +kernel
theorem dD_shorten_46 : decode cD_shorten 46 = .ok (.iload_n 2, 1) := by decide +kernel
theorem dD_shorten_47 : decode cD_shorten 47 = .ok (.putfield 47, 3) := by decide +kernel
theorem dD_shorten_50 : decode cD_shorten 50 = .ok (.iload 4, 2) := by decide +kernel
theorem dD_shorten_52 : decode cD_shorten 52 = .ok (.ireturn, 1) := by decide +kernel
theorem dD_giveUp_0 : decode cD_giveUp 0 = .ok (.iload_n 2, 1) := by decide +kernel
theorem dD_giveUp_1 : decode cD_giveUp 1 = .ok (.istore 4, 2) := by decide +kernel
theorem dD_giveUp_3 : decode cD_giveUp 3 = .ok (.iconst 0, 1) := by decide +kernel
theorem dD_giveUp_4 : decode cD_giveUp 4 = .ok (.istore 5, 2) := by decide +kernel
theorem dD_giveUp_6 : decode cD_giveUp 6 = .ok (.iload 5, 2) := by decide +kernel
theorem dD_giveUp_8 : decode cD_giveUp 8 = .ok (.iload_n 3, 1) := by decide +kernel
theorem dD_giveUp_9 : decode cD_giveUp 9 = .ok (.if_icmp .ge 53, 3) := by decide +kernel
theorem dD_giveUp_12 : decode cD_giveUp 12 = .ok (.aload_n 0, 1) := by decide +kernel
theorem dD_giveUp_13 : decode cD_giveUp 13 = .ok (.getfield 18, 3) := by decide +kernel
theorem dD_giveUp_16 : decode cD_giveUp 16 = .ok (.iload 4, 2) := by decide +kernel
theorem dD_giveUp_18 : decode cD_giveUp 18 = .ok (.iaload, 1) := by decide +kernel
theorem dD_giveUp_19 : decode cD_giveUp 19 = .ok (.istore 6, 2) := by decide +kernel
theorem dD_giveUp_21 : decode cD_giveUp 21 = .ok (.aload_n 0, 1) := by decide +kernel
theorem dD_giveUp_22 : decode cD_giveUp 22 = .ok (.getfield 18, 3) := by decide +kernel
theorem dD_giveUp_25 : decode cD_giveUp 25 = .ok (.iload 4, 2) := by decide +kernel
theorem dD_giveUp_27 : decode cD_giveUp 27 = .ok (.iconst 0, 1) := by decide +kernel
theorem dD_giveUp_28 : decode cD_giveUp 28 = .ok (.iastore, 1) := by decide +kernel
theorem dD_giveUp_29 : decode cD_giveUp 29 = .ok (.aload_n 0, 1) := by decide +kernel
theorem dD_giveUp_30 : decode cD_giveUp 30 = .ok (.getfield 22, 3) := by decide +kernel
theorem dD_giveUp_33 : decode cD_giveUp 33 = .ok (.iload 4, 2) := by decide +kernel
theorem dD_giveUp_35 : decode cD_giveUp 35 = .ok (.iconst 0, 1) := by decide +kernel
theorem dD_giveUp_36 : decode cD_giveUp 36 = .ok (.bastore, 1) := by decide +kernel
theorem dD_giveUp_37 : decode cD_giveUp 37 = .ok (.aload_n 1, 1) := by decide +kernel
theorem dD_giveUp_38 : decode cD_giveUp 38 = .ok (.getfield 61, 3) := by decide +kernel
theorem dD_giveUp_41 : decode cD_giveUp 41 = .ok (.iload 4, 2) := by decide +kernel
theorem dD_giveUp_43 : decode cD_giveUp 43 = .ok (.if_icmp .ne 9, 3) := by decide +kernel
theorem dD_giveUp_46 : decode cD_giveUp 46 = .ok (.aload_n 1, 1) := by decide +kernel
theorem dD_giveUp_47 : decode cD_giveUp 47 = .ok (.iconst 0, 1) := by decide +kernel
theorem dD_giveUp_48 : decode cD_giveUp 48 = .ok (.lconst 0, 1) := by decide +kernel
theorem dD_giveUp_49 : decode cD_giveUp 49 = .ok (.invokevirtual 64, 3) := by decide +kernel
theorem dD_giveUp_52 : decode cD_giveUp 52 = .ok (.iload 6, 2) := by decide +kernel
theorem dD_giveUp_54 : decode cD_giveUp 54 = .ok (.istore 4, 2) := by decide +kernel
theorem dD_giveUp_56 : decode cD_giveUp 56 = .ok (.iinc 5 1, 3) := by decide +kernel
theorem dD_giveUp_59 : decode cD_giveUp 59 = .ok (.goto (-53), 3) := by decide +kernel
theorem dD_giveUp_62 : decode cD_giveUp 62 = .ok (.return_, 1) := by decide +kernel
theorem dD_holdOwned_0 : decode cD_holdOwned 0 = .ok (.iconst 0, 1) := by decide +kernel
theorem dD_holdOwned_1 : decode cD_holdOwned 1 = .ok (.istore_n 1, 1) := by decide +kernel
theorem dD_holdOwned_2 : decode cD_holdOwned 2 = .ok (.iload_n 1, 1) := by decide +kernel
theorem dD_holdOwned_3 : decode cD_holdOwned 3 = .ok (.bipush 101, 2) := by decide +kernel
theorem dD_holdOwned_5 : decode cD_holdOwned 5 = .ok (.if_icmp .ge 21, 3) := by decide +kernel
theorem dD_holdOwned_8 : decode cD_holdOwned 8 = .ok (.aload_n 0, 1) := by decide +kernel
theorem dD_holdOwned_9 : decode cD_holdOwned 9 = .ok (.getfield 26, 3) := by decide +kernel
theorem dD_holdOwned_12 : decode cD_holdOwned 12 = .ok (.iload_n 1, 1) := by decide +kernel
theorem dD_holdOwned_13 : decode cD_holdOwned 13 = .ok (.aload_n 0, 1) := by decide +kernel
theorem dD_holdOwned_14 : decode cD_holdOwned 14 = .ok (.getfield 22, 3) := by decide +kernel
theorem dD_holdOwned_17 : decode cD_holdOwned 17 = .ok (.iload_n 1, 1) := by decide +kernel
theorem dD_holdOwned_18 : decode cD_holdOwned 18 = .ok (.baload, 1) := by decide +kernel
theorem dD_holdOwned_19 : decode cD_holdOwned 19 = .ok (.bastore, 1) := by decide +kernel
theorem dD_holdOwned_20 : decode cD_holdOwned 20 = .ok (.iinc 1 1, 3) := by decide +kernel
theorem dD_holdOwned_23 : decode cD_holdOwned 23 = .ok (.goto (-21), 3) := by decide +kernel
theorem dD_holdOwned_26 : decode cD_holdOwned 26 = .ok (.return_, 1) := by decide +kernel
theorem dD_putInto_0 : decode cD_putInto 0 = .ok (.aload_n 1, 1) := by decide +kernel
theorem dD_putInto_1 : decode cD_putInto 1 = .ok (.invokevirtual 68, 3) := by decide +kernel
theorem dD_putInto_4 : decode cD_putInto 4 = .ok (.aload_n 1, 1) := by decide +kernel
theorem dD_putInto_5 : decode cD_putInto 5 = .ok (.iconst 0, 1) := by decide +kernel
theorem dD_putInto_6 : decode cD_putInto 6 = .ok (.iconst 1, 1) := by decide +kernel
theorem dD_putInto_7 : decode cD_putInto 7 = .ok (.iload_n 2, 1) := by decide +kernel
theorem dD_putInto_8 : decode cD_putInto 8 = .ok (.invokevirtual 73, 3) := by decide +kernel
theorem dD_putInto_11 : decode cD_putInto 11 = .ok (.iconst 0, 1) := by decide +kernel
theorem dD_putInto_12 : decode cD_putInto 12 = .ok (.istore_n 3, 1) := by decide +kernel
theorem dD_putInto_13 : decode cD_putInto 13 = .ok (.iload_n 3, 1) := by decide +kernel
theorem dD_putInto_14 : decode cD_putInto 14 = .ok (.bipush 8, 2) := by decide +kernel
theorem dD_putInto_16 : decode cD_putInto 16 = .ok (.if_icmp .ge 65, 3) := by decide +kernel
theorem dD_putInto_19 : decode cD_putInto 19 = .ok (.iconst 1, 1) := by decide +kernel
theorem dD_putInto_20 : decode cD_putInto 20 = .ok (.iload_n 3, 1) := by decide +kernel
theorem dD_putInto_21 : decode cD_putInto 21 = .ok (.bipush 7, 2) := by decide +kernel
theorem dD_putInto_23 : decode cD_putInto 23 = .ok (.imul, 1) := by decide +kernel
theorem dD_putInto_24 : decode cD_putInto 24 = .ok (.iadd, 1) := by decide +kernel
theorem dD_putInto_25 : decode cD_putInto 25 = .ok (.istore 4, 2) := by decide +kernel
theorem dD_putInto_27 : decode cD_putInto 27 = .ok (.aload_n 0, 1) := by decide +kernel
theorem dD_putInto_28 : decode cD_putInto 28 = .ok (.getfield 11, 3) := by decide +kernel
theorem dD_putInto_31 : decode cD_putInto 31 = .ok (.iload_n 3, 1) := by decide +kernel
theorem dD_putInto_32 : decode cD_putInto 32 = .ok (.aaload, 1) := by decide +kernel
theorem dD_putInto_33 : decode cD_putInto 33 = .ok (.astore 5, 2) := by decide +kernel
theorem dD_putInto_35 : decode cD_putInto 35 = .ok (.aload_n 1, 1) := by decide +kernel
theorem dD_putInto_36 : decode cD_putInto 36 = .ok (.iload 4, 2) := by decide +kernel
theorem dD_putInto_38 : decode cD_putInto 38 = .ok (.iconst 4, 1) := by decide +kernel
theorem dD_putInto_39 : decode cD_putInto 39 = .ok (.aload 5, 2) := by decide +kernel
theorem dD_putInto_41 : decode cD_putInto 41 = .ok (.getfield 32, 3) := by decide +kernel
theorem dD_putInto_44 : decode cD_putInto 44 = .ok (.invokevirtual 73, 3) := by decide +kernel
theorem dD_putInto_47 : decode cD_putInto 47 = .ok (.aload_n 1, 1) := by decide +kernel
theorem dD_putInto_48 : decode cD_putInto 48 = .ok (.iload 4, 2) := by decide +kernel
theorem dD_putInto_50 : decode cD_putInto 50 = .ok (.iconst 4, 1) := by decide +kernel
theorem dD_putInto_51 : decode cD_putInto 51 = .ok (.iadd, 1) := by decide +kernel
theorem dD_putInto_52 : decode cD_putInto 52 = .ok (.iconst 1, 1) := by decide +kernel
theorem dD_putInto_53 : decode cD_putInto 53 = .ok (.aload 5, 2) := by decide +kernel
theorem dD_putInto_55 : decode cD_putInto 55 = .ok (.getfield 40, 3) := by decide +kernel
theorem dD_putInto_58 : decode cD_putInto 58 = .ok (.invokevirtual 73, 3) := by decide +kernel
theorem dD_putInto_61 : decode cD_putInto 61 = .ok (.aload_n 1, 1) := by decide +kernel
theorem dD_putInto_62 : decode cD_putInto 62 = .ok (.iload 4, 2) := by decide +kernel
theorem dD_putInto_64 : decode cD_putInto 64 = .ok (.iconst 5, 1) := by decide +kernel
theorem dD_putInto_65 : decode cD_putInto 65 = .ok (.iadd, 1) := by decide +kernel
theorem dD_putInto_66 : decode cD_putInto 66 = .ok (.iconst 2, 1) := by decide +kernel
theorem dD_putInto_67 : decode cD_putInto 67 = .ok (.aload 5, 2) := by decide +kernel
theorem dD_putInto_69 : decode cD_putInto 69 = .ok (.getfield 47, 3) := by decide +kernel
theorem dD_putInto_72 : decode cD_putInto 72 = .ok (.invokevirtual 73, 3) := by decide +kernel
theorem dD_putInto_75 : decode cD_putInto 75 = .ok (.iinc 3 1, 3) := by decide +kernel
theorem dD_putInto_78 : decode cD_putInto 78 = .ok (.goto (-65), 3) := by decide +kernel
theorem dD_putInto_81 : decode cD_putInto 81 = .ok (.iconst 0, 1) := by decide +kernel
theorem dD_putInto_82 : decode cD_putInto 82 = .ok (.istore_n 3, 1) := by decide +kernel
theorem dD_putInto_83 : decode cD_putInto 83 = .ok (.iload_n 3, 1) := by decide +kernel
theorem dD_putInto_84 : decode cD_putInto 84 = .ok (.bipush 101, 2) := by decide +kernel
theorem dD_putInto_86 : decode cD_putInto 86 = .ok (.if_icmp .ge 24, 3) := by decide +kernel
theorem dD_putInto_89 : decode cD_putInto 89 = .ok (.aload_n 1, 1) := by decide +kernel
theorem dD_putInto_90 : decode cD_putInto 90 = .ok (.bipush 57, 2) := by decide +kernel
theorem dD_putInto_92 : decode cD_putInto 92 = .ok (.iload_n 3, 1) := by decide +kernel
theorem dD_putInto_93 : decode cD_putInto 93 = .ok (.iadd, 1) := by decide +kernel
theorem dD_putInto_94 : decode cD_putInto 94 = .ok (.iconst 1, 1) := by decide +kernel
theorem dD_putInto_95 : decode cD_putInto 95 = .ok (.aload_n 0, 1) := by decide +kernel
theorem dD_putInto_96 : decode cD_putInto 96 = .ok (.getfield 18, 3) := by decide +kernel
theorem dD_putInto_99 : decode cD_putInto 99 = .ok (.iload_n 3, 1) := by decide +kernel
theorem dD_putInto_100 : decode cD_putInto 100 = .ok (.iaload, 1) := by decide +kernel
theorem dD_putInto_101 : decode cD_putInto 101 = .ok (.invokevirtual 73, 3) := by decide +kernel
theorem dD_putInto_104 : decode cD_putInto 104 = .ok (.iinc 3 1, 3) := by decide +kernel
theorem dD_putInto_107 : decode cD_putInto 107 = .ok (.goto (-24), 3) := by decide +kernel
theorem dD_putInto_110 : decode cD_putInto 110 = .ok (.aload_n 1, 1) := by decide +kernel
theorem dD_putInto_111 : decode cD_putInto 111 = .ok (.sipush 158, 3) := by decide +kernel
theorem dD_putInto_114 : decode cD_putInto 114 = .ok (.iconst 2, 1) := by decide +kernel
theorem dD_putInto_115 : decode cD_putInto 115 = .ok (.aload_n 1, 1) := by decide +kernel
theorem dD_putInto_116 : decode cD_putInto 116 = .ok (.invokevirtual 77, 3) := by decide +kernel
theorem dD_putInto_119 : decode cD_putInto 119 = .ok (.invokevirtual 73, 3) := by decide +kernel
theorem dD_putInto_122 : decode cD_putInto 122 = .ok (.return_, 1) := by decide +kernel
theorem dD_takeFrom_0 : decode cD_takeFrom 0 = .ok (.iconst 0, 1) := by decide +kernel
theorem dD_takeFrom_1 : decode cD_takeFrom 1 = .ok (.istore_n 2, 1) := by decide +kernel
theorem dD_takeFrom_2 : decode cD_takeFrom 2 = .ok (.iload_n 2, 1) := by decide +kernel
theorem dD_takeFrom_3 : decode cD_takeFrom 3 = .ok (.bipush 101, 2) := by decide +kernel
theorem dD_takeFrom_5 : decode cD_takeFrom 5 = .ok (.if_icmp .ge 23, 3) := by decide +kernel
theorem dD_takeFrom_8 : decode cD_takeFrom 8 = .ok (.aload_n 0, 1) := by decide +kernel
theorem dD_takeFrom_9 : decode cD_takeFrom 9 = .ok (.getfield 18, 3) := by decide +kernel
theorem dD_takeFrom_12 : decode cD_takeFrom 12 = .ok (.iload_n 2, 1) := by decide +kernel
theorem dD_takeFrom_13 : decode cD_takeFrom 13 = .ok (.aload_n 1, 1) := by decide +kernel
theorem dD_takeFrom_14 : decode cD_takeFrom 14 = .ok (.bipush 57, 2) := by decide +kernel
theorem dD_takeFrom_16 : decode cD_takeFrom 16 = .ok (.iload_n 2, 1) := by decide +kernel
theorem dD_takeFrom_17 : decode cD_takeFrom 17 = .ok (.iadd, 1) := by decide +kernel
theorem dD_takeFrom_18 : decode cD_takeFrom 18 = .ok (.invokevirtual 81, 3) := by decide +kernel
theorem dD_takeFrom_21 : decode cD_takeFrom 21 = .ok (.iastore, 1) := by decide +kernel
theorem dD_takeFrom_22 : decode cD_takeFrom 22 = .ok (.iinc 2 1, 3) := by decide +kernel
theorem dD_takeFrom_25 : decode cD_takeFrom 25 = .ok (.goto (-23), 3) := by decide +kernel
theorem dD_takeFrom_28 : decode cD_takeFrom 28 = .ok (.iconst 0, 1) := by decide +kernel
theorem dD_takeFrom_29 : decode cD_takeFrom 29 = .ok (.istore_n 2, 1) := by decide +kernel
theorem dD_takeFrom_30 : decode cD_takeFrom 30 = .ok (.iload_n 2, 1) := by decide +kernel
theorem dD_takeFrom_31 : decode cD_takeFrom 31 = .ok (.bipush 8, 2) := by decide +kernel
theorem dD_takeFrom_33 : decode cD_takeFrom 33 = .ok (.if_icmp .ge 66, 3) := by decide +kernel
theorem dD_takeFrom_36 : decode cD_takeFrom 36 = .ok (.iconst 1, 1) := by decide +kernel
theorem dD_takeFrom_37 : decode cD_takeFrom 37 = .ok (.iload_n 2, 1) := by decide +kernel
theorem dD_takeFrom_38 : decode cD_takeFrom 38 = .ok (.bipush 7, 2) := by decide +kernel
theorem dD_takeFrom_40 : decode cD_takeFrom 40 = .ok (.imul, 1) := by decide +kernel
theorem dD_takeFrom_41 : decode cD_takeFrom 41 = .ok (.iadd, 1) := by decide +kernel
theorem dD_takeFrom_42 : decode cD_takeFrom 42 = .ok (.istore_n 3, 1) := by decide +kernel
theorem dD_takeFrom_43 : decode cD_takeFrom 43 = .ok (.aload_n 0, 1) := by decide +kernel
theorem dD_takeFrom_44 : decode cD_takeFrom 44 = .ok (.getfield 11, 3) := by decide +kernel
theorem dD_takeFrom_47 : decode cD_takeFrom 47 = .ok (.iload_n 2, 1) := by decide +kernel
theorem dD_takeFrom_48 : decode cD_takeFrom 48 = .ok (.aaload, 1) := by decide +kernel
theorem dD_takeFrom_49 : decode cD_takeFrom 49 = .ok (.astore 4, 2) := by decide +kernel
theorem dD_takeFrom_51 : decode cD_takeFrom 51 = .ok (.aload 4, 2) := by decide +kernel
theorem dD_takeFrom_53 : decode cD_takeFrom 53 = .ok (.aload_n 1, 1) := by decide +kernel
theorem dD_takeFrom_54 : decode cD_takeFrom 54 = .ok (.iload_n 3, 1) := by decide +kernel
theorem dD_takeFrom_55 : decode cD_takeFrom 55 = .ok (.iconst 4, 1) := by decide +kernel
theorem dD_takeFrom_56 : decode cD_takeFrom 56 = .ok (.invokevirtual 84, 3) := by decide +kernel
theorem dD_takeFrom_59 : decode cD_takeFrom 59 = .ok (.putfield 32, 3) := by decide +kernel
theorem dD_takeFrom_62 : decode cD_takeFrom 62 = .ok (.aload 4, 2) := by decide +kernel
theorem dD_takeFrom_64 : decode cD_takeFrom 64 = .ok (.aload_n 1, 1) := by decide +kernel
theorem dD_takeFrom_65 : decode cD_takeFrom 65 = .ok (.iload_n 3, 1) := by decide +kernel
theorem dD_takeFrom_66 : decode cD_takeFrom 66 = .ok (.iconst 4, 1) := by decide +kernel
theorem dD_takeFrom_67 : decode cD_takeFrom 67 = .ok (.iadd, 1) := by decide +kernel
theorem dD_takeFrom_68 : decode cD_takeFrom 68 = .ok (.invokevirtual 81, 3) := by decide +kernel
theorem dD_takeFrom_71 : decode cD_takeFrom 71 = .ok (.putfield 40, 3) := by decide +kernel
theorem dD_takeFrom_74 : decode cD_takeFrom 74 = .ok (.aload 4, 2) := by decide +kernel
theorem dD_takeFrom_76 : decode cD_takeFrom 76 = .ok (.aload_n 1, 1) := by decide +kernel
theorem dD_takeFrom_77 : decode cD_takeFrom 77 = .ok (.iload_n 3, 1) := by decide +kernel
theorem dD_takeFrom_78 : decode cD_takeFrom 78 = .ok (.iconst 5, 1) := by decide +kernel
theorem dD_takeFrom_79 : decode cD_takeFrom 79 = .ok (.iadd, 1) := by decide +kernel
theorem dD_takeFrom_80 : decode cD_takeFrom 80 = .ok (.iconst 2, 1) := by decide +kernel
theorem dD_takeFrom_81 : decode cD_takeFrom 81 = .ok (.invokevirtual 84, 3) := by decide +kernel
theorem dD_takeFrom_84 : decode cD_takeFrom 84 = .ok (.putfield 47, 3) := by decide +kernel
theorem dD_takeFrom_87 : decode cD_takeFrom 87 = .ok (.aload_n 0, 1) := by decide +kernel
theorem dD_takeFrom_88 : decode cD_takeFrom 88 = .ok (.aload 4, 2) := by decide +kernel
theorem dD_takeFrom_90 : decode cD_takeFrom 90 = .ok (.invokevirtual 88, 3) := by decide +kernel
theorem dD_takeFrom_93 : decode cD_takeFrom 93 = .ok (.iinc 2 1, 3) := by decide +kernel
theorem dD_takeFrom_96 : decode cD_takeFrom 96 = .ok (.goto (-66), 3) := by decide +kernel
theorem dD_takeFrom_99 : decode cD_takeFrom 99 = .ok (.aload_n 0, 1) := by decide +kernel
theorem dD_takeFrom_100 : decode cD_takeFrom 100 = .ok (.invokevirtual 92, 3) := by decide +kernel
theorem dD_takeFrom_103 : decode cD_takeFrom 103 = .ok (.return_, 1) := by decide +kernel
theorem dD_ownChain_0 : decode cD_ownChain 0 = .ok (.aload_n 1, 1) := by decide +kernel
theorem dD_ownChain_1 : decode cD_ownChain 1 = .ok (.getfield 40, 3) := by decide +kernel
theorem dD_ownChain_4 : decode cD_ownChain 4 = .ok (.istore_n 2, 1) := by decide +kernel
theorem dD_ownChain_5 : decode cD_ownChain 5 = .ok (.aload_n 1, 1) := by decide +kernel
theorem dD_ownChain_6 : decode cD_ownChain 6 = .ok (.getfield 47, 3) := by decide +kernel
theorem dD_ownChain_9 : decode cD_ownChain 9 = .ok (.invokestatic 50, 3) := by decide +kernel
theorem dD_ownChain_12 : decode cD_ownChain 12 = .ok (.istore_n 3, 1) := by decide +kernel
theorem dD_ownChain_13 : decode cD_ownChain 13 = .ok (.iconst 0, 1) := by decide +kernel
theorem dD_ownChain_14 : decode cD_ownChain 14 = .ok (.istore 4, 2) := by decide +kernel
theorem dD_ownChain_16 : decode cD_ownChain 16 = .ok (.iload 4, 2) := by decide +kernel
theorem dD_ownChain_18 : decode cD_ownChain 18 = .ok (.iload_n 3, 1) := by decide +kernel
theorem dD_ownChain_19 : decode cD_ownChain 19 = .ok (.if_icmp .ge 23, 3) := by decide +kernel
theorem dD_ownChain_22 : decode cD_ownChain 22 = .ok (.aload_n 0, 1) := by decide +kernel
theorem dD_ownChain_23 : decode cD_ownChain 23 = .ok (.getfield 22, 3) := by decide +kernel
theorem dD_ownChain_26 : decode cD_ownChain 26 = .ok (.iload_n 2, 1) := by decide +kernel
theorem dD_ownChain_27 : decode cD_ownChain 27 = .ok (.iconst 1, 1) := by decide +kernel
theorem dD_ownChain_28 : decode cD_ownChain 28 = .ok (.bastore, 1) := by decide +kernel
theorem dD_ownChain_29 : decode cD_ownChain 29 = .ok (.aload_n 0, 1) := by decide +kernel
theorem dD_ownChain_30 : decode cD_ownChain 30 = .ok (.getfield 18, 3) := by decide +kernel
theorem dD_ownChain_33 : decode cD_ownChain 33 = .ok (.iload_n 2, 1) := by decide +kernel
theorem dD_ownChain_34 : decode cD_ownChain 34 = .ok (.iaload, 1) := by decide +kernel
theorem dD_ownChain_35 : decode cD_ownChain 35 = .ok (.istore_n 2, 1) := by decide +kernel
theorem dD_ownChain_36 : decode cD_ownChain 36 = .ok (.iinc 4 1, 3) := by decide +kernel
theorem dD_ownChain_39 : decode cD_ownChain 39 = .ok (.goto (-23), 3) := by decide +kernel
theorem dD_ownChain_42 : decode cD_ownChain 42 = .ok (.return_, 1) := by decide +kernel
