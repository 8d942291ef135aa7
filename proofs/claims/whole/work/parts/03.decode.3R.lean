theorem dR_init_0 : decode cR_init 0 = .ok (.aload_n 0, 1) := by decide +kernel
theorem dR_init_1 : decode cR_init 1 = .ok (.invokespecial 3, 3) := by decide +kernel
theorem dR_init_4 : decode cR_init 4 = .ok (.aload_n 0, 1) := by decide +kernel
theorem dR_init_5 : decode cR_init 5 = .ok (.bipush 16, 2) := by decide +kernel
theorem dR_init_7 : decode cR_init 7 = .ok (.newarray .int, 2) := by decide +kernel
theorem dR_init_9 : decode cR_init 9 = .ok (.putfield 9, 3) := by decide +kernel
theorem dR_init_12 : decode cR_init 12 = .ok (.aload_n 0, 1) := by decide +kernel
theorem dR_init_13 : decode cR_init 13 = .ok (.bipush 16, 2) := by decide +kernel
theorem dR_init_15 : decode cR_init 15 = .ok (.newarray .boolean, 2) := by decide +kernel
theorem dR_init_17 : decode cR_init 17 = .ok (.putfield 15, 3) := by decide +kernel
theorem dR_init_20 : decode cR_init 20 = .ok (.aload_n 0, 1) := by decide +kernel
theorem dR_init_21 : decode cR_init 21 = .ok (.bipush 16, 2) := by decide +kernel
theorem dR_init_23 : decode cR_init 23 = .ok (.newarray .long, 2) := by decide +kernel
theorem dR_init_25 : decode cR_init 25 = .ok (.putfield 19, 3) := by decide +kernel
theorem dR_init_28 : decode cR_init 28 = .ok (.aload_n 0, 1) := by decide +kernel
theorem dR_init_29 : decode cR_init 29 = .ok (.bipush 16, 2) := by decide +kernel
theorem dR_init_31 : decode cR_init 31 = .ok (.newarray .boolean, 2) := by decide +kernel
theorem dR_init_33 : decode cR_init 33 = .ok (.putfield 23, 3) := by decide +kernel
theorem dR_init_36 : decode cR_init 36 = .ok (.aload_n 0, 1) := by decide +kernel
theorem dR_init_37 : decode cR_init 37 = .ok (.bipush 16, 2) := by decide +kernel
theorem dR_init_39 : decode cR_init 39 = .ok (.newarray .long, 2) := by decide +kernel
theorem dR_init_41 : decode cR_init 41 = .ok (.putfield 26, 3) := by decide +kernel
theorem dR_init_44 : decode cR_init 44 = .ok (.aload_n 0, 1) := by decide +kernel
theorem dR_init_45 : decode cR_init 45 = .ok (.iconst 0, 1) := by decide +kernel
theorem dR_init_46 : decode cR_init 46 = .ok (.putfield 29, 3) := by decide +kernel
theorem dR_init_49 : decode cR_init 49 = .ok (.aload_n 0, 1) := by decide +kernel
theorem dR_init_50 : decode cR_init 50 = .ok (.iconst 0, 1) := by decide +kernel
theorem dR_init_51 : decode cR_init 51 = .ok (.putfield 33, 3) := by decide +kernel
theorem dR_init_54 : decode cR_init 54 = .ok (.return_, 1) := by decide +kernel
theorem dR_forget_0 : decode cR_forget 0 = .ok (.aload_n 0, 1) := by decide +kernel
theorem dR_forget_1 : decode cR_forget 1 = .ok (.iconst 0, 1) := by decide +kernel
theorem dR_forget_2 : decode cR_forget 2 = .ok (.putfield 29, 3) := by decide +kernel
theorem dR_forget_5 : decode cR_forget 5 = .ok (.aload_n 0, 1) := by decide +kernel
theorem dR_forget_6 : decode cR_forget 6 = .ok (.iconst 0, 1) := by decide +kernel
theorem dR_forget_7 : decode cR_forget 7 = .ok (.putfield 33, 3) := by decide +kernel
theorem dR_forget_10 : decode cR_forget 10 = .ok (.return_, 1) := by decide +kernel
theorem dR_ask_0 : decode cR_ask 0 = .ok (.aload_n 0, 1) := by decide +kernel
theorem dR_ask_1 : decode cR_ask 1 = .ok (.getfield 29, 3) := by decide +kernel
theorem dR_ask_4 : decode cR_ask 4 = .ok (.istore 5, 2) := by decide +kernel
theorem dR_ask_6 : decode cR_ask 6 = .ok (.aload_n 0, 1) := by decide +kernel
theorem dR_ask_7 : decode cR_ask 7 = .ok (.getfield 9, 3) := by decide +kernel
theorem dR_ask_10 : decode cR_ask 10 = .ok (.iload 5, 2) := by decide +kernel
theorem dR_ask_12 : decode cR_ask 12 = .ok (.iload_n 1, 1) := by decide +kernel
theorem dR_ask_13 : decode cR_ask 13 = .ok (.iastore, 1) := by decide +kernel
theorem dR_ask_14 : decode cR_ask 14 = .ok (.aload_n 0, 1) := by decide +kernel
theorem dR_ask_15 : decode cR_ask 15 = .ok (.getfield 15, 3) := by decide +kernel
theorem dR_ask_18 : decode cR_ask 18 = .ok (.iload 5, 2) := by decide +kernel
theorem dR_ask_20 : decode cR_ask 20 = .ok (.iload_n 2, 1) := by decide +kernel
theorem dR_ask_21 : decode cR_ask 21 = .ok (.bastore, 1) := by decide +kernel
theorem dR_ask_22 : decode cR_ask 22 = .ok (.aload_n 0, 1) := by decide +kernel
theorem dR_ask_23 : decode cR_ask 23 = .ok (.getfield 19, 3) := by decide +kernel
theorem dR_ask_26 : decode cR_ask 26 = .ok (.iload 5, 2) := by decide +kernel
theorem dR_ask_28 : decode cR_ask 28 = .ok (.lload_n 3, 1) := by decide +kernel
theorem dR_ask_29 : decode cR_ask 29 = .ok (.lastore, 1) := by decide +kernel
theorem dR_ask_30 : decode cR_ask 30 = .ok (.aload_n 0, 1) := by decide +kernel
theorem dR_ask_31 : decode cR_ask 31 = .ok (.dup, 1) := by decide +kernel
theorem dR_ask_32 : decode cR_ask 32 = .ok (.getfield 29, 3) := by decide +kernel
theorem dR_ask_35 : decode cR_ask 35 = .ok (.iconst 1, 1) := by decide +kernel
theorem dR_ask_36 : decode cR_ask 36 = .ok (.iadd, 1) := by decide +kernel
theorem dR_ask_37 : decode cR_ask 37 = .ok (.putfield 29, 3) := by decide +kernel
theorem dR_ask_40 : decode cR_ask 40 = .ok (.iload 5, 2) := by decide +kernel
theorem dR_ask_42 : decode cR_ask 42 = .ok (.ireturn, 1) := by decide +kernel
theorem dR_begin_0 : decode cR_begin 0 = .ok (.iconst 0, 1) := by decide +kernel
theorem dR_begin_1 : decode cR_begin 1 = .ok (.istore_n 1, 1) := by decide +kernel
theorem dR_begin_2 : decode cR_begin 2 = .ok (.iload_n 1, 1) := by decide +kernel
theorem dR_begin_3 : decode cR_begin 3 = .ok (.aload_n 0, 1) := by decide +kernel
theorem dR_begin_4 : decode cR_begin 4 = .ok (.getfield 29, 3) := by decide +kernel
theorem dR_begin_7 : decode cR_begin 7 = .ok (.if_icmp .ge 23, 3) := by decide +kernel
theorem dR_begin_10 : decode cR_begin 10 = .ok (.aload_n 0, 1) := by decide +kernel
theorem dR_begin_11 : decode cR_begin 11 = .ok (.getfield 23, 3) := by decide +kernel
theorem dR_begin_14 : decode cR_begin 14 = .ok (.iload_n 1, 1) := by decide +kernel
theorem dR_begin_15 : decode cR_begin 15 = .ok (.iconst 1, 1) := by decide +kernel
theorem dR_begin_16 : decode cR_begin 16 = .ok (.bastore, 1) := by decide +kernel
theorem dR_begin_17 : decode cR_begin 17 = .ok (.aload_n 0, 1) := by decide +kernel
theorem dR_begin_18 : decode cR_begin 18 = .ok (.getfield 26, 3) := by decide +kernel
theorem dR_begin_21 : decode cR_begin 21 = .ok (.iload_n 1, 1) := by decide +kernel
theorem dR_begin_22 : decode cR_begin 22 = .ok (.lconst 0, 1) := by decide +kernel
theorem dR_begin_23 : decode cR_begin 23 = .ok (.lastore, 1) := by decide +kernel
theorem dR_begin_24 : decode cR_begin 24 = .ok (.iinc 1 1, 3) := by decide +kernel
theorem dR_begin_27 : decode cR_begin 27 = .ok (.goto (-25), 3) := by decide +kernel
theorem dR_begin_30 : decode cR_begin 30 = .ok (.aload_n 0, 1) := by decide +kernel
theorem dR_begin_31 : decode cR_begin 31 = .ok (.aload_n 0, 1) := by decide +kernel
theorem dR_begin_32 : decode cR_begin 32 = .ok (.getfield 29, 3) := by decide +kernel
theorem dR_begin_35 : decode cR_begin 35 = .ok (.putfield 33, 3) := by decide +kernel
theorem dR_begin_38 : decode cR_begin 38 = .ok (.aload_n 0, 1) := by decide +kernel
theorem dR_begin_39 : decode cR_begin 39 = .ok (.iconst 0, 1) := by decide +kernel
theorem dR_begin_40 : decode cR_begin 40 = .ok (.putfield 29, 3) := by decide +kernel
theorem dR_begin_43 : decode cR_begin 43 = .ok (.return_, 1) := by decide +kernel
theorem dR_takeNearest_0 : decode cR_takeNearest 0 = .ok (.iconst (-1), 1) := by decide +kernel
theorem dR_takeNearest_1 : decode cR_takeNearest 1 = .ok (.istore_n 2, 1) := by decide +kernel
theorem dR_takeNearest_2 : decode cR_takeNearest 2 = .ok (.bipush 101, 2) := by decide +kernel
theorem dR_takeNearest_4 : decode cR_takeNearest 4 = .ok (.istore_n 3, 1) := by decide +kernel
theorem dR_takeNearest_5 : decode cR_takeNearest 5 = .ok (.iconst 0, 1) := by decide +kernel
theorem dR_takeNearest_6 : decode cR_takeNearest 6 = .ok (.istore 4, 2) := by decide +kernel
theorem dR_takeNearest_8 : decode cR_takeNearest 8 = .ok (.iload 4, 2) := by decide +kernel
theorem dR_takeNearest_10 : decode cR_takeNearest 10 = .ok (.aload_n 0, 1) := by decide +kernel
theorem dR_takeNearest_11 : decode cR_takeNearest 11 = .ok (.getfield 33, 3) := by decide +kernel
theorem dR_takeNearest_14 : decode cR_takeNearest 14 = .ok (.if_icmp .ge 44, 3) := by decide +kernel
theorem dR_takeNearest_17 : decode cR_takeNearest 17 = .ok (.aload_n 1, 1) := by decide +kernel
theorem dR_takeNearest_18 : decode cR_takeNearest 18 = .ok (.aload_n 0, 1) := by decide +kernel
theorem dR_takeNearest_19 : decode cR_takeNearest 19 = .ok (.getfield 9, 3) := by decide +kernel
theorem dR_takeNearest_22 : decode cR_takeNearest 22 = .ok (.iload 4, 2) := by decide +kernel
theorem dR_takeNearest_24 : decode cR_takeNearest 24 = .ok (.iaload, 1) := by decide +kernel
theorem dR_takeNearest_25 : decode cR_takeNearest 25 = .ok (.invokevirtual 36, 3) := by decide +kernel
theorem dR_takeNearest_28 : decode cR_takeNearest 28 = .ok (.istore 5, 2) := by decide +kernel
theorem dR_takeNearest_30 : decode cR_takeNearest 30 = .ok (.aload_n 0, 1) := by decide +kernel
theorem dR_takeNearest_31 : decode cR_takeNearest 31 = .ok (.getfield 23, 3) := by decide +kernel
theorem dR_takeNearest_34 : decode cR_takeNearest 34 = .ok (.iload 4, 2) := by decide +kernel
theorem dR_takeNearest_36 : decode cR_takeNearest 36 = .ok (.baload, 1) := by decide +kernel
theorem dR_takeNearest_37 : decode cR_takeNearest 37 = .ok (.ifCond .eq 15, 3) := by decide +kernel
theorem dR_takeNearest_40 : decode cR_takeNearest 40 = .ok (.iload 5, 2) := by decide +kernel
theorem dR_takeNearest_42 : decode cR_takeNearest 42 = .ok (.iload_n 3, 1) := by decide +kernel
theorem dR_takeNearest_43 : decode cR_takeNearest 43 = .ok (.if_icmp .ge 9, 3) := by decide +kernel
theorem dR_takeNearest_46 : decode cR_takeNearest 46 = .ok (.iload 4, 2) := by decide +kernel
theorem dR_takeNearest_48 : decode cR_takeNearest 48 = .ok (.istore_n 2, 1) := by decide +kernel
theorem dR_takeNearest_49 : decode cR_takeNearest 49 = .ok (.iload 5, 2) := by decide +kernel
theorem dR_takeNearest_51 : decode cR_takeNearest 51 = .ok (.istore_n 3, 1) := by decide +kernel
theorem dR_takeNearest_52 : decode cR_takeNearest 52 = .ok (.iinc 4 1, 3) := by decide +kernel
theorem dR_takeNearest_55 : decode cR_takeNearest 55 = .ok (.goto (-47), 3) := by decide +kernel
theorem dR_takeNearest_58 : decode cR_takeNearest 58 = .ok (.iload_n 2, 1) := by decide +kernel
theorem dR_takeNearest_59 : decode cR_takeNearest 59 = .ok (.iconst (-1), 1) := by decide +kernel
theorem dR_takeNearest_60 : decode cR_takeNearest 60 = .ok (.if_icmp .eq 10, 3) := by decide +kernel
theorem dR_takeNearest_63 : decode cR_takeNearest 63 = .ok (.aload_n 0, 1) := by decide +kernel
theorem dR_takeNearest_64 : decode cR_takeNearest 64 = .ok (.getfield 23, 3) := by decide +kernel
theorem dR_takeNearest_67 : decode cR_takeNearest 67 = .ok (.iload_n 2, 1) := by decide +kernel
theorem dR_takeNearest_68 : decode cR_takeNearest 68 = .ok (.iconst 0, 1) := by decide +kernel
theorem dR_takeNearest_69 : decode cR_takeNearest 69 = .ok (.bastore, 1) := by decide +kernel
theorem dR_takeNearest_70 : decode cR_takeNearest 70 = .ok (.iload_n 2, 1) := by decide +kernel
theorem dR_takeNearest_71 : decode cR_takeNearest 71 = .ok (.ireturn, 1) := by decide +kernel
