theorem dM_init_0 : decode cM_init 0 = .ok (.aload_n 0, 1) := by decide +kernel
theorem dM_init_1 : decode cM_init 1 = .ok (.invokespecial 1, 3) := by decide +kernel
theorem dM_init_4 : decode cM_init 4 = .ok (.aload_n 0, 1) := by decide +kernel
theorem dM_init_5 : decode cM_init 5 = .ok (.bipush 69, 2) := by decide +kernel
theorem dM_init_7 : decode cM_init 7 = .ok (.newarray .boolean, 2) := by decide +kernel
theorem dM_init_9 : decode cM_init 9 = .ok (.putfield 7, 3) := by decide +kernel
theorem dM_init_12 : decode cM_init 12 = .ok (.aload_n 0, 1) := by decide +kernel
theorem dM_init_13 : decode cM_init 13 = .ok (.bipush 101, 2) := by decide +kernel
theorem dM_init_15 : decode cM_init 15 = .ok (.newarray .long, 2) := by decide +kernel
theorem dM_init_17 : decode cM_init 17 = .ok (.putfield 13, 3) := by decide +kernel
theorem dM_init_20 : decode cM_init 20 = .ok (.aload_n 0, 1) := by decide +kernel
theorem dM_init_21 : decode cM_init 21 = .ok (.iconst (-1), 1) := by decide +kernel
theorem dM_init_22 : decode cM_init 22 = .ok (.putfield 17, 3) := by decide +kernel
theorem dM_init_25 : decode cM_init 25 = .ok (.aload_n 0, 1) := by decide +kernel
theorem dM_init_26 : decode cM_init 26 = .ok (.iconst 1, 1) := by decide +kernel
theorem dM_init_27 : decode cM_init 27 = .ok (.putfield 21, 3) := by decide +kernel
theorem dM_init_30 : decode cM_init 30 = .ok (.aload_n 0, 1) := by decide +kernel
theorem dM_init_31 : decode cM_init 31 = .ok (.bipush 8, 2) := by decide +kernel
theorem dM_init_33 : decode cM_init 33 = .ok (.newarray .int, 2) := by decide +kernel
theorem dM_init_35 : decode cM_init 35 = .ok (.putfield 25, 3) := by decide +kernel
theorem dM_init_38 : decode cM_init 38 = .ok (.aload_n 0, 1) := by decide +kernel
theorem dM_init_39 : decode cM_init 39 = .ok (.bipush 8, 2) := by decide +kernel
theorem dM_init_41 : decode cM_init 41 = .ok (.newarray .int, 2) := by decide +kernel
theorem dM_init_43 : decode cM_init 43 = .ok (.putfield 29, 3) := by decide +kernel
theorem dM_init_46 : decode cM_init 46 = .ok (.aload_n 0, 1) := by decide +kernel
theorem dM_init_47 : decode cM_init 47 = .ok (.sipush 512, 3) := by decide +kernel
theorem dM_init_50 : decode cM_init 50 = .ok (.newarray .int, 2) := by decide +kernel
theorem dM_init_52 : decode cM_init 52 = .ok (.putfield 32, 3) := by decide +kernel
theorem dM_init_55 : decode cM_init 55 = .ok (.aload_n 0, 1) := by decide +kernel
theorem dM_init_56 : decode cM_init 56 = .ok (.bipush 8, 2) := by decide +kernel
theorem dM_init_58 : decode cM_init 58 = .ok (.newarray .int, 2) := by decide +kernel
theorem dM_init_60 : decode cM_init 60 = .ok (.putfield 35, 3) := by decide +kernel
theorem dM_init_63 : decode cM_init 63 = .ok (.aload_n 0, 1) := by decide +kernel
theorem dM_init_64 : decode cM_init 64 = .ok (.bipush 8, 2) := by decide +kernel
theorem dM_init_66 : decode cM_init 66 = .ok (.newarray .long, 2) := by decide +kernel
theorem dM_init_68 : decode cM_init 68 = .ok (.putfield 38, 3) := by decide +kernel
theorem dM_init_71 : decode cM_init 71 = .ok (.aload_n 0, 1) := by decide +kernel
theorem dM_init_72 : decode cM_init 72 = .ok (.bipush 8, 2) := by decide +kernel
theorem dM_init_74 : decode cM_init 74 = .ok (.newarray .boolean, 2) := by decide +kernel
theorem dM_init_76 : decode cM_init 76 = .ok (.putfield 41, 3) := by decide +kernel
theorem dM_init_79 : decode cM_init 79 = .ok (.aload_n 0, 1) := by decide +kernel
theorem dM_init_80 : decode cM_init 80 = .ok (.bipush 101, 2) := by decide +kernel
theorem dM_init_82 : decode cM_init 82 = .ok (.newarray .boolean, 2) := by decide +kernel
theorem dM_init_84 : decode cM_init 84 = .ok (.putfield 44, 3) := by decide +kernel
theorem dM_init_87 : decode cM_init 87 = .ok (.aload_n 0, 1) := by decide +kernel
theorem dM_init_88 : decode cM_init 88 = .ok (.sipush 160, 3) := by decide +kernel
theorem dM_init_91 : decode cM_init 91 = .ok (.newarray .int, 2) := by decide +kernel
theorem dM_init_93 : decode cM_init 93 = .ok (.putfield 47, 3) := by decide +kernel
theorem dM_init_96 : decode cM_init 96 = .ok (.aload_n 0, 1) := by decide +kernel
theorem dM_init_97 : decode cM_init 97 = .ok (.bipush 101, 2) := by decide +kernel
theorem dM_init_99 : decode cM_init 99 = .ok (.newarray .int, 2) := by decide +kernel
theorem dM_init_101 : decode cM_init 101 = .ok (.putfield 50, 3) := by decide +kernel
theorem dM_init_104 : decode cM_init 104 = .ok (.aload_n 0, 1) := by decide +kernel
theorem dM_init_105 : decode cM_init 105 = .ok (.bipush 16, 2) := by decide +kernel
theorem dM_init_107 : decode cM_init 107 = .ok (.newarray .int, 2) := by decide +kernel
theorem dM_init_109 : decode cM_init 109 = .ok (.putfield 53, 3) := by decide +kernel
theorem dM_init_112 : decode cM_init 112 = .ok (.aload_n 0, 1) := by decide +kernel
theorem dM_init_113 : decode cM_init 113 = .ok (.bipush 16, 2) := by decide +kernel
theorem dM_init_115 : decode cM_init 115 = .ok (.newarray .boolean, 2) := by decide +kernel
theorem dM_init_117 : decode cM_init 117 = .ok (.putfield 56, 3) := by decide +kernel
theorem dM_init_120 : decode cM_init 120 = .ok (.aload_n 0, 1) := by decide +kernel
theorem dM_init_121 : decode cM_init 121 = .ok (.bipush 16, 2) := by decide +kernel
theorem dM_init_123 : decode cM_init 123 = .ok (.newarray .long, 2) := by decide +kernel
theorem dM_init_125 : decode cM_init 125 = .ok (.putfield 59, 3) := by decide +kernel
theorem dM_init_128 : decode cM_init 128 = .ok (.aload_n 0, 1) := by decide +kernel
theorem dM_init_129 : decode cM_init 129 = .ok (.bipush 16, 2) := by decide +kernel
theorem dM_init_131 : decode cM_init 131 = .ok (.newarray .boolean, 2) := by decide +kernel
theorem dM_init_133 : decode cM_init 133 = .ok (.putfield 62, 3) := by decide +kernel
theorem dM_init_136 : decode cM_init 136 = .ok (.aload_n 0, 1) := by decide +kernel
theorem dM_init_137 : decode cM_init 137 = .ok (.bipush 16, 2) := by decide +kernel
theorem dM_init_139 : decode cM_init 139 = .ok (.newarray .long, 2) := by decide +kernel
theorem dM_init_141 : decode cM_init 141 = .ok (.putfield 65, 3) := by decide +kernel
theorem dM_init_144 : decode cM_init 144 = .ok (.aload_n 0, 1) := by decide +kernel
theorem dM_init_145 : decode cM_init 145 = .ok (.invokevirtual 68, 3) := by decide +kernel
theorem dM_init_148 : decode cM_init 148 = .ok (.return_, 1) := by decide +kernel
theorem dM_thrown_0 : decode cM_thrown 0 = .ok (.aload_n 0, 1) := by decide +kernel
theorem dM_thrown_1 : decode cM_thrown 1 = .ok (.getfield 71, 3) := by decide +kernel
theorem dM_thrown_4 : decode cM_thrown 4 = .ok (.ireturn, 1) := by decide +kernel
theorem dM_stuck_0 : decode cM_stuck 0 = .ok (.aload_n 0, 1) := by decide +kernel
theorem dM_stuck_1 : decode cM_stuck 1 = .ok (.iload_n 1, 1) := by decide +kernel
theorem dM_stuck_2 : decode cM_stuck 2 = .ok (.ifCond .lt 18, 3) := by decide +kernel
theorem dM_stuck_5 : decode cM_stuck 5 = .ok (.iload_n 1, 1) := by decide +kernel
theorem dM_stuck_6 : decode cM_stuck 6 = .ok (.bipush 68, 2) := by decide +kernel
theorem dM_stuck_8 : decode cM_stuck 8 = .ok (.if_icmp .gt 12, 3) := by decide +kernel
theorem dM_stuck_11 : decode cM_stuck 11 = .ok (.iload_n 2, 1) := by decide +kernel
theorem dM_stuck_12 : decode cM_stuck 12 = .ok (.ifCond .lt 8, 3) := by decide +kernel
theorem dM_stuck_15 : decode cM_stuck 15 = .ok (.iload_n 2, 1) := by decide +kernel
theorem dM_stuck_16 : decode cM_stuck 16 = .ok (.iconst 1, 1) := by decide +kernel
theorem dM_stuck_17 : decode cM_stuck 17 = .ok (.if_icmp .le 7, 3) := by decide +kernel
theorem dM_stuck_20 : decode cM_stuck 20 = .ok (.iconst 1, 1) := by decide +kernel
theorem dM_stuck_21 : decode cM_stuck 21 = .ok (.goto 15, 3) := by decide +kernel
theorem dM_stuck_24 : decode cM_stuck 24 = .ok (.aload_n 0, 1) := by decide +kernel
theorem dM_stuck_25 : decode cM_stuck 25 = .ok (.getfield 74, 3) := by decide +kernel
theorem dM_stuck_28 : decode cM_stuck 28 = .ok (.ifCond .eq 7, 3) := by decide +kernel
theorem dM_stuck_31 : decode cM_stuck 31 = .ok (.iconst 2, 1) := by decide +kernel
theorem dM_stuck_32 : decode cM_stuck 32 = .ok (.goto 4, 3) := by decide +kernel
theorem dM_stuck_35 : decode cM_stuck 35 = .ok (.iconst 0, 1) := by decide +kernel
theorem dM_stuck_36 : decode cM_stuck 36 = .ok (.putfield 71, 3) := by decide +kernel
theorem dM_stuck_39 : decode cM_stuck 39 = .ok (.aload_n 0, 1) := by decide +kernel
theorem dM_stuck_40 : decode cM_stuck 40 = .ok (.getfield 71, 3) := by decide +kernel
theorem dM_stuck_43 : decode cM_stuck 43 = .ok (.ifCond .ne 10, 3) := by decide +kernel
theorem dM_stuck_46 : decode cM_stuck 46 = .ok (.aload_n 0, 1) := by decide +kernel
theorem dM_stuck_47 : decode cM_stuck 47 = .ok (.getfield 7, 3) := by decide +kernel
theorem dM_stuck_50 : decode cM_stuck 50 = .ok (.iload_n 1, 1) := by decide +kernel
theorem dM_stuck_51 : decode cM_stuck 51 = .ok (.iconst 1, 1) := by decide +kernel
theorem dM_stuck_52 : decode cM_stuck 52 = .ok (.bastore, 1) := by decide +kernel
theorem dM_stuck_53 : decode cM_stuck 53 = .ok (.return_, 1) := by decide +kernel
theorem dM_power_0 : decode cM_power 0 = .ok (.aload_n 0, 1) := by decide +kernel
theorem dM_power_1 : decode cM_power 1 = .ok (.iconst 0, 1) := by decide +kernel
theorem dM_power_2 : decode cM_power 2 = .ok (.putfield 71, 3) := by decide +kernel
theorem dM_power_5 : decode cM_power 5 = .ok (.aload_n 0, 1) := by decide +kernel
theorem dM_power_6 : decode cM_power 6 = .ok (.aload_n 0, 1) := by decide +kernel
theorem dM_power_7 : decode cM_power 7 = .ok (.getfield 21, 3) := by decide +kernel
theorem dM_power_10 : decode cM_power 10 = .ok (.ifCond .eq 15, 3) := by decide +kernel
theorem dM_power_13 : decode cM_power 13 = .ok (.iload_n 1, 1) := by decide +kernel
theorem dM_power_14 : decode cM_power 14 = .ok (.ifCond .ge 7, 3) := by decide +kernel
theorem dM_power_17 : decode cM_power 17 = .ok (.iconst (-1), 1) := by decide +kernel
theorem dM_power_18 : decode cM_power 18 = .ok (.goto 11, 3) := by decide +kernel
theorem dM_power_21 : decode cM_power 21 = .ok (.iload_n 1, 1) := by decide +kernel
theorem dM_power_22 : decode cM_power 22 = .ok (.goto 7, 3) := by decide +kernel
theorem dM_power_25 : decode cM_power 25 = .ok (.aload_n 0, 1) := by decide +kernel
theorem dM_power_26 : decode cM_power 26 = .ok (.getfield 17, 3) := by decide +kernel
theorem dM_power_29 : decode cM_power 29 = .ok (.putfield 17, 3) := by decide +kernel
theorem dM_power_32 : decode cM_power 32 = .ok (.return_, 1) := by decide +kernel
theorem dM_state_0 : decode cM_state 0 = .ok (.aload_n 0, 1) := by decide +kernel
theorem dM_state_1 : decode cM_state 1 = .ok (.iconst 0, 1) := by decide +kernel
theorem dM_state_2 : decode cM_state 2 = .ok (.putfield 71, 3) := by decide +kernel
theorem dM_state_5 : decode cM_state 5 = .ok (.aload_n 0, 1) := by decide +kernel
theorem dM_state_6 : decode cM_state 6 = .ok (.getfield 21, 3) := by decide +kernel
theorem dM_state_9 : decode cM_state 9 = .ok (.ifCond .ne 7, 3) := by decide +kernel
theorem dM_state_12 : decode cM_state 12 = .ok (.iconst 0, 1) := by decide +kernel
theorem dM_state_13 : decode cM_state 13 = .ok (.goto 15, 3) := by decide +kernel
theorem dM_state_16 : decode cM_state 16 = .ok (.aload_n 0, 1) := by decide +kernel
theorem dM_state_17 : decode cM_state 17 = .ok (.getfield 77, 3) := by decide +kernel
theorem dM_state_20 : decode cM_state 20 = .ok (.ifCond .eq 7, 3) := by decide +kernel
theorem dM_state_23 : decode cM_state 23 = .ok (.iconst 2, 1) := by decide +kernel
theorem dM_state_24 : decode cM_state 24 = .ok (.goto 4, 3) := by decide +kernel
theorem dM_state_27 : decode cM_state 27 = .ok (.iconst 1, 1) := by decide +kernel
theorem dM_state_28 : decode cM_state 28 = .ok (.ireturn, 1) := by decide +kernel
theorem dM_steps_0 : decode cM_steps 0 = .ok (.aload_n 0, 1) := by decide +kernel
theorem dM_steps_1 : decode cM_steps 1 = .ok (.iconst 0, 1) := by decide +kernel
theorem dM_steps_2 : decode cM_steps 2 = .ok (.putfield 71, 3) := by decide +kernel
theorem dM_steps_5 : decode cM_steps 5 = .ok (.aload_n 0, 1) := by decide +kernel
theorem dM_steps_6 : decode cM_steps 6 = .ok (.getfield 80, 3) := by decide +kernel
theorem dM_steps_9 : decode cM_steps 9 = .ok (.lreturn, 1) := by decide +kernel
theorem dM_stepsTo_0 : decode cM_stepsTo 0 = .ok (.iload_n 1, 1) := by decide +kernel
theorem dM_stepsTo_1 : decode cM_stepsTo 1 = .ok (.bipush 101, 2) := by decide +kernel
theorem dM_stepsTo_3 : decode cM_stepsTo 3 = .ok (.iadd, 1) := by decide +kernel
theorem dM_stepsTo_4 : decode cM_stepsTo 4 = .ok (.aload_n 0, 1) := by decide +kernel
theorem dM_stepsTo_5 : decode cM_stepsTo 5 = .ok (.getfield 84, 3) := by decide +kernel
theorem dM_stepsTo_8 : decode cM_stepsTo 8 = .ok (.isub, 1) := by decide +kernel
theorem dM_stepsTo_9 : decode cM_stepsTo 9 = .ok (.bipush 101, 2) := by decide +kernel
theorem dM_stepsTo_11 : decode cM_stepsTo 11 = .ok (.irem, 1) := by decide +kernel
theorem dM_stepsTo_12 : decode cM_stepsTo 12 = .ok (.ireturn, 1) := by decide +kernel
theorem dM_turnTo_0 : decode cM_turnTo 0 = .ok (.aload_n 0, 1) := by decide +kernel
theorem dM_turnTo_1 : decode cM_turnTo 1 = .ok (.aload_n 0, 1) := by decide +kernel
theorem dM_turnTo_2 : decode cM_turnTo 2 = .ok (.getfield 80, 3) := by decide +kernel
theorem dM_turnTo_5 : decode cM_turnTo 5 = .ok (.aload_n 0, 1) := by decide +kernel
theorem dM_turnTo_6 : decode cM_turnTo 6 = .ok (.iload_n 1, 1) := by decide +kernel
theorem dM_turnTo_7 : decode cM_turnTo 7 = .ok (.invokevirtual 87, 3) := by decide +kernel
theorem dM_turnTo_10 : decode cM_turnTo 10 = .ok (.i2l, 1) := by decide +kernel
theorem dM_turnTo_11 : decode cM_turnTo 11 = .ok (.ladd, 1) := by decide +kernel
theorem dM_turnTo_12 : decode cM_turnTo 12 = .ok (.putfield 80, 3) := by decide +kernel
theorem dM_turnTo_15 : decode cM_turnTo 15 = .ok (.aload_n 0, 1) := by decide +kernel
theorem dM_turnTo_16 : decode cM_turnTo 16 = .ok (.iload_n 1, 1) := by decide +kernel
theorem dM_turnTo_17 : decode cM_turnTo 17 = .ok (.putfield 84, 3) := by decide +kernel
theorem dM_turnTo_20 : decode cM_turnTo 20 = .ok (.return_, 1) := by decide +kernel
theorem dM_goes_0 : decode cM_goes 0 = .ok (.aload_n 0, 1) := by decide +kernel
theorem dM_goes_1 : decode cM_goes 1 = .ok (.getfield 17, 3) := by decide +kernel
theorem dM_goes_4 : decode cM_goes 4 = .ok (.ifCond .ne 8, 3) := by decide +kernel
theorem dM_goes_7 : decode cM_goes 7 = .ok (.aload_n 0, 1) := by decide +kernel
theorem dM_goes_8 : decode cM_goes 8 = .ok (.iconst 0, 1) := by decide +kernel
theorem dM_goes_9 : decode cM_goes 9 = .ok (.putfield 21, 3) := by decide +kernel
theorem dM_goes_12 : decode cM_goes 12 = .ok (.aload_n 0, 1) := by decide +kernel
theorem dM_goes_13 : decode cM_goes 13 = .ok (.getfield 21, 3) := by decide +kernel
theorem dM_goes_16 : decode cM_goes 16 = .ok (.ifCond .ne 5, 3) := by decide +kernel
theorem dM_goes_19 : decode cM_goes 19 = .ok (.iconst 0, 1) := by decide +kernel
theorem dM_goes_20 : decode cM_goes 20 = .ok (.ireturn, 1) := by decide +kernel
theorem dM_goes_21 : decode cM_goes 21 = .ok (.aload_n 0, 1) := by decide +kernel
theorem dM_goes_22 : decode cM_goes 22 = .ok (.aload_n 0, 1) := by decide +kernel
theorem dM_goes_23 : decode cM_goes 23 = .ok (.getfield 17, 3) := by decide +kernel
theorem dM_goes_26 : decode cM_goes 26 = .ok (.ifCond .le 12, 3) := by decide +kernel
theorem dM_goes_29 : decode cM_goes 29 = .ok (.aload_n 0, 1) := by decide +kernel
theorem dM_goes_30 : decode cM_goes 30 = .ok (.getfield 17, 3) := by decide +kernel
theorem dM_goes_33 : decode cM_goes 33 = .ok (.iconst 1, 1) := by decide +kernel
theorem dM_goes_34 : decode cM_goes 34 = .ok (.isub, 1) := by decide +kernel
theorem dM_goes_35 : decode cM_goes 35 = .ok (.goto 7, 3) := by decide +kernel
theorem dM_goes_38 : decode cM_goes 38 = .ok (.aload_n 0, 1) := by decide +kernel
theorem dM_goes_39 : decode cM_goes 39 = .ok (.getfield 17, 3) := by decide +kernel
theorem dM_goes_42 : decode cM_goes 42 = .ok (.putfield 17, 3) := by decide +kernel
theorem dM_goes_45 : decode cM_goes 45 = .ok (.aload_n 0, 1) := by decide +kernel
theorem dM_goes_46 : decode cM_goes 46 = .ok (.iload_n 1, 1) := by decide +kernel
theorem dM_goes_47 : decode cM_goes 47 = .ok (.invokevirtual 91, 3) := by decide +kernel
theorem dM_goes_50 : decode cM_goes 50 = .ok (.iconst 1, 1) := by decide +kernel
theorem dM_goes_51 : decode cM_goes 51 = .ok (.ireturn, 1) := by decide +kernel
theorem dM_write_0 : decode cM_write 0 = .ok (.aload_n 0, 1) := by decide +kernel
theorem dM_write_1 : decode cM_write 1 = .ok (.getfield 21, 3) := by decide +kernel
theorem dM_write_4 : decode cM_write 4 = .ok (.ifCond .eq 18, 3) := by decide +kernel
theorem dM_write_7 : decode cM_write 7 = .ok (.aload_n 0, 1) := by decide +kernel
theorem dM_write_8 : decode cM_write 8 = .ok (.iload_n 1, 1) := by decide +kernel
theorem dM_write_9 : decode cM_write 9 = .ok (.invokevirtual 95, 3) := by decide +kernel
theorem dM_write_12 : decode cM_write 12 = .ok (.ifCond .eq 10, 3) := by decide +kernel
theorem dM_write_15 : decode cM_write 15 = .ok (.aload_n 0, 1) := by decide +kernel
theorem dM_write_16 : decode cM_write 16 = .ok (.getfield 13, 3) := by decide +kernel
theorem dM_write_19 : decode cM_write 19 = .ok (.iload_n 1, 1) := by decide +kernel
theorem dM_write_20 : decode cM_write 20 = .ok (.lload_n 2, 1) := by decide +kernel
theorem dM_write_21 : decode cM_write 21 = .ok (.lastore, 1) := by decide +kernel
theorem dM_write_22 : decode cM_write 22 = .ok (.return_, 1) := by decide +kernel
theorem dM_read_0 : decode cM_read 0 = .ok (.aload_n 0, 1) := by decide +kernel
theorem dM_read_1 : decode cM_read 1 = .ok (.getfield 21, 3) := by decide +kernel
theorem dM_read_4 : decode cM_read 4 = .ok (.ifCond .eq 20, 3) := by decide +kernel
theorem dM_read_7 : decode cM_read 7 = .ok (.aload_n 0, 1) := by decide +kernel
theorem dM_read_8 : decode cM_read 8 = .ok (.iload_n 1, 1) := by decide +kernel
theorem dM_read_9 : decode cM_read 9 = .ok (.invokevirtual 95, 3) := by decide +kernel
theorem dM_read_12 : decode cM_read 12 = .ok (.ifCond .eq 12, 3) := by decide +kernel
theorem dM_read_15 : decode cM_read 15 = .ok (.aload_n 0, 1) := by decide +kernel
theorem dM_read_16 : decode cM_read 16 = .ok (.getfield 13, 3) := by decide +kernel
theorem dM_read_19 : decode cM_read 19 = .ok (.iload_n 1, 1) := by decide +kernel
theorem dM_read_20 : decode cM_read 20 = .ok (.laload, 1) := by decide +kernel
theorem dM_read_21 : decode cM_read 21 = .ok (.goto 4, 3) := by decide +kernel
theorem dM_read_24 : decode cM_read 24 = .ok (.lconst 0, 1) := by decide +kernel
theorem dM_read_25 : decode cM_read 25 = .ok (.lreturn, 1) := by decide +kernel
theorem dM_forget_0 : decode cM_forget 0 = .ok (.aload_n 0, 1) := by decide +kernel
theorem dM_forget_1 : decode cM_forget 1 = .ok (.iconst 0, 1) := by decide +kernel
theorem dM_forget_2 : decode cM_forget 2 = .ok (.putfield 77, 3) := by decide +kernel
theorem dM_forget_5 : decode cM_forget 5 = .ok (.iconst 0, 1) := by decide +kernel
theorem dM_forget_6 : decode cM_forget 6 = .ok (.istore_n 1, 1) := by decide +kernel
theorem dM_forget_7 : decode cM_forget 7 = .ok (.iload_n 1, 1) := by decide +kernel
theorem dM_forget_8 : decode cM_forget 8 = .ok (.bipush 8, 2) := by decide +kernel
theorem dM_forget_10 : decode cM_forget 10 = .ok (.if_icmp .ge 14, 3) := by decide +kernel
theorem dM_forget_13 : decode cM_forget 13 = .ok (.aload_n 0, 1) := by decide +kernel
theorem dM_forget_14 : decode cM_forget 14 = .ok (.iload_n 1, 1) := by decide +kernel
theorem dM_forget_15 : decode cM_forget 15 = .ok (.invokevirtual 99, 3) := by decide +kernel
theorem dM_forget_18 : decode cM_forget 18 = .ok (.iinc 1 1, 3) := by decide +kernel
theorem dM_forget_21 : decode cM_forget 21 = .ok (.goto (-14), 3) := by decide +kernel
theorem dM_forget_24 : decode cM_forget 24 = .ok (.iconst 0, 1) := by decide +kernel
theorem dM_forget_25 : decode cM_forget 25 = .ok (.istore_n 1, 1) := by decide +kernel
theorem dM_forget_26 : decode cM_forget 26 = .ok (.iload_n 1, 1) := by decide +kernel
theorem dM_forget_27 : decode cM_forget 27 = .ok (.bipush 101, 2) := by decide +kernel
theorem dM_forget_29 : decode cM_forget 29 = .ok (.if_icmp .ge 16, 3) := by decide +kernel
theorem dM_forget_32 : decode cM_forget 32 = .ok (.aload_n 0, 1) := by decide +kernel
theorem dM_forget_33 : decode cM_forget 33 = .ok (.getfield 44, 3) := by decide +kernel
theorem dM_forget_36 : decode cM_forget 36 = .ok (.iload_n 1, 1) := by decide +kernel
theorem dM_forget_37 : decode cM_forget 37 = .ok (.iconst 0, 1) := by decide +kernel
theorem dM_forget_38 : decode cM_forget 38 = .ok (.bastore, 1) := by decide +kernel
theorem dM_forget_39 : decode cM_forget 39 = .ok (.iinc 1 1, 3) := by decide +kernel
theorem dM_forget_42 : decode cM_forget 42 = .ok (.goto (-16), 3) := by decide +kernel
theorem dM_forget_45 : decode cM_forget 45 = .ok (.aload_n 0, 1) := by decide +kernel
theorem dM_forget_46 : decode cM_forget 46 = .ok (.iconst 0, 1) := by decide +kernel
theorem dM_forget_47 : decode cM_forget 47 = .ok (.putfield 102, 3) := by decide +kernel
theorem dM_forget_50 : decode cM_forget 50 = .ok (.aload_n 0, 1) := by decide +kernel
theorem dM_forget_51 : decode cM_forget 51 = .ok (.iconst 0, 1) := by decide +kernel
theorem dM_forget_52 : decode cM_forget 52 = .ok (.putfield 105, 3) := by decide +kernel
theorem dM_forget_55 : decode cM_forget 55 = .ok (.return_, 1) := by decide +kernel
theorem dM_drop_0 : decode cM_drop 0 = .ok (.aload_n 0, 1) := by decide +kernel
theorem dM_drop_1 : decode cM_drop 1 = .ok (.getfield 25, 3) := by decide +kernel
theorem dM_drop_4 : decode cM_drop 4 = .ok (.iload_n 1, 1) := by decide +kernel
theorem dM_drop_5 : decode cM_drop 5 = .ok (.iconst 0, 1) := by decide +kernel
theorem dM_drop_6 : decode cM_drop 6 = .ok (.iastore, 1) := by decide +kernel
theorem dM_drop_7 : decode cM_drop 7 = .ok (.aload_n 0, 1) := by decide +kernel
theorem dM_drop_8 : decode cM_drop 8 = .ok (.getfield 29, 3) := by decide +kernel
theorem dM_drop_11 : decode cM_drop 11 = .ok (.iload_n 1, 1) := by decide +kernel
theorem dM_drop_12 : decode cM_drop 12 = .ok (.iconst 0, 1) := by decide +kernel
theorem dM_drop_13 : decode cM_drop 13 = .ok (.iastore, 1) := by decide +kernel
theorem dM_drop_14 : decode cM_drop 14 = .ok (.aload_n 0, 1) := by decide +kernel
theorem dM_drop_15 : decode cM_drop 15 = .ok (.getfield 35, 3) := by decide +kernel
theorem dM_drop_18 : decode cM_drop 18 = .ok (.iload_n 1, 1) := by decide +kernel
theorem dM_drop_19 : decode cM_drop 19 = .ok (.iconst (-1), 1) := by decide +kernel
theorem dM_drop_20 : decode cM_drop 20 = .ok (.iastore, 1) := by decide +kernel
theorem dM_drop_21 : decode cM_drop 21 = .ok (.aload_n 0, 1) := by decide +kernel
theorem dM_drop_22 : decode cM_drop 22 = .ok (.getfield 41, 3) := by decide +kernel
theorem dM_drop_25 : decode cM_drop 25 = .ok (.iload_n 1, 1) := by decide +kernel
theorem dM_drop_26 : decode cM_drop 26 = .ok (.iconst 0, 1) := by decide +kernel
theorem dM_drop_27 : decode cM_drop 27 = .ok (.bastore, 1) := by decide +kernel
theorem dM_drop_28 : decode cM_drop 28 = .ok (.return_, 1) := by decide +kernel
theorem dM_format_0 : decode cM_format 0 = .ok (.aload_n 0, 1) := by decide +kernel
theorem dM_format_1 : decode cM_format 1 = .ok (.aload_n 0, 1) := by decide +kernel
theorem dM_format_2 : decode cM_format 2 = .ok (.getfield 21, 3) := by decide +kernel
theorem dM_format_5 : decode cM_format 5 = .ok (.ifCond .eq 7, 3) := by decide +kernel
theorem dM_format_8 : decode cM_format 8 = .ok (.iconst 0, 1) := by decide +kernel
theorem dM_format_9 : decode cM_format 9 = .ok (.goto 4, 3) := by decide +kernel
theorem dM_format_12 : decode cM_format 12 = .ok (.iconst 1, 1) := by decide +kernel
theorem dM_format_13 : decode cM_format 13 = .ok (.putfield 71, 3) := by decide +kernel
theorem dM_format_16 : decode cM_format 16 = .ok (.iconst 0, 1) := by decide +kernel
theorem dM_format_17 : decode cM_format 17 = .ok (.istore_n 1, 1) := by decide +kernel
theorem dM_format_18 : decode cM_format 18 = .ok (.iconst 0, 1) := by decide +kernel
theorem dM_format_19 : decode cM_format 19 = .ok (.istore_n 2, 1) := by decide +kernel
theorem dM_format_20 : decode cM_format 20 = .ok (.iload_n 2, 1) := by decide +kernel
theorem dM_format_21 : decode cM_format 21 = .ok (.bipush 69, 2) := by decide +kernel
theorem dM_format_23 : decode cM_format 23 = .ok (.if_icmp .ge 26, 3) := by decide +kernel
theorem dM_format_26 : decode cM_format 26 = .ok (.aload_n 0, 1) := by decide +kernel
theorem dM_format_27 : decode cM_format 27 = .ok (.getfield 7, 3) := by decide +kernel
theorem dM_format_30 : decode cM_format 30 = .ok (.iload_n 2, 1) := by decide +kernel
theorem dM_format_31 : decode cM_format 31 = .ok (.baload, 1) := by decide +kernel
theorem dM_format_32 : decode cM_format 32 = .ok (.ifCond .eq 7, 3) := by decide +kernel
theorem dM_format_35 : decode cM_format 35 = .ok (.iload_n 1, 1) := by decide +kernel
theorem dM_format_36 : decode cM_format 36 = .ok (.goto 6, 3) := by decide +kernel
theorem dM_format_39 : decode cM_format 39 = .ok (.iload_n 1, 1) := by decide +kernel
theorem dM_format_40 : decode cM_format 40 = .ok (.iconst 1, 1) := by decide +kernel
theorem dM_format_41 : decode cM_format 41 = .ok (.iadd, 1) := by decide +kernel
theorem dM_format_42 : decode cM_format 42 = .ok (.istore_n 1, 1) := by decide +kernel
theorem dM_format_43 : decode cM_format 43 = .ok (.iinc 2 1, 3) := by decide +kernel
theorem dM_format_46 : decode cM_format 46 = .ok (.goto (-26), 3) := by decide +kernel
theorem dM_format_49 : decode cM_format 49 = .ok (.aload_n 0, 1) := by decide +kernel
theorem dM_format_50 : decode cM_format 50 = .ok (.getfield 71, 3) := by decide +kernel
theorem dM_format_53 : decode cM_format 53 = .ok (.ifCond .gt 9, 3) := by decide +kernel
theorem dM_format_56 : decode cM_format 56 = .ok (.iload_n 1, 1) := by decide +kernel
theorem dM_format_57 : decode cM_format 57 = .ok (.bipush 64, 2) := by decide +kernel
theorem dM_format_59 : decode cM_format 59 = .ok (.if_icmp .ge 5, 3) := by decide +kernel
theorem dM_format_62 : decode cM_format 62 = .ok (.iconst 0, 1) := by decide +kernel
theorem dM_format_63 : decode cM_format 63 = .ok (.ireturn, 1) := by decide +kernel
theorem dM_format_64 : decode cM_format 64 = .ok (.aload_n 0, 1) := by decide +kernel
theorem dM_format_65 : decode cM_format 65 = .ok (.aload_n 0, 1) := by decide +kernel
theorem dM_format_66 : decode cM_format 66 = .ok (.getfield 80, 3) := by decide +kernel
theorem dM_format_69 : decode cM_format 69 = .ok (.ldc2_w 108, 3) := by decide +kernel
theorem dM_format_72 : decode cM_format 72 = .ok (.ladd, 1) := by decide +kernel
theorem dM_format_73 : decode cM_format 73 = .ok (.putfield 80, 3) := by decide +kernel
theorem dM_format_76 : decode cM_format 76 = .ok (.aload_n 0, 1) := by decide +kernel
theorem dM_format_77 : decode cM_format 77 = .ok (.iconst 1, 1) := by decide +kernel
theorem dM_format_78 : decode cM_format 78 = .ok (.putfield 74, 3) := by decide +kernel
theorem dM_format_81 : decode cM_format 81 = .ok (.iconst 0, 1) := by decide +kernel
theorem dM_format_82 : decode cM_format 82 = .ok (.istore_n 2, 1) := by decide +kernel
theorem dM_format_83 : decode cM_format 83 = .ok (.iload_n 2, 1) := by decide +kernel
theorem dM_format_84 : decode cM_format 84 = .ok (.bipush 101, 2) := by decide +kernel
theorem dM_format_86 : decode cM_format 86 = .ok (.if_icmp .ge 16, 3) := by decide +kernel
theorem dM_format_89 : decode cM_format 89 = .ok (.aload_n 0, 1) := by decide +kernel
theorem dM_format_90 : decode cM_format 90 = .ok (.getfield 13, 3) := by decide +kernel
theorem dM_format_93 : decode cM_format 93 = .ok (.iload_n 2, 1) := by decide +kernel
theorem dM_format_94 : decode cM_format 94 = .ok (.lconst 0, 1) := by decide +kernel
theorem dM_format_95 : decode cM_format 95 = .ok (.lastore, 1) := by decide +kernel
theorem dM_format_96 : decode cM_format 96 = .ok (.iinc 2 1, 3) := by decide +kernel
theorem dM_format_99 : decode cM_format 99 = .ok (.goto (-16), 3) := by decide +kernel
theorem dM_format_102 : decode cM_format 102 = .ok (.aload_n 0, 1) := by decide +kernel
theorem dM_format_103 : decode cM_format 103 = .ok (.invokevirtual 68, 3) := by decide +kernel
theorem dM_format_106 : decode cM_format 106 = .ok (.aload_n 0, 1) := by decide +kernel
theorem dM_format_107 : decode cM_format 107 = .ok (.iconst 1, 1) := by decide +kernel
theorem dM_format_108 : decode cM_format 108 = .ok (.putfield 110, 3) := by decide +kernel
theorem dM_format_111 : decode cM_format 111 = .ok (.aload_n 0, 1) := by decide +kernel
theorem dM_format_112 : decode cM_format 112 = .ok (.sipush 255, 3) := by decide +kernel
theorem dM_format_115 : decode cM_format 115 = .ok (.putfield 113, 3) := by decide +kernel
theorem dM_format_118 : decode cM_format 118 = .ok (.aload_n 0, 1) := by decide +kernel
theorem dM_format_119 : decode cM_format 119 = .ok (.iconst 1, 1) := by decide +kernel
theorem dM_format_120 : decode cM_format 120 = .ok (.putfield 77, 3) := by decide +kernel
theorem dM_format_123 : decode cM_format 123 = .ok (.aload_n 0, 1) := by decide +kernel
theorem dM_format_124 : decode cM_format 124 = .ok (.invokevirtual 116, 3) := by decide +kernel
theorem dM_format_127 : decode cM_format 127 = .ok (.aload_n 0, 1) := by decide +kernel
theorem dM_format_128 : decode cM_format 128 = .ok (.aload_n 0, 1) := by decide +kernel
theorem dM_format_129 : decode cM_format 129 = .ok (.getfield 21, 3) := by decide +kernel
theorem dM_format_132 : decode cM_format 132 = .ok (.ifCond .eq 7, 3) := by decide +kernel
theorem dM_format_135 : decode cM_format 135 = .ok (.iconst 0, 1) := by decide +kernel
theorem dM_format_136 : decode cM_format 136 = .ok (.goto 4, 3) := by decide +kernel
theorem dM_format_139 : decode cM_format 139 = .ok (.iconst 1, 1) := by decide +kernel
theorem dM_format_140 : decode cM_format 140 = .ok (.putfield 71, 3) := by decide +kernel
theorem dM_format_143 : decode cM_format 143 = .ok (.aload_n 0, 1) := by decide +kernel
theorem dM_format_144 : decode cM_format 144 = .ok (.getfield 21, 3) := by decide +kernel
theorem dM_format_147 : decode cM_format 147 = .ok (.ireturn, 1) := by decide +kernel
theorem dM_putBytes_0 : decode cM_putBytes 0 = .ok (.iconst 0, 1) := by decide +kernel
theorem dM_putBytes_1 : decode cM_putBytes 1 = .ok (.istore 5, 2) := by decide +kernel
theorem dM_putBytes_3 : decode cM_putBytes 3 = .ok (.iload 5, 2) := by decide +kernel
theorem dM_putBytes_5 : decode cM_putBytes 5 = .ok (.iload 4, 2) := by decide +kernel
theorem dM_putBytes_7 : decode cM_putBytes 7 = .ok (.if_icmp .ge 30, 3) := by decide +kernel
theorem dM_putBytes_10 : decode cM_putBytes 10 = .ok (.aload_n 0, 1) := by decide +kernel
theorem dM_putBytes_11 : decode cM_putBytes 11 = .ok (.getfield 47, 3) := by decide +kernel
theorem dM_putBytes_14 : decode cM_putBytes 14 = .ok (.iload_n 1, 1) := by decide +kernel
theorem dM_putBytes_15 : decode cM_putBytes 15 = .ok (.iload 5, 2) := by decide +kernel
theorem dM_putBytes_17 : decode cM_putBytes 17 = .ok (.iadd, 1) := by decide +kernel
theorem dM_putBytes_18 : decode cM_putBytes 18 = .ok (.lload_n 2, 1) := by decide +kernel
theorem dM_putBytes_19 : decode cM_putBytes 19 = .ok (.bipush 8, 2) := by decide +kernel
theorem dM_putBytes_21 : decode cM_putBytes 21 = .ok (.iload 5, 2) := by decide +kernel
theorem dM_putBytes_23 : decode cM_putBytes 23 = .ok (.imul, 1) := by decide +kernel
theorem dM_putBytes_24 : decode cM_putBytes 24 = .ok (.lshr, 1) := by decide +kernel
theorem dM_putBytes_25 : decode cM_putBytes 25 = .ok (.ldc2_w 119, 3) := by decide +kernel
theorem dM_putBytes_28 : decode cM_putBytes 28 = .ok (.land, 1) := by decide +kernel
theorem dM_putBytes_29 : decode cM_putBytes 29 = .ok (.l2i, 1) := by decide +kernel
theorem dM_putBytes_30 : decode cM_putBytes 30 = .ok (.iastore, 1) := by decide +kernel
theorem dM_putBytes_31 : decode cM_putBytes 31 = .ok (.iinc 5 1, 3) := by decide +kernel
theorem dM_putBytes_34 : decode cM_putBytes 34 = .ok (.goto (-31), 3) := by decide +kernel
theorem dM_putBytes_37 : decode cM_putBytes 37 = .ok (.return_, 1) := by decide +kernel
theorem dM_getBytes_0 : decode cM_getBytes 0 = .ok (.iconst 0, 1) := by decide +kernel
theorem dM_getBytes_1 : decode cM_getBytes 1 = .ok (.istore_n 3, 1) := by decide +kernel
theorem dM_getBytes_2 : decode cM_getBytes 2 = .ok (.iconst 0, 1) := by decide +kernel
theorem dM_getBytes_3 : decode cM_getBytes 3 = .ok (.istore 4, 2) := by decide +kernel
theorem dM_getBytes_5 : decode cM_getBytes 5 = .ok (.iload 4, 2) := by decide +kernel
theorem dM_getBytes_7 : decode cM_getBytes 7 = .ok (.iload_n 2, 1) := by decide +kernel
theorem dM_getBytes_8 : decode cM_getBytes 8 = .ok (.if_icmp .ge 27, 3) := by decide +kernel
theorem dM_getBytes_11 : decode cM_getBytes 11 = .ok (.iload_n 3, 1) := by decide +kernel
theorem dM_getBytes_12 : decode cM_getBytes 12 = .ok (.aload_n 0, 1) := by decide +kernel
theorem dM_getBytes_13 : decode cM_getBytes 13 = .ok (.getfield 47, 3) := by decide +kernel
theorem dM_getBytes_16 : decode cM_getBytes 16 = .ok (.iload_n 1, 1) := by decide +kernel
theorem dM_getBytes_17 : decode cM_getBytes 17 = .ok (.iload 4, 2) := by decide +kernel
theorem dM_getBytes_19 : decode cM_getBytes 19 = .ok (.iadd, 1) := by decide +kernel
theorem dM_getBytes_20 : decode cM_getBytes 20 = .ok (.iaload, 1) := by decide +kernel
theorem dM_getBytes_21 : decode cM_getBytes 21 = .ok (.bipush 8, 2) := by decide +kernel
theorem dM_getBytes_23 : decode cM_getBytes 23 = .ok (.iload 4, 2) := by decide +kernel
theorem dM_getBytes_25 : decode cM_getBytes 25 = .ok (.imul, 1) := by decide +kernel
theorem dM_getBytes_26 : decode cM_getBytes 26 = .ok (.ishl, 1) := by decide +kernel
theorem dM_getBytes_27 : decode cM_getBytes 27 = .ok (.ior, 1) := by decide +kernel
theorem dM_getBytes_28 : decode cM_getBytes 28 = .ok (.istore_n 3, 1) := by decide +kernel
theorem dM_getBytes_29 : decode cM_getBytes 29 = .ok (.iinc 4 1, 3) := by decide +kernel
theorem dM_getBytes_32 : decode cM_getBytes 32 = .ok (.goto (-27), 3) := by decide +kernel
theorem dM_getBytes_35 : decode cM_getBytes 35 = .ok (.iload_n 3, 1) := by decide +kernel
theorem dM_getBytes_36 : decode cM_getBytes 36 = .ok (.ireturn, 1) := by decide +kernel
theorem dM_sumOfImage_0 : decode cM_sumOfImage 0 = .ok (.iconst 1, 1) := by decide +kernel
theorem dM_sumOfImage_1 : decode cM_sumOfImage 1 = .ok (.istore_n 1, 1) := by decide +kernel
theorem dM_sumOfImage_2 : decode cM_sumOfImage 2 = .ok (.iconst 0, 1) := by decide +kernel
theorem dM_sumOfImage_3 : decode cM_sumOfImage 3 = .ok (.istore_n 2, 1) := by decide +kernel
theorem dM_sumOfImage_4 : decode cM_sumOfImage 4 = .ok (.iload_n 2, 1) := by decide +kernel
theorem dM_sumOfImage_5 : decode cM_sumOfImage 5 = .ok (.sipush 158, 3) := by decide +kernel
theorem dM_sumOfImage_8 : decode cM_sumOfImage 8 = .ok (.if_icmp .ge 18, 3) := by decide +kernel
theorem dM_sumOfImage_11 : decode cM_sumOfImage 11 = .ok (.iload_n 1, 1) := by decide +kernel
theorem dM_sumOfImage_12 : decode cM_sumOfImage 12 = .ok (.aload_n 0, 1) := by decide +kernel
theorem dM_sumOfImage_13 : decode cM_sumOfImage 13 = .ok (.getfield 47, 3) := by decide +kernel
theorem dM_sumOfImage_16 : decode cM_sumOfImage 16 = .ok (.iload_n 2, 1) := by decide +kernel
theorem dM_sumOfImage_17 : decode cM_sumOfImage 17 = .ok (.iaload, 1) := by decide +kernel
theorem dM_sumOfImage_18 : decode cM_sumOfImage 18 = .ok (.iadd, 1) := by decide +kernel
theorem dM_sumOfImage_19 : decode cM_sumOfImage 19 = .ok (.istore_n 1, 1) := by decide +kernel
theorem dM_sumOfImage_20 : decode cM_sumOfImage 20 = .ok (.iinc 2 1, 3) := by decide +kernel
theorem dM_sumOfImage_23 : decode cM_sumOfImage 23 = .ok (.goto (-19), 3) := by decide +kernel
theorem dM_sumOfImage_26 : decode cM_sumOfImage 26 = .ok (.iload_n 1, 1) := by decide +kernel
theorem dM_sumOfImage_27 : decode cM_sumOfImage 27 = .ok (.ldc 121, 2) := by decide +kernel
theorem dM_sumOfImage_29 : decode cM_sumOfImage 29 = .ok (.irem, 1) := by decide +kernel
theorem dM_sumOfImage_30 : decode cM_sumOfImage 30 = .ok (.ireturn, 1) := by decide +kernel
theorem dM_pages_0 : decode cM_pages 0 = .ok (.aload_n 0, 1) := by decide +kernel
theorem dM_pages_1 : decode cM_pages 1 = .ok (.getfield 29, 3) := by decide +kernel
theorem dM_pages_4 : decode cM_pages 4 = .ok (.iload_n 1, 1) := by decide +kernel
theorem dM_pages_5 : decode cM_pages 5 = .ok (.iaload, 1) := by decide +kernel
theorem dM_pages_6 : decode cM_pages 6 = .ok (.bipush 7, 2) := by decide +kernel
theorem dM_pages_8 : decode cM_pages 8 = .ok (.iadd, 1) := by decide +kernel
theorem dM_pages_9 : decode cM_pages 9 = .ok (.bipush 8, 2) := by decide +kernel
theorem dM_pages_11 : decode cM_pages 11 = .ok (.idiv, 1) := by decide +kernel
theorem dM_pages_12 : decode cM_pages 12 = .ok (.ireturn, 1) := by decide +kernel
theorem dM_makeImage_0 : decode cM_makeImage 0 = .ok (.iconst 0, 1) := by decide +kernel
theorem dM_makeImage_1 : decode cM_makeImage 1 = .ok (.istore_n 2, 1) := by decide +kernel
theorem dM_makeImage_2 : decode cM_makeImage 2 = .ok (.iload_n 2, 1) := by decide +kernel
theorem dM_makeImage_3 : decode cM_makeImage 3 = .ok (.bipush 101, 2) := by decide +kernel
theorem dM_makeImage_5 : decode cM_makeImage 5 = .ok (.if_icmp .ge 16, 3) := by decide +kernel
theorem dM_makeImage_8 : decode cM_makeImage 8 = .ok (.aload_n 0, 1) := by decide +kernel
theorem dM_makeImage_9 : decode cM_makeImage 9 = .ok (.getfield 50, 3) := by decide +kernel
theorem dM_makeImage_12 : decode cM_makeImage 12 = .ok (.iload_n 2, 1) := by decide +kernel
theorem dM_makeImage_13 : decode cM_makeImage 13 = .ok (.iconst 0, 1) := by decide +kernel
theorem dM_makeImage_14 : decode cM_makeImage 14 = .ok (.iastore, 1) := by decide +kernel
theorem dM_makeImage_15 : decode cM_makeImage 15 = .ok (.iinc 2 1, 3) := by decide +kernel
theorem dM_makeImage_18 : decode cM_makeImage 18 = .ok (.goto (-16), 3) := by decide +kernel
theorem dM_makeImage_21 : decode cM_makeImage 21 = .ok (.iconst 0, 1) := by decide +kernel
theorem dM_makeImage_22 : decode cM_makeImage 22 = .ok (.istore_n 2, 1) := by decide +kernel
theorem dM_makeImage_23 : decode cM_makeImage 23 = .ok (.iload_n 2, 1) := by decide +kernel
theorem dM_makeImage_24 : decode cM_makeImage 24 = .ok (.bipush 8, 2) := by decide +kernel
theorem dM_makeImage_26 : decode cM_makeImage 26 = .ok (.if_icmp .ge 125, 3) := by decide +kernel
theorem dM_makeImage_29 : decode cM_makeImage 29 = .ok (.iconst 1, 1) := by decide +kernel
theorem dM_makeImage_30 : decode cM_makeImage 30 = .ok (.istore_n 3, 1) := by decide +kernel
theorem dM_makeImage_31 : decode cM_makeImage 31 = .ok (.iload_n 3, 1) := by decide +kernel
theorem dM_makeImage_32 : decode cM_makeImage 32 = .ok (.aload_n 0, 1) := by decide +kernel
theorem dM_makeImage_33 : decode cM_makeImage 33 = .ok (.iload_n 2, 1) := by decide +kernel
theorem dM_makeImage_34 : decode cM_makeImage 34 = .ok (.invokevirtual 122, 3) := by decide +kernel
theorem dM_makeImage_37 : decode cM_makeImage 37 = .ok (.if_icmp .ge 38, 3) := by decide +kernel
theorem dM_makeImage_40 : decode cM_makeImage 40 = .ok (.aload_n 0, 1) := by decide +kernel
theorem dM_makeImage_41 : decode cM_makeImage 41 = .ok (.getfield 50, 3) := by decide +kernel
theorem dM_makeImage_44 : decode cM_makeImage 44 = .ok (.aload_n 0, 1) := by decide +kernel
theorem dM_makeImage_45 : decode cM_makeImage 45 = .ok (.getfield 32, 3) := by decide +kernel
theorem dM_makeImage_48 : decode cM_makeImage 48 = .ok (.bipush 64, 2) := by decide +kernel
theorem dM_makeImage_50 : decode cM_makeImage 50 = .ok (.iload_n 2, 1) := by decide +kernel
theorem dM_makeImage_51 : decode cM_makeImage 51 = .ok (.imul, 1) := by decide +kernel
theorem dM_makeImage_52 : decode cM_makeImage 52 = .ok (.iload_n 3, 1) := by decide +kernel
theorem dM_makeImage_53 : decode cM_makeImage 53 = .ok (.iadd, 1) := by decide +kernel
theorem dM_makeImage_54 : decode cM_makeImage 54 = .ok (.iconst 1, 1) := by decide +kernel
theorem dM_makeImage_55 : decode cM_makeImage 55 = .ok (.isub, 1) := by decide +kernel
theorem dM_makeImage_56 : decode cM_makeImage 56 = .ok (.iaload, 1) := by decide +kernel
theorem dM_makeImage_57 : decode cM_makeImage 57 = .ok (.aload_n 0, 1) := by decide +kernel
theorem dM_makeImage_58 : decode cM_makeImage 58 = .ok (.getfield 32, 3) := by decide +kernel
theorem dM_makeImage_61 : decode cM_makeImage 61 = .ok (.bipush 64, 2) := by decide +kernel
theorem dM_makeImage_63 : decode cM_makeImage 63 = .ok (.iload_n 2, 1) := by decide +kernel
theorem dM_makeImage_64 : decode cM_makeImage 64 = .ok (.imul, 1) := by decide +kernel
theorem dM_makeImage_65 : decode cM_makeImage 65 = .ok (.iload_n 3, 1) := by decide +kernel
theorem dM_makeImage_66 : decode cM_makeImage 66 = .ok (.iadd, 1) := by decide +kernel
theorem dM_makeImage_67 : decode cM_makeImage 67 = .ok (.iaload, 1) := by decide +kernel
theorem dM_makeImage_68 : decode cM_makeImage 68 = .ok (.iastore, 1) := by decide +kernel
theorem dM_makeImage_69 : decode cM_makeImage 69 = .ok (.iinc 3 1, 3) := by decide +kernel
theorem dM_makeImage_72 : decode cM_makeImage 72 = .ok (.goto (-41), 3) := by decide +kernel
theorem dM_makeImage_75 : decode cM_makeImage 75 = .ok (.aload_n 0, 1) := by decide +kernel
theorem dM_makeImage_76 : decode cM_makeImage 76 = .ok (.iconst 1, 1) := by decide +kernel
theorem dM_makeImage_77 : decode cM_makeImage 77 = .ok (.bipush 7, 2) := by decide +kernel
theorem dM_makeImage_79 : decode cM_makeImage 79 = .ok (.iload_n 2, 1) := by decide +kernel
theorem dM_makeImage_80 : decode cM_makeImage 80 = .ok (.imul, 1) := by decide +kernel
theorem dM_makeImage_81 : decode cM_makeImage 81 = .ok (.iadd, 1) := by decide +kernel
theorem dM_makeImage_82 : decode cM_makeImage 82 = .ok (.aload_n 0, 1) := by decide +kernel
theorem dM_makeImage_83 : decode cM_makeImage 83 = .ok (.getfield 25, 3) := by decide +kernel
theorem dM_makeImage_86 : decode cM_makeImage 86 = .ok (.iload_n 2, 1) := by decide +kernel
theorem dM_makeImage_87 : decode cM_makeImage 87 = .ok (.iaload, 1) := by decide +kernel
theorem dM_makeImage_88 : decode cM_makeImage 88 = .ok (.i2l, 1) := by decide +kernel
theorem dM_makeImage_89 : decode cM_makeImage 89 = .ok (.iconst 4, 1) := by decide +kernel
theorem dM_makeImage_90 : decode cM_makeImage 90 = .ok (.invokevirtual 125, 3) := by decide +kernel
theorem dM_makeImage_93 : decode cM_makeImage 93 = .ok (.aload_n 0, 1) := by decide +kernel
theorem dM_makeImage_94 : decode cM_makeImage 94 = .ok (.iconst 5, 1) := by decide +kernel
theorem dM_makeImage_95 : decode cM_makeImage 95 = .ok (.bipush 7, 2) := by decide +kernel
theorem dM_makeImage_97 : decode cM_makeImage 97 = .ok (.iload_n 2, 1) := by decide +kernel
theorem dM_makeImage_98 : decode cM_makeImage 98 = .ok (.imul, 1) := by decide +kernel
theorem dM_makeImage_99 : decode cM_makeImage 99 = .ok (.iadd, 1) := by decide +kernel
theorem dM_makeImage_100 : decode cM_makeImage 100 = .ok (.aload_n 0, 1) := by decide +kernel
theorem dM_makeImage_101 : decode cM_makeImage 101 = .ok (.iload_n 2, 1) := by decide +kernel
theorem dM_makeImage_102 : decode cM_makeImage 102 = .ok (.invokevirtual 122, 3) := by decide +kernel
theorem dM_makeImage_105 : decode cM_makeImage 105 = .ok (.ifCond .le 16, 3) := by decide +kernel
theorem dM_makeImage_108 : decode cM_makeImage 108 = .ok (.aload_n 0, 1) := by decide +kernel
theorem dM_makeImage_109 : decode cM_makeImage 109 = .ok (.getfield 32, 3) := by decide +kernel
theorem dM_makeImage_112 : decode cM_makeImage 112 = .ok (.bipush 64, 2) := by decide +kernel
theorem dM_makeImage_114 : decode cM_makeImage 114 = .ok (.iload_n 2, 1) := by decide +kernel
theorem dM_makeImage_115 : decode cM_makeImage 115 = .ok (.imul, 1) := by decide +kernel
theorem dM_makeImage_116 : decode cM_makeImage 116 = .ok (.iaload, 1) := by decide +kernel
theorem dM_makeImage_117 : decode cM_makeImage 117 = .ok (.i2l, 1) := by decide +kernel
theorem dM_makeImage_118 : decode cM_makeImage 118 = .ok (.goto 4, 3) := by decide +kernel
theorem dM_makeImage_121 : decode cM_makeImage 121 = .ok (.lconst 0, 1) := by decide +kernel
theorem dM_makeImage_122 : decode cM_makeImage 122 = .ok (.iconst 1, 1) := by decide +kernel
theorem dM_makeImage_123 : decode cM_makeImage 123 = .ok (.invokevirtual 125, 3) := by decide +kernel
theorem dM_makeImage_126 : decode cM_makeImage 126 = .ok (.aload_n 0, 1) := by decide +kernel
theorem dM_makeImage_127 : decode cM_makeImage 127 = .ok (.bipush 6, 2) := by decide +kernel
theorem dM_makeImage_129 : decode cM_makeImage 129 = .ok (.bipush 7, 2) := by decide +kernel
theorem dM_makeImage_131 : decode cM_makeImage 131 = .ok (.iload_n 2, 1) := by decide +kernel
theorem dM_makeImage_132 : decode cM_makeImage 132 = .ok (.imul, 1) := by decide +kernel
theorem dM_makeImage_133 : decode cM_makeImage 133 = .ok (.iadd, 1) := by decide +kernel
theorem dM_makeImage_134 : decode cM_makeImage 134 = .ok (.aload_n 0, 1) := by decide +kernel
theorem dM_makeImage_135 : decode cM_makeImage 135 = .ok (.getfield 29, 3) := by decide +kernel
theorem dM_makeImage_138 : decode cM_makeImage 138 = .ok (.iload_n 2, 1) := by decide +kernel
theorem dM_makeImage_139 : decode cM_makeImage 139 = .ok (.iaload, 1) := by decide +kernel
theorem dM_makeImage_140 : decode cM_makeImage 140 = .ok (.i2l, 1) := by decide +kernel
theorem dM_makeImage_141 : decode cM_makeImage 141 = .ok (.iconst 2, 1) := by decide +kernel
theorem dM_makeImage_142 : decode cM_makeImage 142 = .ok (.invokevirtual 125, 3) := by decide +kernel
theorem dM_makeImage_145 : decode cM_makeImage 145 = .ok (.iinc 2 1, 3) := by decide +kernel
theorem dM_makeImage_148 : decode cM_makeImage 148 = .ok (.goto (-125), 3) := by decide +kernel
theorem dM_makeImage_151 : decode cM_makeImage 151 = .ok (.aload_n 0, 1) := by decide +kernel
theorem dM_makeImage_152 : decode cM_makeImage 152 = .ok (.iconst 0, 1) := by decide +kernel
theorem dM_makeImage_153 : decode cM_makeImage 153 = .ok (.iload_n 1, 1) := by decide +kernel
theorem dM_makeImage_154 : decode cM_makeImage 154 = .ok (.i2l, 1) := by decide +kernel
theorem dM_makeImage_155 : decode cM_makeImage 155 = .ok (.iconst 1, 1) := by decide +kernel
theorem dM_makeImage_156 : decode cM_makeImage 156 = .ok (.invokevirtual 125, 3) := by decide +kernel
theorem dM_makeImage_159 : decode cM_makeImage 159 = .ok (.iconst 0, 1) := by decide +kernel
theorem dM_makeImage_160 : decode cM_makeImage 160 = .ok (.istore_n 2, 1) := by decide +kernel
theorem dM_makeImage_161 : decode cM_makeImage 161 = .ok (.iload_n 2, 1) := by decide +kernel
theorem dM_makeImage_162 : decode cM_makeImage 162 = .ok (.bipush 101, 2) := by decide +kernel
theorem dM_makeImage_164 : decode cM_makeImage 164 = .ok (.if_icmp .ge 25, 3) := by decide +kernel
theorem dM_makeImage_167 : decode cM_makeImage 167 = .ok (.aload_n 0, 1) := by decide +kernel
theorem dM_makeImage_168 : decode cM_makeImage 168 = .ok (.bipush 57, 2) := by decide +kernel
theorem dM_makeImage_170 : decode cM_makeImage 170 = .ok (.iload_n 2, 1) := by decide +kernel
theorem dM_makeImage_171 : decode cM_makeImage 171 = .ok (.iadd, 1) := by decide +kernel
theorem dM_makeImage_172 : decode cM_makeImage 172 = .ok (.aload_n 0, 1) := by decide +kernel
theorem dM_makeImage_173 : decode cM_makeImage 173 = .ok (.getfield 50, 3) := by decide +kernel
theorem dM_makeImage_176 : decode cM_makeImage 176 = .ok (.iload_n 2, 1) := by decide +kernel
theorem dM_makeImage_177 : decode cM_makeImage 177 = .ok (.iaload, 1) := by decide +kernel
theorem dM_makeImage_178 : decode cM_makeImage 178 = .ok (.i2l, 1) := by decide +kernel
theorem dM_makeImage_179 : decode cM_makeImage 179 = .ok (.iconst 1, 1) := by decide +kernel
theorem dM_makeImage_180 : decode cM_makeImage 180 = .ok (.invokevirtual 125, 3) := by decide +kernel
theorem dM_makeImage_183 : decode cM_makeImage 183 = .ok (.iinc 2 1, 3) := by decide +kernel
theorem dM_makeImage_186 : decode cM_makeImage 186 = .ok (.goto (-25), 3) := by decide +kernel
theorem dM_makeImage_189 : decode cM_makeImage 189 = .ok (.aload_n 0, 1) := by decide +kernel
theorem dM_makeImage_190 : decode cM_makeImage 190 = .ok (.sipush 158, 3) := by decide +kernel
theorem dM_makeImage_193 : decode cM_makeImage 193 = .ok (.aload_n 0, 1) := by decide +kernel
theorem dM_makeImage_194 : decode cM_makeImage 194 = .ok (.invokevirtual 129, 3) := by decide +kernel
theorem dM_makeImage_197 : decode cM_makeImage 197 = .ok (.i2l, 1) := by decide +kernel
theorem dM_makeImage_198 : decode cM_makeImage 198 = .ok (.iconst 2, 1) := by decide +kernel
theorem dM_makeImage_199 : decode cM_makeImage 199 = .ok (.invokevirtual 125, 3) := by decide +kernel
theorem dM_makeImage_202 : decode cM_makeImage 202 = .ok (.return_, 1) := by decide +kernel
theorem dM_saveAll_0 : decode cM_saveAll 0 = .ok (.iconst 0, 1) := by decide +kernel
theorem dM_saveAll_1 : decode cM_saveAll 1 = .ok (.istore_n 1, 1) := by decide +kernel
theorem dM_saveAll_2 : decode cM_saveAll 2 = .ok (.iload_n 1, 1) := by decide +kernel
theorem dM_saveAll_3 : decode cM_saveAll 3 = .ok (.bipush 8, 2) := by decide +kernel
theorem dM_saveAll_5 : decode cM_saveAll 5 = .ok (.if_icmp .ge 14, 3) := by decide +kernel
theorem dM_saveAll_8 : decode cM_saveAll 8 = .ok (.aload_n 0, 1) := by decide +kernel
theorem dM_saveAll_9 : decode cM_saveAll 9 = .ok (.iload_n 1, 1) := by decide +kernel
theorem dM_saveAll_10 : decode cM_saveAll 10 = .ok (.invokevirtual 133, 3) := by decide +kernel
theorem dM_saveAll_13 : decode cM_saveAll 13 = .ok (.iinc 1 1, 3) := by decide +kernel
theorem dM_saveAll_16 : decode cM_saveAll 16 = .ok (.goto (-14), 3) := by decide +kernel
theorem dM_saveAll_19 : decode cM_saveAll 19 = .ok (.iconst 1, 1) := by decide +kernel
theorem dM_saveAll_20 : decode cM_saveAll 20 = .ok (.aload_n 0, 1) := by decide +kernel
theorem dM_saveAll_21 : decode cM_saveAll 21 = .ok (.getfield 110, 3) := by decide +kernel
theorem dM_saveAll_24 : decode cM_saveAll 24 = .ok (.isub, 1) := by decide +kernel
theorem dM_saveAll_25 : decode cM_saveAll 25 = .ok (.istore_n 1, 1) := by decide +kernel
theorem dM_saveAll_26 : decode cM_saveAll 26 = .ok (.aload_n 0, 1) := by decide +kernel
theorem dM_saveAll_27 : decode cM_saveAll 27 = .ok (.getfield 113, 3) := by decide +kernel
theorem dM_saveAll_30 : decode cM_saveAll 30 = .ok (.iconst 1, 1) := by decide +kernel
theorem dM_saveAll_31 : decode cM_saveAll 31 = .ok (.iadd, 1) := by decide +kernel
theorem dM_saveAll_32 : decode cM_saveAll 32 = .ok (.sipush 256, 3) := by decide +kernel
theorem dM_saveAll_35 : decode cM_saveAll 35 = .ok (.irem, 1) := by decide +kernel
theorem dM_saveAll_36 : decode cM_saveAll 36 = .ok (.istore_n 2, 1) := by decide +kernel
theorem dM_saveAll_37 : decode cM_saveAll 37 = .ok (.aload_n 0, 1) := by decide +kernel
theorem dM_saveAll_38 : decode cM_saveAll 38 = .ok (.iload_n 2, 1) := by decide +kernel
theorem dM_saveAll_39 : decode cM_saveAll 39 = .ok (.invokevirtual 136, 3) := by decide +kernel
theorem dM_saveAll_42 : decode cM_saveAll 42 = .ok (.iconst 1, 1) := by decide +kernel
theorem dM_saveAll_43 : decode cM_saveAll 43 = .ok (.istore_n 3, 1) := by decide +kernel
theorem dM_saveAll_44 : decode cM_saveAll 44 = .ok (.iload_n 3, 1) := by decide +kernel
theorem dM_saveAll_45 : decode cM_saveAll 45 = .ok (.bipush 21, 2) := by decide +kernel
theorem dM_saveAll_47 : decode cM_saveAll 47 = .ok (.if_icmp .ge 68, 3) := by decide +kernel
theorem dM_saveAll_50 : decode cM_saveAll 50 = .ok (.iload_n 3, 1) := by decide +kernel
theorem dM_saveAll_51 : decode cM_saveAll 51 = .ok (.bipush 20, 2) := by decide +kernel
theorem dM_saveAll_53 : decode cM_saveAll 53 = .ok (.irem, 1) := by decide +kernel
theorem dM_saveAll_54 : decode cM_saveAll 54 = .ok (.istore 4, 2) := by decide +kernel
theorem dM_saveAll_56 : decode cM_saveAll 56 = .ok (.lconst 0, 1) := by decide +kernel
theorem dM_saveAll_57 : decode cM_saveAll 57 = .ok (.lstore 5, 2) := by decide +kernel
theorem dM_saveAll_59 : decode cM_saveAll 59 = .ok (.bipush 7, 2) := by decide +kernel
theorem dM_saveAll_61 : decode cM_saveAll 61 = .ok (.istore 7, 2) := by decide +kernel
theorem dM_saveAll_63 : decode cM_saveAll 63 = .ok (.iload 7, 2) := by decide +kernel
theorem dM_saveAll_65 : decode cM_saveAll 65 = .ok (.ifCond .lt 31, 3) := by decide +kernel
theorem dM_saveAll_68 : decode cM_saveAll 68 = .ok (.lload 5, 2) := by decide +kernel
theorem dM_saveAll_70 : decode cM_saveAll 70 = .ok (.bipush 8, 2) := by decide +kernel
theorem dM_saveAll_72 : decode cM_saveAll 72 = .ok (.lshl, 1) := by decide +kernel
theorem dM_saveAll_73 : decode cM_saveAll 73 = .ok (.aload_n 0, 1) := by decide +kernel
theorem dM_saveAll_74 : decode cM_saveAll 74 = .ok (.getfield 47, 3) := by decide +kernel
theorem dM_saveAll_77 : decode cM_saveAll 77 = .ok (.bipush 8, 2) := by decide +kernel
theorem dM_saveAll_79 : decode cM_saveAll 79 = .ok (.iload 4, 2) := by decide +kernel
theorem dM_saveAll_81 : decode cM_saveAll 81 = .ok (.imul, 1) := by decide +kernel
theorem dM_saveAll_82 : decode cM_saveAll 82 = .ok (.iload 7, 2) := by decide +kernel
theorem dM_saveAll_84 : decode cM_saveAll 84 = .ok (.iadd, 1) := by decide +kernel
theorem dM_saveAll_85 : decode cM_saveAll 85 = .ok (.iaload, 1) := by decide +kernel
theorem dM_saveAll_86 : decode cM_saveAll 86 = .ok (.i2l, 1) := by decide +kernel
theorem dM_saveAll_87 : decode cM_saveAll 87 = .ok (.lor, 1) := by decide +kernel
theorem dM_saveAll_88 : decode cM_saveAll 88 = .ok (.lstore 5, 2) := by decide +kernel
theorem dM_saveAll_90 : decode cM_saveAll 90 = .ok (.iinc 7 (-1), 3) := by decide +kernel
theorem dM_saveAll_93 : decode cM_saveAll 93 = .ok (.goto (-30), 3) := by decide +kernel
theorem dM_saveAll_96 : decode cM_saveAll 96 = .ok (.aload_n 0, 1) := by decide +kernel
theorem dM_saveAll_97 : decode cM_saveAll 97 = .ok (.bipush 20, 2) := by decide +kernel
theorem dM_saveAll_99 : decode cM_saveAll 99 = .ok (.iload_n 1, 1) := by decide +kernel
theorem dM_saveAll_100 : decode cM_saveAll 100 = .ok (.imul, 1) := by decide +kernel
theorem dM_saveAll_101 : decode cM_saveAll 101 = .ok (.iload 4, 2) := by decide +kernel
theorem dM_saveAll_103 : decode cM_saveAll 103 = .ok (.iadd, 1) := by decide +kernel
theorem dM_saveAll_104 : decode cM_saveAll 104 = .ok (.lload 5, 2) := by decide +kernel
theorem dM_saveAll_106 : decode cM_saveAll 106 = .ok (.invokevirtual 139, 3) := by decide +kernel
theorem dM_saveAll_109 : decode cM_saveAll 109 = .ok (.iinc 3 1, 3) := by decide +kernel
theorem dM_saveAll_112 : decode cM_saveAll 112 = .ok (.goto (-68), 3) := by decide +kernel
theorem dM_saveAll_115 : decode cM_saveAll 115 = .ok (.aload_n 0, 1) := by decide +kernel
theorem dM_saveAll_116 : decode cM_saveAll 116 = .ok (.iload_n 1, 1) := by decide +kernel
theorem dM_saveAll_117 : decode cM_saveAll 117 = .ok (.putfield 110, 3) := by decide +kernel
theorem dM_saveAll_120 : decode cM_saveAll 120 = .ok (.aload_n 0, 1) := by decide +kernel
theorem dM_saveAll_121 : decode cM_saveAll 121 = .ok (.iload_n 2, 1) := by decide +kernel
theorem dM_saveAll_122 : decode cM_saveAll 122 = .ok (.putfield 113, 3) := by decide +kernel
theorem dM_saveAll_125 : decode cM_saveAll 125 = .ok (.aload_n 0, 1) := by decide +kernel
theorem dM_saveAll_126 : decode cM_saveAll 126 = .ok (.invokevirtual 143, 3) := by decide +kernel
theorem dM_saveAll_129 : decode cM_saveAll 129 = .ok (.return_, 1) := by decide +kernel
theorem dM_hold_0 : decode cM_hold 0 = .ok (.iconst 0, 1) := by decide +kernel
theorem dM_hold_1 : decode cM_hold 1 = .ok (.istore_n 1, 1) := by decide +kernel
theorem dM_hold_2 : decode cM_hold 2 = .ok (.iload_n 1, 1) := by decide +kernel
theorem dM_hold_3 : decode cM_hold 3 = .ok (.bipush 101, 2) := by decide +kernel
theorem dM_hold_5 : decode cM_hold 5 = .ok (.if_icmp .ge 20, 3) := by decide +kernel
theorem dM_hold_8 : decode cM_hold 8 = .ok (.aload_n 0, 1) := by decide +kernel
theorem dM_hold_9 : decode cM_hold 9 = .ok (.getfield 44, 3) := by decide +kernel
theorem dM_hold_12 : decode cM_hold 12 = .ok (.iload_n 1, 1) := by decide +kernel
theorem dM_hold_13 : decode cM_hold 13 = .ok (.aload_n 0, 1) := by decide +kernel
theorem dM_hold_14 : decode cM_hold 14 = .ok (.iload_n 1, 1) := by decide +kernel
theorem dM_hold_15 : decode cM_hold 15 = .ok (.invokevirtual 146, 3) := by decide +kernel
theorem dM_hold_18 : decode cM_hold 18 = .ok (.bastore, 1) := by decide +kernel
theorem dM_hold_19 : decode cM_hold 19 = .ok (.iinc 1 1, 3) := by decide +kernel
theorem dM_hold_22 : decode cM_hold 22 = .ok (.goto (-20), 3) := by decide +kernel
theorem dM_hold_25 : decode cM_hold 25 = .ok (.return_, 1) := by decide +kernel
theorem dM_isUsed_0 : decode cM_isUsed 0 = .ok (.iconst 0, 1) := by decide +kernel
theorem dM_isUsed_1 : decode cM_isUsed 1 = .ok (.istore_n 2, 1) := by decide +kernel
theorem dM_isUsed_2 : decode cM_isUsed 2 = .ok (.iconst 0, 1) := by decide +kernel
theorem dM_isUsed_3 : decode cM_isUsed 3 = .ok (.istore_n 3, 1) := by decide +kernel
theorem dM_isUsed_4 : decode cM_isUsed 4 = .ok (.iload_n 3, 1) := by decide +kernel
theorem dM_isUsed_5 : decode cM_isUsed 5 = .ok (.bipush 8, 2) := by decide +kernel
theorem dM_isUsed_7 : decode cM_isUsed 7 = .ok (.if_icmp .ge 54, 3) := by decide +kernel
theorem dM_isUsed_10 : decode cM_isUsed 10 = .ok (.iconst 0, 1) := by decide +kernel
theorem dM_isUsed_11 : decode cM_isUsed 11 = .ok (.istore 4, 2) := by decide +kernel
theorem dM_isUsed_13 : decode cM_isUsed 13 = .ok (.iload 4, 2) := by decide +kernel
theorem dM_isUsed_15 : decode cM_isUsed 15 = .ok (.aload_n 0, 1) := by decide +kernel
theorem dM_isUsed_16 : decode cM_isUsed 16 = .ok (.iload_n 3, 1) := by decide +kernel
theorem dM_isUsed_17 : decode cM_isUsed 17 = .ok (.invokevirtual 122, 3) := by decide +kernel
theorem dM_isUsed_20 : decode cM_isUsed 20 = .ok (.if_icmp .ge 35, 3) := by decide +kernel
theorem dM_isUsed_23 : decode cM_isUsed 23 = .ok (.iload_n 2, 1) := by decide +kernel
theorem dM_isUsed_24 : decode cM_isUsed 24 = .ok (.ifCond .ne 19, 3) := by decide +kernel
theorem dM_isUsed_27 : decode cM_isUsed 27 = .ok (.aload_n 0, 1) := by decide +kernel
theorem dM_isUsed_28 : decode cM_isUsed 28 = .ok (.getfield 32, 3) := by decide +kernel
theorem dM_isUsed_31 : decode cM_isUsed 31 = .ok (.bipush 64, 2) := by decide +kernel
theorem dM_isUsed_33 : decode cM_isUsed 33 = .ok (.iload_n 3, 1) := by decide +kernel
theorem dM_isUsed_34 : decode cM_isUsed 34 = .ok (.imul, 1) := by decide +kernel
theorem dM_isUsed_35 : decode cM_isUsed 35 = .ok (.iload 4, 2) := by decide +kernel
theorem dM_isUsed_37 : decode cM_isUsed 37 = .ok (.iadd, 1) := by decide +kernel
theorem dM_isUsed_38 : decode cM_isUsed 38 = .ok (.iaload, 1) := by decide +kernel
theorem dM_isUsed_39 : decode cM_isUsed 39 = .ok (.iload_n 1, 1) := by decide +kernel
theorem dM_isUsed_40 : decode cM_isUsed 40 = .ok (.if_icmp .ne 7, 3) := by decide +kernel
theorem dM_isUsed_43 : decode cM_isUsed 43 = .ok (.iconst 1, 1) := by decide +kernel
theorem dM_isUsed_44 : decode cM_isUsed 44 = .ok (.goto 4, 3) := by decide +kernel
theorem dM_isUsed_47 : decode cM_isUsed 47 = .ok (.iconst 0, 1) := by decide +kernel
theorem dM_isUsed_48 : decode cM_isUsed 48 = .ok (.istore_n 2, 1) := by decide +kernel
theorem dM_isUsed_49 : decode cM_isUsed 49 = .ok (.iinc 4 1, 3) := by decide +kernel
theorem dM_isUsed_52 : decode cM_isUsed 52 = .ok (.goto (-39), 3) := by decide +kernel
theorem dM_isUsed_55 : decode cM_isUsed 55 = .ok (.iinc 3 1, 3) := by decide +kernel
theorem dM_isUsed_58 : decode cM_isUsed 58 = .ok (.goto (-54), 3) := by decide +kernel
theorem dM_isUsed_61 : decode cM_isUsed 61 = .ok (.iload_n 2, 1) := by decide +kernel
theorem dM_isUsed_62 : decode cM_isUsed 62 = .ok (.ireturn, 1) := by decide +kernel
theorem dM_loadImage_0 : decode cM_loadImage 0 = .ok (.iconst 0, 1) := by decide +kernel
theorem dM_loadImage_1 : decode cM_loadImage 1 = .ok (.istore_n 2, 1) := by decide +kernel
theorem dM_loadImage_2 : decode cM_loadImage 2 = .ok (.iload_n 2, 1) := by decide +kernel
theorem dM_loadImage_3 : decode cM_loadImage 3 = .ok (.bipush 20, 2) := by decide +kernel
theorem dM_loadImage_5 : decode cM_loadImage 5 = .ok (.if_icmp .ge 30, 3) := by decide +kernel
theorem dM_loadImage_8 : decode cM_loadImage 8 = .ok (.aload_n 0, 1) := by decide +kernel
theorem dM_loadImage_9 : decode cM_loadImage 9 = .ok (.bipush 8, 2) := by decide +kernel
theorem dM_loadImage_11 : decode cM_loadImage 11 = .ok (.iload_n 2, 1) := by decide +kernel
theorem dM_loadImage_12 : decode cM_loadImage 12 = .ok (.imul, 1) := by decide +kernel
theorem dM_loadImage_13 : decode cM_loadImage 13 = .ok (.aload_n 0, 1) := by decide +kernel
theorem dM_loadImage_14 : decode cM_loadImage 14 = .ok (.getfield 13, 3) := by decide +kernel
theorem dM_loadImage_17 : decode cM_loadImage 17 = .ok (.bipush 20, 2) := by decide +kernel
theorem dM_loadImage_19 : decode cM_loadImage 19 = .ok (.iload_n 1, 1) := by decide +kernel
theorem dM_loadImage_20 : decode cM_loadImage 20 = .ok (.imul, 1) := by decide +kernel
theorem dM_loadImage_21 : decode cM_loadImage 21 = .ok (.iload_n 2, 1) := by decide +kernel
theorem dM_loadImage_22 : decode cM_loadImage 22 = .ok (.iadd, 1) := by decide +kernel
theorem dM_loadImage_23 : decode cM_loadImage 23 = .ok (.laload, 1) := by decide +kernel
theorem dM_loadImage_24 : decode cM_loadImage 24 = .ok (.bipush 8, 2) := by decide +kernel
theorem dM_loadImage_26 : decode cM_loadImage 26 = .ok (.invokevirtual 125, 3) := by decide +kernel
theorem dM_loadImage_29 : decode cM_loadImage 29 = .ok (.iinc 2 1, 3) := by decide +kernel
theorem dM_loadImage_32 : decode cM_loadImage 32 = .ok (.goto (-30), 3) := by decide +kernel
theorem dM_loadImage_35 : decode cM_loadImage 35 = .ok (.return_, 1) := by decide +kernel
theorem dM_isValid_0 : decode cM_isValid 0 = .ok (.aload_n 0, 1) := by decide +kernel
theorem dM_isValid_1 : decode cM_isValid 1 = .ok (.sipush 158, 3) := by decide +kernel
theorem dM_isValid_4 : decode cM_isValid 4 = .ok (.iconst 2, 1) := by decide +kernel
theorem dM_isValid_5 : decode cM_isValid 5 = .ok (.invokevirtual 149, 3) := by decide +kernel
theorem dM_isValid_8 : decode cM_isValid 8 = .ok (.aload_n 0, 1) := by decide +kernel
theorem dM_isValid_9 : decode cM_isValid 9 = .ok (.invokevirtual 129, 3) := by decide +kernel
theorem dM_isValid_12 : decode cM_isValid 12 = .ok (.if_icmp .ne 7, 3) := by decide +kernel
theorem dM_isValid_15 : decode cM_isValid 15 = .ok (.iconst 1, 1) := by decide +kernel
theorem dM_isValid_16 : decode cM_isValid 16 = .ok (.goto 4, 3) := by decide +kernel
theorem dM_isValid_19 : decode cM_isValid 19 = .ok (.iconst 0, 1) := by decide +kernel
theorem dM_isValid_20 : decode cM_isValid 20 = .ok (.ireturn, 1) := by decide +kernel
theorem dM_mount_0 : decode cM_mount 0 = .ok (.aload_n 0, 1) := by decide +kernel
theorem dM_mount_1 : decode cM_mount 1 = .ok (.iconst 0, 1) := by decide +kernel
theorem dM_mount_2 : decode cM_mount 2 = .ok (.putfield 71, 3) := by decide +kernel
theorem dM_mount_5 : decode cM_mount 5 = .ok (.aload_n 0, 1) := by decide +kernel
theorem dM_mount_6 : decode cM_mount 6 = .ok (.iconst 1, 1) := by decide +kernel
theorem dM_mount_7 : decode cM_mount 7 = .ok (.putfield 21, 3) := by decide +kernel
theorem dM_mount_10 : decode cM_mount 10 = .ok (.aload_n 0, 1) := by decide +kernel
theorem dM_mount_11 : decode cM_mount 11 = .ok (.iconst (-1), 1) := by decide +kernel
theorem dM_mount_12 : decode cM_mount 12 = .ok (.putfield 17, 3) := by decide +kernel
theorem dM_mount_15 : decode cM_mount 15 = .ok (.aload_n 0, 1) := by decide +kernel
theorem dM_mount_16 : decode cM_mount 16 = .ok (.invokevirtual 68, 3) := by decide +kernel
theorem dM_mount_19 : decode cM_mount 19 = .ok (.aload_n 0, 1) := by decide +kernel
theorem dM_mount_20 : decode cM_mount 20 = .ok (.getfield 74, 3) := by decide +kernel
theorem dM_mount_23 : decode cM_mount 23 = .ok (.ifCond .ne 5, 3) := by decide +kernel
theorem dM_mount_26 : decode cM_mount 26 = .ok (.iconst 0, 1) := by decide +kernel
theorem dM_mount_27 : decode cM_mount 27 = .ok (.ireturn, 1) := by decide +kernel
theorem dM_mount_28 : decode cM_mount 28 = .ok (.iconst 0, 1) := by decide +kernel
theorem dM_mount_29 : decode cM_mount 29 = .ok (.istore_n 1, 1) := by decide +kernel
theorem dM_mount_30 : decode cM_mount 30 = .ok (.iload_n 1, 1) := by decide +kernel
theorem dM_mount_31 : decode cM_mount 31 = .ok (.bipush 40, 2) := by decide +kernel
theorem dM_mount_33 : decode cM_mount 33 = .ok (.if_icmp .ge 14, 3) := by decide +kernel
theorem dM_mount_36 : decode cM_mount 36 = .ok (.aload_n 0, 1) := by decide +kernel
theorem dM_mount_37 : decode cM_mount 37 = .ok (.iload_n 1, 1) := by decide +kernel
theorem dM_mount_38 : decode cM_mount 38 = .ok (.invokevirtual 91, 3) := by decide +kernel
theorem dM_mount_41 : decode cM_mount 41 = .ok (.iinc 1 1, 3) := by decide +kernel
theorem dM_mount_44 : decode cM_mount 44 = .ok (.goto (-14), 3) := by decide +kernel
theorem dM_mount_47 : decode cM_mount 47 = .ok (.aload_n 0, 1) := by decide +kernel
theorem dM_mount_48 : decode cM_mount 48 = .ok (.iconst 1, 1) := by decide +kernel
theorem dM_mount_49 : decode cM_mount 49 = .ok (.invokevirtual 153, 3) := by decide +kernel
theorem dM_mount_52 : decode cM_mount 52 = .ok (.aload_n 0, 1) := by decide +kernel
theorem dM_mount_53 : decode cM_mount 53 = .ok (.invokevirtual 156, 3) := by decide +kernel
theorem dM_mount_56 : decode cM_mount 56 = .ok (.istore_n 1, 1) := by decide +kernel
theorem dM_mount_57 : decode cM_mount 57 = .ok (.aload_n 0, 1) := by decide +kernel
theorem dM_mount_58 : decode cM_mount 58 = .ok (.getfield 47, 3) := by decide +kernel
theorem dM_mount_61 : decode cM_mount 61 = .ok (.iconst 0, 1) := by decide +kernel
theorem dM_mount_62 : decode cM_mount 62 = .ok (.iaload, 1) := by decide +kernel
theorem dM_mount_63 : decode cM_mount 63 = .ok (.istore_n 2, 1) := by decide +kernel
theorem dM_mount_64 : decode cM_mount 64 = .ok (.aload_n 0, 1) := by decide +kernel
theorem dM_mount_65 : decode cM_mount 65 = .ok (.iconst 0, 1) := by decide +kernel
theorem dM_mount_66 : decode cM_mount 66 = .ok (.invokevirtual 153, 3) := by decide +kernel
theorem dM_mount_69 : decode cM_mount 69 = .ok (.aload_n 0, 1) := by decide +kernel
theorem dM_mount_70 : decode cM_mount 70 = .ok (.invokevirtual 156, 3) := by decide +kernel
theorem dM_mount_73 : decode cM_mount 73 = .ok (.istore_n 3, 1) := by decide +kernel
theorem dM_mount_74 : decode cM_mount 74 = .ok (.iload_n 3, 1) := by decide +kernel
theorem dM_mount_75 : decode cM_mount 75 = .ok (.ifCond .ne 9, 3) := by decide +kernel
theorem dM_mount_78 : decode cM_mount 78 = .ok (.iload_n 1, 1) := by decide +kernel
theorem dM_mount_79 : decode cM_mount 79 = .ok (.ifCond .ne 5, 3) := by decide +kernel
theorem dM_mount_82 : decode cM_mount 82 = .ok (.iconst 0, 1) := by decide +kernel
theorem dM_mount_83 : decode cM_mount 83 = .ok (.ireturn, 1) := by decide +kernel
theorem dM_mount_84 : decode cM_mount 84 = .ok (.iload_n 2, 1) := by decide +kernel
theorem dM_mount_85 : decode cM_mount 85 = .ok (.aload_n 0, 1) := by decide +kernel
theorem dM_mount_86 : decode cM_mount 86 = .ok (.getfield 47, 3) := by decide +kernel
theorem dM_mount_89 : decode cM_mount 89 = .ok (.iconst 0, 1) := by decide +kernel
theorem dM_mount_90 : decode cM_mount 90 = .ok (.iaload, 1) := by decide +kernel
theorem dM_mount_91 : decode cM_mount 91 = .ok (.isub, 1) := by decide +kernel
theorem dM_mount_92 : decode cM_mount 92 = .ok (.sipush 256, 3) := by decide +kernel
theorem dM_mount_95 : decode cM_mount 95 = .ok (.iadd, 1) := by decide +kernel
theorem dM_mount_96 : decode cM_mount 96 = .ok (.sipush 256, 3) := by decide +kernel
theorem dM_mount_99 : decode cM_mount 99 = .ok (.irem, 1) := by decide +kernel
theorem dM_mount_100 : decode cM_mount 100 = .ok (.istore 4, 2) := by decide +kernel
theorem dM_mount_102 : decode cM_mount 102 = .ok (.aload_n 0, 1) := by decide +kernel
theorem dM_mount_103 : decode cM_mount 103 = .ok (.iload_n 3, 1) := by decide +kernel
theorem dM_mount_104 : decode cM_mount 104 = .ok (.ifCond .eq 23, 3) := by decide +kernel
theorem dM_mount_107 : decode cM_mount 107 = .ok (.iload_n 1, 1) := by decide +kernel
theorem dM_mount_108 : decode cM_mount 108 = .ok (.ifCond .eq 15, 3) := by decide +kernel
theorem dM_mount_111 : decode cM_mount 111 = .ok (.iload 4, 2) := by decide +kernel
theorem dM_mount_113 : decode cM_mount 113 = .ok (.ifCond .eq 10, 3) := by decide +kernel
theorem dM_mount_116 : decode cM_mount 116 = .ok (.iload 4, 2) := by decide +kernel
theorem dM_mount_118 : decode cM_mount 118 = .ok (.bipush 127, 2) := by decide +kernel
theorem dM_mount_120 : decode cM_mount 120 = .ok (.if_icmp .le 7, 3) := by decide +kernel
theorem dM_mount_123 : decode cM_mount 123 = .ok (.iconst 0, 1) := by decide +kernel
theorem dM_mount_124 : decode cM_mount 124 = .ok (.goto 4, 3) := by decide +kernel
theorem dM_mount_127 : decode cM_mount 127 = .ok (.iconst 1, 1) := by decide +kernel
theorem dM_mount_128 : decode cM_mount 128 = .ok (.putfield 110, 3) := by decide +kernel
theorem dM_mount_131 : decode cM_mount 131 = .ok (.aload_n 0, 1) := by decide +kernel
theorem dM_mount_132 : decode cM_mount 132 = .ok (.aload_n 0, 1) := by decide +kernel
theorem dM_mount_133 : decode cM_mount 133 = .ok (.getfield 110, 3) := by decide +kernel
theorem dM_mount_136 : decode cM_mount 136 = .ok (.invokevirtual 153, 3) := by decide +kernel
theorem dM_mount_139 : decode cM_mount 139 = .ok (.aload_n 0, 1) := by decide +kernel
theorem dM_mount_140 : decode cM_mount 140 = .ok (.aload_n 0, 1) := by decide +kernel
theorem dM_mount_141 : decode cM_mount 141 = .ok (.getfield 47, 3) := by decide +kernel
theorem dM_mount_144 : decode cM_mount 144 = .ok (.iconst 0, 1) := by decide +kernel
theorem dM_mount_145 : decode cM_mount 145 = .ok (.iaload, 1) := by decide +kernel
theorem dM_mount_146 : decode cM_mount 146 = .ok (.putfield 113, 3) := by decide +kernel
theorem dM_mount_149 : decode cM_mount 149 = .ok (.iconst 0, 1) := by decide +kernel
theorem dM_mount_150 : decode cM_mount 150 = .ok (.istore 5, 2) := by decide +kernel
theorem dM_mount_152 : decode cM_mount 152 = .ok (.iload 5, 2) := by decide +kernel
theorem dM_mount_154 : decode cM_mount 154 = .ok (.bipush 8, 2) := by decide +kernel
theorem dM_mount_156 : decode cM_mount 156 = .ok (.if_icmp .ge 123, 3) := by decide +kernel
theorem dM_mount_159 : decode cM_mount 159 = .ok (.aload_n 0, 1) := by decide +kernel
theorem dM_mount_160 : decode cM_mount 160 = .ok (.getfield 25, 3) := by decide +kernel
theorem dM_mount_163 : decode cM_mount 163 = .ok (.iload 5, 2) := by decide +kernel
theorem dM_mount_165 : decode cM_mount 165 = .ok (.aload_n 0, 1) := by decide +kernel
theorem dM_mount_166 : decode cM_mount 166 = .ok (.iconst 1, 1) := by decide +kernel
theorem dM_mount_167 : decode cM_mount 167 = .ok (.bipush 7, 2) := by decide +kernel
theorem dM_mount_169 : decode cM_mount 169 = .ok (.iload 5, 2) := by decide +kernel
theorem dM_mount_171 : decode cM_mount 171 = .ok (.imul, 1) := by decide +kernel
theorem dM_mount_172 : decode cM_mount 172 = .ok (.iadd, 1) := by decide +kernel
theorem dM_mount_173 : decode cM_mount 173 = .ok (.iconst 4, 1) := by decide +kernel
theorem dM_mount_174 : decode cM_mount 174 = .ok (.invokevirtual 149, 3) := by decide +kernel
theorem dM_mount_177 : decode cM_mount 177 = .ok (.iastore, 1) := by decide +kernel
theorem dM_mount_178 : decode cM_mount 178 = .ok (.aload_n 0, 1) := by decide +kernel
theorem dM_mount_179 : decode cM_mount 179 = .ok (.getfield 29, 3) := by decide +kernel
theorem dM_mount_182 : decode cM_mount 182 = .ok (.iload 5, 2) := by decide +kernel
theorem dM_mount_184 : decode cM_mount 184 = .ok (.aload_n 0, 1) := by decide +kernel
theorem dM_mount_185 : decode cM_mount 185 = .ok (.getfield 25, 3) := by decide +kernel
theorem dM_mount_188 : decode cM_mount 188 = .ok (.iload 5, 2) := by decide +kernel
theorem dM_mount_190 : decode cM_mount 190 = .ok (.iaload, 1) := by decide +kernel
theorem dM_mount_191 : decode cM_mount 191 = .ok (.ifCond .ne 7, 3) := by decide +kernel
theorem dM_mount_194 : decode cM_mount 194 = .ok (.iconst 0, 1) := by decide +kernel
theorem dM_mount_195 : decode cM_mount 195 = .ok (.goto 16, 3) := by decide +kernel
theorem dM_mount_198 : decode cM_mount 198 = .ok (.aload_n 0, 1) := by decide +kernel
theorem dM_mount_199 : decode cM_mount 199 = .ok (.bipush 6, 2) := by decide +kernel
theorem dM_mount_201 : decode cM_mount 201 = .ok (.bipush 7, 2) := by decide +kernel
theorem dM_mount_203 : decode cM_mount 203 = .ok (.iload 5, 2) := by decide +kernel
theorem dM_mount_205 : decode cM_mount 205 = .ok (.imul, 1) := by decide +kernel
theorem dM_mount_206 : decode cM_mount 206 = .ok (.iadd, 1) := by decide +kernel
theorem dM_mount_207 : decode cM_mount 207 = .ok (.iconst 2, 1) := by decide +kernel
theorem dM_mount_208 : decode cM_mount 208 = .ok (.invokevirtual 149, 3) := by decide +kernel
theorem dM_mount_211 : decode cM_mount 211 = .ok (.iastore, 1) := by decide +kernel
theorem dM_mount_212 : decode cM_mount 212 = .ok (.aload_n 0, 1) := by decide +kernel
theorem dM_mount_213 : decode cM_mount 213 = .ok (.getfield 47, 3) := by decide +kernel
theorem dM_mount_216 : decode cM_mount 216 = .ok (.iconst 5, 1) := by decide +kernel
theorem dM_mount_217 : decode cM_mount 217 = .ok (.bipush 7, 2) := by decide +kernel
theorem dM_mount_219 : decode cM_mount 219 = .ok (.iload 5, 2) := by decide +kernel
theorem dM_mount_221 : decode cM_mount 221 = .ok (.imul, 1) := by decide +kernel
theorem dM_mount_222 : decode cM_mount 222 = .ok (.iadd, 1) := by decide +kernel
theorem dM_mount_223 : decode cM_mount 223 = .ok (.iaload, 1) := by decide +kernel
theorem dM_mount_224 : decode cM_mount 224 = .ok (.istore 6, 2) := by decide +kernel
theorem dM_mount_226 : decode cM_mount 226 = .ok (.iconst 0, 1) := by decide +kernel
theorem dM_mount_227 : decode cM_mount 227 = .ok (.istore 7, 2) := by decide +kernel
theorem dM_mount_229 : decode cM_mount 229 = .ok (.iload 7, 2) := by decide +kernel
theorem dM_mount_231 : decode cM_mount 231 = .ok (.aload_n 0, 1) := by decide +kernel
theorem dM_mount_232 : decode cM_mount 232 = .ok (.iload 5, 2) := by decide +kernel
theorem dM_mount_234 : decode cM_mount 234 = .ok (.invokevirtual 122, 3) := by decide +kernel
theorem dM_mount_237 : decode cM_mount 237 = .ok (.if_icmp .ge 36, 3) := by decide +kernel
theorem dM_mount_240 : decode cM_mount 240 = .ok (.aload_n 0, 1) := by decide +kernel
theorem dM_mount_241 : decode cM_mount 241 = .ok (.getfield 32, 3) := by decide +kernel
theorem dM_mount_244 : decode cM_mount 244 = .ok (.bipush 64, 2) := by decide +kernel
theorem dM_mount_246 : decode cM_mount 246 = .ok (.iload 5, 2) := by decide +kernel
theorem dM_mount_248 : decode cM_mount 248 = .ok (.imul, 1) := by decide +kernel
theorem dM_mount_249 : decode cM_mount 249 = .ok (.iload 7, 2) := by decide +kernel
theorem dM_mount_251 : decode cM_mount 251 = .ok (.iadd, 1) := by decide +kernel
theorem dM_mount_252 : decode cM_mount 252 = .ok (.iload 6, 2) := by decide +kernel
theorem dM_mount_254 : decode cM_mount 254 = .ok (.iastore, 1) := by decide +kernel
theorem dM_mount_255 : decode cM_mount 255 = .ok (.aload_n 0, 1) := by decide +kernel
theorem dM_mount_256 : decode cM_mount 256 = .ok (.getfield 47, 3) := by decide +kernel
theorem dM_mount_259 : decode cM_mount 259 = .ok (.bipush 57, 2) := by decide +kernel
theorem dM_mount_261 : decode cM_mount 261 = .ok (.iload 6, 2) := by decide +kernel
theorem dM_mount_263 : decode cM_mount 263 = .ok (.iadd, 1) := by decide +kernel
theorem dM_mount_264 : decode cM_mount 264 = .ok (.iaload, 1) := by decide +kernel
theorem dM_mount_265 : decode cM_mount 265 = .ok (.istore 6, 2) := by decide +kernel
theorem dM_mount_267 : decode cM_mount 267 = .ok (.iinc 7 1, 3) := by decide +kernel
theorem dM_mount_270 : decode cM_mount 270 = .ok (.goto (-41), 3) := by decide +kernel
theorem dM_mount_273 : decode cM_mount 273 = .ok (.iinc 5 1, 3) := by decide +kernel
theorem dM_mount_276 : decode cM_mount 276 = .ok (.goto (-124), 3) := by decide +kernel
theorem dM_mount_279 : decode cM_mount 279 = .ok (.aload_n 0, 1) := by decide +kernel
theorem dM_mount_280 : decode cM_mount 280 = .ok (.invokevirtual 143, 3) := by decide +kernel
theorem dM_mount_283 : decode cM_mount 283 = .ok (.aload_n 0, 1) := by decide +kernel
theorem dM_mount_284 : decode cM_mount 284 = .ok (.iconst 1, 1) := by decide +kernel
theorem dM_mount_285 : decode cM_mount 285 = .ok (.putfield 77, 3) := by decide +kernel
theorem dM_mount_288 : decode cM_mount 288 = .ok (.iconst 1, 1) := by decide +kernel
theorem dM_mount_289 : decode cM_mount 289 = .ok (.ireturn, 1) := by decide +kernel
theorem dM_isReady_0 : decode cM_isReady 0 = .ok (.aload_n 0, 1) := by decide +kernel
theorem dM_isReady_1 : decode cM_isReady 1 = .ok (.getfield 21, 3) := by decide +kernel
theorem dM_isReady_4 : decode cM_isReady 4 = .ok (.ifCond .eq 14, 3) := by decide +kernel
theorem dM_isReady_7 : decode cM_isReady 7 = .ok (.aload_n 0, 1) := by decide +kernel
theorem dM_isReady_8 : decode cM_isReady 8 = .ok (.getfield 77, 3) := by decide +kernel
theorem dM_isReady_11 : decode cM_isReady 11 = .ok (.ifCond .eq 7, 3) := by decide +kernel
theorem dM_isReady_14 : decode cM_isReady 14 = .ok (.iconst 1, 1) := by decide +kernel
theorem dM_isReady_15 : decode cM_isReady 15 = .ok (.goto 4, 3) := by decide +kernel
theorem dM_isReady_18 : decode cM_isReady 18 = .ok (.iconst 0, 1) := by decide +kernel
theorem dM_isReady_19 : decode cM_isReady 19 = .ok (.ireturn, 1) := by decide +kernel
theorem dM_isFile_0 : decode cM_isFile 0 = .ok (.iload_n 1, 1) := by decide +kernel
theorem dM_isFile_1 : decode cM_isFile 1 = .ok (.ifCond .lt 22, 3) := by decide +kernel
theorem dM_isFile_4 : decode cM_isFile 4 = .ok (.iload_n 1, 1) := by decide +kernel
theorem dM_isFile_5 : decode cM_isFile 5 = .ok (.bipush 8, 2) := by decide +kernel
theorem dM_isFile_7 : decode cM_isFile 7 = .ok (.if_icmp .ge 16, 3) := by decide +kernel
theorem dM_isFile_10 : decode cM_isFile 10 = .ok (.aload_n 0, 1) := by decide +kernel
theorem dM_isFile_11 : decode cM_isFile 11 = .ok (.getfield 25, 3) := by decide +kernel
theorem dM_isFile_14 : decode cM_isFile 14 = .ok (.iload_n 1, 1) := by decide +kernel
theorem dM_isFile_15 : decode cM_isFile 15 = .ok (.iaload, 1) := by decide +kernel
theorem dM_isFile_16 : decode cM_isFile 16 = .ok (.ifCond .eq 7, 3) := by decide +kernel
theorem dM_isFile_19 : decode cM_isFile 19 = .ok (.iconst 1, 1) := by decide +kernel
theorem dM_isFile_20 : decode cM_isFile 20 = .ok (.goto 4, 3) := by decide +kernel
theorem dM_isFile_23 : decode cM_isFile 23 = .ok (.iconst 0, 1) := by decide +kernel
theorem dM_isFile_24 : decode cM_isFile 24 = .ok (.ireturn, 1) := by decide +kernel
theorem dM_numberOf_0 : decode cM_numberOf 0 = .ok (.iconst (-1), 1) := by decide +kernel
theorem dM_numberOf_1 : decode cM_numberOf 1 = .ok (.istore_n 2, 1) := by decide +kernel
theorem dM_numberOf_2 : decode cM_numberOf 2 = .ok (.bipush 7, 2) := by decide +kernel
theorem dM_numberOf_4 : decode cM_numberOf 4 = .ok (.istore_n 3, 1) := by decide +kernel
theorem dM_numberOf_5 : decode cM_numberOf 5 = .ok (.iload_n 3, 1) := by decide +kernel
theorem dM_numberOf_6 : decode cM_numberOf 6 = .ok (.ifCond .lt 34, 3) := by decide +kernel
theorem dM_numberOf_9 : decode cM_numberOf 9 = .ok (.aload_n 0, 1) := by decide +kernel
theorem dM_numberOf_10 : decode cM_numberOf 10 = .ok (.getfield 25, 3) := by decide +kernel
theorem dM_numberOf_13 : decode cM_numberOf 13 = .ok (.iload_n 3, 1) := by decide +kernel
theorem dM_numberOf_14 : decode cM_numberOf 14 = .ok (.iaload, 1) := by decide +kernel
theorem dM_numberOf_15 : decode cM_numberOf 15 = .ok (.ifCond .eq 17, 3) := by decide +kernel
theorem dM_numberOf_18 : decode cM_numberOf 18 = .ok (.aload_n 0, 1) := by decide +kernel
theorem dM_numberOf_19 : decode cM_numberOf 19 = .ok (.getfield 25, 3) := by decide +kernel
theorem dM_numberOf_22 : decode cM_numberOf 22 = .ok (.iload_n 3, 1) := by decide +kernel
theorem dM_numberOf_23 : decode cM_numberOf 23 = .ok (.iaload, 1) := by decide +kernel
theorem dM_numberOf_24 : decode cM_numberOf 24 = .ok (.iload_n 1, 1) := by decide +kernel
theorem dM_numberOf_25 : decode cM_numberOf 25 = .ok (.if_icmp .ne 7, 3) := by decide +kernel
theorem dM_numberOf_28 : decode cM_numberOf 28 = .ok (.iload_n 3, 1) := by decide +kernel
theorem dM_numberOf_29 : decode cM_numberOf 29 = .ok (.goto 4, 3) := by decide +kernel
theorem dM_numberOf_32 : decode cM_numberOf 32 = .ok (.iload_n 2, 1) := by decide +kernel
theorem dM_numberOf_33 : decode cM_numberOf 33 = .ok (.istore_n 2, 1) := by decide +kernel
theorem dM_numberOf_34 : decode cM_numberOf 34 = .ok (.iinc 3 (-1), 3) := by decide +kernel
theorem dM_numberOf_37 : decode cM_numberOf 37 = .ok (.goto (-32), 3) := by decide +kernel
theorem dM_numberOf_40 : decode cM_numberOf 40 = .ok (.iload_n 2, 1) := by decide +kernel
theorem dM_numberOf_41 : decode cM_numberOf 41 = .ok (.ireturn, 1) := by decide +kernel
theorem dM_create_0 : decode cM_create 0 = .ok (.aload_n 0, 1) := by decide +kernel
theorem dM_create_1 : decode cM_create 1 = .ok (.aload_n 0, 1) := by decide +kernel
theorem dM_create_2 : decode cM_create 2 = .ok (.invokevirtual 160, 3) := by decide +kernel
theorem dM_create_5 : decode cM_create 5 = .ok (.ifCond .ne 7, 3) := by decide +kernel
theorem dM_create_8 : decode cM_create 8 = .ok (.iconst 1, 1) := by decide +kernel
theorem dM_create_9 : decode cM_create 9 = .ok (.goto 20, 3) := by decide +kernel
theorem dM_create_12 : decode cM_create 12 = .ok (.iload_n 1, 1) := by decide +kernel
theorem dM_create_13 : decode cM_create 13 = .ok (.ifCond .eq 11, 3) := by decide +kernel
theorem dM_create_16 : decode cM_create 16 = .ok (.aload_n 0, 1) := by decide +kernel
theorem dM_create_17 : decode cM_create 17 = .ok (.iload_n 1, 1) := by decide +kernel
theorem dM_create_18 : decode cM_create 18 = .ok (.invokevirtual 163, 3) := by decide +kernel
theorem dM_create_21 : decode cM_create 21 = .ok (.ifCond .lt 7, 3) := by decide +kernel
theorem dM_create_24 : decode cM_create 24 = .ok (.iconst 2, 1) := by decide +kernel
theorem dM_create_25 : decode cM_create 25 = .ok (.goto 4, 3) := by decide +kernel
theorem dM_create_28 : decode cM_create 28 = .ok (.iconst 0, 1) := by decide +kernel
theorem dM_create_29 : decode cM_create 29 = .ok (.putfield 71, 3) := by decide +kernel
theorem dM_create_32 : decode cM_create 32 = .ok (.iconst 0, 1) := by decide +kernel
theorem dM_create_33 : decode cM_create 33 = .ok (.istore_n 2, 1) := by decide +kernel
theorem dM_create_34 : decode cM_create 34 = .ok (.iload_n 2, 1) := by decide +kernel
theorem dM_create_35 : decode cM_create 35 = .ok (.bipush 8, 2) := by decide +kernel
theorem dM_create_37 : decode cM_create 37 = .ok (.if_icmp .ge 18, 3) := by decide +kernel
theorem dM_create_40 : decode cM_create 40 = .ok (.aload_n 0, 1) := by decide +kernel
theorem dM_create_41 : decode cM_create 41 = .ok (.getfield 25, 3) := by decide +kernel
theorem dM_create_44 : decode cM_create 44 = .ok (.iload_n 2, 1) := by decide +kernel
theorem dM_create_45 : decode cM_create 45 = .ok (.iaload, 1) := by decide +kernel
theorem dM_create_46 : decode cM_create 46 = .ok (.ifCond .eq 9, 3) := by decide +kernel
theorem dM_create_49 : decode cM_create 49 = .ok (.iinc 2 1, 3) := by decide +kernel
theorem dM_create_52 : decode cM_create 52 = .ok (.goto (-18), 3) := by decide +kernel
theorem dM_create_55 : decode cM_create 55 = .ok (.aload_n 0, 1) := by decide +kernel
theorem dM_create_56 : decode cM_create 56 = .ok (.aload_n 0, 1) := by decide +kernel
theorem dM_create_57 : decode cM_create 57 = .ok (.getfield 71, 3) := by decide +kernel
theorem dM_create_60 : decode cM_create 60 = .ok (.ifCond .ne 13, 3) := by decide +kernel
theorem dM_create_63 : decode cM_create 63 = .ok (.iload_n 2, 1) := by decide +kernel
theorem dM_create_64 : decode cM_create 64 = .ok (.bipush 8, 2) := by decide +kernel
theorem dM_create_66 : decode cM_create 66 = .ok (.if_icmp .ne 7, 3) := by decide +kernel
theorem dM_create_69 : decode cM_create 69 = .ok (.iconst 3, 1) := by decide +kernel
theorem dM_create_70 : decode cM_create 70 = .ok (.goto 7, 3) := by decide +kernel
theorem dM_create_73 : decode cM_create 73 = .ok (.aload_n 0, 1) := by decide +kernel
theorem dM_create_74 : decode cM_create 74 = .ok (.getfield 71, 3) := by decide +kernel
theorem dM_create_77 : decode cM_create 77 = .ok (.putfield 71, 3) := by decide +kernel
theorem dM_create_80 : decode cM_create 80 = .ok (.aload_n 0, 1) := by decide +kernel
theorem dM_create_81 : decode cM_create 81 = .ok (.getfield 71, 3) := by decide +kernel
theorem dM_create_84 : decode cM_create 84 = .ok (.ifCond .le 5, 3) := by decide +kernel
theorem dM_create_87 : decode cM_create 87 = .ok (.iconst 0, 1) := by decide +kernel
theorem dM_create_88 : decode cM_create 88 = .ok (.ireturn, 1) := by decide +kernel
theorem dM_create_89 : decode cM_create 89 = .ok (.aload_n 0, 1) := by decide +kernel
theorem dM_create_90 : decode cM_create 90 = .ok (.iload_n 2, 1) := by decide +kernel
theorem dM_create_91 : decode cM_create 91 = .ok (.invokevirtual 99, 3) := by decide +kernel
theorem dM_create_94 : decode cM_create 94 = .ok (.aload_n 0, 1) := by decide +kernel
theorem dM_create_95 : decode cM_create 95 = .ok (.getfield 25, 3) := by decide +kernel
theorem dM_create_98 : decode cM_create 98 = .ok (.iload_n 2, 1) := by decide +kernel
theorem dM_create_99 : decode cM_create 99 = .ok (.iload_n 1, 1) := by decide +kernel
theorem dM_create_100 : decode cM_create 100 = .ok (.iastore, 1) := by decide +kernel
theorem dM_create_101 : decode cM_create 101 = .ok (.iload_n 2, 1) := by decide +kernel
theorem dM_create_102 : decode cM_create 102 = .ok (.ireturn, 1) := by decide +kernel
theorem dM_find_0 : decode cM_find 0 = .ok (.aload_n 0, 1) := by decide +kernel
theorem dM_find_1 : decode cM_find 1 = .ok (.aload_n 0, 1) := by decide +kernel
theorem dM_find_2 : decode cM_find 2 = .ok (.invokevirtual 160, 3) := by decide +kernel
theorem dM_find_5 : decode cM_find 5 = .ok (.ifCond .eq 7, 3) := by decide +kernel
theorem dM_find_8 : decode cM_find 8 = .ok (.iconst 0, 1) := by decide +kernel
theorem dM_find_9 : decode cM_find 9 = .ok (.goto 4, 3) := by decide +kernel
theorem dM_find_12 : decode cM_find 12 = .ok (.iconst 1, 1) := by decide +kernel
theorem dM_find_13 : decode cM_find 13 = .ok (.putfield 71, 3) := by decide +kernel
theorem dM_find_16 : decode cM_find 16 = .ok (.aload_n 0, 1) := by decide +kernel
theorem dM_find_17 : decode cM_find 17 = .ok (.getfield 71, 3) := by decide +kernel
theorem dM_find_20 : decode cM_find 20 = .ok (.ifCond .le 7, 3) := by decide +kernel
theorem dM_find_23 : decode cM_find 23 = .ok (.iconst 0, 1) := by decide +kernel
theorem dM_find_24 : decode cM_find 24 = .ok (.goto 8, 3) := by decide +kernel
theorem dM_find_27 : decode cM_find 27 = .ok (.aload_n 0, 1) := by decide +kernel
theorem dM_find_28 : decode cM_find 28 = .ok (.iload_n 1, 1) := by decide +kernel
theorem dM_find_29 : decode cM_find 29 = .ok (.invokevirtual 163, 3) := by decide +kernel
theorem dM_find_32 : decode cM_find 32 = .ok (.ireturn, 1) := by decide +kernel
theorem dM_length_0 : decode cM_length 0 = .ok (.aload_n 0, 1) := by decide +kernel
theorem dM_length_1 : decode cM_length 1 = .ok (.aload_n 0, 1) := by decide +kernel
theorem dM_length_2 : decode cM_length 2 = .ok (.invokevirtual 160, 3) := by decide +kernel
theorem dM_length_5 : decode cM_length 5 = .ok (.ifCond .ne 7, 3) := by decide +kernel
theorem dM_length_8 : decode cM_length 8 = .ok (.iconst 1, 1) := by decide +kernel
theorem dM_length_9 : decode cM_length 9 = .ok (.goto 16, 3) := by decide +kernel
theorem dM_length_12 : decode cM_length 12 = .ok (.aload_n 0, 1) := by decide +kernel
theorem dM_length_13 : decode cM_length 13 = .ok (.iload_n 1, 1) := by decide +kernel
theorem dM_length_14 : decode cM_length 14 = .ok (.invokevirtual 166, 3) := by decide +kernel
theorem dM_length_17 : decode cM_length 17 = .ok (.ifCond .eq 7, 3) := by decide +kernel
theorem dM_length_20 : decode cM_length 20 = .ok (.iconst 0, 1) := by decide +kernel
theorem dM_length_21 : decode cM_length 21 = .ok (.goto 4, 3) := by decide +kernel
theorem dM_length_24 : decode cM_length 24 = .ok (.iconst 2, 1) := by decide +kernel
theorem dM_length_25 : decode cM_length 25 = .ok (.putfield 71, 3) := by decide +kernel
theorem dM_length_28 : decode cM_length 28 = .ok (.aload_n 0, 1) := by decide +kernel
theorem dM_length_29 : decode cM_length 29 = .ok (.getfield 71, 3) := by decide +kernel
theorem dM_length_32 : decode cM_length 32 = .ok (.ifCond .le 7, 3) := by decide +kernel
theorem dM_length_35 : decode cM_length 35 = .ok (.iconst 0, 1) := by decide +kernel
theorem dM_length_36 : decode cM_length 36 = .ok (.goto 9, 3) := by decide +kernel
theorem dM_length_39 : decode cM_length 39 = .ok (.aload_n 0, 1) := by decide +kernel
theorem dM_length_40 : decode cM_length 40 = .ok (.getfield 29, 3) := by decide +kernel
theorem dM_length_43 : decode cM_length 43 = .ok (.iload_n 1, 1) := by decide +kernel
theorem dM_length_44 : decode cM_length 44 = .ok (.iaload, 1) := by decide +kernel
theorem dM_length_45 : decode cM_length 45 = .ok (.ireturn, 1) := by decide +kernel
theorem dM_save_0 : decode cM_save 0 = .ok (.aload_n 0, 1) := by decide +kernel
theorem dM_save_1 : decode cM_save 1 = .ok (.getfield 41, 3) := by decide +kernel
theorem dM_save_4 : decode cM_save 4 = .ok (.iload_n 1, 1) := by decide +kernel
theorem dM_save_5 : decode cM_save 5 = .ok (.baload, 1) := by decide +kernel
theorem dM_save_6 : decode cM_save 6 = .ok (.ifCond .eq 26, 3) := by decide +kernel
theorem dM_save_9 : decode cM_save 9 = .ok (.aload_n 0, 1) := by decide +kernel
theorem dM_save_10 : decode cM_save 10 = .ok (.aload_n 0, 1) := by decide +kernel
theorem dM_save_11 : decode cM_save 11 = .ok (.getfield 35, 3) := by decide +kernel
theorem dM_save_14 : decode cM_save 14 = .ok (.iload_n 1, 1) := by decide +kernel
theorem dM_save_15 : decode cM_save 15 = .ok (.iaload, 1) := by decide +kernel
theorem dM_save_16 : decode cM_save 16 = .ok (.aload_n 0, 1) := by decide +kernel
theorem dM_save_17 : decode cM_save 17 = .ok (.getfield 38, 3) := by decide +kernel
theorem dM_save_20 : decode cM_save 20 = .ok (.iload_n 1, 1) := by decide +kernel
theorem dM_save_21 : decode cM_save 21 = .ok (.laload, 1) := by decide +kernel
theorem dM_save_22 : decode cM_save 22 = .ok (.invokevirtual 139, 3) := by decide +kernel
theorem dM_save_25 : decode cM_save 25 = .ok (.aload_n 0, 1) := by decide +kernel
theorem dM_save_26 : decode cM_save 26 = .ok (.getfield 41, 3) := by decide +kernel
theorem dM_save_29 : decode cM_save 29 = .ok (.iload_n 1, 1) := by decide +kernel
theorem dM_save_30 : decode cM_save 30 = .ok (.iconst 0, 1) := by decide +kernel
theorem dM_save_31 : decode cM_save 31 = .ok (.bastore, 1) := by decide +kernel
theorem dM_save_32 : decode cM_save 32 = .ok (.return_, 1) := by decide +kernel
theorem dM_load_0 : decode cM_load 0 = .ok (.aload_n 0, 1) := by decide +kernel
theorem dM_load_1 : decode cM_load 1 = .ok (.getfield 35, 3) := by decide +kernel
theorem dM_load_4 : decode cM_load 4 = .ok (.iload_n 1, 1) := by decide +kernel
theorem dM_load_5 : decode cM_load 5 = .ok (.iaload, 1) := by decide +kernel
theorem dM_load_6 : decode cM_load 6 = .ok (.iload_n 2, 1) := by decide +kernel
theorem dM_load_7 : decode cM_load 7 = .ok (.if_icmp .eq 26, 3) := by decide +kernel
theorem dM_load_10 : decode cM_load 10 = .ok (.aload_n 0, 1) := by decide +kernel
theorem dM_load_11 : decode cM_load 11 = .ok (.iload_n 1, 1) := by decide +kernel
theorem dM_load_12 : decode cM_load 12 = .ok (.invokevirtual 133, 3) := by decide +kernel
theorem dM_load_15 : decode cM_load 15 = .ok (.aload_n 0, 1) := by decide +kernel
theorem dM_load_16 : decode cM_load 16 = .ok (.getfield 38, 3) := by decide +kernel
theorem dM_load_19 : decode cM_load 19 = .ok (.iload_n 1, 1) := by decide +kernel
theorem dM_load_20 : decode cM_load 20 = .ok (.aload_n 0, 1) := by decide +kernel
theorem dM_load_21 : decode cM_load 21 = .ok (.iload_n 2, 1) := by decide +kernel
theorem dM_load_22 : decode cM_load 22 = .ok (.invokevirtual 169, 3) := by decide +kernel
theorem dM_load_25 : decode cM_load 25 = .ok (.lastore, 1) := by decide +kernel
theorem dM_load_26 : decode cM_load 26 = .ok (.aload_n 0, 1) := by decide +kernel
theorem dM_load_27 : decode cM_load 27 = .ok (.getfield 35, 3) := by decide +kernel
theorem dM_load_30 : decode cM_load 30 = .ok (.iload_n 1, 1) := by decide +kernel
theorem dM_load_31 : decode cM_load 31 = .ok (.iload_n 2, 1) := by decide +kernel
theorem dM_load_32 : decode cM_load 32 = .ok (.iastore, 1) := by decide +kernel
theorem dM_load_33 : decode cM_load 33 = .ok (.return_, 1) := by decide +kernel
theorem dM_isFree_0 : decode cM_isFree 0 = .ok (.iload_n 1, 1) := by decide +kernel
theorem dM_isFree_1 : decode cM_isFree 1 = .ok (.bipush 39, 2) := by decide +kernel
theorem dM_isFree_3 : decode cM_isFree 3 = .ok (.if_icmp .le 24, 3) := by decide +kernel
theorem dM_isFree_6 : decode cM_isFree 6 = .ok (.aload_n 0, 1) := by decide +kernel
theorem dM_isFree_7 : decode cM_isFree 7 = .ok (.iload_n 1, 1) := by decide +kernel
theorem dM_isFree_8 : decode cM_isFree 8 = .ok (.invokevirtual 146, 3) := by decide +kernel
theorem dM_isFree_11 : decode cM_isFree 11 = .ok (.ifCond .ne 16, 3) := by decide +kernel
theorem dM_isFree_14 : decode cM_isFree 14 = .ok (.aload_n 0, 1) := by decide +kernel
theorem dM_isFree_15 : decode cM_isFree 15 = .ok (.getfield 44, 3) := by decide +kernel
theorem dM_isFree_18 : decode cM_isFree 18 = .ok (.iload_n 1, 1) := by decide +kernel
theorem dM_isFree_19 : decode cM_isFree 19 = .ok (.baload, 1) := by decide +kernel
theorem dM_isFree_20 : decode cM_isFree 20 = .ok (.ifCond .ne 7, 3) := by decide +kernel
theorem dM_isFree_23 : decode cM_isFree 23 = .ok (.iconst 1, 1) := by decide +kernel
theorem dM_isFree_24 : decode cM_isFree 24 = .ok (.goto 4, 3) := by decide +kernel
theorem dM_isFree_27 : decode cM_isFree 27 = .ok (.iconst 0, 1) := by decide +kernel
theorem dM_isFree_28 : decode cM_isFree 28 = .ok (.ireturn, 1) := by decide +kernel
theorem dM_leastFree_0 : decode cM_leastFree 0 = .ok (.bipush 40, 2) := by decide +kernel
theorem dM_leastFree_2 : decode cM_leastFree 2 = .ok (.istore_n 1, 1) := by decide +kernel
theorem dM_leastFree_3 : decode cM_leastFree 3 = .ok (.iload_n 1, 1) := by decide +kernel
theorem dM_leastFree_4 : decode cM_leastFree 4 = .ok (.bipush 101, 2) := by decide +kernel
theorem dM_leastFree_6 : decode cM_leastFree 6 = .ok (.if_icmp .ge 19, 3) := by decide +kernel
theorem dM_leastFree_9 : decode cM_leastFree 9 = .ok (.aload_n 0, 1) := by decide +kernel
theorem dM_leastFree_10 : decode cM_leastFree 10 = .ok (.iload_n 1, 1) := by decide +kernel
theorem dM_leastFree_11 : decode cM_leastFree 11 = .ok (.invokevirtual 173, 3) := by decide +kernel
theorem dM_leastFree_14 : decode cM_leastFree 14 = .ok (.ifCond .eq 5, 3) := by decide +kernel
theorem dM_leastFree_17 : decode cM_leastFree 17 = .ok (.iload_n 1, 1) := by decide +kernel
theorem dM_leastFree_18 : decode cM_leastFree 18 = .ok (.ireturn, 1) := by decide +kernel
theorem dM_leastFree_19 : decode cM_leastFree 19 = .ok (.iinc 1 1, 3) := by decide +kernel
theorem dM_leastFree_22 : decode cM_leastFree 22 = .ok (.goto (-19), 3) := by decide +kernel
theorem dM_leastFree_25 : decode cM_leastFree 25 = .ok (.iconst (-1), 1) := by decide +kernel
theorem dM_leastFree_26 : decode cM_leastFree 26 = .ok (.ireturn, 1) := by decide +kernel
theorem dM_append_0 : decode cM_append 0 = .ok (.aload_n 0, 1) := by decide +kernel
theorem dM_append_1 : decode cM_append 1 = .ok (.aload_n 0, 1) := by decide +kernel
theorem dM_append_2 : decode cM_append 2 = .ok (.invokevirtual 160, 3) := by decide +kernel
theorem dM_append_5 : decode cM_append 5 = .ok (.ifCond .ne 7, 3) := by decide +kernel
theorem dM_append_8 : decode cM_append 8 = .ok (.iconst 1, 1) := by decide +kernel
theorem dM_append_9 : decode cM_append 9 = .ok (.goto 16, 3) := by decide +kernel
theorem dM_append_12 : decode cM_append 12 = .ok (.aload_n 0, 1) := by decide +kernel
theorem dM_append_13 : decode cM_append 13 = .ok (.iload_n 1, 1) := by decide +kernel
theorem dM_append_14 : decode cM_append 14 = .ok (.invokevirtual 166, 3) := by decide +kernel
theorem dM_append_17 : decode cM_append 17 = .ok (.ifCond .ne 7, 3) := by decide +kernel
theorem dM_append_20 : decode cM_append 20 = .ok (.iconst 2, 1) := by decide +kernel
theorem dM_append_21 : decode cM_append 21 = .ok (.goto 4, 3) := by decide +kernel
theorem dM_append_24 : decode cM_append 24 = .ok (.iconst 0, 1) := by decide +kernel
theorem dM_append_25 : decode cM_append 25 = .ok (.putfield 71, 3) := by decide +kernel
theorem dM_append_28 : decode cM_append 28 = .ok (.aload_n 0, 1) := by decide +kernel
theorem dM_append_29 : decode cM_append 29 = .ok (.getfield 71, 3) := by decide +kernel
theorem dM_append_32 : decode cM_append 32 = .ok (.ifCond .le 5, 3) := by decide +kernel
theorem dM_append_35 : decode cM_append 35 = .ok (.iconst 0, 1) := by decide +kernel
theorem dM_append_36 : decode cM_append 36 = .ok (.ireturn, 1) := by decide +kernel
theorem dM_append_37 : decode cM_append 37 = .ok (.bipush 64, 2) := by decide +kernel
theorem dM_append_39 : decode cM_append 39 = .ok (.iload_n 1, 1) := by decide +kernel
theorem dM_append_40 : decode cM_append 40 = .ok (.imul, 1) := by decide +kernel
theorem dM_append_41 : decode cM_append 41 = .ok (.aload_n 0, 1) := by decide +kernel
theorem dM_append_42 : decode cM_append 42 = .ok (.getfield 29, 3) := by decide +kernel
theorem dM_append_45 : decode cM_append 45 = .ok (.iload_n 1, 1) := by decide +kernel
theorem dM_append_46 : decode cM_append 46 = .ok (.iaload, 1) := by decide +kernel
theorem dM_append_47 : decode cM_append 47 = .ok (.bipush 8, 2) := by decide +kernel
theorem dM_append_49 : decode cM_append 49 = .ok (.idiv, 1) := by decide +kernel
theorem dM_append_50 : decode cM_append 50 = .ok (.iadd, 1) := by decide +kernel
theorem dM_append_51 : decode cM_append 51 = .ok (.istore_n 3, 1) := by decide +kernel
theorem dM_append_52 : decode cM_append 52 = .ok (.aload_n 0, 1) := by decide +kernel
theorem dM_append_53 : decode cM_append 53 = .ok (.getfield 29, 3) := by decide +kernel
theorem dM_append_56 : decode cM_append 56 = .ok (.iload_n 1, 1) := by decide +kernel
theorem dM_append_57 : decode cM_append 57 = .ok (.iaload, 1) := by decide +kernel
theorem dM_append_58 : decode cM_append 58 = .ok (.bipush 8, 2) := by decide +kernel
theorem dM_append_60 : decode cM_append 60 = .ok (.irem, 1) := by decide +kernel
theorem dM_append_61 : decode cM_append 61 = .ok (.ifCond .ne 7, 3) := by decide +kernel
theorem dM_append_64 : decode cM_append 64 = .ok (.iconst 1, 1) := by decide +kernel
theorem dM_append_65 : decode cM_append 65 = .ok (.goto 4, 3) := by decide +kernel
theorem dM_append_68 : decode cM_append 68 = .ok (.iconst 0, 1) := by decide +kernel
theorem dM_append_69 : decode cM_append 69 = .ok (.istore 4, 2) := by decide +kernel
theorem dM_append_71 : decode cM_append 71 = .ok (.iload 4, 2) := by decide +kernel
theorem dM_append_73 : decode cM_append 73 = .ok (.ifCond .ne 17, 3) := by decide +kernel
theorem dM_append_76 : decode cM_append 76 = .ok (.aload_n 0, 1) := by decide +kernel
theorem dM_append_77 : decode cM_append 77 = .ok (.getfield 44, 3) := by decide +kernel
theorem dM_append_80 : decode cM_append 80 = .ok (.aload_n 0, 1) := by decide +kernel
theorem dM_append_81 : decode cM_append 81 = .ok (.getfield 32, 3) := by decide +kernel
theorem dM_append_84 : decode cM_append 84 = .ok (.iload_n 3, 1) := by decide +kernel
theorem dM_append_85 : decode cM_append 85 = .ok (.iaload, 1) := by decide +kernel
theorem dM_append_86 : decode cM_append 86 = .ok (.baload, 1) := by decide +kernel
theorem dM_append_87 : decode cM_append 87 = .ok (.ifCond .eq 7, 3) := by decide +kernel
theorem dM_append_90 : decode cM_append 90 = .ok (.iconst 1, 1) := by decide +kernel
theorem dM_append_91 : decode cM_append 91 = .ok (.goto 4, 3) := by decide +kernel
theorem dM_append_94 : decode cM_append 94 = .ok (.iconst 0, 1) := by decide +kernel
theorem dM_append_95 : decode cM_append 95 = .ok (.istore 5, 2) := by decide +kernel
theorem dM_append_97 : decode cM_append 97 = .ok (.iload 5, 2) := by decide +kernel
theorem dM_append_99 : decode cM_append 99 = .ok (.ifCond .eq 10, 3) := by decide +kernel
theorem dM_append_102 : decode cM_append 102 = .ok (.aload_n 0, 1) := by decide +kernel
theorem dM_append_103 : decode cM_append 103 = .ok (.invokevirtual 176, 3) := by decide +kernel
theorem dM_append_106 : decode cM_append 106 = .ok (.goto 4, 3) := by decide +kernel
theorem dM_append_109 : decode cM_append 109 = .ok (.iconst (-1), 1) := by decide +kernel
theorem dM_append_110 : decode cM_append 110 = .ok (.istore 6, 2) := by decide +kernel
theorem dM_append_112 : decode cM_append 112 = .ok (.iload 5, 2) := by decide +kernel
theorem dM_append_114 : decode cM_append 114 = .ok (.ifCond .eq 15, 3) := by decide +kernel
theorem dM_append_117 : decode cM_append 117 = .ok (.iload 6, 2) := by decide +kernel
theorem dM_append_119 : decode cM_append 119 = .ok (.ifCond .ge 10, 3) := by decide +kernel
theorem dM_append_122 : decode cM_append 122 = .ok (.aload_n 0, 1) := by decide +kernel
theorem dM_append_123 : decode cM_append 123 = .ok (.iconst 3, 1) := by decide +kernel
theorem dM_append_124 : decode cM_append 124 = .ok (.putfield 71, 3) := by decide +kernel
theorem dM_append_127 : decode cM_append 127 = .ok (.iconst 0, 1) := by decide +kernel
theorem dM_append_128 : decode cM_append 128 = .ok (.ireturn, 1) := by decide +kernel
theorem dM_append_129 : decode cM_append 129 = .ok (.iload 4, 2) := by decide +kernel
theorem dM_append_131 : decode cM_append 131 = .ok (.ifCond .eq 18, 3) := by decide +kernel
theorem dM_append_134 : decode cM_append 134 = .ok (.aload_n 0, 1) := by decide +kernel
theorem dM_append_135 : decode cM_append 135 = .ok (.iload_n 1, 1) := by decide +kernel
theorem dM_append_136 : decode cM_append 136 = .ok (.invokevirtual 133, 3) := by decide +kernel
theorem dM_append_139 : decode cM_append 139 = .ok (.aload_n 0, 1) := by decide +kernel
theorem dM_append_140 : decode cM_append 140 = .ok (.getfield 38, 3) := by decide +kernel
theorem dM_append_143 : decode cM_append 143 = .ok (.iload_n 1, 1) := by decide +kernel
theorem dM_append_144 : decode cM_append 144 = .ok (.lconst 0, 1) := by decide +kernel
theorem dM_append_145 : decode cM_append 145 = .ok (.lastore, 1) := by decide +kernel
theorem dM_append_146 : decode cM_append 146 = .ok (.goto 14, 3) := by decide +kernel
theorem dM_append_149 : decode cM_append 149 = .ok (.aload_n 0, 1) := by decide +kernel
theorem dM_append_150 : decode cM_append 150 = .ok (.iload_n 1, 1) := by decide +kernel
theorem dM_append_151 : decode cM_append 151 = .ok (.aload_n 0, 1) := by decide +kernel
theorem dM_append_152 : decode cM_append 152 = .ok (.getfield 32, 3) := by decide +kernel
theorem dM_append_155 : decode cM_append 155 = .ok (.iload_n 3, 1) := by decide +kernel
theorem dM_append_156 : decode cM_append 156 = .ok (.iaload, 1) := by decide +kernel
theorem dM_append_157 : decode cM_append 157 = .ok (.invokevirtual 179, 3) := by decide +kernel
theorem dM_append_160 : decode cM_append 160 = .ok (.aload_n 0, 1) := by decide +kernel
theorem dM_append_161 : decode cM_append 161 = .ok (.aload_n 0, 1) := by decide +kernel
theorem dM_append_162 : decode cM_append 162 = .ok (.getfield 21, 3) := by decide +kernel
theorem dM_append_165 : decode cM_append 165 = .ok (.ifCond .eq 7, 3) := by decide +kernel
theorem dM_append_168 : decode cM_append 168 = .ok (.iconst 0, 1) := by decide +kernel
theorem dM_append_169 : decode cM_append 169 = .ok (.goto 4, 3) := by decide +kernel
theorem dM_append_172 : decode cM_append 172 = .ok (.iconst 1, 1) := by decide +kernel
theorem dM_append_173 : decode cM_append 173 = .ok (.putfield 71, 3) := by decide +kernel
theorem dM_append_176 : decode cM_append 176 = .ok (.aload_n 0, 1) := by decide +kernel
theorem dM_append_177 : decode cM_append 177 = .ok (.getfield 71, 3) := by decide +kernel
theorem dM_append_180 : decode cM_append 180 = .ok (.ifCond .le 5, 3) := by decide +kernel
theorem dM_append_183 : decode cM_append 183 = .ok (.iconst 0, 1) := by decide +kernel
theorem dM_append_184 : decode cM_append 184 = .ok (.ireturn, 1) := by decide +kernel
theorem dM_append_185 : decode cM_append 185 = .ok (.iload 5, 2) := by decide +kernel
theorem dM_append_187 : decode cM_append 187 = .ok (.ifCond .eq 19, 3) := by decide +kernel
theorem dM_append_190 : decode cM_append 190 = .ok (.aload_n 0, 1) := by decide +kernel
theorem dM_append_191 : decode cM_append 191 = .ok (.getfield 32, 3) := by decide +kernel
theorem dM_append_194 : decode cM_append 194 = .ok (.iload_n 3, 1) := by decide +kernel
theorem dM_append_195 : decode cM_append 195 = .ok (.iload 6, 2) := by decide +kernel
theorem dM_append_197 : decode cM_append 197 = .ok (.iastore, 1) := by decide +kernel
theorem dM_append_198 : decode cM_append 198 = .ok (.aload_n 0, 1) := by decide +kernel
theorem dM_append_199 : decode cM_append 199 = .ok (.getfield 35, 3) := by decide +kernel
theorem dM_append_202 : decode cM_append 202 = .ok (.iload_n 1, 1) := by decide +kernel
theorem dM_append_203 : decode cM_append 203 = .ok (.iload 6, 2) := by decide +kernel
theorem dM_append_205 : decode cM_append 205 = .ok (.iastore, 1) := by decide +kernel
theorem dM_append_206 : decode cM_append 206 = .ok (.bipush 8, 2) := by decide +kernel
theorem dM_append_208 : decode cM_append 208 = .ok (.aload_n 0, 1) := by decide +kernel
theorem dM_append_209 : decode cM_append 209 = .ok (.getfield 29, 3) := by decide +kernel
theorem dM_append_212 : decode cM_append 212 = .ok (.iload_n 1, 1) := by decide +kernel
theorem dM_append_213 : decode cM_append 213 = .ok (.iaload, 1) := by decide +kernel
theorem dM_append_214 : decode cM_append 214 = .ok (.bipush 8, 2) := by decide +kernel
theorem dM_append_216 : decode cM_append 216 = .ok (.irem, 1) := by decide +kernel
theorem dM_append_217 : decode cM_append 217 = .ok (.imul, 1) := by decide +kernel
theorem dM_append_218 : decode cM_append 218 = .ok (.istore 7, 2) := by decide +kernel
theorem dM_append_220 : decode cM_append 220 = .ok (.aload_n 0, 1) := by decide +kernel
theorem dM_append_221 : decode cM_append 221 = .ok (.getfield 38, 3) := by decide +kernel
theorem dM_append_224 : decode cM_append 224 = .ok (.iload_n 1, 1) := by decide +kernel
theorem dM_append_225 : decode cM_append 225 = .ok (.aload_n 0, 1) := by decide +kernel
theorem dM_append_226 : decode cM_append 226 = .ok (.getfield 38, 3) := by decide +kernel
theorem dM_append_229 : decode cM_append 229 = .ok (.iload_n 1, 1) := by decide +kernel
theorem dM_append_230 : decode cM_append 230 = .ok (.laload, 1) := by decide +kernel
theorem dM_append_231 : decode cM_append 231 = .ok (.ldc2_w 119, 3) := by decide +kernel
theorem dM_append_234 : decode cM_append 234 = .ok (.iload 7, 2) := by decide +kernel
theorem dM_append_236 : decode cM_append 236 = .ok (.lshl, 1) := by decide +kernel
theorem dM_append_237 : decode cM_append 237 = .ok (.ldc2_w 183, 3) := by decide +kernel
theorem dM_append_240 : decode cM_append 240 = .ok (.lxor, 1) := by decide +kernel
theorem dM_append_241 : decode cM_append 241 = .ok (.land, 1) := by decide +kernel
theorem dM_append_242 : decode cM_append 242 = .ok (.iload_n 2, 1) := by decide +kernel
theorem dM_append_243 : decode cM_append 243 = .ok (.i2l, 1) := by decide +kernel
theorem dM_append_244 : decode cM_append 244 = .ok (.ldc2_w 119, 3) := by decide +kernel
theorem dM_append_247 : decode cM_append 247 = .ok (.land, 1) := by decide +kernel
theorem dM_append_248 : decode cM_append 248 = .ok (.iload 7, 2) := by decide +kernel
theorem dM_append_250 : decode cM_append 250 = .ok (.lshl, 1) := by decide +kernel
theorem dM_append_251 : decode cM_append 251 = .ok (.lor, 1) := by decide +kernel
theorem dM_append_252 : decode cM_append 252 = .ok (.lastore, 1) := by decide +kernel
theorem dM_append_253 : decode cM_append 253 = .ok (.aload_n 0, 1) := by decide +kernel
theorem dM_append_254 : decode cM_append 254 = .ok (.getfield 41, 3) := by decide +kernel
theorem dM_append_257 : decode cM_append 257 = .ok (.iload_n 1, 1) := by decide +kernel
theorem dM_append_258 : decode cM_append 258 = .ok (.iconst 1, 1) := by decide +kernel
theorem dM_append_259 : decode cM_append 259 = .ok (.bastore, 1) := by decide +kernel
theorem dM_append_260 : decode cM_append 260 = .ok (.aload_n 0, 1) := by decide +kernel
theorem dM_append_261 : decode cM_append 261 = .ok (.getfield 29, 3) := by decide +kernel
theorem dM_append_264 : decode cM_append 264 = .ok (.iload_n 1, 1) := by decide +kernel
theorem dM_append_265 : decode cM_append 265 = .ok (.dup2, 1) := by decide +kernel
theorem dM_append_266 : decode cM_append 266 = .ok (.iaload, 1) := by decide +kernel
theorem dM_append_267 : decode cM_append 267 = .ok (.iconst 1, 1) := by decide +kernel
theorem dM_append_268 : decode cM_append 268 = .ok (.iadd, 1) := by decide +kernel
theorem dM_append_269 : decode cM_append 269 = .ok (.iastore, 1) := by decide +kernel
theorem dM_append_270 : decode cM_append 270 = .ok (.aload_n 0, 1) := by decide +kernel
theorem dM_append_271 : decode cM_append 271 = .ok (.getfield 29, 3) := by decide +kernel
theorem dM_append_274 : decode cM_append 274 = .ok (.iload_n 1, 1) := by decide +kernel
theorem dM_append_275 : decode cM_append 275 = .ok (.iaload, 1) := by decide +kernel
theorem dM_append_276 : decode cM_append 276 = .ok (.ireturn, 1) := by decide +kernel
theorem dM_byteAt_0 : decode cM_byteAt 0 = .ok (.aload_n 0, 1) := by decide +kernel
theorem dM_byteAt_1 : decode cM_byteAt 1 = .ok (.aload_n 0, 1) := by decide +kernel
theorem dM_byteAt_2 : decode cM_byteAt 2 = .ok (.invokevirtual 160, 3) := by decide +kernel
theorem dM_byteAt_5 : decode cM_byteAt 5 = .ok (.ifCond .ne 7, 3) := by decide +kernel
theorem dM_byteAt_8 : decode cM_byteAt 8 = .ok (.iconst 1, 1) := by decide +kernel
theorem dM_byteAt_9 : decode cM_byteAt 9 = .ok (.goto 34, 3) := by decide +kernel
theorem dM_byteAt_12 : decode cM_byteAt 12 = .ok (.aload_n 0, 1) := by decide +kernel
theorem dM_byteAt_13 : decode cM_byteAt 13 = .ok (.iload_n 1, 1) := by decide +kernel
theorem dM_byteAt_14 : decode cM_byteAt 14 = .ok (.invokevirtual 166, 3) := by decide +kernel
theorem dM_byteAt_17 : decode cM_byteAt 17 = .ok (.ifCond .ne 7, 3) := by decide +kernel
theorem dM_byteAt_20 : decode cM_byteAt 20 = .ok (.iconst 2, 1) := by decide +kernel
theorem dM_byteAt_21 : decode cM_byteAt 21 = .ok (.goto 22, 3) := by decide +kernel
theorem dM_byteAt_24 : decode cM_byteAt 24 = .ok (.iload_n 2, 1) := by decide +kernel
theorem dM_byteAt_25 : decode cM_byteAt 25 = .ok (.ifCond .lt 13, 3) := by decide +kernel
theorem dM_byteAt_28 : decode cM_byteAt 28 = .ok (.iload_n 2, 1) := by decide +kernel
theorem dM_byteAt_29 : decode cM_byteAt 29 = .ok (.aload_n 0, 1) := by decide +kernel
theorem dM_byteAt_30 : decode cM_byteAt 30 = .ok (.getfield 29, 3) := by decide +kernel
theorem dM_byteAt_33 : decode cM_byteAt 33 = .ok (.iload_n 1, 1) := by decide +kernel
theorem dM_byteAt_34 : decode cM_byteAt 34 = .ok (.iaload, 1) := by decide +kernel
theorem dM_byteAt_35 : decode cM_byteAt 35 = .ok (.if_icmp .lt 7, 3) := by decide +kernel
theorem dM_byteAt_38 : decode cM_byteAt 38 = .ok (.iconst 3, 1) := by decide +kernel
theorem dM_byteAt_39 : decode cM_byteAt 39 = .ok (.goto 4, 3) := by decide +kernel
theorem dM_byteAt_42 : decode cM_byteAt 42 = .ok (.iconst 0, 1) := by decide +kernel
theorem dM_byteAt_43 : decode cM_byteAt 43 = .ok (.putfield 71, 3) := by decide +kernel
theorem dM_byteAt_46 : decode cM_byteAt 46 = .ok (.aload_n 0, 1) := by decide +kernel
theorem dM_byteAt_47 : decode cM_byteAt 47 = .ok (.getfield 71, 3) := by decide +kernel
theorem dM_byteAt_50 : decode cM_byteAt 50 = .ok (.ifCond .le 5, 3) := by decide +kernel
theorem dM_byteAt_53 : decode cM_byteAt 53 = .ok (.iconst 0, 1) := by decide +kernel
theorem dM_byteAt_54 : decode cM_byteAt 54 = .ok (.ireturn, 1) := by decide +kernel
theorem dM_byteAt_55 : decode cM_byteAt 55 = .ok (.aload_n 0, 1) := by decide +kernel
theorem dM_byteAt_56 : decode cM_byteAt 56 = .ok (.iload_n 1, 1) := by decide +kernel
theorem dM_byteAt_57 : decode cM_byteAt 57 = .ok (.aload_n 0, 1) := by decide +kernel
theorem dM_byteAt_58 : decode cM_byteAt 58 = .ok (.getfield 32, 3) := by decide +kernel
theorem dM_byteAt_61 : decode cM_byteAt 61 = .ok (.bipush 64, 2) := by decide +kernel
theorem dM_byteAt_63 : decode cM_byteAt 63 = .ok (.iload_n 1, 1) := by decide +kernel
theorem dM_byteAt_64 : decode cM_byteAt 64 = .ok (.imul, 1) := by decide +kernel
theorem dM_byteAt_65 : decode cM_byteAt 65 = .ok (.iload_n 2, 1) := by decide +kernel
theorem dM_byteAt_66 : decode cM_byteAt 66 = .ok (.bipush 8, 2) := by decide +kernel
theorem dM_byteAt_68 : decode cM_byteAt 68 = .ok (.idiv, 1) := by decide +kernel
theorem dM_byteAt_69 : decode cM_byteAt 69 = .ok (.iadd, 1) := by decide +kernel
theorem dM_byteAt_70 : decode cM_byteAt 70 = .ok (.iaload, 1) := by decide +kernel
theorem dM_byteAt_71 : decode cM_byteAt 71 = .ok (.invokevirtual 179, 3) := by decide +kernel
theorem dM_byteAt_74 : decode cM_byteAt 74 = .ok (.aload_n 0, 1) := by decide +kernel
theorem dM_byteAt_75 : decode cM_byteAt 75 = .ok (.aload_n 0, 1) := by decide +kernel
theorem dM_byteAt_76 : decode cM_byteAt 76 = .ok (.getfield 21, 3) := by decide +kernel
theorem dM_byteAt_79 : decode cM_byteAt 79 = .ok (.ifCond .eq 7, 3) := by decide +kernel
theorem dM_byteAt_82 : decode cM_byteAt 82 = .ok (.iconst 0, 1) := by decide +kernel
theorem dM_byteAt_83 : decode cM_byteAt 83 = .ok (.goto 4, 3) := by decide +kernel
theorem dM_byteAt_86 : decode cM_byteAt 86 = .ok (.iconst 1, 1) := by decide +kernel
theorem dM_byteAt_87 : decode cM_byteAt 87 = .ok (.putfield 71, 3) := by decide +kernel
theorem dM_byteAt_90 : decode cM_byteAt 90 = .ok (.aload_n 0, 1) := by decide +kernel
theorem dM_byteAt_91 : decode cM_byteAt 91 = .ok (.getfield 71, 3) := by decide +kernel
theorem dM_byteAt_94 : decode cM_byteAt 94 = .ok (.ifCond .le 7, 3) := by decide +kernel
theorem dM_byteAt_97 : decode cM_byteAt 97 = .ok (.iconst 0, 1) := by decide +kernel
theorem dM_byteAt_98 : decode cM_byteAt 98 = .ok (.goto 22, 3) := by decide +kernel
theorem dM_byteAt_101 : decode cM_byteAt 101 = .ok (.aload_n 0, 1) := by decide +kernel
theorem dM_byteAt_102 : decode cM_byteAt 102 = .ok (.getfield 38, 3) := by decide +kernel
theorem dM_byteAt_105 : decode cM_byteAt 105 = .ok (.iload_n 1, 1) := by decide +kernel
theorem dM_byteAt_106 : decode cM_byteAt 106 = .ok (.laload, 1) := by decide +kernel
theorem dM_byteAt_107 : decode cM_byteAt 107 = .ok (.bipush 8, 2) := by decide +kernel
theorem dM_byteAt_109 : decode cM_byteAt 109 = .ok (.iload_n 2, 1) := by decide +kernel
theorem dM_byteAt_110 : decode cM_byteAt 110 = .ok (.bipush 8, 2) := by decide +kernel
theorem dM_byteAt_112 : decode cM_byteAt 112 = .ok (.irem, 1) := by decide +kernel
theorem dM_byteAt_113 : decode cM_byteAt 113 = .ok (.imul, 1) := by decide +kernel
theorem dM_byteAt_114 : decode cM_byteAt 114 = .ok (.lshr, 1) := by decide +kernel
theorem dM_byteAt_115 : decode cM_byteAt 115 = .ok (.ldc2_w 119, 3) := by decide +kernel
theorem dM_byteAt_118 : decode cM_byteAt 118 = .ok (.land, 1) := by decide +kernel
theorem dM_byteAt_119 : decode cM_byteAt 119 = .ok (.l2i, 1) := by decide +kernel
theorem dM_byteAt_120 : decode cM_byteAt 120 = .ok (.ireturn, 1) := by decide +kernel
theorem dM_shorten_0 : decode cM_shorten 0 = .ok (.iload_n 2, 1) := by decide +kernel
theorem dM_shorten_1 : decode cM_shorten 1 = .ok (.bipush 7, 2) := by decide +kernel
theorem dM_shorten_3 : decode cM_shorten 3 = .ok (.iadd, 1) := by decide +kernel
theorem dM_shorten_4 : decode cM_shorten 4 = .ok (.bipush 8, 2) := by decide +kernel
theorem dM_shorten_6 : decode cM_shorten 6 = .ok (.idiv, 1) := by decide +kernel
theorem dM_shorten_7 : decode cM_shorten 7 = .ok (.istore_n 3, 1) := by decide +kernel
theorem dM_shorten_8 : decode cM_shorten 8 = .ok (.aload_n 0, 1) := by decide +kernel
theorem dM_shorten_9 : decode cM_shorten 9 = .ok (.iload_n 1, 1) := by decide +kernel
theorem dM_shorten_10 : decode cM_shorten 10 = .ok (.invokevirtual 122, 3) := by decide +kernel
theorem dM_shorten_13 : decode cM_shorten 13 = .ok (.iload_n 3, 1) := by decide +kernel
theorem dM_shorten_14 : decode cM_shorten 14 = .ok (.isub, 1) := by decide +kernel
theorem dM_shorten_15 : decode cM_shorten 15 = .ok (.istore 4, 2) := by decide +kernel
theorem dM_shorten_17 : decode cM_shorten 17 = .ok (.iload_n 3, 1) := by decide +kernel
theorem dM_shorten_18 : decode cM_shorten 18 = .ok (.istore 5, 2) := by decide +kernel
theorem dM_shorten_20 : decode cM_shorten 20 = .ok (.iload 5, 2) := by decide +kernel
theorem dM_shorten_22 : decode cM_shorten 22 = .ok (.aload_n 0, 1) := by decide +kernel
theorem dM_shorten_23 : decode cM_shorten 23 = .ok (.iload_n 1, 1) := by decide +kernel
theorem dM_shorten_24 : decode cM_shorten 24 = .ok (.invokevirtual 122, 3) := by decide +kernel
theorem dM_shorten_27 : decode cM_shorten 27 = .ok (.if_icmp .ge 44, 3) := by decide +kernel
theorem dM_shorten_30 : decode cM_shorten 30 = .ok (.aload_n 0, 1) := by decide +kernel
theorem dM_shorten_31 : decode cM_shorten 31 = .ok (.getfield 35, 3) := by decide +kernel
theorem dM_shorten_34 : decode cM_shorten 34 = .ok (.iload_n 1, 1) := by decide +kernel
theorem dM_shorten_35 : decode cM_shorten 35 = .ok (.iaload, 1) := by decide +kernel
theorem dM_shorten_36 : decode cM_shorten 36 = .ok (.aload_n 0, 1) := by decide +kernel
theorem dM_shorten_37 : decode cM_shorten 37 = .ok (.getfield 32, 3) := by decide +kernel
theorem dM_shorten_40 : decode cM_shorten 40 = .ok (.bipush 64, 2) := by decide +kernel
theorem dM_shorten_42 : decode cM_shorten 42 = .ok (.iload_n 1, 1) := by decide +kernel
theorem dM_shorten_43 : decode cM_shorten 43 = .ok (.imul, 1) := by decide +kernel
theorem dM_shorten_44 : decode cM_shorten 44 = .ok (.iload 5, 2) := by decide +kernel
theorem dM_shorten_46 : decode cM_shorten 46 = .ok (.iadd, 1) := by decide +kernel
theorem dM_shorten_47 : decode cM_shorten 47 = .ok (.iaload, 1) := by decide +kernel
theorem dM_shorten_48 : decode cM_shorten 48 = .ok (.if_icmp .ne 17, 3) := by decide +kernel
theorem dM_shorten_51 : decode cM_shorten 51 = .ok (.aload_n 0, 1) := by decide +kernel
theorem dM_shorten_52 : decode cM_shorten 52 = .ok (.getfield 35, 3) := by decide +kernel
theorem dM_shorten_55 : decode cM_shorten 55 = .ok (.iload_n 1, 1) := by decide +kernel
theorem dM_shorten_56 : decode cM_shorten 56 = .ok (.iconst (-1), 1) := by decide +kernel
theorem dM_shorten_57 : decode cM_shorten 57 = .ok (.iastore, 1) := by decide +kernel
theorem dM_shorten_58 : decode cM_shorten 58 = .ok (.aload_n 0, 1) := by decide +kernel
theorem dM_shorten_59 : decode cM_shorten 59 = .ok (.getfield 41, 3) := by decide +kernel
theorem dM_shorten_62 : decode cM_shorten 62 = .ok (.iload_n 1, 1) := by decide +kernel
theorem dM_shorten_63 : decode cM_shorten 63 = .ok (.iconst 0, 1) := by decide +kernel
theorem dM_shorten_64 : decode cM_shorten 64 = .ok (.bastore, 1) := by decide +kernel
theorem dM_shorten_65 : decode cM_shorten 65 = .ok (.iinc 5 1, 3) := by decide +kernel
theorem dM_shorten_68 : decode cM_shorten 68 = .ok (.goto (-48), 3) := by decide +kernel
theorem dM_shorten_71 : decode cM_shorten 71 = .ok (.aload_n 0, 1) := by decide +kernel
theorem dM_shorten_72 : decode cM_shorten 72 = .ok (.getfield 29, 3) := by decide +kernel
theorem dM_shorten_75 : decode cM_shorten 75 = .ok (.iload_n 1, 1) := by decide +kernel
theorem dM_shorten_76 : decode cM_shorten 76 = .ok (.iload_n 2, 1) := by decide +kernel
theorem dM_shorten_77 : decode cM_shorten 77 = .ok (.iastore, 1) := by decide +kernel
theorem dM_shorten_78 : decode cM_shorten 78 = .ok (.iload 4, 2) := by decide +kernel
theorem dM_shorten_80 : decode cM_shorten 80 = .ok (.ireturn, 1) := by decide +kernel
theorem dM_truncate_0 : decode cM_truncate 0 = .ok (.aload_n 0, 1) := by decide +kernel
theorem dM_truncate_1 : decode cM_truncate 1 = .ok (.aload_n 0, 1) := by decide +kernel
theorem dM_truncate_2 : decode cM_truncate 2 = .ok (.invokevirtual 160, 3) := by decide +kernel
theorem dM_truncate_5 : decode cM_truncate 5 = .ok (.ifCond .ne 7, 3) := by decide +kernel
theorem dM_truncate_8 : decode cM_truncate 8 = .ok (.iconst 1, 1) := by decide +kernel
theorem dM_truncate_9 : decode cM_truncate 9 = .ok (.goto 30, 3) := by decide +kernel
theorem dM_truncate_12 : decode cM_truncate 12 = .ok (.aload_n 0, 1) := by decide +kernel
theorem dM_truncate_13 : decode cM_truncate 13 = .ok (.iload_n 1, 1) := by decide +kernel
theorem dM_truncate_14 : decode cM_truncate 14 = .ok (.invokevirtual 166, 3) := by decide +kernel
theorem dM_truncate_17 : decode cM_truncate 17 = .ok (.ifCond .eq 17, 3) := by decide +kernel
theorem dM_truncate_20 : decode cM_truncate 20 = .ok (.iload_n 2, 1) := by decide +kernel
theorem dM_truncate_21 : decode cM_truncate 21 = .ok (.ifCond .lt 13, 3) := by decide +kernel
theorem dM_truncate_24 : decode cM_truncate 24 = .ok (.iload_n 2, 1) := by decide +kernel
theorem dM_truncate_25 : decode cM_truncate 25 = .ok (.aload_n 0, 1) := by decide +kernel
theorem dM_truncate_26 : decode cM_truncate 26 = .ok (.getfield 29, 3) := by decide +kernel
theorem dM_truncate_29 : decode cM_truncate 29 = .ok (.iload_n 1, 1) := by decide +kernel
theorem dM_truncate_30 : decode cM_truncate 30 = .ok (.iaload, 1) := by decide +kernel
theorem dM_truncate_31 : decode cM_truncate 31 = .ok (.if_icmp .le 7, 3) := by decide +kernel
theorem dM_truncate_34 : decode cM_truncate 34 = .ok (.iconst 2, 1) := by decide +kernel
theorem dM_truncate_35 : decode cM_truncate 35 = .ok (.goto 4, 3) := by decide +kernel
theorem dM_truncate_38 : decode cM_truncate 38 = .ok (.iconst 0, 1) := by decide +kernel
theorem dM_truncate_39 : decode cM_truncate 39 = .ok (.putfield 71, 3) := by decide +kernel
theorem dM_truncate_42 : decode cM_truncate 42 = .ok (.aload_n 0, 1) := by decide +kernel
theorem dM_truncate_43 : decode cM_truncate 43 = .ok (.getfield 71, 3) := by decide +kernel
theorem dM_truncate_46 : decode cM_truncate 46 = .ok (.ifCond .le 7, 3) := by decide +kernel
theorem dM_truncate_49 : decode cM_truncate 49 = .ok (.iconst 0, 1) := by decide +kernel
theorem dM_truncate_50 : decode cM_truncate 50 = .ok (.goto 9, 3) := by decide +kernel
theorem dM_truncate_53 : decode cM_truncate 53 = .ok (.aload_n 0, 1) := by decide +kernel
theorem dM_truncate_54 : decode cM_truncate 54 = .ok (.iload_n 1, 1) := by decide +kernel
theorem dM_truncate_55 : decode cM_truncate 55 = .ok (.iload_n 2, 1) := by decide +kernel
theorem dM_truncate_56 : decode cM_truncate 56 = .ok (.invokevirtual 185, 3) := by decide +kernel
theorem dM_truncate_59 : decode cM_truncate 59 = .ok (.ireturn, 1) := by decide +kernel
theorem dM_remove_0 : decode cM_remove 0 = .ok (.aload_n 0, 1) := by decide +kernel
theorem dM_remove_1 : decode cM_remove 1 = .ok (.aload_n 0, 1) := by decide +kernel
theorem dM_remove_2 : decode cM_remove 2 = .ok (.invokevirtual 160, 3) := by decide +kernel
theorem dM_remove_5 : decode cM_remove 5 = .ok (.ifCond .ne 7, 3) := by decide +kernel
theorem dM_remove_8 : decode cM_remove 8 = .ok (.iconst 1, 1) := by decide +kernel
theorem dM_remove_9 : decode cM_remove 9 = .ok (.goto 16, 3) := by decide +kernel
theorem dM_remove_12 : decode cM_remove 12 = .ok (.aload_n 0, 1) := by decide +kernel
theorem dM_remove_13 : decode cM_remove 13 = .ok (.iload_n 1, 1) := by decide +kernel
theorem dM_remove_14 : decode cM_remove 14 = .ok (.invokevirtual 166, 3) := by decide +kernel
theorem dM_remove_17 : decode cM_remove 17 = .ok (.ifCond .ne 7, 3) := by decide +kernel
theorem dM_remove_20 : decode cM_remove 20 = .ok (.iconst 2, 1) := by decide +kernel
theorem dM_remove_21 : decode cM_remove 21 = .ok (.goto 4, 3) := by decide +kernel
theorem dM_remove_24 : decode cM_remove 24 = .ok (.iconst 0, 1) := by decide +kernel
theorem dM_remove_25 : decode cM_remove 25 = .ok (.putfield 71, 3) := by decide +kernel
theorem dM_remove_28 : decode cM_remove 28 = .ok (.aload_n 0, 1) := by decide +kernel
theorem dM_remove_29 : decode cM_remove 29 = .ok (.getfield 71, 3) := by decide +kernel
theorem dM_remove_32 : decode cM_remove 32 = .ok (.ifCond .le 5, 3) := by decide +kernel
theorem dM_remove_35 : decode cM_remove 35 = .ok (.iconst 0, 1) := by decide +kernel
theorem dM_remove_36 : decode cM_remove 36 = .ok (.ireturn, 1) := by decide +kernel
theorem dM_remove_37 : decode cM_remove 37 = .ok (.aload_n 0, 1) := by decide +kernel
theorem dM_remove_38 : decode cM_remove 38 = .ok (.iload_n 1, 1) := by decide +kernel
theorem dM_remove_39 : decode cM_remove 39 = .ok (.iconst 0, 1) := by decide +kernel
theorem dM_remove_40 : decode cM_remove 40 = .ok (.invokevirtual 185, 3) := by decide +kernel
theorem dM_remove_43 : decode cM_remove 43 = .ok (.istore_n 2, 1) := by decide +kernel
theorem dM_remove_44 : decode cM_remove 44 = .ok (.aload_n 0, 1) := by decide +kernel
theorem dM_remove_45 : decode cM_remove 45 = .ok (.iload_n 1, 1) := by decide +kernel
theorem dM_remove_46 : decode cM_remove 46 = .ok (.invokevirtual 99, 3) := by decide +kernel
theorem dM_remove_49 : decode cM_remove 49 = .ok (.iload_n 2, 1) := by decide +kernel
theorem dM_remove_50 : decode cM_remove 50 = .ok (.ireturn, 1) := by decide +kernel
theorem dM_sync_0 : decode cM_sync 0 = .ok (.aload_n 0, 1) := by decide +kernel
theorem dM_sync_1 : decode cM_sync 1 = .ok (.aload_n 0, 1) := by decide +kernel
theorem dM_sync_2 : decode cM_sync 2 = .ok (.invokevirtual 160, 3) := by decide +kernel
theorem dM_sync_5 : decode cM_sync 5 = .ok (.ifCond .eq 7, 3) := by decide +kernel
theorem dM_sync_8 : decode cM_sync 8 = .ok (.iconst 0, 1) := by decide +kernel
theorem dM_sync_9 : decode cM_sync 9 = .ok (.goto 4, 3) := by decide +kernel
theorem dM_sync_12 : decode cM_sync 12 = .ok (.iconst 1, 1) := by decide +kernel
theorem dM_sync_13 : decode cM_sync 13 = .ok (.putfield 71, 3) := by decide +kernel
theorem dM_sync_16 : decode cM_sync 16 = .ok (.aload_n 0, 1) := by decide +kernel
theorem dM_sync_17 : decode cM_sync 17 = .ok (.getfield 71, 3) := by decide +kernel
theorem dM_sync_20 : decode cM_sync 20 = .ok (.ifCond .le 5, 3) := by decide +kernel
theorem dM_sync_23 : decode cM_sync 23 = .ok (.iconst 0, 1) := by decide +kernel
theorem dM_sync_24 : decode cM_sync 24 = .ok (.ireturn, 1) := by decide +kernel
theorem dM_sync_25 : decode cM_sync 25 = .ok (.aload_n 0, 1) := by decide +kernel
theorem dM_sync_26 : decode cM_sync 26 = .ok (.getfield 80, 3) := by decide +kernel
theorem dM_sync_29 : decode cM_sync 29 = .ok (.lstore_n 1, 1) := by decide +kernel
theorem dM_sync_30 : decode cM_sync 30 = .ok (.aload_n 0, 1) := by decide +kernel
theorem dM_sync_31 : decode cM_sync 31 = .ok (.invokevirtual 116, 3) := by decide +kernel
theorem dM_sync_34 : decode cM_sync 34 = .ok (.aload_n 0, 1) := by decide +kernel
theorem dM_sync_35 : decode cM_sync 35 = .ok (.aload_n 0, 1) := by decide +kernel
theorem dM_sync_36 : decode cM_sync 36 = .ok (.getfield 21, 3) := by decide +kernel
theorem dM_sync_39 : decode cM_sync 39 = .ok (.ifCond .eq 7, 3) := by decide +kernel
theorem dM_sync_42 : decode cM_sync 42 = .ok (.iconst 0, 1) := by decide +kernel
theorem dM_sync_43 : decode cM_sync 43 = .ok (.goto 4, 3) := by decide +kernel
theorem dM_sync_46 : decode cM_sync 46 = .ok (.iconst 1, 1) := by decide +kernel
theorem dM_sync_47 : decode cM_sync 47 = .ok (.putfield 71, 3) := by decide +kernel
theorem dM_sync_50 : decode cM_sync 50 = .ok (.aload_n 0, 1) := by decide +kernel
theorem dM_sync_51 : decode cM_sync 51 = .ok (.getfield 71, 3) := by decide +kernel
theorem dM_sync_54 : decode cM_sync 54 = .ok (.ifCond .le 7, 3) := by decide +kernel
theorem dM_sync_57 : decode cM_sync 57 = .ok (.iconst 0, 1) := by decide +kernel
theorem dM_sync_58 : decode cM_sync 58 = .ok (.goto 10, 3) := by decide +kernel
theorem dM_sync_61 : decode cM_sync 61 = .ok (.aload_n 0, 1) := by decide +kernel
theorem dM_sync_62 : decode cM_sync 62 = .ok (.getfield 80, 3) := by decide +kernel
theorem dM_sync_65 : decode cM_sync 65 = .ok (.lload_n 1, 1) := by decide +kernel
theorem dM_sync_66 : decode cM_sync 66 = .ok (.lsub, 1) := by decide +kernel
theorem dM_sync_67 : decode cM_sync 67 = .ok (.l2i, 1) := by decide +kernel
theorem dM_sync_68 : decode cM_sync 68 = .ok (.ireturn, 1) := by decide +kernel
theorem dM_free_0 : decode cM_free 0 = .ok (.aload_n 0, 1) := by decide +kernel
theorem dM_free_1 : decode cM_free 1 = .ok (.aload_n 0, 1) := by decide +kernel
theorem dM_free_2 : decode cM_free 2 = .ok (.invokevirtual 160, 3) := by decide +kernel
theorem dM_free_5 : decode cM_free 5 = .ok (.ifCond .eq 7, 3) := by decide +kernel
theorem dM_free_8 : decode cM_free 8 = .ok (.iconst 0, 1) := by decide +kernel
theorem dM_free_9 : decode cM_free 9 = .ok (.goto 4, 3) := by decide +kernel
theorem dM_free_12 : decode cM_free 12 = .ok (.iconst 1, 1) := by decide +kernel
theorem dM_free_13 : decode cM_free 13 = .ok (.putfield 71, 3) := by decide +kernel
theorem dM_free_16 : decode cM_free 16 = .ok (.iconst 0, 1) := by decide +kernel
theorem dM_free_17 : decode cM_free 17 = .ok (.istore_n 1, 1) := by decide +kernel
theorem dM_free_18 : decode cM_free 18 = .ok (.iconst 0, 1) := by decide +kernel
theorem dM_free_19 : decode cM_free 19 = .ok (.istore_n 2, 1) := by decide +kernel
theorem dM_free_20 : decode cM_free 20 = .ok (.iload_n 2, 1) := by decide +kernel
theorem dM_free_21 : decode cM_free 21 = .ok (.bipush 101, 2) := by decide +kernel
theorem dM_free_23 : decode cM_free 23 = .ok (.if_icmp .ge 32, 3) := by decide +kernel
theorem dM_free_26 : decode cM_free 26 = .ok (.aload_n 0, 1) := by decide +kernel
theorem dM_free_27 : decode cM_free 27 = .ok (.getfield 71, 3) := by decide +kernel
theorem dM_free_30 : decode cM_free 30 = .ok (.ifCond .ne 25, 3) := by decide +kernel
theorem dM_free_33 : decode cM_free 33 = .ok (.aload_n 0, 1) := by decide +kernel
theorem dM_free_34 : decode cM_free 34 = .ok (.iload_n 2, 1) := by decide +kernel
theorem dM_free_35 : decode cM_free 35 = .ok (.invokevirtual 173, 3) := by decide +kernel
theorem dM_free_38 : decode cM_free 38 = .ok (.ifCond .eq 9, 3) := by decide +kernel
theorem dM_free_41 : decode cM_free 41 = .ok (.iload_n 1, 1) := by decide +kernel
theorem dM_free_42 : decode cM_free 42 = .ok (.iconst 1, 1) := by decide +kernel
theorem dM_free_43 : decode cM_free 43 = .ok (.iadd, 1) := by decide +kernel
theorem dM_free_44 : decode cM_free 44 = .ok (.goto 4, 3) := by decide +kernel
theorem dM_free_47 : decode cM_free 47 = .ok (.iload_n 1, 1) := by decide +kernel
theorem dM_free_48 : decode cM_free 48 = .ok (.istore_n 1, 1) := by decide +kernel
theorem dM_free_49 : decode cM_free 49 = .ok (.iinc 2 1, 3) := by decide +kernel
theorem dM_free_52 : decode cM_free 52 = .ok (.goto (-32), 3) := by decide +kernel
theorem dM_free_55 : decode cM_free 55 = .ok (.iload_n 1, 1) := by decide +kernel
theorem dM_free_56 : decode cM_free 56 = .ok (.ireturn, 1) := by decide +kernel
theorem dM_pageOf_0 : decode cM_pageOf 0 = .ok (.aload_n 0, 1) := by decide +kernel
theorem dM_pageOf_1 : decode cM_pageOf 1 = .ok (.aload_n 0, 1) := by decide +kernel
theorem dM_pageOf_2 : decode cM_pageOf 2 = .ok (.invokevirtual 160, 3) := by decide +kernel
theorem dM_pageOf_5 : decode cM_pageOf 5 = .ok (.ifCond .ne 7, 3) := by decide +kernel
theorem dM_pageOf_8 : decode cM_pageOf 8 = .ok (.iconst 1, 1) := by decide +kernel
theorem dM_pageOf_9 : decode cM_pageOf 9 = .ok (.goto 16, 3) := by decide +kernel
theorem dM_pageOf_12 : decode cM_pageOf 12 = .ok (.aload_n 0, 1) := by decide +kernel
theorem dM_pageOf_13 : decode cM_pageOf 13 = .ok (.iload_n 1, 1) := by decide +kernel
theorem dM_pageOf_14 : decode cM_pageOf 14 = .ok (.invokevirtual 166, 3) := by decide +kernel
theorem dM_pageOf_17 : decode cM_pageOf 17 = .ok (.ifCond .ne 7, 3) := by decide +kernel
theorem dM_pageOf_20 : decode cM_pageOf 20 = .ok (.iconst 2, 1) := by decide +kernel
theorem dM_pageOf_21 : decode cM_pageOf 21 = .ok (.goto 4, 3) := by decide +kernel
theorem dM_pageOf_24 : decode cM_pageOf 24 = .ok (.iconst 0, 1) := by decide +kernel
theorem dM_pageOf_25 : decode cM_pageOf 25 = .ok (.putfield 71, 3) := by decide +kernel
theorem dM_pageOf_28 : decode cM_pageOf 28 = .ok (.aload_n 0, 1) := by decide +kernel
theorem dM_pageOf_29 : decode cM_pageOf 29 = .ok (.getfield 71, 3) := by decide +kernel
theorem dM_pageOf_32 : decode cM_pageOf 32 = .ok (.ifCond .le 7, 3) := by decide +kernel
theorem dM_pageOf_35 : decode cM_pageOf 35 = .ok (.iconst 0, 1) := by decide +kernel
theorem dM_pageOf_36 : decode cM_pageOf 36 = .ok (.goto 31, 3) := by decide +kernel
theorem dM_pageOf_39 : decode cM_pageOf 39 = .ok (.iload_n 2, 1) := by decide +kernel
theorem dM_pageOf_40 : decode cM_pageOf 40 = .ok (.ifCond .lt 12, 3) := by decide +kernel
theorem dM_pageOf_43 : decode cM_pageOf 43 = .ok (.iload_n 2, 1) := by decide +kernel
theorem dM_pageOf_44 : decode cM_pageOf 44 = .ok (.aload_n 0, 1) := by decide +kernel
theorem dM_pageOf_45 : decode cM_pageOf 45 = .ok (.iload_n 1, 1) := by decide +kernel
theorem dM_pageOf_46 : decode cM_pageOf 46 = .ok (.invokevirtual 122, 3) := by decide +kernel
theorem dM_pageOf_49 : decode cM_pageOf 49 = .ok (.if_icmp .lt 7, 3) := by decide +kernel
theorem dM_pageOf_52 : decode cM_pageOf 52 = .ok (.iconst (-1), 1) := by decide +kernel
theorem dM_pageOf_53 : decode cM_pageOf 53 = .ok (.goto 14, 3) := by decide +kernel
theorem dM_pageOf_56 : decode cM_pageOf 56 = .ok (.aload_n 0, 1) := by decide +kernel
theorem dM_pageOf_57 : decode cM_pageOf 57 = .ok (.getfield 32, 3) := by decide +kernel
theorem dM_pageOf_60 : decode cM_pageOf 60 = .ok (.bipush 64, 2) := by decide +kernel
theorem dM_pageOf_62 : decode cM_pageOf 62 = .ok (.iload_n 1, 1) := by decide +kernel
theorem dM_pageOf_63 : decode cM_pageOf 63 = .ok (.imul, 1) := by decide +kernel
theorem dM_pageOf_64 : decode cM_pageOf 64 = .ok (.iload_n 2, 1) := by decide +kernel
theorem dM_pageOf_65 : decode cM_pageOf 65 = .ok (.iadd, 1) := by decide +kernel
theorem dM_pageOf_66 : decode cM_pageOf 66 = .ok (.iaload, 1) := by decide +kernel
theorem dM_pageOf_67 : decode cM_pageOf 67 = .ok (.ireturn, 1) := by decide +kernel
theorem dM_queue_0 : decode cM_queue 0 = .ok (.aload_n 0, 1) := by decide +kernel
theorem dM_queue_1 : decode cM_queue 1 = .ok (.aload_n 0, 1) := by decide +kernel
theorem dM_queue_2 : decode cM_queue 2 = .ok (.invokevirtual 160, 3) := by decide +kernel
theorem dM_queue_5 : decode cM_queue 5 = .ok (.ifCond .ne 7, 3) := by decide +kernel
theorem dM_queue_8 : decode cM_queue 8 = .ok (.iconst 1, 1) := by decide +kernel
theorem dM_queue_9 : decode cM_queue 9 = .ok (.goto 31, 3) := by decide +kernel
theorem dM_queue_12 : decode cM_queue 12 = .ok (.iload_n 1, 1) := by decide +kernel
theorem dM_queue_13 : decode cM_queue 13 = .ok (.ifCond .lt 9, 3) := by decide +kernel
theorem dM_queue_16 : decode cM_queue 16 = .ok (.iload_n 1, 1) := by decide +kernel
theorem dM_queue_17 : decode cM_queue 17 = .ok (.bipush 100, 2) := by decide +kernel
theorem dM_queue_19 : decode cM_queue 19 = .ok (.if_icmp .le 7, 3) := by decide +kernel
theorem dM_queue_22 : decode cM_queue 22 = .ok (.iconst 2, 1) := by decide +kernel
theorem dM_queue_23 : decode cM_queue 23 = .ok (.goto 17, 3) := by decide +kernel
theorem dM_queue_26 : decode cM_queue 26 = .ok (.aload_n 0, 1) := by decide +kernel
theorem dM_queue_27 : decode cM_queue 27 = .ok (.getfield 102, 3) := by decide +kernel
theorem dM_queue_30 : decode cM_queue 30 = .ok (.bipush 16, 2) := by decide +kernel
theorem dM_queue_32 : decode cM_queue 32 = .ok (.if_icmp .ne 7, 3) := by decide +kernel
theorem dM_queue_35 : decode cM_queue 35 = .ok (.iconst 3, 1) := by decide +kernel
theorem dM_queue_36 : decode cM_queue 36 = .ok (.goto 4, 3) := by decide +kernel
theorem dM_queue_39 : decode cM_queue 39 = .ok (.iconst 0, 1) := by decide +kernel
theorem dM_queue_40 : decode cM_queue 40 = .ok (.putfield 71, 3) := by decide +kernel
theorem dM_queue_43 : decode cM_queue 43 = .ok (.aload_n 0, 1) := by decide +kernel
theorem dM_queue_44 : decode cM_queue 44 = .ok (.getfield 71, 3) := by decide +kernel
theorem dM_queue_47 : decode cM_queue 47 = .ok (.ifCond .le 5, 3) := by decide +kernel
theorem dM_queue_50 : decode cM_queue 50 = .ok (.iconst 0, 1) := by decide +kernel
theorem dM_queue_51 : decode cM_queue 51 = .ok (.ireturn, 1) := by decide +kernel
theorem dM_queue_52 : decode cM_queue 52 = .ok (.aload_n 0, 1) := by decide +kernel
theorem dM_queue_53 : decode cM_queue 53 = .ok (.getfield 53, 3) := by decide +kernel
theorem dM_queue_56 : decode cM_queue 56 = .ok (.aload_n 0, 1) := by decide +kernel
theorem dM_queue_57 : decode cM_queue 57 = .ok (.getfield 102, 3) := by decide +kernel
theorem dM_queue_60 : decode cM_queue 60 = .ok (.iload_n 1, 1) := by decide +kernel
theorem dM_queue_61 : decode cM_queue 61 = .ok (.iastore, 1) := by decide +kernel
theorem dM_queue_62 : decode cM_queue 62 = .ok (.aload_n 0, 1) := by decide +kernel
theorem dM_queue_63 : decode cM_queue 63 = .ok (.getfield 56, 3) := by decide +kernel
theorem dM_queue_66 : decode cM_queue 66 = .ok (.aload_n 0, 1) := by decide +kernel
theorem dM_queue_67 : decode cM_queue 67 = .ok (.getfield 102, 3) := by decide +kernel
theorem dM_queue_70 : decode cM_queue 70 = .ok (.iload_n 2, 1) := by decide +kernel
theorem dM_queue_71 : decode cM_queue 71 = .ok (.bastore, 1) := by decide +kernel
theorem dM_queue_72 : decode cM_queue 72 = .ok (.aload_n 0, 1) := by decide +kernel
theorem dM_queue_73 : decode cM_queue 73 = .ok (.getfield 59, 3) := by decide +kernel
theorem dM_queue_76 : decode cM_queue 76 = .ok (.aload_n 0, 1) := by decide +kernel
theorem dM_queue_77 : decode cM_queue 77 = .ok (.getfield 102, 3) := by decide +kernel
theorem dM_queue_80 : decode cM_queue 80 = .ok (.lload_n 3, 1) := by decide +kernel
theorem dM_queue_81 : decode cM_queue 81 = .ok (.lastore, 1) := by decide +kernel
theorem dM_queue_82 : decode cM_queue 82 = .ok (.aload_n 0, 1) := by decide +kernel
theorem dM_queue_83 : decode cM_queue 83 = .ok (.dup, 1) := by decide +kernel
theorem dM_queue_84 : decode cM_queue 84 = .ok (.getfield 102, 3) := by decide +kernel
theorem dM_queue_87 : decode cM_queue 87 = .ok (.iconst 1, 1) := by decide +kernel
theorem dM_queue_88 : decode cM_queue 88 = .ok (.iadd, 1) := by decide +kernel
theorem dM_queue_89 : decode cM_queue 89 = .ok (.putfield 102, 3) := by decide +kernel
theorem dM_queue_92 : decode cM_queue 92 = .ok (.aload_n 0, 1) := by decide +kernel
theorem dM_queue_93 : decode cM_queue 93 = .ok (.getfield 102, 3) := by decide +kernel
theorem dM_queue_96 : decode cM_queue 96 = .ok (.iconst 1, 1) := by decide +kernel
theorem dM_queue_97 : decode cM_queue 97 = .ok (.isub, 1) := by decide +kernel
theorem dM_queue_98 : decode cM_queue 98 = .ok (.ireturn, 1) := by decide +kernel
theorem dM_serve_0 : decode cM_serve 0 = .ok (.aload_n 0, 1) := by decide +kernel
theorem dM_serve_1 : decode cM_serve 1 = .ok (.aload_n 0, 1) := by decide +kernel
theorem dM_serve_2 : decode cM_serve 2 = .ok (.invokevirtual 160, 3) := by decide +kernel
theorem dM_serve_5 : decode cM_serve 5 = .ok (.ifCond .eq 7, 3) := by decide +kernel
theorem dM_serve_8 : decode cM_serve 8 = .ok (.iconst 0, 1) := by decide +kernel
theorem dM_serve_9 : decode cM_serve 9 = .ok (.goto 4, 3) := by decide +kernel
theorem dM_serve_12 : decode cM_serve 12 = .ok (.iconst 1, 1) := by decide +kernel
theorem dM_serve_13 : decode cM_serve 13 = .ok (.putfield 71, 3) := by decide +kernel
theorem dM_serve_16 : decode cM_serve 16 = .ok (.aload_n 0, 1) := by decide +kernel
theorem dM_serve_17 : decode cM_serve 17 = .ok (.getfield 71, 3) := by decide +kernel
theorem dM_serve_20 : decode cM_serve 20 = .ok (.ifCond .le 5, 3) := by decide +kernel
theorem dM_serve_23 : decode cM_serve 23 = .ok (.iconst 0, 1) := by decide +kernel
theorem dM_serve_24 : decode cM_serve 24 = .ok (.ireturn, 1) := by decide +kernel
theorem dM_serve_25 : decode cM_serve 25 = .ok (.aload_n 0, 1) := by decide +kernel
theorem dM_serve_26 : decode cM_serve 26 = .ok (.getfield 80, 3) := by decide +kernel
theorem dM_serve_29 : decode cM_serve 29 = .ok (.lstore_n 1, 1) := by decide +kernel
theorem dM_serve_30 : decode cM_serve 30 = .ok (.iconst 0, 1) := by decide +kernel
theorem dM_serve_31 : decode cM_serve 31 = .ok (.istore_n 3, 1) := by decide +kernel
theorem dM_serve_32 : decode cM_serve 32 = .ok (.iload_n 3, 1) := by decide +kernel
theorem dM_serve_33 : decode cM_serve 33 = .ok (.bipush 16, 2) := by decide +kernel
theorem dM_serve_35 : decode cM_serve 35 = .ok (.if_icmp .ge 16, 3) := by decide +kernel
theorem dM_serve_38 : decode cM_serve 38 = .ok (.aload_n 0, 1) := by decide +kernel
theorem dM_serve_39 : decode cM_serve 39 = .ok (.getfield 62, 3) := by decide +kernel
theorem dM_serve_42 : decode cM_serve 42 = .ok (.iload_n 3, 1) := by decide +kernel
theorem dM_serve_43 : decode cM_serve 43 = .ok (.iconst 0, 1) := by decide +kernel
theorem dM_serve_44 : decode cM_serve 44 = .ok (.bastore, 1) := by decide +kernel
theorem dM_serve_45 : decode cM_serve 45 = .ok (.iinc 3 1, 3) := by decide +kernel
theorem dM_serve_48 : decode cM_serve 48 = .ok (.goto (-16), 3) := by decide +kernel
theorem dM_serve_51 : decode cM_serve 51 = .ok (.iconst 0, 1) := by decide +kernel
theorem dM_serve_52 : decode cM_serve 52 = .ok (.istore_n 3, 1) := by decide +kernel
theorem dM_serve_53 : decode cM_serve 53 = .ok (.iload_n 3, 1) := by decide +kernel
theorem dM_serve_54 : decode cM_serve 54 = .ok (.aload_n 0, 1) := by decide +kernel
theorem dM_serve_55 : decode cM_serve 55 = .ok (.getfield 102, 3) := by decide +kernel
theorem dM_serve_58 : decode cM_serve 58 = .ok (.if_icmp .ge 158, 3) := by decide +kernel
theorem dM_serve_61 : decode cM_serve 61 = .ok (.iconst (-1), 1) := by decide +kernel
theorem dM_serve_62 : decode cM_serve 62 = .ok (.istore 4, 2) := by decide +kernel
theorem dM_serve_64 : decode cM_serve 64 = .ok (.iconst 0, 1) := by decide +kernel
theorem dM_serve_65 : decode cM_serve 65 = .ok (.istore 5, 2) := by decide +kernel
theorem dM_serve_67 : decode cM_serve 67 = .ok (.iload 5, 2) := by decide +kernel
theorem dM_serve_69 : decode cM_serve 69 = .ok (.aload_n 0, 1) := by decide +kernel
theorem dM_serve_70 : decode cM_serve 70 = .ok (.getfield 102, 3) := by decide +kernel
theorem dM_serve_73 : decode cM_serve 73 = .ok (.if_icmp .ge 58, 3) := by decide +kernel
theorem dM_serve_76 : decode cM_serve 76 = .ok (.aload_n 0, 1) := by decide +kernel
theorem dM_serve_77 : decode cM_serve 77 = .ok (.getfield 62, 3) := by decide +kernel
theorem dM_serve_80 : decode cM_serve 80 = .ok (.iload 5, 2) := by decide +kernel
theorem dM_serve_82 : decode cM_serve 82 = .ok (.baload, 1) := by decide +kernel
theorem dM_serve_83 : decode cM_serve 83 = .ok (.ifCond .ne 38, 3) := by decide +kernel
theorem dM_serve_86 : decode cM_serve 86 = .ok (.iload 4, 2) := by decide +kernel
theorem dM_serve_88 : decode cM_serve 88 = .ok (.ifCond .lt 28, 3) := by decide +kernel
theorem dM_serve_91 : decode cM_serve 91 = .ok (.aload_n 0, 1) := by decide +kernel
theorem dM_serve_92 : decode cM_serve 92 = .ok (.aload_n 0, 1) := by decide +kernel
theorem dM_serve_93 : decode cM_serve 93 = .ok (.getfield 53, 3) := by decide +kernel
theorem dM_serve_96 : decode cM_serve 96 = .ok (.iload 5, 2) := by decide +kernel
theorem dM_serve_98 : decode cM_serve 98 = .ok (.iaload, 1) := by decide +kernel
theorem dM_serve_99 : decode cM_serve 99 = .ok (.invokevirtual 87, 3) := by decide +kernel
theorem dM_serve_102 : decode cM_serve 102 = .ok (.aload_n 0, 1) := by decide +kernel
theorem dM_serve_103 : decode cM_serve 103 = .ok (.aload_n 0, 1) := by decide +kernel
theorem dM_serve_104 : decode cM_serve 104 = .ok (.getfield 53, 3) := by decide +kernel
theorem dM_serve_107 : decode cM_serve 107 = .ok (.iload 4, 2) := by decide +kernel
theorem dM_serve_109 : decode cM_serve 109 = .ok (.iaload, 1) := by decide +kernel
theorem dM_serve_110 : decode cM_serve 110 = .ok (.invokevirtual 87, 3) := by decide +kernel
theorem dM_serve_113 : decode cM_serve 113 = .ok (.if_icmp .ge 8, 3) := by decide +kernel
theorem dM_serve_116 : decode cM_serve 116 = .ok (.iload 5, 2) := by decide +kernel
theorem dM_serve_118 : decode cM_serve 118 = .ok (.goto 5, 3) := by decide +kernel
theorem dM_serve_121 : decode cM_serve 121 = .ok (.iload 4, 2) := by decide +kernel
theorem dM_serve_123 : decode cM_serve 123 = .ok (.istore 4, 2) := by decide +kernel
theorem dM_serve_125 : decode cM_serve 125 = .ok (.iinc 5 1, 3) := by decide +kernel
theorem dM_serve_128 : decode cM_serve 128 = .ok (.goto (-61), 3) := by decide +kernel
theorem dM_serve_131 : decode cM_serve 131 = .ok (.aload_n 0, 1) := by decide +kernel
theorem dM_serve_132 : decode cM_serve 132 = .ok (.getfield 62, 3) := by decide +kernel
theorem dM_serve_135 : decode cM_serve 135 = .ok (.iload 4, 2) := by decide +kernel
theorem dM_serve_137 : decode cM_serve 137 = .ok (.iconst 1, 1) := by decide +kernel
theorem dM_serve_138 : decode cM_serve 138 = .ok (.bastore, 1) := by decide +kernel
theorem dM_serve_139 : decode cM_serve 139 = .ok (.aload_n 0, 1) := by decide +kernel
theorem dM_serve_140 : decode cM_serve 140 = .ok (.getfield 65, 3) := by decide +kernel
theorem dM_serve_143 : decode cM_serve 143 = .ok (.iload 4, 2) := by decide +kernel
theorem dM_serve_145 : decode cM_serve 145 = .ok (.lconst 0, 1) := by decide +kernel
theorem dM_serve_146 : decode cM_serve 146 = .ok (.lastore, 1) := by decide +kernel
theorem dM_serve_147 : decode cM_serve 147 = .ok (.aload_n 0, 1) := by decide +kernel
theorem dM_serve_148 : decode cM_serve 148 = .ok (.getfield 56, 3) := by decide +kernel
theorem dM_serve_151 : decode cM_serve 151 = .ok (.iload 4, 2) := by decide +kernel
theorem dM_serve_153 : decode cM_serve 153 = .ok (.baload, 1) := by decide +kernel
theorem dM_serve_154 : decode cM_serve 154 = .ok (.ifCond .ne 24, 3) := by decide +kernel
theorem dM_serve_157 : decode cM_serve 157 = .ok (.aload_n 0, 1) := by decide +kernel
theorem dM_serve_158 : decode cM_serve 158 = .ok (.getfield 65, 3) := by decide +kernel
theorem dM_serve_161 : decode cM_serve 161 = .ok (.iload 4, 2) := by decide +kernel
theorem dM_serve_163 : decode cM_serve 163 = .ok (.aload_n 0, 1) := by decide +kernel
theorem dM_serve_164 : decode cM_serve 164 = .ok (.aload_n 0, 1) := by decide +kernel
theorem dM_serve_165 : decode cM_serve 165 = .ok (.getfield 53, 3) := by decide +kernel
theorem dM_serve_168 : decode cM_serve 168 = .ok (.iload 4, 2) := by decide +kernel
theorem dM_serve_170 : decode cM_serve 170 = .ok (.iaload, 1) := by decide +kernel
theorem dM_serve_171 : decode cM_serve 171 = .ok (.invokevirtual 169, 3) := by decide +kernel
theorem dM_serve_174 : decode cM_serve 174 = .ok (.lastore, 1) := by decide +kernel
theorem dM_serve_175 : decode cM_serve 175 = .ok (.goto 35, 3) := by decide +kernel
theorem dM_serve_178 : decode cM_serve 178 = .ok (.aload_n 0, 1) := by decide +kernel
theorem dM_serve_179 : decode cM_serve 179 = .ok (.aload_n 0, 1) := by decide +kernel
theorem dM_serve_180 : decode cM_serve 180 = .ok (.getfield 53, 3) := by decide +kernel
theorem dM_serve_183 : decode cM_serve 183 = .ok (.iload 4, 2) := by decide +kernel
theorem dM_serve_185 : decode cM_serve 185 = .ok (.iaload, 1) := by decide +kernel
theorem dM_serve_186 : decode cM_serve 186 = .ok (.invokevirtual 173, 3) := by decide +kernel
theorem dM_serve_189 : decode cM_serve 189 = .ok (.ifCond .eq 21, 3) := by decide +kernel
theorem dM_serve_192 : decode cM_serve 192 = .ok (.aload_n 0, 1) := by decide +kernel
theorem dM_serve_193 : decode cM_serve 193 = .ok (.aload_n 0, 1) := by decide +kernel
theorem dM_serve_194 : decode cM_serve 194 = .ok (.getfield 53, 3) := by decide +kernel
theorem dM_serve_197 : decode cM_serve 197 = .ok (.iload 4, 2) := by decide +kernel
theorem dM_serve_199 : decode cM_serve 199 = .ok (.iaload, 1) := by decide +kernel
theorem dM_serve_200 : decode cM_serve 200 = .ok (.aload_n 0, 1) := by decide +kernel
theorem dM_serve_201 : decode cM_serve 201 = .ok (.getfield 59, 3) := by decide +kernel
theorem dM_serve_204 : decode cM_serve 204 = .ok (.iload 4, 2) := by decide +kernel
theorem dM_serve_206 : decode cM_serve 206 = .ok (.laload, 1) := by decide +kernel
theorem dM_serve_207 : decode cM_serve 207 = .ok (.invokevirtual 139, 3) := by decide +kernel
theorem dM_serve_210 : decode cM_serve 210 = .ok (.iinc 3 1, 3) := by decide +kernel
theorem dM_serve_213 : decode cM_serve 213 = .ok (.goto (-160), 3) := by decide +kernel
theorem dM_serve_216 : decode cM_serve 216 = .ok (.aload_n 0, 1) := by decide +kernel
theorem dM_serve_217 : decode cM_serve 217 = .ok (.aload_n 0, 1) := by decide +kernel
theorem dM_serve_218 : decode cM_serve 218 = .ok (.getfield 21, 3) := by decide +kernel
theorem dM_serve_221 : decode cM_serve 221 = .ok (.ifCond .eq 7, 3) := by decide +kernel
theorem dM_serve_224 : decode cM_serve 224 = .ok (.iconst 0, 1) := by decide +kernel
theorem dM_serve_225 : decode cM_serve 225 = .ok (.goto 4, 3) := by decide +kernel
theorem dM_serve_228 : decode cM_serve 228 = .ok (.iconst 1, 1) := by decide +kernel
theorem dM_serve_229 : decode cM_serve 229 = .ok (.putfield 71, 3) := by decide +kernel
theorem dM_serve_232 : decode cM_serve 232 = .ok (.aload_n 0, 1) := by decide +kernel
theorem dM_serve_233 : decode cM_serve 233 = .ok (.getfield 71, 3) := by decide +kernel
theorem dM_serve_236 : decode cM_serve 236 = .ok (.ifCond .le 5, 3) := by decide +kernel
theorem dM_serve_239 : decode cM_serve 239 = .ok (.iconst 0, 1) := by decide +kernel
theorem dM_serve_240 : decode cM_serve 240 = .ok (.ireturn, 1) := by decide +kernel
theorem dM_serve_241 : decode cM_serve 241 = .ok (.aload_n 0, 1) := by decide +kernel
theorem dM_serve_242 : decode cM_serve 242 = .ok (.aload_n 0, 1) := by decide +kernel
theorem dM_serve_243 : decode cM_serve 243 = .ok (.getfield 102, 3) := by decide +kernel
theorem dM_serve_246 : decode cM_serve 246 = .ok (.putfield 105, 3) := by decide +kernel
theorem dM_serve_249 : decode cM_serve 249 = .ok (.aload_n 0, 1) := by decide +kernel
theorem dM_serve_250 : decode cM_serve 250 = .ok (.iconst 0, 1) := by decide +kernel
theorem dM_serve_251 : decode cM_serve 251 = .ok (.putfield 102, 3) := by decide +kernel
theorem dM_serve_254 : decode cM_serve 254 = .ok (.aload_n 0, 1) := by decide +kernel
theorem dM_serve_255 : decode cM_serve 255 = .ok (.getfield 80, 3) := by decide +kernel
theorem dM_serve_258 : decode cM_serve 258 = .ok (.lload_n 1, 1) := by decide +kernel
theorem dM_serve_259 : decode cM_serve 259 = .ok (.lsub, 1) := by decide +kernel
theorem dM_serve_260 : decode cM_serve 260 = .ok (.l2i, 1) := by decide +kernel
theorem dM_serve_261 : decode cM_serve 261 = .ok (.ireturn, 1) := by decide +kernel
theorem dM_served_0 : decode cM_served 0 = .ok (.aload_n 0, 1) := by decide +kernel
theorem dM_served_1 : decode cM_served 1 = .ok (.aload_n 0, 1) := by decide +kernel
theorem dM_served_2 : decode cM_served 2 = .ok (.invokevirtual 160, 3) := by decide +kernel
theorem dM_served_5 : decode cM_served 5 = .ok (.ifCond .ne 7, 3) := by decide +kernel
theorem dM_served_8 : decode cM_served 8 = .ok (.iconst 1, 1) := by decide +kernel
theorem dM_served_9 : decode cM_served 9 = .ok (.goto 20, 3) := by decide +kernel
theorem dM_served_12 : decode cM_served 12 = .ok (.iload_n 1, 1) := by decide +kernel
theorem dM_served_13 : decode cM_served 13 = .ok (.ifCond .lt 11, 3) := by decide +kernel
theorem dM_served_16 : decode cM_served 16 = .ok (.iload_n 1, 1) := by decide +kernel
theorem dM_served_17 : decode cM_served 17 = .ok (.aload_n 0, 1) := by decide +kernel
theorem dM_served_18 : decode cM_served 18 = .ok (.getfield 105, 3) := by decide +kernel
theorem dM_served_21 : decode cM_served 21 = .ok (.if_icmp .lt 7, 3) := by decide +kernel
theorem dM_served_24 : decode cM_served 24 = .ok (.iconst 2, 1) := by decide +kernel
theorem dM_served_25 : decode cM_served 25 = .ok (.goto 4, 3) := by decide +kernel
theorem dM_served_28 : decode cM_served 28 = .ok (.iconst 0, 1) := by decide +kernel
theorem dM_served_29 : decode cM_served 29 = .ok (.putfield 71, 3) := by decide +kernel
theorem dM_served_32 : decode cM_served 32 = .ok (.aload_n 0, 1) := by decide +kernel
theorem dM_served_33 : decode cM_served 33 = .ok (.getfield 71, 3) := by decide +kernel
theorem dM_served_36 : decode cM_served 36 = .ok (.ifCond .le 7, 3) := by decide +kernel
theorem dM_served_39 : decode cM_served 39 = .ok (.lconst 0, 1) := by decide +kernel
theorem dM_served_40 : decode cM_served 40 = .ok (.goto 9, 3) := by decide +kernel
theorem dM_served_43 : decode cM_served 43 = .ok (.aload_n 0, 1) := by decide +kernel
theorem dM_served_44 : decode cM_served 44 = .ok (.getfield 65, 3) := by decide +kernel
theorem dM_served_47 : decode cM_served 47 = .ok (.iload_n 1, 1) := by decide +kernel
theorem dM_served_48 : decode cM_served 48 = .ok (.laload, 1) := by decide +kernel
theorem dM_served_49 : decode cM_served 49 = .ok (.lreturn, 1) := by decide +kernel
