theorem dB_init_0 : decode cB_init 0 = .ok (.aload_n 0, 1) := by decide +kernel
theorem dB_init_1 : decode cB_init 1 = .ok (.invokespecial 1, 3) := by decide +kernel
theorem dB_init_4 : decode cB_init 4 = .ok (.aload_n 0, 1) := by decide +kernel
theorem dB_init_5 : decode cB_init 5 = .ok (.new 7, 3) := by decide +kernel
theorem dB_init_8 : decode cB_init 8 = .ok (.dup, 1) := by decide +kernel
theorem dB_init_9 : decode cB_init 9 = .ok (.invokespecial 9, 3) := by decide +kernel
theorem dB_init_12 : decode cB_init 12 = .ok (.putfield 10, 3) := by decide +kernel
theorem dB_init_15 : decode cB_init 15 = .ok (.aload_n 0, 1) := by decide +kernel
theorem dB_init_16 : decode cB_init 16 = .ok (.new 16, 3) := by decide +kernel
theorem dB_init_19 : decode cB_init 19 = .ok (.dup, 1) := by decide +kernel
theorem dB_init_20 : decode cB_init 20 = .ok (.invokespecial 18, 3) := by decide +kernel
theorem dB_init_23 : decode cB_init 23 = .ok (.putfield 19, 3) := by decide +kernel
theorem dB_init_26 : decode cB_init 26 = .ok (.aload_n 0, 1) := by decide +kernel
theorem dB_init_27 : decode cB_init 27 = .ok (.new 23, 3) := by decide +kernel
theorem dB_init_30 : decode cB_init 30 = .ok (.dup, 1) := by decide +kernel
theorem dB_init_31 : decode cB_init 31 = .ok (.invokespecial 25, 3) := by decide +kernel
theorem dB_init_34 : decode cB_init 34 = .ok (.putfield 26, 3) := by decide +kernel
theorem dB_init_37 : decode cB_init 37 = .ok (.aload_n 0, 1) := by decide +kernel
theorem dB_init_38 : decode cB_init 38 = .ok (.iconst 2, 1) := by decide +kernel
theorem dB_init_39 : decode cB_init 39 = .ok (.anewarray 30, 3) := by decide +kernel
theorem dB_init_42 : decode cB_init 42 = .ok (.dup, 1) := by decide +kernel
theorem dB_init_43 : decode cB_init 43 = .ok (.iconst 0, 1) := by decide +kernel
theorem dB_init_44 : decode cB_init 44 = .ok (.new 30, 3) := by decide +kernel
theorem dB_init_47 : decode cB_init 47 = .ok (.dup, 1) := by decide +kernel
theorem dB_init_48 : decode cB_init 48 = .ok (.invokespecial 32, 3) := by decide +kernel
theorem dB_init_51 : decode cB_init 51 = .ok (.aastore, 1) := by decide +kernel
theorem dB_init_52 : decode cB_init 52 = .ok (.dup, 1) := by decide +kernel
theorem dB_init_53 : decode cB_init 53 = .ok (.iconst 1, 1) := by decide +kernel
theorem dB_init_54 : decode cB_init 54 = .ok (.new 30, 3) := by decide +kernel
theorem dB_init_57 : decode cB_init 57 = .ok (.dup, 1) := by decide +kernel
theorem dB_init_58 : decode cB_init 58 = .ok (.invokespecial 32, 3) := by decide +kernel
theorem dB_init_61 : decode cB_init 61 = .ok (.aastore, 1) := by decide +kernel
theorem dB_init_62 : decode cB_init 62 = .ok (.putfield 33, 3) := by decide +kernel
theorem dB_init_65 : decode cB_init 65 = .ok (.aload_n 0, 1) := by decide +kernel
theorem dB_init_66 : decode cB_init 66 = .ok (.iconst 1, 1) := by decide +kernel
theorem dB_init_67 : decode cB_init 67 = .ok (.putfield 37, 3) := by decide +kernel
theorem dB_init_70 : decode cB_init 70 = .ok (.aload_n 0, 1) := by decide +kernel
theorem dB_init_71 : decode cB_init 71 = .ok (.iconst (-1), 1) := by decide +kernel
theorem dB_init_72 : decode cB_init 72 = .ok (.putfield 41, 3) := by decide +kernel
theorem dB_init_75 : decode cB_init 75 = .ok (.aload_n 0, 1) := by decide +kernel
theorem dB_init_76 : decode cB_init 76 = .ok (.iconst 0, 1) := by decide +kernel
theorem dB_init_77 : decode cB_init 77 = .ok (.putfield 44, 3) := by decide +kernel
theorem dB_init_80 : decode cB_init 80 = .ok (.aload_n 0, 1) := by decide +kernel
theorem dB_init_81 : decode cB_init 81 = .ok (.iconst 0, 1) := by decide +kernel
theorem dB_init_82 : decode cB_init 82 = .ok (.putfield 47, 3) := by decide +kernel
theorem dB_init_85 : decode cB_init 85 = .ok (.return_, 1) := by decide +kernel
theorem dB_stuck_0 : decode cB_stuck 0 = .ok (.iload_n 1, 1) := by decide +kernel
theorem dB_stuck_1 : decode cB_stuck 1 = .ok (.ifCond .lt 9, 3) := by decide +kernel
theorem dB_stuck_4 : decode cB_stuck 4 = .ok (.iload_n 1, 1) := by decide +kernel
theorem dB_stuck_5 : decode cB_stuck 5 = .ok (.bipush 69, 2) := by decide +kernel
theorem dB_stuck_7 : decode cB_stuck 7 = .ok (.if_icmp .lt 13, 3) := by decide +kernel
theorem dB_stuck_10 : decode cB_stuck 10 = .ok (.new 50, 3) := by decide +kernel
theorem dB_stuck_13 : decode cB_stuck 13 = .ok (.dup, 1) := by decide +kernel
theorem dB_stuck_14 : decode cB_stuck 14 = .ok (.ldc 52, 2) := by decide +kernel
theorem dB_stuck_16 : decode cB_stuck 16 = .ok (.invokespecial 54, 3) := by decide +kernel
theorem dB_stuck_19 : decode cB_stuck 19 = .ok (.athrow, 1) := by decide +kernel
theorem dB_stuck_20 : decode cB_stuck 20 = .ok (.iload_n 2, 1) := by decide +kernel
theorem dB_stuck_21 : decode cB_stuck 21 = .ok (.ifCond .eq 18, 3) := by decide +kernel
theorem dB_stuck_24 : decode cB_stuck 24 = .ok (.iload_n 2, 1) := by decide +kernel
theorem dB_stuck_25 : decode cB_stuck 25 = .ok (.iconst 1, 1) := by decide +kernel
theorem dB_stuck_26 : decode cB_stuck 26 = .ok (.if_icmp .eq 13, 3) := by decide +kernel
theorem dB_stuck_29 : decode cB_stuck 29 = .ok (.new 50, 3) := by decide +kernel
theorem dB_stuck_32 : decode cB_stuck 32 = .ok (.dup, 1) := by decide +kernel
theorem dB_stuck_33 : decode cB_stuck 33 = .ok (.ldc 57, 2) := by decide +kernel
theorem dB_stuck_35 : decode cB_stuck 35 = .ok (.invokespecial 54, 3) := by decide +kernel
theorem dB_stuck_38 : decode cB_stuck 38 = .ok (.athrow, 1) := by decide +kernel
theorem dB_stuck_39 : decode cB_stuck 39 = .ok (.aload_n 0, 1) := by decide +kernel
theorem dB_stuck_40 : decode cB_stuck 40 = .ok (.getfield 10, 3) := by decide +kernel
theorem dB_stuck_43 : decode cB_stuck 43 = .ok (.getfield 59, 3) := by decide +kernel
theorem dB_stuck_46 : decode cB_stuck 46 = .ok (.ifCond .eq 13, 3) := by decide +kernel
theorem dB_stuck_49 : decode cB_stuck 49 = .ok (.new 63, 3) := by decide +kernel
theorem dB_stuck_52 : decode cB_stuck 52 = .ok (.dup, 1) := by decide +kernel
theorem dB_stuck_53 : decode cB_stuck 53 = .ok (.ldc 65, 2) := by decide +kernel
theorem dB_stuck_55 : decode cB_stuck 55 = .ok (.invokespecial 67, 3) := by decide +kernel
theorem dB_stuck_58 : decode cB_stuck 58 = .ok (.athrow, 1) := by decide +kernel
theorem dB_stuck_59 : decode cB_stuck 59 = .ok (.aload_n 0, 1) := by decide +kernel
theorem dB_stuck_60 : decode cB_stuck 60 = .ok (.getfield 10, 3) := by decide +kernel
theorem dB_stuck_63 : decode cB_stuck 63 = .ok (.getfield 68, 3) := by decide +kernel
theorem dB_stuck_66 : decode cB_stuck 66 = .ok (.iload_n 1, 1) := by decide +kernel
theorem dB_stuck_67 : decode cB_stuck 67 = .ok (.iconst 1, 1) := by decide +kernel
theorem dB_stuck_68 : decode cB_stuck 68 = .ok (.bastore, 1) := by decide +kernel
theorem dB_stuck_69 : decode cB_stuck 69 = .ok (.return_, 1) := by decide +kernel
theorem dB_power_0 : decode cB_power 0 = .ok (.aload_n 0, 1) := by decide +kernel
theorem dB_power_1 : decode cB_power 1 = .ok (.getfield 37, 3) := by decide +kernel
theorem dB_power_4 : decode cB_power 4 = .ok (.ifCond .eq 16, 3) := by decide +kernel
theorem dB_power_7 : decode cB_power 7 = .ok (.aload_n 0, 1) := by decide +kernel
theorem dB_power_8 : decode cB_power 8 = .ok (.iload_n 1, 1) := by decide +kernel
theorem dB_power_9 : decode cB_power 9 = .ok (.ifCond .ge 7, 3) := by decide +kernel
theorem dB_power_12 : decode cB_power 12 = .ok (.iconst (-1), 1) := by decide +kernel
theorem dB_power_13 : decode cB_power 13 = .ok (.goto 4, 3) := by decide +kernel
theorem dB_power_16 : decode cB_power 16 = .ok (.iload_n 1, 1) := by decide +kernel
theorem dB_power_17 : decode cB_power 17 = .ok (.putfield 41, 3) := by decide +kernel
theorem dB_power_20 : decode cB_power 20 = .ok (.return_, 1) := by decide +kernel
theorem dB_state_0 : decode cB_state 0 = .ok (.aload_n 0, 1) := by decide +kernel
theorem dB_state_1 : decode cB_state 1 = .ok (.getfield 37, 3) := by decide +kernel
theorem dB_state_4 : decode cB_state 4 = .ok (.ireturn, 1) := by decide +kernel
theorem dB_steps_0 : decode cB_steps 0 = .ok (.aload_n 0, 1) := by decide +kernel
theorem dB_steps_1 : decode cB_steps 1 = .ok (.getfield 10, 3) := by decide +kernel
theorem dB_steps_4 : decode cB_steps 4 = .ok (.getfield 72, 3) := by decide +kernel
theorem dB_steps_7 : decode cB_steps 7 = .ok (.lreturn, 1) := by decide +kernel
theorem dB_format_0 : decode cB_format 0 = .ok (.aload_n 0, 1) := by decide +kernel
theorem dB_format_1 : decode cB_format 1 = .ok (.getfield 37, 3) := by decide +kernel
theorem dB_format_4 : decode cB_format 4 = .ok (.ifCond .ne 13, 3) := by decide +kernel
theorem dB_format_7 : decode cB_format 7 = .ok (.new 63, 3) := by decide +kernel
theorem dB_format_10 : decode cB_format 10 = .ok (.dup, 1) := by decide +kernel
theorem dB_format_11 : decode cB_format 11 = .ok (.ldc 76, 2) := by decide +kernel
theorem dB_format_13 : decode cB_format 13 = .ok (.invokespecial 67, 3) := by decide +kernel
theorem dB_format_16 : decode cB_format 16 = .ok (.athrow, 1) := by decide +kernel
theorem dB_format_17 : decode cB_format 17 = .ok (.aload_n 0, 1) := by decide +kernel
theorem dB_format_18 : decode cB_format 18 = .ok (.getfield 10, 3) := by decide +kernel
theorem dB_format_21 : decode cB_format 21 = .ok (.invokevirtual 78, 3) := by decide +kernel
theorem dB_format_24 : decode cB_format 24 = .ok (.bipush 64, 2) := by decide +kernel
theorem dB_format_26 : decode cB_format 26 = .ok (.if_icmp .ge 5, 3) := by decide +kernel
theorem dB_format_29 : decode cB_format 29 = .ok (.iconst 0, 1) := by decide +kernel
theorem dB_format_30 : decode cB_format 30 = .ok (.ireturn, 1) := by decide +kernel
theorem dB_format_31 : decode cB_format 31 = .ok (.aload_n 0, 1) := by decide +kernel
theorem dB_format_32 : decode cB_format 32 = .ok (.getfield 10, 3) := by decide +kernel
theorem dB_format_35 : decode cB_format 35 = .ok (.dup, 1) := by decide +kernel
theorem dB_format_36 : decode cB_format 36 = .ok (.getfield 72, 3) := by decide +kernel
theorem dB_format_39 : decode cB_format 39 = .ok (.ldc2_w 82, 3) := by decide +kernel
theorem dB_format_42 : decode cB_format 42 = .ok (.ladd, 1) := by decide +kernel
theorem dB_format_43 : decode cB_format 43 = .ok (.putfield 72, 3) := by decide +kernel
theorem dB_format_46 : decode cB_format 46 = .ok (.aload_n 0, 1) := by decide +kernel
theorem dB_format_47 : decode cB_format 47 = .ok (.getfield 10, 3) := by decide +kernel
theorem dB_format_50 : decode cB_format 50 = .ok (.iconst 1, 1) := by decide +kernel
theorem dB_format_51 : decode cB_format 51 = .ok (.putfield 59, 3) := by decide +kernel
theorem dB_format_54 : decode cB_format 54 = .ok (.aload_n 0, 1) := by decide +kernel
theorem dB_format_55 : decode cB_format 55 = .ok (.getfield 10, 3) := by decide +kernel
theorem dB_format_58 : decode cB_format 58 = .ok (.invokevirtual 84, 3) := by decide +kernel
theorem dB_format_61 : decode cB_format 61 = .ok (.aload_n 0, 1) := by decide +kernel
theorem dB_format_62 : decode cB_format 62 = .ok (.invokevirtual 87, 3) := by decide +kernel
theorem dB_format_65 : decode cB_format 65 = .ok (.aload_n 0, 1) := by decide +kernel
theorem dB_format_66 : decode cB_format 66 = .ok (.iconst 2, 1) := by decide +kernel
theorem dB_format_67 : decode cB_format 67 = .ok (.putfield 37, 3) := by decide +kernel
theorem dB_format_70 : decode cB_format 70 = .ok (.aload_n 0, 1) := by decide +kernel
theorem dB_format_71 : decode cB_format 71 = .ok (.iconst 1, 1) := by decide +kernel
theorem dB_format_72 : decode cB_format 72 = .ok (.putfield 44, 3) := by decide +kernel
theorem dB_format_75 : decode cB_format 75 = .ok (.aload_n 0, 1) := by decide +kernel
theorem dB_format_76 : decode cB_format 76 = .ok (.sipush 255, 3) := by decide +kernel
theorem dB_format_79 : decode cB_format 79 = .ok (.putfield 47, 3) := by decide +kernel
theorem dB_format_82 : decode cB_format 82 = .ok (.aload_n 0, 1) := by decide +kernel
theorem dB_format_83 : decode cB_format 83 = .ok (.invokevirtual 90, 3) := by decide +kernel
theorem dB_format_86 : decode cB_format 86 = .ok (.pop, 1) := by decide +kernel
theorem dB_format_87 : decode cB_format 87 = .ok (.iconst 1, 1) := by decide +kernel
theorem dB_format_88 : decode cB_format 88 = .ok (.ireturn, 1) := by decide +kernel
theorem dB_mount_0 : decode cB_mount 0 = .ok (.aload_n 0, 1) := by decide +kernel
theorem dB_mount_1 : decode cB_mount 1 = .ok (.iconst 1, 1) := by decide +kernel
theorem dB_mount_2 : decode cB_mount 2 = .ok (.putfield 37, 3) := by decide +kernel
theorem dB_mount_5 : decode cB_mount 5 = .ok (.aload_n 0, 1) := by decide +kernel
theorem dB_mount_6 : decode cB_mount 6 = .ok (.iconst (-1), 1) := by decide +kernel
theorem dB_mount_7 : decode cB_mount 7 = .ok (.putfield 41, 3) := by decide +kernel
theorem dB_mount_10 : decode cB_mount 10 = .ok (.aload_n 0, 1) := by decide +kernel
theorem dB_mount_11 : decode cB_mount 11 = .ok (.invokevirtual 87, 3) := by decide +kernel
theorem dB_mount_14 : decode cB_mount 14 = .ok (.aload_n 0, 1) := by decide +kernel
theorem dB_mount_15 : decode cB_mount 15 = .ok (.getfield 10, 3) := by decide +kernel
theorem dB_mount_18 : decode cB_mount 18 = .ok (.getfield 59, 3) := by decide +kernel
theorem dB_mount_21 : decode cB_mount 21 = .ok (.ifCond .ne 5, 3) := by decide +kernel
theorem dB_mount_24 : decode cB_mount 24 = .ok (.iconst 0, 1) := by decide +kernel
theorem dB_mount_25 : decode cB_mount 25 = .ok (.ireturn, 1) := by decide +kernel
theorem dB_mount_26 : decode cB_mount 26 = .ok (.aload_n 0, 1) := by decide +kernel
theorem dB_mount_27 : decode cB_mount 27 = .ok (.invokevirtual 93, 3) := by decide +kernel
theorem dB_mount_30 : decode cB_mount 30 = .ok (.aload_n 0, 1) := by decide +kernel
theorem dB_mount_31 : decode cB_mount 31 = .ok (.invokevirtual 96, 3) := by decide +kernel
theorem dB_mount_34 : decode cB_mount 34 = .ok (.istore_n 1, 1) := by decide +kernel
theorem dB_mount_35 : decode cB_mount 35 = .ok (.iload_n 1, 1) := by decide +kernel
theorem dB_mount_36 : decode cB_mount 36 = .ok (.iconst (-1), 1) := by decide +kernel
theorem dB_mount_37 : decode cB_mount 37 = .ok (.if_icmp .ne 5, 3) := by decide +kernel
theorem dB_mount_40 : decode cB_mount 40 = .ok (.iconst 0, 1) := by decide +kernel
theorem dB_mount_41 : decode cB_mount 41 = .ok (.ireturn, 1) := by decide +kernel
theorem dB_mount_42 : decode cB_mount 42 = .ok (.aload_n 0, 1) := by decide +kernel
theorem dB_mount_43 : decode cB_mount 43 = .ok (.iload_n 1, 1) := by decide +kernel
theorem dB_mount_44 : decode cB_mount 44 = .ok (.putfield 44, 3) := by decide +kernel
theorem dB_mount_47 : decode cB_mount 47 = .ok (.aload_n 0, 1) := by decide +kernel
theorem dB_mount_48 : decode cB_mount 48 = .ok (.aload_n 0, 1) := by decide +kernel
theorem dB_mount_49 : decode cB_mount 49 = .ok (.getfield 33, 3) := by decide +kernel
theorem dB_mount_52 : decode cB_mount 52 = .ok (.iload_n 1, 1) := by decide +kernel
theorem dB_mount_53 : decode cB_mount 53 = .ok (.aaload, 1) := by decide +kernel
theorem dB_mount_54 : decode cB_mount 54 = .ok (.iconst 0, 1) := by decide +kernel
theorem dB_mount_55 : decode cB_mount 55 = .ok (.iconst 1, 1) := by decide +kernel
theorem dB_mount_56 : decode cB_mount 56 = .ok (.invokevirtual 99, 3) := by decide +kernel
theorem dB_mount_59 : decode cB_mount 59 = .ok (.putfield 47, 3) := by decide +kernel
theorem dB_mount_62 : decode cB_mount 62 = .ok (.aload_n 0, 1) := by decide +kernel
theorem dB_mount_63 : decode cB_mount 63 = .ok (.getfield 19, 3) := by decide +kernel
theorem dB_mount_66 : decode cB_mount 66 = .ok (.aload_n 0, 1) := by decide +kernel
theorem dB_mount_67 : decode cB_mount 67 = .ok (.getfield 33, 3) := by decide +kernel
theorem dB_mount_70 : decode cB_mount 70 = .ok (.iload_n 1, 1) := by decide +kernel
theorem dB_mount_71 : decode cB_mount 71 = .ok (.aaload, 1) := by decide +kernel
theorem dB_mount_72 : decode cB_mount 72 = .ok (.invokevirtual 103, 3) := by decide +kernel
theorem dB_mount_75 : decode cB_mount 75 = .ok (.aload_n 0, 1) := by decide +kernel
theorem dB_mount_76 : decode cB_mount 76 = .ok (.iconst 2, 1) := by decide +kernel
theorem dB_mount_77 : decode cB_mount 77 = .ok (.putfield 37, 3) := by decide +kernel
theorem dB_mount_80 : decode cB_mount 80 = .ok (.iconst 1, 1) := by decide +kernel
theorem dB_mount_81 : decode cB_mount 81 = .ok (.ireturn, 1) := by decide +kernel
theorem dB_create_0 : decode cB_create 0 = .ok (.aload_n 0, 1) := by decide +kernel
theorem dB_create_1 : decode cB_create 1 = .ok (.invokevirtual 107, 3) := by decide +kernel
theorem dB_create_4 : decode cB_create 4 = .ok (.iload_n 1, 1) := by decide +kernel
theorem dB_create_5 : decode cB_create 5 = .ok (.ifCond .eq 15, 3) := by decide +kernel
theorem dB_create_8 : decode cB_create 8 = .ok (.aload_n 0, 1) := by decide +kernel
theorem dB_create_9 : decode cB_create 9 = .ok (.getfield 19, 3) := by decide +kernel
theorem dB_create_12 : decode cB_create 12 = .ok (.iload_n 1, 1) := by decide +kernel
theorem dB_create_13 : decode cB_create 13 = .ok (.invokevirtual 110, 3) := by decide +kernel
theorem dB_create_16 : decode cB_create 16 = .ok (.iconst (-1), 1) := by decide +kernel
theorem dB_create_17 : decode cB_create 17 = .ok (.if_icmp .eq 13, 3) := by decide +kernel
theorem dB_create_20 : decode cB_create 20 = .ok (.new 50, 3) := by decide +kernel
theorem dB_create_23 : decode cB_create 23 = .ok (.dup, 1) := by decide +kernel
theorem dB_create_24 : decode cB_create 24 = .ok (.ldc 114, 2) := by decide +kernel
theorem dB_create_26 : decode cB_create 26 = .ok (.invokespecial 54, 3) := by decide +kernel
theorem dB_create_29 : decode cB_create 29 = .ok (.athrow, 1) := by decide +kernel
theorem dB_create_30 : decode cB_create 30 = .ok (.aload_n 0, 1) := by decide +kernel
theorem dB_create_31 : decode cB_create 31 = .ok (.getfield 19, 3) := by decide +kernel
theorem dB_create_34 : decode cB_create 34 = .ok (.iconst 0, 1) := by decide +kernel
theorem dB_create_35 : decode cB_create 35 = .ok (.invokevirtual 110, 3) := by decide +kernel
theorem dB_create_38 : decode cB_create 38 = .ok (.istore_n 2, 1) := by decide +kernel
theorem dB_create_39 : decode cB_create 39 = .ok (.iload_n 2, 1) := by decide +kernel
theorem dB_create_40 : decode cB_create 40 = .ok (.iconst (-1), 1) := by decide +kernel
theorem dB_create_41 : decode cB_create 41 = .ok (.if_icmp .ne 13, 3) := by decide +kernel
theorem dB_create_44 : decode cB_create 44 = .ok (.new 116, 3) := by decide +kernel
theorem dB_create_47 : decode cB_create 47 = .ok (.dup, 1) := by decide +kernel
theorem dB_create_48 : decode cB_create 48 = .ok (.ldc 118, 2) := by decide +kernel
theorem dB_create_50 : decode cB_create 50 = .ok (.invokespecial 120, 3) := by decide +kernel
theorem dB_create_53 : decode cB_create 53 = .ok (.athrow, 1) := by decide +kernel
theorem dB_create_54 : decode cB_create 54 = .ok (.aload_n 0, 1) := by decide +kernel
theorem dB_create_55 : decode cB_create 55 = .ok (.getfield 19, 3) := by decide +kernel
theorem dB_create_58 : decode cB_create 58 = .ok (.getfield 121, 3) := by decide +kernel
theorem dB_create_61 : decode cB_create 61 = .ok (.iload_n 2, 1) := by decide +kernel
theorem dB_create_62 : decode cB_create 62 = .ok (.aaload, 1) := by decide +kernel
theorem dB_create_63 : decode cB_create 63 = .ok (.iload_n 1, 1) := by decide +kernel
theorem dB_create_64 : decode cB_create 64 = .ok (.putfield 125, 3) := by decide +kernel
theorem dB_create_67 : decode cB_create 67 = .ok (.iload_n 2, 1) := by decide +kernel
theorem dB_create_68 : decode cB_create 68 = .ok (.ireturn, 1) := by decide +kernel
theorem dB_find_0 : decode cB_find 0 = .ok (.aload_n 0, 1) := by decide +kernel
theorem dB_find_1 : decode cB_find 1 = .ok (.invokevirtual 107, 3) := by decide +kernel
theorem dB_find_4 : decode cB_find 4 = .ok (.iload_n 1, 1) := by decide +kernel
theorem dB_find_5 : decode cB_find 5 = .ok (.ifCond .ne 7, 3) := by decide +kernel
theorem dB_find_8 : decode cB_find 8 = .ok (.iconst (-1), 1) := by decide +kernel
theorem dB_find_9 : decode cB_find 9 = .ok (.goto 11, 3) := by decide +kernel
theorem dB_find_12 : decode cB_find 12 = .ok (.aload_n 0, 1) := by decide +kernel
theorem dB_find_13 : decode cB_find 13 = .ok (.getfield 19, 3) := by decide +kernel
theorem dB_find_16 : decode cB_find 16 = .ok (.iload_n 1, 1) := by decide +kernel
theorem dB_find_17 : decode cB_find 17 = .ok (.invokevirtual 110, 3) := by decide +kernel
theorem dB_find_20 : decode cB_find 20 = .ok (.ireturn, 1) := by decide +kernel
theorem dB_length_0 : decode cB_length 0 = .ok (.aload_n 0, 1) := by decide +kernel
theorem dB_length_1 : decode cB_length 1 = .ok (.iload_n 1, 1) := by decide +kernel
theorem dB_length_2 : decode cB_length 2 = .ok (.invokevirtual 130, 3) := by decide +kernel
theorem dB_length_5 : decode cB_length 5 = .ok (.getfield 134, 3) := by decide +kernel
theorem dB_length_8 : decode cB_length 8 = .ok (.ireturn, 1) := by decide +kernel
theorem dB_append_0 : decode cB_append 0 = .ok (.aload_n 0, 1) := by decide +kernel
theorem dB_append_1 : decode cB_append 1 = .ok (.iload_n 1, 1) := by decide +kernel
theorem dB_append_2 : decode cB_append 2 = .ok (.invokevirtual 130, 3) := by decide +kernel
theorem dB_append_5 : decode cB_append 5 = .ok (.astore_n 3, 1) := by decide +kernel
theorem dB_append_6 : decode cB_append 6 = .ok (.aload_n 3, 1) := by decide +kernel
theorem dB_append_7 : decode cB_append 7 = .ok (.getfield 134, 3) := by decide +kernel
theorem dB_append_10 : decode cB_append 10 = .ok (.bipush 8, 2) := by decide +kernel
theorem dB_append_12 : decode cB_append 12 = .ok (.irem, 1) := by decide +kernel
theorem dB_append_13 : decode cB_append 13 = .ok (.istore 4, 2) := by decide +kernel
theorem dB_append_15 : decode cB_append 15 = .ok (.iload 4, 2) := by decide +kernel
theorem dB_append_17 : decode cB_append 17 = .ok (.ifCond .ne 11, 3) := by decide +kernel
theorem dB_append_20 : decode cB_append 20 = .ok (.aload_n 0, 1) := by decide +kernel
theorem dB_append_21 : decode cB_append 21 = .ok (.aload_n 3, 1) := by decide +kernel
theorem dB_append_22 : decode cB_append 22 = .ok (.invokevirtual 137, 3) := by decide +kernel
theorem dB_append_25 : decode cB_append 25 = .ok (.goto 8, 3) := by decide +kernel
theorem dB_append_28 : decode cB_append 28 = .ok (.aload_n 0, 1) := by decide +kernel
theorem dB_append_29 : decode cB_append 29 = .ok (.aload_n 3, 1) := by decide +kernel
theorem dB_append_30 : decode cB_append 30 = .ok (.invokevirtual 141, 3) := by decide +kernel
theorem dB_append_33 : decode cB_append 33 = .ok (.aload_n 3, 1) := by decide +kernel
theorem dB_append_34 : decode cB_append 34 = .ok (.iload 4, 2) := by decide +kernel
theorem dB_append_36 : decode cB_append 36 = .ok (.iload_n 2, 1) := by decide +kernel
theorem dB_append_37 : decode cB_append 37 = .ok (.invokevirtual 144, 3) := by decide +kernel
theorem dB_append_40 : decode cB_append 40 = .ok (.aload_n 3, 1) := by decide +kernel
theorem dB_append_41 : decode cB_append 41 = .ok (.dup, 1) := by decide +kernel
theorem dB_append_42 : decode cB_append 42 = .ok (.getfield 134, 3) := by decide +kernel
theorem dB_append_45 : decode cB_append 45 = .ok (.iconst 1, 1) := by decide +kernel
theorem dB_append_46 : decode cB_append 46 = .ok (.iadd, 1) := by decide +kernel
theorem dB_append_47 : decode cB_append 47 = .ok (.putfield 134, 3) := by decide +kernel
theorem dB_append_50 : decode cB_append 50 = .ok (.aload_n 3, 1) := by decide +kernel
theorem dB_append_51 : decode cB_append 51 = .ok (.getfield 134, 3) := by decide +kernel
theorem dB_append_54 : decode cB_append 54 = .ok (.ireturn, 1) := by decide +kernel
theorem dB_byteAt_0 : decode cB_byteAt 0 = .ok (.aload_n 0, 1) := by decide +kernel
theorem dB_byteAt_1 : decode cB_byteAt 1 = .ok (.iload_n 1, 1) := by decide +kernel
theorem dB_byteAt_2 : decode cB_byteAt 2 = .ok (.invokevirtual 130, 3) := by decide +kernel
theorem dB_byteAt_5 : decode cB_byteAt 5 = .ok (.astore_n 3, 1) := by decide +kernel
theorem dB_byteAt_6 : decode cB_byteAt 6 = .ok (.iload_n 2, 1) := by decide +kernel
theorem dB_byteAt_7 : decode cB_byteAt 7 = .ok (.ifCond .lt 11, 3) := by decide +kernel
theorem dB_byteAt_10 : decode cB_byteAt 10 = .ok (.iload_n 2, 1) := by decide +kernel
theorem dB_byteAt_11 : decode cB_byteAt 11 = .ok (.aload_n 3, 1) := by decide +kernel
theorem dB_byteAt_12 : decode cB_byteAt 12 = .ok (.getfield 134, 3) := by decide +kernel
theorem dB_byteAt_15 : decode cB_byteAt 15 = .ok (.if_icmp .lt 13, 3) := by decide +kernel
theorem dB_byteAt_18 : decode cB_byteAt 18 = .ok (.new 148, 3) := by decide +kernel
theorem dB_byteAt_21 : decode cB_byteAt 21 = .ok (.dup, 1) := by decide +kernel
theorem dB_byteAt_22 : decode cB_byteAt 22 = .ok (.ldc 150, 2) := by decide +kernel
theorem dB_byteAt_24 : decode cB_byteAt 24 = .ok (.invokespecial 152, 3) := by decide +kernel
theorem dB_byteAt_27 : decode cB_byteAt 27 = .ok (.athrow, 1) := by decide +kernel
theorem dB_byteAt_28 : decode cB_byteAt 28 = .ok (.aload_n 0, 1) := by decide +kernel
theorem dB_byteAt_29 : decode cB_byteAt 29 = .ok (.aload_n 3, 1) := by decide +kernel
theorem dB_byteAt_30 : decode cB_byteAt 30 = .ok (.aload_n 0, 1) := by decide +kernel
theorem dB_byteAt_31 : decode cB_byteAt 31 = .ok (.getfield 19, 3) := by decide +kernel
theorem dB_byteAt_34 : decode cB_byteAt 34 = .ok (.aload_n 3, 1) := by decide +kernel
theorem dB_byteAt_35 : decode cB_byteAt 35 = .ok (.iload_n 2, 1) := by decide +kernel
theorem dB_byteAt_36 : decode cB_byteAt 36 = .ok (.bipush 8, 2) := by decide +kernel
theorem dB_byteAt_38 : decode cB_byteAt 38 = .ok (.idiv, 1) := by decide +kernel
theorem dB_byteAt_39 : decode cB_byteAt 39 = .ok (.invokevirtual 153, 3) := by decide +kernel
theorem dB_byteAt_42 : decode cB_byteAt 42 = .ok (.invokevirtual 157, 3) := by decide +kernel
theorem dB_byteAt_45 : decode cB_byteAt 45 = .ok (.aload_n 3, 1) := by decide +kernel
theorem dB_byteAt_46 : decode cB_byteAt 46 = .ok (.iload_n 2, 1) := by decide +kernel
theorem dB_byteAt_47 : decode cB_byteAt 47 = .ok (.bipush 8, 2) := by decide +kernel
theorem dB_byteAt_49 : decode cB_byteAt 49 = .ok (.irem, 1) := by decide +kernel
theorem dB_byteAt_50 : decode cB_byteAt 50 = .ok (.invokevirtual 161, 3) := by decide +kernel
theorem dB_byteAt_53 : decode cB_byteAt 53 = .ok (.ireturn, 1) := by decide +kernel
theorem dB_truncate_0 : decode cB_truncate 0 = .ok (.aload_n 0, 1) := by decide +kernel
theorem dB_truncate_1 : decode cB_truncate 1 = .ok (.iload_n 1, 1) := by decide +kernel
theorem dB_truncate_2 : decode cB_truncate 2 = .ok (.invokevirtual 130, 3) := by decide +kernel
theorem dB_truncate_5 : decode cB_truncate 5 = .ok (.astore_n 3, 1) := by decide +kernel
theorem dB_truncate_6 : decode cB_truncate 6 = .ok (.iload_n 2, 1) := by decide +kernel
theorem dB_truncate_7 : decode cB_truncate 7 = .ok (.ifCond .lt 11, 3) := by decide +kernel
theorem dB_truncate_10 : decode cB_truncate 10 = .ok (.iload_n 2, 1) := by decide +kernel
theorem dB_truncate_11 : decode cB_truncate 11 = .ok (.aload_n 3, 1) := by decide +kernel
theorem dB_truncate_12 : decode cB_truncate 12 = .ok (.getfield 134, 3) := by decide +kernel
theorem dB_truncate_15 : decode cB_truncate 15 = .ok (.if_icmp .le 13, 3) := by decide +kernel
theorem dB_truncate_18 : decode cB_truncate 18 = .ok (.new 50, 3) := by decide +kernel
theorem dB_truncate_21 : decode cB_truncate 21 = .ok (.dup, 1) := by decide +kernel
theorem dB_truncate_22 : decode cB_truncate 22 = .ok (.ldc 164, 2) := by decide +kernel
theorem dB_truncate_24 : decode cB_truncate 24 = .ok (.invokespecial 54, 3) := by decide +kernel
theorem dB_truncate_27 : decode cB_truncate 27 = .ok (.athrow, 1) := by decide +kernel
theorem dB_truncate_28 : decode cB_truncate 28 = .ok (.aload_n 0, 1) := by decide +kernel
theorem dB_truncate_29 : decode cB_truncate 29 = .ok (.getfield 19, 3) := by decide +kernel
theorem dB_truncate_32 : decode cB_truncate 32 = .ok (.aload_n 3, 1) := by decide +kernel
theorem dB_truncate_33 : decode cB_truncate 33 = .ok (.iload_n 2, 1) := by decide +kernel
theorem dB_truncate_34 : decode cB_truncate 34 = .ok (.invokevirtual 166, 3) := by decide +kernel
theorem dB_truncate_37 : decode cB_truncate 37 = .ok (.ireturn, 1) := by decide +kernel
theorem dB_remove_0 : decode cB_remove 0 = .ok (.aload_n 0, 1) := by decide +kernel
theorem dB_remove_1 : decode cB_remove 1 = .ok (.iload_n 1, 1) := by decide +kernel
theorem dB_remove_2 : decode cB_remove 2 = .ok (.invokevirtual 130, 3) := by decide +kernel
theorem dB_remove_5 : decode cB_remove 5 = .ok (.astore_n 2, 1) := by decide +kernel
theorem dB_remove_6 : decode cB_remove 6 = .ok (.aload_n 0, 1) := by decide +kernel
theorem dB_remove_7 : decode cB_remove 7 = .ok (.getfield 19, 3) := by decide +kernel
theorem dB_remove_10 : decode cB_remove 10 = .ok (.aload_n 2, 1) := by decide +kernel
theorem dB_remove_11 : decode cB_remove 11 = .ok (.iconst 0, 1) := by decide +kernel
theorem dB_remove_12 : decode cB_remove 12 = .ok (.invokevirtual 166, 3) := by decide +kernel
theorem dB_remove_15 : decode cB_remove 15 = .ok (.istore_n 3, 1) := by decide +kernel
theorem dB_remove_16 : decode cB_remove 16 = .ok (.aload_n 2, 1) := by decide +kernel
theorem dB_remove_17 : decode cB_remove 17 = .ok (.invokevirtual 169, 3) := by decide +kernel
theorem dB_remove_20 : decode cB_remove 20 = .ok (.iload_n 3, 1) := by decide +kernel
theorem dB_remove_21 : decode cB_remove 21 = .ok (.ireturn, 1) := by decide +kernel
theorem dB_sync_0 : decode cB_sync 0 = .ok (.aload_n 0, 1) := by decide +kernel
theorem dB_sync_1 : decode cB_sync 1 = .ok (.invokevirtual 107, 3) := by decide +kernel
theorem dB_sync_4 : decode cB_sync 4 = .ok (.aload_n 0, 1) := by decide +kernel
theorem dB_sync_5 : decode cB_sync 5 = .ok (.invokevirtual 90, 3) := by decide +kernel
theorem dB_sync_8 : decode cB_sync 8 = .ok (.ireturn, 1) := by decide +kernel
theorem dB_free_0 : decode cB_free 0 = .ok (.aload_n 0, 1) := by decide +kernel
theorem dB_free_1 : decode cB_free 1 = .ok (.invokevirtual 107, 3) := by decide +kernel
theorem dB_free_4 : decode cB_free 4 = .ok (.aload_n 0, 1) := by decide +kernel
theorem dB_free_5 : decode cB_free 5 = .ok (.getfield 19, 3) := by decide +kernel
theorem dB_free_8 : decode cB_free 8 = .ok (.invokevirtual 172, 3) := by decide +kernel
theorem dB_free_11 : decode cB_free 11 = .ok (.ireturn, 1) := by decide +kernel
theorem dB_pageOf_0 : decode cB_pageOf 0 = .ok (.aload_n 0, 1) := by decide +kernel
theorem dB_pageOf_1 : decode cB_pageOf 1 = .ok (.iload_n 1, 1) := by decide +kernel
theorem dB_pageOf_2 : decode cB_pageOf 2 = .ok (.invokevirtual 130, 3) := by decide +kernel
theorem dB_pageOf_5 : decode cB_pageOf 5 = .ok (.astore_n 3, 1) := by decide +kernel
theorem dB_pageOf_6 : decode cB_pageOf 6 = .ok (.iload_n 2, 1) := by decide +kernel
theorem dB_pageOf_7 : decode cB_pageOf 7 = .ok (.ifCond .lt 14, 3) := by decide +kernel
theorem dB_pageOf_10 : decode cB_pageOf 10 = .ok (.iload_n 2, 1) := by decide +kernel
theorem dB_pageOf_11 : decode cB_pageOf 11 = .ok (.aload_n 3, 1) := by decide +kernel
theorem dB_pageOf_12 : decode cB_pageOf 12 = .ok (.getfield 134, 3) := by decide +kernel
theorem dB_pageOf_15 : decode cB_pageOf 15 = .ok (.invokestatic 175, 3) := by decide +kernel
theorem dB_pageOf_18 : decode cB_pageOf 18 = .ok (.if_icmp .lt 5, 3) := by decide +kernel
theorem dB_pageOf_21 : decode cB_pageOf 21 = .ok (.iconst (-1), 1) := by decide +kernel
theorem dB_pageOf_22 : decode cB_pageOf 22 = .ok (.ireturn, 1) := by decide +kernel
theorem dB_pageOf_23 : decode cB_pageOf 23 = .ok (.aload_n 0, 1) := by decide +kernel
theorem dB_pageOf_24 : decode cB_pageOf 24 = .ok (.getfield 19, 3) := by decide +kernel
theorem dB_pageOf_27 : decode cB_pageOf 27 = .ok (.aload_n 3, 1) := by decide +kernel
theorem dB_pageOf_28 : decode cB_pageOf 28 = .ok (.iload_n 2, 1) := by decide +kernel
theorem dB_pageOf_29 : decode cB_pageOf 29 = .ok (.invokevirtual 153, 3) := by decide +kernel
theorem dB_pageOf_32 : decode cB_pageOf 32 = .ok (.ireturn, 1) := by decide +kernel
theorem dB_queue_0 : decode cB_queue 0 = .ok (.aload_n 0, 1) := by decide +kernel
theorem dB_queue_1 : decode cB_queue 1 = .ok (.invokevirtual 107, 3) := by decide +kernel
theorem dB_queue_4 : decode cB_queue 4 = .ok (.iload_n 1, 1) := by decide +kernel
theorem dB_queue_5 : decode cB_queue 5 = .ok (.ifCond .lt 9, 3) := by decide +kernel
theorem dB_queue_8 : decode cB_queue 8 = .ok (.iload_n 1, 1) := by decide +kernel
theorem dB_queue_9 : decode cB_queue 9 = .ok (.bipush 101, 2) := by decide +kernel
theorem dB_queue_11 : decode cB_queue 11 = .ok (.if_icmp .lt 13, 3) := by decide +kernel
theorem dB_queue_14 : decode cB_queue 14 = .ok (.new 50, 3) := by decide +kernel
theorem dB_queue_17 : decode cB_queue 17 = .ok (.dup, 1) := by decide +kernel
theorem dB_queue_18 : decode cB_queue 18 = .ok (.ldc 178, 2) := by decide +kernel
theorem dB_queue_20 : decode cB_queue 20 = .ok (.invokespecial 54, 3) := by decide +kernel
theorem dB_queue_23 : decode cB_queue 23 = .ok (.athrow, 1) := by decide +kernel
theorem dB_queue_24 : decode cB_queue 24 = .ok (.aload_n 0, 1) := by decide +kernel
theorem dB_queue_25 : decode cB_queue 25 = .ok (.getfield 26, 3) := by decide +kernel
theorem dB_queue_28 : decode cB_queue 28 = .ok (.getfield 180, 3) := by decide +kernel
theorem dB_queue_31 : decode cB_queue 31 = .ok (.bipush 16, 2) := by decide +kernel
theorem dB_queue_33 : decode cB_queue 33 = .ok (.if_icmp .lt 13, 3) := by decide +kernel
theorem dB_queue_36 : decode cB_queue 36 = .ok (.new 116, 3) := by decide +kernel
theorem dB_queue_39 : decode cB_queue 39 = .ok (.dup, 1) := by decide +kernel
theorem dB_queue_40 : decode cB_queue 40 = .ok (.ldc 183, 2) := by decide +kernel
theorem dB_queue_42 : decode cB_queue 42 = .ok (.invokespecial 120, 3) := by decide +kernel
theorem dB_queue_45 : decode cB_queue 45 = .ok (.athrow, 1) := by decide +kernel
theorem dB_queue_46 : decode cB_queue 46 = .ok (.aload_n 0, 1) := by decide +kernel
theorem dB_queue_47 : decode cB_queue 47 = .ok (.getfield 26, 3) := by decide +kernel
theorem dB_queue_50 : decode cB_queue 50 = .ok (.iload_n 1, 1) := by decide +kernel
theorem dB_queue_51 : decode cB_queue 51 = .ok (.iload_n 2, 1) := by decide +kernel
theorem dB_queue_52 : decode cB_queue 52 = .ok (.lload_n 3, 1) := by decide +kernel
theorem dB_queue_53 : decode cB_queue 53 = .ok (.invokevirtual 185, 3) := by decide +kernel
theorem dB_queue_56 : decode cB_queue 56 = .ok (.ireturn, 1) := by decide +kernel
theorem dB_serve_0 : decode cB_serve 0 = .ok (.aload_n 0, 1) := by decide +kernel
theorem dB_serve_1 : decode cB_serve 1 = .ok (.invokevirtual 107, 3) := by decide +kernel
theorem dB_serve_4 : decode cB_serve 4 = .ok (.aload_n 0, 1) := by decide +kernel
theorem dB_serve_5 : decode cB_serve 5 = .ok (.getfield 10, 3) := by decide +kernel
theorem dB_serve_8 : decode cB_serve 8 = .ok (.getfield 72, 3) := by decide +kernel
theorem dB_serve_11 : decode cB_serve 11 = .ok (.lstore_n 1, 1) := by decide +kernel
theorem dB_serve_12 : decode cB_serve 12 = .ok (.aload_n 0, 1) := by decide +kernel
theorem dB_serve_13 : decode cB_serve 13 = .ok (.getfield 26, 3) := by decide +kernel
theorem dB_serve_16 : decode cB_serve 16 = .ok (.invokevirtual 189, 3) := by decide +kernel
theorem dB_serve_19 : decode cB_serve 19 = .ok (.iconst 0, 1) := by decide +kernel
theorem dB_serve_20 : decode cB_serve 20 = .ok (.istore_n 3, 1) := by decide +kernel
theorem dB_serve_21 : decode cB_serve 21 = .ok (.iload_n 3, 1) := by decide +kernel
theorem dB_serve_22 : decode cB_serve 22 = .ok (.aload_n 0, 1) := by decide +kernel
theorem dB_serve_23 : decode cB_serve 23 = .ok (.getfield 26, 3) := by decide +kernel
theorem dB_serve_26 : decode cB_serve 26 = .ok (.getfield 192, 3) := by decide +kernel
theorem dB_serve_29 : decode cB_serve 29 = .ok (.if_icmp .ge 34, 3) := by decide +kernel
theorem dB_serve_32 : decode cB_serve 32 = .ok (.aload_n 0, 1) := by decide +kernel
theorem dB_serve_33 : decode cB_serve 33 = .ok (.getfield 26, 3) := by decide +kernel
theorem dB_serve_36 : decode cB_serve 36 = .ok (.aload_n 0, 1) := by decide +kernel
theorem dB_serve_37 : decode cB_serve 37 = .ok (.getfield 10, 3) := by decide +kernel
theorem dB_serve_40 : decode cB_serve 40 = .ok (.invokevirtual 195, 3) := by decide +kernel
theorem dB_serve_43 : decode cB_serve 43 = .ok (.istore 4, 2) := by decide +kernel
theorem dB_serve_45 : decode cB_serve 45 = .ok (.iload 4, 2) := by decide +kernel
theorem dB_serve_47 : decode cB_serve 47 = .ok (.iconst (-1), 1) := by decide +kernel
theorem dB_serve_48 : decode cB_serve 48 = .ok (.if_icmp .eq 9, 3) := by decide +kernel
theorem dB_serve_51 : decode cB_serve 51 = .ok (.aload_n 0, 1) := by decide +kernel
theorem dB_serve_52 : decode cB_serve 52 = .ok (.iload 4, 2) := by decide +kernel
theorem dB_serve_54 : decode cB_serve 54 = .ok (.invokevirtual 199, 3) := by decide +kernel
theorem dB_serve_57 : decode cB_serve 57 = .ok (.iinc 3 1, 3) := by decide +kernel
theorem dB_serve_60 : decode cB_serve 60 = .ok (.goto (-39), 3) := by decide +kernel
theorem dB_serve_63 : decode cB_serve 63 = .ok (.aload_n 0, 1) := by decide +kernel
theorem dB_serve_64 : decode cB_serve 64 = .ok (.getfield 10, 3) := by decide +kernel
theorem dB_serve_67 : decode cB_serve 67 = .ok (.getfield 72, 3) := by decide +kernel
theorem dB_serve_70 : decode cB_serve 70 = .ok (.lload_n 1, 1) := by decide +kernel
theorem dB_serve_71 : decode cB_serve 71 = .ok (.lsub, 1) := by decide +kernel
theorem dB_serve_72 : decode cB_serve 72 = .ok (.l2i, 1) := by decide +kernel
theorem dB_serve_73 : decode cB_serve 73 = .ok (.ireturn, 1) := by decide +kernel
theorem dB_served_0 : decode cB_served 0 = .ok (.aload_n 0, 1) := by decide +kernel
theorem dB_served_1 : decode cB_served 1 = .ok (.invokevirtual 107, 3) := by decide +kernel
theorem dB_served_4 : decode cB_served 4 = .ok (.iload_n 1, 1) := by decide +kernel
theorem dB_served_5 : decode cB_served 5 = .ok (.ifCond .lt 14, 3) := by decide +kernel
theorem dB_served_8 : decode cB_served 8 = .ok (.iload_n 1, 1) := by decide +kernel
theorem dB_served_9 : decode cB_served 9 = .ok (.aload_n 0, 1) := by decide +kernel
theorem dB_served_10 : decode cB_served 10 = .ok (.getfield 26, 3) := by decide +kernel
theorem dB_served_13 : decode cB_served 13 = .ok (.getfield 192, 3) := by decide +kernel
theorem dB_served_16 : decode cB_served 16 = .ok (.if_icmp .lt 13, 3) := by decide +kernel
theorem dB_served_19 : decode cB_served 19 = .ok (.new 148, 3) := by decide +kernel
theorem dB_served_22 : decode cB_served 22 = .ok (.dup, 1) := by decide +kernel
theorem dB_served_23 : decode cB_served 23 = .ok (.ldc 203, 2) := by decide +kernel
theorem dB_served_25 : decode cB_served 25 = .ok (.invokespecial 152, 3) := by decide +kernel
theorem dB_served_28 : decode cB_served 28 = .ok (.athrow, 1) := by decide +kernel
theorem dB_served_29 : decode cB_served 29 = .ok (.aload_n 0, 1) := by decide +kernel
theorem dB_served_30 : decode cB_served 30 = .ok (.getfield 26, 3) := by decide +kernel
theorem dB_served_33 : decode cB_served 33 = .ok (.getfield 205, 3) := by decide +kernel
theorem dB_served_36 : decode cB_served 36 = .ok (.iload_n 1, 1) := by decide +kernel
theorem dB_served_37 : decode cB_served 37 = .ok (.laload, 1) := by decide +kernel
theorem dB_served_38 : decode cB_served 38 = .ok (.lreturn, 1) := by decide +kernel
theorem dB_pagesFor_0 : decode cB_pagesFor 0 = .ok (.iload_n 0, 1) := by decide +kernel
theorem dB_pagesFor_1 : decode cB_pagesFor 1 = .ok (.bipush 8, 2) := by decide +kernel
theorem dB_pagesFor_3 : decode cB_pagesFor 3 = .ok (.iadd, 1) := by decide +kernel
theorem dB_pagesFor_4 : decode cB_pagesFor 4 = .ok (.iconst 1, 1) := by decide +kernel
theorem dB_pagesFor_5 : decode cB_pagesFor 5 = .ok (.isub, 1) := by decide +kernel
theorem dB_pagesFor_6 : decode cB_pagesFor 6 = .ok (.bipush 8, 2) := by decide +kernel
theorem dB_pagesFor_8 : decode cB_pagesFor 8 = .ok (.idiv, 1) := by decide +kernel
theorem dB_pagesFor_9 : decode cB_pagesFor 9 = .ok (.ireturn, 1) := by decide +kernel
theorem dB_needMounted_0 : decode cB_needMounted 0 = .ok (.aload_n 0, 1) := by decide +kernel
theorem dB_needMounted_1 : decode cB_needMounted 1 = .ok (.getfield 37, 3) := by decide +kernel
theorem dB_needMounted_4 : decode cB_needMounted 4 = .ok (.iconst 2, 1) := by decide +kernel
theorem dB_needMounted_5 : decode cB_needMounted 5 = .ok (.if_icmp .eq 13, 3) := by decide +kernel
theorem dB_needMounted_8 : decode cB_needMounted 8 = .ok (.new 63, 3) := by decide +kernel
theorem dB_needMounted_11 : decode cB_needMounted 11 = .ok (.dup, 1) := by decide +kernel
theorem dB_needMounted_12 : decode cB_needMounted 12 = .ok (.ldc 209, 2) := by decide +kernel
theorem dB_needMounted_14 : decode cB_needMounted 14 = .ok (.invokespecial 67, 3) := by decide +kernel
theorem dB_needMounted_17 : decode cB_needMounted 17 = .ok (.athrow, 1) := by decide +kernel
theorem dB_needMounted_18 : decode cB_needMounted 18 = .ok (.return_, 1) := by decide +kernel
theorem dB_entryOf_0 : decode cB_entryOf 0 = .ok (.aload_n 0, 1) := by decide +kernel
theorem dB_entryOf_1 : decode cB_entryOf 1 = .ok (.invokevirtual 107, 3) := by decide +kernel
theorem dB_entryOf_4 : decode cB_entryOf 4 = .ok (.iload_n 1, 1) := by decide +kernel
theorem dB_entryOf_5 : decode cB_entryOf 5 = .ok (.ifCond .lt 24, 3) := by decide +kernel
theorem dB_entryOf_8 : decode cB_entryOf 8 = .ok (.iload_n 1, 1) := by decide +kernel
theorem dB_entryOf_9 : decode cB_entryOf 9 = .ok (.bipush 8, 2) := by decide +kernel
theorem dB_entryOf_11 : decode cB_entryOf 11 = .ok (.if_icmp .ge 18, 3) := by decide +kernel
theorem dB_entryOf_14 : decode cB_entryOf 14 = .ok (.aload_n 0, 1) := by decide +kernel
theorem dB_entryOf_15 : decode cB_entryOf 15 = .ok (.getfield 19, 3) := by decide +kernel
theorem dB_entryOf_18 : decode cB_entryOf 18 = .ok (.getfield 121, 3) := by decide +kernel
theorem dB_entryOf_21 : decode cB_entryOf 21 = .ok (.iload_n 1, 1) := by decide +kernel
theorem dB_entryOf_22 : decode cB_entryOf 22 = .ok (.aaload, 1) := by decide +kernel
theorem dB_entryOf_23 : decode cB_entryOf 23 = .ok (.getfield 125, 3) := by decide +kernel
theorem dB_entryOf_26 : decode cB_entryOf 26 = .ok (.ifCond .ne 13, 3) := by decide +kernel
theorem dB_entryOf_29 : decode cB_entryOf 29 = .ok (.new 50, 3) := by decide +kernel
theorem dB_entryOf_32 : decode cB_entryOf 32 = .ok (.dup, 1) := by decide +kernel
theorem dB_entryOf_33 : decode cB_entryOf 33 = .ok (.ldc 211, 2) := by decide +kernel
theorem dB_entryOf_35 : decode cB_entryOf 35 = .ok (.invokespecial 54, 3) := by decide +kernel
theorem dB_entryOf_38 : decode cB_entryOf 38 = .ok (.athrow, 1) := by decide +kernel
theorem dB_entryOf_39 : decode cB_entryOf 39 = .ok (.aload_n 0, 1) := by decide +kernel
theorem dB_entryOf_40 : decode cB_entryOf 40 = .ok (.getfield 19, 3) := by decide +kernel
theorem dB_entryOf_43 : decode cB_entryOf 43 = .ok (.getfield 121, 3) := by decide +kernel
theorem dB_entryOf_46 : decode cB_entryOf 46 = .ok (.iload_n 1, 1) := by decide +kernel
theorem dB_entryOf_47 : decode cB_entryOf 47 = .ok (.aaload, 1) := by decide +kernel
theorem dB_entryOf_48 : decode cB_entryOf 48 = .ok (.areturn, 1) := by decide +kernel
theorem dB_forgetAll_0 : decode cB_forgetAll 0 = .ok (.aload_n 0, 1) := by decide +kernel
theorem dB_forgetAll_1 : decode cB_forgetAll 1 = .ok (.getfield 19, 3) := by decide +kernel
theorem dB_forgetAll_4 : decode cB_forgetAll 4 = .ok (.invokevirtual 213, 3) := by decide +kernel
theorem dB_forgetAll_7 : decode cB_forgetAll 7 = .ok (.aload_n 0, 1) := by decide +kernel
theorem dB_forgetAll_8 : decode cB_forgetAll 8 = .ok (.getfield 26, 3) := by decide +kernel
theorem dB_forgetAll_11 : decode cB_forgetAll 11 = .ok (.invokevirtual 214, 3) := by decide +kernel
theorem dB_forgetAll_14 : decode cB_forgetAll 14 = .ok (.return_, 1) := by decide +kernel
theorem dB_usePower_0 : decode cB_usePower 0 = .ok (.aload_n 0, 1) := by decide +kernel
theorem dB_usePower_1 : decode cB_usePower 1 = .ok (.getfield 41, 3) := by decide +kernel
theorem dB_usePower_4 : decode cB_usePower 4 = .ok (.ifCond .ne 18, 3) := by decide +kernel
theorem dB_usePower_7 : decode cB_usePower 7 = .ok (.aload_n 0, 1) := by decide +kernel
theorem dB_usePower_8 : decode cB_usePower 8 = .ok (.iconst 0, 1) := by decide +kernel
theorem dB_usePower_9 : decode cB_usePower 9 = .ok (.putfield 37, 3) := by decide +kernel
theorem dB_usePower_12 : decode cB_usePower 12 = .ok (.new 63, 3) := by decide +kernel
theorem dB_usePower_15 : decode cB_usePower 15 = .ok (.dup, 1) := by decide +kernel
theorem dB_usePower_16 : decode cB_usePower 16 = .ok (.ldc 215, 2) := by decide +kernel
theorem dB_usePower_18 : decode cB_usePower 18 = .ok (.invokespecial 67, 3) := by decide +kernel
theorem dB_usePower_21 : decode cB_usePower 21 = .ok (.athrow, 1) := by decide +kernel
theorem dB_usePower_22 : decode cB_usePower 22 = .ok (.aload_n 0, 1) := by decide +kernel
theorem dB_usePower_23 : decode cB_usePower 23 = .ok (.getfield 41, 3) := by decide +kernel
theorem dB_usePower_26 : decode cB_usePower 26 = .ok (.ifCond .le 13, 3) := by decide +kernel
theorem dB_usePower_29 : decode cB_usePower 29 = .ok (.aload_n 0, 1) := by decide +kernel
theorem dB_usePower_30 : decode cB_usePower 30 = .ok (.dup, 1) := by decide +kernel
theorem dB_usePower_31 : decode cB_usePower 31 = .ok (.getfield 41, 3) := by decide +kernel
theorem dB_usePower_34 : decode cB_usePower 34 = .ok (.iconst 1, 1) := by decide +kernel
theorem dB_usePower_35 : decode cB_usePower 35 = .ok (.isub, 1) := by decide +kernel
theorem dB_usePower_36 : decode cB_usePower 36 = .ok (.putfield 41, 3) := by decide +kernel
theorem dB_usePower_39 : decode cB_usePower 39 = .ok (.return_, 1) := by decide +kernel
theorem dB_readPage_0 : decode cB_readPage 0 = .ok (.aload_n 0, 1) := by decide +kernel
theorem dB_readPage_1 : decode cB_readPage 1 = .ok (.invokevirtual 217, 3) := by decide +kernel
theorem dB_readPage_4 : decode cB_readPage 4 = .ok (.aload_n 0, 1) := by decide +kernel
theorem dB_readPage_5 : decode cB_readPage 5 = .ok (.getfield 10, 3) := by decide +kernel
theorem dB_readPage_8 : decode cB_readPage 8 = .ok (.iload_n 1, 1) := by decide +kernel
theorem dB_readPage_9 : decode cB_readPage 9 = .ok (.invokevirtual 220, 3) := by decide +kernel
theorem dB_readPage_12 : decode cB_readPage 12 = .ok (.aload_n 0, 1) := by decide +kernel
theorem dB_readPage_13 : decode cB_readPage 13 = .ok (.getfield 10, 3) := by decide +kernel
theorem dB_readPage_16 : decode cB_readPage 16 = .ok (.getfield 223, 3) := by decide +kernel
theorem dB_readPage_19 : decode cB_readPage 19 = .ok (.iload_n 1, 1) := by decide +kernel
theorem dB_readPage_20 : decode cB_readPage 20 = .ok (.laload, 1) := by decide +kernel
theorem dB_readPage_21 : decode cB_readPage 21 = .ok (.lreturn, 1) := by decide +kernel
theorem dB_writePage_0 : decode cB_writePage 0 = .ok (.aload_n 0, 1) := by decide +kernel
theorem dB_writePage_1 : decode cB_writePage 1 = .ok (.invokevirtual 217, 3) := by decide +kernel
theorem dB_writePage_4 : decode cB_writePage 4 = .ok (.aload_n 0, 1) := by decide +kernel
theorem dB_writePage_5 : decode cB_writePage 5 = .ok (.getfield 10, 3) := by decide +kernel
theorem dB_writePage_8 : decode cB_writePage 8 = .ok (.iload_n 1, 1) := by decide +kernel
theorem dB_writePage_9 : decode cB_writePage 9 = .ok (.invokevirtual 220, 3) := by decide +kernel
theorem dB_writePage_12 : decode cB_writePage 12 = .ok (.aload_n 0, 1) := by decide +kernel
theorem dB_writePage_13 : decode cB_writePage 13 = .ok (.getfield 10, 3) := by decide +kernel
theorem dB_writePage_16 : decode cB_writePage 16 = .ok (.getfield 223, 3) := by decide +kernel
theorem dB_writePage_19 : decode cB_writePage 19 = .ok (.iload_n 1, 1) := by decide +kernel
theorem dB_writePage_20 : decode cB_writePage 20 = .ok (.lload_n 2, 1) := by decide +kernel
theorem dB_writePage_21 : decode cB_writePage 21 = .ok (.lastore, 1) := by decide +kernel
theorem dB_writePage_22 : decode cB_writePage 22 = .ok (.return_, 1) := by decide +kernel
theorem dB_save_0 : decode cB_save 0 = .ok (.aload_n 1, 1) := by decide +kernel
theorem dB_save_1 : decode cB_save 1 = .ok (.getfield 226, 3) := by decide +kernel
theorem dB_save_4 : decode cB_save 4 = .ok (.ifCond .eq 20, 3) := by decide +kernel
theorem dB_save_7 : decode cB_save 7 = .ok (.aload_n 0, 1) := by decide +kernel
theorem dB_save_8 : decode cB_save 8 = .ok (.aload_n 1, 1) := by decide +kernel
theorem dB_save_9 : decode cB_save 9 = .ok (.getfield 229, 3) := by decide +kernel
theorem dB_save_12 : decode cB_save 12 = .ok (.aload_n 1, 1) := by decide +kernel
theorem dB_save_13 : decode cB_save 13 = .ok (.getfield 232, 3) := by decide +kernel
theorem dB_save_16 : decode cB_save 16 = .ok (.invokevirtual 235, 3) := by decide +kernel
theorem dB_save_19 : decode cB_save 19 = .ok (.aload_n 1, 1) := by decide +kernel
theorem dB_save_20 : decode cB_save 20 = .ok (.iconst 0, 1) := by decide +kernel
theorem dB_save_21 : decode cB_save 21 = .ok (.putfield 226, 3) := by decide +kernel
theorem dB_save_24 : decode cB_save 24 = .ok (.return_, 1) := by decide +kernel
theorem dB_load_0 : decode cB_load 0 = .ok (.aload_n 1, 1) := by decide +kernel
theorem dB_load_1 : decode cB_load 1 = .ok (.getfield 229, 3) := by decide +kernel
theorem dB_load_4 : decode cB_load 4 = .ok (.iload_n 2, 1) := by decide +kernel
theorem dB_load_5 : decode cB_load 5 = .ok (.if_icmp .ne 4, 3) := by decide +kernel
theorem dB_load_8 : decode cB_load 8 = .ok (.return_, 1) := by decide +kernel
theorem dB_load_9 : decode cB_load 9 = .ok (.aload_n 0, 1) := by decide +kernel
theorem dB_load_10 : decode cB_load 10 = .ok (.aload_n 1, 1) := by decide +kernel
theorem dB_load_11 : decode cB_load 11 = .ok (.invokevirtual 239, 3) := by decide +kernel
theorem dB_load_14 : decode cB_load 14 = .ok (.aload_n 0, 1) := by decide +kernel
theorem dB_load_15 : decode cB_load 15 = .ok (.iload_n 2, 1) := by decide +kernel
theorem dB_load_16 : decode cB_load 16 = .ok (.invokevirtual 242, 3) := by decide +kernel
theorem dB_load_19 : decode cB_load 19 = .ok (.lstore_n 3, 1) := by decide +kernel
theorem dB_load_20 : decode cB_load 20 = .ok (.aload_n 1, 1) := by decide +kernel
theorem dB_load_21 : decode cB_load 21 = .ok (.iload_n 2, 1) := by decide +kernel
theorem dB_load_22 : decode cB_load 22 = .ok (.lload_n 3, 1) := by decide +kernel
theorem dB_load_23 : decode cB_load 23 = .ok (.invokevirtual 246, 3) := by decide +kernel
theorem dB_load_26 : decode cB_load 26 = .ok (.return_, 1) := by decide +kernel
theorem dB_openNewPage_0 : decode cB_openNewPage 0 = .ok (.aload_n 0, 1) := by decide +kernel
theorem dB_openNewPage_1 : decode cB_openNewPage 1 = .ok (.invokevirtual 249, 3) := by decide +kernel
theorem dB_openNewPage_4 : decode cB_openNewPage 4 = .ok (.istore_n 2, 1) := by decide +kernel
theorem dB_openNewPage_5 : decode cB_openNewPage 5 = .ok (.aload_n 0, 1) := by decide +kernel
theorem dB_openNewPage_6 : decode cB_openNewPage 6 = .ok (.aload_n 1, 1) := by decide +kernel
theorem dB_openNewPage_7 : decode cB_openNewPage 7 = .ok (.invokevirtual 239, 3) := by decide +kernel
theorem dB_openNewPage_10 : decode cB_openNewPage 10 = .ok (.aload_n 0, 1) := by decide +kernel
theorem dB_openNewPage_11 : decode cB_openNewPage 11 = .ok (.getfield 19, 3) := by decide +kernel
theorem dB_openNewPage_14 : decode cB_openNewPage 14 = .ok (.aload_n 1, 1) := by decide +kernel
theorem dB_openNewPage_15 : decode cB_openNewPage 15 = .ok (.iload_n 2, 1) := by decide +kernel
theorem dB_openNewPage_16 : decode cB_openNewPage 16 = .ok (.invokevirtual 252, 3) := by decide +kernel
theorem dB_openNewPage_19 : decode cB_openNewPage 19 = .ok (.aload_n 1, 1) := by decide +kernel
theorem dB_openNewPage_20 : decode cB_openNewPage 20 = .ok (.iload_n 2, 1) := by decide +kernel
theorem dB_openNewPage_21 : decode cB_openNewPage 21 = .ok (.lconst 0, 1) := by decide +kernel
theorem dB_openNewPage_22 : decode cB_openNewPage 22 = .ok (.invokevirtual 246, 3) := by decide +kernel
theorem dB_openNewPage_25 : decode cB_openNewPage 25 = .ok (.return_, 1) := by decide +kernel
theorem dB_openLastPage_0 : decode cB_openLastPage 0 = .ok (.aload_n 0, 1) := by decide +kernel
theorem dB_openLastPage_1 : decode cB_openLastPage 1 = .ok (.getfield 19, 3) := by decide +kernel
theorem dB_openLastPage_4 : decode cB_openLastPage 4 = .ok (.aload_n 1, 1) := by decide +kernel
theorem dB_openLastPage_5 : decode cB_openLastPage 5 = .ok (.aload_n 1, 1) := by decide +kernel
theorem dB_openLastPage_6 : decode cB_openLastPage 6 = .ok (.getfield 134, 3) := by decide +kernel
theorem dB_openLastPage_9 : decode cB_openLastPage 9 = .ok (.invokestatic 175, 3) := by decide +kernel
theorem dB_openLastPage_12 : decode cB_openLastPage 12 = .ok (.iconst 1, 1) := by decide +kernel
theorem dB_openLastPage_13 : decode cB_openLastPage 13 = .ok (.isub, 1) := by decide +kernel
theorem dB_openLastPage_14 : decode cB_openLastPage 14 = .ok (.invokevirtual 153, 3) := by decide +kernel
theorem dB_openLastPage_17 : decode cB_openLastPage 17 = .ok (.istore_n 2, 1) := by decide +kernel
theorem dB_openLastPage_18 : decode cB_openLastPage 18 = .ok (.aload_n 0, 1) := by decide +kernel
theorem dB_openLastPage_19 : decode cB_openLastPage 19 = .ok (.getfield 19, 3) := by decide +kernel
theorem dB_openLastPage_22 : decode cB_openLastPage 22 = .ok (.getfield 255, 3) := by decide +kernel
theorem dB_openLastPage_25 : decode cB_openLastPage 25 = .ok (.iload_n 2, 1) := by decide +kernel
theorem dB_openLastPage_26 : decode cB_openLastPage 26 = .ok (.baload, 1) := by decide +kernel
theorem dB_openLastPage_27 : decode cB_openLastPage 27 = .ok (.ifCond .ne 10, 3) := by decide +kernel
theorem dB_openLastPage_30 : decode cB_openLastPage 30 = .ok (.aload_n 0, 1) := by decide +kernel
theorem dB_openLastPage_31 : decode cB_openLastPage 31 = .ok (.aload_n 1, 1) := by decide +kernel
theorem dB_openLastPage_32 : decode cB_openLastPage 32 = .ok (.iload_n 2, 1) := by decide +kernel
theorem dB_openLastPage_33 : decode cB_openLastPage 33 = .ok (.invokevirtual 157, 3) := by decide +kernel
theorem dB_openLastPage_36 : decode cB_openLastPage 36 = .ok (.return_, 1) := by decide +kernel
theorem dB_openLastPage_37 : decode cB_openLastPage 37 = .ok (.aload_n 0, 1) := by decide +kernel
theorem dB_openLastPage_38 : decode cB_openLastPage 38 = .ok (.invokevirtual 249, 3) := by decide +kernel
theorem dB_openLastPage_41 : decode cB_openLastPage 41 = .ok (.istore_n 3, 1) := by decide +kernel
theorem dB_openLastPage_42 : decode cB_openLastPage 42 = .ok (.aload_n 0, 1) := by decide +kernel
theorem dB_openLastPage_43 : decode cB_openLastPage 43 = .ok (.aload_n 1, 1) := by decide +kernel
theorem dB_openLastPage_44 : decode cB_openLastPage 44 = .ok (.iload_n 2, 1) := by decide +kernel
theorem dB_openLastPage_45 : decode cB_openLastPage 45 = .ok (.invokevirtual 157, 3) := by decide +kernel
theorem dB_openLastPage_48 : decode cB_openLastPage 48 = .ok (.aload_n 0, 1) := by decide +kernel
theorem dB_openLastPage_49 : decode cB_openLastPage 49 = .ok (.getfield 19, 3) := by decide +kernel
theorem dB_openLastPage_52 : decode cB_openLastPage 52 = .ok (.aload_n 1, 1) := by decide +kernel
theorem dB_openLastPage_53 : decode cB_openLastPage 53 = .ok (.iload_n 3, 1) := by decide +kernel
theorem dB_openLastPage_54 : decode cB_openLastPage 54 = .ok (.invokevirtual 258, 3) := by decide +kernel
theorem dB_openLastPage_57 : decode cB_openLastPage 57 = .ok (.aload_n 1, 1) := by decide +kernel
theorem dB_openLastPage_58 : decode cB_openLastPage 58 = .ok (.iload_n 3, 1) := by decide +kernel
theorem dB_openLastPage_59 : decode cB_openLastPage 59 = .ok (.aload_n 1, 1) := by decide +kernel
theorem dB_openLastPage_60 : decode cB_openLastPage 60 = .ok (.getfield 232, 3) := by decide +kernel
theorem dB_openLastPage_63 : decode cB_openLastPage 63 = .ok (.invokevirtual 246, 3) := by decide +kernel
theorem dB_openLastPage_66 : decode cB_openLastPage 66 = .ok (.return_, 1) := by decide +kernel
theorem dB_neededFreePage_0 : decode cB_neededFreePage 0 = .ok (.aload_n 0, 1) := by decide +kernel
theorem dB_neededFreePage_1 : decode cB_neededFreePage 1 = .ok (.getfield 19, 3) := by decide +kernel
theorem dB_neededFreePage_4 : decode cB_neededFreePage 4 = .ok (.invokevirtual 261, 3) := by decide +kernel
theorem dB_neededFreePage_7 : decode cB_neededFreePage 7 = .ok (.istore_n 1, 1) := by decide +kernel
theorem dB_neededFreePage_8 : decode cB_neededFreePage 8 = .ok (.iload_n 1, 1) := by decide +kernel
theorem dB_neededFreePage_9 : decode cB_neededFreePage 9 = .ok (.iconst (-1), 1) := by decide +kernel
theorem dB_neededFreePage_10 : decode cB_neededFreePage 10 = .ok (.if_icmp .ne 14, 3) := by decide +kernel
theorem dB_neededFreePage_13 : decode cB_neededFreePage 13 = .ok (.new 116, 3) := by decide +kernel
theorem dB_neededFreePage_16 : decode cB_neededFreePage 16 = .ok (.dup, 1) := by decide +kernel
theorem dB_neededFreePage_17 : decode cB_neededFreePage 17 = .ok (.ldc_w 264, 3) := by decide +kernel
theorem dB_neededFreePage_20 : decode cB_neededFreePage 20 = .ok (.invokespecial 120, 3) := by decide +kernel
theorem dB_neededFreePage_23 : decode cB_neededFreePage 23 = .ok (.athrow, 1) := by decide +kernel
theorem dB_neededFreePage_24 : decode cB_neededFreePage 24 = .ok (.iload_n 1, 1) := by decide +kernel
theorem dB_neededFreePage_25 : decode cB_neededFreePage 25 = .ok (.ireturn, 1) := by decide +kernel
theorem dB_writeAll_0 : decode cB_writeAll 0 = .ok (.aload_n 0, 1) := by decide +kernel
theorem dB_writeAll_1 : decode cB_writeAll 1 = .ok (.getfield 10, 3) := by decide +kernel
theorem dB_writeAll_4 : decode cB_writeAll 4 = .ok (.getfield 72, 3) := by decide +kernel
theorem dB_writeAll_7 : decode cB_writeAll 7 = .ok (.lstore_n 1, 1) := by decide +kernel
theorem dB_writeAll_8 : decode cB_writeAll 8 = .ok (.iconst 0, 1) := by decide +kernel
theorem dB_writeAll_9 : decode cB_writeAll 9 = .ok (.istore_n 3, 1) := by decide +kernel
theorem dB_writeAll_10 : decode cB_writeAll 10 = .ok (.iload_n 3, 1) := by decide +kernel
theorem dB_writeAll_11 : decode cB_writeAll 11 = .ok (.bipush 8, 2) := by decide +kernel
theorem dB_writeAll_13 : decode cB_writeAll 13 = .ok (.if_icmp .ge 22, 3) := by decide +kernel
theorem dB_writeAll_16 : decode cB_writeAll 16 = .ok (.aload_n 0, 1) := by decide +kernel
theorem dB_writeAll_17 : decode cB_writeAll 17 = .ok (.aload_n 0, 1) := by decide +kernel
theorem dB_writeAll_18 : decode cB_writeAll 18 = .ok (.getfield 19, 3) := by decide +kernel
theorem dB_writeAll_21 : decode cB_writeAll 21 = .ok (.getfield 121, 3) := by decide +kernel
theorem dB_writeAll_24 : decode cB_writeAll 24 = .ok (.iload_n 3, 1) := by decide +kernel
theorem dB_writeAll_25 : decode cB_writeAll 25 = .ok (.aaload, 1) := by decide +kernel
theorem dB_writeAll_26 : decode cB_writeAll 26 = .ok (.invokevirtual 239, 3) := by decide +kernel
theorem dB_writeAll_29 : decode cB_writeAll 29 = .ok (.iinc 3 1, 3) := by decide +kernel
theorem dB_writeAll_32 : decode cB_writeAll 32 = .ok (.goto (-22), 3) := by decide +kernel
theorem dB_writeAll_35 : decode cB_writeAll 35 = .ok (.aload_n 0, 1) := by decide +kernel
theorem dB_writeAll_36 : decode cB_writeAll 36 = .ok (.invokevirtual 266, 3) := by decide +kernel
theorem dB_writeAll_39 : decode cB_writeAll 39 = .ok (.aload_n 0, 1) := by decide +kernel
theorem dB_writeAll_40 : decode cB_writeAll 40 = .ok (.getfield 19, 3) := by decide +kernel
theorem dB_writeAll_43 : decode cB_writeAll 43 = .ok (.invokevirtual 269, 3) := by decide +kernel
theorem dB_writeAll_46 : decode cB_writeAll 46 = .ok (.aload_n 0, 1) := by decide +kernel
theorem dB_writeAll_47 : decode cB_writeAll 47 = .ok (.getfield 10, 3) := by decide +kernel
theorem dB_writeAll_50 : decode cB_writeAll 50 = .ok (.getfield 72, 3) := by decide +kernel
theorem dB_writeAll_53 : decode cB_writeAll 53 = .ok (.lload_n 1, 1) := by decide +kernel
theorem dB_writeAll_54 : decode cB_writeAll 54 = .ok (.lsub, 1) := by decide +kernel
theorem dB_writeAll_55 : decode cB_writeAll 55 = .ok (.l2i, 1) := by decide +kernel
theorem dB_writeAll_56 : decode cB_writeAll 56 = .ok (.ireturn, 1) := by decide +kernel
theorem dB_writeOtherImage_0 : decode cB_writeOtherImage 0 = .ok (.iconst 1, 1) := by decide +kernel
theorem dB_writeOtherImage_1 : decode cB_writeOtherImage 1 = .ok (.aload_n 0, 1) := by decide +kernel
theorem dB_writeOtherImage_2 : decode cB_writeOtherImage 2 = .ok (.getfield 44, 3) := by decide +kernel
theorem dB_writeOtherImage_5 : decode cB_writeOtherImage 5 = .ok (.isub, 1) := by decide +kernel
theorem dB_writeOtherImage_6 : decode cB_writeOtherImage 6 = .ok (.istore_n 1, 1) := by decide +kernel
theorem dB_writeOtherImage_7 : decode cB_writeOtherImage 7 = .ok (.aload_n 0, 1) := by decide +kernel
theorem dB_writeOtherImage_8 : decode cB_writeOtherImage 8 = .ok (.getfield 47, 3) := by decide +kernel
theorem dB_writeOtherImage_11 : decode cB_writeOtherImage 11 = .ok (.iconst 1, 1) := by decide +kernel
theorem dB_writeOtherImage_12 : decode cB_writeOtherImage 12 = .ok (.iadd, 1) := by decide +kernel
theorem dB_writeOtherImage_13 : decode cB_writeOtherImage 13 = .ok (.sipush 255, 3) := by decide +kernel
theorem dB_writeOtherImage_16 : decode cB_writeOtherImage 16 = .ok (.iand, 1) := by decide +kernel
theorem dB_writeOtherImage_17 : decode cB_writeOtherImage 17 = .ok (.istore_n 2, 1) := by decide +kernel
theorem dB_writeOtherImage_18 : decode cB_writeOtherImage 18 = .ok (.aload_n 0, 1) := by decide +kernel
theorem dB_writeOtherImage_19 : decode cB_writeOtherImage 19 = .ok (.getfield 33, 3) := by decide +kernel
theorem dB_writeOtherImage_22 : decode cB_writeOtherImage 22 = .ok (.iload_n 1, 1) := by decide +kernel
theorem dB_writeOtherImage_23 : decode cB_writeOtherImage 23 = .ok (.aaload, 1) := by decide +kernel
theorem dB_writeOtherImage_24 : decode cB_writeOtherImage 24 = .ok (.astore_n 3, 1) := by decide +kernel
theorem dB_writeOtherImage_25 : decode cB_writeOtherImage 25 = .ok (.aload_n 0, 1) := by decide +kernel
theorem dB_writeOtherImage_26 : decode cB_writeOtherImage 26 = .ok (.getfield 19, 3) := by decide +kernel
theorem dB_writeOtherImage_29 : decode cB_writeOtherImage 29 = .ok (.aload_n 3, 1) := by decide +kernel
theorem dB_writeOtherImage_30 : decode cB_writeOtherImage 30 = .ok (.iload_n 2, 1) := by decide +kernel
theorem dB_writeOtherImage_31 : decode cB_writeOtherImage 31 = .ok (.invokevirtual 272, 3) := by decide +kernel
theorem dB_writeOtherImage_34 : decode cB_writeOtherImage 34 = .ok (.iload_n 1, 1) := by decide +kernel
theorem dB_writeOtherImage_35 : decode cB_writeOtherImage 35 = .ok (.bipush 20, 2) := by decide +kernel
theorem dB_writeOtherImage_37 : decode cB_writeOtherImage 37 = .ok (.imul, 1) := by decide +kernel
theorem dB_writeOtherImage_38 : decode cB_writeOtherImage 38 = .ok (.istore 4, 2) := by decide +kernel
theorem dB_writeOtherImage_40 : decode cB_writeOtherImage 40 = .ok (.iconst 1, 1) := by decide +kernel
theorem dB_writeOtherImage_41 : decode cB_writeOtherImage 41 = .ok (.istore 5, 2) := by decide +kernel
theorem dB_writeOtherImage_43 : decode cB_writeOtherImage 43 = .ok (.iload 5, 2) := by decide +kernel
theorem dB_writeOtherImage_45 : decode cB_writeOtherImage 45 = .ok (.bipush 20, 2) := by decide +kernel
theorem dB_writeOtherImage_47 : decode cB_writeOtherImage 47 = .ok (.if_icmp .ge 25, 3) := by decide +kernel
theorem dB_writeOtherImage_50 : decode cB_writeOtherImage 50 = .ok (.aload_n 0, 1) := by decide +kernel
theorem dB_writeOtherImage_51 : decode cB_writeOtherImage 51 = .ok (.iload 4, 2) := by decide +kernel
theorem dB_writeOtherImage_53 : decode cB_writeOtherImage 53 = .ok (.iload 5, 2) := by decide +kernel
theorem dB_writeOtherImage_55 : decode cB_writeOtherImage 55 = .ok (.iadd, 1) := by decide +kernel
theorem dB_writeOtherImage_56 : decode cB_writeOtherImage 56 = .ok (.aload_n 3, 1) := by decide +kernel
theorem dB_writeOtherImage_57 : decode cB_writeOtherImage 57 = .ok (.getfield 276, 3) := by decide +kernel
theorem dB_writeOtherImage_60 : decode cB_writeOtherImage 60 = .ok (.iload 5, 2) := by decide +kernel
theorem dB_writeOtherImage_62 : decode cB_writeOtherImage 62 = .ok (.laload, 1) := by decide +kernel
theorem dB_writeOtherImage_63 : decode cB_writeOtherImage 63 = .ok (.invokevirtual 235, 3) := by decide +kernel
theorem dB_writeOtherImage_66 : decode cB_writeOtherImage 66 = .ok (.iinc 5 1, 3) := by decide +kernel
theorem dB_writeOtherImage_69 : decode cB_writeOtherImage 69 = .ok (.goto (-26), 3) := by decide +kernel
theorem dB_writeOtherImage_72 : decode cB_writeOtherImage 72 = .ok (.aload_n 0, 1) := by decide +kernel
theorem dB_writeOtherImage_73 : decode cB_writeOtherImage 73 = .ok (.iload 4, 2) := by decide +kernel
theorem dB_writeOtherImage_75 : decode cB_writeOtherImage 75 = .ok (.aload_n 3, 1) := by decide +kernel
theorem dB_writeOtherImage_76 : decode cB_writeOtherImage 76 = .ok (.getfield 276, 3) := by decide +kernel
theorem dB_writeOtherImage_79 : decode cB_writeOtherImage 79 = .ok (.iconst 0, 1) := by decide +kernel
theorem dB_writeOtherImage_80 : decode cB_writeOtherImage 80 = .ok (.laload, 1) := by decide +kernel
theorem dB_writeOtherImage_81 : decode cB_writeOtherImage 81 = .ok (.invokevirtual 235, 3) := by decide +kernel
theorem dB_writeOtherImage_84 : decode cB_writeOtherImage 84 = .ok (.aload_n 0, 1) := by decide +kernel
theorem dB_writeOtherImage_85 : decode cB_writeOtherImage 85 = .ok (.iload_n 1, 1) := by decide +kernel
theorem dB_writeOtherImage_86 : decode cB_writeOtherImage 86 = .ok (.putfield 44, 3) := by decide +kernel
theorem dB_writeOtherImage_89 : decode cB_writeOtherImage 89 = .ok (.aload_n 0, 1) := by decide +kernel
theorem dB_writeOtherImage_90 : decode cB_writeOtherImage 90 = .ok (.iload_n 2, 1) := by decide +kernel
theorem dB_writeOtherImage_91 : decode cB_writeOtherImage 91 = .ok (.putfield 47, 3) := by decide +kernel
theorem dB_writeOtherImage_94 : decode cB_writeOtherImage 94 = .ok (.return_, 1) := by decide +kernel
theorem dB_readImages_0 : decode cB_readImages 0 = .ok (.iconst 0, 1) := by decide +kernel
theorem dB_readImages_1 : decode cB_readImages 1 = .ok (.istore_n 1, 1) := by decide +kernel
theorem dB_readImages_2 : decode cB_readImages 2 = .ok (.iload_n 1, 1) := by decide +kernel
theorem dB_readImages_3 : decode cB_readImages 3 = .ok (.iconst 2, 1) := by decide +kernel
theorem dB_readImages_4 : decode cB_readImages 4 = .ok (.if_icmp .ge 44, 3) := by decide +kernel
theorem dB_readImages_7 : decode cB_readImages 7 = .ok (.iconst 0, 1) := by decide +kernel
theorem dB_readImages_8 : decode cB_readImages 8 = .ok (.istore_n 2, 1) := by decide +kernel
theorem dB_readImages_9 : decode cB_readImages 9 = .ok (.iload_n 2, 1) := by decide +kernel
theorem dB_readImages_10 : decode cB_readImages 10 = .ok (.bipush 20, 2) := by decide +kernel
theorem dB_readImages_12 : decode cB_readImages 12 = .ok (.if_icmp .ge 30, 3) := by decide +kernel
theorem dB_readImages_15 : decode cB_readImages 15 = .ok (.aload_n 0, 1) := by decide +kernel
theorem dB_readImages_16 : decode cB_readImages 16 = .ok (.getfield 33, 3) := by decide +kernel
theorem dB_readImages_19 : decode cB_readImages 19 = .ok (.iload_n 1, 1) := by decide +kernel
theorem dB_readImages_20 : decode cB_readImages 20 = .ok (.aaload, 1) := by decide +kernel
theorem dB_readImages_21 : decode cB_readImages 21 = .ok (.getfield 276, 3) := by decide +kernel
theorem dB_readImages_24 : decode cB_readImages 24 = .ok (.iload_n 2, 1) := by decide +kernel
theorem dB_readImages_25 : decode cB_readImages 25 = .ok (.aload_n 0, 1) := by decide +kernel
theorem dB_readImages_26 : decode cB_readImages 26 = .ok (.iload_n 1, 1) := by decide +kernel
theorem dB_readImages_27 : decode cB_readImages 27 = .ok (.bipush 20, 2) := by decide +kernel
theorem dB_readImages_29 : decode cB_readImages 29 = .ok (.imul, 1) := by decide +kernel
theorem dB_readImages_30 : decode cB_readImages 30 = .ok (.iload_n 2, 1) := by decide +kernel
theorem dB_readImages_31 : decode cB_readImages 31 = .ok (.iadd, 1) := by decide +kernel
theorem dB_readImages_32 : decode cB_readImages 32 = .ok (.invokevirtual 242, 3) := by decide +kernel
theorem dB_readImages_35 : decode cB_readImages 35 = .ok (.lastore, 1) := by decide +kernel
theorem dB_readImages_36 : decode cB_readImages 36 = .ok (.iinc 2 1, 3) := by decide +kernel
theorem dB_readImages_39 : decode cB_readImages 39 = .ok (.goto (-30), 3) := by decide +kernel
theorem dB_readImages_42 : decode cB_readImages 42 = .ok (.iinc 1 1, 3) := by decide +kernel
theorem dB_readImages_45 : decode cB_readImages 45 = .ok (.goto (-43), 3) := by decide +kernel
theorem dB_readImages_48 : decode cB_readImages 48 = .ok (.return_, 1) := by decide +kernel
theorem dB_newestImage_0 : decode cB_newestImage 0 = .ok (.aload_n 0, 1) := by decide +kernel
theorem dB_newestImage_1 : decode cB_newestImage 1 = .ok (.getfield 33, 3) := by decide +kernel
theorem dB_newestImage_4 : decode cB_newestImage 4 = .ok (.iconst 0, 1) := by decide +kernel
theorem dB_newestImage_5 : decode cB_newestImage 5 = .ok (.aaload, 1) := by decide +kernel
theorem dB_newestImage_6 : decode cB_newestImage 6 = .ok (.invokevirtual 277, 3) := by decide +kernel
theorem dB_newestImage_9 : decode cB_newestImage 9 = .ok (.istore_n 1, 1) := by decide +kernel
theorem dB_newestImage_10 : decode cB_newestImage 10 = .ok (.aload_n 0, 1) := by decide +kernel
theorem dB_newestImage_11 : decode cB_newestImage 11 = .ok (.getfield 33, 3) := by decide +kernel
theorem dB_newestImage_14 : decode cB_newestImage 14 = .ok (.iconst 1, 1) := by decide +kernel
theorem dB_newestImage_15 : decode cB_newestImage 15 = .ok (.aaload, 1) := by decide +kernel
theorem dB_newestImage_16 : decode cB_newestImage 16 = .ok (.invokevirtual 277, 3) := by decide +kernel
theorem dB_newestImage_19 : decode cB_newestImage 19 = .ok (.istore_n 2, 1) := by decide +kernel
theorem dB_newestImage_20 : decode cB_newestImage 20 = .ok (.iload_n 1, 1) := by decide +kernel
theorem dB_newestImage_21 : decode cB_newestImage 21 = .ok (.ifCond .eq 52, 3) := by decide +kernel
theorem dB_newestImage_24 : decode cB_newestImage 24 = .ok (.iload_n 2, 1) := by decide +kernel
theorem dB_newestImage_25 : decode cB_newestImage 25 = .ok (.ifCond .eq 48, 3) := by decide +kernel
theorem dB_newestImage_28 : decode cB_newestImage 28 = .ok (.aload_n 0, 1) := by decide +kernel
theorem dB_newestImage_29 : decode cB_newestImage 29 = .ok (.getfield 33, 3) := by decide +kernel
theorem dB_newestImage_32 : decode cB_newestImage 32 = .ok (.iconst 1, 1) := by decide +kernel
theorem dB_newestImage_33 : decode cB_newestImage 33 = .ok (.aaload, 1) := by decide +kernel
theorem dB_newestImage_34 : decode cB_newestImage 34 = .ok (.iconst 0, 1) := by decide +kernel
theorem dB_newestImage_35 : decode cB_newestImage 35 = .ok (.iconst 1, 1) := by decide +kernel
theorem dB_newestImage_36 : decode cB_newestImage 36 = .ok (.invokevirtual 99, 3) := by decide +kernel
theorem dB_newestImage_39 : decode cB_newestImage 39 = .ok (.aload_n 0, 1) := by decide +kernel
theorem dB_newestImage_40 : decode cB_newestImage 40 = .ok (.getfield 33, 3) := by decide +kernel
theorem dB_newestImage_43 : decode cB_newestImage 43 = .ok (.iconst 0, 1) := by decide +kernel
theorem dB_newestImage_44 : decode cB_newestImage 44 = .ok (.aaload, 1) := by decide +kernel
theorem dB_newestImage_45 : decode cB_newestImage 45 = .ok (.iconst 0, 1) := by decide +kernel
theorem dB_newestImage_46 : decode cB_newestImage 46 = .ok (.iconst 1, 1) := by decide +kernel
theorem dB_newestImage_47 : decode cB_newestImage 47 = .ok (.invokevirtual 99, 3) := by decide +kernel
theorem dB_newestImage_50 : decode cB_newestImage 50 = .ok (.isub, 1) := by decide +kernel
theorem dB_newestImage_51 : decode cB_newestImage 51 = .ok (.sipush 255, 3) := by decide +kernel
theorem dB_newestImage_54 : decode cB_newestImage 54 = .ok (.iand, 1) := by decide +kernel
theorem dB_newestImage_55 : decode cB_newestImage 55 = .ok (.istore_n 3, 1) := by decide +kernel
theorem dB_newestImage_56 : decode cB_newestImage 56 = .ok (.iload_n 3, 1) := by decide +kernel
theorem dB_newestImage_57 : decode cB_newestImage 57 = .ok (.iconst 1, 1) := by decide +kernel
theorem dB_newestImage_58 : decode cB_newestImage 58 = .ok (.if_icmp .lt 13, 3) := by decide +kernel
theorem dB_newestImage_61 : decode cB_newestImage 61 = .ok (.iload_n 3, 1) := by decide +kernel
theorem dB_newestImage_62 : decode cB_newestImage 62 = .ok (.bipush 127, 2) := by decide +kernel
theorem dB_newestImage_64 : decode cB_newestImage 64 = .ok (.if_icmp .gt 7, 3) := by decide +kernel
theorem dB_newestImage_67 : decode cB_newestImage 67 = .ok (.iconst 1, 1) := by decide +kernel
theorem dB_newestImage_68 : decode cB_newestImage 68 = .ok (.goto 4, 3) := by decide +kernel
theorem dB_newestImage_71 : decode cB_newestImage 71 = .ok (.iconst 0, 1) := by decide +kernel
theorem dB_newestImage_72 : decode cB_newestImage 72 = .ok (.ireturn, 1) := by decide +kernel
theorem dB_newestImage_73 : decode cB_newestImage 73 = .ok (.iload_n 1, 1) := by decide +kernel
theorem dB_newestImage_74 : decode cB_newestImage 74 = .ok (.ifCond .eq 5, 3) := by decide +kernel
theorem dB_newestImage_77 : decode cB_newestImage 77 = .ok (.iconst 0, 1) := by decide +kernel
theorem dB_newestImage_78 : decode cB_newestImage 78 = .ok (.ireturn, 1) := by decide +kernel
theorem dB_newestImage_79 : decode cB_newestImage 79 = .ok (.iload_n 2, 1) := by decide +kernel
theorem dB_newestImage_80 : decode cB_newestImage 80 = .ok (.ifCond .eq 7, 3) := by decide +kernel
theorem dB_newestImage_83 : decode cB_newestImage 83 = .ok (.iconst 1, 1) := by decide +kernel
theorem dB_newestImage_84 : decode cB_newestImage 84 = .ok (.goto 4, 3) := by decide +kernel
theorem dB_newestImage_87 : decode cB_newestImage 87 = .ok (.iconst (-1), 1) := by decide +kernel
theorem dB_newestImage_88 : decode cB_newestImage 88 = .ok (.ireturn, 1) := by decide +kernel
theorem dB_transferAsked_0 : decode cB_transferAsked 0 = .ok (.aload_n 0, 1) := by decide +kernel
theorem dB_transferAsked_1 : decode cB_transferAsked 1 = .ok (.getfield 26, 3) := by decide +kernel
theorem dB_transferAsked_4 : decode cB_transferAsked 4 = .ok (.getfield 281, 3) := by decide +kernel
theorem dB_transferAsked_7 : decode cB_transferAsked 7 = .ok (.iload_n 1, 1) := by decide +kernel
theorem dB_transferAsked_8 : decode cB_transferAsked 8 = .ok (.iaload, 1) := by decide +kernel
theorem dB_transferAsked_9 : decode cB_transferAsked 9 = .ok (.istore_n 2, 1) := by decide +kernel
theorem dB_transferAsked_10 : decode cB_transferAsked 10 = .ok (.aload_n 0, 1) := by decide +kernel
theorem dB_transferAsked_11 : decode cB_transferAsked 11 = .ok (.getfield 26, 3) := by decide +kernel
theorem dB_transferAsked_14 : decode cB_transferAsked 14 = .ok (.getfield 285, 3) := by decide +kernel
theorem dB_transferAsked_17 : decode cB_transferAsked 17 = .ok (.iload_n 1, 1) := by decide +kernel
theorem dB_transferAsked_18 : decode cB_transferAsked 18 = .ok (.baload, 1) := by decide +kernel
theorem dB_transferAsked_19 : decode cB_transferAsked 19 = .ok (.ifCond .ne 20, 3) := by decide +kernel
theorem dB_transferAsked_22 : decode cB_transferAsked 22 = .ok (.aload_n 0, 1) := by decide +kernel
theorem dB_transferAsked_23 : decode cB_transferAsked 23 = .ok (.getfield 26, 3) := by decide +kernel
theorem dB_transferAsked_26 : decode cB_transferAsked 26 = .ok (.getfield 205, 3) := by decide +kernel
theorem dB_transferAsked_29 : decode cB_transferAsked 29 = .ok (.iload_n 1, 1) := by decide +kernel
theorem dB_transferAsked_30 : decode cB_transferAsked 30 = .ok (.aload_n 0, 1) := by decide +kernel
theorem dB_transferAsked_31 : decode cB_transferAsked 31 = .ok (.iload_n 2, 1) := by decide +kernel
theorem dB_transferAsked_32 : decode cB_transferAsked 32 = .ok (.invokevirtual 242, 3) := by decide +kernel
theorem dB_transferAsked_35 : decode cB_transferAsked 35 = .ok (.lastore, 1) := by decide +kernel
theorem dB_transferAsked_36 : decode cB_transferAsked 36 = .ok (.goto 28, 3) := by decide +kernel
theorem dB_transferAsked_39 : decode cB_transferAsked 39 = .ok (.aload_n 0, 1) := by decide +kernel
theorem dB_transferAsked_40 : decode cB_transferAsked 40 = .ok (.getfield 19, 3) := by decide +kernel
theorem dB_transferAsked_43 : decode cB_transferAsked 43 = .ok (.iload_n 2, 1) := by decide +kernel
theorem dB_transferAsked_44 : decode cB_transferAsked 44 = .ok (.invokevirtual 288, 3) := by decide +kernel
theorem dB_transferAsked_47 : decode cB_transferAsked 47 = .ok (.ifCond .eq 17, 3) := by decide +kernel
theorem dB_transferAsked_50 : decode cB_transferAsked 50 = .ok (.aload_n 0, 1) := by decide +kernel
theorem dB_transferAsked_51 : decode cB_transferAsked 51 = .ok (.iload_n 2, 1) := by decide +kernel
theorem dB_transferAsked_52 : decode cB_transferAsked 52 = .ok (.aload_n 0, 1) := by decide +kernel
theorem dB_transferAsked_53 : decode cB_transferAsked 53 = .ok (.getfield 26, 3) := by decide +kernel
theorem dB_transferAsked_56 : decode cB_transferAsked 56 = .ok (.getfield 292, 3) := by decide +kernel
theorem dB_transferAsked_59 : decode cB_transferAsked 59 = .ok (.iload_n 1, 1) := by decide +kernel
theorem dB_transferAsked_60 : decode cB_transferAsked 60 = .ok (.laload, 1) := by decide +kernel
theorem dB_transferAsked_61 : decode cB_transferAsked 61 = .ok (.invokevirtual 235, 3) := by decide +kernel
theorem dB_transferAsked_64 : decode cB_transferAsked 64 = .ok (.return_, 1) := by decide +kernel
