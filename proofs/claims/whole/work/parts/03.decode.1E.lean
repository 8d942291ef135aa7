theorem dE_init_0 : decode cE_init 0 = .ok (.aload_n 0, 1) := by decide +kernel
theorem dE_init_1 : decode cE_init 1 = .ok (.invokespecial 3, 3) := by decide +kernel
theorem dE_init_4 : decode cE_init 4 = .ok (.aload_n 0, 1) := by decide +kernel
theorem dE_init_5 : decode cE_init 5 = .ok (.iconst 0, 1) := by decide +kernel
theorem dE_init_6 : decode cE_init 6 = .ok (.putfield 9, 3) := by decide +kernel
theorem dE_init_9 : decode cE_init 9 = .ok (.aload_n 0, 1) := by decide +kernel
theorem dE_init_10 : decode cE_init 10 = .ok (.iconst 0, 1) := by decide +kernel
theorem dE_init_11 : decode cE_init 11 = .ok (.putfield 15, 3) := by decide +kernel
theorem dE_init_14 : decode cE_init 14 = .ok (.aload_n 0, 1) := by decide +kernel
theorem dE_init_15 : decode cE_init 15 = .ok (.iconst 0, 1) := by decide +kernel
theorem dE_init_16 : decode cE_init 16 = .ok (.putfield 18, 3) := by decide +kernel
theorem dE_init_19 : decode cE_init 19 = .ok (.aload_n 0, 1) := by decide +kernel
theorem dE_init_20 : decode cE_init 20 = .ok (.iconst 0, 1) := by decide +kernel
theorem dE_init_21 : decode cE_init 21 = .ok (.putfield 21, 3) := by decide +kernel
theorem dE_init_24 : decode cE_init 24 = .ok (.aload_n 0, 1) := by decide +kernel
theorem dE_init_25 : decode cE_init 25 = .ok (.lconst 0, 1) := by decide +kernel
theorem dE_init_26 : decode cE_init 26 = .ok (.putfield 24, 3) := by decide +kernel
theorem dE_init_29 : decode cE_init 29 = .ok (.aload_n 0, 1) := by decide +kernel
theorem dE_init_30 : decode cE_init 30 = .ok (.iconst 0, 1) := by decide +kernel
theorem dE_init_31 : decode cE_init 31 = .ok (.putfield 28, 3) := by decide +kernel
theorem dE_init_34 : decode cE_init 34 = .ok (.return_, 1) := by decide +kernel
theorem dE_forget_0 : decode cE_forget 0 = .ok (.aload_n 0, 1) := by decide +kernel
theorem dE_forget_1 : decode cE_forget 1 = .ok (.iconst 0, 1) := by decide +kernel
theorem dE_forget_2 : decode cE_forget 2 = .ok (.putfield 9, 3) := by decide +kernel
theorem dE_forget_5 : decode cE_forget 5 = .ok (.aload_n 0, 1) := by decide +kernel
theorem dE_forget_6 : decode cE_forget 6 = .ok (.iconst 0, 1) := by decide +kernel
theorem dE_forget_7 : decode cE_forget 7 = .ok (.putfield 15, 3) := by decide +kernel
theorem dE_forget_10 : decode cE_forget 10 = .ok (.aload_n 0, 1) := by decide +kernel
theorem dE_forget_11 : decode cE_forget 11 = .ok (.iconst 0, 1) := by decide +kernel
theorem dE_forget_12 : decode cE_forget 12 = .ok (.putfield 18, 3) := by decide +kernel
theorem dE_forget_15 : decode cE_forget 15 = .ok (.aload_n 0, 1) := by decide +kernel
theorem dE_forget_16 : decode cE_forget 16 = .ok (.iconst 0, 1) := by decide +kernel
theorem dE_forget_17 : decode cE_forget 17 = .ok (.lconst 0, 1) := by decide +kernel
theorem dE_forget_18 : decode cE_forget 18 = .ok (.invokevirtual 32, 3) := by decide +kernel
theorem dE_forget_21 : decode cE_forget 21 = .ok (.return_, 1) := by decide +kernel
theorem dE_openWindow_0 : decode cE_openWindow 0 = .ok (.aload_n 0, 1) := by decide +kernel
theorem dE_openWindow_1 : decode cE_openWindow 1 = .ok (.iload_n 1, 1) := by decide +kernel
theorem dE_openWindow_2 : decode cE_openWindow 2 = .ok (.putfield 21, 3) := by decide +kernel
theorem dE_openWindow_5 : decode cE_openWindow 5 = .ok (.aload_n 0, 1) := by decide +kernel
theorem dE_openWindow_6 : decode cE_openWindow 6 = .ok (.lload_n 2, 1) := by decide +kernel
theorem dE_openWindow_7 : decode cE_openWindow 7 = .ok (.putfield 24, 3) := by decide +kernel
theorem dE_openWindow_10 : decode cE_openWindow 10 = .ok (.aload_n 0, 1) := by decide +kernel
theorem dE_openWindow_11 : decode cE_openWindow 11 = .ok (.iconst 0, 1) := by decide +kernel
theorem dE_openWindow_12 : decode cE_openWindow 12 = .ok (.putfield 28, 3) := by decide +kernel
theorem dE_openWindow_15 : decode cE_openWindow 15 = .ok (.return_, 1) := by decide +kernel
theorem dE_putIntoWindow_0 : decode cE_putIntoWindow 0 = .ok (.bipush 8, 2) := by decide +kernel
theorem dE_putIntoWindow_2 : decode cE_putIntoWindow 2 = .ok (.iload_n 1, 1) := by decide +kernel
theorem dE_putIntoWindow_3 : decode cE_putIntoWindow 3 = .ok (.imul, 1) := by decide +kernel
theorem dE_putIntoWindow_4 : decode cE_putIntoWindow 4 = .ok (.istore_n 3, 1) := by decide +kernel
theorem dE_putIntoWindow_5 : decode cE_putIntoWindow 5 = .ok (.aload_n 0, 1) := by decide +kernel
theorem dE_putIntoWindow_6 : decode cE_putIntoWindow 6 = .ok (.aload_n 0, 1) := by decide +kernel
theorem dE_putIntoWindow_7 : decode cE_putIntoWindow 7 = .ok (.getfield 24, 3) := by decide +kernel
theorem dE_putIntoWindow_10 : decode cE_putIntoWindow 10 = .ok (.ldc2_w 36, 3) := by decide +kernel
theorem dE_putIntoWindow_13 : decode cE_putIntoWindow 13 = .ok (.iload_n 3, 1) := by decide +kernel
theorem dE_putIntoWindow_14 : decode cE_putIntoWindow 14 = .ok (.lshl, 1) := by decide +kernel
theorem dE_putIntoWindow_15 : decode cE_putIntoWindow 15 = .ok (.ldc2_w 38, 3) := by decide +kernel
theorem dE_putIntoWindow_18 : decode cE_putIntoWindow 18 = .ok (.lxor, 1) := by decide +kernel
theorem dE_putIntoWindow_19 : decode cE_putIntoWindow 19 = .ok (.land, 1) := by decide +kernel
theorem dE_putIntoWindow_20 : decode cE_putIntoWindow 20 = .ok (.iload_n 2, 1) := by decide +kernel
theorem dE_putIntoWindow_21 : decode cE_putIntoWindow 21 = .ok (.i2l, 1) := by decide +kernel
theorem dE_putIntoWindow_22 : decode cE_putIntoWindow 22 = .ok (.ldc2_w 36, 3) := by decide +kernel
theorem dE_putIntoWindow_25 : decode cE_putIntoWindow 25 = .ok (.land, 1) := by decide +kernel
theorem dE_putIntoWindow_26 : decode cE_putIntoWindow 26 = .ok (.iload_n 3, 1) := by decide +kernel
theorem dE_putIntoWindow_27 : decode cE_putIntoWindow 27 = .ok (.lshl, 1) := by decide +kernel
theorem dE_putIntoWindow_28 : decode cE_putIntoWindow 28 = .ok (.lor, 1) := by decide +kernel
theorem dE_putIntoWindow_29 : decode cE_putIntoWindow 29 = .ok (.putfield 24, 3) := by decide +kernel
theorem dE_putIntoWindow_32 : decode cE_putIntoWindow 32 = .ok (.aload_n 0, 1) := by decide +kernel
theorem dE_putIntoWindow_33 : decode cE_putIntoWindow 33 = .ok (.iconst 1, 1) := by decide +kernel
theorem dE_putIntoWindow_34 : decode cE_putIntoWindow 34 = .ok (.putfield 28, 3) := by decide +kernel
theorem dE_putIntoWindow_37 : decode cE_putIntoWindow 37 = .ok (.return_, 1) := by decide +kernel
theorem dE_byteInWindow_0 : decode cE_byteInWindow 0 = .ok (.aload_n 0, 1) := by decide +kernel
theorem dE_byteInWindow_1 : decode cE_byteInWindow 1 = .ok (.getfield 24, 3) := by decide +kernel
theorem dE_byteInWindow_4 : decode cE_byteInWindow 4 = .ok (.bipush 8, 2) := by decide +kernel
theorem dE_byteInWindow_6 : decode cE_byteInWindow 6 = .ok (.iload_n 1, 1) := by decide +kernel
theorem dE_byteInWindow_7 : decode cE_byteInWindow 7 = .ok (.imul, 1) := by decide +kernel
theorem dE_byteInWindow_8 : decode cE_byteInWindow 8 = .ok (.lushr, 1) := by decide +kernel
theorem dE_byteInWindow_9 : decode cE_byteInWindow 9 = .ok (.l2i, 1) := by decide +kernel
theorem dE_byteInWindow_10 : decode cE_byteInWindow 10 = .ok (.sipush 255, 3) := by decide +kernel
theorem dE_byteInWindow_13 : decode cE_byteInWindow 13 = .ok (.iand, 1) := by decide +kernel
theorem dE_byteInWindow_14 : decode cE_byteInWindow 14 = .ok (.ireturn, 1) := by decide +kernel
