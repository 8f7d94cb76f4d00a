theorem dX3_multiplyRows_68 : decode cX3_multiplyRows 68 = .ok (.iaload, 1) := by decide +kernel
theorem dX3_multiplyRows_69 : decode cX3_multiplyRows 69 = .ok (.invokevirtual 79, 3) := by decide +kernel
theorem dX3_multiplyRows_72 : decode cX3_multiplyRows 72 = .ok (.iinc 4 1, 3) := by decide +kernel
theorem dX3_multiplyRows_75 : decode cX3_multiplyRows 75 = .ok (.goto (-50), 3) := by decide +kernel
theorem dX3_multiplyRows_78 : decode cX3_multiplyRows 78 = .ok (.lload_n 1, 1) := by decide +kernel
theorem dX3_multiplyRows_79 : decode cX3_multiplyRows 79 = .ok (.aload_n 0, 1) := by decide +kernel
theorem dX3_multiplyRows_80 : decode cX3_multiplyRows 80 = .ok (.getfield 21, 3) := by decide +kernel
theorem dX3_multiplyRows_83 : decode cX3_multiplyRows 83 = .ok (.iload_n 3, 1) := by decide +kernel
theorem dX3_multiplyRows_84 : decode cX3_multiplyRows 84 = .ok (.aaload, 1) := by decide +kernel
theorem dX3_multiplyRows_85 : decode cX3_multiplyRows 85 = .ok (.iload_n 3, 1) := by decide +kernel
theorem dX3_multiplyRows_86 : decode cX3_multiplyRows 86 = .ok (.laload, 1) := by decide +kernel
theorem dX3_multiplyRows_87 : decode cX3_multiplyRows 87 = .ok (.ladd, 1) := by decide +kernel
theorem dX3_multiplyRows_88 : decode cX3_multiplyRows 88 = .ok (.lstore_n 1, 1) := by decide +kernel
theorem dX3_multiplyRows_89 : decode cX3_multiplyRows 89 = .ok (.iinc 3 1, 3) := by decide +kernel
theorem dX3_multiplyRows_92 : decode cX3_multiplyRows 92 = .ok (.goto (-88), 3) := by decide +kernel
theorem dX3_multiplyRows_95 : decode cX3_multiplyRows 95 = .ok (.lload_n 1, 1) := by decide +kernel
theorem dX3_multiplyRows_96 : decode cX3_multiplyRows 96 = .ok (.lreturn, 1) := by decide +kernel
theorem dX3_addRow_0 : decode cX3_addRow 0 = .ok (.iconst 0, 1) := by decide +kernel
theorem dX3_addRow_1 : decode cX3_addRow 1 = .ok (.istore 4, 2) := by decide +kernel
theorem dX3_addRow_3 : decode cX3_addRow 3 = .ok (.iload 4, 2) := by decide +kernel
theorem dX3_addRow_5 : decode cX3_addRow 5 = .ok (.aload_n 0, 1) := by decide +kernel
theorem dX3_addRow_6 : decode cX3_addRow 6 = .ok (.getfield 37, 3) := by decide +kernel
theorem dX3_addRow_9 : decode cX3_addRow 9 = .ok (.if_icmp .ge 23, 3) := by decide +kernel
theorem dX3_addRow_12 : decode cX3_addRow 12 = .ok (.aload_n 1, 1) := by decide +kernel
theorem dX3_addRow_13 : decode cX3_addRow 13 = .ok (.iload 4, 2) := by decide +kernel
theorem dX3_addRow_15 : decode cX3_addRow 15 = .ok (.dup2, 1) := by decide +kernel
theorem dX3_addRow_16 : decode cX3_addRow 16 = .ok (.laload, 1) := by decide +kernel
theorem dX3_addRow_17 : decode cX3_addRow 17 = .ok (.iload_n 3, 1) := by decide +kernel
theorem dX3_addRow_18 : decode cX3_addRow 18 = .ok (.i2l, 1) := by decide +kernel
theorem dX3_addRow_19 : decode cX3_addRow 19 = .ok (.aload_n 2, 1) := by decide +kernel
theorem dX3_addRow_20 : decode cX3_addRow 20 = .ok (.iload 4, 2) := by decide +kernel
theorem dX3_addRow_22 : decode cX3_addRow 22 = .ok (.laload, 1) := by decide +kernel
theorem dX3_addRow_23 : decode cX3_addRow 23 = .ok (.lmul, 1) := by decide +kernel
theorem dX3_addRow_24 : decode cX3_addRow 24 = .ok (.ladd, 1) := by decide +kernel
theorem dX3_addRow_25 : decode cX3_addRow 25 = .ok (.lastore, 1) := by decide +kernel
theorem dX3_addRow_26 : decode cX3_addRow 26 = .ok (.iinc 4 1, 3) := by decide +kernel
theorem dX3_addRow_29 : decode cX3_addRow 29 = .ok (.goto (-26), 3) := by decide +kernel
theorem dX3_addRow_32 : decode cX3_addRow 32 = .ok (.return_, 1) := by decide +kernel
theorem dX3_moveBy_0 : decode cX3_moveBy 0 = .ok (.aload_n 0, 1) := by decide +kernel
theorem dX3_moveBy_1 : decode cX3_moveBy 1 = .ok (.getfield 24, 3) := by decide +kernel
theorem dX3_moveBy_4 : decode cX3_moveBy 4 = .ok (.iconst 0, 1) := by decide +kernel
theorem dX3_moveBy_5 : decode cX3_moveBy 5 = .ok (.aload_n 0, 1) := by decide +kernel
theorem dX3_moveBy_6 : decode cX3_moveBy 6 = .ok (.getfield 28, 3) := by decide +kernel
theorem dX3_moveBy_9 : decode cX3_moveBy 9 = .ok (.iconst 0, 1) := by decide +kernel
theorem dX3_moveBy_10 : decode cX3_moveBy 10 = .ok (.aload_n 0, 1) := by decide +kernel
theorem dX3_moveBy_11 : decode cX3_moveBy 11 = .ok (.getfield 37, 3) := by decide +kernel
theorem dX3_moveBy_14 : decode cX3_moveBy 14 = .ok (.iconst 1, 1) := by decide +kernel
theorem dX3_moveBy_15 : decode cX3_moveBy 15 = .ok (.iadd, 1) := by decide +kernel
theorem dX3_moveBy_16 : decode cX3_moveBy 16 = .ok (.invokestatic 83, 3) := by decide +kernel
theorem dX3_moveBy_19 : decode cX3_moveBy 19 = .ok (.iconst 0, 1) := by decide +kernel
theorem dX3_moveBy_20 : decode cX3_moveBy 20 = .ok (.istore_n 2, 1) := by decide +kernel
theorem dX3_moveBy_21 : decode cX3_moveBy 21 = .ok (.iload_n 2, 1) := by decide +kernel
theorem dX3_moveBy_22 : decode cX3_moveBy 22 = .ok (.aload_n 0, 1) := by decide +kernel
theorem dX3_moveBy_23 : decode cX3_moveBy 23 = .ok (.getfield 37, 3) := by decide +kernel
theorem dX3_moveBy_26 : decode cX3_moveBy 26 = .ok (.if_icmp .ge 47, 3) := by decide +kernel
theorem dX3_moveBy_29 : decode cX3_moveBy 29 = .ok (.aload_n 0, 1) := by decide +kernel
theorem dX3_moveBy_30 : decode cX3_moveBy 30 = .ok (.getfield 37, 3) := by decide +kernel
theorem dX3_moveBy_33 : decode cX3_moveBy 33 = .ok (.iconst 1, 1) := by decide +kernel
theorem dX3_moveBy_34 : decode cX3_moveBy 34 = .ok (.isub, 1) := by decide +kernel
theorem dX3_moveBy_35 : decode cX3_moveBy 35 = .ok (.istore_n 3, 1) := by decide +kernel
theorem dX3_moveBy_36 : decode cX3_moveBy 36 = .ok (.iload_n 3, 1) := by decide +kernel
theorem dX3_moveBy_37 : decode cX3_moveBy 37 = .ok (.iload_n 2, 1) := by decide +kernel
theorem dX3_moveBy_38 : decode cX3_moveBy 38 = .ok (.if_icmp .lt 29, 3) := by decide +kernel
theorem dX3_moveBy_41 : decode cX3_moveBy 41 = .ok (.aload_n 0, 1) := by decide +kernel
theorem dX3_moveBy_42 : decode cX3_moveBy 42 = .ok (.getfield 28, 3) := by decide +kernel
theorem dX3_moveBy_45 : decode cX3_moveBy 45 = .ok (.iload_n 3, 1) := by decide +kernel
theorem dX3_moveBy_46 : decode cX3_moveBy 46 = .ok (.dup2, 1) := by decide +kernel
theorem dX3_moveBy_47 : decode cX3_moveBy 47 = .ok (.laload, 1) := by decide +kernel
theorem dX3_moveBy_48 : decode cX3_moveBy 48 = .ok (.iload_n 1, 1) := by decide +kernel
theorem dX3_moveBy_49 : decode cX3_moveBy 49 = .ok (.i2l, 1) := by decide +kernel
theorem dX3_moveBy_50 : decode cX3_moveBy 50 = .ok (.aload_n 0, 1) := by decide +kernel
theorem dX3_moveBy_51 : decode cX3_moveBy 51 = .ok (.getfield 28, 3) := by decide +kernel
theorem dX3_moveBy_54 : decode cX3_moveBy 54 = .ok (.iload_n 3, 1) := by decide +kernel
theorem dX3_moveBy_55 : decode cX3_moveBy 55 = .ok (.iconst 1, 1) := by decide +kernel
theorem dX3_moveBy_56 : decode cX3_moveBy 56 = .ok (.iadd, 1) := by decide +kernel
theorem dX3_moveBy_57 : decode cX3_moveBy 57 = .ok (.laload, 1) := by decide +kernel
theorem dX3_moveBy_58 : decode cX3_moveBy 58 = .ok (.lmul, 1) := by decide +kernel
theorem dX3_moveBy_59 : decode cX3_moveBy 59 = .ok (.ladd, 1) := by decide +kernel
theorem dX3_moveBy_60 : decode cX3_moveBy 60 = .ok (.lastore, 1) := by decide +kernel
theorem dX3_moveBy_61 : decode cX3_moveBy 61 = .ok (.iinc 3 (-1), 3) := by decide +kernel
theorem dX3_moveBy_64 : decode cX3_moveBy 64 = .ok (.goto (-28), 3) := by decide +kernel
theorem dX3_moveBy_67 : decode cX3_moveBy 67 = .ok (.iinc 2 1, 3) := by decide +kernel
theorem dX3_moveBy_70 : decode cX3_moveBy 70 = .ok (.goto (-49), 3) := by decide +kernel
theorem dX3_moveBy_73 : decode cX3_moveBy 73 = .ok (.return_, 1) := by decide +kernel
theorem dX4_init_0 : decode cX4_init 0 = .ok (.aload_n 0, 1) := by decide +kernel
theorem dX4_init_1 : decode cX4_init 1 = .ok (.invokespecial 3, 3) := by decide +kernel
theorem dX4_init_4 : decode cX4_init 4 = .ok (.aload_n 0, 1) := by decide +kernel
theorem dX4_init_5 : decode cX4_init 5 = .ok (.bipush 10, 2) := by decide +kernel
theorem dX4_init_7 : decode cX4_init 7 = .ok (.newarray .long, 2) := by decide +kernel
theorem dX4_init_9 : decode cX4_init 9 = .ok (.putfield 9, 3) := by decide +kernel
theorem dX4_init_12 : decode cX4_init 12 = .ok (.aload_n 0, 1) := by decide +kernel
theorem dX4_init_13 : decode cX4_init 13 = .ok (.bipush 10, 2) := by decide +kernel
theorem dX4_init_15 : decode cX4_init 15 = .ok (.newarray .long, 2) := by decide +kernel
theorem dX4_init_17 : decode cX4_init 17 = .ok (.putfield 15, 3) := by decide +kernel
theorem dX4_init_20 : decode cX4_init 20 = .ok (.return_, 1) := by decide +kernel
theorem dX4_walk_0 : decode cX4_walk 0 = .ok (.aload_n 0, 1) := by decide +kernel
theorem dX4_walk_1 : decode cX4_walk 1 = .ok (.getfield 9, 3) := by decide +kernel
theorem dX4_walk_4 : decode cX4_walk 4 = .ok (.lconst 0, 1) := by decide +kernel
theorem dX4_walk_5 : decode cX4_walk 5 = .ok (.invokestatic 18, 3) := by decide +kernel
theorem dX4_walk_8 : decode cX4_walk 8 = .ok (.aload_n 0, 1) := by decide +kernel
theorem dX4_walk_9 : decode cX4_walk 9 = .ok (.getfield 9, 3) := by decide +kernel
theorem dX4_walk_12 : decode cX4_walk 12 = .ok (.iload_n 2, 1) := by decide +kernel
theorem dX4_walk_13 : decode cX4_walk 13 = .ok (.lconst 1, 1) := by decide +kernel
theorem dX4_walk_14 : decode cX4_walk 14 = .ok (.lastore, 1) := by decide +kernel
theorem dX4_walk_15 : decode cX4_walk 15 = .ok (.iconst 0, 1) := by decide +kernel
theorem dX4_walk_16 : decode cX4_walk 16 = .ok (.istore 4, 2) := by decide +kernel
theorem dX4_walk_18 : decode cX4_walk 18 = .ok (.iload 4, 2) := by decide +kernel
theorem dX4_walk_20 : decode cX4_walk 20 = .ok (.iload_n 3, 1) := by decide +kernel
theorem dX4_walk_21 : decode cX4_walk 21 = .ok (.if_icmp .ge 34, 3) := by decide +kernel
theorem dX4_walk_24 : decode cX4_walk 24 = .ok (.aload_n 0, 1) := by decide +kernel
theorem dX4_walk_25 : decode cX4_walk 25 = .ok (.getfield 15, 3) := by decide +kernel
theorem dX4_walk_28 : decode cX4_walk 28 = .ok (.astore 5, 2) := by decide +kernel
theorem dX4_walk_30 : decode cX4_walk 30 = .ok (.aload_n 0, 1) := by decide +kernel
theorem dX4_walk_31 : decode cX4_walk 31 = .ok (.aload_n 0, 1) := by decide +kernel
theorem dX4_walk_32 : decode cX4_walk 32 = .ok (.getfield 9, 3) := by decide +kernel
theorem dX4_walk_35 : decode cX4_walk 35 = .ok (.putfield 15, 3) := by decide +kernel
theorem dX4_walk_38 : decode cX4_walk 38 = .ok (.aload_n 0, 1) := by decide +kernel
theorem dX4_walk_39 : decode cX4_walk 39 = .ok (.aload 5, 2) := by decide +kernel
theorem dX4_walk_41 : decode cX4_walk 41 = .ok (.putfield 9, 3) := by decide +kernel
theorem dX4_walk_44 : decode cX4_walk 44 = .ok (.aload_n 0, 1) := by decide +kernel
theorem dX4_walk_45 : decode cX4_walk 45 = .ok (.aload_n 1, 1) := by decide +kernel
theorem dX4_walk_46 : decode cX4_walk 46 = .ok (.invokevirtual 24, 3) := by decide +kernel
theorem dX4_walk_49 : decode cX4_walk 49 = .ok (.iinc 4 1, 3) := by decide +kernel
theorem dX4_walk_52 : decode cX4_walk 52 = .ok (.goto (-34), 3) := by decide +kernel
theorem dX4_walk_55 : decode cX4_walk 55 = .ok (.return_, 1) := by decide +kernel
theorem dX4_unevenness_0 : decode cX4_unevenness 0 = .ok (.lconst 0, 1) := by decide +kernel
theorem dX4_unevenness_1 : decode cX4_unevenness 1 = .ok (.lstore 4, 2) := by decide +kernel
theorem dX4_unevenness_3 : decode cX4_unevenness 3 = .ok (.iconst 0, 1) := by decide +kernel
theorem dX4_unevenness_4 : decode cX4_unevenness 4 = .ok (.istore 6, 2) := by decide +kernel
theorem dX4_unevenness_6 : decode cX4_unevenness 6 = .ok (.iload 6, 2) := by decide +kernel
theorem dX4_unevenness_8 : decode cX4_unevenness 8 = .ok (.iload_n 1, 1) := by decide +kernel
theorem dX4_unevenness_9 : decode cX4_unevenness 9 = .ok (.if_icmp .ge 29, 3) := by decide +kernel
theorem dX4_unevenness_12 : decode cX4_unevenness 12 = .ok (.lload 4, 2) := by decide +kernel
theorem dX4_unevenness_14 : decode cX4_unevenness 14 = .ok (.iload_n 1, 1) := by decide +kernel
theorem dX4_unevenness_15 : decode cX4_unevenness 15 = .ok (.i2l, 1) := by decide +kernel
theorem dX4_unevenness_16 : decode cX4_unevenness 16 = .ok (.aload_n 0, 1) := by decide +kernel
theorem dX4_unevenness_17 : decode cX4_unevenness 17 = .ok (.getfield 9, 3) := by decide +kernel
theorem dX4_unevenness_20 : decode cX4_unevenness 20 = .ok (.iload 6, 2) := by decide +kernel
theorem dX4_unevenness_22 : decode cX4_unevenness 22 = .ok (.laload, 1) := by decide +kernel
theorem dX4_unevenness_23 : decode cX4_unevenness 23 = .ok (.lmul, 1) := by decide +kernel
theorem dX4_unevenness_24 : decode cX4_unevenness 24 = .ok (.lload_n 2, 1) := by decide +kernel
theorem dX4_unevenness_25 : decode cX4_unevenness 25 = .ok (.lsub, 1) := by decide +kernel
theorem dX4_unevenness_26 : decode cX4_unevenness 26 = .ok (.invokestatic 28, 3) := by decide +kernel
theorem dX4_unevenness_29 : decode cX4_unevenness 29 = .ok (.ladd, 1) := by decide +kernel
theorem dX4_unevenness_30 : decode cX4_unevenness 30 = .ok (.lstore 4, 2) := by decide +kernel
theorem dX4_unevenness_32 : decode cX4_unevenness 32 = .ok (.iinc 6 1, 3) := by decide +kernel
theorem dX4_unevenness_35 : decode cX4_unevenness 35 = .ok (.goto (-29), 3) := by decide +kernel
theorem dX4_unevenness_38 : decode cX4_unevenness 38 = .ok (.lload 4, 2) := by decide +kernel
theorem dX4_unevenness_40 : decode cX4_unevenness 40 = .ok (.lreturn, 1) := by decide +kernel
theorem dX4_step_0 : decode cX4_step 0 = .ok (.iconst 0, 1) := by decide +kernel
theorem dX4_step_1 : decode cX4_step 1 = .ok (.istore_n 2, 1) := by decide +kernel
theorem dX4_step_2 : decode cX4_step 2 = .ok (.iload_n 2, 1) := by decide +kernel
theorem dX4_step_3 : decode cX4_step 3 = .ok (.aload_n 1, 1) := by decide +kernel
theorem dX4_step_4 : decode cX4_step 4 = .ok (.getfield 34, 3) := by decide +kernel
theorem dX4_step_7 : decode cX4_step 7 = .ok (.if_icmp .ge 56, 3) := by decide +kernel
theorem dX4_step_10 : decode cX4_step 10 = .ok (.aload_n 0, 1) := by decide +kernel
theorem dX4_step_11 : decode cX4_step 11 = .ok (.getfield 9, 3) := by decide +kernel
theorem dX4_step_14 : decode cX4_step 14 = .ok (.iload_n 2, 1) := by decide +kernel
theorem dX4_step_15 : decode cX4_step 15 = .ok (.lconst 0, 1) := by decide +kernel
theorem dX4_step_16 : decode cX4_step 16 = .ok (.lastore, 1) := by decide +kernel
theorem dX4_step_17 : decode cX4_step 17 = .ok (.iconst 0, 1) := by decide +kernel
theorem dX4_step_18 : decode cX4_step 18 = .ok (.istore_n 3, 1) := by decide +kernel
theorem dX4_step_19 : decode cX4_step 19 = .ok (.iload_n 3, 1) := by decide +kernel
theorem dX4_step_20 : decode cX4_step 20 = .ok (.aload_n 1, 1) := by decide +kernel
theorem dX4_step_21 : decode cX4_step 21 = .ok (.getfield 34, 3) := by decide +kernel
theorem dX4_step_24 : decode cX4_step 24 = .ok (.if_icmp .ge 33, 3) := by decide +kernel
theorem dX4_step_27 : decode cX4_step 27 = .ok (.aload_n 1, 1) := by decide +kernel
theorem dX4_step_28 : decode cX4_step 28 = .ok (.iload_n 3, 1) := by decide +kernel
theorem dX4_step_29 : decode cX4_step 29 = .ok (.iload_n 2, 1) := by decide +kernel
theorem dX4_step_30 : decode cX4_step 30 = .ok (.invokevirtual 40, 3) := by decide +kernel
theorem dX4_step_33 : decode cX4_step 33 = .ok (.ifCond .eq 18, 3) := by decide +kernel
theorem dX4_step_36 : decode cX4_step 36 = .ok (.aload_n 0, 1) := by decide +kernel
theorem dX4_step_37 : decode cX4_step 37 = .ok (.getfield 9, 3) := by decide +kernel
theorem dX4_step_40 : decode cX4_step 40 = .ok (.iload_n 2, 1) := by decide +kernel
theorem dX4_step_41 : decode cX4_step 41 = .ok (.dup2, 1) := by decide +kernel
theorem dX4_step_42 : decode cX4_step 42 = .ok (.laload, 1) := by decide +kernel
theorem dX4_step_43 : decode cX4_step 43 = .ok (.aload_n 0, 1) := by decide +kernel
theorem dX4_step_44 : decode cX4_step 44 = .ok (.getfield 15, 3) := by decide +kernel
theorem dX4_step_47 : decode cX4_step 47 = .ok (.iload_n 3, 1) := by decide +kernel
theorem dX4_step_48 : decode cX4_step 48 = .ok (.laload, 1) := by decide +kernel
theorem dX4_step_49 : decode cX4_step 49 = .ok (.ladd, 1) := by decide +kernel
theorem dX4_step_50 : decode cX4_step 50 = .ok (.lastore, 1) := by decide +kernel
theorem dX4_step_51 : decode cX4_step 51 = .ok (.iinc 3 1, 3) := by decide +kernel
theorem dX4_step_54 : decode cX4_step 54 = .ok (.goto (-35), 3) := by decide +kernel
theorem dX4_step_57 : decode cX4_step 57 = .ok (.iinc 2 1, 3) := by decide +kernel
theorem dX4_step_60 : decode cX4_step 60 = .ok (.goto (-58), 3) := by decide +kernel
theorem dX4_step_63 : decode cX4_step 63 = .ok (.return_, 1) := by decide +kernel
theorem dX5_init_0 : decode cX5_init 0 = .ok (.aload_n 0, 1) := by decide +kernel
theorem dX5_init_1 : decode cX5_init 1 = .ok (.invokespecial 3, 3) := by decide +kernel
theorem dX5_init_4 : decode cX5_init 4 = .ok (.aload_n 0, 1) := by decide +kernel
theorem dX5_init_5 : decode cX5_init 5 = .ok (.iconst 4, 1) := by decide +kernel
theorem dX5_init_6 : decode cX5_init 6 = .ok (.anewarray 9, 3) := by decide +kernel
theorem dX5_init_9 : decode cX5_init 9 = .ok (.putfield 11, 3) := by decide +kernel
theorem dX5_init_12 : decode cX5_init 12 = .ok (.aload_n 0, 1) := by decide +kernel
theorem dX5_init_13 : decode cX5_init 13 = .ok (.new 9, 3) := by decide +kernel
theorem dX5_init_16 : decode cX5_init 16 = .ok (.dup, 1) := by decide +kernel
theorem dX5_init_17 : decode cX5_init 17 = .ok (.invokespecial 15, 3) := by decide +kernel
theorem dX5_init_20 : decode cX5_init 20 = .ok (.putfield 16, 3) := by decide +kernel
theorem dX5_init_23 : decode cX5_init 23 = .ok (.aload_n 0, 1) := by decide +kernel
theorem dX5_init_24 : decode cX5_init 24 = .ok (.new 20, 3) := by decide +kernel
theorem dX5_init_27 : decode cX5_init 27 = .ok (.dup, 1) := by decide +kernel
theorem dX5_init_28 : decode cX5_init 28 = .ok (.invokespecial 22, 3) := by decide +kernel
theorem dX5_init_31 : decode cX5_init 31 = .ok (.putfield 23, 3) := by decide +kernel
theorem dX5_init_34 : decode cX5_init 34 = .ok (.aload_n 0, 1) := by decide +kernel
theorem dX5_init_35 : decode cX5_init 35 = .ok (.new 27, 3) := by decide +kernel
theorem dX5_init_38 : decode cX5_init 38 = .ok (.dup, 1) := by decide +kernel
theorem dX5_init_39 : decode cX5_init 39 = .ok (.invokespecial 29, 3) := by decide +kernel
theorem dX5_init_42 : decode cX5_init 42 = .ok (.putfield 30, 3) := by decide +kernel
theorem dX5_init_45 : decode cX5_init 45 = .ok (.aload_n 0, 1) := by decide +kernel
theorem dX5_init_46 : decode cX5_init 46 = .ok (.new 34, 3) := by decide +kernel
theorem dX5_init_49 : decode cX5_init 49 = .ok (.dup, 1) := by decide +kernel
theorem dX5_init_50 : decode cX5_init 50 = .ok (.invokespecial 36, 3) := by decide +kernel
theorem dX5_init_53 : decode cX5_init 53 = .ok (.putfield 37, 3) := by decide +kernel
theorem dX5_init_56 : decode cX5_init 56 = .ok (.aload_n 0, 1) := by decide +kernel
theorem dX5_init_57 : decode cX5_init 57 = .ok (.new 41, 3) := by decide +kernel
theorem dX5_init_60 : decode cX5_init 60 = .ok (.dup, 1) := by decide +kernel
theorem dX5_init_61 : decode cX5_init 61 = .ok (.invokespecial 43, 3) := by decide +kernel
theorem dX5_init_64 : decode cX5_init 64 = .ok (.putfield 44, 3) := by decide +kernel
theorem dX5_init_67 : decode cX5_init 67 = .ok (.iconst 0, 1) := by decide +kernel
theorem dX5_init_68 : decode cX5_init 68 = .ok (.istore_n 1, 1) := by decide +kernel
theorem dX5_init_69 : decode cX5_init 69 = .ok (.iload_n 1, 1) := by decide +kernel
theorem dX5_init_70 : decode cX5_init 70 = .ok (.iconst 4, 1) := by decide +kernel
theorem dX5_init_71 : decode cX5_init 71 = .ok (.if_icmp .ge 22, 3) := by decide +kernel
theorem dX5_init_74 : decode cX5_init 74 = .ok (.aload_n 0, 1) := by decide +kernel
theorem dX5_init_75 : decode cX5_init 75 = .ok (.getfield 11, 3) := by decide +kernel
theorem dX5_init_78 : decode cX5_init 78 = .ok (.iload_n 1, 1) := by decide +kernel
theorem dX5_init_79 : decode cX5_init 79 = .ok (.new 9, 3) := by decide +kernel
theorem dX5_init_82 : decode cX5_init 82 = .ok (.dup, 1) := by decide +kernel
theorem dX5_init_83 : decode cX5_init 83 = .ok (.invokespecial 15, 3) := by decide +kernel
theorem dX5_init_86 : decode cX5_init 86 = .ok (.aastore, 1) := by decide +kernel
theorem dX5_init_87 : decode cX5_init 87 = .ok (.iinc 1 1, 3) := by decide +kernel
theorem dX5_init_90 : decode cX5_init 90 = .ok (.goto (-21), 3) := by decide +kernel
theorem dX5_init_93 : decode cX5_init 93 = .ok (.return_, 1) := by decide +kernel
theorem dX5_net_0 : decode cX5_net 0 = .ok (.aload_n 0, 1) := by decide +kernel
theorem dX5_net_1 : decode cX5_net 1 = .ok (.iload_n 1, 1) := by decide +kernel
theorem dX5_net_2 : decode cX5_net 2 = .ok (.invokevirtual 48, 3) := by decide +kernel
theorem dX5_net_5 : decode cX5_net 5 = .ok (.astore_n 3, 1) := by decide +kernel
theorem dX5_net_6 : decode cX5_net 6 = .ok (.aload_n 3, 1) := by decide +kernel
theorem dX5_net_7 : decode cX5_net 7 = .ok (.ifnull 10, 3) := by decide +kernel
theorem dX5_net_10 : decode cX5_net 10 = .ok (.iload_n 2, 1) := by decide +kernel
theorem dX5_net_11 : decode cX5_net 11 = .ok (.invokestatic 52, 3) := by decide +kernel
theorem dX5_net_14 : decode cX5_net 14 = .ok (.ifCond .ne 6, 3) := by decide +kernel
theorem dX5_net_17 : decode cX5_net 17 = .ok (.bipush (-2), 2) := by decide +kernel
theorem dX5_net_19 : decode cX5_net 19 = .ok (.ireturn, 1) := by decide +kernel
theorem dX5_net_20 : decode cX5_net 20 = .ok (.aload_n 3, 1) := by decide +kernel
theorem dX5_net_21 : decode cX5_net 21 = .ok (.iload_n 2, 1) := by decide +kernel
theorem dX5_net_22 : decode cX5_net 22 = .ok (.invokevirtual 56, 3) := by decide +kernel
theorem dX5_net_25 : decode cX5_net 25 = .ok (.iconst 1, 1) := by decide +kernel
theorem dX5_net_26 : decode cX5_net 26 = .ok (.ireturn, 1) := by decide +kernel
theorem dX5_line_0 : decode cX5_line 0 = .ok (.aload_n 0, 1) := by decide +kernel
theorem dX5_line_1 : decode cX5_line 1 = .ok (.iload_n 1, 1) := by decide +kernel
theorem dX5_line_2 : decode cX5_line 2 = .ok (.invokevirtual 48, 3) := by decide +kernel
theorem dX5_line_5 : decode cX5_line 5 = .ok (.astore 5, 2) := by decide +kernel
theorem dX5_line_7 : decode cX5_line 7 = .ok (.aload 5, 2) := by decide +kernel
theorem dX5_line_9 : decode cX5_line 9 = .ok (.ifnull 13, 3) := by decide +kernel
theorem dX5_line_12 : decode cX5_line 12 = .ok (.aload 5, 2) := by decide +kernel
theorem dX5_line_14 : decode cX5_line 14 = .ok (.iload_n 2, 1) := by decide +kernel
theorem dX5_line_15 : decode cX5_line 15 = .ok (.iload_n 3, 1) := by decide +kernel
theorem dX5_line_16 : decode cX5_line 16 = .ok (.invokevirtual 60, 3) := by decide +kernel
theorem dX5_line_19 : decode cX5_line 19 = .ok (.ifCond .ne 6, 3) := by decide +kernel
theorem dX5_line_22 : decode cX5_line 22 = .ok (.bipush (-2), 2) := by decide +kernel
theorem dX5_line_24 : decode cX5_line 24 = .ok (.ireturn, 1) := by decide +kernel
theorem dX5_line_25 : decode cX5_line 25 = .ok (.aload 5, 2) := by decide +kernel
theorem dX5_line_27 : decode cX5_line 27 = .ok (.iload_n 2, 1) := by decide +kernel
theorem dX5_line_28 : decode cX5_line 28 = .ok (.iload_n 3, 1) := by decide +kernel
theorem dX5_line_29 : decode cX5_line 29 = .ok (.invokevirtual 64, 3) := by decide +kernel
theorem dX5_line_32 : decode cX5_line 32 = .ok (.iload 4, 2) := by decide +kernel
theorem dX5_line_34 : decode cX5_line 34 = .ok (.if_icmp .ne 6, 3) := by decide +kernel
theorem dX5_line_37 : decode cX5_line 37 = .ok (.bipush (-3), 2) := by decide +kernel
theorem dX5_line_39 : decode cX5_line 39 = .ok (.ireturn, 1) := by decide +kernel
theorem dX5_line_40 : decode cX5_line 40 = .ok (.aload 5, 2) := by decide +kernel
theorem dX5_line_42 : decode cX5_line 42 = .ok (.iload_n 2, 1) := by decide +kernel
theorem dX5_line_43 : decode cX5_line 43 = .ok (.iload_n 3, 1) := by decide +kernel
theorem dX5_line_44 : decode cX5_line 44 = .ok (.invokevirtual 67, 3) := by decide +kernel
theorem dX5_line_47 : decode cX5_line 47 = .ok (.iconst 1, 1) := by decide +kernel
theorem dX5_line_48 : decode cX5_line 48 = .ok (.ireturn, 1) := by decide +kernel
theorem dX5_ring_0 : decode cX5_ring 0 = .ok (.aload_n 0, 1) := by decide +kernel
theorem dX5_ring_1 : decode cX5_ring 1 = .ok (.iload_n 1, 1) := by decide +kernel
theorem dX5_ring_2 : decode cX5_ring 2 = .ok (.invokevirtual 48, 3) := by decide +kernel
theorem dX5_ring_5 : decode cX5_ring 5 = .ok (.astore 4, 2) := by decide +kernel
theorem dX5_ring_7 : decode cX5_ring 7 = .ok (.aload 4, 2) := by decide +kernel
theorem dX5_ring_9 : decode cX5_ring 9 = .ok (.ifnull 22, 3) := by decide +kernel
theorem dX5_ring_12 : decode cX5_ring 12 = .ok (.iload_n 2, 1) := by decide +kernel
theorem dX5_ring_13 : decode cX5_ring 13 = .ok (.invokestatic 52, 3) := by decide +kernel
theorem dX5_ring_16 : decode cX5_ring 16 = .ok (.ifCond .eq 15, 3) := by decide +kernel
theorem dX5_ring_19 : decode cX5_ring 19 = .ok (.iload_n 3, 1) := by decide +kernel
theorem dX5_ring_20 : decode cX5_ring 20 = .ok (.ifCond .lt 11, 3) := by decide +kernel
theorem dX5_ring_23 : decode cX5_ring 23 = .ok (.iload_n 3, 1) := by decide +kernel
theorem dX5_ring_24 : decode cX5_ring 24 = .ok (.iload_n 2, 1) := by decide +kernel
theorem dX5_ring_25 : decode cX5_ring 25 = .ok (.iconst 2, 1) := by decide +kernel
theorem dX5_ring_26 : decode cX5_ring 26 = .ok (.idiv, 1) := by decide +kernel
theorem dX5_ring_27 : decode cX5_ring 27 = .ok (.ishr, 1) := by decide +kernel
theorem dX5_ring_28 : decode cX5_ring 28 = .ok (.ifCond .eq 6, 3) := by decide +kernel
theorem dX5_ring_31 : decode cX5_ring 31 = .ok (.bipush (-2), 2) := by decide +kernel
theorem dX5_ring_33 : decode cX5_ring 33 = .ok (.ireturn, 1) := by decide +kernel
theorem dX5_ring_34 : decode cX5_ring 34 = .ok (.aload 4, 2) := by decide +kernel
theorem dX5_ring_36 : decode cX5_ring 36 = .ok (.iload_n 2, 1) := by decide +kernel
theorem dX5_ring_37 : decode cX5_ring 37 = .ok (.iload_n 3, 1) := by decide +kernel
theorem dX5_ring_38 : decode cX5_ring 38 = .ok (.invokevirtual 71, 3) := by decide +kernel
theorem dX5_ring_41 : decode cX5_ring 41 = .ok (.aload 4, 2) := by decide +kernel
theorem dX5_ring_43 : decode cX5_ring 43 = .ok (.invokevirtual 74, 3) := by decide +kernel
theorem dX5_ring_46 : decode cX5_ring 46 = .ok (.ireturn, 1) := by decide +kernel
theorem dX5_product_0 : decode cX5_product 0 = .ok (.aload_n 0, 1) := by decide +kernel
theorem dX5_product_1 : decode cX5_product 1 = .ok (.iload_n 1, 1) := by decide +kernel
theorem dX5_product_2 : decode cX5_product 2 = .ok (.invokevirtual 48, 3) := by decide +kernel
theorem dX5_product_5 : decode cX5_product 5 = .ok (.astore 4, 2) := by decide +kernel
theorem dX5_product_7 : decode cX5_product 7 = .ok (.aload_n 0, 1) := by decide +kernel
theorem dX5_product_8 : decode cX5_product 8 = .ok (.iload_n 2, 1) := by decide +kernel
theorem dX5_product_9 : decode cX5_product 9 = .ok (.invokevirtual 48, 3) := by decide +kernel
theorem dX5_product_12 : decode cX5_product 12 = .ok (.astore 5, 2) := by decide +kernel
theorem dX5_product_14 : decode cX5_product 14 = .ok (.aload_n 0, 1) := by decide +kernel
theorem dX5_product_15 : decode cX5_product 15 = .ok (.iload_n 3, 1) := by decide +kernel
theorem dX5_product_16 : decode cX5_product 16 = .ok (.invokevirtual 48, 3) := by decide +kernel
theorem dX5_product_19 : decode cX5_product 19 = .ok (.astore 6, 2) := by decide +kernel
theorem dX5_product_21 : decode cX5_product 21 = .ok (.aload 4, 2) := by decide +kernel
theorem dX5_product_23 : decode cX5_product 23 = .ok (.ifnull 13, 3) := by decide +kernel
theorem dX5_product_26 : decode cX5_product 26 = .ok (.aload 5, 2) := by decide +kernel
theorem dX5_product_28 : decode cX5_product 28 = .ok (.ifnull 8, 3) := by decide +kernel
theorem dX5_product_31 : decode cX5_product 31 = .ok (.aload 6, 2) := by decide +kernel
theorem dX5_product_33 : decode cX5_product 33 = .ok (.ifnonnull 6, 3) := by decide +kernel
theorem dX5_product_36 : decode cX5_product 36 = .ok (.bipush (-2), 2) := by decide +kernel
theorem dX5_product_38 : decode cX5_product 38 = .ok (.ireturn, 1) := by decide +kernel
theorem dX5_product_39 : decode cX5_product 39 = .ok (.aload 4, 2) := by decide +kernel
theorem dX5_product_41 : decode cX5_product 41 = .ok (.getfield 78, 3) := by decide +kernel
theorem dX5_product_44 : decode cX5_product 44 = .ok (.aload 5, 2) := by decide +kernel
theorem dX5_product_46 : decode cX5_product 46 = .ok (.getfield 78, 3) := by decide +kernel
theorem dX5_product_49 : decode cX5_product 49 = .ok (.imul, 1) := by decide +kernel
theorem dX5_product_50 : decode cX5_product 50 = .ok (.bipush 10, 2) := by decide +kernel
theorem dX5_product_52 : decode cX5_product 52 = .ok (.if_icmp .le 6, 3) := by decide +kernel
theorem dX5_product_55 : decode cX5_product 55 = .ok (.bipush (-3), 2) := by decide +kernel
theorem dX5_product_57 : decode cX5_product 57 = .ok (.ireturn, 1) := by decide +kernel
theorem dX5_product_58 : decode cX5_product 58 = .ok (.aload_n 0, 1) := by decide +kernel
theorem dX5_product_59 : decode cX5_product 59 = .ok (.getfield 16, 3) := by decide +kernel
theorem dX5_product_62 : decode cX5_product 62 = .ok (.aload 4, 2) := by decide +kernel
theorem dX5_product_64 : decode cX5_product 64 = .ok (.aload 5, 2) := by decide +kernel
theorem dX5_product_66 : decode cX5_product 66 = .ok (.invokevirtual 82, 3) := by decide +kernel
theorem dX5_product_69 : decode cX5_product 69 = .ok (.aload 6, 2) := by decide +kernel
theorem dX5_product_71 : decode cX5_product 71 = .ok (.aload_n 0, 1) := by decide +kernel
theorem dX5_product_72 : decode cX5_product 72 = .ok (.getfield 16, 3) := by decide +kernel
theorem dX5_product_75 : decode cX5_product 75 = .ok (.invokevirtual 86, 3) := by decide +kernel
theorem dX5_product_78 : decode cX5_product 78 = .ok (.aload 6, 2) := by decide +kernel
theorem dX5_product_80 : decode cX5_product 80 = .ok (.getfield 78, 3) := by decide +kernel
theorem dX5_product_83 : decode cX5_product 83 = .ok (.ireturn, 1) := by decide +kernel
theorem dX5_turned_0 : decode cX5_turned 0 = .ok (.aload_n 0, 1) := by decide +kernel
theorem dX5_turned_1 : decode cX5_turned 1 = .ok (.iload_n 1, 1) := by decide +kernel
theorem dX5_turned_2 : decode cX5_turned 2 = .ok (.invokevirtual 48, 3) := by decide +kernel
theorem dX5_turned_5 : decode cX5_turned 5 = .ok (.astore_n 3, 1) := by decide +kernel
theorem dX5_turned_6 : decode cX5_turned 6 = .ok (.aload_n 0, 1) := by decide +kernel
theorem dX5_turned_7 : decode cX5_turned 7 = .ok (.iload_n 2, 1) := by decide +kernel
theorem dX5_turned_8 : decode cX5_turned 8 = .ok (.invokevirtual 48, 3) := by decide +kernel
theorem dX5_turned_11 : decode cX5_turned 11 = .ok (.astore 4, 2) := by decide +kernel
theorem dX5_turned_13 : decode cX5_turned 13 = .ok (.aload_n 3, 1) := by decide +kernel
theorem dX5_turned_14 : decode cX5_turned 14 = .ok (.ifnull 8, 3) := by decide +kernel
theorem dX5_turned_17 : decode cX5_turned 17 = .ok (.aload 4, 2) := by decide +kernel
theorem dX5_turned_19 : decode cX5_turned 19 = .ok (.ifnonnull 6, 3) := by decide +kernel
theorem dX5_turned_22 : decode cX5_turned 22 = .ok (.bipush (-2), 2) := by decide +kernel
theorem dX5_turned_24 : decode cX5_turned 24 = .ok (.ireturn, 1) := by decide +kernel
theorem dX5_turned_25 : decode cX5_turned 25 = .ok (.aload_n 0, 1) := by decide +kernel
theorem dX5_turned_26 : decode cX5_turned 26 = .ok (.getfield 16, 3) := by decide +kernel
theorem dX5_turned_29 : decode cX5_turned 29 = .ok (.aload_n 3, 1) := by decide +kernel
theorem dX5_turned_30 : decode cX5_turned 30 = .ok (.invokevirtual 90, 3) := by decide +kernel
theorem dX5_turned_33 : decode cX5_turned 33 = .ok (.aload 4, 2) := by decide +kernel
theorem dX5_turned_35 : decode cX5_turned 35 = .ok (.aload_n 0, 1) := by decide +kernel
theorem dX5_turned_36 : decode cX5_turned 36 = .ok (.getfield 16, 3) := by decide +kernel
theorem dX5_turned_39 : decode cX5_turned 39 = .ok (.invokevirtual 86, 3) := by decide +kernel
theorem dX5_turned_42 : decode cX5_turned 42 = .ok (.aload 4, 2) := by decide +kernel
theorem dX5_turned_44 : decode cX5_turned 44 = .ok (.invokevirtual 74, 3) := by decide +kernel
theorem dX5_turned_47 : decode cX5_turned 47 = .ok (.ireturn, 1) := by decide +kernel
theorem dX5_about_0 : decode cX5_about 0 = .ok (.aload_n 0, 1) := by decide +kernel
theorem dX5_about_1 : decode cX5_about 1 = .ok (.iload_n 1, 1) := by decide +kernel
theorem dX5_about_2 : decode cX5_about 2 = .ok (.invokevirtual 48, 3) := by decide +kernel
theorem dX5_about_5 : decode cX5_about 5 = .ok (.astore_n 3, 1) := by decide +kernel
theorem dX5_about_6 : decode cX5_about 6 = .ok (.aload_n 3, 1) := by decide +kernel
theorem dX5_about_7 : decode cX5_about 7 = .ok (.ifnonnull 6, 3) := by decide +kernel
theorem dX5_about_10 : decode cX5_about 10 = .ok (.bipush (-2), 2) := by decide +kernel
theorem dX5_about_12 : decode cX5_about 12 = .ok (.ireturn, 1) := by decide +kernel
theorem dX5_about_13 : decode cX5_about 13 = .ok (.iload_n 2, 1) := by decide +kernel
theorem dX5_about_14 : decode cX5_about 14 = .ok (.tableswitch 50 0 3 #[30, 35, 40, 45], 30) := by decide +kernel
theorem dX5_about_44 : decode cX5_about 44 = .ok (.aload_n 3, 1) := by decide +kernel
theorem dX5_about_45 : decode cX5_about 45 = .ok (.getfield 78, 3) := by decide +kernel
theorem dX5_about_48 : decode cX5_about 48 = .ok (.ireturn, 1) := by decide +kernel
theorem dX5_about_49 : decode cX5_about 49 = .ok (.aload_n 3, 1) := by decide +kernel
theorem dX5_about_50 : decode cX5_about 50 = .ok (.invokevirtual 74, 3) := by decide +kernel
theorem dX5_about_53 : decode cX5_about 53 = .ok (.ireturn, 1) := by decide +kernel
theorem dX5_about_54 : decode cX5_about 54 = .ok (.aload_n 3, 1) := by decide +kernel
theorem dX5_about_55 : decode cX5_about 55 = .ok (.invokevirtual 93, 3) := by decide +kernel
theorem dX5_about_58 : decode cX5_about 58 = .ok (.ireturn, 1) := by decide +kernel
theorem dX5_about_59 : decode cX5_about 59 = .ok (.aload_n 3, 1) := by decide +kernel
theorem dX5_about_60 : decode cX5_about 60 = .ok (.invokevirtual 96, 3) := by decide +kernel
theorem dX5_about_63 : decode cX5_about 63 = .ok (.ireturn, 1) := by decide +kernel
theorem dX5_about_64 : decode cX5_about 64 = .ok (.bipush (-2), 2) := by decide +kernel
theorem dX5_about_66 : decode cX5_about 66 = .ok (.ireturn, 1) := by decide +kernel
theorem dX5_near_0 : decode cX5_near 0 = .ok (.aload_n 0, 1) := by decide +kernel
theorem dX5_near_1 : decode cX5_near 1 = .ok (.iload_n 1, 1) := by decide +kernel
theorem dX5_near_2 : decode cX5_near 2 = .ok (.invokevirtual 48, 3) := by decide +kernel
theorem dX5_near_5 : decode cX5_near 5 = .ok (.astore_n 3, 1) := by decide +kernel
theorem dX5_near_6 : decode cX5_near 6 = .ok (.aload_n 3, 1) := by decide +kernel
theorem dX5_near_7 : decode cX5_near 7 = .ok (.ifnull 11, 3) := by decide +kernel
theorem dX5_near_10 : decode cX5_near 10 = .ok (.aload_n 3, 1) := by decide +kernel
theorem dX5_near_11 : decode cX5_near 11 = .ok (.iload_n 2, 1) := by decide +kernel
theorem dX5_near_12 : decode cX5_near 12 = .ok (.invokevirtual 99, 3) := by decide +kernel
theorem dX5_near_15 : decode cX5_near 15 = .ok (.ifCond .ne 6, 3) := by decide +kernel
theorem dX5_near_18 : decode cX5_near 18 = .ok (.bipush (-2), 2) := by decide +kernel
theorem dX5_near_20 : decode cX5_near 20 = .ok (.ireturn, 1) := by decide +kernel
theorem dX5_near_21 : decode cX5_near 21 = .ok (.aload_n 3, 1) := by decide +kernel
theorem dX5_near_22 : decode cX5_near 22 = .ok (.getfield 102, 3) := by decide +kernel
theorem dX5_near_25 : decode cX5_near 25 = .ok (.iload_n 2, 1) := by decide +kernel
theorem dX5_near_26 : decode cX5_near 26 = .ok (.iaload, 1) := by decide +kernel
theorem dX5_near_27 : decode cX5_near 27 = .ok (.ireturn, 1) := by decide +kernel
theorem dX5_number_0 : decode cX5_number 0 = .ok (.aload_n 0, 1) := by decide +kernel
theorem dX5_number_1 : decode cX5_number 1 = .ok (.iload_n 1, 1) := by decide +kernel
theorem dX5_number_2 : decode cX5_number 2 = .ok (.invokevirtual 48, 3) := by decide +kernel
theorem dX5_number_5 : decode cX5_number 5 = .ok (.astore 4, 2) := by decide +kernel
theorem dX5_number_7 : decode cX5_number 7 = .ok (.aload 4, 2) := by decide +kernel
theorem dX5_number_9 : decode cX5_number 9 = .ok (.ifnull 13, 3) := by decide +kernel
theorem dX5_number_12 : decode cX5_number 12 = .ok (.aload 4, 2) := by decide +kernel
theorem dX5_number_14 : decode cX5_number 14 = .ok (.iload_n 2, 1) := by decide +kernel
theorem dX5_number_15 : decode cX5_number 15 = .ok (.iload_n 3, 1) := by decide +kernel
theorem dX5_number_16 : decode cX5_number 16 = .ok (.invokevirtual 60, 3) := by decide +kernel
theorem dX5_number_19 : decode cX5_number 19 = .ok (.ifCond .ne 6, 3) := by decide +kernel
theorem dX5_number_22 : decode cX5_number 22 = .ok (.bipush (-2), 2) := by decide +kernel
theorem dX5_number_24 : decode cX5_number 24 = .ok (.ireturn, 1) := by decide +kernel
theorem dX5_number_25 : decode cX5_number 25 = .ok (.aload 4, 2) := by decide +kernel
theorem dX5_number_27 : decode cX5_number 27 = .ok (.iload_n 2, 1) := by decide +kernel
theorem dX5_number_28 : decode cX5_number 28 = .ok (.iload_n 3, 1) := by decide +kernel
theorem dX5_number_29 : decode cX5_number 29 = .ok (.invokevirtual 64, 3) := by decide +kernel
theorem dX5_number_32 : decode cX5_number 32 = .ok (.ifCond .eq 21, 3) := by decide +kernel
theorem dX5_number_35 : decode cX5_number 35 = .ok (.aload 4, 2) := by decide +kernel
theorem dX5_number_37 : decode cX5_number 37 = .ok (.iload_n 2, 1) := by decide +kernel
theorem dX5_number_38 : decode cX5_number 38 = .ok (.iload_n 3, 1) := by decide +kernel
theorem dX5_number_39 : decode cX5_number 39 = .ok (.invokestatic 106, 3) := by decide +kernel
theorem dX5_number_42 : decode cX5_number 42 = .ok (.iload_n 2, 1) := by decide +kernel
theorem dX5_number_43 : decode cX5_number 43 = .ok (.iload_n 3, 1) := by decide +kernel
theorem dX5_number_44 : decode cX5_number 44 = .ok (.invokestatic 112, 3) := by decide +kernel
theorem dX5_number_47 : decode cX5_number 47 = .ok (.invokevirtual 115, 3) := by decide +kernel
theorem dX5_number_50 : decode cX5_number 50 = .ok (.goto 4, 3) := by decide +kernel
theorem dX5_number_53 : decode cX5_number 53 = .ok (.iconst (-1), 1) := by decide +kernel
theorem dX5_number_54 : decode cX5_number 54 = .ok (.ireturn, 1) := by decide +kernel
theorem dX5_growth_0 : decode cX5_growth 0 = .ok (.aload_n 0, 1) := by decide +kernel
theorem dX5_growth_1 : decode cX5_growth 1 = .ok (.iload_n 1, 1) := by decide +kernel
theorem dX5_growth_2 : decode cX5_growth 2 = .ok (.invokevirtual 48, 3) := by decide +kernel
theorem dX5_growth_5 : decode cX5_growth 5 = .ok (.astore 4, 2) := by decide +kernel
theorem dX5_growth_7 : decode cX5_growth 7 = .ok (.aload 4, 2) := by decide +kernel
theorem dX5_growth_9 : decode cX5_growth 9 = .ok (.ifnull 12, 3) := by decide +kernel
theorem dX5_growth_12 : decode cX5_growth 12 = .ok (.iload_n 3, 1) := by decide +kernel
theorem dX5_growth_13 : decode cX5_growth 13 = .ok (.ifCond .lt 8, 3) := by decide +kernel
theorem dX5_growth_16 : decode cX5_growth 16 = .ok (.iload_n 3, 1) := by decide +kernel
theorem dX5_growth_17 : decode cX5_growth 17 = .ok (.iconst 2, 1) := by decide +kernel
theorem dX5_growth_18 : decode cX5_growth 18 = .ok (.if_icmp .le 6, 3) := by decide +kernel
theorem dX5_growth_21 : decode cX5_growth 21 = .ok (.bipush (-2), 2) := by decide +kernel
theorem dX5_growth_23 : decode cX5_growth 23 = .ok (.ireturn, 1) := by decide +kernel
theorem dX5_growth_24 : decode cX5_growth 24 = .ok (.aload 4, 2) := by decide +kernel
theorem dX5_growth_26 : decode cX5_growth 26 = .ok (.getfield 78, 3) := by decide +kernel
theorem dX5_growth_29 : decode cX5_growth 29 = .ok (.iconst 1, 1) := by decide +kernel
theorem dX5_growth_30 : decode cX5_growth 30 = .ok (.if_icmp .ne 5, 3) := by decide +kernel
theorem dX5_growth_33 : decode cX5_growth 33 = .ok (.iconst (-1), 1) := by decide +kernel
theorem dX5_growth_34 : decode cX5_growth 34 = .ok (.ireturn, 1) := by decide +kernel
theorem dX5_growth_35 : decode cX5_growth 35 = .ok (.aload_n 0, 1) := by decide +kernel
theorem dX5_growth_36 : decode cX5_growth 36 = .ok (.getfield 23, 3) := by decide +kernel
theorem dX5_growth_39 : decode cX5_growth 39 = .ok (.aload 4, 2) := by decide +kernel
theorem dX5_growth_41 : decode cX5_growth 41 = .ok (.iload_n 2, 1) := by decide +kernel
theorem dX5_growth_42 : decode cX5_growth 42 = .ok (.invokevirtual 118, 3) := by decide +kernel
theorem dX5_growth_45 : decode cX5_growth 45 = .ok (.iload_n 3, 1) := by decide +kernel
theorem dX5_growth_46 : decode cX5_growth 46 = .ok (.lookupswitch 42 #[(0, 26), (1, 34)], 26) := by decide +kernel
theorem dX5_growth_72 : decode cX5_growth 72 = .ok (.aload_n 0, 1) := by decide +kernel
theorem dX5_growth_73 : decode cX5_growth 73 = .ok (.getfield 23, 3) := by decide +kernel
theorem dX5_growth_76 : decode cX5_growth 76 = .ok (.getfield 122, 3) := by decide +kernel
theorem dX5_growth_79 : decode cX5_growth 79 = .ok (.ireturn, 1) := by decide +kernel
theorem dX5_growth_80 : decode cX5_growth 80 = .ok (.aload_n 0, 1) := by decide +kernel
theorem dX5_growth_81 : decode cX5_growth 81 = .ok (.getfield 23, 3) := by decide +kernel
theorem dX5_growth_84 : decode cX5_growth 84 = .ok (.getfield 125, 3) := by decide +kernel
theorem dX5_growth_87 : decode cX5_growth 87 = .ok (.ireturn, 1) := by decide +kernel
theorem dX5_growth_88 : decode cX5_growth 88 = .ok (.aload_n 0, 1) := by decide +kernel
theorem dX5_growth_89 : decode cX5_growth 89 = .ok (.getfield 23, 3) := by decide +kernel
theorem dX5_growth_92 : decode cX5_growth 92 = .ok (.getfield 128, 3) := by decide +kernel
theorem dX5_growth_95 : decode cX5_growth 95 = .ok (.ireturn, 1) := by decide +kernel
theorem dX5_more_0 : decode cX5_more 0 = .ok (.aload_n 0, 1) := by decide +kernel
theorem dX5_more_1 : decode cX5_more 1 = .ok (.iload_n 1, 1) := by decide +kernel
theorem dX5_more_2 : decode cX5_more 2 = .ok (.invokevirtual 48, 3) := by decide +kernel
theorem dX5_more_5 : decode cX5_more 5 = .ok (.astore 4, 2) := by decide +kernel
theorem dX5_more_7 : decode cX5_more 7 = .ok (.aload 4, 2) := by decide +kernel
theorem dX5_more_9 : decode cX5_more 9 = .ok (.ifnull 14, 3) := by decide +kernel
theorem dX5_more_12 : decode cX5_more 12 = .ok (.iload_n 2, 1) := by decide +kernel
theorem dX5_more_13 : decode cX5_more 13 = .ok (.ifCond .lt 10, 3) := by decide +kernel
theorem dX5_more_16 : decode cX5_more 16 = .ok (.iload_n 3, 1) := by decide +kernel
theorem dX5_more_17 : decode cX5_more 17 = .ok (.invokestatic 131, 3) := by decide +kernel
theorem dX5_more_20 : decode cX5_more 20 = .ok (.ifCond .ne 6, 3) := by decide +kernel
theorem dX5_more_23 : decode cX5_more 23 = .ok (.bipush (-2), 2) := by decide +kernel
theorem dX5_more_25 : decode cX5_more 25 = .ok (.ireturn, 1) := by decide +kernel
theorem dX5_more_26 : decode cX5_more 26 = .ok (.aload_n 0, 1) := by decide +kernel
theorem dX5_more_27 : decode cX5_more 27 = .ok (.getfield 30, 3) := by decide +kernel
theorem dX5_more_30 : decode cX5_more 30 = .ok (.aload 4, 2) := by decide +kernel
theorem dX5_more_32 : decode cX5_more 32 = .ok (.iload_n 2, 1) := by decide +kernel
theorem dX5_more_33 : decode cX5_more 33 = .ok (.invokevirtual 134, 3) := by decide +kernel
theorem dX5_more_36 : decode cX5_more 36 = .ok (.aload_n 0, 1) := by decide +kernel
theorem dX5_more_37 : decode cX5_more 37 = .ok (.getfield 30, 3) := by decide +kernel
theorem dX5_more_40 : decode cX5_more 40 = .ok (.iload_n 3, 1) := by decide +kernel
theorem dX5_more_41 : decode cX5_more 41 = .ok (.invokevirtual 138, 3) := by decide +kernel
theorem dX5_more_44 : decode cX5_more 44 = .ok (.ireturn, 1) := by decide +kernel
theorem dX5_just_0 : decode cX5_just 0 = .ok (.aload_n 0, 1) := by decide +kernel
theorem dX5_just_1 : decode cX5_just 1 = .ok (.iload_n 1, 1) := by decide +kernel
theorem dX5_just_2 : decode cX5_just 2 = .ok (.invokevirtual 48, 3) := by decide +kernel
theorem dX5_just_5 : decode cX5_just 5 = .ok (.astore 4, 2) := by decide +kernel
theorem dX5_just_7 : decode cX5_just 7 = .ok (.aload 4, 2) := by decide +kernel
theorem dX5_just_9 : decode cX5_just 9 = .ok (.ifnull 14, 3) := by decide +kernel
theorem dX5_just_12 : decode cX5_just 12 = .ok (.iload_n 2, 1) := by decide +kernel
theorem dX5_just_13 : decode cX5_just 13 = .ok (.ifCond .lt 10, 3) := by decide +kernel
theorem dX5_just_16 : decode cX5_just 16 = .ok (.iload_n 3, 1) := by decide +kernel
theorem dX5_just_17 : decode cX5_just 17 = .ok (.invokestatic 131, 3) := by decide +kernel
theorem dX5_just_20 : decode cX5_just 20 = .ok (.ifCond .ne 6, 3) := by decide +kernel
theorem dX5_just_23 : decode cX5_just 23 = .ok (.bipush (-2), 2) := by decide +kernel
theorem dX5_just_25 : decode cX5_just 25 = .ok (.ireturn, 1) := by decide +kernel
theorem dX5_just_26 : decode cX5_just 26 = .ok (.aload_n 0, 1) := by decide +kernel
theorem dX5_just_27 : decode cX5_just 27 = .ok (.getfield 30, 3) := by decide +kernel
theorem dX5_just_30 : decode cX5_just 30 = .ok (.aload 4, 2) := by decide +kernel
theorem dX5_just_32 : decode cX5_just 32 = .ok (.iload_n 2, 1) := by decide +kernel
theorem dX5_just_33 : decode cX5_just 33 = .ok (.invokevirtual 134, 3) := by decide +kernel
theorem dX5_just_36 : decode cX5_just 36 = .ok (.aload_n 0, 1) := by decide +kernel
theorem dX5_just_37 : decode cX5_just 37 = .ok (.getfield 30, 3) := by decide +kernel
theorem dX5_just_40 : decode cX5_just 40 = .ok (.iload_n 3, 1) := by decide +kernel
theorem dX5_just_41 : decode cX5_just 41 = .ok (.invokevirtual 142, 3) := by decide +kernel
theorem dX5_just_44 : decode cX5_just 44 = .ok (.ireturn, 1) := by decide +kernel
theorem dX5_second_0 : decode cX5_second 0 = .ok (.aload_n 0, 1) := by decide +kernel
theorem dX5_second_1 : decode cX5_second 1 = .ok (.iload_n 1, 1) := by decide +kernel
theorem dX5_second_2 : decode cX5_second 2 = .ok (.invokevirtual 48, 3) := by decide +kernel
theorem dX5_second_5 : decode cX5_second 5 = .ok (.astore_n 2, 1) := by decide +kernel
theorem dX5_second_6 : decode cX5_second 6 = .ok (.aload_n 2, 1) := by decide +kernel
theorem dX5_second_7 : decode cX5_second 7 = .ok (.ifnonnull 6, 3) := by decide +kernel
theorem dX5_second_10 : decode cX5_second 10 = .ok (.bipush (-2), 2) := by decide +kernel
theorem dX5_second_12 : decode cX5_second 12 = .ok (.ireturn, 1) := by decide +kernel
theorem dX5_second_13 : decode cX5_second 13 = .ok (.aload_n 0, 1) := by decide +kernel
theorem dX5_second_14 : decode cX5_second 14 = .ok (.getfield 30, 3) := by decide +kernel
theorem dX5_second_17 : decode cX5_second 17 = .ok (.aload_n 2, 1) := by decide +kernel
theorem dX5_second_18 : decode cX5_second 18 = .ok (.iconst 0, 1) := by decide +kernel
theorem dX5_second_19 : decode cX5_second 19 = .ok (.invokevirtual 134, 3) := by decide +kernel
theorem dX5_second_22 : decode cX5_second 22 = .ok (.bipush (-20), 2) := by decide +kernel
theorem dX5_second_24 : decode cX5_second 24 = .ok (.istore_n 3, 1) := by decide +kernel
theorem dX5_second_25 : decode cX5_second 25 = .ok (.iload_n 3, 1) := by decide +kernel
theorem dX5_second_26 : decode cX5_second 26 = .ok (.bipush 18, 2) := by decide +kernel
theorem dX5_second_28 : decode cX5_second 28 = .ok (.if_icmp .ge 23, 3) := by decide +kernel
theorem dX5_second_31 : decode cX5_second 31 = .ok (.aload_n 0, 1) := by decide +kernel
theorem dX5_second_32 : decode cX5_second 32 = .ok (.getfield 30, 3) := by decide +kernel
theorem dX5_second_35 : decode cX5_second 35 = .ok (.iload_n 3, 1) := by decide +kernel
theorem dX5_second_36 : decode cX5_second 36 = .ok (.invokevirtual 138, 3) := by decide +kernel
theorem dX5_second_39 : decode cX5_second 39 = .ok (.iconst 1, 1) := by decide +kernel
theorem dX5_second_40 : decode cX5_second 40 = .ok (.if_icmp .gt 5, 3) := by decide +kernel
theorem dX5_second_43 : decode cX5_second 43 = .ok (.iload_n 3, 1) := by decide +kernel
theorem dX5_second_44 : decode cX5_second 44 = .ok (.ireturn, 1) := by decide +kernel
theorem dX5_second_45 : decode cX5_second 45 = .ok (.iinc 3 1, 3) := by decide +kernel
theorem dX5_second_48 : decode cX5_second 48 = .ok (.goto (-23), 3) := by decide +kernel
theorem dX5_second_51 : decode cX5_second 51 = .ok (.bipush 18, 2) := by decide +kernel
theorem dX5_second_53 : decode cX5_second 53 = .ok (.ireturn, 1) := by decide +kernel
theorem dX5_span_0 : decode cX5_span 0 = .ok (.aload_n 0, 1) := by decide +kernel
theorem dX5_span_1 : decode cX5_span 1 = .ok (.iload_n 1, 1) := by decide +kernel
theorem dX5_span_2 : decode cX5_span 2 = .ok (.invokevirtual 48, 3) := by decide +kernel
theorem dX5_span_5 : decode cX5_span 5 = .ok (.astore_n 3, 1) := by decide +kernel
theorem dX5_span_6 : decode cX5_span 6 = .ok (.aload_n 3, 1) := by decide +kernel
theorem dX5_span_7 : decode cX5_span 7 = .ok (.ifnull 7, 3) := by decide +kernel
theorem dX5_span_10 : decode cX5_span 10 = .ok (.iload_n 2, 1) := by decide +kernel
theorem dX5_span_11 : decode cX5_span 11 = .ok (.ifCond .ge 6, 3) := by decide +kernel
theorem dX5_span_14 : decode cX5_span 14 = .ok (.bipush (-2), 2) := by decide +kernel
theorem dX5_span_16 : decode cX5_span 16 = .ok (.ireturn, 1) := by decide +kernel
theorem dX5_span_17 : decode cX5_span 17 = .ok (.aload_n 0, 1) := by decide +kernel
theorem dX5_span_18 : decode cX5_span 18 = .ok (.getfield 30, 3) := by decide +kernel
theorem dX5_span_21 : decode cX5_span 21 = .ok (.aload_n 3, 1) := by decide +kernel
theorem dX5_span_22 : decode cX5_span 22 = .ok (.iload_n 2, 1) := by decide +kernel
theorem dX5_span_23 : decode cX5_span 23 = .ok (.invokevirtual 134, 3) := by decide +kernel
theorem dX5_span_26 : decode cX5_span 26 = .ok (.aload_n 0, 1) := by decide +kernel
theorem dX5_span_27 : decode cX5_span 27 = .ok (.getfield 30, 3) := by decide +kernel
theorem dX5_span_30 : decode cX5_span 30 = .ok (.invokevirtual 145, 3) := by decide +kernel
theorem dX5_span_33 : decode cX5_span 33 = .ok (.ireturn, 1) := by decide +kernel
theorem dX5_best_0 : decode cX5_best 0 = .ok (.aload_n 0, 1) := by decide +kernel
theorem dX5_best_1 : decode cX5_best 1 = .ok (.iload_n 1, 1) := by decide +kernel
theorem dX5_best_2 : decode cX5_best 2 = .ok (.invokevirtual 48, 3) := by decide +kernel
theorem dX5_best_5 : decode cX5_best 5 = .ok (.astore_n 2, 1) := by decide +kernel
theorem dX5_best_6 : decode cX5_best 6 = .ok (.aload_n 2, 1) := by decide +kernel
theorem dX5_best_7 : decode cX5_best 7 = .ok (.ifnonnull 6, 3) := by decide +kernel
theorem dX5_best_10 : decode cX5_best 10 = .ok (.bipush (-2), 2) := by decide +kernel
theorem dX5_best_12 : decode cX5_best 12 = .ok (.ireturn, 1) := by decide +kernel
theorem dX5_best_13 : decode cX5_best 13 = .ok (.aload_n 2, 1) := by decide +kernel
theorem dX5_best_14 : decode cX5_best 14 = .ok (.invokevirtual 74, 3) := by decide +kernel
theorem dX5_best_17 : decode cX5_best 17 = .ok (.bipush 9, 2) := by decide +kernel
theorem dX5_best_19 : decode cX5_best 19 = .ok (.if_icmp .le 6, 3) := by decide +kernel
theorem dX5_best_22 : decode cX5_best 22 = .ok (.bipush (-3), 2) := by decide +kernel
theorem dX5_best_24 : decode cX5_best 24 = .ok (.ireturn, 1) := by decide +kernel
theorem dX5_best_25 : decode cX5_best 25 = .ok (.aload_n 0, 1) := by decide +kernel
theorem dX5_best_26 : decode cX5_best 26 = .ok (.aload_n 2, 1) := by decide +kernel
theorem dX5_best_27 : decode cX5_best 27 = .ok (.invokevirtual 148, 3) := by decide +kernel
theorem dX5_best_30 : decode cX5_best 30 = .ok (.ireturn, 1) := by decide +kernel
theorem dX5_walks_0 : decode cX5_walks 0 = .ok (.aload_n 0, 1) := by decide +kernel
theorem dX5_walks_1 : decode cX5_walks 1 = .ok (.iload_n 1, 1) := by decide +kernel
theorem dX5_walks_2 : decode cX5_walks 2 = .ok (.invokevirtual 48, 3) := by decide +kernel
theorem dX5_walks_5 : decode cX5_walks 5 = .ok (.astore 5, 2) := by decide +kernel
theorem dX5_walks_7 : decode cX5_walks 7 = .ok (.aload 5, 2) := by decide +kernel
theorem dX5_walks_9 : decode cX5_walks 9 = .ok (.ifnull 21, 3) := by decide +kernel
theorem dX5_walks_12 : decode cX5_walks 12 = .ok (.aload 5, 2) := by decide +kernel
theorem dX5_walks_14 : decode cX5_walks 14 = .ok (.iload_n 2, 1) := by decide +kernel
theorem dX5_walks_15 : decode cX5_walks 15 = .ok (.iload_n 3, 1) := by decide +kernel
theorem dX5_walks_16 : decode cX5_walks 16 = .ok (.invokevirtual 152, 3) := by decide +kernel
theorem dX5_walks_19 : decode cX5_walks 19 = .ok (.ifCond .eq 11, 3) := by decide +kernel
theorem dX5_walks_22 : decode cX5_walks 22 = .ok (.iload 4, 2) := by decide +kernel
theorem dX5_walks_24 : decode cX5_walks 24 = .ok (.invokestatic 155, 3) := by decide +kernel
theorem dX5_walks_27 : decode cX5_walks 27 = .ok (.ifCond .ne 7, 3) := by decide +kernel
theorem dX5_walks_30 : decode cX5_walks 30 = .ok (.ldc2_w 158, 3) := by decide +kernel
theorem dX5_walks_33 : decode cX5_walks 33 = .ok (.lreturn, 1) := by decide +kernel
theorem dX5_walks_34 : decode cX5_walks 34 = .ok (.aload_n 0, 1) := by decide +kernel
theorem dX5_walks_35 : decode cX5_walks 35 = .ok (.getfield 37, 3) := by decide +kernel
theorem dX5_walks_38 : decode cX5_walks 38 = .ok (.aload 5, 2) := by decide +kernel
theorem dX5_walks_40 : decode cX5_walks 40 = .ok (.iload_n 2, 1) := by decide +kernel
theorem dX5_walks_41 : decode cX5_walks 41 = .ok (.iload 4, 2) := by decide +kernel
theorem dX5_walks_43 : decode cX5_walks 43 = .ok (.invokevirtual 160, 3) := by decide +kernel
theorem dX5_walks_46 : decode cX5_walks 46 = .ok (.aload_n 0, 1) := by decide +kernel
theorem dX5_walks_47 : decode cX5_walks 47 = .ok (.getfield 37, 3) := by decide +kernel
theorem dX5_walks_50 : decode cX5_walks 50 = .ok (.getfield 164, 3) := by decide +kernel
theorem dX5_walks_53 : decode cX5_walks 53 = .ok (.iload_n 3, 1) := by decide +kernel
theorem dX5_walks_54 : decode cX5_walks 54 = .ok (.laload, 1) := by decide +kernel
theorem dX5_walks_55 : decode cX5_walks 55 = .ok (.lreturn, 1) := by decide +kernel
theorem dX5_uneven_0 : decode cX5_uneven 0 = .ok (.aload_n 0, 1) := by decide +kernel
theorem dX5_uneven_1 : decode cX5_uneven 1 = .ok (.iload_n 1, 1) := by decide +kernel
theorem dX5_uneven_2 : decode cX5_uneven 2 = .ok (.invokevirtual 48, 3) := by decide +kernel
theorem dX5_uneven_5 : decode cX5_uneven 5 = .ok (.astore 4, 2) := by decide +kernel
theorem dX5_uneven_7 : decode cX5_uneven 7 = .ok (.aload 4, 2) := by decide +kernel
theorem dX5_uneven_9 : decode cX5_uneven 9 = .ok (.ifnull 19, 3) := by decide +kernel
theorem dX5_uneven_12 : decode cX5_uneven 12 = .ok (.aload 4, 2) := by decide +kernel
theorem dX5_uneven_14 : decode cX5_uneven 14 = .ok (.iload_n 2, 1) := by decide +kernel
theorem dX5_uneven_15 : decode cX5_uneven 15 = .ok (.invokevirtual 99, 3) := by decide +kernel
theorem dX5_uneven_18 : decode cX5_uneven 18 = .ok (.ifCond .eq 10, 3) := by decide +kernel
theorem dX5_uneven_21 : decode cX5_uneven 21 = .ok (.iload_n 3, 1) := by decide +kernel
theorem dX5_uneven_22 : decode cX5_uneven 22 = .ok (.invokestatic 155, 3) := by decide +kernel
theorem dX5_uneven_25 : decode cX5_uneven 25 = .ok (.ifCond .ne 7, 3) := by decide +kernel
theorem dX5_uneven_28 : decode cX5_uneven 28 = .ok (.ldc2_w 158, 3) := by decide +kernel
theorem dX5_uneven_31 : decode cX5_uneven 31 = .ok (.lreturn, 1) := by decide +kernel
theorem dX5_uneven_32 : decode cX5_uneven 32 = .ok (.aload 4, 2) := by decide +kernel
theorem dX5_uneven_34 : decode cX5_uneven 34 = .ok (.invokevirtual 93, 3) := by decide +kernel
theorem dX5_uneven_37 : decode cX5_uneven 37 = .ok (.istore 5, 2) := by decide +kernel
theorem dX5_uneven_39 : decode cX5_uneven 39 = .ok (.iload 5, 2) := by decide +kernel
theorem dX5_uneven_41 : decode cX5_uneven 41 = .ok (.iconst (-1), 1) := by decide +kernel
theorem dX5_uneven_42 : decode cX5_uneven 42 = .ok (.if_icmp .ne 7, 3) := by decide +kernel
theorem dX5_uneven_45 : decode cX5_uneven 45 = .ok (.ldc2_w 168, 3) := by decide +kernel
theorem dX5_uneven_48 : decode cX5_uneven 48 = .ok (.lreturn, 1) := by decide +kernel
theorem dX5_uneven_49 : decode cX5_uneven 49 = .ok (.aload_n 0, 1) := by decide +kernel
theorem dX5_uneven_50 : decode cX5_uneven 50 = .ok (.getfield 37, 3) := by decide +kernel
theorem dX5_uneven_53 : decode cX5_uneven 53 = .ok (.aload 4, 2) := by decide +kernel
theorem dX5_uneven_55 : decode cX5_uneven 55 = .ok (.iload_n 2, 1) := by decide +kernel
theorem dX5_uneven_56 : decode cX5_uneven 56 = .ok (.iload_n 3, 1) := by decide +kernel
theorem dX5_uneven_57 : decode cX5_uneven 57 = .ok (.invokevirtual 160, 3) := by decide +kernel
theorem dX5_uneven_60 : decode cX5_uneven 60 = .ok (.aload_n 0, 1) := by decide +kernel
theorem dX5_uneven_61 : decode cX5_uneven 61 = .ok (.getfield 37, 3) := by decide +kernel
theorem dX5_uneven_64 : decode cX5_uneven 64 = .ok (.aload 4, 2) := by decide +kernel
theorem dX5_uneven_66 : decode cX5_uneven 66 = .ok (.getfield 78, 3) := by decide +kernel
theorem dX5_uneven_69 : decode cX5_uneven 69 = .ok (.iload 5, 2) := by decide +kernel
theorem dX5_uneven_71 : decode cX5_uneven 71 = .ok (.iload_n 3, 1) := by decide +kernel
theorem dX5_uneven_72 : decode cX5_uneven 72 = .ok (.invokestatic 170, 3) := by decide +kernel
theorem dX5_uneven_75 : decode cX5_uneven 75 = .ok (.invokevirtual 174, 3) := by decide +kernel
theorem dX5_uneven_78 : decode cX5_uneven 78 = .ok (.lreturn, 1) := by decide +kernel
theorem dX5_apart_0 : decode cX5_apart 0 = .ok (.aload_n 0, 1) := by decide +kernel
theorem dX5_apart_1 : decode cX5_apart 1 = .ok (.iload_n 1, 1) := by decide +kernel
theorem dX5_apart_2 : decode cX5_apart 2 = .ok (.invokevirtual 48, 3) := by decide +kernel
theorem dX5_apart_5 : decode cX5_apart 5 = .ok (.astore 4, 2) := by decide +kernel
theorem dX5_apart_7 : decode cX5_apart 7 = .ok (.aload 4, 2) := by decide +kernel
theorem dX5_apart_9 : decode cX5_apart 9 = .ok (.ifnull 21, 3) := by decide +kernel
theorem dX5_apart_12 : decode cX5_apart 12 = .ok (.aload 4, 2) := by decide +kernel
theorem dX5_apart_14 : decode cX5_apart 14 = .ok (.iload_n 2, 1) := by decide +kernel
theorem dX5_apart_15 : decode cX5_apart 15 = .ok (.invokevirtual 178, 3) := by decide +kernel
theorem dX5_apart_18 : decode cX5_apart 18 = .ok (.ifCond .eq 12, 3) := by decide +kernel
theorem dX5_apart_21 : decode cX5_apart 21 = .ok (.aload 4, 2) := by decide +kernel
theorem dX5_apart_23 : decode cX5_apart 23 = .ok (.iload_n 3, 1) := by decide +kernel
theorem dX5_apart_24 : decode cX5_apart 24 = .ok (.invokevirtual 178, 3) := by decide +kernel
theorem dX5_apart_27 : decode cX5_apart 27 = .ok (.ifCond .ne 6, 3) := by decide +kernel
theorem dX5_apart_30 : decode cX5_apart 30 = .ok (.bipush (-2), 2) := by decide +kernel
theorem dX5_apart_32 : decode cX5_apart 32 = .ok (.ireturn, 1) := by decide +kernel
theorem dX5_apart_33 : decode cX5_apart 33 = .ok (.aload_n 0, 1) := by decide +kernel
theorem dX5_apart_34 : decode cX5_apart 34 = .ok (.getfield 44, 3) := by decide +kernel
theorem dX5_apart_37 : decode cX5_apart 37 = .ok (.aload 4, 2) := by decide +kernel
theorem dX5_apart_39 : decode cX5_apart 39 = .ok (.iload_n 2, 1) := by decide +kernel
theorem dX5_apart_40 : decode cX5_apart 40 = .ok (.iload_n 3, 1) := by decide +kernel
theorem dX5_apart_41 : decode cX5_apart 41 = .ok (.invokevirtual 181, 3) := by decide +kernel
theorem dX5_apart_44 : decode cX5_apart 44 = .ok (.ireturn, 1) := by decide +kernel
theorem dX5_distance_0 : decode cX5_distance 0 = .ok (.aload_n 0, 1) := by decide +kernel
theorem dX5_distance_1 : decode cX5_distance 1 = .ok (.iload_n 1, 1) := by decide +kernel
theorem dX5_distance_2 : decode cX5_distance 2 = .ok (.invokevirtual 48, 3) := by decide +kernel
theorem dX5_distance_5 : decode cX5_distance 5 = .ok (.astore 4, 2) := by decide +kernel
theorem dX5_distance_7 : decode cX5_distance 7 = .ok (.aload 4, 2) := by decide +kernel
theorem dX5_distance_9 : decode cX5_distance 9 = .ok (.ifnull 13, 3) := by decide +kernel
theorem dX5_distance_12 : decode cX5_distance 12 = .ok (.aload 4, 2) := by decide +kernel
theorem dX5_distance_14 : decode cX5_distance 14 = .ok (.iload_n 2, 1) := by decide +kernel
theorem dX5_distance_15 : decode cX5_distance 15 = .ok (.iload_n 3, 1) := by decide +kernel
theorem dX5_distance_16 : decode cX5_distance 16 = .ok (.invokevirtual 152, 3) := by decide +kernel
theorem dX5_distance_19 : decode cX5_distance 19 = .ok (.ifCond .ne 6, 3) := by decide +kernel
theorem dX5_distance_22 : decode cX5_distance 22 = .ok (.bipush (-2), 2) := by decide +kernel
theorem dX5_distance_24 : decode cX5_distance 24 = .ok (.ireturn, 1) := by decide +kernel
theorem dX5_distance_25 : decode cX5_distance 25 = .ok (.aload 4, 2) := by decide +kernel
theorem dX5_distance_27 : decode cX5_distance 27 = .ok (.iload_n 2, 1) := by decide +kernel
theorem dX5_distance_28 : decode cX5_distance 28 = .ok (.iload_n 3, 1) := by decide +kernel
theorem dX5_distance_29 : decode cX5_distance 29 = .ok (.iconst 1, 1) := by decide +kernel
theorem dX5_distance_30 : decode cX5_distance 30 = .ok (.invokevirtual 185, 3) := by decide +kernel
theorem dX5_distance_33 : decode cX5_distance 33 = .ok (.ireturn, 1) := by decide +kernel
theorem dX5_round_0 : decode cX5_round 0 = .ok (.aload_n 0, 1) := by decide +kernel
theorem dX5_round_1 : decode cX5_round 1 = .ok (.iload_n 1, 1) := by decide +kernel
theorem dX5_round_2 : decode cX5_round 2 = .ok (.invokevirtual 48, 3) := by decide +kernel
theorem dX5_round_5 : decode cX5_round 5 = .ok (.astore_n 2, 1) := by decide +kernel
theorem dX5_round_6 : decode cX5_round 6 = .ok (.aload_n 2, 1) := by decide +kernel
theorem dX5_round_7 : decode cX5_round 7 = .ok (.ifnonnull 6, 3) := by decide +kernel
theorem dX5_round_10 : decode cX5_round 10 = .ok (.bipush (-2), 2) := by decide +kernel
theorem dX5_round_12 : decode cX5_round 12 = .ok (.ireturn, 1) := by decide +kernel
theorem dX5_round_13 : decode cX5_round 13 = .ok (.aload_n 2, 1) := by decide +kernel
theorem dX5_round_14 : decode cX5_round 14 = .ok (.invokevirtual 189, 3) := by decide +kernel
theorem dX5_round_17 : decode cX5_round 17 = .ok (.ireturn, 1) := by decide +kernel
theorem dX5_odd_0 : decode cX5_odd 0 = .ok (.aload_n 0, 1) := by decide +kernel
theorem dX5_odd_1 : decode cX5_odd 1 = .ok (.iload_n 1, 1) := by decide +kernel
theorem dX5_odd_2 : decode cX5_odd 2 = .ok (.invokevirtual 48, 3) := by decide +kernel
theorem dX5_odd_5 : decode cX5_odd 5 = .ok (.astore 4, 2) := by decide +kernel
theorem dX5_odd_7 : decode cX5_odd 7 = .ok (.aload 4, 2) := by decide +kernel
theorem dX5_odd_9 : decode cX5_odd 9 = .ok (.ifnull 12, 3) := by decide +kernel
theorem dX5_odd_12 : decode cX5_odd 12 = .ok (.aload 4, 2) := by decide +kernel
theorem dX5_odd_14 : decode cX5_odd 14 = .ok (.lload_n 2, 1) := by decide +kernel
theorem dX5_odd_15 : decode cX5_odd 15 = .ok (.invokevirtual 192, 3) := by decide +kernel
theorem dX5_odd_18 : decode cX5_odd 18 = .ok (.ifCond .ne 6, 3) := by decide +kernel
theorem dX5_odd_21 : decode cX5_odd 21 = .ok (.bipush (-2), 2) := by decide +kernel
theorem dX5_odd_23 : decode cX5_odd 23 = .ok (.ireturn, 1) := by decide +kernel
theorem dX5_odd_24 : decode cX5_odd 24 = .ok (.aload 4, 2) := by decide +kernel
theorem dX5_odd_26 : decode cX5_odd 26 = .ok (.lload_n 2, 1) := by decide +kernel
theorem dX5_odd_27 : decode cX5_odd 27 = .ok (.invokevirtual 196, 3) := by decide +kernel
theorem dX5_odd_30 : decode cX5_odd 30 = .ok (.invokestatic 200, 3) := by decide +kernel
theorem dX5_odd_33 : decode cX5_odd 33 = .ok (.ireturn, 1) := by decide +kernel
theorem dX5_flipped_0 : decode cX5_flipped 0 = .ok (.aload_n 0, 1) := by decide +kernel
theorem dX5_flipped_1 : decode cX5_flipped 1 = .ok (.iload_n 1, 1) := by decide +kernel
theorem dX5_flipped_2 : decode cX5_flipped 2 = .ok (.invokevirtual 48, 3) := by decide +kernel
theorem dX5_flipped_5 : decode cX5_flipped 5 = .ok (.astore 4, 2) := by decide +kernel
theorem dX5_flipped_7 : decode cX5_flipped 7 = .ok (.aload 4, 2) := by decide +kernel
theorem dX5_flipped_9 : decode cX5_flipped 9 = .ok (.ifnull 12, 3) := by decide +kernel
theorem dX5_flipped_12 : decode cX5_flipped 12 = .ok (.aload 4, 2) := by decide +kernel
theorem dX5_flipped_14 : decode cX5_flipped 14 = .ok (.lload_n 2, 1) := by decide +kernel
theorem dX5_flipped_15 : decode cX5_flipped 15 = .ok (.invokevirtual 192, 3) := by decide +kernel
theorem dX5_flipped_18 : decode cX5_flipped 18 = .ok (.ifCond .ne 7, 3) := by decide +kernel
theorem dX5_flipped_21 : decode cX5_flipped 21 = .ok (.ldc2_w 158, 3) := by decide +kernel
theorem dX5_flipped_24 : decode cX5_flipped 24 = .ok (.lreturn, 1) := by decide +kernel
theorem dX5_flipped_25 : decode cX5_flipped 25 = .ok (.aload 4, 2) := by decide +kernel
theorem dX5_flipped_27 : decode cX5_flipped 27 = .ok (.lload_n 2, 1) := by decide +kernel
theorem dX5_flipped_28 : decode cX5_flipped 28 = .ok (.invokevirtual 205, 3) := by decide +kernel
theorem dX5_flipped_31 : decode cX5_flipped 31 = .ok (.lreturn, 1) := by decide +kernel
theorem dX5_digest_0 : decode cX5_digest 0 = .ok (.ldc2_w 209, 3) := by decide +kernel
theorem dX5_digest_3 : decode cX5_digest 3 = .ok (.lstore_n 1, 1) := by decide +kernel
theorem dX5_digest_4 : decode cX5_digest 4 = .ok (.iconst 0, 1) := by decide +kernel
theorem dX5_digest_5 : decode cX5_digest 5 = .ok (.istore_n 3, 1) := by decide +kernel
theorem dX5_digest_6 : decode cX5_digest 6 = .ok (.iload_n 3, 1) := by decide +kernel
theorem dX5_digest_7 : decode cX5_digest 7 = .ok (.iconst 4, 1) := by decide +kernel
theorem dX5_digest_8 : decode cX5_digest 8 = .ok (.if_icmp .ge 20, 3) := by decide +kernel
theorem dX5_digest_11 : decode cX5_digest 11 = .ok (.aload_n 0, 1) := by decide +kernel
theorem dX5_digest_12 : decode cX5_digest 12 = .ok (.getfield 11, 3) := by decide +kernel
theorem dX5_digest_15 : decode cX5_digest 15 = .ok (.iload_n 3, 1) := by decide +kernel
theorem dX5_digest_16 : decode cX5_digest 16 = .ok (.aaload, 1) := by decide +kernel
theorem dX5_digest_17 : decode cX5_digest 17 = .ok (.lload_n 1, 1) := by decide +kernel
theorem dX5_digest_18 : decode cX5_digest 18 = .ok (.invokevirtual 211, 3) := by decide +kernel
theorem dX5_digest_21 : decode cX5_digest 21 = .ok (.lstore_n 1, 1) := by decide +kernel
theorem dX5_digest_22 : decode cX5_digest 22 = .ok (.iinc 3 1, 3) := by decide +kernel
theorem dX5_digest_25 : decode cX5_digest 25 = .ok (.goto (-19), 3) := by decide +kernel
theorem dX5_digest_28 : decode cX5_digest 28 = .ok (.lload_n 1, 1) := by decide +kernel
theorem dX5_digest_29 : decode cX5_digest 29 = .ok (.lreturn, 1) := by decide +kernel
theorem dX5_netAt_0 : decode cX5_netAt 0 = .ok (.iload_n 1, 1) := by decide +kernel
theorem dX5_netAt_1 : decode cX5_netAt 1 = .ok (.ifCond .lt 17, 3) := by decide +kernel
theorem dX5_netAt_4 : decode cX5_netAt 4 = .ok (.iload_n 1, 1) := by decide +kernel
theorem dX5_netAt_5 : decode cX5_netAt 5 = .ok (.iconst 4, 1) := by decide +kernel
theorem dX5_netAt_6 : decode cX5_netAt 6 = .ok (.if_icmp .ge 12, 3) := by decide +kernel
theorem dX5_netAt_9 : decode cX5_netAt 9 = .ok (.aload_n 0, 1) := by decide +kernel
theorem dX5_netAt_10 : decode cX5_netAt 10 = .ok (.getfield 11, 3) := by decide +kernel
theorem dX5_netAt_13 : decode cX5_netAt 13 = .ok (.iload_n 1, 1) := by decide +kernel
theorem dX5_netAt_14 : decode cX5_netAt 14 = .ok (.aaload, 1) := by decide +kernel
theorem dX5_netAt_15 : decode cX5_netAt 15 = .ok (.goto 4, 3) := by decide +kernel
theorem dX5_netAt_18 : decode cX5_netAt 18 = .ok (.aconst_null, 1) := by decide +kernel
theorem dX5_netAt_19 : decode cX5_netAt 19 = .ok (.areturn, 1) := by decide +kernel
theorem dX5_isKnotCount_0 : decode cX5_isKnotCount 0 = .ok (.iload_n 0, 1) := by decide +kernel
theorem dX5_isKnotCount_1 : decode cX5_isKnotCount 1 = .ok (.iconst 1, 1) := by decide +kernel
theorem dX5_isKnotCount_2 : decode cX5_isKnotCount 2 = .ok (.if_icmp .lt 13, 3) := by decide +kernel
theorem dX5_isKnotCount_5 : decode cX5_isKnotCount 5 = .ok (.iload_n 0, 1) := by decide +kernel
theorem dX5_isKnotCount_6 : decode cX5_isKnotCount 6 = .ok (.bipush 10, 2) := by decide +kernel
theorem dX5_isKnotCount_8 : decode cX5_isKnotCount 8 = .ok (.if_icmp .gt 7, 3) := by decide +kernel
theorem dX5_isKnotCount_11 : decode cX5_isKnotCount 11 = .ok (.iconst 1, 1) := by decide +kernel
theorem dX5_isKnotCount_12 : decode cX5_isKnotCount 12 = .ok (.goto 4, 3) := by decide +kernel
theorem dX5_isKnotCount_15 : decode cX5_isKnotCount 15 = .ok (.iconst 0, 1) := by decide +kernel
theorem dX5_isKnotCount_16 : decode cX5_isKnotCount 16 = .ok (.ireturn, 1) := by decide +kernel
theorem dX5_isHalves_0 : decode cX5_isHalves 0 = .ok (.iload_n 0, 1) := by decide +kernel
theorem dX5_isHalves_1 : decode cX5_isHalves 1 = .ok (.bipush (-40), 2) := by decide +kernel
theorem dX5_isHalves_3 : decode cX5_isHalves 3 = .ok (.if_icmp .lt 13, 3) := by decide +kernel
theorem dX5_isHalves_6 : decode cX5_isHalves 6 = .ok (.iload_n 0, 1) := by decide +kernel
theorem dX5_isHalves_7 : decode cX5_isHalves 7 = .ok (.bipush 40, 2) := by decide +kernel
theorem dX5_isHalves_9 : decode cX5_isHalves 9 = .ok (.if_icmp .gt 7, 3) := by decide +kernel
theorem dX5_isHalves_12 : decode cX5_isHalves 12 = .ok (.iconst 1, 1) := by decide +kernel
theorem dX5_isHalves_13 : decode cX5_isHalves 13 = .ok (.goto 4, 3) := by decide +kernel
theorem dX5_isHalves_16 : decode cX5_isHalves 16 = .ok (.iconst 0, 1) := by decide +kernel
theorem dX5_isHalves_17 : decode cX5_isHalves 17 = .ok (.ireturn, 1) := by decide +kernel
theorem dX5_isStepCount_0 : decode cX5_isStepCount 0 = .ok (.iload_n 0, 1) := by decide +kernel
theorem dX5_isStepCount_1 : decode cX5_isStepCount 1 = .ok (.ifCond .lt 13, 3) := by decide +kernel
theorem dX5_isStepCount_4 : decode cX5_isStepCount 4 = .ok (.iload_n 0, 1) := by decide +kernel
theorem dX5_isStepCount_5 : decode cX5_isStepCount 5 = .ok (.bipush 12, 2) := by decide +kernel
theorem dX5_isStepCount_7 : decode cX5_isStepCount 7 = .ok (.if_icmp .gt 7, 3) := by decide +kernel
theorem dX5_isStepCount_10 : decode cX5_isStepCount 10 = .ok (.iconst 1, 1) := by decide +kernel
theorem dX5_isStepCount_11 : decode cX5_isStepCount 11 = .ok (.goto 4, 3) := by decide +kernel
theorem dX5_isStepCount_14 : decode cX5_isStepCount 14 = .ok (.iconst 0, 1) := by decide +kernel
theorem dX5_isStepCount_15 : decode cX5_isStepCount 15 = .ok (.ireturn, 1) := by decide +kernel
theorem dX5_power_0 : decode cX5_power 0 = .ok (.lconst 1, 1) := by decide +kernel
theorem dX5_power_1 : decode cX5_power 1 = .ok (.lstore_n 2, 1) := by decide +kernel
theorem dX5_power_2 : decode cX5_power 2 = .ok (.iconst 0, 1) := by decide +kernel
theorem dX5_power_3 : decode cX5_power 3 = .ok (.istore 4, 2) := by decide +kernel
theorem dX5_power_5 : decode cX5_power 5 = .ok (.iload 4, 2) := by decide +kernel
theorem dX5_power_7 : decode cX5_power 7 = .ok (.iload_n 1, 1) := by decide +kernel
theorem dX5_power_8 : decode cX5_power 8 = .ok (.if_icmp .ge 14, 3) := by decide +kernel
theorem dX5_power_11 : decode cX5_power 11 = .ok (.lload_n 2, 1) := by decide +kernel
theorem dX5_power_12 : decode cX5_power 12 = .ok (.iload_n 0, 1) := by decide +kernel
theorem dX5_power_13 : decode cX5_power 13 = .ok (.i2l, 1) := by decide +kernel
theorem dX5_power_14 : decode cX5_power 14 = .ok (.lmul, 1) := by decide +kernel
theorem dX5_power_15 : decode cX5_power 15 = .ok (.lstore_n 2, 1) := by decide +kernel
theorem dX5_power_16 : decode cX5_power 16 = .ok (.iinc 4 1, 3) := by decide +kernel
theorem dX5_power_19 : decode cX5_power 19 = .ok (.goto (-14), 3) := by decide +kernel
theorem dX5_power_22 : decode cX5_power 22 = .ok (.lload_n 2, 1) := by decide +kernel
theorem dX5_power_23 : decode cX5_power 23 = .ok (.lreturn, 1) := by decide +kernel
theorem dX5_leastSigning_0 : decode cX5_leastSigning 0 = .ok (.aload_n 0, 1) := by decide +kernel
theorem dX5_leastSigning_1 : decode cX5_leastSigning 1 = .ok (.aload_n 1, 1) := by decide +kernel
theorem dX5_leastSigning_2 : decode cX5_leastSigning 2 = .ok (.invokevirtual 214, 3) := by decide +kernel
theorem dX5_leastSigning_5 : decode cX5_leastSigning 5 = .ok (.istore_n 2, 1) := by decide +kernel
theorem dX5_leastSigning_6 : decode cX5_leastSigning 6 = .ok (.iconst 1, 1) := by decide +kernel
theorem dX5_leastSigning_7 : decode cX5_leastSigning 7 = .ok (.aload_n 1, 1) := by decide +kernel
theorem dX5_leastSigning_8 : decode cX5_leastSigning 8 = .ok (.invokevirtual 74, 3) := by decide +kernel
theorem dX5_leastSigning_11 : decode cX5_leastSigning 11 = .ok (.ishl, 1) := by decide +kernel
theorem dX5_leastSigning_12 : decode cX5_leastSigning 12 = .ok (.istore_n 3, 1) := by decide +kernel
theorem dX5_leastSigning_13 : decode cX5_leastSigning 13 = .ok (.iconst 0, 1) := by decide +kernel
theorem dX5_leastSigning_14 : decode cX5_leastSigning 14 = .ok (.istore 4, 2) := by decide +kernel
theorem dX5_leastSigning_16 : decode cX5_leastSigning 16 = .ok (.bipush 19, 2) := by decide +kernel
theorem dX5_leastSigning_18 : decode cX5_leastSigning 18 = .ok (.istore 5, 2) := by decide +kernel
theorem dX5_leastSigning_20 : decode cX5_leastSigning 20 = .ok (.iconst 0, 1) := by decide +kernel
theorem dX5_leastSigning_21 : decode cX5_leastSigning 21 = .ok (.istore 6, 2) := by decide +kernel
theorem dX5_leastSigning_23 : decode cX5_leastSigning 23 = .ok (.iload 6, 2) := by decide +kernel
theorem dX5_leastSigning_25 : decode cX5_leastSigning 25 = .ok (.iload_n 3, 1) := by decide +kernel
theorem dX5_leastSigning_26 : decode cX5_leastSigning 26 = .ok (.if_icmp .ge 53, 3) := by decide +kernel
theorem dX5_leastSigning_29 : decode cX5_leastSigning 29 = .ok (.iload 6, 2) := by decide +kernel
theorem dX5_leastSigning_31 : decode cX5_leastSigning 31 = .ok (.iload_n 2, 1) := by decide +kernel
theorem dX5_leastSigning_32 : decode cX5_leastSigning 32 = .ok (.iand, 1) := by decide +kernel
theorem dX5_leastSigning_33 : decode cX5_leastSigning 33 = .ok (.ifCond .eq 6, 3) := by decide +kernel
theorem dX5_leastSigning_36 : decode cX5_leastSigning 36 = .ok (.goto 37, 3) := by decide +kernel
theorem dX5_leastSigning_39 : decode cX5_leastSigning 39 = .ok (.aload_n 0, 1) := by decide +kernel
theorem dX5_leastSigning_40 : decode cX5_leastSigning 40 = .ok (.getfield 30, 3) := by decide +kernel
theorem dX5_leastSigning_43 : decode cX5_leastSigning 43 = .ok (.aload_n 1, 1) := by decide +kernel
theorem dX5_leastSigning_44 : decode cX5_leastSigning 44 = .ok (.iload 6, 2) := by decide +kernel
theorem dX5_leastSigning_46 : decode cX5_leastSigning 46 = .ok (.invokevirtual 134, 3) := by decide +kernel
theorem dX5_leastSigning_49 : decode cX5_leastSigning 49 = .ok (.aload_n 0, 1) := by decide +kernel
theorem dX5_leastSigning_50 : decode cX5_leastSigning 50 = .ok (.getfield 30, 3) := by decide +kernel
theorem dX5_leastSigning_53 : decode cX5_leastSigning 53 = .ok (.invokevirtual 145, 3) := by decide +kernel
theorem dX5_leastSigning_56 : decode cX5_leastSigning 56 = .ok (.istore 7, 2) := by decide +kernel
theorem dX5_leastSigning_58 : decode cX5_leastSigning 58 = .ok (.iload 7, 2) := by decide +kernel
theorem dX5_leastSigning_60 : decode cX5_leastSigning 60 = .ok (.iload 5, 2) := by decide +kernel
theorem dX5_leastSigning_62 : decode cX5_leastSigning 62 = .ok (.if_icmp .ge 11, 3) := by decide +kernel
theorem dX5_leastSigning_65 : decode cX5_leastSigning 65 = .ok (.iload 7, 2) := by decide +kernel
theorem dX5_leastSigning_67 : decode cX5_leastSigning 67 = .ok (.istore 5, 2) := by decide +kernel
theorem dX5_leastSigning_69 : decode cX5_leastSigning 69 = .ok (.iload 6, 2) := by decide +kernel
theorem dX5_leastSigning_71 : decode cX5_leastSigning 71 = .ok (.istore 4, 2) := by decide +kernel
theorem dX5_leastSigning_73 : decode cX5_leastSigning 73 = .ok (.iinc 6 1, 3) := by decide +kernel
theorem dX5_leastSigning_76 : decode cX5_leastSigning 76 = .ok (.goto (-53), 3) := by decide +kernel
theorem dX5_leastSigning_79 : decode cX5_leastSigning 79 = .ok (.iload 4, 2) := by decide +kernel
theorem dX5_leastSigning_81 : decode cX5_leastSigning 81 = .ok (.ireturn, 1) := by decide +kernel
theorem dX5_lateForest_0 : decode cX5_lateForest 0 = .ok (.aload_n 0, 1) := by decide +kernel
theorem dX5_lateForest_1 : decode cX5_lateForest 1 = .ok (.getfield 16, 3) := by decide +kernel
theorem dX5_lateForest_4 : decode cX5_lateForest 4 = .ok (.aload_n 1, 1) := by decide +kernel
theorem dX5_lateForest_5 : decode cX5_lateForest 5 = .ok (.getfield 78, 3) := by decide +kernel
theorem dX5_lateForest_8 : decode cX5_lateForest 8 = .ok (.invokevirtual 56, 3) := by decide +kernel
theorem dX5_lateForest_11 : decode cX5_lateForest 11 = .ok (.iconst 0, 1) := by decide +kernel
theorem dX5_lateForest_12 : decode cX5_lateForest 12 = .ok (.istore_n 2, 1) := by decide +kernel
theorem dX5_lateForest_13 : decode cX5_lateForest 13 = .ok (.aload_n 1, 1) := by decide +kernel
theorem dX5_lateForest_14 : decode cX5_lateForest 14 = .ok (.invokevirtual 74, 3) := by decide +kernel
theorem dX5_lateForest_17 : decode cX5_lateForest 17 = .ok (.istore_n 3, 1) := by decide +kernel
theorem dX5_lateForest_18 : decode cX5_lateForest 18 = .ok (.aload_n 1, 1) := by decide +kernel
theorem dX5_lateForest_19 : decode cX5_lateForest 19 = .ok (.getfield 78, 3) := by decide +kernel
theorem dX5_lateForest_22 : decode cX5_lateForest 22 = .ok (.iconst 1, 1) := by decide +kernel
theorem dX5_lateForest_23 : decode cX5_lateForest 23 = .ok (.isub, 1) := by decide +kernel
theorem dX5_lateForest_24 : decode cX5_lateForest 24 = .ok (.istore 4, 2) := by decide +kernel
theorem dX5_lateForest_26 : decode cX5_lateForest 26 = .ok (.iload 4, 2) := by decide +kernel
theorem dX5_lateForest_28 : decode cX5_lateForest 28 = .ok (.ifCond .lt 80, 3) := by decide +kernel
theorem dX5_lateForest_31 : decode cX5_lateForest 31 = .ok (.aload_n 1, 1) := by decide +kernel
theorem dX5_lateForest_32 : decode cX5_lateForest 32 = .ok (.getfield 78, 3) := by decide +kernel
theorem dX5_lateForest_35 : decode cX5_lateForest 35 = .ok (.iconst 1, 1) := by decide +kernel
theorem dX5_lateForest_36 : decode cX5_lateForest 36 = .ok (.isub, 1) := by decide +kernel
theorem dX5_lateForest_37 : decode cX5_lateForest 37 = .ok (.istore 5, 2) := by decide +kernel
theorem dX5_lateForest_39 : decode cX5_lateForest 39 = .ok (.iload 5, 2) := by decide +kernel
theorem dX5_lateForest_41 : decode cX5_lateForest 41 = .ok (.iload 4, 2) := by decide +kernel
theorem dX5_lateForest_43 : decode cX5_lateForest 43 = .ok (.if_icmp .le 59, 3) := by decide +kernel
theorem dX5_lateForest_46 : decode cX5_lateForest 46 = .ok (.aload_n 1, 1) := by decide +kernel
theorem dX5_lateForest_47 : decode cX5_lateForest 47 = .ok (.iload 4, 2) := by decide +kernel
theorem dX5_lateForest_49 : decode cX5_lateForest 49 = .ok (.iload 5, 2) := by decide +kernel
theorem dX5_lateForest_51 : decode cX5_lateForest 51 = .ok (.invokevirtual 64, 3) := by decide +kernel
theorem dX5_lateForest_54 : decode cX5_lateForest 54 = .ok (.ifCond .ne 6, 3) := by decide +kernel
theorem dX5_lateForest_57 : decode cX5_lateForest 57 = .ok (.goto 39, 3) := by decide +kernel
theorem dX5_lateForest_60 : decode cX5_lateForest 60 = .ok (.iinc 3 (-1), 3) := by decide +kernel
theorem dX5_lateForest_63 : decode cX5_lateForest 63 = .ok (.aload_n 0, 1) := by decide +kernel
theorem dX5_lateForest_64 : decode cX5_lateForest 64 = .ok (.getfield 16, 3) := by decide +kernel
theorem dX5_lateForest_67 : decode cX5_lateForest 67 = .ok (.iload 4, 2) := by decide +kernel
theorem dX5_lateForest_69 : decode cX5_lateForest 69 = .ok (.iload 5, 2) := by decide +kernel
theorem dX5_lateForest_71 : decode cX5_lateForest 71 = .ok (.iconst 1, 1) := by decide +kernel
theorem dX5_lateForest_72 : decode cX5_lateForest 72 = .ok (.invokevirtual 185, 3) := by decide +kernel
theorem dX5_lateForest_75 : decode cX5_lateForest 75 = .ok (.iconst (-1), 1) := by decide +kernel
theorem dX5_lateForest_76 : decode cX5_lateForest 76 = .ok (.if_icmp .ne 20, 3) := by decide +kernel
theorem dX5_lateForest_79 : decode cX5_lateForest 79 = .ok (.aload_n 0, 1) := by decide +kernel
theorem dX5_lateForest_80 : decode cX5_lateForest 80 = .ok (.getfield 16, 3) := by decide +kernel
theorem dX5_lateForest_83 : decode cX5_lateForest 83 = .ok (.iload 4, 2) := by decide +kernel
theorem dX5_lateForest_85 : decode cX5_lateForest 85 = .ok (.iload 5, 2) := by decide +kernel
theorem dX5_lateForest_87 : decode cX5_lateForest 87 = .ok (.invokevirtual 67, 3) := by decide +kernel
theorem dX5_lateForest_90 : decode cX5_lateForest 90 = .ok (.iload_n 2, 1) := by decide +kernel
theorem dX5_lateForest_91 : decode cX5_lateForest 91 = .ok (.iconst 1, 1) := by decide +kernel
theorem dX5_lateForest_92 : decode cX5_lateForest 92 = .ok (.iload_n 3, 1) := by decide +kernel
theorem dX5_lateForest_93 : decode cX5_lateForest 93 = .ok (.ishl, 1) := by decide +kernel
theorem dX5_lateForest_94 : decode cX5_lateForest 94 = .ok (.ior, 1) := by decide +kernel
theorem dX5_lateForest_95 : decode cX5_lateForest 95 = .ok (.istore_n 2, 1) := by decide +kernel
theorem dX5_lateForest_96 : decode cX5_lateForest 96 = .ok (.iinc 5 (-1), 3) := by decide +kernel
theorem dX5_lateForest_99 : decode cX5_lateForest 99 = .ok (.goto (-60), 3) := by decide +kernel
theorem dX5_lateForest_102 : decode cX5_lateForest 102 = .ok (.iinc 4 (-1), 3) := by decide +kernel
theorem dX5_lateForest_105 : decode cX5_lateForest 105 = .ok (.goto (-79), 3) := by decide +kernel
theorem dX5_lateForest_108 : decode cX5_lateForest 108 = .ok (.iload_n 2, 1) := by decide +kernel
theorem dX5_lateForest_109 : decode cX5_lateForest 109 = .ok (.ireturn, 1) := by decide +kernel
theorem dX6_init_0 : decode cX6_init 0 = .ok (.aload_n 0, 1) := by decide +kernel
theorem dX6_init_1 : decode cX6_init 1 = .ok (.invokespecial 1, 3) := by decide +kernel
theorem dX6_init_4 : decode cX6_init 4 = .ok (.aload_n 0, 1) := by decide +kernel
theorem dX6_init_5 : decode cX6_init 5 = .ok (.iconst 4, 1) := by decide +kernel
theorem dX6_init_6 : decode cX6_init 6 = .ok (.newarray .int, 2) := by decide +kernel
theorem dX6_init_8 : decode cX6_init 8 = .ok (.putfield 7, 3) := by decide +kernel
theorem dX6_init_11 : decode cX6_init 11 = .ok (.aload_n 0, 1) := by decide +kernel
theorem dX6_init_12 : decode cX6_init 12 = .ok (.bipush 40, 2) := by decide +kernel
theorem dX6_init_14 : decode cX6_init 14 = .ok (.newarray .int, 2) := by decide +kernel
theorem dX6_init_16 : decode cX6_init 16 = .ok (.putfield 13, 3) := by decide +kernel
theorem dX6_init_19 : decode cX6_init 19 = .ok (.aload_n 0, 1) := by decide +kernel
theorem dX6_init_20 : decode cX6_init 20 = .ok (.bipush 10, 2) := by decide +kernel
theorem dX6_init_22 : decode cX6_init 22 = .ok (.newarray .int, 2) := by decide +kernel
theorem dX6_init_24 : decode cX6_init 24 = .ok (.putfield 16, 3) := by decide +kernel
theorem dX6_init_27 : decode cX6_init 27 = .ok (.aload_n 0, 1) := by decide +kernel
theorem dX6_init_28 : decode cX6_init 28 = .ok (.bipush 10, 2) := by decide +kernel
theorem dX6_init_30 : decode cX6_init 30 = .ok (.newarray .int, 2) := by decide +kernel
theorem dX6_init_32 : decode cX6_init 32 = .ok (.putfield 19, 3) := by decide +kernel
theorem dX6_init_35 : decode cX6_init 35 = .ok (.aload_n 0, 1) := by decide +kernel
theorem dX6_init_36 : decode cX6_init 36 = .ok (.bipush 45, 2) := by decide +kernel
theorem dX6_init_38 : decode cX6_init 38 = .ok (.newarray .int, 2) := by decide +kernel
theorem dX6_init_40 : decode cX6_init 40 = .ok (.putfield 22, 3) := by decide +kernel
theorem dX6_init_43 : decode cX6_init 43 = .ok (.aload_n 0, 1) := by decide +kernel
theorem dX6_init_44 : decode cX6_init 44 = .ok (.bipush 45, 2) := by decide +kernel
theorem dX6_init_46 : decode cX6_init 46 = .ok (.newarray .int, 2) := by decide +kernel
theorem dX6_init_48 : decode cX6_init 48 = .ok (.putfield 25, 3) := by decide +kernel
theorem dX6_init_51 : decode cX6_init 51 = .ok (.aload_n 0, 1) := by decide +kernel
theorem dX6_init_52 : decode cX6_init 52 = .ok (.bipush 100, 2) := by decide +kernel
theorem dX6_init_54 : decode cX6_init 54 = .ok (.newarray .long, 2) := by decide +kernel
theorem dX6_init_56 : decode cX6_init 56 = .ok (.putfield 28, 3) := by decide +kernel
theorem dX6_init_59 : decode cX6_init 59 = .ok (.aload_n 0, 1) := by decide +kernel
theorem dX6_init_60 : decode cX6_init 60 = .ok (.bipush 100, 2) := by decide +kernel
theorem dX6_init_62 : decode cX6_init 62 = .ok (.newarray .long, 2) := by decide +kernel
theorem dX6_init_64 : decode cX6_init 64 = .ok (.putfield 32, 3) := by decide +kernel
theorem dX6_init_67 : decode cX6_init 67 = .ok (.aload_n 0, 1) := by decide +kernel
theorem dX6_init_68 : decode cX6_init 68 = .ok (.bipush 100, 2) := by decide +kernel
theorem dX6_init_70 : decode cX6_init 70 = .ok (.newarray .long, 2) := by decide +kernel
theorem dX6_init_72 : decode cX6_init 72 = .ok (.putfield 35, 3) := by decide +kernel
theorem dX6_init_75 : decode cX6_init 75 = .ok (.aload_n 0, 1) := by decide +kernel
theorem dX6_init_76 : decode cX6_init 76 = .ok (.bipush 11, 2) := by decide +kernel
theorem dX6_init_78 : decode cX6_init 78 = .ok (.newarray .long, 2) := by decide +kernel
theorem dX6_init_80 : decode cX6_init 80 = .ok (.putfield 38, 3) := by decide +kernel
theorem dX6_init_83 : decode cX6_init 83 = .ok (.aload_n 0, 1) := by decide +kernel
theorem dX6_init_84 : decode cX6_init 84 = .ok (.bipush 11, 2) := by decide +kernel
theorem dX6_init_86 : decode cX6_init 86 = .ok (.newarray .long, 2) := by decide +kernel
theorem dX6_init_88 : decode cX6_init 88 = .ok (.putfield 41, 3) := by decide +kernel
theorem dX6_init_91 : decode cX6_init 91 = .ok (.aload_n 0, 1) := by decide +kernel
theorem dX6_init_92 : decode cX6_init 92 = .ok (.bipush 10, 2) := by decide +kernel
theorem dX6_init_94 : decode cX6_init 94 = .ok (.newarray .long, 2) := by decide +kernel
theorem dX6_init_96 : decode cX6_init 96 = .ok (.putfield 44, 3) := by decide +kernel
theorem dX6_init_99 : decode cX6_init 99 = .ok (.aload_n 0, 1) := by decide +kernel
theorem dX6_init_100 : decode cX6_init 100 = .ok (.bipush 10, 2) := by decide +kernel
theorem dX6_init_102 : decode cX6_init 102 = .ok (.newarray .long, 2) := by decide +kernel
theorem dX6_init_104 : decode cX6_init 104 = .ok (.putfield 47, 3) := by decide +kernel
theorem dX6_init_107 : decode cX6_init 107 = .ok (.aload_n 0, 1) := by decide +kernel
theorem dX6_init_108 : decode cX6_init 108 = .ok (.bipush 10, 2) := by decide +kernel
theorem dX6_init_110 : decode cX6_init 110 = .ok (.newarray .int, 2) := by decide +kernel
theorem dX6_init_112 : decode cX6_init 112 = .ok (.putfield 50, 3) := by decide +kernel
theorem dX6_init_115 : decode cX6_init 115 = .ok (.aload_n 0, 1) := by decide +kernel
theorem dX6_init_116 : decode cX6_init 116 = .ok (.bipush 10, 2) := by decide +kernel
theorem dX6_init_118 : decode cX6_init 118 = .ok (.newarray .int, 2) := by decide +kernel
theorem dX6_init_120 : decode cX6_init 120 = .ok (.putfield 53, 3) := by decide +kernel
theorem dX6_init_123 : decode cX6_init 123 = .ok (.aload_n 0, 1) := by decide +kernel
theorem dX6_init_124 : decode cX6_init 124 = .ok (.bipush 20, 2) := by decide +kernel
theorem dX6_init_126 : decode cX6_init 126 = .ok (.newarray .int, 2) := by decide +kernel
theorem dX6_init_128 : decode cX6_init 128 = .ok (.putfield 56, 3) := by decide +kernel
theorem dX6_init_131 : decode cX6_init 131 = .ok (.aload_n 0, 1) := by decide +kernel
theorem dX6_init_132 : decode cX6_init 132 = .ok (.bipush 20, 2) := by decide +kernel
theorem dX6_init_134 : decode cX6_init 134 = .ok (.newarray .int, 2) := by decide +kernel
theorem dX6_init_136 : decode cX6_init 136 = .ok (.putfield 59, 3) := by decide +kernel
theorem dX6_init_139 : decode cX6_init 139 = .ok (.aload_n 0, 1) := by decide +kernel
theorem dX6_init_140 : decode cX6_init 140 = .ok (.bipush 20, 2) := by decide +kernel
theorem dX6_init_142 : decode cX6_init 142 = .ok (.newarray .int, 2) := by decide +kernel
theorem dX6_init_144 : decode cX6_init 144 = .ok (.putfield 62, 3) := by decide +kernel
theorem dX6_init_147 : decode cX6_init 147 = .ok (.iconst 0, 1) := by decide +kernel
theorem dX6_init_148 : decode cX6_init 148 = .ok (.istore_n 1, 1) := by decide +kernel
theorem dX6_init_149 : decode cX6_init 149 = .ok (.iload_n 1, 1) := by decide +kernel
theorem dX6_init_150 : decode cX6_init 150 = .ok (.iconst 4, 1) := by decide +kernel
theorem dX6_init_151 : decode cX6_init 151 = .ok (.if_icmp .ge 16, 3) := by decide +kernel
theorem dX6_init_154 : decode cX6_init 154 = .ok (.aload_n 0, 1) := by decide +kernel
theorem dX6_init_155 : decode cX6_init 155 = .ok (.getfield 7, 3) := by decide +kernel
theorem dX6_init_158 : decode cX6_init 158 = .ok (.iload_n 1, 1) := by decide +kernel
theorem dX6_init_159 : decode cX6_init 159 = .ok (.iconst 1, 1) := by decide +kernel
theorem dX6_init_160 : decode cX6_init 160 = .ok (.iastore, 1) := by decide +kernel
theorem dX6_init_161 : decode cX6_init 161 = .ok (.iinc 1 1, 3) := by decide +kernel
theorem dX6_init_164 : decode cX6_init 164 = .ok (.goto (-15), 3) := by decide +kernel
theorem dX6_init_167 : decode cX6_init 167 = .ok (.return_, 1) := by decide +kernel
theorem dX6_in_0 : decode cX6_in 0 = .ok (.iload_n 0, 1) := by decide +kernel
theorem dX6_in_1 : decode cX6_in 1 = .ok (.iload_n 1, 1) := by decide +kernel
theorem dX6_in_2 : decode cX6_in 2 = .ok (.if_icmp .lt 12, 3) := by decide +kernel
theorem dX6_in_5 : decode cX6_in 5 = .ok (.iload_n 0, 1) := by decide +kernel
theorem dX6_in_6 : decode cX6_in 6 = .ok (.iload_n 2, 1) := by decide +kernel
theorem dX6_in_7 : decode cX6_in 7 = .ok (.if_icmp .gt 7, 3) := by decide +kernel
theorem dX6_in_10 : decode cX6_in 10 = .ok (.iconst 1, 1) := by decide +kernel
theorem dX6_in_11 : decode cX6_in 11 = .ok (.goto 4, 3) := by decide +kernel
theorem dX6_in_14 : decode cX6_in 14 = .ok (.iconst 0, 1) := by decide +kernel
theorem dX6_in_15 : decode cX6_in 15 = .ok (.ireturn, 1) := by decide +kernel
theorem dX6_isNet_0 : decode cX6_isNet 0 = .ok (.iload_n 0, 1) := by decide +kernel
theorem dX6_isNet_1 : decode cX6_isNet 1 = .ok (.iconst 0, 1) := by decide +kernel
theorem dX6_isNet_2 : decode cX6_isNet 2 = .ok (.iconst 3, 1) := by decide +kernel
theorem dX6_isNet_3 : decode cX6_isNet 3 = .ok (.invokestatic 65, 3) := by decide +kernel
theorem dX6_isNet_6 : decode cX6_isNet 6 = .ok (.ireturn, 1) := by decide +kernel
theorem dX6_isKnot_0 : decode cX6_isKnot 0 = .ok (.iload_n 1, 1) := by decide +kernel
theorem dX6_isKnot_1 : decode cX6_isKnot 1 = .ok (.invokestatic 69, 3) := by decide +kernel
theorem dX6_isKnot_4 : decode cX6_isKnot 4 = .ok (.ifCond .eq 23, 3) := by decide +kernel
theorem dX6_isKnot_7 : decode cX6_isKnot 7 = .ok (.iload_n 2, 1) := by decide +kernel
theorem dX6_isKnot_8 : decode cX6_isKnot 8 = .ok (.iconst 0, 1) := by decide +kernel
theorem dX6_isKnot_9 : decode cX6_isKnot 9 = .ok (.aload_n 0, 1) := by decide +kernel
theorem dX6_isKnot_10 : decode cX6_isKnot 10 = .ok (.getfield 7, 3) := by decide +kernel
theorem dX6_isKnot_13 : decode cX6_isKnot 13 = .ok (.iload_n 1, 1) := by decide +kernel
theorem dX6_isKnot_14 : decode cX6_isKnot 14 = .ok (.iaload, 1) := by decide +kernel
theorem dX6_isKnot_15 : decode cX6_isKnot 15 = .ok (.iconst 1, 1) := by decide +kernel
theorem dX6_isKnot_16 : decode cX6_isKnot 16 = .ok (.isub, 1) := by decide +kernel
theorem dX6_isKnot_17 : decode cX6_isKnot 17 = .ok (.invokestatic 65, 3) := by decide +kernel
theorem dX6_isKnot_20 : decode cX6_isKnot 20 = .ok (.ifCond .eq 7, 3) := by decide +kernel
theorem dX6_isKnot_23 : decode cX6_isKnot 23 = .ok (.iconst 1, 1) := by decide +kernel
theorem dX6_isKnot_24 : decode cX6_isKnot 24 = .ok (.goto 4, 3) := by decide +kernel
theorem dX6_isKnot_27 : decode cX6_isKnot 27 = .ok (.iconst 0, 1) := by decide +kernel
theorem dX6_isKnot_28 : decode cX6_isKnot 28 = .ok (.ireturn, 1) := by decide +kernel
theorem dX6_has_0 : decode cX6_has 0 = .ok (.aload_n 0, 1) := by decide +kernel
theorem dX6_has_1 : decode cX6_has 1 = .ok (.getfield 13, 3) := by decide +kernel
theorem dX6_has_4 : decode cX6_has 4 = .ok (.bipush 10, 2) := by decide +kernel
theorem dX6_has_6 : decode cX6_has 6 = .ok (.iload_n 1, 1) := by decide +kernel
theorem dX6_has_7 : decode cX6_has 7 = .ok (.imul, 1) := by decide +kernel
theorem dX6_has_8 : decode cX6_has 8 = .ok (.iload_n 2, 1) := by decide +kernel
theorem dX6_has_9 : decode cX6_has 9 = .ok (.iadd, 1) := by decide +kernel
theorem dX6_has_10 : decode cX6_has 10 = .ok (.iaload, 1) := by decide +kernel
theorem dX6_has_11 : decode cX6_has 11 = .ok (.iload_n 3, 1) := by decide +kernel
theorem dX6_has_12 : decode cX6_has 12 = .ok (.ishr, 1) := by decide +kernel
theorem dX6_has_13 : decode cX6_has 13 = .ok (.iconst 1, 1) := by decide +kernel
theorem dX6_has_14 : decode cX6_has 14 = .ok (.iand, 1) := by decide +kernel
theorem dX6_has_15 : decode cX6_has 15 = .ok (.iconst 1, 1) := by decide +kernel
theorem dX6_has_16 : decode cX6_has 16 = .ok (.if_icmp .ne 7, 3) := by decide +kernel
theorem dX6_has_19 : decode cX6_has 19 = .ok (.iconst 1, 1) := by decide +kernel
theorem dX6_has_20 : decode cX6_has 20 = .ok (.goto 4, 3) := by decide +kernel
theorem dX6_has_23 : decode cX6_has 23 = .ok (.iconst 0, 1) := by decide +kernel
theorem dX6_has_24 : decode cX6_has 24 = .ok (.ireturn, 1) := by decide +kernel
theorem dX6_put_0 : decode cX6_put 0 = .ok (.aload_n 0, 1) := by decide +kernel
theorem dX6_put_1 : decode cX6_put 1 = .ok (.getfield 13, 3) := by decide +kernel
theorem dX6_put_4 : decode cX6_put 4 = .ok (.bipush 10, 2) := by decide +kernel
theorem dX6_put_6 : decode cX6_put 6 = .ok (.iload_n 1, 1) := by decide +kernel
theorem dX6_put_7 : decode cX6_put 7 = .ok (.imul, 1) := by decide +kernel
theorem dX6_put_8 : decode cX6_put 8 = .ok (.iload_n 2, 1) := by decide +kernel
theorem dX6_put_9 : decode cX6_put 9 = .ok (.iadd, 1) := by decide +kernel
theorem dX6_put_10 : decode cX6_put 10 = .ok (.dup2, 1) := by decide +kernel
theorem dX6_put_11 : decode cX6_put 11 = .ok (.iaload, 1) := by decide +kernel
theorem dX6_put_12 : decode cX6_put 12 = .ok (.iconst 1, 1) := by decide +kernel
theorem dX6_put_13 : decode cX6_put 13 = .ok (.iload_n 3, 1) := by decide +kernel
theorem dX6_put_14 : decode cX6_put 14 = .ok (.ishl, 1) := by decide +kernel
theorem dX6_put_15 : decode cX6_put 15 = .ok (.ior, 1) := by decide +kernel
theorem dX6_put_16 : decode cX6_put 16 = .ok (.iastore, 1) := by decide +kernel
theorem dX6_put_17 : decode cX6_put 17 = .ok (.aload_n 0, 1) := by decide +kernel
theorem dX6_put_18 : decode cX6_put 18 = .ok (.getfield 13, 3) := by decide +kernel
theorem dX6_put_21 : decode cX6_put 21 = .ok (.bipush 10, 2) := by decide +kernel
theorem dX6_put_23 : decode cX6_put 23 = .ok (.iload_n 1, 1) := by decide +kernel
theorem dX6_put_24 : decode cX6_put 24 = .ok (.imul, 1) := by decide +kernel
theorem dX6_put_25 : decode cX6_put 25 = .ok (.iload_n 3, 1) := by decide +kernel
theorem dX6_put_26 : decode cX6_put 26 = .ok (.iadd, 1) := by decide +kernel
theorem dX6_put_27 : decode cX6_put 27 = .ok (.dup2, 1) := by decide +kernel
theorem dX6_put_28 : decode cX6_put 28 = .ok (.iaload, 1) := by decide +kernel
theorem dX6_put_29 : decode cX6_put 29 = .ok (.iconst 1, 1) := by decide +kernel
theorem dX6_put_30 : decode cX6_put 30 = .ok (.iload_n 2, 1) := by decide +kernel
theorem dX6_put_31 : decode cX6_put 31 = .ok (.ishl, 1) := by decide +kernel
theorem dX6_put_32 : decode cX6_put 32 = .ok (.ior, 1) := by decide +kernel
theorem dX6_put_33 : decode cX6_put 33 = .ok (.iastore, 1) := by decide +kernel
theorem dX6_put_34 : decode cX6_put 34 = .ok (.return_, 1) := by decide +kernel
theorem dX6_begin_0 : decode cX6_begin 0 = .ok (.aload_n 0, 1) := by decide +kernel
theorem dX6_begin_1 : decode cX6_begin 1 = .ok (.getfield 7, 3) := by decide +kernel
theorem dX6_begin_4 : decode cX6_begin 4 = .ok (.iload_n 1, 1) := by decide +kernel
theorem dX6_begin_5 : decode cX6_begin 5 = .ok (.iload_n 2, 1) := by decide +kernel
theorem dX6_begin_6 : decode cX6_begin 6 = .ok (.iastore, 1) := by decide +kernel
theorem dX6_begin_7 : decode cX6_begin 7 = .ok (.iconst 0, 1) := by decide +kernel
theorem dX6_begin_8 : decode cX6_begin 8 = .ok (.istore_n 3, 1) := by decide +kernel
theorem dX6_begin_9 : decode cX6_begin 9 = .ok (.iload_n 3, 1) := by decide +kernel
theorem dX6_begin_10 : decode cX6_begin 10 = .ok (.bipush 10, 2) := by decide +kernel
theorem dX6_begin_12 : decode cX6_begin 12 = .ok (.if_icmp .ge 21, 3) := by decide +kernel
theorem dX6_begin_15 : decode cX6_begin 15 = .ok (.aload_n 0, 1) := by decide +kernel
theorem dX6_begin_16 : decode cX6_begin 16 = .ok (.getfield 13, 3) := by decide +kernel
theorem dX6_begin_19 : decode cX6_begin 19 = .ok (.bipush 10, 2) := by decide +kernel
theorem dX6_begin_21 : decode cX6_begin 21 = .ok (.iload_n 1, 1) := by decide +kernel
theorem dX6_begin_22 : decode cX6_begin 22 = .ok (.imul, 1) := by decide +kernel
theorem dX6_begin_23 : decode cX6_begin 23 = .ok (.iload_n 3, 1) := by decide +kernel
theorem dX6_begin_24 : decode cX6_begin 24 = .ok (.iadd, 1) := by decide +kernel
theorem dX6_begin_25 : decode cX6_begin 25 = .ok (.iconst 0, 1) := by decide +kernel
theorem dX6_begin_26 : decode cX6_begin 26 = .ok (.iastore, 1) := by decide +kernel
theorem dX6_begin_27 : decode cX6_begin 27 = .ok (.iinc 3 1, 3) := by decide +kernel
theorem dX6_begin_30 : decode cX6_begin 30 = .ok (.goto (-21), 3) := by decide +kernel
theorem dX6_begin_33 : decode cX6_begin 33 = .ok (.return_, 1) := by decide +kernel
theorem dX6_lines_0 : decode cX6_lines 0 = .ok (.iconst 0, 1) := by decide +kernel
theorem dX6_lines_1 : decode cX6_lines 1 = .ok (.istore_n 2, 1) := by decide +kernel
theorem dX6_lines_2 : decode cX6_lines 2 = .ok (.iconst 0, 1) := by decide +kernel
theorem dX6_lines_3 : decode cX6_lines 3 = .ok (.istore_n 3, 1) := by decide +kernel
theorem dX6_lines_4 : decode cX6_lines 4 = .ok (.iload_n 3, 1) := by decide +kernel
theorem dX6_lines_5 : decode cX6_lines 5 = .ok (.aload_n 0, 1) := by decide +kernel
theorem dX6_lines_6 : decode cX6_lines 6 = .ok (.getfield 7, 3) := by decide +kernel
theorem dX6_lines_9 : decode cX6_lines 9 = .ok (.iload_n 1, 1) := by decide +kernel
theorem dX6_lines_10 : decode cX6_lines 10 = .ok (.iaload, 1) := by decide +kernel
theorem dX6_lines_11 : decode cX6_lines 11 = .ok (.if_icmp .ge 26, 3) := by decide +kernel
theorem dX6_lines_14 : decode cX6_lines 14 = .ok (.iload_n 2, 1) := by decide +kernel
theorem dX6_lines_15 : decode cX6_lines 15 = .ok (.aload_n 0, 1) := by decide +kernel
theorem dX6_lines_16 : decode cX6_lines 16 = .ok (.getfield 13, 3) := by decide +kernel
theorem dX6_lines_19 : decode cX6_lines 19 = .ok (.bipush 10, 2) := by decide +kernel
theorem dX6_lines_21 : decode cX6_lines 21 = .ok (.iload_n 1, 1) := by decide +kernel
theorem dX6_lines_22 : decode cX6_lines 22 = .ok (.imul, 1) := by decide +kernel
theorem dX6_lines_23 : decode cX6_lines 23 = .ok (.iload_n 3, 1) := by decide +kernel
theorem dX6_lines_24 : decode cX6_lines 24 = .ok (.iadd, 1) := by decide +kernel
theorem dX6_lines_25 : decode cX6_lines 25 = .ok (.iaload, 1) := by decide +kernel
theorem dX6_lines_26 : decode cX6_lines 26 = .ok (.invokestatic 73, 3) := by decide +kernel
theorem dX6_lines_29 : decode cX6_lines 29 = .ok (.iadd, 1) := by decide +kernel
theorem dX6_lines_30 : decode cX6_lines 30 = .ok (.istore_n 2, 1) := by decide +kernel
theorem dX6_lines_31 : decode cX6_lines 31 = .ok (.iinc 3 1, 3) := by decide +kernel
theorem dX6_lines_34 : decode cX6_lines 34 = .ok (.goto (-30), 3) := by decide +kernel
theorem dX6_lines_37 : decode cX6_lines 37 = .ok (.iload_n 2, 1) := by decide +kernel
theorem dX6_lines_38 : decode cX6_lines 38 = .ok (.iconst 2, 1) := by decide +kernel
theorem dX6_lines_39 : decode cX6_lines 39 = .ok (.idiv, 1) := by decide +kernel
theorem dX6_lines_40 : decode cX6_lines 40 = .ok (.ireturn, 1) := by decide +kernel
theorem dX6_bits_0 : decode cX6_bits 0 = .ok (.iconst 0, 1) := by decide +kernel
theorem dX6_bits_1 : decode cX6_bits 1 = .ok (.istore_n 1, 1) := by decide +kernel
theorem dX6_bits_2 : decode cX6_bits 2 = .ok (.iconst 0, 1) := by decide +kernel
theorem dX6_bits_3 : decode cX6_bits 3 = .ok (.istore_n 2, 1) := by decide +kernel
theorem dX6_bits_4 : decode cX6_bits 4 = .ok (.iload_n 2, 1) := by decide +kernel
theorem dX6_bits_5 : decode cX6_bits 5 = .ok (.bipush 10, 2) := by decide +kernel
theorem dX6_bits_7 : decode cX6_bits 7 = .ok (.if_icmp .ge 17, 3) := by decide +kernel
theorem dX6_bits_10 : decode cX6_bits 10 = .ok (.iload_n 1, 1) := by decide +kernel
theorem dX6_bits_11 : decode cX6_bits 11 = .ok (.iload_n 0, 1) := by decide +kernel
theorem dX6_bits_12 : decode cX6_bits 12 = .ok (.iload_n 2, 1) := by decide +kernel
theorem dX6_bits_13 : decode cX6_bits 13 = .ok (.ishr, 1) := by decide +kernel
theorem dX6_bits_14 : decode cX6_bits 14 = .ok (.iconst 1, 1) := by decide +kernel
theorem dX6_bits_15 : decode cX6_bits 15 = .ok (.iand, 1) := by decide +kernel
theorem dX6_bits_16 : decode cX6_bits 16 = .ok (.iadd, 1) := by decide +kernel
theorem dX6_bits_17 : decode cX6_bits 17 = .ok (.istore_n 1, 1) := by decide +kernel
theorem dX6_bits_18 : decode cX6_bits 18 = .ok (.iinc 2 1, 3) := by decide +kernel
theorem dX6_bits_21 : decode cX6_bits 21 = .ok (.goto (-17), 3) := by decide +kernel
theorem dX6_bits_24 : decode cX6_bits 24 = .ok (.iload_n 1, 1) := by decide +kernel
theorem dX6_bits_25 : decode cX6_bits 25 = .ok (.ireturn, 1) := by decide +kernel
theorem dX6_net_0 : decode cX6_net 0 = .ok (.iload_n 1, 1) := by decide +kernel
theorem dX6_net_1 : decode cX6_net 1 = .ok (.invokestatic 69, 3) := by decide +kernel
theorem dX6_net_4 : decode cX6_net 4 = .ok (.ifCond .eq 13, 3) := by decide +kernel
theorem dX6_net_7 : decode cX6_net 7 = .ok (.iload_n 2, 1) := by decide +kernel
theorem dX6_net_8 : decode cX6_net 8 = .ok (.iconst 1, 1) := by decide +kernel
theorem dX6_net_9 : decode cX6_net 9 = .ok (.bipush 10, 2) := by decide +kernel
theorem dX6_net_11 : decode cX6_net 11 = .ok (.invokestatic 65, 3) := by decide +kernel
theorem dX6_net_14 : decode cX6_net 14 = .ok (.ifCond .ne 6, 3) := by decide +kernel
theorem dX6_net_17 : decode cX6_net 17 = .ok (.bipush (-2), 2) := by decide +kernel
theorem dX6_net_19 : decode cX6_net 19 = .ok (.ireturn, 1) := by decide +kernel
theorem dX6_net_20 : decode cX6_net 20 = .ok (.aload_n 0, 1) := by decide +kernel
theorem dX6_net_21 : decode cX6_net 21 = .ok (.iload_n 1, 1) := by decide +kernel
theorem dX6_net_22 : decode cX6_net 22 = .ok (.iload_n 2, 1) := by decide +kernel
theorem dX6_net_23 : decode cX6_net 23 = .ok (.invokevirtual 77, 3) := by decide +kernel
theorem dX6_net_26 : decode cX6_net 26 = .ok (.iconst 1, 1) := by decide +kernel
theorem dX6_net_27 : decode cX6_net 27 = .ok (.ireturn, 1) := by decide +kernel
theorem dX6_line_0 : decode cX6_line 0 = .ok (.aload_n 0, 1) := by decide +kernel
theorem dX6_line_1 : decode cX6_line 1 = .ok (.iload_n 1, 1) := by decide +kernel
theorem dX6_line_2 : decode cX6_line 2 = .ok (.iload_n 2, 1) := by decide +kernel
theorem dX6_line_3 : decode cX6_line 3 = .ok (.invokevirtual 81, 3) := by decide +kernel
theorem dX6_line_6 : decode cX6_line 6 = .ok (.ifCond .eq 17, 3) := by decide +kernel
theorem dX6_line_9 : decode cX6_line 9 = .ok (.aload_n 0, 1) := by decide +kernel
theorem dX6_line_10 : decode cX6_line 10 = .ok (.iload_n 1, 1) := by decide +kernel
theorem dX6_line_11 : decode cX6_line 11 = .ok (.iload_n 3, 1) := by decide +kernel
theorem dX6_line_12 : decode cX6_line 12 = .ok (.invokevirtual 81, 3) := by decide +kernel
theorem dX6_line_15 : decode cX6_line 15 = .ok (.ifCond .eq 8, 3) := by decide +kernel
theorem dX6_line_18 : decode cX6_line 18 = .ok (.iload_n 2, 1) := by decide +kernel
theorem dX6_line_19 : decode cX6_line 19 = .ok (.iload_n 3, 1) := by decide +kernel
theorem dX6_line_20 : decode cX6_line 20 = .ok (.if_icmp .ne 6, 3) := by decide +kernel
theorem dX6_line_23 : decode cX6_line 23 = .ok (.bipush (-2), 2) := by decide +kernel
theorem dX6_line_25 : decode cX6_line 25 = .ok (.ireturn, 1) := by decide +kernel
theorem dX6_line_26 : decode cX6_line 26 = .ok (.aload_n 0, 1) := by decide +kernel
theorem dX6_line_27 : decode cX6_line 27 = .ok (.iload_n 1, 1) := by decide +kernel
theorem dX6_line_28 : decode cX6_line 28 = .ok (.iload_n 2, 1) := by decide +kernel
theorem dX6_line_29 : decode cX6_line 29 = .ok (.iload_n 3, 1) := by decide +kernel
theorem dX6_line_30 : decode cX6_line 30 = .ok (.invokevirtual 85, 3) := by decide +kernel
theorem dX6_line_33 : decode cX6_line 33 = .ok (.iload 4, 2) := by decide +kernel
theorem dX6_line_35 : decode cX6_line 35 = .ok (.if_icmp .ne 6, 3) := by decide +kernel
theorem dX6_line_38 : decode cX6_line 38 = .ok (.bipush (-3), 2) := by decide +kernel
theorem dX6_line_40 : decode cX6_line 40 = .ok (.ireturn, 1) := by decide +kernel
theorem dX6_line_41 : decode cX6_line 41 = .ok (.aload_n 0, 1) := by decide +kernel
theorem dX6_line_42 : decode cX6_line 42 = .ok (.getfield 13, 3) := by decide +kernel
theorem dX6_line_45 : decode cX6_line 45 = .ok (.bipush 10, 2) := by decide +kernel
theorem dX6_line_47 : decode cX6_line 47 = .ok (.iload_n 1, 1) := by decide +kernel
theorem dX6_line_48 : decode cX6_line 48 = .ok (.imul, 1) := by decide +kernel
theorem dX6_line_49 : decode cX6_line 49 = .ok (.iload_n 2, 1) := by decide +kernel
theorem dX6_line_50 : decode cX6_line 50 = .ok (.iadd, 1) := by decide +kernel
theorem dX6_line_51 : decode cX6_line 51 = .ok (.dup2, 1) := by decide +kernel
theorem dX6_line_52 : decode cX6_line 52 = .ok (.iaload, 1) := by decide +kernel
theorem dX6_line_53 : decode cX6_line 53 = .ok (.iconst 1, 1) := by decide +kernel
theorem dX6_line_54 : decode cX6_line 54 = .ok (.iload_n 3, 1) := by decide +kernel
theorem dX6_line_55 : decode cX6_line 55 = .ok (.ishl, 1) := by decide +kernel
theorem dX6_line_56 : decode cX6_line 56 = .ok (.ixor, 1) := by decide +kernel
theorem dX6_line_57 : decode cX6_line 57 = .ok (.iastore, 1) := by decide +kernel
theorem dX6_line_58 : decode cX6_line 58 = .ok (.aload_n 0, 1) := by decide +kernel
theorem dX6_line_59 : decode cX6_line 59 = .ok (.getfield 13, 3) := by decide +kernel
theorem dX6_line_62 : decode cX6_line 62 = .ok (.bipush 10, 2) := by decide +kernel
theorem dX6_line_64 : decode cX6_line 64 = .ok (.iload_n 1, 1) := by decide +kernel
theorem dX6_line_65 : decode cX6_line 65 = .ok (.imul, 1) := by decide +kernel
theorem dX6_line_66 : decode cX6_line 66 = .ok (.iload_n 3, 1) := by decide +kernel
theorem dX6_line_67 : decode cX6_line 67 = .ok (.iadd, 1) := by decide +kernel
theorem dX6_line_68 : decode cX6_line 68 = .ok (.dup2, 1) := by decide +kernel
theorem dX6_line_69 : decode cX6_line 69 = .ok (.iaload, 1) := by decide +kernel
theorem dX6_line_70 : decode cX6_line 70 = .ok (.iconst 1, 1) := by decide +kernel
theorem dX6_line_71 : decode cX6_line 71 = .ok (.iload_n 2, 1) := by decide +kernel
theorem dX6_line_72 : decode cX6_line 72 = .ok (.ishl, 1) := by decide +kernel
theorem dX6_line_73 : decode cX6_line 73 = .ok (.ixor, 1) := by decide +kernel
theorem dX6_line_74 : decode cX6_line 74 = .ok (.iastore, 1) := by decide +kernel
theorem dX6_line_75 : decode cX6_line 75 = .ok (.iconst 1, 1) := by decide +kernel
theorem dX6_line_76 : decode cX6_line 76 = .ok (.ireturn, 1) := by decide +kernel
theorem dX6_ring_0 : decode cX6_ring 0 = .ok (.iload_n 1, 1) := by decide +kernel
theorem dX6_ring_1 : decode cX6_ring 1 = .ok (.invokestatic 69, 3) := by decide +kernel
theorem dX6_ring_4 : decode cX6_ring 4 = .ok (.ifCond .eq 28, 3) := by decide +kernel
theorem dX6_ring_7 : decode cX6_ring 7 = .ok (.iload_n 2, 1) := by decide +kernel
theorem dX6_ring_8 : decode cX6_ring 8 = .ok (.iconst 1, 1) := by decide +kernel
theorem dX6_ring_9 : decode cX6_ring 9 = .ok (.bipush 10, 2) := by decide +kernel
theorem dX6_ring_11 : decode cX6_ring 11 = .ok (.invokestatic 65, 3) := by decide +kernel
theorem dX6_ring_14 : decode cX6_ring 14 = .ok (.ifCond .eq 18, 3) := by decide +kernel
theorem dX6_ring_17 : decode cX6_ring 17 = .ok (.iload_n 3, 1) := by decide +kernel
theorem dX6_ring_18 : decode cX6_ring 18 = .ok (.iconst 0, 1) := by decide +kernel
theorem dX6_ring_19 : decode cX6_ring 19 = .ok (.iconst 1, 1) := by decide +kernel
theorem dX6_ring_20 : decode cX6_ring 20 = .ok (.iload_n 2, 1) := by decide +kernel
theorem dX6_ring_21 : decode cX6_ring 21 = .ok (.iconst 2, 1) := by decide +kernel
theorem dX6_ring_22 : decode cX6_ring 22 = .ok (.idiv, 1) := by decide +kernel
theorem dX6_ring_23 : decode cX6_ring 23 = .ok (.ishl, 1) := by decide +kernel
theorem dX6_ring_24 : decode cX6_ring 24 = .ok (.iconst 1, 1) := by decide +kernel
theorem dX6_ring_25 : decode cX6_ring 25 = .ok (.isub, 1) := by decide +kernel
theorem dX6_ring_26 : decode cX6_ring 26 = .ok (.invokestatic 65, 3) := by decide +kernel
theorem dX6_ring_29 : decode cX6_ring 29 = .ok (.ifCond .ne 6, 3) := by decide +kernel
theorem dX6_ring_32 : decode cX6_ring 32 = .ok (.bipush (-2), 2) := by decide +kernel
theorem dX6_ring_34 : decode cX6_ring 34 = .ok (.ireturn, 1) := by decide +kernel
theorem dX6_ring_35 : decode cX6_ring 35 = .ok (.aload_n 0, 1) := by decide +kernel
theorem dX6_ring_36 : decode cX6_ring 36 = .ok (.iload_n 1, 1) := by decide +kernel
theorem dX6_ring_37 : decode cX6_ring 37 = .ok (.iload_n 2, 1) := by decide +kernel
theorem dX6_ring_38 : decode cX6_ring 38 = .ok (.invokevirtual 77, 3) := by decide +kernel
theorem dX6_ring_41 : decode cX6_ring 41 = .ok (.iconst 1, 1) := by decide +kernel
theorem dX6_ring_42 : decode cX6_ring 42 = .ok (.istore 4, 2) := by decide +kernel
theorem dX6_ring_44 : decode cX6_ring 44 = .ok (.iload 4, 2) := by decide +kernel
theorem dX6_ring_46 : decode cX6_ring 46 = .ok (.iload_n 2, 1) := by decide +kernel
theorem dX6_ring_47 : decode cX6_ring 47 = .ok (.iconst 2, 1) := by decide +kernel
theorem dX6_ring_48 : decode cX6_ring 48 = .ok (.idiv, 1) := by decide +kernel
theorem dX6_ring_49 : decode cX6_ring 49 = .ok (.if_icmp .gt 50, 3) := by decide +kernel
theorem dX6_ring_52 : decode cX6_ring 52 = .ok (.iconst 0, 1) := by decide +kernel
theorem dX6_ring_53 : decode cX6_ring 53 = .ok (.istore 5, 2) := by decide +kernel
theorem dX6_ring_55 : decode cX6_ring 55 = .ok (.iload 5, 2) := by decide +kernel
theorem dX6_ring_57 : decode cX6_ring 57 = .ok (.iload_n 2, 1) := by decide +kernel
theorem dX6_ring_58 : decode cX6_ring 58 = .ok (.if_icmp .ge 35, 3) := by decide +kernel
theorem dX6_ring_61 : decode cX6_ring 61 = .ok (.iload_n 3, 1) := by decide +kernel
theorem dX6_ring_62 : decode cX6_ring 62 = .ok (.iload 4, 2) := by decide +kernel
theorem dX6_ring_64 : decode cX6_ring 64 = .ok (.iconst 1, 1) := by decide +kernel
theorem dX6_ring_65 : decode cX6_ring 65 = .ok (.isub, 1) := by decide +kernel
theorem dX6_ring_66 : decode cX6_ring 66 = .ok (.ishr, 1) := by decide +kernel
theorem dX6_ring_67 : decode cX6_ring 67 = .ok (.iconst 1, 1) := by decide +kernel
theorem dX6_ring_68 : decode cX6_ring 68 = .ok (.iand, 1) := by decide +kernel
theorem dX6_ring_69 : decode cX6_ring 69 = .ok (.iconst 1, 1) := by decide +kernel
theorem dX6_ring_70 : decode cX6_ring 70 = .ok (.if_icmp .ne 23, 3) := by decide +kernel
theorem dX6_ring_73 : decode cX6_ring 73 = .ok (.aload_n 0, 1) := by decide +kernel
theorem dX6_ring_74 : decode cX6_ring 74 = .ok (.iload_n 1, 1) := by decide +kernel
theorem dX6_ring_75 : decode cX6_ring 75 = .ok (.iload 5, 2) := by decide +kernel
theorem dX6_ring_77 : decode cX6_ring 77 = .ok (.iload 5, 2) := by decide +kernel
theorem dX6_ring_79 : decode cX6_ring 79 = .ok (.iload 4, 2) := by decide +kernel
theorem dX6_ring_81 : decode cX6_ring 81 = .ok (.iadd, 1) := by decide +kernel
theorem dX6_ring_82 : decode cX6_ring 82 = .ok (.iload_n 2, 1) := by decide +kernel
theorem dX6_ring_83 : decode cX6_ring 83 = .ok (.irem, 1) := by decide +kernel
theorem dX6_ring_84 : decode cX6_ring 84 = .ok (.invokevirtual 88, 3) := by decide +kernel
theorem dX6_ring_87 : decode cX6_ring 87 = .ok (.iinc 5 1, 3) := by decide +kernel
theorem dX6_ring_90 : decode cX6_ring 90 = .ok (.goto (-35), 3) := by decide +kernel
theorem dX6_ring_93 : decode cX6_ring 93 = .ok (.iinc 4 1, 3) := by decide +kernel
theorem dX6_ring_96 : decode cX6_ring 96 = .ok (.goto (-52), 3) := by decide +kernel
theorem dX6_ring_99 : decode cX6_ring 99 = .ok (.aload_n 0, 1) := by decide +kernel
theorem dX6_ring_100 : decode cX6_ring 100 = .ok (.iload_n 1, 1) := by decide +kernel
theorem dX6_ring_101 : decode cX6_ring 101 = .ok (.invokevirtual 92, 3) := by decide +kernel
theorem dX6_ring_104 : decode cX6_ring 104 = .ok (.ireturn, 1) := by decide +kernel
theorem dX6_product_0 : decode cX6_product 0 = .ok (.iload_n 1, 1) := by decide +kernel
theorem dX6_product_1 : decode cX6_product 1 = .ok (.invokestatic 69, 3) := by decide +kernel
theorem dX6_product_4 : decode cX6_product 4 = .ok (.ifCond .eq 17, 3) := by decide +kernel
theorem dX6_product_7 : decode cX6_product 7 = .ok (.iload_n 2, 1) := by decide +kernel
theorem dX6_product_8 : decode cX6_product 8 = .ok (.invokestatic 69, 3) := by decide +kernel
theorem dX6_product_11 : decode cX6_product 11 = .ok (.ifCond .eq 10, 3) := by decide +kernel
theorem dX6_product_14 : decode cX6_product 14 = .ok (.iload_n 3, 1) := by decide +kernel
theorem dX6_product_15 : decode cX6_product 15 = .ok (.invokestatic 69, 3) := by decide +kernel
theorem dX6_product_18 : decode cX6_product 18 = .ok (.ifCond .ne 6, 3) := by decide +kernel
theorem dX6_product_21 : decode cX6_product 21 = .ok (.bipush (-2), 2) := by decide +kernel
theorem dX6_product_23 : decode cX6_product 23 = .ok (.ireturn, 1) := by decide +kernel
theorem dX6_product_24 : decode cX6_product 24 = .ok (.aload_n 0, 1) := by decide +kernel
theorem dX6_product_25 : decode cX6_product 25 = .ok (.getfield 7, 3) := by decide +kernel
theorem dX6_product_28 : decode cX6_product 28 = .ok (.iload_n 1, 1) := by decide +kernel
theorem dX6_product_29 : decode cX6_product 29 = .ok (.iaload, 1) := by decide +kernel
theorem dX6_product_30 : decode cX6_product 30 = .ok (.istore 4, 2) := by decide +kernel
