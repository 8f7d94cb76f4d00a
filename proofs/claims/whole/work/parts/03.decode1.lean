theorem dX0_init_0 : decode cX0_init 0 = .ok (.aload_n 0, 1) := by decide +kernel
theorem dX0_init_1 : decode cX0_init 1 = .ok (.invokespecial 5, 3) := by decide +kernel
theorem dX0_init_4 : decode cX0_init 4 = .ok (.aload_n 0, 1) := by decide +kernel
theorem dX0_init_5 : decode cX0_init 5 = .ok (.bipush 22, 2) := by decide +kernel
theorem dX0_init_7 : decode cX0_init 7 = .ok (.newarray .int, 2) := by decide +kernel
theorem dX0_init_9 : decode cX0_init 9 = .ok (.putfield 11, 3) := by decide +kernel
theorem dX0_init_12 : decode cX0_init 12 = .ok (.aload_n 0, 1) := by decide +kernel
theorem dX0_init_13 : decode cX0_init 13 = .ok (.bipush 22, 2) := by decide +kernel
theorem dX0_init_15 : decode cX0_init 15 = .ok (.newarray .int, 2) := by decide +kernel
theorem dX0_init_17 : decode cX0_init 17 = .ok (.putfield 15, 3) := by decide +kernel
theorem dX0_init_20 : decode cX0_init 20 = .ok (.aload_n 0, 1) := by decide +kernel
theorem dX0_init_21 : decode cX0_init 21 = .ok (.bipush 22, 2) := by decide +kernel
theorem dX0_init_23 : decode cX0_init 23 = .ok (.newarray .int, 2) := by decide +kernel
theorem dX0_init_25 : decode cX0_init 25 = .ok (.putfield 18, 3) := by decide +kernel
theorem dX0_init_28 : decode cX0_init 28 = .ok (.return_, 1) := by decide +kernel
theorem dX0_most_0 : decode cX0_most 0 = .ok (.aload_n 0, 1) := by decide +kernel
theorem dX0_most_1 : decode cX0_most 1 = .ok (.aload_n 1, 1) := by decide +kernel
theorem dX0_most_2 : decode cX0_most 2 = .ok (.iload_n 2, 1) := by decide +kernel
theorem dX0_most_3 : decode cX0_most 3 = .ok (.iload_n 3, 1) := by decide +kernel
theorem dX0_most_4 : decode cX0_most 4 = .ok (.invokevirtual 21, 3) := by decide +kernel
theorem dX0_most_7 : decode cX0_most 7 = .ok (.iconst 0, 1) := by decide +kernel
theorem dX0_most_8 : decode cX0_most 8 = .ok (.istore 4, 2) := by decide +kernel
theorem dX0_most_10 : decode cX0_most 10 = .ok (.iload 4, 2) := by decide +kernel
theorem dX0_most_12 : decode cX0_most 12 = .ok (.aload_n 1, 1) := by decide +kernel
theorem dX0_most_13 : decode cX0_most 13 = .ok (.getfield 25, 3) := by decide +kernel
theorem dX0_most_16 : decode cX0_most 16 = .ok (.if_icmp .ge 20, 3) := by decide +kernel
theorem dX0_most_19 : decode cX0_most 19 = .ok (.aload_n 0, 1) := by decide +kernel
theorem dX0_most_20 : decode cX0_most 20 = .ok (.invokevirtual 31, 3) := by decide +kernel
theorem dX0_most_23 : decode cX0_most 23 = .ok (.ifCond .eq 13, 3) := by decide +kernel
theorem dX0_most_26 : decode cX0_most 26 = .ok (.aload_n 0, 1) := by decide +kernel
theorem dX0_most_27 : decode cX0_most 27 = .ok (.invokevirtual 35, 3) := by decide +kernel
theorem dX0_most_30 : decode cX0_most 30 = .ok (.iinc 4 1, 3) := by decide +kernel
theorem dX0_most_33 : decode cX0_most 33 = .ok (.goto (-23), 3) := by decide +kernel
theorem dX0_most_36 : decode cX0_most 36 = .ok (.iload 4, 2) := by decide +kernel
theorem dX0_most_38 : decode cX0_most 38 = .ok (.ireturn, 1) := by decide +kernel
theorem dX0_openArcs_0 : decode cX0_openArcs 0 = .ok (.aload_n 0, 1) := by decide +kernel
theorem dX0_openArcs_1 : decode cX0_openArcs 1 = .ok (.getfield 11, 3) := by decide +kernel
theorem dX0_openArcs_4 : decode cX0_openArcs 4 = .ok (.iconst 0, 1) := by decide +kernel
theorem dX0_openArcs_5 : decode cX0_openArcs 5 = .ok (.invokestatic 38, 3) := by decide +kernel
theorem dX0_openArcs_8 : decode cX0_openArcs 8 = .ok (.aload_n 0, 1) := by decide +kernel
theorem dX0_openArcs_9 : decode cX0_openArcs 9 = .ok (.getfield 11, 3) := by decide +kernel
theorem dX0_openArcs_12 : decode cX0_openArcs 12 = .ok (.bipush 20, 2) := by decide +kernel
theorem dX0_openArcs_14 : decode cX0_openArcs 14 = .ok (.iload_n 2, 1) := by decide +kernel
theorem dX0_openArcs_15 : decode cX0_openArcs 15 = .ok (.iastore, 1) := by decide +kernel
theorem dX0_openArcs_16 : decode cX0_openArcs 16 = .ok (.iconst 0, 1) := by decide +kernel
theorem dX0_openArcs_17 : decode cX0_openArcs 17 = .ok (.istore 4, 2) := by decide +kernel
theorem dX0_openArcs_19 : decode cX0_openArcs 19 = .ok (.iload 4, 2) := by decide +kernel
theorem dX0_openArcs_21 : decode cX0_openArcs 21 = .ok (.aload_n 1, 1) := by decide +kernel
theorem dX0_openArcs_22 : decode cX0_openArcs 22 = .ok (.getfield 25, 3) := by decide +kernel
theorem dX0_openArcs_25 : decode cX0_openArcs 25 = .ok (.if_icmp .ge 50, 3) := by decide +kernel
theorem dX0_openArcs_28 : decode cX0_openArcs 28 = .ok (.aload_n 0, 1) := by decide +kernel
theorem dX0_openArcs_29 : decode cX0_openArcs 29 = .ok (.getfield 11, 3) := by decide +kernel
theorem dX0_openArcs_32 : decode cX0_openArcs 32 = .ok (.iload 4, 2) := by decide +kernel
theorem dX0_openArcs_34 : decode cX0_openArcs 34 = .ok (.iconst 1, 1) := by decide +kernel
theorem dX0_openArcs_35 : decode cX0_openArcs 35 = .ok (.bipush 10, 2) := by decide +kernel
theorem dX0_openArcs_37 : decode cX0_openArcs 37 = .ok (.iload 4, 2) := by decide +kernel
theorem dX0_openArcs_39 : decode cX0_openArcs 39 = .ok (.iadd, 1) := by decide +kernel
theorem dX0_openArcs_40 : decode cX0_openArcs 40 = .ok (.ishl, 1) := by decide +kernel
theorem dX0_openArcs_41 : decode cX0_openArcs 41 = .ok (.iastore, 1) := by decide +kernel
theorem dX0_openArcs_42 : decode cX0_openArcs 42 = .ok (.aload_n 0, 1) := by decide +kernel
theorem dX0_openArcs_43 : decode cX0_openArcs 43 = .ok (.getfield 11, 3) := by decide +kernel
theorem dX0_openArcs_46 : decode cX0_openArcs 46 = .ok (.bipush 10, 2) := by decide +kernel
theorem dX0_openArcs_48 : decode cX0_openArcs 48 = .ok (.iload 4, 2) := by decide +kernel
theorem dX0_openArcs_50 : decode cX0_openArcs 50 = .ok (.iadd, 1) := by decide +kernel
theorem dX0_openArcs_51 : decode cX0_openArcs 51 = .ok (.aload_n 1, 1) := by decide +kernel
theorem dX0_openArcs_52 : decode cX0_openArcs 52 = .ok (.getfield 44, 3) := by decide +kernel
theorem dX0_openArcs_55 : decode cX0_openArcs 55 = .ok (.iload 4, 2) := by decide +kernel
theorem dX0_openArcs_57 : decode cX0_openArcs 57 = .ok (.iaload, 1) := by decide +kernel
theorem dX0_openArcs_58 : decode cX0_openArcs 58 = .ok (.iload_n 3, 1) := by decide +kernel
theorem dX0_openArcs_59 : decode cX0_openArcs 59 = .ok (.iload 4, 2) := by decide +kernel
theorem dX0_openArcs_61 : decode cX0_openArcs 61 = .ok (.ishr, 1) := by decide +kernel
theorem dX0_openArcs_62 : decode cX0_openArcs 62 = .ok (.iconst 1, 1) := by decide +kernel
theorem dX0_openArcs_63 : decode cX0_openArcs 63 = .ok (.iand, 1) := by decide +kernel
theorem dX0_openArcs_64 : decode cX0_openArcs 64 = .ok (.bipush 21, 2) := by decide +kernel
theorem dX0_openArcs_66 : decode cX0_openArcs 66 = .ok (.ishl, 1) := by decide +kernel
theorem dX0_openArcs_67 : decode cX0_openArcs 67 = .ok (.ior, 1) := by decide +kernel
theorem dX0_openArcs_68 : decode cX0_openArcs 68 = .ok (.iastore, 1) := by decide +kernel
theorem dX0_openArcs_69 : decode cX0_openArcs 69 = .ok (.iinc 4 1, 3) := by decide +kernel
theorem dX0_openArcs_72 : decode cX0_openArcs 72 = .ok (.goto (-53), 3) := by decide +kernel
theorem dX0_openArcs_75 : decode cX0_openArcs 75 = .ok (.return_, 1) := by decide +kernel
theorem dX0_findWay_0 : decode cX0_findWay 0 = .ok (.ldc 47, 2) := by decide +kernel
theorem dX0_findWay_2 : decode cX0_findWay 2 = .ok (.istore_n 1, 1) := by decide +kernel
theorem dX0_findWay_3 : decode cX0_findWay 3 = .ok (.aload_n 0, 1) := by decide +kernel
theorem dX0_findWay_4 : decode cX0_findWay 4 = .ok (.getfield 18, 3) := by decide +kernel
theorem dX0_findWay_7 : decode cX0_findWay 7 = .ok (.iconst 0, 1) := by decide +kernel
theorem dX0_findWay_8 : decode cX0_findWay 8 = .ok (.bipush 20, 2) := by decide +kernel
theorem dX0_findWay_10 : decode cX0_findWay 10 = .ok (.iastore, 1) := by decide +kernel
theorem dX0_findWay_11 : decode cX0_findWay 11 = .ok (.iconst 1, 1) := by decide +kernel
theorem dX0_findWay_12 : decode cX0_findWay 12 = .ok (.istore_n 2, 1) := by decide +kernel
theorem dX0_findWay_13 : decode cX0_findWay 13 = .ok (.iconst 0, 1) := by decide +kernel
theorem dX0_findWay_14 : decode cX0_findWay 14 = .ok (.istore_n 3, 1) := by decide +kernel
theorem dX0_findWay_15 : decode cX0_findWay 15 = .ok (.iload_n 3, 1) := by decide +kernel
theorem dX0_findWay_16 : decode cX0_findWay 16 = .ok (.iload_n 2, 1) := by decide +kernel
theorem dX0_findWay_17 : decode cX0_findWay 17 = .ok (.if_icmp .ge 94, 3) := by decide +kernel
theorem dX0_findWay_20 : decode cX0_findWay 20 = .ok (.iload_n 3, 1) := by decide +kernel
theorem dX0_findWay_21 : decode cX0_findWay 21 = .ok (.bipush 22, 2) := by decide +kernel
theorem dX0_findWay_23 : decode cX0_findWay 23 = .ok (.if_icmp .ge 88, 3) := by decide +kernel
theorem dX0_findWay_26 : decode cX0_findWay 26 = .ok (.aload_n 0, 1) := by decide +kernel
theorem dX0_findWay_27 : decode cX0_findWay 27 = .ok (.getfield 18, 3) := by decide +kernel
theorem dX0_findWay_30 : decode cX0_findWay 30 = .ok (.iload_n 3, 1) := by decide +kernel
theorem dX0_findWay_31 : decode cX0_findWay 31 = .ok (.iaload, 1) := by decide +kernel
theorem dX0_findWay_32 : decode cX0_findWay 32 = .ok (.istore 4, 2) := by decide +kernel
theorem dX0_findWay_34 : decode cX0_findWay 34 = .ok (.aload_n 0, 1) := by decide +kernel
theorem dX0_findWay_35 : decode cX0_findWay 35 = .ok (.getfield 11, 3) := by decide +kernel
theorem dX0_findWay_38 : decode cX0_findWay 38 = .ok (.iload 4, 2) := by decide +kernel
theorem dX0_findWay_40 : decode cX0_findWay 40 = .ok (.iaload, 1) := by decide +kernel
theorem dX0_findWay_41 : decode cX0_findWay 41 = .ok (.iload_n 1, 1) := by decide +kernel
theorem dX0_findWay_42 : decode cX0_findWay 42 = .ok (.iconst (-1), 1) := by decide +kernel
theorem dX0_findWay_43 : decode cX0_findWay 43 = .ok (.ixor, 1) := by decide +kernel
theorem dX0_findWay_44 : decode cX0_findWay 44 = .ok (.iand, 1) := by decide +kernel
theorem dX0_findWay_45 : decode cX0_findWay 45 = .ok (.istore 5, 2) := by decide +kernel
theorem dX0_findWay_47 : decode cX0_findWay 47 = .ok (.iload_n 1, 1) := by decide +kernel
theorem dX0_findWay_48 : decode cX0_findWay 48 = .ok (.iload 5, 2) := by decide +kernel
theorem dX0_findWay_50 : decode cX0_findWay 50 = .ok (.ior, 1) := by decide +kernel
theorem dX0_findWay_51 : decode cX0_findWay 51 = .ok (.istore_n 1, 1) := by decide +kernel
theorem dX0_findWay_52 : decode cX0_findWay 52 = .ok (.iconst 0, 1) := by decide +kernel
theorem dX0_findWay_53 : decode cX0_findWay 53 = .ok (.istore 6, 2) := by decide +kernel
theorem dX0_findWay_55 : decode cX0_findWay 55 = .ok (.iload 6, 2) := by decide +kernel
theorem dX0_findWay_57 : decode cX0_findWay 57 = .ok (.bipush 22, 2) := by decide +kernel
theorem dX0_findWay_59 : decode cX0_findWay 59 = .ok (.if_icmp .ge 46, 3) := by decide +kernel
theorem dX0_findWay_62 : decode cX0_findWay 62 = .ok (.iload 5, 2) := by decide +kernel
theorem dX0_findWay_64 : decode cX0_findWay 64 = .ok (.iload 6, 2) := by decide +kernel
theorem dX0_findWay_66 : decode cX0_findWay 66 = .ok (.ishr, 1) := by decide +kernel
theorem dX0_findWay_67 : decode cX0_findWay 67 = .ok (.iconst 1, 1) := by decide +kernel
theorem dX0_findWay_68 : decode cX0_findWay 68 = .ok (.iand, 1) := by decide +kernel
theorem dX0_findWay_69 : decode cX0_findWay 69 = .ok (.iconst 1, 1) := by decide +kernel
theorem dX0_findWay_70 : decode cX0_findWay 70 = .ok (.if_icmp .ne 29, 3) := by decide +kernel
theorem dX0_findWay_73 : decode cX0_findWay 73 = .ok (.iload_n 2, 1) := by decide +kernel
theorem dX0_findWay_74 : decode cX0_findWay 74 = .ok (.bipush 22, 2) := by decide +kernel
theorem dX0_findWay_76 : decode cX0_findWay 76 = .ok (.if_icmp .ge 23, 3) := by decide +kernel
theorem dX0_findWay_79 : decode cX0_findWay 79 = .ok (.aload_n 0, 1) := by decide +kernel
theorem dX0_findWay_80 : decode cX0_findWay 80 = .ok (.getfield 15, 3) := by decide +kernel
theorem dX0_findWay_83 : decode cX0_findWay 83 = .ok (.iload 6, 2) := by decide +kernel
theorem dX0_findWay_85 : decode cX0_findWay 85 = .ok (.iload 4, 2) := by decide +kernel
theorem dX0_findWay_87 : decode cX0_findWay 87 = .ok (.iastore, 1) := by decide +kernel
theorem dX0_findWay_88 : decode cX0_findWay 88 = .ok (.aload_n 0, 1) := by decide +kernel
theorem dX0_findWay_89 : decode cX0_findWay 89 = .ok (.getfield 18, 3) := by decide +kernel
theorem dX0_findWay_92 : decode cX0_findWay 92 = .ok (.iload_n 2, 1) := by decide +kernel
theorem dX0_findWay_93 : decode cX0_findWay 93 = .ok (.iload 6, 2) := by decide +kernel
theorem dX0_findWay_95 : decode cX0_findWay 95 = .ok (.iastore, 1) := by decide +kernel
theorem dX0_findWay_96 : decode cX0_findWay 96 = .ok (.iinc 2 1, 3) := by decide +kernel
theorem dX0_findWay_99 : decode cX0_findWay 99 = .ok (.iinc 6 1, 3) := by decide +kernel
theorem dX0_findWay_102 : decode cX0_findWay 102 = .ok (.goto (-47), 3) := by decide +kernel
theorem dX0_findWay_105 : decode cX0_findWay 105 = .ok (.iinc 3 1, 3) := by decide +kernel
theorem dX0_findWay_108 : decode cX0_findWay 108 = .ok (.goto (-93), 3) := by decide +kernel
theorem dX0_findWay_111 : decode cX0_findWay 111 = .ok (.iload_n 1, 1) := by decide +kernel
theorem dX0_findWay_112 : decode cX0_findWay 112 = .ok (.bipush 21, 2) := by decide +kernel
theorem dX0_findWay_114 : decode cX0_findWay 114 = .ok (.ishr, 1) := by decide +kernel
theorem dX0_findWay_115 : decode cX0_findWay 115 = .ok (.iconst 1, 1) := by decide +kernel
theorem dX0_findWay_116 : decode cX0_findWay 116 = .ok (.iand, 1) := by decide +kernel
theorem dX0_findWay_117 : decode cX0_findWay 117 = .ok (.iconst 1, 1) := by decide +kernel
theorem dX0_findWay_118 : decode cX0_findWay 118 = .ok (.if_icmp .ne 7, 3) := by decide +kernel
theorem dX0_findWay_121 : decode cX0_findWay 121 = .ok (.iconst 1, 1) := by decide +kernel
theorem dX0_findWay_122 : decode cX0_findWay 122 = .ok (.goto 4, 3) := by decide +kernel
theorem dX0_findWay_125 : decode cX0_findWay 125 = .ok (.iconst 0, 1) := by decide +kernel
theorem dX0_findWay_126 : decode cX0_findWay 126 = .ok (.ireturn, 1) := by decide +kernel
theorem dX0_takeWay_0 : decode cX0_takeWay 0 = .ok (.bipush 21, 2) := by decide +kernel
theorem dX0_takeWay_2 : decode cX0_takeWay 2 = .ok (.istore_n 1, 1) := by decide +kernel
theorem dX0_takeWay_3 : decode cX0_takeWay 3 = .ok (.iconst 0, 1) := by decide +kernel
theorem dX0_takeWay_4 : decode cX0_takeWay 4 = .ok (.istore_n 2, 1) := by decide +kernel
theorem dX0_takeWay_5 : decode cX0_takeWay 5 = .ok (.iload_n 2, 1) := by decide +kernel
theorem dX0_takeWay_6 : decode cX0_takeWay 6 = .ok (.bipush 22, 2) := by decide +kernel
theorem dX0_takeWay_8 : decode cX0_takeWay 8 = .ok (.if_icmp .ge 50, 3) := by decide +kernel
theorem dX0_takeWay_11 : decode cX0_takeWay 11 = .ok (.iload_n 1, 1) := by decide +kernel
theorem dX0_takeWay_12 : decode cX0_takeWay 12 = .ok (.bipush 20, 2) := by decide +kernel
theorem dX0_takeWay_14 : decode cX0_takeWay 14 = .ok (.if_icmp .eq 44, 3) := by decide +kernel
theorem dX0_takeWay_17 : decode cX0_takeWay 17 = .ok (.aload_n 0, 1) := by decide +kernel
theorem dX0_takeWay_18 : decode cX0_takeWay 18 = .ok (.getfield 15, 3) := by decide +kernel
theorem dX0_takeWay_21 : decode cX0_takeWay 21 = .ok (.iload_n 1, 1) := by decide +kernel
theorem dX0_takeWay_22 : decode cX0_takeWay 22 = .ok (.iaload, 1) := by decide +kernel
theorem dX0_takeWay_23 : decode cX0_takeWay 23 = .ok (.istore_n 3, 1) := by decide +kernel
theorem dX0_takeWay_24 : decode cX0_takeWay 24 = .ok (.aload_n 0, 1) := by decide +kernel
theorem dX0_takeWay_25 : decode cX0_takeWay 25 = .ok (.getfield 11, 3) := by decide +kernel
theorem dX0_takeWay_28 : decode cX0_takeWay 28 = .ok (.iload_n 3, 1) := by decide +kernel
theorem dX0_takeWay_29 : decode cX0_takeWay 29 = .ok (.dup2, 1) := by decide +kernel
theorem dX0_takeWay_30 : decode cX0_takeWay 30 = .ok (.iaload, 1) := by decide +kernel
theorem dX0_takeWay_31 : decode cX0_takeWay 31 = .ok (.iconst 1, 1) := by decide +kernel
theorem dX0_takeWay_32 : decode cX0_takeWay 32 = .ok (.iload_n 1, 1) := by decide +kernel
theorem dX0_takeWay_33 : decode cX0_takeWay 33 = .ok (.ishl, 1) := by decide +kernel
theorem dX0_takeWay_34 : decode cX0_takeWay 34 = .ok (.iconst (-1), 1) := by decide +kernel
theorem dX0_takeWay_35 : decode cX0_takeWay 35 = .ok (.ixor, 1) := by decide +kernel
theorem dX0_takeWay_36 : decode cX0_takeWay 36 = .ok (.iand, 1) := by decide +kernel
theorem dX0_takeWay_37 : decode cX0_takeWay 37 = .ok (.iastore, 1) := by decide +kernel
theorem dX0_takeWay_38 : decode cX0_takeWay 38 = .ok (.aload_n 0, 1) := by decide +kernel
theorem dX0_takeWay_39 : decode cX0_takeWay 39 = .ok (.getfield 11, 3) := by decide +kernel
theorem dX0_takeWay_42 : decode cX0_takeWay 42 = .ok (.iload_n 1, 1) := by decide +kernel
theorem dX0_takeWay_43 : decode cX0_takeWay 43 = .ok (.dup2, 1) := by decide +kernel
theorem dX0_takeWay_44 : decode cX0_takeWay 44 = .ok (.iaload, 1) := by decide +kernel
theorem dX0_takeWay_45 : decode cX0_takeWay 45 = .ok (.iconst 1, 1) := by decide +kernel
theorem dX0_takeWay_46 : decode cX0_takeWay 46 = .ok (.iload_n 3, 1) := by decide +kernel
theorem dX0_takeWay_47 : decode cX0_takeWay 47 = .ok (.ishl, 1) := by decide +kernel
theorem dX0_takeWay_48 : decode cX0_takeWay 48 = .ok (.ior, 1) := by decide +kernel
theorem dX0_takeWay_49 : decode cX0_takeWay 49 = .ok (.iastore, 1) := by decide +kernel
theorem dX0_takeWay_50 : decode cX0_takeWay 50 = .ok (.iload_n 3, 1) := by decide +kernel
theorem dX0_takeWay_51 : decode cX0_takeWay 51 = .ok (.istore_n 1, 1) := by decide +kernel
theorem dX0_takeWay_52 : decode cX0_takeWay 52 = .ok (.iinc 2 1, 3) := by decide +kernel
theorem dX0_takeWay_55 : decode cX0_takeWay 55 = .ok (.goto (-50), 3) := by decide +kernel
theorem dX0_takeWay_58 : decode cX0_takeWay 58 = .ok (.return_, 1) := by decide +kernel
theorem dX1_init_0 : decode cX1_init 0 = .ok (.aload_n 0, 1) := by decide +kernel
theorem dX1_init_1 : decode cX1_init 1 = .ok (.invokespecial 1, 3) := by decide +kernel
theorem dX1_init_4 : decode cX1_init 4 = .ok (.return_, 1) := by decide +kernel
theorem dX1_seek_0 : decode cX1_seek 0 = .ok (.aload_n 0, 1) := by decide +kernel
theorem dX1_seek_1 : decode cX1_seek 1 = .ok (.iconst 1, 1) := by decide +kernel
theorem dX1_seek_2 : decode cX1_seek 2 = .ok (.putfield 7, 3) := by decide +kernel
theorem dX1_seek_5 : decode cX1_seek 5 = .ok (.aload_n 0, 1) := by decide +kernel
theorem dX1_seek_6 : decode cX1_seek 6 = .ok (.iconst 0, 1) := by decide +kernel
theorem dX1_seek_7 : decode cX1_seek 7 = .ok (.putfield 13, 3) := by decide +kernel
theorem dX1_seek_10 : decode cX1_seek 10 = .ok (.aload_n 0, 1) := by decide +kernel
theorem dX1_seek_11 : decode cX1_seek 11 = .ok (.iconst 0, 1) := by decide +kernel
theorem dX1_seek_12 : decode cX1_seek 12 = .ok (.putfield 16, 3) := by decide +kernel
theorem dX1_seek_15 : decode cX1_seek 15 = .ok (.iconst 1, 1) := by decide +kernel
theorem dX1_seek_16 : decode cX1_seek 16 = .ok (.aload_n 1, 1) := by decide +kernel
theorem dX1_seek_17 : decode cX1_seek 17 = .ok (.getfield 19, 3) := by decide +kernel
theorem dX1_seek_20 : decode cX1_seek 20 = .ok (.ishl, 1) := by decide +kernel
theorem dX1_seek_21 : decode cX1_seek 21 = .ok (.istore_n 3, 1) := by decide +kernel
theorem dX1_seek_22 : decode cX1_seek 22 = .ok (.iconst 1, 1) := by decide +kernel
theorem dX1_seek_23 : decode cX1_seek 23 = .ok (.istore 4, 2) := by decide +kernel
theorem dX1_seek_25 : decode cX1_seek 25 = .ok (.iload 4, 2) := by decide +kernel
theorem dX1_seek_27 : decode cX1_seek 27 = .ok (.iload_n 3, 1) := by decide +kernel
theorem dX1_seek_28 : decode cX1_seek 28 = .ok (.if_icmp .ge 86, 3) := by decide +kernel
theorem dX1_seek_31 : decode cX1_seek 31 = .ok (.iload 4, 2) := by decide +kernel
theorem dX1_seek_33 : decode cX1_seek 33 = .ok (.invokestatic 24, 3) := by decide +kernel
theorem dX1_seek_36 : decode cX1_seek 36 = .ok (.istore 5, 2) := by decide +kernel
theorem dX1_seek_38 : decode cX1_seek 38 = .ok (.iload 5, 2) := by decide +kernel
theorem dX1_seek_40 : decode cX1_seek 40 = .ok (.aload_n 1, 1) := by decide +kernel
theorem dX1_seek_41 : decode cX1_seek 41 = .ok (.getfield 19, 3) := by decide +kernel
theorem dX1_seek_44 : decode cX1_seek 44 = .ok (.iconst 2, 1) := by decide +kernel
theorem dX1_seek_45 : decode cX1_seek 45 = .ok (.idiv, 1) := by decide +kernel
theorem dX1_seek_46 : decode cX1_seek 46 = .ok (.if_icmp .le 6, 3) := by decide +kernel
theorem dX1_seek_49 : decode cX1_seek 49 = .ok (.goto 59, 3) := by decide +kernel
theorem dX1_seek_52 : decode cX1_seek 52 = .ok (.iload_n 2, 1) := by decide +kernel
theorem dX1_seek_53 : decode cX1_seek 53 = .ok (.ifCond .eq 12, 3) := by decide +kernel
theorem dX1_seek_56 : decode cX1_seek 56 = .ok (.aload_n 1, 1) := by decide +kernel
theorem dX1_seek_57 : decode cX1_seek 57 = .ok (.iload 4, 2) := by decide +kernel
theorem dX1_seek_59 : decode cX1_seek 59 = .ok (.invokestatic 30, 3) := by decide +kernel
theorem dX1_seek_62 : decode cX1_seek 62 = .ok (.goto 9, 3) := by decide +kernel
theorem dX1_seek_65 : decode cX1_seek 65 = .ok (.aload_n 1, 1) := by decide +kernel
theorem dX1_seek_66 : decode cX1_seek 66 = .ok (.iload 4, 2) := by decide +kernel
theorem dX1_seek_68 : decode cX1_seek 68 = .ok (.invokestatic 34, 3) := by decide +kernel
theorem dX1_seek_71 : decode cX1_seek 71 = .ok (.istore 6, 2) := by decide +kernel
theorem dX1_seek_73 : decode cX1_seek 73 = .ok (.iload 6, 2) := by decide +kernel
theorem dX1_seek_75 : decode cX1_seek 75 = .ok (.aload_n 0, 1) := by decide +kernel
theorem dX1_seek_76 : decode cX1_seek 76 = .ok (.getfield 13, 3) := by decide +kernel
theorem dX1_seek_79 : decode cX1_seek 79 = .ok (.imul, 1) := by decide +kernel
theorem dX1_seek_80 : decode cX1_seek 80 = .ok (.aload_n 0, 1) := by decide +kernel
theorem dX1_seek_81 : decode cX1_seek 81 = .ok (.getfield 7, 3) := by decide +kernel
theorem dX1_seek_84 : decode cX1_seek 84 = .ok (.iload 5, 2) := by decide +kernel
theorem dX1_seek_86 : decode cX1_seek 86 = .ok (.imul, 1) := by decide +kernel
theorem dX1_seek_87 : decode cX1_seek 87 = .ok (.if_icmp .ge 21, 3) := by decide +kernel
theorem dX1_seek_90 : decode cX1_seek 90 = .ok (.aload_n 0, 1) := by decide +kernel
theorem dX1_seek_91 : decode cX1_seek 91 = .ok (.iload 6, 2) := by decide +kernel
theorem dX1_seek_93 : decode cX1_seek 93 = .ok (.putfield 7, 3) := by decide +kernel
theorem dX1_seek_96 : decode cX1_seek 96 = .ok (.aload_n 0, 1) := by decide +kernel
theorem dX1_seek_97 : decode cX1_seek 97 = .ok (.iload 5, 2) := by decide +kernel
theorem dX1_seek_99 : decode cX1_seek 99 = .ok (.putfield 13, 3) := by decide +kernel
theorem dX1_seek_102 : decode cX1_seek 102 = .ok (.aload_n 0, 1) := by decide +kernel
theorem dX1_seek_103 : decode cX1_seek 103 = .ok (.iload 4, 2) := by decide +kernel
theorem dX1_seek_105 : decode cX1_seek 105 = .ok (.putfield 16, 3) := by decide +kernel
theorem dX1_seek_108 : decode cX1_seek 108 = .ok (.iinc 4 1, 3) := by decide +kernel
theorem dX1_seek_111 : decode cX1_seek 111 = .ok (.goto (-86), 3) := by decide +kernel
theorem dX1_seek_114 : decode cX1_seek 114 = .ok (.return_, 1) := by decide +kernel
theorem dX1_knotsOut_0 : decode cX1_knotsOut 0 = .ok (.aload_n 0, 1) := by decide +kernel
theorem dX1_knotsOut_1 : decode cX1_knotsOut 1 = .ok (.iload_n 1, 1) := by decide +kernel
theorem dX1_knotsOut_2 : decode cX1_knotsOut 2 = .ok (.invokevirtual 37, 3) := by decide +kernel
theorem dX1_knotsOut_5 : decode cX1_knotsOut 5 = .ok (.iload_n 1, 1) := by decide +kernel
theorem dX1_knotsOut_6 : decode cX1_knotsOut 6 = .ok (.iconst (-1), 1) := by decide +kernel
theorem dX1_knotsOut_7 : decode cX1_knotsOut 7 = .ok (.ixor, 1) := by decide +kernel
theorem dX1_knotsOut_8 : decode cX1_knotsOut 8 = .ok (.iand, 1) := by decide +kernel
theorem dX1_knotsOut_9 : decode cX1_knotsOut 9 = .ok (.invokestatic 24, 3) := by decide +kernel
theorem dX1_knotsOut_12 : decode cX1_knotsOut 12 = .ok (.ireturn, 1) := by decide +kernel
theorem dX1_linesOut_0 : decode cX1_linesOut 0 = .ok (.iconst 0, 1) := by decide +kernel
theorem dX1_linesOut_1 : decode cX1_linesOut 1 = .ok (.istore_n 2, 1) := by decide +kernel
theorem dX1_linesOut_2 : decode cX1_linesOut 2 = .ok (.iconst 0, 1) := by decide +kernel
theorem dX1_linesOut_3 : decode cX1_linesOut 3 = .ok (.istore_n 3, 1) := by decide +kernel
theorem dX1_linesOut_4 : decode cX1_linesOut 4 = .ok (.iload_n 3, 1) := by decide +kernel
theorem dX1_linesOut_5 : decode cX1_linesOut 5 = .ok (.aload_n 0, 1) := by decide +kernel
theorem dX1_linesOut_6 : decode cX1_linesOut 6 = .ok (.getfield 19, 3) := by decide +kernel
theorem dX1_linesOut_9 : decode cX1_linesOut 9 = .ok (.if_icmp .ge 34, 3) := by decide +kernel
theorem dX1_linesOut_12 : decode cX1_linesOut 12 = .ok (.iload_n 1, 1) := by decide +kernel
theorem dX1_linesOut_13 : decode cX1_linesOut 13 = .ok (.iload_n 3, 1) := by decide +kernel
theorem dX1_linesOut_14 : decode cX1_linesOut 14 = .ok (.ishr, 1) := by decide +kernel
theorem dX1_linesOut_15 : decode cX1_linesOut 15 = .ok (.iconst 1, 1) := by decide +kernel
theorem dX1_linesOut_16 : decode cX1_linesOut 16 = .ok (.iand, 1) := by decide +kernel
theorem dX1_linesOut_17 : decode cX1_linesOut 17 = .ok (.iconst 1, 1) := by decide +kernel
theorem dX1_linesOut_18 : decode cX1_linesOut 18 = .ok (.if_icmp .ne 19, 3) := by decide +kernel
theorem dX1_linesOut_21 : decode cX1_linesOut 21 = .ok (.iload_n 2, 1) := by decide +kernel
theorem dX1_linesOut_22 : decode cX1_linesOut 22 = .ok (.aload_n 0, 1) := by decide +kernel
theorem dX1_linesOut_23 : decode cX1_linesOut 23 = .ok (.getfield 40, 3) := by decide +kernel
theorem dX1_linesOut_26 : decode cX1_linesOut 26 = .ok (.iload_n 3, 1) := by decide +kernel
theorem dX1_linesOut_27 : decode cX1_linesOut 27 = .ok (.iaload, 1) := by decide +kernel
theorem dX1_linesOut_28 : decode cX1_linesOut 28 = .ok (.iload_n 1, 1) := by decide +kernel
theorem dX1_linesOut_29 : decode cX1_linesOut 29 = .ok (.iconst (-1), 1) := by decide +kernel
theorem dX1_linesOut_30 : decode cX1_linesOut 30 = .ok (.ixor, 1) := by decide +kernel
theorem dX1_linesOut_31 : decode cX1_linesOut 31 = .ok (.iand, 1) := by decide +kernel
theorem dX1_linesOut_32 : decode cX1_linesOut 32 = .ok (.invokestatic 24, 3) := by decide +kernel
theorem dX1_linesOut_35 : decode cX1_linesOut 35 = .ok (.iadd, 1) := by decide +kernel
theorem dX1_linesOut_36 : decode cX1_linesOut 36 = .ok (.istore_n 2, 1) := by decide +kernel
theorem dX1_linesOut_37 : decode cX1_linesOut 37 = .ok (.iinc 3 1, 3) := by decide +kernel
theorem dX1_linesOut_40 : decode cX1_linesOut 40 = .ok (.goto (-36), 3) := by decide +kernel
theorem dX1_linesOut_43 : decode cX1_linesOut 43 = .ok (.iload_n 2, 1) := by decide +kernel
theorem dX1_linesOut_44 : decode cX1_linesOut 44 = .ok (.ireturn, 1) := by decide +kernel
theorem dX2_init_0 : decode cX2_init 0 = .ok (.aload_n 0, 1) := by decide +kernel
theorem dX2_init_1 : decode cX2_init 1 = .ok (.invokespecial 3, 3) := by decide +kernel
theorem dX2_init_4 : decode cX2_init 4 = .ok (.aload_n 0, 1) := by decide +kernel
theorem dX2_init_5 : decode cX2_init 5 = .ok (.iconst 1, 1) := by decide +kernel
theorem dX2_init_6 : decode cX2_init 6 = .ok (.putfield 9, 3) := by decide +kernel
theorem dX2_init_9 : decode cX2_init 9 = .ok (.aload_n 0, 1) := by decide +kernel
theorem dX2_init_10 : decode cX2_init 10 = .ok (.bipush 10, 2) := by decide +kernel
theorem dX2_init_12 : decode cX2_init 12 = .ok (.newarray .int, 2) := by decide +kernel
theorem dX2_init_14 : decode cX2_init 14 = .ok (.putfield 15, 3) := by decide +kernel
theorem dX2_init_17 : decode cX2_init 17 = .ok (.return_, 1) := by decide +kernel
theorem dX2_hasKnot_0 : decode cX2_hasKnot 0 = .ok (.iload_n 1, 1) := by decide +kernel
theorem dX2_hasKnot_1 : decode cX2_hasKnot 1 = .ok (.ifCond .lt 15, 3) := by decide +kernel
theorem dX2_hasKnot_4 : decode cX2_hasKnot 4 = .ok (.iload_n 1, 1) := by decide +kernel
theorem dX2_hasKnot_5 : decode cX2_hasKnot 5 = .ok (.aload_n 0, 1) := by decide +kernel
theorem dX2_hasKnot_6 : decode cX2_hasKnot 6 = .ok (.getfield 9, 3) := by decide +kernel
theorem dX2_hasKnot_9 : decode cX2_hasKnot 9 = .ok (.if_icmp .ge 7, 3) := by decide +kernel
theorem dX2_hasKnot_12 : decode cX2_hasKnot 12 = .ok (.iconst 1, 1) := by decide +kernel
theorem dX2_hasKnot_13 : decode cX2_hasKnot 13 = .ok (.goto 4, 3) := by decide +kernel
theorem dX2_hasKnot_16 : decode cX2_hasKnot 16 = .ok (.iconst 0, 1) := by decide +kernel
theorem dX2_hasKnot_17 : decode cX2_hasKnot 17 = .ok (.ireturn, 1) := by decide +kernel
theorem dX2_hasKnots_0 : decode cX2_hasKnots 0 = .ok (.aload_n 0, 1) := by decide +kernel
theorem dX2_hasKnots_1 : decode cX2_hasKnots 1 = .ok (.iload_n 1, 1) := by decide +kernel
theorem dX2_hasKnots_2 : decode cX2_hasKnots 2 = .ok (.invokevirtual 19, 3) := by decide +kernel
theorem dX2_hasKnots_5 : decode cX2_hasKnots 5 = .ok (.ifCond .eq 15, 3) := by decide +kernel
theorem dX2_hasKnots_8 : decode cX2_hasKnots 8 = .ok (.aload_n 0, 1) := by decide +kernel
theorem dX2_hasKnots_9 : decode cX2_hasKnots 9 = .ok (.iload_n 2, 1) := by decide +kernel
theorem dX2_hasKnots_10 : decode cX2_hasKnots 10 = .ok (.invokevirtual 19, 3) := by decide +kernel
theorem dX2_hasKnots_13 : decode cX2_hasKnots 13 = .ok (.ifCond .eq 7, 3) := by decide +kernel
theorem dX2_hasKnots_16 : decode cX2_hasKnots 16 = .ok (.iconst 1, 1) := by decide +kernel
theorem dX2_hasKnots_17 : decode cX2_hasKnots 17 = .ok (.goto 4, 3) := by decide +kernel
theorem dX2_hasKnots_20 : decode cX2_hasKnots 20 = .ok (.iconst 0, 1) := by decide +kernel
theorem dX2_hasKnots_21 : decode cX2_hasKnots 21 = .ok (.ireturn, 1) := by decide +kernel
theorem dX2_hasUnlikeKnots_0 : decode cX2_hasUnlikeKnots 0 = .ok (.aload_n 0, 1) := by decide +kernel
theorem dX2_hasUnlikeKnots_1 : decode cX2_hasUnlikeKnots 1 = .ok (.iload_n 1, 1) := by decide +kernel
theorem dX2_hasUnlikeKnots_2 : decode cX2_hasUnlikeKnots 2 = .ok (.iload_n 2, 1) := by decide +kernel
theorem dX2_hasUnlikeKnots_3 : decode cX2_hasUnlikeKnots 3 = .ok (.invokevirtual 23, 3) := by decide +kernel
theorem dX2_hasUnlikeKnots_6 : decode cX2_hasUnlikeKnots 6 = .ok (.ifCond .eq 12, 3) := by decide +kernel
theorem dX2_hasUnlikeKnots_9 : decode cX2_hasUnlikeKnots 9 = .ok (.iload_n 1, 1) := by decide +kernel
theorem dX2_hasUnlikeKnots_10 : decode cX2_hasUnlikeKnots 10 = .ok (.iload_n 2, 1) := by decide +kernel
theorem dX2_hasUnlikeKnots_11 : decode cX2_hasUnlikeKnots 11 = .ok (.if_icmp .eq 7, 3) := by decide +kernel
theorem dX2_hasUnlikeKnots_14 : decode cX2_hasUnlikeKnots 14 = .ok (.iconst 1, 1) := by decide +kernel
theorem dX2_hasUnlikeKnots_15 : decode cX2_hasUnlikeKnots 15 = .ok (.goto 4, 3) := by decide +kernel
theorem dX2_hasUnlikeKnots_18 : decode cX2_hasUnlikeKnots 18 = .ok (.iconst 0, 1) := by decide +kernel
theorem dX2_hasUnlikeKnots_19 : decode cX2_hasUnlikeKnots 19 = .ok (.ireturn, 1) := by decide +kernel
theorem dX2_hasSet_0 : decode cX2_hasSet 0 = .ok (.iload_n 1, 1) := by decide +kernel
theorem dX2_hasSet_1 : decode cX2_hasSet 1 = .ok (.ifCond .lt 16, 3) := by decide +kernel
theorem dX2_hasSet_4 : decode cX2_hasSet 4 = .ok (.iload_n 1, 1) := by decide +kernel
theorem dX2_hasSet_5 : decode cX2_hasSet 5 = .ok (.aload_n 0, 1) := by decide +kernel
theorem dX2_hasSet_6 : decode cX2_hasSet 6 = .ok (.getfield 9, 3) := by decide +kernel
theorem dX2_hasSet_9 : decode cX2_hasSet 9 = .ok (.ishr, 1) := by decide +kernel
theorem dX2_hasSet_10 : decode cX2_hasSet 10 = .ok (.ifCond .ne 7, 3) := by decide +kernel
theorem dX2_hasSet_13 : decode cX2_hasSet 13 = .ok (.iconst 1, 1) := by decide +kernel
theorem dX2_hasSet_14 : decode cX2_hasSet 14 = .ok (.goto 4, 3) := by decide +kernel
theorem dX2_hasSet_17 : decode cX2_hasSet 17 = .ok (.iconst 0, 1) := by decide +kernel
theorem dX2_hasSet_18 : decode cX2_hasSet 18 = .ok (.ireturn, 1) := by decide +kernel
theorem dX2_hasWord_0 : decode cX2_hasWord 0 = .ok (.lload_n 1, 1) := by decide +kernel
theorem dX2_hasWord_1 : decode cX2_hasWord 1 = .ok (.aload_n 0, 1) := by decide +kernel
theorem dX2_hasWord_2 : decode cX2_hasWord 2 = .ok (.invokevirtual 27, 3) := by decide +kernel
theorem dX2_hasWord_5 : decode cX2_hasWord 5 = .ok (.lushr, 1) := by decide +kernel
theorem dX2_hasWord_6 : decode cX2_hasWord 6 = .ok (.lconst 0, 1) := by decide +kernel
theorem dX2_hasWord_7 : decode cX2_hasWord 7 = .ok (.lcmp, 1) := by decide +kernel
theorem dX2_hasWord_8 : decode cX2_hasWord 8 = .ok (.ifCond .ne 7, 3) := by decide +kernel
theorem dX2_hasWord_11 : decode cX2_hasWord 11 = .ok (.iconst 1, 1) := by decide +kernel
theorem dX2_hasWord_12 : decode cX2_hasWord 12 = .ok (.goto 4, 3) := by decide +kernel
theorem dX2_hasWord_15 : decode cX2_hasWord 15 = .ok (.iconst 0, 1) := by decide +kernel
theorem dX2_hasWord_16 : decode cX2_hasWord 16 = .ok (.ireturn, 1) := by decide +kernel
theorem dX2_joins_0 : decode cX2_joins 0 = .ok (.aload_n 0, 1) := by decide +kernel
theorem dX2_joins_1 : decode cX2_joins 1 = .ok (.getfield 15, 3) := by decide +kernel
theorem dX2_joins_4 : decode cX2_joins 4 = .ok (.iload_n 1, 1) := by decide +kernel
theorem dX2_joins_5 : decode cX2_joins 5 = .ok (.iaload, 1) := by decide +kernel
theorem dX2_joins_6 : decode cX2_joins 6 = .ok (.iload_n 2, 1) := by decide +kernel
theorem dX2_joins_7 : decode cX2_joins 7 = .ok (.ishr, 1) := by decide +kernel
theorem dX2_joins_8 : decode cX2_joins 8 = .ok (.iconst 1, 1) := by decide +kernel
theorem dX2_joins_9 : decode cX2_joins 9 = .ok (.iand, 1) := by decide +kernel
theorem dX2_joins_10 : decode cX2_joins 10 = .ok (.iconst 1, 1) := by decide +kernel
theorem dX2_joins_11 : decode cX2_joins 11 = .ok (.if_icmp .ne 7, 3) := by decide +kernel
theorem dX2_joins_14 : decode cX2_joins 14 = .ok (.iconst 1, 1) := by decide +kernel
theorem dX2_joins_15 : decode cX2_joins 15 = .ok (.goto 4, 3) := by decide +kernel
theorem dX2_joins_18 : decode cX2_joins 18 = .ok (.iconst 0, 1) := by decide +kernel
theorem dX2_joins_19 : decode cX2_joins 19 = .ok (.ireturn, 1) := by decide +kernel
theorem dX2_startWith_0 : decode cX2_startWith 0 = .ok (.aload_n 0, 1) := by decide +kernel
theorem dX2_startWith_1 : decode cX2_startWith 1 = .ok (.iload_n 1, 1) := by decide +kernel
theorem dX2_startWith_2 : decode cX2_startWith 2 = .ok (.putfield 9, 3) := by decide +kernel
theorem dX2_startWith_5 : decode cX2_startWith 5 = .ok (.aload_n 0, 1) := by decide +kernel
theorem dX2_startWith_6 : decode cX2_startWith 6 = .ok (.getfield 15, 3) := by decide +kernel
theorem dX2_startWith_9 : decode cX2_startWith 9 = .ok (.iconst 0, 1) := by decide +kernel
theorem dX2_startWith_10 : decode cX2_startWith 10 = .ok (.invokestatic 31, 3) := by decide +kernel
theorem dX2_startWith_13 : decode cX2_startWith 13 = .ok (.return_, 1) := by decide +kernel
theorem dX2_join_0 : decode cX2_join 0 = .ok (.aload_n 0, 1) := by decide +kernel
theorem dX2_join_1 : decode cX2_join 1 = .ok (.getfield 15, 3) := by decide +kernel
theorem dX2_join_4 : decode cX2_join 4 = .ok (.iload_n 1, 1) := by decide +kernel
theorem dX2_join_5 : decode cX2_join 5 = .ok (.dup2, 1) := by decide +kernel
theorem dX2_join_6 : decode cX2_join 6 = .ok (.iaload, 1) := by decide +kernel
theorem dX2_join_7 : decode cX2_join 7 = .ok (.iconst 1, 1) := by decide +kernel
theorem dX2_join_8 : decode cX2_join 8 = .ok (.iload_n 2, 1) := by decide +kernel
theorem dX2_join_9 : decode cX2_join 9 = .ok (.ishl, 1) := by decide +kernel
theorem dX2_join_10 : decode cX2_join 10 = .ok (.ior, 1) := by decide +kernel
theorem dX2_join_11 : decode cX2_join 11 = .ok (.iastore, 1) := by decide +kernel
theorem dX2_join_12 : decode cX2_join 12 = .ok (.aload_n 0, 1) := by decide +kernel
theorem dX2_join_13 : decode cX2_join 13 = .ok (.getfield 15, 3) := by decide +kernel
theorem dX2_join_16 : decode cX2_join 16 = .ok (.iload_n 2, 1) := by decide +kernel
theorem dX2_join_17 : decode cX2_join 17 = .ok (.dup2, 1) := by decide +kernel
theorem dX2_join_18 : decode cX2_join 18 = .ok (.iaload, 1) := by decide +kernel
theorem dX2_join_19 : decode cX2_join 19 = .ok (.iconst 1, 1) := by decide +kernel
theorem dX2_join_20 : decode cX2_join 20 = .ok (.iload_n 1, 1) := by decide +kernel
theorem dX2_join_21 : decode cX2_join 21 = .ok (.ishl, 1) := by decide +kernel
theorem dX2_join_22 : decode cX2_join 22 = .ok (.ior, 1) := by decide +kernel
theorem dX2_join_23 : decode cX2_join 23 = .ok (.iastore, 1) := by decide +kernel
theorem dX2_join_24 : decode cX2_join 24 = .ok (.return_, 1) := by decide +kernel
theorem dX2_change_0 : decode cX2_change 0 = .ok (.aload_n 0, 1) := by decide +kernel
theorem dX2_change_1 : decode cX2_change 1 = .ok (.getfield 15, 3) := by decide +kernel
theorem dX2_change_4 : decode cX2_change 4 = .ok (.iload_n 1, 1) := by decide +kernel
theorem dX2_change_5 : decode cX2_change 5 = .ok (.dup2, 1) := by decide +kernel
theorem dX2_change_6 : decode cX2_change 6 = .ok (.iaload, 1) := by decide +kernel
theorem dX2_change_7 : decode cX2_change 7 = .ok (.iconst 1, 1) := by decide +kernel
theorem dX2_change_8 : decode cX2_change 8 = .ok (.iload_n 2, 1) := by decide +kernel
theorem dX2_change_9 : decode cX2_change 9 = .ok (.ishl, 1) := by decide +kernel
theorem dX2_change_10 : decode cX2_change 10 = .ok (.ixor, 1) := by decide +kernel
theorem dX2_change_11 : decode cX2_change 11 = .ok (.iastore, 1) := by decide +kernel
theorem dX2_change_12 : decode cX2_change 12 = .ok (.aload_n 0, 1) := by decide +kernel
theorem dX2_change_13 : decode cX2_change 13 = .ok (.getfield 15, 3) := by decide +kernel
theorem dX2_change_16 : decode cX2_change 16 = .ok (.iload_n 2, 1) := by decide +kernel
theorem dX2_change_17 : decode cX2_change 17 = .ok (.dup2, 1) := by decide +kernel
theorem dX2_change_18 : decode cX2_change 18 = .ok (.iaload, 1) := by decide +kernel
theorem dX2_change_19 : decode cX2_change 19 = .ok (.iconst 1, 1) := by decide +kernel
theorem dX2_change_20 : decode cX2_change 20 = .ok (.iload_n 1, 1) := by decide +kernel
theorem dX2_change_21 : decode cX2_change 21 = .ok (.ishl, 1) := by decide +kernel
theorem dX2_change_22 : decode cX2_change 22 = .ok (.ixor, 1) := by decide +kernel
theorem dX2_change_23 : decode cX2_change 23 = .ok (.iastore, 1) := by decide +kernel
theorem dX2_change_24 : decode cX2_change 24 = .ok (.return_, 1) := by decide +kernel
theorem dX2_becomeCopy_0 : decode cX2_becomeCopy 0 = .ok (.aload_n 0, 1) := by decide +kernel
theorem dX2_becomeCopy_1 : decode cX2_becomeCopy 1 = .ok (.aload_n 1, 1) := by decide +kernel
theorem dX2_becomeCopy_2 : decode cX2_becomeCopy 2 = .ok (.getfield 9, 3) := by decide +kernel
theorem dX2_becomeCopy_5 : decode cX2_becomeCopy 5 = .ok (.putfield 9, 3) := by decide +kernel
theorem dX2_becomeCopy_8 : decode cX2_becomeCopy 8 = .ok (.aload_n 1, 1) := by decide +kernel
theorem dX2_becomeCopy_9 : decode cX2_becomeCopy 9 = .ok (.getfield 15, 3) := by decide +kernel
theorem dX2_becomeCopy_12 : decode cX2_becomeCopy 12 = .ok (.iconst 0, 1) := by decide +kernel
theorem dX2_becomeCopy_13 : decode cX2_becomeCopy 13 = .ok (.aload_n 0, 1) := by decide +kernel
theorem dX2_becomeCopy_14 : decode cX2_becomeCopy 14 = .ok (.getfield 15, 3) := by decide +kernel
theorem dX2_becomeCopy_17 : decode cX2_becomeCopy 17 = .ok (.iconst 0, 1) := by decide +kernel
theorem dX2_becomeCopy_18 : decode cX2_becomeCopy 18 = .ok (.bipush 10, 2) := by decide +kernel
theorem dX2_becomeCopy_20 : decode cX2_becomeCopy 20 = .ok (.invokestatic 37, 3) := by decide +kernel
theorem dX2_becomeCopy_23 : decode cX2_becomeCopy 23 = .ok (.return_, 1) := by decide +kernel
theorem dX2_becomeRing_0 : decode cX2_becomeRing 0 = .ok (.aload_n 0, 1) := by decide +kernel
theorem dX2_becomeRing_1 : decode cX2_becomeRing 1 = .ok (.iload_n 1, 1) := by decide +kernel
theorem dX2_becomeRing_2 : decode cX2_becomeRing 2 = .ok (.invokevirtual 43, 3) := by decide +kernel
theorem dX2_becomeRing_5 : decode cX2_becomeRing 5 = .ok (.iconst 1, 1) := by decide +kernel
theorem dX2_becomeRing_6 : decode cX2_becomeRing 6 = .ok (.istore_n 3, 1) := by decide +kernel
theorem dX2_becomeRing_7 : decode cX2_becomeRing 7 = .ok (.iload_n 3, 1) := by decide +kernel
theorem dX2_becomeRing_8 : decode cX2_becomeRing 8 = .ok (.iload_n 1, 1) := by decide +kernel
theorem dX2_becomeRing_9 : decode cX2_becomeRing 9 = .ok (.iconst 2, 1) := by decide +kernel
theorem dX2_becomeRing_10 : decode cX2_becomeRing 10 = .ok (.idiv, 1) := by decide +kernel
theorem dX2_becomeRing_11 : decode cX2_becomeRing 11 = .ok (.if_icmp .gt 49, 3) := by decide +kernel
theorem dX2_becomeRing_14 : decode cX2_becomeRing 14 = .ok (.iload_n 2, 1) := by decide +kernel
theorem dX2_becomeRing_15 : decode cX2_becomeRing 15 = .ok (.iload_n 3, 1) := by decide +kernel
theorem dX2_becomeRing_16 : decode cX2_becomeRing 16 = .ok (.iconst 1, 1) := by decide +kernel
theorem dX2_becomeRing_17 : decode cX2_becomeRing 17 = .ok (.isub, 1) := by decide +kernel
theorem dX2_becomeRing_18 : decode cX2_becomeRing 18 = .ok (.ishr, 1) := by decide +kernel
theorem dX2_becomeRing_19 : decode cX2_becomeRing 19 = .ok (.iconst 1, 1) := by decide +kernel
theorem dX2_becomeRing_20 : decode cX2_becomeRing 20 = .ok (.iand, 1) := by decide +kernel
theorem dX2_becomeRing_21 : decode cX2_becomeRing 21 = .ok (.ifCond .ne 6, 3) := by decide +kernel
theorem dX2_becomeRing_24 : decode cX2_becomeRing 24 = .ok (.goto 30, 3) := by decide +kernel
theorem dX2_becomeRing_27 : decode cX2_becomeRing 27 = .ok (.iconst 0, 1) := by decide +kernel
theorem dX2_becomeRing_28 : decode cX2_becomeRing 28 = .ok (.istore 4, 2) := by decide +kernel
theorem dX2_becomeRing_30 : decode cX2_becomeRing 30 = .ok (.iload 4, 2) := by decide +kernel
theorem dX2_becomeRing_32 : decode cX2_becomeRing 32 = .ok (.iload_n 1, 1) := by decide +kernel
theorem dX2_becomeRing_33 : decode cX2_becomeRing 33 = .ok (.if_icmp .ge 21, 3) := by decide +kernel
theorem dX2_becomeRing_36 : decode cX2_becomeRing 36 = .ok (.aload_n 0, 1) := by decide +kernel
theorem dX2_becomeRing_37 : decode cX2_becomeRing 37 = .ok (.iload 4, 2) := by decide +kernel
theorem dX2_becomeRing_39 : decode cX2_becomeRing 39 = .ok (.iload 4, 2) := by decide +kernel
theorem dX2_becomeRing_41 : decode cX2_becomeRing 41 = .ok (.iload_n 3, 1) := by decide +kernel
theorem dX2_becomeRing_42 : decode cX2_becomeRing 42 = .ok (.iadd, 1) := by decide +kernel
theorem dX2_becomeRing_43 : decode cX2_becomeRing 43 = .ok (.iload_n 1, 1) := by decide +kernel
theorem dX2_becomeRing_44 : decode cX2_becomeRing 44 = .ok (.irem, 1) := by decide +kernel
theorem dX2_becomeRing_45 : decode cX2_becomeRing 45 = .ok (.invokevirtual 47, 3) := by decide +kernel
theorem dX2_becomeRing_48 : decode cX2_becomeRing 48 = .ok (.iinc 4 1, 3) := by decide +kernel
theorem dX2_becomeRing_51 : decode cX2_becomeRing 51 = .ok (.goto (-21), 3) := by decide +kernel
theorem dX2_becomeRing_54 : decode cX2_becomeRing 54 = .ok (.iinc 3 1, 3) := by decide +kernel
theorem dX2_becomeRing_57 : decode cX2_becomeRing 57 = .ok (.goto (-50), 3) := by decide +kernel
theorem dX2_becomeRing_60 : decode cX2_becomeRing 60 = .ok (.return_, 1) := by decide +kernel
theorem dX2_becomeProduct_0 : decode cX2_becomeProduct 0 = .ok (.aload_n 2, 1) := by decide +kernel
theorem dX2_becomeProduct_1 : decode cX2_becomeProduct 1 = .ok (.getfield 9, 3) := by decide +kernel
theorem dX2_becomeProduct_4 : decode cX2_becomeProduct 4 = .ok (.istore_n 3, 1) := by decide +kernel
theorem dX2_becomeProduct_5 : decode cX2_becomeProduct 5 = .ok (.aload_n 0, 1) := by decide +kernel
theorem dX2_becomeProduct_6 : decode cX2_becomeProduct 6 = .ok (.aload_n 1, 1) := by decide +kernel
theorem dX2_becomeProduct_7 : decode cX2_becomeProduct 7 = .ok (.getfield 9, 3) := by decide +kernel
theorem dX2_becomeProduct_10 : decode cX2_becomeProduct 10 = .ok (.iload_n 3, 1) := by decide +kernel
theorem dX2_becomeProduct_11 : decode cX2_becomeProduct 11 = .ok (.imul, 1) := by decide +kernel
theorem dX2_becomeProduct_12 : decode cX2_becomeProduct 12 = .ok (.invokevirtual 43, 3) := by decide +kernel
theorem dX2_becomeProduct_15 : decode cX2_becomeProduct 15 = .ok (.iconst 0, 1) := by decide +kernel
theorem dX2_becomeProduct_16 : decode cX2_becomeProduct 16 = .ok (.istore 4, 2) := by decide +kernel
theorem dX2_becomeProduct_18 : decode cX2_becomeProduct 18 = .ok (.iload 4, 2) := by decide +kernel
theorem dX2_becomeProduct_20 : decode cX2_becomeProduct 20 = .ok (.aload_n 1, 1) := by decide +kernel
theorem dX2_becomeProduct_21 : decode cX2_becomeProduct 21 = .ok (.getfield 9, 3) := by decide +kernel
theorem dX2_becomeProduct_24 : decode cX2_becomeProduct 24 = .ok (.if_icmp .ge 100, 3) := by decide +kernel
theorem dX2_becomeProduct_27 : decode cX2_becomeProduct 27 = .ok (.iconst 0, 1) := by decide +kernel
theorem dX2_becomeProduct_28 : decode cX2_becomeProduct 28 = .ok (.istore 5, 2) := by decide +kernel
theorem dX2_becomeProduct_30 : decode cX2_becomeProduct 30 = .ok (.iload 5, 2) := by decide +kernel
theorem dX2_becomeProduct_32 : decode cX2_becomeProduct 32 = .ok (.iload_n 3, 1) := by decide +kernel
theorem dX2_becomeProduct_33 : decode cX2_becomeProduct 33 = .ok (.if_icmp .ge 85, 3) := by decide +kernel
theorem dX2_becomeProduct_36 : decode cX2_becomeProduct 36 = .ok (.iload_n 3, 1) := by decide +kernel
theorem dX2_becomeProduct_37 : decode cX2_becomeProduct 37 = .ok (.iload 4, 2) := by decide +kernel
theorem dX2_becomeProduct_39 : decode cX2_becomeProduct 39 = .ok (.imul, 1) := by decide +kernel
theorem dX2_becomeProduct_40 : decode cX2_becomeProduct 40 = .ok (.iload 5, 2) := by decide +kernel
theorem dX2_becomeProduct_42 : decode cX2_becomeProduct 42 = .ok (.iadd, 1) := by decide +kernel
theorem dX2_becomeProduct_43 : decode cX2_becomeProduct 43 = .ok (.istore 6, 2) := by decide +kernel
theorem dX2_becomeProduct_45 : decode cX2_becomeProduct 45 = .ok (.aload_n 0, 1) := by decide +kernel
theorem dX2_becomeProduct_46 : decode cX2_becomeProduct 46 = .ok (.getfield 15, 3) := by decide +kernel
theorem dX2_becomeProduct_49 : decode cX2_becomeProduct 49 = .ok (.iload 6, 2) := by decide +kernel
theorem dX2_becomeProduct_51 : decode cX2_becomeProduct 51 = .ok (.aload_n 2, 1) := by decide +kernel
theorem dX2_becomeProduct_52 : decode cX2_becomeProduct 52 = .ok (.getfield 15, 3) := by decide +kernel
theorem dX2_becomeProduct_55 : decode cX2_becomeProduct 55 = .ok (.iload 5, 2) := by decide +kernel
theorem dX2_becomeProduct_57 : decode cX2_becomeProduct 57 = .ok (.iaload, 1) := by decide +kernel
theorem dX2_becomeProduct_58 : decode cX2_becomeProduct 58 = .ok (.iload_n 3, 1) := by decide +kernel
theorem dX2_becomeProduct_59 : decode cX2_becomeProduct 59 = .ok (.iload 4, 2) := by decide +kernel
theorem dX2_becomeProduct_61 : decode cX2_becomeProduct 61 = .ok (.imul, 1) := by decide +kernel
theorem dX2_becomeProduct_62 : decode cX2_becomeProduct 62 = .ok (.ishl, 1) := by decide +kernel
theorem dX2_becomeProduct_63 : decode cX2_becomeProduct 63 = .ok (.iastore, 1) := by decide +kernel
theorem dX2_becomeProduct_64 : decode cX2_becomeProduct 64 = .ok (.iconst 0, 1) := by decide +kernel
theorem dX2_becomeProduct_65 : decode cX2_becomeProduct 65 = .ok (.istore 7, 2) := by decide +kernel
theorem dX2_becomeProduct_67 : decode cX2_becomeProduct 67 = .ok (.iload 7, 2) := by decide +kernel
theorem dX2_becomeProduct_69 : decode cX2_becomeProduct 69 = .ok (.aload_n 1, 1) := by decide +kernel
theorem dX2_becomeProduct_70 : decode cX2_becomeProduct 70 = .ok (.getfield 9, 3) := by decide +kernel
theorem dX2_becomeProduct_73 : decode cX2_becomeProduct 73 = .ok (.if_icmp .ge 39, 3) := by decide +kernel
theorem dX2_becomeProduct_76 : decode cX2_becomeProduct 76 = .ok (.aload_n 1, 1) := by decide +kernel
theorem dX2_becomeProduct_77 : decode cX2_becomeProduct 77 = .ok (.iload 4, 2) := by decide +kernel
theorem dX2_becomeProduct_79 : decode cX2_becomeProduct 79 = .ok (.iload 7, 2) := by decide +kernel
theorem dX2_becomeProduct_81 : decode cX2_becomeProduct 81 = .ok (.invokevirtual 51, 3) := by decide +kernel
theorem dX2_becomeProduct_84 : decode cX2_becomeProduct 84 = .ok (.ifCond .eq 22, 3) := by decide +kernel
theorem dX2_becomeProduct_87 : decode cX2_becomeProduct 87 = .ok (.aload_n 0, 1) := by decide +kernel
theorem dX2_becomeProduct_88 : decode cX2_becomeProduct 88 = .ok (.getfield 15, 3) := by decide +kernel
theorem dX2_becomeProduct_91 : decode cX2_becomeProduct 91 = .ok (.iload 6, 2) := by decide +kernel
theorem dX2_becomeProduct_93 : decode cX2_becomeProduct 93 = .ok (.dup2, 1) := by decide +kernel
theorem dX2_becomeProduct_94 : decode cX2_becomeProduct 94 = .ok (.iaload, 1) := by decide +kernel
theorem dX2_becomeProduct_95 : decode cX2_becomeProduct 95 = .ok (.iconst 1, 1) := by decide +kernel
theorem dX2_becomeProduct_96 : decode cX2_becomeProduct 96 = .ok (.iload_n 3, 1) := by decide +kernel
theorem dX2_becomeProduct_97 : decode cX2_becomeProduct 97 = .ok (.iload 7, 2) := by decide +kernel
theorem dX2_becomeProduct_99 : decode cX2_becomeProduct 99 = .ok (.imul, 1) := by decide +kernel
theorem dX2_becomeProduct_100 : decode cX2_becomeProduct 100 = .ok (.iload 5, 2) := by decide +kernel
theorem dX2_becomeProduct_102 : decode cX2_becomeProduct 102 = .ok (.iadd, 1) := by decide +kernel
theorem dX2_becomeProduct_103 : decode cX2_becomeProduct 103 = .ok (.ishl, 1) := by decide +kernel
theorem dX2_becomeProduct_104 : decode cX2_becomeProduct 104 = .ok (.ior, 1) := by decide +kernel
theorem dX2_becomeProduct_105 : decode cX2_becomeProduct 105 = .ok (.iastore, 1) := by decide +kernel
theorem dX2_becomeProduct_106 : decode cX2_becomeProduct 106 = .ok (.iinc 7 1, 3) := by decide +kernel
theorem dX2_becomeProduct_109 : decode cX2_becomeProduct 109 = .ok (.goto (-42), 3) := by decide +kernel
theorem dX2_becomeProduct_112 : decode cX2_becomeProduct 112 = .ok (.iinc 5 1, 3) := by decide +kernel
theorem dX2_becomeProduct_115 : decode cX2_becomeProduct 115 = .ok (.goto (-85), 3) := by decide +kernel
theorem dX2_becomeProduct_118 : decode cX2_becomeProduct 118 = .ok (.iinc 4 1, 3) := by decide +kernel
theorem dX2_becomeProduct_121 : decode cX2_becomeProduct 121 = .ok (.goto (-103), 3) := by decide +kernel
theorem dX2_becomeProduct_124 : decode cX2_becomeProduct 124 = .ok (.return_, 1) := by decide +kernel
theorem dX2_becomeTurned_0 : decode cX2_becomeTurned 0 = .ok (.aload_n 0, 1) := by decide +kernel
theorem dX2_becomeTurned_1 : decode cX2_becomeTurned 1 = .ok (.aload_n 1, 1) := by decide +kernel
theorem dX2_becomeTurned_2 : decode cX2_becomeTurned 2 = .ok (.getfield 9, 3) := by decide +kernel
theorem dX2_becomeTurned_5 : decode cX2_becomeTurned 5 = .ok (.invokevirtual 43, 3) := by decide +kernel
theorem dX2_becomeTurned_8 : decode cX2_becomeTurned 8 = .ok (.iconst 1, 1) := by decide +kernel
theorem dX2_becomeTurned_9 : decode cX2_becomeTurned 9 = .ok (.aload_n 0, 1) := by decide +kernel
theorem dX2_becomeTurned_10 : decode cX2_becomeTurned 10 = .ok (.getfield 9, 3) := by decide +kernel
theorem dX2_becomeTurned_13 : decode cX2_becomeTurned 13 = .ok (.ishl, 1) := by decide +kernel
theorem dX2_becomeTurned_14 : decode cX2_becomeTurned 14 = .ok (.iconst 1, 1) := by decide +kernel
theorem dX2_becomeTurned_15 : decode cX2_becomeTurned 15 = .ok (.isub, 1) := by decide +kernel
theorem dX2_becomeTurned_16 : decode cX2_becomeTurned 16 = .ok (.istore_n 2, 1) := by decide +kernel
theorem dX2_becomeTurned_17 : decode cX2_becomeTurned 17 = .ok (.iconst 0, 1) := by decide +kernel
theorem dX2_becomeTurned_18 : decode cX2_becomeTurned 18 = .ok (.istore_n 3, 1) := by decide +kernel
theorem dX2_becomeTurned_19 : decode cX2_becomeTurned 19 = .ok (.iload_n 3, 1) := by decide +kernel
theorem dX2_becomeTurned_20 : decode cX2_becomeTurned 20 = .ok (.aload_n 0, 1) := by decide +kernel
theorem dX2_becomeTurned_21 : decode cX2_becomeTurned 21 = .ok (.getfield 9, 3) := by decide +kernel
theorem dX2_becomeTurned_24 : decode cX2_becomeTurned 24 = .ok (.if_icmp .ge 31, 3) := by decide +kernel
theorem dX2_becomeTurned_27 : decode cX2_becomeTurned 27 = .ok (.aload_n 0, 1) := by decide +kernel
theorem dX2_becomeTurned_28 : decode cX2_becomeTurned 28 = .ok (.getfield 15, 3) := by decide +kernel
theorem dX2_becomeTurned_31 : decode cX2_becomeTurned 31 = .ok (.iload_n 3, 1) := by decide +kernel
theorem dX2_becomeTurned_32 : decode cX2_becomeTurned 32 = .ok (.iload_n 2, 1) := by decide +kernel
theorem dX2_becomeTurned_33 : decode cX2_becomeTurned 33 = .ok (.aload_n 1, 1) := by decide +kernel
theorem dX2_becomeTurned_34 : decode cX2_becomeTurned 34 = .ok (.getfield 15, 3) := by decide +kernel
theorem dX2_becomeTurned_37 : decode cX2_becomeTurned 37 = .ok (.iload_n 3, 1) := by decide +kernel
theorem dX2_becomeTurned_38 : decode cX2_becomeTurned 38 = .ok (.iaload, 1) := by decide +kernel
theorem dX2_becomeTurned_39 : decode cX2_becomeTurned 39 = .ok (.iconst (-1), 1) := by decide +kernel
theorem dX2_becomeTurned_40 : decode cX2_becomeTurned 40 = .ok (.ixor, 1) := by decide +kernel
theorem dX2_becomeTurned_41 : decode cX2_becomeTurned 41 = .ok (.iand, 1) := by decide +kernel
theorem dX2_becomeTurned_42 : decode cX2_becomeTurned 42 = .ok (.iconst 1, 1) := by decide +kernel
theorem dX2_becomeTurned_43 : decode cX2_becomeTurned 43 = .ok (.iload_n 3, 1) := by decide +kernel
theorem dX2_becomeTurned_44 : decode cX2_becomeTurned 44 = .ok (.ishl, 1) := by decide +kernel
theorem dX2_becomeTurned_45 : decode cX2_becomeTurned 45 = .ok (.iconst (-1), 1) := by decide +kernel
theorem dX2_becomeTurned_46 : decode cX2_becomeTurned 46 = .ok (.ixor, 1) := by decide +kernel
theorem dX2_becomeTurned_47 : decode cX2_becomeTurned 47 = .ok (.iand, 1) := by decide +kernel
theorem dX2_becomeTurned_48 : decode cX2_becomeTurned 48 = .ok (.iastore, 1) := by decide +kernel
theorem dX2_becomeTurned_49 : decode cX2_becomeTurned 49 = .ok (.iinc 3 1, 3) := by decide +kernel
theorem dX2_becomeTurned_52 : decode cX2_becomeTurned 52 = .ok (.goto (-33), 3) := by decide +kernel
theorem dX2_becomeTurned_55 : decode cX2_becomeTurned 55 = .ok (.return_, 1) := by decide +kernel
theorem dX2_degree_0 : decode cX2_degree 0 = .ok (.aload_n 0, 1) := by decide +kernel
theorem dX2_degree_1 : decode cX2_degree 1 = .ok (.getfield 15, 3) := by decide +kernel
theorem dX2_degree_4 : decode cX2_degree 4 = .ok (.iload_n 1, 1) := by decide +kernel
theorem dX2_degree_5 : decode cX2_degree 5 = .ok (.iaload, 1) := by decide +kernel
theorem dX2_degree_6 : decode cX2_degree 6 = .ok (.invokestatic 54, 3) := by decide +kernel
theorem dX2_degree_9 : decode cX2_degree 9 = .ok (.ireturn, 1) := by decide +kernel
theorem dX2_lineCount_0 : decode cX2_lineCount 0 = .ok (.iconst 0, 1) := by decide +kernel
theorem dX2_lineCount_1 : decode cX2_lineCount 1 = .ok (.istore_n 1, 1) := by decide +kernel
theorem dX2_lineCount_2 : decode cX2_lineCount 2 = .ok (.iconst 0, 1) := by decide +kernel
theorem dX2_lineCount_3 : decode cX2_lineCount 3 = .ok (.istore_n 2, 1) := by decide +kernel
theorem dX2_lineCount_4 : decode cX2_lineCount 4 = .ok (.iload_n 2, 1) := by decide +kernel
theorem dX2_lineCount_5 : decode cX2_lineCount 5 = .ok (.aload_n 0, 1) := by decide +kernel
theorem dX2_lineCount_6 : decode cX2_lineCount 6 = .ok (.getfield 9, 3) := by decide +kernel
theorem dX2_lineCount_9 : decode cX2_lineCount 9 = .ok (.if_icmp .ge 17, 3) := by decide +kernel
theorem dX2_lineCount_12 : decode cX2_lineCount 12 = .ok (.iload_n 1, 1) := by decide +kernel
theorem dX2_lineCount_13 : decode cX2_lineCount 13 = .ok (.aload_n 0, 1) := by decide +kernel
theorem dX2_lineCount_14 : decode cX2_lineCount 14 = .ok (.iload_n 2, 1) := by decide +kernel
theorem dX2_lineCount_15 : decode cX2_lineCount 15 = .ok (.invokevirtual 60, 3) := by decide +kernel
theorem dX2_lineCount_18 : decode cX2_lineCount 18 = .ok (.iadd, 1) := by decide +kernel
theorem dX2_lineCount_19 : decode cX2_lineCount 19 = .ok (.istore_n 1, 1) := by decide +kernel
theorem dX2_lineCount_20 : decode cX2_lineCount 20 = .ok (.iinc 2 1, 3) := by decide +kernel
theorem dX2_lineCount_23 : decode cX2_lineCount 23 = .ok (.goto (-19), 3) := by decide +kernel
theorem dX2_lineCount_26 : decode cX2_lineCount 26 = .ok (.iload_n 1, 1) := by decide +kernel
theorem dX2_lineCount_27 : decode cX2_lineCount 27 = .ok (.iconst 2, 1) := by decide +kernel
theorem dX2_lineCount_28 : decode cX2_lineCount 28 = .ok (.idiv, 1) := by decide +kernel
theorem dX2_lineCount_29 : decode cX2_lineCount 29 = .ok (.ireturn, 1) := by decide +kernel
theorem dX2_evenDegree_0 : decode cX2_evenDegree 0 = .ok (.iconst 1, 1) := by decide +kernel
theorem dX2_evenDegree_1 : decode cX2_evenDegree 1 = .ok (.istore_n 1, 1) := by decide +kernel
theorem dX2_evenDegree_2 : decode cX2_evenDegree 2 = .ok (.iload_n 1, 1) := by decide +kernel
theorem dX2_evenDegree_3 : decode cX2_evenDegree 3 = .ok (.aload_n 0, 1) := by decide +kernel
theorem dX2_evenDegree_4 : decode cX2_evenDegree 4 = .ok (.getfield 9, 3) := by decide +kernel
theorem dX2_evenDegree_7 : decode cX2_evenDegree 7 = .ok (.if_icmp .ge 24, 3) := by decide +kernel
theorem dX2_evenDegree_10 : decode cX2_evenDegree 10 = .ok (.aload_n 0, 1) := by decide +kernel
theorem dX2_evenDegree_11 : decode cX2_evenDegree 11 = .ok (.iload_n 1, 1) := by decide +kernel
theorem dX2_evenDegree_12 : decode cX2_evenDegree 12 = .ok (.invokevirtual 60, 3) := by decide +kernel
theorem dX2_evenDegree_15 : decode cX2_evenDegree 15 = .ok (.aload_n 0, 1) := by decide +kernel
theorem dX2_evenDegree_16 : decode cX2_evenDegree 16 = .ok (.iconst 0, 1) := by decide +kernel
theorem dX2_evenDegree_17 : decode cX2_evenDegree 17 = .ok (.invokevirtual 60, 3) := by decide +kernel
theorem dX2_evenDegree_20 : decode cX2_evenDegree 20 = .ok (.if_icmp .eq 5, 3) := by decide +kernel
theorem dX2_evenDegree_23 : decode cX2_evenDegree 23 = .ok (.iconst (-1), 1) := by decide +kernel
theorem dX2_evenDegree_24 : decode cX2_evenDegree 24 = .ok (.ireturn, 1) := by decide +kernel
theorem dX2_evenDegree_25 : decode cX2_evenDegree 25 = .ok (.iinc 1 1, 3) := by decide +kernel
theorem dX2_evenDegree_28 : decode cX2_evenDegree 28 = .ok (.goto (-26), 3) := by decide +kernel
theorem dX2_evenDegree_31 : decode cX2_evenDegree 31 = .ok (.aload_n 0, 1) := by decide +kernel
theorem dX2_evenDegree_32 : decode cX2_evenDegree 32 = .ok (.iconst 0, 1) := by decide +kernel
theorem dX2_evenDegree_33 : decode cX2_evenDegree 33 = .ok (.invokevirtual 60, 3) := by decide +kernel
theorem dX2_evenDegree_36 : decode cX2_evenDegree 36 = .ok (.ireturn, 1) := by decide +kernel
theorem dX2_partCount_0 : decode cX2_partCount 0 = .ok (.iconst 0, 1) := by decide +kernel
theorem dX2_partCount_1 : decode cX2_partCount 1 = .ok (.istore_n 1, 1) := by decide +kernel
theorem dX2_partCount_2 : decode cX2_partCount 2 = .ok (.iconst 0, 1) := by decide +kernel
theorem dX2_partCount_3 : decode cX2_partCount 3 = .ok (.istore_n 2, 1) := by decide +kernel
theorem dX2_partCount_4 : decode cX2_partCount 4 = .ok (.iconst 0, 1) := by decide +kernel
theorem dX2_partCount_5 : decode cX2_partCount 5 = .ok (.istore_n 3, 1) := by decide +kernel
theorem dX2_partCount_6 : decode cX2_partCount 6 = .ok (.iload_n 3, 1) := by decide +kernel
theorem dX2_partCount_7 : decode cX2_partCount 7 = .ok (.aload_n 0, 1) := by decide +kernel
theorem dX2_partCount_8 : decode cX2_partCount 8 = .ok (.getfield 9, 3) := by decide +kernel
theorem dX2_partCount_11 : decode cX2_partCount 11 = .ok (.if_icmp .ge 28, 3) := by decide +kernel
theorem dX2_partCount_14 : decode cX2_partCount 14 = .ok (.iload_n 2, 1) := by decide +kernel
theorem dX2_partCount_15 : decode cX2_partCount 15 = .ok (.iload_n 3, 1) := by decide +kernel
theorem dX2_partCount_16 : decode cX2_partCount 16 = .ok (.ishr, 1) := by decide +kernel
theorem dX2_partCount_17 : decode cX2_partCount 17 = .ok (.iconst 1, 1) := by decide +kernel
theorem dX2_partCount_18 : decode cX2_partCount 18 = .ok (.iand, 1) := by decide +kernel
theorem dX2_partCount_19 : decode cX2_partCount 19 = .ok (.ifCond .ne 14, 3) := by decide +kernel
theorem dX2_partCount_22 : decode cX2_partCount 22 = .ok (.iinc 1 1, 3) := by decide +kernel
theorem dX2_partCount_25 : decode cX2_partCount 25 = .ok (.iload_n 2, 1) := by decide +kernel
theorem dX2_partCount_26 : decode cX2_partCount 26 = .ok (.aload_n 0, 1) := by decide +kernel
theorem dX2_partCount_27 : decode cX2_partCount 27 = .ok (.iload_n 3, 1) := by decide +kernel
theorem dX2_partCount_28 : decode cX2_partCount 28 = .ok (.invokevirtual 63, 3) := by decide +kernel
theorem dX2_partCount_31 : decode cX2_partCount 31 = .ok (.ior, 1) := by decide +kernel
theorem dX2_partCount_32 : decode cX2_partCount 32 = .ok (.istore_n 2, 1) := by decide +kernel
theorem dX2_partCount_33 : decode cX2_partCount 33 = .ok (.iinc 3 1, 3) := by decide +kernel
theorem dX2_partCount_36 : decode cX2_partCount 36 = .ok (.goto (-30), 3) := by decide +kernel
theorem dX2_partCount_39 : decode cX2_partCount 39 = .ok (.iload_n 1, 1) := by decide +kernel
theorem dX2_partCount_40 : decode cX2_partCount 40 = .ok (.ireturn, 1) := by decide +kernel
theorem dX2_partOf_0 : decode cX2_partOf 0 = .ok (.iconst 1, 1) := by decide +kernel
theorem dX2_partOf_1 : decode cX2_partOf 1 = .ok (.iload_n 1, 1) := by decide +kernel
theorem dX2_partOf_2 : decode cX2_partOf 2 = .ok (.ishl, 1) := by decide +kernel
theorem dX2_partOf_3 : decode cX2_partOf 3 = .ok (.istore_n 2, 1) := by decide +kernel
theorem dX2_partOf_4 : decode cX2_partOf 4 = .ok (.iconst 1, 1) := by decide +kernel
theorem dX2_partOf_5 : decode cX2_partOf 5 = .ok (.istore_n 3, 1) := by decide +kernel
theorem dX2_partOf_6 : decode cX2_partOf 6 = .ok (.iload_n 3, 1) := by decide +kernel
theorem dX2_partOf_7 : decode cX2_partOf 7 = .ok (.aload_n 0, 1) := by decide +kernel
theorem dX2_partOf_8 : decode cX2_partOf 8 = .ok (.getfield 9, 3) := by decide +kernel
theorem dX2_partOf_11 : decode cX2_partOf 11 = .ok (.if_icmp .ge 17, 3) := by decide +kernel
theorem dX2_partOf_14 : decode cX2_partOf 14 = .ok (.iload_n 2, 1) := by decide +kernel
theorem dX2_partOf_15 : decode cX2_partOf 15 = .ok (.aload_n 0, 1) := by decide +kernel
theorem dX2_partOf_16 : decode cX2_partOf 16 = .ok (.iload_n 2, 1) := by decide +kernel
theorem dX2_partOf_17 : decode cX2_partOf 17 = .ok (.invokevirtual 66, 3) := by decide +kernel
theorem dX2_partOf_20 : decode cX2_partOf 20 = .ok (.ior, 1) := by decide +kernel
theorem dX2_partOf_21 : decode cX2_partOf 21 = .ok (.istore_n 2, 1) := by decide +kernel
theorem dX2_partOf_22 : decode cX2_partOf 22 = .ok (.iinc 3 1, 3) := by decide +kernel
theorem dX2_partOf_25 : decode cX2_partOf 25 = .ok (.goto (-19), 3) := by decide +kernel
theorem dX2_partOf_28 : decode cX2_partOf 28 = .ok (.iload_n 2, 1) := by decide +kernel
theorem dX2_partOf_29 : decode cX2_partOf 29 = .ok (.ireturn, 1) := by decide +kernel
theorem dX2_besideSet_0 : decode cX2_besideSet 0 = .ok (.iconst 0, 1) := by decide +kernel
theorem dX2_besideSet_1 : decode cX2_besideSet 1 = .ok (.istore_n 2, 1) := by decide +kernel
theorem dX2_besideSet_2 : decode cX2_besideSet 2 = .ok (.iconst 0, 1) := by decide +kernel
theorem dX2_besideSet_3 : decode cX2_besideSet 3 = .ok (.istore_n 3, 1) := by decide +kernel
theorem dX2_besideSet_4 : decode cX2_besideSet 4 = .ok (.iload_n 3, 1) := by decide +kernel
theorem dX2_besideSet_5 : decode cX2_besideSet 5 = .ok (.aload_n 0, 1) := by decide +kernel
theorem dX2_besideSet_6 : decode cX2_besideSet 6 = .ok (.getfield 9, 3) := by decide +kernel
theorem dX2_besideSet_9 : decode cX2_besideSet 9 = .ok (.if_icmp .ge 27, 3) := by decide +kernel
theorem dX2_besideSet_12 : decode cX2_besideSet 12 = .ok (.iload_n 1, 1) := by decide +kernel
theorem dX2_besideSet_13 : decode cX2_besideSet 13 = .ok (.iload_n 3, 1) := by decide +kernel
theorem dX2_besideSet_14 : decode cX2_besideSet 14 = .ok (.ishr, 1) := by decide +kernel
theorem dX2_besideSet_15 : decode cX2_besideSet 15 = .ok (.iconst 1, 1) := by decide +kernel
theorem dX2_besideSet_16 : decode cX2_besideSet 16 = .ok (.iand, 1) := by decide +kernel
theorem dX2_besideSet_17 : decode cX2_besideSet 17 = .ok (.iconst 1, 1) := by decide +kernel
theorem dX2_besideSet_18 : decode cX2_besideSet 18 = .ok (.if_icmp .ne 12, 3) := by decide +kernel
theorem dX2_besideSet_21 : decode cX2_besideSet 21 = .ok (.iload_n 2, 1) := by decide +kernel
theorem dX2_besideSet_22 : decode cX2_besideSet 22 = .ok (.aload_n 0, 1) := by decide +kernel
theorem dX2_besideSet_23 : decode cX2_besideSet 23 = .ok (.getfield 15, 3) := by decide +kernel
theorem dX2_besideSet_26 : decode cX2_besideSet 26 = .ok (.iload_n 3, 1) := by decide +kernel
theorem dX2_besideSet_27 : decode cX2_besideSet 27 = .ok (.iaload, 1) := by decide +kernel
theorem dX2_besideSet_28 : decode cX2_besideSet 28 = .ok (.ior, 1) := by decide +kernel
theorem dX2_besideSet_29 : decode cX2_besideSet 29 = .ok (.istore_n 2, 1) := by decide +kernel
theorem dX2_besideSet_30 : decode cX2_besideSet 30 = .ok (.iinc 3 1, 3) := by decide +kernel
theorem dX2_besideSet_33 : decode cX2_besideSet 33 = .ok (.goto (-29), 3) := by decide +kernel
theorem dX2_besideSet_36 : decode cX2_besideSet 36 = .ok (.iload_n 2, 1) := by decide +kernel
theorem dX2_besideSet_37 : decode cX2_besideSet 37 = .ok (.ireturn, 1) := by decide +kernel
theorem dX2_lineNumber_0 : decode cX2_lineNumber 0 = .ok (.iconst 0, 1) := by decide +kernel
theorem dX2_lineNumber_1 : decode cX2_lineNumber 1 = .ok (.istore_n 3, 1) := by decide +kernel
theorem dX2_lineNumber_2 : decode cX2_lineNumber 2 = .ok (.iconst 0, 1) := by decide +kernel
theorem dX2_lineNumber_3 : decode cX2_lineNumber 3 = .ok (.istore 4, 2) := by decide +kernel
theorem dX2_lineNumber_5 : decode cX2_lineNumber 5 = .ok (.iload 4, 2) := by decide +kernel
theorem dX2_lineNumber_7 : decode cX2_lineNumber 7 = .ok (.iload_n 1, 1) := by decide +kernel
theorem dX2_lineNumber_8 : decode cX2_lineNumber 8 = .ok (.if_icmp .ge 25, 3) := by decide +kernel
theorem dX2_lineNumber_11 : decode cX2_lineNumber 11 = .ok (.iload_n 3, 1) := by decide +kernel
theorem dX2_lineNumber_12 : decode cX2_lineNumber 12 = .ok (.aload_n 0, 1) := by decide +kernel
theorem dX2_lineNumber_13 : decode cX2_lineNumber 13 = .ok (.getfield 15, 3) := by decide +kernel
theorem dX2_lineNumber_16 : decode cX2_lineNumber 16 = .ok (.iload 4, 2) := by decide +kernel
theorem dX2_lineNumber_18 : decode cX2_lineNumber 18 = .ok (.iaload, 1) := by decide +kernel
theorem dX2_lineNumber_19 : decode cX2_lineNumber 19 = .ok (.iload 4, 2) := by decide +kernel
theorem dX2_lineNumber_21 : decode cX2_lineNumber 21 = .ok (.ishr, 1) := by decide +kernel
theorem dX2_lineNumber_22 : decode cX2_lineNumber 22 = .ok (.invokestatic 54, 3) := by decide +kernel
theorem dX2_lineNumber_25 : decode cX2_lineNumber 25 = .ok (.iadd, 1) := by decide +kernel
theorem dX2_lineNumber_26 : decode cX2_lineNumber 26 = .ok (.istore_n 3, 1) := by decide +kernel
theorem dX2_lineNumber_27 : decode cX2_lineNumber 27 = .ok (.iinc 4 1, 3) := by decide +kernel
theorem dX2_lineNumber_30 : decode cX2_lineNumber 30 = .ok (.goto (-25), 3) := by decide +kernel
theorem dX2_lineNumber_33 : decode cX2_lineNumber 33 = .ok (.aload_n 0, 1) := by decide +kernel
theorem dX2_lineNumber_34 : decode cX2_lineNumber 34 = .ok (.getfield 15, 3) := by decide +kernel
theorem dX2_lineNumber_37 : decode cX2_lineNumber 37 = .ok (.iload_n 1, 1) := by decide +kernel
theorem dX2_lineNumber_38 : decode cX2_lineNumber 38 = .ok (.iaload, 1) := by decide +kernel
theorem dX2_lineNumber_39 : decode cX2_lineNumber 39 = .ok (.iconst 1, 1) := by decide +kernel
theorem dX2_lineNumber_40 : decode cX2_lineNumber 40 = .ok (.iload_n 2, 1) := by decide +kernel
theorem dX2_lineNumber_41 : decode cX2_lineNumber 41 = .ok (.ishl, 1) := by decide +kernel
theorem dX2_lineNumber_42 : decode cX2_lineNumber 42 = .ok (.iconst 1, 1) := by decide +kernel
theorem dX2_lineNumber_43 : decode cX2_lineNumber 43 = .ok (.isub, 1) := by decide +kernel
theorem dX2_lineNumber_44 : decode cX2_lineNumber 44 = .ok (.iand, 1) := by decide +kernel
theorem dX2_lineNumber_45 : decode cX2_lineNumber 45 = .ok (.istore 4, 2) := by decide +kernel
theorem dX2_lineNumber_47 : decode cX2_lineNumber 47 = .ok (.iload_n 3, 1) := by decide +kernel
theorem dX2_lineNumber_48 : decode cX2_lineNumber 48 = .ok (.iload 4, 2) := by decide +kernel
theorem dX2_lineNumber_50 : decode cX2_lineNumber 50 = .ok (.iload_n 1, 1) := by decide +kernel
theorem dX2_lineNumber_51 : decode cX2_lineNumber 51 = .ok (.ishr, 1) := by decide +kernel
theorem dX2_lineNumber_52 : decode cX2_lineNumber 52 = .ok (.invokestatic 54, 3) := by decide +kernel
theorem dX2_lineNumber_55 : decode cX2_lineNumber 55 = .ok (.iadd, 1) := by decide +kernel
theorem dX2_lineNumber_56 : decode cX2_lineNumber 56 = .ok (.ireturn, 1) := by decide +kernel
theorem dX2_fewestLines_0 : decode cX2_fewestLines 0 = .ok (.iload_n 1, 1) := by decide +kernel
theorem dX2_fewestLines_1 : decode cX2_fewestLines 1 = .ok (.iload_n 2, 1) := by decide +kernel
theorem dX2_fewestLines_2 : decode cX2_fewestLines 2 = .ok (.if_icmp .ne 5, 3) := by decide +kernel
theorem dX2_fewestLines_5 : decode cX2_fewestLines 5 = .ok (.iconst 0, 1) := by decide +kernel
theorem dX2_fewestLines_6 : decode cX2_fewestLines 6 = .ok (.ireturn, 1) := by decide +kernel
theorem dX2_fewestLines_7 : decode cX2_fewestLines 7 = .ok (.iconst 1, 1) := by decide +kernel
theorem dX2_fewestLines_8 : decode cX2_fewestLines 8 = .ok (.iload_n 1, 1) := by decide +kernel
theorem dX2_fewestLines_9 : decode cX2_fewestLines 9 = .ok (.ishl, 1) := by decide +kernel
theorem dX2_fewestLines_10 : decode cX2_fewestLines 10 = .ok (.istore 4, 2) := by decide +kernel
theorem dX2_fewestLines_12 : decode cX2_fewestLines 12 = .ok (.iload_n 3, 1) := by decide +kernel
theorem dX2_fewestLines_13 : decode cX2_fewestLines 13 = .ok (.ifCond .eq 12, 3) := by decide +kernel
theorem dX2_fewestLines_16 : decode cX2_fewestLines 16 = .ok (.aload_n 0, 1) := by decide +kernel
theorem dX2_fewestLines_17 : decode cX2_fewestLines 17 = .ok (.getfield 15, 3) := by decide +kernel
theorem dX2_fewestLines_20 : decode cX2_fewestLines 20 = .ok (.iload_n 1, 1) := by decide +kernel
theorem dX2_fewestLines_21 : decode cX2_fewestLines 21 = .ok (.iaload, 1) := by decide +kernel
theorem dX2_fewestLines_22 : decode cX2_fewestLines 22 = .ok (.goto 15, 3) := by decide +kernel
theorem dX2_fewestLines_25 : decode cX2_fewestLines 25 = .ok (.aload_n 0, 1) := by decide +kernel
theorem dX2_fewestLines_26 : decode cX2_fewestLines 26 = .ok (.getfield 15, 3) := by decide +kernel
theorem dX2_fewestLines_29 : decode cX2_fewestLines 29 = .ok (.iload_n 1, 1) := by decide +kernel
theorem dX2_fewestLines_30 : decode cX2_fewestLines 30 = .ok (.iaload, 1) := by decide +kernel
theorem dX2_fewestLines_31 : decode cX2_fewestLines 31 = .ok (.iconst 1, 1) := by decide +kernel
theorem dX2_fewestLines_32 : decode cX2_fewestLines 32 = .ok (.iload_n 2, 1) := by decide +kernel
theorem dX2_fewestLines_33 : decode cX2_fewestLines 33 = .ok (.ishl, 1) := by decide +kernel
theorem dX2_fewestLines_34 : decode cX2_fewestLines 34 = .ok (.iconst (-1), 1) := by decide +kernel
theorem dX2_fewestLines_35 : decode cX2_fewestLines 35 = .ok (.ixor, 1) := by decide +kernel
theorem dX2_fewestLines_36 : decode cX2_fewestLines 36 = .ok (.iand, 1) := by decide +kernel
theorem dX2_fewestLines_37 : decode cX2_fewestLines 37 = .ok (.istore 5, 2) := by decide +kernel
theorem dX2_fewestLines_39 : decode cX2_fewestLines 39 = .ok (.iconst 1, 1) := by decide +kernel
theorem dX2_fewestLines_40 : decode cX2_fewestLines 40 = .ok (.istore 6, 2) := by decide +kernel
theorem dX2_fewestLines_42 : decode cX2_fewestLines 42 = .ok (.iload 6, 2) := by decide +kernel
theorem dX2_fewestLines_44 : decode cX2_fewestLines 44 = .ok (.aload_n 0, 1) := by decide +kernel
theorem dX2_fewestLines_45 : decode cX2_fewestLines 45 = .ok (.getfield 9, 3) := by decide +kernel
theorem dX2_fewestLines_48 : decode cX2_fewestLines 48 = .ok (.if_icmp .ge 42, 3) := by decide +kernel
theorem dX2_fewestLines_51 : decode cX2_fewestLines 51 = .ok (.iload 5, 2) := by decide +kernel
theorem dX2_fewestLines_53 : decode cX2_fewestLines 53 = .ok (.iload_n 2, 1) := by decide +kernel
theorem dX2_fewestLines_54 : decode cX2_fewestLines 54 = .ok (.ishr, 1) := by decide +kernel
theorem dX2_fewestLines_55 : decode cX2_fewestLines 55 = .ok (.iconst 1, 1) := by decide +kernel
theorem dX2_fewestLines_56 : decode cX2_fewestLines 56 = .ok (.iand, 1) := by decide +kernel
theorem dX2_fewestLines_57 : decode cX2_fewestLines 57 = .ok (.iconst 1, 1) := by decide +kernel
theorem dX2_fewestLines_58 : decode cX2_fewestLines 58 = .ok (.if_icmp .ne 6, 3) := by decide +kernel
theorem dX2_fewestLines_61 : decode cX2_fewestLines 61 = .ok (.iload 6, 2) := by decide +kernel
theorem dX2_fewestLines_63 : decode cX2_fewestLines 63 = .ok (.ireturn, 1) := by decide +kernel
theorem dX2_fewestLines_64 : decode cX2_fewestLines 64 = .ok (.iload 4, 2) := by decide +kernel
theorem dX2_fewestLines_66 : decode cX2_fewestLines 66 = .ok (.iload 5, 2) := by decide +kernel
theorem dX2_fewestLines_68 : decode cX2_fewestLines 68 = .ok (.ior, 1) := by decide +kernel
theorem dX2_fewestLines_69 : decode cX2_fewestLines 69 = .ok (.istore 4, 2) := by decide +kernel
theorem dX2_fewestLines_71 : decode cX2_fewestLines 71 = .ok (.aload_n 0, 1) := by decide +kernel
theorem dX2_fewestLines_72 : decode cX2_fewestLines 72 = .ok (.iload 5, 2) := by decide +kernel
theorem dX2_fewestLines_74 : decode cX2_fewestLines 74 = .ok (.invokevirtual 66, 3) := by decide +kernel
theorem dX2_fewestLines_77 : decode cX2_fewestLines 77 = .ok (.iload 4, 2) := by decide +kernel
theorem dX2_fewestLines_79 : decode cX2_fewestLines 79 = .ok (.iconst (-1), 1) := by decide +kernel
theorem dX2_fewestLines_80 : decode cX2_fewestLines 80 = .ok (.ixor, 1) := by decide +kernel
theorem dX2_fewestLines_81 : decode cX2_fewestLines 81 = .ok (.iand, 1) := by decide +kernel
theorem dX2_fewestLines_82 : decode cX2_fewestLines 82 = .ok (.istore 5, 2) := by decide +kernel
theorem dX2_fewestLines_84 : decode cX2_fewestLines 84 = .ok (.iinc 6 1, 3) := by decide +kernel
theorem dX2_fewestLines_87 : decode cX2_fewestLines 87 = .ok (.goto (-45), 3) := by decide +kernel
theorem dX2_fewestLines_90 : decode cX2_fewestLines 90 = .ok (.iconst (-1), 1) := by decide +kernel
theorem dX2_fewestLines_91 : decode cX2_fewestLines 91 = .ok (.ireturn, 1) := by decide +kernel
theorem dX2_shortestRound_0 : decode cX2_shortestRound 0 = .ok (.iconst (-1), 1) := by decide +kernel
theorem dX2_shortestRound_1 : decode cX2_shortestRound 1 = .ok (.istore_n 1, 1) := by decide +kernel
theorem dX2_shortestRound_2 : decode cX2_shortestRound 2 = .ok (.iconst 0, 1) := by decide +kernel
theorem dX2_shortestRound_3 : decode cX2_shortestRound 3 = .ok (.istore_n 2, 1) := by decide +kernel
theorem dX2_shortestRound_4 : decode cX2_shortestRound 4 = .ok (.iload_n 2, 1) := by decide +kernel
theorem dX2_shortestRound_5 : decode cX2_shortestRound 5 = .ok (.aload_n 0, 1) := by decide +kernel
theorem dX2_shortestRound_6 : decode cX2_shortestRound 6 = .ok (.getfield 9, 3) := by decide +kernel
theorem dX2_shortestRound_9 : decode cX2_shortestRound 9 = .ok (.if_icmp .ge 73, 3) := by decide +kernel
theorem dX2_shortestRound_12 : decode cX2_shortestRound 12 = .ok (.iload_n 2, 1) := by decide +kernel
theorem dX2_shortestRound_13 : decode cX2_shortestRound 13 = .ok (.iconst 1, 1) := by decide +kernel
theorem dX2_shortestRound_14 : decode cX2_shortestRound 14 = .ok (.iadd, 1) := by decide +kernel
theorem dX2_shortestRound_15 : decode cX2_shortestRound 15 = .ok (.istore_n 3, 1) := by decide +kernel
theorem dX2_shortestRound_16 : decode cX2_shortestRound 16 = .ok (.iload_n 3, 1) := by decide +kernel
theorem dX2_shortestRound_17 : decode cX2_shortestRound 17 = .ok (.aload_n 0, 1) := by decide +kernel
theorem dX2_shortestRound_18 : decode cX2_shortestRound 18 = .ok (.getfield 9, 3) := by decide +kernel
theorem dX2_shortestRound_21 : decode cX2_shortestRound 21 = .ok (.if_icmp .ge 55, 3) := by decide +kernel
theorem dX2_shortestRound_24 : decode cX2_shortestRound 24 = .ok (.aload_n 0, 1) := by decide +kernel
theorem dX2_shortestRound_25 : decode cX2_shortestRound 25 = .ok (.iload_n 2, 1) := by decide +kernel
theorem dX2_shortestRound_26 : decode cX2_shortestRound 26 = .ok (.iload_n 3, 1) := by decide +kernel
theorem dX2_shortestRound_27 : decode cX2_shortestRound 27 = .ok (.invokevirtual 51, 3) := by decide +kernel
theorem dX2_shortestRound_30 : decode cX2_shortestRound 30 = .ok (.ifCond .eq 13, 3) := by decide +kernel
theorem dX2_shortestRound_33 : decode cX2_shortestRound 33 = .ok (.aload_n 0, 1) := by decide +kernel
theorem dX2_shortestRound_34 : decode cX2_shortestRound 34 = .ok (.iload_n 2, 1) := by decide +kernel
theorem dX2_shortestRound_35 : decode cX2_shortestRound 35 = .ok (.iload_n 3, 1) := by decide +kernel
theorem dX2_shortestRound_36 : decode cX2_shortestRound 36 = .ok (.iconst 0, 1) := by decide +kernel
theorem dX2_shortestRound_37 : decode cX2_shortestRound 37 = .ok (.invokevirtual 69, 3) := by decide +kernel
theorem dX2_shortestRound_40 : decode cX2_shortestRound 40 = .ok (.goto 4, 3) := by decide +kernel
theorem dX2_shortestRound_43 : decode cX2_shortestRound 43 = .ok (.iconst (-1), 1) := by decide +kernel
theorem dX2_shortestRound_44 : decode cX2_shortestRound 44 = .ok (.istore 4, 2) := by decide +kernel
theorem dX2_shortestRound_46 : decode cX2_shortestRound 46 = .ok (.iload 4, 2) := by decide +kernel
theorem dX2_shortestRound_48 : decode cX2_shortestRound 48 = .ok (.iconst (-1), 1) := by decide +kernel
theorem dX2_shortestRound_49 : decode cX2_shortestRound 49 = .ok (.if_icmp .eq 21, 3) := by decide +kernel
theorem dX2_shortestRound_52 : decode cX2_shortestRound 52 = .ok (.iload_n 1, 1) := by decide +kernel
theorem dX2_shortestRound_53 : decode cX2_shortestRound 53 = .ok (.iconst (-1), 1) := by decide +kernel
theorem dX2_shortestRound_54 : decode cX2_shortestRound 54 = .ok (.if_icmp .eq 11, 3) := by decide +kernel
theorem dX2_shortestRound_57 : decode cX2_shortestRound 57 = .ok (.iload 4, 2) := by decide +kernel
theorem dX2_shortestRound_59 : decode cX2_shortestRound 59 = .ok (.iconst 1, 1) := by decide +kernel
theorem dX2_shortestRound_60 : decode cX2_shortestRound 60 = .ok (.iadd, 1) := by decide +kernel
theorem dX2_shortestRound_61 : decode cX2_shortestRound 61 = .ok (.iload_n 1, 1) := by decide +kernel
theorem dX2_shortestRound_62 : decode cX2_shortestRound 62 = .ok (.if_icmp .ge 8, 3) := by decide +kernel
theorem dX2_shortestRound_65 : decode cX2_shortestRound 65 = .ok (.iload 4, 2) := by decide +kernel
theorem dX2_shortestRound_67 : decode cX2_shortestRound 67 = .ok (.iconst 1, 1) := by decide +kernel
theorem dX2_shortestRound_68 : decode cX2_shortestRound 68 = .ok (.iadd, 1) := by decide +kernel
theorem dX2_shortestRound_69 : decode cX2_shortestRound 69 = .ok (.istore_n 1, 1) := by decide +kernel
theorem dX2_shortestRound_70 : decode cX2_shortestRound 70 = .ok (.iinc 3 1, 3) := by decide +kernel
theorem dX2_shortestRound_73 : decode cX2_shortestRound 73 = .ok (.goto (-57), 3) := by decide +kernel
theorem dX2_shortestRound_76 : decode cX2_shortestRound 76 = .ok (.iinc 2 1, 3) := by decide +kernel
theorem dX2_shortestRound_79 : decode cX2_shortestRound 79 = .ok (.goto (-75), 3) := by decide +kernel
theorem dX2_shortestRound_82 : decode cX2_shortestRound 82 = .ok (.iload_n 1, 1) := by decide +kernel
theorem dX2_shortestRound_83 : decode cX2_shortestRound 83 = .ok (.ireturn, 1) := by decide +kernel
theorem dX2_oddKnots_0 : decode cX2_oddKnots 0 = .ok (.iconst 0, 1) := by decide +kernel
theorem dX2_oddKnots_1 : decode cX2_oddKnots 1 = .ok (.istore_n 3, 1) := by decide +kernel
theorem dX2_oddKnots_2 : decode cX2_oddKnots 2 = .ok (.iconst 0, 1) := by decide +kernel
theorem dX2_oddKnots_3 : decode cX2_oddKnots 3 = .ok (.istore 4, 2) := by decide +kernel
theorem dX2_oddKnots_5 : decode cX2_oddKnots 5 = .ok (.iconst 0, 1) := by decide +kernel
theorem dX2_oddKnots_6 : decode cX2_oddKnots 6 = .ok (.istore 5, 2) := by decide +kernel
theorem dX2_oddKnots_8 : decode cX2_oddKnots 8 = .ok (.iload 5, 2) := by decide +kernel
theorem dX2_oddKnots_10 : decode cX2_oddKnots 10 = .ok (.aload_n 0, 1) := by decide +kernel
theorem dX2_oddKnots_11 : decode cX2_oddKnots 11 = .ok (.getfield 9, 3) := by decide +kernel
theorem dX2_oddKnots_14 : decode cX2_oddKnots 14 = .ok (.if_icmp .ge 70, 3) := by decide +kernel
theorem dX2_oddKnots_17 : decode cX2_oddKnots 17 = .ok (.iload 5, 2) := by decide +kernel
theorem dX2_oddKnots_19 : decode cX2_oddKnots 19 = .ok (.iconst 1, 1) := by decide +kernel
theorem dX2_oddKnots_20 : decode cX2_oddKnots 20 = .ok (.iadd, 1) := by decide +kernel
theorem dX2_oddKnots_21 : decode cX2_oddKnots 21 = .ok (.istore 6, 2) := by decide +kernel
theorem dX2_oddKnots_23 : decode cX2_oddKnots 23 = .ok (.iload 6, 2) := by decide +kernel
theorem dX2_oddKnots_25 : decode cX2_oddKnots 25 = .ok (.aload_n 0, 1) := by decide +kernel
theorem dX2_oddKnots_26 : decode cX2_oddKnots 26 = .ok (.getfield 9, 3) := by decide +kernel
theorem dX2_oddKnots_29 : decode cX2_oddKnots 29 = .ok (.if_icmp .ge 49, 3) := by decide +kernel
theorem dX2_oddKnots_32 : decode cX2_oddKnots 32 = .ok (.aload_n 0, 1) := by decide +kernel
theorem dX2_oddKnots_33 : decode cX2_oddKnots 33 = .ok (.iload 5, 2) := by decide +kernel
theorem dX2_oddKnots_35 : decode cX2_oddKnots 35 = .ok (.iload 6, 2) := by decide +kernel
theorem dX2_oddKnots_37 : decode cX2_oddKnots 37 = .ok (.invokevirtual 51, 3) := by decide +kernel
theorem dX2_oddKnots_40 : decode cX2_oddKnots 40 = .ok (.ifCond .ne 6, 3) := by decide +kernel
theorem dX2_oddKnots_43 : decode cX2_oddKnots 43 = .ok (.goto 29, 3) := by decide +kernel
theorem dX2_oddKnots_46 : decode cX2_oddKnots 46 = .ok (.lload_n 1, 1) := by decide +kernel
theorem dX2_oddKnots_47 : decode cX2_oddKnots 47 = .ok (.iload 4, 2) := by decide +kernel
theorem dX2_oddKnots_49 : decode cX2_oddKnots 49 = .ok (.lushr, 1) := by decide +kernel
theorem dX2_oddKnots_50 : decode cX2_oddKnots 50 = .ok (.lconst 1, 1) := by decide +kernel
theorem dX2_oddKnots_51 : decode cX2_oddKnots 51 = .ok (.land, 1) := by decide +kernel
theorem dX2_oddKnots_52 : decode cX2_oddKnots 52 = .ok (.lconst 1, 1) := by decide +kernel
theorem dX2_oddKnots_53 : decode cX2_oddKnots 53 = .ok (.lcmp, 1) := by decide +kernel
theorem dX2_oddKnots_54 : decode cX2_oddKnots 54 = .ok (.ifCond .ne 15, 3) := by decide +kernel
theorem dX2_oddKnots_57 : decode cX2_oddKnots 57 = .ok (.iload_n 3, 1) := by decide +kernel
theorem dX2_oddKnots_58 : decode cX2_oddKnots 58 = .ok (.iconst 1, 1) := by decide +kernel
theorem dX2_oddKnots_59 : decode cX2_oddKnots 59 = .ok (.iload 5, 2) := by decide +kernel
theorem dX2_oddKnots_61 : decode cX2_oddKnots 61 = .ok (.ishl, 1) := by decide +kernel
theorem dX2_oddKnots_62 : decode cX2_oddKnots 62 = .ok (.iconst 1, 1) := by decide +kernel
theorem dX2_oddKnots_63 : decode cX2_oddKnots 63 = .ok (.iload 6, 2) := by decide +kernel
theorem dX2_oddKnots_65 : decode cX2_oddKnots 65 = .ok (.ishl, 1) := by decide +kernel
theorem dX2_oddKnots_66 : decode cX2_oddKnots 66 = .ok (.ior, 1) := by decide +kernel
theorem dX2_oddKnots_67 : decode cX2_oddKnots 67 = .ok (.ixor, 1) := by decide +kernel
theorem dX2_oddKnots_68 : decode cX2_oddKnots 68 = .ok (.istore_n 3, 1) := by decide +kernel
theorem dX2_oddKnots_69 : decode cX2_oddKnots 69 = .ok (.iinc 4 1, 3) := by decide +kernel
theorem dX2_oddKnots_72 : decode cX2_oddKnots 72 = .ok (.iinc 6 1, 3) := by decide +kernel
theorem dX2_oddKnots_75 : decode cX2_oddKnots 75 = .ok (.goto (-52), 3) := by decide +kernel
theorem dX2_oddKnots_78 : decode cX2_oddKnots 78 = .ok (.iinc 5 1, 3) := by decide +kernel
theorem dX2_oddKnots_81 : decode cX2_oddKnots 81 = .ok (.goto (-73), 3) := by decide +kernel
theorem dX2_oddKnots_84 : decode cX2_oddKnots 84 = .ok (.iload_n 3, 1) := by decide +kernel
theorem dX2_oddKnots_85 : decode cX2_oddKnots 85 = .ok (.ireturn, 1) := by decide +kernel
theorem dX2_flipBack_0 : decode cX2_flipBack 0 = .ok (.lload_n 1, 1) := by decide +kernel
theorem dX2_flipBack_1 : decode cX2_flipBack 1 = .ok (.lstore_n 3, 1) := by decide +kernel
theorem dX2_flipBack_2 : decode cX2_flipBack 2 = .ok (.aload_n 0, 1) := by decide +kernel
theorem dX2_flipBack_3 : decode cX2_flipBack 3 = .ok (.lload_n 1, 1) := by decide +kernel
theorem dX2_flipBack_4 : decode cX2_flipBack 4 = .ok (.invokevirtual 73, 3) := by decide +kernel
theorem dX2_flipBack_7 : decode cX2_flipBack 7 = .ok (.istore 5, 2) := by decide +kernel
theorem dX2_flipBack_9 : decode cX2_flipBack 9 = .ok (.iconst 0, 1) := by decide +kernel
theorem dX2_flipBack_10 : decode cX2_flipBack 10 = .ok (.istore 6, 2) := by decide +kernel
theorem dX2_flipBack_12 : decode cX2_flipBack 12 = .ok (.iconst 0, 1) := by decide +kernel
theorem dX2_flipBack_13 : decode cX2_flipBack 13 = .ok (.istore 7, 2) := by decide +kernel
theorem dX2_flipBack_15 : decode cX2_flipBack 15 = .ok (.iload 7, 2) := by decide +kernel
theorem dX2_flipBack_17 : decode cX2_flipBack 17 = .ok (.aload_n 0, 1) := by decide +kernel
theorem dX2_flipBack_18 : decode cX2_flipBack 18 = .ok (.getfield 9, 3) := by decide +kernel
theorem dX2_flipBack_21 : decode cX2_flipBack 21 = .ok (.if_icmp .ge 82, 3) := by decide +kernel
theorem dX2_flipBack_24 : decode cX2_flipBack 24 = .ok (.iload 7, 2) := by decide +kernel
theorem dX2_flipBack_26 : decode cX2_flipBack 26 = .ok (.iconst 1, 1) := by decide +kernel
theorem dX2_flipBack_27 : decode cX2_flipBack 27 = .ok (.iadd, 1) := by decide +kernel
theorem dX2_flipBack_28 : decode cX2_flipBack 28 = .ok (.istore 8, 2) := by decide +kernel
theorem dX2_flipBack_30 : decode cX2_flipBack 30 = .ok (.iload 8, 2) := by decide +kernel
theorem dX2_flipBack_32 : decode cX2_flipBack 32 = .ok (.aload_n 0, 1) := by decide +kernel
theorem dX2_flipBack_33 : decode cX2_flipBack 33 = .ok (.getfield 9, 3) := by decide +kernel
theorem dX2_flipBack_36 : decode cX2_flipBack 36 = .ok (.if_icmp .ge 61, 3) := by decide +kernel
theorem dX2_flipBack_39 : decode cX2_flipBack 39 = .ok (.aload_n 0, 1) := by decide +kernel
theorem dX2_flipBack_40 : decode cX2_flipBack 40 = .ok (.iload 7, 2) := by decide +kernel
theorem dX2_flipBack_42 : decode cX2_flipBack 42 = .ok (.iload 8, 2) := by decide +kernel
theorem dX2_flipBack_44 : decode cX2_flipBack 44 = .ok (.invokevirtual 51, 3) := by decide +kernel
theorem dX2_flipBack_47 : decode cX2_flipBack 47 = .ok (.ifCond .ne 6, 3) := by decide +kernel
theorem dX2_flipBack_50 : decode cX2_flipBack 50 = .ok (.goto 41, 3) := by decide +kernel
theorem dX2_flipBack_53 : decode cX2_flipBack 53 = .ok (.iconst 1, 1) := by decide +kernel
theorem dX2_flipBack_54 : decode cX2_flipBack 54 = .ok (.iload 7, 2) := by decide +kernel
theorem dX2_flipBack_56 : decode cX2_flipBack 56 = .ok (.ishl, 1) := by decide +kernel
theorem dX2_flipBack_57 : decode cX2_flipBack 57 = .ok (.iconst 1, 1) := by decide +kernel
theorem dX2_flipBack_58 : decode cX2_flipBack 58 = .ok (.iload 8, 2) := by decide +kernel
theorem dX2_flipBack_60 : decode cX2_flipBack 60 = .ok (.ishl, 1) := by decide +kernel
theorem dX2_flipBack_61 : decode cX2_flipBack 61 = .ok (.ior, 1) := by decide +kernel
theorem dX2_flipBack_62 : decode cX2_flipBack 62 = .ok (.istore 9, 2) := by decide +kernel
theorem dX2_flipBack_64 : decode cX2_flipBack 64 = .ok (.iload 5, 2) := by decide +kernel
theorem dX2_flipBack_66 : decode cX2_flipBack 66 = .ok (.iload 9, 2) := by decide +kernel
theorem dX2_flipBack_68 : decode cX2_flipBack 68 = .ok (.iand, 1) := by decide +kernel
theorem dX2_flipBack_69 : decode cX2_flipBack 69 = .ok (.iload 9, 2) := by decide +kernel
theorem dX2_flipBack_71 : decode cX2_flipBack 71 = .ok (.if_icmp .ne 17, 3) := by decide +kernel
theorem dX2_flipBack_74 : decode cX2_flipBack 74 = .ok (.iload 5, 2) := by decide +kernel
theorem dX2_flipBack_76 : decode cX2_flipBack 76 = .ok (.iload 9, 2) := by decide +kernel
theorem dX2_flipBack_78 : decode cX2_flipBack 78 = .ok (.ixor, 1) := by decide +kernel
theorem dX2_flipBack_79 : decode cX2_flipBack 79 = .ok (.istore 5, 2) := by decide +kernel
theorem dX2_flipBack_81 : decode cX2_flipBack 81 = .ok (.lload_n 3, 1) := by decide +kernel
theorem dX2_flipBack_82 : decode cX2_flipBack 82 = .ok (.lconst 1, 1) := by decide +kernel
theorem dX2_flipBack_83 : decode cX2_flipBack 83 = .ok (.iload 6, 2) := by decide +kernel
theorem dX2_flipBack_85 : decode cX2_flipBack 85 = .ok (.lshl, 1) := by decide +kernel
theorem dX2_flipBack_86 : decode cX2_flipBack 86 = .ok (.lxor, 1) := by decide +kernel
theorem dX2_flipBack_87 : decode cX2_flipBack 87 = .ok (.lstore_n 3, 1) := by decide +kernel
theorem dX2_flipBack_88 : decode cX2_flipBack 88 = .ok (.iinc 6 1, 3) := by decide +kernel
theorem dX2_flipBack_91 : decode cX2_flipBack 91 = .ok (.iinc 8 1, 3) := by decide +kernel
theorem dX2_flipBack_94 : decode cX2_flipBack 94 = .ok (.goto (-64), 3) := by decide +kernel
theorem dX2_flipBack_97 : decode cX2_flipBack 97 = .ok (.iinc 7 1, 3) := by decide +kernel
theorem dX2_flipBack_100 : decode cX2_flipBack 100 = .ok (.goto (-85), 3) := by decide +kernel
theorem dX2_flipBack_103 : decode cX2_flipBack 103 = .ok (.lload_n 3, 1) := by decide +kernel
theorem dX2_flipBack_104 : decode cX2_flipBack 104 = .ok (.lreturn, 1) := by decide +kernel
theorem dX2_addTo_0 : decode cX2_addTo 0 = .ok (.ldc2_w 77, 3) := by decide +kernel
theorem dX2_addTo_3 : decode cX2_addTo 3 = .ok (.lload_n 1, 1) := by decide +kernel
theorem dX2_addTo_4 : decode cX2_addTo 4 = .ok (.lmul, 1) := by decide +kernel
theorem dX2_addTo_5 : decode cX2_addTo 5 = .ok (.aload_n 0, 1) := by decide +kernel
theorem dX2_addTo_6 : decode cX2_addTo 6 = .ok (.getfield 9, 3) := by decide +kernel
theorem dX2_addTo_9 : decode cX2_addTo 9 = .ok (.i2l, 1) := by decide +kernel
theorem dX2_addTo_10 : decode cX2_addTo 10 = .ok (.ladd, 1) := by decide +kernel
theorem dX2_addTo_11 : decode cX2_addTo 11 = .ok (.lstore_n 3, 1) := by decide +kernel
theorem dX2_addTo_12 : decode cX2_addTo 12 = .ok (.iconst 0, 1) := by decide +kernel
theorem dX2_addTo_13 : decode cX2_addTo 13 = .ok (.istore 5, 2) := by decide +kernel
theorem dX2_addTo_15 : decode cX2_addTo 15 = .ok (.iload 5, 2) := by decide +kernel
theorem dX2_addTo_17 : decode cX2_addTo 17 = .ok (.aload_n 0, 1) := by decide +kernel
theorem dX2_addTo_18 : decode cX2_addTo 18 = .ok (.getfield 9, 3) := by decide +kernel
theorem dX2_addTo_21 : decode cX2_addTo 21 = .ok (.if_icmp .ge 24, 3) := by decide +kernel
theorem dX2_addTo_24 : decode cX2_addTo 24 = .ok (.ldc2_w 77, 3) := by decide +kernel
theorem dX2_addTo_27 : decode cX2_addTo 27 = .ok (.lload_n 3, 1) := by decide +kernel
theorem dX2_addTo_28 : decode cX2_addTo 28 = .ok (.lmul, 1) := by decide +kernel
theorem dX2_addTo_29 : decode cX2_addTo 29 = .ok (.aload_n 0, 1) := by decide +kernel
theorem dX2_addTo_30 : decode cX2_addTo 30 = .ok (.getfield 15, 3) := by decide +kernel
theorem dX2_addTo_33 : decode cX2_addTo 33 = .ok (.iload 5, 2) := by decide +kernel
theorem dX2_addTo_35 : decode cX2_addTo 35 = .ok (.iaload, 1) := by decide +kernel
theorem dX2_addTo_36 : decode cX2_addTo 36 = .ok (.i2l, 1) := by decide +kernel
theorem dX2_addTo_37 : decode cX2_addTo 37 = .ok (.ladd, 1) := by decide +kernel
theorem dX2_addTo_38 : decode cX2_addTo 38 = .ok (.lstore_n 3, 1) := by decide +kernel
theorem dX2_addTo_39 : decode cX2_addTo 39 = .ok (.iinc 5 1, 3) := by decide +kernel
theorem dX2_addTo_42 : decode cX2_addTo 42 = .ok (.goto (-27), 3) := by decide +kernel
theorem dX2_addTo_45 : decode cX2_addTo 45 = .ok (.lload_n 3, 1) := by decide +kernel
theorem dX2_addTo_46 : decode cX2_addTo 46 = .ok (.lreturn, 1) := by decide +kernel
theorem dX3_init_0 : decode cX3_init 0 = .ok (.aload_n 0, 1) := by decide +kernel
theorem dX3_init_1 : decode cX3_init 1 = .ok (.invokespecial 3, 3) := by decide +kernel
theorem dX3_init_4 : decode cX3_init 4 = .ok (.aload_n 0, 1) := by decide +kernel
theorem dX3_init_5 : decode cX3_init 5 = .ok (.bipush 10, 2) := by decide +kernel
theorem dX3_init_7 : decode cX3_init 7 = .ok (.bipush 10, 2) := by decide +kernel
theorem dX3_init_9 : decode cX3_init 9 = .ok (.multianewarray 9 2, 4) := by decide +kernel
theorem dX3_init_13 : decode cX3_init 13 = .ok (.putfield 11, 3) := by decide +kernel
theorem dX3_init_16 : decode cX3_init 16 = .ok (.aload_n 0, 1) := by decide +kernel
theorem dX3_init_17 : decode cX3_init 17 = .ok (.bipush 10, 2) := by decide +kernel
theorem dX3_init_19 : decode cX3_init 19 = .ok (.bipush 10, 2) := by decide +kernel
theorem dX3_init_21 : decode cX3_init 21 = .ok (.multianewarray 16 2, 4) := by decide +kernel
theorem dX3_init_25 : decode cX3_init 25 = .ok (.putfield 18, 3) := by decide +kernel
theorem dX3_init_28 : decode cX3_init 28 = .ok (.aload_n 0, 1) := by decide +kernel
theorem dX3_init_29 : decode cX3_init 29 = .ok (.bipush 10, 2) := by decide +kernel
theorem dX3_init_31 : decode cX3_init 31 = .ok (.bipush 10, 2) := by decide +kernel
theorem dX3_init_33 : decode cX3_init 33 = .ok (.multianewarray 16 2, 4) := by decide +kernel
theorem dX3_init_37 : decode cX3_init 37 = .ok (.putfield 21, 3) := by decide +kernel
theorem dX3_init_40 : decode cX3_init 40 = .ok (.aload_n 0, 1) := by decide +kernel
theorem dX3_init_41 : decode cX3_init 41 = .ok (.bipush 11, 2) := by decide +kernel
theorem dX3_init_43 : decode cX3_init 43 = .ok (.newarray .long, 2) := by decide +kernel
theorem dX3_init_45 : decode cX3_init 45 = .ok (.putfield 24, 3) := by decide +kernel
theorem dX3_init_48 : decode cX3_init 48 = .ok (.aload_n 0, 1) := by decide +kernel
theorem dX3_init_49 : decode cX3_init 49 = .ok (.bipush 11, 2) := by decide +kernel
theorem dX3_init_51 : decode cX3_init 51 = .ok (.newarray .long, 2) := by decide +kernel
theorem dX3_init_53 : decode cX3_init 53 = .ok (.putfield 28, 3) := by decide +kernel
theorem dX3_init_56 : decode cX3_init 56 = .ok (.return_, 1) := by decide +kernel
theorem dX3_read_0 : decode cX3_read 0 = .ok (.aload_n 0, 1) := by decide +kernel
theorem dX3_read_1 : decode cX3_read 1 = .ok (.aload_n 1, 1) := by decide +kernel
theorem dX3_read_2 : decode cX3_read 2 = .ok (.getfield 31, 3) := by decide +kernel
theorem dX3_read_5 : decode cX3_read 5 = .ok (.putfield 37, 3) := by decide +kernel
theorem dX3_read_8 : decode cX3_read 8 = .ok (.aload_n 0, 1) := by decide +kernel
theorem dX3_read_9 : decode cX3_read 9 = .ok (.aload_n 1, 1) := by decide +kernel
theorem dX3_read_10 : decode cX3_read 10 = .ok (.iload_n 2, 1) := by decide +kernel
theorem dX3_read_11 : decode cX3_read 11 = .ok (.invokevirtual 38, 3) := by decide +kernel
theorem dX3_read_14 : decode cX3_read 14 = .ok (.aload_n 0, 1) := by decide +kernel
theorem dX3_read_15 : decode cX3_read 15 = .ok (.invokevirtual 42, 3) := by decide +kernel
theorem dX3_read_18 : decode cX3_read 18 = .ok (.return_, 1) := by decide +kernel
theorem dX3_countAbove_0 : decode cX3_countAbove 0 = .ok (.aload_n 0, 1) := by decide +kernel
theorem dX3_countAbove_1 : decode cX3_countAbove 1 = .ok (.iload_n 1, 1) := by decide +kernel
theorem dX3_countAbove_2 : decode cX3_countAbove 2 = .ok (.invokevirtual 45, 3) := by decide +kernel
theorem dX3_countAbove_5 : decode cX3_countAbove 5 = .ok (.iconst 0, 1) := by decide +kernel
theorem dX3_countAbove_6 : decode cX3_countAbove 6 = .ok (.istore_n 2, 1) := by decide +kernel
theorem dX3_countAbove_7 : decode cX3_countAbove 7 = .ok (.iconst 0, 1) := by decide +kernel
theorem dX3_countAbove_8 : decode cX3_countAbove 8 = .ok (.istore_n 3, 1) := by decide +kernel
theorem dX3_countAbove_9 : decode cX3_countAbove 9 = .ok (.aload_n 0, 1) := by decide +kernel
theorem dX3_countAbove_10 : decode cX3_countAbove 10 = .ok (.getfield 37, 3) := by decide +kernel
theorem dX3_countAbove_13 : decode cX3_countAbove 13 = .ok (.istore 4, 2) := by decide +kernel
theorem dX3_countAbove_15 : decode cX3_countAbove 15 = .ok (.iload 4, 2) := by decide +kernel
theorem dX3_countAbove_17 : decode cX3_countAbove 17 = .ok (.ifCond .lt 48, 3) := by decide +kernel
theorem dX3_countAbove_20 : decode cX3_countAbove 20 = .ok (.aload_n 0, 1) := by decide +kernel
theorem dX3_countAbove_21 : decode cX3_countAbove 21 = .ok (.getfield 28, 3) := by decide +kernel
theorem dX3_countAbove_24 : decode cX3_countAbove 24 = .ok (.iload 4, 2) := by decide +kernel
theorem dX3_countAbove_26 : decode cX3_countAbove 26 = .ok (.laload, 1) := by decide +kernel
theorem dX3_countAbove_27 : decode cX3_countAbove 27 = .ok (.invokestatic 49, 3) := by decide +kernel
theorem dX3_countAbove_30 : decode cX3_countAbove 30 = .ok (.istore 5, 2) := by decide +kernel
theorem dX3_countAbove_32 : decode cX3_countAbove 32 = .ok (.iload 5, 2) := by decide +kernel
theorem dX3_countAbove_34 : decode cX3_countAbove 34 = .ok (.ifCond .eq 13, 3) := by decide +kernel
theorem dX3_countAbove_37 : decode cX3_countAbove 37 = .ok (.iload 5, 2) := by decide +kernel
theorem dX3_countAbove_39 : decode cX3_countAbove 39 = .ok (.iload_n 3, 1) := by decide +kernel
theorem dX3_countAbove_40 : decode cX3_countAbove 40 = .ok (.ineg, 1) := by decide +kernel
theorem dX3_countAbove_41 : decode cX3_countAbove 41 = .ok (.if_icmp .ne 6, 3) := by decide +kernel
theorem dX3_countAbove_44 : decode cX3_countAbove 44 = .ok (.iinc 2 1, 3) := by decide +kernel
theorem dX3_countAbove_47 : decode cX3_countAbove 47 = .ok (.iload 5, 2) := by decide +kernel
theorem dX3_countAbove_49 : decode cX3_countAbove 49 = .ok (.ifCond .eq 8, 3) := by decide +kernel
theorem dX3_countAbove_52 : decode cX3_countAbove 52 = .ok (.iload 5, 2) := by decide +kernel
theorem dX3_countAbove_54 : decode cX3_countAbove 54 = .ok (.goto 4, 3) := by decide +kernel
theorem dX3_countAbove_57 : decode cX3_countAbove 57 = .ok (.iload_n 3, 1) := by decide +kernel
theorem dX3_countAbove_58 : decode cX3_countAbove 58 = .ok (.istore_n 3, 1) := by decide +kernel
theorem dX3_countAbove_59 : decode cX3_countAbove 59 = .ok (.iinc 4 (-1), 3) := by decide +kernel
theorem dX3_countAbove_62 : decode cX3_countAbove 62 = .ok (.goto (-47), 3) := by decide +kernel
theorem dX3_countAbove_65 : decode cX3_countAbove 65 = .ok (.iload_n 2, 1) := by decide +kernel
theorem dX3_countAbove_66 : decode cX3_countAbove 66 = .ok (.ireturn, 1) := by decide +kernel
theorem dX3_countAt_0 : decode cX3_countAt 0 = .ok (.aload_n 0, 1) := by decide +kernel
theorem dX3_countAt_1 : decode cX3_countAt 1 = .ok (.iload_n 1, 1) := by decide +kernel
theorem dX3_countAt_2 : decode cX3_countAt 2 = .ok (.invokevirtual 45, 3) := by decide +kernel
theorem dX3_countAt_5 : decode cX3_countAt 5 = .ok (.iconst 0, 1) := by decide +kernel
theorem dX3_countAt_6 : decode cX3_countAt 6 = .ok (.istore_n 2, 1) := by decide +kernel
theorem dX3_countAt_7 : decode cX3_countAt 7 = .ok (.iload_n 2, 1) := by decide +kernel
theorem dX3_countAt_8 : decode cX3_countAt 8 = .ok (.aload_n 0, 1) := by decide +kernel
theorem dX3_countAt_9 : decode cX3_countAt 9 = .ok (.getfield 37, 3) := by decide +kernel
theorem dX3_countAt_12 : decode cX3_countAt 12 = .ok (.if_icmp .ge 20, 3) := by decide +kernel
theorem dX3_countAt_15 : decode cX3_countAt 15 = .ok (.aload_n 0, 1) := by decide +kernel
theorem dX3_countAt_16 : decode cX3_countAt 16 = .ok (.getfield 28, 3) := by decide +kernel
theorem dX3_countAt_19 : decode cX3_countAt 19 = .ok (.iload_n 2, 1) := by decide +kernel
theorem dX3_countAt_20 : decode cX3_countAt 20 = .ok (.laload, 1) := by decide +kernel
theorem dX3_countAt_21 : decode cX3_countAt 21 = .ok (.lconst 0, 1) := by decide +kernel
theorem dX3_countAt_22 : decode cX3_countAt 22 = .ok (.lcmp, 1) := by decide +kernel
theorem dX3_countAt_23 : decode cX3_countAt 23 = .ok (.ifCond .ne 9, 3) := by decide +kernel
theorem dX3_countAt_26 : decode cX3_countAt 26 = .ok (.iinc 2 1, 3) := by decide +kernel
theorem dX3_countAt_29 : decode cX3_countAt 29 = .ok (.goto (-22), 3) := by decide +kernel
theorem dX3_countAt_32 : decode cX3_countAt 32 = .ok (.iload_n 2, 1) := by decide +kernel
theorem dX3_countAt_33 : decode cX3_countAt 33 = .ok (.ireturn, 1) := by decide +kernel
theorem dX3_countBelow_0 : decode cX3_countBelow 0 = .ok (.aload_n 0, 1) := by decide +kernel
theorem dX3_countBelow_1 : decode cX3_countBelow 1 = .ok (.getfield 37, 3) := by decide +kernel
theorem dX3_countBelow_4 : decode cX3_countBelow 4 = .ok (.aload_n 0, 1) := by decide +kernel
theorem dX3_countBelow_5 : decode cX3_countBelow 5 = .ok (.iload_n 1, 1) := by decide +kernel
theorem dX3_countBelow_6 : decode cX3_countBelow 6 = .ok (.invokevirtual 55, 3) := by decide +kernel
theorem dX3_countBelow_9 : decode cX3_countBelow 9 = .ok (.isub, 1) := by decide +kernel
theorem dX3_countBelow_10 : decode cX3_countBelow 10 = .ok (.aload_n 0, 1) := by decide +kernel
theorem dX3_countBelow_11 : decode cX3_countBelow 11 = .ok (.iload_n 1, 1) := by decide +kernel
theorem dX3_countBelow_12 : decode cX3_countBelow 12 = .ok (.invokevirtual 59, 3) := by decide +kernel
theorem dX3_countBelow_15 : decode cX3_countBelow 15 = .ok (.isub, 1) := by decide +kernel
theorem dX3_countBelow_16 : decode cX3_countBelow 16 = .ok (.ireturn, 1) := by decide +kernel
theorem dX3_width_0 : decode cX3_width 0 = .ok (.iconst 0, 1) := by decide +kernel
theorem dX3_width_1 : decode cX3_width 1 = .ok (.istore_n 1, 1) := by decide +kernel
theorem dX3_width_2 : decode cX3_width 2 = .ok (.iload_n 1, 1) := by decide +kernel
theorem dX3_width_3 : decode cX3_width 3 = .ok (.bipush 18, 2) := by decide +kernel
theorem dX3_width_5 : decode cX3_width 5 = .ok (.if_icmp .ge 28, 3) := by decide +kernel
theorem dX3_width_8 : decode cX3_width 8 = .ok (.aload_n 0, 1) := by decide +kernel
theorem dX3_width_9 : decode cX3_width 9 = .ok (.iload_n 1, 1) := by decide +kernel
theorem dX3_width_10 : decode cX3_width 10 = .ok (.invokevirtual 55, 3) := by decide +kernel
theorem dX3_width_13 : decode cX3_width 13 = .ok (.ifCond .ne 14, 3) := by decide +kernel
theorem dX3_width_16 : decode cX3_width 16 = .ok (.aload_n 0, 1) := by decide +kernel
theorem dX3_width_17 : decode cX3_width 17 = .ok (.iload_n 1, 1) := by decide +kernel
theorem dX3_width_18 : decode cX3_width 18 = .ok (.ineg, 1) := by decide +kernel
theorem dX3_width_19 : decode cX3_width 19 = .ok (.invokevirtual 62, 3) := by decide +kernel
theorem dX3_width_22 : decode cX3_width 22 = .ok (.ifCond .ne 5, 3) := by decide +kernel
theorem dX3_width_25 : decode cX3_width 25 = .ok (.iload_n 1, 1) := by decide +kernel
theorem dX3_width_26 : decode cX3_width 26 = .ok (.ireturn, 1) := by decide +kernel
theorem dX3_width_27 : decode cX3_width 27 = .ok (.iinc 1 1, 3) := by decide +kernel
theorem dX3_width_30 : decode cX3_width 30 = .ok (.goto (-28), 3) := by decide +kernel
theorem dX3_width_33 : decode cX3_width 33 = .ok (.bipush 18, 2) := by decide +kernel
theorem dX3_width_35 : decode cX3_width 35 = .ok (.ireturn, 1) := by decide +kernel
theorem dX3_fillTable_0 : decode cX3_fillTable 0 = .ok (.iconst 0, 1) := by decide +kernel
theorem dX3_fillTable_1 : decode cX3_fillTable 1 = .ok (.istore_n 3, 1) := by decide +kernel
theorem dX3_fillTable_2 : decode cX3_fillTable 2 = .ok (.iconst 0, 1) := by decide +kernel
theorem dX3_fillTable_3 : decode cX3_fillTable 3 = .ok (.istore 4, 2) := by decide +kernel
theorem dX3_fillTable_5 : decode cX3_fillTable 5 = .ok (.iload 4, 2) := by decide +kernel
theorem dX3_fillTable_7 : decode cX3_fillTable 7 = .ok (.aload_n 0, 1) := by decide +kernel
theorem dX3_fillTable_8 : decode cX3_fillTable 8 = .ok (.getfield 37, 3) := by decide +kernel
theorem dX3_fillTable_11 : decode cX3_fillTable 11 = .ok (.if_icmp .ge 104, 3) := by decide +kernel
theorem dX3_fillTable_14 : decode cX3_fillTable 14 = .ok (.aload_n 0, 1) := by decide +kernel
theorem dX3_fillTable_15 : decode cX3_fillTable 15 = .ok (.getfield 11, 3) := by decide +kernel
theorem dX3_fillTable_18 : decode cX3_fillTable 18 = .ok (.iload 4, 2) := by decide +kernel
theorem dX3_fillTable_20 : decode cX3_fillTable 20 = .ok (.aaload, 1) := by decide +kernel
theorem dX3_fillTable_21 : decode cX3_fillTable 21 = .ok (.iload 4, 2) := by decide +kernel
theorem dX3_fillTable_23 : decode cX3_fillTable 23 = .ok (.iconst 0, 1) := by decide +kernel
theorem dX3_fillTable_24 : decode cX3_fillTable 24 = .ok (.iastore, 1) := by decide +kernel
theorem dX3_fillTable_25 : decode cX3_fillTable 25 = .ok (.iload 4, 2) := by decide +kernel
theorem dX3_fillTable_27 : decode cX3_fillTable 27 = .ok (.iconst 1, 1) := by decide +kernel
theorem dX3_fillTable_28 : decode cX3_fillTable 28 = .ok (.iadd, 1) := by decide +kernel
theorem dX3_fillTable_29 : decode cX3_fillTable 29 = .ok (.istore 5, 2) := by decide +kernel
theorem dX3_fillTable_31 : decode cX3_fillTable 31 = .ok (.iload 5, 2) := by decide +kernel
theorem dX3_fillTable_33 : decode cX3_fillTable 33 = .ok (.aload_n 0, 1) := by decide +kernel
theorem dX3_fillTable_34 : decode cX3_fillTable 34 = .ok (.getfield 37, 3) := by decide +kernel
theorem dX3_fillTable_37 : decode cX3_fillTable 37 = .ok (.if_icmp .ge 72, 3) := by decide +kernel
theorem dX3_fillTable_40 : decode cX3_fillTable 40 = .ok (.iconst 0, 1) := by decide +kernel
theorem dX3_fillTable_41 : decode cX3_fillTable 41 = .ok (.istore 6, 2) := by decide +kernel
theorem dX3_fillTable_43 : decode cX3_fillTable 43 = .ok (.aload_n 1, 1) := by decide +kernel
theorem dX3_fillTable_44 : decode cX3_fillTable 44 = .ok (.iload 4, 2) := by decide +kernel
theorem dX3_fillTable_46 : decode cX3_fillTable 46 = .ok (.iload 5, 2) := by decide +kernel
theorem dX3_fillTable_48 : decode cX3_fillTable 48 = .ok (.invokevirtual 65, 3) := by decide +kernel
theorem dX3_fillTable_51 : decode cX3_fillTable 51 = .ok (.ifCond .eq 28, 3) := by decide +kernel
theorem dX3_fillTable_54 : decode cX3_fillTable 54 = .ok (.iload_n 3, 1) := by decide +kernel
theorem dX3_fillTable_55 : decode cX3_fillTable 55 = .ok (.bipush 31, 2) := by decide +kernel
theorem dX3_fillTable_57 : decode cX3_fillTable 57 = .ok (.if_icmp .ge 16, 3) := by decide +kernel
theorem dX3_fillTable_60 : decode cX3_fillTable 60 = .ok (.iload_n 2, 1) := by decide +kernel
theorem dX3_fillTable_61 : decode cX3_fillTable 61 = .ok (.iload_n 3, 1) := by decide +kernel
theorem dX3_fillTable_62 : decode cX3_fillTable 62 = .ok (.ishr, 1) := by decide +kernel
theorem dX3_fillTable_63 : decode cX3_fillTable 63 = .ok (.iconst 1, 1) := by decide +kernel
theorem dX3_fillTable_64 : decode cX3_fillTable 64 = .ok (.iand, 1) := by decide +kernel
theorem dX3_fillTable_65 : decode cX3_fillTable 65 = .ok (.iconst 1, 1) := by decide +kernel
theorem dX3_fillTable_66 : decode cX3_fillTable 66 = .ok (.if_icmp .ne 7, 3) := by decide +kernel
theorem dX3_fillTable_69 : decode cX3_fillTable 69 = .ok (.iconst (-1), 1) := by decide +kernel
theorem dX3_fillTable_70 : decode cX3_fillTable 70 = .ok (.goto 4, 3) := by decide +kernel
theorem dX3_fillTable_73 : decode cX3_fillTable 73 = .ok (.iconst 1, 1) := by decide +kernel
theorem dX3_fillTable_74 : decode cX3_fillTable 74 = .ok (.istore 6, 2) := by decide +kernel
theorem dX3_fillTable_76 : decode cX3_fillTable 76 = .ok (.iinc 3 1, 3) := by decide +kernel
theorem dX3_fillTable_79 : decode cX3_fillTable 79 = .ok (.aload_n 0, 1) := by decide +kernel
theorem dX3_fillTable_80 : decode cX3_fillTable 80 = .ok (.getfield 11, 3) := by decide +kernel
theorem dX3_fillTable_83 : decode cX3_fillTable 83 = .ok (.iload 4, 2) := by decide +kernel
theorem dX3_fillTable_85 : decode cX3_fillTable 85 = .ok (.aaload, 1) := by decide +kernel
theorem dX3_fillTable_86 : decode cX3_fillTable 86 = .ok (.iload 5, 2) := by decide +kernel
theorem dX3_fillTable_88 : decode cX3_fillTable 88 = .ok (.iload 6, 2) := by decide +kernel
theorem dX3_fillTable_90 : decode cX3_fillTable 90 = .ok (.iastore, 1) := by decide +kernel
theorem dX3_fillTable_91 : decode cX3_fillTable 91 = .ok (.aload_n 0, 1) := by decide +kernel
theorem dX3_fillTable_92 : decode cX3_fillTable 92 = .ok (.getfield 11, 3) := by decide +kernel
theorem dX3_fillTable_95 : decode cX3_fillTable 95 = .ok (.iload 5, 2) := by decide +kernel
theorem dX3_fillTable_97 : decode cX3_fillTable 97 = .ok (.aaload, 1) := by decide +kernel
theorem dX3_fillTable_98 : decode cX3_fillTable 98 = .ok (.iload 4, 2) := by decide +kernel
theorem dX3_fillTable_100 : decode cX3_fillTable 100 = .ok (.iload 6, 2) := by decide +kernel
theorem dX3_fillTable_102 : decode cX3_fillTable 102 = .ok (.iastore, 1) := by decide +kernel
theorem dX3_fillTable_103 : decode cX3_fillTable 103 = .ok (.iinc 5 1, 3) := by decide +kernel
theorem dX3_fillTable_106 : decode cX3_fillTable 106 = .ok (.goto (-75), 3) := by decide +kernel
theorem dX3_fillTable_109 : decode cX3_fillTable 109 = .ok (.iinc 4 1, 3) := by decide +kernel
theorem dX3_fillTable_112 : decode cX3_fillTable 112 = .ok (.goto (-107), 3) := by decide +kernel
theorem dX3_fillTable_115 : decode cX3_fillTable 115 = .ok (.return_, 1) := by decide +kernel
theorem dX3_findPolynomial_0 : decode cX3_findPolynomial 0 = .ok (.aload_n 0, 1) := by decide +kernel
theorem dX3_findPolynomial_1 : decode cX3_findPolynomial 1 = .ok (.getfield 24, 3) := by decide +kernel
theorem dX3_findPolynomial_4 : decode cX3_findPolynomial 4 = .ok (.aload_n 0, 1) := by decide +kernel
theorem dX3_findPolynomial_5 : decode cX3_findPolynomial 5 = .ok (.getfield 37, 3) := by decide +kernel
theorem dX3_findPolynomial_8 : decode cX3_findPolynomial 8 = .ok (.lconst 1, 1) := by decide +kernel
theorem dX3_findPolynomial_9 : decode cX3_findPolynomial 9 = .ok (.lastore, 1) := by decide +kernel
theorem dX3_findPolynomial_10 : decode cX3_findPolynomial 10 = .ok (.iconst 0, 1) := by decide +kernel
theorem dX3_findPolynomial_11 : decode cX3_findPolynomial 11 = .ok (.istore_n 1, 1) := by decide +kernel
theorem dX3_findPolynomial_12 : decode cX3_findPolynomial 12 = .ok (.iload_n 1, 1) := by decide +kernel
theorem dX3_findPolynomial_13 : decode cX3_findPolynomial 13 = .ok (.aload_n 0, 1) := by decide +kernel
theorem dX3_findPolynomial_14 : decode cX3_findPolynomial 14 = .ok (.getfield 37, 3) := by decide +kernel
theorem dX3_findPolynomial_17 : decode cX3_findPolynomial 17 = .ok (.if_icmp .ge 28, 3) := by decide +kernel
theorem dX3_findPolynomial_20 : decode cX3_findPolynomial 20 = .ok (.aload_n 0, 1) := by decide +kernel
theorem dX3_findPolynomial_21 : decode cX3_findPolynomial 21 = .ok (.getfield 18, 3) := by decide +kernel
theorem dX3_findPolynomial_24 : decode cX3_findPolynomial 24 = .ok (.iload_n 1, 1) := by decide +kernel
theorem dX3_findPolynomial_25 : decode cX3_findPolynomial 25 = .ok (.aaload, 1) := by decide +kernel
theorem dX3_findPolynomial_26 : decode cX3_findPolynomial 26 = .ok (.lconst 0, 1) := by decide +kernel
theorem dX3_findPolynomial_27 : decode cX3_findPolynomial 27 = .ok (.invokestatic 69, 3) := by decide +kernel
theorem dX3_findPolynomial_30 : decode cX3_findPolynomial 30 = .ok (.aload_n 0, 1) := by decide +kernel
theorem dX3_findPolynomial_31 : decode cX3_findPolynomial 31 = .ok (.getfield 18, 3) := by decide +kernel
theorem dX3_findPolynomial_34 : decode cX3_findPolynomial 34 = .ok (.iload_n 1, 1) := by decide +kernel
theorem dX3_findPolynomial_35 : decode cX3_findPolynomial 35 = .ok (.aaload, 1) := by decide +kernel
theorem dX3_findPolynomial_36 : decode cX3_findPolynomial 36 = .ok (.iload_n 1, 1) := by decide +kernel
theorem dX3_findPolynomial_37 : decode cX3_findPolynomial 37 = .ok (.lconst 1, 1) := by decide +kernel
theorem dX3_findPolynomial_38 : decode cX3_findPolynomial 38 = .ok (.lastore, 1) := by decide +kernel
theorem dX3_findPolynomial_39 : decode cX3_findPolynomial 39 = .ok (.iinc 1 1, 3) := by decide +kernel
theorem dX3_findPolynomial_42 : decode cX3_findPolynomial 42 = .ok (.goto (-30), 3) := by decide +kernel
theorem dX3_findPolynomial_45 : decode cX3_findPolynomial 45 = .ok (.iconst 1, 1) := by decide +kernel
theorem dX3_findPolynomial_46 : decode cX3_findPolynomial 46 = .ok (.istore_n 1, 1) := by decide +kernel
theorem dX3_findPolynomial_47 : decode cX3_findPolynomial 47 = .ok (.iload_n 1, 1) := by decide +kernel
theorem dX3_findPolynomial_48 : decode cX3_findPolynomial 48 = .ok (.aload_n 0, 1) := by decide +kernel
theorem dX3_findPolynomial_49 : decode cX3_findPolynomial 49 = .ok (.getfield 37, 3) := by decide +kernel
theorem dX3_findPolynomial_52 : decode cX3_findPolynomial 52 = .ok (.if_icmp .gt 89, 3) := by decide +kernel
theorem dX3_findPolynomial_55 : decode cX3_findPolynomial 55 = .ok (.aload_n 0, 1) := by decide +kernel
theorem dX3_findPolynomial_56 : decode cX3_findPolynomial 56 = .ok (.invokevirtual 75, 3) := by decide +kernel
theorem dX3_findPolynomial_59 : decode cX3_findPolynomial 59 = .ok (.lstore_n 2, 1) := by decide +kernel
theorem dX3_findPolynomial_60 : decode cX3_findPolynomial 60 = .ok (.lload_n 2, 1) := by decide +kernel
theorem dX3_findPolynomial_61 : decode cX3_findPolynomial 61 = .ok (.lneg, 1) := by decide +kernel
theorem dX3_findPolynomial_62 : decode cX3_findPolynomial 62 = .ok (.iload_n 1, 1) := by decide +kernel
theorem dX3_findPolynomial_63 : decode cX3_findPolynomial 63 = .ok (.i2l, 1) := by decide +kernel
theorem dX3_findPolynomial_64 : decode cX3_findPolynomial 64 = .ok (.ldiv, 1) := by decide +kernel
theorem dX3_findPolynomial_65 : decode cX3_findPolynomial 65 = .ok (.lstore 4, 2) := by decide +kernel
theorem dX3_findPolynomial_67 : decode cX3_findPolynomial 67 = .ok (.aload_n 0, 1) := by decide +kernel
theorem dX3_findPolynomial_68 : decode cX3_findPolynomial 68 = .ok (.getfield 24, 3) := by decide +kernel
theorem dX3_findPolynomial_71 : decode cX3_findPolynomial 71 = .ok (.aload_n 0, 1) := by decide +kernel
theorem dX3_findPolynomial_72 : decode cX3_findPolynomial 72 = .ok (.getfield 37, 3) := by decide +kernel
theorem dX3_findPolynomial_75 : decode cX3_findPolynomial 75 = .ok (.iload_n 1, 1) := by decide +kernel
theorem dX3_findPolynomial_76 : decode cX3_findPolynomial 76 = .ok (.isub, 1) := by decide +kernel
theorem dX3_findPolynomial_77 : decode cX3_findPolynomial 77 = .ok (.lload 4, 2) := by decide +kernel
theorem dX3_findPolynomial_79 : decode cX3_findPolynomial 79 = .ok (.iload_n 1, 1) := by decide +kernel
theorem dX3_findPolynomial_80 : decode cX3_findPolynomial 80 = .ok (.lshl, 1) := by decide +kernel
theorem dX3_findPolynomial_81 : decode cX3_findPolynomial 81 = .ok (.lastore, 1) := by decide +kernel
theorem dX3_findPolynomial_82 : decode cX3_findPolynomial 82 = .ok (.iconst 0, 1) := by decide +kernel
theorem dX3_findPolynomial_83 : decode cX3_findPolynomial 83 = .ok (.istore 6, 2) := by decide +kernel
theorem dX3_findPolynomial_85 : decode cX3_findPolynomial 85 = .ok (.iload 6, 2) := by decide +kernel
theorem dX3_findPolynomial_87 : decode cX3_findPolynomial 87 = .ok (.aload_n 0, 1) := by decide +kernel
theorem dX3_findPolynomial_88 : decode cX3_findPolynomial 88 = .ok (.getfield 37, 3) := by decide +kernel
theorem dX3_findPolynomial_91 : decode cX3_findPolynomial 91 = .ok (.if_icmp .ge 24, 3) := by decide +kernel
theorem dX3_findPolynomial_94 : decode cX3_findPolynomial 94 = .ok (.aload_n 0, 1) := by decide +kernel
theorem dX3_findPolynomial_95 : decode cX3_findPolynomial 95 = .ok (.getfield 21, 3) := by decide +kernel
theorem dX3_findPolynomial_98 : decode cX3_findPolynomial 98 = .ok (.iload 6, 2) := by decide +kernel
theorem dX3_findPolynomial_100 : decode cX3_findPolynomial 100 = .ok (.aaload, 1) := by decide +kernel
theorem dX3_findPolynomial_101 : decode cX3_findPolynomial 101 = .ok (.iload 6, 2) := by decide +kernel
theorem dX3_findPolynomial_103 : decode cX3_findPolynomial 103 = .ok (.dup2, 1) := by decide +kernel
theorem dX3_findPolynomial_104 : decode cX3_findPolynomial 104 = .ok (.laload, 1) := by decide +kernel
theorem dX3_findPolynomial_105 : decode cX3_findPolynomial 105 = .ok (.lload 4, 2) := by decide +kernel
theorem dX3_findPolynomial_107 : decode cX3_findPolynomial 107 = .ok (.ladd, 1) := by decide +kernel
theorem dX3_findPolynomial_108 : decode cX3_findPolynomial 108 = .ok (.lastore, 1) := by decide +kernel
theorem dX3_findPolynomial_109 : decode cX3_findPolynomial 109 = .ok (.iinc 6 1, 3) := by decide +kernel
theorem dX3_findPolynomial_112 : decode cX3_findPolynomial 112 = .ok (.goto (-27), 3) := by decide +kernel
theorem dX3_findPolynomial_115 : decode cX3_findPolynomial 115 = .ok (.aload_n 0, 1) := by decide +kernel
theorem dX3_findPolynomial_116 : decode cX3_findPolynomial 116 = .ok (.getfield 18, 3) := by decide +kernel
theorem dX3_findPolynomial_119 : decode cX3_findPolynomial 119 = .ok (.astore 6, 2) := by decide +kernel
theorem dX3_findPolynomial_121 : decode cX3_findPolynomial 121 = .ok (.aload_n 0, 1) := by decide +kernel
theorem dX3_findPolynomial_122 : decode cX3_findPolynomial 122 = .ok (.aload_n 0, 1) := by decide +kernel
theorem dX3_findPolynomial_123 : decode cX3_findPolynomial 123 = .ok (.getfield 21, 3) := by decide +kernel
theorem dX3_findPolynomial_126 : decode cX3_findPolynomial 126 = .ok (.putfield 18, 3) := by decide +kernel
theorem dX3_findPolynomial_129 : decode cX3_findPolynomial 129 = .ok (.aload_n 0, 1) := by decide +kernel
theorem dX3_findPolynomial_130 : decode cX3_findPolynomial 130 = .ok (.aload 6, 2) := by decide +kernel
theorem dX3_findPolynomial_132 : decode cX3_findPolynomial 132 = .ok (.putfield 21, 3) := by decide +kernel
theorem dX3_findPolynomial_135 : decode cX3_findPolynomial 135 = .ok (.iinc 1 1, 3) := by decide +kernel
theorem dX3_findPolynomial_138 : decode cX3_findPolynomial 138 = .ok (.goto (-91), 3) := by decide +kernel
theorem dX3_findPolynomial_141 : decode cX3_findPolynomial 141 = .ok (.return_, 1) := by decide +kernel
theorem dX3_multiplyRows_0 : decode cX3_multiplyRows 0 = .ok (.lconst 0, 1) := by decide +kernel
theorem dX3_multiplyRows_1 : decode cX3_multiplyRows 1 = .ok (.lstore_n 1, 1) := by decide +kernel
theorem dX3_multiplyRows_2 : decode cX3_multiplyRows 2 = .ok (.iconst 0, 1) := by decide +kernel
theorem dX3_multiplyRows_3 : decode cX3_multiplyRows 3 = .ok (.istore_n 3, 1) := by decide +kernel
theorem dX3_multiplyRows_4 : decode cX3_multiplyRows 4 = .ok (.iload_n 3, 1) := by decide +kernel
theorem dX3_multiplyRows_5 : decode cX3_multiplyRows 5 = .ok (.aload_n 0, 1) := by decide +kernel
theorem dX3_multiplyRows_6 : decode cX3_multiplyRows 6 = .ok (.getfield 37, 3) := by decide +kernel
theorem dX3_multiplyRows_9 : decode cX3_multiplyRows 9 = .ok (.if_icmp .ge 86, 3) := by decide +kernel
theorem dX3_multiplyRows_12 : decode cX3_multiplyRows 12 = .ok (.aload_n 0, 1) := by decide +kernel
theorem dX3_multiplyRows_13 : decode cX3_multiplyRows 13 = .ok (.getfield 21, 3) := by decide +kernel
theorem dX3_multiplyRows_16 : decode cX3_multiplyRows 16 = .ok (.iload_n 3, 1) := by decide +kernel
theorem dX3_multiplyRows_17 : decode cX3_multiplyRows 17 = .ok (.aaload, 1) := by decide +kernel
theorem dX3_multiplyRows_18 : decode cX3_multiplyRows 18 = .ok (.lconst 0, 1) := by decide +kernel
theorem dX3_multiplyRows_19 : decode cX3_multiplyRows 19 = .ok (.invokestatic 69, 3) := by decide +kernel
theorem dX3_multiplyRows_22 : decode cX3_multiplyRows 22 = .ok (.iconst 0, 1) := by decide +kernel
theorem dX3_multiplyRows_23 : decode cX3_multiplyRows 23 = .ok (.istore 4, 2) := by decide +kernel
theorem dX3_multiplyRows_25 : decode cX3_multiplyRows 25 = .ok (.iload 4, 2) := by decide +kernel
theorem dX3_multiplyRows_27 : decode cX3_multiplyRows 27 = .ok (.aload_n 0, 1) := by decide +kernel
theorem dX3_multiplyRows_28 : decode cX3_multiplyRows 28 = .ok (.getfield 37, 3) := by decide +kernel
theorem dX3_multiplyRows_31 : decode cX3_multiplyRows 31 = .ok (.if_icmp .ge 47, 3) := by decide +kernel
theorem dX3_multiplyRows_34 : decode cX3_multiplyRows 34 = .ok (.aload_n 0, 1) := by decide +kernel
theorem dX3_multiplyRows_35 : decode cX3_multiplyRows 35 = .ok (.getfield 11, 3) := by decide +kernel
theorem dX3_multiplyRows_38 : decode cX3_multiplyRows 38 = .ok (.iload_n 3, 1) := by decide +kernel
theorem dX3_multiplyRows_39 : decode cX3_multiplyRows 39 = .ok (.aaload, 1) := by decide +kernel
theorem dX3_multiplyRows_40 : decode cX3_multiplyRows 40 = .ok (.iload 4, 2) := by decide +kernel
theorem dX3_multiplyRows_42 : decode cX3_multiplyRows 42 = .ok (.iaload, 1) := by decide +kernel
theorem dX3_multiplyRows_43 : decode cX3_multiplyRows 43 = .ok (.ifCond .eq 29, 3) := by decide +kernel
theorem dX3_multiplyRows_46 : decode cX3_multiplyRows 46 = .ok (.aload_n 0, 1) := by decide +kernel
theorem dX3_multiplyRows_47 : decode cX3_multiplyRows 47 = .ok (.aload_n 0, 1) := by decide +kernel
theorem dX3_multiplyRows_48 : decode cX3_multiplyRows 48 = .ok (.getfield 21, 3) := by decide +kernel
theorem dX3_multiplyRows_51 : decode cX3_multiplyRows 51 = .ok (.iload_n 3, 1) := by decide +kernel
theorem dX3_multiplyRows_52 : decode cX3_multiplyRows 52 = .ok (.aaload, 1) := by decide +kernel
theorem dX3_multiplyRows_53 : decode cX3_multiplyRows 53 = .ok (.aload_n 0, 1) := by decide +kernel
theorem dX3_multiplyRows_54 : decode cX3_multiplyRows 54 = .ok (.getfield 18, 3) := by decide +kernel
theorem dX3_multiplyRows_57 : decode cX3_multiplyRows 57 = .ok (.iload 4, 2) := by decide +kernel
theorem dX3_multiplyRows_59 : decode cX3_multiplyRows 59 = .ok (.aaload, 1) := by decide +kernel
theorem dX3_multiplyRows_60 : decode cX3_multiplyRows 60 = .ok (.aload_n 0, 1) := by decide +kernel
theorem dX3_multiplyRows_61 : decode cX3_multiplyRows 61 = .ok (.getfield 11, 3) := by decide +kernel
theorem dX3_multiplyRows_64 : decode cX3_multiplyRows 64 = .ok (.iload_n 3, 1) := by decide +kernel
theorem dX3_multiplyRows_65 : decode cX3_multiplyRows 65 = .ok (.aaload, 1) := by decide +kernel
theorem dX3_multiplyRows_66 : decode cX3_multiplyRows 66 = .ok (.iload 4, 2) := by decide +kernel
