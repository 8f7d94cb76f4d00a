def dOK (b : ByteArray) (l : List (Nat × Instr × Nat)) : Bool := l.all (fun q => decide (decode b q.1 = .ok (q.2.1, q.2.2)))
theorem dAt {b : ByteArray} {l : List (Nat × Instr × Nat)} (h : dOK b l = true) (k : Nat) {pc n : Nat} {i : Instr} (hk : l[k]? = some (pc, i, n)) : decode b pc = .ok (i, n) := by
  have h1 := List.all_eq_true.mp h _ (List.mem_of_getElem? hk)
  simpa using h1
def ilX0_init_0 : List (Nat × Instr × Nat) := [(0, .aload_n 0, 1), (1, .invokespecial 5, 3), (4, .aload_n 0, 1), (5, .bipush 22, 2), (7, .newarray .int, 2), (9, .putfield 11, 3), (12, .aload_n 0, 1), (13, .bipush 22, 2), (15, .newarray .int, 2), (17, .putfield 15, 3), (20, .aload_n 0, 1), (21, .bipush 22, 2), (23, .newarray .int, 2), (25, .putfield 18, 3), (28, .return_, 1)]
theorem dlX0_init_0 : dOK cX0_init ilX0_init_0 = true := by decide +kernel
theorem dX0_init_0 : decode cX0_init 0 = .ok (.aload_n 0, 1) := dAt dlX0_init_0 0 rfl
theorem dX0_init_1 : decode cX0_init 1 = .ok (.invokespecial 5, 3) := dAt dlX0_init_0 1 rfl
theorem dX0_init_4 : decode cX0_init 4 = .ok (.aload_n 0, 1) := dAt dlX0_init_0 2 rfl
theorem dX0_init_5 : decode cX0_init 5 = .ok (.bipush 22, 2) := dAt dlX0_init_0 3 rfl
theorem dX0_init_7 : decode cX0_init 7 = .ok (.newarray .int, 2) := dAt dlX0_init_0 4 rfl
theorem dX0_init_9 : decode cX0_init 9 = .ok (.putfield 11, 3) := dAt dlX0_init_0 5 rfl
theorem dX0_init_12 : decode cX0_init 12 = .ok (.aload_n 0, 1) := dAt dlX0_init_0 6 rfl
theorem dX0_init_13 : decode cX0_init 13 = .ok (.bipush 22, 2) := dAt dlX0_init_0 7 rfl
theorem dX0_init_15 : decode cX0_init 15 = .ok (.newarray .int, 2) := dAt dlX0_init_0 8 rfl
theorem dX0_init_17 : decode cX0_init 17 = .ok (.putfield 15, 3) := dAt dlX0_init_0 9 rfl
theorem dX0_init_20 : decode cX0_init 20 = .ok (.aload_n 0, 1) := dAt dlX0_init_0 10 rfl
theorem dX0_init_21 : decode cX0_init 21 = .ok (.bipush 22, 2) := dAt dlX0_init_0 11 rfl
theorem dX0_init_23 : decode cX0_init 23 = .ok (.newarray .int, 2) := dAt dlX0_init_0 12 rfl
theorem dX0_init_25 : decode cX0_init 25 = .ok (.putfield 18, 3) := dAt dlX0_init_0 13 rfl
theorem dX0_init_28 : decode cX0_init 28 = .ok (.return_, 1) := dAt dlX0_init_0 14 rfl
def ilX0_most_0 : List (Nat × Instr × Nat) := [(0, .aload_n 0, 1), (1, .aload_n 1, 1), (2, .iload_n 2, 1), (3, .iload_n 3, 1), (4, .invokevirtual 21, 3), (7, .iconst 0, 1), (8, .istore 4, 2), (10, .iload 4, 2), (12, .aload_n 1, 1), (13, .getfield 25, 3), (16, .if_icmp .ge 20, 3), (19, .aload_n 0, 1), (20, .invokevirtual 31, 3), (23, .ifCond .eq 13, 3), (26, .aload_n 0, 1), (27, .invokevirtual 35, 3), (30, .iinc 4 1, 3), (33, .goto (-23), 3), (36, .iload 4, 2), (38, .ireturn, 1)]
theorem dlX0_most_0 : dOK cX0_most ilX0_most_0 = true := by decide +kernel
theorem dX0_most_0 : decode cX0_most 0 = .ok (.aload_n 0, 1) := dAt dlX0_most_0 0 rfl
theorem dX0_most_1 : decode cX0_most 1 = .ok (.aload_n 1, 1) := dAt dlX0_most_0 1 rfl
theorem dX0_most_2 : decode cX0_most 2 = .ok (.iload_n 2, 1) := dAt dlX0_most_0 2 rfl
theorem dX0_most_3 : decode cX0_most 3 = .ok (.iload_n 3, 1) := dAt dlX0_most_0 3 rfl
theorem dX0_most_4 : decode cX0_most 4 = .ok (.invokevirtual 21, 3) := dAt dlX0_most_0 4 rfl
theorem dX0_most_7 : decode cX0_most 7 = .ok (.iconst 0, 1) := dAt dlX0_most_0 5 rfl
theorem dX0_most_8 : decode cX0_most 8 = .ok (.istore 4, 2) := dAt dlX0_most_0 6 rfl
theorem dX0_most_10 : decode cX0_most 10 = .ok (.iload 4, 2) := dAt dlX0_most_0 7 rfl
theorem dX0_most_12 : decode cX0_most 12 = .ok (.aload_n 1, 1) := dAt dlX0_most_0 8 rfl
theorem dX0_most_13 : decode cX0_most 13 = .ok (.getfield 25, 3) := dAt dlX0_most_0 9 rfl
theorem dX0_most_16 : decode cX0_most 16 = .ok (.if_icmp .ge 20, 3) := dAt dlX0_most_0 10 rfl
theorem dX0_most_19 : decode cX0_most 19 = .ok (.aload_n 0, 1) := dAt dlX0_most_0 11 rfl
theorem dX0_most_20 : decode cX0_most 20 = .ok (.invokevirtual 31, 3) := dAt dlX0_most_0 12 rfl
theorem dX0_most_23 : decode cX0_most 23 = .ok (.ifCond .eq 13, 3) := dAt dlX0_most_0 13 rfl
theorem dX0_most_26 : decode cX0_most 26 = .ok (.aload_n 0, 1) := dAt dlX0_most_0 14 rfl
theorem dX0_most_27 : decode cX0_most 27 = .ok (.invokevirtual 35, 3) := dAt dlX0_most_0 15 rfl
theorem dX0_most_30 : decode cX0_most 30 = .ok (.iinc 4 1, 3) := dAt dlX0_most_0 16 rfl
theorem dX0_most_33 : decode cX0_most 33 = .ok (.goto (-23), 3) := dAt dlX0_most_0 17 rfl
theorem dX0_most_36 : decode cX0_most 36 = .ok (.iload 4, 2) := dAt dlX0_most_0 18 rfl
theorem dX0_most_38 : decode cX0_most 38 = .ok (.ireturn, 1) := dAt dlX0_most_0 19 rfl
def ilX0_openArcs_0 : List (Nat × Instr × Nat) := [(0, .aload_n 0, 1), (1, .getfield 11, 3), (4, .iconst 0, 1), (5, .invokestatic 38, 3), (8, .aload_n 0, 1), (9, .getfield 11, 3), (12, .bipush 20, 2), (14, .iload_n 2, 1), (15, .iastore, 1), (16, .iconst 0, 1), (17, .istore 4, 2), (19, .iload 4, 2), (21, .aload_n 1, 1), (22, .getfield 25, 3), (25, .if_icmp .ge 50, 3), (28, .aload_n 0, 1), (29, .getfield 11, 3), (32, .iload 4, 2), (34, .iconst 1, 1), (35, .bipush 10, 2), (37, .iload 4, 2), (39, .iadd, 1), (40, .ishl, 1), (41, .iastore, 1), (42, .aload_n 0, 1), (43, .getfield 11, 3), (46, .bipush 10, 2), (48, .iload 4, 2), (50, .iadd, 1), (51, .aload_n 1, 1), (52, .getfield 44, 3), (55, .iload 4, 2), (57, .iaload, 1), (58, .iload_n 3, 1), (59, .iload 4, 2), (61, .ishr, 1), (62, .iconst 1, 1), (63, .iand, 1), (64, .bipush 21, 2), (66, .ishl, 1), (67, .ior, 1), (68, .iastore, 1), (69, .iinc 4 1, 3), (72, .goto (-53), 3), (75, .return_, 1)]
theorem dlX0_openArcs_0 : dOK cX0_openArcs ilX0_openArcs_0 = true := by decide +kernel
theorem dX0_openArcs_0 : decode cX0_openArcs 0 = .ok (.aload_n 0, 1) := dAt dlX0_openArcs_0 0 rfl
theorem dX0_openArcs_1 : decode cX0_openArcs 1 = .ok (.getfield 11, 3) := dAt dlX0_openArcs_0 1 rfl
theorem dX0_openArcs_4 : decode cX0_openArcs 4 = .ok (.iconst 0, 1) := dAt dlX0_openArcs_0 2 rfl
theorem dX0_openArcs_5 : decode cX0_openArcs 5 = .ok (.invokestatic 38, 3) := dAt dlX0_openArcs_0 3 rfl
theorem dX0_openArcs_8 : decode cX0_openArcs 8 = .ok (.aload_n 0, 1) := dAt dlX0_openArcs_0 4 rfl
theorem dX0_openArcs_9 : decode cX0_openArcs 9 = .ok (.getfield 11, 3) := dAt dlX0_openArcs_0 5 rfl
theorem dX0_openArcs_12 : decode cX0_openArcs 12 = .ok (.bipush 20, 2) := dAt dlX0_openArcs_0 6 rfl
theorem dX0_openArcs_14 : decode cX0_openArcs 14 = .ok (.iload_n 2, 1) := dAt dlX0_openArcs_0 7 rfl
theorem dX0_openArcs_15 : decode cX0_openArcs 15 = .ok (.iastore, 1) := dAt dlX0_openArcs_0 8 rfl
theorem dX0_openArcs_16 : decode cX0_openArcs 16 = .ok (.iconst 0, 1) := dAt dlX0_openArcs_0 9 rfl
theorem dX0_openArcs_17 : decode cX0_openArcs 17 = .ok (.istore 4, 2) := dAt dlX0_openArcs_0 10 rfl
theorem dX0_openArcs_19 : decode cX0_openArcs 19 = .ok (.iload 4, 2) := dAt dlX0_openArcs_0 11 rfl
theorem dX0_openArcs_21 : decode cX0_openArcs 21 = .ok (.aload_n 1, 1) := dAt dlX0_openArcs_0 12 rfl
theorem dX0_openArcs_22 : decode cX0_openArcs 22 = .ok (.getfield 25, 3) := dAt dlX0_openArcs_0 13 rfl
theorem dX0_openArcs_25 : decode cX0_openArcs 25 = .ok (.if_icmp .ge 50, 3) := dAt dlX0_openArcs_0 14 rfl
theorem dX0_openArcs_28 : decode cX0_openArcs 28 = .ok (.aload_n 0, 1) := dAt dlX0_openArcs_0 15 rfl
theorem dX0_openArcs_29 : decode cX0_openArcs 29 = .ok (.getfield 11, 3) := dAt dlX0_openArcs_0 16 rfl
theorem dX0_openArcs_32 : decode cX0_openArcs 32 = .ok (.iload 4, 2) := dAt dlX0_openArcs_0 17 rfl
theorem dX0_openArcs_34 : decode cX0_openArcs 34 = .ok (.iconst 1, 1) := dAt dlX0_openArcs_0 18 rfl
theorem dX0_openArcs_35 : decode cX0_openArcs 35 = .ok (.bipush 10, 2) := dAt dlX0_openArcs_0 19 rfl
theorem dX0_openArcs_37 : decode cX0_openArcs 37 = .ok (.iload 4, 2) := dAt dlX0_openArcs_0 20 rfl
theorem dX0_openArcs_39 : decode cX0_openArcs 39 = .ok (.iadd, 1) := dAt dlX0_openArcs_0 21 rfl
theorem dX0_openArcs_40 : decode cX0_openArcs 40 = .ok (.ishl, 1) := dAt dlX0_openArcs_0 22 rfl
theorem dX0_openArcs_41 : decode cX0_openArcs 41 = .ok (.iastore, 1) := dAt dlX0_openArcs_0 23 rfl
theorem dX0_openArcs_42 : decode cX0_openArcs 42 = .ok (.aload_n 0, 1) := dAt dlX0_openArcs_0 24 rfl
theorem dX0_openArcs_43 : decode cX0_openArcs 43 = .ok (.getfield 11, 3) := dAt dlX0_openArcs_0 25 rfl
theorem dX0_openArcs_46 : decode cX0_openArcs 46 = .ok (.bipush 10, 2) := dAt dlX0_openArcs_0 26 rfl
theorem dX0_openArcs_48 : decode cX0_openArcs 48 = .ok (.iload 4, 2) := dAt dlX0_openArcs_0 27 rfl
theorem dX0_openArcs_50 : decode cX0_openArcs 50 = .ok (.iadd, 1) := dAt dlX0_openArcs_0 28 rfl
theorem dX0_openArcs_51 : decode cX0_openArcs 51 = .ok (.aload_n 1, 1) := dAt dlX0_openArcs_0 29 rfl
theorem dX0_openArcs_52 : decode cX0_openArcs 52 = .ok (.getfield 44, 3) := dAt dlX0_openArcs_0 30 rfl
theorem dX0_openArcs_55 : decode cX0_openArcs 55 = .ok (.iload 4, 2) := dAt dlX0_openArcs_0 31 rfl
theorem dX0_openArcs_57 : decode cX0_openArcs 57 = .ok (.iaload, 1) := dAt dlX0_openArcs_0 32 rfl
theorem dX0_openArcs_58 : decode cX0_openArcs 58 = .ok (.iload_n 3, 1) := dAt dlX0_openArcs_0 33 rfl
theorem dX0_openArcs_59 : decode cX0_openArcs 59 = .ok (.iload 4, 2) := dAt dlX0_openArcs_0 34 rfl
theorem dX0_openArcs_61 : decode cX0_openArcs 61 = .ok (.ishr, 1) := dAt dlX0_openArcs_0 35 rfl
theorem dX0_openArcs_62 : decode cX0_openArcs 62 = .ok (.iconst 1, 1) := dAt dlX0_openArcs_0 36 rfl
theorem dX0_openArcs_63 : decode cX0_openArcs 63 = .ok (.iand, 1) := dAt dlX0_openArcs_0 37 rfl
theorem dX0_openArcs_64 : decode cX0_openArcs 64 = .ok (.bipush 21, 2) := dAt dlX0_openArcs_0 38 rfl
theorem dX0_openArcs_66 : decode cX0_openArcs 66 = .ok (.ishl, 1) := dAt dlX0_openArcs_0 39 rfl
theorem dX0_openArcs_67 : decode cX0_openArcs 67 = .ok (.ior, 1) := dAt dlX0_openArcs_0 40 rfl
theorem dX0_openArcs_68 : decode cX0_openArcs 68 = .ok (.iastore, 1) := dAt dlX0_openArcs_0 41 rfl
theorem dX0_openArcs_69 : decode cX0_openArcs 69 = .ok (.iinc 4 1, 3) := dAt dlX0_openArcs_0 42 rfl
theorem dX0_openArcs_72 : decode cX0_openArcs 72 = .ok (.goto (-53), 3) := dAt dlX0_openArcs_0 43 rfl
theorem dX0_openArcs_75 : decode cX0_openArcs 75 = .ok (.return_, 1) := dAt dlX0_openArcs_0 44 rfl
def ilX0_findWay_0 : List (Nat × Instr × Nat) := [(0, .ldc 47, 2), (2, .istore_n 1, 1), (3, .aload_n 0, 1), (4, .getfield 18, 3), (7, .iconst 0, 1), (8, .bipush 20, 2), (10, .iastore, 1), (11, .iconst 1, 1), (12, .istore_n 2, 1), (13, .iconst 0, 1), (14, .istore_n 3, 1), (15, .iload_n 3, 1), (16, .iload_n 2, 1), (17, .if_icmp .ge 94, 3), (20, .iload_n 3, 1), (21, .bipush 22, 2), (23, .if_icmp .ge 88, 3), (26, .aload_n 0, 1), (27, .getfield 18, 3), (30, .iload_n 3, 1), (31, .iaload, 1), (32, .istore 4, 2), (34, .aload_n 0, 1), (35, .getfield 11, 3), (38, .iload 4, 2), (40, .iaload, 1), (41, .iload_n 1, 1), (42, .iconst (-1), 1), (43, .ixor, 1), (44, .iand, 1), (45, .istore 5, 2), (47, .iload_n 1, 1), (48, .iload 5, 2), (50, .ior, 1), (51, .istore_n 1, 1), (52, .iconst 0, 1), (53, .istore 6, 2), (55, .iload 6, 2), (57, .bipush 22, 2), (59, .if_icmp .ge 46, 3), (62, .iload 5, 2), (64, .iload 6, 2), (66, .ishr, 1), (67, .iconst 1, 1), (68, .iand, 1), (69, .iconst 1, 1), (70, .if_icmp .ne 29, 3), (73, .iload_n 2, 1), (74, .bipush 22, 2), (76, .if_icmp .ge 23, 3), (79, .aload_n 0, 1), (80, .getfield 15, 3), (83, .iload 6, 2), (85, .iload 4, 2), (87, .iastore, 1), (88, .aload_n 0, 1), (89, .getfield 18, 3), (92, .iload_n 2, 1), (93, .iload 6, 2), (95, .iastore, 1)]
theorem dlX0_findWay_0 : dOK cX0_findWay ilX0_findWay_0 = true := by decide +kernel
theorem dX0_findWay_0 : decode cX0_findWay 0 = .ok (.ldc 47, 2) := dAt dlX0_findWay_0 0 rfl
theorem dX0_findWay_2 : decode cX0_findWay 2 = .ok (.istore_n 1, 1) := dAt dlX0_findWay_0 1 rfl
theorem dX0_findWay_3 : decode cX0_findWay 3 = .ok (.aload_n 0, 1) := dAt dlX0_findWay_0 2 rfl
theorem dX0_findWay_4 : decode cX0_findWay 4 = .ok (.getfield 18, 3) := dAt dlX0_findWay_0 3 rfl
theorem dX0_findWay_7 : decode cX0_findWay 7 = .ok (.iconst 0, 1) := dAt dlX0_findWay_0 4 rfl
theorem dX0_findWay_8 : decode cX0_findWay 8 = .ok (.bipush 20, 2) := dAt dlX0_findWay_0 5 rfl
theorem dX0_findWay_10 : decode cX0_findWay 10 = .ok (.iastore, 1) := dAt dlX0_findWay_0 6 rfl
theorem dX0_findWay_11 : decode cX0_findWay 11 = .ok (.iconst 1, 1) := dAt dlX0_findWay_0 7 rfl
theorem dX0_findWay_12 : decode cX0_findWay 12 = .ok (.istore_n 2, 1) := dAt dlX0_findWay_0 8 rfl
theorem dX0_findWay_13 : decode cX0_findWay 13 = .ok (.iconst 0, 1) := dAt dlX0_findWay_0 9 rfl
theorem dX0_findWay_14 : decode cX0_findWay 14 = .ok (.istore_n 3, 1) := dAt dlX0_findWay_0 10 rfl
theorem dX0_findWay_15 : decode cX0_findWay 15 = .ok (.iload_n 3, 1) := dAt dlX0_findWay_0 11 rfl
theorem dX0_findWay_16 : decode cX0_findWay 16 = .ok (.iload_n 2, 1) := dAt dlX0_findWay_0 12 rfl
theorem dX0_findWay_17 : decode cX0_findWay 17 = .ok (.if_icmp .ge 94, 3) := dAt dlX0_findWay_0 13 rfl
theorem dX0_findWay_20 : decode cX0_findWay 20 = .ok (.iload_n 3, 1) := dAt dlX0_findWay_0 14 rfl
theorem dX0_findWay_21 : decode cX0_findWay 21 = .ok (.bipush 22, 2) := dAt dlX0_findWay_0 15 rfl
theorem dX0_findWay_23 : decode cX0_findWay 23 = .ok (.if_icmp .ge 88, 3) := dAt dlX0_findWay_0 16 rfl
theorem dX0_findWay_26 : decode cX0_findWay 26 = .ok (.aload_n 0, 1) := dAt dlX0_findWay_0 17 rfl
theorem dX0_findWay_27 : decode cX0_findWay 27 = .ok (.getfield 18, 3) := dAt dlX0_findWay_0 18 rfl
theorem dX0_findWay_30 : decode cX0_findWay 30 = .ok (.iload_n 3, 1) := dAt dlX0_findWay_0 19 rfl
theorem dX0_findWay_31 : decode cX0_findWay 31 = .ok (.iaload, 1) := dAt dlX0_findWay_0 20 rfl
theorem dX0_findWay_32 : decode cX0_findWay 32 = .ok (.istore 4, 2) := dAt dlX0_findWay_0 21 rfl
theorem dX0_findWay_34 : decode cX0_findWay 34 = .ok (.aload_n 0, 1) := dAt dlX0_findWay_0 22 rfl
theorem dX0_findWay_35 : decode cX0_findWay 35 = .ok (.getfield 11, 3) := dAt dlX0_findWay_0 23 rfl
theorem dX0_findWay_38 : decode cX0_findWay 38 = .ok (.iload 4, 2) := dAt dlX0_findWay_0 24 rfl
theorem dX0_findWay_40 : decode cX0_findWay 40 = .ok (.iaload, 1) := dAt dlX0_findWay_0 25 rfl
theorem dX0_findWay_41 : decode cX0_findWay 41 = .ok (.iload_n 1, 1) := dAt dlX0_findWay_0 26 rfl
theorem dX0_findWay_42 : decode cX0_findWay 42 = .ok (.iconst (-1), 1) := dAt dlX0_findWay_0 27 rfl
theorem dX0_findWay_43 : decode cX0_findWay 43 = .ok (.ixor, 1) := dAt dlX0_findWay_0 28 rfl
theorem dX0_findWay_44 : decode cX0_findWay 44 = .ok (.iand, 1) := dAt dlX0_findWay_0 29 rfl
theorem dX0_findWay_45 : decode cX0_findWay 45 = .ok (.istore 5, 2) := dAt dlX0_findWay_0 30 rfl
theorem dX0_findWay_47 : decode cX0_findWay 47 = .ok (.iload_n 1, 1) := dAt dlX0_findWay_0 31 rfl
theorem dX0_findWay_48 : decode cX0_findWay 48 = .ok (.iload 5, 2) := dAt dlX0_findWay_0 32 rfl
theorem dX0_findWay_50 : decode cX0_findWay 50 = .ok (.ior, 1) := dAt dlX0_findWay_0 33 rfl
theorem dX0_findWay_51 : decode cX0_findWay 51 = .ok (.istore_n 1, 1) := dAt dlX0_findWay_0 34 rfl
theorem dX0_findWay_52 : decode cX0_findWay 52 = .ok (.iconst 0, 1) := dAt dlX0_findWay_0 35 rfl
theorem dX0_findWay_53 : decode cX0_findWay 53 = .ok (.istore 6, 2) := dAt dlX0_findWay_0 36 rfl
theorem dX0_findWay_55 : decode cX0_findWay 55 = .ok (.iload 6, 2) := dAt dlX0_findWay_0 37 rfl
theorem dX0_findWay_57 : decode cX0_findWay 57 = .ok (.bipush 22, 2) := dAt dlX0_findWay_0 38 rfl
theorem dX0_findWay_59 : decode cX0_findWay 59 = .ok (.if_icmp .ge 46, 3) := dAt dlX0_findWay_0 39 rfl
theorem dX0_findWay_62 : decode cX0_findWay 62 = .ok (.iload 5, 2) := dAt dlX0_findWay_0 40 rfl
theorem dX0_findWay_64 : decode cX0_findWay 64 = .ok (.iload 6, 2) := dAt dlX0_findWay_0 41 rfl
theorem dX0_findWay_66 : decode cX0_findWay 66 = .ok (.ishr, 1) := dAt dlX0_findWay_0 42 rfl
theorem dX0_findWay_67 : decode cX0_findWay 67 = .ok (.iconst 1, 1) := dAt dlX0_findWay_0 43 rfl
theorem dX0_findWay_68 : decode cX0_findWay 68 = .ok (.iand, 1) := dAt dlX0_findWay_0 44 rfl
theorem dX0_findWay_69 : decode cX0_findWay 69 = .ok (.iconst 1, 1) := dAt dlX0_findWay_0 45 rfl
theorem dX0_findWay_70 : decode cX0_findWay 70 = .ok (.if_icmp .ne 29, 3) := dAt dlX0_findWay_0 46 rfl
theorem dX0_findWay_73 : decode cX0_findWay 73 = .ok (.iload_n 2, 1) := dAt dlX0_findWay_0 47 rfl
theorem dX0_findWay_74 : decode cX0_findWay 74 = .ok (.bipush 22, 2) := dAt dlX0_findWay_0 48 rfl
theorem dX0_findWay_76 : decode cX0_findWay 76 = .ok (.if_icmp .ge 23, 3) := dAt dlX0_findWay_0 49 rfl
theorem dX0_findWay_79 : decode cX0_findWay 79 = .ok (.aload_n 0, 1) := dAt dlX0_findWay_0 50 rfl
theorem dX0_findWay_80 : decode cX0_findWay 80 = .ok (.getfield 15, 3) := dAt dlX0_findWay_0 51 rfl
theorem dX0_findWay_83 : decode cX0_findWay 83 = .ok (.iload 6, 2) := dAt dlX0_findWay_0 52 rfl
theorem dX0_findWay_85 : decode cX0_findWay 85 = .ok (.iload 4, 2) := dAt dlX0_findWay_0 53 rfl
theorem dX0_findWay_87 : decode cX0_findWay 87 = .ok (.iastore, 1) := dAt dlX0_findWay_0 54 rfl
theorem dX0_findWay_88 : decode cX0_findWay 88 = .ok (.aload_n 0, 1) := dAt dlX0_findWay_0 55 rfl
theorem dX0_findWay_89 : decode cX0_findWay 89 = .ok (.getfield 18, 3) := dAt dlX0_findWay_0 56 rfl
theorem dX0_findWay_92 : decode cX0_findWay 92 = .ok (.iload_n 2, 1) := dAt dlX0_findWay_0 57 rfl
theorem dX0_findWay_93 : decode cX0_findWay 93 = .ok (.iload 6, 2) := dAt dlX0_findWay_0 58 rfl
theorem dX0_findWay_95 : decode cX0_findWay 95 = .ok (.iastore, 1) := dAt dlX0_findWay_0 59 rfl
def ilX0_findWay_1 : List (Nat × Instr × Nat) := [(96, .iinc 2 1, 3), (99, .iinc 6 1, 3), (102, .goto (-47), 3), (105, .iinc 3 1, 3), (108, .goto (-93), 3), (111, .iload_n 1, 1), (112, .bipush 21, 2), (114, .ishr, 1), (115, .iconst 1, 1), (116, .iand, 1), (117, .iconst 1, 1), (118, .if_icmp .ne 7, 3), (121, .iconst 1, 1), (122, .goto 4, 3), (125, .iconst 0, 1), (126, .ireturn, 1)]
theorem dlX0_findWay_1 : dOK cX0_findWay ilX0_findWay_1 = true := by decide +kernel
theorem dX0_findWay_96 : decode cX0_findWay 96 = .ok (.iinc 2 1, 3) := dAt dlX0_findWay_1 0 rfl
theorem dX0_findWay_99 : decode cX0_findWay 99 = .ok (.iinc 6 1, 3) := dAt dlX0_findWay_1 1 rfl
theorem dX0_findWay_102 : decode cX0_findWay 102 = .ok (.goto (-47), 3) := dAt dlX0_findWay_1 2 rfl
theorem dX0_findWay_105 : decode cX0_findWay 105 = .ok (.iinc 3 1, 3) := dAt dlX0_findWay_1 3 rfl
theorem dX0_findWay_108 : decode cX0_findWay 108 = .ok (.goto (-93), 3) := dAt dlX0_findWay_1 4 rfl
theorem dX0_findWay_111 : decode cX0_findWay 111 = .ok (.iload_n 1, 1) := dAt dlX0_findWay_1 5 rfl
theorem dX0_findWay_112 : decode cX0_findWay 112 = .ok (.bipush 21, 2) := dAt dlX0_findWay_1 6 rfl
theorem dX0_findWay_114 : decode cX0_findWay 114 = .ok (.ishr, 1) := dAt dlX0_findWay_1 7 rfl
theorem dX0_findWay_115 : decode cX0_findWay 115 = .ok (.iconst 1, 1) := dAt dlX0_findWay_1 8 rfl
theorem dX0_findWay_116 : decode cX0_findWay 116 = .ok (.iand, 1) := dAt dlX0_findWay_1 9 rfl
theorem dX0_findWay_117 : decode cX0_findWay 117 = .ok (.iconst 1, 1) := dAt dlX0_findWay_1 10 rfl
theorem dX0_findWay_118 : decode cX0_findWay 118 = .ok (.if_icmp .ne 7, 3) := dAt dlX0_findWay_1 11 rfl
theorem dX0_findWay_121 : decode cX0_findWay 121 = .ok (.iconst 1, 1) := dAt dlX0_findWay_1 12 rfl
theorem dX0_findWay_122 : decode cX0_findWay 122 = .ok (.goto 4, 3) := dAt dlX0_findWay_1 13 rfl
theorem dX0_findWay_125 : decode cX0_findWay 125 = .ok (.iconst 0, 1) := dAt dlX0_findWay_1 14 rfl
theorem dX0_findWay_126 : decode cX0_findWay 126 = .ok (.ireturn, 1) := dAt dlX0_findWay_1 15 rfl
def ilX0_takeWay_0 : List (Nat × Instr × Nat) := [(0, .bipush 21, 2), (2, .istore_n 1, 1), (3, .iconst 0, 1), (4, .istore_n 2, 1), (5, .iload_n 2, 1), (6, .bipush 22, 2), (8, .if_icmp .ge 50, 3), (11, .iload_n 1, 1), (12, .bipush 20, 2), (14, .if_icmp .eq 44, 3), (17, .aload_n 0, 1), (18, .getfield 15, 3), (21, .iload_n 1, 1), (22, .iaload, 1), (23, .istore_n 3, 1), (24, .aload_n 0, 1), (25, .getfield 11, 3), (28, .iload_n 3, 1), (29, .dup2, 1), (30, .iaload, 1), (31, .iconst 1, 1), (32, .iload_n 1, 1), (33, .ishl, 1), (34, .iconst (-1), 1), (35, .ixor, 1), (36, .iand, 1), (37, .iastore, 1), (38, .aload_n 0, 1), (39, .getfield 11, 3), (42, .iload_n 1, 1), (43, .dup2, 1), (44, .iaload, 1), (45, .iconst 1, 1), (46, .iload_n 3, 1), (47, .ishl, 1), (48, .ior, 1), (49, .iastore, 1), (50, .iload_n 3, 1), (51, .istore_n 1, 1), (52, .iinc 2 1, 3), (55, .goto (-50), 3), (58, .return_, 1)]
theorem dlX0_takeWay_0 : dOK cX0_takeWay ilX0_takeWay_0 = true := by decide +kernel
theorem dX0_takeWay_0 : decode cX0_takeWay 0 = .ok (.bipush 21, 2) := dAt dlX0_takeWay_0 0 rfl
theorem dX0_takeWay_2 : decode cX0_takeWay 2 = .ok (.istore_n 1, 1) := dAt dlX0_takeWay_0 1 rfl
theorem dX0_takeWay_3 : decode cX0_takeWay 3 = .ok (.iconst 0, 1) := dAt dlX0_takeWay_0 2 rfl
theorem dX0_takeWay_4 : decode cX0_takeWay 4 = .ok (.istore_n 2, 1) := dAt dlX0_takeWay_0 3 rfl
theorem dX0_takeWay_5 : decode cX0_takeWay 5 = .ok (.iload_n 2, 1) := dAt dlX0_takeWay_0 4 rfl
theorem dX0_takeWay_6 : decode cX0_takeWay 6 = .ok (.bipush 22, 2) := dAt dlX0_takeWay_0 5 rfl
theorem dX0_takeWay_8 : decode cX0_takeWay 8 = .ok (.if_icmp .ge 50, 3) := dAt dlX0_takeWay_0 6 rfl
theorem dX0_takeWay_11 : decode cX0_takeWay 11 = .ok (.iload_n 1, 1) := dAt dlX0_takeWay_0 7 rfl
theorem dX0_takeWay_12 : decode cX0_takeWay 12 = .ok (.bipush 20, 2) := dAt dlX0_takeWay_0 8 rfl
theorem dX0_takeWay_14 : decode cX0_takeWay 14 = .ok (.if_icmp .eq 44, 3) := dAt dlX0_takeWay_0 9 rfl
theorem dX0_takeWay_17 : decode cX0_takeWay 17 = .ok (.aload_n 0, 1) := dAt dlX0_takeWay_0 10 rfl
theorem dX0_takeWay_18 : decode cX0_takeWay 18 = .ok (.getfield 15, 3) := dAt dlX0_takeWay_0 11 rfl
theorem dX0_takeWay_21 : decode cX0_takeWay 21 = .ok (.iload_n 1, 1) := dAt dlX0_takeWay_0 12 rfl
theorem dX0_takeWay_22 : decode cX0_takeWay 22 = .ok (.iaload, 1) := dAt dlX0_takeWay_0 13 rfl
theorem dX0_takeWay_23 : decode cX0_takeWay 23 = .ok (.istore_n 3, 1) := dAt dlX0_takeWay_0 14 rfl
theorem dX0_takeWay_24 : decode cX0_takeWay 24 = .ok (.aload_n 0, 1) := dAt dlX0_takeWay_0 15 rfl
theorem dX0_takeWay_25 : decode cX0_takeWay 25 = .ok (.getfield 11, 3) := dAt dlX0_takeWay_0 16 rfl
theorem dX0_takeWay_28 : decode cX0_takeWay 28 = .ok (.iload_n 3, 1) := dAt dlX0_takeWay_0 17 rfl
theorem dX0_takeWay_29 : decode cX0_takeWay 29 = .ok (.dup2, 1) := dAt dlX0_takeWay_0 18 rfl
theorem dX0_takeWay_30 : decode cX0_takeWay 30 = .ok (.iaload, 1) := dAt dlX0_takeWay_0 19 rfl
theorem dX0_takeWay_31 : decode cX0_takeWay 31 = .ok (.iconst 1, 1) := dAt dlX0_takeWay_0 20 rfl
theorem dX0_takeWay_32 : decode cX0_takeWay 32 = .ok (.iload_n 1, 1) := dAt dlX0_takeWay_0 21 rfl
theorem dX0_takeWay_33 : decode cX0_takeWay 33 = .ok (.ishl, 1) := dAt dlX0_takeWay_0 22 rfl
theorem dX0_takeWay_34 : decode cX0_takeWay 34 = .ok (.iconst (-1), 1) := dAt dlX0_takeWay_0 23 rfl
theorem dX0_takeWay_35 : decode cX0_takeWay 35 = .ok (.ixor, 1) := dAt dlX0_takeWay_0 24 rfl
theorem dX0_takeWay_36 : decode cX0_takeWay 36 = .ok (.iand, 1) := dAt dlX0_takeWay_0 25 rfl
theorem dX0_takeWay_37 : decode cX0_takeWay 37 = .ok (.iastore, 1) := dAt dlX0_takeWay_0 26 rfl
theorem dX0_takeWay_38 : decode cX0_takeWay 38 = .ok (.aload_n 0, 1) := dAt dlX0_takeWay_0 27 rfl
theorem dX0_takeWay_39 : decode cX0_takeWay 39 = .ok (.getfield 11, 3) := dAt dlX0_takeWay_0 28 rfl
theorem dX0_takeWay_42 : decode cX0_takeWay 42 = .ok (.iload_n 1, 1) := dAt dlX0_takeWay_0 29 rfl
theorem dX0_takeWay_43 : decode cX0_takeWay 43 = .ok (.dup2, 1) := dAt dlX0_takeWay_0 30 rfl
theorem dX0_takeWay_44 : decode cX0_takeWay 44 = .ok (.iaload, 1) := dAt dlX0_takeWay_0 31 rfl
theorem dX0_takeWay_45 : decode cX0_takeWay 45 = .ok (.iconst 1, 1) := dAt dlX0_takeWay_0 32 rfl
theorem dX0_takeWay_46 : decode cX0_takeWay 46 = .ok (.iload_n 3, 1) := dAt dlX0_takeWay_0 33 rfl
theorem dX0_takeWay_47 : decode cX0_takeWay 47 = .ok (.ishl, 1) := dAt dlX0_takeWay_0 34 rfl
theorem dX0_takeWay_48 : decode cX0_takeWay 48 = .ok (.ior, 1) := dAt dlX0_takeWay_0 35 rfl
theorem dX0_takeWay_49 : decode cX0_takeWay 49 = .ok (.iastore, 1) := dAt dlX0_takeWay_0 36 rfl
theorem dX0_takeWay_50 : decode cX0_takeWay 50 = .ok (.iload_n 3, 1) := dAt dlX0_takeWay_0 37 rfl
theorem dX0_takeWay_51 : decode cX0_takeWay 51 = .ok (.istore_n 1, 1) := dAt dlX0_takeWay_0 38 rfl
theorem dX0_takeWay_52 : decode cX0_takeWay 52 = .ok (.iinc 2 1, 3) := dAt dlX0_takeWay_0 39 rfl
theorem dX0_takeWay_55 : decode cX0_takeWay 55 = .ok (.goto (-50), 3) := dAt dlX0_takeWay_0 40 rfl
theorem dX0_takeWay_58 : decode cX0_takeWay 58 = .ok (.return_, 1) := dAt dlX0_takeWay_0 41 rfl
def ilX1_init_0 : List (Nat × Instr × Nat) := [(0, .aload_n 0, 1), (1, .invokespecial 1, 3), (4, .return_, 1)]
theorem dlX1_init_0 : dOK cX1_init ilX1_init_0 = true := by decide +kernel
theorem dX1_init_0 : decode cX1_init 0 = .ok (.aload_n 0, 1) := dAt dlX1_init_0 0 rfl
theorem dX1_init_1 : decode cX1_init 1 = .ok (.invokespecial 1, 3) := dAt dlX1_init_0 1 rfl
theorem dX1_init_4 : decode cX1_init 4 = .ok (.return_, 1) := dAt dlX1_init_0 2 rfl
def ilX1_seek_0 : List (Nat × Instr × Nat) := [(0, .aload_n 0, 1), (1, .iconst 1, 1), (2, .putfield 7, 3), (5, .aload_n 0, 1), (6, .iconst 0, 1), (7, .putfield 13, 3), (10, .aload_n 0, 1), (11, .iconst 0, 1), (12, .putfield 16, 3), (15, .iconst 1, 1), (16, .aload_n 1, 1), (17, .getfield 19, 3), (20, .ishl, 1), (21, .istore_n 3, 1), (22, .iconst 1, 1), (23, .istore 4, 2), (25, .iload 4, 2), (27, .iload_n 3, 1), (28, .if_icmp .ge 86, 3), (31, .iload 4, 2), (33, .invokestatic 24, 3), (36, .istore 5, 2), (38, .iload 5, 2), (40, .aload_n 1, 1), (41, .getfield 19, 3), (44, .iconst 2, 1), (45, .idiv, 1), (46, .if_icmp .le 6, 3), (49, .goto 59, 3), (52, .iload_n 2, 1), (53, .ifCond .eq 12, 3), (56, .aload_n 1, 1), (57, .iload 4, 2), (59, .invokestatic 30, 3), (62, .goto 9, 3), (65, .aload_n 1, 1), (66, .iload 4, 2), (68, .invokestatic 34, 3), (71, .istore 6, 2), (73, .iload 6, 2), (75, .aload_n 0, 1), (76, .getfield 13, 3), (79, .imul, 1), (80, .aload_n 0, 1), (81, .getfield 7, 3), (84, .iload 5, 2), (86, .imul, 1), (87, .if_icmp .ge 21, 3), (90, .aload_n 0, 1), (91, .iload 6, 2), (93, .putfield 7, 3), (96, .aload_n 0, 1), (97, .iload 5, 2), (99, .putfield 13, 3), (102, .aload_n 0, 1), (103, .iload 4, 2), (105, .putfield 16, 3), (108, .iinc 4 1, 3), (111, .goto (-86), 3), (114, .return_, 1)]
theorem dlX1_seek_0 : dOK cX1_seek ilX1_seek_0 = true := by decide +kernel
theorem dX1_seek_0 : decode cX1_seek 0 = .ok (.aload_n 0, 1) := dAt dlX1_seek_0 0 rfl
theorem dX1_seek_1 : decode cX1_seek 1 = .ok (.iconst 1, 1) := dAt dlX1_seek_0 1 rfl
theorem dX1_seek_2 : decode cX1_seek 2 = .ok (.putfield 7, 3) := dAt dlX1_seek_0 2 rfl
theorem dX1_seek_5 : decode cX1_seek 5 = .ok (.aload_n 0, 1) := dAt dlX1_seek_0 3 rfl
theorem dX1_seek_6 : decode cX1_seek 6 = .ok (.iconst 0, 1) := dAt dlX1_seek_0 4 rfl
theorem dX1_seek_7 : decode cX1_seek 7 = .ok (.putfield 13, 3) := dAt dlX1_seek_0 5 rfl
theorem dX1_seek_10 : decode cX1_seek 10 = .ok (.aload_n 0, 1) := dAt dlX1_seek_0 6 rfl
theorem dX1_seek_11 : decode cX1_seek 11 = .ok (.iconst 0, 1) := dAt dlX1_seek_0 7 rfl
theorem dX1_seek_12 : decode cX1_seek 12 = .ok (.putfield 16, 3) := dAt dlX1_seek_0 8 rfl
theorem dX1_seek_15 : decode cX1_seek 15 = .ok (.iconst 1, 1) := dAt dlX1_seek_0 9 rfl
theorem dX1_seek_16 : decode cX1_seek 16 = .ok (.aload_n 1, 1) := dAt dlX1_seek_0 10 rfl
theorem dX1_seek_17 : decode cX1_seek 17 = .ok (.getfield 19, 3) := dAt dlX1_seek_0 11 rfl
theorem dX1_seek_20 : decode cX1_seek 20 = .ok (.ishl, 1) := dAt dlX1_seek_0 12 rfl
theorem dX1_seek_21 : decode cX1_seek 21 = .ok (.istore_n 3, 1) := dAt dlX1_seek_0 13 rfl
theorem dX1_seek_22 : decode cX1_seek 22 = .ok (.iconst 1, 1) := dAt dlX1_seek_0 14 rfl
theorem dX1_seek_23 : decode cX1_seek 23 = .ok (.istore 4, 2) := dAt dlX1_seek_0 15 rfl
theorem dX1_seek_25 : decode cX1_seek 25 = .ok (.iload 4, 2) := dAt dlX1_seek_0 16 rfl
theorem dX1_seek_27 : decode cX1_seek 27 = .ok (.iload_n 3, 1) := dAt dlX1_seek_0 17 rfl
theorem dX1_seek_28 : decode cX1_seek 28 = .ok (.if_icmp .ge 86, 3) := dAt dlX1_seek_0 18 rfl
theorem dX1_seek_31 : decode cX1_seek 31 = .ok (.iload 4, 2) := dAt dlX1_seek_0 19 rfl
theorem dX1_seek_33 : decode cX1_seek 33 = .ok (.invokestatic 24, 3) := dAt dlX1_seek_0 20 rfl
theorem dX1_seek_36 : decode cX1_seek 36 = .ok (.istore 5, 2) := dAt dlX1_seek_0 21 rfl
theorem dX1_seek_38 : decode cX1_seek 38 = .ok (.iload 5, 2) := dAt dlX1_seek_0 22 rfl
theorem dX1_seek_40 : decode cX1_seek 40 = .ok (.aload_n 1, 1) := dAt dlX1_seek_0 23 rfl
theorem dX1_seek_41 : decode cX1_seek 41 = .ok (.getfield 19, 3) := dAt dlX1_seek_0 24 rfl
theorem dX1_seek_44 : decode cX1_seek 44 = .ok (.iconst 2, 1) := dAt dlX1_seek_0 25 rfl
theorem dX1_seek_45 : decode cX1_seek 45 = .ok (.idiv, 1) := dAt dlX1_seek_0 26 rfl
theorem dX1_seek_46 : decode cX1_seek 46 = .ok (.if_icmp .le 6, 3) := dAt dlX1_seek_0 27 rfl
theorem dX1_seek_49 : decode cX1_seek 49 = .ok (.goto 59, 3) := dAt dlX1_seek_0 28 rfl
theorem dX1_seek_52 : decode cX1_seek 52 = .ok (.iload_n 2, 1) := dAt dlX1_seek_0 29 rfl
theorem dX1_seek_53 : decode cX1_seek 53 = .ok (.ifCond .eq 12, 3) := dAt dlX1_seek_0 30 rfl
theorem dX1_seek_56 : decode cX1_seek 56 = .ok (.aload_n 1, 1) := dAt dlX1_seek_0 31 rfl
theorem dX1_seek_57 : decode cX1_seek 57 = .ok (.iload 4, 2) := dAt dlX1_seek_0 32 rfl
theorem dX1_seek_59 : decode cX1_seek 59 = .ok (.invokestatic 30, 3) := dAt dlX1_seek_0 33 rfl
theorem dX1_seek_62 : decode cX1_seek 62 = .ok (.goto 9, 3) := dAt dlX1_seek_0 34 rfl
theorem dX1_seek_65 : decode cX1_seek 65 = .ok (.aload_n 1, 1) := dAt dlX1_seek_0 35 rfl
theorem dX1_seek_66 : decode cX1_seek 66 = .ok (.iload 4, 2) := dAt dlX1_seek_0 36 rfl
theorem dX1_seek_68 : decode cX1_seek 68 = .ok (.invokestatic 34, 3) := dAt dlX1_seek_0 37 rfl
theorem dX1_seek_71 : decode cX1_seek 71 = .ok (.istore 6, 2) := dAt dlX1_seek_0 38 rfl
theorem dX1_seek_73 : decode cX1_seek 73 = .ok (.iload 6, 2) := dAt dlX1_seek_0 39 rfl
theorem dX1_seek_75 : decode cX1_seek 75 = .ok (.aload_n 0, 1) := dAt dlX1_seek_0 40 rfl
theorem dX1_seek_76 : decode cX1_seek 76 = .ok (.getfield 13, 3) := dAt dlX1_seek_0 41 rfl
theorem dX1_seek_79 : decode cX1_seek 79 = .ok (.imul, 1) := dAt dlX1_seek_0 42 rfl
theorem dX1_seek_80 : decode cX1_seek 80 = .ok (.aload_n 0, 1) := dAt dlX1_seek_0 43 rfl
theorem dX1_seek_81 : decode cX1_seek 81 = .ok (.getfield 7, 3) := dAt dlX1_seek_0 44 rfl
theorem dX1_seek_84 : decode cX1_seek 84 = .ok (.iload 5, 2) := dAt dlX1_seek_0 45 rfl
theorem dX1_seek_86 : decode cX1_seek 86 = .ok (.imul, 1) := dAt dlX1_seek_0 46 rfl
theorem dX1_seek_87 : decode cX1_seek 87 = .ok (.if_icmp .ge 21, 3) := dAt dlX1_seek_0 47 rfl
theorem dX1_seek_90 : decode cX1_seek 90 = .ok (.aload_n 0, 1) := dAt dlX1_seek_0 48 rfl
theorem dX1_seek_91 : decode cX1_seek 91 = .ok (.iload 6, 2) := dAt dlX1_seek_0 49 rfl
theorem dX1_seek_93 : decode cX1_seek 93 = .ok (.putfield 7, 3) := dAt dlX1_seek_0 50 rfl
theorem dX1_seek_96 : decode cX1_seek 96 = .ok (.aload_n 0, 1) := dAt dlX1_seek_0 51 rfl
theorem dX1_seek_97 : decode cX1_seek 97 = .ok (.iload 5, 2) := dAt dlX1_seek_0 52 rfl
theorem dX1_seek_99 : decode cX1_seek 99 = .ok (.putfield 13, 3) := dAt dlX1_seek_0 53 rfl
theorem dX1_seek_102 : decode cX1_seek 102 = .ok (.aload_n 0, 1) := dAt dlX1_seek_0 54 rfl
theorem dX1_seek_103 : decode cX1_seek 103 = .ok (.iload 4, 2) := dAt dlX1_seek_0 55 rfl
theorem dX1_seek_105 : decode cX1_seek 105 = .ok (.putfield 16, 3) := dAt dlX1_seek_0 56 rfl
theorem dX1_seek_108 : decode cX1_seek 108 = .ok (.iinc 4 1, 3) := dAt dlX1_seek_0 57 rfl
theorem dX1_seek_111 : decode cX1_seek 111 = .ok (.goto (-86), 3) := dAt dlX1_seek_0 58 rfl
theorem dX1_seek_114 : decode cX1_seek 114 = .ok (.return_, 1) := dAt dlX1_seek_0 59 rfl
def ilX1_knotsOut_0 : List (Nat × Instr × Nat) := [(0, .aload_n 0, 1), (1, .iload_n 1, 1), (2, .invokevirtual 37, 3), (5, .iload_n 1, 1), (6, .iconst (-1), 1), (7, .ixor, 1), (8, .iand, 1), (9, .invokestatic 24, 3), (12, .ireturn, 1)]
theorem dlX1_knotsOut_0 : dOK cX1_knotsOut ilX1_knotsOut_0 = true := by decide +kernel
theorem dX1_knotsOut_0 : decode cX1_knotsOut 0 = .ok (.aload_n 0, 1) := dAt dlX1_knotsOut_0 0 rfl
theorem dX1_knotsOut_1 : decode cX1_knotsOut 1 = .ok (.iload_n 1, 1) := dAt dlX1_knotsOut_0 1 rfl
theorem dX1_knotsOut_2 : decode cX1_knotsOut 2 = .ok (.invokevirtual 37, 3) := dAt dlX1_knotsOut_0 2 rfl
theorem dX1_knotsOut_5 : decode cX1_knotsOut 5 = .ok (.iload_n 1, 1) := dAt dlX1_knotsOut_0 3 rfl
theorem dX1_knotsOut_6 : decode cX1_knotsOut 6 = .ok (.iconst (-1), 1) := dAt dlX1_knotsOut_0 4 rfl
theorem dX1_knotsOut_7 : decode cX1_knotsOut 7 = .ok (.ixor, 1) := dAt dlX1_knotsOut_0 5 rfl
theorem dX1_knotsOut_8 : decode cX1_knotsOut 8 = .ok (.iand, 1) := dAt dlX1_knotsOut_0 6 rfl
theorem dX1_knotsOut_9 : decode cX1_knotsOut 9 = .ok (.invokestatic 24, 3) := dAt dlX1_knotsOut_0 7 rfl
theorem dX1_knotsOut_12 : decode cX1_knotsOut 12 = .ok (.ireturn, 1) := dAt dlX1_knotsOut_0 8 rfl
def ilX1_linesOut_0 : List (Nat × Instr × Nat) := [(0, .iconst 0, 1), (1, .istore_n 2, 1), (2, .iconst 0, 1), (3, .istore_n 3, 1), (4, .iload_n 3, 1), (5, .aload_n 0, 1), (6, .getfield 19, 3), (9, .if_icmp .ge 34, 3), (12, .iload_n 1, 1), (13, .iload_n 3, 1), (14, .ishr, 1), (15, .iconst 1, 1), (16, .iand, 1), (17, .iconst 1, 1), (18, .if_icmp .ne 19, 3), (21, .iload_n 2, 1), (22, .aload_n 0, 1), (23, .getfield 40, 3), (26, .iload_n 3, 1), (27, .iaload, 1), (28, .iload_n 1, 1), (29, .iconst (-1), 1), (30, .ixor, 1), (31, .iand, 1), (32, .invokestatic 24, 3), (35, .iadd, 1), (36, .istore_n 2, 1), (37, .iinc 3 1, 3), (40, .goto (-36), 3), (43, .iload_n 2, 1), (44, .ireturn, 1)]
theorem dlX1_linesOut_0 : dOK cX1_linesOut ilX1_linesOut_0 = true := by decide +kernel
theorem dX1_linesOut_0 : decode cX1_linesOut 0 = .ok (.iconst 0, 1) := dAt dlX1_linesOut_0 0 rfl
theorem dX1_linesOut_1 : decode cX1_linesOut 1 = .ok (.istore_n 2, 1) := dAt dlX1_linesOut_0 1 rfl
theorem dX1_linesOut_2 : decode cX1_linesOut 2 = .ok (.iconst 0, 1) := dAt dlX1_linesOut_0 2 rfl
theorem dX1_linesOut_3 : decode cX1_linesOut 3 = .ok (.istore_n 3, 1) := dAt dlX1_linesOut_0 3 rfl
theorem dX1_linesOut_4 : decode cX1_linesOut 4 = .ok (.iload_n 3, 1) := dAt dlX1_linesOut_0 4 rfl
theorem dX1_linesOut_5 : decode cX1_linesOut 5 = .ok (.aload_n 0, 1) := dAt dlX1_linesOut_0 5 rfl
theorem dX1_linesOut_6 : decode cX1_linesOut 6 = .ok (.getfield 19, 3) := dAt dlX1_linesOut_0 6 rfl
theorem dX1_linesOut_9 : decode cX1_linesOut 9 = .ok (.if_icmp .ge 34, 3) := dAt dlX1_linesOut_0 7 rfl
theorem dX1_linesOut_12 : decode cX1_linesOut 12 = .ok (.iload_n 1, 1) := dAt dlX1_linesOut_0 8 rfl
theorem dX1_linesOut_13 : decode cX1_linesOut 13 = .ok (.iload_n 3, 1) := dAt dlX1_linesOut_0 9 rfl
theorem dX1_linesOut_14 : decode cX1_linesOut 14 = .ok (.ishr, 1) := dAt dlX1_linesOut_0 10 rfl
theorem dX1_linesOut_15 : decode cX1_linesOut 15 = .ok (.iconst 1, 1) := dAt dlX1_linesOut_0 11 rfl
theorem dX1_linesOut_16 : decode cX1_linesOut 16 = .ok (.iand, 1) := dAt dlX1_linesOut_0 12 rfl
theorem dX1_linesOut_17 : decode cX1_linesOut 17 = .ok (.iconst 1, 1) := dAt dlX1_linesOut_0 13 rfl
theorem dX1_linesOut_18 : decode cX1_linesOut 18 = .ok (.if_icmp .ne 19, 3) := dAt dlX1_linesOut_0 14 rfl
theorem dX1_linesOut_21 : decode cX1_linesOut 21 = .ok (.iload_n 2, 1) := dAt dlX1_linesOut_0 15 rfl
theorem dX1_linesOut_22 : decode cX1_linesOut 22 = .ok (.aload_n 0, 1) := dAt dlX1_linesOut_0 16 rfl
theorem dX1_linesOut_23 : decode cX1_linesOut 23 = .ok (.getfield 40, 3) := dAt dlX1_linesOut_0 17 rfl
theorem dX1_linesOut_26 : decode cX1_linesOut 26 = .ok (.iload_n 3, 1) := dAt dlX1_linesOut_0 18 rfl
theorem dX1_linesOut_27 : decode cX1_linesOut 27 = .ok (.iaload, 1) := dAt dlX1_linesOut_0 19 rfl
theorem dX1_linesOut_28 : decode cX1_linesOut 28 = .ok (.iload_n 1, 1) := dAt dlX1_linesOut_0 20 rfl
theorem dX1_linesOut_29 : decode cX1_linesOut 29 = .ok (.iconst (-1), 1) := dAt dlX1_linesOut_0 21 rfl
theorem dX1_linesOut_30 : decode cX1_linesOut 30 = .ok (.ixor, 1) := dAt dlX1_linesOut_0 22 rfl
theorem dX1_linesOut_31 : decode cX1_linesOut 31 = .ok (.iand, 1) := dAt dlX1_linesOut_0 23 rfl
theorem dX1_linesOut_32 : decode cX1_linesOut 32 = .ok (.invokestatic 24, 3) := dAt dlX1_linesOut_0 24 rfl
theorem dX1_linesOut_35 : decode cX1_linesOut 35 = .ok (.iadd, 1) := dAt dlX1_linesOut_0 25 rfl
theorem dX1_linesOut_36 : decode cX1_linesOut 36 = .ok (.istore_n 2, 1) := dAt dlX1_linesOut_0 26 rfl
theorem dX1_linesOut_37 : decode cX1_linesOut 37 = .ok (.iinc 3 1, 3) := dAt dlX1_linesOut_0 27 rfl
theorem dX1_linesOut_40 : decode cX1_linesOut 40 = .ok (.goto (-36), 3) := dAt dlX1_linesOut_0 28 rfl
theorem dX1_linesOut_43 : decode cX1_linesOut 43 = .ok (.iload_n 2, 1) := dAt dlX1_linesOut_0 29 rfl
theorem dX1_linesOut_44 : decode cX1_linesOut 44 = .ok (.ireturn, 1) := dAt dlX1_linesOut_0 30 rfl
def ilX2_init_0 : List (Nat × Instr × Nat) := [(0, .aload_n 0, 1), (1, .invokespecial 3, 3), (4, .aload_n 0, 1), (5, .iconst 1, 1), (6, .putfield 9, 3), (9, .aload_n 0, 1), (10, .bipush 10, 2), (12, .newarray .int, 2), (14, .putfield 15, 3), (17, .return_, 1)]
theorem dlX2_init_0 : dOK cX2_init ilX2_init_0 = true := by decide +kernel
theorem dX2_init_0 : decode cX2_init 0 = .ok (.aload_n 0, 1) := dAt dlX2_init_0 0 rfl
theorem dX2_init_1 : decode cX2_init 1 = .ok (.invokespecial 3, 3) := dAt dlX2_init_0 1 rfl
theorem dX2_init_4 : decode cX2_init 4 = .ok (.aload_n 0, 1) := dAt dlX2_init_0 2 rfl
theorem dX2_init_5 : decode cX2_init 5 = .ok (.iconst 1, 1) := dAt dlX2_init_0 3 rfl
theorem dX2_init_6 : decode cX2_init 6 = .ok (.putfield 9, 3) := dAt dlX2_init_0 4 rfl
theorem dX2_init_9 : decode cX2_init 9 = .ok (.aload_n 0, 1) := dAt dlX2_init_0 5 rfl
theorem dX2_init_10 : decode cX2_init 10 = .ok (.bipush 10, 2) := dAt dlX2_init_0 6 rfl
theorem dX2_init_12 : decode cX2_init 12 = .ok (.newarray .int, 2) := dAt dlX2_init_0 7 rfl
theorem dX2_init_14 : decode cX2_init 14 = .ok (.putfield 15, 3) := dAt dlX2_init_0 8 rfl
theorem dX2_init_17 : decode cX2_init 17 = .ok (.return_, 1) := dAt dlX2_init_0 9 rfl
def ilX2_hasKnot_0 : List (Nat × Instr × Nat) := [(0, .iload_n 1, 1), (1, .ifCond .lt 15, 3), (4, .iload_n 1, 1), (5, .aload_n 0, 1), (6, .getfield 9, 3), (9, .if_icmp .ge 7, 3), (12, .iconst 1, 1), (13, .goto 4, 3), (16, .iconst 0, 1), (17, .ireturn, 1)]
theorem dlX2_hasKnot_0 : dOK cX2_hasKnot ilX2_hasKnot_0 = true := by decide +kernel
theorem dX2_hasKnot_0 : decode cX2_hasKnot 0 = .ok (.iload_n 1, 1) := dAt dlX2_hasKnot_0 0 rfl
theorem dX2_hasKnot_1 : decode cX2_hasKnot 1 = .ok (.ifCond .lt 15, 3) := dAt dlX2_hasKnot_0 1 rfl
theorem dX2_hasKnot_4 : decode cX2_hasKnot 4 = .ok (.iload_n 1, 1) := dAt dlX2_hasKnot_0 2 rfl
theorem dX2_hasKnot_5 : decode cX2_hasKnot 5 = .ok (.aload_n 0, 1) := dAt dlX2_hasKnot_0 3 rfl
theorem dX2_hasKnot_6 : decode cX2_hasKnot 6 = .ok (.getfield 9, 3) := dAt dlX2_hasKnot_0 4 rfl
theorem dX2_hasKnot_9 : decode cX2_hasKnot 9 = .ok (.if_icmp .ge 7, 3) := dAt dlX2_hasKnot_0 5 rfl
theorem dX2_hasKnot_12 : decode cX2_hasKnot 12 = .ok (.iconst 1, 1) := dAt dlX2_hasKnot_0 6 rfl
theorem dX2_hasKnot_13 : decode cX2_hasKnot 13 = .ok (.goto 4, 3) := dAt dlX2_hasKnot_0 7 rfl
theorem dX2_hasKnot_16 : decode cX2_hasKnot 16 = .ok (.iconst 0, 1) := dAt dlX2_hasKnot_0 8 rfl
theorem dX2_hasKnot_17 : decode cX2_hasKnot 17 = .ok (.ireturn, 1) := dAt dlX2_hasKnot_0 9 rfl
def ilX2_hasKnots_0 : List (Nat × Instr × Nat) := [(0, .aload_n 0, 1), (1, .iload_n 1, 1), (2, .invokevirtual 19, 3), (5, .ifCond .eq 15, 3), (8, .aload_n 0, 1), (9, .iload_n 2, 1), (10, .invokevirtual 19, 3), (13, .ifCond .eq 7, 3), (16, .iconst 1, 1), (17, .goto 4, 3), (20, .iconst 0, 1), (21, .ireturn, 1)]
theorem dlX2_hasKnots_0 : dOK cX2_hasKnots ilX2_hasKnots_0 = true := by decide +kernel
theorem dX2_hasKnots_0 : decode cX2_hasKnots 0 = .ok (.aload_n 0, 1) := dAt dlX2_hasKnots_0 0 rfl
theorem dX2_hasKnots_1 : decode cX2_hasKnots 1 = .ok (.iload_n 1, 1) := dAt dlX2_hasKnots_0 1 rfl
theorem dX2_hasKnots_2 : decode cX2_hasKnots 2 = .ok (.invokevirtual 19, 3) := dAt dlX2_hasKnots_0 2 rfl
theorem dX2_hasKnots_5 : decode cX2_hasKnots 5 = .ok (.ifCond .eq 15, 3) := dAt dlX2_hasKnots_0 3 rfl
theorem dX2_hasKnots_8 : decode cX2_hasKnots 8 = .ok (.aload_n 0, 1) := dAt dlX2_hasKnots_0 4 rfl
theorem dX2_hasKnots_9 : decode cX2_hasKnots 9 = .ok (.iload_n 2, 1) := dAt dlX2_hasKnots_0 5 rfl
theorem dX2_hasKnots_10 : decode cX2_hasKnots 10 = .ok (.invokevirtual 19, 3) := dAt dlX2_hasKnots_0 6 rfl
theorem dX2_hasKnots_13 : decode cX2_hasKnots 13 = .ok (.ifCond .eq 7, 3) := dAt dlX2_hasKnots_0 7 rfl
theorem dX2_hasKnots_16 : decode cX2_hasKnots 16 = .ok (.iconst 1, 1) := dAt dlX2_hasKnots_0 8 rfl
theorem dX2_hasKnots_17 : decode cX2_hasKnots 17 = .ok (.goto 4, 3) := dAt dlX2_hasKnots_0 9 rfl
theorem dX2_hasKnots_20 : decode cX2_hasKnots 20 = .ok (.iconst 0, 1) := dAt dlX2_hasKnots_0 10 rfl
theorem dX2_hasKnots_21 : decode cX2_hasKnots 21 = .ok (.ireturn, 1) := dAt dlX2_hasKnots_0 11 rfl
def ilX2_hasUnlikeKnots_0 : List (Nat × Instr × Nat) := [(0, .aload_n 0, 1), (1, .iload_n 1, 1), (2, .iload_n 2, 1), (3, .invokevirtual 23, 3), (6, .ifCond .eq 12, 3), (9, .iload_n 1, 1), (10, .iload_n 2, 1), (11, .if_icmp .eq 7, 3), (14, .iconst 1, 1), (15, .goto 4, 3), (18, .iconst 0, 1), (19, .ireturn, 1)]
theorem dlX2_hasUnlikeKnots_0 : dOK cX2_hasUnlikeKnots ilX2_hasUnlikeKnots_0 = true := by decide +kernel
theorem dX2_hasUnlikeKnots_0 : decode cX2_hasUnlikeKnots 0 = .ok (.aload_n 0, 1) := dAt dlX2_hasUnlikeKnots_0 0 rfl
theorem dX2_hasUnlikeKnots_1 : decode cX2_hasUnlikeKnots 1 = .ok (.iload_n 1, 1) := dAt dlX2_hasUnlikeKnots_0 1 rfl
theorem dX2_hasUnlikeKnots_2 : decode cX2_hasUnlikeKnots 2 = .ok (.iload_n 2, 1) := dAt dlX2_hasUnlikeKnots_0 2 rfl
theorem dX2_hasUnlikeKnots_3 : decode cX2_hasUnlikeKnots 3 = .ok (.invokevirtual 23, 3) := dAt dlX2_hasUnlikeKnots_0 3 rfl
theorem dX2_hasUnlikeKnots_6 : decode cX2_hasUnlikeKnots 6 = .ok (.ifCond .eq 12, 3) := dAt dlX2_hasUnlikeKnots_0 4 rfl
theorem dX2_hasUnlikeKnots_9 : decode cX2_hasUnlikeKnots 9 = .ok (.iload_n 1, 1) := dAt dlX2_hasUnlikeKnots_0 5 rfl
theorem dX2_hasUnlikeKnots_10 : decode cX2_hasUnlikeKnots 10 = .ok (.iload_n 2, 1) := dAt dlX2_hasUnlikeKnots_0 6 rfl
theorem dX2_hasUnlikeKnots_11 : decode cX2_hasUnlikeKnots 11 = .ok (.if_icmp .eq 7, 3) := dAt dlX2_hasUnlikeKnots_0 7 rfl
theorem dX2_hasUnlikeKnots_14 : decode cX2_hasUnlikeKnots 14 = .ok (.iconst 1, 1) := dAt dlX2_hasUnlikeKnots_0 8 rfl
theorem dX2_hasUnlikeKnots_15 : decode cX2_hasUnlikeKnots 15 = .ok (.goto 4, 3) := dAt dlX2_hasUnlikeKnots_0 9 rfl
theorem dX2_hasUnlikeKnots_18 : decode cX2_hasUnlikeKnots 18 = .ok (.iconst 0, 1) := dAt dlX2_hasUnlikeKnots_0 10 rfl
theorem dX2_hasUnlikeKnots_19 : decode cX2_hasUnlikeKnots 19 = .ok (.ireturn, 1) := dAt dlX2_hasUnlikeKnots_0 11 rfl
def ilX2_hasSet_0 : List (Nat × Instr × Nat) := [(0, .iload_n 1, 1), (1, .ifCond .lt 16, 3), (4, .iload_n 1, 1), (5, .aload_n 0, 1), (6, .getfield 9, 3), (9, .ishr, 1), (10, .ifCond .ne 7, 3), (13, .iconst 1, 1), (14, .goto 4, 3), (17, .iconst 0, 1), (18, .ireturn, 1)]
theorem dlX2_hasSet_0 : dOK cX2_hasSet ilX2_hasSet_0 = true := by decide +kernel
theorem dX2_hasSet_0 : decode cX2_hasSet 0 = .ok (.iload_n 1, 1) := dAt dlX2_hasSet_0 0 rfl
theorem dX2_hasSet_1 : decode cX2_hasSet 1 = .ok (.ifCond .lt 16, 3) := dAt dlX2_hasSet_0 1 rfl
theorem dX2_hasSet_4 : decode cX2_hasSet 4 = .ok (.iload_n 1, 1) := dAt dlX2_hasSet_0 2 rfl
theorem dX2_hasSet_5 : decode cX2_hasSet 5 = .ok (.aload_n 0, 1) := dAt dlX2_hasSet_0 3 rfl
theorem dX2_hasSet_6 : decode cX2_hasSet 6 = .ok (.getfield 9, 3) := dAt dlX2_hasSet_0 4 rfl
theorem dX2_hasSet_9 : decode cX2_hasSet 9 = .ok (.ishr, 1) := dAt dlX2_hasSet_0 5 rfl
theorem dX2_hasSet_10 : decode cX2_hasSet 10 = .ok (.ifCond .ne 7, 3) := dAt dlX2_hasSet_0 6 rfl
theorem dX2_hasSet_13 : decode cX2_hasSet 13 = .ok (.iconst 1, 1) := dAt dlX2_hasSet_0 7 rfl
theorem dX2_hasSet_14 : decode cX2_hasSet 14 = .ok (.goto 4, 3) := dAt dlX2_hasSet_0 8 rfl
theorem dX2_hasSet_17 : decode cX2_hasSet 17 = .ok (.iconst 0, 1) := dAt dlX2_hasSet_0 9 rfl
theorem dX2_hasSet_18 : decode cX2_hasSet 18 = .ok (.ireturn, 1) := dAt dlX2_hasSet_0 10 rfl
def ilX2_hasWord_0 : List (Nat × Instr × Nat) := [(0, .lload_n 1, 1), (1, .aload_n 0, 1), (2, .invokevirtual 27, 3), (5, .lushr, 1), (6, .lconst 0, 1), (7, .lcmp, 1), (8, .ifCond .ne 7, 3), (11, .iconst 1, 1), (12, .goto 4, 3), (15, .iconst 0, 1), (16, .ireturn, 1)]
theorem dlX2_hasWord_0 : dOK cX2_hasWord ilX2_hasWord_0 = true := by decide +kernel
theorem dX2_hasWord_0 : decode cX2_hasWord 0 = .ok (.lload_n 1, 1) := dAt dlX2_hasWord_0 0 rfl
theorem dX2_hasWord_1 : decode cX2_hasWord 1 = .ok (.aload_n 0, 1) := dAt dlX2_hasWord_0 1 rfl
theorem dX2_hasWord_2 : decode cX2_hasWord 2 = .ok (.invokevirtual 27, 3) := dAt dlX2_hasWord_0 2 rfl
theorem dX2_hasWord_5 : decode cX2_hasWord 5 = .ok (.lushr, 1) := dAt dlX2_hasWord_0 3 rfl
theorem dX2_hasWord_6 : decode cX2_hasWord 6 = .ok (.lconst 0, 1) := dAt dlX2_hasWord_0 4 rfl
theorem dX2_hasWord_7 : decode cX2_hasWord 7 = .ok (.lcmp, 1) := dAt dlX2_hasWord_0 5 rfl
theorem dX2_hasWord_8 : decode cX2_hasWord 8 = .ok (.ifCond .ne 7, 3) := dAt dlX2_hasWord_0 6 rfl
theorem dX2_hasWord_11 : decode cX2_hasWord 11 = .ok (.iconst 1, 1) := dAt dlX2_hasWord_0 7 rfl
theorem dX2_hasWord_12 : decode cX2_hasWord 12 = .ok (.goto 4, 3) := dAt dlX2_hasWord_0 8 rfl
theorem dX2_hasWord_15 : decode cX2_hasWord 15 = .ok (.iconst 0, 1) := dAt dlX2_hasWord_0 9 rfl
theorem dX2_hasWord_16 : decode cX2_hasWord 16 = .ok (.ireturn, 1) := dAt dlX2_hasWord_0 10 rfl
def ilX2_joins_0 : List (Nat × Instr × Nat) := [(0, .aload_n 0, 1), (1, .getfield 15, 3), (4, .iload_n 1, 1), (5, .iaload, 1), (6, .iload_n 2, 1), (7, .ishr, 1), (8, .iconst 1, 1), (9, .iand, 1), (10, .iconst 1, 1), (11, .if_icmp .ne 7, 3), (14, .iconst 1, 1), (15, .goto 4, 3), (18, .iconst 0, 1), (19, .ireturn, 1)]
theorem dlX2_joins_0 : dOK cX2_joins ilX2_joins_0 = true := by decide +kernel
theorem dX2_joins_0 : decode cX2_joins 0 = .ok (.aload_n 0, 1) := dAt dlX2_joins_0 0 rfl
theorem dX2_joins_1 : decode cX2_joins 1 = .ok (.getfield 15, 3) := dAt dlX2_joins_0 1 rfl
theorem dX2_joins_4 : decode cX2_joins 4 = .ok (.iload_n 1, 1) := dAt dlX2_joins_0 2 rfl
theorem dX2_joins_5 : decode cX2_joins 5 = .ok (.iaload, 1) := dAt dlX2_joins_0 3 rfl
theorem dX2_joins_6 : decode cX2_joins 6 = .ok (.iload_n 2, 1) := dAt dlX2_joins_0 4 rfl
theorem dX2_joins_7 : decode cX2_joins 7 = .ok (.ishr, 1) := dAt dlX2_joins_0 5 rfl
theorem dX2_joins_8 : decode cX2_joins 8 = .ok (.iconst 1, 1) := dAt dlX2_joins_0 6 rfl
theorem dX2_joins_9 : decode cX2_joins 9 = .ok (.iand, 1) := dAt dlX2_joins_0 7 rfl
theorem dX2_joins_10 : decode cX2_joins 10 = .ok (.iconst 1, 1) := dAt dlX2_joins_0 8 rfl
theorem dX2_joins_11 : decode cX2_joins 11 = .ok (.if_icmp .ne 7, 3) := dAt dlX2_joins_0 9 rfl
theorem dX2_joins_14 : decode cX2_joins 14 = .ok (.iconst 1, 1) := dAt dlX2_joins_0 10 rfl
theorem dX2_joins_15 : decode cX2_joins 15 = .ok (.goto 4, 3) := dAt dlX2_joins_0 11 rfl
theorem dX2_joins_18 : decode cX2_joins 18 = .ok (.iconst 0, 1) := dAt dlX2_joins_0 12 rfl
theorem dX2_joins_19 : decode cX2_joins 19 = .ok (.ireturn, 1) := dAt dlX2_joins_0 13 rfl
def ilX2_startWith_0 : List (Nat × Instr × Nat) := [(0, .aload_n 0, 1), (1, .iload_n 1, 1), (2, .putfield 9, 3), (5, .aload_n 0, 1), (6, .getfield 15, 3), (9, .iconst 0, 1), (10, .invokestatic 31, 3), (13, .return_, 1)]
theorem dlX2_startWith_0 : dOK cX2_startWith ilX2_startWith_0 = true := by decide +kernel
theorem dX2_startWith_0 : decode cX2_startWith 0 = .ok (.aload_n 0, 1) := dAt dlX2_startWith_0 0 rfl
theorem dX2_startWith_1 : decode cX2_startWith 1 = .ok (.iload_n 1, 1) := dAt dlX2_startWith_0 1 rfl
theorem dX2_startWith_2 : decode cX2_startWith 2 = .ok (.putfield 9, 3) := dAt dlX2_startWith_0 2 rfl
theorem dX2_startWith_5 : decode cX2_startWith 5 = .ok (.aload_n 0, 1) := dAt dlX2_startWith_0 3 rfl
theorem dX2_startWith_6 : decode cX2_startWith 6 = .ok (.getfield 15, 3) := dAt dlX2_startWith_0 4 rfl
theorem dX2_startWith_9 : decode cX2_startWith 9 = .ok (.iconst 0, 1) := dAt dlX2_startWith_0 5 rfl
theorem dX2_startWith_10 : decode cX2_startWith 10 = .ok (.invokestatic 31, 3) := dAt dlX2_startWith_0 6 rfl
theorem dX2_startWith_13 : decode cX2_startWith 13 = .ok (.return_, 1) := dAt dlX2_startWith_0 7 rfl
def ilX2_join_0 : List (Nat × Instr × Nat) := [(0, .aload_n 0, 1), (1, .getfield 15, 3), (4, .iload_n 1, 1), (5, .dup2, 1), (6, .iaload, 1), (7, .iconst 1, 1), (8, .iload_n 2, 1), (9, .ishl, 1), (10, .ior, 1), (11, .iastore, 1), (12, .aload_n 0, 1), (13, .getfield 15, 3), (16, .iload_n 2, 1), (17, .dup2, 1), (18, .iaload, 1), (19, .iconst 1, 1), (20, .iload_n 1, 1), (21, .ishl, 1), (22, .ior, 1), (23, .iastore, 1), (24, .return_, 1)]
theorem dlX2_join_0 : dOK cX2_join ilX2_join_0 = true := by decide +kernel
theorem dX2_join_0 : decode cX2_join 0 = .ok (.aload_n 0, 1) := dAt dlX2_join_0 0 rfl
theorem dX2_join_1 : decode cX2_join 1 = .ok (.getfield 15, 3) := dAt dlX2_join_0 1 rfl
theorem dX2_join_4 : decode cX2_join 4 = .ok (.iload_n 1, 1) := dAt dlX2_join_0 2 rfl
theorem dX2_join_5 : decode cX2_join 5 = .ok (.dup2, 1) := dAt dlX2_join_0 3 rfl
theorem dX2_join_6 : decode cX2_join 6 = .ok (.iaload, 1) := dAt dlX2_join_0 4 rfl
theorem dX2_join_7 : decode cX2_join 7 = .ok (.iconst 1, 1) := dAt dlX2_join_0 5 rfl
theorem dX2_join_8 : decode cX2_join 8 = .ok (.iload_n 2, 1) := dAt dlX2_join_0 6 rfl
theorem dX2_join_9 : decode cX2_join 9 = .ok (.ishl, 1) := dAt dlX2_join_0 7 rfl
theorem dX2_join_10 : decode cX2_join 10 = .ok (.ior, 1) := dAt dlX2_join_0 8 rfl
theorem dX2_join_11 : decode cX2_join 11 = .ok (.iastore, 1) := dAt dlX2_join_0 9 rfl
theorem dX2_join_12 : decode cX2_join 12 = .ok (.aload_n 0, 1) := dAt dlX2_join_0 10 rfl
theorem dX2_join_13 : decode cX2_join 13 = .ok (.getfield 15, 3) := dAt dlX2_join_0 11 rfl
theorem dX2_join_16 : decode cX2_join 16 = .ok (.iload_n 2, 1) := dAt dlX2_join_0 12 rfl
theorem dX2_join_17 : decode cX2_join 17 = .ok (.dup2, 1) := dAt dlX2_join_0 13 rfl
theorem dX2_join_18 : decode cX2_join 18 = .ok (.iaload, 1) := dAt dlX2_join_0 14 rfl
theorem dX2_join_19 : decode cX2_join 19 = .ok (.iconst 1, 1) := dAt dlX2_join_0 15 rfl
theorem dX2_join_20 : decode cX2_join 20 = .ok (.iload_n 1, 1) := dAt dlX2_join_0 16 rfl
theorem dX2_join_21 : decode cX2_join 21 = .ok (.ishl, 1) := dAt dlX2_join_0 17 rfl
theorem dX2_join_22 : decode cX2_join 22 = .ok (.ior, 1) := dAt dlX2_join_0 18 rfl
theorem dX2_join_23 : decode cX2_join 23 = .ok (.iastore, 1) := dAt dlX2_join_0 19 rfl
theorem dX2_join_24 : decode cX2_join 24 = .ok (.return_, 1) := dAt dlX2_join_0 20 rfl
def ilX2_change_0 : List (Nat × Instr × Nat) := [(0, .aload_n 0, 1), (1, .getfield 15, 3), (4, .iload_n 1, 1), (5, .dup2, 1), (6, .iaload, 1), (7, .iconst 1, 1), (8, .iload_n 2, 1), (9, .ishl, 1), (10, .ixor, 1), (11, .iastore, 1), (12, .aload_n 0, 1), (13, .getfield 15, 3), (16, .iload_n 2, 1), (17, .dup2, 1), (18, .iaload, 1), (19, .iconst 1, 1), (20, .iload_n 1, 1), (21, .ishl, 1), (22, .ixor, 1), (23, .iastore, 1), (24, .return_, 1)]
theorem dlX2_change_0 : dOK cX2_change ilX2_change_0 = true := by decide +kernel
theorem dX2_change_0 : decode cX2_change 0 = .ok (.aload_n 0, 1) := dAt dlX2_change_0 0 rfl
theorem dX2_change_1 : decode cX2_change 1 = .ok (.getfield 15, 3) := dAt dlX2_change_0 1 rfl
theorem dX2_change_4 : decode cX2_change 4 = .ok (.iload_n 1, 1) := dAt dlX2_change_0 2 rfl
theorem dX2_change_5 : decode cX2_change 5 = .ok (.dup2, 1) := dAt dlX2_change_0 3 rfl
theorem dX2_change_6 : decode cX2_change 6 = .ok (.iaload, 1) := dAt dlX2_change_0 4 rfl
theorem dX2_change_7 : decode cX2_change 7 = .ok (.iconst 1, 1) := dAt dlX2_change_0 5 rfl
theorem dX2_change_8 : decode cX2_change 8 = .ok (.iload_n 2, 1) := dAt dlX2_change_0 6 rfl
theorem dX2_change_9 : decode cX2_change 9 = .ok (.ishl, 1) := dAt dlX2_change_0 7 rfl
theorem dX2_change_10 : decode cX2_change 10 = .ok (.ixor, 1) := dAt dlX2_change_0 8 rfl
theorem dX2_change_11 : decode cX2_change 11 = .ok (.iastore, 1) := dAt dlX2_change_0 9 rfl
theorem dX2_change_12 : decode cX2_change 12 = .ok (.aload_n 0, 1) := dAt dlX2_change_0 10 rfl
theorem dX2_change_13 : decode cX2_change 13 = .ok (.getfield 15, 3) := dAt dlX2_change_0 11 rfl
theorem dX2_change_16 : decode cX2_change 16 = .ok (.iload_n 2, 1) := dAt dlX2_change_0 12 rfl
theorem dX2_change_17 : decode cX2_change 17 = .ok (.dup2, 1) := dAt dlX2_change_0 13 rfl
theorem dX2_change_18 : decode cX2_change 18 = .ok (.iaload, 1) := dAt dlX2_change_0 14 rfl
theorem dX2_change_19 : decode cX2_change 19 = .ok (.iconst 1, 1) := dAt dlX2_change_0 15 rfl
theorem dX2_change_20 : decode cX2_change 20 = .ok (.iload_n 1, 1) := dAt dlX2_change_0 16 rfl
theorem dX2_change_21 : decode cX2_change 21 = .ok (.ishl, 1) := dAt dlX2_change_0 17 rfl
theorem dX2_change_22 : decode cX2_change 22 = .ok (.ixor, 1) := dAt dlX2_change_0 18 rfl
theorem dX2_change_23 : decode cX2_change 23 = .ok (.iastore, 1) := dAt dlX2_change_0 19 rfl
theorem dX2_change_24 : decode cX2_change 24 = .ok (.return_, 1) := dAt dlX2_change_0 20 rfl
def ilX2_becomeCopy_0 : List (Nat × Instr × Nat) := [(0, .aload_n 0, 1), (1, .aload_n 1, 1), (2, .getfield 9, 3), (5, .putfield 9, 3), (8, .aload_n 1, 1), (9, .getfield 15, 3), (12, .iconst 0, 1), (13, .aload_n 0, 1), (14, .getfield 15, 3), (17, .iconst 0, 1), (18, .bipush 10, 2), (20, .invokestatic 37, 3), (23, .return_, 1)]
theorem dlX2_becomeCopy_0 : dOK cX2_becomeCopy ilX2_becomeCopy_0 = true := by decide +kernel
theorem dX2_becomeCopy_0 : decode cX2_becomeCopy 0 = .ok (.aload_n 0, 1) := dAt dlX2_becomeCopy_0 0 rfl
theorem dX2_becomeCopy_1 : decode cX2_becomeCopy 1 = .ok (.aload_n 1, 1) := dAt dlX2_becomeCopy_0 1 rfl
theorem dX2_becomeCopy_2 : decode cX2_becomeCopy 2 = .ok (.getfield 9, 3) := dAt dlX2_becomeCopy_0 2 rfl
theorem dX2_becomeCopy_5 : decode cX2_becomeCopy 5 = .ok (.putfield 9, 3) := dAt dlX2_becomeCopy_0 3 rfl
theorem dX2_becomeCopy_8 : decode cX2_becomeCopy 8 = .ok (.aload_n 1, 1) := dAt dlX2_becomeCopy_0 4 rfl
theorem dX2_becomeCopy_9 : decode cX2_becomeCopy 9 = .ok (.getfield 15, 3) := dAt dlX2_becomeCopy_0 5 rfl
theorem dX2_becomeCopy_12 : decode cX2_becomeCopy 12 = .ok (.iconst 0, 1) := dAt dlX2_becomeCopy_0 6 rfl
theorem dX2_becomeCopy_13 : decode cX2_becomeCopy 13 = .ok (.aload_n 0, 1) := dAt dlX2_becomeCopy_0 7 rfl
theorem dX2_becomeCopy_14 : decode cX2_becomeCopy 14 = .ok (.getfield 15, 3) := dAt dlX2_becomeCopy_0 8 rfl
theorem dX2_becomeCopy_17 : decode cX2_becomeCopy 17 = .ok (.iconst 0, 1) := dAt dlX2_becomeCopy_0 9 rfl
theorem dX2_becomeCopy_18 : decode cX2_becomeCopy 18 = .ok (.bipush 10, 2) := dAt dlX2_becomeCopy_0 10 rfl
theorem dX2_becomeCopy_20 : decode cX2_becomeCopy 20 = .ok (.invokestatic 37, 3) := dAt dlX2_becomeCopy_0 11 rfl
theorem dX2_becomeCopy_23 : decode cX2_becomeCopy 23 = .ok (.return_, 1) := dAt dlX2_becomeCopy_0 12 rfl
def ilX2_becomeRing_0 : List (Nat × Instr × Nat) := [(0, .aload_n 0, 1), (1, .iload_n 1, 1), (2, .invokevirtual 43, 3), (5, .iconst 1, 1), (6, .istore_n 3, 1), (7, .iload_n 3, 1), (8, .iload_n 1, 1), (9, .iconst 2, 1), (10, .idiv, 1), (11, .if_icmp .gt 49, 3), (14, .iload_n 2, 1), (15, .iload_n 3, 1), (16, .iconst 1, 1), (17, .isub, 1), (18, .ishr, 1), (19, .iconst 1, 1), (20, .iand, 1), (21, .ifCond .ne 6, 3), (24, .goto 30, 3), (27, .iconst 0, 1), (28, .istore 4, 2), (30, .iload 4, 2), (32, .iload_n 1, 1), (33, .if_icmp .ge 21, 3), (36, .aload_n 0, 1), (37, .iload 4, 2), (39, .iload 4, 2), (41, .iload_n 3, 1), (42, .iadd, 1), (43, .iload_n 1, 1), (44, .irem, 1), (45, .invokevirtual 47, 3), (48, .iinc 4 1, 3), (51, .goto (-21), 3), (54, .iinc 3 1, 3), (57, .goto (-50), 3), (60, .return_, 1)]
theorem dlX2_becomeRing_0 : dOK cX2_becomeRing ilX2_becomeRing_0 = true := by decide +kernel
theorem dX2_becomeRing_0 : decode cX2_becomeRing 0 = .ok (.aload_n 0, 1) := dAt dlX2_becomeRing_0 0 rfl
theorem dX2_becomeRing_1 : decode cX2_becomeRing 1 = .ok (.iload_n 1, 1) := dAt dlX2_becomeRing_0 1 rfl
theorem dX2_becomeRing_2 : decode cX2_becomeRing 2 = .ok (.invokevirtual 43, 3) := dAt dlX2_becomeRing_0 2 rfl
theorem dX2_becomeRing_5 : decode cX2_becomeRing 5 = .ok (.iconst 1, 1) := dAt dlX2_becomeRing_0 3 rfl
theorem dX2_becomeRing_6 : decode cX2_becomeRing 6 = .ok (.istore_n 3, 1) := dAt dlX2_becomeRing_0 4 rfl
theorem dX2_becomeRing_7 : decode cX2_becomeRing 7 = .ok (.iload_n 3, 1) := dAt dlX2_becomeRing_0 5 rfl
theorem dX2_becomeRing_8 : decode cX2_becomeRing 8 = .ok (.iload_n 1, 1) := dAt dlX2_becomeRing_0 6 rfl
theorem dX2_becomeRing_9 : decode cX2_becomeRing 9 = .ok (.iconst 2, 1) := dAt dlX2_becomeRing_0 7 rfl
theorem dX2_becomeRing_10 : decode cX2_becomeRing 10 = .ok (.idiv, 1) := dAt dlX2_becomeRing_0 8 rfl
theorem dX2_becomeRing_11 : decode cX2_becomeRing 11 = .ok (.if_icmp .gt 49, 3) := dAt dlX2_becomeRing_0 9 rfl
theorem dX2_becomeRing_14 : decode cX2_becomeRing 14 = .ok (.iload_n 2, 1) := dAt dlX2_becomeRing_0 10 rfl
theorem dX2_becomeRing_15 : decode cX2_becomeRing 15 = .ok (.iload_n 3, 1) := dAt dlX2_becomeRing_0 11 rfl
theorem dX2_becomeRing_16 : decode cX2_becomeRing 16 = .ok (.iconst 1, 1) := dAt dlX2_becomeRing_0 12 rfl
theorem dX2_becomeRing_17 : decode cX2_becomeRing 17 = .ok (.isub, 1) := dAt dlX2_becomeRing_0 13 rfl
theorem dX2_becomeRing_18 : decode cX2_becomeRing 18 = .ok (.ishr, 1) := dAt dlX2_becomeRing_0 14 rfl
theorem dX2_becomeRing_19 : decode cX2_becomeRing 19 = .ok (.iconst 1, 1) := dAt dlX2_becomeRing_0 15 rfl
theorem dX2_becomeRing_20 : decode cX2_becomeRing 20 = .ok (.iand, 1) := dAt dlX2_becomeRing_0 16 rfl
theorem dX2_becomeRing_21 : decode cX2_becomeRing 21 = .ok (.ifCond .ne 6, 3) := dAt dlX2_becomeRing_0 17 rfl
theorem dX2_becomeRing_24 : decode cX2_becomeRing 24 = .ok (.goto 30, 3) := dAt dlX2_becomeRing_0 18 rfl
theorem dX2_becomeRing_27 : decode cX2_becomeRing 27 = .ok (.iconst 0, 1) := dAt dlX2_becomeRing_0 19 rfl
theorem dX2_becomeRing_28 : decode cX2_becomeRing 28 = .ok (.istore 4, 2) := dAt dlX2_becomeRing_0 20 rfl
theorem dX2_becomeRing_30 : decode cX2_becomeRing 30 = .ok (.iload 4, 2) := dAt dlX2_becomeRing_0 21 rfl
theorem dX2_becomeRing_32 : decode cX2_becomeRing 32 = .ok (.iload_n 1, 1) := dAt dlX2_becomeRing_0 22 rfl
theorem dX2_becomeRing_33 : decode cX2_becomeRing 33 = .ok (.if_icmp .ge 21, 3) := dAt dlX2_becomeRing_0 23 rfl
theorem dX2_becomeRing_36 : decode cX2_becomeRing 36 = .ok (.aload_n 0, 1) := dAt dlX2_becomeRing_0 24 rfl
theorem dX2_becomeRing_37 : decode cX2_becomeRing 37 = .ok (.iload 4, 2) := dAt dlX2_becomeRing_0 25 rfl
theorem dX2_becomeRing_39 : decode cX2_becomeRing 39 = .ok (.iload 4, 2) := dAt dlX2_becomeRing_0 26 rfl
theorem dX2_becomeRing_41 : decode cX2_becomeRing 41 = .ok (.iload_n 3, 1) := dAt dlX2_becomeRing_0 27 rfl
theorem dX2_becomeRing_42 : decode cX2_becomeRing 42 = .ok (.iadd, 1) := dAt dlX2_becomeRing_0 28 rfl
theorem dX2_becomeRing_43 : decode cX2_becomeRing 43 = .ok (.iload_n 1, 1) := dAt dlX2_becomeRing_0 29 rfl
theorem dX2_becomeRing_44 : decode cX2_becomeRing 44 = .ok (.irem, 1) := dAt dlX2_becomeRing_0 30 rfl
theorem dX2_becomeRing_45 : decode cX2_becomeRing 45 = .ok (.invokevirtual 47, 3) := dAt dlX2_becomeRing_0 31 rfl
theorem dX2_becomeRing_48 : decode cX2_becomeRing 48 = .ok (.iinc 4 1, 3) := dAt dlX2_becomeRing_0 32 rfl
theorem dX2_becomeRing_51 : decode cX2_becomeRing 51 = .ok (.goto (-21), 3) := dAt dlX2_becomeRing_0 33 rfl
theorem dX2_becomeRing_54 : decode cX2_becomeRing 54 = .ok (.iinc 3 1, 3) := dAt dlX2_becomeRing_0 34 rfl
theorem dX2_becomeRing_57 : decode cX2_becomeRing 57 = .ok (.goto (-50), 3) := dAt dlX2_becomeRing_0 35 rfl
theorem dX2_becomeRing_60 : decode cX2_becomeRing 60 = .ok (.return_, 1) := dAt dlX2_becomeRing_0 36 rfl
def ilX2_becomeProduct_0 : List (Nat × Instr × Nat) := [(0, .aload_n 2, 1), (1, .getfield 9, 3), (4, .istore_n 3, 1), (5, .aload_n 0, 1), (6, .aload_n 1, 1), (7, .getfield 9, 3), (10, .iload_n 3, 1), (11, .imul, 1), (12, .invokevirtual 43, 3), (15, .iconst 0, 1), (16, .istore 4, 2), (18, .iload 4, 2), (20, .aload_n 1, 1), (21, .getfield 9, 3), (24, .if_icmp .ge 100, 3), (27, .iconst 0, 1), (28, .istore 5, 2), (30, .iload 5, 2), (32, .iload_n 3, 1), (33, .if_icmp .ge 85, 3), (36, .iload_n 3, 1), (37, .iload 4, 2), (39, .imul, 1), (40, .iload 5, 2), (42, .iadd, 1), (43, .istore 6, 2), (45, .aload_n 0, 1), (46, .getfield 15, 3), (49, .iload 6, 2), (51, .aload_n 2, 1), (52, .getfield 15, 3), (55, .iload 5, 2), (57, .iaload, 1), (58, .iload_n 3, 1), (59, .iload 4, 2), (61, .imul, 1), (62, .ishl, 1), (63, .iastore, 1), (64, .iconst 0, 1), (65, .istore 7, 2), (67, .iload 7, 2), (69, .aload_n 1, 1), (70, .getfield 9, 3), (73, .if_icmp .ge 39, 3), (76, .aload_n 1, 1), (77, .iload 4, 2), (79, .iload 7, 2), (81, .invokevirtual 51, 3), (84, .ifCond .eq 22, 3), (87, .aload_n 0, 1), (88, .getfield 15, 3), (91, .iload 6, 2), (93, .dup2, 1), (94, .iaload, 1), (95, .iconst 1, 1), (96, .iload_n 3, 1), (97, .iload 7, 2), (99, .imul, 1), (100, .iload 5, 2), (102, .iadd, 1)]
theorem dlX2_becomeProduct_0 : dOK cX2_becomeProduct ilX2_becomeProduct_0 = true := by decide +kernel
theorem dX2_becomeProduct_0 : decode cX2_becomeProduct 0 = .ok (.aload_n 2, 1) := dAt dlX2_becomeProduct_0 0 rfl
theorem dX2_becomeProduct_1 : decode cX2_becomeProduct 1 = .ok (.getfield 9, 3) := dAt dlX2_becomeProduct_0 1 rfl
theorem dX2_becomeProduct_4 : decode cX2_becomeProduct 4 = .ok (.istore_n 3, 1) := dAt dlX2_becomeProduct_0 2 rfl
theorem dX2_becomeProduct_5 : decode cX2_becomeProduct 5 = .ok (.aload_n 0, 1) := dAt dlX2_becomeProduct_0 3 rfl
theorem dX2_becomeProduct_6 : decode cX2_becomeProduct 6 = .ok (.aload_n 1, 1) := dAt dlX2_becomeProduct_0 4 rfl
theorem dX2_becomeProduct_7 : decode cX2_becomeProduct 7 = .ok (.getfield 9, 3) := dAt dlX2_becomeProduct_0 5 rfl
theorem dX2_becomeProduct_10 : decode cX2_becomeProduct 10 = .ok (.iload_n 3, 1) := dAt dlX2_becomeProduct_0 6 rfl
theorem dX2_becomeProduct_11 : decode cX2_becomeProduct 11 = .ok (.imul, 1) := dAt dlX2_becomeProduct_0 7 rfl
theorem dX2_becomeProduct_12 : decode cX2_becomeProduct 12 = .ok (.invokevirtual 43, 3) := dAt dlX2_becomeProduct_0 8 rfl
theorem dX2_becomeProduct_15 : decode cX2_becomeProduct 15 = .ok (.iconst 0, 1) := dAt dlX2_becomeProduct_0 9 rfl
theorem dX2_becomeProduct_16 : decode cX2_becomeProduct 16 = .ok (.istore 4, 2) := dAt dlX2_becomeProduct_0 10 rfl
theorem dX2_becomeProduct_18 : decode cX2_becomeProduct 18 = .ok (.iload 4, 2) := dAt dlX2_becomeProduct_0 11 rfl
theorem dX2_becomeProduct_20 : decode cX2_becomeProduct 20 = .ok (.aload_n 1, 1) := dAt dlX2_becomeProduct_0 12 rfl
theorem dX2_becomeProduct_21 : decode cX2_becomeProduct 21 = .ok (.getfield 9, 3) := dAt dlX2_becomeProduct_0 13 rfl
theorem dX2_becomeProduct_24 : decode cX2_becomeProduct 24 = .ok (.if_icmp .ge 100, 3) := dAt dlX2_becomeProduct_0 14 rfl
theorem dX2_becomeProduct_27 : decode cX2_becomeProduct 27 = .ok (.iconst 0, 1) := dAt dlX2_becomeProduct_0 15 rfl
theorem dX2_becomeProduct_28 : decode cX2_becomeProduct 28 = .ok (.istore 5, 2) := dAt dlX2_becomeProduct_0 16 rfl
theorem dX2_becomeProduct_30 : decode cX2_becomeProduct 30 = .ok (.iload 5, 2) := dAt dlX2_becomeProduct_0 17 rfl
theorem dX2_becomeProduct_32 : decode cX2_becomeProduct 32 = .ok (.iload_n 3, 1) := dAt dlX2_becomeProduct_0 18 rfl
theorem dX2_becomeProduct_33 : decode cX2_becomeProduct 33 = .ok (.if_icmp .ge 85, 3) := dAt dlX2_becomeProduct_0 19 rfl
theorem dX2_becomeProduct_36 : decode cX2_becomeProduct 36 = .ok (.iload_n 3, 1) := dAt dlX2_becomeProduct_0 20 rfl
theorem dX2_becomeProduct_37 : decode cX2_becomeProduct 37 = .ok (.iload 4, 2) := dAt dlX2_becomeProduct_0 21 rfl
theorem dX2_becomeProduct_39 : decode cX2_becomeProduct 39 = .ok (.imul, 1) := dAt dlX2_becomeProduct_0 22 rfl
theorem dX2_becomeProduct_40 : decode cX2_becomeProduct 40 = .ok (.iload 5, 2) := dAt dlX2_becomeProduct_0 23 rfl
theorem dX2_becomeProduct_42 : decode cX2_becomeProduct 42 = .ok (.iadd, 1) := dAt dlX2_becomeProduct_0 24 rfl
theorem dX2_becomeProduct_43 : decode cX2_becomeProduct 43 = .ok (.istore 6, 2) := dAt dlX2_becomeProduct_0 25 rfl
theorem dX2_becomeProduct_45 : decode cX2_becomeProduct 45 = .ok (.aload_n 0, 1) := dAt dlX2_becomeProduct_0 26 rfl
theorem dX2_becomeProduct_46 : decode cX2_becomeProduct 46 = .ok (.getfield 15, 3) := dAt dlX2_becomeProduct_0 27 rfl
theorem dX2_becomeProduct_49 : decode cX2_becomeProduct 49 = .ok (.iload 6, 2) := dAt dlX2_becomeProduct_0 28 rfl
theorem dX2_becomeProduct_51 : decode cX2_becomeProduct 51 = .ok (.aload_n 2, 1) := dAt dlX2_becomeProduct_0 29 rfl
theorem dX2_becomeProduct_52 : decode cX2_becomeProduct 52 = .ok (.getfield 15, 3) := dAt dlX2_becomeProduct_0 30 rfl
theorem dX2_becomeProduct_55 : decode cX2_becomeProduct 55 = .ok (.iload 5, 2) := dAt dlX2_becomeProduct_0 31 rfl
theorem dX2_becomeProduct_57 : decode cX2_becomeProduct 57 = .ok (.iaload, 1) := dAt dlX2_becomeProduct_0 32 rfl
theorem dX2_becomeProduct_58 : decode cX2_becomeProduct 58 = .ok (.iload_n 3, 1) := dAt dlX2_becomeProduct_0 33 rfl
theorem dX2_becomeProduct_59 : decode cX2_becomeProduct 59 = .ok (.iload 4, 2) := dAt dlX2_becomeProduct_0 34 rfl
theorem dX2_becomeProduct_61 : decode cX2_becomeProduct 61 = .ok (.imul, 1) := dAt dlX2_becomeProduct_0 35 rfl
theorem dX2_becomeProduct_62 : decode cX2_becomeProduct 62 = .ok (.ishl, 1) := dAt dlX2_becomeProduct_0 36 rfl
theorem dX2_becomeProduct_63 : decode cX2_becomeProduct 63 = .ok (.iastore, 1) := dAt dlX2_becomeProduct_0 37 rfl
theorem dX2_becomeProduct_64 : decode cX2_becomeProduct 64 = .ok (.iconst 0, 1) := dAt dlX2_becomeProduct_0 38 rfl
theorem dX2_becomeProduct_65 : decode cX2_becomeProduct 65 = .ok (.istore 7, 2) := dAt dlX2_becomeProduct_0 39 rfl
theorem dX2_becomeProduct_67 : decode cX2_becomeProduct 67 = .ok (.iload 7, 2) := dAt dlX2_becomeProduct_0 40 rfl
theorem dX2_becomeProduct_69 : decode cX2_becomeProduct 69 = .ok (.aload_n 1, 1) := dAt dlX2_becomeProduct_0 41 rfl
theorem dX2_becomeProduct_70 : decode cX2_becomeProduct 70 = .ok (.getfield 9, 3) := dAt dlX2_becomeProduct_0 42 rfl
theorem dX2_becomeProduct_73 : decode cX2_becomeProduct 73 = .ok (.if_icmp .ge 39, 3) := dAt dlX2_becomeProduct_0 43 rfl
theorem dX2_becomeProduct_76 : decode cX2_becomeProduct 76 = .ok (.aload_n 1, 1) := dAt dlX2_becomeProduct_0 44 rfl
theorem dX2_becomeProduct_77 : decode cX2_becomeProduct 77 = .ok (.iload 4, 2) := dAt dlX2_becomeProduct_0 45 rfl
theorem dX2_becomeProduct_79 : decode cX2_becomeProduct 79 = .ok (.iload 7, 2) := dAt dlX2_becomeProduct_0 46 rfl
theorem dX2_becomeProduct_81 : decode cX2_becomeProduct 81 = .ok (.invokevirtual 51, 3) := dAt dlX2_becomeProduct_0 47 rfl
theorem dX2_becomeProduct_84 : decode cX2_becomeProduct 84 = .ok (.ifCond .eq 22, 3) := dAt dlX2_becomeProduct_0 48 rfl
theorem dX2_becomeProduct_87 : decode cX2_becomeProduct 87 = .ok (.aload_n 0, 1) := dAt dlX2_becomeProduct_0 49 rfl
theorem dX2_becomeProduct_88 : decode cX2_becomeProduct 88 = .ok (.getfield 15, 3) := dAt dlX2_becomeProduct_0 50 rfl
theorem dX2_becomeProduct_91 : decode cX2_becomeProduct 91 = .ok (.iload 6, 2) := dAt dlX2_becomeProduct_0 51 rfl
theorem dX2_becomeProduct_93 : decode cX2_becomeProduct 93 = .ok (.dup2, 1) := dAt dlX2_becomeProduct_0 52 rfl
theorem dX2_becomeProduct_94 : decode cX2_becomeProduct 94 = .ok (.iaload, 1) := dAt dlX2_becomeProduct_0 53 rfl
theorem dX2_becomeProduct_95 : decode cX2_becomeProduct 95 = .ok (.iconst 1, 1) := dAt dlX2_becomeProduct_0 54 rfl
theorem dX2_becomeProduct_96 : decode cX2_becomeProduct 96 = .ok (.iload_n 3, 1) := dAt dlX2_becomeProduct_0 55 rfl
theorem dX2_becomeProduct_97 : decode cX2_becomeProduct 97 = .ok (.iload 7, 2) := dAt dlX2_becomeProduct_0 56 rfl
theorem dX2_becomeProduct_99 : decode cX2_becomeProduct 99 = .ok (.imul, 1) := dAt dlX2_becomeProduct_0 57 rfl
theorem dX2_becomeProduct_100 : decode cX2_becomeProduct 100 = .ok (.iload 5, 2) := dAt dlX2_becomeProduct_0 58 rfl
theorem dX2_becomeProduct_102 : decode cX2_becomeProduct 102 = .ok (.iadd, 1) := dAt dlX2_becomeProduct_0 59 rfl
def ilX2_becomeProduct_1 : List (Nat × Instr × Nat) := [(103, .ishl, 1), (104, .ior, 1), (105, .iastore, 1), (106, .iinc 7 1, 3), (109, .goto (-42), 3), (112, .iinc 5 1, 3), (115, .goto (-85), 3), (118, .iinc 4 1, 3), (121, .goto (-103), 3), (124, .return_, 1)]
theorem dlX2_becomeProduct_1 : dOK cX2_becomeProduct ilX2_becomeProduct_1 = true := by decide +kernel
theorem dX2_becomeProduct_103 : decode cX2_becomeProduct 103 = .ok (.ishl, 1) := dAt dlX2_becomeProduct_1 0 rfl
theorem dX2_becomeProduct_104 : decode cX2_becomeProduct 104 = .ok (.ior, 1) := dAt dlX2_becomeProduct_1 1 rfl
theorem dX2_becomeProduct_105 : decode cX2_becomeProduct 105 = .ok (.iastore, 1) := dAt dlX2_becomeProduct_1 2 rfl
theorem dX2_becomeProduct_106 : decode cX2_becomeProduct 106 = .ok (.iinc 7 1, 3) := dAt dlX2_becomeProduct_1 3 rfl
theorem dX2_becomeProduct_109 : decode cX2_becomeProduct 109 = .ok (.goto (-42), 3) := dAt dlX2_becomeProduct_1 4 rfl
theorem dX2_becomeProduct_112 : decode cX2_becomeProduct 112 = .ok (.iinc 5 1, 3) := dAt dlX2_becomeProduct_1 5 rfl
theorem dX2_becomeProduct_115 : decode cX2_becomeProduct 115 = .ok (.goto (-85), 3) := dAt dlX2_becomeProduct_1 6 rfl
theorem dX2_becomeProduct_118 : decode cX2_becomeProduct 118 = .ok (.iinc 4 1, 3) := dAt dlX2_becomeProduct_1 7 rfl
theorem dX2_becomeProduct_121 : decode cX2_becomeProduct 121 = .ok (.goto (-103), 3) := dAt dlX2_becomeProduct_1 8 rfl
theorem dX2_becomeProduct_124 : decode cX2_becomeProduct 124 = .ok (.return_, 1) := dAt dlX2_becomeProduct_1 9 rfl
def ilX2_becomeTurned_0 : List (Nat × Instr × Nat) := [(0, .aload_n 0, 1), (1, .aload_n 1, 1), (2, .getfield 9, 3), (5, .invokevirtual 43, 3), (8, .iconst 1, 1), (9, .aload_n 0, 1), (10, .getfield 9, 3), (13, .ishl, 1), (14, .iconst 1, 1), (15, .isub, 1), (16, .istore_n 2, 1), (17, .iconst 0, 1), (18, .istore_n 3, 1), (19, .iload_n 3, 1), (20, .aload_n 0, 1), (21, .getfield 9, 3), (24, .if_icmp .ge 31, 3), (27, .aload_n 0, 1), (28, .getfield 15, 3), (31, .iload_n 3, 1), (32, .iload_n 2, 1), (33, .aload_n 1, 1), (34, .getfield 15, 3), (37, .iload_n 3, 1), (38, .iaload, 1), (39, .iconst (-1), 1), (40, .ixor, 1), (41, .iand, 1), (42, .iconst 1, 1), (43, .iload_n 3, 1), (44, .ishl, 1), (45, .iconst (-1), 1), (46, .ixor, 1), (47, .iand, 1), (48, .iastore, 1), (49, .iinc 3 1, 3), (52, .goto (-33), 3), (55, .return_, 1)]
theorem dlX2_becomeTurned_0 : dOK cX2_becomeTurned ilX2_becomeTurned_0 = true := by decide +kernel
theorem dX2_becomeTurned_0 : decode cX2_becomeTurned 0 = .ok (.aload_n 0, 1) := dAt dlX2_becomeTurned_0 0 rfl
theorem dX2_becomeTurned_1 : decode cX2_becomeTurned 1 = .ok (.aload_n 1, 1) := dAt dlX2_becomeTurned_0 1 rfl
theorem dX2_becomeTurned_2 : decode cX2_becomeTurned 2 = .ok (.getfield 9, 3) := dAt dlX2_becomeTurned_0 2 rfl
theorem dX2_becomeTurned_5 : decode cX2_becomeTurned 5 = .ok (.invokevirtual 43, 3) := dAt dlX2_becomeTurned_0 3 rfl
theorem dX2_becomeTurned_8 : decode cX2_becomeTurned 8 = .ok (.iconst 1, 1) := dAt dlX2_becomeTurned_0 4 rfl
theorem dX2_becomeTurned_9 : decode cX2_becomeTurned 9 = .ok (.aload_n 0, 1) := dAt dlX2_becomeTurned_0 5 rfl
theorem dX2_becomeTurned_10 : decode cX2_becomeTurned 10 = .ok (.getfield 9, 3) := dAt dlX2_becomeTurned_0 6 rfl
theorem dX2_becomeTurned_13 : decode cX2_becomeTurned 13 = .ok (.ishl, 1) := dAt dlX2_becomeTurned_0 7 rfl
theorem dX2_becomeTurned_14 : decode cX2_becomeTurned 14 = .ok (.iconst 1, 1) := dAt dlX2_becomeTurned_0 8 rfl
theorem dX2_becomeTurned_15 : decode cX2_becomeTurned 15 = .ok (.isub, 1) := dAt dlX2_becomeTurned_0 9 rfl
theorem dX2_becomeTurned_16 : decode cX2_becomeTurned 16 = .ok (.istore_n 2, 1) := dAt dlX2_becomeTurned_0 10 rfl
theorem dX2_becomeTurned_17 : decode cX2_becomeTurned 17 = .ok (.iconst 0, 1) := dAt dlX2_becomeTurned_0 11 rfl
theorem dX2_becomeTurned_18 : decode cX2_becomeTurned 18 = .ok (.istore_n 3, 1) := dAt dlX2_becomeTurned_0 12 rfl
theorem dX2_becomeTurned_19 : decode cX2_becomeTurned 19 = .ok (.iload_n 3, 1) := dAt dlX2_becomeTurned_0 13 rfl
theorem dX2_becomeTurned_20 : decode cX2_becomeTurned 20 = .ok (.aload_n 0, 1) := dAt dlX2_becomeTurned_0 14 rfl
theorem dX2_becomeTurned_21 : decode cX2_becomeTurned 21 = .ok (.getfield 9, 3) := dAt dlX2_becomeTurned_0 15 rfl
theorem dX2_becomeTurned_24 : decode cX2_becomeTurned 24 = .ok (.if_icmp .ge 31, 3) := dAt dlX2_becomeTurned_0 16 rfl
theorem dX2_becomeTurned_27 : decode cX2_becomeTurned 27 = .ok (.aload_n 0, 1) := dAt dlX2_becomeTurned_0 17 rfl
theorem dX2_becomeTurned_28 : decode cX2_becomeTurned 28 = .ok (.getfield 15, 3) := dAt dlX2_becomeTurned_0 18 rfl
theorem dX2_becomeTurned_31 : decode cX2_becomeTurned 31 = .ok (.iload_n 3, 1) := dAt dlX2_becomeTurned_0 19 rfl
theorem dX2_becomeTurned_32 : decode cX2_becomeTurned 32 = .ok (.iload_n 2, 1) := dAt dlX2_becomeTurned_0 20 rfl
theorem dX2_becomeTurned_33 : decode cX2_becomeTurned 33 = .ok (.aload_n 1, 1) := dAt dlX2_becomeTurned_0 21 rfl
theorem dX2_becomeTurned_34 : decode cX2_becomeTurned 34 = .ok (.getfield 15, 3) := dAt dlX2_becomeTurned_0 22 rfl
theorem dX2_becomeTurned_37 : decode cX2_becomeTurned 37 = .ok (.iload_n 3, 1) := dAt dlX2_becomeTurned_0 23 rfl
theorem dX2_becomeTurned_38 : decode cX2_becomeTurned 38 = .ok (.iaload, 1) := dAt dlX2_becomeTurned_0 24 rfl
theorem dX2_becomeTurned_39 : decode cX2_becomeTurned 39 = .ok (.iconst (-1), 1) := dAt dlX2_becomeTurned_0 25 rfl
theorem dX2_becomeTurned_40 : decode cX2_becomeTurned 40 = .ok (.ixor, 1) := dAt dlX2_becomeTurned_0 26 rfl
theorem dX2_becomeTurned_41 : decode cX2_becomeTurned 41 = .ok (.iand, 1) := dAt dlX2_becomeTurned_0 27 rfl
theorem dX2_becomeTurned_42 : decode cX2_becomeTurned 42 = .ok (.iconst 1, 1) := dAt dlX2_becomeTurned_0 28 rfl
theorem dX2_becomeTurned_43 : decode cX2_becomeTurned 43 = .ok (.iload_n 3, 1) := dAt dlX2_becomeTurned_0 29 rfl
theorem dX2_becomeTurned_44 : decode cX2_becomeTurned 44 = .ok (.ishl, 1) := dAt dlX2_becomeTurned_0 30 rfl
theorem dX2_becomeTurned_45 : decode cX2_becomeTurned 45 = .ok (.iconst (-1), 1) := dAt dlX2_becomeTurned_0 31 rfl
theorem dX2_becomeTurned_46 : decode cX2_becomeTurned 46 = .ok (.ixor, 1) := dAt dlX2_becomeTurned_0 32 rfl
theorem dX2_becomeTurned_47 : decode cX2_becomeTurned 47 = .ok (.iand, 1) := dAt dlX2_becomeTurned_0 33 rfl
theorem dX2_becomeTurned_48 : decode cX2_becomeTurned 48 = .ok (.iastore, 1) := dAt dlX2_becomeTurned_0 34 rfl
theorem dX2_becomeTurned_49 : decode cX2_becomeTurned 49 = .ok (.iinc 3 1, 3) := dAt dlX2_becomeTurned_0 35 rfl
theorem dX2_becomeTurned_52 : decode cX2_becomeTurned 52 = .ok (.goto (-33), 3) := dAt dlX2_becomeTurned_0 36 rfl
theorem dX2_becomeTurned_55 : decode cX2_becomeTurned 55 = .ok (.return_, 1) := dAt dlX2_becomeTurned_0 37 rfl
def ilX2_degree_0 : List (Nat × Instr × Nat) := [(0, .aload_n 0, 1), (1, .getfield 15, 3), (4, .iload_n 1, 1), (5, .iaload, 1), (6, .invokestatic 54, 3), (9, .ireturn, 1)]
theorem dlX2_degree_0 : dOK cX2_degree ilX2_degree_0 = true := by decide +kernel
theorem dX2_degree_0 : decode cX2_degree 0 = .ok (.aload_n 0, 1) := dAt dlX2_degree_0 0 rfl
theorem dX2_degree_1 : decode cX2_degree 1 = .ok (.getfield 15, 3) := dAt dlX2_degree_0 1 rfl
theorem dX2_degree_4 : decode cX2_degree 4 = .ok (.iload_n 1, 1) := dAt dlX2_degree_0 2 rfl
theorem dX2_degree_5 : decode cX2_degree 5 = .ok (.iaload, 1) := dAt dlX2_degree_0 3 rfl
theorem dX2_degree_6 : decode cX2_degree 6 = .ok (.invokestatic 54, 3) := dAt dlX2_degree_0 4 rfl
theorem dX2_degree_9 : decode cX2_degree 9 = .ok (.ireturn, 1) := dAt dlX2_degree_0 5 rfl
def ilX2_lineCount_0 : List (Nat × Instr × Nat) := [(0, .iconst 0, 1), (1, .istore_n 1, 1), (2, .iconst 0, 1), (3, .istore_n 2, 1), (4, .iload_n 2, 1), (5, .aload_n 0, 1), (6, .getfield 9, 3), (9, .if_icmp .ge 17, 3), (12, .iload_n 1, 1), (13, .aload_n 0, 1), (14, .iload_n 2, 1), (15, .invokevirtual 60, 3), (18, .iadd, 1), (19, .istore_n 1, 1), (20, .iinc 2 1, 3), (23, .goto (-19), 3), (26, .iload_n 1, 1), (27, .iconst 2, 1), (28, .idiv, 1), (29, .ireturn, 1)]
theorem dlX2_lineCount_0 : dOK cX2_lineCount ilX2_lineCount_0 = true := by decide +kernel
theorem dX2_lineCount_0 : decode cX2_lineCount 0 = .ok (.iconst 0, 1) := dAt dlX2_lineCount_0 0 rfl
theorem dX2_lineCount_1 : decode cX2_lineCount 1 = .ok (.istore_n 1, 1) := dAt dlX2_lineCount_0 1 rfl
theorem dX2_lineCount_2 : decode cX2_lineCount 2 = .ok (.iconst 0, 1) := dAt dlX2_lineCount_0 2 rfl
theorem dX2_lineCount_3 : decode cX2_lineCount 3 = .ok (.istore_n 2, 1) := dAt dlX2_lineCount_0 3 rfl
theorem dX2_lineCount_4 : decode cX2_lineCount 4 = .ok (.iload_n 2, 1) := dAt dlX2_lineCount_0 4 rfl
theorem dX2_lineCount_5 : decode cX2_lineCount 5 = .ok (.aload_n 0, 1) := dAt dlX2_lineCount_0 5 rfl
theorem dX2_lineCount_6 : decode cX2_lineCount 6 = .ok (.getfield 9, 3) := dAt dlX2_lineCount_0 6 rfl
theorem dX2_lineCount_9 : decode cX2_lineCount 9 = .ok (.if_icmp .ge 17, 3) := dAt dlX2_lineCount_0 7 rfl
theorem dX2_lineCount_12 : decode cX2_lineCount 12 = .ok (.iload_n 1, 1) := dAt dlX2_lineCount_0 8 rfl
theorem dX2_lineCount_13 : decode cX2_lineCount 13 = .ok (.aload_n 0, 1) := dAt dlX2_lineCount_0 9 rfl
theorem dX2_lineCount_14 : decode cX2_lineCount 14 = .ok (.iload_n 2, 1) := dAt dlX2_lineCount_0 10 rfl
theorem dX2_lineCount_15 : decode cX2_lineCount 15 = .ok (.invokevirtual 60, 3) := dAt dlX2_lineCount_0 11 rfl
theorem dX2_lineCount_18 : decode cX2_lineCount 18 = .ok (.iadd, 1) := dAt dlX2_lineCount_0 12 rfl
theorem dX2_lineCount_19 : decode cX2_lineCount 19 = .ok (.istore_n 1, 1) := dAt dlX2_lineCount_0 13 rfl
theorem dX2_lineCount_20 : decode cX2_lineCount 20 = .ok (.iinc 2 1, 3) := dAt dlX2_lineCount_0 14 rfl
theorem dX2_lineCount_23 : decode cX2_lineCount 23 = .ok (.goto (-19), 3) := dAt dlX2_lineCount_0 15 rfl
theorem dX2_lineCount_26 : decode cX2_lineCount 26 = .ok (.iload_n 1, 1) := dAt dlX2_lineCount_0 16 rfl
theorem dX2_lineCount_27 : decode cX2_lineCount 27 = .ok (.iconst 2, 1) := dAt dlX2_lineCount_0 17 rfl
theorem dX2_lineCount_28 : decode cX2_lineCount 28 = .ok (.idiv, 1) := dAt dlX2_lineCount_0 18 rfl
theorem dX2_lineCount_29 : decode cX2_lineCount 29 = .ok (.ireturn, 1) := dAt dlX2_lineCount_0 19 rfl
def ilX2_evenDegree_0 : List (Nat × Instr × Nat) := [(0, .iconst 1, 1), (1, .istore_n 1, 1), (2, .iload_n 1, 1), (3, .aload_n 0, 1), (4, .getfield 9, 3), (7, .if_icmp .ge 24, 3), (10, .aload_n 0, 1), (11, .iload_n 1, 1), (12, .invokevirtual 60, 3), (15, .aload_n 0, 1), (16, .iconst 0, 1), (17, .invokevirtual 60, 3), (20, .if_icmp .eq 5, 3), (23, .iconst (-1), 1), (24, .ireturn, 1), (25, .iinc 1 1, 3), (28, .goto (-26), 3), (31, .aload_n 0, 1), (32, .iconst 0, 1), (33, .invokevirtual 60, 3), (36, .ireturn, 1)]
theorem dlX2_evenDegree_0 : dOK cX2_evenDegree ilX2_evenDegree_0 = true := by decide +kernel
theorem dX2_evenDegree_0 : decode cX2_evenDegree 0 = .ok (.iconst 1, 1) := dAt dlX2_evenDegree_0 0 rfl
theorem dX2_evenDegree_1 : decode cX2_evenDegree 1 = .ok (.istore_n 1, 1) := dAt dlX2_evenDegree_0 1 rfl
theorem dX2_evenDegree_2 : decode cX2_evenDegree 2 = .ok (.iload_n 1, 1) := dAt dlX2_evenDegree_0 2 rfl
theorem dX2_evenDegree_3 : decode cX2_evenDegree 3 = .ok (.aload_n 0, 1) := dAt dlX2_evenDegree_0 3 rfl
theorem dX2_evenDegree_4 : decode cX2_evenDegree 4 = .ok (.getfield 9, 3) := dAt dlX2_evenDegree_0 4 rfl
theorem dX2_evenDegree_7 : decode cX2_evenDegree 7 = .ok (.if_icmp .ge 24, 3) := dAt dlX2_evenDegree_0 5 rfl
theorem dX2_evenDegree_10 : decode cX2_evenDegree 10 = .ok (.aload_n 0, 1) := dAt dlX2_evenDegree_0 6 rfl
theorem dX2_evenDegree_11 : decode cX2_evenDegree 11 = .ok (.iload_n 1, 1) := dAt dlX2_evenDegree_0 7 rfl
theorem dX2_evenDegree_12 : decode cX2_evenDegree 12 = .ok (.invokevirtual 60, 3) := dAt dlX2_evenDegree_0 8 rfl
theorem dX2_evenDegree_15 : decode cX2_evenDegree 15 = .ok (.aload_n 0, 1) := dAt dlX2_evenDegree_0 9 rfl
theorem dX2_evenDegree_16 : decode cX2_evenDegree 16 = .ok (.iconst 0, 1) := dAt dlX2_evenDegree_0 10 rfl
theorem dX2_evenDegree_17 : decode cX2_evenDegree 17 = .ok (.invokevirtual 60, 3) := dAt dlX2_evenDegree_0 11 rfl
theorem dX2_evenDegree_20 : decode cX2_evenDegree 20 = .ok (.if_icmp .eq 5, 3) := dAt dlX2_evenDegree_0 12 rfl
theorem dX2_evenDegree_23 : decode cX2_evenDegree 23 = .ok (.iconst (-1), 1) := dAt dlX2_evenDegree_0 13 rfl
theorem dX2_evenDegree_24 : decode cX2_evenDegree 24 = .ok (.ireturn, 1) := dAt dlX2_evenDegree_0 14 rfl
theorem dX2_evenDegree_25 : decode cX2_evenDegree 25 = .ok (.iinc 1 1, 3) := dAt dlX2_evenDegree_0 15 rfl
theorem dX2_evenDegree_28 : decode cX2_evenDegree 28 = .ok (.goto (-26), 3) := dAt dlX2_evenDegree_0 16 rfl
theorem dX2_evenDegree_31 : decode cX2_evenDegree 31 = .ok (.aload_n 0, 1) := dAt dlX2_evenDegree_0 17 rfl
theorem dX2_evenDegree_32 : decode cX2_evenDegree 32 = .ok (.iconst 0, 1) := dAt dlX2_evenDegree_0 18 rfl
theorem dX2_evenDegree_33 : decode cX2_evenDegree 33 = .ok (.invokevirtual 60, 3) := dAt dlX2_evenDegree_0 19 rfl
theorem dX2_evenDegree_36 : decode cX2_evenDegree 36 = .ok (.ireturn, 1) := dAt dlX2_evenDegree_0 20 rfl
def ilX2_partCount_0 : List (Nat × Instr × Nat) := [(0, .iconst 0, 1), (1, .istore_n 1, 1), (2, .iconst 0, 1), (3, .istore_n 2, 1), (4, .iconst 0, 1), (5, .istore_n 3, 1), (6, .iload_n 3, 1), (7, .aload_n 0, 1), (8, .getfield 9, 3), (11, .if_icmp .ge 28, 3), (14, .iload_n 2, 1), (15, .iload_n 3, 1), (16, .ishr, 1), (17, .iconst 1, 1), (18, .iand, 1), (19, .ifCond .ne 14, 3), (22, .iinc 1 1, 3), (25, .iload_n 2, 1), (26, .aload_n 0, 1), (27, .iload_n 3, 1), (28, .invokevirtual 63, 3), (31, .ior, 1), (32, .istore_n 2, 1), (33, .iinc 3 1, 3), (36, .goto (-30), 3), (39, .iload_n 1, 1), (40, .ireturn, 1)]
theorem dlX2_partCount_0 : dOK cX2_partCount ilX2_partCount_0 = true := by decide +kernel
theorem dX2_partCount_0 : decode cX2_partCount 0 = .ok (.iconst 0, 1) := dAt dlX2_partCount_0 0 rfl
theorem dX2_partCount_1 : decode cX2_partCount 1 = .ok (.istore_n 1, 1) := dAt dlX2_partCount_0 1 rfl
theorem dX2_partCount_2 : decode cX2_partCount 2 = .ok (.iconst 0, 1) := dAt dlX2_partCount_0 2 rfl
theorem dX2_partCount_3 : decode cX2_partCount 3 = .ok (.istore_n 2, 1) := dAt dlX2_partCount_0 3 rfl
theorem dX2_partCount_4 : decode cX2_partCount 4 = .ok (.iconst 0, 1) := dAt dlX2_partCount_0 4 rfl
theorem dX2_partCount_5 : decode cX2_partCount 5 = .ok (.istore_n 3, 1) := dAt dlX2_partCount_0 5 rfl
theorem dX2_partCount_6 : decode cX2_partCount 6 = .ok (.iload_n 3, 1) := dAt dlX2_partCount_0 6 rfl
theorem dX2_partCount_7 : decode cX2_partCount 7 = .ok (.aload_n 0, 1) := dAt dlX2_partCount_0 7 rfl
theorem dX2_partCount_8 : decode cX2_partCount 8 = .ok (.getfield 9, 3) := dAt dlX2_partCount_0 8 rfl
theorem dX2_partCount_11 : decode cX2_partCount 11 = .ok (.if_icmp .ge 28, 3) := dAt dlX2_partCount_0 9 rfl
theorem dX2_partCount_14 : decode cX2_partCount 14 = .ok (.iload_n 2, 1) := dAt dlX2_partCount_0 10 rfl
theorem dX2_partCount_15 : decode cX2_partCount 15 = .ok (.iload_n 3, 1) := dAt dlX2_partCount_0 11 rfl
theorem dX2_partCount_16 : decode cX2_partCount 16 = .ok (.ishr, 1) := dAt dlX2_partCount_0 12 rfl
theorem dX2_partCount_17 : decode cX2_partCount 17 = .ok (.iconst 1, 1) := dAt dlX2_partCount_0 13 rfl
theorem dX2_partCount_18 : decode cX2_partCount 18 = .ok (.iand, 1) := dAt dlX2_partCount_0 14 rfl
theorem dX2_partCount_19 : decode cX2_partCount 19 = .ok (.ifCond .ne 14, 3) := dAt dlX2_partCount_0 15 rfl
theorem dX2_partCount_22 : decode cX2_partCount 22 = .ok (.iinc 1 1, 3) := dAt dlX2_partCount_0 16 rfl
theorem dX2_partCount_25 : decode cX2_partCount 25 = .ok (.iload_n 2, 1) := dAt dlX2_partCount_0 17 rfl
theorem dX2_partCount_26 : decode cX2_partCount 26 = .ok (.aload_n 0, 1) := dAt dlX2_partCount_0 18 rfl
theorem dX2_partCount_27 : decode cX2_partCount 27 = .ok (.iload_n 3, 1) := dAt dlX2_partCount_0 19 rfl
theorem dX2_partCount_28 : decode cX2_partCount 28 = .ok (.invokevirtual 63, 3) := dAt dlX2_partCount_0 20 rfl
theorem dX2_partCount_31 : decode cX2_partCount 31 = .ok (.ior, 1) := dAt dlX2_partCount_0 21 rfl
theorem dX2_partCount_32 : decode cX2_partCount 32 = .ok (.istore_n 2, 1) := dAt dlX2_partCount_0 22 rfl
theorem dX2_partCount_33 : decode cX2_partCount 33 = .ok (.iinc 3 1, 3) := dAt dlX2_partCount_0 23 rfl
theorem dX2_partCount_36 : decode cX2_partCount 36 = .ok (.goto (-30), 3) := dAt dlX2_partCount_0 24 rfl
theorem dX2_partCount_39 : decode cX2_partCount 39 = .ok (.iload_n 1, 1) := dAt dlX2_partCount_0 25 rfl
theorem dX2_partCount_40 : decode cX2_partCount 40 = .ok (.ireturn, 1) := dAt dlX2_partCount_0 26 rfl
def ilX2_partOf_0 : List (Nat × Instr × Nat) := [(0, .iconst 1, 1), (1, .iload_n 1, 1), (2, .ishl, 1), (3, .istore_n 2, 1), (4, .iconst 1, 1), (5, .istore_n 3, 1), (6, .iload_n 3, 1), (7, .aload_n 0, 1), (8, .getfield 9, 3), (11, .if_icmp .ge 17, 3), (14, .iload_n 2, 1), (15, .aload_n 0, 1), (16, .iload_n 2, 1), (17, .invokevirtual 66, 3), (20, .ior, 1), (21, .istore_n 2, 1), (22, .iinc 3 1, 3), (25, .goto (-19), 3), (28, .iload_n 2, 1), (29, .ireturn, 1)]
theorem dlX2_partOf_0 : dOK cX2_partOf ilX2_partOf_0 = true := by decide +kernel
theorem dX2_partOf_0 : decode cX2_partOf 0 = .ok (.iconst 1, 1) := dAt dlX2_partOf_0 0 rfl
theorem dX2_partOf_1 : decode cX2_partOf 1 = .ok (.iload_n 1, 1) := dAt dlX2_partOf_0 1 rfl
theorem dX2_partOf_2 : decode cX2_partOf 2 = .ok (.ishl, 1) := dAt dlX2_partOf_0 2 rfl
theorem dX2_partOf_3 : decode cX2_partOf 3 = .ok (.istore_n 2, 1) := dAt dlX2_partOf_0 3 rfl
theorem dX2_partOf_4 : decode cX2_partOf 4 = .ok (.iconst 1, 1) := dAt dlX2_partOf_0 4 rfl
theorem dX2_partOf_5 : decode cX2_partOf 5 = .ok (.istore_n 3, 1) := dAt dlX2_partOf_0 5 rfl
theorem dX2_partOf_6 : decode cX2_partOf 6 = .ok (.iload_n 3, 1) := dAt dlX2_partOf_0 6 rfl
theorem dX2_partOf_7 : decode cX2_partOf 7 = .ok (.aload_n 0, 1) := dAt dlX2_partOf_0 7 rfl
theorem dX2_partOf_8 : decode cX2_partOf 8 = .ok (.getfield 9, 3) := dAt dlX2_partOf_0 8 rfl
theorem dX2_partOf_11 : decode cX2_partOf 11 = .ok (.if_icmp .ge 17, 3) := dAt dlX2_partOf_0 9 rfl
theorem dX2_partOf_14 : decode cX2_partOf 14 = .ok (.iload_n 2, 1) := dAt dlX2_partOf_0 10 rfl
theorem dX2_partOf_15 : decode cX2_partOf 15 = .ok (.aload_n 0, 1) := dAt dlX2_partOf_0 11 rfl
theorem dX2_partOf_16 : decode cX2_partOf 16 = .ok (.iload_n 2, 1) := dAt dlX2_partOf_0 12 rfl
theorem dX2_partOf_17 : decode cX2_partOf 17 = .ok (.invokevirtual 66, 3) := dAt dlX2_partOf_0 13 rfl
theorem dX2_partOf_20 : decode cX2_partOf 20 = .ok (.ior, 1) := dAt dlX2_partOf_0 14 rfl
theorem dX2_partOf_21 : decode cX2_partOf 21 = .ok (.istore_n 2, 1) := dAt dlX2_partOf_0 15 rfl
theorem dX2_partOf_22 : decode cX2_partOf 22 = .ok (.iinc 3 1, 3) := dAt dlX2_partOf_0 16 rfl
theorem dX2_partOf_25 : decode cX2_partOf 25 = .ok (.goto (-19), 3) := dAt dlX2_partOf_0 17 rfl
theorem dX2_partOf_28 : decode cX2_partOf 28 = .ok (.iload_n 2, 1) := dAt dlX2_partOf_0 18 rfl
theorem dX2_partOf_29 : decode cX2_partOf 29 = .ok (.ireturn, 1) := dAt dlX2_partOf_0 19 rfl
def ilX2_besideSet_0 : List (Nat × Instr × Nat) := [(0, .iconst 0, 1), (1, .istore_n 2, 1), (2, .iconst 0, 1), (3, .istore_n 3, 1), (4, .iload_n 3, 1), (5, .aload_n 0, 1), (6, .getfield 9, 3), (9, .if_icmp .ge 27, 3), (12, .iload_n 1, 1), (13, .iload_n 3, 1), (14, .ishr, 1), (15, .iconst 1, 1), (16, .iand, 1), (17, .iconst 1, 1), (18, .if_icmp .ne 12, 3), (21, .iload_n 2, 1), (22, .aload_n 0, 1), (23, .getfield 15, 3), (26, .iload_n 3, 1), (27, .iaload, 1), (28, .ior, 1), (29, .istore_n 2, 1), (30, .iinc 3 1, 3), (33, .goto (-29), 3), (36, .iload_n 2, 1), (37, .ireturn, 1)]
theorem dlX2_besideSet_0 : dOK cX2_besideSet ilX2_besideSet_0 = true := by decide +kernel
theorem dX2_besideSet_0 : decode cX2_besideSet 0 = .ok (.iconst 0, 1) := dAt dlX2_besideSet_0 0 rfl
theorem dX2_besideSet_1 : decode cX2_besideSet 1 = .ok (.istore_n 2, 1) := dAt dlX2_besideSet_0 1 rfl
theorem dX2_besideSet_2 : decode cX2_besideSet 2 = .ok (.iconst 0, 1) := dAt dlX2_besideSet_0 2 rfl
theorem dX2_besideSet_3 : decode cX2_besideSet 3 = .ok (.istore_n 3, 1) := dAt dlX2_besideSet_0 3 rfl
theorem dX2_besideSet_4 : decode cX2_besideSet 4 = .ok (.iload_n 3, 1) := dAt dlX2_besideSet_0 4 rfl
theorem dX2_besideSet_5 : decode cX2_besideSet 5 = .ok (.aload_n 0, 1) := dAt dlX2_besideSet_0 5 rfl
theorem dX2_besideSet_6 : decode cX2_besideSet 6 = .ok (.getfield 9, 3) := dAt dlX2_besideSet_0 6 rfl
theorem dX2_besideSet_9 : decode cX2_besideSet 9 = .ok (.if_icmp .ge 27, 3) := dAt dlX2_besideSet_0 7 rfl
theorem dX2_besideSet_12 : decode cX2_besideSet 12 = .ok (.iload_n 1, 1) := dAt dlX2_besideSet_0 8 rfl
theorem dX2_besideSet_13 : decode cX2_besideSet 13 = .ok (.iload_n 3, 1) := dAt dlX2_besideSet_0 9 rfl
theorem dX2_besideSet_14 : decode cX2_besideSet 14 = .ok (.ishr, 1) := dAt dlX2_besideSet_0 10 rfl
theorem dX2_besideSet_15 : decode cX2_besideSet 15 = .ok (.iconst 1, 1) := dAt dlX2_besideSet_0 11 rfl
theorem dX2_besideSet_16 : decode cX2_besideSet 16 = .ok (.iand, 1) := dAt dlX2_besideSet_0 12 rfl
theorem dX2_besideSet_17 : decode cX2_besideSet 17 = .ok (.iconst 1, 1) := dAt dlX2_besideSet_0 13 rfl
theorem dX2_besideSet_18 : decode cX2_besideSet 18 = .ok (.if_icmp .ne 12, 3) := dAt dlX2_besideSet_0 14 rfl
theorem dX2_besideSet_21 : decode cX2_besideSet 21 = .ok (.iload_n 2, 1) := dAt dlX2_besideSet_0 15 rfl
theorem dX2_besideSet_22 : decode cX2_besideSet 22 = .ok (.aload_n 0, 1) := dAt dlX2_besideSet_0 16 rfl
theorem dX2_besideSet_23 : decode cX2_besideSet 23 = .ok (.getfield 15, 3) := dAt dlX2_besideSet_0 17 rfl
theorem dX2_besideSet_26 : decode cX2_besideSet 26 = .ok (.iload_n 3, 1) := dAt dlX2_besideSet_0 18 rfl
theorem dX2_besideSet_27 : decode cX2_besideSet 27 = .ok (.iaload, 1) := dAt dlX2_besideSet_0 19 rfl
theorem dX2_besideSet_28 : decode cX2_besideSet 28 = .ok (.ior, 1) := dAt dlX2_besideSet_0 20 rfl
theorem dX2_besideSet_29 : decode cX2_besideSet 29 = .ok (.istore_n 2, 1) := dAt dlX2_besideSet_0 21 rfl
theorem dX2_besideSet_30 : decode cX2_besideSet 30 = .ok (.iinc 3 1, 3) := dAt dlX2_besideSet_0 22 rfl
theorem dX2_besideSet_33 : decode cX2_besideSet 33 = .ok (.goto (-29), 3) := dAt dlX2_besideSet_0 23 rfl
theorem dX2_besideSet_36 : decode cX2_besideSet 36 = .ok (.iload_n 2, 1) := dAt dlX2_besideSet_0 24 rfl
theorem dX2_besideSet_37 : decode cX2_besideSet 37 = .ok (.ireturn, 1) := dAt dlX2_besideSet_0 25 rfl
def ilX2_lineNumber_0 : List (Nat × Instr × Nat) := [(0, .iconst 0, 1), (1, .istore_n 3, 1), (2, .iconst 0, 1), (3, .istore 4, 2), (5, .iload 4, 2), (7, .iload_n 1, 1), (8, .if_icmp .ge 25, 3), (11, .iload_n 3, 1), (12, .aload_n 0, 1), (13, .getfield 15, 3), (16, .iload 4, 2), (18, .iaload, 1), (19, .iload 4, 2), (21, .ishr, 1), (22, .invokestatic 54, 3), (25, .iadd, 1), (26, .istore_n 3, 1), (27, .iinc 4 1, 3), (30, .goto (-25), 3), (33, .aload_n 0, 1), (34, .getfield 15, 3), (37, .iload_n 1, 1), (38, .iaload, 1), (39, .iconst 1, 1), (40, .iload_n 2, 1), (41, .ishl, 1), (42, .iconst 1, 1), (43, .isub, 1), (44, .iand, 1), (45, .istore 4, 2), (47, .iload_n 3, 1), (48, .iload 4, 2), (50, .iload_n 1, 1), (51, .ishr, 1), (52, .invokestatic 54, 3), (55, .iadd, 1), (56, .ireturn, 1)]
theorem dlX2_lineNumber_0 : dOK cX2_lineNumber ilX2_lineNumber_0 = true := by decide +kernel
theorem dX2_lineNumber_0 : decode cX2_lineNumber 0 = .ok (.iconst 0, 1) := dAt dlX2_lineNumber_0 0 rfl
theorem dX2_lineNumber_1 : decode cX2_lineNumber 1 = .ok (.istore_n 3, 1) := dAt dlX2_lineNumber_0 1 rfl
theorem dX2_lineNumber_2 : decode cX2_lineNumber 2 = .ok (.iconst 0, 1) := dAt dlX2_lineNumber_0 2 rfl
theorem dX2_lineNumber_3 : decode cX2_lineNumber 3 = .ok (.istore 4, 2) := dAt dlX2_lineNumber_0 3 rfl
theorem dX2_lineNumber_5 : decode cX2_lineNumber 5 = .ok (.iload 4, 2) := dAt dlX2_lineNumber_0 4 rfl
theorem dX2_lineNumber_7 : decode cX2_lineNumber 7 = .ok (.iload_n 1, 1) := dAt dlX2_lineNumber_0 5 rfl
theorem dX2_lineNumber_8 : decode cX2_lineNumber 8 = .ok (.if_icmp .ge 25, 3) := dAt dlX2_lineNumber_0 6 rfl
theorem dX2_lineNumber_11 : decode cX2_lineNumber 11 = .ok (.iload_n 3, 1) := dAt dlX2_lineNumber_0 7 rfl
theorem dX2_lineNumber_12 : decode cX2_lineNumber 12 = .ok (.aload_n 0, 1) := dAt dlX2_lineNumber_0 8 rfl
theorem dX2_lineNumber_13 : decode cX2_lineNumber 13 = .ok (.getfield 15, 3) := dAt dlX2_lineNumber_0 9 rfl
theorem dX2_lineNumber_16 : decode cX2_lineNumber 16 = .ok (.iload 4, 2) := dAt dlX2_lineNumber_0 10 rfl
theorem dX2_lineNumber_18 : decode cX2_lineNumber 18 = .ok (.iaload, 1) := dAt dlX2_lineNumber_0 11 rfl
theorem dX2_lineNumber_19 : decode cX2_lineNumber 19 = .ok (.iload 4, 2) := dAt dlX2_lineNumber_0 12 rfl
theorem dX2_lineNumber_21 : decode cX2_lineNumber 21 = .ok (.ishr, 1) := dAt dlX2_lineNumber_0 13 rfl
theorem dX2_lineNumber_22 : decode cX2_lineNumber 22 = .ok (.invokestatic 54, 3) := dAt dlX2_lineNumber_0 14 rfl
theorem dX2_lineNumber_25 : decode cX2_lineNumber 25 = .ok (.iadd, 1) := dAt dlX2_lineNumber_0 15 rfl
theorem dX2_lineNumber_26 : decode cX2_lineNumber 26 = .ok (.istore_n 3, 1) := dAt dlX2_lineNumber_0 16 rfl
theorem dX2_lineNumber_27 : decode cX2_lineNumber 27 = .ok (.iinc 4 1, 3) := dAt dlX2_lineNumber_0 17 rfl
theorem dX2_lineNumber_30 : decode cX2_lineNumber 30 = .ok (.goto (-25), 3) := dAt dlX2_lineNumber_0 18 rfl
theorem dX2_lineNumber_33 : decode cX2_lineNumber 33 = .ok (.aload_n 0, 1) := dAt dlX2_lineNumber_0 19 rfl
theorem dX2_lineNumber_34 : decode cX2_lineNumber 34 = .ok (.getfield 15, 3) := dAt dlX2_lineNumber_0 20 rfl
theorem dX2_lineNumber_37 : decode cX2_lineNumber 37 = .ok (.iload_n 1, 1) := dAt dlX2_lineNumber_0 21 rfl
theorem dX2_lineNumber_38 : decode cX2_lineNumber 38 = .ok (.iaload, 1) := dAt dlX2_lineNumber_0 22 rfl
theorem dX2_lineNumber_39 : decode cX2_lineNumber 39 = .ok (.iconst 1, 1) := dAt dlX2_lineNumber_0 23 rfl
theorem dX2_lineNumber_40 : decode cX2_lineNumber 40 = .ok (.iload_n 2, 1) := dAt dlX2_lineNumber_0 24 rfl
theorem dX2_lineNumber_41 : decode cX2_lineNumber 41 = .ok (.ishl, 1) := dAt dlX2_lineNumber_0 25 rfl
theorem dX2_lineNumber_42 : decode cX2_lineNumber 42 = .ok (.iconst 1, 1) := dAt dlX2_lineNumber_0 26 rfl
theorem dX2_lineNumber_43 : decode cX2_lineNumber 43 = .ok (.isub, 1) := dAt dlX2_lineNumber_0 27 rfl
theorem dX2_lineNumber_44 : decode cX2_lineNumber 44 = .ok (.iand, 1) := dAt dlX2_lineNumber_0 28 rfl
theorem dX2_lineNumber_45 : decode cX2_lineNumber 45 = .ok (.istore 4, 2) := dAt dlX2_lineNumber_0 29 rfl
theorem dX2_lineNumber_47 : decode cX2_lineNumber 47 = .ok (.iload_n 3, 1) := dAt dlX2_lineNumber_0 30 rfl
theorem dX2_lineNumber_48 : decode cX2_lineNumber 48 = .ok (.iload 4, 2) := dAt dlX2_lineNumber_0 31 rfl
theorem dX2_lineNumber_50 : decode cX2_lineNumber 50 = .ok (.iload_n 1, 1) := dAt dlX2_lineNumber_0 32 rfl
theorem dX2_lineNumber_51 : decode cX2_lineNumber 51 = .ok (.ishr, 1) := dAt dlX2_lineNumber_0 33 rfl
theorem dX2_lineNumber_52 : decode cX2_lineNumber 52 = .ok (.invokestatic 54, 3) := dAt dlX2_lineNumber_0 34 rfl
theorem dX2_lineNumber_55 : decode cX2_lineNumber 55 = .ok (.iadd, 1) := dAt dlX2_lineNumber_0 35 rfl
theorem dX2_lineNumber_56 : decode cX2_lineNumber 56 = .ok (.ireturn, 1) := dAt dlX2_lineNumber_0 36 rfl
def ilX2_fewestLines_0 : List (Nat × Instr × Nat) := [(0, .iload_n 1, 1), (1, .iload_n 2, 1), (2, .if_icmp .ne 5, 3), (5, .iconst 0, 1), (6, .ireturn, 1), (7, .iconst 1, 1), (8, .iload_n 1, 1), (9, .ishl, 1), (10, .istore 4, 2), (12, .iload_n 3, 1), (13, .ifCond .eq 12, 3), (16, .aload_n 0, 1), (17, .getfield 15, 3), (20, .iload_n 1, 1), (21, .iaload, 1), (22, .goto 15, 3), (25, .aload_n 0, 1), (26, .getfield 15, 3), (29, .iload_n 1, 1), (30, .iaload, 1), (31, .iconst 1, 1), (32, .iload_n 2, 1), (33, .ishl, 1), (34, .iconst (-1), 1), (35, .ixor, 1), (36, .iand, 1), (37, .istore 5, 2), (39, .iconst 1, 1), (40, .istore 6, 2), (42, .iload 6, 2), (44, .aload_n 0, 1), (45, .getfield 9, 3), (48, .if_icmp .ge 42, 3), (51, .iload 5, 2), (53, .iload_n 2, 1), (54, .ishr, 1), (55, .iconst 1, 1), (56, .iand, 1), (57, .iconst 1, 1), (58, .if_icmp .ne 6, 3), (61, .iload 6, 2), (63, .ireturn, 1), (64, .iload 4, 2), (66, .iload 5, 2), (68, .ior, 1), (69, .istore 4, 2), (71, .aload_n 0, 1), (72, .iload 5, 2), (74, .invokevirtual 66, 3), (77, .iload 4, 2), (79, .iconst (-1), 1), (80, .ixor, 1), (81, .iand, 1), (82, .istore 5, 2), (84, .iinc 6 1, 3), (87, .goto (-45), 3), (90, .iconst (-1), 1), (91, .ireturn, 1)]
theorem dlX2_fewestLines_0 : dOK cX2_fewestLines ilX2_fewestLines_0 = true := by decide +kernel
theorem dX2_fewestLines_0 : decode cX2_fewestLines 0 = .ok (.iload_n 1, 1) := dAt dlX2_fewestLines_0 0 rfl
theorem dX2_fewestLines_1 : decode cX2_fewestLines 1 = .ok (.iload_n 2, 1) := dAt dlX2_fewestLines_0 1 rfl
theorem dX2_fewestLines_2 : decode cX2_fewestLines 2 = .ok (.if_icmp .ne 5, 3) := dAt dlX2_fewestLines_0 2 rfl
theorem dX2_fewestLines_5 : decode cX2_fewestLines 5 = .ok (.iconst 0, 1) := dAt dlX2_fewestLines_0 3 rfl
theorem dX2_fewestLines_6 : decode cX2_fewestLines 6 = .ok (.ireturn, 1) := dAt dlX2_fewestLines_0 4 rfl
theorem dX2_fewestLines_7 : decode cX2_fewestLines 7 = .ok (.iconst 1, 1) := dAt dlX2_fewestLines_0 5 rfl
theorem dX2_fewestLines_8 : decode cX2_fewestLines 8 = .ok (.iload_n 1, 1) := dAt dlX2_fewestLines_0 6 rfl
theorem dX2_fewestLines_9 : decode cX2_fewestLines 9 = .ok (.ishl, 1) := dAt dlX2_fewestLines_0 7 rfl
theorem dX2_fewestLines_10 : decode cX2_fewestLines 10 = .ok (.istore 4, 2) := dAt dlX2_fewestLines_0 8 rfl
theorem dX2_fewestLines_12 : decode cX2_fewestLines 12 = .ok (.iload_n 3, 1) := dAt dlX2_fewestLines_0 9 rfl
theorem dX2_fewestLines_13 : decode cX2_fewestLines 13 = .ok (.ifCond .eq 12, 3) := dAt dlX2_fewestLines_0 10 rfl
theorem dX2_fewestLines_16 : decode cX2_fewestLines 16 = .ok (.aload_n 0, 1) := dAt dlX2_fewestLines_0 11 rfl
theorem dX2_fewestLines_17 : decode cX2_fewestLines 17 = .ok (.getfield 15, 3) := dAt dlX2_fewestLines_0 12 rfl
theorem dX2_fewestLines_20 : decode cX2_fewestLines 20 = .ok (.iload_n 1, 1) := dAt dlX2_fewestLines_0 13 rfl
theorem dX2_fewestLines_21 : decode cX2_fewestLines 21 = .ok (.iaload, 1) := dAt dlX2_fewestLines_0 14 rfl
theorem dX2_fewestLines_22 : decode cX2_fewestLines 22 = .ok (.goto 15, 3) := dAt dlX2_fewestLines_0 15 rfl
theorem dX2_fewestLines_25 : decode cX2_fewestLines 25 = .ok (.aload_n 0, 1) := dAt dlX2_fewestLines_0 16 rfl
theorem dX2_fewestLines_26 : decode cX2_fewestLines 26 = .ok (.getfield 15, 3) := dAt dlX2_fewestLines_0 17 rfl
theorem dX2_fewestLines_29 : decode cX2_fewestLines 29 = .ok (.iload_n 1, 1) := dAt dlX2_fewestLines_0 18 rfl
theorem dX2_fewestLines_30 : decode cX2_fewestLines 30 = .ok (.iaload, 1) := dAt dlX2_fewestLines_0 19 rfl
theorem dX2_fewestLines_31 : decode cX2_fewestLines 31 = .ok (.iconst 1, 1) := dAt dlX2_fewestLines_0 20 rfl
theorem dX2_fewestLines_32 : decode cX2_fewestLines 32 = .ok (.iload_n 2, 1) := dAt dlX2_fewestLines_0 21 rfl
theorem dX2_fewestLines_33 : decode cX2_fewestLines 33 = .ok (.ishl, 1) := dAt dlX2_fewestLines_0 22 rfl
theorem dX2_fewestLines_34 : decode cX2_fewestLines 34 = .ok (.iconst (-1), 1) := dAt dlX2_fewestLines_0 23 rfl
theorem dX2_fewestLines_35 : decode cX2_fewestLines 35 = .ok (.ixor, 1) := dAt dlX2_fewestLines_0 24 rfl
theorem dX2_fewestLines_36 : decode cX2_fewestLines 36 = .ok (.iand, 1) := dAt dlX2_fewestLines_0 25 rfl
theorem dX2_fewestLines_37 : decode cX2_fewestLines 37 = .ok (.istore 5, 2) := dAt dlX2_fewestLines_0 26 rfl
theorem dX2_fewestLines_39 : decode cX2_fewestLines 39 = .ok (.iconst 1, 1) := dAt dlX2_fewestLines_0 27 rfl
theorem dX2_fewestLines_40 : decode cX2_fewestLines 40 = .ok (.istore 6, 2) := dAt dlX2_fewestLines_0 28 rfl
theorem dX2_fewestLines_42 : decode cX2_fewestLines 42 = .ok (.iload 6, 2) := dAt dlX2_fewestLines_0 29 rfl
theorem dX2_fewestLines_44 : decode cX2_fewestLines 44 = .ok (.aload_n 0, 1) := dAt dlX2_fewestLines_0 30 rfl
theorem dX2_fewestLines_45 : decode cX2_fewestLines 45 = .ok (.getfield 9, 3) := dAt dlX2_fewestLines_0 31 rfl
theorem dX2_fewestLines_48 : decode cX2_fewestLines 48 = .ok (.if_icmp .ge 42, 3) := dAt dlX2_fewestLines_0 32 rfl
theorem dX2_fewestLines_51 : decode cX2_fewestLines 51 = .ok (.iload 5, 2) := dAt dlX2_fewestLines_0 33 rfl
theorem dX2_fewestLines_53 : decode cX2_fewestLines 53 = .ok (.iload_n 2, 1) := dAt dlX2_fewestLines_0 34 rfl
theorem dX2_fewestLines_54 : decode cX2_fewestLines 54 = .ok (.ishr, 1) := dAt dlX2_fewestLines_0 35 rfl
theorem dX2_fewestLines_55 : decode cX2_fewestLines 55 = .ok (.iconst 1, 1) := dAt dlX2_fewestLines_0 36 rfl
theorem dX2_fewestLines_56 : decode cX2_fewestLines 56 = .ok (.iand, 1) := dAt dlX2_fewestLines_0 37 rfl
theorem dX2_fewestLines_57 : decode cX2_fewestLines 57 = .ok (.iconst 1, 1) := dAt dlX2_fewestLines_0 38 rfl
theorem dX2_fewestLines_58 : decode cX2_fewestLines 58 = .ok (.if_icmp .ne 6, 3) := dAt dlX2_fewestLines_0 39 rfl
theorem dX2_fewestLines_61 : decode cX2_fewestLines 61 = .ok (.iload 6, 2) := dAt dlX2_fewestLines_0 40 rfl
theorem dX2_fewestLines_63 : decode cX2_fewestLines 63 = .ok (.ireturn, 1) := dAt dlX2_fewestLines_0 41 rfl
theorem dX2_fewestLines_64 : decode cX2_fewestLines 64 = .ok (.iload 4, 2) := dAt dlX2_fewestLines_0 42 rfl
theorem dX2_fewestLines_66 : decode cX2_fewestLines 66 = .ok (.iload 5, 2) := dAt dlX2_fewestLines_0 43 rfl
theorem dX2_fewestLines_68 : decode cX2_fewestLines 68 = .ok (.ior, 1) := dAt dlX2_fewestLines_0 44 rfl
theorem dX2_fewestLines_69 : decode cX2_fewestLines 69 = .ok (.istore 4, 2) := dAt dlX2_fewestLines_0 45 rfl
theorem dX2_fewestLines_71 : decode cX2_fewestLines 71 = .ok (.aload_n 0, 1) := dAt dlX2_fewestLines_0 46 rfl
theorem dX2_fewestLines_72 : decode cX2_fewestLines 72 = .ok (.iload 5, 2) := dAt dlX2_fewestLines_0 47 rfl
theorem dX2_fewestLines_74 : decode cX2_fewestLines 74 = .ok (.invokevirtual 66, 3) := dAt dlX2_fewestLines_0 48 rfl
theorem dX2_fewestLines_77 : decode cX2_fewestLines 77 = .ok (.iload 4, 2) := dAt dlX2_fewestLines_0 49 rfl
theorem dX2_fewestLines_79 : decode cX2_fewestLines 79 = .ok (.iconst (-1), 1) := dAt dlX2_fewestLines_0 50 rfl
theorem dX2_fewestLines_80 : decode cX2_fewestLines 80 = .ok (.ixor, 1) := dAt dlX2_fewestLines_0 51 rfl
theorem dX2_fewestLines_81 : decode cX2_fewestLines 81 = .ok (.iand, 1) := dAt dlX2_fewestLines_0 52 rfl
theorem dX2_fewestLines_82 : decode cX2_fewestLines 82 = .ok (.istore 5, 2) := dAt dlX2_fewestLines_0 53 rfl
theorem dX2_fewestLines_84 : decode cX2_fewestLines 84 = .ok (.iinc 6 1, 3) := dAt dlX2_fewestLines_0 54 rfl
theorem dX2_fewestLines_87 : decode cX2_fewestLines 87 = .ok (.goto (-45), 3) := dAt dlX2_fewestLines_0 55 rfl
theorem dX2_fewestLines_90 : decode cX2_fewestLines 90 = .ok (.iconst (-1), 1) := dAt dlX2_fewestLines_0 56 rfl
theorem dX2_fewestLines_91 : decode cX2_fewestLines 91 = .ok (.ireturn, 1) := dAt dlX2_fewestLines_0 57 rfl
def ilX2_shortestRound_0 : List (Nat × Instr × Nat) := [(0, .iconst (-1), 1), (1, .istore_n 1, 1), (2, .iconst 0, 1), (3, .istore_n 2, 1), (4, .iload_n 2, 1), (5, .aload_n 0, 1), (6, .getfield 9, 3), (9, .if_icmp .ge 73, 3), (12, .iload_n 2, 1), (13, .iconst 1, 1), (14, .iadd, 1), (15, .istore_n 3, 1), (16, .iload_n 3, 1), (17, .aload_n 0, 1), (18, .getfield 9, 3), (21, .if_icmp .ge 55, 3), (24, .aload_n 0, 1), (25, .iload_n 2, 1), (26, .iload_n 3, 1), (27, .invokevirtual 51, 3), (30, .ifCond .eq 13, 3), (33, .aload_n 0, 1), (34, .iload_n 2, 1), (35, .iload_n 3, 1), (36, .iconst 0, 1), (37, .invokevirtual 69, 3), (40, .goto 4, 3), (43, .iconst (-1), 1), (44, .istore 4, 2), (46, .iload 4, 2), (48, .iconst (-1), 1), (49, .if_icmp .eq 21, 3), (52, .iload_n 1, 1), (53, .iconst (-1), 1), (54, .if_icmp .eq 11, 3), (57, .iload 4, 2), (59, .iconst 1, 1), (60, .iadd, 1), (61, .iload_n 1, 1), (62, .if_icmp .ge 8, 3), (65, .iload 4, 2), (67, .iconst 1, 1), (68, .iadd, 1), (69, .istore_n 1, 1), (70, .iinc 3 1, 3), (73, .goto (-57), 3), (76, .iinc 2 1, 3), (79, .goto (-75), 3), (82, .iload_n 1, 1), (83, .ireturn, 1)]
theorem dlX2_shortestRound_0 : dOK cX2_shortestRound ilX2_shortestRound_0 = true := by decide +kernel
theorem dX2_shortestRound_0 : decode cX2_shortestRound 0 = .ok (.iconst (-1), 1) := dAt dlX2_shortestRound_0 0 rfl
theorem dX2_shortestRound_1 : decode cX2_shortestRound 1 = .ok (.istore_n 1, 1) := dAt dlX2_shortestRound_0 1 rfl
theorem dX2_shortestRound_2 : decode cX2_shortestRound 2 = .ok (.iconst 0, 1) := dAt dlX2_shortestRound_0 2 rfl
theorem dX2_shortestRound_3 : decode cX2_shortestRound 3 = .ok (.istore_n 2, 1) := dAt dlX2_shortestRound_0 3 rfl
theorem dX2_shortestRound_4 : decode cX2_shortestRound 4 = .ok (.iload_n 2, 1) := dAt dlX2_shortestRound_0 4 rfl
theorem dX2_shortestRound_5 : decode cX2_shortestRound 5 = .ok (.aload_n 0, 1) := dAt dlX2_shortestRound_0 5 rfl
theorem dX2_shortestRound_6 : decode cX2_shortestRound 6 = .ok (.getfield 9, 3) := dAt dlX2_shortestRound_0 6 rfl
theorem dX2_shortestRound_9 : decode cX2_shortestRound 9 = .ok (.if_icmp .ge 73, 3) := dAt dlX2_shortestRound_0 7 rfl
theorem dX2_shortestRound_12 : decode cX2_shortestRound 12 = .ok (.iload_n 2, 1) := dAt dlX2_shortestRound_0 8 rfl
theorem dX2_shortestRound_13 : decode cX2_shortestRound 13 = .ok (.iconst 1, 1) := dAt dlX2_shortestRound_0 9 rfl
theorem dX2_shortestRound_14 : decode cX2_shortestRound 14 = .ok (.iadd, 1) := dAt dlX2_shortestRound_0 10 rfl
theorem dX2_shortestRound_15 : decode cX2_shortestRound 15 = .ok (.istore_n 3, 1) := dAt dlX2_shortestRound_0 11 rfl
theorem dX2_shortestRound_16 : decode cX2_shortestRound 16 = .ok (.iload_n 3, 1) := dAt dlX2_shortestRound_0 12 rfl
theorem dX2_shortestRound_17 : decode cX2_shortestRound 17 = .ok (.aload_n 0, 1) := dAt dlX2_shortestRound_0 13 rfl
theorem dX2_shortestRound_18 : decode cX2_shortestRound 18 = .ok (.getfield 9, 3) := dAt dlX2_shortestRound_0 14 rfl
theorem dX2_shortestRound_21 : decode cX2_shortestRound 21 = .ok (.if_icmp .ge 55, 3) := dAt dlX2_shortestRound_0 15 rfl
theorem dX2_shortestRound_24 : decode cX2_shortestRound 24 = .ok (.aload_n 0, 1) := dAt dlX2_shortestRound_0 16 rfl
theorem dX2_shortestRound_25 : decode cX2_shortestRound 25 = .ok (.iload_n 2, 1) := dAt dlX2_shortestRound_0 17 rfl
theorem dX2_shortestRound_26 : decode cX2_shortestRound 26 = .ok (.iload_n 3, 1) := dAt dlX2_shortestRound_0 18 rfl
theorem dX2_shortestRound_27 : decode cX2_shortestRound 27 = .ok (.invokevirtual 51, 3) := dAt dlX2_shortestRound_0 19 rfl
theorem dX2_shortestRound_30 : decode cX2_shortestRound 30 = .ok (.ifCond .eq 13, 3) := dAt dlX2_shortestRound_0 20 rfl
theorem dX2_shortestRound_33 : decode cX2_shortestRound 33 = .ok (.aload_n 0, 1) := dAt dlX2_shortestRound_0 21 rfl
theorem dX2_shortestRound_34 : decode cX2_shortestRound 34 = .ok (.iload_n 2, 1) := dAt dlX2_shortestRound_0 22 rfl
theorem dX2_shortestRound_35 : decode cX2_shortestRound 35 = .ok (.iload_n 3, 1) := dAt dlX2_shortestRound_0 23 rfl
theorem dX2_shortestRound_36 : decode cX2_shortestRound 36 = .ok (.iconst 0, 1) := dAt dlX2_shortestRound_0 24 rfl
theorem dX2_shortestRound_37 : decode cX2_shortestRound 37 = .ok (.invokevirtual 69, 3) := dAt dlX2_shortestRound_0 25 rfl
theorem dX2_shortestRound_40 : decode cX2_shortestRound 40 = .ok (.goto 4, 3) := dAt dlX2_shortestRound_0 26 rfl
theorem dX2_shortestRound_43 : decode cX2_shortestRound 43 = .ok (.iconst (-1), 1) := dAt dlX2_shortestRound_0 27 rfl
theorem dX2_shortestRound_44 : decode cX2_shortestRound 44 = .ok (.istore 4, 2) := dAt dlX2_shortestRound_0 28 rfl
theorem dX2_shortestRound_46 : decode cX2_shortestRound 46 = .ok (.iload 4, 2) := dAt dlX2_shortestRound_0 29 rfl
theorem dX2_shortestRound_48 : decode cX2_shortestRound 48 = .ok (.iconst (-1), 1) := dAt dlX2_shortestRound_0 30 rfl
theorem dX2_shortestRound_49 : decode cX2_shortestRound 49 = .ok (.if_icmp .eq 21, 3) := dAt dlX2_shortestRound_0 31 rfl
theorem dX2_shortestRound_52 : decode cX2_shortestRound 52 = .ok (.iload_n 1, 1) := dAt dlX2_shortestRound_0 32 rfl
theorem dX2_shortestRound_53 : decode cX2_shortestRound 53 = .ok (.iconst (-1), 1) := dAt dlX2_shortestRound_0 33 rfl
theorem dX2_shortestRound_54 : decode cX2_shortestRound 54 = .ok (.if_icmp .eq 11, 3) := dAt dlX2_shortestRound_0 34 rfl
theorem dX2_shortestRound_57 : decode cX2_shortestRound 57 = .ok (.iload 4, 2) := dAt dlX2_shortestRound_0 35 rfl
theorem dX2_shortestRound_59 : decode cX2_shortestRound 59 = .ok (.iconst 1, 1) := dAt dlX2_shortestRound_0 36 rfl
theorem dX2_shortestRound_60 : decode cX2_shortestRound 60 = .ok (.iadd, 1) := dAt dlX2_shortestRound_0 37 rfl
theorem dX2_shortestRound_61 : decode cX2_shortestRound 61 = .ok (.iload_n 1, 1) := dAt dlX2_shortestRound_0 38 rfl
theorem dX2_shortestRound_62 : decode cX2_shortestRound 62 = .ok (.if_icmp .ge 8, 3) := dAt dlX2_shortestRound_0 39 rfl
theorem dX2_shortestRound_65 : decode cX2_shortestRound 65 = .ok (.iload 4, 2) := dAt dlX2_shortestRound_0 40 rfl
theorem dX2_shortestRound_67 : decode cX2_shortestRound 67 = .ok (.iconst 1, 1) := dAt dlX2_shortestRound_0 41 rfl
theorem dX2_shortestRound_68 : decode cX2_shortestRound 68 = .ok (.iadd, 1) := dAt dlX2_shortestRound_0 42 rfl
theorem dX2_shortestRound_69 : decode cX2_shortestRound 69 = .ok (.istore_n 1, 1) := dAt dlX2_shortestRound_0 43 rfl
theorem dX2_shortestRound_70 : decode cX2_shortestRound 70 = .ok (.iinc 3 1, 3) := dAt dlX2_shortestRound_0 44 rfl
theorem dX2_shortestRound_73 : decode cX2_shortestRound 73 = .ok (.goto (-57), 3) := dAt dlX2_shortestRound_0 45 rfl
theorem dX2_shortestRound_76 : decode cX2_shortestRound 76 = .ok (.iinc 2 1, 3) := dAt dlX2_shortestRound_0 46 rfl
theorem dX2_shortestRound_79 : decode cX2_shortestRound 79 = .ok (.goto (-75), 3) := dAt dlX2_shortestRound_0 47 rfl
theorem dX2_shortestRound_82 : decode cX2_shortestRound 82 = .ok (.iload_n 1, 1) := dAt dlX2_shortestRound_0 48 rfl
theorem dX2_shortestRound_83 : decode cX2_shortestRound 83 = .ok (.ireturn, 1) := dAt dlX2_shortestRound_0 49 rfl
def ilX2_oddKnots_0 : List (Nat × Instr × Nat) := [(0, .iconst 0, 1), (1, .istore_n 3, 1), (2, .iconst 0, 1), (3, .istore 4, 2), (5, .iconst 0, 1), (6, .istore 5, 2), (8, .iload 5, 2), (10, .aload_n 0, 1), (11, .getfield 9, 3), (14, .if_icmp .ge 70, 3), (17, .iload 5, 2), (19, .iconst 1, 1), (20, .iadd, 1), (21, .istore 6, 2), (23, .iload 6, 2), (25, .aload_n 0, 1), (26, .getfield 9, 3), (29, .if_icmp .ge 49, 3), (32, .aload_n 0, 1), (33, .iload 5, 2), (35, .iload 6, 2), (37, .invokevirtual 51, 3), (40, .ifCond .ne 6, 3), (43, .goto 29, 3), (46, .lload_n 1, 1), (47, .iload 4, 2), (49, .lushr, 1), (50, .lconst 1, 1), (51, .land, 1), (52, .lconst 1, 1), (53, .lcmp, 1), (54, .ifCond .ne 15, 3), (57, .iload_n 3, 1), (58, .iconst 1, 1), (59, .iload 5, 2), (61, .ishl, 1), (62, .iconst 1, 1), (63, .iload 6, 2), (65, .ishl, 1), (66, .ior, 1), (67, .ixor, 1), (68, .istore_n 3, 1), (69, .iinc 4 1, 3), (72, .iinc 6 1, 3), (75, .goto (-52), 3), (78, .iinc 5 1, 3), (81, .goto (-73), 3), (84, .iload_n 3, 1), (85, .ireturn, 1)]
theorem dlX2_oddKnots_0 : dOK cX2_oddKnots ilX2_oddKnots_0 = true := by decide +kernel
theorem dX2_oddKnots_0 : decode cX2_oddKnots 0 = .ok (.iconst 0, 1) := dAt dlX2_oddKnots_0 0 rfl
theorem dX2_oddKnots_1 : decode cX2_oddKnots 1 = .ok (.istore_n 3, 1) := dAt dlX2_oddKnots_0 1 rfl
theorem dX2_oddKnots_2 : decode cX2_oddKnots 2 = .ok (.iconst 0, 1) := dAt dlX2_oddKnots_0 2 rfl
theorem dX2_oddKnots_3 : decode cX2_oddKnots 3 = .ok (.istore 4, 2) := dAt dlX2_oddKnots_0 3 rfl
theorem dX2_oddKnots_5 : decode cX2_oddKnots 5 = .ok (.iconst 0, 1) := dAt dlX2_oddKnots_0 4 rfl
theorem dX2_oddKnots_6 : decode cX2_oddKnots 6 = .ok (.istore 5, 2) := dAt dlX2_oddKnots_0 5 rfl
theorem dX2_oddKnots_8 : decode cX2_oddKnots 8 = .ok (.iload 5, 2) := dAt dlX2_oddKnots_0 6 rfl
theorem dX2_oddKnots_10 : decode cX2_oddKnots 10 = .ok (.aload_n 0, 1) := dAt dlX2_oddKnots_0 7 rfl
theorem dX2_oddKnots_11 : decode cX2_oddKnots 11 = .ok (.getfield 9, 3) := dAt dlX2_oddKnots_0 8 rfl
theorem dX2_oddKnots_14 : decode cX2_oddKnots 14 = .ok (.if_icmp .ge 70, 3) := dAt dlX2_oddKnots_0 9 rfl
theorem dX2_oddKnots_17 : decode cX2_oddKnots 17 = .ok (.iload 5, 2) := dAt dlX2_oddKnots_0 10 rfl
theorem dX2_oddKnots_19 : decode cX2_oddKnots 19 = .ok (.iconst 1, 1) := dAt dlX2_oddKnots_0 11 rfl
theorem dX2_oddKnots_20 : decode cX2_oddKnots 20 = .ok (.iadd, 1) := dAt dlX2_oddKnots_0 12 rfl
theorem dX2_oddKnots_21 : decode cX2_oddKnots 21 = .ok (.istore 6, 2) := dAt dlX2_oddKnots_0 13 rfl
theorem dX2_oddKnots_23 : decode cX2_oddKnots 23 = .ok (.iload 6, 2) := dAt dlX2_oddKnots_0 14 rfl
theorem dX2_oddKnots_25 : decode cX2_oddKnots 25 = .ok (.aload_n 0, 1) := dAt dlX2_oddKnots_0 15 rfl
theorem dX2_oddKnots_26 : decode cX2_oddKnots 26 = .ok (.getfield 9, 3) := dAt dlX2_oddKnots_0 16 rfl
theorem dX2_oddKnots_29 : decode cX2_oddKnots 29 = .ok (.if_icmp .ge 49, 3) := dAt dlX2_oddKnots_0 17 rfl
theorem dX2_oddKnots_32 : decode cX2_oddKnots 32 = .ok (.aload_n 0, 1) := dAt dlX2_oddKnots_0 18 rfl
theorem dX2_oddKnots_33 : decode cX2_oddKnots 33 = .ok (.iload 5, 2) := dAt dlX2_oddKnots_0 19 rfl
theorem dX2_oddKnots_35 : decode cX2_oddKnots 35 = .ok (.iload 6, 2) := dAt dlX2_oddKnots_0 20 rfl
theorem dX2_oddKnots_37 : decode cX2_oddKnots 37 = .ok (.invokevirtual 51, 3) := dAt dlX2_oddKnots_0 21 rfl
theorem dX2_oddKnots_40 : decode cX2_oddKnots 40 = .ok (.ifCond .ne 6, 3) := dAt dlX2_oddKnots_0 22 rfl
theorem dX2_oddKnots_43 : decode cX2_oddKnots 43 = .ok (.goto 29, 3) := dAt dlX2_oddKnots_0 23 rfl
theorem dX2_oddKnots_46 : decode cX2_oddKnots 46 = .ok (.lload_n 1, 1) := dAt dlX2_oddKnots_0 24 rfl
theorem dX2_oddKnots_47 : decode cX2_oddKnots 47 = .ok (.iload 4, 2) := dAt dlX2_oddKnots_0 25 rfl
theorem dX2_oddKnots_49 : decode cX2_oddKnots 49 = .ok (.lushr, 1) := dAt dlX2_oddKnots_0 26 rfl
theorem dX2_oddKnots_50 : decode cX2_oddKnots 50 = .ok (.lconst 1, 1) := dAt dlX2_oddKnots_0 27 rfl
theorem dX2_oddKnots_51 : decode cX2_oddKnots 51 = .ok (.land, 1) := dAt dlX2_oddKnots_0 28 rfl
theorem dX2_oddKnots_52 : decode cX2_oddKnots 52 = .ok (.lconst 1, 1) := dAt dlX2_oddKnots_0 29 rfl
theorem dX2_oddKnots_53 : decode cX2_oddKnots 53 = .ok (.lcmp, 1) := dAt dlX2_oddKnots_0 30 rfl
theorem dX2_oddKnots_54 : decode cX2_oddKnots 54 = .ok (.ifCond .ne 15, 3) := dAt dlX2_oddKnots_0 31 rfl
theorem dX2_oddKnots_57 : decode cX2_oddKnots 57 = .ok (.iload_n 3, 1) := dAt dlX2_oddKnots_0 32 rfl
theorem dX2_oddKnots_58 : decode cX2_oddKnots 58 = .ok (.iconst 1, 1) := dAt dlX2_oddKnots_0 33 rfl
theorem dX2_oddKnots_59 : decode cX2_oddKnots 59 = .ok (.iload 5, 2) := dAt dlX2_oddKnots_0 34 rfl
theorem dX2_oddKnots_61 : decode cX2_oddKnots 61 = .ok (.ishl, 1) := dAt dlX2_oddKnots_0 35 rfl
theorem dX2_oddKnots_62 : decode cX2_oddKnots 62 = .ok (.iconst 1, 1) := dAt dlX2_oddKnots_0 36 rfl
theorem dX2_oddKnots_63 : decode cX2_oddKnots 63 = .ok (.iload 6, 2) := dAt dlX2_oddKnots_0 37 rfl
theorem dX2_oddKnots_65 : decode cX2_oddKnots 65 = .ok (.ishl, 1) := dAt dlX2_oddKnots_0 38 rfl
theorem dX2_oddKnots_66 : decode cX2_oddKnots 66 = .ok (.ior, 1) := dAt dlX2_oddKnots_0 39 rfl
theorem dX2_oddKnots_67 : decode cX2_oddKnots 67 = .ok (.ixor, 1) := dAt dlX2_oddKnots_0 40 rfl
theorem dX2_oddKnots_68 : decode cX2_oddKnots 68 = .ok (.istore_n 3, 1) := dAt dlX2_oddKnots_0 41 rfl
theorem dX2_oddKnots_69 : decode cX2_oddKnots 69 = .ok (.iinc 4 1, 3) := dAt dlX2_oddKnots_0 42 rfl
theorem dX2_oddKnots_72 : decode cX2_oddKnots 72 = .ok (.iinc 6 1, 3) := dAt dlX2_oddKnots_0 43 rfl
theorem dX2_oddKnots_75 : decode cX2_oddKnots 75 = .ok (.goto (-52), 3) := dAt dlX2_oddKnots_0 44 rfl
theorem dX2_oddKnots_78 : decode cX2_oddKnots 78 = .ok (.iinc 5 1, 3) := dAt dlX2_oddKnots_0 45 rfl
theorem dX2_oddKnots_81 : decode cX2_oddKnots 81 = .ok (.goto (-73), 3) := dAt dlX2_oddKnots_0 46 rfl
theorem dX2_oddKnots_84 : decode cX2_oddKnots 84 = .ok (.iload_n 3, 1) := dAt dlX2_oddKnots_0 47 rfl
theorem dX2_oddKnots_85 : decode cX2_oddKnots 85 = .ok (.ireturn, 1) := dAt dlX2_oddKnots_0 48 rfl
def ilX2_flipBack_0 : List (Nat × Instr × Nat) := [(0, .lload_n 1, 1), (1, .lstore_n 3, 1), (2, .aload_n 0, 1), (3, .lload_n 1, 1), (4, .invokevirtual 73, 3), (7, .istore 5, 2), (9, .iconst 0, 1), (10, .istore 6, 2), (12, .iconst 0, 1), (13, .istore 7, 2), (15, .iload 7, 2), (17, .aload_n 0, 1), (18, .getfield 9, 3), (21, .if_icmp .ge 82, 3), (24, .iload 7, 2), (26, .iconst 1, 1), (27, .iadd, 1), (28, .istore 8, 2), (30, .iload 8, 2), (32, .aload_n 0, 1), (33, .getfield 9, 3), (36, .if_icmp .ge 61, 3), (39, .aload_n 0, 1), (40, .iload 7, 2), (42, .iload 8, 2), (44, .invokevirtual 51, 3), (47, .ifCond .ne 6, 3), (50, .goto 41, 3), (53, .iconst 1, 1), (54, .iload 7, 2), (56, .ishl, 1), (57, .iconst 1, 1), (58, .iload 8, 2), (60, .ishl, 1), (61, .ior, 1), (62, .istore 9, 2), (64, .iload 5, 2), (66, .iload 9, 2), (68, .iand, 1), (69, .iload 9, 2), (71, .if_icmp .ne 17, 3), (74, .iload 5, 2), (76, .iload 9, 2), (78, .ixor, 1), (79, .istore 5, 2), (81, .lload_n 3, 1), (82, .lconst 1, 1), (83, .iload 6, 2), (85, .lshl, 1), (86, .lxor, 1), (87, .lstore_n 3, 1), (88, .iinc 6 1, 3), (91, .iinc 8 1, 3), (94, .goto (-64), 3), (97, .iinc 7 1, 3), (100, .goto (-85), 3), (103, .lload_n 3, 1), (104, .lreturn, 1)]
theorem dlX2_flipBack_0 : dOK cX2_flipBack ilX2_flipBack_0 = true := by decide +kernel
theorem dX2_flipBack_0 : decode cX2_flipBack 0 = .ok (.lload_n 1, 1) := dAt dlX2_flipBack_0 0 rfl
theorem dX2_flipBack_1 : decode cX2_flipBack 1 = .ok (.lstore_n 3, 1) := dAt dlX2_flipBack_0 1 rfl
theorem dX2_flipBack_2 : decode cX2_flipBack 2 = .ok (.aload_n 0, 1) := dAt dlX2_flipBack_0 2 rfl
theorem dX2_flipBack_3 : decode cX2_flipBack 3 = .ok (.lload_n 1, 1) := dAt dlX2_flipBack_0 3 rfl
theorem dX2_flipBack_4 : decode cX2_flipBack 4 = .ok (.invokevirtual 73, 3) := dAt dlX2_flipBack_0 4 rfl
theorem dX2_flipBack_7 : decode cX2_flipBack 7 = .ok (.istore 5, 2) := dAt dlX2_flipBack_0 5 rfl
theorem dX2_flipBack_9 : decode cX2_flipBack 9 = .ok (.iconst 0, 1) := dAt dlX2_flipBack_0 6 rfl
theorem dX2_flipBack_10 : decode cX2_flipBack 10 = .ok (.istore 6, 2) := dAt dlX2_flipBack_0 7 rfl
theorem dX2_flipBack_12 : decode cX2_flipBack 12 = .ok (.iconst 0, 1) := dAt dlX2_flipBack_0 8 rfl
theorem dX2_flipBack_13 : decode cX2_flipBack 13 = .ok (.istore 7, 2) := dAt dlX2_flipBack_0 9 rfl
theorem dX2_flipBack_15 : decode cX2_flipBack 15 = .ok (.iload 7, 2) := dAt dlX2_flipBack_0 10 rfl
theorem dX2_flipBack_17 : decode cX2_flipBack 17 = .ok (.aload_n 0, 1) := dAt dlX2_flipBack_0 11 rfl
theorem dX2_flipBack_18 : decode cX2_flipBack 18 = .ok (.getfield 9, 3) := dAt dlX2_flipBack_0 12 rfl
theorem dX2_flipBack_21 : decode cX2_flipBack 21 = .ok (.if_icmp .ge 82, 3) := dAt dlX2_flipBack_0 13 rfl
theorem dX2_flipBack_24 : decode cX2_flipBack 24 = .ok (.iload 7, 2) := dAt dlX2_flipBack_0 14 rfl
theorem dX2_flipBack_26 : decode cX2_flipBack 26 = .ok (.iconst 1, 1) := dAt dlX2_flipBack_0 15 rfl
theorem dX2_flipBack_27 : decode cX2_flipBack 27 = .ok (.iadd, 1) := dAt dlX2_flipBack_0 16 rfl
theorem dX2_flipBack_28 : decode cX2_flipBack 28 = .ok (.istore 8, 2) := dAt dlX2_flipBack_0 17 rfl
theorem dX2_flipBack_30 : decode cX2_flipBack 30 = .ok (.iload 8, 2) := dAt dlX2_flipBack_0 18 rfl
theorem dX2_flipBack_32 : decode cX2_flipBack 32 = .ok (.aload_n 0, 1) := dAt dlX2_flipBack_0 19 rfl
theorem dX2_flipBack_33 : decode cX2_flipBack 33 = .ok (.getfield 9, 3) := dAt dlX2_flipBack_0 20 rfl
theorem dX2_flipBack_36 : decode cX2_flipBack 36 = .ok (.if_icmp .ge 61, 3) := dAt dlX2_flipBack_0 21 rfl
theorem dX2_flipBack_39 : decode cX2_flipBack 39 = .ok (.aload_n 0, 1) := dAt dlX2_flipBack_0 22 rfl
theorem dX2_flipBack_40 : decode cX2_flipBack 40 = .ok (.iload 7, 2) := dAt dlX2_flipBack_0 23 rfl
theorem dX2_flipBack_42 : decode cX2_flipBack 42 = .ok (.iload 8, 2) := dAt dlX2_flipBack_0 24 rfl
theorem dX2_flipBack_44 : decode cX2_flipBack 44 = .ok (.invokevirtual 51, 3) := dAt dlX2_flipBack_0 25 rfl
theorem dX2_flipBack_47 : decode cX2_flipBack 47 = .ok (.ifCond .ne 6, 3) := dAt dlX2_flipBack_0 26 rfl
theorem dX2_flipBack_50 : decode cX2_flipBack 50 = .ok (.goto 41, 3) := dAt dlX2_flipBack_0 27 rfl
theorem dX2_flipBack_53 : decode cX2_flipBack 53 = .ok (.iconst 1, 1) := dAt dlX2_flipBack_0 28 rfl
theorem dX2_flipBack_54 : decode cX2_flipBack 54 = .ok (.iload 7, 2) := dAt dlX2_flipBack_0 29 rfl
theorem dX2_flipBack_56 : decode cX2_flipBack 56 = .ok (.ishl, 1) := dAt dlX2_flipBack_0 30 rfl
theorem dX2_flipBack_57 : decode cX2_flipBack 57 = .ok (.iconst 1, 1) := dAt dlX2_flipBack_0 31 rfl
theorem dX2_flipBack_58 : decode cX2_flipBack 58 = .ok (.iload 8, 2) := dAt dlX2_flipBack_0 32 rfl
theorem dX2_flipBack_60 : decode cX2_flipBack 60 = .ok (.ishl, 1) := dAt dlX2_flipBack_0 33 rfl
theorem dX2_flipBack_61 : decode cX2_flipBack 61 = .ok (.ior, 1) := dAt dlX2_flipBack_0 34 rfl
theorem dX2_flipBack_62 : decode cX2_flipBack 62 = .ok (.istore 9, 2) := dAt dlX2_flipBack_0 35 rfl
theorem dX2_flipBack_64 : decode cX2_flipBack 64 = .ok (.iload 5, 2) := dAt dlX2_flipBack_0 36 rfl
theorem dX2_flipBack_66 : decode cX2_flipBack 66 = .ok (.iload 9, 2) := dAt dlX2_flipBack_0 37 rfl
theorem dX2_flipBack_68 : decode cX2_flipBack 68 = .ok (.iand, 1) := dAt dlX2_flipBack_0 38 rfl
theorem dX2_flipBack_69 : decode cX2_flipBack 69 = .ok (.iload 9, 2) := dAt dlX2_flipBack_0 39 rfl
theorem dX2_flipBack_71 : decode cX2_flipBack 71 = .ok (.if_icmp .ne 17, 3) := dAt dlX2_flipBack_0 40 rfl
theorem dX2_flipBack_74 : decode cX2_flipBack 74 = .ok (.iload 5, 2) := dAt dlX2_flipBack_0 41 rfl
theorem dX2_flipBack_76 : decode cX2_flipBack 76 = .ok (.iload 9, 2) := dAt dlX2_flipBack_0 42 rfl
theorem dX2_flipBack_78 : decode cX2_flipBack 78 = .ok (.ixor, 1) := dAt dlX2_flipBack_0 43 rfl
theorem dX2_flipBack_79 : decode cX2_flipBack 79 = .ok (.istore 5, 2) := dAt dlX2_flipBack_0 44 rfl
theorem dX2_flipBack_81 : decode cX2_flipBack 81 = .ok (.lload_n 3, 1) := dAt dlX2_flipBack_0 45 rfl
theorem dX2_flipBack_82 : decode cX2_flipBack 82 = .ok (.lconst 1, 1) := dAt dlX2_flipBack_0 46 rfl
theorem dX2_flipBack_83 : decode cX2_flipBack 83 = .ok (.iload 6, 2) := dAt dlX2_flipBack_0 47 rfl
theorem dX2_flipBack_85 : decode cX2_flipBack 85 = .ok (.lshl, 1) := dAt dlX2_flipBack_0 48 rfl
theorem dX2_flipBack_86 : decode cX2_flipBack 86 = .ok (.lxor, 1) := dAt dlX2_flipBack_0 49 rfl
theorem dX2_flipBack_87 : decode cX2_flipBack 87 = .ok (.lstore_n 3, 1) := dAt dlX2_flipBack_0 50 rfl
theorem dX2_flipBack_88 : decode cX2_flipBack 88 = .ok (.iinc 6 1, 3) := dAt dlX2_flipBack_0 51 rfl
theorem dX2_flipBack_91 : decode cX2_flipBack 91 = .ok (.iinc 8 1, 3) := dAt dlX2_flipBack_0 52 rfl
theorem dX2_flipBack_94 : decode cX2_flipBack 94 = .ok (.goto (-64), 3) := dAt dlX2_flipBack_0 53 rfl
theorem dX2_flipBack_97 : decode cX2_flipBack 97 = .ok (.iinc 7 1, 3) := dAt dlX2_flipBack_0 54 rfl
theorem dX2_flipBack_100 : decode cX2_flipBack 100 = .ok (.goto (-85), 3) := dAt dlX2_flipBack_0 55 rfl
theorem dX2_flipBack_103 : decode cX2_flipBack 103 = .ok (.lload_n 3, 1) := dAt dlX2_flipBack_0 56 rfl
theorem dX2_flipBack_104 : decode cX2_flipBack 104 = .ok (.lreturn, 1) := dAt dlX2_flipBack_0 57 rfl
def ilX2_addTo_0 : List (Nat × Instr × Nat) := [(0, .ldc2_w 77, 3), (3, .lload_n 1, 1), (4, .lmul, 1), (5, .aload_n 0, 1), (6, .getfield 9, 3), (9, .i2l, 1), (10, .ladd, 1), (11, .lstore_n 3, 1), (12, .iconst 0, 1), (13, .istore 5, 2), (15, .iload 5, 2), (17, .aload_n 0, 1), (18, .getfield 9, 3), (21, .if_icmp .ge 24, 3), (24, .ldc2_w 77, 3), (27, .lload_n 3, 1), (28, .lmul, 1), (29, .aload_n 0, 1), (30, .getfield 15, 3), (33, .iload 5, 2), (35, .iaload, 1), (36, .i2l, 1), (37, .ladd, 1), (38, .lstore_n 3, 1), (39, .iinc 5 1, 3), (42, .goto (-27), 3), (45, .lload_n 3, 1), (46, .lreturn, 1)]
theorem dlX2_addTo_0 : dOK cX2_addTo ilX2_addTo_0 = true := by decide +kernel
theorem dX2_addTo_0 : decode cX2_addTo 0 = .ok (.ldc2_w 77, 3) := dAt dlX2_addTo_0 0 rfl
theorem dX2_addTo_3 : decode cX2_addTo 3 = .ok (.lload_n 1, 1) := dAt dlX2_addTo_0 1 rfl
theorem dX2_addTo_4 : decode cX2_addTo 4 = .ok (.lmul, 1) := dAt dlX2_addTo_0 2 rfl
theorem dX2_addTo_5 : decode cX2_addTo 5 = .ok (.aload_n 0, 1) := dAt dlX2_addTo_0 3 rfl
theorem dX2_addTo_6 : decode cX2_addTo 6 = .ok (.getfield 9, 3) := dAt dlX2_addTo_0 4 rfl
theorem dX2_addTo_9 : decode cX2_addTo 9 = .ok (.i2l, 1) := dAt dlX2_addTo_0 5 rfl
theorem dX2_addTo_10 : decode cX2_addTo 10 = .ok (.ladd, 1) := dAt dlX2_addTo_0 6 rfl
theorem dX2_addTo_11 : decode cX2_addTo 11 = .ok (.lstore_n 3, 1) := dAt dlX2_addTo_0 7 rfl
theorem dX2_addTo_12 : decode cX2_addTo 12 = .ok (.iconst 0, 1) := dAt dlX2_addTo_0 8 rfl
theorem dX2_addTo_13 : decode cX2_addTo 13 = .ok (.istore 5, 2) := dAt dlX2_addTo_0 9 rfl
theorem dX2_addTo_15 : decode cX2_addTo 15 = .ok (.iload 5, 2) := dAt dlX2_addTo_0 10 rfl
theorem dX2_addTo_17 : decode cX2_addTo 17 = .ok (.aload_n 0, 1) := dAt dlX2_addTo_0 11 rfl
theorem dX2_addTo_18 : decode cX2_addTo 18 = .ok (.getfield 9, 3) := dAt dlX2_addTo_0 12 rfl
theorem dX2_addTo_21 : decode cX2_addTo 21 = .ok (.if_icmp .ge 24, 3) := dAt dlX2_addTo_0 13 rfl
theorem dX2_addTo_24 : decode cX2_addTo 24 = .ok (.ldc2_w 77, 3) := dAt dlX2_addTo_0 14 rfl
theorem dX2_addTo_27 : decode cX2_addTo 27 = .ok (.lload_n 3, 1) := dAt dlX2_addTo_0 15 rfl
theorem dX2_addTo_28 : decode cX2_addTo 28 = .ok (.lmul, 1) := dAt dlX2_addTo_0 16 rfl
theorem dX2_addTo_29 : decode cX2_addTo 29 = .ok (.aload_n 0, 1) := dAt dlX2_addTo_0 17 rfl
theorem dX2_addTo_30 : decode cX2_addTo 30 = .ok (.getfield 15, 3) := dAt dlX2_addTo_0 18 rfl
theorem dX2_addTo_33 : decode cX2_addTo 33 = .ok (.iload 5, 2) := dAt dlX2_addTo_0 19 rfl
theorem dX2_addTo_35 : decode cX2_addTo 35 = .ok (.iaload, 1) := dAt dlX2_addTo_0 20 rfl
theorem dX2_addTo_36 : decode cX2_addTo 36 = .ok (.i2l, 1) := dAt dlX2_addTo_0 21 rfl
theorem dX2_addTo_37 : decode cX2_addTo 37 = .ok (.ladd, 1) := dAt dlX2_addTo_0 22 rfl
theorem dX2_addTo_38 : decode cX2_addTo 38 = .ok (.lstore_n 3, 1) := dAt dlX2_addTo_0 23 rfl
theorem dX2_addTo_39 : decode cX2_addTo 39 = .ok (.iinc 5 1, 3) := dAt dlX2_addTo_0 24 rfl
theorem dX2_addTo_42 : decode cX2_addTo 42 = .ok (.goto (-27), 3) := dAt dlX2_addTo_0 25 rfl
theorem dX2_addTo_45 : decode cX2_addTo 45 = .ok (.lload_n 3, 1) := dAt dlX2_addTo_0 26 rfl
theorem dX2_addTo_46 : decode cX2_addTo 46 = .ok (.lreturn, 1) := dAt dlX2_addTo_0 27 rfl
def ilX3_init_0 : List (Nat × Instr × Nat) := [(0, .aload_n 0, 1), (1, .invokespecial 3, 3), (4, .aload_n 0, 1), (5, .bipush 10, 2), (7, .bipush 10, 2), (9, .multianewarray 9 2, 4), (13, .putfield 11, 3), (16, .aload_n 0, 1), (17, .bipush 10, 2), (19, .bipush 10, 2), (21, .multianewarray 16 2, 4), (25, .putfield 18, 3), (28, .aload_n 0, 1), (29, .bipush 10, 2), (31, .bipush 10, 2), (33, .multianewarray 16 2, 4), (37, .putfield 21, 3), (40, .aload_n 0, 1), (41, .bipush 11, 2), (43, .newarray .long, 2), (45, .putfield 24, 3), (48, .aload_n 0, 1), (49, .bipush 11, 2), (51, .newarray .long, 2), (53, .putfield 28, 3), (56, .return_, 1)]
theorem dlX3_init_0 : dOK cX3_init ilX3_init_0 = true := by decide +kernel
theorem dX3_init_0 : decode cX3_init 0 = .ok (.aload_n 0, 1) := dAt dlX3_init_0 0 rfl
theorem dX3_init_1 : decode cX3_init 1 = .ok (.invokespecial 3, 3) := dAt dlX3_init_0 1 rfl
theorem dX3_init_4 : decode cX3_init 4 = .ok (.aload_n 0, 1) := dAt dlX3_init_0 2 rfl
theorem dX3_init_5 : decode cX3_init 5 = .ok (.bipush 10, 2) := dAt dlX3_init_0 3 rfl
theorem dX3_init_7 : decode cX3_init 7 = .ok (.bipush 10, 2) := dAt dlX3_init_0 4 rfl
theorem dX3_init_9 : decode cX3_init 9 = .ok (.multianewarray 9 2, 4) := dAt dlX3_init_0 5 rfl
theorem dX3_init_13 : decode cX3_init 13 = .ok (.putfield 11, 3) := dAt dlX3_init_0 6 rfl
theorem dX3_init_16 : decode cX3_init 16 = .ok (.aload_n 0, 1) := dAt dlX3_init_0 7 rfl
theorem dX3_init_17 : decode cX3_init 17 = .ok (.bipush 10, 2) := dAt dlX3_init_0 8 rfl
theorem dX3_init_19 : decode cX3_init 19 = .ok (.bipush 10, 2) := dAt dlX3_init_0 9 rfl
theorem dX3_init_21 : decode cX3_init 21 = .ok (.multianewarray 16 2, 4) := dAt dlX3_init_0 10 rfl
theorem dX3_init_25 : decode cX3_init 25 = .ok (.putfield 18, 3) := dAt dlX3_init_0 11 rfl
theorem dX3_init_28 : decode cX3_init 28 = .ok (.aload_n 0, 1) := dAt dlX3_init_0 12 rfl
theorem dX3_init_29 : decode cX3_init 29 = .ok (.bipush 10, 2) := dAt dlX3_init_0 13 rfl
theorem dX3_init_31 : decode cX3_init 31 = .ok (.bipush 10, 2) := dAt dlX3_init_0 14 rfl
theorem dX3_init_33 : decode cX3_init 33 = .ok (.multianewarray 16 2, 4) := dAt dlX3_init_0 15 rfl
theorem dX3_init_37 : decode cX3_init 37 = .ok (.putfield 21, 3) := dAt dlX3_init_0 16 rfl
theorem dX3_init_40 : decode cX3_init 40 = .ok (.aload_n 0, 1) := dAt dlX3_init_0 17 rfl
theorem dX3_init_41 : decode cX3_init 41 = .ok (.bipush 11, 2) := dAt dlX3_init_0 18 rfl
theorem dX3_init_43 : decode cX3_init 43 = .ok (.newarray .long, 2) := dAt dlX3_init_0 19 rfl
theorem dX3_init_45 : decode cX3_init 45 = .ok (.putfield 24, 3) := dAt dlX3_init_0 20 rfl
theorem dX3_init_48 : decode cX3_init 48 = .ok (.aload_n 0, 1) := dAt dlX3_init_0 21 rfl
theorem dX3_init_49 : decode cX3_init 49 = .ok (.bipush 11, 2) := dAt dlX3_init_0 22 rfl
theorem dX3_init_51 : decode cX3_init 51 = .ok (.newarray .long, 2) := dAt dlX3_init_0 23 rfl
theorem dX3_init_53 : decode cX3_init 53 = .ok (.putfield 28, 3) := dAt dlX3_init_0 24 rfl
theorem dX3_init_56 : decode cX3_init 56 = .ok (.return_, 1) := dAt dlX3_init_0 25 rfl
def ilX3_read_0 : List (Nat × Instr × Nat) := [(0, .aload_n 0, 1), (1, .aload_n 1, 1), (2, .getfield 31, 3), (5, .putfield 37, 3), (8, .aload_n 0, 1), (9, .aload_n 1, 1), (10, .iload_n 2, 1), (11, .invokevirtual 38, 3), (14, .aload_n 0, 1), (15, .invokevirtual 42, 3), (18, .return_, 1)]
theorem dlX3_read_0 : dOK cX3_read ilX3_read_0 = true := by decide +kernel
theorem dX3_read_0 : decode cX3_read 0 = .ok (.aload_n 0, 1) := dAt dlX3_read_0 0 rfl
theorem dX3_read_1 : decode cX3_read 1 = .ok (.aload_n 1, 1) := dAt dlX3_read_0 1 rfl
theorem dX3_read_2 : decode cX3_read 2 = .ok (.getfield 31, 3) := dAt dlX3_read_0 2 rfl
theorem dX3_read_5 : decode cX3_read 5 = .ok (.putfield 37, 3) := dAt dlX3_read_0 3 rfl
theorem dX3_read_8 : decode cX3_read 8 = .ok (.aload_n 0, 1) := dAt dlX3_read_0 4 rfl
theorem dX3_read_9 : decode cX3_read 9 = .ok (.aload_n 1, 1) := dAt dlX3_read_0 5 rfl
theorem dX3_read_10 : decode cX3_read 10 = .ok (.iload_n 2, 1) := dAt dlX3_read_0 6 rfl
theorem dX3_read_11 : decode cX3_read 11 = .ok (.invokevirtual 38, 3) := dAt dlX3_read_0 7 rfl
theorem dX3_read_14 : decode cX3_read 14 = .ok (.aload_n 0, 1) := dAt dlX3_read_0 8 rfl
theorem dX3_read_15 : decode cX3_read 15 = .ok (.invokevirtual 42, 3) := dAt dlX3_read_0 9 rfl
theorem dX3_read_18 : decode cX3_read 18 = .ok (.return_, 1) := dAt dlX3_read_0 10 rfl
def ilX3_countAbove_0 : List (Nat × Instr × Nat) := [(0, .aload_n 0, 1), (1, .iload_n 1, 1), (2, .invokevirtual 45, 3), (5, .iconst 0, 1), (6, .istore_n 2, 1), (7, .iconst 0, 1), (8, .istore_n 3, 1), (9, .aload_n 0, 1), (10, .getfield 37, 3), (13, .istore 4, 2), (15, .iload 4, 2), (17, .ifCond .lt 48, 3), (20, .aload_n 0, 1), (21, .getfield 28, 3), (24, .iload 4, 2), (26, .laload, 1), (27, .invokestatic 49, 3), (30, .istore 5, 2), (32, .iload 5, 2), (34, .ifCond .eq 13, 3), (37, .iload 5, 2), (39, .iload_n 3, 1), (40, .ineg, 1), (41, .if_icmp .ne 6, 3), (44, .iinc 2 1, 3), (47, .iload 5, 2), (49, .ifCond .eq 8, 3), (52, .iload 5, 2), (54, .goto 4, 3), (57, .iload_n 3, 1), (58, .istore_n 3, 1), (59, .iinc 4 (-1), 3), (62, .goto (-47), 3), (65, .iload_n 2, 1), (66, .ireturn, 1)]
theorem dlX3_countAbove_0 : dOK cX3_countAbove ilX3_countAbove_0 = true := by decide +kernel
theorem dX3_countAbove_0 : decode cX3_countAbove 0 = .ok (.aload_n 0, 1) := dAt dlX3_countAbove_0 0 rfl
theorem dX3_countAbove_1 : decode cX3_countAbove 1 = .ok (.iload_n 1, 1) := dAt dlX3_countAbove_0 1 rfl
theorem dX3_countAbove_2 : decode cX3_countAbove 2 = .ok (.invokevirtual 45, 3) := dAt dlX3_countAbove_0 2 rfl
theorem dX3_countAbove_5 : decode cX3_countAbove 5 = .ok (.iconst 0, 1) := dAt dlX3_countAbove_0 3 rfl
theorem dX3_countAbove_6 : decode cX3_countAbove 6 = .ok (.istore_n 2, 1) := dAt dlX3_countAbove_0 4 rfl
theorem dX3_countAbove_7 : decode cX3_countAbove 7 = .ok (.iconst 0, 1) := dAt dlX3_countAbove_0 5 rfl
theorem dX3_countAbove_8 : decode cX3_countAbove 8 = .ok (.istore_n 3, 1) := dAt dlX3_countAbove_0 6 rfl
theorem dX3_countAbove_9 : decode cX3_countAbove 9 = .ok (.aload_n 0, 1) := dAt dlX3_countAbove_0 7 rfl
theorem dX3_countAbove_10 : decode cX3_countAbove 10 = .ok (.getfield 37, 3) := dAt dlX3_countAbove_0 8 rfl
theorem dX3_countAbove_13 : decode cX3_countAbove 13 = .ok (.istore 4, 2) := dAt dlX3_countAbove_0 9 rfl
theorem dX3_countAbove_15 : decode cX3_countAbove 15 = .ok (.iload 4, 2) := dAt dlX3_countAbove_0 10 rfl
theorem dX3_countAbove_17 : decode cX3_countAbove 17 = .ok (.ifCond .lt 48, 3) := dAt dlX3_countAbove_0 11 rfl
theorem dX3_countAbove_20 : decode cX3_countAbove 20 = .ok (.aload_n 0, 1) := dAt dlX3_countAbove_0 12 rfl
theorem dX3_countAbove_21 : decode cX3_countAbove 21 = .ok (.getfield 28, 3) := dAt dlX3_countAbove_0 13 rfl
theorem dX3_countAbove_24 : decode cX3_countAbove 24 = .ok (.iload 4, 2) := dAt dlX3_countAbove_0 14 rfl
theorem dX3_countAbove_26 : decode cX3_countAbove 26 = .ok (.laload, 1) := dAt dlX3_countAbove_0 15 rfl
theorem dX3_countAbove_27 : decode cX3_countAbove 27 = .ok (.invokestatic 49, 3) := dAt dlX3_countAbove_0 16 rfl
theorem dX3_countAbove_30 : decode cX3_countAbove 30 = .ok (.istore 5, 2) := dAt dlX3_countAbove_0 17 rfl
theorem dX3_countAbove_32 : decode cX3_countAbove 32 = .ok (.iload 5, 2) := dAt dlX3_countAbove_0 18 rfl
theorem dX3_countAbove_34 : decode cX3_countAbove 34 = .ok (.ifCond .eq 13, 3) := dAt dlX3_countAbove_0 19 rfl
theorem dX3_countAbove_37 : decode cX3_countAbove 37 = .ok (.iload 5, 2) := dAt dlX3_countAbove_0 20 rfl
theorem dX3_countAbove_39 : decode cX3_countAbove 39 = .ok (.iload_n 3, 1) := dAt dlX3_countAbove_0 21 rfl
theorem dX3_countAbove_40 : decode cX3_countAbove 40 = .ok (.ineg, 1) := dAt dlX3_countAbove_0 22 rfl
theorem dX3_countAbove_41 : decode cX3_countAbove 41 = .ok (.if_icmp .ne 6, 3) := dAt dlX3_countAbove_0 23 rfl
theorem dX3_countAbove_44 : decode cX3_countAbove 44 = .ok (.iinc 2 1, 3) := dAt dlX3_countAbove_0 24 rfl
theorem dX3_countAbove_47 : decode cX3_countAbove 47 = .ok (.iload 5, 2) := dAt dlX3_countAbove_0 25 rfl
theorem dX3_countAbove_49 : decode cX3_countAbove 49 = .ok (.ifCond .eq 8, 3) := dAt dlX3_countAbove_0 26 rfl
theorem dX3_countAbove_52 : decode cX3_countAbove 52 = .ok (.iload 5, 2) := dAt dlX3_countAbove_0 27 rfl
theorem dX3_countAbove_54 : decode cX3_countAbove 54 = .ok (.goto 4, 3) := dAt dlX3_countAbove_0 28 rfl
theorem dX3_countAbove_57 : decode cX3_countAbove 57 = .ok (.iload_n 3, 1) := dAt dlX3_countAbove_0 29 rfl
theorem dX3_countAbove_58 : decode cX3_countAbove 58 = .ok (.istore_n 3, 1) := dAt dlX3_countAbove_0 30 rfl
theorem dX3_countAbove_59 : decode cX3_countAbove 59 = .ok (.iinc 4 (-1), 3) := dAt dlX3_countAbove_0 31 rfl
theorem dX3_countAbove_62 : decode cX3_countAbove 62 = .ok (.goto (-47), 3) := dAt dlX3_countAbove_0 32 rfl
theorem dX3_countAbove_65 : decode cX3_countAbove 65 = .ok (.iload_n 2, 1) := dAt dlX3_countAbove_0 33 rfl
theorem dX3_countAbove_66 : decode cX3_countAbove 66 = .ok (.ireturn, 1) := dAt dlX3_countAbove_0 34 rfl
def ilX3_countAt_0 : List (Nat × Instr × Nat) := [(0, .aload_n 0, 1), (1, .iload_n 1, 1), (2, .invokevirtual 45, 3), (5, .iconst 0, 1), (6, .istore_n 2, 1), (7, .iload_n 2, 1), (8, .aload_n 0, 1), (9, .getfield 37, 3), (12, .if_icmp .ge 20, 3), (15, .aload_n 0, 1), (16, .getfield 28, 3), (19, .iload_n 2, 1), (20, .laload, 1), (21, .lconst 0, 1), (22, .lcmp, 1), (23, .ifCond .ne 9, 3), (26, .iinc 2 1, 3), (29, .goto (-22), 3), (32, .iload_n 2, 1), (33, .ireturn, 1)]
theorem dlX3_countAt_0 : dOK cX3_countAt ilX3_countAt_0 = true := by decide +kernel
theorem dX3_countAt_0 : decode cX3_countAt 0 = .ok (.aload_n 0, 1) := dAt dlX3_countAt_0 0 rfl
theorem dX3_countAt_1 : decode cX3_countAt 1 = .ok (.iload_n 1, 1) := dAt dlX3_countAt_0 1 rfl
theorem dX3_countAt_2 : decode cX3_countAt 2 = .ok (.invokevirtual 45, 3) := dAt dlX3_countAt_0 2 rfl
theorem dX3_countAt_5 : decode cX3_countAt 5 = .ok (.iconst 0, 1) := dAt dlX3_countAt_0 3 rfl
theorem dX3_countAt_6 : decode cX3_countAt 6 = .ok (.istore_n 2, 1) := dAt dlX3_countAt_0 4 rfl
theorem dX3_countAt_7 : decode cX3_countAt 7 = .ok (.iload_n 2, 1) := dAt dlX3_countAt_0 5 rfl
theorem dX3_countAt_8 : decode cX3_countAt 8 = .ok (.aload_n 0, 1) := dAt dlX3_countAt_0 6 rfl
theorem dX3_countAt_9 : decode cX3_countAt 9 = .ok (.getfield 37, 3) := dAt dlX3_countAt_0 7 rfl
theorem dX3_countAt_12 : decode cX3_countAt 12 = .ok (.if_icmp .ge 20, 3) := dAt dlX3_countAt_0 8 rfl
theorem dX3_countAt_15 : decode cX3_countAt 15 = .ok (.aload_n 0, 1) := dAt dlX3_countAt_0 9 rfl
theorem dX3_countAt_16 : decode cX3_countAt 16 = .ok (.getfield 28, 3) := dAt dlX3_countAt_0 10 rfl
theorem dX3_countAt_19 : decode cX3_countAt 19 = .ok (.iload_n 2, 1) := dAt dlX3_countAt_0 11 rfl
theorem dX3_countAt_20 : decode cX3_countAt 20 = .ok (.laload, 1) := dAt dlX3_countAt_0 12 rfl
theorem dX3_countAt_21 : decode cX3_countAt 21 = .ok (.lconst 0, 1) := dAt dlX3_countAt_0 13 rfl
theorem dX3_countAt_22 : decode cX3_countAt 22 = .ok (.lcmp, 1) := dAt dlX3_countAt_0 14 rfl
theorem dX3_countAt_23 : decode cX3_countAt 23 = .ok (.ifCond .ne 9, 3) := dAt dlX3_countAt_0 15 rfl
theorem dX3_countAt_26 : decode cX3_countAt 26 = .ok (.iinc 2 1, 3) := dAt dlX3_countAt_0 16 rfl
theorem dX3_countAt_29 : decode cX3_countAt 29 = .ok (.goto (-22), 3) := dAt dlX3_countAt_0 17 rfl
theorem dX3_countAt_32 : decode cX3_countAt 32 = .ok (.iload_n 2, 1) := dAt dlX3_countAt_0 18 rfl
theorem dX3_countAt_33 : decode cX3_countAt 33 = .ok (.ireturn, 1) := dAt dlX3_countAt_0 19 rfl
def ilX3_countBelow_0 : List (Nat × Instr × Nat) := [(0, .aload_n 0, 1), (1, .getfield 37, 3), (4, .aload_n 0, 1), (5, .iload_n 1, 1), (6, .invokevirtual 55, 3), (9, .isub, 1), (10, .aload_n 0, 1), (11, .iload_n 1, 1), (12, .invokevirtual 59, 3), (15, .isub, 1), (16, .ireturn, 1)]
theorem dlX3_countBelow_0 : dOK cX3_countBelow ilX3_countBelow_0 = true := by decide +kernel
theorem dX3_countBelow_0 : decode cX3_countBelow 0 = .ok (.aload_n 0, 1) := dAt dlX3_countBelow_0 0 rfl
theorem dX3_countBelow_1 : decode cX3_countBelow 1 = .ok (.getfield 37, 3) := dAt dlX3_countBelow_0 1 rfl
theorem dX3_countBelow_4 : decode cX3_countBelow 4 = .ok (.aload_n 0, 1) := dAt dlX3_countBelow_0 2 rfl
theorem dX3_countBelow_5 : decode cX3_countBelow 5 = .ok (.iload_n 1, 1) := dAt dlX3_countBelow_0 3 rfl
theorem dX3_countBelow_6 : decode cX3_countBelow 6 = .ok (.invokevirtual 55, 3) := dAt dlX3_countBelow_0 4 rfl
theorem dX3_countBelow_9 : decode cX3_countBelow 9 = .ok (.isub, 1) := dAt dlX3_countBelow_0 5 rfl
theorem dX3_countBelow_10 : decode cX3_countBelow 10 = .ok (.aload_n 0, 1) := dAt dlX3_countBelow_0 6 rfl
theorem dX3_countBelow_11 : decode cX3_countBelow 11 = .ok (.iload_n 1, 1) := dAt dlX3_countBelow_0 7 rfl
theorem dX3_countBelow_12 : decode cX3_countBelow 12 = .ok (.invokevirtual 59, 3) := dAt dlX3_countBelow_0 8 rfl
theorem dX3_countBelow_15 : decode cX3_countBelow 15 = .ok (.isub, 1) := dAt dlX3_countBelow_0 9 rfl
theorem dX3_countBelow_16 : decode cX3_countBelow 16 = .ok (.ireturn, 1) := dAt dlX3_countBelow_0 10 rfl
def ilX3_width_0 : List (Nat × Instr × Nat) := [(0, .iconst 0, 1), (1, .istore_n 1, 1), (2, .iload_n 1, 1), (3, .bipush 18, 2), (5, .if_icmp .ge 28, 3), (8, .aload_n 0, 1), (9, .iload_n 1, 1), (10, .invokevirtual 55, 3), (13, .ifCond .ne 14, 3), (16, .aload_n 0, 1), (17, .iload_n 1, 1), (18, .ineg, 1), (19, .invokevirtual 62, 3), (22, .ifCond .ne 5, 3), (25, .iload_n 1, 1), (26, .ireturn, 1), (27, .iinc 1 1, 3), (30, .goto (-28), 3), (33, .bipush 18, 2), (35, .ireturn, 1)]
theorem dlX3_width_0 : dOK cX3_width ilX3_width_0 = true := by decide +kernel
theorem dX3_width_0 : decode cX3_width 0 = .ok (.iconst 0, 1) := dAt dlX3_width_0 0 rfl
theorem dX3_width_1 : decode cX3_width 1 = .ok (.istore_n 1, 1) := dAt dlX3_width_0 1 rfl
theorem dX3_width_2 : decode cX3_width 2 = .ok (.iload_n 1, 1) := dAt dlX3_width_0 2 rfl
theorem dX3_width_3 : decode cX3_width 3 = .ok (.bipush 18, 2) := dAt dlX3_width_0 3 rfl
theorem dX3_width_5 : decode cX3_width 5 = .ok (.if_icmp .ge 28, 3) := dAt dlX3_width_0 4 rfl
theorem dX3_width_8 : decode cX3_width 8 = .ok (.aload_n 0, 1) := dAt dlX3_width_0 5 rfl
theorem dX3_width_9 : decode cX3_width 9 = .ok (.iload_n 1, 1) := dAt dlX3_width_0 6 rfl
theorem dX3_width_10 : decode cX3_width 10 = .ok (.invokevirtual 55, 3) := dAt dlX3_width_0 7 rfl
theorem dX3_width_13 : decode cX3_width 13 = .ok (.ifCond .ne 14, 3) := dAt dlX3_width_0 8 rfl
theorem dX3_width_16 : decode cX3_width 16 = .ok (.aload_n 0, 1) := dAt dlX3_width_0 9 rfl
theorem dX3_width_17 : decode cX3_width 17 = .ok (.iload_n 1, 1) := dAt dlX3_width_0 10 rfl
theorem dX3_width_18 : decode cX3_width 18 = .ok (.ineg, 1) := dAt dlX3_width_0 11 rfl
theorem dX3_width_19 : decode cX3_width 19 = .ok (.invokevirtual 62, 3) := dAt dlX3_width_0 12 rfl
theorem dX3_width_22 : decode cX3_width 22 = .ok (.ifCond .ne 5, 3) := dAt dlX3_width_0 13 rfl
theorem dX3_width_25 : decode cX3_width 25 = .ok (.iload_n 1, 1) := dAt dlX3_width_0 14 rfl
theorem dX3_width_26 : decode cX3_width 26 = .ok (.ireturn, 1) := dAt dlX3_width_0 15 rfl
theorem dX3_width_27 : decode cX3_width 27 = .ok (.iinc 1 1, 3) := dAt dlX3_width_0 16 rfl
theorem dX3_width_30 : decode cX3_width 30 = .ok (.goto (-28), 3) := dAt dlX3_width_0 17 rfl
theorem dX3_width_33 : decode cX3_width 33 = .ok (.bipush 18, 2) := dAt dlX3_width_0 18 rfl
theorem dX3_width_35 : decode cX3_width 35 = .ok (.ireturn, 1) := dAt dlX3_width_0 19 rfl
def ilX3_fillTable_0 : List (Nat × Instr × Nat) := [(0, .iconst 0, 1), (1, .istore_n 3, 1), (2, .iconst 0, 1), (3, .istore 4, 2), (5, .iload 4, 2), (7, .aload_n 0, 1), (8, .getfield 37, 3), (11, .if_icmp .ge 104, 3), (14, .aload_n 0, 1), (15, .getfield 11, 3), (18, .iload 4, 2), (20, .aaload, 1), (21, .iload 4, 2), (23, .iconst 0, 1), (24, .iastore, 1), (25, .iload 4, 2), (27, .iconst 1, 1), (28, .iadd, 1), (29, .istore 5, 2), (31, .iload 5, 2), (33, .aload_n 0, 1), (34, .getfield 37, 3), (37, .if_icmp .ge 72, 3), (40, .iconst 0, 1), (41, .istore 6, 2), (43, .aload_n 1, 1), (44, .iload 4, 2), (46, .iload 5, 2), (48, .invokevirtual 65, 3), (51, .ifCond .eq 28, 3), (54, .iload_n 3, 1), (55, .bipush 31, 2), (57, .if_icmp .ge 16, 3), (60, .iload_n 2, 1), (61, .iload_n 3, 1), (62, .ishr, 1), (63, .iconst 1, 1), (64, .iand, 1), (65, .iconst 1, 1), (66, .if_icmp .ne 7, 3), (69, .iconst (-1), 1), (70, .goto 4, 3), (73, .iconst 1, 1), (74, .istore 6, 2), (76, .iinc 3 1, 3), (79, .aload_n 0, 1), (80, .getfield 11, 3), (83, .iload 4, 2), (85, .aaload, 1), (86, .iload 5, 2), (88, .iload 6, 2), (90, .iastore, 1), (91, .aload_n 0, 1), (92, .getfield 11, 3), (95, .iload 5, 2), (97, .aaload, 1), (98, .iload 4, 2), (100, .iload 6, 2), (102, .iastore, 1), (103, .iinc 5 1, 3)]
theorem dlX3_fillTable_0 : dOK cX3_fillTable ilX3_fillTable_0 = true := by decide +kernel
theorem dX3_fillTable_0 : decode cX3_fillTable 0 = .ok (.iconst 0, 1) := dAt dlX3_fillTable_0 0 rfl
theorem dX3_fillTable_1 : decode cX3_fillTable 1 = .ok (.istore_n 3, 1) := dAt dlX3_fillTable_0 1 rfl
theorem dX3_fillTable_2 : decode cX3_fillTable 2 = .ok (.iconst 0, 1) := dAt dlX3_fillTable_0 2 rfl
theorem dX3_fillTable_3 : decode cX3_fillTable 3 = .ok (.istore 4, 2) := dAt dlX3_fillTable_0 3 rfl
theorem dX3_fillTable_5 : decode cX3_fillTable 5 = .ok (.iload 4, 2) := dAt dlX3_fillTable_0 4 rfl
theorem dX3_fillTable_7 : decode cX3_fillTable 7 = .ok (.aload_n 0, 1) := dAt dlX3_fillTable_0 5 rfl
theorem dX3_fillTable_8 : decode cX3_fillTable 8 = .ok (.getfield 37, 3) := dAt dlX3_fillTable_0 6 rfl
theorem dX3_fillTable_11 : decode cX3_fillTable 11 = .ok (.if_icmp .ge 104, 3) := dAt dlX3_fillTable_0 7 rfl
theorem dX3_fillTable_14 : decode cX3_fillTable 14 = .ok (.aload_n 0, 1) := dAt dlX3_fillTable_0 8 rfl
theorem dX3_fillTable_15 : decode cX3_fillTable 15 = .ok (.getfield 11, 3) := dAt dlX3_fillTable_0 9 rfl
theorem dX3_fillTable_18 : decode cX3_fillTable 18 = .ok (.iload 4, 2) := dAt dlX3_fillTable_0 10 rfl
theorem dX3_fillTable_20 : decode cX3_fillTable 20 = .ok (.aaload, 1) := dAt dlX3_fillTable_0 11 rfl
theorem dX3_fillTable_21 : decode cX3_fillTable 21 = .ok (.iload 4, 2) := dAt dlX3_fillTable_0 12 rfl
theorem dX3_fillTable_23 : decode cX3_fillTable 23 = .ok (.iconst 0, 1) := dAt dlX3_fillTable_0 13 rfl
theorem dX3_fillTable_24 : decode cX3_fillTable 24 = .ok (.iastore, 1) := dAt dlX3_fillTable_0 14 rfl
theorem dX3_fillTable_25 : decode cX3_fillTable 25 = .ok (.iload 4, 2) := dAt dlX3_fillTable_0 15 rfl
theorem dX3_fillTable_27 : decode cX3_fillTable 27 = .ok (.iconst 1, 1) := dAt dlX3_fillTable_0 16 rfl
theorem dX3_fillTable_28 : decode cX3_fillTable 28 = .ok (.iadd, 1) := dAt dlX3_fillTable_0 17 rfl
theorem dX3_fillTable_29 : decode cX3_fillTable 29 = .ok (.istore 5, 2) := dAt dlX3_fillTable_0 18 rfl
theorem dX3_fillTable_31 : decode cX3_fillTable 31 = .ok (.iload 5, 2) := dAt dlX3_fillTable_0 19 rfl
theorem dX3_fillTable_33 : decode cX3_fillTable 33 = .ok (.aload_n 0, 1) := dAt dlX3_fillTable_0 20 rfl
theorem dX3_fillTable_34 : decode cX3_fillTable 34 = .ok (.getfield 37, 3) := dAt dlX3_fillTable_0 21 rfl
theorem dX3_fillTable_37 : decode cX3_fillTable 37 = .ok (.if_icmp .ge 72, 3) := dAt dlX3_fillTable_0 22 rfl
theorem dX3_fillTable_40 : decode cX3_fillTable 40 = .ok (.iconst 0, 1) := dAt dlX3_fillTable_0 23 rfl
theorem dX3_fillTable_41 : decode cX3_fillTable 41 = .ok (.istore 6, 2) := dAt dlX3_fillTable_0 24 rfl
theorem dX3_fillTable_43 : decode cX3_fillTable 43 = .ok (.aload_n 1, 1) := dAt dlX3_fillTable_0 25 rfl
theorem dX3_fillTable_44 : decode cX3_fillTable 44 = .ok (.iload 4, 2) := dAt dlX3_fillTable_0 26 rfl
theorem dX3_fillTable_46 : decode cX3_fillTable 46 = .ok (.iload 5, 2) := dAt dlX3_fillTable_0 27 rfl
theorem dX3_fillTable_48 : decode cX3_fillTable 48 = .ok (.invokevirtual 65, 3) := dAt dlX3_fillTable_0 28 rfl
theorem dX3_fillTable_51 : decode cX3_fillTable 51 = .ok (.ifCond .eq 28, 3) := dAt dlX3_fillTable_0 29 rfl
theorem dX3_fillTable_54 : decode cX3_fillTable 54 = .ok (.iload_n 3, 1) := dAt dlX3_fillTable_0 30 rfl
theorem dX3_fillTable_55 : decode cX3_fillTable 55 = .ok (.bipush 31, 2) := dAt dlX3_fillTable_0 31 rfl
theorem dX3_fillTable_57 : decode cX3_fillTable 57 = .ok (.if_icmp .ge 16, 3) := dAt dlX3_fillTable_0 32 rfl
theorem dX3_fillTable_60 : decode cX3_fillTable 60 = .ok (.iload_n 2, 1) := dAt dlX3_fillTable_0 33 rfl
theorem dX3_fillTable_61 : decode cX3_fillTable 61 = .ok (.iload_n 3, 1) := dAt dlX3_fillTable_0 34 rfl
theorem dX3_fillTable_62 : decode cX3_fillTable 62 = .ok (.ishr, 1) := dAt dlX3_fillTable_0 35 rfl
theorem dX3_fillTable_63 : decode cX3_fillTable 63 = .ok (.iconst 1, 1) := dAt dlX3_fillTable_0 36 rfl
theorem dX3_fillTable_64 : decode cX3_fillTable 64 = .ok (.iand, 1) := dAt dlX3_fillTable_0 37 rfl
theorem dX3_fillTable_65 : decode cX3_fillTable 65 = .ok (.iconst 1, 1) := dAt dlX3_fillTable_0 38 rfl
theorem dX3_fillTable_66 : decode cX3_fillTable 66 = .ok (.if_icmp .ne 7, 3) := dAt dlX3_fillTable_0 39 rfl
theorem dX3_fillTable_69 : decode cX3_fillTable 69 = .ok (.iconst (-1), 1) := dAt dlX3_fillTable_0 40 rfl
theorem dX3_fillTable_70 : decode cX3_fillTable 70 = .ok (.goto 4, 3) := dAt dlX3_fillTable_0 41 rfl
theorem dX3_fillTable_73 : decode cX3_fillTable 73 = .ok (.iconst 1, 1) := dAt dlX3_fillTable_0 42 rfl
theorem dX3_fillTable_74 : decode cX3_fillTable 74 = .ok (.istore 6, 2) := dAt dlX3_fillTable_0 43 rfl
theorem dX3_fillTable_76 : decode cX3_fillTable 76 = .ok (.iinc 3 1, 3) := dAt dlX3_fillTable_0 44 rfl
theorem dX3_fillTable_79 : decode cX3_fillTable 79 = .ok (.aload_n 0, 1) := dAt dlX3_fillTable_0 45 rfl
theorem dX3_fillTable_80 : decode cX3_fillTable 80 = .ok (.getfield 11, 3) := dAt dlX3_fillTable_0 46 rfl
theorem dX3_fillTable_83 : decode cX3_fillTable 83 = .ok (.iload 4, 2) := dAt dlX3_fillTable_0 47 rfl
theorem dX3_fillTable_85 : decode cX3_fillTable 85 = .ok (.aaload, 1) := dAt dlX3_fillTable_0 48 rfl
theorem dX3_fillTable_86 : decode cX3_fillTable 86 = .ok (.iload 5, 2) := dAt dlX3_fillTable_0 49 rfl
theorem dX3_fillTable_88 : decode cX3_fillTable 88 = .ok (.iload 6, 2) := dAt dlX3_fillTable_0 50 rfl
theorem dX3_fillTable_90 : decode cX3_fillTable 90 = .ok (.iastore, 1) := dAt dlX3_fillTable_0 51 rfl
theorem dX3_fillTable_91 : decode cX3_fillTable 91 = .ok (.aload_n 0, 1) := dAt dlX3_fillTable_0 52 rfl
theorem dX3_fillTable_92 : decode cX3_fillTable 92 = .ok (.getfield 11, 3) := dAt dlX3_fillTable_0 53 rfl
theorem dX3_fillTable_95 : decode cX3_fillTable 95 = .ok (.iload 5, 2) := dAt dlX3_fillTable_0 54 rfl
theorem dX3_fillTable_97 : decode cX3_fillTable 97 = .ok (.aaload, 1) := dAt dlX3_fillTable_0 55 rfl
theorem dX3_fillTable_98 : decode cX3_fillTable 98 = .ok (.iload 4, 2) := dAt dlX3_fillTable_0 56 rfl
theorem dX3_fillTable_100 : decode cX3_fillTable 100 = .ok (.iload 6, 2) := dAt dlX3_fillTable_0 57 rfl
theorem dX3_fillTable_102 : decode cX3_fillTable 102 = .ok (.iastore, 1) := dAt dlX3_fillTable_0 58 rfl
theorem dX3_fillTable_103 : decode cX3_fillTable 103 = .ok (.iinc 5 1, 3) := dAt dlX3_fillTable_0 59 rfl
def ilX3_fillTable_1 : List (Nat × Instr × Nat) := [(106, .goto (-75), 3), (109, .iinc 4 1, 3), (112, .goto (-107), 3), (115, .return_, 1)]
theorem dlX3_fillTable_1 : dOK cX3_fillTable ilX3_fillTable_1 = true := by decide +kernel
theorem dX3_fillTable_106 : decode cX3_fillTable 106 = .ok (.goto (-75), 3) := dAt dlX3_fillTable_1 0 rfl
theorem dX3_fillTable_109 : decode cX3_fillTable 109 = .ok (.iinc 4 1, 3) := dAt dlX3_fillTable_1 1 rfl
theorem dX3_fillTable_112 : decode cX3_fillTable 112 = .ok (.goto (-107), 3) := dAt dlX3_fillTable_1 2 rfl
theorem dX3_fillTable_115 : decode cX3_fillTable 115 = .ok (.return_, 1) := dAt dlX3_fillTable_1 3 rfl
def ilX3_findPolynomial_0 : List (Nat × Instr × Nat) := [(0, .aload_n 0, 1), (1, .getfield 24, 3), (4, .aload_n 0, 1), (5, .getfield 37, 3), (8, .lconst 1, 1), (9, .lastore, 1), (10, .iconst 0, 1), (11, .istore_n 1, 1), (12, .iload_n 1, 1), (13, .aload_n 0, 1), (14, .getfield 37, 3), (17, .if_icmp .ge 28, 3), (20, .aload_n 0, 1), (21, .getfield 18, 3), (24, .iload_n 1, 1), (25, .aaload, 1), (26, .lconst 0, 1), (27, .invokestatic 69, 3), (30, .aload_n 0, 1), (31, .getfield 18, 3), (34, .iload_n 1, 1), (35, .aaload, 1), (36, .iload_n 1, 1), (37, .lconst 1, 1), (38, .lastore, 1), (39, .iinc 1 1, 3), (42, .goto (-30), 3), (45, .iconst 1, 1), (46, .istore_n 1, 1), (47, .iload_n 1, 1), (48, .aload_n 0, 1), (49, .getfield 37, 3), (52, .if_icmp .gt 89, 3), (55, .aload_n 0, 1), (56, .invokevirtual 75, 3), (59, .lstore_n 2, 1), (60, .lload_n 2, 1), (61, .lneg, 1), (62, .iload_n 1, 1), (63, .i2l, 1), (64, .ldiv, 1), (65, .lstore 4, 2), (67, .aload_n 0, 1), (68, .getfield 24, 3), (71, .aload_n 0, 1), (72, .getfield 37, 3), (75, .iload_n 1, 1), (76, .isub, 1), (77, .lload 4, 2), (79, .iload_n 1, 1), (80, .lshl, 1), (81, .lastore, 1), (82, .iconst 0, 1), (83, .istore 6, 2), (85, .iload 6, 2), (87, .aload_n 0, 1), (88, .getfield 37, 3), (91, .if_icmp .ge 24, 3), (94, .aload_n 0, 1), (95, .getfield 21, 3)]
theorem dlX3_findPolynomial_0 : dOK cX3_findPolynomial ilX3_findPolynomial_0 = true := by decide +kernel
theorem dX3_findPolynomial_0 : decode cX3_findPolynomial 0 = .ok (.aload_n 0, 1) := dAt dlX3_findPolynomial_0 0 rfl
theorem dX3_findPolynomial_1 : decode cX3_findPolynomial 1 = .ok (.getfield 24, 3) := dAt dlX3_findPolynomial_0 1 rfl
theorem dX3_findPolynomial_4 : decode cX3_findPolynomial 4 = .ok (.aload_n 0, 1) := dAt dlX3_findPolynomial_0 2 rfl
theorem dX3_findPolynomial_5 : decode cX3_findPolynomial 5 = .ok (.getfield 37, 3) := dAt dlX3_findPolynomial_0 3 rfl
theorem dX3_findPolynomial_8 : decode cX3_findPolynomial 8 = .ok (.lconst 1, 1) := dAt dlX3_findPolynomial_0 4 rfl
theorem dX3_findPolynomial_9 : decode cX3_findPolynomial 9 = .ok (.lastore, 1) := dAt dlX3_findPolynomial_0 5 rfl
theorem dX3_findPolynomial_10 : decode cX3_findPolynomial 10 = .ok (.iconst 0, 1) := dAt dlX3_findPolynomial_0 6 rfl
theorem dX3_findPolynomial_11 : decode cX3_findPolynomial 11 = .ok (.istore_n 1, 1) := dAt dlX3_findPolynomial_0 7 rfl
theorem dX3_findPolynomial_12 : decode cX3_findPolynomial 12 = .ok (.iload_n 1, 1) := dAt dlX3_findPolynomial_0 8 rfl
theorem dX3_findPolynomial_13 : decode cX3_findPolynomial 13 = .ok (.aload_n 0, 1) := dAt dlX3_findPolynomial_0 9 rfl
theorem dX3_findPolynomial_14 : decode cX3_findPolynomial 14 = .ok (.getfield 37, 3) := dAt dlX3_findPolynomial_0 10 rfl
theorem dX3_findPolynomial_17 : decode cX3_findPolynomial 17 = .ok (.if_icmp .ge 28, 3) := dAt dlX3_findPolynomial_0 11 rfl
theorem dX3_findPolynomial_20 : decode cX3_findPolynomial 20 = .ok (.aload_n 0, 1) := dAt dlX3_findPolynomial_0 12 rfl
theorem dX3_findPolynomial_21 : decode cX3_findPolynomial 21 = .ok (.getfield 18, 3) := dAt dlX3_findPolynomial_0 13 rfl
theorem dX3_findPolynomial_24 : decode cX3_findPolynomial 24 = .ok (.iload_n 1, 1) := dAt dlX3_findPolynomial_0 14 rfl
theorem dX3_findPolynomial_25 : decode cX3_findPolynomial 25 = .ok (.aaload, 1) := dAt dlX3_findPolynomial_0 15 rfl
theorem dX3_findPolynomial_26 : decode cX3_findPolynomial 26 = .ok (.lconst 0, 1) := dAt dlX3_findPolynomial_0 16 rfl
theorem dX3_findPolynomial_27 : decode cX3_findPolynomial 27 = .ok (.invokestatic 69, 3) := dAt dlX3_findPolynomial_0 17 rfl
theorem dX3_findPolynomial_30 : decode cX3_findPolynomial 30 = .ok (.aload_n 0, 1) := dAt dlX3_findPolynomial_0 18 rfl
theorem dX3_findPolynomial_31 : decode cX3_findPolynomial 31 = .ok (.getfield 18, 3) := dAt dlX3_findPolynomial_0 19 rfl
theorem dX3_findPolynomial_34 : decode cX3_findPolynomial 34 = .ok (.iload_n 1, 1) := dAt dlX3_findPolynomial_0 20 rfl
theorem dX3_findPolynomial_35 : decode cX3_findPolynomial 35 = .ok (.aaload, 1) := dAt dlX3_findPolynomial_0 21 rfl
theorem dX3_findPolynomial_36 : decode cX3_findPolynomial 36 = .ok (.iload_n 1, 1) := dAt dlX3_findPolynomial_0 22 rfl
theorem dX3_findPolynomial_37 : decode cX3_findPolynomial 37 = .ok (.lconst 1, 1) := dAt dlX3_findPolynomial_0 23 rfl
theorem dX3_findPolynomial_38 : decode cX3_findPolynomial 38 = .ok (.lastore, 1) := dAt dlX3_findPolynomial_0 24 rfl
theorem dX3_findPolynomial_39 : decode cX3_findPolynomial 39 = .ok (.iinc 1 1, 3) := dAt dlX3_findPolynomial_0 25 rfl
theorem dX3_findPolynomial_42 : decode cX3_findPolynomial 42 = .ok (.goto (-30), 3) := dAt dlX3_findPolynomial_0 26 rfl
theorem dX3_findPolynomial_45 : decode cX3_findPolynomial 45 = .ok (.iconst 1, 1) := dAt dlX3_findPolynomial_0 27 rfl
theorem dX3_findPolynomial_46 : decode cX3_findPolynomial 46 = .ok (.istore_n 1, 1) := dAt dlX3_findPolynomial_0 28 rfl
theorem dX3_findPolynomial_47 : decode cX3_findPolynomial 47 = .ok (.iload_n 1, 1) := dAt dlX3_findPolynomial_0 29 rfl
theorem dX3_findPolynomial_48 : decode cX3_findPolynomial 48 = .ok (.aload_n 0, 1) := dAt dlX3_findPolynomial_0 30 rfl
theorem dX3_findPolynomial_49 : decode cX3_findPolynomial 49 = .ok (.getfield 37, 3) := dAt dlX3_findPolynomial_0 31 rfl
theorem dX3_findPolynomial_52 : decode cX3_findPolynomial 52 = .ok (.if_icmp .gt 89, 3) := dAt dlX3_findPolynomial_0 32 rfl
theorem dX3_findPolynomial_55 : decode cX3_findPolynomial 55 = .ok (.aload_n 0, 1) := dAt dlX3_findPolynomial_0 33 rfl
theorem dX3_findPolynomial_56 : decode cX3_findPolynomial 56 = .ok (.invokevirtual 75, 3) := dAt dlX3_findPolynomial_0 34 rfl
theorem dX3_findPolynomial_59 : decode cX3_findPolynomial 59 = .ok (.lstore_n 2, 1) := dAt dlX3_findPolynomial_0 35 rfl
theorem dX3_findPolynomial_60 : decode cX3_findPolynomial 60 = .ok (.lload_n 2, 1) := dAt dlX3_findPolynomial_0 36 rfl
theorem dX3_findPolynomial_61 : decode cX3_findPolynomial 61 = .ok (.lneg, 1) := dAt dlX3_findPolynomial_0 37 rfl
theorem dX3_findPolynomial_62 : decode cX3_findPolynomial 62 = .ok (.iload_n 1, 1) := dAt dlX3_findPolynomial_0 38 rfl
theorem dX3_findPolynomial_63 : decode cX3_findPolynomial 63 = .ok (.i2l, 1) := dAt dlX3_findPolynomial_0 39 rfl
theorem dX3_findPolynomial_64 : decode cX3_findPolynomial 64 = .ok (.ldiv, 1) := dAt dlX3_findPolynomial_0 40 rfl
theorem dX3_findPolynomial_65 : decode cX3_findPolynomial 65 = .ok (.lstore 4, 2) := dAt dlX3_findPolynomial_0 41 rfl
theorem dX3_findPolynomial_67 : decode cX3_findPolynomial 67 = .ok (.aload_n 0, 1) := dAt dlX3_findPolynomial_0 42 rfl
theorem dX3_findPolynomial_68 : decode cX3_findPolynomial 68 = .ok (.getfield 24, 3) := dAt dlX3_findPolynomial_0 43 rfl
theorem dX3_findPolynomial_71 : decode cX3_findPolynomial 71 = .ok (.aload_n 0, 1) := dAt dlX3_findPolynomial_0 44 rfl
theorem dX3_findPolynomial_72 : decode cX3_findPolynomial 72 = .ok (.getfield 37, 3) := dAt dlX3_findPolynomial_0 45 rfl
theorem dX3_findPolynomial_75 : decode cX3_findPolynomial 75 = .ok (.iload_n 1, 1) := dAt dlX3_findPolynomial_0 46 rfl
theorem dX3_findPolynomial_76 : decode cX3_findPolynomial 76 = .ok (.isub, 1) := dAt dlX3_findPolynomial_0 47 rfl
theorem dX3_findPolynomial_77 : decode cX3_findPolynomial 77 = .ok (.lload 4, 2) := dAt dlX3_findPolynomial_0 48 rfl
theorem dX3_findPolynomial_79 : decode cX3_findPolynomial 79 = .ok (.iload_n 1, 1) := dAt dlX3_findPolynomial_0 49 rfl
theorem dX3_findPolynomial_80 : decode cX3_findPolynomial 80 = .ok (.lshl, 1) := dAt dlX3_findPolynomial_0 50 rfl
theorem dX3_findPolynomial_81 : decode cX3_findPolynomial 81 = .ok (.lastore, 1) := dAt dlX3_findPolynomial_0 51 rfl
theorem dX3_findPolynomial_82 : decode cX3_findPolynomial 82 = .ok (.iconst 0, 1) := dAt dlX3_findPolynomial_0 52 rfl
theorem dX3_findPolynomial_83 : decode cX3_findPolynomial 83 = .ok (.istore 6, 2) := dAt dlX3_findPolynomial_0 53 rfl
theorem dX3_findPolynomial_85 : decode cX3_findPolynomial 85 = .ok (.iload 6, 2) := dAt dlX3_findPolynomial_0 54 rfl
theorem dX3_findPolynomial_87 : decode cX3_findPolynomial 87 = .ok (.aload_n 0, 1) := dAt dlX3_findPolynomial_0 55 rfl
theorem dX3_findPolynomial_88 : decode cX3_findPolynomial 88 = .ok (.getfield 37, 3) := dAt dlX3_findPolynomial_0 56 rfl
theorem dX3_findPolynomial_91 : decode cX3_findPolynomial 91 = .ok (.if_icmp .ge 24, 3) := dAt dlX3_findPolynomial_0 57 rfl
theorem dX3_findPolynomial_94 : decode cX3_findPolynomial 94 = .ok (.aload_n 0, 1) := dAt dlX3_findPolynomial_0 58 rfl
theorem dX3_findPolynomial_95 : decode cX3_findPolynomial 95 = .ok (.getfield 21, 3) := dAt dlX3_findPolynomial_0 59 rfl
def ilX3_findPolynomial_1 : List (Nat × Instr × Nat) := [(98, .iload 6, 2), (100, .aaload, 1), (101, .iload 6, 2), (103, .dup2, 1), (104, .laload, 1), (105, .lload 4, 2), (107, .ladd, 1), (108, .lastore, 1), (109, .iinc 6 1, 3), (112, .goto (-27), 3), (115, .aload_n 0, 1), (116, .getfield 18, 3), (119, .astore 6, 2), (121, .aload_n 0, 1), (122, .aload_n 0, 1), (123, .getfield 21, 3), (126, .putfield 18, 3), (129, .aload_n 0, 1), (130, .aload 6, 2), (132, .putfield 21, 3), (135, .iinc 1 1, 3), (138, .goto (-91), 3), (141, .return_, 1)]
theorem dlX3_findPolynomial_1 : dOK cX3_findPolynomial ilX3_findPolynomial_1 = true := by decide +kernel
theorem dX3_findPolynomial_98 : decode cX3_findPolynomial 98 = .ok (.iload 6, 2) := dAt dlX3_findPolynomial_1 0 rfl
theorem dX3_findPolynomial_100 : decode cX3_findPolynomial 100 = .ok (.aaload, 1) := dAt dlX3_findPolynomial_1 1 rfl
theorem dX3_findPolynomial_101 : decode cX3_findPolynomial 101 = .ok (.iload 6, 2) := dAt dlX3_findPolynomial_1 2 rfl
theorem dX3_findPolynomial_103 : decode cX3_findPolynomial 103 = .ok (.dup2, 1) := dAt dlX3_findPolynomial_1 3 rfl
theorem dX3_findPolynomial_104 : decode cX3_findPolynomial 104 = .ok (.laload, 1) := dAt dlX3_findPolynomial_1 4 rfl
theorem dX3_findPolynomial_105 : decode cX3_findPolynomial 105 = .ok (.lload 4, 2) := dAt dlX3_findPolynomial_1 5 rfl
theorem dX3_findPolynomial_107 : decode cX3_findPolynomial 107 = .ok (.ladd, 1) := dAt dlX3_findPolynomial_1 6 rfl
theorem dX3_findPolynomial_108 : decode cX3_findPolynomial 108 = .ok (.lastore, 1) := dAt dlX3_findPolynomial_1 7 rfl
theorem dX3_findPolynomial_109 : decode cX3_findPolynomial 109 = .ok (.iinc 6 1, 3) := dAt dlX3_findPolynomial_1 8 rfl
theorem dX3_findPolynomial_112 : decode cX3_findPolynomial 112 = .ok (.goto (-27), 3) := dAt dlX3_findPolynomial_1 9 rfl
theorem dX3_findPolynomial_115 : decode cX3_findPolynomial 115 = .ok (.aload_n 0, 1) := dAt dlX3_findPolynomial_1 10 rfl
theorem dX3_findPolynomial_116 : decode cX3_findPolynomial 116 = .ok (.getfield 18, 3) := dAt dlX3_findPolynomial_1 11 rfl
theorem dX3_findPolynomial_119 : decode cX3_findPolynomial 119 = .ok (.astore 6, 2) := dAt dlX3_findPolynomial_1 12 rfl
theorem dX3_findPolynomial_121 : decode cX3_findPolynomial 121 = .ok (.aload_n 0, 1) := dAt dlX3_findPolynomial_1 13 rfl
theorem dX3_findPolynomial_122 : decode cX3_findPolynomial 122 = .ok (.aload_n 0, 1) := dAt dlX3_findPolynomial_1 14 rfl
theorem dX3_findPolynomial_123 : decode cX3_findPolynomial 123 = .ok (.getfield 21, 3) := dAt dlX3_findPolynomial_1 15 rfl
theorem dX3_findPolynomial_126 : decode cX3_findPolynomial 126 = .ok (.putfield 18, 3) := dAt dlX3_findPolynomial_1 16 rfl
theorem dX3_findPolynomial_129 : decode cX3_findPolynomial 129 = .ok (.aload_n 0, 1) := dAt dlX3_findPolynomial_1 17 rfl
theorem dX3_findPolynomial_130 : decode cX3_findPolynomial 130 = .ok (.aload 6, 2) := dAt dlX3_findPolynomial_1 18 rfl
theorem dX3_findPolynomial_132 : decode cX3_findPolynomial 132 = .ok (.putfield 21, 3) := dAt dlX3_findPolynomial_1 19 rfl
theorem dX3_findPolynomial_135 : decode cX3_findPolynomial 135 = .ok (.iinc 1 1, 3) := dAt dlX3_findPolynomial_1 20 rfl
theorem dX3_findPolynomial_138 : decode cX3_findPolynomial 138 = .ok (.goto (-91), 3) := dAt dlX3_findPolynomial_1 21 rfl
theorem dX3_findPolynomial_141 : decode cX3_findPolynomial 141 = .ok (.return_, 1) := dAt dlX3_findPolynomial_1 22 rfl
def ilX3_multiplyRows_0 : List (Nat × Instr × Nat) := [(0, .lconst 0, 1), (1, .lstore_n 1, 1), (2, .iconst 0, 1), (3, .istore_n 3, 1), (4, .iload_n 3, 1), (5, .aload_n 0, 1), (6, .getfield 37, 3), (9, .if_icmp .ge 86, 3), (12, .aload_n 0, 1), (13, .getfield 21, 3), (16, .iload_n 3, 1), (17, .aaload, 1), (18, .lconst 0, 1), (19, .invokestatic 69, 3), (22, .iconst 0, 1), (23, .istore 4, 2), (25, .iload 4, 2), (27, .aload_n 0, 1), (28, .getfield 37, 3), (31, .if_icmp .ge 47, 3), (34, .aload_n 0, 1), (35, .getfield 11, 3), (38, .iload_n 3, 1), (39, .aaload, 1), (40, .iload 4, 2), (42, .iaload, 1), (43, .ifCond .eq 29, 3), (46, .aload_n 0, 1), (47, .aload_n 0, 1), (48, .getfield 21, 3), (51, .iload_n 3, 1), (52, .aaload, 1), (53, .aload_n 0, 1), (54, .getfield 18, 3), (57, .iload 4, 2), (59, .aaload, 1), (60, .aload_n 0, 1), (61, .getfield 11, 3), (64, .iload_n 3, 1), (65, .aaload, 1), (66, .iload 4, 2), (68, .iaload, 1), (69, .invokevirtual 79, 3), (72, .iinc 4 1, 3), (75, .goto (-50), 3), (78, .lload_n 1, 1), (79, .aload_n 0, 1), (80, .getfield 21, 3), (83, .iload_n 3, 1), (84, .aaload, 1), (85, .iload_n 3, 1), (86, .laload, 1), (87, .ladd, 1), (88, .lstore_n 1, 1), (89, .iinc 3 1, 3), (92, .goto (-88), 3), (95, .lload_n 1, 1), (96, .lreturn, 1)]
theorem dlX3_multiplyRows_0 : dOK cX3_multiplyRows ilX3_multiplyRows_0 = true := by decide +kernel
theorem dX3_multiplyRows_0 : decode cX3_multiplyRows 0 = .ok (.lconst 0, 1) := dAt dlX3_multiplyRows_0 0 rfl
theorem dX3_multiplyRows_1 : decode cX3_multiplyRows 1 = .ok (.lstore_n 1, 1) := dAt dlX3_multiplyRows_0 1 rfl
theorem dX3_multiplyRows_2 : decode cX3_multiplyRows 2 = .ok (.iconst 0, 1) := dAt dlX3_multiplyRows_0 2 rfl
theorem dX3_multiplyRows_3 : decode cX3_multiplyRows 3 = .ok (.istore_n 3, 1) := dAt dlX3_multiplyRows_0 3 rfl
theorem dX3_multiplyRows_4 : decode cX3_multiplyRows 4 = .ok (.iload_n 3, 1) := dAt dlX3_multiplyRows_0 4 rfl
theorem dX3_multiplyRows_5 : decode cX3_multiplyRows 5 = .ok (.aload_n 0, 1) := dAt dlX3_multiplyRows_0 5 rfl
theorem dX3_multiplyRows_6 : decode cX3_multiplyRows 6 = .ok (.getfield 37, 3) := dAt dlX3_multiplyRows_0 6 rfl
theorem dX3_multiplyRows_9 : decode cX3_multiplyRows 9 = .ok (.if_icmp .ge 86, 3) := dAt dlX3_multiplyRows_0 7 rfl
theorem dX3_multiplyRows_12 : decode cX3_multiplyRows 12 = .ok (.aload_n 0, 1) := dAt dlX3_multiplyRows_0 8 rfl
theorem dX3_multiplyRows_13 : decode cX3_multiplyRows 13 = .ok (.getfield 21, 3) := dAt dlX3_multiplyRows_0 9 rfl
theorem dX3_multiplyRows_16 : decode cX3_multiplyRows 16 = .ok (.iload_n 3, 1) := dAt dlX3_multiplyRows_0 10 rfl
theorem dX3_multiplyRows_17 : decode cX3_multiplyRows 17 = .ok (.aaload, 1) := dAt dlX3_multiplyRows_0 11 rfl
theorem dX3_multiplyRows_18 : decode cX3_multiplyRows 18 = .ok (.lconst 0, 1) := dAt dlX3_multiplyRows_0 12 rfl
theorem dX3_multiplyRows_19 : decode cX3_multiplyRows 19 = .ok (.invokestatic 69, 3) := dAt dlX3_multiplyRows_0 13 rfl
theorem dX3_multiplyRows_22 : decode cX3_multiplyRows 22 = .ok (.iconst 0, 1) := dAt dlX3_multiplyRows_0 14 rfl
theorem dX3_multiplyRows_23 : decode cX3_multiplyRows 23 = .ok (.istore 4, 2) := dAt dlX3_multiplyRows_0 15 rfl
theorem dX3_multiplyRows_25 : decode cX3_multiplyRows 25 = .ok (.iload 4, 2) := dAt dlX3_multiplyRows_0 16 rfl
theorem dX3_multiplyRows_27 : decode cX3_multiplyRows 27 = .ok (.aload_n 0, 1) := dAt dlX3_multiplyRows_0 17 rfl
theorem dX3_multiplyRows_28 : decode cX3_multiplyRows 28 = .ok (.getfield 37, 3) := dAt dlX3_multiplyRows_0 18 rfl
theorem dX3_multiplyRows_31 : decode cX3_multiplyRows 31 = .ok (.if_icmp .ge 47, 3) := dAt dlX3_multiplyRows_0 19 rfl
theorem dX3_multiplyRows_34 : decode cX3_multiplyRows 34 = .ok (.aload_n 0, 1) := dAt dlX3_multiplyRows_0 20 rfl
theorem dX3_multiplyRows_35 : decode cX3_multiplyRows 35 = .ok (.getfield 11, 3) := dAt dlX3_multiplyRows_0 21 rfl
theorem dX3_multiplyRows_38 : decode cX3_multiplyRows 38 = .ok (.iload_n 3, 1) := dAt dlX3_multiplyRows_0 22 rfl
theorem dX3_multiplyRows_39 : decode cX3_multiplyRows 39 = .ok (.aaload, 1) := dAt dlX3_multiplyRows_0 23 rfl
theorem dX3_multiplyRows_40 : decode cX3_multiplyRows 40 = .ok (.iload 4, 2) := dAt dlX3_multiplyRows_0 24 rfl
theorem dX3_multiplyRows_42 : decode cX3_multiplyRows 42 = .ok (.iaload, 1) := dAt dlX3_multiplyRows_0 25 rfl
theorem dX3_multiplyRows_43 : decode cX3_multiplyRows 43 = .ok (.ifCond .eq 29, 3) := dAt dlX3_multiplyRows_0 26 rfl
theorem dX3_multiplyRows_46 : decode cX3_multiplyRows 46 = .ok (.aload_n 0, 1) := dAt dlX3_multiplyRows_0 27 rfl
theorem dX3_multiplyRows_47 : decode cX3_multiplyRows 47 = .ok (.aload_n 0, 1) := dAt dlX3_multiplyRows_0 28 rfl
theorem dX3_multiplyRows_48 : decode cX3_multiplyRows 48 = .ok (.getfield 21, 3) := dAt dlX3_multiplyRows_0 29 rfl
theorem dX3_multiplyRows_51 : decode cX3_multiplyRows 51 = .ok (.iload_n 3, 1) := dAt dlX3_multiplyRows_0 30 rfl
theorem dX3_multiplyRows_52 : decode cX3_multiplyRows 52 = .ok (.aaload, 1) := dAt dlX3_multiplyRows_0 31 rfl
theorem dX3_multiplyRows_53 : decode cX3_multiplyRows 53 = .ok (.aload_n 0, 1) := dAt dlX3_multiplyRows_0 32 rfl
theorem dX3_multiplyRows_54 : decode cX3_multiplyRows 54 = .ok (.getfield 18, 3) := dAt dlX3_multiplyRows_0 33 rfl
theorem dX3_multiplyRows_57 : decode cX3_multiplyRows 57 = .ok (.iload 4, 2) := dAt dlX3_multiplyRows_0 34 rfl
theorem dX3_multiplyRows_59 : decode cX3_multiplyRows 59 = .ok (.aaload, 1) := dAt dlX3_multiplyRows_0 35 rfl
theorem dX3_multiplyRows_60 : decode cX3_multiplyRows 60 = .ok (.aload_n 0, 1) := dAt dlX3_multiplyRows_0 36 rfl
theorem dX3_multiplyRows_61 : decode cX3_multiplyRows 61 = .ok (.getfield 11, 3) := dAt dlX3_multiplyRows_0 37 rfl
theorem dX3_multiplyRows_64 : decode cX3_multiplyRows 64 = .ok (.iload_n 3, 1) := dAt dlX3_multiplyRows_0 38 rfl
theorem dX3_multiplyRows_65 : decode cX3_multiplyRows 65 = .ok (.aaload, 1) := dAt dlX3_multiplyRows_0 39 rfl
theorem dX3_multiplyRows_66 : decode cX3_multiplyRows 66 = .ok (.iload 4, 2) := dAt dlX3_multiplyRows_0 40 rfl
theorem dX3_multiplyRows_68 : decode cX3_multiplyRows 68 = .ok (.iaload, 1) := dAt dlX3_multiplyRows_0 41 rfl
theorem dX3_multiplyRows_69 : decode cX3_multiplyRows 69 = .ok (.invokevirtual 79, 3) := dAt dlX3_multiplyRows_0 42 rfl
theorem dX3_multiplyRows_72 : decode cX3_multiplyRows 72 = .ok (.iinc 4 1, 3) := dAt dlX3_multiplyRows_0 43 rfl
theorem dX3_multiplyRows_75 : decode cX3_multiplyRows 75 = .ok (.goto (-50), 3) := dAt dlX3_multiplyRows_0 44 rfl
theorem dX3_multiplyRows_78 : decode cX3_multiplyRows 78 = .ok (.lload_n 1, 1) := dAt dlX3_multiplyRows_0 45 rfl
theorem dX3_multiplyRows_79 : decode cX3_multiplyRows 79 = .ok (.aload_n 0, 1) := dAt dlX3_multiplyRows_0 46 rfl
theorem dX3_multiplyRows_80 : decode cX3_multiplyRows 80 = .ok (.getfield 21, 3) := dAt dlX3_multiplyRows_0 47 rfl
theorem dX3_multiplyRows_83 : decode cX3_multiplyRows 83 = .ok (.iload_n 3, 1) := dAt dlX3_multiplyRows_0 48 rfl
theorem dX3_multiplyRows_84 : decode cX3_multiplyRows 84 = .ok (.aaload, 1) := dAt dlX3_multiplyRows_0 49 rfl
theorem dX3_multiplyRows_85 : decode cX3_multiplyRows 85 = .ok (.iload_n 3, 1) := dAt dlX3_multiplyRows_0 50 rfl
theorem dX3_multiplyRows_86 : decode cX3_multiplyRows 86 = .ok (.laload, 1) := dAt dlX3_multiplyRows_0 51 rfl
theorem dX3_multiplyRows_87 : decode cX3_multiplyRows 87 = .ok (.ladd, 1) := dAt dlX3_multiplyRows_0 52 rfl
theorem dX3_multiplyRows_88 : decode cX3_multiplyRows 88 = .ok (.lstore_n 1, 1) := dAt dlX3_multiplyRows_0 53 rfl
theorem dX3_multiplyRows_89 : decode cX3_multiplyRows 89 = .ok (.iinc 3 1, 3) := dAt dlX3_multiplyRows_0 54 rfl
theorem dX3_multiplyRows_92 : decode cX3_multiplyRows 92 = .ok (.goto (-88), 3) := dAt dlX3_multiplyRows_0 55 rfl
theorem dX3_multiplyRows_95 : decode cX3_multiplyRows 95 = .ok (.lload_n 1, 1) := dAt dlX3_multiplyRows_0 56 rfl
theorem dX3_multiplyRows_96 : decode cX3_multiplyRows 96 = .ok (.lreturn, 1) := dAt dlX3_multiplyRows_0 57 rfl
def ilX3_addRow_0 : List (Nat × Instr × Nat) := [(0, .iconst 0, 1), (1, .istore 4, 2), (3, .iload 4, 2), (5, .aload_n 0, 1), (6, .getfield 37, 3), (9, .if_icmp .ge 23, 3), (12, .aload_n 1, 1), (13, .iload 4, 2), (15, .dup2, 1), (16, .laload, 1), (17, .iload_n 3, 1), (18, .i2l, 1), (19, .aload_n 2, 1), (20, .iload 4, 2), (22, .laload, 1), (23, .lmul, 1), (24, .ladd, 1), (25, .lastore, 1), (26, .iinc 4 1, 3), (29, .goto (-26), 3), (32, .return_, 1)]
theorem dlX3_addRow_0 : dOK cX3_addRow ilX3_addRow_0 = true := by decide +kernel
theorem dX3_addRow_0 : decode cX3_addRow 0 = .ok (.iconst 0, 1) := dAt dlX3_addRow_0 0 rfl
theorem dX3_addRow_1 : decode cX3_addRow 1 = .ok (.istore 4, 2) := dAt dlX3_addRow_0 1 rfl
theorem dX3_addRow_3 : decode cX3_addRow 3 = .ok (.iload 4, 2) := dAt dlX3_addRow_0 2 rfl
theorem dX3_addRow_5 : decode cX3_addRow 5 = .ok (.aload_n 0, 1) := dAt dlX3_addRow_0 3 rfl
theorem dX3_addRow_6 : decode cX3_addRow 6 = .ok (.getfield 37, 3) := dAt dlX3_addRow_0 4 rfl
theorem dX3_addRow_9 : decode cX3_addRow 9 = .ok (.if_icmp .ge 23, 3) := dAt dlX3_addRow_0 5 rfl
theorem dX3_addRow_12 : decode cX3_addRow 12 = .ok (.aload_n 1, 1) := dAt dlX3_addRow_0 6 rfl
theorem dX3_addRow_13 : decode cX3_addRow 13 = .ok (.iload 4, 2) := dAt dlX3_addRow_0 7 rfl
theorem dX3_addRow_15 : decode cX3_addRow 15 = .ok (.dup2, 1) := dAt dlX3_addRow_0 8 rfl
theorem dX3_addRow_16 : decode cX3_addRow 16 = .ok (.laload, 1) := dAt dlX3_addRow_0 9 rfl
theorem dX3_addRow_17 : decode cX3_addRow 17 = .ok (.iload_n 3, 1) := dAt dlX3_addRow_0 10 rfl
theorem dX3_addRow_18 : decode cX3_addRow 18 = .ok (.i2l, 1) := dAt dlX3_addRow_0 11 rfl
theorem dX3_addRow_19 : decode cX3_addRow 19 = .ok (.aload_n 2, 1) := dAt dlX3_addRow_0 12 rfl
theorem dX3_addRow_20 : decode cX3_addRow 20 = .ok (.iload 4, 2) := dAt dlX3_addRow_0 13 rfl
theorem dX3_addRow_22 : decode cX3_addRow 22 = .ok (.laload, 1) := dAt dlX3_addRow_0 14 rfl
theorem dX3_addRow_23 : decode cX3_addRow 23 = .ok (.lmul, 1) := dAt dlX3_addRow_0 15 rfl
theorem dX3_addRow_24 : decode cX3_addRow 24 = .ok (.ladd, 1) := dAt dlX3_addRow_0 16 rfl
theorem dX3_addRow_25 : decode cX3_addRow 25 = .ok (.lastore, 1) := dAt dlX3_addRow_0 17 rfl
theorem dX3_addRow_26 : decode cX3_addRow 26 = .ok (.iinc 4 1, 3) := dAt dlX3_addRow_0 18 rfl
theorem dX3_addRow_29 : decode cX3_addRow 29 = .ok (.goto (-26), 3) := dAt dlX3_addRow_0 19 rfl
theorem dX3_addRow_32 : decode cX3_addRow 32 = .ok (.return_, 1) := dAt dlX3_addRow_0 20 rfl
def ilX3_moveBy_0 : List (Nat × Instr × Nat) := [(0, .aload_n 0, 1), (1, .getfield 24, 3), (4, .iconst 0, 1), (5, .aload_n 0, 1), (6, .getfield 28, 3), (9, .iconst 0, 1), (10, .aload_n 0, 1), (11, .getfield 37, 3), (14, .iconst 1, 1), (15, .iadd, 1), (16, .invokestatic 83, 3), (19, .iconst 0, 1), (20, .istore_n 2, 1), (21, .iload_n 2, 1), (22, .aload_n 0, 1), (23, .getfield 37, 3), (26, .if_icmp .ge 47, 3), (29, .aload_n 0, 1), (30, .getfield 37, 3), (33, .iconst 1, 1), (34, .isub, 1), (35, .istore_n 3, 1), (36, .iload_n 3, 1), (37, .iload_n 2, 1), (38, .if_icmp .lt 29, 3), (41, .aload_n 0, 1), (42, .getfield 28, 3), (45, .iload_n 3, 1), (46, .dup2, 1), (47, .laload, 1), (48, .iload_n 1, 1), (49, .i2l, 1), (50, .aload_n 0, 1), (51, .getfield 28, 3), (54, .iload_n 3, 1), (55, .iconst 1, 1), (56, .iadd, 1), (57, .laload, 1), (58, .lmul, 1), (59, .ladd, 1), (60, .lastore, 1), (61, .iinc 3 (-1), 3), (64, .goto (-28), 3), (67, .iinc 2 1, 3), (70, .goto (-49), 3), (73, .return_, 1)]
theorem dlX3_moveBy_0 : dOK cX3_moveBy ilX3_moveBy_0 = true := by decide +kernel
theorem dX3_moveBy_0 : decode cX3_moveBy 0 = .ok (.aload_n 0, 1) := dAt dlX3_moveBy_0 0 rfl
theorem dX3_moveBy_1 : decode cX3_moveBy 1 = .ok (.getfield 24, 3) := dAt dlX3_moveBy_0 1 rfl
theorem dX3_moveBy_4 : decode cX3_moveBy 4 = .ok (.iconst 0, 1) := dAt dlX3_moveBy_0 2 rfl
theorem dX3_moveBy_5 : decode cX3_moveBy 5 = .ok (.aload_n 0, 1) := dAt dlX3_moveBy_0 3 rfl
theorem dX3_moveBy_6 : decode cX3_moveBy 6 = .ok (.getfield 28, 3) := dAt dlX3_moveBy_0 4 rfl
theorem dX3_moveBy_9 : decode cX3_moveBy 9 = .ok (.iconst 0, 1) := dAt dlX3_moveBy_0 5 rfl
theorem dX3_moveBy_10 : decode cX3_moveBy 10 = .ok (.aload_n 0, 1) := dAt dlX3_moveBy_0 6 rfl
theorem dX3_moveBy_11 : decode cX3_moveBy 11 = .ok (.getfield 37, 3) := dAt dlX3_moveBy_0 7 rfl
theorem dX3_moveBy_14 : decode cX3_moveBy 14 = .ok (.iconst 1, 1) := dAt dlX3_moveBy_0 8 rfl
theorem dX3_moveBy_15 : decode cX3_moveBy 15 = .ok (.iadd, 1) := dAt dlX3_moveBy_0 9 rfl
theorem dX3_moveBy_16 : decode cX3_moveBy 16 = .ok (.invokestatic 83, 3) := dAt dlX3_moveBy_0 10 rfl
theorem dX3_moveBy_19 : decode cX3_moveBy 19 = .ok (.iconst 0, 1) := dAt dlX3_moveBy_0 11 rfl
theorem dX3_moveBy_20 : decode cX3_moveBy 20 = .ok (.istore_n 2, 1) := dAt dlX3_moveBy_0 12 rfl
theorem dX3_moveBy_21 : decode cX3_moveBy 21 = .ok (.iload_n 2, 1) := dAt dlX3_moveBy_0 13 rfl
theorem dX3_moveBy_22 : decode cX3_moveBy 22 = .ok (.aload_n 0, 1) := dAt dlX3_moveBy_0 14 rfl
theorem dX3_moveBy_23 : decode cX3_moveBy 23 = .ok (.getfield 37, 3) := dAt dlX3_moveBy_0 15 rfl
theorem dX3_moveBy_26 : decode cX3_moveBy 26 = .ok (.if_icmp .ge 47, 3) := dAt dlX3_moveBy_0 16 rfl
theorem dX3_moveBy_29 : decode cX3_moveBy 29 = .ok (.aload_n 0, 1) := dAt dlX3_moveBy_0 17 rfl
theorem dX3_moveBy_30 : decode cX3_moveBy 30 = .ok (.getfield 37, 3) := dAt dlX3_moveBy_0 18 rfl
theorem dX3_moveBy_33 : decode cX3_moveBy 33 = .ok (.iconst 1, 1) := dAt dlX3_moveBy_0 19 rfl
theorem dX3_moveBy_34 : decode cX3_moveBy 34 = .ok (.isub, 1) := dAt dlX3_moveBy_0 20 rfl
theorem dX3_moveBy_35 : decode cX3_moveBy 35 = .ok (.istore_n 3, 1) := dAt dlX3_moveBy_0 21 rfl
theorem dX3_moveBy_36 : decode cX3_moveBy 36 = .ok (.iload_n 3, 1) := dAt dlX3_moveBy_0 22 rfl
theorem dX3_moveBy_37 : decode cX3_moveBy 37 = .ok (.iload_n 2, 1) := dAt dlX3_moveBy_0 23 rfl
theorem dX3_moveBy_38 : decode cX3_moveBy 38 = .ok (.if_icmp .lt 29, 3) := dAt dlX3_moveBy_0 24 rfl
theorem dX3_moveBy_41 : decode cX3_moveBy 41 = .ok (.aload_n 0, 1) := dAt dlX3_moveBy_0 25 rfl
theorem dX3_moveBy_42 : decode cX3_moveBy 42 = .ok (.getfield 28, 3) := dAt dlX3_moveBy_0 26 rfl
theorem dX3_moveBy_45 : decode cX3_moveBy 45 = .ok (.iload_n 3, 1) := dAt dlX3_moveBy_0 27 rfl
theorem dX3_moveBy_46 : decode cX3_moveBy 46 = .ok (.dup2, 1) := dAt dlX3_moveBy_0 28 rfl
theorem dX3_moveBy_47 : decode cX3_moveBy 47 = .ok (.laload, 1) := dAt dlX3_moveBy_0 29 rfl
theorem dX3_moveBy_48 : decode cX3_moveBy 48 = .ok (.iload_n 1, 1) := dAt dlX3_moveBy_0 30 rfl
theorem dX3_moveBy_49 : decode cX3_moveBy 49 = .ok (.i2l, 1) := dAt dlX3_moveBy_0 31 rfl
theorem dX3_moveBy_50 : decode cX3_moveBy 50 = .ok (.aload_n 0, 1) := dAt dlX3_moveBy_0 32 rfl
theorem dX3_moveBy_51 : decode cX3_moveBy 51 = .ok (.getfield 28, 3) := dAt dlX3_moveBy_0 33 rfl
theorem dX3_moveBy_54 : decode cX3_moveBy 54 = .ok (.iload_n 3, 1) := dAt dlX3_moveBy_0 34 rfl
theorem dX3_moveBy_55 : decode cX3_moveBy 55 = .ok (.iconst 1, 1) := dAt dlX3_moveBy_0 35 rfl
theorem dX3_moveBy_56 : decode cX3_moveBy 56 = .ok (.iadd, 1) := dAt dlX3_moveBy_0 36 rfl
theorem dX3_moveBy_57 : decode cX3_moveBy 57 = .ok (.laload, 1) := dAt dlX3_moveBy_0 37 rfl
theorem dX3_moveBy_58 : decode cX3_moveBy 58 = .ok (.lmul, 1) := dAt dlX3_moveBy_0 38 rfl
theorem dX3_moveBy_59 : decode cX3_moveBy 59 = .ok (.ladd, 1) := dAt dlX3_moveBy_0 39 rfl
theorem dX3_moveBy_60 : decode cX3_moveBy 60 = .ok (.lastore, 1) := dAt dlX3_moveBy_0 40 rfl
theorem dX3_moveBy_61 : decode cX3_moveBy 61 = .ok (.iinc 3 (-1), 3) := dAt dlX3_moveBy_0 41 rfl
theorem dX3_moveBy_64 : decode cX3_moveBy 64 = .ok (.goto (-28), 3) := dAt dlX3_moveBy_0 42 rfl
theorem dX3_moveBy_67 : decode cX3_moveBy 67 = .ok (.iinc 2 1, 3) := dAt dlX3_moveBy_0 43 rfl
theorem dX3_moveBy_70 : decode cX3_moveBy 70 = .ok (.goto (-49), 3) := dAt dlX3_moveBy_0 44 rfl
theorem dX3_moveBy_73 : decode cX3_moveBy 73 = .ok (.return_, 1) := dAt dlX3_moveBy_0 45 rfl
def ilX4_init_0 : List (Nat × Instr × Nat) := [(0, .aload_n 0, 1), (1, .invokespecial 3, 3), (4, .aload_n 0, 1), (5, .bipush 10, 2), (7, .newarray .long, 2), (9, .putfield 9, 3), (12, .aload_n 0, 1), (13, .bipush 10, 2), (15, .newarray .long, 2), (17, .putfield 15, 3), (20, .return_, 1)]
theorem dlX4_init_0 : dOK cX4_init ilX4_init_0 = true := by decide +kernel
theorem dX4_init_0 : decode cX4_init 0 = .ok (.aload_n 0, 1) := dAt dlX4_init_0 0 rfl
theorem dX4_init_1 : decode cX4_init 1 = .ok (.invokespecial 3, 3) := dAt dlX4_init_0 1 rfl
theorem dX4_init_4 : decode cX4_init 4 = .ok (.aload_n 0, 1) := dAt dlX4_init_0 2 rfl
theorem dX4_init_5 : decode cX4_init 5 = .ok (.bipush 10, 2) := dAt dlX4_init_0 3 rfl
theorem dX4_init_7 : decode cX4_init 7 = .ok (.newarray .long, 2) := dAt dlX4_init_0 4 rfl
theorem dX4_init_9 : decode cX4_init 9 = .ok (.putfield 9, 3) := dAt dlX4_init_0 5 rfl
theorem dX4_init_12 : decode cX4_init 12 = .ok (.aload_n 0, 1) := dAt dlX4_init_0 6 rfl
theorem dX4_init_13 : decode cX4_init 13 = .ok (.bipush 10, 2) := dAt dlX4_init_0 7 rfl
theorem dX4_init_15 : decode cX4_init 15 = .ok (.newarray .long, 2) := dAt dlX4_init_0 8 rfl
theorem dX4_init_17 : decode cX4_init 17 = .ok (.putfield 15, 3) := dAt dlX4_init_0 9 rfl
theorem dX4_init_20 : decode cX4_init 20 = .ok (.return_, 1) := dAt dlX4_init_0 10 rfl
def ilX4_walk_0 : List (Nat × Instr × Nat) := [(0, .aload_n 0, 1), (1, .getfield 9, 3), (4, .lconst 0, 1), (5, .invokestatic 18, 3), (8, .aload_n 0, 1), (9, .getfield 9, 3), (12, .iload_n 2, 1), (13, .lconst 1, 1), (14, .lastore, 1), (15, .iconst 0, 1), (16, .istore 4, 2), (18, .iload 4, 2), (20, .iload_n 3, 1), (21, .if_icmp .ge 34, 3), (24, .aload_n 0, 1), (25, .getfield 15, 3), (28, .astore 5, 2), (30, .aload_n 0, 1), (31, .aload_n 0, 1), (32, .getfield 9, 3), (35, .putfield 15, 3), (38, .aload_n 0, 1), (39, .aload 5, 2), (41, .putfield 9, 3), (44, .aload_n 0, 1), (45, .aload_n 1, 1), (46, .invokevirtual 24, 3), (49, .iinc 4 1, 3), (52, .goto (-34), 3), (55, .return_, 1)]
theorem dlX4_walk_0 : dOK cX4_walk ilX4_walk_0 = true := by decide +kernel
theorem dX4_walk_0 : decode cX4_walk 0 = .ok (.aload_n 0, 1) := dAt dlX4_walk_0 0 rfl
theorem dX4_walk_1 : decode cX4_walk 1 = .ok (.getfield 9, 3) := dAt dlX4_walk_0 1 rfl
theorem dX4_walk_4 : decode cX4_walk 4 = .ok (.lconst 0, 1) := dAt dlX4_walk_0 2 rfl
theorem dX4_walk_5 : decode cX4_walk 5 = .ok (.invokestatic 18, 3) := dAt dlX4_walk_0 3 rfl
theorem dX4_walk_8 : decode cX4_walk 8 = .ok (.aload_n 0, 1) := dAt dlX4_walk_0 4 rfl
theorem dX4_walk_9 : decode cX4_walk 9 = .ok (.getfield 9, 3) := dAt dlX4_walk_0 5 rfl
theorem dX4_walk_12 : decode cX4_walk 12 = .ok (.iload_n 2, 1) := dAt dlX4_walk_0 6 rfl
theorem dX4_walk_13 : decode cX4_walk 13 = .ok (.lconst 1, 1) := dAt dlX4_walk_0 7 rfl
theorem dX4_walk_14 : decode cX4_walk 14 = .ok (.lastore, 1) := dAt dlX4_walk_0 8 rfl
theorem dX4_walk_15 : decode cX4_walk 15 = .ok (.iconst 0, 1) := dAt dlX4_walk_0 9 rfl
theorem dX4_walk_16 : decode cX4_walk 16 = .ok (.istore 4, 2) := dAt dlX4_walk_0 10 rfl
theorem dX4_walk_18 : decode cX4_walk 18 = .ok (.iload 4, 2) := dAt dlX4_walk_0 11 rfl
theorem dX4_walk_20 : decode cX4_walk 20 = .ok (.iload_n 3, 1) := dAt dlX4_walk_0 12 rfl
theorem dX4_walk_21 : decode cX4_walk 21 = .ok (.if_icmp .ge 34, 3) := dAt dlX4_walk_0 13 rfl
theorem dX4_walk_24 : decode cX4_walk 24 = .ok (.aload_n 0, 1) := dAt dlX4_walk_0 14 rfl
theorem dX4_walk_25 : decode cX4_walk 25 = .ok (.getfield 15, 3) := dAt dlX4_walk_0 15 rfl
theorem dX4_walk_28 : decode cX4_walk 28 = .ok (.astore 5, 2) := dAt dlX4_walk_0 16 rfl
theorem dX4_walk_30 : decode cX4_walk 30 = .ok (.aload_n 0, 1) := dAt dlX4_walk_0 17 rfl
theorem dX4_walk_31 : decode cX4_walk 31 = .ok (.aload_n 0, 1) := dAt dlX4_walk_0 18 rfl
theorem dX4_walk_32 : decode cX4_walk 32 = .ok (.getfield 9, 3) := dAt dlX4_walk_0 19 rfl
theorem dX4_walk_35 : decode cX4_walk 35 = .ok (.putfield 15, 3) := dAt dlX4_walk_0 20 rfl
theorem dX4_walk_38 : decode cX4_walk 38 = .ok (.aload_n 0, 1) := dAt dlX4_walk_0 21 rfl
theorem dX4_walk_39 : decode cX4_walk 39 = .ok (.aload 5, 2) := dAt dlX4_walk_0 22 rfl
theorem dX4_walk_41 : decode cX4_walk 41 = .ok (.putfield 9, 3) := dAt dlX4_walk_0 23 rfl
theorem dX4_walk_44 : decode cX4_walk 44 = .ok (.aload_n 0, 1) := dAt dlX4_walk_0 24 rfl
theorem dX4_walk_45 : decode cX4_walk 45 = .ok (.aload_n 1, 1) := dAt dlX4_walk_0 25 rfl
theorem dX4_walk_46 : decode cX4_walk 46 = .ok (.invokevirtual 24, 3) := dAt dlX4_walk_0 26 rfl
theorem dX4_walk_49 : decode cX4_walk 49 = .ok (.iinc 4 1, 3) := dAt dlX4_walk_0 27 rfl
theorem dX4_walk_52 : decode cX4_walk 52 = .ok (.goto (-34), 3) := dAt dlX4_walk_0 28 rfl
theorem dX4_walk_55 : decode cX4_walk 55 = .ok (.return_, 1) := dAt dlX4_walk_0 29 rfl
def ilX4_unevenness_0 : List (Nat × Instr × Nat) := [(0, .lconst 0, 1), (1, .lstore 4, 2), (3, .iconst 0, 1), (4, .istore 6, 2), (6, .iload 6, 2), (8, .iload_n 1, 1), (9, .if_icmp .ge 29, 3), (12, .lload 4, 2), (14, .iload_n 1, 1), (15, .i2l, 1), (16, .aload_n 0, 1), (17, .getfield 9, 3), (20, .iload 6, 2), (22, .laload, 1), (23, .lmul, 1), (24, .lload_n 2, 1), (25, .lsub, 1), (26, .invokestatic 28, 3), (29, .ladd, 1), (30, .lstore 4, 2), (32, .iinc 6 1, 3), (35, .goto (-29), 3), (38, .lload 4, 2), (40, .lreturn, 1)]
theorem dlX4_unevenness_0 : dOK cX4_unevenness ilX4_unevenness_0 = true := by decide +kernel
theorem dX4_unevenness_0 : decode cX4_unevenness 0 = .ok (.lconst 0, 1) := dAt dlX4_unevenness_0 0 rfl
theorem dX4_unevenness_1 : decode cX4_unevenness 1 = .ok (.lstore 4, 2) := dAt dlX4_unevenness_0 1 rfl
theorem dX4_unevenness_3 : decode cX4_unevenness 3 = .ok (.iconst 0, 1) := dAt dlX4_unevenness_0 2 rfl
theorem dX4_unevenness_4 : decode cX4_unevenness 4 = .ok (.istore 6, 2) := dAt dlX4_unevenness_0 3 rfl
theorem dX4_unevenness_6 : decode cX4_unevenness 6 = .ok (.iload 6, 2) := dAt dlX4_unevenness_0 4 rfl
theorem dX4_unevenness_8 : decode cX4_unevenness 8 = .ok (.iload_n 1, 1) := dAt dlX4_unevenness_0 5 rfl
theorem dX4_unevenness_9 : decode cX4_unevenness 9 = .ok (.if_icmp .ge 29, 3) := dAt dlX4_unevenness_0 6 rfl
theorem dX4_unevenness_12 : decode cX4_unevenness 12 = .ok (.lload 4, 2) := dAt dlX4_unevenness_0 7 rfl
theorem dX4_unevenness_14 : decode cX4_unevenness 14 = .ok (.iload_n 1, 1) := dAt dlX4_unevenness_0 8 rfl
theorem dX4_unevenness_15 : decode cX4_unevenness 15 = .ok (.i2l, 1) := dAt dlX4_unevenness_0 9 rfl
theorem dX4_unevenness_16 : decode cX4_unevenness 16 = .ok (.aload_n 0, 1) := dAt dlX4_unevenness_0 10 rfl
theorem dX4_unevenness_17 : decode cX4_unevenness 17 = .ok (.getfield 9, 3) := dAt dlX4_unevenness_0 11 rfl
theorem dX4_unevenness_20 : decode cX4_unevenness 20 = .ok (.iload 6, 2) := dAt dlX4_unevenness_0 12 rfl
theorem dX4_unevenness_22 : decode cX4_unevenness 22 = .ok (.laload, 1) := dAt dlX4_unevenness_0 13 rfl
theorem dX4_unevenness_23 : decode cX4_unevenness 23 = .ok (.lmul, 1) := dAt dlX4_unevenness_0 14 rfl
theorem dX4_unevenness_24 : decode cX4_unevenness 24 = .ok (.lload_n 2, 1) := dAt dlX4_unevenness_0 15 rfl
theorem dX4_unevenness_25 : decode cX4_unevenness 25 = .ok (.lsub, 1) := dAt dlX4_unevenness_0 16 rfl
theorem dX4_unevenness_26 : decode cX4_unevenness 26 = .ok (.invokestatic 28, 3) := dAt dlX4_unevenness_0 17 rfl
theorem dX4_unevenness_29 : decode cX4_unevenness 29 = .ok (.ladd, 1) := dAt dlX4_unevenness_0 18 rfl
theorem dX4_unevenness_30 : decode cX4_unevenness 30 = .ok (.lstore 4, 2) := dAt dlX4_unevenness_0 19 rfl
theorem dX4_unevenness_32 : decode cX4_unevenness 32 = .ok (.iinc 6 1, 3) := dAt dlX4_unevenness_0 20 rfl
theorem dX4_unevenness_35 : decode cX4_unevenness 35 = .ok (.goto (-29), 3) := dAt dlX4_unevenness_0 21 rfl
theorem dX4_unevenness_38 : decode cX4_unevenness 38 = .ok (.lload 4, 2) := dAt dlX4_unevenness_0 22 rfl
theorem dX4_unevenness_40 : decode cX4_unevenness 40 = .ok (.lreturn, 1) := dAt dlX4_unevenness_0 23 rfl
def ilX4_step_0 : List (Nat × Instr × Nat) := [(0, .iconst 0, 1), (1, .istore_n 2, 1), (2, .iload_n 2, 1), (3, .aload_n 1, 1), (4, .getfield 34, 3), (7, .if_icmp .ge 56, 3), (10, .aload_n 0, 1), (11, .getfield 9, 3), (14, .iload_n 2, 1), (15, .lconst 0, 1), (16, .lastore, 1), (17, .iconst 0, 1), (18, .istore_n 3, 1), (19, .iload_n 3, 1), (20, .aload_n 1, 1), (21, .getfield 34, 3), (24, .if_icmp .ge 33, 3), (27, .aload_n 1, 1), (28, .iload_n 3, 1), (29, .iload_n 2, 1), (30, .invokevirtual 40, 3), (33, .ifCond .eq 18, 3), (36, .aload_n 0, 1), (37, .getfield 9, 3), (40, .iload_n 2, 1), (41, .dup2, 1), (42, .laload, 1), (43, .aload_n 0, 1), (44, .getfield 15, 3), (47, .iload_n 3, 1), (48, .laload, 1), (49, .ladd, 1), (50, .lastore, 1), (51, .iinc 3 1, 3), (54, .goto (-35), 3), (57, .iinc 2 1, 3), (60, .goto (-58), 3), (63, .return_, 1)]
theorem dlX4_step_0 : dOK cX4_step ilX4_step_0 = true := by decide +kernel
theorem dX4_step_0 : decode cX4_step 0 = .ok (.iconst 0, 1) := dAt dlX4_step_0 0 rfl
theorem dX4_step_1 : decode cX4_step 1 = .ok (.istore_n 2, 1) := dAt dlX4_step_0 1 rfl
theorem dX4_step_2 : decode cX4_step 2 = .ok (.iload_n 2, 1) := dAt dlX4_step_0 2 rfl
theorem dX4_step_3 : decode cX4_step 3 = .ok (.aload_n 1, 1) := dAt dlX4_step_0 3 rfl
theorem dX4_step_4 : decode cX4_step 4 = .ok (.getfield 34, 3) := dAt dlX4_step_0 4 rfl
theorem dX4_step_7 : decode cX4_step 7 = .ok (.if_icmp .ge 56, 3) := dAt dlX4_step_0 5 rfl
theorem dX4_step_10 : decode cX4_step 10 = .ok (.aload_n 0, 1) := dAt dlX4_step_0 6 rfl
theorem dX4_step_11 : decode cX4_step 11 = .ok (.getfield 9, 3) := dAt dlX4_step_0 7 rfl
theorem dX4_step_14 : decode cX4_step 14 = .ok (.iload_n 2, 1) := dAt dlX4_step_0 8 rfl
theorem dX4_step_15 : decode cX4_step 15 = .ok (.lconst 0, 1) := dAt dlX4_step_0 9 rfl
theorem dX4_step_16 : decode cX4_step 16 = .ok (.lastore, 1) := dAt dlX4_step_0 10 rfl
theorem dX4_step_17 : decode cX4_step 17 = .ok (.iconst 0, 1) := dAt dlX4_step_0 11 rfl
theorem dX4_step_18 : decode cX4_step 18 = .ok (.istore_n 3, 1) := dAt dlX4_step_0 12 rfl
theorem dX4_step_19 : decode cX4_step 19 = .ok (.iload_n 3, 1) := dAt dlX4_step_0 13 rfl
theorem dX4_step_20 : decode cX4_step 20 = .ok (.aload_n 1, 1) := dAt dlX4_step_0 14 rfl
theorem dX4_step_21 : decode cX4_step 21 = .ok (.getfield 34, 3) := dAt dlX4_step_0 15 rfl
theorem dX4_step_24 : decode cX4_step 24 = .ok (.if_icmp .ge 33, 3) := dAt dlX4_step_0 16 rfl
theorem dX4_step_27 : decode cX4_step 27 = .ok (.aload_n 1, 1) := dAt dlX4_step_0 17 rfl
theorem dX4_step_28 : decode cX4_step 28 = .ok (.iload_n 3, 1) := dAt dlX4_step_0 18 rfl
theorem dX4_step_29 : decode cX4_step 29 = .ok (.iload_n 2, 1) := dAt dlX4_step_0 19 rfl
theorem dX4_step_30 : decode cX4_step 30 = .ok (.invokevirtual 40, 3) := dAt dlX4_step_0 20 rfl
theorem dX4_step_33 : decode cX4_step 33 = .ok (.ifCond .eq 18, 3) := dAt dlX4_step_0 21 rfl
theorem dX4_step_36 : decode cX4_step 36 = .ok (.aload_n 0, 1) := dAt dlX4_step_0 22 rfl
theorem dX4_step_37 : decode cX4_step 37 = .ok (.getfield 9, 3) := dAt dlX4_step_0 23 rfl
theorem dX4_step_40 : decode cX4_step 40 = .ok (.iload_n 2, 1) := dAt dlX4_step_0 24 rfl
theorem dX4_step_41 : decode cX4_step 41 = .ok (.dup2, 1) := dAt dlX4_step_0 25 rfl
theorem dX4_step_42 : decode cX4_step 42 = .ok (.laload, 1) := dAt dlX4_step_0 26 rfl
theorem dX4_step_43 : decode cX4_step 43 = .ok (.aload_n 0, 1) := dAt dlX4_step_0 27 rfl
theorem dX4_step_44 : decode cX4_step 44 = .ok (.getfield 15, 3) := dAt dlX4_step_0 28 rfl
theorem dX4_step_47 : decode cX4_step 47 = .ok (.iload_n 3, 1) := dAt dlX4_step_0 29 rfl
theorem dX4_step_48 : decode cX4_step 48 = .ok (.laload, 1) := dAt dlX4_step_0 30 rfl
theorem dX4_step_49 : decode cX4_step 49 = .ok (.ladd, 1) := dAt dlX4_step_0 31 rfl
theorem dX4_step_50 : decode cX4_step 50 = .ok (.lastore, 1) := dAt dlX4_step_0 32 rfl
theorem dX4_step_51 : decode cX4_step 51 = .ok (.iinc 3 1, 3) := dAt dlX4_step_0 33 rfl
theorem dX4_step_54 : decode cX4_step 54 = .ok (.goto (-35), 3) := dAt dlX4_step_0 34 rfl
theorem dX4_step_57 : decode cX4_step 57 = .ok (.iinc 2 1, 3) := dAt dlX4_step_0 35 rfl
theorem dX4_step_60 : decode cX4_step 60 = .ok (.goto (-58), 3) := dAt dlX4_step_0 36 rfl
theorem dX4_step_63 : decode cX4_step 63 = .ok (.return_, 1) := dAt dlX4_step_0 37 rfl
def ilX5_init_0 : List (Nat × Instr × Nat) := [(0, .aload_n 0, 1), (1, .invokespecial 3, 3), (4, .aload_n 0, 1), (5, .iconst 4, 1), (6, .anewarray 9, 3), (9, .putfield 11, 3), (12, .aload_n 0, 1), (13, .new 9, 3), (16, .dup, 1), (17, .invokespecial 15, 3), (20, .putfield 16, 3), (23, .aload_n 0, 1), (24, .new 20, 3), (27, .dup, 1), (28, .invokespecial 22, 3), (31, .putfield 23, 3), (34, .aload_n 0, 1), (35, .new 27, 3), (38, .dup, 1), (39, .invokespecial 29, 3), (42, .putfield 30, 3), (45, .aload_n 0, 1), (46, .new 34, 3), (49, .dup, 1), (50, .invokespecial 36, 3), (53, .putfield 37, 3), (56, .aload_n 0, 1), (57, .new 41, 3), (60, .dup, 1), (61, .invokespecial 43, 3), (64, .putfield 44, 3), (67, .iconst 0, 1), (68, .istore_n 1, 1), (69, .iload_n 1, 1), (70, .iconst 4, 1), (71, .if_icmp .ge 22, 3), (74, .aload_n 0, 1), (75, .getfield 11, 3), (78, .iload_n 1, 1), (79, .new 9, 3), (82, .dup, 1), (83, .invokespecial 15, 3), (86, .aastore, 1), (87, .iinc 1 1, 3), (90, .goto (-21), 3), (93, .return_, 1)]
theorem dlX5_init_0 : dOK cX5_init ilX5_init_0 = true := by decide +kernel
theorem dX5_init_0 : decode cX5_init 0 = .ok (.aload_n 0, 1) := dAt dlX5_init_0 0 rfl
theorem dX5_init_1 : decode cX5_init 1 = .ok (.invokespecial 3, 3) := dAt dlX5_init_0 1 rfl
theorem dX5_init_4 : decode cX5_init 4 = .ok (.aload_n 0, 1) := dAt dlX5_init_0 2 rfl
theorem dX5_init_5 : decode cX5_init 5 = .ok (.iconst 4, 1) := dAt dlX5_init_0 3 rfl
theorem dX5_init_6 : decode cX5_init 6 = .ok (.anewarray 9, 3) := dAt dlX5_init_0 4 rfl
theorem dX5_init_9 : decode cX5_init 9 = .ok (.putfield 11, 3) := dAt dlX5_init_0 5 rfl
theorem dX5_init_12 : decode cX5_init 12 = .ok (.aload_n 0, 1) := dAt dlX5_init_0 6 rfl
theorem dX5_init_13 : decode cX5_init 13 = .ok (.new 9, 3) := dAt dlX5_init_0 7 rfl
theorem dX5_init_16 : decode cX5_init 16 = .ok (.dup, 1) := dAt dlX5_init_0 8 rfl
theorem dX5_init_17 : decode cX5_init 17 = .ok (.invokespecial 15, 3) := dAt dlX5_init_0 9 rfl
theorem dX5_init_20 : decode cX5_init 20 = .ok (.putfield 16, 3) := dAt dlX5_init_0 10 rfl
theorem dX5_init_23 : decode cX5_init 23 = .ok (.aload_n 0, 1) := dAt dlX5_init_0 11 rfl
theorem dX5_init_24 : decode cX5_init 24 = .ok (.new 20, 3) := dAt dlX5_init_0 12 rfl
theorem dX5_init_27 : decode cX5_init 27 = .ok (.dup, 1) := dAt dlX5_init_0 13 rfl
theorem dX5_init_28 : decode cX5_init 28 = .ok (.invokespecial 22, 3) := dAt dlX5_init_0 14 rfl
theorem dX5_init_31 : decode cX5_init 31 = .ok (.putfield 23, 3) := dAt dlX5_init_0 15 rfl
theorem dX5_init_34 : decode cX5_init 34 = .ok (.aload_n 0, 1) := dAt dlX5_init_0 16 rfl
theorem dX5_init_35 : decode cX5_init 35 = .ok (.new 27, 3) := dAt dlX5_init_0 17 rfl
theorem dX5_init_38 : decode cX5_init 38 = .ok (.dup, 1) := dAt dlX5_init_0 18 rfl
theorem dX5_init_39 : decode cX5_init 39 = .ok (.invokespecial 29, 3) := dAt dlX5_init_0 19 rfl
theorem dX5_init_42 : decode cX5_init 42 = .ok (.putfield 30, 3) := dAt dlX5_init_0 20 rfl
theorem dX5_init_45 : decode cX5_init 45 = .ok (.aload_n 0, 1) := dAt dlX5_init_0 21 rfl
theorem dX5_init_46 : decode cX5_init 46 = .ok (.new 34, 3) := dAt dlX5_init_0 22 rfl
theorem dX5_init_49 : decode cX5_init 49 = .ok (.dup, 1) := dAt dlX5_init_0 23 rfl
theorem dX5_init_50 : decode cX5_init 50 = .ok (.invokespecial 36, 3) := dAt dlX5_init_0 24 rfl
theorem dX5_init_53 : decode cX5_init 53 = .ok (.putfield 37, 3) := dAt dlX5_init_0 25 rfl
theorem dX5_init_56 : decode cX5_init 56 = .ok (.aload_n 0, 1) := dAt dlX5_init_0 26 rfl
theorem dX5_init_57 : decode cX5_init 57 = .ok (.new 41, 3) := dAt dlX5_init_0 27 rfl
theorem dX5_init_60 : decode cX5_init 60 = .ok (.dup, 1) := dAt dlX5_init_0 28 rfl
theorem dX5_init_61 : decode cX5_init 61 = .ok (.invokespecial 43, 3) := dAt dlX5_init_0 29 rfl
theorem dX5_init_64 : decode cX5_init 64 = .ok (.putfield 44, 3) := dAt dlX5_init_0 30 rfl
theorem dX5_init_67 : decode cX5_init 67 = .ok (.iconst 0, 1) := dAt dlX5_init_0 31 rfl
theorem dX5_init_68 : decode cX5_init 68 = .ok (.istore_n 1, 1) := dAt dlX5_init_0 32 rfl
theorem dX5_init_69 : decode cX5_init 69 = .ok (.iload_n 1, 1) := dAt dlX5_init_0 33 rfl
theorem dX5_init_70 : decode cX5_init 70 = .ok (.iconst 4, 1) := dAt dlX5_init_0 34 rfl
theorem dX5_init_71 : decode cX5_init 71 = .ok (.if_icmp .ge 22, 3) := dAt dlX5_init_0 35 rfl
theorem dX5_init_74 : decode cX5_init 74 = .ok (.aload_n 0, 1) := dAt dlX5_init_0 36 rfl
theorem dX5_init_75 : decode cX5_init 75 = .ok (.getfield 11, 3) := dAt dlX5_init_0 37 rfl
theorem dX5_init_78 : decode cX5_init 78 = .ok (.iload_n 1, 1) := dAt dlX5_init_0 38 rfl
theorem dX5_init_79 : decode cX5_init 79 = .ok (.new 9, 3) := dAt dlX5_init_0 39 rfl
theorem dX5_init_82 : decode cX5_init 82 = .ok (.dup, 1) := dAt dlX5_init_0 40 rfl
theorem dX5_init_83 : decode cX5_init 83 = .ok (.invokespecial 15, 3) := dAt dlX5_init_0 41 rfl
theorem dX5_init_86 : decode cX5_init 86 = .ok (.aastore, 1) := dAt dlX5_init_0 42 rfl
theorem dX5_init_87 : decode cX5_init 87 = .ok (.iinc 1 1, 3) := dAt dlX5_init_0 43 rfl
theorem dX5_init_90 : decode cX5_init 90 = .ok (.goto (-21), 3) := dAt dlX5_init_0 44 rfl
theorem dX5_init_93 : decode cX5_init 93 = .ok (.return_, 1) := dAt dlX5_init_0 45 rfl
def ilX5_net_0 : List (Nat × Instr × Nat) := [(0, .aload_n 0, 1), (1, .iload_n 1, 1), (2, .invokevirtual 48, 3), (5, .astore_n 3, 1), (6, .aload_n 3, 1), (7, .ifnull 10, 3), (10, .iload_n 2, 1), (11, .invokestatic 52, 3), (14, .ifCond .ne 6, 3), (17, .bipush (-2), 2), (19, .ireturn, 1), (20, .aload_n 3, 1), (21, .iload_n 2, 1), (22, .invokevirtual 56, 3), (25, .iconst 1, 1), (26, .ireturn, 1)]
theorem dlX5_net_0 : dOK cX5_net ilX5_net_0 = true := by decide +kernel
theorem dX5_net_0 : decode cX5_net 0 = .ok (.aload_n 0, 1) := dAt dlX5_net_0 0 rfl
theorem dX5_net_1 : decode cX5_net 1 = .ok (.iload_n 1, 1) := dAt dlX5_net_0 1 rfl
theorem dX5_net_2 : decode cX5_net 2 = .ok (.invokevirtual 48, 3) := dAt dlX5_net_0 2 rfl
theorem dX5_net_5 : decode cX5_net 5 = .ok (.astore_n 3, 1) := dAt dlX5_net_0 3 rfl
theorem dX5_net_6 : decode cX5_net 6 = .ok (.aload_n 3, 1) := dAt dlX5_net_0 4 rfl
theorem dX5_net_7 : decode cX5_net 7 = .ok (.ifnull 10, 3) := dAt dlX5_net_0 5 rfl
theorem dX5_net_10 : decode cX5_net 10 = .ok (.iload_n 2, 1) := dAt dlX5_net_0 6 rfl
theorem dX5_net_11 : decode cX5_net 11 = .ok (.invokestatic 52, 3) := dAt dlX5_net_0 7 rfl
theorem dX5_net_14 : decode cX5_net 14 = .ok (.ifCond .ne 6, 3) := dAt dlX5_net_0 8 rfl
theorem dX5_net_17 : decode cX5_net 17 = .ok (.bipush (-2), 2) := dAt dlX5_net_0 9 rfl
theorem dX5_net_19 : decode cX5_net 19 = .ok (.ireturn, 1) := dAt dlX5_net_0 10 rfl
theorem dX5_net_20 : decode cX5_net 20 = .ok (.aload_n 3, 1) := dAt dlX5_net_0 11 rfl
theorem dX5_net_21 : decode cX5_net 21 = .ok (.iload_n 2, 1) := dAt dlX5_net_0 12 rfl
theorem dX5_net_22 : decode cX5_net 22 = .ok (.invokevirtual 56, 3) := dAt dlX5_net_0 13 rfl
theorem dX5_net_25 : decode cX5_net 25 = .ok (.iconst 1, 1) := dAt dlX5_net_0 14 rfl
theorem dX5_net_26 : decode cX5_net 26 = .ok (.ireturn, 1) := dAt dlX5_net_0 15 rfl
def ilX5_line_0 : List (Nat × Instr × Nat) := [(0, .aload_n 0, 1), (1, .iload_n 1, 1), (2, .invokevirtual 48, 3), (5, .astore 5, 2), (7, .aload 5, 2), (9, .ifnull 13, 3), (12, .aload 5, 2), (14, .iload_n 2, 1), (15, .iload_n 3, 1), (16, .invokevirtual 60, 3), (19, .ifCond .ne 6, 3), (22, .bipush (-2), 2), (24, .ireturn, 1), (25, .aload 5, 2), (27, .iload_n 2, 1), (28, .iload_n 3, 1), (29, .invokevirtual 64, 3), (32, .iload 4, 2), (34, .if_icmp .ne 6, 3), (37, .bipush (-3), 2), (39, .ireturn, 1), (40, .aload 5, 2), (42, .iload_n 2, 1), (43, .iload_n 3, 1), (44, .invokevirtual 67, 3), (47, .iconst 1, 1), (48, .ireturn, 1)]
theorem dlX5_line_0 : dOK cX5_line ilX5_line_0 = true := by decide +kernel
theorem dX5_line_0 : decode cX5_line 0 = .ok (.aload_n 0, 1) := dAt dlX5_line_0 0 rfl
theorem dX5_line_1 : decode cX5_line 1 = .ok (.iload_n 1, 1) := dAt dlX5_line_0 1 rfl
theorem dX5_line_2 : decode cX5_line 2 = .ok (.invokevirtual 48, 3) := dAt dlX5_line_0 2 rfl
theorem dX5_line_5 : decode cX5_line 5 = .ok (.astore 5, 2) := dAt dlX5_line_0 3 rfl
theorem dX5_line_7 : decode cX5_line 7 = .ok (.aload 5, 2) := dAt dlX5_line_0 4 rfl
theorem dX5_line_9 : decode cX5_line 9 = .ok (.ifnull 13, 3) := dAt dlX5_line_0 5 rfl
theorem dX5_line_12 : decode cX5_line 12 = .ok (.aload 5, 2) := dAt dlX5_line_0 6 rfl
theorem dX5_line_14 : decode cX5_line 14 = .ok (.iload_n 2, 1) := dAt dlX5_line_0 7 rfl
theorem dX5_line_15 : decode cX5_line 15 = .ok (.iload_n 3, 1) := dAt dlX5_line_0 8 rfl
theorem dX5_line_16 : decode cX5_line 16 = .ok (.invokevirtual 60, 3) := dAt dlX5_line_0 9 rfl
theorem dX5_line_19 : decode cX5_line 19 = .ok (.ifCond .ne 6, 3) := dAt dlX5_line_0 10 rfl
theorem dX5_line_22 : decode cX5_line 22 = .ok (.bipush (-2), 2) := dAt dlX5_line_0 11 rfl
theorem dX5_line_24 : decode cX5_line 24 = .ok (.ireturn, 1) := dAt dlX5_line_0 12 rfl
theorem dX5_line_25 : decode cX5_line 25 = .ok (.aload 5, 2) := dAt dlX5_line_0 13 rfl
theorem dX5_line_27 : decode cX5_line 27 = .ok (.iload_n 2, 1) := dAt dlX5_line_0 14 rfl
theorem dX5_line_28 : decode cX5_line 28 = .ok (.iload_n 3, 1) := dAt dlX5_line_0 15 rfl
theorem dX5_line_29 : decode cX5_line 29 = .ok (.invokevirtual 64, 3) := dAt dlX5_line_0 16 rfl
theorem dX5_line_32 : decode cX5_line 32 = .ok (.iload 4, 2) := dAt dlX5_line_0 17 rfl
theorem dX5_line_34 : decode cX5_line 34 = .ok (.if_icmp .ne 6, 3) := dAt dlX5_line_0 18 rfl
theorem dX5_line_37 : decode cX5_line 37 = .ok (.bipush (-3), 2) := dAt dlX5_line_0 19 rfl
theorem dX5_line_39 : decode cX5_line 39 = .ok (.ireturn, 1) := dAt dlX5_line_0 20 rfl
theorem dX5_line_40 : decode cX5_line 40 = .ok (.aload 5, 2) := dAt dlX5_line_0 21 rfl
theorem dX5_line_42 : decode cX5_line 42 = .ok (.iload_n 2, 1) := dAt dlX5_line_0 22 rfl
theorem dX5_line_43 : decode cX5_line 43 = .ok (.iload_n 3, 1) := dAt dlX5_line_0 23 rfl
theorem dX5_line_44 : decode cX5_line 44 = .ok (.invokevirtual 67, 3) := dAt dlX5_line_0 24 rfl
theorem dX5_line_47 : decode cX5_line 47 = .ok (.iconst 1, 1) := dAt dlX5_line_0 25 rfl
theorem dX5_line_48 : decode cX5_line 48 = .ok (.ireturn, 1) := dAt dlX5_line_0 26 rfl
def ilX5_ring_0 : List (Nat × Instr × Nat) := [(0, .aload_n 0, 1), (1, .iload_n 1, 1), (2, .invokevirtual 48, 3), (5, .astore 4, 2), (7, .aload 4, 2), (9, .ifnull 22, 3), (12, .iload_n 2, 1), (13, .invokestatic 52, 3), (16, .ifCond .eq 15, 3), (19, .iload_n 3, 1), (20, .ifCond .lt 11, 3), (23, .iload_n 3, 1), (24, .iload_n 2, 1), (25, .iconst 2, 1), (26, .idiv, 1), (27, .ishr, 1), (28, .ifCond .eq 6, 3), (31, .bipush (-2), 2), (33, .ireturn, 1), (34, .aload 4, 2), (36, .iload_n 2, 1), (37, .iload_n 3, 1), (38, .invokevirtual 71, 3), (41, .aload 4, 2), (43, .invokevirtual 74, 3), (46, .ireturn, 1)]
theorem dlX5_ring_0 : dOK cX5_ring ilX5_ring_0 = true := by decide +kernel
theorem dX5_ring_0 : decode cX5_ring 0 = .ok (.aload_n 0, 1) := dAt dlX5_ring_0 0 rfl
theorem dX5_ring_1 : decode cX5_ring 1 = .ok (.iload_n 1, 1) := dAt dlX5_ring_0 1 rfl
theorem dX5_ring_2 : decode cX5_ring 2 = .ok (.invokevirtual 48, 3) := dAt dlX5_ring_0 2 rfl
theorem dX5_ring_5 : decode cX5_ring 5 = .ok (.astore 4, 2) := dAt dlX5_ring_0 3 rfl
theorem dX5_ring_7 : decode cX5_ring 7 = .ok (.aload 4, 2) := dAt dlX5_ring_0 4 rfl
theorem dX5_ring_9 : decode cX5_ring 9 = .ok (.ifnull 22, 3) := dAt dlX5_ring_0 5 rfl
theorem dX5_ring_12 : decode cX5_ring 12 = .ok (.iload_n 2, 1) := dAt dlX5_ring_0 6 rfl
theorem dX5_ring_13 : decode cX5_ring 13 = .ok (.invokestatic 52, 3) := dAt dlX5_ring_0 7 rfl
theorem dX5_ring_16 : decode cX5_ring 16 = .ok (.ifCond .eq 15, 3) := dAt dlX5_ring_0 8 rfl
theorem dX5_ring_19 : decode cX5_ring 19 = .ok (.iload_n 3, 1) := dAt dlX5_ring_0 9 rfl
theorem dX5_ring_20 : decode cX5_ring 20 = .ok (.ifCond .lt 11, 3) := dAt dlX5_ring_0 10 rfl
theorem dX5_ring_23 : decode cX5_ring 23 = .ok (.iload_n 3, 1) := dAt dlX5_ring_0 11 rfl
theorem dX5_ring_24 : decode cX5_ring 24 = .ok (.iload_n 2, 1) := dAt dlX5_ring_0 12 rfl
theorem dX5_ring_25 : decode cX5_ring 25 = .ok (.iconst 2, 1) := dAt dlX5_ring_0 13 rfl
theorem dX5_ring_26 : decode cX5_ring 26 = .ok (.idiv, 1) := dAt dlX5_ring_0 14 rfl
theorem dX5_ring_27 : decode cX5_ring 27 = .ok (.ishr, 1) := dAt dlX5_ring_0 15 rfl
theorem dX5_ring_28 : decode cX5_ring 28 = .ok (.ifCond .eq 6, 3) := dAt dlX5_ring_0 16 rfl
theorem dX5_ring_31 : decode cX5_ring 31 = .ok (.bipush (-2), 2) := dAt dlX5_ring_0 17 rfl
theorem dX5_ring_33 : decode cX5_ring 33 = .ok (.ireturn, 1) := dAt dlX5_ring_0 18 rfl
theorem dX5_ring_34 : decode cX5_ring 34 = .ok (.aload 4, 2) := dAt dlX5_ring_0 19 rfl
theorem dX5_ring_36 : decode cX5_ring 36 = .ok (.iload_n 2, 1) := dAt dlX5_ring_0 20 rfl
theorem dX5_ring_37 : decode cX5_ring 37 = .ok (.iload_n 3, 1) := dAt dlX5_ring_0 21 rfl
theorem dX5_ring_38 : decode cX5_ring 38 = .ok (.invokevirtual 71, 3) := dAt dlX5_ring_0 22 rfl
theorem dX5_ring_41 : decode cX5_ring 41 = .ok (.aload 4, 2) := dAt dlX5_ring_0 23 rfl
theorem dX5_ring_43 : decode cX5_ring 43 = .ok (.invokevirtual 74, 3) := dAt dlX5_ring_0 24 rfl
theorem dX5_ring_46 : decode cX5_ring 46 = .ok (.ireturn, 1) := dAt dlX5_ring_0 25 rfl
def ilX5_product_0 : List (Nat × Instr × Nat) := [(0, .aload_n 0, 1), (1, .iload_n 1, 1), (2, .invokevirtual 48, 3), (5, .astore 4, 2), (7, .aload_n 0, 1), (8, .iload_n 2, 1), (9, .invokevirtual 48, 3), (12, .astore 5, 2), (14, .aload_n 0, 1), (15, .iload_n 3, 1), (16, .invokevirtual 48, 3), (19, .astore 6, 2), (21, .aload 4, 2), (23, .ifnull 13, 3), (26, .aload 5, 2), (28, .ifnull 8, 3), (31, .aload 6, 2), (33, .ifnonnull 6, 3), (36, .bipush (-2), 2), (38, .ireturn, 1), (39, .aload 4, 2), (41, .getfield 78, 3), (44, .aload 5, 2), (46, .getfield 78, 3), (49, .imul, 1), (50, .bipush 10, 2), (52, .if_icmp .le 6, 3), (55, .bipush (-3), 2), (57, .ireturn, 1), (58, .aload_n 0, 1), (59, .getfield 16, 3), (62, .aload 4, 2), (64, .aload 5, 2), (66, .invokevirtual 82, 3), (69, .aload 6, 2), (71, .aload_n 0, 1), (72, .getfield 16, 3), (75, .invokevirtual 86, 3), (78, .aload 6, 2), (80, .getfield 78, 3), (83, .ireturn, 1)]
theorem dlX5_product_0 : dOK cX5_product ilX5_product_0 = true := by decide +kernel
theorem dX5_product_0 : decode cX5_product 0 = .ok (.aload_n 0, 1) := dAt dlX5_product_0 0 rfl
theorem dX5_product_1 : decode cX5_product 1 = .ok (.iload_n 1, 1) := dAt dlX5_product_0 1 rfl
theorem dX5_product_2 : decode cX5_product 2 = .ok (.invokevirtual 48, 3) := dAt dlX5_product_0 2 rfl
theorem dX5_product_5 : decode cX5_product 5 = .ok (.astore 4, 2) := dAt dlX5_product_0 3 rfl
theorem dX5_product_7 : decode cX5_product 7 = .ok (.aload_n 0, 1) := dAt dlX5_product_0 4 rfl
theorem dX5_product_8 : decode cX5_product 8 = .ok (.iload_n 2, 1) := dAt dlX5_product_0 5 rfl
theorem dX5_product_9 : decode cX5_product 9 = .ok (.invokevirtual 48, 3) := dAt dlX5_product_0 6 rfl
theorem dX5_product_12 : decode cX5_product 12 = .ok (.astore 5, 2) := dAt dlX5_product_0 7 rfl
theorem dX5_product_14 : decode cX5_product 14 = .ok (.aload_n 0, 1) := dAt dlX5_product_0 8 rfl
theorem dX5_product_15 : decode cX5_product 15 = .ok (.iload_n 3, 1) := dAt dlX5_product_0 9 rfl
theorem dX5_product_16 : decode cX5_product 16 = .ok (.invokevirtual 48, 3) := dAt dlX5_product_0 10 rfl
theorem dX5_product_19 : decode cX5_product 19 = .ok (.astore 6, 2) := dAt dlX5_product_0 11 rfl
theorem dX5_product_21 : decode cX5_product 21 = .ok (.aload 4, 2) := dAt dlX5_product_0 12 rfl
theorem dX5_product_23 : decode cX5_product 23 = .ok (.ifnull 13, 3) := dAt dlX5_product_0 13 rfl
theorem dX5_product_26 : decode cX5_product 26 = .ok (.aload 5, 2) := dAt dlX5_product_0 14 rfl
theorem dX5_product_28 : decode cX5_product 28 = .ok (.ifnull 8, 3) := dAt dlX5_product_0 15 rfl
theorem dX5_product_31 : decode cX5_product 31 = .ok (.aload 6, 2) := dAt dlX5_product_0 16 rfl
theorem dX5_product_33 : decode cX5_product 33 = .ok (.ifnonnull 6, 3) := dAt dlX5_product_0 17 rfl
theorem dX5_product_36 : decode cX5_product 36 = .ok (.bipush (-2), 2) := dAt dlX5_product_0 18 rfl
theorem dX5_product_38 : decode cX5_product 38 = .ok (.ireturn, 1) := dAt dlX5_product_0 19 rfl
theorem dX5_product_39 : decode cX5_product 39 = .ok (.aload 4, 2) := dAt dlX5_product_0 20 rfl
theorem dX5_product_41 : decode cX5_product 41 = .ok (.getfield 78, 3) := dAt dlX5_product_0 21 rfl
theorem dX5_product_44 : decode cX5_product 44 = .ok (.aload 5, 2) := dAt dlX5_product_0 22 rfl
theorem dX5_product_46 : decode cX5_product 46 = .ok (.getfield 78, 3) := dAt dlX5_product_0 23 rfl
theorem dX5_product_49 : decode cX5_product 49 = .ok (.imul, 1) := dAt dlX5_product_0 24 rfl
theorem dX5_product_50 : decode cX5_product 50 = .ok (.bipush 10, 2) := dAt dlX5_product_0 25 rfl
theorem dX5_product_52 : decode cX5_product 52 = .ok (.if_icmp .le 6, 3) := dAt dlX5_product_0 26 rfl
theorem dX5_product_55 : decode cX5_product 55 = .ok (.bipush (-3), 2) := dAt dlX5_product_0 27 rfl
theorem dX5_product_57 : decode cX5_product 57 = .ok (.ireturn, 1) := dAt dlX5_product_0 28 rfl
theorem dX5_product_58 : decode cX5_product 58 = .ok (.aload_n 0, 1) := dAt dlX5_product_0 29 rfl
theorem dX5_product_59 : decode cX5_product 59 = .ok (.getfield 16, 3) := dAt dlX5_product_0 30 rfl
theorem dX5_product_62 : decode cX5_product 62 = .ok (.aload 4, 2) := dAt dlX5_product_0 31 rfl
theorem dX5_product_64 : decode cX5_product 64 = .ok (.aload 5, 2) := dAt dlX5_product_0 32 rfl
theorem dX5_product_66 : decode cX5_product 66 = .ok (.invokevirtual 82, 3) := dAt dlX5_product_0 33 rfl
theorem dX5_product_69 : decode cX5_product 69 = .ok (.aload 6, 2) := dAt dlX5_product_0 34 rfl
theorem dX5_product_71 : decode cX5_product 71 = .ok (.aload_n 0, 1) := dAt dlX5_product_0 35 rfl
theorem dX5_product_72 : decode cX5_product 72 = .ok (.getfield 16, 3) := dAt dlX5_product_0 36 rfl
theorem dX5_product_75 : decode cX5_product 75 = .ok (.invokevirtual 86, 3) := dAt dlX5_product_0 37 rfl
theorem dX5_product_78 : decode cX5_product 78 = .ok (.aload 6, 2) := dAt dlX5_product_0 38 rfl
theorem dX5_product_80 : decode cX5_product 80 = .ok (.getfield 78, 3) := dAt dlX5_product_0 39 rfl
theorem dX5_product_83 : decode cX5_product 83 = .ok (.ireturn, 1) := dAt dlX5_product_0 40 rfl
def ilX5_turned_0 : List (Nat × Instr × Nat) := [(0, .aload_n 0, 1), (1, .iload_n 1, 1), (2, .invokevirtual 48, 3), (5, .astore_n 3, 1), (6, .aload_n 0, 1), (7, .iload_n 2, 1), (8, .invokevirtual 48, 3), (11, .astore 4, 2), (13, .aload_n 3, 1), (14, .ifnull 8, 3), (17, .aload 4, 2), (19, .ifnonnull 6, 3), (22, .bipush (-2), 2), (24, .ireturn, 1), (25, .aload_n 0, 1), (26, .getfield 16, 3), (29, .aload_n 3, 1), (30, .invokevirtual 90, 3), (33, .aload 4, 2), (35, .aload_n 0, 1), (36, .getfield 16, 3), (39, .invokevirtual 86, 3), (42, .aload 4, 2), (44, .invokevirtual 74, 3), (47, .ireturn, 1)]
theorem dlX5_turned_0 : dOK cX5_turned ilX5_turned_0 = true := by decide +kernel
theorem dX5_turned_0 : decode cX5_turned 0 = .ok (.aload_n 0, 1) := dAt dlX5_turned_0 0 rfl
theorem dX5_turned_1 : decode cX5_turned 1 = .ok (.iload_n 1, 1) := dAt dlX5_turned_0 1 rfl
theorem dX5_turned_2 : decode cX5_turned 2 = .ok (.invokevirtual 48, 3) := dAt dlX5_turned_0 2 rfl
theorem dX5_turned_5 : decode cX5_turned 5 = .ok (.astore_n 3, 1) := dAt dlX5_turned_0 3 rfl
theorem dX5_turned_6 : decode cX5_turned 6 = .ok (.aload_n 0, 1) := dAt dlX5_turned_0 4 rfl
theorem dX5_turned_7 : decode cX5_turned 7 = .ok (.iload_n 2, 1) := dAt dlX5_turned_0 5 rfl
theorem dX5_turned_8 : decode cX5_turned 8 = .ok (.invokevirtual 48, 3) := dAt dlX5_turned_0 6 rfl
theorem dX5_turned_11 : decode cX5_turned 11 = .ok (.astore 4, 2) := dAt dlX5_turned_0 7 rfl
theorem dX5_turned_13 : decode cX5_turned 13 = .ok (.aload_n 3, 1) := dAt dlX5_turned_0 8 rfl
theorem dX5_turned_14 : decode cX5_turned 14 = .ok (.ifnull 8, 3) := dAt dlX5_turned_0 9 rfl
theorem dX5_turned_17 : decode cX5_turned 17 = .ok (.aload 4, 2) := dAt dlX5_turned_0 10 rfl
theorem dX5_turned_19 : decode cX5_turned 19 = .ok (.ifnonnull 6, 3) := dAt dlX5_turned_0 11 rfl
theorem dX5_turned_22 : decode cX5_turned 22 = .ok (.bipush (-2), 2) := dAt dlX5_turned_0 12 rfl
theorem dX5_turned_24 : decode cX5_turned 24 = .ok (.ireturn, 1) := dAt dlX5_turned_0 13 rfl
theorem dX5_turned_25 : decode cX5_turned 25 = .ok (.aload_n 0, 1) := dAt dlX5_turned_0 14 rfl
theorem dX5_turned_26 : decode cX5_turned 26 = .ok (.getfield 16, 3) := dAt dlX5_turned_0 15 rfl
theorem dX5_turned_29 : decode cX5_turned 29 = .ok (.aload_n 3, 1) := dAt dlX5_turned_0 16 rfl
theorem dX5_turned_30 : decode cX5_turned 30 = .ok (.invokevirtual 90, 3) := dAt dlX5_turned_0 17 rfl
theorem dX5_turned_33 : decode cX5_turned 33 = .ok (.aload 4, 2) := dAt dlX5_turned_0 18 rfl
theorem dX5_turned_35 : decode cX5_turned 35 = .ok (.aload_n 0, 1) := dAt dlX5_turned_0 19 rfl
theorem dX5_turned_36 : decode cX5_turned 36 = .ok (.getfield 16, 3) := dAt dlX5_turned_0 20 rfl
theorem dX5_turned_39 : decode cX5_turned 39 = .ok (.invokevirtual 86, 3) := dAt dlX5_turned_0 21 rfl
theorem dX5_turned_42 : decode cX5_turned 42 = .ok (.aload 4, 2) := dAt dlX5_turned_0 22 rfl
theorem dX5_turned_44 : decode cX5_turned 44 = .ok (.invokevirtual 74, 3) := dAt dlX5_turned_0 23 rfl
theorem dX5_turned_47 : decode cX5_turned 47 = .ok (.ireturn, 1) := dAt dlX5_turned_0 24 rfl
def ilX5_about_0 : List (Nat × Instr × Nat) := [(0, .aload_n 0, 1), (1, .iload_n 1, 1), (2, .invokevirtual 48, 3), (5, .astore_n 3, 1), (6, .aload_n 3, 1), (7, .ifnonnull 6, 3), (10, .bipush (-2), 2), (12, .ireturn, 1), (13, .iload_n 2, 1), (14, .tableswitch 50 0 3 #[30, 35, 40, 45], 30), (44, .aload_n 3, 1), (45, .getfield 78, 3), (48, .ireturn, 1), (49, .aload_n 3, 1), (50, .invokevirtual 74, 3), (53, .ireturn, 1), (54, .aload_n 3, 1), (55, .invokevirtual 93, 3), (58, .ireturn, 1), (59, .aload_n 3, 1), (60, .invokevirtual 96, 3), (63, .ireturn, 1), (64, .bipush (-2), 2), (66, .ireturn, 1)]
theorem dlX5_about_0 : dOK cX5_about ilX5_about_0 = true := by decide +kernel
theorem dX5_about_0 : decode cX5_about 0 = .ok (.aload_n 0, 1) := dAt dlX5_about_0 0 rfl
theorem dX5_about_1 : decode cX5_about 1 = .ok (.iload_n 1, 1) := dAt dlX5_about_0 1 rfl
theorem dX5_about_2 : decode cX5_about 2 = .ok (.invokevirtual 48, 3) := dAt dlX5_about_0 2 rfl
theorem dX5_about_5 : decode cX5_about 5 = .ok (.astore_n 3, 1) := dAt dlX5_about_0 3 rfl
theorem dX5_about_6 : decode cX5_about 6 = .ok (.aload_n 3, 1) := dAt dlX5_about_0 4 rfl
theorem dX5_about_7 : decode cX5_about 7 = .ok (.ifnonnull 6, 3) := dAt dlX5_about_0 5 rfl
theorem dX5_about_10 : decode cX5_about 10 = .ok (.bipush (-2), 2) := dAt dlX5_about_0 6 rfl
theorem dX5_about_12 : decode cX5_about 12 = .ok (.ireturn, 1) := dAt dlX5_about_0 7 rfl
theorem dX5_about_13 : decode cX5_about 13 = .ok (.iload_n 2, 1) := dAt dlX5_about_0 8 rfl
theorem dX5_about_14 : decode cX5_about 14 = .ok (.tableswitch 50 0 3 #[30, 35, 40, 45], 30) := dAt dlX5_about_0 9 rfl
theorem dX5_about_44 : decode cX5_about 44 = .ok (.aload_n 3, 1) := dAt dlX5_about_0 10 rfl
theorem dX5_about_45 : decode cX5_about 45 = .ok (.getfield 78, 3) := dAt dlX5_about_0 11 rfl
theorem dX5_about_48 : decode cX5_about 48 = .ok (.ireturn, 1) := dAt dlX5_about_0 12 rfl
theorem dX5_about_49 : decode cX5_about 49 = .ok (.aload_n 3, 1) := dAt dlX5_about_0 13 rfl
theorem dX5_about_50 : decode cX5_about 50 = .ok (.invokevirtual 74, 3) := dAt dlX5_about_0 14 rfl
theorem dX5_about_53 : decode cX5_about 53 = .ok (.ireturn, 1) := dAt dlX5_about_0 15 rfl
theorem dX5_about_54 : decode cX5_about 54 = .ok (.aload_n 3, 1) := dAt dlX5_about_0 16 rfl
theorem dX5_about_55 : decode cX5_about 55 = .ok (.invokevirtual 93, 3) := dAt dlX5_about_0 17 rfl
theorem dX5_about_58 : decode cX5_about 58 = .ok (.ireturn, 1) := dAt dlX5_about_0 18 rfl
theorem dX5_about_59 : decode cX5_about 59 = .ok (.aload_n 3, 1) := dAt dlX5_about_0 19 rfl
theorem dX5_about_60 : decode cX5_about 60 = .ok (.invokevirtual 96, 3) := dAt dlX5_about_0 20 rfl
theorem dX5_about_63 : decode cX5_about 63 = .ok (.ireturn, 1) := dAt dlX5_about_0 21 rfl
theorem dX5_about_64 : decode cX5_about 64 = .ok (.bipush (-2), 2) := dAt dlX5_about_0 22 rfl
theorem dX5_about_66 : decode cX5_about 66 = .ok (.ireturn, 1) := dAt dlX5_about_0 23 rfl
def ilX5_near_0 : List (Nat × Instr × Nat) := [(0, .aload_n 0, 1), (1, .iload_n 1, 1), (2, .invokevirtual 48, 3), (5, .astore_n 3, 1), (6, .aload_n 3, 1), (7, .ifnull 11, 3), (10, .aload_n 3, 1), (11, .iload_n 2, 1), (12, .invokevirtual 99, 3), (15, .ifCond .ne 6, 3), (18, .bipush (-2), 2), (20, .ireturn, 1), (21, .aload_n 3, 1), (22, .getfield 102, 3), (25, .iload_n 2, 1), (26, .iaload, 1), (27, .ireturn, 1)]
theorem dlX5_near_0 : dOK cX5_near ilX5_near_0 = true := by decide +kernel
theorem dX5_near_0 : decode cX5_near 0 = .ok (.aload_n 0, 1) := dAt dlX5_near_0 0 rfl
theorem dX5_near_1 : decode cX5_near 1 = .ok (.iload_n 1, 1) := dAt dlX5_near_0 1 rfl
theorem dX5_near_2 : decode cX5_near 2 = .ok (.invokevirtual 48, 3) := dAt dlX5_near_0 2 rfl
theorem dX5_near_5 : decode cX5_near 5 = .ok (.astore_n 3, 1) := dAt dlX5_near_0 3 rfl
theorem dX5_near_6 : decode cX5_near 6 = .ok (.aload_n 3, 1) := dAt dlX5_near_0 4 rfl
theorem dX5_near_7 : decode cX5_near 7 = .ok (.ifnull 11, 3) := dAt dlX5_near_0 5 rfl
theorem dX5_near_10 : decode cX5_near 10 = .ok (.aload_n 3, 1) := dAt dlX5_near_0 6 rfl
theorem dX5_near_11 : decode cX5_near 11 = .ok (.iload_n 2, 1) := dAt dlX5_near_0 7 rfl
theorem dX5_near_12 : decode cX5_near 12 = .ok (.invokevirtual 99, 3) := dAt dlX5_near_0 8 rfl
theorem dX5_near_15 : decode cX5_near 15 = .ok (.ifCond .ne 6, 3) := dAt dlX5_near_0 9 rfl
theorem dX5_near_18 : decode cX5_near 18 = .ok (.bipush (-2), 2) := dAt dlX5_near_0 10 rfl
theorem dX5_near_20 : decode cX5_near 20 = .ok (.ireturn, 1) := dAt dlX5_near_0 11 rfl
theorem dX5_near_21 : decode cX5_near 21 = .ok (.aload_n 3, 1) := dAt dlX5_near_0 12 rfl
theorem dX5_near_22 : decode cX5_near 22 = .ok (.getfield 102, 3) := dAt dlX5_near_0 13 rfl
theorem dX5_near_25 : decode cX5_near 25 = .ok (.iload_n 2, 1) := dAt dlX5_near_0 14 rfl
theorem dX5_near_26 : decode cX5_near 26 = .ok (.iaload, 1) := dAt dlX5_near_0 15 rfl
theorem dX5_near_27 : decode cX5_near 27 = .ok (.ireturn, 1) := dAt dlX5_near_0 16 rfl
def ilX5_number_0 : List (Nat × Instr × Nat) := [(0, .aload_n 0, 1), (1, .iload_n 1, 1), (2, .invokevirtual 48, 3), (5, .astore 4, 2), (7, .aload 4, 2), (9, .ifnull 13, 3), (12, .aload 4, 2), (14, .iload_n 2, 1), (15, .iload_n 3, 1), (16, .invokevirtual 60, 3), (19, .ifCond .ne 6, 3), (22, .bipush (-2), 2), (24, .ireturn, 1), (25, .aload 4, 2), (27, .iload_n 2, 1), (28, .iload_n 3, 1), (29, .invokevirtual 64, 3), (32, .ifCond .eq 21, 3), (35, .aload 4, 2), (37, .iload_n 2, 1), (38, .iload_n 3, 1), (39, .invokestatic 106, 3), (42, .iload_n 2, 1), (43, .iload_n 3, 1), (44, .invokestatic 112, 3), (47, .invokevirtual 115, 3), (50, .goto 4, 3), (53, .iconst (-1), 1), (54, .ireturn, 1)]
theorem dlX5_number_0 : dOK cX5_number ilX5_number_0 = true := by decide +kernel
theorem dX5_number_0 : decode cX5_number 0 = .ok (.aload_n 0, 1) := dAt dlX5_number_0 0 rfl
theorem dX5_number_1 : decode cX5_number 1 = .ok (.iload_n 1, 1) := dAt dlX5_number_0 1 rfl
theorem dX5_number_2 : decode cX5_number 2 = .ok (.invokevirtual 48, 3) := dAt dlX5_number_0 2 rfl
theorem dX5_number_5 : decode cX5_number 5 = .ok (.astore 4, 2) := dAt dlX5_number_0 3 rfl
theorem dX5_number_7 : decode cX5_number 7 = .ok (.aload 4, 2) := dAt dlX5_number_0 4 rfl
theorem dX5_number_9 : decode cX5_number 9 = .ok (.ifnull 13, 3) := dAt dlX5_number_0 5 rfl
theorem dX5_number_12 : decode cX5_number 12 = .ok (.aload 4, 2) := dAt dlX5_number_0 6 rfl
theorem dX5_number_14 : decode cX5_number 14 = .ok (.iload_n 2, 1) := dAt dlX5_number_0 7 rfl
theorem dX5_number_15 : decode cX5_number 15 = .ok (.iload_n 3, 1) := dAt dlX5_number_0 8 rfl
theorem dX5_number_16 : decode cX5_number 16 = .ok (.invokevirtual 60, 3) := dAt dlX5_number_0 9 rfl
theorem dX5_number_19 : decode cX5_number 19 = .ok (.ifCond .ne 6, 3) := dAt dlX5_number_0 10 rfl
theorem dX5_number_22 : decode cX5_number 22 = .ok (.bipush (-2), 2) := dAt dlX5_number_0 11 rfl
theorem dX5_number_24 : decode cX5_number 24 = .ok (.ireturn, 1) := dAt dlX5_number_0 12 rfl
theorem dX5_number_25 : decode cX5_number 25 = .ok (.aload 4, 2) := dAt dlX5_number_0 13 rfl
theorem dX5_number_27 : decode cX5_number 27 = .ok (.iload_n 2, 1) := dAt dlX5_number_0 14 rfl
theorem dX5_number_28 : decode cX5_number 28 = .ok (.iload_n 3, 1) := dAt dlX5_number_0 15 rfl
theorem dX5_number_29 : decode cX5_number 29 = .ok (.invokevirtual 64, 3) := dAt dlX5_number_0 16 rfl
theorem dX5_number_32 : decode cX5_number 32 = .ok (.ifCond .eq 21, 3) := dAt dlX5_number_0 17 rfl
theorem dX5_number_35 : decode cX5_number 35 = .ok (.aload 4, 2) := dAt dlX5_number_0 18 rfl
theorem dX5_number_37 : decode cX5_number 37 = .ok (.iload_n 2, 1) := dAt dlX5_number_0 19 rfl
theorem dX5_number_38 : decode cX5_number 38 = .ok (.iload_n 3, 1) := dAt dlX5_number_0 20 rfl
theorem dX5_number_39 : decode cX5_number 39 = .ok (.invokestatic 106, 3) := dAt dlX5_number_0 21 rfl
theorem dX5_number_42 : decode cX5_number 42 = .ok (.iload_n 2, 1) := dAt dlX5_number_0 22 rfl
theorem dX5_number_43 : decode cX5_number 43 = .ok (.iload_n 3, 1) := dAt dlX5_number_0 23 rfl
theorem dX5_number_44 : decode cX5_number 44 = .ok (.invokestatic 112, 3) := dAt dlX5_number_0 24 rfl
theorem dX5_number_47 : decode cX5_number 47 = .ok (.invokevirtual 115, 3) := dAt dlX5_number_0 25 rfl
theorem dX5_number_50 : decode cX5_number 50 = .ok (.goto 4, 3) := dAt dlX5_number_0 26 rfl
theorem dX5_number_53 : decode cX5_number 53 = .ok (.iconst (-1), 1) := dAt dlX5_number_0 27 rfl
theorem dX5_number_54 : decode cX5_number 54 = .ok (.ireturn, 1) := dAt dlX5_number_0 28 rfl
def ilX5_growth_0 : List (Nat × Instr × Nat) := [(0, .aload_n 0, 1), (1, .iload_n 1, 1), (2, .invokevirtual 48, 3), (5, .astore 4, 2), (7, .aload 4, 2), (9, .ifnull 12, 3), (12, .iload_n 3, 1), (13, .ifCond .lt 8, 3), (16, .iload_n 3, 1), (17, .iconst 2, 1), (18, .if_icmp .le 6, 3), (21, .bipush (-2), 2), (23, .ireturn, 1), (24, .aload 4, 2), (26, .getfield 78, 3), (29, .iconst 1, 1), (30, .if_icmp .ne 5, 3), (33, .iconst (-1), 1), (34, .ireturn, 1), (35, .aload_n 0, 1), (36, .getfield 23, 3), (39, .aload 4, 2), (41, .iload_n 2, 1), (42, .invokevirtual 118, 3), (45, .iload_n 3, 1), (46, .lookupswitch 42 #[(0, 26), (1, 34)], 26), (72, .aload_n 0, 1), (73, .getfield 23, 3), (76, .getfield 122, 3), (79, .ireturn, 1), (80, .aload_n 0, 1), (81, .getfield 23, 3), (84, .getfield 125, 3), (87, .ireturn, 1), (88, .aload_n 0, 1), (89, .getfield 23, 3), (92, .getfield 128, 3), (95, .ireturn, 1)]
theorem dlX5_growth_0 : dOK cX5_growth ilX5_growth_0 = true := by decide +kernel
theorem dX5_growth_0 : decode cX5_growth 0 = .ok (.aload_n 0, 1) := dAt dlX5_growth_0 0 rfl
theorem dX5_growth_1 : decode cX5_growth 1 = .ok (.iload_n 1, 1) := dAt dlX5_growth_0 1 rfl
theorem dX5_growth_2 : decode cX5_growth 2 = .ok (.invokevirtual 48, 3) := dAt dlX5_growth_0 2 rfl
theorem dX5_growth_5 : decode cX5_growth 5 = .ok (.astore 4, 2) := dAt dlX5_growth_0 3 rfl
theorem dX5_growth_7 : decode cX5_growth 7 = .ok (.aload 4, 2) := dAt dlX5_growth_0 4 rfl
theorem dX5_growth_9 : decode cX5_growth 9 = .ok (.ifnull 12, 3) := dAt dlX5_growth_0 5 rfl
theorem dX5_growth_12 : decode cX5_growth 12 = .ok (.iload_n 3, 1) := dAt dlX5_growth_0 6 rfl
theorem dX5_growth_13 : decode cX5_growth 13 = .ok (.ifCond .lt 8, 3) := dAt dlX5_growth_0 7 rfl
theorem dX5_growth_16 : decode cX5_growth 16 = .ok (.iload_n 3, 1) := dAt dlX5_growth_0 8 rfl
theorem dX5_growth_17 : decode cX5_growth 17 = .ok (.iconst 2, 1) := dAt dlX5_growth_0 9 rfl
theorem dX5_growth_18 : decode cX5_growth 18 = .ok (.if_icmp .le 6, 3) := dAt dlX5_growth_0 10 rfl
theorem dX5_growth_21 : decode cX5_growth 21 = .ok (.bipush (-2), 2) := dAt dlX5_growth_0 11 rfl
theorem dX5_growth_23 : decode cX5_growth 23 = .ok (.ireturn, 1) := dAt dlX5_growth_0 12 rfl
theorem dX5_growth_24 : decode cX5_growth 24 = .ok (.aload 4, 2) := dAt dlX5_growth_0 13 rfl
theorem dX5_growth_26 : decode cX5_growth 26 = .ok (.getfield 78, 3) := dAt dlX5_growth_0 14 rfl
theorem dX5_growth_29 : decode cX5_growth 29 = .ok (.iconst 1, 1) := dAt dlX5_growth_0 15 rfl
theorem dX5_growth_30 : decode cX5_growth 30 = .ok (.if_icmp .ne 5, 3) := dAt dlX5_growth_0 16 rfl
theorem dX5_growth_33 : decode cX5_growth 33 = .ok (.iconst (-1), 1) := dAt dlX5_growth_0 17 rfl
theorem dX5_growth_34 : decode cX5_growth 34 = .ok (.ireturn, 1) := dAt dlX5_growth_0 18 rfl
theorem dX5_growth_35 : decode cX5_growth 35 = .ok (.aload_n 0, 1) := dAt dlX5_growth_0 19 rfl
theorem dX5_growth_36 : decode cX5_growth 36 = .ok (.getfield 23, 3) := dAt dlX5_growth_0 20 rfl
theorem dX5_growth_39 : decode cX5_growth 39 = .ok (.aload 4, 2) := dAt dlX5_growth_0 21 rfl
theorem dX5_growth_41 : decode cX5_growth 41 = .ok (.iload_n 2, 1) := dAt dlX5_growth_0 22 rfl
theorem dX5_growth_42 : decode cX5_growth 42 = .ok (.invokevirtual 118, 3) := dAt dlX5_growth_0 23 rfl
theorem dX5_growth_45 : decode cX5_growth 45 = .ok (.iload_n 3, 1) := dAt dlX5_growth_0 24 rfl
theorem dX5_growth_46 : decode cX5_growth 46 = .ok (.lookupswitch 42 #[(0, 26), (1, 34)], 26) := dAt dlX5_growth_0 25 rfl
theorem dX5_growth_72 : decode cX5_growth 72 = .ok (.aload_n 0, 1) := dAt dlX5_growth_0 26 rfl
theorem dX5_growth_73 : decode cX5_growth 73 = .ok (.getfield 23, 3) := dAt dlX5_growth_0 27 rfl
theorem dX5_growth_76 : decode cX5_growth 76 = .ok (.getfield 122, 3) := dAt dlX5_growth_0 28 rfl
theorem dX5_growth_79 : decode cX5_growth 79 = .ok (.ireturn, 1) := dAt dlX5_growth_0 29 rfl
theorem dX5_growth_80 : decode cX5_growth 80 = .ok (.aload_n 0, 1) := dAt dlX5_growth_0 30 rfl
theorem dX5_growth_81 : decode cX5_growth 81 = .ok (.getfield 23, 3) := dAt dlX5_growth_0 31 rfl
theorem dX5_growth_84 : decode cX5_growth 84 = .ok (.getfield 125, 3) := dAt dlX5_growth_0 32 rfl
theorem dX5_growth_87 : decode cX5_growth 87 = .ok (.ireturn, 1) := dAt dlX5_growth_0 33 rfl
theorem dX5_growth_88 : decode cX5_growth 88 = .ok (.aload_n 0, 1) := dAt dlX5_growth_0 34 rfl
theorem dX5_growth_89 : decode cX5_growth 89 = .ok (.getfield 23, 3) := dAt dlX5_growth_0 35 rfl
theorem dX5_growth_92 : decode cX5_growth 92 = .ok (.getfield 128, 3) := dAt dlX5_growth_0 36 rfl
theorem dX5_growth_95 : decode cX5_growth 95 = .ok (.ireturn, 1) := dAt dlX5_growth_0 37 rfl
def ilX5_more_0 : List (Nat × Instr × Nat) := [(0, .aload_n 0, 1), (1, .iload_n 1, 1), (2, .invokevirtual 48, 3), (5, .astore 4, 2), (7, .aload 4, 2), (9, .ifnull 14, 3), (12, .iload_n 2, 1), (13, .ifCond .lt 10, 3), (16, .iload_n 3, 1), (17, .invokestatic 131, 3), (20, .ifCond .ne 6, 3), (23, .bipush (-2), 2), (25, .ireturn, 1), (26, .aload_n 0, 1), (27, .getfield 30, 3), (30, .aload 4, 2), (32, .iload_n 2, 1), (33, .invokevirtual 134, 3), (36, .aload_n 0, 1), (37, .getfield 30, 3), (40, .iload_n 3, 1), (41, .invokevirtual 138, 3), (44, .ireturn, 1)]
theorem dlX5_more_0 : dOK cX5_more ilX5_more_0 = true := by decide +kernel
theorem dX5_more_0 : decode cX5_more 0 = .ok (.aload_n 0, 1) := dAt dlX5_more_0 0 rfl
theorem dX5_more_1 : decode cX5_more 1 = .ok (.iload_n 1, 1) := dAt dlX5_more_0 1 rfl
theorem dX5_more_2 : decode cX5_more 2 = .ok (.invokevirtual 48, 3) := dAt dlX5_more_0 2 rfl
theorem dX5_more_5 : decode cX5_more 5 = .ok (.astore 4, 2) := dAt dlX5_more_0 3 rfl
theorem dX5_more_7 : decode cX5_more 7 = .ok (.aload 4, 2) := dAt dlX5_more_0 4 rfl
theorem dX5_more_9 : decode cX5_more 9 = .ok (.ifnull 14, 3) := dAt dlX5_more_0 5 rfl
theorem dX5_more_12 : decode cX5_more 12 = .ok (.iload_n 2, 1) := dAt dlX5_more_0 6 rfl
theorem dX5_more_13 : decode cX5_more 13 = .ok (.ifCond .lt 10, 3) := dAt dlX5_more_0 7 rfl
theorem dX5_more_16 : decode cX5_more 16 = .ok (.iload_n 3, 1) := dAt dlX5_more_0 8 rfl
theorem dX5_more_17 : decode cX5_more 17 = .ok (.invokestatic 131, 3) := dAt dlX5_more_0 9 rfl
theorem dX5_more_20 : decode cX5_more 20 = .ok (.ifCond .ne 6, 3) := dAt dlX5_more_0 10 rfl
theorem dX5_more_23 : decode cX5_more 23 = .ok (.bipush (-2), 2) := dAt dlX5_more_0 11 rfl
theorem dX5_more_25 : decode cX5_more 25 = .ok (.ireturn, 1) := dAt dlX5_more_0 12 rfl
theorem dX5_more_26 : decode cX5_more 26 = .ok (.aload_n 0, 1) := dAt dlX5_more_0 13 rfl
theorem dX5_more_27 : decode cX5_more 27 = .ok (.getfield 30, 3) := dAt dlX5_more_0 14 rfl
theorem dX5_more_30 : decode cX5_more 30 = .ok (.aload 4, 2) := dAt dlX5_more_0 15 rfl
theorem dX5_more_32 : decode cX5_more 32 = .ok (.iload_n 2, 1) := dAt dlX5_more_0 16 rfl
theorem dX5_more_33 : decode cX5_more 33 = .ok (.invokevirtual 134, 3) := dAt dlX5_more_0 17 rfl
theorem dX5_more_36 : decode cX5_more 36 = .ok (.aload_n 0, 1) := dAt dlX5_more_0 18 rfl
theorem dX5_more_37 : decode cX5_more 37 = .ok (.getfield 30, 3) := dAt dlX5_more_0 19 rfl
theorem dX5_more_40 : decode cX5_more 40 = .ok (.iload_n 3, 1) := dAt dlX5_more_0 20 rfl
theorem dX5_more_41 : decode cX5_more 41 = .ok (.invokevirtual 138, 3) := dAt dlX5_more_0 21 rfl
theorem dX5_more_44 : decode cX5_more 44 = .ok (.ireturn, 1) := dAt dlX5_more_0 22 rfl
def ilX5_just_0 : List (Nat × Instr × Nat) := [(0, .aload_n 0, 1), (1, .iload_n 1, 1), (2, .invokevirtual 48, 3), (5, .astore 4, 2), (7, .aload 4, 2), (9, .ifnull 14, 3), (12, .iload_n 2, 1), (13, .ifCond .lt 10, 3), (16, .iload_n 3, 1), (17, .invokestatic 131, 3), (20, .ifCond .ne 6, 3), (23, .bipush (-2), 2), (25, .ireturn, 1), (26, .aload_n 0, 1), (27, .getfield 30, 3), (30, .aload 4, 2), (32, .iload_n 2, 1), (33, .invokevirtual 134, 3), (36, .aload_n 0, 1), (37, .getfield 30, 3), (40, .iload_n 3, 1), (41, .invokevirtual 142, 3), (44, .ireturn, 1)]
theorem dlX5_just_0 : dOK cX5_just ilX5_just_0 = true := by decide +kernel
theorem dX5_just_0 : decode cX5_just 0 = .ok (.aload_n 0, 1) := dAt dlX5_just_0 0 rfl
theorem dX5_just_1 : decode cX5_just 1 = .ok (.iload_n 1, 1) := dAt dlX5_just_0 1 rfl
theorem dX5_just_2 : decode cX5_just 2 = .ok (.invokevirtual 48, 3) := dAt dlX5_just_0 2 rfl
theorem dX5_just_5 : decode cX5_just 5 = .ok (.astore 4, 2) := dAt dlX5_just_0 3 rfl
theorem dX5_just_7 : decode cX5_just 7 = .ok (.aload 4, 2) := dAt dlX5_just_0 4 rfl
theorem dX5_just_9 : decode cX5_just 9 = .ok (.ifnull 14, 3) := dAt dlX5_just_0 5 rfl
theorem dX5_just_12 : decode cX5_just 12 = .ok (.iload_n 2, 1) := dAt dlX5_just_0 6 rfl
theorem dX5_just_13 : decode cX5_just 13 = .ok (.ifCond .lt 10, 3) := dAt dlX5_just_0 7 rfl
theorem dX5_just_16 : decode cX5_just 16 = .ok (.iload_n 3, 1) := dAt dlX5_just_0 8 rfl
theorem dX5_just_17 : decode cX5_just 17 = .ok (.invokestatic 131, 3) := dAt dlX5_just_0 9 rfl
theorem dX5_just_20 : decode cX5_just 20 = .ok (.ifCond .ne 6, 3) := dAt dlX5_just_0 10 rfl
theorem dX5_just_23 : decode cX5_just 23 = .ok (.bipush (-2), 2) := dAt dlX5_just_0 11 rfl
theorem dX5_just_25 : decode cX5_just 25 = .ok (.ireturn, 1) := dAt dlX5_just_0 12 rfl
theorem dX5_just_26 : decode cX5_just 26 = .ok (.aload_n 0, 1) := dAt dlX5_just_0 13 rfl
theorem dX5_just_27 : decode cX5_just 27 = .ok (.getfield 30, 3) := dAt dlX5_just_0 14 rfl
theorem dX5_just_30 : decode cX5_just 30 = .ok (.aload 4, 2) := dAt dlX5_just_0 15 rfl
theorem dX5_just_32 : decode cX5_just 32 = .ok (.iload_n 2, 1) := dAt dlX5_just_0 16 rfl
theorem dX5_just_33 : decode cX5_just 33 = .ok (.invokevirtual 134, 3) := dAt dlX5_just_0 17 rfl
theorem dX5_just_36 : decode cX5_just 36 = .ok (.aload_n 0, 1) := dAt dlX5_just_0 18 rfl
theorem dX5_just_37 : decode cX5_just 37 = .ok (.getfield 30, 3) := dAt dlX5_just_0 19 rfl
theorem dX5_just_40 : decode cX5_just 40 = .ok (.iload_n 3, 1) := dAt dlX5_just_0 20 rfl
theorem dX5_just_41 : decode cX5_just 41 = .ok (.invokevirtual 142, 3) := dAt dlX5_just_0 21 rfl
theorem dX5_just_44 : decode cX5_just 44 = .ok (.ireturn, 1) := dAt dlX5_just_0 22 rfl
def ilX5_second_0 : List (Nat × Instr × Nat) := [(0, .aload_n 0, 1), (1, .iload_n 1, 1), (2, .invokevirtual 48, 3), (5, .astore_n 2, 1), (6, .aload_n 2, 1), (7, .ifnonnull 6, 3), (10, .bipush (-2), 2), (12, .ireturn, 1), (13, .aload_n 0, 1), (14, .getfield 30, 3), (17, .aload_n 2, 1), (18, .iconst 0, 1), (19, .invokevirtual 134, 3), (22, .bipush (-20), 2), (24, .istore_n 3, 1), (25, .iload_n 3, 1), (26, .bipush 18, 2), (28, .if_icmp .ge 23, 3), (31, .aload_n 0, 1), (32, .getfield 30, 3), (35, .iload_n 3, 1), (36, .invokevirtual 138, 3), (39, .iconst 1, 1), (40, .if_icmp .gt 5, 3), (43, .iload_n 3, 1), (44, .ireturn, 1), (45, .iinc 3 1, 3), (48, .goto (-23), 3), (51, .bipush 18, 2), (53, .ireturn, 1)]
theorem dlX5_second_0 : dOK cX5_second ilX5_second_0 = true := by decide +kernel
theorem dX5_second_0 : decode cX5_second 0 = .ok (.aload_n 0, 1) := dAt dlX5_second_0 0 rfl
theorem dX5_second_1 : decode cX5_second 1 = .ok (.iload_n 1, 1) := dAt dlX5_second_0 1 rfl
theorem dX5_second_2 : decode cX5_second 2 = .ok (.invokevirtual 48, 3) := dAt dlX5_second_0 2 rfl
theorem dX5_second_5 : decode cX5_second 5 = .ok (.astore_n 2, 1) := dAt dlX5_second_0 3 rfl
theorem dX5_second_6 : decode cX5_second 6 = .ok (.aload_n 2, 1) := dAt dlX5_second_0 4 rfl
theorem dX5_second_7 : decode cX5_second 7 = .ok (.ifnonnull 6, 3) := dAt dlX5_second_0 5 rfl
theorem dX5_second_10 : decode cX5_second 10 = .ok (.bipush (-2), 2) := dAt dlX5_second_0 6 rfl
theorem dX5_second_12 : decode cX5_second 12 = .ok (.ireturn, 1) := dAt dlX5_second_0 7 rfl
theorem dX5_second_13 : decode cX5_second 13 = .ok (.aload_n 0, 1) := dAt dlX5_second_0 8 rfl
theorem dX5_second_14 : decode cX5_second 14 = .ok (.getfield 30, 3) := dAt dlX5_second_0 9 rfl
theorem dX5_second_17 : decode cX5_second 17 = .ok (.aload_n 2, 1) := dAt dlX5_second_0 10 rfl
theorem dX5_second_18 : decode cX5_second 18 = .ok (.iconst 0, 1) := dAt dlX5_second_0 11 rfl
theorem dX5_second_19 : decode cX5_second 19 = .ok (.invokevirtual 134, 3) := dAt dlX5_second_0 12 rfl
theorem dX5_second_22 : decode cX5_second 22 = .ok (.bipush (-20), 2) := dAt dlX5_second_0 13 rfl
theorem dX5_second_24 : decode cX5_second 24 = .ok (.istore_n 3, 1) := dAt dlX5_second_0 14 rfl
theorem dX5_second_25 : decode cX5_second 25 = .ok (.iload_n 3, 1) := dAt dlX5_second_0 15 rfl
theorem dX5_second_26 : decode cX5_second 26 = .ok (.bipush 18, 2) := dAt dlX5_second_0 16 rfl
theorem dX5_second_28 : decode cX5_second 28 = .ok (.if_icmp .ge 23, 3) := dAt dlX5_second_0 17 rfl
theorem dX5_second_31 : decode cX5_second 31 = .ok (.aload_n 0, 1) := dAt dlX5_second_0 18 rfl
theorem dX5_second_32 : decode cX5_second 32 = .ok (.getfield 30, 3) := dAt dlX5_second_0 19 rfl
theorem dX5_second_35 : decode cX5_second 35 = .ok (.iload_n 3, 1) := dAt dlX5_second_0 20 rfl
theorem dX5_second_36 : decode cX5_second 36 = .ok (.invokevirtual 138, 3) := dAt dlX5_second_0 21 rfl
theorem dX5_second_39 : decode cX5_second 39 = .ok (.iconst 1, 1) := dAt dlX5_second_0 22 rfl
theorem dX5_second_40 : decode cX5_second 40 = .ok (.if_icmp .gt 5, 3) := dAt dlX5_second_0 23 rfl
theorem dX5_second_43 : decode cX5_second 43 = .ok (.iload_n 3, 1) := dAt dlX5_second_0 24 rfl
theorem dX5_second_44 : decode cX5_second 44 = .ok (.ireturn, 1) := dAt dlX5_second_0 25 rfl
theorem dX5_second_45 : decode cX5_second 45 = .ok (.iinc 3 1, 3) := dAt dlX5_second_0 26 rfl
theorem dX5_second_48 : decode cX5_second 48 = .ok (.goto (-23), 3) := dAt dlX5_second_0 27 rfl
theorem dX5_second_51 : decode cX5_second 51 = .ok (.bipush 18, 2) := dAt dlX5_second_0 28 rfl
theorem dX5_second_53 : decode cX5_second 53 = .ok (.ireturn, 1) := dAt dlX5_second_0 29 rfl
def ilX5_span_0 : List (Nat × Instr × Nat) := [(0, .aload_n 0, 1), (1, .iload_n 1, 1), (2, .invokevirtual 48, 3), (5, .astore_n 3, 1), (6, .aload_n 3, 1), (7, .ifnull 7, 3), (10, .iload_n 2, 1), (11, .ifCond .ge 6, 3), (14, .bipush (-2), 2), (16, .ireturn, 1), (17, .aload_n 0, 1), (18, .getfield 30, 3), (21, .aload_n 3, 1), (22, .iload_n 2, 1), (23, .invokevirtual 134, 3), (26, .aload_n 0, 1), (27, .getfield 30, 3), (30, .invokevirtual 145, 3), (33, .ireturn, 1)]
theorem dlX5_span_0 : dOK cX5_span ilX5_span_0 = true := by decide +kernel
theorem dX5_span_0 : decode cX5_span 0 = .ok (.aload_n 0, 1) := dAt dlX5_span_0 0 rfl
theorem dX5_span_1 : decode cX5_span 1 = .ok (.iload_n 1, 1) := dAt dlX5_span_0 1 rfl
theorem dX5_span_2 : decode cX5_span 2 = .ok (.invokevirtual 48, 3) := dAt dlX5_span_0 2 rfl
theorem dX5_span_5 : decode cX5_span 5 = .ok (.astore_n 3, 1) := dAt dlX5_span_0 3 rfl
theorem dX5_span_6 : decode cX5_span 6 = .ok (.aload_n 3, 1) := dAt dlX5_span_0 4 rfl
theorem dX5_span_7 : decode cX5_span 7 = .ok (.ifnull 7, 3) := dAt dlX5_span_0 5 rfl
theorem dX5_span_10 : decode cX5_span 10 = .ok (.iload_n 2, 1) := dAt dlX5_span_0 6 rfl
theorem dX5_span_11 : decode cX5_span 11 = .ok (.ifCond .ge 6, 3) := dAt dlX5_span_0 7 rfl
theorem dX5_span_14 : decode cX5_span 14 = .ok (.bipush (-2), 2) := dAt dlX5_span_0 8 rfl
theorem dX5_span_16 : decode cX5_span 16 = .ok (.ireturn, 1) := dAt dlX5_span_0 9 rfl
theorem dX5_span_17 : decode cX5_span 17 = .ok (.aload_n 0, 1) := dAt dlX5_span_0 10 rfl
theorem dX5_span_18 : decode cX5_span 18 = .ok (.getfield 30, 3) := dAt dlX5_span_0 11 rfl
theorem dX5_span_21 : decode cX5_span 21 = .ok (.aload_n 3, 1) := dAt dlX5_span_0 12 rfl
theorem dX5_span_22 : decode cX5_span 22 = .ok (.iload_n 2, 1) := dAt dlX5_span_0 13 rfl
theorem dX5_span_23 : decode cX5_span 23 = .ok (.invokevirtual 134, 3) := dAt dlX5_span_0 14 rfl
theorem dX5_span_26 : decode cX5_span 26 = .ok (.aload_n 0, 1) := dAt dlX5_span_0 15 rfl
theorem dX5_span_27 : decode cX5_span 27 = .ok (.getfield 30, 3) := dAt dlX5_span_0 16 rfl
theorem dX5_span_30 : decode cX5_span 30 = .ok (.invokevirtual 145, 3) := dAt dlX5_span_0 17 rfl
theorem dX5_span_33 : decode cX5_span 33 = .ok (.ireturn, 1) := dAt dlX5_span_0 18 rfl
def ilX5_best_0 : List (Nat × Instr × Nat) := [(0, .aload_n 0, 1), (1, .iload_n 1, 1), (2, .invokevirtual 48, 3), (5, .astore_n 2, 1), (6, .aload_n 2, 1), (7, .ifnonnull 6, 3), (10, .bipush (-2), 2), (12, .ireturn, 1), (13, .aload_n 2, 1), (14, .invokevirtual 74, 3), (17, .bipush 9, 2), (19, .if_icmp .le 6, 3), (22, .bipush (-3), 2), (24, .ireturn, 1), (25, .aload_n 0, 1), (26, .aload_n 2, 1), (27, .invokevirtual 148, 3), (30, .ireturn, 1)]
theorem dlX5_best_0 : dOK cX5_best ilX5_best_0 = true := by decide +kernel
theorem dX5_best_0 : decode cX5_best 0 = .ok (.aload_n 0, 1) := dAt dlX5_best_0 0 rfl
theorem dX5_best_1 : decode cX5_best 1 = .ok (.iload_n 1, 1) := dAt dlX5_best_0 1 rfl
theorem dX5_best_2 : decode cX5_best 2 = .ok (.invokevirtual 48, 3) := dAt dlX5_best_0 2 rfl
theorem dX5_best_5 : decode cX5_best 5 = .ok (.astore_n 2, 1) := dAt dlX5_best_0 3 rfl
theorem dX5_best_6 : decode cX5_best 6 = .ok (.aload_n 2, 1) := dAt dlX5_best_0 4 rfl
theorem dX5_best_7 : decode cX5_best 7 = .ok (.ifnonnull 6, 3) := dAt dlX5_best_0 5 rfl
theorem dX5_best_10 : decode cX5_best 10 = .ok (.bipush (-2), 2) := dAt dlX5_best_0 6 rfl
theorem dX5_best_12 : decode cX5_best 12 = .ok (.ireturn, 1) := dAt dlX5_best_0 7 rfl
theorem dX5_best_13 : decode cX5_best 13 = .ok (.aload_n 2, 1) := dAt dlX5_best_0 8 rfl
theorem dX5_best_14 : decode cX5_best 14 = .ok (.invokevirtual 74, 3) := dAt dlX5_best_0 9 rfl
theorem dX5_best_17 : decode cX5_best 17 = .ok (.bipush 9, 2) := dAt dlX5_best_0 10 rfl
theorem dX5_best_19 : decode cX5_best 19 = .ok (.if_icmp .le 6, 3) := dAt dlX5_best_0 11 rfl
theorem dX5_best_22 : decode cX5_best 22 = .ok (.bipush (-3), 2) := dAt dlX5_best_0 12 rfl
theorem dX5_best_24 : decode cX5_best 24 = .ok (.ireturn, 1) := dAt dlX5_best_0 13 rfl
theorem dX5_best_25 : decode cX5_best 25 = .ok (.aload_n 0, 1) := dAt dlX5_best_0 14 rfl
theorem dX5_best_26 : decode cX5_best 26 = .ok (.aload_n 2, 1) := dAt dlX5_best_0 15 rfl
theorem dX5_best_27 : decode cX5_best 27 = .ok (.invokevirtual 148, 3) := dAt dlX5_best_0 16 rfl
theorem dX5_best_30 : decode cX5_best 30 = .ok (.ireturn, 1) := dAt dlX5_best_0 17 rfl
def ilX5_walks_0 : List (Nat × Instr × Nat) := [(0, .aload_n 0, 1), (1, .iload_n 1, 1), (2, .invokevirtual 48, 3), (5, .astore 5, 2), (7, .aload 5, 2), (9, .ifnull 21, 3), (12, .aload 5, 2), (14, .iload_n 2, 1), (15, .iload_n 3, 1), (16, .invokevirtual 152, 3), (19, .ifCond .eq 11, 3), (22, .iload 4, 2), (24, .invokestatic 155, 3), (27, .ifCond .ne 7, 3), (30, .ldc2_w 158, 3), (33, .lreturn, 1), (34, .aload_n 0, 1), (35, .getfield 37, 3), (38, .aload 5, 2), (40, .iload_n 2, 1), (41, .iload 4, 2), (43, .invokevirtual 160, 3), (46, .aload_n 0, 1), (47, .getfield 37, 3), (50, .getfield 164, 3), (53, .iload_n 3, 1), (54, .laload, 1), (55, .lreturn, 1)]
theorem dlX5_walks_0 : dOK cX5_walks ilX5_walks_0 = true := by decide +kernel
theorem dX5_walks_0 : decode cX5_walks 0 = .ok (.aload_n 0, 1) := dAt dlX5_walks_0 0 rfl
theorem dX5_walks_1 : decode cX5_walks 1 = .ok (.iload_n 1, 1) := dAt dlX5_walks_0 1 rfl
theorem dX5_walks_2 : decode cX5_walks 2 = .ok (.invokevirtual 48, 3) := dAt dlX5_walks_0 2 rfl
theorem dX5_walks_5 : decode cX5_walks 5 = .ok (.astore 5, 2) := dAt dlX5_walks_0 3 rfl
theorem dX5_walks_7 : decode cX5_walks 7 = .ok (.aload 5, 2) := dAt dlX5_walks_0 4 rfl
theorem dX5_walks_9 : decode cX5_walks 9 = .ok (.ifnull 21, 3) := dAt dlX5_walks_0 5 rfl
theorem dX5_walks_12 : decode cX5_walks 12 = .ok (.aload 5, 2) := dAt dlX5_walks_0 6 rfl
theorem dX5_walks_14 : decode cX5_walks 14 = .ok (.iload_n 2, 1) := dAt dlX5_walks_0 7 rfl
theorem dX5_walks_15 : decode cX5_walks 15 = .ok (.iload_n 3, 1) := dAt dlX5_walks_0 8 rfl
theorem dX5_walks_16 : decode cX5_walks 16 = .ok (.invokevirtual 152, 3) := dAt dlX5_walks_0 9 rfl
theorem dX5_walks_19 : decode cX5_walks 19 = .ok (.ifCond .eq 11, 3) := dAt dlX5_walks_0 10 rfl
theorem dX5_walks_22 : decode cX5_walks 22 = .ok (.iload 4, 2) := dAt dlX5_walks_0 11 rfl
theorem dX5_walks_24 : decode cX5_walks 24 = .ok (.invokestatic 155, 3) := dAt dlX5_walks_0 12 rfl
theorem dX5_walks_27 : decode cX5_walks 27 = .ok (.ifCond .ne 7, 3) := dAt dlX5_walks_0 13 rfl
theorem dX5_walks_30 : decode cX5_walks 30 = .ok (.ldc2_w 158, 3) := dAt dlX5_walks_0 14 rfl
theorem dX5_walks_33 : decode cX5_walks 33 = .ok (.lreturn, 1) := dAt dlX5_walks_0 15 rfl
theorem dX5_walks_34 : decode cX5_walks 34 = .ok (.aload_n 0, 1) := dAt dlX5_walks_0 16 rfl
theorem dX5_walks_35 : decode cX5_walks 35 = .ok (.getfield 37, 3) := dAt dlX5_walks_0 17 rfl
theorem dX5_walks_38 : decode cX5_walks 38 = .ok (.aload 5, 2) := dAt dlX5_walks_0 18 rfl
theorem dX5_walks_40 : decode cX5_walks 40 = .ok (.iload_n 2, 1) := dAt dlX5_walks_0 19 rfl
theorem dX5_walks_41 : decode cX5_walks 41 = .ok (.iload 4, 2) := dAt dlX5_walks_0 20 rfl
theorem dX5_walks_43 : decode cX5_walks 43 = .ok (.invokevirtual 160, 3) := dAt dlX5_walks_0 21 rfl
theorem dX5_walks_46 : decode cX5_walks 46 = .ok (.aload_n 0, 1) := dAt dlX5_walks_0 22 rfl
theorem dX5_walks_47 : decode cX5_walks 47 = .ok (.getfield 37, 3) := dAt dlX5_walks_0 23 rfl
theorem dX5_walks_50 : decode cX5_walks 50 = .ok (.getfield 164, 3) := dAt dlX5_walks_0 24 rfl
theorem dX5_walks_53 : decode cX5_walks 53 = .ok (.iload_n 3, 1) := dAt dlX5_walks_0 25 rfl
theorem dX5_walks_54 : decode cX5_walks 54 = .ok (.laload, 1) := dAt dlX5_walks_0 26 rfl
theorem dX5_walks_55 : decode cX5_walks 55 = .ok (.lreturn, 1) := dAt dlX5_walks_0 27 rfl
def ilX5_uneven_0 : List (Nat × Instr × Nat) := [(0, .aload_n 0, 1), (1, .iload_n 1, 1), (2, .invokevirtual 48, 3), (5, .astore 4, 2), (7, .aload 4, 2), (9, .ifnull 19, 3), (12, .aload 4, 2), (14, .iload_n 2, 1), (15, .invokevirtual 99, 3), (18, .ifCond .eq 10, 3), (21, .iload_n 3, 1), (22, .invokestatic 155, 3), (25, .ifCond .ne 7, 3), (28, .ldc2_w 158, 3), (31, .lreturn, 1), (32, .aload 4, 2), (34, .invokevirtual 93, 3), (37, .istore 5, 2), (39, .iload 5, 2), (41, .iconst (-1), 1), (42, .if_icmp .ne 7, 3), (45, .ldc2_w 168, 3), (48, .lreturn, 1), (49, .aload_n 0, 1), (50, .getfield 37, 3), (53, .aload 4, 2), (55, .iload_n 2, 1), (56, .iload_n 3, 1), (57, .invokevirtual 160, 3), (60, .aload_n 0, 1), (61, .getfield 37, 3), (64, .aload 4, 2), (66, .getfield 78, 3), (69, .iload 5, 2), (71, .iload_n 3, 1), (72, .invokestatic 170, 3), (75, .invokevirtual 174, 3), (78, .lreturn, 1)]
theorem dlX5_uneven_0 : dOK cX5_uneven ilX5_uneven_0 = true := by decide +kernel
theorem dX5_uneven_0 : decode cX5_uneven 0 = .ok (.aload_n 0, 1) := dAt dlX5_uneven_0 0 rfl
theorem dX5_uneven_1 : decode cX5_uneven 1 = .ok (.iload_n 1, 1) := dAt dlX5_uneven_0 1 rfl
theorem dX5_uneven_2 : decode cX5_uneven 2 = .ok (.invokevirtual 48, 3) := dAt dlX5_uneven_0 2 rfl
theorem dX5_uneven_5 : decode cX5_uneven 5 = .ok (.astore 4, 2) := dAt dlX5_uneven_0 3 rfl
theorem dX5_uneven_7 : decode cX5_uneven 7 = .ok (.aload 4, 2) := dAt dlX5_uneven_0 4 rfl
theorem dX5_uneven_9 : decode cX5_uneven 9 = .ok (.ifnull 19, 3) := dAt dlX5_uneven_0 5 rfl
theorem dX5_uneven_12 : decode cX5_uneven 12 = .ok (.aload 4, 2) := dAt dlX5_uneven_0 6 rfl
theorem dX5_uneven_14 : decode cX5_uneven 14 = .ok (.iload_n 2, 1) := dAt dlX5_uneven_0 7 rfl
theorem dX5_uneven_15 : decode cX5_uneven 15 = .ok (.invokevirtual 99, 3) := dAt dlX5_uneven_0 8 rfl
theorem dX5_uneven_18 : decode cX5_uneven 18 = .ok (.ifCond .eq 10, 3) := dAt dlX5_uneven_0 9 rfl
theorem dX5_uneven_21 : decode cX5_uneven 21 = .ok (.iload_n 3, 1) := dAt dlX5_uneven_0 10 rfl
theorem dX5_uneven_22 : decode cX5_uneven 22 = .ok (.invokestatic 155, 3) := dAt dlX5_uneven_0 11 rfl
theorem dX5_uneven_25 : decode cX5_uneven 25 = .ok (.ifCond .ne 7, 3) := dAt dlX5_uneven_0 12 rfl
theorem dX5_uneven_28 : decode cX5_uneven 28 = .ok (.ldc2_w 158, 3) := dAt dlX5_uneven_0 13 rfl
theorem dX5_uneven_31 : decode cX5_uneven 31 = .ok (.lreturn, 1) := dAt dlX5_uneven_0 14 rfl
theorem dX5_uneven_32 : decode cX5_uneven 32 = .ok (.aload 4, 2) := dAt dlX5_uneven_0 15 rfl
theorem dX5_uneven_34 : decode cX5_uneven 34 = .ok (.invokevirtual 93, 3) := dAt dlX5_uneven_0 16 rfl
theorem dX5_uneven_37 : decode cX5_uneven 37 = .ok (.istore 5, 2) := dAt dlX5_uneven_0 17 rfl
theorem dX5_uneven_39 : decode cX5_uneven 39 = .ok (.iload 5, 2) := dAt dlX5_uneven_0 18 rfl
theorem dX5_uneven_41 : decode cX5_uneven 41 = .ok (.iconst (-1), 1) := dAt dlX5_uneven_0 19 rfl
theorem dX5_uneven_42 : decode cX5_uneven 42 = .ok (.if_icmp .ne 7, 3) := dAt dlX5_uneven_0 20 rfl
theorem dX5_uneven_45 : decode cX5_uneven 45 = .ok (.ldc2_w 168, 3) := dAt dlX5_uneven_0 21 rfl
theorem dX5_uneven_48 : decode cX5_uneven 48 = .ok (.lreturn, 1) := dAt dlX5_uneven_0 22 rfl
theorem dX5_uneven_49 : decode cX5_uneven 49 = .ok (.aload_n 0, 1) := dAt dlX5_uneven_0 23 rfl
theorem dX5_uneven_50 : decode cX5_uneven 50 = .ok (.getfield 37, 3) := dAt dlX5_uneven_0 24 rfl
theorem dX5_uneven_53 : decode cX5_uneven 53 = .ok (.aload 4, 2) := dAt dlX5_uneven_0 25 rfl
theorem dX5_uneven_55 : decode cX5_uneven 55 = .ok (.iload_n 2, 1) := dAt dlX5_uneven_0 26 rfl
theorem dX5_uneven_56 : decode cX5_uneven 56 = .ok (.iload_n 3, 1) := dAt dlX5_uneven_0 27 rfl
theorem dX5_uneven_57 : decode cX5_uneven 57 = .ok (.invokevirtual 160, 3) := dAt dlX5_uneven_0 28 rfl
theorem dX5_uneven_60 : decode cX5_uneven 60 = .ok (.aload_n 0, 1) := dAt dlX5_uneven_0 29 rfl
theorem dX5_uneven_61 : decode cX5_uneven 61 = .ok (.getfield 37, 3) := dAt dlX5_uneven_0 30 rfl
theorem dX5_uneven_64 : decode cX5_uneven 64 = .ok (.aload 4, 2) := dAt dlX5_uneven_0 31 rfl
theorem dX5_uneven_66 : decode cX5_uneven 66 = .ok (.getfield 78, 3) := dAt dlX5_uneven_0 32 rfl
theorem dX5_uneven_69 : decode cX5_uneven 69 = .ok (.iload 5, 2) := dAt dlX5_uneven_0 33 rfl
theorem dX5_uneven_71 : decode cX5_uneven 71 = .ok (.iload_n 3, 1) := dAt dlX5_uneven_0 34 rfl
theorem dX5_uneven_72 : decode cX5_uneven 72 = .ok (.invokestatic 170, 3) := dAt dlX5_uneven_0 35 rfl
theorem dX5_uneven_75 : decode cX5_uneven 75 = .ok (.invokevirtual 174, 3) := dAt dlX5_uneven_0 36 rfl
theorem dX5_uneven_78 : decode cX5_uneven 78 = .ok (.lreturn, 1) := dAt dlX5_uneven_0 37 rfl
def ilX5_apart_0 : List (Nat × Instr × Nat) := [(0, .aload_n 0, 1), (1, .iload_n 1, 1), (2, .invokevirtual 48, 3), (5, .astore 4, 2), (7, .aload 4, 2), (9, .ifnull 21, 3), (12, .aload 4, 2), (14, .iload_n 2, 1), (15, .invokevirtual 178, 3), (18, .ifCond .eq 12, 3), (21, .aload 4, 2), (23, .iload_n 3, 1), (24, .invokevirtual 178, 3), (27, .ifCond .ne 6, 3), (30, .bipush (-2), 2), (32, .ireturn, 1), (33, .aload_n 0, 1), (34, .getfield 44, 3), (37, .aload 4, 2), (39, .iload_n 2, 1), (40, .iload_n 3, 1), (41, .invokevirtual 181, 3), (44, .ireturn, 1)]
theorem dlX5_apart_0 : dOK cX5_apart ilX5_apart_0 = true := by decide +kernel
theorem dX5_apart_0 : decode cX5_apart 0 = .ok (.aload_n 0, 1) := dAt dlX5_apart_0 0 rfl
theorem dX5_apart_1 : decode cX5_apart 1 = .ok (.iload_n 1, 1) := dAt dlX5_apart_0 1 rfl
theorem dX5_apart_2 : decode cX5_apart 2 = .ok (.invokevirtual 48, 3) := dAt dlX5_apart_0 2 rfl
theorem dX5_apart_5 : decode cX5_apart 5 = .ok (.astore 4, 2) := dAt dlX5_apart_0 3 rfl
theorem dX5_apart_7 : decode cX5_apart 7 = .ok (.aload 4, 2) := dAt dlX5_apart_0 4 rfl
theorem dX5_apart_9 : decode cX5_apart 9 = .ok (.ifnull 21, 3) := dAt dlX5_apart_0 5 rfl
theorem dX5_apart_12 : decode cX5_apart 12 = .ok (.aload 4, 2) := dAt dlX5_apart_0 6 rfl
theorem dX5_apart_14 : decode cX5_apart 14 = .ok (.iload_n 2, 1) := dAt dlX5_apart_0 7 rfl
theorem dX5_apart_15 : decode cX5_apart 15 = .ok (.invokevirtual 178, 3) := dAt dlX5_apart_0 8 rfl
theorem dX5_apart_18 : decode cX5_apart 18 = .ok (.ifCond .eq 12, 3) := dAt dlX5_apart_0 9 rfl
theorem dX5_apart_21 : decode cX5_apart 21 = .ok (.aload 4, 2) := dAt dlX5_apart_0 10 rfl
theorem dX5_apart_23 : decode cX5_apart 23 = .ok (.iload_n 3, 1) := dAt dlX5_apart_0 11 rfl
theorem dX5_apart_24 : decode cX5_apart 24 = .ok (.invokevirtual 178, 3) := dAt dlX5_apart_0 12 rfl
theorem dX5_apart_27 : decode cX5_apart 27 = .ok (.ifCond .ne 6, 3) := dAt dlX5_apart_0 13 rfl
theorem dX5_apart_30 : decode cX5_apart 30 = .ok (.bipush (-2), 2) := dAt dlX5_apart_0 14 rfl
theorem dX5_apart_32 : decode cX5_apart 32 = .ok (.ireturn, 1) := dAt dlX5_apart_0 15 rfl
theorem dX5_apart_33 : decode cX5_apart 33 = .ok (.aload_n 0, 1) := dAt dlX5_apart_0 16 rfl
theorem dX5_apart_34 : decode cX5_apart 34 = .ok (.getfield 44, 3) := dAt dlX5_apart_0 17 rfl
theorem dX5_apart_37 : decode cX5_apart 37 = .ok (.aload 4, 2) := dAt dlX5_apart_0 18 rfl
theorem dX5_apart_39 : decode cX5_apart 39 = .ok (.iload_n 2, 1) := dAt dlX5_apart_0 19 rfl
theorem dX5_apart_40 : decode cX5_apart 40 = .ok (.iload_n 3, 1) := dAt dlX5_apart_0 20 rfl
theorem dX5_apart_41 : decode cX5_apart 41 = .ok (.invokevirtual 181, 3) := dAt dlX5_apart_0 21 rfl
theorem dX5_apart_44 : decode cX5_apart 44 = .ok (.ireturn, 1) := dAt dlX5_apart_0 22 rfl
def ilX5_distance_0 : List (Nat × Instr × Nat) := [(0, .aload_n 0, 1), (1, .iload_n 1, 1), (2, .invokevirtual 48, 3), (5, .astore 4, 2), (7, .aload 4, 2), (9, .ifnull 13, 3), (12, .aload 4, 2), (14, .iload_n 2, 1), (15, .iload_n 3, 1), (16, .invokevirtual 152, 3), (19, .ifCond .ne 6, 3), (22, .bipush (-2), 2), (24, .ireturn, 1), (25, .aload 4, 2), (27, .iload_n 2, 1), (28, .iload_n 3, 1), (29, .iconst 1, 1), (30, .invokevirtual 185, 3), (33, .ireturn, 1)]
theorem dlX5_distance_0 : dOK cX5_distance ilX5_distance_0 = true := by decide +kernel
theorem dX5_distance_0 : decode cX5_distance 0 = .ok (.aload_n 0, 1) := dAt dlX5_distance_0 0 rfl
theorem dX5_distance_1 : decode cX5_distance 1 = .ok (.iload_n 1, 1) := dAt dlX5_distance_0 1 rfl
theorem dX5_distance_2 : decode cX5_distance 2 = .ok (.invokevirtual 48, 3) := dAt dlX5_distance_0 2 rfl
theorem dX5_distance_5 : decode cX5_distance 5 = .ok (.astore 4, 2) := dAt dlX5_distance_0 3 rfl
theorem dX5_distance_7 : decode cX5_distance 7 = .ok (.aload 4, 2) := dAt dlX5_distance_0 4 rfl
theorem dX5_distance_9 : decode cX5_distance 9 = .ok (.ifnull 13, 3) := dAt dlX5_distance_0 5 rfl
theorem dX5_distance_12 : decode cX5_distance 12 = .ok (.aload 4, 2) := dAt dlX5_distance_0 6 rfl
theorem dX5_distance_14 : decode cX5_distance 14 = .ok (.iload_n 2, 1) := dAt dlX5_distance_0 7 rfl
theorem dX5_distance_15 : decode cX5_distance 15 = .ok (.iload_n 3, 1) := dAt dlX5_distance_0 8 rfl
theorem dX5_distance_16 : decode cX5_distance 16 = .ok (.invokevirtual 152, 3) := dAt dlX5_distance_0 9 rfl
theorem dX5_distance_19 : decode cX5_distance 19 = .ok (.ifCond .ne 6, 3) := dAt dlX5_distance_0 10 rfl
theorem dX5_distance_22 : decode cX5_distance 22 = .ok (.bipush (-2), 2) := dAt dlX5_distance_0 11 rfl
theorem dX5_distance_24 : decode cX5_distance 24 = .ok (.ireturn, 1) := dAt dlX5_distance_0 12 rfl
theorem dX5_distance_25 : decode cX5_distance 25 = .ok (.aload 4, 2) := dAt dlX5_distance_0 13 rfl
theorem dX5_distance_27 : decode cX5_distance 27 = .ok (.iload_n 2, 1) := dAt dlX5_distance_0 14 rfl
theorem dX5_distance_28 : decode cX5_distance 28 = .ok (.iload_n 3, 1) := dAt dlX5_distance_0 15 rfl
theorem dX5_distance_29 : decode cX5_distance 29 = .ok (.iconst 1, 1) := dAt dlX5_distance_0 16 rfl
theorem dX5_distance_30 : decode cX5_distance 30 = .ok (.invokevirtual 185, 3) := dAt dlX5_distance_0 17 rfl
theorem dX5_distance_33 : decode cX5_distance 33 = .ok (.ireturn, 1) := dAt dlX5_distance_0 18 rfl
def ilX5_round_0 : List (Nat × Instr × Nat) := [(0, .aload_n 0, 1), (1, .iload_n 1, 1), (2, .invokevirtual 48, 3), (5, .astore_n 2, 1), (6, .aload_n 2, 1), (7, .ifnonnull 6, 3), (10, .bipush (-2), 2), (12, .ireturn, 1), (13, .aload_n 2, 1), (14, .invokevirtual 189, 3), (17, .ireturn, 1)]
theorem dlX5_round_0 : dOK cX5_round ilX5_round_0 = true := by decide +kernel
theorem dX5_round_0 : decode cX5_round 0 = .ok (.aload_n 0, 1) := dAt dlX5_round_0 0 rfl
theorem dX5_round_1 : decode cX5_round 1 = .ok (.iload_n 1, 1) := dAt dlX5_round_0 1 rfl
theorem dX5_round_2 : decode cX5_round 2 = .ok (.invokevirtual 48, 3) := dAt dlX5_round_0 2 rfl
theorem dX5_round_5 : decode cX5_round 5 = .ok (.astore_n 2, 1) := dAt dlX5_round_0 3 rfl
theorem dX5_round_6 : decode cX5_round 6 = .ok (.aload_n 2, 1) := dAt dlX5_round_0 4 rfl
theorem dX5_round_7 : decode cX5_round 7 = .ok (.ifnonnull 6, 3) := dAt dlX5_round_0 5 rfl
theorem dX5_round_10 : decode cX5_round 10 = .ok (.bipush (-2), 2) := dAt dlX5_round_0 6 rfl
theorem dX5_round_12 : decode cX5_round 12 = .ok (.ireturn, 1) := dAt dlX5_round_0 7 rfl
theorem dX5_round_13 : decode cX5_round 13 = .ok (.aload_n 2, 1) := dAt dlX5_round_0 8 rfl
theorem dX5_round_14 : decode cX5_round 14 = .ok (.invokevirtual 189, 3) := dAt dlX5_round_0 9 rfl
theorem dX5_round_17 : decode cX5_round 17 = .ok (.ireturn, 1) := dAt dlX5_round_0 10 rfl
def ilX5_odd_0 : List (Nat × Instr × Nat) := [(0, .aload_n 0, 1), (1, .iload_n 1, 1), (2, .invokevirtual 48, 3), (5, .astore 4, 2), (7, .aload 4, 2), (9, .ifnull 12, 3), (12, .aload 4, 2), (14, .lload_n 2, 1), (15, .invokevirtual 192, 3), (18, .ifCond .ne 6, 3), (21, .bipush (-2), 2), (23, .ireturn, 1), (24, .aload 4, 2), (26, .lload_n 2, 1), (27, .invokevirtual 196, 3), (30, .invokestatic 200, 3), (33, .ireturn, 1)]
theorem dlX5_odd_0 : dOK cX5_odd ilX5_odd_0 = true := by decide +kernel
theorem dX5_odd_0 : decode cX5_odd 0 = .ok (.aload_n 0, 1) := dAt dlX5_odd_0 0 rfl
theorem dX5_odd_1 : decode cX5_odd 1 = .ok (.iload_n 1, 1) := dAt dlX5_odd_0 1 rfl
theorem dX5_odd_2 : decode cX5_odd 2 = .ok (.invokevirtual 48, 3) := dAt dlX5_odd_0 2 rfl
theorem dX5_odd_5 : decode cX5_odd 5 = .ok (.astore 4, 2) := dAt dlX5_odd_0 3 rfl
theorem dX5_odd_7 : decode cX5_odd 7 = .ok (.aload 4, 2) := dAt dlX5_odd_0 4 rfl
theorem dX5_odd_9 : decode cX5_odd 9 = .ok (.ifnull 12, 3) := dAt dlX5_odd_0 5 rfl
theorem dX5_odd_12 : decode cX5_odd 12 = .ok (.aload 4, 2) := dAt dlX5_odd_0 6 rfl
theorem dX5_odd_14 : decode cX5_odd 14 = .ok (.lload_n 2, 1) := dAt dlX5_odd_0 7 rfl
theorem dX5_odd_15 : decode cX5_odd 15 = .ok (.invokevirtual 192, 3) := dAt dlX5_odd_0 8 rfl
theorem dX5_odd_18 : decode cX5_odd 18 = .ok (.ifCond .ne 6, 3) := dAt dlX5_odd_0 9 rfl
theorem dX5_odd_21 : decode cX5_odd 21 = .ok (.bipush (-2), 2) := dAt dlX5_odd_0 10 rfl
theorem dX5_odd_23 : decode cX5_odd 23 = .ok (.ireturn, 1) := dAt dlX5_odd_0 11 rfl
theorem dX5_odd_24 : decode cX5_odd 24 = .ok (.aload 4, 2) := dAt dlX5_odd_0 12 rfl
theorem dX5_odd_26 : decode cX5_odd 26 = .ok (.lload_n 2, 1) := dAt dlX5_odd_0 13 rfl
theorem dX5_odd_27 : decode cX5_odd 27 = .ok (.invokevirtual 196, 3) := dAt dlX5_odd_0 14 rfl
theorem dX5_odd_30 : decode cX5_odd 30 = .ok (.invokestatic 200, 3) := dAt dlX5_odd_0 15 rfl
theorem dX5_odd_33 : decode cX5_odd 33 = .ok (.ireturn, 1) := dAt dlX5_odd_0 16 rfl
def ilX5_flipped_0 : List (Nat × Instr × Nat) := [(0, .aload_n 0, 1), (1, .iload_n 1, 1), (2, .invokevirtual 48, 3), (5, .astore 4, 2), (7, .aload 4, 2), (9, .ifnull 12, 3), (12, .aload 4, 2), (14, .lload_n 2, 1), (15, .invokevirtual 192, 3), (18, .ifCond .ne 7, 3), (21, .ldc2_w 158, 3), (24, .lreturn, 1), (25, .aload 4, 2), (27, .lload_n 2, 1), (28, .invokevirtual 205, 3), (31, .lreturn, 1)]
theorem dlX5_flipped_0 : dOK cX5_flipped ilX5_flipped_0 = true := by decide +kernel
theorem dX5_flipped_0 : decode cX5_flipped 0 = .ok (.aload_n 0, 1) := dAt dlX5_flipped_0 0 rfl
theorem dX5_flipped_1 : decode cX5_flipped 1 = .ok (.iload_n 1, 1) := dAt dlX5_flipped_0 1 rfl
theorem dX5_flipped_2 : decode cX5_flipped 2 = .ok (.invokevirtual 48, 3) := dAt dlX5_flipped_0 2 rfl
theorem dX5_flipped_5 : decode cX5_flipped 5 = .ok (.astore 4, 2) := dAt dlX5_flipped_0 3 rfl
theorem dX5_flipped_7 : decode cX5_flipped 7 = .ok (.aload 4, 2) := dAt dlX5_flipped_0 4 rfl
theorem dX5_flipped_9 : decode cX5_flipped 9 = .ok (.ifnull 12, 3) := dAt dlX5_flipped_0 5 rfl
theorem dX5_flipped_12 : decode cX5_flipped 12 = .ok (.aload 4, 2) := dAt dlX5_flipped_0 6 rfl
theorem dX5_flipped_14 : decode cX5_flipped 14 = .ok (.lload_n 2, 1) := dAt dlX5_flipped_0 7 rfl
theorem dX5_flipped_15 : decode cX5_flipped 15 = .ok (.invokevirtual 192, 3) := dAt dlX5_flipped_0 8 rfl
theorem dX5_flipped_18 : decode cX5_flipped 18 = .ok (.ifCond .ne 7, 3) := dAt dlX5_flipped_0 9 rfl
theorem dX5_flipped_21 : decode cX5_flipped 21 = .ok (.ldc2_w 158, 3) := dAt dlX5_flipped_0 10 rfl
theorem dX5_flipped_24 : decode cX5_flipped 24 = .ok (.lreturn, 1) := dAt dlX5_flipped_0 11 rfl
theorem dX5_flipped_25 : decode cX5_flipped 25 = .ok (.aload 4, 2) := dAt dlX5_flipped_0 12 rfl
theorem dX5_flipped_27 : decode cX5_flipped 27 = .ok (.lload_n 2, 1) := dAt dlX5_flipped_0 13 rfl
theorem dX5_flipped_28 : decode cX5_flipped 28 = .ok (.invokevirtual 205, 3) := dAt dlX5_flipped_0 14 rfl
theorem dX5_flipped_31 : decode cX5_flipped 31 = .ok (.lreturn, 1) := dAt dlX5_flipped_0 15 rfl
def ilX5_digest_0 : List (Nat × Instr × Nat) := [(0, .ldc2_w 209, 3), (3, .lstore_n 1, 1), (4, .iconst 0, 1), (5, .istore_n 3, 1), (6, .iload_n 3, 1), (7, .iconst 4, 1), (8, .if_icmp .ge 20, 3), (11, .aload_n 0, 1), (12, .getfield 11, 3), (15, .iload_n 3, 1), (16, .aaload, 1), (17, .lload_n 1, 1), (18, .invokevirtual 211, 3), (21, .lstore_n 1, 1), (22, .iinc 3 1, 3), (25, .goto (-19), 3), (28, .lload_n 1, 1), (29, .lreturn, 1)]
theorem dlX5_digest_0 : dOK cX5_digest ilX5_digest_0 = true := by decide +kernel
theorem dX5_digest_0 : decode cX5_digest 0 = .ok (.ldc2_w 209, 3) := dAt dlX5_digest_0 0 rfl
theorem dX5_digest_3 : decode cX5_digest 3 = .ok (.lstore_n 1, 1) := dAt dlX5_digest_0 1 rfl
theorem dX5_digest_4 : decode cX5_digest 4 = .ok (.iconst 0, 1) := dAt dlX5_digest_0 2 rfl
theorem dX5_digest_5 : decode cX5_digest 5 = .ok (.istore_n 3, 1) := dAt dlX5_digest_0 3 rfl
theorem dX5_digest_6 : decode cX5_digest 6 = .ok (.iload_n 3, 1) := dAt dlX5_digest_0 4 rfl
theorem dX5_digest_7 : decode cX5_digest 7 = .ok (.iconst 4, 1) := dAt dlX5_digest_0 5 rfl
theorem dX5_digest_8 : decode cX5_digest 8 = .ok (.if_icmp .ge 20, 3) := dAt dlX5_digest_0 6 rfl
theorem dX5_digest_11 : decode cX5_digest 11 = .ok (.aload_n 0, 1) := dAt dlX5_digest_0 7 rfl
theorem dX5_digest_12 : decode cX5_digest 12 = .ok (.getfield 11, 3) := dAt dlX5_digest_0 8 rfl
theorem dX5_digest_15 : decode cX5_digest 15 = .ok (.iload_n 3, 1) := dAt dlX5_digest_0 9 rfl
theorem dX5_digest_16 : decode cX5_digest 16 = .ok (.aaload, 1) := dAt dlX5_digest_0 10 rfl
theorem dX5_digest_17 : decode cX5_digest 17 = .ok (.lload_n 1, 1) := dAt dlX5_digest_0 11 rfl
theorem dX5_digest_18 : decode cX5_digest 18 = .ok (.invokevirtual 211, 3) := dAt dlX5_digest_0 12 rfl
theorem dX5_digest_21 : decode cX5_digest 21 = .ok (.lstore_n 1, 1) := dAt dlX5_digest_0 13 rfl
theorem dX5_digest_22 : decode cX5_digest 22 = .ok (.iinc 3 1, 3) := dAt dlX5_digest_0 14 rfl
theorem dX5_digest_25 : decode cX5_digest 25 = .ok (.goto (-19), 3) := dAt dlX5_digest_0 15 rfl
theorem dX5_digest_28 : decode cX5_digest 28 = .ok (.lload_n 1, 1) := dAt dlX5_digest_0 16 rfl
theorem dX5_digest_29 : decode cX5_digest 29 = .ok (.lreturn, 1) := dAt dlX5_digest_0 17 rfl
def ilX5_netAt_0 : List (Nat × Instr × Nat) := [(0, .iload_n 1, 1), (1, .ifCond .lt 17, 3), (4, .iload_n 1, 1), (5, .iconst 4, 1), (6, .if_icmp .ge 12, 3), (9, .aload_n 0, 1), (10, .getfield 11, 3), (13, .iload_n 1, 1), (14, .aaload, 1), (15, .goto 4, 3), (18, .aconst_null, 1), (19, .areturn, 1)]
theorem dlX5_netAt_0 : dOK cX5_netAt ilX5_netAt_0 = true := by decide +kernel
theorem dX5_netAt_0 : decode cX5_netAt 0 = .ok (.iload_n 1, 1) := dAt dlX5_netAt_0 0 rfl
theorem dX5_netAt_1 : decode cX5_netAt 1 = .ok (.ifCond .lt 17, 3) := dAt dlX5_netAt_0 1 rfl
theorem dX5_netAt_4 : decode cX5_netAt 4 = .ok (.iload_n 1, 1) := dAt dlX5_netAt_0 2 rfl
theorem dX5_netAt_5 : decode cX5_netAt 5 = .ok (.iconst 4, 1) := dAt dlX5_netAt_0 3 rfl
theorem dX5_netAt_6 : decode cX5_netAt 6 = .ok (.if_icmp .ge 12, 3) := dAt dlX5_netAt_0 4 rfl
theorem dX5_netAt_9 : decode cX5_netAt 9 = .ok (.aload_n 0, 1) := dAt dlX5_netAt_0 5 rfl
theorem dX5_netAt_10 : decode cX5_netAt 10 = .ok (.getfield 11, 3) := dAt dlX5_netAt_0 6 rfl
theorem dX5_netAt_13 : decode cX5_netAt 13 = .ok (.iload_n 1, 1) := dAt dlX5_netAt_0 7 rfl
theorem dX5_netAt_14 : decode cX5_netAt 14 = .ok (.aaload, 1) := dAt dlX5_netAt_0 8 rfl
theorem dX5_netAt_15 : decode cX5_netAt 15 = .ok (.goto 4, 3) := dAt dlX5_netAt_0 9 rfl
theorem dX5_netAt_18 : decode cX5_netAt 18 = .ok (.aconst_null, 1) := dAt dlX5_netAt_0 10 rfl
theorem dX5_netAt_19 : decode cX5_netAt 19 = .ok (.areturn, 1) := dAt dlX5_netAt_0 11 rfl
def ilX5_isKnotCount_0 : List (Nat × Instr × Nat) := [(0, .iload_n 0, 1), (1, .iconst 1, 1), (2, .if_icmp .lt 13, 3), (5, .iload_n 0, 1), (6, .bipush 10, 2), (8, .if_icmp .gt 7, 3), (11, .iconst 1, 1), (12, .goto 4, 3), (15, .iconst 0, 1), (16, .ireturn, 1)]
theorem dlX5_isKnotCount_0 : dOK cX5_isKnotCount ilX5_isKnotCount_0 = true := by decide +kernel
theorem dX5_isKnotCount_0 : decode cX5_isKnotCount 0 = .ok (.iload_n 0, 1) := dAt dlX5_isKnotCount_0 0 rfl
theorem dX5_isKnotCount_1 : decode cX5_isKnotCount 1 = .ok (.iconst 1, 1) := dAt dlX5_isKnotCount_0 1 rfl
theorem dX5_isKnotCount_2 : decode cX5_isKnotCount 2 = .ok (.if_icmp .lt 13, 3) := dAt dlX5_isKnotCount_0 2 rfl
theorem dX5_isKnotCount_5 : decode cX5_isKnotCount 5 = .ok (.iload_n 0, 1) := dAt dlX5_isKnotCount_0 3 rfl
theorem dX5_isKnotCount_6 : decode cX5_isKnotCount 6 = .ok (.bipush 10, 2) := dAt dlX5_isKnotCount_0 4 rfl
theorem dX5_isKnotCount_8 : decode cX5_isKnotCount 8 = .ok (.if_icmp .gt 7, 3) := dAt dlX5_isKnotCount_0 5 rfl
theorem dX5_isKnotCount_11 : decode cX5_isKnotCount 11 = .ok (.iconst 1, 1) := dAt dlX5_isKnotCount_0 6 rfl
theorem dX5_isKnotCount_12 : decode cX5_isKnotCount 12 = .ok (.goto 4, 3) := dAt dlX5_isKnotCount_0 7 rfl
theorem dX5_isKnotCount_15 : decode cX5_isKnotCount 15 = .ok (.iconst 0, 1) := dAt dlX5_isKnotCount_0 8 rfl
theorem dX5_isKnotCount_16 : decode cX5_isKnotCount 16 = .ok (.ireturn, 1) := dAt dlX5_isKnotCount_0 9 rfl
def ilX5_isHalves_0 : List (Nat × Instr × Nat) := [(0, .iload_n 0, 1), (1, .bipush (-40), 2), (3, .if_icmp .lt 13, 3), (6, .iload_n 0, 1), (7, .bipush 40, 2), (9, .if_icmp .gt 7, 3), (12, .iconst 1, 1), (13, .goto 4, 3), (16, .iconst 0, 1), (17, .ireturn, 1)]
theorem dlX5_isHalves_0 : dOK cX5_isHalves ilX5_isHalves_0 = true := by decide +kernel
theorem dX5_isHalves_0 : decode cX5_isHalves 0 = .ok (.iload_n 0, 1) := dAt dlX5_isHalves_0 0 rfl
theorem dX5_isHalves_1 : decode cX5_isHalves 1 = .ok (.bipush (-40), 2) := dAt dlX5_isHalves_0 1 rfl
theorem dX5_isHalves_3 : decode cX5_isHalves 3 = .ok (.if_icmp .lt 13, 3) := dAt dlX5_isHalves_0 2 rfl
theorem dX5_isHalves_6 : decode cX5_isHalves 6 = .ok (.iload_n 0, 1) := dAt dlX5_isHalves_0 3 rfl
theorem dX5_isHalves_7 : decode cX5_isHalves 7 = .ok (.bipush 40, 2) := dAt dlX5_isHalves_0 4 rfl
theorem dX5_isHalves_9 : decode cX5_isHalves 9 = .ok (.if_icmp .gt 7, 3) := dAt dlX5_isHalves_0 5 rfl
theorem dX5_isHalves_12 : decode cX5_isHalves 12 = .ok (.iconst 1, 1) := dAt dlX5_isHalves_0 6 rfl
theorem dX5_isHalves_13 : decode cX5_isHalves 13 = .ok (.goto 4, 3) := dAt dlX5_isHalves_0 7 rfl
theorem dX5_isHalves_16 : decode cX5_isHalves 16 = .ok (.iconst 0, 1) := dAt dlX5_isHalves_0 8 rfl
theorem dX5_isHalves_17 : decode cX5_isHalves 17 = .ok (.ireturn, 1) := dAt dlX5_isHalves_0 9 rfl
def ilX5_isStepCount_0 : List (Nat × Instr × Nat) := [(0, .iload_n 0, 1), (1, .ifCond .lt 13, 3), (4, .iload_n 0, 1), (5, .bipush 12, 2), (7, .if_icmp .gt 7, 3), (10, .iconst 1, 1), (11, .goto 4, 3), (14, .iconst 0, 1), (15, .ireturn, 1)]
theorem dlX5_isStepCount_0 : dOK cX5_isStepCount ilX5_isStepCount_0 = true := by decide +kernel
theorem dX5_isStepCount_0 : decode cX5_isStepCount 0 = .ok (.iload_n 0, 1) := dAt dlX5_isStepCount_0 0 rfl
theorem dX5_isStepCount_1 : decode cX5_isStepCount 1 = .ok (.ifCond .lt 13, 3) := dAt dlX5_isStepCount_0 1 rfl
theorem dX5_isStepCount_4 : decode cX5_isStepCount 4 = .ok (.iload_n 0, 1) := dAt dlX5_isStepCount_0 2 rfl
theorem dX5_isStepCount_5 : decode cX5_isStepCount 5 = .ok (.bipush 12, 2) := dAt dlX5_isStepCount_0 3 rfl
theorem dX5_isStepCount_7 : decode cX5_isStepCount 7 = .ok (.if_icmp .gt 7, 3) := dAt dlX5_isStepCount_0 4 rfl
theorem dX5_isStepCount_10 : decode cX5_isStepCount 10 = .ok (.iconst 1, 1) := dAt dlX5_isStepCount_0 5 rfl
theorem dX5_isStepCount_11 : decode cX5_isStepCount 11 = .ok (.goto 4, 3) := dAt dlX5_isStepCount_0 6 rfl
theorem dX5_isStepCount_14 : decode cX5_isStepCount 14 = .ok (.iconst 0, 1) := dAt dlX5_isStepCount_0 7 rfl
theorem dX5_isStepCount_15 : decode cX5_isStepCount 15 = .ok (.ireturn, 1) := dAt dlX5_isStepCount_0 8 rfl
def ilX5_power_0 : List (Nat × Instr × Nat) := [(0, .lconst 1, 1), (1, .lstore_n 2, 1), (2, .iconst 0, 1), (3, .istore 4, 2), (5, .iload 4, 2), (7, .iload_n 1, 1), (8, .if_icmp .ge 14, 3), (11, .lload_n 2, 1), (12, .iload_n 0, 1), (13, .i2l, 1), (14, .lmul, 1), (15, .lstore_n 2, 1), (16, .iinc 4 1, 3), (19, .goto (-14), 3), (22, .lload_n 2, 1), (23, .lreturn, 1)]
theorem dlX5_power_0 : dOK cX5_power ilX5_power_0 = true := by decide +kernel
theorem dX5_power_0 : decode cX5_power 0 = .ok (.lconst 1, 1) := dAt dlX5_power_0 0 rfl
theorem dX5_power_1 : decode cX5_power 1 = .ok (.lstore_n 2, 1) := dAt dlX5_power_0 1 rfl
theorem dX5_power_2 : decode cX5_power 2 = .ok (.iconst 0, 1) := dAt dlX5_power_0 2 rfl
theorem dX5_power_3 : decode cX5_power 3 = .ok (.istore 4, 2) := dAt dlX5_power_0 3 rfl
theorem dX5_power_5 : decode cX5_power 5 = .ok (.iload 4, 2) := dAt dlX5_power_0 4 rfl
theorem dX5_power_7 : decode cX5_power 7 = .ok (.iload_n 1, 1) := dAt dlX5_power_0 5 rfl
theorem dX5_power_8 : decode cX5_power 8 = .ok (.if_icmp .ge 14, 3) := dAt dlX5_power_0 6 rfl
theorem dX5_power_11 : decode cX5_power 11 = .ok (.lload_n 2, 1) := dAt dlX5_power_0 7 rfl
theorem dX5_power_12 : decode cX5_power 12 = .ok (.iload_n 0, 1) := dAt dlX5_power_0 8 rfl
theorem dX5_power_13 : decode cX5_power 13 = .ok (.i2l, 1) := dAt dlX5_power_0 9 rfl
theorem dX5_power_14 : decode cX5_power 14 = .ok (.lmul, 1) := dAt dlX5_power_0 10 rfl
theorem dX5_power_15 : decode cX5_power 15 = .ok (.lstore_n 2, 1) := dAt dlX5_power_0 11 rfl
theorem dX5_power_16 : decode cX5_power 16 = .ok (.iinc 4 1, 3) := dAt dlX5_power_0 12 rfl
theorem dX5_power_19 : decode cX5_power 19 = .ok (.goto (-14), 3) := dAt dlX5_power_0 13 rfl
theorem dX5_power_22 : decode cX5_power 22 = .ok (.lload_n 2, 1) := dAt dlX5_power_0 14 rfl
theorem dX5_power_23 : decode cX5_power 23 = .ok (.lreturn, 1) := dAt dlX5_power_0 15 rfl
def ilX5_leastSigning_0 : List (Nat × Instr × Nat) := [(0, .aload_n 0, 1), (1, .aload_n 1, 1), (2, .invokevirtual 214, 3), (5, .istore_n 2, 1), (6, .iconst 1, 1), (7, .aload_n 1, 1), (8, .invokevirtual 74, 3), (11, .ishl, 1), (12, .istore_n 3, 1), (13, .iconst 0, 1), (14, .istore 4, 2), (16, .bipush 19, 2), (18, .istore 5, 2), (20, .iconst 0, 1), (21, .istore 6, 2), (23, .iload 6, 2), (25, .iload_n 3, 1), (26, .if_icmp .ge 53, 3), (29, .iload 6, 2), (31, .iload_n 2, 1), (32, .iand, 1), (33, .ifCond .eq 6, 3), (36, .goto 37, 3), (39, .aload_n 0, 1), (40, .getfield 30, 3), (43, .aload_n 1, 1), (44, .iload 6, 2), (46, .invokevirtual 134, 3), (49, .aload_n 0, 1), (50, .getfield 30, 3), (53, .invokevirtual 145, 3), (56, .istore 7, 2), (58, .iload 7, 2), (60, .iload 5, 2), (62, .if_icmp .ge 11, 3), (65, .iload 7, 2), (67, .istore 5, 2), (69, .iload 6, 2), (71, .istore 4, 2), (73, .iinc 6 1, 3), (76, .goto (-53), 3), (79, .iload 4, 2), (81, .ireturn, 1)]
theorem dlX5_leastSigning_0 : dOK cX5_leastSigning ilX5_leastSigning_0 = true := by decide +kernel
theorem dX5_leastSigning_0 : decode cX5_leastSigning 0 = .ok (.aload_n 0, 1) := dAt dlX5_leastSigning_0 0 rfl
theorem dX5_leastSigning_1 : decode cX5_leastSigning 1 = .ok (.aload_n 1, 1) := dAt dlX5_leastSigning_0 1 rfl
theorem dX5_leastSigning_2 : decode cX5_leastSigning 2 = .ok (.invokevirtual 214, 3) := dAt dlX5_leastSigning_0 2 rfl
theorem dX5_leastSigning_5 : decode cX5_leastSigning 5 = .ok (.istore_n 2, 1) := dAt dlX5_leastSigning_0 3 rfl
theorem dX5_leastSigning_6 : decode cX5_leastSigning 6 = .ok (.iconst 1, 1) := dAt dlX5_leastSigning_0 4 rfl
theorem dX5_leastSigning_7 : decode cX5_leastSigning 7 = .ok (.aload_n 1, 1) := dAt dlX5_leastSigning_0 5 rfl
theorem dX5_leastSigning_8 : decode cX5_leastSigning 8 = .ok (.invokevirtual 74, 3) := dAt dlX5_leastSigning_0 6 rfl
theorem dX5_leastSigning_11 : decode cX5_leastSigning 11 = .ok (.ishl, 1) := dAt dlX5_leastSigning_0 7 rfl
theorem dX5_leastSigning_12 : decode cX5_leastSigning 12 = .ok (.istore_n 3, 1) := dAt dlX5_leastSigning_0 8 rfl
theorem dX5_leastSigning_13 : decode cX5_leastSigning 13 = .ok (.iconst 0, 1) := dAt dlX5_leastSigning_0 9 rfl
theorem dX5_leastSigning_14 : decode cX5_leastSigning 14 = .ok (.istore 4, 2) := dAt dlX5_leastSigning_0 10 rfl
theorem dX5_leastSigning_16 : decode cX5_leastSigning 16 = .ok (.bipush 19, 2) := dAt dlX5_leastSigning_0 11 rfl
theorem dX5_leastSigning_18 : decode cX5_leastSigning 18 = .ok (.istore 5, 2) := dAt dlX5_leastSigning_0 12 rfl
theorem dX5_leastSigning_20 : decode cX5_leastSigning 20 = .ok (.iconst 0, 1) := dAt dlX5_leastSigning_0 13 rfl
theorem dX5_leastSigning_21 : decode cX5_leastSigning 21 = .ok (.istore 6, 2) := dAt dlX5_leastSigning_0 14 rfl
theorem dX5_leastSigning_23 : decode cX5_leastSigning 23 = .ok (.iload 6, 2) := dAt dlX5_leastSigning_0 15 rfl
theorem dX5_leastSigning_25 : decode cX5_leastSigning 25 = .ok (.iload_n 3, 1) := dAt dlX5_leastSigning_0 16 rfl
theorem dX5_leastSigning_26 : decode cX5_leastSigning 26 = .ok (.if_icmp .ge 53, 3) := dAt dlX5_leastSigning_0 17 rfl
theorem dX5_leastSigning_29 : decode cX5_leastSigning 29 = .ok (.iload 6, 2) := dAt dlX5_leastSigning_0 18 rfl
theorem dX5_leastSigning_31 : decode cX5_leastSigning 31 = .ok (.iload_n 2, 1) := dAt dlX5_leastSigning_0 19 rfl
theorem dX5_leastSigning_32 : decode cX5_leastSigning 32 = .ok (.iand, 1) := dAt dlX5_leastSigning_0 20 rfl
theorem dX5_leastSigning_33 : decode cX5_leastSigning 33 = .ok (.ifCond .eq 6, 3) := dAt dlX5_leastSigning_0 21 rfl
theorem dX5_leastSigning_36 : decode cX5_leastSigning 36 = .ok (.goto 37, 3) := dAt dlX5_leastSigning_0 22 rfl
theorem dX5_leastSigning_39 : decode cX5_leastSigning 39 = .ok (.aload_n 0, 1) := dAt dlX5_leastSigning_0 23 rfl
theorem dX5_leastSigning_40 : decode cX5_leastSigning 40 = .ok (.getfield 30, 3) := dAt dlX5_leastSigning_0 24 rfl
theorem dX5_leastSigning_43 : decode cX5_leastSigning 43 = .ok (.aload_n 1, 1) := dAt dlX5_leastSigning_0 25 rfl
theorem dX5_leastSigning_44 : decode cX5_leastSigning 44 = .ok (.iload 6, 2) := dAt dlX5_leastSigning_0 26 rfl
theorem dX5_leastSigning_46 : decode cX5_leastSigning 46 = .ok (.invokevirtual 134, 3) := dAt dlX5_leastSigning_0 27 rfl
theorem dX5_leastSigning_49 : decode cX5_leastSigning 49 = .ok (.aload_n 0, 1) := dAt dlX5_leastSigning_0 28 rfl
theorem dX5_leastSigning_50 : decode cX5_leastSigning 50 = .ok (.getfield 30, 3) := dAt dlX5_leastSigning_0 29 rfl
theorem dX5_leastSigning_53 : decode cX5_leastSigning 53 = .ok (.invokevirtual 145, 3) := dAt dlX5_leastSigning_0 30 rfl
theorem dX5_leastSigning_56 : decode cX5_leastSigning 56 = .ok (.istore 7, 2) := dAt dlX5_leastSigning_0 31 rfl
theorem dX5_leastSigning_58 : decode cX5_leastSigning 58 = .ok (.iload 7, 2) := dAt dlX5_leastSigning_0 32 rfl
theorem dX5_leastSigning_60 : decode cX5_leastSigning 60 = .ok (.iload 5, 2) := dAt dlX5_leastSigning_0 33 rfl
theorem dX5_leastSigning_62 : decode cX5_leastSigning 62 = .ok (.if_icmp .ge 11, 3) := dAt dlX5_leastSigning_0 34 rfl
theorem dX5_leastSigning_65 : decode cX5_leastSigning 65 = .ok (.iload 7, 2) := dAt dlX5_leastSigning_0 35 rfl
theorem dX5_leastSigning_67 : decode cX5_leastSigning 67 = .ok (.istore 5, 2) := dAt dlX5_leastSigning_0 36 rfl
theorem dX5_leastSigning_69 : decode cX5_leastSigning 69 = .ok (.iload 6, 2) := dAt dlX5_leastSigning_0 37 rfl
theorem dX5_leastSigning_71 : decode cX5_leastSigning 71 = .ok (.istore 4, 2) := dAt dlX5_leastSigning_0 38 rfl
theorem dX5_leastSigning_73 : decode cX5_leastSigning 73 = .ok (.iinc 6 1, 3) := dAt dlX5_leastSigning_0 39 rfl
theorem dX5_leastSigning_76 : decode cX5_leastSigning 76 = .ok (.goto (-53), 3) := dAt dlX5_leastSigning_0 40 rfl
theorem dX5_leastSigning_79 : decode cX5_leastSigning 79 = .ok (.iload 4, 2) := dAt dlX5_leastSigning_0 41 rfl
theorem dX5_leastSigning_81 : decode cX5_leastSigning 81 = .ok (.ireturn, 1) := dAt dlX5_leastSigning_0 42 rfl
def ilX5_lateForest_0 : List (Nat × Instr × Nat) := [(0, .aload_n 0, 1), (1, .getfield 16, 3), (4, .aload_n 1, 1), (5, .getfield 78, 3), (8, .invokevirtual 56, 3), (11, .iconst 0, 1), (12, .istore_n 2, 1), (13, .aload_n 1, 1), (14, .invokevirtual 74, 3), (17, .istore_n 3, 1), (18, .aload_n 1, 1), (19, .getfield 78, 3), (22, .iconst 1, 1), (23, .isub, 1), (24, .istore 4, 2), (26, .iload 4, 2), (28, .ifCond .lt 80, 3), (31, .aload_n 1, 1), (32, .getfield 78, 3), (35, .iconst 1, 1), (36, .isub, 1), (37, .istore 5, 2), (39, .iload 5, 2), (41, .iload 4, 2), (43, .if_icmp .le 59, 3), (46, .aload_n 1, 1), (47, .iload 4, 2), (49, .iload 5, 2), (51, .invokevirtual 64, 3), (54, .ifCond .ne 6, 3), (57, .goto 39, 3), (60, .iinc 3 (-1), 3), (63, .aload_n 0, 1), (64, .getfield 16, 3), (67, .iload 4, 2), (69, .iload 5, 2), (71, .iconst 1, 1), (72, .invokevirtual 185, 3), (75, .iconst (-1), 1), (76, .if_icmp .ne 20, 3), (79, .aload_n 0, 1), (80, .getfield 16, 3), (83, .iload 4, 2), (85, .iload 5, 2), (87, .invokevirtual 67, 3), (90, .iload_n 2, 1), (91, .iconst 1, 1), (92, .iload_n 3, 1), (93, .ishl, 1), (94, .ior, 1), (95, .istore_n 2, 1), (96, .iinc 5 (-1), 3), (99, .goto (-60), 3), (102, .iinc 4 (-1), 3), (105, .goto (-79), 3), (108, .iload_n 2, 1), (109, .ireturn, 1)]
theorem dlX5_lateForest_0 : dOK cX5_lateForest ilX5_lateForest_0 = true := by decide +kernel
theorem dX5_lateForest_0 : decode cX5_lateForest 0 = .ok (.aload_n 0, 1) := dAt dlX5_lateForest_0 0 rfl
theorem dX5_lateForest_1 : decode cX5_lateForest 1 = .ok (.getfield 16, 3) := dAt dlX5_lateForest_0 1 rfl
theorem dX5_lateForest_4 : decode cX5_lateForest 4 = .ok (.aload_n 1, 1) := dAt dlX5_lateForest_0 2 rfl
theorem dX5_lateForest_5 : decode cX5_lateForest 5 = .ok (.getfield 78, 3) := dAt dlX5_lateForest_0 3 rfl
theorem dX5_lateForest_8 : decode cX5_lateForest 8 = .ok (.invokevirtual 56, 3) := dAt dlX5_lateForest_0 4 rfl
theorem dX5_lateForest_11 : decode cX5_lateForest 11 = .ok (.iconst 0, 1) := dAt dlX5_lateForest_0 5 rfl
theorem dX5_lateForest_12 : decode cX5_lateForest 12 = .ok (.istore_n 2, 1) := dAt dlX5_lateForest_0 6 rfl
theorem dX5_lateForest_13 : decode cX5_lateForest 13 = .ok (.aload_n 1, 1) := dAt dlX5_lateForest_0 7 rfl
theorem dX5_lateForest_14 : decode cX5_lateForest 14 = .ok (.invokevirtual 74, 3) := dAt dlX5_lateForest_0 8 rfl
theorem dX5_lateForest_17 : decode cX5_lateForest 17 = .ok (.istore_n 3, 1) := dAt dlX5_lateForest_0 9 rfl
theorem dX5_lateForest_18 : decode cX5_lateForest 18 = .ok (.aload_n 1, 1) := dAt dlX5_lateForest_0 10 rfl
theorem dX5_lateForest_19 : decode cX5_lateForest 19 = .ok (.getfield 78, 3) := dAt dlX5_lateForest_0 11 rfl
theorem dX5_lateForest_22 : decode cX5_lateForest 22 = .ok (.iconst 1, 1) := dAt dlX5_lateForest_0 12 rfl
theorem dX5_lateForest_23 : decode cX5_lateForest 23 = .ok (.isub, 1) := dAt dlX5_lateForest_0 13 rfl
theorem dX5_lateForest_24 : decode cX5_lateForest 24 = .ok (.istore 4, 2) := dAt dlX5_lateForest_0 14 rfl
theorem dX5_lateForest_26 : decode cX5_lateForest 26 = .ok (.iload 4, 2) := dAt dlX5_lateForest_0 15 rfl
theorem dX5_lateForest_28 : decode cX5_lateForest 28 = .ok (.ifCond .lt 80, 3) := dAt dlX5_lateForest_0 16 rfl
theorem dX5_lateForest_31 : decode cX5_lateForest 31 = .ok (.aload_n 1, 1) := dAt dlX5_lateForest_0 17 rfl
theorem dX5_lateForest_32 : decode cX5_lateForest 32 = .ok (.getfield 78, 3) := dAt dlX5_lateForest_0 18 rfl
theorem dX5_lateForest_35 : decode cX5_lateForest 35 = .ok (.iconst 1, 1) := dAt dlX5_lateForest_0 19 rfl
theorem dX5_lateForest_36 : decode cX5_lateForest 36 = .ok (.isub, 1) := dAt dlX5_lateForest_0 20 rfl
theorem dX5_lateForest_37 : decode cX5_lateForest 37 = .ok (.istore 5, 2) := dAt dlX5_lateForest_0 21 rfl
theorem dX5_lateForest_39 : decode cX5_lateForest 39 = .ok (.iload 5, 2) := dAt dlX5_lateForest_0 22 rfl
theorem dX5_lateForest_41 : decode cX5_lateForest 41 = .ok (.iload 4, 2) := dAt dlX5_lateForest_0 23 rfl
theorem dX5_lateForest_43 : decode cX5_lateForest 43 = .ok (.if_icmp .le 59, 3) := dAt dlX5_lateForest_0 24 rfl
theorem dX5_lateForest_46 : decode cX5_lateForest 46 = .ok (.aload_n 1, 1) := dAt dlX5_lateForest_0 25 rfl
theorem dX5_lateForest_47 : decode cX5_lateForest 47 = .ok (.iload 4, 2) := dAt dlX5_lateForest_0 26 rfl
theorem dX5_lateForest_49 : decode cX5_lateForest 49 = .ok (.iload 5, 2) := dAt dlX5_lateForest_0 27 rfl
theorem dX5_lateForest_51 : decode cX5_lateForest 51 = .ok (.invokevirtual 64, 3) := dAt dlX5_lateForest_0 28 rfl
theorem dX5_lateForest_54 : decode cX5_lateForest 54 = .ok (.ifCond .ne 6, 3) := dAt dlX5_lateForest_0 29 rfl
theorem dX5_lateForest_57 : decode cX5_lateForest 57 = .ok (.goto 39, 3) := dAt dlX5_lateForest_0 30 rfl
theorem dX5_lateForest_60 : decode cX5_lateForest 60 = .ok (.iinc 3 (-1), 3) := dAt dlX5_lateForest_0 31 rfl
theorem dX5_lateForest_63 : decode cX5_lateForest 63 = .ok (.aload_n 0, 1) := dAt dlX5_lateForest_0 32 rfl
theorem dX5_lateForest_64 : decode cX5_lateForest 64 = .ok (.getfield 16, 3) := dAt dlX5_lateForest_0 33 rfl
theorem dX5_lateForest_67 : decode cX5_lateForest 67 = .ok (.iload 4, 2) := dAt dlX5_lateForest_0 34 rfl
theorem dX5_lateForest_69 : decode cX5_lateForest 69 = .ok (.iload 5, 2) := dAt dlX5_lateForest_0 35 rfl
theorem dX5_lateForest_71 : decode cX5_lateForest 71 = .ok (.iconst 1, 1) := dAt dlX5_lateForest_0 36 rfl
theorem dX5_lateForest_72 : decode cX5_lateForest 72 = .ok (.invokevirtual 185, 3) := dAt dlX5_lateForest_0 37 rfl
theorem dX5_lateForest_75 : decode cX5_lateForest 75 = .ok (.iconst (-1), 1) := dAt dlX5_lateForest_0 38 rfl
theorem dX5_lateForest_76 : decode cX5_lateForest 76 = .ok (.if_icmp .ne 20, 3) := dAt dlX5_lateForest_0 39 rfl
theorem dX5_lateForest_79 : decode cX5_lateForest 79 = .ok (.aload_n 0, 1) := dAt dlX5_lateForest_0 40 rfl
theorem dX5_lateForest_80 : decode cX5_lateForest 80 = .ok (.getfield 16, 3) := dAt dlX5_lateForest_0 41 rfl
theorem dX5_lateForest_83 : decode cX5_lateForest 83 = .ok (.iload 4, 2) := dAt dlX5_lateForest_0 42 rfl
theorem dX5_lateForest_85 : decode cX5_lateForest 85 = .ok (.iload 5, 2) := dAt dlX5_lateForest_0 43 rfl
theorem dX5_lateForest_87 : decode cX5_lateForest 87 = .ok (.invokevirtual 67, 3) := dAt dlX5_lateForest_0 44 rfl
theorem dX5_lateForest_90 : decode cX5_lateForest 90 = .ok (.iload_n 2, 1) := dAt dlX5_lateForest_0 45 rfl
theorem dX5_lateForest_91 : decode cX5_lateForest 91 = .ok (.iconst 1, 1) := dAt dlX5_lateForest_0 46 rfl
theorem dX5_lateForest_92 : decode cX5_lateForest 92 = .ok (.iload_n 3, 1) := dAt dlX5_lateForest_0 47 rfl
theorem dX5_lateForest_93 : decode cX5_lateForest 93 = .ok (.ishl, 1) := dAt dlX5_lateForest_0 48 rfl
theorem dX5_lateForest_94 : decode cX5_lateForest 94 = .ok (.ior, 1) := dAt dlX5_lateForest_0 49 rfl
theorem dX5_lateForest_95 : decode cX5_lateForest 95 = .ok (.istore_n 2, 1) := dAt dlX5_lateForest_0 50 rfl
theorem dX5_lateForest_96 : decode cX5_lateForest 96 = .ok (.iinc 5 (-1), 3) := dAt dlX5_lateForest_0 51 rfl
theorem dX5_lateForest_99 : decode cX5_lateForest 99 = .ok (.goto (-60), 3) := dAt dlX5_lateForest_0 52 rfl
theorem dX5_lateForest_102 : decode cX5_lateForest 102 = .ok (.iinc 4 (-1), 3) := dAt dlX5_lateForest_0 53 rfl
theorem dX5_lateForest_105 : decode cX5_lateForest 105 = .ok (.goto (-79), 3) := dAt dlX5_lateForest_0 54 rfl
theorem dX5_lateForest_108 : decode cX5_lateForest 108 = .ok (.iload_n 2, 1) := dAt dlX5_lateForest_0 55 rfl
theorem dX5_lateForest_109 : decode cX5_lateForest 109 = .ok (.ireturn, 1) := dAt dlX5_lateForest_0 56 rfl
def ilX6_init_0 : List (Nat × Instr × Nat) := [(0, .aload_n 0, 1), (1, .invokespecial 1, 3), (4, .aload_n 0, 1), (5, .iconst 4, 1), (6, .newarray .int, 2), (8, .putfield 7, 3), (11, .aload_n 0, 1), (12, .bipush 40, 2), (14, .newarray .int, 2), (16, .putfield 13, 3), (19, .aload_n 0, 1), (20, .bipush 10, 2), (22, .newarray .int, 2), (24, .putfield 16, 3), (27, .aload_n 0, 1), (28, .bipush 10, 2), (30, .newarray .int, 2), (32, .putfield 19, 3), (35, .aload_n 0, 1), (36, .bipush 45, 2), (38, .newarray .int, 2), (40, .putfield 22, 3), (43, .aload_n 0, 1), (44, .bipush 45, 2), (46, .newarray .int, 2), (48, .putfield 25, 3), (51, .aload_n 0, 1), (52, .bipush 100, 2), (54, .newarray .long, 2), (56, .putfield 28, 3), (59, .aload_n 0, 1), (60, .bipush 100, 2), (62, .newarray .long, 2), (64, .putfield 32, 3), (67, .aload_n 0, 1), (68, .bipush 100, 2), (70, .newarray .long, 2), (72, .putfield 35, 3), (75, .aload_n 0, 1), (76, .bipush 11, 2), (78, .newarray .long, 2), (80, .putfield 38, 3), (83, .aload_n 0, 1), (84, .bipush 11, 2), (86, .newarray .long, 2), (88, .putfield 41, 3), (91, .aload_n 0, 1), (92, .bipush 10, 2), (94, .newarray .long, 2), (96, .putfield 44, 3), (99, .aload_n 0, 1), (100, .bipush 10, 2), (102, .newarray .long, 2), (104, .putfield 47, 3), (107, .aload_n 0, 1), (108, .bipush 10, 2), (110, .newarray .int, 2), (112, .putfield 50, 3), (115, .aload_n 0, 1), (116, .bipush 10, 2)]
theorem dlX6_init_0 : dOK cX6_init ilX6_init_0 = true := by decide +kernel
theorem dX6_init_0 : decode cX6_init 0 = .ok (.aload_n 0, 1) := dAt dlX6_init_0 0 rfl
theorem dX6_init_1 : decode cX6_init 1 = .ok (.invokespecial 1, 3) := dAt dlX6_init_0 1 rfl
theorem dX6_init_4 : decode cX6_init 4 = .ok (.aload_n 0, 1) := dAt dlX6_init_0 2 rfl
theorem dX6_init_5 : decode cX6_init 5 = .ok (.iconst 4, 1) := dAt dlX6_init_0 3 rfl
theorem dX6_init_6 : decode cX6_init 6 = .ok (.newarray .int, 2) := dAt dlX6_init_0 4 rfl
theorem dX6_init_8 : decode cX6_init 8 = .ok (.putfield 7, 3) := dAt dlX6_init_0 5 rfl
theorem dX6_init_11 : decode cX6_init 11 = .ok (.aload_n 0, 1) := dAt dlX6_init_0 6 rfl
theorem dX6_init_12 : decode cX6_init 12 = .ok (.bipush 40, 2) := dAt dlX6_init_0 7 rfl
theorem dX6_init_14 : decode cX6_init 14 = .ok (.newarray .int, 2) := dAt dlX6_init_0 8 rfl
theorem dX6_init_16 : decode cX6_init 16 = .ok (.putfield 13, 3) := dAt dlX6_init_0 9 rfl
theorem dX6_init_19 : decode cX6_init 19 = .ok (.aload_n 0, 1) := dAt dlX6_init_0 10 rfl
theorem dX6_init_20 : decode cX6_init 20 = .ok (.bipush 10, 2) := dAt dlX6_init_0 11 rfl
theorem dX6_init_22 : decode cX6_init 22 = .ok (.newarray .int, 2) := dAt dlX6_init_0 12 rfl
theorem dX6_init_24 : decode cX6_init 24 = .ok (.putfield 16, 3) := dAt dlX6_init_0 13 rfl
theorem dX6_init_27 : decode cX6_init 27 = .ok (.aload_n 0, 1) := dAt dlX6_init_0 14 rfl
theorem dX6_init_28 : decode cX6_init 28 = .ok (.bipush 10, 2) := dAt dlX6_init_0 15 rfl
theorem dX6_init_30 : decode cX6_init 30 = .ok (.newarray .int, 2) := dAt dlX6_init_0 16 rfl
theorem dX6_init_32 : decode cX6_init 32 = .ok (.putfield 19, 3) := dAt dlX6_init_0 17 rfl
theorem dX6_init_35 : decode cX6_init 35 = .ok (.aload_n 0, 1) := dAt dlX6_init_0 18 rfl
theorem dX6_init_36 : decode cX6_init 36 = .ok (.bipush 45, 2) := dAt dlX6_init_0 19 rfl
theorem dX6_init_38 : decode cX6_init 38 = .ok (.newarray .int, 2) := dAt dlX6_init_0 20 rfl
theorem dX6_init_40 : decode cX6_init 40 = .ok (.putfield 22, 3) := dAt dlX6_init_0 21 rfl
theorem dX6_init_43 : decode cX6_init 43 = .ok (.aload_n 0, 1) := dAt dlX6_init_0 22 rfl
theorem dX6_init_44 : decode cX6_init 44 = .ok (.bipush 45, 2) := dAt dlX6_init_0 23 rfl
theorem dX6_init_46 : decode cX6_init 46 = .ok (.newarray .int, 2) := dAt dlX6_init_0 24 rfl
theorem dX6_init_48 : decode cX6_init 48 = .ok (.putfield 25, 3) := dAt dlX6_init_0 25 rfl
theorem dX6_init_51 : decode cX6_init 51 = .ok (.aload_n 0, 1) := dAt dlX6_init_0 26 rfl
theorem dX6_init_52 : decode cX6_init 52 = .ok (.bipush 100, 2) := dAt dlX6_init_0 27 rfl
theorem dX6_init_54 : decode cX6_init 54 = .ok (.newarray .long, 2) := dAt dlX6_init_0 28 rfl
theorem dX6_init_56 : decode cX6_init 56 = .ok (.putfield 28, 3) := dAt dlX6_init_0 29 rfl
theorem dX6_init_59 : decode cX6_init 59 = .ok (.aload_n 0, 1) := dAt dlX6_init_0 30 rfl
theorem dX6_init_60 : decode cX6_init 60 = .ok (.bipush 100, 2) := dAt dlX6_init_0 31 rfl
theorem dX6_init_62 : decode cX6_init 62 = .ok (.newarray .long, 2) := dAt dlX6_init_0 32 rfl
theorem dX6_init_64 : decode cX6_init 64 = .ok (.putfield 32, 3) := dAt dlX6_init_0 33 rfl
theorem dX6_init_67 : decode cX6_init 67 = .ok (.aload_n 0, 1) := dAt dlX6_init_0 34 rfl
theorem dX6_init_68 : decode cX6_init 68 = .ok (.bipush 100, 2) := dAt dlX6_init_0 35 rfl
theorem dX6_init_70 : decode cX6_init 70 = .ok (.newarray .long, 2) := dAt dlX6_init_0 36 rfl
theorem dX6_init_72 : decode cX6_init 72 = .ok (.putfield 35, 3) := dAt dlX6_init_0 37 rfl
theorem dX6_init_75 : decode cX6_init 75 = .ok (.aload_n 0, 1) := dAt dlX6_init_0 38 rfl
theorem dX6_init_76 : decode cX6_init 76 = .ok (.bipush 11, 2) := dAt dlX6_init_0 39 rfl
theorem dX6_init_78 : decode cX6_init 78 = .ok (.newarray .long, 2) := dAt dlX6_init_0 40 rfl
theorem dX6_init_80 : decode cX6_init 80 = .ok (.putfield 38, 3) := dAt dlX6_init_0 41 rfl
theorem dX6_init_83 : decode cX6_init 83 = .ok (.aload_n 0, 1) := dAt dlX6_init_0 42 rfl
theorem dX6_init_84 : decode cX6_init 84 = .ok (.bipush 11, 2) := dAt dlX6_init_0 43 rfl
theorem dX6_init_86 : decode cX6_init 86 = .ok (.newarray .long, 2) := dAt dlX6_init_0 44 rfl
theorem dX6_init_88 : decode cX6_init 88 = .ok (.putfield 41, 3) := dAt dlX6_init_0 45 rfl
theorem dX6_init_91 : decode cX6_init 91 = .ok (.aload_n 0, 1) := dAt dlX6_init_0 46 rfl
theorem dX6_init_92 : decode cX6_init 92 = .ok (.bipush 10, 2) := dAt dlX6_init_0 47 rfl
theorem dX6_init_94 : decode cX6_init 94 = .ok (.newarray .long, 2) := dAt dlX6_init_0 48 rfl
theorem dX6_init_96 : decode cX6_init 96 = .ok (.putfield 44, 3) := dAt dlX6_init_0 49 rfl
theorem dX6_init_99 : decode cX6_init 99 = .ok (.aload_n 0, 1) := dAt dlX6_init_0 50 rfl
theorem dX6_init_100 : decode cX6_init 100 = .ok (.bipush 10, 2) := dAt dlX6_init_0 51 rfl
theorem dX6_init_102 : decode cX6_init 102 = .ok (.newarray .long, 2) := dAt dlX6_init_0 52 rfl
theorem dX6_init_104 : decode cX6_init 104 = .ok (.putfield 47, 3) := dAt dlX6_init_0 53 rfl
theorem dX6_init_107 : decode cX6_init 107 = .ok (.aload_n 0, 1) := dAt dlX6_init_0 54 rfl
theorem dX6_init_108 : decode cX6_init 108 = .ok (.bipush 10, 2) := dAt dlX6_init_0 55 rfl
theorem dX6_init_110 : decode cX6_init 110 = .ok (.newarray .int, 2) := dAt dlX6_init_0 56 rfl
theorem dX6_init_112 : decode cX6_init 112 = .ok (.putfield 50, 3) := dAt dlX6_init_0 57 rfl
theorem dX6_init_115 : decode cX6_init 115 = .ok (.aload_n 0, 1) := dAt dlX6_init_0 58 rfl
theorem dX6_init_116 : decode cX6_init 116 = .ok (.bipush 10, 2) := dAt dlX6_init_0 59 rfl
def ilX6_init_1 : List (Nat × Instr × Nat) := [(118, .newarray .int, 2), (120, .putfield 53, 3), (123, .aload_n 0, 1), (124, .bipush 20, 2), (126, .newarray .int, 2), (128, .putfield 56, 3), (131, .aload_n 0, 1), (132, .bipush 20, 2), (134, .newarray .int, 2), (136, .putfield 59, 3), (139, .aload_n 0, 1), (140, .bipush 20, 2), (142, .newarray .int, 2), (144, .putfield 62, 3), (147, .iconst 0, 1), (148, .istore_n 1, 1), (149, .iload_n 1, 1), (150, .iconst 4, 1), (151, .if_icmp .ge 16, 3), (154, .aload_n 0, 1), (155, .getfield 7, 3), (158, .iload_n 1, 1), (159, .iconst 1, 1), (160, .iastore, 1), (161, .iinc 1 1, 3), (164, .goto (-15), 3), (167, .return_, 1)]
theorem dlX6_init_1 : dOK cX6_init ilX6_init_1 = true := by decide +kernel
theorem dX6_init_118 : decode cX6_init 118 = .ok (.newarray .int, 2) := dAt dlX6_init_1 0 rfl
theorem dX6_init_120 : decode cX6_init 120 = .ok (.putfield 53, 3) := dAt dlX6_init_1 1 rfl
theorem dX6_init_123 : decode cX6_init 123 = .ok (.aload_n 0, 1) := dAt dlX6_init_1 2 rfl
theorem dX6_init_124 : decode cX6_init 124 = .ok (.bipush 20, 2) := dAt dlX6_init_1 3 rfl
theorem dX6_init_126 : decode cX6_init 126 = .ok (.newarray .int, 2) := dAt dlX6_init_1 4 rfl
theorem dX6_init_128 : decode cX6_init 128 = .ok (.putfield 56, 3) := dAt dlX6_init_1 5 rfl
theorem dX6_init_131 : decode cX6_init 131 = .ok (.aload_n 0, 1) := dAt dlX6_init_1 6 rfl
theorem dX6_init_132 : decode cX6_init 132 = .ok (.bipush 20, 2) := dAt dlX6_init_1 7 rfl
theorem dX6_init_134 : decode cX6_init 134 = .ok (.newarray .int, 2) := dAt dlX6_init_1 8 rfl
theorem dX6_init_136 : decode cX6_init 136 = .ok (.putfield 59, 3) := dAt dlX6_init_1 9 rfl
theorem dX6_init_139 : decode cX6_init 139 = .ok (.aload_n 0, 1) := dAt dlX6_init_1 10 rfl
theorem dX6_init_140 : decode cX6_init 140 = .ok (.bipush 20, 2) := dAt dlX6_init_1 11 rfl
theorem dX6_init_142 : decode cX6_init 142 = .ok (.newarray .int, 2) := dAt dlX6_init_1 12 rfl
theorem dX6_init_144 : decode cX6_init 144 = .ok (.putfield 62, 3) := dAt dlX6_init_1 13 rfl
theorem dX6_init_147 : decode cX6_init 147 = .ok (.iconst 0, 1) := dAt dlX6_init_1 14 rfl
theorem dX6_init_148 : decode cX6_init 148 = .ok (.istore_n 1, 1) := dAt dlX6_init_1 15 rfl
theorem dX6_init_149 : decode cX6_init 149 = .ok (.iload_n 1, 1) := dAt dlX6_init_1 16 rfl
theorem dX6_init_150 : decode cX6_init 150 = .ok (.iconst 4, 1) := dAt dlX6_init_1 17 rfl
theorem dX6_init_151 : decode cX6_init 151 = .ok (.if_icmp .ge 16, 3) := dAt dlX6_init_1 18 rfl
theorem dX6_init_154 : decode cX6_init 154 = .ok (.aload_n 0, 1) := dAt dlX6_init_1 19 rfl
theorem dX6_init_155 : decode cX6_init 155 = .ok (.getfield 7, 3) := dAt dlX6_init_1 20 rfl
theorem dX6_init_158 : decode cX6_init 158 = .ok (.iload_n 1, 1) := dAt dlX6_init_1 21 rfl
theorem dX6_init_159 : decode cX6_init 159 = .ok (.iconst 1, 1) := dAt dlX6_init_1 22 rfl
theorem dX6_init_160 : decode cX6_init 160 = .ok (.iastore, 1) := dAt dlX6_init_1 23 rfl
theorem dX6_init_161 : decode cX6_init 161 = .ok (.iinc 1 1, 3) := dAt dlX6_init_1 24 rfl
theorem dX6_init_164 : decode cX6_init 164 = .ok (.goto (-15), 3) := dAt dlX6_init_1 25 rfl
theorem dX6_init_167 : decode cX6_init 167 = .ok (.return_, 1) := dAt dlX6_init_1 26 rfl
def ilX6_in_0 : List (Nat × Instr × Nat) := [(0, .iload_n 0, 1), (1, .iload_n 1, 1), (2, .if_icmp .lt 12, 3), (5, .iload_n 0, 1), (6, .iload_n 2, 1), (7, .if_icmp .gt 7, 3), (10, .iconst 1, 1), (11, .goto 4, 3), (14, .iconst 0, 1), (15, .ireturn, 1)]
theorem dlX6_in_0 : dOK cX6_in ilX6_in_0 = true := by decide +kernel
theorem dX6_in_0 : decode cX6_in 0 = .ok (.iload_n 0, 1) := dAt dlX6_in_0 0 rfl
theorem dX6_in_1 : decode cX6_in 1 = .ok (.iload_n 1, 1) := dAt dlX6_in_0 1 rfl
theorem dX6_in_2 : decode cX6_in 2 = .ok (.if_icmp .lt 12, 3) := dAt dlX6_in_0 2 rfl
theorem dX6_in_5 : decode cX6_in 5 = .ok (.iload_n 0, 1) := dAt dlX6_in_0 3 rfl
theorem dX6_in_6 : decode cX6_in 6 = .ok (.iload_n 2, 1) := dAt dlX6_in_0 4 rfl
theorem dX6_in_7 : decode cX6_in 7 = .ok (.if_icmp .gt 7, 3) := dAt dlX6_in_0 5 rfl
theorem dX6_in_10 : decode cX6_in 10 = .ok (.iconst 1, 1) := dAt dlX6_in_0 6 rfl
theorem dX6_in_11 : decode cX6_in 11 = .ok (.goto 4, 3) := dAt dlX6_in_0 7 rfl
theorem dX6_in_14 : decode cX6_in 14 = .ok (.iconst 0, 1) := dAt dlX6_in_0 8 rfl
theorem dX6_in_15 : decode cX6_in 15 = .ok (.ireturn, 1) := dAt dlX6_in_0 9 rfl
def ilX6_isNet_0 : List (Nat × Instr × Nat) := [(0, .iload_n 0, 1), (1, .iconst 0, 1), (2, .iconst 3, 1), (3, .invokestatic 65, 3), (6, .ireturn, 1)]
theorem dlX6_isNet_0 : dOK cX6_isNet ilX6_isNet_0 = true := by decide +kernel
theorem dX6_isNet_0 : decode cX6_isNet 0 = .ok (.iload_n 0, 1) := dAt dlX6_isNet_0 0 rfl
theorem dX6_isNet_1 : decode cX6_isNet 1 = .ok (.iconst 0, 1) := dAt dlX6_isNet_0 1 rfl
theorem dX6_isNet_2 : decode cX6_isNet 2 = .ok (.iconst 3, 1) := dAt dlX6_isNet_0 2 rfl
theorem dX6_isNet_3 : decode cX6_isNet 3 = .ok (.invokestatic 65, 3) := dAt dlX6_isNet_0 3 rfl
theorem dX6_isNet_6 : decode cX6_isNet 6 = .ok (.ireturn, 1) := dAt dlX6_isNet_0 4 rfl
def ilX6_isKnot_0 : List (Nat × Instr × Nat) := [(0, .iload_n 1, 1), (1, .invokestatic 69, 3), (4, .ifCond .eq 23, 3), (7, .iload_n 2, 1), (8, .iconst 0, 1), (9, .aload_n 0, 1), (10, .getfield 7, 3), (13, .iload_n 1, 1), (14, .iaload, 1), (15, .iconst 1, 1), (16, .isub, 1), (17, .invokestatic 65, 3), (20, .ifCond .eq 7, 3), (23, .iconst 1, 1), (24, .goto 4, 3), (27, .iconst 0, 1), (28, .ireturn, 1)]
theorem dlX6_isKnot_0 : dOK cX6_isKnot ilX6_isKnot_0 = true := by decide +kernel
theorem dX6_isKnot_0 : decode cX6_isKnot 0 = .ok (.iload_n 1, 1) := dAt dlX6_isKnot_0 0 rfl
theorem dX6_isKnot_1 : decode cX6_isKnot 1 = .ok (.invokestatic 69, 3) := dAt dlX6_isKnot_0 1 rfl
theorem dX6_isKnot_4 : decode cX6_isKnot 4 = .ok (.ifCond .eq 23, 3) := dAt dlX6_isKnot_0 2 rfl
theorem dX6_isKnot_7 : decode cX6_isKnot 7 = .ok (.iload_n 2, 1) := dAt dlX6_isKnot_0 3 rfl
theorem dX6_isKnot_8 : decode cX6_isKnot 8 = .ok (.iconst 0, 1) := dAt dlX6_isKnot_0 4 rfl
theorem dX6_isKnot_9 : decode cX6_isKnot 9 = .ok (.aload_n 0, 1) := dAt dlX6_isKnot_0 5 rfl
theorem dX6_isKnot_10 : decode cX6_isKnot 10 = .ok (.getfield 7, 3) := dAt dlX6_isKnot_0 6 rfl
theorem dX6_isKnot_13 : decode cX6_isKnot 13 = .ok (.iload_n 1, 1) := dAt dlX6_isKnot_0 7 rfl
theorem dX6_isKnot_14 : decode cX6_isKnot 14 = .ok (.iaload, 1) := dAt dlX6_isKnot_0 8 rfl
theorem dX6_isKnot_15 : decode cX6_isKnot 15 = .ok (.iconst 1, 1) := dAt dlX6_isKnot_0 9 rfl
theorem dX6_isKnot_16 : decode cX6_isKnot 16 = .ok (.isub, 1) := dAt dlX6_isKnot_0 10 rfl
theorem dX6_isKnot_17 : decode cX6_isKnot 17 = .ok (.invokestatic 65, 3) := dAt dlX6_isKnot_0 11 rfl
theorem dX6_isKnot_20 : decode cX6_isKnot 20 = .ok (.ifCond .eq 7, 3) := dAt dlX6_isKnot_0 12 rfl
theorem dX6_isKnot_23 : decode cX6_isKnot 23 = .ok (.iconst 1, 1) := dAt dlX6_isKnot_0 13 rfl
theorem dX6_isKnot_24 : decode cX6_isKnot 24 = .ok (.goto 4, 3) := dAt dlX6_isKnot_0 14 rfl
theorem dX6_isKnot_27 : decode cX6_isKnot 27 = .ok (.iconst 0, 1) := dAt dlX6_isKnot_0 15 rfl
theorem dX6_isKnot_28 : decode cX6_isKnot 28 = .ok (.ireturn, 1) := dAt dlX6_isKnot_0 16 rfl
def ilX6_has_0 : List (Nat × Instr × Nat) := [(0, .aload_n 0, 1), (1, .getfield 13, 3), (4, .bipush 10, 2), (6, .iload_n 1, 1), (7, .imul, 1), (8, .iload_n 2, 1), (9, .iadd, 1), (10, .iaload, 1), (11, .iload_n 3, 1), (12, .ishr, 1), (13, .iconst 1, 1), (14, .iand, 1), (15, .iconst 1, 1), (16, .if_icmp .ne 7, 3), (19, .iconst 1, 1), (20, .goto 4, 3), (23, .iconst 0, 1), (24, .ireturn, 1)]
theorem dlX6_has_0 : dOK cX6_has ilX6_has_0 = true := by decide +kernel
theorem dX6_has_0 : decode cX6_has 0 = .ok (.aload_n 0, 1) := dAt dlX6_has_0 0 rfl
theorem dX6_has_1 : decode cX6_has 1 = .ok (.getfield 13, 3) := dAt dlX6_has_0 1 rfl
theorem dX6_has_4 : decode cX6_has 4 = .ok (.bipush 10, 2) := dAt dlX6_has_0 2 rfl
theorem dX6_has_6 : decode cX6_has 6 = .ok (.iload_n 1, 1) := dAt dlX6_has_0 3 rfl
theorem dX6_has_7 : decode cX6_has 7 = .ok (.imul, 1) := dAt dlX6_has_0 4 rfl
theorem dX6_has_8 : decode cX6_has 8 = .ok (.iload_n 2, 1) := dAt dlX6_has_0 5 rfl
theorem dX6_has_9 : decode cX6_has 9 = .ok (.iadd, 1) := dAt dlX6_has_0 6 rfl
theorem dX6_has_10 : decode cX6_has 10 = .ok (.iaload, 1) := dAt dlX6_has_0 7 rfl
theorem dX6_has_11 : decode cX6_has 11 = .ok (.iload_n 3, 1) := dAt dlX6_has_0 8 rfl
theorem dX6_has_12 : decode cX6_has 12 = .ok (.ishr, 1) := dAt dlX6_has_0 9 rfl
theorem dX6_has_13 : decode cX6_has 13 = .ok (.iconst 1, 1) := dAt dlX6_has_0 10 rfl
theorem dX6_has_14 : decode cX6_has 14 = .ok (.iand, 1) := dAt dlX6_has_0 11 rfl
theorem dX6_has_15 : decode cX6_has 15 = .ok (.iconst 1, 1) := dAt dlX6_has_0 12 rfl
theorem dX6_has_16 : decode cX6_has 16 = .ok (.if_icmp .ne 7, 3) := dAt dlX6_has_0 13 rfl
theorem dX6_has_19 : decode cX6_has 19 = .ok (.iconst 1, 1) := dAt dlX6_has_0 14 rfl
theorem dX6_has_20 : decode cX6_has 20 = .ok (.goto 4, 3) := dAt dlX6_has_0 15 rfl
theorem dX6_has_23 : decode cX6_has 23 = .ok (.iconst 0, 1) := dAt dlX6_has_0 16 rfl
theorem dX6_has_24 : decode cX6_has 24 = .ok (.ireturn, 1) := dAt dlX6_has_0 17 rfl
def ilX6_put_0 : List (Nat × Instr × Nat) := [(0, .aload_n 0, 1), (1, .getfield 13, 3), (4, .bipush 10, 2), (6, .iload_n 1, 1), (7, .imul, 1), (8, .iload_n 2, 1), (9, .iadd, 1), (10, .dup2, 1), (11, .iaload, 1), (12, .iconst 1, 1), (13, .iload_n 3, 1), (14, .ishl, 1), (15, .ior, 1), (16, .iastore, 1), (17, .aload_n 0, 1), (18, .getfield 13, 3), (21, .bipush 10, 2), (23, .iload_n 1, 1), (24, .imul, 1), (25, .iload_n 3, 1), (26, .iadd, 1), (27, .dup2, 1), (28, .iaload, 1), (29, .iconst 1, 1), (30, .iload_n 2, 1), (31, .ishl, 1), (32, .ior, 1), (33, .iastore, 1), (34, .return_, 1)]
theorem dlX6_put_0 : dOK cX6_put ilX6_put_0 = true := by decide +kernel
theorem dX6_put_0 : decode cX6_put 0 = .ok (.aload_n 0, 1) := dAt dlX6_put_0 0 rfl
theorem dX6_put_1 : decode cX6_put 1 = .ok (.getfield 13, 3) := dAt dlX6_put_0 1 rfl
theorem dX6_put_4 : decode cX6_put 4 = .ok (.bipush 10, 2) := dAt dlX6_put_0 2 rfl
theorem dX6_put_6 : decode cX6_put 6 = .ok (.iload_n 1, 1) := dAt dlX6_put_0 3 rfl
theorem dX6_put_7 : decode cX6_put 7 = .ok (.imul, 1) := dAt dlX6_put_0 4 rfl
theorem dX6_put_8 : decode cX6_put 8 = .ok (.iload_n 2, 1) := dAt dlX6_put_0 5 rfl
theorem dX6_put_9 : decode cX6_put 9 = .ok (.iadd, 1) := dAt dlX6_put_0 6 rfl
theorem dX6_put_10 : decode cX6_put 10 = .ok (.dup2, 1) := dAt dlX6_put_0 7 rfl
theorem dX6_put_11 : decode cX6_put 11 = .ok (.iaload, 1) := dAt dlX6_put_0 8 rfl
theorem dX6_put_12 : decode cX6_put 12 = .ok (.iconst 1, 1) := dAt dlX6_put_0 9 rfl
theorem dX6_put_13 : decode cX6_put 13 = .ok (.iload_n 3, 1) := dAt dlX6_put_0 10 rfl
theorem dX6_put_14 : decode cX6_put 14 = .ok (.ishl, 1) := dAt dlX6_put_0 11 rfl
theorem dX6_put_15 : decode cX6_put 15 = .ok (.ior, 1) := dAt dlX6_put_0 12 rfl
theorem dX6_put_16 : decode cX6_put 16 = .ok (.iastore, 1) := dAt dlX6_put_0 13 rfl
theorem dX6_put_17 : decode cX6_put 17 = .ok (.aload_n 0, 1) := dAt dlX6_put_0 14 rfl
theorem dX6_put_18 : decode cX6_put 18 = .ok (.getfield 13, 3) := dAt dlX6_put_0 15 rfl
theorem dX6_put_21 : decode cX6_put 21 = .ok (.bipush 10, 2) := dAt dlX6_put_0 16 rfl
theorem dX6_put_23 : decode cX6_put 23 = .ok (.iload_n 1, 1) := dAt dlX6_put_0 17 rfl
theorem dX6_put_24 : decode cX6_put 24 = .ok (.imul, 1) := dAt dlX6_put_0 18 rfl
theorem dX6_put_25 : decode cX6_put 25 = .ok (.iload_n 3, 1) := dAt dlX6_put_0 19 rfl
theorem dX6_put_26 : decode cX6_put 26 = .ok (.iadd, 1) := dAt dlX6_put_0 20 rfl
theorem dX6_put_27 : decode cX6_put 27 = .ok (.dup2, 1) := dAt dlX6_put_0 21 rfl
theorem dX6_put_28 : decode cX6_put 28 = .ok (.iaload, 1) := dAt dlX6_put_0 22 rfl
theorem dX6_put_29 : decode cX6_put 29 = .ok (.iconst 1, 1) := dAt dlX6_put_0 23 rfl
theorem dX6_put_30 : decode cX6_put 30 = .ok (.iload_n 2, 1) := dAt dlX6_put_0 24 rfl
theorem dX6_put_31 : decode cX6_put 31 = .ok (.ishl, 1) := dAt dlX6_put_0 25 rfl
theorem dX6_put_32 : decode cX6_put 32 = .ok (.ior, 1) := dAt dlX6_put_0 26 rfl
theorem dX6_put_33 : decode cX6_put 33 = .ok (.iastore, 1) := dAt dlX6_put_0 27 rfl
theorem dX6_put_34 : decode cX6_put 34 = .ok (.return_, 1) := dAt dlX6_put_0 28 rfl
def ilX6_begin_0 : List (Nat × Instr × Nat) := [(0, .aload_n 0, 1), (1, .getfield 7, 3), (4, .iload_n 1, 1), (5, .iload_n 2, 1), (6, .iastore, 1), (7, .iconst 0, 1), (8, .istore_n 3, 1), (9, .iload_n 3, 1), (10, .bipush 10, 2), (12, .if_icmp .ge 21, 3), (15, .aload_n 0, 1), (16, .getfield 13, 3), (19, .bipush 10, 2), (21, .iload_n 1, 1), (22, .imul, 1), (23, .iload_n 3, 1), (24, .iadd, 1), (25, .iconst 0, 1), (26, .iastore, 1), (27, .iinc 3 1, 3), (30, .goto (-21), 3), (33, .return_, 1)]
theorem dlX6_begin_0 : dOK cX6_begin ilX6_begin_0 = true := by decide +kernel
theorem dX6_begin_0 : decode cX6_begin 0 = .ok (.aload_n 0, 1) := dAt dlX6_begin_0 0 rfl
theorem dX6_begin_1 : decode cX6_begin 1 = .ok (.getfield 7, 3) := dAt dlX6_begin_0 1 rfl
theorem dX6_begin_4 : decode cX6_begin 4 = .ok (.iload_n 1, 1) := dAt dlX6_begin_0 2 rfl
theorem dX6_begin_5 : decode cX6_begin 5 = .ok (.iload_n 2, 1) := dAt dlX6_begin_0 3 rfl
theorem dX6_begin_6 : decode cX6_begin 6 = .ok (.iastore, 1) := dAt dlX6_begin_0 4 rfl
theorem dX6_begin_7 : decode cX6_begin 7 = .ok (.iconst 0, 1) := dAt dlX6_begin_0 5 rfl
theorem dX6_begin_8 : decode cX6_begin 8 = .ok (.istore_n 3, 1) := dAt dlX6_begin_0 6 rfl
theorem dX6_begin_9 : decode cX6_begin 9 = .ok (.iload_n 3, 1) := dAt dlX6_begin_0 7 rfl
theorem dX6_begin_10 : decode cX6_begin 10 = .ok (.bipush 10, 2) := dAt dlX6_begin_0 8 rfl
theorem dX6_begin_12 : decode cX6_begin 12 = .ok (.if_icmp .ge 21, 3) := dAt dlX6_begin_0 9 rfl
theorem dX6_begin_15 : decode cX6_begin 15 = .ok (.aload_n 0, 1) := dAt dlX6_begin_0 10 rfl
theorem dX6_begin_16 : decode cX6_begin 16 = .ok (.getfield 13, 3) := dAt dlX6_begin_0 11 rfl
theorem dX6_begin_19 : decode cX6_begin 19 = .ok (.bipush 10, 2) := dAt dlX6_begin_0 12 rfl
theorem dX6_begin_21 : decode cX6_begin 21 = .ok (.iload_n 1, 1) := dAt dlX6_begin_0 13 rfl
theorem dX6_begin_22 : decode cX6_begin 22 = .ok (.imul, 1) := dAt dlX6_begin_0 14 rfl
theorem dX6_begin_23 : decode cX6_begin 23 = .ok (.iload_n 3, 1) := dAt dlX6_begin_0 15 rfl
theorem dX6_begin_24 : decode cX6_begin 24 = .ok (.iadd, 1) := dAt dlX6_begin_0 16 rfl
theorem dX6_begin_25 : decode cX6_begin 25 = .ok (.iconst 0, 1) := dAt dlX6_begin_0 17 rfl
theorem dX6_begin_26 : decode cX6_begin 26 = .ok (.iastore, 1) := dAt dlX6_begin_0 18 rfl
theorem dX6_begin_27 : decode cX6_begin 27 = .ok (.iinc 3 1, 3) := dAt dlX6_begin_0 19 rfl
theorem dX6_begin_30 : decode cX6_begin 30 = .ok (.goto (-21), 3) := dAt dlX6_begin_0 20 rfl
theorem dX6_begin_33 : decode cX6_begin 33 = .ok (.return_, 1) := dAt dlX6_begin_0 21 rfl
def ilX6_lines_0 : List (Nat × Instr × Nat) := [(0, .iconst 0, 1), (1, .istore_n 2, 1), (2, .iconst 0, 1), (3, .istore_n 3, 1), (4, .iload_n 3, 1), (5, .aload_n 0, 1), (6, .getfield 7, 3), (9, .iload_n 1, 1), (10, .iaload, 1), (11, .if_icmp .ge 26, 3), (14, .iload_n 2, 1), (15, .aload_n 0, 1), (16, .getfield 13, 3), (19, .bipush 10, 2), (21, .iload_n 1, 1), (22, .imul, 1), (23, .iload_n 3, 1), (24, .iadd, 1), (25, .iaload, 1), (26, .invokestatic 73, 3), (29, .iadd, 1), (30, .istore_n 2, 1), (31, .iinc 3 1, 3), (34, .goto (-30), 3), (37, .iload_n 2, 1), (38, .iconst 2, 1), (39, .idiv, 1), (40, .ireturn, 1)]
theorem dlX6_lines_0 : dOK cX6_lines ilX6_lines_0 = true := by decide +kernel
theorem dX6_lines_0 : decode cX6_lines 0 = .ok (.iconst 0, 1) := dAt dlX6_lines_0 0 rfl
theorem dX6_lines_1 : decode cX6_lines 1 = .ok (.istore_n 2, 1) := dAt dlX6_lines_0 1 rfl
theorem dX6_lines_2 : decode cX6_lines 2 = .ok (.iconst 0, 1) := dAt dlX6_lines_0 2 rfl
theorem dX6_lines_3 : decode cX6_lines 3 = .ok (.istore_n 3, 1) := dAt dlX6_lines_0 3 rfl
theorem dX6_lines_4 : decode cX6_lines 4 = .ok (.iload_n 3, 1) := dAt dlX6_lines_0 4 rfl
theorem dX6_lines_5 : decode cX6_lines 5 = .ok (.aload_n 0, 1) := dAt dlX6_lines_0 5 rfl
theorem dX6_lines_6 : decode cX6_lines 6 = .ok (.getfield 7, 3) := dAt dlX6_lines_0 6 rfl
theorem dX6_lines_9 : decode cX6_lines 9 = .ok (.iload_n 1, 1) := dAt dlX6_lines_0 7 rfl
theorem dX6_lines_10 : decode cX6_lines 10 = .ok (.iaload, 1) := dAt dlX6_lines_0 8 rfl
theorem dX6_lines_11 : decode cX6_lines 11 = .ok (.if_icmp .ge 26, 3) := dAt dlX6_lines_0 9 rfl
theorem dX6_lines_14 : decode cX6_lines 14 = .ok (.iload_n 2, 1) := dAt dlX6_lines_0 10 rfl
theorem dX6_lines_15 : decode cX6_lines 15 = .ok (.aload_n 0, 1) := dAt dlX6_lines_0 11 rfl
theorem dX6_lines_16 : decode cX6_lines 16 = .ok (.getfield 13, 3) := dAt dlX6_lines_0 12 rfl
theorem dX6_lines_19 : decode cX6_lines 19 = .ok (.bipush 10, 2) := dAt dlX6_lines_0 13 rfl
theorem dX6_lines_21 : decode cX6_lines 21 = .ok (.iload_n 1, 1) := dAt dlX6_lines_0 14 rfl
theorem dX6_lines_22 : decode cX6_lines 22 = .ok (.imul, 1) := dAt dlX6_lines_0 15 rfl
theorem dX6_lines_23 : decode cX6_lines 23 = .ok (.iload_n 3, 1) := dAt dlX6_lines_0 16 rfl
theorem dX6_lines_24 : decode cX6_lines 24 = .ok (.iadd, 1) := dAt dlX6_lines_0 17 rfl
theorem dX6_lines_25 : decode cX6_lines 25 = .ok (.iaload, 1) := dAt dlX6_lines_0 18 rfl
theorem dX6_lines_26 : decode cX6_lines 26 = .ok (.invokestatic 73, 3) := dAt dlX6_lines_0 19 rfl
theorem dX6_lines_29 : decode cX6_lines 29 = .ok (.iadd, 1) := dAt dlX6_lines_0 20 rfl
theorem dX6_lines_30 : decode cX6_lines 30 = .ok (.istore_n 2, 1) := dAt dlX6_lines_0 21 rfl
theorem dX6_lines_31 : decode cX6_lines 31 = .ok (.iinc 3 1, 3) := dAt dlX6_lines_0 22 rfl
theorem dX6_lines_34 : decode cX6_lines 34 = .ok (.goto (-30), 3) := dAt dlX6_lines_0 23 rfl
theorem dX6_lines_37 : decode cX6_lines 37 = .ok (.iload_n 2, 1) := dAt dlX6_lines_0 24 rfl
theorem dX6_lines_38 : decode cX6_lines 38 = .ok (.iconst 2, 1) := dAt dlX6_lines_0 25 rfl
theorem dX6_lines_39 : decode cX6_lines 39 = .ok (.idiv, 1) := dAt dlX6_lines_0 26 rfl
theorem dX6_lines_40 : decode cX6_lines 40 = .ok (.ireturn, 1) := dAt dlX6_lines_0 27 rfl
def ilX6_bits_0 : List (Nat × Instr × Nat) := [(0, .iconst 0, 1), (1, .istore_n 1, 1), (2, .iconst 0, 1), (3, .istore_n 2, 1), (4, .iload_n 2, 1), (5, .bipush 10, 2), (7, .if_icmp .ge 17, 3), (10, .iload_n 1, 1), (11, .iload_n 0, 1), (12, .iload_n 2, 1), (13, .ishr, 1), (14, .iconst 1, 1), (15, .iand, 1), (16, .iadd, 1), (17, .istore_n 1, 1), (18, .iinc 2 1, 3), (21, .goto (-17), 3), (24, .iload_n 1, 1), (25, .ireturn, 1)]
theorem dlX6_bits_0 : dOK cX6_bits ilX6_bits_0 = true := by decide +kernel
theorem dX6_bits_0 : decode cX6_bits 0 = .ok (.iconst 0, 1) := dAt dlX6_bits_0 0 rfl
theorem dX6_bits_1 : decode cX6_bits 1 = .ok (.istore_n 1, 1) := dAt dlX6_bits_0 1 rfl
theorem dX6_bits_2 : decode cX6_bits 2 = .ok (.iconst 0, 1) := dAt dlX6_bits_0 2 rfl
theorem dX6_bits_3 : decode cX6_bits 3 = .ok (.istore_n 2, 1) := dAt dlX6_bits_0 3 rfl
theorem dX6_bits_4 : decode cX6_bits 4 = .ok (.iload_n 2, 1) := dAt dlX6_bits_0 4 rfl
theorem dX6_bits_5 : decode cX6_bits 5 = .ok (.bipush 10, 2) := dAt dlX6_bits_0 5 rfl
theorem dX6_bits_7 : decode cX6_bits 7 = .ok (.if_icmp .ge 17, 3) := dAt dlX6_bits_0 6 rfl
theorem dX6_bits_10 : decode cX6_bits 10 = .ok (.iload_n 1, 1) := dAt dlX6_bits_0 7 rfl
theorem dX6_bits_11 : decode cX6_bits 11 = .ok (.iload_n 0, 1) := dAt dlX6_bits_0 8 rfl
theorem dX6_bits_12 : decode cX6_bits 12 = .ok (.iload_n 2, 1) := dAt dlX6_bits_0 9 rfl
theorem dX6_bits_13 : decode cX6_bits 13 = .ok (.ishr, 1) := dAt dlX6_bits_0 10 rfl
theorem dX6_bits_14 : decode cX6_bits 14 = .ok (.iconst 1, 1) := dAt dlX6_bits_0 11 rfl
theorem dX6_bits_15 : decode cX6_bits 15 = .ok (.iand, 1) := dAt dlX6_bits_0 12 rfl
theorem dX6_bits_16 : decode cX6_bits 16 = .ok (.iadd, 1) := dAt dlX6_bits_0 13 rfl
theorem dX6_bits_17 : decode cX6_bits 17 = .ok (.istore_n 1, 1) := dAt dlX6_bits_0 14 rfl
theorem dX6_bits_18 : decode cX6_bits 18 = .ok (.iinc 2 1, 3) := dAt dlX6_bits_0 15 rfl
theorem dX6_bits_21 : decode cX6_bits 21 = .ok (.goto (-17), 3) := dAt dlX6_bits_0 16 rfl
theorem dX6_bits_24 : decode cX6_bits 24 = .ok (.iload_n 1, 1) := dAt dlX6_bits_0 17 rfl
theorem dX6_bits_25 : decode cX6_bits 25 = .ok (.ireturn, 1) := dAt dlX6_bits_0 18 rfl
def ilX6_net_0 : List (Nat × Instr × Nat) := [(0, .iload_n 1, 1), (1, .invokestatic 69, 3), (4, .ifCond .eq 13, 3), (7, .iload_n 2, 1), (8, .iconst 1, 1), (9, .bipush 10, 2), (11, .invokestatic 65, 3), (14, .ifCond .ne 6, 3), (17, .bipush (-2), 2), (19, .ireturn, 1), (20, .aload_n 0, 1), (21, .iload_n 1, 1), (22, .iload_n 2, 1), (23, .invokevirtual 77, 3), (26, .iconst 1, 1), (27, .ireturn, 1)]
theorem dlX6_net_0 : dOK cX6_net ilX6_net_0 = true := by decide +kernel
theorem dX6_net_0 : decode cX6_net 0 = .ok (.iload_n 1, 1) := dAt dlX6_net_0 0 rfl
theorem dX6_net_1 : decode cX6_net 1 = .ok (.invokestatic 69, 3) := dAt dlX6_net_0 1 rfl
theorem dX6_net_4 : decode cX6_net 4 = .ok (.ifCond .eq 13, 3) := dAt dlX6_net_0 2 rfl
theorem dX6_net_7 : decode cX6_net 7 = .ok (.iload_n 2, 1) := dAt dlX6_net_0 3 rfl
theorem dX6_net_8 : decode cX6_net 8 = .ok (.iconst 1, 1) := dAt dlX6_net_0 4 rfl
theorem dX6_net_9 : decode cX6_net 9 = .ok (.bipush 10, 2) := dAt dlX6_net_0 5 rfl
theorem dX6_net_11 : decode cX6_net 11 = .ok (.invokestatic 65, 3) := dAt dlX6_net_0 6 rfl
theorem dX6_net_14 : decode cX6_net 14 = .ok (.ifCond .ne 6, 3) := dAt dlX6_net_0 7 rfl
theorem dX6_net_17 : decode cX6_net 17 = .ok (.bipush (-2), 2) := dAt dlX6_net_0 8 rfl
theorem dX6_net_19 : decode cX6_net 19 = .ok (.ireturn, 1) := dAt dlX6_net_0 9 rfl
theorem dX6_net_20 : decode cX6_net 20 = .ok (.aload_n 0, 1) := dAt dlX6_net_0 10 rfl
theorem dX6_net_21 : decode cX6_net 21 = .ok (.iload_n 1, 1) := dAt dlX6_net_0 11 rfl
theorem dX6_net_22 : decode cX6_net 22 = .ok (.iload_n 2, 1) := dAt dlX6_net_0 12 rfl
theorem dX6_net_23 : decode cX6_net 23 = .ok (.invokevirtual 77, 3) := dAt dlX6_net_0 13 rfl
theorem dX6_net_26 : decode cX6_net 26 = .ok (.iconst 1, 1) := dAt dlX6_net_0 14 rfl
theorem dX6_net_27 : decode cX6_net 27 = .ok (.ireturn, 1) := dAt dlX6_net_0 15 rfl
def ilX6_line_0 : List (Nat × Instr × Nat) := [(0, .aload_n 0, 1), (1, .iload_n 1, 1), (2, .iload_n 2, 1), (3, .invokevirtual 81, 3), (6, .ifCond .eq 17, 3), (9, .aload_n 0, 1), (10, .iload_n 1, 1), (11, .iload_n 3, 1), (12, .invokevirtual 81, 3), (15, .ifCond .eq 8, 3), (18, .iload_n 2, 1), (19, .iload_n 3, 1), (20, .if_icmp .ne 6, 3), (23, .bipush (-2), 2), (25, .ireturn, 1), (26, .aload_n 0, 1), (27, .iload_n 1, 1), (28, .iload_n 2, 1), (29, .iload_n 3, 1), (30, .invokevirtual 85, 3), (33, .iload 4, 2), (35, .if_icmp .ne 6, 3), (38, .bipush (-3), 2), (40, .ireturn, 1), (41, .aload_n 0, 1), (42, .getfield 13, 3), (45, .bipush 10, 2), (47, .iload_n 1, 1), (48, .imul, 1), (49, .iload_n 2, 1), (50, .iadd, 1), (51, .dup2, 1), (52, .iaload, 1), (53, .iconst 1, 1), (54, .iload_n 3, 1), (55, .ishl, 1), (56, .ixor, 1), (57, .iastore, 1), (58, .aload_n 0, 1), (59, .getfield 13, 3), (62, .bipush 10, 2), (64, .iload_n 1, 1), (65, .imul, 1), (66, .iload_n 3, 1), (67, .iadd, 1), (68, .dup2, 1), (69, .iaload, 1), (70, .iconst 1, 1), (71, .iload_n 2, 1), (72, .ishl, 1), (73, .ixor, 1), (74, .iastore, 1), (75, .iconst 1, 1), (76, .ireturn, 1)]
theorem dlX6_line_0 : dOK cX6_line ilX6_line_0 = true := by decide +kernel
theorem dX6_line_0 : decode cX6_line 0 = .ok (.aload_n 0, 1) := dAt dlX6_line_0 0 rfl
theorem dX6_line_1 : decode cX6_line 1 = .ok (.iload_n 1, 1) := dAt dlX6_line_0 1 rfl
theorem dX6_line_2 : decode cX6_line 2 = .ok (.iload_n 2, 1) := dAt dlX6_line_0 2 rfl
theorem dX6_line_3 : decode cX6_line 3 = .ok (.invokevirtual 81, 3) := dAt dlX6_line_0 3 rfl
theorem dX6_line_6 : decode cX6_line 6 = .ok (.ifCond .eq 17, 3) := dAt dlX6_line_0 4 rfl
theorem dX6_line_9 : decode cX6_line 9 = .ok (.aload_n 0, 1) := dAt dlX6_line_0 5 rfl
theorem dX6_line_10 : decode cX6_line 10 = .ok (.iload_n 1, 1) := dAt dlX6_line_0 6 rfl
theorem dX6_line_11 : decode cX6_line 11 = .ok (.iload_n 3, 1) := dAt dlX6_line_0 7 rfl
theorem dX6_line_12 : decode cX6_line 12 = .ok (.invokevirtual 81, 3) := dAt dlX6_line_0 8 rfl
theorem dX6_line_15 : decode cX6_line 15 = .ok (.ifCond .eq 8, 3) := dAt dlX6_line_0 9 rfl
theorem dX6_line_18 : decode cX6_line 18 = .ok (.iload_n 2, 1) := dAt dlX6_line_0 10 rfl
theorem dX6_line_19 : decode cX6_line 19 = .ok (.iload_n 3, 1) := dAt dlX6_line_0 11 rfl
theorem dX6_line_20 : decode cX6_line 20 = .ok (.if_icmp .ne 6, 3) := dAt dlX6_line_0 12 rfl
theorem dX6_line_23 : decode cX6_line 23 = .ok (.bipush (-2), 2) := dAt dlX6_line_0 13 rfl
theorem dX6_line_25 : decode cX6_line 25 = .ok (.ireturn, 1) := dAt dlX6_line_0 14 rfl
theorem dX6_line_26 : decode cX6_line 26 = .ok (.aload_n 0, 1) := dAt dlX6_line_0 15 rfl
theorem dX6_line_27 : decode cX6_line 27 = .ok (.iload_n 1, 1) := dAt dlX6_line_0 16 rfl
theorem dX6_line_28 : decode cX6_line 28 = .ok (.iload_n 2, 1) := dAt dlX6_line_0 17 rfl
theorem dX6_line_29 : decode cX6_line 29 = .ok (.iload_n 3, 1) := dAt dlX6_line_0 18 rfl
theorem dX6_line_30 : decode cX6_line 30 = .ok (.invokevirtual 85, 3) := dAt dlX6_line_0 19 rfl
theorem dX6_line_33 : decode cX6_line 33 = .ok (.iload 4, 2) := dAt dlX6_line_0 20 rfl
theorem dX6_line_35 : decode cX6_line 35 = .ok (.if_icmp .ne 6, 3) := dAt dlX6_line_0 21 rfl
theorem dX6_line_38 : decode cX6_line 38 = .ok (.bipush (-3), 2) := dAt dlX6_line_0 22 rfl
theorem dX6_line_40 : decode cX6_line 40 = .ok (.ireturn, 1) := dAt dlX6_line_0 23 rfl
theorem dX6_line_41 : decode cX6_line 41 = .ok (.aload_n 0, 1) := dAt dlX6_line_0 24 rfl
theorem dX6_line_42 : decode cX6_line 42 = .ok (.getfield 13, 3) := dAt dlX6_line_0 25 rfl
theorem dX6_line_45 : decode cX6_line 45 = .ok (.bipush 10, 2) := dAt dlX6_line_0 26 rfl
theorem dX6_line_47 : decode cX6_line 47 = .ok (.iload_n 1, 1) := dAt dlX6_line_0 27 rfl
theorem dX6_line_48 : decode cX6_line 48 = .ok (.imul, 1) := dAt dlX6_line_0 28 rfl
theorem dX6_line_49 : decode cX6_line 49 = .ok (.iload_n 2, 1) := dAt dlX6_line_0 29 rfl
theorem dX6_line_50 : decode cX6_line 50 = .ok (.iadd, 1) := dAt dlX6_line_0 30 rfl
theorem dX6_line_51 : decode cX6_line 51 = .ok (.dup2, 1) := dAt dlX6_line_0 31 rfl
theorem dX6_line_52 : decode cX6_line 52 = .ok (.iaload, 1) := dAt dlX6_line_0 32 rfl
theorem dX6_line_53 : decode cX6_line 53 = .ok (.iconst 1, 1) := dAt dlX6_line_0 33 rfl
theorem dX6_line_54 : decode cX6_line 54 = .ok (.iload_n 3, 1) := dAt dlX6_line_0 34 rfl
theorem dX6_line_55 : decode cX6_line 55 = .ok (.ishl, 1) := dAt dlX6_line_0 35 rfl
theorem dX6_line_56 : decode cX6_line 56 = .ok (.ixor, 1) := dAt dlX6_line_0 36 rfl
theorem dX6_line_57 : decode cX6_line 57 = .ok (.iastore, 1) := dAt dlX6_line_0 37 rfl
theorem dX6_line_58 : decode cX6_line 58 = .ok (.aload_n 0, 1) := dAt dlX6_line_0 38 rfl
theorem dX6_line_59 : decode cX6_line 59 = .ok (.getfield 13, 3) := dAt dlX6_line_0 39 rfl
theorem dX6_line_62 : decode cX6_line 62 = .ok (.bipush 10, 2) := dAt dlX6_line_0 40 rfl
theorem dX6_line_64 : decode cX6_line 64 = .ok (.iload_n 1, 1) := dAt dlX6_line_0 41 rfl
theorem dX6_line_65 : decode cX6_line 65 = .ok (.imul, 1) := dAt dlX6_line_0 42 rfl
theorem dX6_line_66 : decode cX6_line 66 = .ok (.iload_n 3, 1) := dAt dlX6_line_0 43 rfl
theorem dX6_line_67 : decode cX6_line 67 = .ok (.iadd, 1) := dAt dlX6_line_0 44 rfl
theorem dX6_line_68 : decode cX6_line 68 = .ok (.dup2, 1) := dAt dlX6_line_0 45 rfl
theorem dX6_line_69 : decode cX6_line 69 = .ok (.iaload, 1) := dAt dlX6_line_0 46 rfl
theorem dX6_line_70 : decode cX6_line 70 = .ok (.iconst 1, 1) := dAt dlX6_line_0 47 rfl
theorem dX6_line_71 : decode cX6_line 71 = .ok (.iload_n 2, 1) := dAt dlX6_line_0 48 rfl
theorem dX6_line_72 : decode cX6_line 72 = .ok (.ishl, 1) := dAt dlX6_line_0 49 rfl
theorem dX6_line_73 : decode cX6_line 73 = .ok (.ixor, 1) := dAt dlX6_line_0 50 rfl
theorem dX6_line_74 : decode cX6_line 74 = .ok (.iastore, 1) := dAt dlX6_line_0 51 rfl
theorem dX6_line_75 : decode cX6_line 75 = .ok (.iconst 1, 1) := dAt dlX6_line_0 52 rfl
theorem dX6_line_76 : decode cX6_line 76 = .ok (.ireturn, 1) := dAt dlX6_line_0 53 rfl
def ilX6_ring_0 : List (Nat × Instr × Nat) := [(0, .iload_n 1, 1), (1, .invokestatic 69, 3), (4, .ifCond .eq 28, 3), (7, .iload_n 2, 1), (8, .iconst 1, 1), (9, .bipush 10, 2), (11, .invokestatic 65, 3), (14, .ifCond .eq 18, 3), (17, .iload_n 3, 1), (18, .iconst 0, 1), (19, .iconst 1, 1), (20, .iload_n 2, 1), (21, .iconst 2, 1), (22, .idiv, 1), (23, .ishl, 1), (24, .iconst 1, 1), (25, .isub, 1), (26, .invokestatic 65, 3), (29, .ifCond .ne 6, 3), (32, .bipush (-2), 2), (34, .ireturn, 1), (35, .aload_n 0, 1), (36, .iload_n 1, 1), (37, .iload_n 2, 1), (38, .invokevirtual 77, 3), (41, .iconst 1, 1), (42, .istore 4, 2), (44, .iload 4, 2), (46, .iload_n 2, 1), (47, .iconst 2, 1), (48, .idiv, 1), (49, .if_icmp .gt 50, 3), (52, .iconst 0, 1), (53, .istore 5, 2), (55, .iload 5, 2), (57, .iload_n 2, 1), (58, .if_icmp .ge 35, 3), (61, .iload_n 3, 1), (62, .iload 4, 2), (64, .iconst 1, 1), (65, .isub, 1), (66, .ishr, 1), (67, .iconst 1, 1), (68, .iand, 1), (69, .iconst 1, 1), (70, .if_icmp .ne 23, 3), (73, .aload_n 0, 1), (74, .iload_n 1, 1), (75, .iload 5, 2), (77, .iload 5, 2), (79, .iload 4, 2), (81, .iadd, 1), (82, .iload_n 2, 1), (83, .irem, 1), (84, .invokevirtual 88, 3), (87, .iinc 5 1, 3), (90, .goto (-35), 3), (93, .iinc 4 1, 3), (96, .goto (-52), 3), (99, .aload_n 0, 1)]
theorem dlX6_ring_0 : dOK cX6_ring ilX6_ring_0 = true := by decide +kernel
theorem dX6_ring_0 : decode cX6_ring 0 = .ok (.iload_n 1, 1) := dAt dlX6_ring_0 0 rfl
theorem dX6_ring_1 : decode cX6_ring 1 = .ok (.invokestatic 69, 3) := dAt dlX6_ring_0 1 rfl
theorem dX6_ring_4 : decode cX6_ring 4 = .ok (.ifCond .eq 28, 3) := dAt dlX6_ring_0 2 rfl
theorem dX6_ring_7 : decode cX6_ring 7 = .ok (.iload_n 2, 1) := dAt dlX6_ring_0 3 rfl
theorem dX6_ring_8 : decode cX6_ring 8 = .ok (.iconst 1, 1) := dAt dlX6_ring_0 4 rfl
theorem dX6_ring_9 : decode cX6_ring 9 = .ok (.bipush 10, 2) := dAt dlX6_ring_0 5 rfl
theorem dX6_ring_11 : decode cX6_ring 11 = .ok (.invokestatic 65, 3) := dAt dlX6_ring_0 6 rfl
theorem dX6_ring_14 : decode cX6_ring 14 = .ok (.ifCond .eq 18, 3) := dAt dlX6_ring_0 7 rfl
theorem dX6_ring_17 : decode cX6_ring 17 = .ok (.iload_n 3, 1) := dAt dlX6_ring_0 8 rfl
theorem dX6_ring_18 : decode cX6_ring 18 = .ok (.iconst 0, 1) := dAt dlX6_ring_0 9 rfl
theorem dX6_ring_19 : decode cX6_ring 19 = .ok (.iconst 1, 1) := dAt dlX6_ring_0 10 rfl
theorem dX6_ring_20 : decode cX6_ring 20 = .ok (.iload_n 2, 1) := dAt dlX6_ring_0 11 rfl
theorem dX6_ring_21 : decode cX6_ring 21 = .ok (.iconst 2, 1) := dAt dlX6_ring_0 12 rfl
theorem dX6_ring_22 : decode cX6_ring 22 = .ok (.idiv, 1) := dAt dlX6_ring_0 13 rfl
theorem dX6_ring_23 : decode cX6_ring 23 = .ok (.ishl, 1) := dAt dlX6_ring_0 14 rfl
theorem dX6_ring_24 : decode cX6_ring 24 = .ok (.iconst 1, 1) := dAt dlX6_ring_0 15 rfl
theorem dX6_ring_25 : decode cX6_ring 25 = .ok (.isub, 1) := dAt dlX6_ring_0 16 rfl
theorem dX6_ring_26 : decode cX6_ring 26 = .ok (.invokestatic 65, 3) := dAt dlX6_ring_0 17 rfl
theorem dX6_ring_29 : decode cX6_ring 29 = .ok (.ifCond .ne 6, 3) := dAt dlX6_ring_0 18 rfl
theorem dX6_ring_32 : decode cX6_ring 32 = .ok (.bipush (-2), 2) := dAt dlX6_ring_0 19 rfl
theorem dX6_ring_34 : decode cX6_ring 34 = .ok (.ireturn, 1) := dAt dlX6_ring_0 20 rfl
theorem dX6_ring_35 : decode cX6_ring 35 = .ok (.aload_n 0, 1) := dAt dlX6_ring_0 21 rfl
theorem dX6_ring_36 : decode cX6_ring 36 = .ok (.iload_n 1, 1) := dAt dlX6_ring_0 22 rfl
theorem dX6_ring_37 : decode cX6_ring 37 = .ok (.iload_n 2, 1) := dAt dlX6_ring_0 23 rfl
theorem dX6_ring_38 : decode cX6_ring 38 = .ok (.invokevirtual 77, 3) := dAt dlX6_ring_0 24 rfl
theorem dX6_ring_41 : decode cX6_ring 41 = .ok (.iconst 1, 1) := dAt dlX6_ring_0 25 rfl
theorem dX6_ring_42 : decode cX6_ring 42 = .ok (.istore 4, 2) := dAt dlX6_ring_0 26 rfl
theorem dX6_ring_44 : decode cX6_ring 44 = .ok (.iload 4, 2) := dAt dlX6_ring_0 27 rfl
theorem dX6_ring_46 : decode cX6_ring 46 = .ok (.iload_n 2, 1) := dAt dlX6_ring_0 28 rfl
theorem dX6_ring_47 : decode cX6_ring 47 = .ok (.iconst 2, 1) := dAt dlX6_ring_0 29 rfl
theorem dX6_ring_48 : decode cX6_ring 48 = .ok (.idiv, 1) := dAt dlX6_ring_0 30 rfl
theorem dX6_ring_49 : decode cX6_ring 49 = .ok (.if_icmp .gt 50, 3) := dAt dlX6_ring_0 31 rfl
theorem dX6_ring_52 : decode cX6_ring 52 = .ok (.iconst 0, 1) := dAt dlX6_ring_0 32 rfl
theorem dX6_ring_53 : decode cX6_ring 53 = .ok (.istore 5, 2) := dAt dlX6_ring_0 33 rfl
theorem dX6_ring_55 : decode cX6_ring 55 = .ok (.iload 5, 2) := dAt dlX6_ring_0 34 rfl
theorem dX6_ring_57 : decode cX6_ring 57 = .ok (.iload_n 2, 1) := dAt dlX6_ring_0 35 rfl
theorem dX6_ring_58 : decode cX6_ring 58 = .ok (.if_icmp .ge 35, 3) := dAt dlX6_ring_0 36 rfl
theorem dX6_ring_61 : decode cX6_ring 61 = .ok (.iload_n 3, 1) := dAt dlX6_ring_0 37 rfl
theorem dX6_ring_62 : decode cX6_ring 62 = .ok (.iload 4, 2) := dAt dlX6_ring_0 38 rfl
theorem dX6_ring_64 : decode cX6_ring 64 = .ok (.iconst 1, 1) := dAt dlX6_ring_0 39 rfl
theorem dX6_ring_65 : decode cX6_ring 65 = .ok (.isub, 1) := dAt dlX6_ring_0 40 rfl
theorem dX6_ring_66 : decode cX6_ring 66 = .ok (.ishr, 1) := dAt dlX6_ring_0 41 rfl
theorem dX6_ring_67 : decode cX6_ring 67 = .ok (.iconst 1, 1) := dAt dlX6_ring_0 42 rfl
theorem dX6_ring_68 : decode cX6_ring 68 = .ok (.iand, 1) := dAt dlX6_ring_0 43 rfl
theorem dX6_ring_69 : decode cX6_ring 69 = .ok (.iconst 1, 1) := dAt dlX6_ring_0 44 rfl
theorem dX6_ring_70 : decode cX6_ring 70 = .ok (.if_icmp .ne 23, 3) := dAt dlX6_ring_0 45 rfl
theorem dX6_ring_73 : decode cX6_ring 73 = .ok (.aload_n 0, 1) := dAt dlX6_ring_0 46 rfl
theorem dX6_ring_74 : decode cX6_ring 74 = .ok (.iload_n 1, 1) := dAt dlX6_ring_0 47 rfl
theorem dX6_ring_75 : decode cX6_ring 75 = .ok (.iload 5, 2) := dAt dlX6_ring_0 48 rfl
theorem dX6_ring_77 : decode cX6_ring 77 = .ok (.iload 5, 2) := dAt dlX6_ring_0 49 rfl
theorem dX6_ring_79 : decode cX6_ring 79 = .ok (.iload 4, 2) := dAt dlX6_ring_0 50 rfl
theorem dX6_ring_81 : decode cX6_ring 81 = .ok (.iadd, 1) := dAt dlX6_ring_0 51 rfl
theorem dX6_ring_82 : decode cX6_ring 82 = .ok (.iload_n 2, 1) := dAt dlX6_ring_0 52 rfl
theorem dX6_ring_83 : decode cX6_ring 83 = .ok (.irem, 1) := dAt dlX6_ring_0 53 rfl
theorem dX6_ring_84 : decode cX6_ring 84 = .ok (.invokevirtual 88, 3) := dAt dlX6_ring_0 54 rfl
theorem dX6_ring_87 : decode cX6_ring 87 = .ok (.iinc 5 1, 3) := dAt dlX6_ring_0 55 rfl
theorem dX6_ring_90 : decode cX6_ring 90 = .ok (.goto (-35), 3) := dAt dlX6_ring_0 56 rfl
theorem dX6_ring_93 : decode cX6_ring 93 = .ok (.iinc 4 1, 3) := dAt dlX6_ring_0 57 rfl
theorem dX6_ring_96 : decode cX6_ring 96 = .ok (.goto (-52), 3) := dAt dlX6_ring_0 58 rfl
theorem dX6_ring_99 : decode cX6_ring 99 = .ok (.aload_n 0, 1) := dAt dlX6_ring_0 59 rfl
def ilX6_ring_1 : List (Nat × Instr × Nat) := [(100, .iload_n 1, 1), (101, .invokevirtual 92, 3), (104, .ireturn, 1)]
theorem dlX6_ring_1 : dOK cX6_ring ilX6_ring_1 = true := by decide +kernel
theorem dX6_ring_100 : decode cX6_ring 100 = .ok (.iload_n 1, 1) := dAt dlX6_ring_1 0 rfl
theorem dX6_ring_101 : decode cX6_ring 101 = .ok (.invokevirtual 92, 3) := dAt dlX6_ring_1 1 rfl
theorem dX6_ring_104 : decode cX6_ring 104 = .ok (.ireturn, 1) := dAt dlX6_ring_1 2 rfl
def ilX6_product_0 : List (Nat × Instr × Nat) := [(0, .iload_n 1, 1), (1, .invokestatic 69, 3), (4, .ifCond .eq 17, 3), (7, .iload_n 2, 1), (8, .invokestatic 69, 3), (11, .ifCond .eq 10, 3), (14, .iload_n 3, 1), (15, .invokestatic 69, 3), (18, .ifCond .ne 6, 3), (21, .bipush (-2), 2), (23, .ireturn, 1), (24, .aload_n 0, 1), (25, .getfield 7, 3), (28, .iload_n 1, 1), (29, .iaload, 1), (30, .istore 4, 2), (32, .aload_n 0, 1), (33, .getfield 7, 3), (36, .iload_n 2, 1), (37, .iaload, 1), (38, .istore 5, 2), (40, .iload 4, 2), (42, .iload 5, 2), (44, .imul, 1), (45, .bipush 10, 2), (47, .if_icmp .le 6, 3), (50, .bipush (-3), 2), (52, .ireturn, 1), (53, .iconst 0, 1), (54, .istore 6, 2), (56, .iload 6, 2), (58, .bipush 10, 2), (60, .if_icmp .ge 47, 3), (63, .aload_n 0, 1), (64, .getfield 16, 3), (67, .iload 6, 2), (69, .aload_n 0, 1), (70, .getfield 13, 3), (73, .bipush 10, 2), (75, .iload_n 1, 1), (76, .imul, 1), (77, .iload 6, 2), (79, .iadd, 1), (80, .iaload, 1), (81, .iastore, 1), (82, .aload_n 0, 1), (83, .getfield 19, 3), (86, .iload 6, 2), (88, .aload_n 0, 1), (89, .getfield 13, 3), (92, .bipush 10, 2), (94, .iload_n 2, 1), (95, .imul, 1), (96, .iload 6, 2), (98, .iadd, 1), (99, .iaload, 1), (100, .iastore, 1), (101, .iinc 6 1, 3), (104, .goto (-48), 3), (107, .aload_n 0, 1)]
theorem dlX6_product_0 : dOK cX6_product ilX6_product_0 = true := by decide +kernel
theorem dX6_product_0 : decode cX6_product 0 = .ok (.iload_n 1, 1) := dAt dlX6_product_0 0 rfl
theorem dX6_product_1 : decode cX6_product 1 = .ok (.invokestatic 69, 3) := dAt dlX6_product_0 1 rfl
theorem dX6_product_4 : decode cX6_product 4 = .ok (.ifCond .eq 17, 3) := dAt dlX6_product_0 2 rfl
theorem dX6_product_7 : decode cX6_product 7 = .ok (.iload_n 2, 1) := dAt dlX6_product_0 3 rfl
theorem dX6_product_8 : decode cX6_product 8 = .ok (.invokestatic 69, 3) := dAt dlX6_product_0 4 rfl
theorem dX6_product_11 : decode cX6_product 11 = .ok (.ifCond .eq 10, 3) := dAt dlX6_product_0 5 rfl
theorem dX6_product_14 : decode cX6_product 14 = .ok (.iload_n 3, 1) := dAt dlX6_product_0 6 rfl
theorem dX6_product_15 : decode cX6_product 15 = .ok (.invokestatic 69, 3) := dAt dlX6_product_0 7 rfl
theorem dX6_product_18 : decode cX6_product 18 = .ok (.ifCond .ne 6, 3) := dAt dlX6_product_0 8 rfl
theorem dX6_product_21 : decode cX6_product 21 = .ok (.bipush (-2), 2) := dAt dlX6_product_0 9 rfl
theorem dX6_product_23 : decode cX6_product 23 = .ok (.ireturn, 1) := dAt dlX6_product_0 10 rfl
theorem dX6_product_24 : decode cX6_product 24 = .ok (.aload_n 0, 1) := dAt dlX6_product_0 11 rfl
theorem dX6_product_25 : decode cX6_product 25 = .ok (.getfield 7, 3) := dAt dlX6_product_0 12 rfl
theorem dX6_product_28 : decode cX6_product 28 = .ok (.iload_n 1, 1) := dAt dlX6_product_0 13 rfl
theorem dX6_product_29 : decode cX6_product 29 = .ok (.iaload, 1) := dAt dlX6_product_0 14 rfl
theorem dX6_product_30 : decode cX6_product 30 = .ok (.istore 4, 2) := dAt dlX6_product_0 15 rfl
theorem dX6_product_32 : decode cX6_product 32 = .ok (.aload_n 0, 1) := dAt dlX6_product_0 16 rfl
theorem dX6_product_33 : decode cX6_product 33 = .ok (.getfield 7, 3) := dAt dlX6_product_0 17 rfl
theorem dX6_product_36 : decode cX6_product 36 = .ok (.iload_n 2, 1) := dAt dlX6_product_0 18 rfl
theorem dX6_product_37 : decode cX6_product 37 = .ok (.iaload, 1) := dAt dlX6_product_0 19 rfl
theorem dX6_product_38 : decode cX6_product 38 = .ok (.istore 5, 2) := dAt dlX6_product_0 20 rfl
theorem dX6_product_40 : decode cX6_product 40 = .ok (.iload 4, 2) := dAt dlX6_product_0 21 rfl
theorem dX6_product_42 : decode cX6_product 42 = .ok (.iload 5, 2) := dAt dlX6_product_0 22 rfl
theorem dX6_product_44 : decode cX6_product 44 = .ok (.imul, 1) := dAt dlX6_product_0 23 rfl
theorem dX6_product_45 : decode cX6_product 45 = .ok (.bipush 10, 2) := dAt dlX6_product_0 24 rfl
theorem dX6_product_47 : decode cX6_product 47 = .ok (.if_icmp .le 6, 3) := dAt dlX6_product_0 25 rfl
theorem dX6_product_50 : decode cX6_product 50 = .ok (.bipush (-3), 2) := dAt dlX6_product_0 26 rfl
theorem dX6_product_52 : decode cX6_product 52 = .ok (.ireturn, 1) := dAt dlX6_product_0 27 rfl
theorem dX6_product_53 : decode cX6_product 53 = .ok (.iconst 0, 1) := dAt dlX6_product_0 28 rfl
theorem dX6_product_54 : decode cX6_product 54 = .ok (.istore 6, 2) := dAt dlX6_product_0 29 rfl
theorem dX6_product_56 : decode cX6_product 56 = .ok (.iload 6, 2) := dAt dlX6_product_0 30 rfl
theorem dX6_product_58 : decode cX6_product 58 = .ok (.bipush 10, 2) := dAt dlX6_product_0 31 rfl
theorem dX6_product_60 : decode cX6_product 60 = .ok (.if_icmp .ge 47, 3) := dAt dlX6_product_0 32 rfl
theorem dX6_product_63 : decode cX6_product 63 = .ok (.aload_n 0, 1) := dAt dlX6_product_0 33 rfl
theorem dX6_product_64 : decode cX6_product 64 = .ok (.getfield 16, 3) := dAt dlX6_product_0 34 rfl
theorem dX6_product_67 : decode cX6_product 67 = .ok (.iload 6, 2) := dAt dlX6_product_0 35 rfl
theorem dX6_product_69 : decode cX6_product 69 = .ok (.aload_n 0, 1) := dAt dlX6_product_0 36 rfl
theorem dX6_product_70 : decode cX6_product 70 = .ok (.getfield 13, 3) := dAt dlX6_product_0 37 rfl
theorem dX6_product_73 : decode cX6_product 73 = .ok (.bipush 10, 2) := dAt dlX6_product_0 38 rfl
theorem dX6_product_75 : decode cX6_product 75 = .ok (.iload_n 1, 1) := dAt dlX6_product_0 39 rfl
theorem dX6_product_76 : decode cX6_product 76 = .ok (.imul, 1) := dAt dlX6_product_0 40 rfl
theorem dX6_product_77 : decode cX6_product 77 = .ok (.iload 6, 2) := dAt dlX6_product_0 41 rfl
theorem dX6_product_79 : decode cX6_product 79 = .ok (.iadd, 1) := dAt dlX6_product_0 42 rfl
theorem dX6_product_80 : decode cX6_product 80 = .ok (.iaload, 1) := dAt dlX6_product_0 43 rfl
theorem dX6_product_81 : decode cX6_product 81 = .ok (.iastore, 1) := dAt dlX6_product_0 44 rfl
theorem dX6_product_82 : decode cX6_product 82 = .ok (.aload_n 0, 1) := dAt dlX6_product_0 45 rfl
theorem dX6_product_83 : decode cX6_product 83 = .ok (.getfield 19, 3) := dAt dlX6_product_0 46 rfl
theorem dX6_product_86 : decode cX6_product 86 = .ok (.iload 6, 2) := dAt dlX6_product_0 47 rfl
theorem dX6_product_88 : decode cX6_product 88 = .ok (.aload_n 0, 1) := dAt dlX6_product_0 48 rfl
theorem dX6_product_89 : decode cX6_product 89 = .ok (.getfield 13, 3) := dAt dlX6_product_0 49 rfl
theorem dX6_product_92 : decode cX6_product 92 = .ok (.bipush 10, 2) := dAt dlX6_product_0 50 rfl
theorem dX6_product_94 : decode cX6_product 94 = .ok (.iload_n 2, 1) := dAt dlX6_product_0 51 rfl
theorem dX6_product_95 : decode cX6_product 95 = .ok (.imul, 1) := dAt dlX6_product_0 52 rfl
theorem dX6_product_96 : decode cX6_product 96 = .ok (.iload 6, 2) := dAt dlX6_product_0 53 rfl
theorem dX6_product_98 : decode cX6_product 98 = .ok (.iadd, 1) := dAt dlX6_product_0 54 rfl
theorem dX6_product_99 : decode cX6_product 99 = .ok (.iaload, 1) := dAt dlX6_product_0 55 rfl
theorem dX6_product_100 : decode cX6_product 100 = .ok (.iastore, 1) := dAt dlX6_product_0 56 rfl
theorem dX6_product_101 : decode cX6_product 101 = .ok (.iinc 6 1, 3) := dAt dlX6_product_0 57 rfl
theorem dX6_product_104 : decode cX6_product 104 = .ok (.goto (-48), 3) := dAt dlX6_product_0 58 rfl
theorem dX6_product_107 : decode cX6_product 107 = .ok (.aload_n 0, 1) := dAt dlX6_product_0 59 rfl
def ilX6_product_1 : List (Nat × Instr × Nat) := [(108, .iload_n 3, 1), (109, .iload 4, 2), (111, .iload 5, 2), (113, .imul, 1), (114, .invokevirtual 77, 3), (117, .iconst 0, 1), (118, .istore 6, 2), (120, .iload 6, 2), (122, .iload 4, 2), (124, .iload 5, 2), (126, .imul, 1), (127, .if_icmp .ge 131, 3), (130, .iconst 0, 1), (131, .istore 7, 2), (133, .iload 7, 2), (135, .iload 4, 2), (137, .iload 5, 2), (139, .imul, 1), (140, .if_icmp .ge 112, 3), (143, .iload 6, 2), (145, .iload 5, 2), (147, .idiv, 1), (148, .iload 7, 2), (150, .iload 5, 2), (152, .idiv, 1), (153, .if_icmp .ne 29, 3), (156, .aload_n 0, 1), (157, .getfield 19, 3), (160, .iload 6, 2), (162, .iload 5, 2), (164, .irem, 1), (165, .iaload, 1), (166, .iload 7, 2), (168, .iload 5, 2), (170, .irem, 1), (171, .ishr, 1), (172, .iconst 1, 1), (173, .iand, 1), (174, .iconst 1, 1), (175, .if_icmp .ne 7, 3), (178, .iconst 1, 1), (179, .goto 4, 3), (182, .iconst 0, 1), (183, .istore 8, 2), (185, .iload 6, 2), (187, .iload 5, 2), (189, .irem, 1), (190, .iload 7, 2), (192, .iload 5, 2), (194, .irem, 1), (195, .if_icmp .ne 29, 3), (198, .aload_n 0, 1), (199, .getfield 16, 3), (202, .iload 6, 2), (204, .iload 5, 2), (206, .idiv, 1), (207, .iaload, 1), (208, .iload 7, 2), (210, .iload 5, 2), (212, .idiv, 1)]
theorem dlX6_product_1 : dOK cX6_product ilX6_product_1 = true := by decide +kernel
theorem dX6_product_108 : decode cX6_product 108 = .ok (.iload_n 3, 1) := dAt dlX6_product_1 0 rfl
theorem dX6_product_109 : decode cX6_product 109 = .ok (.iload 4, 2) := dAt dlX6_product_1 1 rfl
theorem dX6_product_111 : decode cX6_product 111 = .ok (.iload 5, 2) := dAt dlX6_product_1 2 rfl
theorem dX6_product_113 : decode cX6_product 113 = .ok (.imul, 1) := dAt dlX6_product_1 3 rfl
theorem dX6_product_114 : decode cX6_product 114 = .ok (.invokevirtual 77, 3) := dAt dlX6_product_1 4 rfl
theorem dX6_product_117 : decode cX6_product 117 = .ok (.iconst 0, 1) := dAt dlX6_product_1 5 rfl
theorem dX6_product_118 : decode cX6_product 118 = .ok (.istore 6, 2) := dAt dlX6_product_1 6 rfl
theorem dX6_product_120 : decode cX6_product 120 = .ok (.iload 6, 2) := dAt dlX6_product_1 7 rfl
theorem dX6_product_122 : decode cX6_product 122 = .ok (.iload 4, 2) := dAt dlX6_product_1 8 rfl
theorem dX6_product_124 : decode cX6_product 124 = .ok (.iload 5, 2) := dAt dlX6_product_1 9 rfl
theorem dX6_product_126 : decode cX6_product 126 = .ok (.imul, 1) := dAt dlX6_product_1 10 rfl
theorem dX6_product_127 : decode cX6_product 127 = .ok (.if_icmp .ge 131, 3) := dAt dlX6_product_1 11 rfl
theorem dX6_product_130 : decode cX6_product 130 = .ok (.iconst 0, 1) := dAt dlX6_product_1 12 rfl
theorem dX6_product_131 : decode cX6_product 131 = .ok (.istore 7, 2) := dAt dlX6_product_1 13 rfl
theorem dX6_product_133 : decode cX6_product 133 = .ok (.iload 7, 2) := dAt dlX6_product_1 14 rfl
theorem dX6_product_135 : decode cX6_product 135 = .ok (.iload 4, 2) := dAt dlX6_product_1 15 rfl
theorem dX6_product_137 : decode cX6_product 137 = .ok (.iload 5, 2) := dAt dlX6_product_1 16 rfl
theorem dX6_product_139 : decode cX6_product 139 = .ok (.imul, 1) := dAt dlX6_product_1 17 rfl
theorem dX6_product_140 : decode cX6_product 140 = .ok (.if_icmp .ge 112, 3) := dAt dlX6_product_1 18 rfl
theorem dX6_product_143 : decode cX6_product 143 = .ok (.iload 6, 2) := dAt dlX6_product_1 19 rfl
theorem dX6_product_145 : decode cX6_product 145 = .ok (.iload 5, 2) := dAt dlX6_product_1 20 rfl
theorem dX6_product_147 : decode cX6_product 147 = .ok (.idiv, 1) := dAt dlX6_product_1 21 rfl
theorem dX6_product_148 : decode cX6_product 148 = .ok (.iload 7, 2) := dAt dlX6_product_1 22 rfl
theorem dX6_product_150 : decode cX6_product 150 = .ok (.iload 5, 2) := dAt dlX6_product_1 23 rfl
theorem dX6_product_152 : decode cX6_product 152 = .ok (.idiv, 1) := dAt dlX6_product_1 24 rfl
theorem dX6_product_153 : decode cX6_product 153 = .ok (.if_icmp .ne 29, 3) := dAt dlX6_product_1 25 rfl
theorem dX6_product_156 : decode cX6_product 156 = .ok (.aload_n 0, 1) := dAt dlX6_product_1 26 rfl
theorem dX6_product_157 : decode cX6_product 157 = .ok (.getfield 19, 3) := dAt dlX6_product_1 27 rfl
theorem dX6_product_160 : decode cX6_product 160 = .ok (.iload 6, 2) := dAt dlX6_product_1 28 rfl
theorem dX6_product_162 : decode cX6_product 162 = .ok (.iload 5, 2) := dAt dlX6_product_1 29 rfl
theorem dX6_product_164 : decode cX6_product 164 = .ok (.irem, 1) := dAt dlX6_product_1 30 rfl
theorem dX6_product_165 : decode cX6_product 165 = .ok (.iaload, 1) := dAt dlX6_product_1 31 rfl
theorem dX6_product_166 : decode cX6_product 166 = .ok (.iload 7, 2) := dAt dlX6_product_1 32 rfl
theorem dX6_product_168 : decode cX6_product 168 = .ok (.iload 5, 2) := dAt dlX6_product_1 33 rfl
theorem dX6_product_170 : decode cX6_product 170 = .ok (.irem, 1) := dAt dlX6_product_1 34 rfl
theorem dX6_product_171 : decode cX6_product 171 = .ok (.ishr, 1) := dAt dlX6_product_1 35 rfl
theorem dX6_product_172 : decode cX6_product 172 = .ok (.iconst 1, 1) := dAt dlX6_product_1 36 rfl
theorem dX6_product_173 : decode cX6_product 173 = .ok (.iand, 1) := dAt dlX6_product_1 37 rfl
theorem dX6_product_174 : decode cX6_product 174 = .ok (.iconst 1, 1) := dAt dlX6_product_1 38 rfl
theorem dX6_product_175 : decode cX6_product 175 = .ok (.if_icmp .ne 7, 3) := dAt dlX6_product_1 39 rfl
theorem dX6_product_178 : decode cX6_product 178 = .ok (.iconst 1, 1) := dAt dlX6_product_1 40 rfl
theorem dX6_product_179 : decode cX6_product 179 = .ok (.goto 4, 3) := dAt dlX6_product_1 41 rfl
theorem dX6_product_182 : decode cX6_product 182 = .ok (.iconst 0, 1) := dAt dlX6_product_1 42 rfl
theorem dX6_product_183 : decode cX6_product 183 = .ok (.istore 8, 2) := dAt dlX6_product_1 43 rfl
theorem dX6_product_185 : decode cX6_product 185 = .ok (.iload 6, 2) := dAt dlX6_product_1 44 rfl
theorem dX6_product_187 : decode cX6_product 187 = .ok (.iload 5, 2) := dAt dlX6_product_1 45 rfl
theorem dX6_product_189 : decode cX6_product 189 = .ok (.irem, 1) := dAt dlX6_product_1 46 rfl
theorem dX6_product_190 : decode cX6_product 190 = .ok (.iload 7, 2) := dAt dlX6_product_1 47 rfl
theorem dX6_product_192 : decode cX6_product 192 = .ok (.iload 5, 2) := dAt dlX6_product_1 48 rfl
theorem dX6_product_194 : decode cX6_product 194 = .ok (.irem, 1) := dAt dlX6_product_1 49 rfl
theorem dX6_product_195 : decode cX6_product 195 = .ok (.if_icmp .ne 29, 3) := dAt dlX6_product_1 50 rfl
theorem dX6_product_198 : decode cX6_product 198 = .ok (.aload_n 0, 1) := dAt dlX6_product_1 51 rfl
theorem dX6_product_199 : decode cX6_product 199 = .ok (.getfield 16, 3) := dAt dlX6_product_1 52 rfl
theorem dX6_product_202 : decode cX6_product 202 = .ok (.iload 6, 2) := dAt dlX6_product_1 53 rfl
theorem dX6_product_204 : decode cX6_product 204 = .ok (.iload 5, 2) := dAt dlX6_product_1 54 rfl
theorem dX6_product_206 : decode cX6_product 206 = .ok (.idiv, 1) := dAt dlX6_product_1 55 rfl
theorem dX6_product_207 : decode cX6_product 207 = .ok (.iaload, 1) := dAt dlX6_product_1 56 rfl
theorem dX6_product_208 : decode cX6_product 208 = .ok (.iload 7, 2) := dAt dlX6_product_1 57 rfl
theorem dX6_product_210 : decode cX6_product 210 = .ok (.iload 5, 2) := dAt dlX6_product_1 58 rfl
theorem dX6_product_212 : decode cX6_product 212 = .ok (.idiv, 1) := dAt dlX6_product_1 59 rfl
def ilX6_product_2 : List (Nat × Instr × Nat) := [(213, .ishr, 1), (214, .iconst 1, 1), (215, .iand, 1), (216, .iconst 1, 1), (217, .if_icmp .ne 7, 3), (220, .iconst 1, 1), (221, .goto 4, 3), (224, .iconst 0, 1), (225, .istore 9, 2), (227, .iload 8, 2), (229, .ifCond .ne 8, 3), (232, .iload 9, 2), (234, .ifCond .eq 12, 3), (237, .aload_n 0, 1), (238, .iload_n 3, 1), (239, .iload 6, 2), (241, .iload 7, 2), (243, .invokevirtual 88, 3), (246, .iinc 7 1, 3), (249, .goto (-116), 3), (252, .iinc 6 1, 3), (255, .goto (-135), 3), (258, .iload 4, 2), (260, .iload 5, 2), (262, .imul, 1), (263, .ireturn, 1)]
theorem dlX6_product_2 : dOK cX6_product ilX6_product_2 = true := by decide +kernel
theorem dX6_product_213 : decode cX6_product 213 = .ok (.ishr, 1) := dAt dlX6_product_2 0 rfl
theorem dX6_product_214 : decode cX6_product 214 = .ok (.iconst 1, 1) := dAt dlX6_product_2 1 rfl
theorem dX6_product_215 : decode cX6_product 215 = .ok (.iand, 1) := dAt dlX6_product_2 2 rfl
theorem dX6_product_216 : decode cX6_product 216 = .ok (.iconst 1, 1) := dAt dlX6_product_2 3 rfl
theorem dX6_product_217 : decode cX6_product 217 = .ok (.if_icmp .ne 7, 3) := dAt dlX6_product_2 4 rfl
theorem dX6_product_220 : decode cX6_product 220 = .ok (.iconst 1, 1) := dAt dlX6_product_2 5 rfl
theorem dX6_product_221 : decode cX6_product 221 = .ok (.goto 4, 3) := dAt dlX6_product_2 6 rfl
theorem dX6_product_224 : decode cX6_product 224 = .ok (.iconst 0, 1) := dAt dlX6_product_2 7 rfl
theorem dX6_product_225 : decode cX6_product 225 = .ok (.istore 9, 2) := dAt dlX6_product_2 8 rfl
theorem dX6_product_227 : decode cX6_product 227 = .ok (.iload 8, 2) := dAt dlX6_product_2 9 rfl
theorem dX6_product_229 : decode cX6_product 229 = .ok (.ifCond .ne 8, 3) := dAt dlX6_product_2 10 rfl
theorem dX6_product_232 : decode cX6_product 232 = .ok (.iload 9, 2) := dAt dlX6_product_2 11 rfl
theorem dX6_product_234 : decode cX6_product 234 = .ok (.ifCond .eq 12, 3) := dAt dlX6_product_2 12 rfl
theorem dX6_product_237 : decode cX6_product 237 = .ok (.aload_n 0, 1) := dAt dlX6_product_2 13 rfl
theorem dX6_product_238 : decode cX6_product 238 = .ok (.iload_n 3, 1) := dAt dlX6_product_2 14 rfl
theorem dX6_product_239 : decode cX6_product 239 = .ok (.iload 6, 2) := dAt dlX6_product_2 15 rfl
theorem dX6_product_241 : decode cX6_product 241 = .ok (.iload 7, 2) := dAt dlX6_product_2 16 rfl
theorem dX6_product_243 : decode cX6_product 243 = .ok (.invokevirtual 88, 3) := dAt dlX6_product_2 17 rfl
theorem dX6_product_246 : decode cX6_product 246 = .ok (.iinc 7 1, 3) := dAt dlX6_product_2 18 rfl
theorem dX6_product_249 : decode cX6_product 249 = .ok (.goto (-116), 3) := dAt dlX6_product_2 19 rfl
theorem dX6_product_252 : decode cX6_product 252 = .ok (.iinc 6 1, 3) := dAt dlX6_product_2 20 rfl
theorem dX6_product_255 : decode cX6_product 255 = .ok (.goto (-135), 3) := dAt dlX6_product_2 21 rfl
theorem dX6_product_258 : decode cX6_product 258 = .ok (.iload 4, 2) := dAt dlX6_product_2 22 rfl
theorem dX6_product_260 : decode cX6_product 260 = .ok (.iload 5, 2) := dAt dlX6_product_2 23 rfl
theorem dX6_product_262 : decode cX6_product 262 = .ok (.imul, 1) := dAt dlX6_product_2 24 rfl
theorem dX6_product_263 : decode cX6_product 263 = .ok (.ireturn, 1) := dAt dlX6_product_2 25 rfl
def ilX6_turned_0 : List (Nat × Instr × Nat) := [(0, .iload_n 1, 1), (1, .invokestatic 69, 3), (4, .ifCond .eq 10, 3), (7, .iload_n 2, 1), (8, .invokestatic 69, 3), (11, .ifCond .ne 6, 3), (14, .bipush (-2), 2), (16, .ireturn, 1), (17, .aload_n 0, 1), (18, .getfield 7, 3), (21, .iload_n 1, 1), (22, .iaload, 1), (23, .istore_n 3, 1), (24, .iconst 0, 1), (25, .istore 4, 2), (27, .iload 4, 2), (29, .bipush 10, 2), (31, .if_icmp .ge 28, 3), (34, .aload_n 0, 1), (35, .getfield 16, 3), (38, .iload 4, 2), (40, .aload_n 0, 1), (41, .getfield 13, 3), (44, .bipush 10, 2), (46, .iload_n 1, 1), (47, .imul, 1), (48, .iload 4, 2), (50, .iadd, 1), (51, .iaload, 1), (52, .iastore, 1), (53, .iinc 4 1, 3), (56, .goto (-29), 3), (59, .aload_n 0, 1), (60, .iload_n 2, 1), (61, .iload_n 3, 1), (62, .invokevirtual 77, 3), (65, .iconst 0, 1), (66, .istore 4, 2), (68, .iload 4, 2), (70, .iload_n 3, 1), (71, .if_icmp .ge 43, 3), (74, .aload_n 0, 1), (75, .getfield 13, 3), (78, .bipush 10, 2), (80, .iload_n 2, 1), (81, .imul, 1), (82, .iload 4, 2), (84, .iadd, 1), (85, .iconst 1, 1), (86, .iload_n 3, 1), (87, .ishl, 1), (88, .iconst 1, 1), (89, .isub, 1), (90, .aload_n 0, 1), (91, .getfield 16, 3), (94, .iload 4, 2), (96, .iaload, 1), (97, .iconst (-1), 1), (98, .ixor, 1), (99, .iand, 1)]
theorem dlX6_turned_0 : dOK cX6_turned ilX6_turned_0 = true := by decide +kernel
theorem dX6_turned_0 : decode cX6_turned 0 = .ok (.iload_n 1, 1) := dAt dlX6_turned_0 0 rfl
theorem dX6_turned_1 : decode cX6_turned 1 = .ok (.invokestatic 69, 3) := dAt dlX6_turned_0 1 rfl
theorem dX6_turned_4 : decode cX6_turned 4 = .ok (.ifCond .eq 10, 3) := dAt dlX6_turned_0 2 rfl
theorem dX6_turned_7 : decode cX6_turned 7 = .ok (.iload_n 2, 1) := dAt dlX6_turned_0 3 rfl
theorem dX6_turned_8 : decode cX6_turned 8 = .ok (.invokestatic 69, 3) := dAt dlX6_turned_0 4 rfl
theorem dX6_turned_11 : decode cX6_turned 11 = .ok (.ifCond .ne 6, 3) := dAt dlX6_turned_0 5 rfl
theorem dX6_turned_14 : decode cX6_turned 14 = .ok (.bipush (-2), 2) := dAt dlX6_turned_0 6 rfl
theorem dX6_turned_16 : decode cX6_turned 16 = .ok (.ireturn, 1) := dAt dlX6_turned_0 7 rfl
theorem dX6_turned_17 : decode cX6_turned 17 = .ok (.aload_n 0, 1) := dAt dlX6_turned_0 8 rfl
theorem dX6_turned_18 : decode cX6_turned 18 = .ok (.getfield 7, 3) := dAt dlX6_turned_0 9 rfl
theorem dX6_turned_21 : decode cX6_turned 21 = .ok (.iload_n 1, 1) := dAt dlX6_turned_0 10 rfl
theorem dX6_turned_22 : decode cX6_turned 22 = .ok (.iaload, 1) := dAt dlX6_turned_0 11 rfl
theorem dX6_turned_23 : decode cX6_turned 23 = .ok (.istore_n 3, 1) := dAt dlX6_turned_0 12 rfl
theorem dX6_turned_24 : decode cX6_turned 24 = .ok (.iconst 0, 1) := dAt dlX6_turned_0 13 rfl
theorem dX6_turned_25 : decode cX6_turned 25 = .ok (.istore 4, 2) := dAt dlX6_turned_0 14 rfl
theorem dX6_turned_27 : decode cX6_turned 27 = .ok (.iload 4, 2) := dAt dlX6_turned_0 15 rfl
theorem dX6_turned_29 : decode cX6_turned 29 = .ok (.bipush 10, 2) := dAt dlX6_turned_0 16 rfl
theorem dX6_turned_31 : decode cX6_turned 31 = .ok (.if_icmp .ge 28, 3) := dAt dlX6_turned_0 17 rfl
theorem dX6_turned_34 : decode cX6_turned 34 = .ok (.aload_n 0, 1) := dAt dlX6_turned_0 18 rfl
theorem dX6_turned_35 : decode cX6_turned 35 = .ok (.getfield 16, 3) := dAt dlX6_turned_0 19 rfl
theorem dX6_turned_38 : decode cX6_turned 38 = .ok (.iload 4, 2) := dAt dlX6_turned_0 20 rfl
theorem dX6_turned_40 : decode cX6_turned 40 = .ok (.aload_n 0, 1) := dAt dlX6_turned_0 21 rfl
theorem dX6_turned_41 : decode cX6_turned 41 = .ok (.getfield 13, 3) := dAt dlX6_turned_0 22 rfl
theorem dX6_turned_44 : decode cX6_turned 44 = .ok (.bipush 10, 2) := dAt dlX6_turned_0 23 rfl
theorem dX6_turned_46 : decode cX6_turned 46 = .ok (.iload_n 1, 1) := dAt dlX6_turned_0 24 rfl
theorem dX6_turned_47 : decode cX6_turned 47 = .ok (.imul, 1) := dAt dlX6_turned_0 25 rfl
theorem dX6_turned_48 : decode cX6_turned 48 = .ok (.iload 4, 2) := dAt dlX6_turned_0 26 rfl
theorem dX6_turned_50 : decode cX6_turned 50 = .ok (.iadd, 1) := dAt dlX6_turned_0 27 rfl
theorem dX6_turned_51 : decode cX6_turned 51 = .ok (.iaload, 1) := dAt dlX6_turned_0 28 rfl
theorem dX6_turned_52 : decode cX6_turned 52 = .ok (.iastore, 1) := dAt dlX6_turned_0 29 rfl
theorem dX6_turned_53 : decode cX6_turned 53 = .ok (.iinc 4 1, 3) := dAt dlX6_turned_0 30 rfl
theorem dX6_turned_56 : decode cX6_turned 56 = .ok (.goto (-29), 3) := dAt dlX6_turned_0 31 rfl
theorem dX6_turned_59 : decode cX6_turned 59 = .ok (.aload_n 0, 1) := dAt dlX6_turned_0 32 rfl
theorem dX6_turned_60 : decode cX6_turned 60 = .ok (.iload_n 2, 1) := dAt dlX6_turned_0 33 rfl
theorem dX6_turned_61 : decode cX6_turned 61 = .ok (.iload_n 3, 1) := dAt dlX6_turned_0 34 rfl
theorem dX6_turned_62 : decode cX6_turned 62 = .ok (.invokevirtual 77, 3) := dAt dlX6_turned_0 35 rfl
theorem dX6_turned_65 : decode cX6_turned 65 = .ok (.iconst 0, 1) := dAt dlX6_turned_0 36 rfl
theorem dX6_turned_66 : decode cX6_turned 66 = .ok (.istore 4, 2) := dAt dlX6_turned_0 37 rfl
theorem dX6_turned_68 : decode cX6_turned 68 = .ok (.iload 4, 2) := dAt dlX6_turned_0 38 rfl
theorem dX6_turned_70 : decode cX6_turned 70 = .ok (.iload_n 3, 1) := dAt dlX6_turned_0 39 rfl
theorem dX6_turned_71 : decode cX6_turned 71 = .ok (.if_icmp .ge 43, 3) := dAt dlX6_turned_0 40 rfl
theorem dX6_turned_74 : decode cX6_turned 74 = .ok (.aload_n 0, 1) := dAt dlX6_turned_0 41 rfl
theorem dX6_turned_75 : decode cX6_turned 75 = .ok (.getfield 13, 3) := dAt dlX6_turned_0 42 rfl
theorem dX6_turned_78 : decode cX6_turned 78 = .ok (.bipush 10, 2) := dAt dlX6_turned_0 43 rfl
theorem dX6_turned_80 : decode cX6_turned 80 = .ok (.iload_n 2, 1) := dAt dlX6_turned_0 44 rfl
theorem dX6_turned_81 : decode cX6_turned 81 = .ok (.imul, 1) := dAt dlX6_turned_0 45 rfl
theorem dX6_turned_82 : decode cX6_turned 82 = .ok (.iload 4, 2) := dAt dlX6_turned_0 46 rfl
theorem dX6_turned_84 : decode cX6_turned 84 = .ok (.iadd, 1) := dAt dlX6_turned_0 47 rfl
theorem dX6_turned_85 : decode cX6_turned 85 = .ok (.iconst 1, 1) := dAt dlX6_turned_0 48 rfl
theorem dX6_turned_86 : decode cX6_turned 86 = .ok (.iload_n 3, 1) := dAt dlX6_turned_0 49 rfl
theorem dX6_turned_87 : decode cX6_turned 87 = .ok (.ishl, 1) := dAt dlX6_turned_0 50 rfl
theorem dX6_turned_88 : decode cX6_turned 88 = .ok (.iconst 1, 1) := dAt dlX6_turned_0 51 rfl
theorem dX6_turned_89 : decode cX6_turned 89 = .ok (.isub, 1) := dAt dlX6_turned_0 52 rfl
theorem dX6_turned_90 : decode cX6_turned 90 = .ok (.aload_n 0, 1) := dAt dlX6_turned_0 53 rfl
theorem dX6_turned_91 : decode cX6_turned 91 = .ok (.getfield 16, 3) := dAt dlX6_turned_0 54 rfl
theorem dX6_turned_94 : decode cX6_turned 94 = .ok (.iload 4, 2) := dAt dlX6_turned_0 55 rfl
theorem dX6_turned_96 : decode cX6_turned 96 = .ok (.iaload, 1) := dAt dlX6_turned_0 56 rfl
theorem dX6_turned_97 : decode cX6_turned 97 = .ok (.iconst (-1), 1) := dAt dlX6_turned_0 57 rfl
theorem dX6_turned_98 : decode cX6_turned 98 = .ok (.ixor, 1) := dAt dlX6_turned_0 58 rfl
theorem dX6_turned_99 : decode cX6_turned 99 = .ok (.iand, 1) := dAt dlX6_turned_0 59 rfl
def ilX6_turned_1 : List (Nat × Instr × Nat) := [(100, .iconst 1, 1), (101, .iload 4, 2), (103, .ishl, 1), (104, .iconst (-1), 1), (105, .ixor, 1), (106, .iand, 1), (107, .iastore, 1), (108, .iinc 4 1, 3), (111, .goto (-43), 3), (114, .aload_n 0, 1), (115, .iload_n 2, 1), (116, .invokevirtual 92, 3), (119, .ireturn, 1)]
theorem dlX6_turned_1 : dOK cX6_turned ilX6_turned_1 = true := by decide +kernel
theorem dX6_turned_100 : decode cX6_turned 100 = .ok (.iconst 1, 1) := dAt dlX6_turned_1 0 rfl
theorem dX6_turned_101 : decode cX6_turned 101 = .ok (.iload 4, 2) := dAt dlX6_turned_1 1 rfl
theorem dX6_turned_103 : decode cX6_turned 103 = .ok (.ishl, 1) := dAt dlX6_turned_1 2 rfl
theorem dX6_turned_104 : decode cX6_turned 104 = .ok (.iconst (-1), 1) := dAt dlX6_turned_1 3 rfl
theorem dX6_turned_105 : decode cX6_turned 105 = .ok (.ixor, 1) := dAt dlX6_turned_1 4 rfl
theorem dX6_turned_106 : decode cX6_turned 106 = .ok (.iand, 1) := dAt dlX6_turned_1 5 rfl
theorem dX6_turned_107 : decode cX6_turned 107 = .ok (.iastore, 1) := dAt dlX6_turned_1 6 rfl
theorem dX6_turned_108 : decode cX6_turned 108 = .ok (.iinc 4 1, 3) := dAt dlX6_turned_1 7 rfl
theorem dX6_turned_111 : decode cX6_turned 111 = .ok (.goto (-43), 3) := dAt dlX6_turned_1 8 rfl
theorem dX6_turned_114 : decode cX6_turned 114 = .ok (.aload_n 0, 1) := dAt dlX6_turned_1 9 rfl
theorem dX6_turned_115 : decode cX6_turned 115 = .ok (.iload_n 2, 1) := dAt dlX6_turned_1 10 rfl
theorem dX6_turned_116 : decode cX6_turned 116 = .ok (.invokevirtual 92, 3) := dAt dlX6_turned_1 11 rfl
theorem dX6_turned_119 : decode cX6_turned 119 = .ok (.ireturn, 1) := dAt dlX6_turned_1 12 rfl
def ilX6_degreeOf_0 : List (Nat × Instr × Nat) := [(0, .aload_n 0, 1), (1, .getfield 13, 3), (4, .bipush 10, 2), (6, .iload_n 1, 1), (7, .imul, 1), (8, .iaload, 1), (9, .invokestatic 73, 3), (12, .istore_n 2, 1), (13, .iconst 1, 1), (14, .istore_n 3, 1), (15, .iload_n 3, 1), (16, .aload_n 0, 1), (17, .getfield 7, 3), (20, .iload_n 1, 1), (21, .iaload, 1), (22, .if_icmp .ge 33, 3), (25, .aload_n 0, 1), (26, .getfield 13, 3), (29, .bipush 10, 2), (31, .iload_n 1, 1), (32, .imul, 1), (33, .iload_n 3, 1), (34, .iadd, 1), (35, .iaload, 1), (36, .invokestatic 73, 3), (39, .iload_n 2, 1), (40, .if_icmp .ne 7, 3), (43, .iload_n 2, 1), (44, .goto 4, 3), (47, .iconst (-1), 1), (48, .istore_n 2, 1), (49, .iinc 3 1, 3), (52, .goto (-37), 3), (55, .iload_n 2, 1), (56, .ireturn, 1)]
theorem dlX6_degreeOf_0 : dOK cX6_degreeOf ilX6_degreeOf_0 = true := by decide +kernel
theorem dX6_degreeOf_0 : decode cX6_degreeOf 0 = .ok (.aload_n 0, 1) := dAt dlX6_degreeOf_0 0 rfl
theorem dX6_degreeOf_1 : decode cX6_degreeOf 1 = .ok (.getfield 13, 3) := dAt dlX6_degreeOf_0 1 rfl
theorem dX6_degreeOf_4 : decode cX6_degreeOf 4 = .ok (.bipush 10, 2) := dAt dlX6_degreeOf_0 2 rfl
theorem dX6_degreeOf_6 : decode cX6_degreeOf 6 = .ok (.iload_n 1, 1) := dAt dlX6_degreeOf_0 3 rfl
theorem dX6_degreeOf_7 : decode cX6_degreeOf 7 = .ok (.imul, 1) := dAt dlX6_degreeOf_0 4 rfl
theorem dX6_degreeOf_8 : decode cX6_degreeOf 8 = .ok (.iaload, 1) := dAt dlX6_degreeOf_0 5 rfl
theorem dX6_degreeOf_9 : decode cX6_degreeOf 9 = .ok (.invokestatic 73, 3) := dAt dlX6_degreeOf_0 6 rfl
theorem dX6_degreeOf_12 : decode cX6_degreeOf 12 = .ok (.istore_n 2, 1) := dAt dlX6_degreeOf_0 7 rfl
theorem dX6_degreeOf_13 : decode cX6_degreeOf 13 = .ok (.iconst 1, 1) := dAt dlX6_degreeOf_0 8 rfl
theorem dX6_degreeOf_14 : decode cX6_degreeOf 14 = .ok (.istore_n 3, 1) := dAt dlX6_degreeOf_0 9 rfl
theorem dX6_degreeOf_15 : decode cX6_degreeOf 15 = .ok (.iload_n 3, 1) := dAt dlX6_degreeOf_0 10 rfl
theorem dX6_degreeOf_16 : decode cX6_degreeOf 16 = .ok (.aload_n 0, 1) := dAt dlX6_degreeOf_0 11 rfl
theorem dX6_degreeOf_17 : decode cX6_degreeOf 17 = .ok (.getfield 7, 3) := dAt dlX6_degreeOf_0 12 rfl
theorem dX6_degreeOf_20 : decode cX6_degreeOf 20 = .ok (.iload_n 1, 1) := dAt dlX6_degreeOf_0 13 rfl
theorem dX6_degreeOf_21 : decode cX6_degreeOf 21 = .ok (.iaload, 1) := dAt dlX6_degreeOf_0 14 rfl
theorem dX6_degreeOf_22 : decode cX6_degreeOf 22 = .ok (.if_icmp .ge 33, 3) := dAt dlX6_degreeOf_0 15 rfl
theorem dX6_degreeOf_25 : decode cX6_degreeOf 25 = .ok (.aload_n 0, 1) := dAt dlX6_degreeOf_0 16 rfl
theorem dX6_degreeOf_26 : decode cX6_degreeOf 26 = .ok (.getfield 13, 3) := dAt dlX6_degreeOf_0 17 rfl
theorem dX6_degreeOf_29 : decode cX6_degreeOf 29 = .ok (.bipush 10, 2) := dAt dlX6_degreeOf_0 18 rfl
theorem dX6_degreeOf_31 : decode cX6_degreeOf 31 = .ok (.iload_n 1, 1) := dAt dlX6_degreeOf_0 19 rfl
theorem dX6_degreeOf_32 : decode cX6_degreeOf 32 = .ok (.imul, 1) := dAt dlX6_degreeOf_0 20 rfl
theorem dX6_degreeOf_33 : decode cX6_degreeOf 33 = .ok (.iload_n 3, 1) := dAt dlX6_degreeOf_0 21 rfl
theorem dX6_degreeOf_34 : decode cX6_degreeOf 34 = .ok (.iadd, 1) := dAt dlX6_degreeOf_0 22 rfl
theorem dX6_degreeOf_35 : decode cX6_degreeOf 35 = .ok (.iaload, 1) := dAt dlX6_degreeOf_0 23 rfl
theorem dX6_degreeOf_36 : decode cX6_degreeOf 36 = .ok (.invokestatic 73, 3) := dAt dlX6_degreeOf_0 24 rfl
theorem dX6_degreeOf_39 : decode cX6_degreeOf 39 = .ok (.iload_n 2, 1) := dAt dlX6_degreeOf_0 25 rfl
theorem dX6_degreeOf_40 : decode cX6_degreeOf 40 = .ok (.if_icmp .ne 7, 3) := dAt dlX6_degreeOf_0 26 rfl
theorem dX6_degreeOf_43 : decode cX6_degreeOf 43 = .ok (.iload_n 2, 1) := dAt dlX6_degreeOf_0 27 rfl
theorem dX6_degreeOf_44 : decode cX6_degreeOf 44 = .ok (.goto 4, 3) := dAt dlX6_degreeOf_0 28 rfl
theorem dX6_degreeOf_47 : decode cX6_degreeOf 47 = .ok (.iconst (-1), 1) := dAt dlX6_degreeOf_0 29 rfl
theorem dX6_degreeOf_48 : decode cX6_degreeOf 48 = .ok (.istore_n 2, 1) := dAt dlX6_degreeOf_0 30 rfl
theorem dX6_degreeOf_49 : decode cX6_degreeOf 49 = .ok (.iinc 3 1, 3) := dAt dlX6_degreeOf_0 31 rfl
theorem dX6_degreeOf_52 : decode cX6_degreeOf 52 = .ok (.goto (-37), 3) := dAt dlX6_degreeOf_0 32 rfl
theorem dX6_degreeOf_55 : decode cX6_degreeOf 55 = .ok (.iload_n 2, 1) := dAt dlX6_degreeOf_0 33 rfl
theorem dX6_degreeOf_56 : decode cX6_degreeOf 56 = .ok (.ireturn, 1) := dAt dlX6_degreeOf_0 34 rfl
def ilX6_grown_0 : List (Nat × Instr × Nat) := [(0, .iload_n 2, 1), (1, .istore_n 3, 1), (2, .iconst 0, 1), (3, .istore 4, 2), (5, .iload 4, 2), (7, .aload_n 0, 1), (8, .getfield 7, 3), (11, .iload_n 1, 1), (12, .iaload, 1), (13, .if_icmp .ge 58, 3), (16, .iconst 0, 1), (17, .istore 5, 2), (19, .iload 5, 2), (21, .aload_n 0, 1), (22, .getfield 7, 3), (25, .iload_n 1, 1), (26, .iaload, 1), (27, .if_icmp .ge 38, 3), (30, .iload_n 3, 1), (31, .iload_n 3, 1), (32, .iload 5, 2), (34, .ishr, 1), (35, .iconst 1, 1), (36, .iand, 1), (37, .iconst 1, 1), (38, .if_icmp .ne 18, 3), (41, .aload_n 0, 1), (42, .getfield 13, 3), (45, .bipush 10, 2), (47, .iload_n 1, 1), (48, .imul, 1), (49, .iload 5, 2), (51, .iadd, 1), (52, .iaload, 1), (53, .goto 4, 3), (56, .iconst 0, 1), (57, .ior, 1), (58, .istore_n 3, 1), (59, .iinc 5 1, 3), (62, .goto (-43), 3), (65, .iinc 4 1, 3), (68, .goto (-63), 3), (71, .iload_n 3, 1), (72, .ireturn, 1)]
theorem dlX6_grown_0 : dOK cX6_grown ilX6_grown_0 = true := by decide +kernel
theorem dX6_grown_0 : decode cX6_grown 0 = .ok (.iload_n 2, 1) := dAt dlX6_grown_0 0 rfl
theorem dX6_grown_1 : decode cX6_grown 1 = .ok (.istore_n 3, 1) := dAt dlX6_grown_0 1 rfl
theorem dX6_grown_2 : decode cX6_grown 2 = .ok (.iconst 0, 1) := dAt dlX6_grown_0 2 rfl
theorem dX6_grown_3 : decode cX6_grown 3 = .ok (.istore 4, 2) := dAt dlX6_grown_0 3 rfl
theorem dX6_grown_5 : decode cX6_grown 5 = .ok (.iload 4, 2) := dAt dlX6_grown_0 4 rfl
theorem dX6_grown_7 : decode cX6_grown 7 = .ok (.aload_n 0, 1) := dAt dlX6_grown_0 5 rfl
theorem dX6_grown_8 : decode cX6_grown 8 = .ok (.getfield 7, 3) := dAt dlX6_grown_0 6 rfl
theorem dX6_grown_11 : decode cX6_grown 11 = .ok (.iload_n 1, 1) := dAt dlX6_grown_0 7 rfl
theorem dX6_grown_12 : decode cX6_grown 12 = .ok (.iaload, 1) := dAt dlX6_grown_0 8 rfl
theorem dX6_grown_13 : decode cX6_grown 13 = .ok (.if_icmp .ge 58, 3) := dAt dlX6_grown_0 9 rfl
theorem dX6_grown_16 : decode cX6_grown 16 = .ok (.iconst 0, 1) := dAt dlX6_grown_0 10 rfl
theorem dX6_grown_17 : decode cX6_grown 17 = .ok (.istore 5, 2) := dAt dlX6_grown_0 11 rfl
theorem dX6_grown_19 : decode cX6_grown 19 = .ok (.iload 5, 2) := dAt dlX6_grown_0 12 rfl
theorem dX6_grown_21 : decode cX6_grown 21 = .ok (.aload_n 0, 1) := dAt dlX6_grown_0 13 rfl
theorem dX6_grown_22 : decode cX6_grown 22 = .ok (.getfield 7, 3) := dAt dlX6_grown_0 14 rfl
theorem dX6_grown_25 : decode cX6_grown 25 = .ok (.iload_n 1, 1) := dAt dlX6_grown_0 15 rfl
theorem dX6_grown_26 : decode cX6_grown 26 = .ok (.iaload, 1) := dAt dlX6_grown_0 16 rfl
theorem dX6_grown_27 : decode cX6_grown 27 = .ok (.if_icmp .ge 38, 3) := dAt dlX6_grown_0 17 rfl
theorem dX6_grown_30 : decode cX6_grown 30 = .ok (.iload_n 3, 1) := dAt dlX6_grown_0 18 rfl
theorem dX6_grown_31 : decode cX6_grown 31 = .ok (.iload_n 3, 1) := dAt dlX6_grown_0 19 rfl
theorem dX6_grown_32 : decode cX6_grown 32 = .ok (.iload 5, 2) := dAt dlX6_grown_0 20 rfl
theorem dX6_grown_34 : decode cX6_grown 34 = .ok (.ishr, 1) := dAt dlX6_grown_0 21 rfl
theorem dX6_grown_35 : decode cX6_grown 35 = .ok (.iconst 1, 1) := dAt dlX6_grown_0 22 rfl
theorem dX6_grown_36 : decode cX6_grown 36 = .ok (.iand, 1) := dAt dlX6_grown_0 23 rfl
theorem dX6_grown_37 : decode cX6_grown 37 = .ok (.iconst 1, 1) := dAt dlX6_grown_0 24 rfl
theorem dX6_grown_38 : decode cX6_grown 38 = .ok (.if_icmp .ne 18, 3) := dAt dlX6_grown_0 25 rfl
theorem dX6_grown_41 : decode cX6_grown 41 = .ok (.aload_n 0, 1) := dAt dlX6_grown_0 26 rfl
theorem dX6_grown_42 : decode cX6_grown 42 = .ok (.getfield 13, 3) := dAt dlX6_grown_0 27 rfl
theorem dX6_grown_45 : decode cX6_grown 45 = .ok (.bipush 10, 2) := dAt dlX6_grown_0 28 rfl
theorem dX6_grown_47 : decode cX6_grown 47 = .ok (.iload_n 1, 1) := dAt dlX6_grown_0 29 rfl
theorem dX6_grown_48 : decode cX6_grown 48 = .ok (.imul, 1) := dAt dlX6_grown_0 30 rfl
theorem dX6_grown_49 : decode cX6_grown 49 = .ok (.iload 5, 2) := dAt dlX6_grown_0 31 rfl
theorem dX6_grown_51 : decode cX6_grown 51 = .ok (.iadd, 1) := dAt dlX6_grown_0 32 rfl
theorem dX6_grown_52 : decode cX6_grown 52 = .ok (.iaload, 1) := dAt dlX6_grown_0 33 rfl
theorem dX6_grown_53 : decode cX6_grown 53 = .ok (.goto 4, 3) := dAt dlX6_grown_0 34 rfl
theorem dX6_grown_56 : decode cX6_grown 56 = .ok (.iconst 0, 1) := dAt dlX6_grown_0 35 rfl
theorem dX6_grown_57 : decode cX6_grown 57 = .ok (.ior, 1) := dAt dlX6_grown_0 36 rfl
theorem dX6_grown_58 : decode cX6_grown 58 = .ok (.istore_n 3, 1) := dAt dlX6_grown_0 37 rfl
theorem dX6_grown_59 : decode cX6_grown 59 = .ok (.iinc 5 1, 3) := dAt dlX6_grown_0 38 rfl
theorem dX6_grown_62 : decode cX6_grown 62 = .ok (.goto (-43), 3) := dAt dlX6_grown_0 39 rfl
theorem dX6_grown_65 : decode cX6_grown 65 = .ok (.iinc 4 1, 3) := dAt dlX6_grown_0 40 rfl
theorem dX6_grown_68 : decode cX6_grown 68 = .ok (.goto (-63), 3) := dAt dlX6_grown_0 41 rfl
theorem dX6_grown_71 : decode cX6_grown 71 = .ok (.iload_n 3, 1) := dAt dlX6_grown_0 42 rfl
theorem dX6_grown_72 : decode cX6_grown 72 = .ok (.ireturn, 1) := dAt dlX6_grown_0 43 rfl
def ilX6_parts_0 : List (Nat × Instr × Nat) := [(0, .iconst 0, 1), (1, .istore_n 2, 1), (2, .iconst 0, 1), (3, .istore_n 3, 1), (4, .iconst 0, 1), (5, .istore 4, 2), (7, .iload 4, 2), (9, .aload_n 0, 1), (10, .getfield 7, 3), (13, .iload_n 1, 1), (14, .iaload, 1), (15, .if_icmp .ge 33, 3), (18, .iload_n 3, 1), (19, .iload 4, 2), (21, .ishr, 1), (22, .iconst 1, 1), (23, .iand, 1), (24, .ifCond .ne 18, 3), (27, .iload_n 3, 1), (28, .aload_n 0, 1), (29, .iload_n 1, 1), (30, .iconst 1, 1), (31, .iload 4, 2), (33, .ishl, 1), (34, .invokevirtual 95, 3), (37, .ior, 1), (38, .istore_n 3, 1), (39, .iinc 2 1, 3), (42, .iinc 4 1, 3), (45, .goto (-38), 3), (48, .iload_n 2, 1), (49, .ireturn, 1)]
theorem dlX6_parts_0 : dOK cX6_parts ilX6_parts_0 = true := by decide +kernel
theorem dX6_parts_0 : decode cX6_parts 0 = .ok (.iconst 0, 1) := dAt dlX6_parts_0 0 rfl
theorem dX6_parts_1 : decode cX6_parts 1 = .ok (.istore_n 2, 1) := dAt dlX6_parts_0 1 rfl
theorem dX6_parts_2 : decode cX6_parts 2 = .ok (.iconst 0, 1) := dAt dlX6_parts_0 2 rfl
theorem dX6_parts_3 : decode cX6_parts 3 = .ok (.istore_n 3, 1) := dAt dlX6_parts_0 3 rfl
theorem dX6_parts_4 : decode cX6_parts 4 = .ok (.iconst 0, 1) := dAt dlX6_parts_0 4 rfl
theorem dX6_parts_5 : decode cX6_parts 5 = .ok (.istore 4, 2) := dAt dlX6_parts_0 5 rfl
theorem dX6_parts_7 : decode cX6_parts 7 = .ok (.iload 4, 2) := dAt dlX6_parts_0 6 rfl
theorem dX6_parts_9 : decode cX6_parts 9 = .ok (.aload_n 0, 1) := dAt dlX6_parts_0 7 rfl
theorem dX6_parts_10 : decode cX6_parts 10 = .ok (.getfield 7, 3) := dAt dlX6_parts_0 8 rfl
theorem dX6_parts_13 : decode cX6_parts 13 = .ok (.iload_n 1, 1) := dAt dlX6_parts_0 9 rfl
theorem dX6_parts_14 : decode cX6_parts 14 = .ok (.iaload, 1) := dAt dlX6_parts_0 10 rfl
theorem dX6_parts_15 : decode cX6_parts 15 = .ok (.if_icmp .ge 33, 3) := dAt dlX6_parts_0 11 rfl
theorem dX6_parts_18 : decode cX6_parts 18 = .ok (.iload_n 3, 1) := dAt dlX6_parts_0 12 rfl
theorem dX6_parts_19 : decode cX6_parts 19 = .ok (.iload 4, 2) := dAt dlX6_parts_0 13 rfl
theorem dX6_parts_21 : decode cX6_parts 21 = .ok (.ishr, 1) := dAt dlX6_parts_0 14 rfl
theorem dX6_parts_22 : decode cX6_parts 22 = .ok (.iconst 1, 1) := dAt dlX6_parts_0 15 rfl
theorem dX6_parts_23 : decode cX6_parts 23 = .ok (.iand, 1) := dAt dlX6_parts_0 16 rfl
theorem dX6_parts_24 : decode cX6_parts 24 = .ok (.ifCond .ne 18, 3) := dAt dlX6_parts_0 17 rfl
theorem dX6_parts_27 : decode cX6_parts 27 = .ok (.iload_n 3, 1) := dAt dlX6_parts_0 18 rfl
theorem dX6_parts_28 : decode cX6_parts 28 = .ok (.aload_n 0, 1) := dAt dlX6_parts_0 19 rfl
theorem dX6_parts_29 : decode cX6_parts 29 = .ok (.iload_n 1, 1) := dAt dlX6_parts_0 20 rfl
theorem dX6_parts_30 : decode cX6_parts 30 = .ok (.iconst 1, 1) := dAt dlX6_parts_0 21 rfl
theorem dX6_parts_31 : decode cX6_parts 31 = .ok (.iload 4, 2) := dAt dlX6_parts_0 22 rfl
theorem dX6_parts_33 : decode cX6_parts 33 = .ok (.ishl, 1) := dAt dlX6_parts_0 23 rfl
theorem dX6_parts_34 : decode cX6_parts 34 = .ok (.invokevirtual 95, 3) := dAt dlX6_parts_0 24 rfl
theorem dX6_parts_37 : decode cX6_parts 37 = .ok (.ior, 1) := dAt dlX6_parts_0 25 rfl
theorem dX6_parts_38 : decode cX6_parts 38 = .ok (.istore_n 3, 1) := dAt dlX6_parts_0 26 rfl
theorem dX6_parts_39 : decode cX6_parts 39 = .ok (.iinc 2 1, 3) := dAt dlX6_parts_0 27 rfl
theorem dX6_parts_42 : decode cX6_parts 42 = .ok (.iinc 4 1, 3) := dAt dlX6_parts_0 28 rfl
theorem dX6_parts_45 : decode cX6_parts 45 = .ok (.goto (-38), 3) := dAt dlX6_parts_0 29 rfl
theorem dX6_parts_48 : decode cX6_parts 48 = .ok (.iload_n 2, 1) := dAt dlX6_parts_0 30 rfl
theorem dX6_parts_49 : decode cX6_parts 49 = .ok (.ireturn, 1) := dAt dlX6_parts_0 31 rfl
def ilX6_about_0 : List (Nat × Instr × Nat) := [(0, .iload_n 1, 1), (1, .invokestatic 69, 3), (4, .ifCond .ne 6, 3), (7, .bipush (-2), 2), (9, .ireturn, 1), (10, .iload_n 2, 1), (11, .ifCond .ne 12, 3), (14, .aload_n 0, 1), (15, .getfield 7, 3), (18, .iload_n 1, 1), (19, .iaload, 1), (20, .goto 44, 3), (23, .iload_n 2, 1), (24, .iconst 1, 1), (25, .if_icmp .ne 11, 3), (28, .aload_n 0, 1), (29, .iload_n 1, 1), (30, .invokevirtual 92, 3), (33, .goto 31, 3), (36, .iload_n 2, 1), (37, .iconst 2, 1), (38, .if_icmp .ne 11, 3), (41, .aload_n 0, 1), (42, .iload_n 1, 1), (43, .invokevirtual 99, 3), (46, .goto 18, 3), (49, .iload_n 2, 1), (50, .iconst 3, 1), (51, .if_icmp .ne 11, 3), (54, .aload_n 0, 1), (55, .iload_n 1, 1), (56, .invokevirtual 102, 3), (59, .goto 5, 3), (62, .bipush (-2), 2), (64, .ireturn, 1)]
theorem dlX6_about_0 : dOK cX6_about ilX6_about_0 = true := by decide +kernel
theorem dX6_about_0 : decode cX6_about 0 = .ok (.iload_n 1, 1) := dAt dlX6_about_0 0 rfl
theorem dX6_about_1 : decode cX6_about 1 = .ok (.invokestatic 69, 3) := dAt dlX6_about_0 1 rfl
theorem dX6_about_4 : decode cX6_about 4 = .ok (.ifCond .ne 6, 3) := dAt dlX6_about_0 2 rfl
theorem dX6_about_7 : decode cX6_about 7 = .ok (.bipush (-2), 2) := dAt dlX6_about_0 3 rfl
theorem dX6_about_9 : decode cX6_about 9 = .ok (.ireturn, 1) := dAt dlX6_about_0 4 rfl
theorem dX6_about_10 : decode cX6_about 10 = .ok (.iload_n 2, 1) := dAt dlX6_about_0 5 rfl
theorem dX6_about_11 : decode cX6_about 11 = .ok (.ifCond .ne 12, 3) := dAt dlX6_about_0 6 rfl
theorem dX6_about_14 : decode cX6_about 14 = .ok (.aload_n 0, 1) := dAt dlX6_about_0 7 rfl
theorem dX6_about_15 : decode cX6_about 15 = .ok (.getfield 7, 3) := dAt dlX6_about_0 8 rfl
theorem dX6_about_18 : decode cX6_about 18 = .ok (.iload_n 1, 1) := dAt dlX6_about_0 9 rfl
theorem dX6_about_19 : decode cX6_about 19 = .ok (.iaload, 1) := dAt dlX6_about_0 10 rfl
theorem dX6_about_20 : decode cX6_about 20 = .ok (.goto 44, 3) := dAt dlX6_about_0 11 rfl
theorem dX6_about_23 : decode cX6_about 23 = .ok (.iload_n 2, 1) := dAt dlX6_about_0 12 rfl
theorem dX6_about_24 : decode cX6_about 24 = .ok (.iconst 1, 1) := dAt dlX6_about_0 13 rfl
theorem dX6_about_25 : decode cX6_about 25 = .ok (.if_icmp .ne 11, 3) := dAt dlX6_about_0 14 rfl
theorem dX6_about_28 : decode cX6_about 28 = .ok (.aload_n 0, 1) := dAt dlX6_about_0 15 rfl
theorem dX6_about_29 : decode cX6_about 29 = .ok (.iload_n 1, 1) := dAt dlX6_about_0 16 rfl
theorem dX6_about_30 : decode cX6_about 30 = .ok (.invokevirtual 92, 3) := dAt dlX6_about_0 17 rfl
theorem dX6_about_33 : decode cX6_about 33 = .ok (.goto 31, 3) := dAt dlX6_about_0 18 rfl
theorem dX6_about_36 : decode cX6_about 36 = .ok (.iload_n 2, 1) := dAt dlX6_about_0 19 rfl
theorem dX6_about_37 : decode cX6_about 37 = .ok (.iconst 2, 1) := dAt dlX6_about_0 20 rfl
theorem dX6_about_38 : decode cX6_about 38 = .ok (.if_icmp .ne 11, 3) := dAt dlX6_about_0 21 rfl
theorem dX6_about_41 : decode cX6_about 41 = .ok (.aload_n 0, 1) := dAt dlX6_about_0 22 rfl
theorem dX6_about_42 : decode cX6_about 42 = .ok (.iload_n 1, 1) := dAt dlX6_about_0 23 rfl
theorem dX6_about_43 : decode cX6_about 43 = .ok (.invokevirtual 99, 3) := dAt dlX6_about_0 24 rfl
theorem dX6_about_46 : decode cX6_about 46 = .ok (.goto 18, 3) := dAt dlX6_about_0 25 rfl
theorem dX6_about_49 : decode cX6_about 49 = .ok (.iload_n 2, 1) := dAt dlX6_about_0 26 rfl
theorem dX6_about_50 : decode cX6_about 50 = .ok (.iconst 3, 1) := dAt dlX6_about_0 27 rfl
theorem dX6_about_51 : decode cX6_about 51 = .ok (.if_icmp .ne 11, 3) := dAt dlX6_about_0 28 rfl
theorem dX6_about_54 : decode cX6_about 54 = .ok (.aload_n 0, 1) := dAt dlX6_about_0 29 rfl
theorem dX6_about_55 : decode cX6_about 55 = .ok (.iload_n 1, 1) := dAt dlX6_about_0 30 rfl
theorem dX6_about_56 : decode cX6_about 56 = .ok (.invokevirtual 102, 3) := dAt dlX6_about_0 31 rfl
theorem dX6_about_59 : decode cX6_about 59 = .ok (.goto 5, 3) := dAt dlX6_about_0 32 rfl
theorem dX6_about_62 : decode cX6_about 62 = .ok (.bipush (-2), 2) := dAt dlX6_about_0 33 rfl
theorem dX6_about_64 : decode cX6_about 64 = .ok (.ireturn, 1) := dAt dlX6_about_0 34 rfl
def ilX6_near_0 : List (Nat × Instr × Nat) := [(0, .aload_n 0, 1), (1, .iload_n 1, 1), (2, .iload_n 2, 1), (3, .invokevirtual 81, 3), (6, .ifCond .eq 17, 3), (9, .aload_n 0, 1), (10, .getfield 13, 3), (13, .bipush 10, 2), (15, .iload_n 1, 1), (16, .imul, 1), (17, .iload_n 2, 1), (18, .iadd, 1), (19, .iaload, 1), (20, .goto 5, 3), (23, .bipush (-2), 2), (25, .ireturn, 1)]
theorem dlX6_near_0 : dOK cX6_near ilX6_near_0 = true := by decide +kernel
theorem dX6_near_0 : decode cX6_near 0 = .ok (.aload_n 0, 1) := dAt dlX6_near_0 0 rfl
theorem dX6_near_1 : decode cX6_near 1 = .ok (.iload_n 1, 1) := dAt dlX6_near_0 1 rfl
theorem dX6_near_2 : decode cX6_near 2 = .ok (.iload_n 2, 1) := dAt dlX6_near_0 2 rfl
theorem dX6_near_3 : decode cX6_near 3 = .ok (.invokevirtual 81, 3) := dAt dlX6_near_0 3 rfl
theorem dX6_near_6 : decode cX6_near 6 = .ok (.ifCond .eq 17, 3) := dAt dlX6_near_0 4 rfl
theorem dX6_near_9 : decode cX6_near 9 = .ok (.aload_n 0, 1) := dAt dlX6_near_0 5 rfl
theorem dX6_near_10 : decode cX6_near 10 = .ok (.getfield 13, 3) := dAt dlX6_near_0 6 rfl
theorem dX6_near_13 : decode cX6_near 13 = .ok (.bipush 10, 2) := dAt dlX6_near_0 7 rfl
theorem dX6_near_15 : decode cX6_near 15 = .ok (.iload_n 1, 1) := dAt dlX6_near_0 8 rfl
theorem dX6_near_16 : decode cX6_near 16 = .ok (.imul, 1) := dAt dlX6_near_0 9 rfl
theorem dX6_near_17 : decode cX6_near 17 = .ok (.iload_n 2, 1) := dAt dlX6_near_0 10 rfl
theorem dX6_near_18 : decode cX6_near 18 = .ok (.iadd, 1) := dAt dlX6_near_0 11 rfl
theorem dX6_near_19 : decode cX6_near 19 = .ok (.iaload, 1) := dAt dlX6_near_0 12 rfl
theorem dX6_near_20 : decode cX6_near 20 = .ok (.goto 5, 3) := dAt dlX6_near_0 13 rfl
theorem dX6_near_23 : decode cX6_near 23 = .ok (.bipush (-2), 2) := dAt dlX6_near_0 14 rfl
theorem dX6_near_25 : decode cX6_near 25 = .ok (.ireturn, 1) := dAt dlX6_near_0 15 rfl
def ilX6_layLines_0 : List (Nat × Instr × Nat) := [(0, .aload_n 0, 1), (1, .iconst 0, 1), (2, .putfield 105, 3), (5, .iconst 0, 1), (6, .istore_n 2, 1), (7, .iload_n 2, 1), (8, .aload_n 0, 1), (9, .getfield 7, 3), (12, .iload_n 1, 1), (13, .iaload, 1), (14, .if_icmp .ge 69, 3), (17, .iload_n 2, 1), (18, .iconst 1, 1), (19, .iadd, 1), (20, .istore_n 3, 1), (21, .iload_n 3, 1), (22, .aload_n 0, 1), (23, .getfield 7, 3), (26, .iload_n 1, 1), (27, .iaload, 1), (28, .if_icmp .ge 49, 3), (31, .aload_n 0, 1), (32, .iload_n 1, 1), (33, .iload_n 2, 1), (34, .iload_n 3, 1), (35, .invokevirtual 85, 3), (38, .ifCond .eq 33, 3), (41, .aload_n 0, 1), (42, .getfield 22, 3), (45, .aload_n 0, 1), (46, .getfield 105, 3), (49, .iload_n 2, 1), (50, .iastore, 1), (51, .aload_n 0, 1), (52, .getfield 25, 3), (55, .aload_n 0, 1), (56, .getfield 105, 3), (59, .iload_n 3, 1), (60, .iastore, 1), (61, .aload_n 0, 1), (62, .dup, 1), (63, .getfield 105, 3), (66, .iconst 1, 1), (67, .iadd, 1), (68, .putfield 105, 3), (71, .iinc 3 1, 3), (74, .goto (-53), 3), (77, .iinc 2 1, 3), (80, .goto (-73), 3), (83, .return_, 1)]
theorem dlX6_layLines_0 : dOK cX6_layLines ilX6_layLines_0 = true := by decide +kernel
theorem dX6_layLines_0 : decode cX6_layLines 0 = .ok (.aload_n 0, 1) := dAt dlX6_layLines_0 0 rfl
theorem dX6_layLines_1 : decode cX6_layLines 1 = .ok (.iconst 0, 1) := dAt dlX6_layLines_0 1 rfl
theorem dX6_layLines_2 : decode cX6_layLines 2 = .ok (.putfield 105, 3) := dAt dlX6_layLines_0 2 rfl
theorem dX6_layLines_5 : decode cX6_layLines 5 = .ok (.iconst 0, 1) := dAt dlX6_layLines_0 3 rfl
theorem dX6_layLines_6 : decode cX6_layLines 6 = .ok (.istore_n 2, 1) := dAt dlX6_layLines_0 4 rfl
theorem dX6_layLines_7 : decode cX6_layLines 7 = .ok (.iload_n 2, 1) := dAt dlX6_layLines_0 5 rfl
theorem dX6_layLines_8 : decode cX6_layLines 8 = .ok (.aload_n 0, 1) := dAt dlX6_layLines_0 6 rfl
theorem dX6_layLines_9 : decode cX6_layLines 9 = .ok (.getfield 7, 3) := dAt dlX6_layLines_0 7 rfl
theorem dX6_layLines_12 : decode cX6_layLines 12 = .ok (.iload_n 1, 1) := dAt dlX6_layLines_0 8 rfl
theorem dX6_layLines_13 : decode cX6_layLines 13 = .ok (.iaload, 1) := dAt dlX6_layLines_0 9 rfl
theorem dX6_layLines_14 : decode cX6_layLines 14 = .ok (.if_icmp .ge 69, 3) := dAt dlX6_layLines_0 10 rfl
theorem dX6_layLines_17 : decode cX6_layLines 17 = .ok (.iload_n 2, 1) := dAt dlX6_layLines_0 11 rfl
theorem dX6_layLines_18 : decode cX6_layLines 18 = .ok (.iconst 1, 1) := dAt dlX6_layLines_0 12 rfl
theorem dX6_layLines_19 : decode cX6_layLines 19 = .ok (.iadd, 1) := dAt dlX6_layLines_0 13 rfl
theorem dX6_layLines_20 : decode cX6_layLines 20 = .ok (.istore_n 3, 1) := dAt dlX6_layLines_0 14 rfl
theorem dX6_layLines_21 : decode cX6_layLines 21 = .ok (.iload_n 3, 1) := dAt dlX6_layLines_0 15 rfl
theorem dX6_layLines_22 : decode cX6_layLines 22 = .ok (.aload_n 0, 1) := dAt dlX6_layLines_0 16 rfl
theorem dX6_layLines_23 : decode cX6_layLines 23 = .ok (.getfield 7, 3) := dAt dlX6_layLines_0 17 rfl
theorem dX6_layLines_26 : decode cX6_layLines 26 = .ok (.iload_n 1, 1) := dAt dlX6_layLines_0 18 rfl
theorem dX6_layLines_27 : decode cX6_layLines 27 = .ok (.iaload, 1) := dAt dlX6_layLines_0 19 rfl
theorem dX6_layLines_28 : decode cX6_layLines 28 = .ok (.if_icmp .ge 49, 3) := dAt dlX6_layLines_0 20 rfl
theorem dX6_layLines_31 : decode cX6_layLines 31 = .ok (.aload_n 0, 1) := dAt dlX6_layLines_0 21 rfl
theorem dX6_layLines_32 : decode cX6_layLines 32 = .ok (.iload_n 1, 1) := dAt dlX6_layLines_0 22 rfl
theorem dX6_layLines_33 : decode cX6_layLines 33 = .ok (.iload_n 2, 1) := dAt dlX6_layLines_0 23 rfl
theorem dX6_layLines_34 : decode cX6_layLines 34 = .ok (.iload_n 3, 1) := dAt dlX6_layLines_0 24 rfl
theorem dX6_layLines_35 : decode cX6_layLines 35 = .ok (.invokevirtual 85, 3) := dAt dlX6_layLines_0 25 rfl
theorem dX6_layLines_38 : decode cX6_layLines 38 = .ok (.ifCond .eq 33, 3) := dAt dlX6_layLines_0 26 rfl
theorem dX6_layLines_41 : decode cX6_layLines 41 = .ok (.aload_n 0, 1) := dAt dlX6_layLines_0 27 rfl
theorem dX6_layLines_42 : decode cX6_layLines 42 = .ok (.getfield 22, 3) := dAt dlX6_layLines_0 28 rfl
theorem dX6_layLines_45 : decode cX6_layLines 45 = .ok (.aload_n 0, 1) := dAt dlX6_layLines_0 29 rfl
theorem dX6_layLines_46 : decode cX6_layLines 46 = .ok (.getfield 105, 3) := dAt dlX6_layLines_0 30 rfl
theorem dX6_layLines_49 : decode cX6_layLines 49 = .ok (.iload_n 2, 1) := dAt dlX6_layLines_0 31 rfl
theorem dX6_layLines_50 : decode cX6_layLines 50 = .ok (.iastore, 1) := dAt dlX6_layLines_0 32 rfl
theorem dX6_layLines_51 : decode cX6_layLines 51 = .ok (.aload_n 0, 1) := dAt dlX6_layLines_0 33 rfl
theorem dX6_layLines_52 : decode cX6_layLines 52 = .ok (.getfield 25, 3) := dAt dlX6_layLines_0 34 rfl
theorem dX6_layLines_55 : decode cX6_layLines 55 = .ok (.aload_n 0, 1) := dAt dlX6_layLines_0 35 rfl
theorem dX6_layLines_56 : decode cX6_layLines 56 = .ok (.getfield 105, 3) := dAt dlX6_layLines_0 36 rfl
theorem dX6_layLines_59 : decode cX6_layLines 59 = .ok (.iload_n 3, 1) := dAt dlX6_layLines_0 37 rfl
theorem dX6_layLines_60 : decode cX6_layLines 60 = .ok (.iastore, 1) := dAt dlX6_layLines_0 38 rfl
theorem dX6_layLines_61 : decode cX6_layLines 61 = .ok (.aload_n 0, 1) := dAt dlX6_layLines_0 39 rfl
theorem dX6_layLines_62 : decode cX6_layLines 62 = .ok (.dup, 1) := dAt dlX6_layLines_0 40 rfl
theorem dX6_layLines_63 : decode cX6_layLines 63 = .ok (.getfield 105, 3) := dAt dlX6_layLines_0 41 rfl
theorem dX6_layLines_66 : decode cX6_layLines 66 = .ok (.iconst 1, 1) := dAt dlX6_layLines_0 42 rfl
theorem dX6_layLines_67 : decode cX6_layLines 67 = .ok (.iadd, 1) := dAt dlX6_layLines_0 43 rfl
theorem dX6_layLines_68 : decode cX6_layLines 68 = .ok (.putfield 105, 3) := dAt dlX6_layLines_0 44 rfl
theorem dX6_layLines_71 : decode cX6_layLines 71 = .ok (.iinc 3 1, 3) := dAt dlX6_layLines_0 45 rfl
theorem dX6_layLines_74 : decode cX6_layLines 74 = .ok (.goto (-53), 3) := dAt dlX6_layLines_0 46 rfl
theorem dX6_layLines_77 : decode cX6_layLines 77 = .ok (.iinc 2 1, 3) := dAt dlX6_layLines_0 47 rfl
theorem dX6_layLines_80 : decode cX6_layLines 80 = .ok (.goto (-73), 3) := dAt dlX6_layLines_0 48 rfl
theorem dX6_layLines_83 : decode cX6_layLines 83 = .ok (.return_, 1) := dAt dlX6_layLines_0 49 rfl
def ilX6_number_0 : List (Nat × Instr × Nat) := [(0, .aload_n 0, 1), (1, .iload_n 1, 1), (2, .iload_n 2, 1), (3, .invokevirtual 81, 3), (6, .ifCond .eq 17, 3), (9, .aload_n 0, 1), (10, .iload_n 1, 1), (11, .iload_n 3, 1), (12, .invokevirtual 81, 3), (15, .ifCond .eq 8, 3), (18, .iload_n 2, 1), (19, .iload_n 3, 1), (20, .if_icmp .ne 6, 3), (23, .bipush (-2), 2), (25, .ireturn, 1), (26, .aload_n 0, 1), (27, .iload_n 1, 1), (28, .invokevirtual 109, 3), (31, .iload_n 2, 1), (32, .iload_n 3, 1), (33, .if_icmp .ge 7, 3), (36, .iload_n 2, 1), (37, .goto 4, 3), (40, .iload_n 3, 1), (41, .istore 4, 2), (43, .iload_n 2, 1), (44, .iload_n 3, 1), (45, .iadd, 1), (46, .iload 4, 2), (48, .isub, 1), (49, .istore 5, 2), (51, .iconst 0, 1), (52, .istore 6, 2), (54, .iload 6, 2), (56, .aload_n 0, 1), (57, .getfield 105, 3), (60, .if_icmp .ge 36, 3), (63, .aload_n 0, 1), (64, .getfield 22, 3), (67, .iload 6, 2), (69, .iaload, 1), (70, .iload 4, 2), (72, .if_icmp .ne 18, 3), (75, .aload_n 0, 1), (76, .getfield 25, 3), (79, .iload 6, 2), (81, .iaload, 1), (82, .iload 5, 2), (84, .if_icmp .ne 6, 3), (87, .iload 6, 2), (89, .ireturn, 1), (90, .iinc 6 1, 3), (93, .goto (-39), 3), (96, .iconst (-1), 1), (97, .ireturn, 1)]
theorem dlX6_number_0 : dOK cX6_number ilX6_number_0 = true := by decide +kernel
theorem dX6_number_0 : decode cX6_number 0 = .ok (.aload_n 0, 1) := dAt dlX6_number_0 0 rfl
theorem dX6_number_1 : decode cX6_number 1 = .ok (.iload_n 1, 1) := dAt dlX6_number_0 1 rfl
theorem dX6_number_2 : decode cX6_number 2 = .ok (.iload_n 2, 1) := dAt dlX6_number_0 2 rfl
theorem dX6_number_3 : decode cX6_number 3 = .ok (.invokevirtual 81, 3) := dAt dlX6_number_0 3 rfl
theorem dX6_number_6 : decode cX6_number 6 = .ok (.ifCond .eq 17, 3) := dAt dlX6_number_0 4 rfl
theorem dX6_number_9 : decode cX6_number 9 = .ok (.aload_n 0, 1) := dAt dlX6_number_0 5 rfl
theorem dX6_number_10 : decode cX6_number 10 = .ok (.iload_n 1, 1) := dAt dlX6_number_0 6 rfl
theorem dX6_number_11 : decode cX6_number 11 = .ok (.iload_n 3, 1) := dAt dlX6_number_0 7 rfl
theorem dX6_number_12 : decode cX6_number 12 = .ok (.invokevirtual 81, 3) := dAt dlX6_number_0 8 rfl
theorem dX6_number_15 : decode cX6_number 15 = .ok (.ifCond .eq 8, 3) := dAt dlX6_number_0 9 rfl
theorem dX6_number_18 : decode cX6_number 18 = .ok (.iload_n 2, 1) := dAt dlX6_number_0 10 rfl
theorem dX6_number_19 : decode cX6_number 19 = .ok (.iload_n 3, 1) := dAt dlX6_number_0 11 rfl
theorem dX6_number_20 : decode cX6_number 20 = .ok (.if_icmp .ne 6, 3) := dAt dlX6_number_0 12 rfl
theorem dX6_number_23 : decode cX6_number 23 = .ok (.bipush (-2), 2) := dAt dlX6_number_0 13 rfl
theorem dX6_number_25 : decode cX6_number 25 = .ok (.ireturn, 1) := dAt dlX6_number_0 14 rfl
theorem dX6_number_26 : decode cX6_number 26 = .ok (.aload_n 0, 1) := dAt dlX6_number_0 15 rfl
theorem dX6_number_27 : decode cX6_number 27 = .ok (.iload_n 1, 1) := dAt dlX6_number_0 16 rfl
theorem dX6_number_28 : decode cX6_number 28 = .ok (.invokevirtual 109, 3) := dAt dlX6_number_0 17 rfl
theorem dX6_number_31 : decode cX6_number 31 = .ok (.iload_n 2, 1) := dAt dlX6_number_0 18 rfl
theorem dX6_number_32 : decode cX6_number 32 = .ok (.iload_n 3, 1) := dAt dlX6_number_0 19 rfl
theorem dX6_number_33 : decode cX6_number 33 = .ok (.if_icmp .ge 7, 3) := dAt dlX6_number_0 20 rfl
theorem dX6_number_36 : decode cX6_number 36 = .ok (.iload_n 2, 1) := dAt dlX6_number_0 21 rfl
theorem dX6_number_37 : decode cX6_number 37 = .ok (.goto 4, 3) := dAt dlX6_number_0 22 rfl
theorem dX6_number_40 : decode cX6_number 40 = .ok (.iload_n 3, 1) := dAt dlX6_number_0 23 rfl
theorem dX6_number_41 : decode cX6_number 41 = .ok (.istore 4, 2) := dAt dlX6_number_0 24 rfl
theorem dX6_number_43 : decode cX6_number 43 = .ok (.iload_n 2, 1) := dAt dlX6_number_0 25 rfl
theorem dX6_number_44 : decode cX6_number 44 = .ok (.iload_n 3, 1) := dAt dlX6_number_0 26 rfl
theorem dX6_number_45 : decode cX6_number 45 = .ok (.iadd, 1) := dAt dlX6_number_0 27 rfl
theorem dX6_number_46 : decode cX6_number 46 = .ok (.iload 4, 2) := dAt dlX6_number_0 28 rfl
theorem dX6_number_48 : decode cX6_number 48 = .ok (.isub, 1) := dAt dlX6_number_0 29 rfl
theorem dX6_number_49 : decode cX6_number 49 = .ok (.istore 5, 2) := dAt dlX6_number_0 30 rfl
theorem dX6_number_51 : decode cX6_number 51 = .ok (.iconst 0, 1) := dAt dlX6_number_0 31 rfl
theorem dX6_number_52 : decode cX6_number 52 = .ok (.istore 6, 2) := dAt dlX6_number_0 32 rfl
theorem dX6_number_54 : decode cX6_number 54 = .ok (.iload 6, 2) := dAt dlX6_number_0 33 rfl
theorem dX6_number_56 : decode cX6_number 56 = .ok (.aload_n 0, 1) := dAt dlX6_number_0 34 rfl
theorem dX6_number_57 : decode cX6_number 57 = .ok (.getfield 105, 3) := dAt dlX6_number_0 35 rfl
theorem dX6_number_60 : decode cX6_number 60 = .ok (.if_icmp .ge 36, 3) := dAt dlX6_number_0 36 rfl
theorem dX6_number_63 : decode cX6_number 63 = .ok (.aload_n 0, 1) := dAt dlX6_number_0 37 rfl
theorem dX6_number_64 : decode cX6_number 64 = .ok (.getfield 22, 3) := dAt dlX6_number_0 38 rfl
theorem dX6_number_67 : decode cX6_number 67 = .ok (.iload 6, 2) := dAt dlX6_number_0 39 rfl
theorem dX6_number_69 : decode cX6_number 69 = .ok (.iaload, 1) := dAt dlX6_number_0 40 rfl
theorem dX6_number_70 : decode cX6_number 70 = .ok (.iload 4, 2) := dAt dlX6_number_0 41 rfl
theorem dX6_number_72 : decode cX6_number 72 = .ok (.if_icmp .ne 18, 3) := dAt dlX6_number_0 42 rfl
theorem dX6_number_75 : decode cX6_number 75 = .ok (.aload_n 0, 1) := dAt dlX6_number_0 43 rfl
theorem dX6_number_76 : decode cX6_number 76 = .ok (.getfield 25, 3) := dAt dlX6_number_0 44 rfl
theorem dX6_number_79 : decode cX6_number 79 = .ok (.iload 6, 2) := dAt dlX6_number_0 45 rfl
theorem dX6_number_81 : decode cX6_number 81 = .ok (.iaload, 1) := dAt dlX6_number_0 46 rfl
theorem dX6_number_82 : decode cX6_number 82 = .ok (.iload 5, 2) := dAt dlX6_number_0 47 rfl
theorem dX6_number_84 : decode cX6_number 84 = .ok (.if_icmp .ne 6, 3) := dAt dlX6_number_0 48 rfl
theorem dX6_number_87 : decode cX6_number 87 = .ok (.iload 6, 2) := dAt dlX6_number_0 49 rfl
theorem dX6_number_89 : decode cX6_number 89 = .ok (.ireturn, 1) := dAt dlX6_number_0 50 rfl
theorem dX6_number_90 : decode cX6_number 90 = .ok (.iinc 6 1, 3) := dAt dlX6_number_0 51 rfl
theorem dX6_number_93 : decode cX6_number 93 = .ok (.goto (-39), 3) := dAt dlX6_number_0 52 rfl
theorem dX6_number_96 : decode cX6_number 96 = .ok (.iconst (-1), 1) := dAt dlX6_number_0 53 rfl
theorem dX6_number_97 : decode cX6_number 97 = .ok (.ireturn, 1) := dAt dlX6_number_0 54 rfl
def ilX6_outside_0 : List (Nat × Instr × Nat) := [(0, .iconst 0, 1), (1, .istore 4, 2), (3, .iconst 0, 1), (4, .istore 5, 2), (6, .iload 5, 2), (8, .aload_n 0, 1), (9, .getfield 7, 3), (12, .iload_n 1, 1), (13, .iaload, 1), (14, .if_icmp .ge 66, 3), (17, .iload_n 2, 1), (18, .iload 5, 2), (20, .ishr, 1), (21, .iconst 1, 1), (22, .iand, 1), (23, .iconst 1, 1), (24, .if_icmp .ne 7, 3), (27, .iconst 0, 1), (28, .goto 20, 3), (31, .aload_n 0, 1), (32, .getfield 13, 3), (35, .bipush 10, 2), (37, .iload_n 1, 1), (38, .imul, 1), (39, .iload 5, 2), (41, .iadd, 1), (42, .iaload, 1), (43, .iload_n 2, 1), (44, .iand, 1), (45, .invokestatic 73, 3), (48, .istore 6, 2), (50, .iload 4, 2), (52, .iload_n 3, 1), (53, .ifCond .eq 8, 3), (56, .iload 6, 2), (58, .goto 13, 3), (61, .iload 6, 2), (63, .ifCond .le 7, 3), (66, .iconst 1, 1), (67, .goto 4, 3), (70, .iconst 0, 1), (71, .iadd, 1), (72, .istore 4, 2), (74, .iinc 5 1, 3), (77, .goto (-71), 3), (80, .iload 4, 2), (82, .ireturn, 1)]
theorem dlX6_outside_0 : dOK cX6_outside ilX6_outside_0 = true := by decide +kernel
theorem dX6_outside_0 : decode cX6_outside 0 = .ok (.iconst 0, 1) := dAt dlX6_outside_0 0 rfl
theorem dX6_outside_1 : decode cX6_outside 1 = .ok (.istore 4, 2) := dAt dlX6_outside_0 1 rfl
theorem dX6_outside_3 : decode cX6_outside 3 = .ok (.iconst 0, 1) := dAt dlX6_outside_0 2 rfl
theorem dX6_outside_4 : decode cX6_outside 4 = .ok (.istore 5, 2) := dAt dlX6_outside_0 3 rfl
theorem dX6_outside_6 : decode cX6_outside 6 = .ok (.iload 5, 2) := dAt dlX6_outside_0 4 rfl
theorem dX6_outside_8 : decode cX6_outside 8 = .ok (.aload_n 0, 1) := dAt dlX6_outside_0 5 rfl
theorem dX6_outside_9 : decode cX6_outside 9 = .ok (.getfield 7, 3) := dAt dlX6_outside_0 6 rfl
theorem dX6_outside_12 : decode cX6_outside 12 = .ok (.iload_n 1, 1) := dAt dlX6_outside_0 7 rfl
theorem dX6_outside_13 : decode cX6_outside 13 = .ok (.iaload, 1) := dAt dlX6_outside_0 8 rfl
theorem dX6_outside_14 : decode cX6_outside 14 = .ok (.if_icmp .ge 66, 3) := dAt dlX6_outside_0 9 rfl
theorem dX6_outside_17 : decode cX6_outside 17 = .ok (.iload_n 2, 1) := dAt dlX6_outside_0 10 rfl
theorem dX6_outside_18 : decode cX6_outside 18 = .ok (.iload 5, 2) := dAt dlX6_outside_0 11 rfl
theorem dX6_outside_20 : decode cX6_outside 20 = .ok (.ishr, 1) := dAt dlX6_outside_0 12 rfl
theorem dX6_outside_21 : decode cX6_outside 21 = .ok (.iconst 1, 1) := dAt dlX6_outside_0 13 rfl
theorem dX6_outside_22 : decode cX6_outside 22 = .ok (.iand, 1) := dAt dlX6_outside_0 14 rfl
theorem dX6_outside_23 : decode cX6_outside 23 = .ok (.iconst 1, 1) := dAt dlX6_outside_0 15 rfl
theorem dX6_outside_24 : decode cX6_outside 24 = .ok (.if_icmp .ne 7, 3) := dAt dlX6_outside_0 16 rfl
theorem dX6_outside_27 : decode cX6_outside 27 = .ok (.iconst 0, 1) := dAt dlX6_outside_0 17 rfl
theorem dX6_outside_28 : decode cX6_outside 28 = .ok (.goto 20, 3) := dAt dlX6_outside_0 18 rfl
theorem dX6_outside_31 : decode cX6_outside 31 = .ok (.aload_n 0, 1) := dAt dlX6_outside_0 19 rfl
theorem dX6_outside_32 : decode cX6_outside 32 = .ok (.getfield 13, 3) := dAt dlX6_outside_0 20 rfl
theorem dX6_outside_35 : decode cX6_outside 35 = .ok (.bipush 10, 2) := dAt dlX6_outside_0 21 rfl
theorem dX6_outside_37 : decode cX6_outside 37 = .ok (.iload_n 1, 1) := dAt dlX6_outside_0 22 rfl
theorem dX6_outside_38 : decode cX6_outside 38 = .ok (.imul, 1) := dAt dlX6_outside_0 23 rfl
theorem dX6_outside_39 : decode cX6_outside 39 = .ok (.iload 5, 2) := dAt dlX6_outside_0 24 rfl
theorem dX6_outside_41 : decode cX6_outside 41 = .ok (.iadd, 1) := dAt dlX6_outside_0 25 rfl
theorem dX6_outside_42 : decode cX6_outside 42 = .ok (.iaload, 1) := dAt dlX6_outside_0 26 rfl
theorem dX6_outside_43 : decode cX6_outside 43 = .ok (.iload_n 2, 1) := dAt dlX6_outside_0 27 rfl
theorem dX6_outside_44 : decode cX6_outside 44 = .ok (.iand, 1) := dAt dlX6_outside_0 28 rfl
theorem dX6_outside_45 : decode cX6_outside 45 = .ok (.invokestatic 73, 3) := dAt dlX6_outside_0 29 rfl
theorem dX6_outside_48 : decode cX6_outside 48 = .ok (.istore 6, 2) := dAt dlX6_outside_0 30 rfl
theorem dX6_outside_50 : decode cX6_outside 50 = .ok (.iload 4, 2) := dAt dlX6_outside_0 31 rfl
theorem dX6_outside_52 : decode cX6_outside 52 = .ok (.iload_n 3, 1) := dAt dlX6_outside_0 32 rfl
theorem dX6_outside_53 : decode cX6_outside 53 = .ok (.ifCond .eq 8, 3) := dAt dlX6_outside_0 33 rfl
theorem dX6_outside_56 : decode cX6_outside 56 = .ok (.iload 6, 2) := dAt dlX6_outside_0 34 rfl
theorem dX6_outside_58 : decode cX6_outside 58 = .ok (.goto 13, 3) := dAt dlX6_outside_0 35 rfl
theorem dX6_outside_61 : decode cX6_outside 61 = .ok (.iload 6, 2) := dAt dlX6_outside_0 36 rfl
theorem dX6_outside_63 : decode cX6_outside 63 = .ok (.ifCond .le 7, 3) := dAt dlX6_outside_0 37 rfl
theorem dX6_outside_66 : decode cX6_outside 66 = .ok (.iconst 1, 1) := dAt dlX6_outside_0 38 rfl
theorem dX6_outside_67 : decode cX6_outside 67 = .ok (.goto 4, 3) := dAt dlX6_outside_0 39 rfl
theorem dX6_outside_70 : decode cX6_outside 70 = .ok (.iconst 0, 1) := dAt dlX6_outside_0 40 rfl
theorem dX6_outside_71 : decode cX6_outside 71 = .ok (.iadd, 1) := dAt dlX6_outside_0 41 rfl
theorem dX6_outside_72 : decode cX6_outside 72 = .ok (.istore 4, 2) := dAt dlX6_outside_0 42 rfl
theorem dX6_outside_74 : decode cX6_outside 74 = .ok (.iinc 5 1, 3) := dAt dlX6_outside_0 43 rfl
theorem dX6_outside_77 : decode cX6_outside 77 = .ok (.goto (-71), 3) := dAt dlX6_outside_0 44 rfl
theorem dX6_outside_80 : decode cX6_outside 80 = .ok (.iload 4, 2) := dAt dlX6_outside_0 45 rfl
theorem dX6_outside_82 : decode cX6_outside 82 = .ok (.ireturn, 1) := dAt dlX6_outside_0 46 rfl
def ilX6_growth_0 : List (Nat × Instr × Nat) := [(0, .iload_n 1, 1), (1, .invokestatic 69, 3), (4, .ifCond .eq 12, 3), (7, .iload_n 3, 1), (8, .iconst 0, 1), (9, .iconst 2, 1), (10, .invokestatic 65, 3), (13, .ifCond .ne 6, 3), (16, .bipush (-2), 2), (18, .ireturn, 1), (19, .iconst 0, 1), (20, .istore 4, 2), (22, .iconst 1, 1), (23, .istore 5, 2), (25, .iload 5, 2), (27, .iconst 1, 1), (28, .aload_n 0, 1), (29, .getfield 7, 3), (32, .iload_n 1, 1), (33, .iaload, 1), (34, .ishl, 1), (35, .if_icmp .ge 82, 3), (38, .iconst 2, 1), (39, .iload 5, 2), (41, .invokestatic 73, 3), (44, .imul, 1), (45, .aload_n 0, 1), (46, .getfield 7, 3), (49, .iload_n 1, 1), (50, .iaload, 1), (51, .if_icmp .gt 60, 3), (54, .iload 4, 2), (56, .ifCond .eq 34, 3), (59, .aload_n 0, 1), (60, .iload_n 1, 1), (61, .iload 5, 2), (63, .iload_n 2, 1), (64, .invokevirtual 113, 3), (67, .iload 4, 2), (69, .invokestatic 73, 3), (72, .imul, 1), (73, .aload_n 0, 1), (74, .iload_n 1, 1), (75, .iload 4, 2), (77, .iload_n 2, 1), (78, .invokevirtual 113, 3), (81, .iload 5, 2), (83, .invokestatic 73, 3), (86, .imul, 1), (87, .if_icmp .ge 7, 3), (90, .iconst 1, 1), (91, .goto 4, 3), (94, .iconst 0, 1), (95, .istore 6, 2), (97, .iload 6, 2), (99, .ifCond .eq 8, 3), (102, .iload 5, 2), (104, .goto 5, 3), (107, .iload 4, 2), (109, .istore 4, 2)]
theorem dlX6_growth_0 : dOK cX6_growth ilX6_growth_0 = true := by decide +kernel
theorem dX6_growth_0 : decode cX6_growth 0 = .ok (.iload_n 1, 1) := dAt dlX6_growth_0 0 rfl
theorem dX6_growth_1 : decode cX6_growth 1 = .ok (.invokestatic 69, 3) := dAt dlX6_growth_0 1 rfl
theorem dX6_growth_4 : decode cX6_growth 4 = .ok (.ifCond .eq 12, 3) := dAt dlX6_growth_0 2 rfl
theorem dX6_growth_7 : decode cX6_growth 7 = .ok (.iload_n 3, 1) := dAt dlX6_growth_0 3 rfl
theorem dX6_growth_8 : decode cX6_growth 8 = .ok (.iconst 0, 1) := dAt dlX6_growth_0 4 rfl
theorem dX6_growth_9 : decode cX6_growth 9 = .ok (.iconst 2, 1) := dAt dlX6_growth_0 5 rfl
theorem dX6_growth_10 : decode cX6_growth 10 = .ok (.invokestatic 65, 3) := dAt dlX6_growth_0 6 rfl
theorem dX6_growth_13 : decode cX6_growth 13 = .ok (.ifCond .ne 6, 3) := dAt dlX6_growth_0 7 rfl
theorem dX6_growth_16 : decode cX6_growth 16 = .ok (.bipush (-2), 2) := dAt dlX6_growth_0 8 rfl
theorem dX6_growth_18 : decode cX6_growth 18 = .ok (.ireturn, 1) := dAt dlX6_growth_0 9 rfl
theorem dX6_growth_19 : decode cX6_growth 19 = .ok (.iconst 0, 1) := dAt dlX6_growth_0 10 rfl
theorem dX6_growth_20 : decode cX6_growth 20 = .ok (.istore 4, 2) := dAt dlX6_growth_0 11 rfl
theorem dX6_growth_22 : decode cX6_growth 22 = .ok (.iconst 1, 1) := dAt dlX6_growth_0 12 rfl
theorem dX6_growth_23 : decode cX6_growth 23 = .ok (.istore 5, 2) := dAt dlX6_growth_0 13 rfl
theorem dX6_growth_25 : decode cX6_growth 25 = .ok (.iload 5, 2) := dAt dlX6_growth_0 14 rfl
theorem dX6_growth_27 : decode cX6_growth 27 = .ok (.iconst 1, 1) := dAt dlX6_growth_0 15 rfl
theorem dX6_growth_28 : decode cX6_growth 28 = .ok (.aload_n 0, 1) := dAt dlX6_growth_0 16 rfl
theorem dX6_growth_29 : decode cX6_growth 29 = .ok (.getfield 7, 3) := dAt dlX6_growth_0 17 rfl
theorem dX6_growth_32 : decode cX6_growth 32 = .ok (.iload_n 1, 1) := dAt dlX6_growth_0 18 rfl
theorem dX6_growth_33 : decode cX6_growth 33 = .ok (.iaload, 1) := dAt dlX6_growth_0 19 rfl
theorem dX6_growth_34 : decode cX6_growth 34 = .ok (.ishl, 1) := dAt dlX6_growth_0 20 rfl
theorem dX6_growth_35 : decode cX6_growth 35 = .ok (.if_icmp .ge 82, 3) := dAt dlX6_growth_0 21 rfl
theorem dX6_growth_38 : decode cX6_growth 38 = .ok (.iconst 2, 1) := dAt dlX6_growth_0 22 rfl
theorem dX6_growth_39 : decode cX6_growth 39 = .ok (.iload 5, 2) := dAt dlX6_growth_0 23 rfl
theorem dX6_growth_41 : decode cX6_growth 41 = .ok (.invokestatic 73, 3) := dAt dlX6_growth_0 24 rfl
theorem dX6_growth_44 : decode cX6_growth 44 = .ok (.imul, 1) := dAt dlX6_growth_0 25 rfl
theorem dX6_growth_45 : decode cX6_growth 45 = .ok (.aload_n 0, 1) := dAt dlX6_growth_0 26 rfl
theorem dX6_growth_46 : decode cX6_growth 46 = .ok (.getfield 7, 3) := dAt dlX6_growth_0 27 rfl
theorem dX6_growth_49 : decode cX6_growth 49 = .ok (.iload_n 1, 1) := dAt dlX6_growth_0 28 rfl
theorem dX6_growth_50 : decode cX6_growth 50 = .ok (.iaload, 1) := dAt dlX6_growth_0 29 rfl
theorem dX6_growth_51 : decode cX6_growth 51 = .ok (.if_icmp .gt 60, 3) := dAt dlX6_growth_0 30 rfl
theorem dX6_growth_54 : decode cX6_growth 54 = .ok (.iload 4, 2) := dAt dlX6_growth_0 31 rfl
theorem dX6_growth_56 : decode cX6_growth 56 = .ok (.ifCond .eq 34, 3) := dAt dlX6_growth_0 32 rfl
theorem dX6_growth_59 : decode cX6_growth 59 = .ok (.aload_n 0, 1) := dAt dlX6_growth_0 33 rfl
theorem dX6_growth_60 : decode cX6_growth 60 = .ok (.iload_n 1, 1) := dAt dlX6_growth_0 34 rfl
theorem dX6_growth_61 : decode cX6_growth 61 = .ok (.iload 5, 2) := dAt dlX6_growth_0 35 rfl
theorem dX6_growth_63 : decode cX6_growth 63 = .ok (.iload_n 2, 1) := dAt dlX6_growth_0 36 rfl
theorem dX6_growth_64 : decode cX6_growth 64 = .ok (.invokevirtual 113, 3) := dAt dlX6_growth_0 37 rfl
theorem dX6_growth_67 : decode cX6_growth 67 = .ok (.iload 4, 2) := dAt dlX6_growth_0 38 rfl
theorem dX6_growth_69 : decode cX6_growth 69 = .ok (.invokestatic 73, 3) := dAt dlX6_growth_0 39 rfl
theorem dX6_growth_72 : decode cX6_growth 72 = .ok (.imul, 1) := dAt dlX6_growth_0 40 rfl
theorem dX6_growth_73 : decode cX6_growth 73 = .ok (.aload_n 0, 1) := dAt dlX6_growth_0 41 rfl
theorem dX6_growth_74 : decode cX6_growth 74 = .ok (.iload_n 1, 1) := dAt dlX6_growth_0 42 rfl
theorem dX6_growth_75 : decode cX6_growth 75 = .ok (.iload 4, 2) := dAt dlX6_growth_0 43 rfl
theorem dX6_growth_77 : decode cX6_growth 77 = .ok (.iload_n 2, 1) := dAt dlX6_growth_0 44 rfl
theorem dX6_growth_78 : decode cX6_growth 78 = .ok (.invokevirtual 113, 3) := dAt dlX6_growth_0 45 rfl
theorem dX6_growth_81 : decode cX6_growth 81 = .ok (.iload 5, 2) := dAt dlX6_growth_0 46 rfl
theorem dX6_growth_83 : decode cX6_growth 83 = .ok (.invokestatic 73, 3) := dAt dlX6_growth_0 47 rfl
theorem dX6_growth_86 : decode cX6_growth 86 = .ok (.imul, 1) := dAt dlX6_growth_0 48 rfl
theorem dX6_growth_87 : decode cX6_growth 87 = .ok (.if_icmp .ge 7, 3) := dAt dlX6_growth_0 49 rfl
theorem dX6_growth_90 : decode cX6_growth 90 = .ok (.iconst 1, 1) := dAt dlX6_growth_0 50 rfl
theorem dX6_growth_91 : decode cX6_growth 91 = .ok (.goto 4, 3) := dAt dlX6_growth_0 51 rfl
theorem dX6_growth_94 : decode cX6_growth 94 = .ok (.iconst 0, 1) := dAt dlX6_growth_0 52 rfl
theorem dX6_growth_95 : decode cX6_growth 95 = .ok (.istore 6, 2) := dAt dlX6_growth_0 53 rfl
theorem dX6_growth_97 : decode cX6_growth 97 = .ok (.iload 6, 2) := dAt dlX6_growth_0 54 rfl
theorem dX6_growth_99 : decode cX6_growth 99 = .ok (.ifCond .eq 8, 3) := dAt dlX6_growth_0 55 rfl
theorem dX6_growth_102 : decode cX6_growth 102 = .ok (.iload 5, 2) := dAt dlX6_growth_0 56 rfl
theorem dX6_growth_104 : decode cX6_growth 104 = .ok (.goto 5, 3) := dAt dlX6_growth_0 57 rfl
theorem dX6_growth_107 : decode cX6_growth 107 = .ok (.iload 4, 2) := dAt dlX6_growth_0 58 rfl
theorem dX6_growth_109 : decode cX6_growth 109 = .ok (.istore 4, 2) := dAt dlX6_growth_0 59 rfl
def ilX6_growth_1 : List (Nat × Instr × Nat) := [(111, .iinc 5 1, 3), (114, .goto (-89), 3), (117, .iload 4, 2), (119, .ifCond .ne 7, 3), (122, .iconst (-1), 1), (123, .goto 33, 3), (126, .iload_n 3, 1), (127, .ifCond .ne 14, 3), (130, .aload_n 0, 1), (131, .iload_n 1, 1), (132, .iload 4, 2), (134, .iload_n 2, 1), (135, .invokevirtual 113, 3), (138, .goto 18, 3), (141, .iload_n 3, 1), (142, .iconst 1, 1), (143, .if_icmp .ne 11, 3), (146, .iload 4, 2), (148, .invokestatic 73, 3), (151, .goto 5, 3), (154, .iload 4, 2), (156, .ireturn, 1)]
theorem dlX6_growth_1 : dOK cX6_growth ilX6_growth_1 = true := by decide +kernel
theorem dX6_growth_111 : decode cX6_growth 111 = .ok (.iinc 5 1, 3) := dAt dlX6_growth_1 0 rfl
theorem dX6_growth_114 : decode cX6_growth 114 = .ok (.goto (-89), 3) := dAt dlX6_growth_1 1 rfl
theorem dX6_growth_117 : decode cX6_growth 117 = .ok (.iload 4, 2) := dAt dlX6_growth_1 2 rfl
theorem dX6_growth_119 : decode cX6_growth 119 = .ok (.ifCond .ne 7, 3) := dAt dlX6_growth_1 3 rfl
theorem dX6_growth_122 : decode cX6_growth 122 = .ok (.iconst (-1), 1) := dAt dlX6_growth_1 4 rfl
theorem dX6_growth_123 : decode cX6_growth 123 = .ok (.goto 33, 3) := dAt dlX6_growth_1 5 rfl
theorem dX6_growth_126 : decode cX6_growth 126 = .ok (.iload_n 3, 1) := dAt dlX6_growth_1 6 rfl
theorem dX6_growth_127 : decode cX6_growth 127 = .ok (.ifCond .ne 14, 3) := dAt dlX6_growth_1 7 rfl
theorem dX6_growth_130 : decode cX6_growth 130 = .ok (.aload_n 0, 1) := dAt dlX6_growth_1 8 rfl
theorem dX6_growth_131 : decode cX6_growth 131 = .ok (.iload_n 1, 1) := dAt dlX6_growth_1 9 rfl
theorem dX6_growth_132 : decode cX6_growth 132 = .ok (.iload 4, 2) := dAt dlX6_growth_1 10 rfl
theorem dX6_growth_134 : decode cX6_growth 134 = .ok (.iload_n 2, 1) := dAt dlX6_growth_1 11 rfl
theorem dX6_growth_135 : decode cX6_growth 135 = .ok (.invokevirtual 113, 3) := dAt dlX6_growth_1 12 rfl
theorem dX6_growth_138 : decode cX6_growth 138 = .ok (.goto 18, 3) := dAt dlX6_growth_1 13 rfl
theorem dX6_growth_141 : decode cX6_growth 141 = .ok (.iload_n 3, 1) := dAt dlX6_growth_1 14 rfl
theorem dX6_growth_142 : decode cX6_growth 142 = .ok (.iconst 1, 1) := dAt dlX6_growth_1 15 rfl
theorem dX6_growth_143 : decode cX6_growth 143 = .ok (.if_icmp .ne 11, 3) := dAt dlX6_growth_1 16 rfl
theorem dX6_growth_146 : decode cX6_growth 146 = .ok (.iload 4, 2) := dAt dlX6_growth_1 17 rfl
theorem dX6_growth_148 : decode cX6_growth 148 = .ok (.invokestatic 73, 3) := dAt dlX6_growth_1 18 rfl
theorem dX6_growth_151 : decode cX6_growth 151 = .ok (.goto 5, 3) := dAt dlX6_growth_1 19 rfl
theorem dX6_growth_154 : decode cX6_growth 154 = .ok (.iload 4, 2) := dAt dlX6_growth_1 20 rfl
theorem dX6_growth_156 : decode cX6_growth 156 = .ok (.ireturn, 1) := dAt dlX6_growth_1 21 rfl
def ilX6_layTable_0 : List (Nat × Instr × Nat) := [(0, .aload_n 0, 1), (1, .iload_n 1, 1), (2, .invokevirtual 109, 3), (5, .iconst 0, 1), (6, .istore_n 3, 1), (7, .iload_n 3, 1), (8, .bipush 100, 2), (10, .if_icmp .ge 16, 3), (13, .aload_n 0, 1), (14, .getfield 28, 3), (17, .iload_n 3, 1), (18, .lconst 0, 1), (19, .lastore, 1), (20, .iinc 3 1, 3), (23, .goto (-16), 3), (26, .iconst 0, 1), (27, .istore_n 3, 1), (28, .iload_n 3, 1), (29, .aload_n 0, 1), (30, .getfield 105, 3), (33, .if_icmp .ge 79, 3), (36, .iload_n 3, 1), (37, .bipush 31, 2), (39, .if_icmp .ge 18, 3), (42, .iload_n 2, 1), (43, .iload_n 3, 1), (44, .ishr, 1), (45, .iconst 1, 1), (46, .iand, 1), (47, .iconst 1, 1), (48, .if_icmp .ne 9, 3), (51, .ldc2_w 117, 3), (54, .goto 4, 3), (57, .lconst 1, 1), (58, .lstore 4, 2), (60, .aload_n 0, 1), (61, .getfield 28, 3), (64, .bipush 10, 2), (66, .aload_n 0, 1), (67, .getfield 22, 3), (70, .iload_n 3, 1), (71, .iaload, 1), (72, .imul, 1), (73, .aload_n 0, 1), (74, .getfield 25, 3), (77, .iload_n 3, 1), (78, .iaload, 1), (79, .iadd, 1), (80, .lload 4, 2), (82, .lastore, 1), (83, .aload_n 0, 1), (84, .getfield 28, 3), (87, .bipush 10, 2), (89, .aload_n 0, 1), (90, .getfield 25, 3), (93, .iload_n 3, 1), (94, .iaload, 1), (95, .imul, 1), (96, .aload_n 0, 1), (97, .getfield 22, 3)]
theorem dlX6_layTable_0 : dOK cX6_layTable ilX6_layTable_0 = true := by decide +kernel
theorem dX6_layTable_0 : decode cX6_layTable 0 = .ok (.aload_n 0, 1) := dAt dlX6_layTable_0 0 rfl
theorem dX6_layTable_1 : decode cX6_layTable 1 = .ok (.iload_n 1, 1) := dAt dlX6_layTable_0 1 rfl
theorem dX6_layTable_2 : decode cX6_layTable 2 = .ok (.invokevirtual 109, 3) := dAt dlX6_layTable_0 2 rfl
theorem dX6_layTable_5 : decode cX6_layTable 5 = .ok (.iconst 0, 1) := dAt dlX6_layTable_0 3 rfl
theorem dX6_layTable_6 : decode cX6_layTable 6 = .ok (.istore_n 3, 1) := dAt dlX6_layTable_0 4 rfl
theorem dX6_layTable_7 : decode cX6_layTable 7 = .ok (.iload_n 3, 1) := dAt dlX6_layTable_0 5 rfl
theorem dX6_layTable_8 : decode cX6_layTable 8 = .ok (.bipush 100, 2) := dAt dlX6_layTable_0 6 rfl
theorem dX6_layTable_10 : decode cX6_layTable 10 = .ok (.if_icmp .ge 16, 3) := dAt dlX6_layTable_0 7 rfl
theorem dX6_layTable_13 : decode cX6_layTable 13 = .ok (.aload_n 0, 1) := dAt dlX6_layTable_0 8 rfl
theorem dX6_layTable_14 : decode cX6_layTable 14 = .ok (.getfield 28, 3) := dAt dlX6_layTable_0 9 rfl
theorem dX6_layTable_17 : decode cX6_layTable 17 = .ok (.iload_n 3, 1) := dAt dlX6_layTable_0 10 rfl
theorem dX6_layTable_18 : decode cX6_layTable 18 = .ok (.lconst 0, 1) := dAt dlX6_layTable_0 11 rfl
theorem dX6_layTable_19 : decode cX6_layTable 19 = .ok (.lastore, 1) := dAt dlX6_layTable_0 12 rfl
theorem dX6_layTable_20 : decode cX6_layTable 20 = .ok (.iinc 3 1, 3) := dAt dlX6_layTable_0 13 rfl
theorem dX6_layTable_23 : decode cX6_layTable 23 = .ok (.goto (-16), 3) := dAt dlX6_layTable_0 14 rfl
theorem dX6_layTable_26 : decode cX6_layTable 26 = .ok (.iconst 0, 1) := dAt dlX6_layTable_0 15 rfl
theorem dX6_layTable_27 : decode cX6_layTable 27 = .ok (.istore_n 3, 1) := dAt dlX6_layTable_0 16 rfl
theorem dX6_layTable_28 : decode cX6_layTable 28 = .ok (.iload_n 3, 1) := dAt dlX6_layTable_0 17 rfl
theorem dX6_layTable_29 : decode cX6_layTable 29 = .ok (.aload_n 0, 1) := dAt dlX6_layTable_0 18 rfl
theorem dX6_layTable_30 : decode cX6_layTable 30 = .ok (.getfield 105, 3) := dAt dlX6_layTable_0 19 rfl
theorem dX6_layTable_33 : decode cX6_layTable 33 = .ok (.if_icmp .ge 79, 3) := dAt dlX6_layTable_0 20 rfl
theorem dX6_layTable_36 : decode cX6_layTable 36 = .ok (.iload_n 3, 1) := dAt dlX6_layTable_0 21 rfl
theorem dX6_layTable_37 : decode cX6_layTable 37 = .ok (.bipush 31, 2) := dAt dlX6_layTable_0 22 rfl
theorem dX6_layTable_39 : decode cX6_layTable 39 = .ok (.if_icmp .ge 18, 3) := dAt dlX6_layTable_0 23 rfl
theorem dX6_layTable_42 : decode cX6_layTable 42 = .ok (.iload_n 2, 1) := dAt dlX6_layTable_0 24 rfl
theorem dX6_layTable_43 : decode cX6_layTable 43 = .ok (.iload_n 3, 1) := dAt dlX6_layTable_0 25 rfl
theorem dX6_layTable_44 : decode cX6_layTable 44 = .ok (.ishr, 1) := dAt dlX6_layTable_0 26 rfl
theorem dX6_layTable_45 : decode cX6_layTable 45 = .ok (.iconst 1, 1) := dAt dlX6_layTable_0 27 rfl
theorem dX6_layTable_46 : decode cX6_layTable 46 = .ok (.iand, 1) := dAt dlX6_layTable_0 28 rfl
theorem dX6_layTable_47 : decode cX6_layTable 47 = .ok (.iconst 1, 1) := dAt dlX6_layTable_0 29 rfl
theorem dX6_layTable_48 : decode cX6_layTable 48 = .ok (.if_icmp .ne 9, 3) := dAt dlX6_layTable_0 30 rfl
theorem dX6_layTable_51 : decode cX6_layTable 51 = .ok (.ldc2_w 117, 3) := dAt dlX6_layTable_0 31 rfl
theorem dX6_layTable_54 : decode cX6_layTable 54 = .ok (.goto 4, 3) := dAt dlX6_layTable_0 32 rfl
theorem dX6_layTable_57 : decode cX6_layTable 57 = .ok (.lconst 1, 1) := dAt dlX6_layTable_0 33 rfl
theorem dX6_layTable_58 : decode cX6_layTable 58 = .ok (.lstore 4, 2) := dAt dlX6_layTable_0 34 rfl
theorem dX6_layTable_60 : decode cX6_layTable 60 = .ok (.aload_n 0, 1) := dAt dlX6_layTable_0 35 rfl
theorem dX6_layTable_61 : decode cX6_layTable 61 = .ok (.getfield 28, 3) := dAt dlX6_layTable_0 36 rfl
theorem dX6_layTable_64 : decode cX6_layTable 64 = .ok (.bipush 10, 2) := dAt dlX6_layTable_0 37 rfl
theorem dX6_layTable_66 : decode cX6_layTable 66 = .ok (.aload_n 0, 1) := dAt dlX6_layTable_0 38 rfl
theorem dX6_layTable_67 : decode cX6_layTable 67 = .ok (.getfield 22, 3) := dAt dlX6_layTable_0 39 rfl
theorem dX6_layTable_70 : decode cX6_layTable 70 = .ok (.iload_n 3, 1) := dAt dlX6_layTable_0 40 rfl
theorem dX6_layTable_71 : decode cX6_layTable 71 = .ok (.iaload, 1) := dAt dlX6_layTable_0 41 rfl
theorem dX6_layTable_72 : decode cX6_layTable 72 = .ok (.imul, 1) := dAt dlX6_layTable_0 42 rfl
theorem dX6_layTable_73 : decode cX6_layTable 73 = .ok (.aload_n 0, 1) := dAt dlX6_layTable_0 43 rfl
theorem dX6_layTable_74 : decode cX6_layTable 74 = .ok (.getfield 25, 3) := dAt dlX6_layTable_0 44 rfl
theorem dX6_layTable_77 : decode cX6_layTable 77 = .ok (.iload_n 3, 1) := dAt dlX6_layTable_0 45 rfl
theorem dX6_layTable_78 : decode cX6_layTable 78 = .ok (.iaload, 1) := dAt dlX6_layTable_0 46 rfl
theorem dX6_layTable_79 : decode cX6_layTable 79 = .ok (.iadd, 1) := dAt dlX6_layTable_0 47 rfl
theorem dX6_layTable_80 : decode cX6_layTable 80 = .ok (.lload 4, 2) := dAt dlX6_layTable_0 48 rfl
theorem dX6_layTable_82 : decode cX6_layTable 82 = .ok (.lastore, 1) := dAt dlX6_layTable_0 49 rfl
theorem dX6_layTable_83 : decode cX6_layTable 83 = .ok (.aload_n 0, 1) := dAt dlX6_layTable_0 50 rfl
theorem dX6_layTable_84 : decode cX6_layTable 84 = .ok (.getfield 28, 3) := dAt dlX6_layTable_0 51 rfl
theorem dX6_layTable_87 : decode cX6_layTable 87 = .ok (.bipush 10, 2) := dAt dlX6_layTable_0 52 rfl
theorem dX6_layTable_89 : decode cX6_layTable 89 = .ok (.aload_n 0, 1) := dAt dlX6_layTable_0 53 rfl
theorem dX6_layTable_90 : decode cX6_layTable 90 = .ok (.getfield 25, 3) := dAt dlX6_layTable_0 54 rfl
theorem dX6_layTable_93 : decode cX6_layTable 93 = .ok (.iload_n 3, 1) := dAt dlX6_layTable_0 55 rfl
theorem dX6_layTable_94 : decode cX6_layTable 94 = .ok (.iaload, 1) := dAt dlX6_layTable_0 56 rfl
theorem dX6_layTable_95 : decode cX6_layTable 95 = .ok (.imul, 1) := dAt dlX6_layTable_0 57 rfl
theorem dX6_layTable_96 : decode cX6_layTable 96 = .ok (.aload_n 0, 1) := dAt dlX6_layTable_0 58 rfl
theorem dX6_layTable_97 : decode cX6_layTable 97 = .ok (.getfield 22, 3) := dAt dlX6_layTable_0 59 rfl
def ilX6_layTable_1 : List (Nat × Instr × Nat) := [(100, .iload_n 3, 1), (101, .iaload, 1), (102, .iadd, 1), (103, .lload 4, 2), (105, .lastore, 1), (106, .iinc 3 1, 3), (109, .goto (-81), 3), (112, .return_, 1)]
theorem dlX6_layTable_1 : dOK cX6_layTable ilX6_layTable_1 = true := by decide +kernel
theorem dX6_layTable_100 : decode cX6_layTable 100 = .ok (.iload_n 3, 1) := dAt dlX6_layTable_1 0 rfl
theorem dX6_layTable_101 : decode cX6_layTable 101 = .ok (.iaload, 1) := dAt dlX6_layTable_1 1 rfl
theorem dX6_layTable_102 : decode cX6_layTable 102 = .ok (.iadd, 1) := dAt dlX6_layTable_1 2 rfl
theorem dX6_layTable_103 : decode cX6_layTable 103 = .ok (.lload 4, 2) := dAt dlX6_layTable_1 3 rfl
theorem dX6_layTable_105 : decode cX6_layTable 105 = .ok (.lastore, 1) := dAt dlX6_layTable_1 4 rfl
theorem dX6_layTable_106 : decode cX6_layTable 106 = .ok (.iinc 3 1, 3) := dAt dlX6_layTable_1 5 rfl
theorem dX6_layTable_109 : decode cX6_layTable 109 = .ok (.goto (-81), 3) := dAt dlX6_layTable_1 6 rfl
theorem dX6_layTable_112 : decode cX6_layTable 112 = .ok (.return_, 1) := dAt dlX6_layTable_1 7 rfl
def ilX6_layPolynomial_0 : List (Nat × Instr × Nat) := [(0, .iconst 0, 1), (1, .istore_n 2, 1), (2, .iload_n 2, 1), (3, .bipush 100, 2), (5, .if_icmp .ge 31, 3), (8, .aload_n 0, 1), (9, .getfield 32, 3), (12, .iload_n 2, 1), (13, .iload_n 2, 1), (14, .bipush 10, 2), (16, .idiv, 1), (17, .iload_n 2, 1), (18, .bipush 10, 2), (20, .irem, 1), (21, .if_icmp .ne 7, 3), (24, .lconst 1, 1), (25, .goto 4, 3), (28, .lconst 0, 1), (29, .lastore, 1), (30, .iinc 2 1, 3), (33, .goto (-31), 3), (36, .aload_n 0, 1), (37, .getfield 38, 3), (40, .iload_n 1, 1), (41, .lconst 1, 1), (42, .lastore, 1), (43, .iconst 1, 1), (44, .istore_n 2, 1), (45, .iload_n 2, 1), (46, .iload_n 1, 1), (47, .if_icmp .gt 222, 3), (50, .iconst 0, 1), (51, .istore_n 3, 1), (52, .iload_n 3, 1), (53, .iload_n 1, 1), (54, .if_icmp .ge 87, 3), (57, .iconst 0, 1), (58, .istore 4, 2), (60, .iload 4, 2), (62, .iload_n 1, 1), (63, .if_icmp .ge 72, 3), (66, .lconst 0, 1), (67, .lstore 5, 2), (69, .iconst 0, 1), (70, .istore 7, 2), (72, .iload 7, 2), (74, .iload_n 1, 1), (75, .if_icmp .ge 40, 3), (78, .lload 5, 2), (80, .aload_n 0, 1), (81, .getfield 28, 3), (84, .bipush 10, 2), (86, .iload_n 3, 1), (87, .imul, 1), (88, .iload 7, 2), (90, .iadd, 1), (91, .laload, 1), (92, .aload_n 0, 1), (93, .getfield 32, 3), (96, .bipush 10, 2)]
theorem dlX6_layPolynomial_0 : dOK cX6_layPolynomial ilX6_layPolynomial_0 = true := by decide +kernel
theorem dX6_layPolynomial_0 : decode cX6_layPolynomial 0 = .ok (.iconst 0, 1) := dAt dlX6_layPolynomial_0 0 rfl
theorem dX6_layPolynomial_1 : decode cX6_layPolynomial 1 = .ok (.istore_n 2, 1) := dAt dlX6_layPolynomial_0 1 rfl
theorem dX6_layPolynomial_2 : decode cX6_layPolynomial 2 = .ok (.iload_n 2, 1) := dAt dlX6_layPolynomial_0 2 rfl
theorem dX6_layPolynomial_3 : decode cX6_layPolynomial 3 = .ok (.bipush 100, 2) := dAt dlX6_layPolynomial_0 3 rfl
theorem dX6_layPolynomial_5 : decode cX6_layPolynomial 5 = .ok (.if_icmp .ge 31, 3) := dAt dlX6_layPolynomial_0 4 rfl
theorem dX6_layPolynomial_8 : decode cX6_layPolynomial 8 = .ok (.aload_n 0, 1) := dAt dlX6_layPolynomial_0 5 rfl
theorem dX6_layPolynomial_9 : decode cX6_layPolynomial 9 = .ok (.getfield 32, 3) := dAt dlX6_layPolynomial_0 6 rfl
theorem dX6_layPolynomial_12 : decode cX6_layPolynomial 12 = .ok (.iload_n 2, 1) := dAt dlX6_layPolynomial_0 7 rfl
theorem dX6_layPolynomial_13 : decode cX6_layPolynomial 13 = .ok (.iload_n 2, 1) := dAt dlX6_layPolynomial_0 8 rfl
theorem dX6_layPolynomial_14 : decode cX6_layPolynomial 14 = .ok (.bipush 10, 2) := dAt dlX6_layPolynomial_0 9 rfl
theorem dX6_layPolynomial_16 : decode cX6_layPolynomial 16 = .ok (.idiv, 1) := dAt dlX6_layPolynomial_0 10 rfl
theorem dX6_layPolynomial_17 : decode cX6_layPolynomial 17 = .ok (.iload_n 2, 1) := dAt dlX6_layPolynomial_0 11 rfl
theorem dX6_layPolynomial_18 : decode cX6_layPolynomial 18 = .ok (.bipush 10, 2) := dAt dlX6_layPolynomial_0 12 rfl
theorem dX6_layPolynomial_20 : decode cX6_layPolynomial 20 = .ok (.irem, 1) := dAt dlX6_layPolynomial_0 13 rfl
theorem dX6_layPolynomial_21 : decode cX6_layPolynomial 21 = .ok (.if_icmp .ne 7, 3) := dAt dlX6_layPolynomial_0 14 rfl
theorem dX6_layPolynomial_24 : decode cX6_layPolynomial 24 = .ok (.lconst 1, 1) := dAt dlX6_layPolynomial_0 15 rfl
theorem dX6_layPolynomial_25 : decode cX6_layPolynomial 25 = .ok (.goto 4, 3) := dAt dlX6_layPolynomial_0 16 rfl
theorem dX6_layPolynomial_28 : decode cX6_layPolynomial 28 = .ok (.lconst 0, 1) := dAt dlX6_layPolynomial_0 17 rfl
theorem dX6_layPolynomial_29 : decode cX6_layPolynomial 29 = .ok (.lastore, 1) := dAt dlX6_layPolynomial_0 18 rfl
theorem dX6_layPolynomial_30 : decode cX6_layPolynomial 30 = .ok (.iinc 2 1, 3) := dAt dlX6_layPolynomial_0 19 rfl
theorem dX6_layPolynomial_33 : decode cX6_layPolynomial 33 = .ok (.goto (-31), 3) := dAt dlX6_layPolynomial_0 20 rfl
theorem dX6_layPolynomial_36 : decode cX6_layPolynomial 36 = .ok (.aload_n 0, 1) := dAt dlX6_layPolynomial_0 21 rfl
theorem dX6_layPolynomial_37 : decode cX6_layPolynomial 37 = .ok (.getfield 38, 3) := dAt dlX6_layPolynomial_0 22 rfl
theorem dX6_layPolynomial_40 : decode cX6_layPolynomial 40 = .ok (.iload_n 1, 1) := dAt dlX6_layPolynomial_0 23 rfl
theorem dX6_layPolynomial_41 : decode cX6_layPolynomial 41 = .ok (.lconst 1, 1) := dAt dlX6_layPolynomial_0 24 rfl
theorem dX6_layPolynomial_42 : decode cX6_layPolynomial 42 = .ok (.lastore, 1) := dAt dlX6_layPolynomial_0 25 rfl
theorem dX6_layPolynomial_43 : decode cX6_layPolynomial 43 = .ok (.iconst 1, 1) := dAt dlX6_layPolynomial_0 26 rfl
theorem dX6_layPolynomial_44 : decode cX6_layPolynomial 44 = .ok (.istore_n 2, 1) := dAt dlX6_layPolynomial_0 27 rfl
theorem dX6_layPolynomial_45 : decode cX6_layPolynomial 45 = .ok (.iload_n 2, 1) := dAt dlX6_layPolynomial_0 28 rfl
theorem dX6_layPolynomial_46 : decode cX6_layPolynomial 46 = .ok (.iload_n 1, 1) := dAt dlX6_layPolynomial_0 29 rfl
theorem dX6_layPolynomial_47 : decode cX6_layPolynomial 47 = .ok (.if_icmp .gt 222, 3) := dAt dlX6_layPolynomial_0 30 rfl
theorem dX6_layPolynomial_50 : decode cX6_layPolynomial 50 = .ok (.iconst 0, 1) := dAt dlX6_layPolynomial_0 31 rfl
theorem dX6_layPolynomial_51 : decode cX6_layPolynomial 51 = .ok (.istore_n 3, 1) := dAt dlX6_layPolynomial_0 32 rfl
theorem dX6_layPolynomial_52 : decode cX6_layPolynomial 52 = .ok (.iload_n 3, 1) := dAt dlX6_layPolynomial_0 33 rfl
theorem dX6_layPolynomial_53 : decode cX6_layPolynomial 53 = .ok (.iload_n 1, 1) := dAt dlX6_layPolynomial_0 34 rfl
theorem dX6_layPolynomial_54 : decode cX6_layPolynomial 54 = .ok (.if_icmp .ge 87, 3) := dAt dlX6_layPolynomial_0 35 rfl
theorem dX6_layPolynomial_57 : decode cX6_layPolynomial 57 = .ok (.iconst 0, 1) := dAt dlX6_layPolynomial_0 36 rfl
theorem dX6_layPolynomial_58 : decode cX6_layPolynomial 58 = .ok (.istore 4, 2) := dAt dlX6_layPolynomial_0 37 rfl
theorem dX6_layPolynomial_60 : decode cX6_layPolynomial 60 = .ok (.iload 4, 2) := dAt dlX6_layPolynomial_0 38 rfl
theorem dX6_layPolynomial_62 : decode cX6_layPolynomial 62 = .ok (.iload_n 1, 1) := dAt dlX6_layPolynomial_0 39 rfl
theorem dX6_layPolynomial_63 : decode cX6_layPolynomial 63 = .ok (.if_icmp .ge 72, 3) := dAt dlX6_layPolynomial_0 40 rfl
theorem dX6_layPolynomial_66 : decode cX6_layPolynomial 66 = .ok (.lconst 0, 1) := dAt dlX6_layPolynomial_0 41 rfl
theorem dX6_layPolynomial_67 : decode cX6_layPolynomial 67 = .ok (.lstore 5, 2) := dAt dlX6_layPolynomial_0 42 rfl
theorem dX6_layPolynomial_69 : decode cX6_layPolynomial 69 = .ok (.iconst 0, 1) := dAt dlX6_layPolynomial_0 43 rfl
theorem dX6_layPolynomial_70 : decode cX6_layPolynomial 70 = .ok (.istore 7, 2) := dAt dlX6_layPolynomial_0 44 rfl
theorem dX6_layPolynomial_72 : decode cX6_layPolynomial 72 = .ok (.iload 7, 2) := dAt dlX6_layPolynomial_0 45 rfl
theorem dX6_layPolynomial_74 : decode cX6_layPolynomial 74 = .ok (.iload_n 1, 1) := dAt dlX6_layPolynomial_0 46 rfl
theorem dX6_layPolynomial_75 : decode cX6_layPolynomial 75 = .ok (.if_icmp .ge 40, 3) := dAt dlX6_layPolynomial_0 47 rfl
theorem dX6_layPolynomial_78 : decode cX6_layPolynomial 78 = .ok (.lload 5, 2) := dAt dlX6_layPolynomial_0 48 rfl
theorem dX6_layPolynomial_80 : decode cX6_layPolynomial 80 = .ok (.aload_n 0, 1) := dAt dlX6_layPolynomial_0 49 rfl
theorem dX6_layPolynomial_81 : decode cX6_layPolynomial 81 = .ok (.getfield 28, 3) := dAt dlX6_layPolynomial_0 50 rfl
theorem dX6_layPolynomial_84 : decode cX6_layPolynomial 84 = .ok (.bipush 10, 2) := dAt dlX6_layPolynomial_0 51 rfl
theorem dX6_layPolynomial_86 : decode cX6_layPolynomial 86 = .ok (.iload_n 3, 1) := dAt dlX6_layPolynomial_0 52 rfl
theorem dX6_layPolynomial_87 : decode cX6_layPolynomial 87 = .ok (.imul, 1) := dAt dlX6_layPolynomial_0 53 rfl
theorem dX6_layPolynomial_88 : decode cX6_layPolynomial 88 = .ok (.iload 7, 2) := dAt dlX6_layPolynomial_0 54 rfl
theorem dX6_layPolynomial_90 : decode cX6_layPolynomial 90 = .ok (.iadd, 1) := dAt dlX6_layPolynomial_0 55 rfl
theorem dX6_layPolynomial_91 : decode cX6_layPolynomial 91 = .ok (.laload, 1) := dAt dlX6_layPolynomial_0 56 rfl
theorem dX6_layPolynomial_92 : decode cX6_layPolynomial 92 = .ok (.aload_n 0, 1) := dAt dlX6_layPolynomial_0 57 rfl
theorem dX6_layPolynomial_93 : decode cX6_layPolynomial 93 = .ok (.getfield 32, 3) := dAt dlX6_layPolynomial_0 58 rfl
theorem dX6_layPolynomial_96 : decode cX6_layPolynomial 96 = .ok (.bipush 10, 2) := dAt dlX6_layPolynomial_0 59 rfl
def ilX6_layPolynomial_1 : List (Nat × Instr × Nat) := [(98, .iload 7, 2), (100, .imul, 1), (101, .iload 4, 2), (103, .iadd, 1), (104, .laload, 1), (105, .lmul, 1), (106, .ladd, 1), (107, .lstore 5, 2), (109, .iinc 7 1, 3), (112, .goto (-40), 3), (115, .aload_n 0, 1), (116, .getfield 35, 3), (119, .bipush 10, 2), (121, .iload_n 3, 1), (122, .imul, 1), (123, .iload 4, 2), (125, .iadd, 1), (126, .lload 5, 2), (128, .lastore, 1), (129, .iinc 4 1, 3), (132, .goto (-72), 3), (135, .iinc 3 1, 3), (138, .goto (-86), 3), (141, .lconst 0, 1), (142, .lstore_n 3, 1), (143, .iconst 0, 1), (144, .istore 5, 2), (146, .iload 5, 2), (148, .iload_n 1, 1), (149, .if_icmp .ge 25, 3), (152, .lload_n 3, 1), (153, .aload_n 0, 1), (154, .getfield 35, 3), (157, .bipush 10, 2), (159, .iload 5, 2), (161, .imul, 1), (162, .iload 5, 2), (164, .iadd, 1), (165, .laload, 1), (166, .ladd, 1), (167, .lstore_n 3, 1), (168, .iinc 5 1, 3), (171, .goto (-25), 3), (174, .aload_n 0, 1), (175, .getfield 38, 3), (178, .iload_n 1, 1), (179, .iload_n 2, 1), (180, .isub, 1), (181, .lload_n 3, 1), (182, .lneg, 1), (183, .iload_n 2, 1), (184, .i2l, 1), (185, .ldiv, 1), (186, .lastore, 1), (187, .iconst 0, 1), (188, .istore 5, 2), (190, .iload 5, 2), (192, .iload_n 1, 1), (193, .if_icmp .ge 70, 3), (196, .iconst 0, 1)]
theorem dlX6_layPolynomial_1 : dOK cX6_layPolynomial ilX6_layPolynomial_1 = true := by decide +kernel
theorem dX6_layPolynomial_98 : decode cX6_layPolynomial 98 = .ok (.iload 7, 2) := dAt dlX6_layPolynomial_1 0 rfl
theorem dX6_layPolynomial_100 : decode cX6_layPolynomial 100 = .ok (.imul, 1) := dAt dlX6_layPolynomial_1 1 rfl
theorem dX6_layPolynomial_101 : decode cX6_layPolynomial 101 = .ok (.iload 4, 2) := dAt dlX6_layPolynomial_1 2 rfl
theorem dX6_layPolynomial_103 : decode cX6_layPolynomial 103 = .ok (.iadd, 1) := dAt dlX6_layPolynomial_1 3 rfl
theorem dX6_layPolynomial_104 : decode cX6_layPolynomial 104 = .ok (.laload, 1) := dAt dlX6_layPolynomial_1 4 rfl
theorem dX6_layPolynomial_105 : decode cX6_layPolynomial 105 = .ok (.lmul, 1) := dAt dlX6_layPolynomial_1 5 rfl
theorem dX6_layPolynomial_106 : decode cX6_layPolynomial 106 = .ok (.ladd, 1) := dAt dlX6_layPolynomial_1 6 rfl
theorem dX6_layPolynomial_107 : decode cX6_layPolynomial 107 = .ok (.lstore 5, 2) := dAt dlX6_layPolynomial_1 7 rfl
theorem dX6_layPolynomial_109 : decode cX6_layPolynomial 109 = .ok (.iinc 7 1, 3) := dAt dlX6_layPolynomial_1 8 rfl
theorem dX6_layPolynomial_112 : decode cX6_layPolynomial 112 = .ok (.goto (-40), 3) := dAt dlX6_layPolynomial_1 9 rfl
theorem dX6_layPolynomial_115 : decode cX6_layPolynomial 115 = .ok (.aload_n 0, 1) := dAt dlX6_layPolynomial_1 10 rfl
theorem dX6_layPolynomial_116 : decode cX6_layPolynomial 116 = .ok (.getfield 35, 3) := dAt dlX6_layPolynomial_1 11 rfl
theorem dX6_layPolynomial_119 : decode cX6_layPolynomial 119 = .ok (.bipush 10, 2) := dAt dlX6_layPolynomial_1 12 rfl
theorem dX6_layPolynomial_121 : decode cX6_layPolynomial 121 = .ok (.iload_n 3, 1) := dAt dlX6_layPolynomial_1 13 rfl
theorem dX6_layPolynomial_122 : decode cX6_layPolynomial 122 = .ok (.imul, 1) := dAt dlX6_layPolynomial_1 14 rfl
theorem dX6_layPolynomial_123 : decode cX6_layPolynomial 123 = .ok (.iload 4, 2) := dAt dlX6_layPolynomial_1 15 rfl
theorem dX6_layPolynomial_125 : decode cX6_layPolynomial 125 = .ok (.iadd, 1) := dAt dlX6_layPolynomial_1 16 rfl
theorem dX6_layPolynomial_126 : decode cX6_layPolynomial 126 = .ok (.lload 5, 2) := dAt dlX6_layPolynomial_1 17 rfl
theorem dX6_layPolynomial_128 : decode cX6_layPolynomial 128 = .ok (.lastore, 1) := dAt dlX6_layPolynomial_1 18 rfl
theorem dX6_layPolynomial_129 : decode cX6_layPolynomial 129 = .ok (.iinc 4 1, 3) := dAt dlX6_layPolynomial_1 19 rfl
theorem dX6_layPolynomial_132 : decode cX6_layPolynomial 132 = .ok (.goto (-72), 3) := dAt dlX6_layPolynomial_1 20 rfl
theorem dX6_layPolynomial_135 : decode cX6_layPolynomial 135 = .ok (.iinc 3 1, 3) := dAt dlX6_layPolynomial_1 21 rfl
theorem dX6_layPolynomial_138 : decode cX6_layPolynomial 138 = .ok (.goto (-86), 3) := dAt dlX6_layPolynomial_1 22 rfl
theorem dX6_layPolynomial_141 : decode cX6_layPolynomial 141 = .ok (.lconst 0, 1) := dAt dlX6_layPolynomial_1 23 rfl
theorem dX6_layPolynomial_142 : decode cX6_layPolynomial 142 = .ok (.lstore_n 3, 1) := dAt dlX6_layPolynomial_1 24 rfl
theorem dX6_layPolynomial_143 : decode cX6_layPolynomial 143 = .ok (.iconst 0, 1) := dAt dlX6_layPolynomial_1 25 rfl
theorem dX6_layPolynomial_144 : decode cX6_layPolynomial 144 = .ok (.istore 5, 2) := dAt dlX6_layPolynomial_1 26 rfl
theorem dX6_layPolynomial_146 : decode cX6_layPolynomial 146 = .ok (.iload 5, 2) := dAt dlX6_layPolynomial_1 27 rfl
theorem dX6_layPolynomial_148 : decode cX6_layPolynomial 148 = .ok (.iload_n 1, 1) := dAt dlX6_layPolynomial_1 28 rfl
theorem dX6_layPolynomial_149 : decode cX6_layPolynomial 149 = .ok (.if_icmp .ge 25, 3) := dAt dlX6_layPolynomial_1 29 rfl
theorem dX6_layPolynomial_152 : decode cX6_layPolynomial 152 = .ok (.lload_n 3, 1) := dAt dlX6_layPolynomial_1 30 rfl
theorem dX6_layPolynomial_153 : decode cX6_layPolynomial 153 = .ok (.aload_n 0, 1) := dAt dlX6_layPolynomial_1 31 rfl
theorem dX6_layPolynomial_154 : decode cX6_layPolynomial 154 = .ok (.getfield 35, 3) := dAt dlX6_layPolynomial_1 32 rfl
theorem dX6_layPolynomial_157 : decode cX6_layPolynomial 157 = .ok (.bipush 10, 2) := dAt dlX6_layPolynomial_1 33 rfl
theorem dX6_layPolynomial_159 : decode cX6_layPolynomial 159 = .ok (.iload 5, 2) := dAt dlX6_layPolynomial_1 34 rfl
theorem dX6_layPolynomial_161 : decode cX6_layPolynomial 161 = .ok (.imul, 1) := dAt dlX6_layPolynomial_1 35 rfl
theorem dX6_layPolynomial_162 : decode cX6_layPolynomial 162 = .ok (.iload 5, 2) := dAt dlX6_layPolynomial_1 36 rfl
theorem dX6_layPolynomial_164 : decode cX6_layPolynomial 164 = .ok (.iadd, 1) := dAt dlX6_layPolynomial_1 37 rfl
theorem dX6_layPolynomial_165 : decode cX6_layPolynomial 165 = .ok (.laload, 1) := dAt dlX6_layPolynomial_1 38 rfl
theorem dX6_layPolynomial_166 : decode cX6_layPolynomial 166 = .ok (.ladd, 1) := dAt dlX6_layPolynomial_1 39 rfl
theorem dX6_layPolynomial_167 : decode cX6_layPolynomial 167 = .ok (.lstore_n 3, 1) := dAt dlX6_layPolynomial_1 40 rfl
theorem dX6_layPolynomial_168 : decode cX6_layPolynomial 168 = .ok (.iinc 5 1, 3) := dAt dlX6_layPolynomial_1 41 rfl
theorem dX6_layPolynomial_171 : decode cX6_layPolynomial 171 = .ok (.goto (-25), 3) := dAt dlX6_layPolynomial_1 42 rfl
theorem dX6_layPolynomial_174 : decode cX6_layPolynomial 174 = .ok (.aload_n 0, 1) := dAt dlX6_layPolynomial_1 43 rfl
theorem dX6_layPolynomial_175 : decode cX6_layPolynomial 175 = .ok (.getfield 38, 3) := dAt dlX6_layPolynomial_1 44 rfl
theorem dX6_layPolynomial_178 : decode cX6_layPolynomial 178 = .ok (.iload_n 1, 1) := dAt dlX6_layPolynomial_1 45 rfl
theorem dX6_layPolynomial_179 : decode cX6_layPolynomial 179 = .ok (.iload_n 2, 1) := dAt dlX6_layPolynomial_1 46 rfl
theorem dX6_layPolynomial_180 : decode cX6_layPolynomial 180 = .ok (.isub, 1) := dAt dlX6_layPolynomial_1 47 rfl
theorem dX6_layPolynomial_181 : decode cX6_layPolynomial 181 = .ok (.lload_n 3, 1) := dAt dlX6_layPolynomial_1 48 rfl
theorem dX6_layPolynomial_182 : decode cX6_layPolynomial 182 = .ok (.lneg, 1) := dAt dlX6_layPolynomial_1 49 rfl
theorem dX6_layPolynomial_183 : decode cX6_layPolynomial 183 = .ok (.iload_n 2, 1) := dAt dlX6_layPolynomial_1 50 rfl
theorem dX6_layPolynomial_184 : decode cX6_layPolynomial 184 = .ok (.i2l, 1) := dAt dlX6_layPolynomial_1 51 rfl
theorem dX6_layPolynomial_185 : decode cX6_layPolynomial 185 = .ok (.ldiv, 1) := dAt dlX6_layPolynomial_1 52 rfl
theorem dX6_layPolynomial_186 : decode cX6_layPolynomial 186 = .ok (.lastore, 1) := dAt dlX6_layPolynomial_1 53 rfl
theorem dX6_layPolynomial_187 : decode cX6_layPolynomial 187 = .ok (.iconst 0, 1) := dAt dlX6_layPolynomial_1 54 rfl
theorem dX6_layPolynomial_188 : decode cX6_layPolynomial 188 = .ok (.istore 5, 2) := dAt dlX6_layPolynomial_1 55 rfl
theorem dX6_layPolynomial_190 : decode cX6_layPolynomial 190 = .ok (.iload 5, 2) := dAt dlX6_layPolynomial_1 56 rfl
theorem dX6_layPolynomial_192 : decode cX6_layPolynomial 192 = .ok (.iload_n 1, 1) := dAt dlX6_layPolynomial_1 57 rfl
theorem dX6_layPolynomial_193 : decode cX6_layPolynomial 193 = .ok (.if_icmp .ge 70, 3) := dAt dlX6_layPolynomial_1 58 rfl
theorem dX6_layPolynomial_196 : decode cX6_layPolynomial 196 = .ok (.iconst 0, 1) := dAt dlX6_layPolynomial_1 59 rfl
def ilX6_layPolynomial_2 : List (Nat × Instr × Nat) := [(197, .istore 6, 2), (199, .iload 6, 2), (201, .iload_n 1, 1), (202, .if_icmp .ge 55, 3), (205, .aload_n 0, 1), (206, .getfield 32, 3), (209, .bipush 10, 2), (211, .iload 5, 2), (213, .imul, 1), (214, .iload 6, 2), (216, .iadd, 1), (217, .aload_n 0, 1), (218, .getfield 35, 3), (221, .bipush 10, 2), (223, .iload 5, 2), (225, .imul, 1), (226, .iload 6, 2), (228, .iadd, 1), (229, .laload, 1), (230, .iload 5, 2), (232, .iload 6, 2), (234, .if_icmp .ne 14, 3), (237, .aload_n 0, 1), (238, .getfield 38, 3), (241, .iload_n 1, 1), (242, .iload_n 2, 1), (243, .isub, 1), (244, .laload, 1), (245, .goto 4, 3), (248, .lconst 0, 1), (249, .ladd, 1), (250, .lastore, 1), (251, .iinc 6 1, 3), (254, .goto (-55), 3), (257, .iinc 5 1, 3), (260, .goto (-70), 3), (263, .iinc 2 1, 3), (266, .goto (-221), 3), (269, .return_, 1)]
theorem dlX6_layPolynomial_2 : dOK cX6_layPolynomial ilX6_layPolynomial_2 = true := by decide +kernel
theorem dX6_layPolynomial_197 : decode cX6_layPolynomial 197 = .ok (.istore 6, 2) := dAt dlX6_layPolynomial_2 0 rfl
theorem dX6_layPolynomial_199 : decode cX6_layPolynomial 199 = .ok (.iload 6, 2) := dAt dlX6_layPolynomial_2 1 rfl
theorem dX6_layPolynomial_201 : decode cX6_layPolynomial 201 = .ok (.iload_n 1, 1) := dAt dlX6_layPolynomial_2 2 rfl
theorem dX6_layPolynomial_202 : decode cX6_layPolynomial 202 = .ok (.if_icmp .ge 55, 3) := dAt dlX6_layPolynomial_2 3 rfl
theorem dX6_layPolynomial_205 : decode cX6_layPolynomial 205 = .ok (.aload_n 0, 1) := dAt dlX6_layPolynomial_2 4 rfl
theorem dX6_layPolynomial_206 : decode cX6_layPolynomial 206 = .ok (.getfield 32, 3) := dAt dlX6_layPolynomial_2 5 rfl
theorem dX6_layPolynomial_209 : decode cX6_layPolynomial 209 = .ok (.bipush 10, 2) := dAt dlX6_layPolynomial_2 6 rfl
theorem dX6_layPolynomial_211 : decode cX6_layPolynomial 211 = .ok (.iload 5, 2) := dAt dlX6_layPolynomial_2 7 rfl
theorem dX6_layPolynomial_213 : decode cX6_layPolynomial 213 = .ok (.imul, 1) := dAt dlX6_layPolynomial_2 8 rfl
theorem dX6_layPolynomial_214 : decode cX6_layPolynomial 214 = .ok (.iload 6, 2) := dAt dlX6_layPolynomial_2 9 rfl
theorem dX6_layPolynomial_216 : decode cX6_layPolynomial 216 = .ok (.iadd, 1) := dAt dlX6_layPolynomial_2 10 rfl
theorem dX6_layPolynomial_217 : decode cX6_layPolynomial 217 = .ok (.aload_n 0, 1) := dAt dlX6_layPolynomial_2 11 rfl
theorem dX6_layPolynomial_218 : decode cX6_layPolynomial 218 = .ok (.getfield 35, 3) := dAt dlX6_layPolynomial_2 12 rfl
theorem dX6_layPolynomial_221 : decode cX6_layPolynomial 221 = .ok (.bipush 10, 2) := dAt dlX6_layPolynomial_2 13 rfl
theorem dX6_layPolynomial_223 : decode cX6_layPolynomial 223 = .ok (.iload 5, 2) := dAt dlX6_layPolynomial_2 14 rfl
theorem dX6_layPolynomial_225 : decode cX6_layPolynomial 225 = .ok (.imul, 1) := dAt dlX6_layPolynomial_2 15 rfl
theorem dX6_layPolynomial_226 : decode cX6_layPolynomial 226 = .ok (.iload 6, 2) := dAt dlX6_layPolynomial_2 16 rfl
theorem dX6_layPolynomial_228 : decode cX6_layPolynomial 228 = .ok (.iadd, 1) := dAt dlX6_layPolynomial_2 17 rfl
theorem dX6_layPolynomial_229 : decode cX6_layPolynomial 229 = .ok (.laload, 1) := dAt dlX6_layPolynomial_2 18 rfl
theorem dX6_layPolynomial_230 : decode cX6_layPolynomial 230 = .ok (.iload 5, 2) := dAt dlX6_layPolynomial_2 19 rfl
theorem dX6_layPolynomial_232 : decode cX6_layPolynomial 232 = .ok (.iload 6, 2) := dAt dlX6_layPolynomial_2 20 rfl
theorem dX6_layPolynomial_234 : decode cX6_layPolynomial 234 = .ok (.if_icmp .ne 14, 3) := dAt dlX6_layPolynomial_2 21 rfl
theorem dX6_layPolynomial_237 : decode cX6_layPolynomial 237 = .ok (.aload_n 0, 1) := dAt dlX6_layPolynomial_2 22 rfl
theorem dX6_layPolynomial_238 : decode cX6_layPolynomial 238 = .ok (.getfield 38, 3) := dAt dlX6_layPolynomial_2 23 rfl
theorem dX6_layPolynomial_241 : decode cX6_layPolynomial 241 = .ok (.iload_n 1, 1) := dAt dlX6_layPolynomial_2 24 rfl
theorem dX6_layPolynomial_242 : decode cX6_layPolynomial 242 = .ok (.iload_n 2, 1) := dAt dlX6_layPolynomial_2 25 rfl
theorem dX6_layPolynomial_243 : decode cX6_layPolynomial 243 = .ok (.isub, 1) := dAt dlX6_layPolynomial_2 26 rfl
theorem dX6_layPolynomial_244 : decode cX6_layPolynomial 244 = .ok (.laload, 1) := dAt dlX6_layPolynomial_2 27 rfl
theorem dX6_layPolynomial_245 : decode cX6_layPolynomial 245 = .ok (.goto 4, 3) := dAt dlX6_layPolynomial_2 28 rfl
theorem dX6_layPolynomial_248 : decode cX6_layPolynomial 248 = .ok (.lconst 0, 1) := dAt dlX6_layPolynomial_2 29 rfl
theorem dX6_layPolynomial_249 : decode cX6_layPolynomial 249 = .ok (.ladd, 1) := dAt dlX6_layPolynomial_2 30 rfl
theorem dX6_layPolynomial_250 : decode cX6_layPolynomial 250 = .ok (.lastore, 1) := dAt dlX6_layPolynomial_2 31 rfl
theorem dX6_layPolynomial_251 : decode cX6_layPolynomial 251 = .ok (.iinc 6 1, 3) := dAt dlX6_layPolynomial_2 32 rfl
theorem dX6_layPolynomial_254 : decode cX6_layPolynomial 254 = .ok (.goto (-55), 3) := dAt dlX6_layPolynomial_2 33 rfl
theorem dX6_layPolynomial_257 : decode cX6_layPolynomial 257 = .ok (.iinc 5 1, 3) := dAt dlX6_layPolynomial_2 34 rfl
theorem dX6_layPolynomial_260 : decode cX6_layPolynomial 260 = .ok (.goto (-70), 3) := dAt dlX6_layPolynomial_2 35 rfl
theorem dX6_layPolynomial_263 : decode cX6_layPolynomial 263 = .ok (.iinc 2 1, 3) := dAt dlX6_layPolynomial_2 36 rfl
theorem dX6_layPolynomial_266 : decode cX6_layPolynomial 266 = .ok (.goto (-221), 3) := dAt dlX6_layPolynomial_2 37 rfl
theorem dX6_layPolynomial_269 : decode cX6_layPolynomial 269 = .ok (.return_, 1) := dAt dlX6_layPolynomial_2 38 rfl
def ilX6_move_0 : List (Nat × Instr × Nat) := [(0, .iconst 0, 1), (1, .istore_n 3, 1), (2, .iload_n 3, 1), (3, .iload_n 1, 1), (4, .if_icmp .gt 16, 3), (7, .aload_n 0, 1), (8, .getfield 41, 3), (11, .iload_n 3, 1), (12, .lconst 0, 1), (13, .lastore, 1), (14, .iinc 3 1, 3), (17, .goto (-15), 3), (20, .lconst 1, 1), (21, .lstore_n 3, 1), (22, .iload_n 1, 1), (23, .istore 5, 2), (25, .iload 5, 2), (27, .ifCond .lt 83, 3), (30, .iload_n 1, 1), (31, .istore 6, 2), (33, .iload 6, 2), (35, .ifCond .lt 45, 3), (38, .aload_n 0, 1), (39, .getfield 41, 3), (42, .iload 6, 2), (44, .aload_n 0, 1), (45, .getfield 41, 3), (48, .iload 6, 2), (50, .laload, 1), (51, .iload_n 2, 1), (52, .i2l, 1), (53, .lmul, 1), (54, .iload 6, 2), (56, .ifCond .le 15, 3), (59, .aload_n 0, 1), (60, .getfield 41, 3), (63, .iload 6, 2), (65, .iconst 1, 1), (66, .isub, 1), (67, .laload, 1), (68, .goto 4, 3), (71, .lconst 0, 1), (72, .ladd, 1), (73, .lastore, 1), (74, .iinc 6 (-1), 3), (77, .goto (-44), 3), (80, .aload_n 0, 1), (81, .getfield 41, 3), (84, .iconst 0, 1), (85, .dup2, 1), (86, .laload, 1), (87, .aload_n 0, 1), (88, .getfield 38, 3), (91, .iload 5, 2), (93, .laload, 1), (94, .lload_n 3, 1), (95, .lmul, 1), (96, .ladd, 1), (97, .lastore, 1), (98, .lload_n 3, 1)]
theorem dlX6_move_0 : dOK cX6_move ilX6_move_0 = true := by decide +kernel
theorem dX6_move_0 : decode cX6_move 0 = .ok (.iconst 0, 1) := dAt dlX6_move_0 0 rfl
theorem dX6_move_1 : decode cX6_move 1 = .ok (.istore_n 3, 1) := dAt dlX6_move_0 1 rfl
theorem dX6_move_2 : decode cX6_move 2 = .ok (.iload_n 3, 1) := dAt dlX6_move_0 2 rfl
theorem dX6_move_3 : decode cX6_move 3 = .ok (.iload_n 1, 1) := dAt dlX6_move_0 3 rfl
theorem dX6_move_4 : decode cX6_move 4 = .ok (.if_icmp .gt 16, 3) := dAt dlX6_move_0 4 rfl
theorem dX6_move_7 : decode cX6_move 7 = .ok (.aload_n 0, 1) := dAt dlX6_move_0 5 rfl
theorem dX6_move_8 : decode cX6_move 8 = .ok (.getfield 41, 3) := dAt dlX6_move_0 6 rfl
theorem dX6_move_11 : decode cX6_move 11 = .ok (.iload_n 3, 1) := dAt dlX6_move_0 7 rfl
theorem dX6_move_12 : decode cX6_move 12 = .ok (.lconst 0, 1) := dAt dlX6_move_0 8 rfl
theorem dX6_move_13 : decode cX6_move 13 = .ok (.lastore, 1) := dAt dlX6_move_0 9 rfl
theorem dX6_move_14 : decode cX6_move 14 = .ok (.iinc 3 1, 3) := dAt dlX6_move_0 10 rfl
theorem dX6_move_17 : decode cX6_move 17 = .ok (.goto (-15), 3) := dAt dlX6_move_0 11 rfl
theorem dX6_move_20 : decode cX6_move 20 = .ok (.lconst 1, 1) := dAt dlX6_move_0 12 rfl
theorem dX6_move_21 : decode cX6_move 21 = .ok (.lstore_n 3, 1) := dAt dlX6_move_0 13 rfl
theorem dX6_move_22 : decode cX6_move 22 = .ok (.iload_n 1, 1) := dAt dlX6_move_0 14 rfl
theorem dX6_move_23 : decode cX6_move 23 = .ok (.istore 5, 2) := dAt dlX6_move_0 15 rfl
theorem dX6_move_25 : decode cX6_move 25 = .ok (.iload 5, 2) := dAt dlX6_move_0 16 rfl
theorem dX6_move_27 : decode cX6_move 27 = .ok (.ifCond .lt 83, 3) := dAt dlX6_move_0 17 rfl
theorem dX6_move_30 : decode cX6_move 30 = .ok (.iload_n 1, 1) := dAt dlX6_move_0 18 rfl
theorem dX6_move_31 : decode cX6_move 31 = .ok (.istore 6, 2) := dAt dlX6_move_0 19 rfl
theorem dX6_move_33 : decode cX6_move 33 = .ok (.iload 6, 2) := dAt dlX6_move_0 20 rfl
theorem dX6_move_35 : decode cX6_move 35 = .ok (.ifCond .lt 45, 3) := dAt dlX6_move_0 21 rfl
theorem dX6_move_38 : decode cX6_move 38 = .ok (.aload_n 0, 1) := dAt dlX6_move_0 22 rfl
theorem dX6_move_39 : decode cX6_move 39 = .ok (.getfield 41, 3) := dAt dlX6_move_0 23 rfl
theorem dX6_move_42 : decode cX6_move 42 = .ok (.iload 6, 2) := dAt dlX6_move_0 24 rfl
theorem dX6_move_44 : decode cX6_move 44 = .ok (.aload_n 0, 1) := dAt dlX6_move_0 25 rfl
theorem dX6_move_45 : decode cX6_move 45 = .ok (.getfield 41, 3) := dAt dlX6_move_0 26 rfl
theorem dX6_move_48 : decode cX6_move 48 = .ok (.iload 6, 2) := dAt dlX6_move_0 27 rfl
theorem dX6_move_50 : decode cX6_move 50 = .ok (.laload, 1) := dAt dlX6_move_0 28 rfl
theorem dX6_move_51 : decode cX6_move 51 = .ok (.iload_n 2, 1) := dAt dlX6_move_0 29 rfl
theorem dX6_move_52 : decode cX6_move 52 = .ok (.i2l, 1) := dAt dlX6_move_0 30 rfl
theorem dX6_move_53 : decode cX6_move 53 = .ok (.lmul, 1) := dAt dlX6_move_0 31 rfl
theorem dX6_move_54 : decode cX6_move 54 = .ok (.iload 6, 2) := dAt dlX6_move_0 32 rfl
theorem dX6_move_56 : decode cX6_move 56 = .ok (.ifCond .le 15, 3) := dAt dlX6_move_0 33 rfl
theorem dX6_move_59 : decode cX6_move 59 = .ok (.aload_n 0, 1) := dAt dlX6_move_0 34 rfl
theorem dX6_move_60 : decode cX6_move 60 = .ok (.getfield 41, 3) := dAt dlX6_move_0 35 rfl
theorem dX6_move_63 : decode cX6_move 63 = .ok (.iload 6, 2) := dAt dlX6_move_0 36 rfl
theorem dX6_move_65 : decode cX6_move 65 = .ok (.iconst 1, 1) := dAt dlX6_move_0 37 rfl
theorem dX6_move_66 : decode cX6_move 66 = .ok (.isub, 1) := dAt dlX6_move_0 38 rfl
theorem dX6_move_67 : decode cX6_move 67 = .ok (.laload, 1) := dAt dlX6_move_0 39 rfl
theorem dX6_move_68 : decode cX6_move 68 = .ok (.goto 4, 3) := dAt dlX6_move_0 40 rfl
theorem dX6_move_71 : decode cX6_move 71 = .ok (.lconst 0, 1) := dAt dlX6_move_0 41 rfl
theorem dX6_move_72 : decode cX6_move 72 = .ok (.ladd, 1) := dAt dlX6_move_0 42 rfl
theorem dX6_move_73 : decode cX6_move 73 = .ok (.lastore, 1) := dAt dlX6_move_0 43 rfl
theorem dX6_move_74 : decode cX6_move 74 = .ok (.iinc 6 (-1), 3) := dAt dlX6_move_0 44 rfl
theorem dX6_move_77 : decode cX6_move 77 = .ok (.goto (-44), 3) := dAt dlX6_move_0 45 rfl
theorem dX6_move_80 : decode cX6_move 80 = .ok (.aload_n 0, 1) := dAt dlX6_move_0 46 rfl
theorem dX6_move_81 : decode cX6_move 81 = .ok (.getfield 41, 3) := dAt dlX6_move_0 47 rfl
theorem dX6_move_84 : decode cX6_move 84 = .ok (.iconst 0, 1) := dAt dlX6_move_0 48 rfl
theorem dX6_move_85 : decode cX6_move 85 = .ok (.dup2, 1) := dAt dlX6_move_0 49 rfl
theorem dX6_move_86 : decode cX6_move 86 = .ok (.laload, 1) := dAt dlX6_move_0 50 rfl
theorem dX6_move_87 : decode cX6_move 87 = .ok (.aload_n 0, 1) := dAt dlX6_move_0 51 rfl
theorem dX6_move_88 : decode cX6_move 88 = .ok (.getfield 38, 3) := dAt dlX6_move_0 52 rfl
theorem dX6_move_91 : decode cX6_move 91 = .ok (.iload 5, 2) := dAt dlX6_move_0 53 rfl
theorem dX6_move_93 : decode cX6_move 93 = .ok (.laload, 1) := dAt dlX6_move_0 54 rfl
theorem dX6_move_94 : decode cX6_move 94 = .ok (.lload_n 3, 1) := dAt dlX6_move_0 55 rfl
theorem dX6_move_95 : decode cX6_move 95 = .ok (.lmul, 1) := dAt dlX6_move_0 56 rfl
theorem dX6_move_96 : decode cX6_move 96 = .ok (.ladd, 1) := dAt dlX6_move_0 57 rfl
theorem dX6_move_97 : decode cX6_move 97 = .ok (.lastore, 1) := dAt dlX6_move_0 58 rfl
theorem dX6_move_98 : decode cX6_move 98 = .ok (.lload_n 3, 1) := dAt dlX6_move_0 59 rfl
def ilX6_move_1 : List (Nat × Instr × Nat) := [(99, .ldc2_w 119, 3), (102, .lmul, 1), (103, .lstore_n 3, 1), (104, .iinc 5 (-1), 3), (107, .goto (-82), 3), (110, .return_, 1)]
theorem dlX6_move_1 : dOK cX6_move ilX6_move_1 = true := by decide +kernel
theorem dX6_move_99 : decode cX6_move 99 = .ok (.ldc2_w 119, 3) := dAt dlX6_move_1 0 rfl
theorem dX6_move_102 : decode cX6_move 102 = .ok (.lmul, 1) := dAt dlX6_move_1 1 rfl
theorem dX6_move_103 : decode cX6_move 103 = .ok (.lstore_n 3, 1) := dAt dlX6_move_1 2 rfl
theorem dX6_move_104 : decode cX6_move 104 = .ok (.iinc 5 (-1), 3) := dAt dlX6_move_1 3 rfl
theorem dX6_move_107 : decode cX6_move 107 = .ok (.goto (-82), 3) := dAt dlX6_move_1 4 rfl
theorem dX6_move_110 : decode cX6_move 110 = .ok (.return_, 1) := dAt dlX6_move_1 5 rfl
def ilX6_aboveOf_0 : List (Nat × Instr × Nat) := [(0, .aload_n 0, 1), (1, .iload_n 1, 1), (2, .iload_n 2, 1), (3, .invokevirtual 121, 3), (6, .iconst 0, 1), (7, .istore_n 3, 1), (8, .lconst 0, 1), (9, .lstore 4, 2), (11, .iload_n 1, 1), (12, .istore 6, 2), (14, .iload 6, 2), (16, .ifCond .lt 77, 3), (19, .aload_n 0, 1), (20, .getfield 41, 3), (23, .iload 6, 2), (25, .laload, 1), (26, .lconst 0, 1), (27, .lcmp, 1), (28, .ifCond .eq 59, 3), (31, .iload_n 3, 1), (32, .lload 4, 2), (34, .lconst 0, 1), (35, .lcmp, 1), (36, .ifCond .eq 39, 3), (39, .lload 4, 2), (41, .lconst 0, 1), (42, .lcmp, 1), (43, .ifCond .ge 7, 3), (46, .iconst 1, 1), (47, .goto 4, 3), (50, .iconst 0, 1), (51, .aload_n 0, 1), (52, .getfield 41, 3), (55, .iload 6, 2), (57, .laload, 1), (58, .lconst 0, 1), (59, .lcmp, 1), (60, .ifCond .ge 7, 3), (63, .iconst 1, 1), (64, .goto 4, 3), (67, .iconst 0, 1), (68, .if_icmp .eq 7, 3), (71, .iconst 1, 1), (72, .goto 4, 3), (75, .iconst 0, 1), (76, .iadd, 1), (77, .istore_n 3, 1), (78, .aload_n 0, 1), (79, .getfield 41, 3), (82, .iload 6, 2), (84, .laload, 1), (85, .lstore 4, 2), (87, .iinc 6 (-1), 3), (90, .goto (-76), 3), (93, .iload_n 3, 1), (94, .ireturn, 1)]
theorem dlX6_aboveOf_0 : dOK cX6_aboveOf ilX6_aboveOf_0 = true := by decide +kernel
theorem dX6_aboveOf_0 : decode cX6_aboveOf 0 = .ok (.aload_n 0, 1) := dAt dlX6_aboveOf_0 0 rfl
theorem dX6_aboveOf_1 : decode cX6_aboveOf 1 = .ok (.iload_n 1, 1) := dAt dlX6_aboveOf_0 1 rfl
theorem dX6_aboveOf_2 : decode cX6_aboveOf 2 = .ok (.iload_n 2, 1) := dAt dlX6_aboveOf_0 2 rfl
theorem dX6_aboveOf_3 : decode cX6_aboveOf 3 = .ok (.invokevirtual 121, 3) := dAt dlX6_aboveOf_0 3 rfl
theorem dX6_aboveOf_6 : decode cX6_aboveOf 6 = .ok (.iconst 0, 1) := dAt dlX6_aboveOf_0 4 rfl
theorem dX6_aboveOf_7 : decode cX6_aboveOf 7 = .ok (.istore_n 3, 1) := dAt dlX6_aboveOf_0 5 rfl
theorem dX6_aboveOf_8 : decode cX6_aboveOf 8 = .ok (.lconst 0, 1) := dAt dlX6_aboveOf_0 6 rfl
theorem dX6_aboveOf_9 : decode cX6_aboveOf 9 = .ok (.lstore 4, 2) := dAt dlX6_aboveOf_0 7 rfl
theorem dX6_aboveOf_11 : decode cX6_aboveOf 11 = .ok (.iload_n 1, 1) := dAt dlX6_aboveOf_0 8 rfl
theorem dX6_aboveOf_12 : decode cX6_aboveOf 12 = .ok (.istore 6, 2) := dAt dlX6_aboveOf_0 9 rfl
theorem dX6_aboveOf_14 : decode cX6_aboveOf 14 = .ok (.iload 6, 2) := dAt dlX6_aboveOf_0 10 rfl
theorem dX6_aboveOf_16 : decode cX6_aboveOf 16 = .ok (.ifCond .lt 77, 3) := dAt dlX6_aboveOf_0 11 rfl
theorem dX6_aboveOf_19 : decode cX6_aboveOf 19 = .ok (.aload_n 0, 1) := dAt dlX6_aboveOf_0 12 rfl
theorem dX6_aboveOf_20 : decode cX6_aboveOf 20 = .ok (.getfield 41, 3) := dAt dlX6_aboveOf_0 13 rfl
theorem dX6_aboveOf_23 : decode cX6_aboveOf 23 = .ok (.iload 6, 2) := dAt dlX6_aboveOf_0 14 rfl
theorem dX6_aboveOf_25 : decode cX6_aboveOf 25 = .ok (.laload, 1) := dAt dlX6_aboveOf_0 15 rfl
theorem dX6_aboveOf_26 : decode cX6_aboveOf 26 = .ok (.lconst 0, 1) := dAt dlX6_aboveOf_0 16 rfl
theorem dX6_aboveOf_27 : decode cX6_aboveOf 27 = .ok (.lcmp, 1) := dAt dlX6_aboveOf_0 17 rfl
theorem dX6_aboveOf_28 : decode cX6_aboveOf 28 = .ok (.ifCond .eq 59, 3) := dAt dlX6_aboveOf_0 18 rfl
theorem dX6_aboveOf_31 : decode cX6_aboveOf 31 = .ok (.iload_n 3, 1) := dAt dlX6_aboveOf_0 19 rfl
theorem dX6_aboveOf_32 : decode cX6_aboveOf 32 = .ok (.lload 4, 2) := dAt dlX6_aboveOf_0 20 rfl
theorem dX6_aboveOf_34 : decode cX6_aboveOf 34 = .ok (.lconst 0, 1) := dAt dlX6_aboveOf_0 21 rfl
theorem dX6_aboveOf_35 : decode cX6_aboveOf 35 = .ok (.lcmp, 1) := dAt dlX6_aboveOf_0 22 rfl
theorem dX6_aboveOf_36 : decode cX6_aboveOf 36 = .ok (.ifCond .eq 39, 3) := dAt dlX6_aboveOf_0 23 rfl
theorem dX6_aboveOf_39 : decode cX6_aboveOf 39 = .ok (.lload 4, 2) := dAt dlX6_aboveOf_0 24 rfl
theorem dX6_aboveOf_41 : decode cX6_aboveOf 41 = .ok (.lconst 0, 1) := dAt dlX6_aboveOf_0 25 rfl
theorem dX6_aboveOf_42 : decode cX6_aboveOf 42 = .ok (.lcmp, 1) := dAt dlX6_aboveOf_0 26 rfl
theorem dX6_aboveOf_43 : decode cX6_aboveOf 43 = .ok (.ifCond .ge 7, 3) := dAt dlX6_aboveOf_0 27 rfl
theorem dX6_aboveOf_46 : decode cX6_aboveOf 46 = .ok (.iconst 1, 1) := dAt dlX6_aboveOf_0 28 rfl
theorem dX6_aboveOf_47 : decode cX6_aboveOf 47 = .ok (.goto 4, 3) := dAt dlX6_aboveOf_0 29 rfl
theorem dX6_aboveOf_50 : decode cX6_aboveOf 50 = .ok (.iconst 0, 1) := dAt dlX6_aboveOf_0 30 rfl
theorem dX6_aboveOf_51 : decode cX6_aboveOf 51 = .ok (.aload_n 0, 1) := dAt dlX6_aboveOf_0 31 rfl
theorem dX6_aboveOf_52 : decode cX6_aboveOf 52 = .ok (.getfield 41, 3) := dAt dlX6_aboveOf_0 32 rfl
theorem dX6_aboveOf_55 : decode cX6_aboveOf 55 = .ok (.iload 6, 2) := dAt dlX6_aboveOf_0 33 rfl
theorem dX6_aboveOf_57 : decode cX6_aboveOf 57 = .ok (.laload, 1) := dAt dlX6_aboveOf_0 34 rfl
theorem dX6_aboveOf_58 : decode cX6_aboveOf 58 = .ok (.lconst 0, 1) := dAt dlX6_aboveOf_0 35 rfl
theorem dX6_aboveOf_59 : decode cX6_aboveOf 59 = .ok (.lcmp, 1) := dAt dlX6_aboveOf_0 36 rfl
theorem dX6_aboveOf_60 : decode cX6_aboveOf 60 = .ok (.ifCond .ge 7, 3) := dAt dlX6_aboveOf_0 37 rfl
theorem dX6_aboveOf_63 : decode cX6_aboveOf 63 = .ok (.iconst 1, 1) := dAt dlX6_aboveOf_0 38 rfl
theorem dX6_aboveOf_64 : decode cX6_aboveOf 64 = .ok (.goto 4, 3) := dAt dlX6_aboveOf_0 39 rfl
theorem dX6_aboveOf_67 : decode cX6_aboveOf 67 = .ok (.iconst 0, 1) := dAt dlX6_aboveOf_0 40 rfl
theorem dX6_aboveOf_68 : decode cX6_aboveOf 68 = .ok (.if_icmp .eq 7, 3) := dAt dlX6_aboveOf_0 41 rfl
theorem dX6_aboveOf_71 : decode cX6_aboveOf 71 = .ok (.iconst 1, 1) := dAt dlX6_aboveOf_0 42 rfl
theorem dX6_aboveOf_72 : decode cX6_aboveOf 72 = .ok (.goto 4, 3) := dAt dlX6_aboveOf_0 43 rfl
theorem dX6_aboveOf_75 : decode cX6_aboveOf 75 = .ok (.iconst 0, 1) := dAt dlX6_aboveOf_0 44 rfl
theorem dX6_aboveOf_76 : decode cX6_aboveOf 76 = .ok (.iadd, 1) := dAt dlX6_aboveOf_0 45 rfl
theorem dX6_aboveOf_77 : decode cX6_aboveOf 77 = .ok (.istore_n 3, 1) := dAt dlX6_aboveOf_0 46 rfl
theorem dX6_aboveOf_78 : decode cX6_aboveOf 78 = .ok (.aload_n 0, 1) := dAt dlX6_aboveOf_0 47 rfl
theorem dX6_aboveOf_79 : decode cX6_aboveOf 79 = .ok (.getfield 41, 3) := dAt dlX6_aboveOf_0 48 rfl
theorem dX6_aboveOf_82 : decode cX6_aboveOf 82 = .ok (.iload 6, 2) := dAt dlX6_aboveOf_0 49 rfl
theorem dX6_aboveOf_84 : decode cX6_aboveOf 84 = .ok (.laload, 1) := dAt dlX6_aboveOf_0 50 rfl
theorem dX6_aboveOf_85 : decode cX6_aboveOf 85 = .ok (.lstore 4, 2) := dAt dlX6_aboveOf_0 51 rfl
theorem dX6_aboveOf_87 : decode cX6_aboveOf 87 = .ok (.iinc 6 (-1), 3) := dAt dlX6_aboveOf_0 52 rfl
theorem dX6_aboveOf_90 : decode cX6_aboveOf 90 = .ok (.goto (-76), 3) := dAt dlX6_aboveOf_0 53 rfl
theorem dX6_aboveOf_93 : decode cX6_aboveOf 93 = .ok (.iload_n 3, 1) := dAt dlX6_aboveOf_0 54 rfl
theorem dX6_aboveOf_94 : decode cX6_aboveOf 94 = .ok (.ireturn, 1) := dAt dlX6_aboveOf_0 55 rfl
def ilX6_justOf_0 : List (Nat × Instr × Nat) := [(0, .aload_n 0, 1), (1, .iload_n 1, 1), (2, .iload_n 2, 1), (3, .invokevirtual 121, 3), (6, .iconst 0, 1), (7, .istore_n 3, 1), (8, .aload_n 0, 1), (9, .getfield 41, 3), (12, .iload_n 3, 1), (13, .laload, 1), (14, .lconst 0, 1), (15, .lcmp, 1), (16, .ifCond .ne 9, 3), (19, .iinc 3 1, 3), (22, .goto (-14), 3), (25, .iload_n 3, 1), (26, .ireturn, 1)]
theorem dlX6_justOf_0 : dOK cX6_justOf ilX6_justOf_0 = true := by decide +kernel
theorem dX6_justOf_0 : decode cX6_justOf 0 = .ok (.aload_n 0, 1) := dAt dlX6_justOf_0 0 rfl
theorem dX6_justOf_1 : decode cX6_justOf 1 = .ok (.iload_n 1, 1) := dAt dlX6_justOf_0 1 rfl
theorem dX6_justOf_2 : decode cX6_justOf 2 = .ok (.iload_n 2, 1) := dAt dlX6_justOf_0 2 rfl
theorem dX6_justOf_3 : decode cX6_justOf 3 = .ok (.invokevirtual 121, 3) := dAt dlX6_justOf_0 3 rfl
theorem dX6_justOf_6 : decode cX6_justOf 6 = .ok (.iconst 0, 1) := dAt dlX6_justOf_0 4 rfl
theorem dX6_justOf_7 : decode cX6_justOf 7 = .ok (.istore_n 3, 1) := dAt dlX6_justOf_0 5 rfl
theorem dX6_justOf_8 : decode cX6_justOf 8 = .ok (.aload_n 0, 1) := dAt dlX6_justOf_0 6 rfl
theorem dX6_justOf_9 : decode cX6_justOf 9 = .ok (.getfield 41, 3) := dAt dlX6_justOf_0 7 rfl
theorem dX6_justOf_12 : decode cX6_justOf 12 = .ok (.iload_n 3, 1) := dAt dlX6_justOf_0 8 rfl
theorem dX6_justOf_13 : decode cX6_justOf 13 = .ok (.laload, 1) := dAt dlX6_justOf_0 9 rfl
theorem dX6_justOf_14 : decode cX6_justOf 14 = .ok (.lconst 0, 1) := dAt dlX6_justOf_0 10 rfl
theorem dX6_justOf_15 : decode cX6_justOf 15 = .ok (.lcmp, 1) := dAt dlX6_justOf_0 11 rfl
theorem dX6_justOf_16 : decode cX6_justOf 16 = .ok (.ifCond .ne 9, 3) := dAt dlX6_justOf_0 12 rfl
theorem dX6_justOf_19 : decode cX6_justOf 19 = .ok (.iinc 3 1, 3) := dAt dlX6_justOf_0 13 rfl
theorem dX6_justOf_22 : decode cX6_justOf 22 = .ok (.goto (-14), 3) := dAt dlX6_justOf_0 14 rfl
theorem dX6_justOf_25 : decode cX6_justOf 25 = .ok (.iload_n 3, 1) := dAt dlX6_justOf_0 15 rfl
theorem dX6_justOf_26 : decode cX6_justOf 26 = .ok (.ireturn, 1) := dAt dlX6_justOf_0 16 rfl
def ilX6_isAsked_0 : List (Nat × Instr × Nat) := [(0, .iload_n 1, 1), (1, .invokestatic 69, 3), (4, .ifCond .eq 22, 3), (7, .iload_n 2, 1), (8, .ifCond .lt 18, 3), (11, .iload_n 3, 1), (12, .bipush (-40), 2), (14, .bipush 40, 2), (16, .invokestatic 65, 3), (19, .ifCond .eq 7, 3), (22, .iconst 1, 1), (23, .goto 4, 3), (26, .iconst 0, 1), (27, .ireturn, 1)]
theorem dlX6_isAsked_0 : dOK cX6_isAsked ilX6_isAsked_0 = true := by decide +kernel
theorem dX6_isAsked_0 : decode cX6_isAsked 0 = .ok (.iload_n 1, 1) := dAt dlX6_isAsked_0 0 rfl
theorem dX6_isAsked_1 : decode cX6_isAsked 1 = .ok (.invokestatic 69, 3) := dAt dlX6_isAsked_0 1 rfl
theorem dX6_isAsked_4 : decode cX6_isAsked 4 = .ok (.ifCond .eq 22, 3) := dAt dlX6_isAsked_0 2 rfl
theorem dX6_isAsked_7 : decode cX6_isAsked 7 = .ok (.iload_n 2, 1) := dAt dlX6_isAsked_0 3 rfl
theorem dX6_isAsked_8 : decode cX6_isAsked 8 = .ok (.ifCond .lt 18, 3) := dAt dlX6_isAsked_0 4 rfl
theorem dX6_isAsked_11 : decode cX6_isAsked 11 = .ok (.iload_n 3, 1) := dAt dlX6_isAsked_0 5 rfl
theorem dX6_isAsked_12 : decode cX6_isAsked 12 = .ok (.bipush (-40), 2) := dAt dlX6_isAsked_0 6 rfl
theorem dX6_isAsked_14 : decode cX6_isAsked 14 = .ok (.bipush 40, 2) := dAt dlX6_isAsked_0 7 rfl
theorem dX6_isAsked_16 : decode cX6_isAsked 16 = .ok (.invokestatic 65, 3) := dAt dlX6_isAsked_0 8 rfl
theorem dX6_isAsked_19 : decode cX6_isAsked 19 = .ok (.ifCond .eq 7, 3) := dAt dlX6_isAsked_0 9 rfl
theorem dX6_isAsked_22 : decode cX6_isAsked 22 = .ok (.iconst 1, 1) := dAt dlX6_isAsked_0 10 rfl
theorem dX6_isAsked_23 : decode cX6_isAsked 23 = .ok (.goto 4, 3) := dAt dlX6_isAsked_0 11 rfl
theorem dX6_isAsked_26 : decode cX6_isAsked 26 = .ok (.iconst 0, 1) := dAt dlX6_isAsked_0 12 rfl
theorem dX6_isAsked_27 : decode cX6_isAsked 27 = .ok (.ireturn, 1) := dAt dlX6_isAsked_0 13 rfl
def ilX6_layOwn_0 : List (Nat × Instr × Nat) := [(0, .aload_n 0, 1), (1, .iload_n 1, 1), (2, .iload_n 2, 1), (3, .invokevirtual 124, 3), (6, .aload_n 0, 1), (7, .aload_n 0, 1), (8, .getfield 7, 3), (11, .iload_n 1, 1), (12, .iaload, 1), (13, .invokevirtual 127, 3), (16, .return_, 1)]
theorem dlX6_layOwn_0 : dOK cX6_layOwn ilX6_layOwn_0 = true := by decide +kernel
theorem dX6_layOwn_0 : decode cX6_layOwn 0 = .ok (.aload_n 0, 1) := dAt dlX6_layOwn_0 0 rfl
theorem dX6_layOwn_1 : decode cX6_layOwn 1 = .ok (.iload_n 1, 1) := dAt dlX6_layOwn_0 1 rfl
theorem dX6_layOwn_2 : decode cX6_layOwn 2 = .ok (.iload_n 2, 1) := dAt dlX6_layOwn_0 2 rfl
theorem dX6_layOwn_3 : decode cX6_layOwn 3 = .ok (.invokevirtual 124, 3) := dAt dlX6_layOwn_0 3 rfl
theorem dX6_layOwn_6 : decode cX6_layOwn 6 = .ok (.aload_n 0, 1) := dAt dlX6_layOwn_0 4 rfl
theorem dX6_layOwn_7 : decode cX6_layOwn 7 = .ok (.aload_n 0, 1) := dAt dlX6_layOwn_0 5 rfl
theorem dX6_layOwn_8 : decode cX6_layOwn 8 = .ok (.getfield 7, 3) := dAt dlX6_layOwn_0 6 rfl
theorem dX6_layOwn_11 : decode cX6_layOwn 11 = .ok (.iload_n 1, 1) := dAt dlX6_layOwn_0 7 rfl
theorem dX6_layOwn_12 : decode cX6_layOwn 12 = .ok (.iaload, 1) := dAt dlX6_layOwn_0 8 rfl
theorem dX6_layOwn_13 : decode cX6_layOwn 13 = .ok (.invokevirtual 127, 3) := dAt dlX6_layOwn_0 9 rfl
theorem dX6_layOwn_16 : decode cX6_layOwn 16 = .ok (.return_, 1) := dAt dlX6_layOwn_0 10 rfl
def ilX6_more_0 : List (Nat × Instr × Nat) := [(0, .aload_n 0, 1), (1, .iload_n 1, 1), (2, .iload_n 2, 1), (3, .iload_n 3, 1), (4, .invokevirtual 130, 3), (7, .ifCond .ne 6, 3), (10, .bipush (-2), 2), (12, .ireturn, 1), (13, .aload_n 0, 1), (14, .iload_n 1, 1), (15, .iload_n 2, 1), (16, .invokevirtual 133, 3), (19, .aload_n 0, 1), (20, .aload_n 0, 1), (21, .getfield 7, 3), (24, .iload_n 1, 1), (25, .iaload, 1), (26, .iload_n 3, 1), (27, .invokevirtual 136, 3), (30, .ireturn, 1)]
theorem dlX6_more_0 : dOK cX6_more ilX6_more_0 = true := by decide +kernel
theorem dX6_more_0 : decode cX6_more 0 = .ok (.aload_n 0, 1) := dAt dlX6_more_0 0 rfl
theorem dX6_more_1 : decode cX6_more 1 = .ok (.iload_n 1, 1) := dAt dlX6_more_0 1 rfl
theorem dX6_more_2 : decode cX6_more 2 = .ok (.iload_n 2, 1) := dAt dlX6_more_0 2 rfl
theorem dX6_more_3 : decode cX6_more 3 = .ok (.iload_n 3, 1) := dAt dlX6_more_0 3 rfl
theorem dX6_more_4 : decode cX6_more 4 = .ok (.invokevirtual 130, 3) := dAt dlX6_more_0 4 rfl
theorem dX6_more_7 : decode cX6_more 7 = .ok (.ifCond .ne 6, 3) := dAt dlX6_more_0 5 rfl
theorem dX6_more_10 : decode cX6_more 10 = .ok (.bipush (-2), 2) := dAt dlX6_more_0 6 rfl
theorem dX6_more_12 : decode cX6_more 12 = .ok (.ireturn, 1) := dAt dlX6_more_0 7 rfl
theorem dX6_more_13 : decode cX6_more 13 = .ok (.aload_n 0, 1) := dAt dlX6_more_0 8 rfl
theorem dX6_more_14 : decode cX6_more 14 = .ok (.iload_n 1, 1) := dAt dlX6_more_0 9 rfl
theorem dX6_more_15 : decode cX6_more 15 = .ok (.iload_n 2, 1) := dAt dlX6_more_0 10 rfl
theorem dX6_more_16 : decode cX6_more 16 = .ok (.invokevirtual 133, 3) := dAt dlX6_more_0 11 rfl
theorem dX6_more_19 : decode cX6_more 19 = .ok (.aload_n 0, 1) := dAt dlX6_more_0 12 rfl
theorem dX6_more_20 : decode cX6_more 20 = .ok (.aload_n 0, 1) := dAt dlX6_more_0 13 rfl
theorem dX6_more_21 : decode cX6_more 21 = .ok (.getfield 7, 3) := dAt dlX6_more_0 14 rfl
theorem dX6_more_24 : decode cX6_more 24 = .ok (.iload_n 1, 1) := dAt dlX6_more_0 15 rfl
theorem dX6_more_25 : decode cX6_more 25 = .ok (.iaload, 1) := dAt dlX6_more_0 16 rfl
theorem dX6_more_26 : decode cX6_more 26 = .ok (.iload_n 3, 1) := dAt dlX6_more_0 17 rfl
theorem dX6_more_27 : decode cX6_more 27 = .ok (.invokevirtual 136, 3) := dAt dlX6_more_0 18 rfl
theorem dX6_more_30 : decode cX6_more 30 = .ok (.ireturn, 1) := dAt dlX6_more_0 19 rfl
def ilX6_just_0 : List (Nat × Instr × Nat) := [(0, .aload_n 0, 1), (1, .iload_n 1, 1), (2, .iload_n 2, 1), (3, .iload_n 3, 1), (4, .invokevirtual 130, 3), (7, .ifCond .ne 6, 3), (10, .bipush (-2), 2), (12, .ireturn, 1), (13, .aload_n 0, 1), (14, .iload_n 1, 1), (15, .iload_n 2, 1), (16, .invokevirtual 133, 3), (19, .aload_n 0, 1), (20, .aload_n 0, 1), (21, .getfield 7, 3), (24, .iload_n 1, 1), (25, .iaload, 1), (26, .iload_n 3, 1), (27, .invokevirtual 139, 3), (30, .ireturn, 1)]
theorem dlX6_just_0 : dOK cX6_just ilX6_just_0 = true := by decide +kernel
theorem dX6_just_0 : decode cX6_just 0 = .ok (.aload_n 0, 1) := dAt dlX6_just_0 0 rfl
theorem dX6_just_1 : decode cX6_just 1 = .ok (.iload_n 1, 1) := dAt dlX6_just_0 1 rfl
theorem dX6_just_2 : decode cX6_just 2 = .ok (.iload_n 2, 1) := dAt dlX6_just_0 2 rfl
theorem dX6_just_3 : decode cX6_just 3 = .ok (.iload_n 3, 1) := dAt dlX6_just_0 3 rfl
theorem dX6_just_4 : decode cX6_just 4 = .ok (.invokevirtual 130, 3) := dAt dlX6_just_0 4 rfl
theorem dX6_just_7 : decode cX6_just 7 = .ok (.ifCond .ne 6, 3) := dAt dlX6_just_0 5 rfl
theorem dX6_just_10 : decode cX6_just 10 = .ok (.bipush (-2), 2) := dAt dlX6_just_0 6 rfl
theorem dX6_just_12 : decode cX6_just 12 = .ok (.ireturn, 1) := dAt dlX6_just_0 7 rfl
theorem dX6_just_13 : decode cX6_just 13 = .ok (.aload_n 0, 1) := dAt dlX6_just_0 8 rfl
theorem dX6_just_14 : decode cX6_just 14 = .ok (.iload_n 1, 1) := dAt dlX6_just_0 9 rfl
theorem dX6_just_15 : decode cX6_just 15 = .ok (.iload_n 2, 1) := dAt dlX6_just_0 10 rfl
theorem dX6_just_16 : decode cX6_just 16 = .ok (.invokevirtual 133, 3) := dAt dlX6_just_0 11 rfl
theorem dX6_just_19 : decode cX6_just 19 = .ok (.aload_n 0, 1) := dAt dlX6_just_0 12 rfl
theorem dX6_just_20 : decode cX6_just 20 = .ok (.aload_n 0, 1) := dAt dlX6_just_0 13 rfl
theorem dX6_just_21 : decode cX6_just 21 = .ok (.getfield 7, 3) := dAt dlX6_just_0 14 rfl
theorem dX6_just_24 : decode cX6_just 24 = .ok (.iload_n 1, 1) := dAt dlX6_just_0 15 rfl
theorem dX6_just_25 : decode cX6_just 25 = .ok (.iaload, 1) := dAt dlX6_just_0 16 rfl
theorem dX6_just_26 : decode cX6_just 26 = .ok (.iload_n 3, 1) := dAt dlX6_just_0 17 rfl
theorem dX6_just_27 : decode cX6_just 27 = .ok (.invokevirtual 139, 3) := dAt dlX6_just_0 18 rfl
theorem dX6_just_30 : decode cX6_just 30 = .ok (.ireturn, 1) := dAt dlX6_just_0 19 rfl
def ilX6_second_0 : List (Nat × Instr × Nat) := [(0, .iload_n 1, 1), (1, .invokestatic 69, 3), (4, .ifCond .ne 6, 3), (7, .bipush (-2), 2), (9, .ireturn, 1), (10, .aload_n 0, 1), (11, .iload_n 1, 1), (12, .iconst 0, 1), (13, .invokevirtual 133, 3), (16, .bipush (-20), 2), (18, .istore_n 2, 1), (19, .aload_n 0, 1), (20, .aload_n 0, 1), (21, .getfield 7, 3), (24, .iload_n 1, 1), (25, .iaload, 1), (26, .iload_n 2, 1), (27, .invokevirtual 136, 3), (30, .iconst 1, 1), (31, .if_icmp .le 9, 3), (34, .iinc 2 1, 3), (37, .goto (-18), 3), (40, .iload_n 2, 1), (41, .ireturn, 1)]
theorem dlX6_second_0 : dOK cX6_second ilX6_second_0 = true := by decide +kernel
theorem dX6_second_0 : decode cX6_second 0 = .ok (.iload_n 1, 1) := dAt dlX6_second_0 0 rfl
theorem dX6_second_1 : decode cX6_second 1 = .ok (.invokestatic 69, 3) := dAt dlX6_second_0 1 rfl
theorem dX6_second_4 : decode cX6_second 4 = .ok (.ifCond .ne 6, 3) := dAt dlX6_second_0 2 rfl
theorem dX6_second_7 : decode cX6_second 7 = .ok (.bipush (-2), 2) := dAt dlX6_second_0 3 rfl
theorem dX6_second_9 : decode cX6_second 9 = .ok (.ireturn, 1) := dAt dlX6_second_0 4 rfl
theorem dX6_second_10 : decode cX6_second 10 = .ok (.aload_n 0, 1) := dAt dlX6_second_0 5 rfl
theorem dX6_second_11 : decode cX6_second 11 = .ok (.iload_n 1, 1) := dAt dlX6_second_0 6 rfl
theorem dX6_second_12 : decode cX6_second 12 = .ok (.iconst 0, 1) := dAt dlX6_second_0 7 rfl
theorem dX6_second_13 : decode cX6_second 13 = .ok (.invokevirtual 133, 3) := dAt dlX6_second_0 8 rfl
theorem dX6_second_16 : decode cX6_second 16 = .ok (.bipush (-20), 2) := dAt dlX6_second_0 9 rfl
theorem dX6_second_18 : decode cX6_second 18 = .ok (.istore_n 2, 1) := dAt dlX6_second_0 10 rfl
theorem dX6_second_19 : decode cX6_second 19 = .ok (.aload_n 0, 1) := dAt dlX6_second_0 11 rfl
theorem dX6_second_20 : decode cX6_second 20 = .ok (.aload_n 0, 1) := dAt dlX6_second_0 12 rfl
theorem dX6_second_21 : decode cX6_second 21 = .ok (.getfield 7, 3) := dAt dlX6_second_0 13 rfl
theorem dX6_second_24 : decode cX6_second 24 = .ok (.iload_n 1, 1) := dAt dlX6_second_0 14 rfl
theorem dX6_second_25 : decode cX6_second 25 = .ok (.iaload, 1) := dAt dlX6_second_0 15 rfl
theorem dX6_second_26 : decode cX6_second 26 = .ok (.iload_n 2, 1) := dAt dlX6_second_0 16 rfl
theorem dX6_second_27 : decode cX6_second 27 = .ok (.invokevirtual 136, 3) := dAt dlX6_second_0 17 rfl
theorem dX6_second_30 : decode cX6_second 30 = .ok (.iconst 1, 1) := dAt dlX6_second_0 18 rfl
theorem dX6_second_31 : decode cX6_second 31 = .ok (.if_icmp .le 9, 3) := dAt dlX6_second_0 19 rfl
theorem dX6_second_34 : decode cX6_second 34 = .ok (.iinc 2 1, 3) := dAt dlX6_second_0 20 rfl
theorem dX6_second_37 : decode cX6_second 37 = .ok (.goto (-18), 3) := dAt dlX6_second_0 21 rfl
theorem dX6_second_40 : decode cX6_second 40 = .ok (.iload_n 2, 1) := dAt dlX6_second_0 22 rfl
theorem dX6_second_41 : decode cX6_second 41 = .ok (.ireturn, 1) := dAt dlX6_second_0 23 rfl
def ilX6_spanOf_0 : List (Nat × Instr × Nat) := [(0, .aload_n 0, 1), (1, .iload_n 1, 1), (2, .iload_n 2, 1), (3, .invokevirtual 133, 3), (6, .aload_n 0, 1), (7, .getfield 7, 3), (10, .iload_n 1, 1), (11, .iaload, 1), (12, .istore_n 3, 1), (13, .iconst 0, 1), (14, .istore 4, 2), (16, .aload_n 0, 1), (17, .iload_n 3, 1), (18, .iload 4, 2), (20, .invokevirtual 136, 3), (23, .ifCond .gt 24, 3), (26, .aload_n 0, 1), (27, .iload_n 3, 1), (28, .iload 4, 2), (30, .ineg, 1), (31, .invokevirtual 136, 3), (34, .aload_n 0, 1), (35, .iload_n 3, 1), (36, .iload 4, 2), (38, .ineg, 1), (39, .invokevirtual 139, 3), (42, .iadd, 1), (43, .iload_n 3, 1), (44, .if_icmp .ge 9, 3), (47, .iinc 4 1, 3), (50, .goto (-34), 3), (53, .iload 4, 2), (55, .ireturn, 1)]
theorem dlX6_spanOf_0 : dOK cX6_spanOf ilX6_spanOf_0 = true := by decide +kernel
theorem dX6_spanOf_0 : decode cX6_spanOf 0 = .ok (.aload_n 0, 1) := dAt dlX6_spanOf_0 0 rfl
theorem dX6_spanOf_1 : decode cX6_spanOf 1 = .ok (.iload_n 1, 1) := dAt dlX6_spanOf_0 1 rfl
theorem dX6_spanOf_2 : decode cX6_spanOf 2 = .ok (.iload_n 2, 1) := dAt dlX6_spanOf_0 2 rfl
theorem dX6_spanOf_3 : decode cX6_spanOf 3 = .ok (.invokevirtual 133, 3) := dAt dlX6_spanOf_0 3 rfl
theorem dX6_spanOf_6 : decode cX6_spanOf 6 = .ok (.aload_n 0, 1) := dAt dlX6_spanOf_0 4 rfl
theorem dX6_spanOf_7 : decode cX6_spanOf 7 = .ok (.getfield 7, 3) := dAt dlX6_spanOf_0 5 rfl
theorem dX6_spanOf_10 : decode cX6_spanOf 10 = .ok (.iload_n 1, 1) := dAt dlX6_spanOf_0 6 rfl
theorem dX6_spanOf_11 : decode cX6_spanOf 11 = .ok (.iaload, 1) := dAt dlX6_spanOf_0 7 rfl
theorem dX6_spanOf_12 : decode cX6_spanOf 12 = .ok (.istore_n 3, 1) := dAt dlX6_spanOf_0 8 rfl
theorem dX6_spanOf_13 : decode cX6_spanOf 13 = .ok (.iconst 0, 1) := dAt dlX6_spanOf_0 9 rfl
theorem dX6_spanOf_14 : decode cX6_spanOf 14 = .ok (.istore 4, 2) := dAt dlX6_spanOf_0 10 rfl
theorem dX6_spanOf_16 : decode cX6_spanOf 16 = .ok (.aload_n 0, 1) := dAt dlX6_spanOf_0 11 rfl
theorem dX6_spanOf_17 : decode cX6_spanOf 17 = .ok (.iload_n 3, 1) := dAt dlX6_spanOf_0 12 rfl
theorem dX6_spanOf_18 : decode cX6_spanOf 18 = .ok (.iload 4, 2) := dAt dlX6_spanOf_0 13 rfl
theorem dX6_spanOf_20 : decode cX6_spanOf 20 = .ok (.invokevirtual 136, 3) := dAt dlX6_spanOf_0 14 rfl
theorem dX6_spanOf_23 : decode cX6_spanOf 23 = .ok (.ifCond .gt 24, 3) := dAt dlX6_spanOf_0 15 rfl
theorem dX6_spanOf_26 : decode cX6_spanOf 26 = .ok (.aload_n 0, 1) := dAt dlX6_spanOf_0 16 rfl
theorem dX6_spanOf_27 : decode cX6_spanOf 27 = .ok (.iload_n 3, 1) := dAt dlX6_spanOf_0 17 rfl
theorem dX6_spanOf_28 : decode cX6_spanOf 28 = .ok (.iload 4, 2) := dAt dlX6_spanOf_0 18 rfl
theorem dX6_spanOf_30 : decode cX6_spanOf 30 = .ok (.ineg, 1) := dAt dlX6_spanOf_0 19 rfl
theorem dX6_spanOf_31 : decode cX6_spanOf 31 = .ok (.invokevirtual 136, 3) := dAt dlX6_spanOf_0 20 rfl
theorem dX6_spanOf_34 : decode cX6_spanOf 34 = .ok (.aload_n 0, 1) := dAt dlX6_spanOf_0 21 rfl
theorem dX6_spanOf_35 : decode cX6_spanOf 35 = .ok (.iload_n 3, 1) := dAt dlX6_spanOf_0 22 rfl
theorem dX6_spanOf_36 : decode cX6_spanOf 36 = .ok (.iload 4, 2) := dAt dlX6_spanOf_0 23 rfl
theorem dX6_spanOf_38 : decode cX6_spanOf 38 = .ok (.ineg, 1) := dAt dlX6_spanOf_0 24 rfl
theorem dX6_spanOf_39 : decode cX6_spanOf 39 = .ok (.invokevirtual 139, 3) := dAt dlX6_spanOf_0 25 rfl
theorem dX6_spanOf_42 : decode cX6_spanOf 42 = .ok (.iadd, 1) := dAt dlX6_spanOf_0 26 rfl
theorem dX6_spanOf_43 : decode cX6_spanOf 43 = .ok (.iload_n 3, 1) := dAt dlX6_spanOf_0 27 rfl
theorem dX6_spanOf_44 : decode cX6_spanOf 44 = .ok (.if_icmp .ge 9, 3) := dAt dlX6_spanOf_0 28 rfl
theorem dX6_spanOf_47 : decode cX6_spanOf 47 = .ok (.iinc 4 1, 3) := dAt dlX6_spanOf_0 29 rfl
theorem dX6_spanOf_50 : decode cX6_spanOf 50 = .ok (.goto (-34), 3) := dAt dlX6_spanOf_0 30 rfl
theorem dX6_spanOf_53 : decode cX6_spanOf 53 = .ok (.iload 4, 2) := dAt dlX6_spanOf_0 31 rfl
theorem dX6_spanOf_55 : decode cX6_spanOf 55 = .ok (.ireturn, 1) := dAt dlX6_spanOf_0 32 rfl
def ilX6_span_0 : List (Nat × Instr × Nat) := [(0, .iload_n 1, 1), (1, .invokestatic 69, 3), (4, .ifCond .eq 16, 3), (7, .iload_n 2, 1), (8, .ifCond .lt 12, 3), (11, .aload_n 0, 1), (12, .iload_n 1, 1), (13, .iload_n 2, 1), (14, .invokevirtual 142, 3), (17, .goto 5, 3), (20, .bipush (-2), 2), (22, .ireturn, 1)]
theorem dlX6_span_0 : dOK cX6_span ilX6_span_0 = true := by decide +kernel
theorem dX6_span_0 : decode cX6_span 0 = .ok (.iload_n 1, 1) := dAt dlX6_span_0 0 rfl
theorem dX6_span_1 : decode cX6_span 1 = .ok (.invokestatic 69, 3) := dAt dlX6_span_0 1 rfl
theorem dX6_span_4 : decode cX6_span 4 = .ok (.ifCond .eq 16, 3) := dAt dlX6_span_0 2 rfl
theorem dX6_span_7 : decode cX6_span 7 = .ok (.iload_n 2, 1) := dAt dlX6_span_0 3 rfl
theorem dX6_span_8 : decode cX6_span 8 = .ok (.ifCond .lt 12, 3) := dAt dlX6_span_0 4 rfl
theorem dX6_span_11 : decode cX6_span 11 = .ok (.aload_n 0, 1) := dAt dlX6_span_0 5 rfl
theorem dX6_span_12 : decode cX6_span 12 = .ok (.iload_n 1, 1) := dAt dlX6_span_0 6 rfl
theorem dX6_span_13 : decode cX6_span 13 = .ok (.iload_n 2, 1) := dAt dlX6_span_0 7 rfl
theorem dX6_span_14 : decode cX6_span 14 = .ok (.invokevirtual 142, 3) := dAt dlX6_span_0 8 rfl
theorem dX6_span_17 : decode cX6_span 17 = .ok (.goto 5, 3) := dAt dlX6_span_0 9 rfl
theorem dX6_span_20 : decode cX6_span 20 = .ok (.bipush (-2), 2) := dAt dlX6_span_0 10 rfl
theorem dX6_span_22 : decode cX6_span 22 = .ok (.ireturn, 1) := dAt dlX6_span_0 11 rfl
def ilX6_best_0 : List (Nat × Instr × Nat) := [(0, .iload_n 1, 1), (1, .invokestatic 69, 3), (4, .ifCond .ne 6, 3), (7, .bipush (-2), 2), (9, .ireturn, 1), (10, .aload_n 0, 1), (11, .iload_n 1, 1), (12, .invokevirtual 92, 3), (15, .istore_n 2, 1), (16, .iload_n 2, 1), (17, .bipush 9, 2), (19, .if_icmp .le 6, 3), (22, .bipush (-3), 2), (24, .ireturn, 1), (25, .iconst 0, 1), (26, .istore_n 3, 1), (27, .aload_n 0, 1), (28, .iload_n 1, 1), (29, .iconst 0, 1), (30, .invokevirtual 142, 3), (33, .istore 4, 2), (35, .iconst 1, 1), (36, .istore 5, 2), (38, .iload 5, 2), (40, .iconst 1, 1), (41, .iload_n 2, 1), (42, .ishl, 1), (43, .if_icmp .ge 32, 3), (46, .aload_n 0, 1), (47, .iload_n 1, 1), (48, .iload 5, 2), (50, .invokevirtual 142, 3), (53, .istore 6, 2), (55, .iload 6, 2), (57, .iload 4, 2), (59, .if_icmp .ge 10, 3), (62, .iload 6, 2), (64, .istore 4, 2), (66, .iload 5, 2), (68, .istore_n 3, 1), (69, .iinc 5 1, 3), (72, .goto (-34), 3), (75, .iload_n 3, 1), (76, .ireturn, 1)]
theorem dlX6_best_0 : dOK cX6_best ilX6_best_0 = true := by decide +kernel
theorem dX6_best_0 : decode cX6_best 0 = .ok (.iload_n 1, 1) := dAt dlX6_best_0 0 rfl
theorem dX6_best_1 : decode cX6_best 1 = .ok (.invokestatic 69, 3) := dAt dlX6_best_0 1 rfl
theorem dX6_best_4 : decode cX6_best 4 = .ok (.ifCond .ne 6, 3) := dAt dlX6_best_0 2 rfl
theorem dX6_best_7 : decode cX6_best 7 = .ok (.bipush (-2), 2) := dAt dlX6_best_0 3 rfl
theorem dX6_best_9 : decode cX6_best 9 = .ok (.ireturn, 1) := dAt dlX6_best_0 4 rfl
theorem dX6_best_10 : decode cX6_best 10 = .ok (.aload_n 0, 1) := dAt dlX6_best_0 5 rfl
theorem dX6_best_11 : decode cX6_best 11 = .ok (.iload_n 1, 1) := dAt dlX6_best_0 6 rfl
theorem dX6_best_12 : decode cX6_best 12 = .ok (.invokevirtual 92, 3) := dAt dlX6_best_0 7 rfl
theorem dX6_best_15 : decode cX6_best 15 = .ok (.istore_n 2, 1) := dAt dlX6_best_0 8 rfl
theorem dX6_best_16 : decode cX6_best 16 = .ok (.iload_n 2, 1) := dAt dlX6_best_0 9 rfl
theorem dX6_best_17 : decode cX6_best 17 = .ok (.bipush 9, 2) := dAt dlX6_best_0 10 rfl
theorem dX6_best_19 : decode cX6_best 19 = .ok (.if_icmp .le 6, 3) := dAt dlX6_best_0 11 rfl
theorem dX6_best_22 : decode cX6_best 22 = .ok (.bipush (-3), 2) := dAt dlX6_best_0 12 rfl
theorem dX6_best_24 : decode cX6_best 24 = .ok (.ireturn, 1) := dAt dlX6_best_0 13 rfl
theorem dX6_best_25 : decode cX6_best 25 = .ok (.iconst 0, 1) := dAt dlX6_best_0 14 rfl
theorem dX6_best_26 : decode cX6_best 26 = .ok (.istore_n 3, 1) := dAt dlX6_best_0 15 rfl
theorem dX6_best_27 : decode cX6_best 27 = .ok (.aload_n 0, 1) := dAt dlX6_best_0 16 rfl
theorem dX6_best_28 : decode cX6_best 28 = .ok (.iload_n 1, 1) := dAt dlX6_best_0 17 rfl
theorem dX6_best_29 : decode cX6_best 29 = .ok (.iconst 0, 1) := dAt dlX6_best_0 18 rfl
theorem dX6_best_30 : decode cX6_best 30 = .ok (.invokevirtual 142, 3) := dAt dlX6_best_0 19 rfl
theorem dX6_best_33 : decode cX6_best 33 = .ok (.istore 4, 2) := dAt dlX6_best_0 20 rfl
theorem dX6_best_35 : decode cX6_best 35 = .ok (.iconst 1, 1) := dAt dlX6_best_0 21 rfl
theorem dX6_best_36 : decode cX6_best 36 = .ok (.istore 5, 2) := dAt dlX6_best_0 22 rfl
theorem dX6_best_38 : decode cX6_best 38 = .ok (.iload 5, 2) := dAt dlX6_best_0 23 rfl
theorem dX6_best_40 : decode cX6_best 40 = .ok (.iconst 1, 1) := dAt dlX6_best_0 24 rfl
theorem dX6_best_41 : decode cX6_best 41 = .ok (.iload_n 2, 1) := dAt dlX6_best_0 25 rfl
theorem dX6_best_42 : decode cX6_best 42 = .ok (.ishl, 1) := dAt dlX6_best_0 26 rfl
theorem dX6_best_43 : decode cX6_best 43 = .ok (.if_icmp .ge 32, 3) := dAt dlX6_best_0 27 rfl
theorem dX6_best_46 : decode cX6_best 46 = .ok (.aload_n 0, 1) := dAt dlX6_best_0 28 rfl
theorem dX6_best_47 : decode cX6_best 47 = .ok (.iload_n 1, 1) := dAt dlX6_best_0 29 rfl
theorem dX6_best_48 : decode cX6_best 48 = .ok (.iload 5, 2) := dAt dlX6_best_0 30 rfl
theorem dX6_best_50 : decode cX6_best 50 = .ok (.invokevirtual 142, 3) := dAt dlX6_best_0 31 rfl
theorem dX6_best_53 : decode cX6_best 53 = .ok (.istore 6, 2) := dAt dlX6_best_0 32 rfl
theorem dX6_best_55 : decode cX6_best 55 = .ok (.iload 6, 2) := dAt dlX6_best_0 33 rfl
theorem dX6_best_57 : decode cX6_best 57 = .ok (.iload 4, 2) := dAt dlX6_best_0 34 rfl
theorem dX6_best_59 : decode cX6_best 59 = .ok (.if_icmp .ge 10, 3) := dAt dlX6_best_0 35 rfl
theorem dX6_best_62 : decode cX6_best 62 = .ok (.iload 6, 2) := dAt dlX6_best_0 36 rfl
theorem dX6_best_64 : decode cX6_best 64 = .ok (.istore 4, 2) := dAt dlX6_best_0 37 rfl
theorem dX6_best_66 : decode cX6_best 66 = .ok (.iload 5, 2) := dAt dlX6_best_0 38 rfl
theorem dX6_best_68 : decode cX6_best 68 = .ok (.istore_n 3, 1) := dAt dlX6_best_0 39 rfl
theorem dX6_best_69 : decode cX6_best 69 = .ok (.iinc 5 1, 3) := dAt dlX6_best_0 40 rfl
theorem dX6_best_72 : decode cX6_best 72 = .ok (.goto (-34), 3) := dAt dlX6_best_0 41 rfl
theorem dX6_best_75 : decode cX6_best 75 = .ok (.iload_n 3, 1) := dAt dlX6_best_0 42 rfl
theorem dX6_best_76 : decode cX6_best 76 = .ok (.ireturn, 1) := dAt dlX6_best_0 43 rfl
def ilX6_layWalks_0 : List (Nat × Instr × Nat) := [(0, .iconst 0, 1), (1, .istore 4, 2), (3, .iload 4, 2), (5, .bipush 10, 2), (7, .if_icmp .ge 27, 3), (10, .aload_n 0, 1), (11, .getfield 44, 3), (14, .iload 4, 2), (16, .iload 4, 2), (18, .iload_n 2, 1), (19, .if_icmp .ne 7, 3), (22, .lconst 1, 1), (23, .goto 4, 3), (26, .lconst 0, 1), (27, .lastore, 1), (28, .iinc 4 1, 3), (31, .goto (-28), 3), (34, .iconst 0, 1), (35, .istore 4, 2), (37, .iload 4, 2), (39, .iload_n 3, 1), (40, .if_icmp .ge 124, 3), (43, .iconst 0, 1), (44, .istore 5, 2), (46, .iload 5, 2), (48, .aload_n 0, 1), (49, .getfield 7, 3), (52, .iload_n 1, 1), (53, .iaload, 1), (54, .if_icmp .ge 70, 3), (57, .aload_n 0, 1), (58, .getfield 47, 3), (61, .iload 5, 2), (63, .lconst 0, 1), (64, .lastore, 1), (65, .iconst 0, 1), (66, .istore 6, 2), (68, .iload 6, 2), (70, .aload_n 0, 1), (71, .getfield 7, 3), (74, .iload_n 1, 1), (75, .iaload, 1), (76, .if_icmp .ge 42, 3), (79, .aload_n 0, 1), (80, .getfield 47, 3), (83, .iload 5, 2), (85, .dup2, 1), (86, .laload, 1), (87, .aload_n 0, 1), (88, .iload_n 1, 1), (89, .iload 6, 2), (91, .iload 5, 2), (93, .invokevirtual 85, 3), (96, .ifCond .eq 13, 3), (99, .aload_n 0, 1), (100, .getfield 44, 3), (103, .iload 6, 2), (105, .laload, 1), (106, .goto 4, 3), (109, .lconst 0, 1)]
theorem dlX6_layWalks_0 : dOK cX6_layWalks ilX6_layWalks_0 = true := by decide +kernel
theorem dX6_layWalks_0 : decode cX6_layWalks 0 = .ok (.iconst 0, 1) := dAt dlX6_layWalks_0 0 rfl
theorem dX6_layWalks_1 : decode cX6_layWalks 1 = .ok (.istore 4, 2) := dAt dlX6_layWalks_0 1 rfl
theorem dX6_layWalks_3 : decode cX6_layWalks 3 = .ok (.iload 4, 2) := dAt dlX6_layWalks_0 2 rfl
theorem dX6_layWalks_5 : decode cX6_layWalks 5 = .ok (.bipush 10, 2) := dAt dlX6_layWalks_0 3 rfl
theorem dX6_layWalks_7 : decode cX6_layWalks 7 = .ok (.if_icmp .ge 27, 3) := dAt dlX6_layWalks_0 4 rfl
theorem dX6_layWalks_10 : decode cX6_layWalks 10 = .ok (.aload_n 0, 1) := dAt dlX6_layWalks_0 5 rfl
theorem dX6_layWalks_11 : decode cX6_layWalks 11 = .ok (.getfield 44, 3) := dAt dlX6_layWalks_0 6 rfl
theorem dX6_layWalks_14 : decode cX6_layWalks 14 = .ok (.iload 4, 2) := dAt dlX6_layWalks_0 7 rfl
theorem dX6_layWalks_16 : decode cX6_layWalks 16 = .ok (.iload 4, 2) := dAt dlX6_layWalks_0 8 rfl
theorem dX6_layWalks_18 : decode cX6_layWalks 18 = .ok (.iload_n 2, 1) := dAt dlX6_layWalks_0 9 rfl
theorem dX6_layWalks_19 : decode cX6_layWalks 19 = .ok (.if_icmp .ne 7, 3) := dAt dlX6_layWalks_0 10 rfl
theorem dX6_layWalks_22 : decode cX6_layWalks 22 = .ok (.lconst 1, 1) := dAt dlX6_layWalks_0 11 rfl
theorem dX6_layWalks_23 : decode cX6_layWalks 23 = .ok (.goto 4, 3) := dAt dlX6_layWalks_0 12 rfl
theorem dX6_layWalks_26 : decode cX6_layWalks 26 = .ok (.lconst 0, 1) := dAt dlX6_layWalks_0 13 rfl
theorem dX6_layWalks_27 : decode cX6_layWalks 27 = .ok (.lastore, 1) := dAt dlX6_layWalks_0 14 rfl
theorem dX6_layWalks_28 : decode cX6_layWalks 28 = .ok (.iinc 4 1, 3) := dAt dlX6_layWalks_0 15 rfl
theorem dX6_layWalks_31 : decode cX6_layWalks 31 = .ok (.goto (-28), 3) := dAt dlX6_layWalks_0 16 rfl
theorem dX6_layWalks_34 : decode cX6_layWalks 34 = .ok (.iconst 0, 1) := dAt dlX6_layWalks_0 17 rfl
theorem dX6_layWalks_35 : decode cX6_layWalks 35 = .ok (.istore 4, 2) := dAt dlX6_layWalks_0 18 rfl
theorem dX6_layWalks_37 : decode cX6_layWalks 37 = .ok (.iload 4, 2) := dAt dlX6_layWalks_0 19 rfl
theorem dX6_layWalks_39 : decode cX6_layWalks 39 = .ok (.iload_n 3, 1) := dAt dlX6_layWalks_0 20 rfl
theorem dX6_layWalks_40 : decode cX6_layWalks 40 = .ok (.if_icmp .ge 124, 3) := dAt dlX6_layWalks_0 21 rfl
theorem dX6_layWalks_43 : decode cX6_layWalks 43 = .ok (.iconst 0, 1) := dAt dlX6_layWalks_0 22 rfl
theorem dX6_layWalks_44 : decode cX6_layWalks 44 = .ok (.istore 5, 2) := dAt dlX6_layWalks_0 23 rfl
theorem dX6_layWalks_46 : decode cX6_layWalks 46 = .ok (.iload 5, 2) := dAt dlX6_layWalks_0 24 rfl
theorem dX6_layWalks_48 : decode cX6_layWalks 48 = .ok (.aload_n 0, 1) := dAt dlX6_layWalks_0 25 rfl
theorem dX6_layWalks_49 : decode cX6_layWalks 49 = .ok (.getfield 7, 3) := dAt dlX6_layWalks_0 26 rfl
theorem dX6_layWalks_52 : decode cX6_layWalks 52 = .ok (.iload_n 1, 1) := dAt dlX6_layWalks_0 27 rfl
theorem dX6_layWalks_53 : decode cX6_layWalks 53 = .ok (.iaload, 1) := dAt dlX6_layWalks_0 28 rfl
theorem dX6_layWalks_54 : decode cX6_layWalks 54 = .ok (.if_icmp .ge 70, 3) := dAt dlX6_layWalks_0 29 rfl
theorem dX6_layWalks_57 : decode cX6_layWalks 57 = .ok (.aload_n 0, 1) := dAt dlX6_layWalks_0 30 rfl
theorem dX6_layWalks_58 : decode cX6_layWalks 58 = .ok (.getfield 47, 3) := dAt dlX6_layWalks_0 31 rfl
theorem dX6_layWalks_61 : decode cX6_layWalks 61 = .ok (.iload 5, 2) := dAt dlX6_layWalks_0 32 rfl
theorem dX6_layWalks_63 : decode cX6_layWalks 63 = .ok (.lconst 0, 1) := dAt dlX6_layWalks_0 33 rfl
theorem dX6_layWalks_64 : decode cX6_layWalks 64 = .ok (.lastore, 1) := dAt dlX6_layWalks_0 34 rfl
theorem dX6_layWalks_65 : decode cX6_layWalks 65 = .ok (.iconst 0, 1) := dAt dlX6_layWalks_0 35 rfl
theorem dX6_layWalks_66 : decode cX6_layWalks 66 = .ok (.istore 6, 2) := dAt dlX6_layWalks_0 36 rfl
theorem dX6_layWalks_68 : decode cX6_layWalks 68 = .ok (.iload 6, 2) := dAt dlX6_layWalks_0 37 rfl
theorem dX6_layWalks_70 : decode cX6_layWalks 70 = .ok (.aload_n 0, 1) := dAt dlX6_layWalks_0 38 rfl
theorem dX6_layWalks_71 : decode cX6_layWalks 71 = .ok (.getfield 7, 3) := dAt dlX6_layWalks_0 39 rfl
theorem dX6_layWalks_74 : decode cX6_layWalks 74 = .ok (.iload_n 1, 1) := dAt dlX6_layWalks_0 40 rfl
theorem dX6_layWalks_75 : decode cX6_layWalks 75 = .ok (.iaload, 1) := dAt dlX6_layWalks_0 41 rfl
theorem dX6_layWalks_76 : decode cX6_layWalks 76 = .ok (.if_icmp .ge 42, 3) := dAt dlX6_layWalks_0 42 rfl
theorem dX6_layWalks_79 : decode cX6_layWalks 79 = .ok (.aload_n 0, 1) := dAt dlX6_layWalks_0 43 rfl
theorem dX6_layWalks_80 : decode cX6_layWalks 80 = .ok (.getfield 47, 3) := dAt dlX6_layWalks_0 44 rfl
theorem dX6_layWalks_83 : decode cX6_layWalks 83 = .ok (.iload 5, 2) := dAt dlX6_layWalks_0 45 rfl
theorem dX6_layWalks_85 : decode cX6_layWalks 85 = .ok (.dup2, 1) := dAt dlX6_layWalks_0 46 rfl
theorem dX6_layWalks_86 : decode cX6_layWalks 86 = .ok (.laload, 1) := dAt dlX6_layWalks_0 47 rfl
theorem dX6_layWalks_87 : decode cX6_layWalks 87 = .ok (.aload_n 0, 1) := dAt dlX6_layWalks_0 48 rfl
theorem dX6_layWalks_88 : decode cX6_layWalks 88 = .ok (.iload_n 1, 1) := dAt dlX6_layWalks_0 49 rfl
theorem dX6_layWalks_89 : decode cX6_layWalks 89 = .ok (.iload 6, 2) := dAt dlX6_layWalks_0 50 rfl
theorem dX6_layWalks_91 : decode cX6_layWalks 91 = .ok (.iload 5, 2) := dAt dlX6_layWalks_0 51 rfl
theorem dX6_layWalks_93 : decode cX6_layWalks 93 = .ok (.invokevirtual 85, 3) := dAt dlX6_layWalks_0 52 rfl
theorem dX6_layWalks_96 : decode cX6_layWalks 96 = .ok (.ifCond .eq 13, 3) := dAt dlX6_layWalks_0 53 rfl
theorem dX6_layWalks_99 : decode cX6_layWalks 99 = .ok (.aload_n 0, 1) := dAt dlX6_layWalks_0 54 rfl
theorem dX6_layWalks_100 : decode cX6_layWalks 100 = .ok (.getfield 44, 3) := dAt dlX6_layWalks_0 55 rfl
theorem dX6_layWalks_103 : decode cX6_layWalks 103 = .ok (.iload 6, 2) := dAt dlX6_layWalks_0 56 rfl
theorem dX6_layWalks_105 : decode cX6_layWalks 105 = .ok (.laload, 1) := dAt dlX6_layWalks_0 57 rfl
theorem dX6_layWalks_106 : decode cX6_layWalks 106 = .ok (.goto 4, 3) := dAt dlX6_layWalks_0 58 rfl
theorem dX6_layWalks_109 : decode cX6_layWalks 109 = .ok (.lconst 0, 1) := dAt dlX6_layWalks_0 59 rfl
def ilX6_layWalks_1 : List (Nat × Instr × Nat) := [(110, .ladd, 1), (111, .lastore, 1), (112, .iinc 6 1, 3), (115, .goto (-47), 3), (118, .iinc 5 1, 3), (121, .goto (-75), 3), (124, .iconst 0, 1), (125, .istore 5, 2), (127, .iload 5, 2), (129, .aload_n 0, 1), (130, .getfield 7, 3), (133, .iload_n 1, 1), (134, .iaload, 1), (135, .if_icmp .ge 23, 3), (138, .aload_n 0, 1), (139, .getfield 44, 3), (142, .iload 5, 2), (144, .aload_n 0, 1), (145, .getfield 47, 3), (148, .iload 5, 2), (150, .laload, 1), (151, .lastore, 1), (152, .iinc 5 1, 3), (155, .goto (-28), 3), (158, .iinc 4 1, 3), (161, .goto (-124), 3), (164, .return_, 1)]
theorem dlX6_layWalks_1 : dOK cX6_layWalks ilX6_layWalks_1 = true := by decide +kernel
theorem dX6_layWalks_110 : decode cX6_layWalks 110 = .ok (.ladd, 1) := dAt dlX6_layWalks_1 0 rfl
theorem dX6_layWalks_111 : decode cX6_layWalks 111 = .ok (.lastore, 1) := dAt dlX6_layWalks_1 1 rfl
theorem dX6_layWalks_112 : decode cX6_layWalks 112 = .ok (.iinc 6 1, 3) := dAt dlX6_layWalks_1 2 rfl
theorem dX6_layWalks_115 : decode cX6_layWalks 115 = .ok (.goto (-47), 3) := dAt dlX6_layWalks_1 3 rfl
theorem dX6_layWalks_118 : decode cX6_layWalks 118 = .ok (.iinc 5 1, 3) := dAt dlX6_layWalks_1 4 rfl
theorem dX6_layWalks_121 : decode cX6_layWalks 121 = .ok (.goto (-75), 3) := dAt dlX6_layWalks_1 5 rfl
theorem dX6_layWalks_124 : decode cX6_layWalks 124 = .ok (.iconst 0, 1) := dAt dlX6_layWalks_1 6 rfl
theorem dX6_layWalks_125 : decode cX6_layWalks 125 = .ok (.istore 5, 2) := dAt dlX6_layWalks_1 7 rfl
theorem dX6_layWalks_127 : decode cX6_layWalks 127 = .ok (.iload 5, 2) := dAt dlX6_layWalks_1 8 rfl
theorem dX6_layWalks_129 : decode cX6_layWalks 129 = .ok (.aload_n 0, 1) := dAt dlX6_layWalks_1 9 rfl
theorem dX6_layWalks_130 : decode cX6_layWalks 130 = .ok (.getfield 7, 3) := dAt dlX6_layWalks_1 10 rfl
theorem dX6_layWalks_133 : decode cX6_layWalks 133 = .ok (.iload_n 1, 1) := dAt dlX6_layWalks_1 11 rfl
theorem dX6_layWalks_134 : decode cX6_layWalks 134 = .ok (.iaload, 1) := dAt dlX6_layWalks_1 12 rfl
theorem dX6_layWalks_135 : decode cX6_layWalks 135 = .ok (.if_icmp .ge 23, 3) := dAt dlX6_layWalks_1 13 rfl
theorem dX6_layWalks_138 : decode cX6_layWalks 138 = .ok (.aload_n 0, 1) := dAt dlX6_layWalks_1 14 rfl
theorem dX6_layWalks_139 : decode cX6_layWalks 139 = .ok (.getfield 44, 3) := dAt dlX6_layWalks_1 15 rfl
theorem dX6_layWalks_142 : decode cX6_layWalks 142 = .ok (.iload 5, 2) := dAt dlX6_layWalks_1 16 rfl
theorem dX6_layWalks_144 : decode cX6_layWalks 144 = .ok (.aload_n 0, 1) := dAt dlX6_layWalks_1 17 rfl
theorem dX6_layWalks_145 : decode cX6_layWalks 145 = .ok (.getfield 47, 3) := dAt dlX6_layWalks_1 18 rfl
theorem dX6_layWalks_148 : decode cX6_layWalks 148 = .ok (.iload 5, 2) := dAt dlX6_layWalks_1 19 rfl
theorem dX6_layWalks_150 : decode cX6_layWalks 150 = .ok (.laload, 1) := dAt dlX6_layWalks_1 20 rfl
theorem dX6_layWalks_151 : decode cX6_layWalks 151 = .ok (.lastore, 1) := dAt dlX6_layWalks_1 21 rfl
theorem dX6_layWalks_152 : decode cX6_layWalks 152 = .ok (.iinc 5 1, 3) := dAt dlX6_layWalks_1 22 rfl
theorem dX6_layWalks_155 : decode cX6_layWalks 155 = .ok (.goto (-28), 3) := dAt dlX6_layWalks_1 23 rfl
theorem dX6_layWalks_158 : decode cX6_layWalks 158 = .ok (.iinc 4 1, 3) := dAt dlX6_layWalks_1 24 rfl
theorem dX6_layWalks_161 : decode cX6_layWalks 161 = .ok (.goto (-124), 3) := dAt dlX6_layWalks_1 25 rfl
theorem dX6_layWalks_164 : decode cX6_layWalks 164 = .ok (.return_, 1) := dAt dlX6_layWalks_1 26 rfl
def ilX6_walks_0 : List (Nat × Instr × Nat) := [(0, .aload_n 0, 1), (1, .iload_n 1, 1), (2, .iload_n 2, 1), (3, .invokevirtual 81, 3), (6, .ifCond .eq 23, 3), (9, .aload_n 0, 1), (10, .iload_n 1, 1), (11, .iload_n 3, 1), (12, .invokevirtual 81, 3), (15, .ifCond .eq 14, 3), (18, .iload 4, 2), (20, .iconst 0, 1), (21, .bipush 12, 2), (23, .invokestatic 65, 3), (26, .ifCond .ne 7, 3), (29, .ldc2_w 145, 3), (32, .lreturn, 1), (33, .aload_n 0, 1), (34, .iload_n 1, 1), (35, .iload_n 2, 1), (36, .iload 4, 2), (38, .invokevirtual 147, 3), (41, .aload_n 0, 1), (42, .getfield 44, 3), (45, .iload_n 3, 1), (46, .laload, 1), (47, .lreturn, 1)]
theorem dlX6_walks_0 : dOK cX6_walks ilX6_walks_0 = true := by decide +kernel
theorem dX6_walks_0 : decode cX6_walks 0 = .ok (.aload_n 0, 1) := dAt dlX6_walks_0 0 rfl
theorem dX6_walks_1 : decode cX6_walks 1 = .ok (.iload_n 1, 1) := dAt dlX6_walks_0 1 rfl
theorem dX6_walks_2 : decode cX6_walks 2 = .ok (.iload_n 2, 1) := dAt dlX6_walks_0 2 rfl
theorem dX6_walks_3 : decode cX6_walks 3 = .ok (.invokevirtual 81, 3) := dAt dlX6_walks_0 3 rfl
theorem dX6_walks_6 : decode cX6_walks 6 = .ok (.ifCond .eq 23, 3) := dAt dlX6_walks_0 4 rfl
theorem dX6_walks_9 : decode cX6_walks 9 = .ok (.aload_n 0, 1) := dAt dlX6_walks_0 5 rfl
theorem dX6_walks_10 : decode cX6_walks 10 = .ok (.iload_n 1, 1) := dAt dlX6_walks_0 6 rfl
theorem dX6_walks_11 : decode cX6_walks 11 = .ok (.iload_n 3, 1) := dAt dlX6_walks_0 7 rfl
theorem dX6_walks_12 : decode cX6_walks 12 = .ok (.invokevirtual 81, 3) := dAt dlX6_walks_0 8 rfl
theorem dX6_walks_15 : decode cX6_walks 15 = .ok (.ifCond .eq 14, 3) := dAt dlX6_walks_0 9 rfl
theorem dX6_walks_18 : decode cX6_walks 18 = .ok (.iload 4, 2) := dAt dlX6_walks_0 10 rfl
theorem dX6_walks_20 : decode cX6_walks 20 = .ok (.iconst 0, 1) := dAt dlX6_walks_0 11 rfl
theorem dX6_walks_21 : decode cX6_walks 21 = .ok (.bipush 12, 2) := dAt dlX6_walks_0 12 rfl
theorem dX6_walks_23 : decode cX6_walks 23 = .ok (.invokestatic 65, 3) := dAt dlX6_walks_0 13 rfl
theorem dX6_walks_26 : decode cX6_walks 26 = .ok (.ifCond .ne 7, 3) := dAt dlX6_walks_0 14 rfl
theorem dX6_walks_29 : decode cX6_walks 29 = .ok (.ldc2_w 145, 3) := dAt dlX6_walks_0 15 rfl
theorem dX6_walks_32 : decode cX6_walks 32 = .ok (.lreturn, 1) := dAt dlX6_walks_0 16 rfl
theorem dX6_walks_33 : decode cX6_walks 33 = .ok (.aload_n 0, 1) := dAt dlX6_walks_0 17 rfl
theorem dX6_walks_34 : decode cX6_walks 34 = .ok (.iload_n 1, 1) := dAt dlX6_walks_0 18 rfl
theorem dX6_walks_35 : decode cX6_walks 35 = .ok (.iload_n 2, 1) := dAt dlX6_walks_0 19 rfl
theorem dX6_walks_36 : decode cX6_walks 36 = .ok (.iload 4, 2) := dAt dlX6_walks_0 20 rfl
theorem dX6_walks_38 : decode cX6_walks 38 = .ok (.invokevirtual 147, 3) := dAt dlX6_walks_0 21 rfl
theorem dX6_walks_41 : decode cX6_walks 41 = .ok (.aload_n 0, 1) := dAt dlX6_walks_0 22 rfl
theorem dX6_walks_42 : decode cX6_walks 42 = .ok (.getfield 44, 3) := dAt dlX6_walks_0 23 rfl
theorem dX6_walks_45 : decode cX6_walks 45 = .ok (.iload_n 3, 1) := dAt dlX6_walks_0 24 rfl
theorem dX6_walks_46 : decode cX6_walks 46 = .ok (.laload, 1) := dAt dlX6_walks_0 25 rfl
theorem dX6_walks_47 : decode cX6_walks 47 = .ok (.lreturn, 1) := dAt dlX6_walks_0 26 rfl
def ilX6_uneven_0 : List (Nat × Instr × Nat) := [(0, .aload_n 0, 1), (1, .iload_n 1, 1), (2, .iload_n 2, 1), (3, .invokevirtual 81, 3), (6, .ifCond .eq 13, 3), (9, .iload_n 3, 1), (10, .iconst 0, 1), (11, .bipush 12, 2), (13, .invokestatic 65, 3), (16, .ifCond .ne 7, 3), (19, .ldc2_w 145, 3), (22, .lreturn, 1), (23, .aload_n 0, 1), (24, .iload_n 1, 1), (25, .invokevirtual 99, 3), (28, .istore 4, 2), (30, .iload 4, 2), (32, .iconst (-1), 1), (33, .if_icmp .ne 7, 3), (36, .ldc2_w 150, 3), (39, .lreturn, 1), (40, .aload_n 0, 1), (41, .iload_n 1, 1), (42, .iload_n 2, 1), (43, .iload_n 3, 1), (44, .invokevirtual 147, 3), (47, .lconst 1, 1), (48, .lstore 5, 2), (50, .iconst 0, 1), (51, .istore 7, 2), (53, .iload 7, 2), (55, .iload_n 3, 1), (56, .if_icmp .ge 17, 3), (59, .lload 5, 2), (61, .iload 4, 2), (63, .i2l, 1), (64, .lmul, 1), (65, .lstore 5, 2), (67, .iinc 7 1, 3), (70, .goto (-17), 3), (73, .lconst 0, 1), (74, .lstore 7, 2), (76, .iconst 0, 1), (77, .istore 9, 2), (79, .iload 9, 2), (81, .aload_n 0, 1), (82, .getfield 7, 3), (85, .iload_n 1, 1), (86, .iaload, 1), (87, .if_icmp .ge 49, 3), (90, .aload_n 0, 1), (91, .getfield 7, 3), (94, .iload_n 1, 1), (95, .iaload, 1), (96, .i2l, 1), (97, .aload_n 0, 1), (98, .getfield 44, 3), (101, .iload 9, 2), (103, .laload, 1), (104, .lmul, 1)]
theorem dlX6_uneven_0 : dOK cX6_uneven ilX6_uneven_0 = true := by decide +kernel
theorem dX6_uneven_0 : decode cX6_uneven 0 = .ok (.aload_n 0, 1) := dAt dlX6_uneven_0 0 rfl
theorem dX6_uneven_1 : decode cX6_uneven 1 = .ok (.iload_n 1, 1) := dAt dlX6_uneven_0 1 rfl
theorem dX6_uneven_2 : decode cX6_uneven 2 = .ok (.iload_n 2, 1) := dAt dlX6_uneven_0 2 rfl
theorem dX6_uneven_3 : decode cX6_uneven 3 = .ok (.invokevirtual 81, 3) := dAt dlX6_uneven_0 3 rfl
theorem dX6_uneven_6 : decode cX6_uneven 6 = .ok (.ifCond .eq 13, 3) := dAt dlX6_uneven_0 4 rfl
theorem dX6_uneven_9 : decode cX6_uneven 9 = .ok (.iload_n 3, 1) := dAt dlX6_uneven_0 5 rfl
theorem dX6_uneven_10 : decode cX6_uneven 10 = .ok (.iconst 0, 1) := dAt dlX6_uneven_0 6 rfl
theorem dX6_uneven_11 : decode cX6_uneven 11 = .ok (.bipush 12, 2) := dAt dlX6_uneven_0 7 rfl
theorem dX6_uneven_13 : decode cX6_uneven 13 = .ok (.invokestatic 65, 3) := dAt dlX6_uneven_0 8 rfl
theorem dX6_uneven_16 : decode cX6_uneven 16 = .ok (.ifCond .ne 7, 3) := dAt dlX6_uneven_0 9 rfl
theorem dX6_uneven_19 : decode cX6_uneven 19 = .ok (.ldc2_w 145, 3) := dAt dlX6_uneven_0 10 rfl
theorem dX6_uneven_22 : decode cX6_uneven 22 = .ok (.lreturn, 1) := dAt dlX6_uneven_0 11 rfl
theorem dX6_uneven_23 : decode cX6_uneven 23 = .ok (.aload_n 0, 1) := dAt dlX6_uneven_0 12 rfl
theorem dX6_uneven_24 : decode cX6_uneven 24 = .ok (.iload_n 1, 1) := dAt dlX6_uneven_0 13 rfl
theorem dX6_uneven_25 : decode cX6_uneven 25 = .ok (.invokevirtual 99, 3) := dAt dlX6_uneven_0 14 rfl
theorem dX6_uneven_28 : decode cX6_uneven 28 = .ok (.istore 4, 2) := dAt dlX6_uneven_0 15 rfl
theorem dX6_uneven_30 : decode cX6_uneven 30 = .ok (.iload 4, 2) := dAt dlX6_uneven_0 16 rfl
theorem dX6_uneven_32 : decode cX6_uneven 32 = .ok (.iconst (-1), 1) := dAt dlX6_uneven_0 17 rfl
theorem dX6_uneven_33 : decode cX6_uneven 33 = .ok (.if_icmp .ne 7, 3) := dAt dlX6_uneven_0 18 rfl
theorem dX6_uneven_36 : decode cX6_uneven 36 = .ok (.ldc2_w 150, 3) := dAt dlX6_uneven_0 19 rfl
theorem dX6_uneven_39 : decode cX6_uneven 39 = .ok (.lreturn, 1) := dAt dlX6_uneven_0 20 rfl
theorem dX6_uneven_40 : decode cX6_uneven 40 = .ok (.aload_n 0, 1) := dAt dlX6_uneven_0 21 rfl
theorem dX6_uneven_41 : decode cX6_uneven 41 = .ok (.iload_n 1, 1) := dAt dlX6_uneven_0 22 rfl
theorem dX6_uneven_42 : decode cX6_uneven 42 = .ok (.iload_n 2, 1) := dAt dlX6_uneven_0 23 rfl
theorem dX6_uneven_43 : decode cX6_uneven 43 = .ok (.iload_n 3, 1) := dAt dlX6_uneven_0 24 rfl
theorem dX6_uneven_44 : decode cX6_uneven 44 = .ok (.invokevirtual 147, 3) := dAt dlX6_uneven_0 25 rfl
theorem dX6_uneven_47 : decode cX6_uneven 47 = .ok (.lconst 1, 1) := dAt dlX6_uneven_0 26 rfl
theorem dX6_uneven_48 : decode cX6_uneven 48 = .ok (.lstore 5, 2) := dAt dlX6_uneven_0 27 rfl
theorem dX6_uneven_50 : decode cX6_uneven 50 = .ok (.iconst 0, 1) := dAt dlX6_uneven_0 28 rfl
theorem dX6_uneven_51 : decode cX6_uneven 51 = .ok (.istore 7, 2) := dAt dlX6_uneven_0 29 rfl
theorem dX6_uneven_53 : decode cX6_uneven 53 = .ok (.iload 7, 2) := dAt dlX6_uneven_0 30 rfl
theorem dX6_uneven_55 : decode cX6_uneven 55 = .ok (.iload_n 3, 1) := dAt dlX6_uneven_0 31 rfl
theorem dX6_uneven_56 : decode cX6_uneven 56 = .ok (.if_icmp .ge 17, 3) := dAt dlX6_uneven_0 32 rfl
theorem dX6_uneven_59 : decode cX6_uneven 59 = .ok (.lload 5, 2) := dAt dlX6_uneven_0 33 rfl
theorem dX6_uneven_61 : decode cX6_uneven 61 = .ok (.iload 4, 2) := dAt dlX6_uneven_0 34 rfl
theorem dX6_uneven_63 : decode cX6_uneven 63 = .ok (.i2l, 1) := dAt dlX6_uneven_0 35 rfl
theorem dX6_uneven_64 : decode cX6_uneven 64 = .ok (.lmul, 1) := dAt dlX6_uneven_0 36 rfl
theorem dX6_uneven_65 : decode cX6_uneven 65 = .ok (.lstore 5, 2) := dAt dlX6_uneven_0 37 rfl
theorem dX6_uneven_67 : decode cX6_uneven 67 = .ok (.iinc 7 1, 3) := dAt dlX6_uneven_0 38 rfl
theorem dX6_uneven_70 : decode cX6_uneven 70 = .ok (.goto (-17), 3) := dAt dlX6_uneven_0 39 rfl
theorem dX6_uneven_73 : decode cX6_uneven 73 = .ok (.lconst 0, 1) := dAt dlX6_uneven_0 40 rfl
theorem dX6_uneven_74 : decode cX6_uneven 74 = .ok (.lstore 7, 2) := dAt dlX6_uneven_0 41 rfl
theorem dX6_uneven_76 : decode cX6_uneven 76 = .ok (.iconst 0, 1) := dAt dlX6_uneven_0 42 rfl
theorem dX6_uneven_77 : decode cX6_uneven 77 = .ok (.istore 9, 2) := dAt dlX6_uneven_0 43 rfl
theorem dX6_uneven_79 : decode cX6_uneven 79 = .ok (.iload 9, 2) := dAt dlX6_uneven_0 44 rfl
theorem dX6_uneven_81 : decode cX6_uneven 81 = .ok (.aload_n 0, 1) := dAt dlX6_uneven_0 45 rfl
theorem dX6_uneven_82 : decode cX6_uneven 82 = .ok (.getfield 7, 3) := dAt dlX6_uneven_0 46 rfl
theorem dX6_uneven_85 : decode cX6_uneven 85 = .ok (.iload_n 1, 1) := dAt dlX6_uneven_0 47 rfl
theorem dX6_uneven_86 : decode cX6_uneven 86 = .ok (.iaload, 1) := dAt dlX6_uneven_0 48 rfl
theorem dX6_uneven_87 : decode cX6_uneven 87 = .ok (.if_icmp .ge 49, 3) := dAt dlX6_uneven_0 49 rfl
theorem dX6_uneven_90 : decode cX6_uneven 90 = .ok (.aload_n 0, 1) := dAt dlX6_uneven_0 50 rfl
theorem dX6_uneven_91 : decode cX6_uneven 91 = .ok (.getfield 7, 3) := dAt dlX6_uneven_0 51 rfl
theorem dX6_uneven_94 : decode cX6_uneven 94 = .ok (.iload_n 1, 1) := dAt dlX6_uneven_0 52 rfl
theorem dX6_uneven_95 : decode cX6_uneven 95 = .ok (.iaload, 1) := dAt dlX6_uneven_0 53 rfl
theorem dX6_uneven_96 : decode cX6_uneven 96 = .ok (.i2l, 1) := dAt dlX6_uneven_0 54 rfl
theorem dX6_uneven_97 : decode cX6_uneven 97 = .ok (.aload_n 0, 1) := dAt dlX6_uneven_0 55 rfl
theorem dX6_uneven_98 : decode cX6_uneven 98 = .ok (.getfield 44, 3) := dAt dlX6_uneven_0 56 rfl
theorem dX6_uneven_101 : decode cX6_uneven 101 = .ok (.iload 9, 2) := dAt dlX6_uneven_0 57 rfl
theorem dX6_uneven_103 : decode cX6_uneven 103 = .ok (.laload, 1) := dAt dlX6_uneven_0 58 rfl
theorem dX6_uneven_104 : decode cX6_uneven 104 = .ok (.lmul, 1) := dAt dlX6_uneven_0 59 rfl
def ilX6_uneven_1 : List (Nat × Instr × Nat) := [(105, .lload 5, 2), (107, .lsub, 1), (108, .lstore 10, 2), (110, .lload 7, 2), (112, .lload 10, 2), (114, .lconst 0, 1), (115, .lcmp, 1), (116, .ifCond .ge 9, 3), (119, .lload 10, 2), (121, .lneg, 1), (122, .goto 5, 3), (125, .lload 10, 2), (127, .ladd, 1), (128, .lstore 7, 2), (130, .iinc 9 1, 3), (133, .goto (-54), 3), (136, .lload 7, 2), (138, .lreturn, 1)]
theorem dlX6_uneven_1 : dOK cX6_uneven ilX6_uneven_1 = true := by decide +kernel
theorem dX6_uneven_105 : decode cX6_uneven 105 = .ok (.lload 5, 2) := dAt dlX6_uneven_1 0 rfl
theorem dX6_uneven_107 : decode cX6_uneven 107 = .ok (.lsub, 1) := dAt dlX6_uneven_1 1 rfl
theorem dX6_uneven_108 : decode cX6_uneven 108 = .ok (.lstore 10, 2) := dAt dlX6_uneven_1 2 rfl
theorem dX6_uneven_110 : decode cX6_uneven 110 = .ok (.lload 7, 2) := dAt dlX6_uneven_1 3 rfl
theorem dX6_uneven_112 : decode cX6_uneven 112 = .ok (.lload 10, 2) := dAt dlX6_uneven_1 4 rfl
theorem dX6_uneven_114 : decode cX6_uneven 114 = .ok (.lconst 0, 1) := dAt dlX6_uneven_1 5 rfl
theorem dX6_uneven_115 : decode cX6_uneven 115 = .ok (.lcmp, 1) := dAt dlX6_uneven_1 6 rfl
theorem dX6_uneven_116 : decode cX6_uneven 116 = .ok (.ifCond .ge 9, 3) := dAt dlX6_uneven_1 7 rfl
theorem dX6_uneven_119 : decode cX6_uneven 119 = .ok (.lload 10, 2) := dAt dlX6_uneven_1 8 rfl
theorem dX6_uneven_121 : decode cX6_uneven 121 = .ok (.lneg, 1) := dAt dlX6_uneven_1 9 rfl
theorem dX6_uneven_122 : decode cX6_uneven 122 = .ok (.goto 5, 3) := dAt dlX6_uneven_1 10 rfl
theorem dX6_uneven_125 : decode cX6_uneven 125 = .ok (.lload 10, 2) := dAt dlX6_uneven_1 11 rfl
theorem dX6_uneven_127 : decode cX6_uneven 127 = .ok (.ladd, 1) := dAt dlX6_uneven_1 12 rfl
theorem dX6_uneven_128 : decode cX6_uneven 128 = .ok (.lstore 7, 2) := dAt dlX6_uneven_1 13 rfl
theorem dX6_uneven_130 : decode cX6_uneven 130 = .ok (.iinc 9 1, 3) := dAt dlX6_uneven_1 14 rfl
theorem dX6_uneven_133 : decode cX6_uneven 133 = .ok (.goto (-54), 3) := dAt dlX6_uneven_1 15 rfl
theorem dX6_uneven_136 : decode cX6_uneven 136 = .ok (.lload 7, 2) := dAt dlX6_uneven_1 16 rfl
theorem dX6_uneven_138 : decode cX6_uneven 138 = .ok (.lreturn, 1) := dAt dlX6_uneven_1 17 rfl
def ilX6_see_0 : List (Nat × Instr × Nat) := [(0, .aload_n 0, 1), (1, .getfield 56, 3), (4, .iload_n 1, 1), (5, .iaload, 1), (6, .bipush (-2), 2), (8, .if_icmp .ne 30, 3), (11, .aload_n 0, 1), (12, .getfield 56, 3), (15, .iload_n 1, 1), (16, .iload_n 2, 1), (17, .iastore, 1), (18, .aload_n 0, 1), (19, .getfield 59, 3), (22, .aload_n 0, 1), (23, .getfield 152, 3), (26, .iload_n 1, 1), (27, .iastore, 1), (28, .aload_n 0, 1), (29, .dup, 1), (30, .getfield 152, 3), (33, .iconst 1, 1), (34, .iadd, 1), (35, .putfield 152, 3), (38, .return_, 1)]
theorem dlX6_see_0 : dOK cX6_see ilX6_see_0 = true := by decide +kernel
theorem dX6_see_0 : decode cX6_see 0 = .ok (.aload_n 0, 1) := dAt dlX6_see_0 0 rfl
theorem dX6_see_1 : decode cX6_see 1 = .ok (.getfield 56, 3) := dAt dlX6_see_0 1 rfl
theorem dX6_see_4 : decode cX6_see 4 = .ok (.iload_n 1, 1) := dAt dlX6_see_0 2 rfl
theorem dX6_see_5 : decode cX6_see 5 = .ok (.iaload, 1) := dAt dlX6_see_0 3 rfl
theorem dX6_see_6 : decode cX6_see 6 = .ok (.bipush (-2), 2) := dAt dlX6_see_0 4 rfl
theorem dX6_see_8 : decode cX6_see 8 = .ok (.if_icmp .ne 30, 3) := dAt dlX6_see_0 5 rfl
theorem dX6_see_11 : decode cX6_see 11 = .ok (.aload_n 0, 1) := dAt dlX6_see_0 6 rfl
theorem dX6_see_12 : decode cX6_see 12 = .ok (.getfield 56, 3) := dAt dlX6_see_0 7 rfl
theorem dX6_see_15 : decode cX6_see 15 = .ok (.iload_n 1, 1) := dAt dlX6_see_0 8 rfl
theorem dX6_see_16 : decode cX6_see 16 = .ok (.iload_n 2, 1) := dAt dlX6_see_0 9 rfl
theorem dX6_see_17 : decode cX6_see 17 = .ok (.iastore, 1) := dAt dlX6_see_0 10 rfl
theorem dX6_see_18 : decode cX6_see 18 = .ok (.aload_n 0, 1) := dAt dlX6_see_0 11 rfl
theorem dX6_see_19 : decode cX6_see 19 = .ok (.getfield 59, 3) := dAt dlX6_see_0 12 rfl
theorem dX6_see_22 : decode cX6_see 22 = .ok (.aload_n 0, 1) := dAt dlX6_see_0 13 rfl
theorem dX6_see_23 : decode cX6_see 23 = .ok (.getfield 152, 3) := dAt dlX6_see_0 14 rfl
theorem dX6_see_26 : decode cX6_see 26 = .ok (.iload_n 1, 1) := dAt dlX6_see_0 15 rfl
theorem dX6_see_27 : decode cX6_see 27 = .ok (.iastore, 1) := dAt dlX6_see_0 16 rfl
theorem dX6_see_28 : decode cX6_see 28 = .ok (.aload_n 0, 1) := dAt dlX6_see_0 17 rfl
theorem dX6_see_29 : decode cX6_see 29 = .ok (.dup, 1) := dAt dlX6_see_0 18 rfl
theorem dX6_see_30 : decode cX6_see 30 = .ok (.getfield 152, 3) := dAt dlX6_see_0 19 rfl
theorem dX6_see_33 : decode cX6_see 33 = .ok (.iconst 1, 1) := dAt dlX6_see_0 20 rfl
theorem dX6_see_34 : decode cX6_see 34 = .ok (.iadd, 1) := dAt dlX6_see_0 21 rfl
theorem dX6_see_35 : decode cX6_see 35 = .ok (.putfield 152, 3) := dAt dlX6_see_0 22 rfl
theorem dX6_see_38 : decode cX6_see 38 = .ok (.return_, 1) := dAt dlX6_see_0 23 rfl
def ilX6_isUsed_0 : List (Nat × Instr × Nat) := [(0, .aload_n 0, 1), (1, .getfield 155, 3), (4, .iload_n 1, 1), (5, .ishr, 1), (6, .iconst 1, 1), (7, .iand, 1), (8, .iconst 1, 1), (9, .if_icmp .eq 12, 3), (12, .aload_n 0, 1), (13, .getfield 53, 3), (16, .iload_n 1, 1), (17, .iaload, 1), (18, .ifCond .lt 7, 3), (21, .iconst 1, 1), (22, .goto 4, 3), (25, .iconst 0, 1), (26, .ireturn, 1)]
theorem dlX6_isUsed_0 : dOK cX6_isUsed ilX6_isUsed_0 = true := by decide +kernel
theorem dX6_isUsed_0 : decode cX6_isUsed 0 = .ok (.aload_n 0, 1) := dAt dlX6_isUsed_0 0 rfl
theorem dX6_isUsed_1 : decode cX6_isUsed 1 = .ok (.getfield 155, 3) := dAt dlX6_isUsed_0 1 rfl
theorem dX6_isUsed_4 : decode cX6_isUsed 4 = .ok (.iload_n 1, 1) := dAt dlX6_isUsed_0 2 rfl
theorem dX6_isUsed_5 : decode cX6_isUsed 5 = .ok (.ishr, 1) := dAt dlX6_isUsed_0 3 rfl
theorem dX6_isUsed_6 : decode cX6_isUsed 6 = .ok (.iconst 1, 1) := dAt dlX6_isUsed_0 4 rfl
theorem dX6_isUsed_7 : decode cX6_isUsed 7 = .ok (.iand, 1) := dAt dlX6_isUsed_0 5 rfl
theorem dX6_isUsed_8 : decode cX6_isUsed 8 = .ok (.iconst 1, 1) := dAt dlX6_isUsed_0 6 rfl
theorem dX6_isUsed_9 : decode cX6_isUsed 9 = .ok (.if_icmp .eq 12, 3) := dAt dlX6_isUsed_0 7 rfl
theorem dX6_isUsed_12 : decode cX6_isUsed 12 = .ok (.aload_n 0, 1) := dAt dlX6_isUsed_0 8 rfl
theorem dX6_isUsed_13 : decode cX6_isUsed 13 = .ok (.getfield 53, 3) := dAt dlX6_isUsed_0 9 rfl
theorem dX6_isUsed_16 : decode cX6_isUsed 16 = .ok (.iload_n 1, 1) := dAt dlX6_isUsed_0 10 rfl
theorem dX6_isUsed_17 : decode cX6_isUsed 17 = .ok (.iaload, 1) := dAt dlX6_isUsed_0 11 rfl
theorem dX6_isUsed_18 : decode cX6_isUsed 18 = .ok (.ifCond .lt 7, 3) := dAt dlX6_isUsed_0 12 rfl
theorem dX6_isUsed_21 : decode cX6_isUsed 21 = .ok (.iconst 1, 1) := dAt dlX6_isUsed_0 13 rfl
theorem dX6_isUsed_22 : decode cX6_isUsed 22 = .ok (.goto 4, 3) := dAt dlX6_isUsed_0 14 rfl
theorem dX6_isUsed_25 : decode cX6_isUsed 25 = .ok (.iconst 0, 1) := dAt dlX6_isUsed_0 15 rfl
theorem dX6_isUsed_26 : decode cX6_isUsed 26 = .ok (.ireturn, 1) := dAt dlX6_isUsed_0 16 rfl
def ilX6_oneMore_0 : List (Nat × Instr × Nat) := [(0, .aload_n 0, 1), (1, .getfield 7, 3), (4, .iload_n 1, 1), (5, .iaload, 1), (6, .istore 4, 2), (8, .iconst 0, 1), (9, .istore 5, 2), (11, .iload 5, 2), (13, .bipush 20, 2), (15, .if_icmp .ge 18, 3), (18, .aload_n 0, 1), (19, .getfield 56, 3), (22, .iload 5, 2), (24, .bipush (-2), 2), (26, .iastore, 1), (27, .iinc 5 1, 3), (30, .goto (-19), 3), (33, .aload_n 0, 1), (34, .iconst 0, 1), (35, .putfield 152, 3), (38, .iconst 0, 1), (39, .istore 5, 2), (41, .iload 5, 2), (43, .iload 4, 2), (45, .if_icmp .ge 40, 3), (48, .iload_n 2, 1), (49, .iload 5, 2), (51, .ishr, 1), (52, .iconst 1, 1), (53, .iand, 1), (54, .iconst 1, 1), (55, .if_icmp .ne 24, 3), (58, .aload_n 0, 1), (59, .getfield 155, 3), (62, .iload 5, 2), (64, .ishr, 1), (65, .iconst 1, 1), (66, .iand, 1), (67, .ifCond .ne 12, 3), (70, .aload_n 0, 1), (71, .iconst 2, 1), (72, .iload 5, 2), (74, .imul, 1), (75, .iconst (-1), 1), (76, .invokevirtual 158, 3), (79, .iinc 5 1, 3), (82, .goto (-41), 3), (85, .iconst 0, 1), (86, .istore 5, 2), (88, .iload 5, 2), (90, .aload_n 0, 1), (91, .getfield 152, 3), (94, .if_icmp .ge 201, 3), (97, .aload_n 0, 1), (98, .getfield 59, 3), (101, .iload 5, 2), (103, .iaload, 1), (104, .iconst 2, 1), (105, .idiv, 1), (106, .istore 6, 2)]
theorem dlX6_oneMore_0 : dOK cX6_oneMore ilX6_oneMore_0 = true := by decide +kernel
theorem dX6_oneMore_0 : decode cX6_oneMore 0 = .ok (.aload_n 0, 1) := dAt dlX6_oneMore_0 0 rfl
theorem dX6_oneMore_1 : decode cX6_oneMore 1 = .ok (.getfield 7, 3) := dAt dlX6_oneMore_0 1 rfl
theorem dX6_oneMore_4 : decode cX6_oneMore 4 = .ok (.iload_n 1, 1) := dAt dlX6_oneMore_0 2 rfl
theorem dX6_oneMore_5 : decode cX6_oneMore 5 = .ok (.iaload, 1) := dAt dlX6_oneMore_0 3 rfl
theorem dX6_oneMore_6 : decode cX6_oneMore 6 = .ok (.istore 4, 2) := dAt dlX6_oneMore_0 4 rfl
theorem dX6_oneMore_8 : decode cX6_oneMore 8 = .ok (.iconst 0, 1) := dAt dlX6_oneMore_0 5 rfl
theorem dX6_oneMore_9 : decode cX6_oneMore 9 = .ok (.istore 5, 2) := dAt dlX6_oneMore_0 6 rfl
theorem dX6_oneMore_11 : decode cX6_oneMore 11 = .ok (.iload 5, 2) := dAt dlX6_oneMore_0 7 rfl
theorem dX6_oneMore_13 : decode cX6_oneMore 13 = .ok (.bipush 20, 2) := dAt dlX6_oneMore_0 8 rfl
theorem dX6_oneMore_15 : decode cX6_oneMore 15 = .ok (.if_icmp .ge 18, 3) := dAt dlX6_oneMore_0 9 rfl
theorem dX6_oneMore_18 : decode cX6_oneMore 18 = .ok (.aload_n 0, 1) := dAt dlX6_oneMore_0 10 rfl
theorem dX6_oneMore_19 : decode cX6_oneMore 19 = .ok (.getfield 56, 3) := dAt dlX6_oneMore_0 11 rfl
theorem dX6_oneMore_22 : decode cX6_oneMore 22 = .ok (.iload 5, 2) := dAt dlX6_oneMore_0 12 rfl
theorem dX6_oneMore_24 : decode cX6_oneMore 24 = .ok (.bipush (-2), 2) := dAt dlX6_oneMore_0 13 rfl
theorem dX6_oneMore_26 : decode cX6_oneMore 26 = .ok (.iastore, 1) := dAt dlX6_oneMore_0 14 rfl
theorem dX6_oneMore_27 : decode cX6_oneMore 27 = .ok (.iinc 5 1, 3) := dAt dlX6_oneMore_0 15 rfl
theorem dX6_oneMore_30 : decode cX6_oneMore 30 = .ok (.goto (-19), 3) := dAt dlX6_oneMore_0 16 rfl
theorem dX6_oneMore_33 : decode cX6_oneMore 33 = .ok (.aload_n 0, 1) := dAt dlX6_oneMore_0 17 rfl
theorem dX6_oneMore_34 : decode cX6_oneMore 34 = .ok (.iconst 0, 1) := dAt dlX6_oneMore_0 18 rfl
theorem dX6_oneMore_35 : decode cX6_oneMore 35 = .ok (.putfield 152, 3) := dAt dlX6_oneMore_0 19 rfl
theorem dX6_oneMore_38 : decode cX6_oneMore 38 = .ok (.iconst 0, 1) := dAt dlX6_oneMore_0 20 rfl
theorem dX6_oneMore_39 : decode cX6_oneMore 39 = .ok (.istore 5, 2) := dAt dlX6_oneMore_0 21 rfl
theorem dX6_oneMore_41 : decode cX6_oneMore 41 = .ok (.iload 5, 2) := dAt dlX6_oneMore_0 22 rfl
theorem dX6_oneMore_43 : decode cX6_oneMore 43 = .ok (.iload 4, 2) := dAt dlX6_oneMore_0 23 rfl
theorem dX6_oneMore_45 : decode cX6_oneMore 45 = .ok (.if_icmp .ge 40, 3) := dAt dlX6_oneMore_0 24 rfl
theorem dX6_oneMore_48 : decode cX6_oneMore 48 = .ok (.iload_n 2, 1) := dAt dlX6_oneMore_0 25 rfl
theorem dX6_oneMore_49 : decode cX6_oneMore 49 = .ok (.iload 5, 2) := dAt dlX6_oneMore_0 26 rfl
theorem dX6_oneMore_51 : decode cX6_oneMore 51 = .ok (.ishr, 1) := dAt dlX6_oneMore_0 27 rfl
theorem dX6_oneMore_52 : decode cX6_oneMore 52 = .ok (.iconst 1, 1) := dAt dlX6_oneMore_0 28 rfl
theorem dX6_oneMore_53 : decode cX6_oneMore 53 = .ok (.iand, 1) := dAt dlX6_oneMore_0 29 rfl
theorem dX6_oneMore_54 : decode cX6_oneMore 54 = .ok (.iconst 1, 1) := dAt dlX6_oneMore_0 30 rfl
theorem dX6_oneMore_55 : decode cX6_oneMore 55 = .ok (.if_icmp .ne 24, 3) := dAt dlX6_oneMore_0 31 rfl
theorem dX6_oneMore_58 : decode cX6_oneMore 58 = .ok (.aload_n 0, 1) := dAt dlX6_oneMore_0 32 rfl
theorem dX6_oneMore_59 : decode cX6_oneMore 59 = .ok (.getfield 155, 3) := dAt dlX6_oneMore_0 33 rfl
theorem dX6_oneMore_62 : decode cX6_oneMore 62 = .ok (.iload 5, 2) := dAt dlX6_oneMore_0 34 rfl
theorem dX6_oneMore_64 : decode cX6_oneMore 64 = .ok (.ishr, 1) := dAt dlX6_oneMore_0 35 rfl
theorem dX6_oneMore_65 : decode cX6_oneMore 65 = .ok (.iconst 1, 1) := dAt dlX6_oneMore_0 36 rfl
theorem dX6_oneMore_66 : decode cX6_oneMore 66 = .ok (.iand, 1) := dAt dlX6_oneMore_0 37 rfl
theorem dX6_oneMore_67 : decode cX6_oneMore 67 = .ok (.ifCond .ne 12, 3) := dAt dlX6_oneMore_0 38 rfl
theorem dX6_oneMore_70 : decode cX6_oneMore 70 = .ok (.aload_n 0, 1) := dAt dlX6_oneMore_0 39 rfl
theorem dX6_oneMore_71 : decode cX6_oneMore 71 = .ok (.iconst 2, 1) := dAt dlX6_oneMore_0 40 rfl
theorem dX6_oneMore_72 : decode cX6_oneMore 72 = .ok (.iload 5, 2) := dAt dlX6_oneMore_0 41 rfl
theorem dX6_oneMore_74 : decode cX6_oneMore 74 = .ok (.imul, 1) := dAt dlX6_oneMore_0 42 rfl
theorem dX6_oneMore_75 : decode cX6_oneMore 75 = .ok (.iconst (-1), 1) := dAt dlX6_oneMore_0 43 rfl
theorem dX6_oneMore_76 : decode cX6_oneMore 76 = .ok (.invokevirtual 158, 3) := dAt dlX6_oneMore_0 44 rfl
theorem dX6_oneMore_79 : decode cX6_oneMore 79 = .ok (.iinc 5 1, 3) := dAt dlX6_oneMore_0 45 rfl
theorem dX6_oneMore_82 : decode cX6_oneMore 82 = .ok (.goto (-41), 3) := dAt dlX6_oneMore_0 46 rfl
theorem dX6_oneMore_85 : decode cX6_oneMore 85 = .ok (.iconst 0, 1) := dAt dlX6_oneMore_0 47 rfl
theorem dX6_oneMore_86 : decode cX6_oneMore 86 = .ok (.istore 5, 2) := dAt dlX6_oneMore_0 48 rfl
theorem dX6_oneMore_88 : decode cX6_oneMore 88 = .ok (.iload 5, 2) := dAt dlX6_oneMore_0 49 rfl
theorem dX6_oneMore_90 : decode cX6_oneMore 90 = .ok (.aload_n 0, 1) := dAt dlX6_oneMore_0 50 rfl
theorem dX6_oneMore_91 : decode cX6_oneMore 91 = .ok (.getfield 152, 3) := dAt dlX6_oneMore_0 51 rfl
theorem dX6_oneMore_94 : decode cX6_oneMore 94 = .ok (.if_icmp .ge 201, 3) := dAt dlX6_oneMore_0 52 rfl
theorem dX6_oneMore_97 : decode cX6_oneMore 97 = .ok (.aload_n 0, 1) := dAt dlX6_oneMore_0 53 rfl
theorem dX6_oneMore_98 : decode cX6_oneMore 98 = .ok (.getfield 59, 3) := dAt dlX6_oneMore_0 54 rfl
theorem dX6_oneMore_101 : decode cX6_oneMore 101 = .ok (.iload 5, 2) := dAt dlX6_oneMore_0 55 rfl
theorem dX6_oneMore_103 : decode cX6_oneMore 103 = .ok (.iaload, 1) := dAt dlX6_oneMore_0 56 rfl
theorem dX6_oneMore_104 : decode cX6_oneMore 104 = .ok (.iconst 2, 1) := dAt dlX6_oneMore_0 57 rfl
theorem dX6_oneMore_105 : decode cX6_oneMore 105 = .ok (.idiv, 1) := dAt dlX6_oneMore_0 58 rfl
theorem dX6_oneMore_106 : decode cX6_oneMore 106 = .ok (.istore 6, 2) := dAt dlX6_oneMore_0 59 rfl
def ilX6_oneMore_1 : List (Nat × Instr × Nat) := [(108, .aload_n 0, 1), (109, .getfield 59, 3), (112, .iload 5, 2), (114, .iaload, 1), (115, .iconst 2, 1), (116, .irem, 1), (117, .ifCond .ne 61, 3), (120, .aload_n 0, 1), (121, .iload 6, 2), (123, .invokevirtual 161, 3), (126, .ifCond .ne 20, 3), (129, .aload_n 0, 1), (130, .iconst 2, 1), (131, .iload 6, 2), (133, .imul, 1), (134, .iconst 1, 1), (135, .iadd, 1), (136, .iconst 2, 1), (137, .iload 6, 2), (139, .imul, 1), (140, .invokevirtual 158, 3), (143, .goto 146, 3), (146, .aload_n 0, 1), (147, .getfield 53, 3), (150, .iload 6, 2), (152, .iaload, 1), (153, .ifCond .lt 136, 3), (156, .aload_n 0, 1), (157, .iconst 2, 1), (158, .aload_n 0, 1), (159, .getfield 53, 3), (162, .iload 6, 2), (164, .iaload, 1), (165, .imul, 1), (166, .iconst 1, 1), (167, .iadd, 1), (168, .iconst 2, 1), (169, .iload 6, 2), (171, .imul, 1), (172, .invokevirtual 158, 3), (175, .goto 114, 3), (178, .iload_n 3, 1), (179, .iload 6, 2), (181, .ishr, 1), (182, .iconst 1, 1), (183, .iand, 1), (184, .iconst 1, 1), (185, .if_icmp .ne 27, 3), (188, .aload_n 0, 1), (189, .getfield 164, 3), (192, .iload 6, 2), (194, .ishr, 1), (195, .iconst 1, 1), (196, .iand, 1), (197, .ifCond .ne 15, 3), (200, .aload_n 0, 1), (201, .iconst 2, 1), (202, .iload 6, 2), (204, .imul, 1), (205, .iconst 1, 1)]
theorem dlX6_oneMore_1 : dOK cX6_oneMore ilX6_oneMore_1 = true := by decide +kernel
theorem dX6_oneMore_108 : decode cX6_oneMore 108 = .ok (.aload_n 0, 1) := dAt dlX6_oneMore_1 0 rfl
theorem dX6_oneMore_109 : decode cX6_oneMore 109 = .ok (.getfield 59, 3) := dAt dlX6_oneMore_1 1 rfl
theorem dX6_oneMore_112 : decode cX6_oneMore 112 = .ok (.iload 5, 2) := dAt dlX6_oneMore_1 2 rfl
theorem dX6_oneMore_114 : decode cX6_oneMore 114 = .ok (.iaload, 1) := dAt dlX6_oneMore_1 3 rfl
theorem dX6_oneMore_115 : decode cX6_oneMore 115 = .ok (.iconst 2, 1) := dAt dlX6_oneMore_1 4 rfl
theorem dX6_oneMore_116 : decode cX6_oneMore 116 = .ok (.irem, 1) := dAt dlX6_oneMore_1 5 rfl
theorem dX6_oneMore_117 : decode cX6_oneMore 117 = .ok (.ifCond .ne 61, 3) := dAt dlX6_oneMore_1 6 rfl
theorem dX6_oneMore_120 : decode cX6_oneMore 120 = .ok (.aload_n 0, 1) := dAt dlX6_oneMore_1 7 rfl
theorem dX6_oneMore_121 : decode cX6_oneMore 121 = .ok (.iload 6, 2) := dAt dlX6_oneMore_1 8 rfl
theorem dX6_oneMore_123 : decode cX6_oneMore 123 = .ok (.invokevirtual 161, 3) := dAt dlX6_oneMore_1 9 rfl
theorem dX6_oneMore_126 : decode cX6_oneMore 126 = .ok (.ifCond .ne 20, 3) := dAt dlX6_oneMore_1 10 rfl
theorem dX6_oneMore_129 : decode cX6_oneMore 129 = .ok (.aload_n 0, 1) := dAt dlX6_oneMore_1 11 rfl
theorem dX6_oneMore_130 : decode cX6_oneMore 130 = .ok (.iconst 2, 1) := dAt dlX6_oneMore_1 12 rfl
theorem dX6_oneMore_131 : decode cX6_oneMore 131 = .ok (.iload 6, 2) := dAt dlX6_oneMore_1 13 rfl
theorem dX6_oneMore_133 : decode cX6_oneMore 133 = .ok (.imul, 1) := dAt dlX6_oneMore_1 14 rfl
theorem dX6_oneMore_134 : decode cX6_oneMore 134 = .ok (.iconst 1, 1) := dAt dlX6_oneMore_1 15 rfl
theorem dX6_oneMore_135 : decode cX6_oneMore 135 = .ok (.iadd, 1) := dAt dlX6_oneMore_1 16 rfl
theorem dX6_oneMore_136 : decode cX6_oneMore 136 = .ok (.iconst 2, 1) := dAt dlX6_oneMore_1 17 rfl
theorem dX6_oneMore_137 : decode cX6_oneMore 137 = .ok (.iload 6, 2) := dAt dlX6_oneMore_1 18 rfl
theorem dX6_oneMore_139 : decode cX6_oneMore 139 = .ok (.imul, 1) := dAt dlX6_oneMore_1 19 rfl
theorem dX6_oneMore_140 : decode cX6_oneMore 140 = .ok (.invokevirtual 158, 3) := dAt dlX6_oneMore_1 20 rfl
theorem dX6_oneMore_143 : decode cX6_oneMore 143 = .ok (.goto 146, 3) := dAt dlX6_oneMore_1 21 rfl
theorem dX6_oneMore_146 : decode cX6_oneMore 146 = .ok (.aload_n 0, 1) := dAt dlX6_oneMore_1 22 rfl
theorem dX6_oneMore_147 : decode cX6_oneMore 147 = .ok (.getfield 53, 3) := dAt dlX6_oneMore_1 23 rfl
theorem dX6_oneMore_150 : decode cX6_oneMore 150 = .ok (.iload 6, 2) := dAt dlX6_oneMore_1 24 rfl
theorem dX6_oneMore_152 : decode cX6_oneMore 152 = .ok (.iaload, 1) := dAt dlX6_oneMore_1 25 rfl
theorem dX6_oneMore_153 : decode cX6_oneMore 153 = .ok (.ifCond .lt 136, 3) := dAt dlX6_oneMore_1 26 rfl
theorem dX6_oneMore_156 : decode cX6_oneMore 156 = .ok (.aload_n 0, 1) := dAt dlX6_oneMore_1 27 rfl
theorem dX6_oneMore_157 : decode cX6_oneMore 157 = .ok (.iconst 2, 1) := dAt dlX6_oneMore_1 28 rfl
theorem dX6_oneMore_158 : decode cX6_oneMore 158 = .ok (.aload_n 0, 1) := dAt dlX6_oneMore_1 29 rfl
theorem dX6_oneMore_159 : decode cX6_oneMore 159 = .ok (.getfield 53, 3) := dAt dlX6_oneMore_1 30 rfl
theorem dX6_oneMore_162 : decode cX6_oneMore 162 = .ok (.iload 6, 2) := dAt dlX6_oneMore_1 31 rfl
theorem dX6_oneMore_164 : decode cX6_oneMore 164 = .ok (.iaload, 1) := dAt dlX6_oneMore_1 32 rfl
theorem dX6_oneMore_165 : decode cX6_oneMore 165 = .ok (.imul, 1) := dAt dlX6_oneMore_1 33 rfl
theorem dX6_oneMore_166 : decode cX6_oneMore 166 = .ok (.iconst 1, 1) := dAt dlX6_oneMore_1 34 rfl
theorem dX6_oneMore_167 : decode cX6_oneMore 167 = .ok (.iadd, 1) := dAt dlX6_oneMore_1 35 rfl
theorem dX6_oneMore_168 : decode cX6_oneMore 168 = .ok (.iconst 2, 1) := dAt dlX6_oneMore_1 36 rfl
theorem dX6_oneMore_169 : decode cX6_oneMore 169 = .ok (.iload 6, 2) := dAt dlX6_oneMore_1 37 rfl
theorem dX6_oneMore_171 : decode cX6_oneMore 171 = .ok (.imul, 1) := dAt dlX6_oneMore_1 38 rfl
theorem dX6_oneMore_172 : decode cX6_oneMore 172 = .ok (.invokevirtual 158, 3) := dAt dlX6_oneMore_1 39 rfl
theorem dX6_oneMore_175 : decode cX6_oneMore 175 = .ok (.goto 114, 3) := dAt dlX6_oneMore_1 40 rfl
theorem dX6_oneMore_178 : decode cX6_oneMore 178 = .ok (.iload_n 3, 1) := dAt dlX6_oneMore_1 41 rfl
theorem dX6_oneMore_179 : decode cX6_oneMore 179 = .ok (.iload 6, 2) := dAt dlX6_oneMore_1 42 rfl
theorem dX6_oneMore_181 : decode cX6_oneMore 181 = .ok (.ishr, 1) := dAt dlX6_oneMore_1 43 rfl
theorem dX6_oneMore_182 : decode cX6_oneMore 182 = .ok (.iconst 1, 1) := dAt dlX6_oneMore_1 44 rfl
theorem dX6_oneMore_183 : decode cX6_oneMore 183 = .ok (.iand, 1) := dAt dlX6_oneMore_1 45 rfl
theorem dX6_oneMore_184 : decode cX6_oneMore 184 = .ok (.iconst 1, 1) := dAt dlX6_oneMore_1 46 rfl
theorem dX6_oneMore_185 : decode cX6_oneMore 185 = .ok (.if_icmp .ne 27, 3) := dAt dlX6_oneMore_1 47 rfl
theorem dX6_oneMore_188 : decode cX6_oneMore 188 = .ok (.aload_n 0, 1) := dAt dlX6_oneMore_1 48 rfl
theorem dX6_oneMore_189 : decode cX6_oneMore 189 = .ok (.getfield 164, 3) := dAt dlX6_oneMore_1 49 rfl
theorem dX6_oneMore_192 : decode cX6_oneMore 192 = .ok (.iload 6, 2) := dAt dlX6_oneMore_1 50 rfl
theorem dX6_oneMore_194 : decode cX6_oneMore 194 = .ok (.ishr, 1) := dAt dlX6_oneMore_1 51 rfl
theorem dX6_oneMore_195 : decode cX6_oneMore 195 = .ok (.iconst 1, 1) := dAt dlX6_oneMore_1 52 rfl
theorem dX6_oneMore_196 : decode cX6_oneMore 196 = .ok (.iand, 1) := dAt dlX6_oneMore_1 53 rfl
theorem dX6_oneMore_197 : decode cX6_oneMore 197 = .ok (.ifCond .ne 15, 3) := dAt dlX6_oneMore_1 54 rfl
theorem dX6_oneMore_200 : decode cX6_oneMore 200 = .ok (.aload_n 0, 1) := dAt dlX6_oneMore_1 55 rfl
theorem dX6_oneMore_201 : decode cX6_oneMore 201 = .ok (.iconst 2, 1) := dAt dlX6_oneMore_1 56 rfl
theorem dX6_oneMore_202 : decode cX6_oneMore 202 = .ok (.iload 6, 2) := dAt dlX6_oneMore_1 57 rfl
theorem dX6_oneMore_204 : decode cX6_oneMore 204 = .ok (.imul, 1) := dAt dlX6_oneMore_1 58 rfl
theorem dX6_oneMore_205 : decode cX6_oneMore 205 = .ok (.iconst 1, 1) := dAt dlX6_oneMore_1 59 rfl
def ilX6_oneMore_2 : List (Nat × Instr × Nat) := [(206, .iadd, 1), (207, .invokevirtual 167, 3), (210, .iconst 1, 1), (211, .ireturn, 1), (212, .aload_n 0, 1), (213, .iload 6, 2), (215, .invokevirtual 161, 3), (218, .ifCond .eq 17, 3), (221, .aload_n 0, 1), (222, .iconst 2, 1), (223, .iload 6, 2), (225, .imul, 1), (226, .iconst 2, 1), (227, .iload 6, 2), (229, .imul, 1), (230, .iconst 1, 1), (231, .iadd, 1), (232, .invokevirtual 158, 3), (235, .iconst 0, 1), (236, .istore 7, 2), (238, .iload 7, 2), (240, .iload 4, 2), (242, .if_icmp .ge 47, 3), (245, .aload_n 0, 1), (246, .iload_n 1, 1), (247, .iload 6, 2), (249, .iload 7, 2), (251, .invokevirtual 85, 3), (254, .ifCond .eq 29, 3), (257, .aload_n 0, 1), (258, .getfield 50, 3), (261, .iload 6, 2), (263, .iaload, 1), (264, .iload 7, 2), (266, .if_icmp .eq 17, 3), (269, .aload_n 0, 1), (270, .iconst 2, 1), (271, .iload 7, 2), (273, .imul, 1), (274, .iconst 2, 1), (275, .iload 6, 2), (277, .imul, 1), (278, .iconst 1, 1), (279, .iadd, 1), (280, .invokevirtual 158, 3), (283, .iinc 7 1, 3), (286, .goto (-48), 3), (289, .iinc 5 1, 3), (292, .goto (-204), 3), (295, .iconst 0, 1), (296, .ireturn, 1)]
theorem dlX6_oneMore_2 : dOK cX6_oneMore ilX6_oneMore_2 = true := by decide +kernel
theorem dX6_oneMore_206 : decode cX6_oneMore 206 = .ok (.iadd, 1) := dAt dlX6_oneMore_2 0 rfl
theorem dX6_oneMore_207 : decode cX6_oneMore 207 = .ok (.invokevirtual 167, 3) := dAt dlX6_oneMore_2 1 rfl
theorem dX6_oneMore_210 : decode cX6_oneMore 210 = .ok (.iconst 1, 1) := dAt dlX6_oneMore_2 2 rfl
theorem dX6_oneMore_211 : decode cX6_oneMore 211 = .ok (.ireturn, 1) := dAt dlX6_oneMore_2 3 rfl
theorem dX6_oneMore_212 : decode cX6_oneMore 212 = .ok (.aload_n 0, 1) := dAt dlX6_oneMore_2 4 rfl
theorem dX6_oneMore_213 : decode cX6_oneMore 213 = .ok (.iload 6, 2) := dAt dlX6_oneMore_2 5 rfl
theorem dX6_oneMore_215 : decode cX6_oneMore 215 = .ok (.invokevirtual 161, 3) := dAt dlX6_oneMore_2 6 rfl
theorem dX6_oneMore_218 : decode cX6_oneMore 218 = .ok (.ifCond .eq 17, 3) := dAt dlX6_oneMore_2 7 rfl
theorem dX6_oneMore_221 : decode cX6_oneMore 221 = .ok (.aload_n 0, 1) := dAt dlX6_oneMore_2 8 rfl
theorem dX6_oneMore_222 : decode cX6_oneMore 222 = .ok (.iconst 2, 1) := dAt dlX6_oneMore_2 9 rfl
theorem dX6_oneMore_223 : decode cX6_oneMore 223 = .ok (.iload 6, 2) := dAt dlX6_oneMore_2 10 rfl
theorem dX6_oneMore_225 : decode cX6_oneMore 225 = .ok (.imul, 1) := dAt dlX6_oneMore_2 11 rfl
theorem dX6_oneMore_226 : decode cX6_oneMore 226 = .ok (.iconst 2, 1) := dAt dlX6_oneMore_2 12 rfl
theorem dX6_oneMore_227 : decode cX6_oneMore 227 = .ok (.iload 6, 2) := dAt dlX6_oneMore_2 13 rfl
theorem dX6_oneMore_229 : decode cX6_oneMore 229 = .ok (.imul, 1) := dAt dlX6_oneMore_2 14 rfl
theorem dX6_oneMore_230 : decode cX6_oneMore 230 = .ok (.iconst 1, 1) := dAt dlX6_oneMore_2 15 rfl
theorem dX6_oneMore_231 : decode cX6_oneMore 231 = .ok (.iadd, 1) := dAt dlX6_oneMore_2 16 rfl
theorem dX6_oneMore_232 : decode cX6_oneMore 232 = .ok (.invokevirtual 158, 3) := dAt dlX6_oneMore_2 17 rfl
theorem dX6_oneMore_235 : decode cX6_oneMore 235 = .ok (.iconst 0, 1) := dAt dlX6_oneMore_2 18 rfl
theorem dX6_oneMore_236 : decode cX6_oneMore 236 = .ok (.istore 7, 2) := dAt dlX6_oneMore_2 19 rfl
theorem dX6_oneMore_238 : decode cX6_oneMore 238 = .ok (.iload 7, 2) := dAt dlX6_oneMore_2 20 rfl
theorem dX6_oneMore_240 : decode cX6_oneMore 240 = .ok (.iload 4, 2) := dAt dlX6_oneMore_2 21 rfl
theorem dX6_oneMore_242 : decode cX6_oneMore 242 = .ok (.if_icmp .ge 47, 3) := dAt dlX6_oneMore_2 22 rfl
theorem dX6_oneMore_245 : decode cX6_oneMore 245 = .ok (.aload_n 0, 1) := dAt dlX6_oneMore_2 23 rfl
theorem dX6_oneMore_246 : decode cX6_oneMore 246 = .ok (.iload_n 1, 1) := dAt dlX6_oneMore_2 24 rfl
theorem dX6_oneMore_247 : decode cX6_oneMore 247 = .ok (.iload 6, 2) := dAt dlX6_oneMore_2 25 rfl
theorem dX6_oneMore_249 : decode cX6_oneMore 249 = .ok (.iload 7, 2) := dAt dlX6_oneMore_2 26 rfl
theorem dX6_oneMore_251 : decode cX6_oneMore 251 = .ok (.invokevirtual 85, 3) := dAt dlX6_oneMore_2 27 rfl
theorem dX6_oneMore_254 : decode cX6_oneMore 254 = .ok (.ifCond .eq 29, 3) := dAt dlX6_oneMore_2 28 rfl
theorem dX6_oneMore_257 : decode cX6_oneMore 257 = .ok (.aload_n 0, 1) := dAt dlX6_oneMore_2 29 rfl
theorem dX6_oneMore_258 : decode cX6_oneMore 258 = .ok (.getfield 50, 3) := dAt dlX6_oneMore_2 30 rfl
theorem dX6_oneMore_261 : decode cX6_oneMore 261 = .ok (.iload 6, 2) := dAt dlX6_oneMore_2 31 rfl
theorem dX6_oneMore_263 : decode cX6_oneMore 263 = .ok (.iaload, 1) := dAt dlX6_oneMore_2 32 rfl
theorem dX6_oneMore_264 : decode cX6_oneMore 264 = .ok (.iload 7, 2) := dAt dlX6_oneMore_2 33 rfl
theorem dX6_oneMore_266 : decode cX6_oneMore 266 = .ok (.if_icmp .eq 17, 3) := dAt dlX6_oneMore_2 34 rfl
theorem dX6_oneMore_269 : decode cX6_oneMore 269 = .ok (.aload_n 0, 1) := dAt dlX6_oneMore_2 35 rfl
theorem dX6_oneMore_270 : decode cX6_oneMore 270 = .ok (.iconst 2, 1) := dAt dlX6_oneMore_2 36 rfl
theorem dX6_oneMore_271 : decode cX6_oneMore 271 = .ok (.iload 7, 2) := dAt dlX6_oneMore_2 37 rfl
theorem dX6_oneMore_273 : decode cX6_oneMore 273 = .ok (.imul, 1) := dAt dlX6_oneMore_2 38 rfl
theorem dX6_oneMore_274 : decode cX6_oneMore 274 = .ok (.iconst 2, 1) := dAt dlX6_oneMore_2 39 rfl
theorem dX6_oneMore_275 : decode cX6_oneMore 275 = .ok (.iload 6, 2) := dAt dlX6_oneMore_2 40 rfl
theorem dX6_oneMore_277 : decode cX6_oneMore 277 = .ok (.imul, 1) := dAt dlX6_oneMore_2 41 rfl
theorem dX6_oneMore_278 : decode cX6_oneMore 278 = .ok (.iconst 1, 1) := dAt dlX6_oneMore_2 42 rfl
theorem dX6_oneMore_279 : decode cX6_oneMore 279 = .ok (.iadd, 1) := dAt dlX6_oneMore_2 43 rfl
theorem dX6_oneMore_280 : decode cX6_oneMore 280 = .ok (.invokevirtual 158, 3) := dAt dlX6_oneMore_2 44 rfl
theorem dX6_oneMore_283 : decode cX6_oneMore 283 = .ok (.iinc 7 1, 3) := dAt dlX6_oneMore_2 45 rfl
theorem dX6_oneMore_286 : decode cX6_oneMore 286 = .ok (.goto (-48), 3) := dAt dlX6_oneMore_2 46 rfl
theorem dX6_oneMore_289 : decode cX6_oneMore 289 = .ok (.iinc 5 1, 3) := dAt dlX6_oneMore_2 47 rfl
theorem dX6_oneMore_292 : decode cX6_oneMore 292 = .ok (.goto (-204), 3) := dAt dlX6_oneMore_2 48 rfl
theorem dX6_oneMore_295 : decode cX6_oneMore 295 = .ok (.iconst 0, 1) := dAt dlX6_oneMore_2 49 rfl
theorem dX6_oneMore_296 : decode cX6_oneMore 296 = .ok (.ireturn, 1) := dAt dlX6_oneMore_2 50 rfl
def ilX6_lay_0 : List (Nat × Instr × Nat) := [(0, .iconst 0, 1), (1, .istore_n 2, 1), (2, .iload_n 1, 1), (3, .istore_n 3, 1), (4, .iload_n 3, 1), (5, .ifCond .lt 23, 3), (8, .aload_n 0, 1), (9, .getfield 62, 3), (12, .iload_n 2, 1), (13, .iload_n 3, 1), (14, .iastore, 1), (15, .iinc 2 1, 3), (18, .aload_n 0, 1), (19, .getfield 56, 3), (22, .iload_n 3, 1), (23, .iaload, 1), (24, .istore_n 3, 1), (25, .goto (-21), 3), (28, .aload_n 0, 1), (29, .dup, 1), (30, .getfield 164, 3), (33, .iconst 1, 1), (34, .iload_n 1, 1), (35, .iconst 2, 1), (36, .idiv, 1), (37, .ishl, 1), (38, .ior, 1), (39, .putfield 164, 3), (42, .aload_n 0, 1), (43, .dup, 1), (44, .getfield 155, 3), (47, .iconst 1, 1), (48, .aload_n 0, 1), (49, .getfield 62, 3), (52, .iload_n 2, 1), (53, .iconst 1, 1), (54, .isub, 1), (55, .iaload, 1), (56, .iconst 2, 1), (57, .idiv, 1), (58, .ishl, 1), (59, .ior, 1), (60, .putfield 155, 3), (63, .iload_n 2, 1), (64, .iconst 1, 1), (65, .isub, 1), (66, .istore_n 3, 1), (67, .iload_n 3, 1), (68, .ifCond .le 65, 3), (71, .aload_n 0, 1), (72, .getfield 62, 3), (75, .iload_n 3, 1), (76, .iaload, 1), (77, .istore 4, 2), (79, .aload_n 0, 1), (80, .getfield 62, 3), (83, .iload_n 3, 1), (84, .iconst 1, 1), (85, .isub, 1), (86, .iaload, 1)]
theorem dlX6_lay_0 : dOK cX6_lay ilX6_lay_0 = true := by decide +kernel
theorem dX6_lay_0 : decode cX6_lay 0 = .ok (.iconst 0, 1) := dAt dlX6_lay_0 0 rfl
theorem dX6_lay_1 : decode cX6_lay 1 = .ok (.istore_n 2, 1) := dAt dlX6_lay_0 1 rfl
theorem dX6_lay_2 : decode cX6_lay 2 = .ok (.iload_n 1, 1) := dAt dlX6_lay_0 2 rfl
theorem dX6_lay_3 : decode cX6_lay 3 = .ok (.istore_n 3, 1) := dAt dlX6_lay_0 3 rfl
theorem dX6_lay_4 : decode cX6_lay 4 = .ok (.iload_n 3, 1) := dAt dlX6_lay_0 4 rfl
theorem dX6_lay_5 : decode cX6_lay 5 = .ok (.ifCond .lt 23, 3) := dAt dlX6_lay_0 5 rfl
theorem dX6_lay_8 : decode cX6_lay 8 = .ok (.aload_n 0, 1) := dAt dlX6_lay_0 6 rfl
theorem dX6_lay_9 : decode cX6_lay 9 = .ok (.getfield 62, 3) := dAt dlX6_lay_0 7 rfl
theorem dX6_lay_12 : decode cX6_lay 12 = .ok (.iload_n 2, 1) := dAt dlX6_lay_0 8 rfl
theorem dX6_lay_13 : decode cX6_lay 13 = .ok (.iload_n 3, 1) := dAt dlX6_lay_0 9 rfl
theorem dX6_lay_14 : decode cX6_lay 14 = .ok (.iastore, 1) := dAt dlX6_lay_0 10 rfl
theorem dX6_lay_15 : decode cX6_lay 15 = .ok (.iinc 2 1, 3) := dAt dlX6_lay_0 11 rfl
theorem dX6_lay_18 : decode cX6_lay 18 = .ok (.aload_n 0, 1) := dAt dlX6_lay_0 12 rfl
theorem dX6_lay_19 : decode cX6_lay 19 = .ok (.getfield 56, 3) := dAt dlX6_lay_0 13 rfl
theorem dX6_lay_22 : decode cX6_lay 22 = .ok (.iload_n 3, 1) := dAt dlX6_lay_0 14 rfl
theorem dX6_lay_23 : decode cX6_lay 23 = .ok (.iaload, 1) := dAt dlX6_lay_0 15 rfl
theorem dX6_lay_24 : decode cX6_lay 24 = .ok (.istore_n 3, 1) := dAt dlX6_lay_0 16 rfl
theorem dX6_lay_25 : decode cX6_lay 25 = .ok (.goto (-21), 3) := dAt dlX6_lay_0 17 rfl
theorem dX6_lay_28 : decode cX6_lay 28 = .ok (.aload_n 0, 1) := dAt dlX6_lay_0 18 rfl
theorem dX6_lay_29 : decode cX6_lay 29 = .ok (.dup, 1) := dAt dlX6_lay_0 19 rfl
theorem dX6_lay_30 : decode cX6_lay 30 = .ok (.getfield 164, 3) := dAt dlX6_lay_0 20 rfl
theorem dX6_lay_33 : decode cX6_lay 33 = .ok (.iconst 1, 1) := dAt dlX6_lay_0 21 rfl
theorem dX6_lay_34 : decode cX6_lay 34 = .ok (.iload_n 1, 1) := dAt dlX6_lay_0 22 rfl
theorem dX6_lay_35 : decode cX6_lay 35 = .ok (.iconst 2, 1) := dAt dlX6_lay_0 23 rfl
theorem dX6_lay_36 : decode cX6_lay 36 = .ok (.idiv, 1) := dAt dlX6_lay_0 24 rfl
theorem dX6_lay_37 : decode cX6_lay 37 = .ok (.ishl, 1) := dAt dlX6_lay_0 25 rfl
theorem dX6_lay_38 : decode cX6_lay 38 = .ok (.ior, 1) := dAt dlX6_lay_0 26 rfl
theorem dX6_lay_39 : decode cX6_lay 39 = .ok (.putfield 164, 3) := dAt dlX6_lay_0 27 rfl
theorem dX6_lay_42 : decode cX6_lay 42 = .ok (.aload_n 0, 1) := dAt dlX6_lay_0 28 rfl
theorem dX6_lay_43 : decode cX6_lay 43 = .ok (.dup, 1) := dAt dlX6_lay_0 29 rfl
theorem dX6_lay_44 : decode cX6_lay 44 = .ok (.getfield 155, 3) := dAt dlX6_lay_0 30 rfl
theorem dX6_lay_47 : decode cX6_lay 47 = .ok (.iconst 1, 1) := dAt dlX6_lay_0 31 rfl
theorem dX6_lay_48 : decode cX6_lay 48 = .ok (.aload_n 0, 1) := dAt dlX6_lay_0 32 rfl
theorem dX6_lay_49 : decode cX6_lay 49 = .ok (.getfield 62, 3) := dAt dlX6_lay_0 33 rfl
theorem dX6_lay_52 : decode cX6_lay 52 = .ok (.iload_n 2, 1) := dAt dlX6_lay_0 34 rfl
theorem dX6_lay_53 : decode cX6_lay 53 = .ok (.iconst 1, 1) := dAt dlX6_lay_0 35 rfl
theorem dX6_lay_54 : decode cX6_lay 54 = .ok (.isub, 1) := dAt dlX6_lay_0 36 rfl
theorem dX6_lay_55 : decode cX6_lay 55 = .ok (.iaload, 1) := dAt dlX6_lay_0 37 rfl
theorem dX6_lay_56 : decode cX6_lay 56 = .ok (.iconst 2, 1) := dAt dlX6_lay_0 38 rfl
theorem dX6_lay_57 : decode cX6_lay 57 = .ok (.idiv, 1) := dAt dlX6_lay_0 39 rfl
theorem dX6_lay_58 : decode cX6_lay 58 = .ok (.ishl, 1) := dAt dlX6_lay_0 40 rfl
theorem dX6_lay_59 : decode cX6_lay 59 = .ok (.ior, 1) := dAt dlX6_lay_0 41 rfl
theorem dX6_lay_60 : decode cX6_lay 60 = .ok (.putfield 155, 3) := dAt dlX6_lay_0 42 rfl
theorem dX6_lay_63 : decode cX6_lay 63 = .ok (.iload_n 2, 1) := dAt dlX6_lay_0 43 rfl
theorem dX6_lay_64 : decode cX6_lay 64 = .ok (.iconst 1, 1) := dAt dlX6_lay_0 44 rfl
theorem dX6_lay_65 : decode cX6_lay 65 = .ok (.isub, 1) := dAt dlX6_lay_0 45 rfl
theorem dX6_lay_66 : decode cX6_lay 66 = .ok (.istore_n 3, 1) := dAt dlX6_lay_0 46 rfl
theorem dX6_lay_67 : decode cX6_lay 67 = .ok (.iload_n 3, 1) := dAt dlX6_lay_0 47 rfl
theorem dX6_lay_68 : decode cX6_lay 68 = .ok (.ifCond .le 65, 3) := dAt dlX6_lay_0 48 rfl
theorem dX6_lay_71 : decode cX6_lay 71 = .ok (.aload_n 0, 1) := dAt dlX6_lay_0 49 rfl
theorem dX6_lay_72 : decode cX6_lay 72 = .ok (.getfield 62, 3) := dAt dlX6_lay_0 50 rfl
theorem dX6_lay_75 : decode cX6_lay 75 = .ok (.iload_n 3, 1) := dAt dlX6_lay_0 51 rfl
theorem dX6_lay_76 : decode cX6_lay 76 = .ok (.iaload, 1) := dAt dlX6_lay_0 52 rfl
theorem dX6_lay_77 : decode cX6_lay 77 = .ok (.istore 4, 2) := dAt dlX6_lay_0 53 rfl
theorem dX6_lay_79 : decode cX6_lay 79 = .ok (.aload_n 0, 1) := dAt dlX6_lay_0 54 rfl
theorem dX6_lay_80 : decode cX6_lay 80 = .ok (.getfield 62, 3) := dAt dlX6_lay_0 55 rfl
theorem dX6_lay_83 : decode cX6_lay 83 = .ok (.iload_n 3, 1) := dAt dlX6_lay_0 56 rfl
theorem dX6_lay_84 : decode cX6_lay 84 = .ok (.iconst 1, 1) := dAt dlX6_lay_0 57 rfl
theorem dX6_lay_85 : decode cX6_lay 85 = .ok (.isub, 1) := dAt dlX6_lay_0 58 rfl
theorem dX6_lay_86 : decode cX6_lay 86 = .ok (.iaload, 1) := dAt dlX6_lay_0 59 rfl
def ilX6_lay_1 : List (Nat × Instr × Nat) := [(87, .istore 5, 2), (89, .iload 4, 2), (91, .iconst 2, 1), (92, .idiv, 1), (93, .iload 5, 2), (95, .iconst 2, 1), (96, .idiv, 1), (97, .if_icmp .eq 30, 3), (100, .iload 4, 2), (102, .iconst 2, 1), (103, .irem, 1), (104, .ifCond .ne 23, 3), (107, .aload_n 0, 1), (108, .getfield 50, 3), (111, .iload 5, 2), (113, .iconst 2, 1), (114, .idiv, 1), (115, .iconst (-1), 1), (116, .iastore, 1), (117, .aload_n 0, 1), (118, .getfield 53, 3), (121, .iload 4, 2), (123, .iconst 2, 1), (124, .idiv, 1), (125, .iconst (-1), 1), (126, .iastore, 1), (127, .iinc 3 (-1), 3), (130, .goto (-63), 3), (133, .iload_n 2, 1), (134, .iconst 1, 1), (135, .isub, 1), (136, .istore_n 3, 1), (137, .iload_n 3, 1), (138, .ifCond .le 72, 3), (141, .aload_n 0, 1), (142, .getfield 62, 3), (145, .iload_n 3, 1), (146, .iaload, 1), (147, .istore 4, 2), (149, .aload_n 0, 1), (150, .getfield 62, 3), (153, .iload_n 3, 1), (154, .iconst 1, 1), (155, .isub, 1), (156, .iaload, 1), (157, .istore 5, 2), (159, .iload 4, 2), (161, .iconst 2, 1), (162, .idiv, 1), (163, .iload 5, 2), (165, .iconst 2, 1), (166, .idiv, 1), (167, .if_icmp .eq 37, 3), (170, .iload 4, 2), (172, .iconst 2, 1), (173, .irem, 1), (174, .iconst 1, 1), (175, .if_icmp .ne 29, 3), (178, .aload_n 0, 1), (179, .getfield 50, 3)]
theorem dlX6_lay_1 : dOK cX6_lay ilX6_lay_1 = true := by decide +kernel
theorem dX6_lay_87 : decode cX6_lay 87 = .ok (.istore 5, 2) := dAt dlX6_lay_1 0 rfl
theorem dX6_lay_89 : decode cX6_lay 89 = .ok (.iload 4, 2) := dAt dlX6_lay_1 1 rfl
theorem dX6_lay_91 : decode cX6_lay 91 = .ok (.iconst 2, 1) := dAt dlX6_lay_1 2 rfl
theorem dX6_lay_92 : decode cX6_lay 92 = .ok (.idiv, 1) := dAt dlX6_lay_1 3 rfl
theorem dX6_lay_93 : decode cX6_lay 93 = .ok (.iload 5, 2) := dAt dlX6_lay_1 4 rfl
theorem dX6_lay_95 : decode cX6_lay 95 = .ok (.iconst 2, 1) := dAt dlX6_lay_1 5 rfl
theorem dX6_lay_96 : decode cX6_lay 96 = .ok (.idiv, 1) := dAt dlX6_lay_1 6 rfl
theorem dX6_lay_97 : decode cX6_lay 97 = .ok (.if_icmp .eq 30, 3) := dAt dlX6_lay_1 7 rfl
theorem dX6_lay_100 : decode cX6_lay 100 = .ok (.iload 4, 2) := dAt dlX6_lay_1 8 rfl
theorem dX6_lay_102 : decode cX6_lay 102 = .ok (.iconst 2, 1) := dAt dlX6_lay_1 9 rfl
theorem dX6_lay_103 : decode cX6_lay 103 = .ok (.irem, 1) := dAt dlX6_lay_1 10 rfl
theorem dX6_lay_104 : decode cX6_lay 104 = .ok (.ifCond .ne 23, 3) := dAt dlX6_lay_1 11 rfl
theorem dX6_lay_107 : decode cX6_lay 107 = .ok (.aload_n 0, 1) := dAt dlX6_lay_1 12 rfl
theorem dX6_lay_108 : decode cX6_lay 108 = .ok (.getfield 50, 3) := dAt dlX6_lay_1 13 rfl
theorem dX6_lay_111 : decode cX6_lay 111 = .ok (.iload 5, 2) := dAt dlX6_lay_1 14 rfl
theorem dX6_lay_113 : decode cX6_lay 113 = .ok (.iconst 2, 1) := dAt dlX6_lay_1 15 rfl
theorem dX6_lay_114 : decode cX6_lay 114 = .ok (.idiv, 1) := dAt dlX6_lay_1 16 rfl
theorem dX6_lay_115 : decode cX6_lay 115 = .ok (.iconst (-1), 1) := dAt dlX6_lay_1 17 rfl
theorem dX6_lay_116 : decode cX6_lay 116 = .ok (.iastore, 1) := dAt dlX6_lay_1 18 rfl
theorem dX6_lay_117 : decode cX6_lay 117 = .ok (.aload_n 0, 1) := dAt dlX6_lay_1 19 rfl
theorem dX6_lay_118 : decode cX6_lay 118 = .ok (.getfield 53, 3) := dAt dlX6_lay_1 20 rfl
theorem dX6_lay_121 : decode cX6_lay 121 = .ok (.iload 4, 2) := dAt dlX6_lay_1 21 rfl
theorem dX6_lay_123 : decode cX6_lay 123 = .ok (.iconst 2, 1) := dAt dlX6_lay_1 22 rfl
theorem dX6_lay_124 : decode cX6_lay 124 = .ok (.idiv, 1) := dAt dlX6_lay_1 23 rfl
theorem dX6_lay_125 : decode cX6_lay 125 = .ok (.iconst (-1), 1) := dAt dlX6_lay_1 24 rfl
theorem dX6_lay_126 : decode cX6_lay 126 = .ok (.iastore, 1) := dAt dlX6_lay_1 25 rfl
theorem dX6_lay_127 : decode cX6_lay 127 = .ok (.iinc 3 (-1), 3) := dAt dlX6_lay_1 26 rfl
theorem dX6_lay_130 : decode cX6_lay 130 = .ok (.goto (-63), 3) := dAt dlX6_lay_1 27 rfl
theorem dX6_lay_133 : decode cX6_lay 133 = .ok (.iload_n 2, 1) := dAt dlX6_lay_1 28 rfl
theorem dX6_lay_134 : decode cX6_lay 134 = .ok (.iconst 1, 1) := dAt dlX6_lay_1 29 rfl
theorem dX6_lay_135 : decode cX6_lay 135 = .ok (.isub, 1) := dAt dlX6_lay_1 30 rfl
theorem dX6_lay_136 : decode cX6_lay 136 = .ok (.istore_n 3, 1) := dAt dlX6_lay_1 31 rfl
theorem dX6_lay_137 : decode cX6_lay 137 = .ok (.iload_n 3, 1) := dAt dlX6_lay_1 32 rfl
theorem dX6_lay_138 : decode cX6_lay 138 = .ok (.ifCond .le 72, 3) := dAt dlX6_lay_1 33 rfl
theorem dX6_lay_141 : decode cX6_lay 141 = .ok (.aload_n 0, 1) := dAt dlX6_lay_1 34 rfl
theorem dX6_lay_142 : decode cX6_lay 142 = .ok (.getfield 62, 3) := dAt dlX6_lay_1 35 rfl
theorem dX6_lay_145 : decode cX6_lay 145 = .ok (.iload_n 3, 1) := dAt dlX6_lay_1 36 rfl
theorem dX6_lay_146 : decode cX6_lay 146 = .ok (.iaload, 1) := dAt dlX6_lay_1 37 rfl
theorem dX6_lay_147 : decode cX6_lay 147 = .ok (.istore 4, 2) := dAt dlX6_lay_1 38 rfl
theorem dX6_lay_149 : decode cX6_lay 149 = .ok (.aload_n 0, 1) := dAt dlX6_lay_1 39 rfl
theorem dX6_lay_150 : decode cX6_lay 150 = .ok (.getfield 62, 3) := dAt dlX6_lay_1 40 rfl
theorem dX6_lay_153 : decode cX6_lay 153 = .ok (.iload_n 3, 1) := dAt dlX6_lay_1 41 rfl
theorem dX6_lay_154 : decode cX6_lay 154 = .ok (.iconst 1, 1) := dAt dlX6_lay_1 42 rfl
theorem dX6_lay_155 : decode cX6_lay 155 = .ok (.isub, 1) := dAt dlX6_lay_1 43 rfl
theorem dX6_lay_156 : decode cX6_lay 156 = .ok (.iaload, 1) := dAt dlX6_lay_1 44 rfl
theorem dX6_lay_157 : decode cX6_lay 157 = .ok (.istore 5, 2) := dAt dlX6_lay_1 45 rfl
theorem dX6_lay_159 : decode cX6_lay 159 = .ok (.iload 4, 2) := dAt dlX6_lay_1 46 rfl
theorem dX6_lay_161 : decode cX6_lay 161 = .ok (.iconst 2, 1) := dAt dlX6_lay_1 47 rfl
theorem dX6_lay_162 : decode cX6_lay 162 = .ok (.idiv, 1) := dAt dlX6_lay_1 48 rfl
theorem dX6_lay_163 : decode cX6_lay 163 = .ok (.iload 5, 2) := dAt dlX6_lay_1 49 rfl
theorem dX6_lay_165 : decode cX6_lay 165 = .ok (.iconst 2, 1) := dAt dlX6_lay_1 50 rfl
theorem dX6_lay_166 : decode cX6_lay 166 = .ok (.idiv, 1) := dAt dlX6_lay_1 51 rfl
theorem dX6_lay_167 : decode cX6_lay 167 = .ok (.if_icmp .eq 37, 3) := dAt dlX6_lay_1 52 rfl
theorem dX6_lay_170 : decode cX6_lay 170 = .ok (.iload 4, 2) := dAt dlX6_lay_1 53 rfl
theorem dX6_lay_172 : decode cX6_lay 172 = .ok (.iconst 2, 1) := dAt dlX6_lay_1 54 rfl
theorem dX6_lay_173 : decode cX6_lay 173 = .ok (.irem, 1) := dAt dlX6_lay_1 55 rfl
theorem dX6_lay_174 : decode cX6_lay 174 = .ok (.iconst 1, 1) := dAt dlX6_lay_1 56 rfl
theorem dX6_lay_175 : decode cX6_lay 175 = .ok (.if_icmp .ne 29, 3) := dAt dlX6_lay_1 57 rfl
theorem dX6_lay_178 : decode cX6_lay 178 = .ok (.aload_n 0, 1) := dAt dlX6_lay_1 58 rfl
theorem dX6_lay_179 : decode cX6_lay 179 = .ok (.getfield 50, 3) := dAt dlX6_lay_1 59 rfl
def ilX6_lay_2 : List (Nat × Instr × Nat) := [(182, .iload 4, 2), (184, .iconst 2, 1), (185, .idiv, 1), (186, .iload 5, 2), (188, .iconst 2, 1), (189, .idiv, 1), (190, .iastore, 1), (191, .aload_n 0, 1), (192, .getfield 53, 3), (195, .iload 5, 2), (197, .iconst 2, 1), (198, .idiv, 1), (199, .iload 4, 2), (201, .iconst 2, 1), (202, .idiv, 1), (203, .iastore, 1), (204, .iinc 3 (-1), 3), (207, .goto (-70), 3), (210, .return_, 1)]
theorem dlX6_lay_2 : dOK cX6_lay ilX6_lay_2 = true := by decide +kernel
theorem dX6_lay_182 : decode cX6_lay 182 = .ok (.iload 4, 2) := dAt dlX6_lay_2 0 rfl
theorem dX6_lay_184 : decode cX6_lay 184 = .ok (.iconst 2, 1) := dAt dlX6_lay_2 1 rfl
theorem dX6_lay_185 : decode cX6_lay 185 = .ok (.idiv, 1) := dAt dlX6_lay_2 2 rfl
theorem dX6_lay_186 : decode cX6_lay 186 = .ok (.iload 5, 2) := dAt dlX6_lay_2 3 rfl
theorem dX6_lay_188 : decode cX6_lay 188 = .ok (.iconst 2, 1) := dAt dlX6_lay_2 4 rfl
theorem dX6_lay_189 : decode cX6_lay 189 = .ok (.idiv, 1) := dAt dlX6_lay_2 5 rfl
theorem dX6_lay_190 : decode cX6_lay 190 = .ok (.iastore, 1) := dAt dlX6_lay_2 6 rfl
theorem dX6_lay_191 : decode cX6_lay 191 = .ok (.aload_n 0, 1) := dAt dlX6_lay_2 7 rfl
theorem dX6_lay_192 : decode cX6_lay 192 = .ok (.getfield 53, 3) := dAt dlX6_lay_2 8 rfl
theorem dX6_lay_195 : decode cX6_lay 195 = .ok (.iload 5, 2) := dAt dlX6_lay_2 9 rfl
theorem dX6_lay_197 : decode cX6_lay 197 = .ok (.iconst 2, 1) := dAt dlX6_lay_2 10 rfl
theorem dX6_lay_198 : decode cX6_lay 198 = .ok (.idiv, 1) := dAt dlX6_lay_2 11 rfl
theorem dX6_lay_199 : decode cX6_lay 199 = .ok (.iload 4, 2) := dAt dlX6_lay_2 12 rfl
theorem dX6_lay_201 : decode cX6_lay 201 = .ok (.iconst 2, 1) := dAt dlX6_lay_2 13 rfl
theorem dX6_lay_202 : decode cX6_lay 202 = .ok (.idiv, 1) := dAt dlX6_lay_2 14 rfl
theorem dX6_lay_203 : decode cX6_lay 203 = .ok (.iastore, 1) := dAt dlX6_lay_2 15 rfl
theorem dX6_lay_204 : decode cX6_lay 204 = .ok (.iinc 3 (-1), 3) := dAt dlX6_lay_2 16 rfl
theorem dX6_lay_207 : decode cX6_lay 207 = .ok (.goto (-70), 3) := dAt dlX6_lay_2 17 rfl
theorem dX6_lay_210 : decode cX6_lay 210 = .ok (.return_, 1) := dAt dlX6_lay_2 18 rfl
def ilX6_apart_0 : List (Nat × Instr × Nat) := [(0, .iload_n 1, 1), (1, .invokestatic 69, 3), (4, .ifCond .eq 39, 3), (7, .iload_n 2, 1), (8, .iconst 0, 1), (9, .iconst 1, 1), (10, .aload_n 0, 1), (11, .getfield 7, 3), (14, .iload_n 1, 1), (15, .iaload, 1), (16, .ishl, 1), (17, .iconst 1, 1), (18, .isub, 1), (19, .invokestatic 65, 3), (22, .ifCond .eq 21, 3), (25, .iload_n 3, 1), (26, .iconst 0, 1), (27, .iconst 1, 1), (28, .aload_n 0, 1), (29, .getfield 7, 3), (32, .iload_n 1, 1), (33, .iaload, 1), (34, .ishl, 1), (35, .iconst 1, 1), (36, .isub, 1), (37, .invokestatic 65, 3), (40, .ifCond .ne 6, 3), (43, .bipush (-2), 2), (45, .ireturn, 1), (46, .iconst 0, 1), (47, .istore 4, 2), (49, .iload 4, 2), (51, .bipush 10, 2), (53, .if_icmp .ge 25, 3), (56, .aload_n 0, 1), (57, .getfield 50, 3), (60, .iload 4, 2), (62, .iconst (-1), 1), (63, .iastore, 1), (64, .aload_n 0, 1), (65, .getfield 53, 3), (68, .iload 4, 2), (70, .iconst (-1), 1), (71, .iastore, 1), (72, .iinc 4 1, 3), (75, .goto (-26), 3), (78, .aload_n 0, 1), (79, .iconst 0, 1), (80, .putfield 155, 3), (83, .aload_n 0, 1), (84, .iconst 0, 1), (85, .putfield 164, 3), (88, .iconst 0, 1), (89, .istore 4, 2), (91, .aload_n 0, 1), (92, .iload_n 1, 1), (93, .iload_n 2, 1), (94, .iload_n 3, 1), (95, .invokevirtual 170, 3), (98, .ifCond .eq 9, 3)]
theorem dlX6_apart_0 : dOK cX6_apart ilX6_apart_0 = true := by decide +kernel
theorem dX6_apart_0 : decode cX6_apart 0 = .ok (.iload_n 1, 1) := dAt dlX6_apart_0 0 rfl
theorem dX6_apart_1 : decode cX6_apart 1 = .ok (.invokestatic 69, 3) := dAt dlX6_apart_0 1 rfl
theorem dX6_apart_4 : decode cX6_apart 4 = .ok (.ifCond .eq 39, 3) := dAt dlX6_apart_0 2 rfl
theorem dX6_apart_7 : decode cX6_apart 7 = .ok (.iload_n 2, 1) := dAt dlX6_apart_0 3 rfl
theorem dX6_apart_8 : decode cX6_apart 8 = .ok (.iconst 0, 1) := dAt dlX6_apart_0 4 rfl
theorem dX6_apart_9 : decode cX6_apart 9 = .ok (.iconst 1, 1) := dAt dlX6_apart_0 5 rfl
theorem dX6_apart_10 : decode cX6_apart 10 = .ok (.aload_n 0, 1) := dAt dlX6_apart_0 6 rfl
theorem dX6_apart_11 : decode cX6_apart 11 = .ok (.getfield 7, 3) := dAt dlX6_apart_0 7 rfl
theorem dX6_apart_14 : decode cX6_apart 14 = .ok (.iload_n 1, 1) := dAt dlX6_apart_0 8 rfl
theorem dX6_apart_15 : decode cX6_apart 15 = .ok (.iaload, 1) := dAt dlX6_apart_0 9 rfl
theorem dX6_apart_16 : decode cX6_apart 16 = .ok (.ishl, 1) := dAt dlX6_apart_0 10 rfl
theorem dX6_apart_17 : decode cX6_apart 17 = .ok (.iconst 1, 1) := dAt dlX6_apart_0 11 rfl
theorem dX6_apart_18 : decode cX6_apart 18 = .ok (.isub, 1) := dAt dlX6_apart_0 12 rfl
theorem dX6_apart_19 : decode cX6_apart 19 = .ok (.invokestatic 65, 3) := dAt dlX6_apart_0 13 rfl
theorem dX6_apart_22 : decode cX6_apart 22 = .ok (.ifCond .eq 21, 3) := dAt dlX6_apart_0 14 rfl
theorem dX6_apart_25 : decode cX6_apart 25 = .ok (.iload_n 3, 1) := dAt dlX6_apart_0 15 rfl
theorem dX6_apart_26 : decode cX6_apart 26 = .ok (.iconst 0, 1) := dAt dlX6_apart_0 16 rfl
theorem dX6_apart_27 : decode cX6_apart 27 = .ok (.iconst 1, 1) := dAt dlX6_apart_0 17 rfl
theorem dX6_apart_28 : decode cX6_apart 28 = .ok (.aload_n 0, 1) := dAt dlX6_apart_0 18 rfl
theorem dX6_apart_29 : decode cX6_apart 29 = .ok (.getfield 7, 3) := dAt dlX6_apart_0 19 rfl
theorem dX6_apart_32 : decode cX6_apart 32 = .ok (.iload_n 1, 1) := dAt dlX6_apart_0 20 rfl
theorem dX6_apart_33 : decode cX6_apart 33 = .ok (.iaload, 1) := dAt dlX6_apart_0 21 rfl
theorem dX6_apart_34 : decode cX6_apart 34 = .ok (.ishl, 1) := dAt dlX6_apart_0 22 rfl
theorem dX6_apart_35 : decode cX6_apart 35 = .ok (.iconst 1, 1) := dAt dlX6_apart_0 23 rfl
theorem dX6_apart_36 : decode cX6_apart 36 = .ok (.isub, 1) := dAt dlX6_apart_0 24 rfl
theorem dX6_apart_37 : decode cX6_apart 37 = .ok (.invokestatic 65, 3) := dAt dlX6_apart_0 25 rfl
theorem dX6_apart_40 : decode cX6_apart 40 = .ok (.ifCond .ne 6, 3) := dAt dlX6_apart_0 26 rfl
theorem dX6_apart_43 : decode cX6_apart 43 = .ok (.bipush (-2), 2) := dAt dlX6_apart_0 27 rfl
theorem dX6_apart_45 : decode cX6_apart 45 = .ok (.ireturn, 1) := dAt dlX6_apart_0 28 rfl
theorem dX6_apart_46 : decode cX6_apart 46 = .ok (.iconst 0, 1) := dAt dlX6_apart_0 29 rfl
theorem dX6_apart_47 : decode cX6_apart 47 = .ok (.istore 4, 2) := dAt dlX6_apart_0 30 rfl
theorem dX6_apart_49 : decode cX6_apart 49 = .ok (.iload 4, 2) := dAt dlX6_apart_0 31 rfl
theorem dX6_apart_51 : decode cX6_apart 51 = .ok (.bipush 10, 2) := dAt dlX6_apart_0 32 rfl
theorem dX6_apart_53 : decode cX6_apart 53 = .ok (.if_icmp .ge 25, 3) := dAt dlX6_apart_0 33 rfl
theorem dX6_apart_56 : decode cX6_apart 56 = .ok (.aload_n 0, 1) := dAt dlX6_apart_0 34 rfl
theorem dX6_apart_57 : decode cX6_apart 57 = .ok (.getfield 50, 3) := dAt dlX6_apart_0 35 rfl
theorem dX6_apart_60 : decode cX6_apart 60 = .ok (.iload 4, 2) := dAt dlX6_apart_0 36 rfl
theorem dX6_apart_62 : decode cX6_apart 62 = .ok (.iconst (-1), 1) := dAt dlX6_apart_0 37 rfl
theorem dX6_apart_63 : decode cX6_apart 63 = .ok (.iastore, 1) := dAt dlX6_apart_0 38 rfl
theorem dX6_apart_64 : decode cX6_apart 64 = .ok (.aload_n 0, 1) := dAt dlX6_apart_0 39 rfl
theorem dX6_apart_65 : decode cX6_apart 65 = .ok (.getfield 53, 3) := dAt dlX6_apart_0 40 rfl
theorem dX6_apart_68 : decode cX6_apart 68 = .ok (.iload 4, 2) := dAt dlX6_apart_0 41 rfl
theorem dX6_apart_70 : decode cX6_apart 70 = .ok (.iconst (-1), 1) := dAt dlX6_apart_0 42 rfl
theorem dX6_apart_71 : decode cX6_apart 71 = .ok (.iastore, 1) := dAt dlX6_apart_0 43 rfl
theorem dX6_apart_72 : decode cX6_apart 72 = .ok (.iinc 4 1, 3) := dAt dlX6_apart_0 44 rfl
theorem dX6_apart_75 : decode cX6_apart 75 = .ok (.goto (-26), 3) := dAt dlX6_apart_0 45 rfl
theorem dX6_apart_78 : decode cX6_apart 78 = .ok (.aload_n 0, 1) := dAt dlX6_apart_0 46 rfl
theorem dX6_apart_79 : decode cX6_apart 79 = .ok (.iconst 0, 1) := dAt dlX6_apart_0 47 rfl
theorem dX6_apart_80 : decode cX6_apart 80 = .ok (.putfield 155, 3) := dAt dlX6_apart_0 48 rfl
theorem dX6_apart_83 : decode cX6_apart 83 = .ok (.aload_n 0, 1) := dAt dlX6_apart_0 49 rfl
theorem dX6_apart_84 : decode cX6_apart 84 = .ok (.iconst 0, 1) := dAt dlX6_apart_0 50 rfl
theorem dX6_apart_85 : decode cX6_apart 85 = .ok (.putfield 164, 3) := dAt dlX6_apart_0 51 rfl
theorem dX6_apart_88 : decode cX6_apart 88 = .ok (.iconst 0, 1) := dAt dlX6_apart_0 52 rfl
theorem dX6_apart_89 : decode cX6_apart 89 = .ok (.istore 4, 2) := dAt dlX6_apart_0 53 rfl
theorem dX6_apart_91 : decode cX6_apart 91 = .ok (.aload_n 0, 1) := dAt dlX6_apart_0 54 rfl
theorem dX6_apart_92 : decode cX6_apart 92 = .ok (.iload_n 1, 1) := dAt dlX6_apart_0 55 rfl
theorem dX6_apart_93 : decode cX6_apart 93 = .ok (.iload_n 2, 1) := dAt dlX6_apart_0 56 rfl
theorem dX6_apart_94 : decode cX6_apart 94 = .ok (.iload_n 3, 1) := dAt dlX6_apart_0 57 rfl
theorem dX6_apart_95 : decode cX6_apart 95 = .ok (.invokevirtual 170, 3) := dAt dlX6_apart_0 58 rfl
theorem dX6_apart_98 : decode cX6_apart 98 = .ok (.ifCond .eq 9, 3) := dAt dlX6_apart_0 59 rfl
def ilX6_apart_1 : List (Nat × Instr × Nat) := [(101, .iinc 4 1, 3), (104, .goto (-13), 3), (107, .iload 4, 2), (109, .ireturn, 1)]
theorem dlX6_apart_1 : dOK cX6_apart ilX6_apart_1 = true := by decide +kernel
theorem dX6_apart_101 : decode cX6_apart 101 = .ok (.iinc 4 1, 3) := dAt dlX6_apart_1 0 rfl
theorem dX6_apart_104 : decode cX6_apart 104 = .ok (.goto (-13), 3) := dAt dlX6_apart_1 1 rfl
theorem dX6_apart_107 : decode cX6_apart 107 = .ok (.iload 4, 2) := dAt dlX6_apart_1 2 rfl
theorem dX6_apart_109 : decode cX6_apart 109 = .ok (.ireturn, 1) := dAt dlX6_apart_1 3 rfl
def ilX6_distanceOf_0 : List (Nat × Instr × Nat) := [(0, .iconst 1, 1), (1, .iload_n 2, 1), (2, .ishl, 1), (3, .istore 5, 2), (5, .iconst 0, 1), (6, .istore 6, 2), (8, .iload 6, 2), (10, .aload_n 0, 1), (11, .getfield 7, 3), (14, .iload_n 1, 1), (15, .iaload, 1), (16, .if_icmp .gt 123, 3), (19, .iload 5, 2), (21, .iload_n 3, 1), (22, .ishr, 1), (23, .iconst 1, 1), (24, .iand, 1), (25, .iconst 1, 1), (26, .if_icmp .ne 6, 3), (29, .iload 6, 2), (31, .ireturn, 1), (32, .iload 5, 2), (34, .istore 7, 2), (36, .iconst 0, 1), (37, .istore 8, 2), (39, .iload 8, 2), (41, .aload_n 0, 1), (42, .getfield 105, 3), (45, .if_icmp .ge 84, 3), (48, .iload 8, 2), (50, .iload 4, 2), (52, .if_icmp .eq 71, 3), (55, .iload 7, 2), (57, .iload 5, 2), (59, .aload_n 0, 1), (60, .getfield 22, 3), (63, .iload 8, 2), (65, .iaload, 1), (66, .ishr, 1), (67, .iconst 1, 1), (68, .iand, 1), (69, .iconst 1, 1), (70, .if_icmp .ne 15, 3), (73, .iconst 1, 1), (74, .aload_n 0, 1), (75, .getfield 25, 3), (78, .iload 8, 2), (80, .iaload, 1), (81, .ishl, 1), (82, .goto 4, 3), (85, .iconst 0, 1), (86, .ior, 1), (87, .istore 7, 2), (89, .iload 7, 2), (91, .iload 5, 2), (93, .aload_n 0, 1), (94, .getfield 25, 3), (97, .iload 8, 2), (99, .iaload, 1), (100, .ishr, 1)]
theorem dlX6_distanceOf_0 : dOK cX6_distanceOf ilX6_distanceOf_0 = true := by decide +kernel
theorem dX6_distanceOf_0 : decode cX6_distanceOf 0 = .ok (.iconst 1, 1) := dAt dlX6_distanceOf_0 0 rfl
theorem dX6_distanceOf_1 : decode cX6_distanceOf 1 = .ok (.iload_n 2, 1) := dAt dlX6_distanceOf_0 1 rfl
theorem dX6_distanceOf_2 : decode cX6_distanceOf 2 = .ok (.ishl, 1) := dAt dlX6_distanceOf_0 2 rfl
theorem dX6_distanceOf_3 : decode cX6_distanceOf 3 = .ok (.istore 5, 2) := dAt dlX6_distanceOf_0 3 rfl
theorem dX6_distanceOf_5 : decode cX6_distanceOf 5 = .ok (.iconst 0, 1) := dAt dlX6_distanceOf_0 4 rfl
theorem dX6_distanceOf_6 : decode cX6_distanceOf 6 = .ok (.istore 6, 2) := dAt dlX6_distanceOf_0 5 rfl
theorem dX6_distanceOf_8 : decode cX6_distanceOf 8 = .ok (.iload 6, 2) := dAt dlX6_distanceOf_0 6 rfl
theorem dX6_distanceOf_10 : decode cX6_distanceOf 10 = .ok (.aload_n 0, 1) := dAt dlX6_distanceOf_0 7 rfl
theorem dX6_distanceOf_11 : decode cX6_distanceOf 11 = .ok (.getfield 7, 3) := dAt dlX6_distanceOf_0 8 rfl
theorem dX6_distanceOf_14 : decode cX6_distanceOf 14 = .ok (.iload_n 1, 1) := dAt dlX6_distanceOf_0 9 rfl
theorem dX6_distanceOf_15 : decode cX6_distanceOf 15 = .ok (.iaload, 1) := dAt dlX6_distanceOf_0 10 rfl
theorem dX6_distanceOf_16 : decode cX6_distanceOf 16 = .ok (.if_icmp .gt 123, 3) := dAt dlX6_distanceOf_0 11 rfl
theorem dX6_distanceOf_19 : decode cX6_distanceOf 19 = .ok (.iload 5, 2) := dAt dlX6_distanceOf_0 12 rfl
theorem dX6_distanceOf_21 : decode cX6_distanceOf 21 = .ok (.iload_n 3, 1) := dAt dlX6_distanceOf_0 13 rfl
theorem dX6_distanceOf_22 : decode cX6_distanceOf 22 = .ok (.ishr, 1) := dAt dlX6_distanceOf_0 14 rfl
theorem dX6_distanceOf_23 : decode cX6_distanceOf 23 = .ok (.iconst 1, 1) := dAt dlX6_distanceOf_0 15 rfl
theorem dX6_distanceOf_24 : decode cX6_distanceOf 24 = .ok (.iand, 1) := dAt dlX6_distanceOf_0 16 rfl
theorem dX6_distanceOf_25 : decode cX6_distanceOf 25 = .ok (.iconst 1, 1) := dAt dlX6_distanceOf_0 17 rfl
theorem dX6_distanceOf_26 : decode cX6_distanceOf 26 = .ok (.if_icmp .ne 6, 3) := dAt dlX6_distanceOf_0 18 rfl
theorem dX6_distanceOf_29 : decode cX6_distanceOf 29 = .ok (.iload 6, 2) := dAt dlX6_distanceOf_0 19 rfl
theorem dX6_distanceOf_31 : decode cX6_distanceOf 31 = .ok (.ireturn, 1) := dAt dlX6_distanceOf_0 20 rfl
theorem dX6_distanceOf_32 : decode cX6_distanceOf 32 = .ok (.iload 5, 2) := dAt dlX6_distanceOf_0 21 rfl
theorem dX6_distanceOf_34 : decode cX6_distanceOf 34 = .ok (.istore 7, 2) := dAt dlX6_distanceOf_0 22 rfl
theorem dX6_distanceOf_36 : decode cX6_distanceOf 36 = .ok (.iconst 0, 1) := dAt dlX6_distanceOf_0 23 rfl
theorem dX6_distanceOf_37 : decode cX6_distanceOf 37 = .ok (.istore 8, 2) := dAt dlX6_distanceOf_0 24 rfl
theorem dX6_distanceOf_39 : decode cX6_distanceOf 39 = .ok (.iload 8, 2) := dAt dlX6_distanceOf_0 25 rfl
theorem dX6_distanceOf_41 : decode cX6_distanceOf 41 = .ok (.aload_n 0, 1) := dAt dlX6_distanceOf_0 26 rfl
theorem dX6_distanceOf_42 : decode cX6_distanceOf 42 = .ok (.getfield 105, 3) := dAt dlX6_distanceOf_0 27 rfl
theorem dX6_distanceOf_45 : decode cX6_distanceOf 45 = .ok (.if_icmp .ge 84, 3) := dAt dlX6_distanceOf_0 28 rfl
theorem dX6_distanceOf_48 : decode cX6_distanceOf 48 = .ok (.iload 8, 2) := dAt dlX6_distanceOf_0 29 rfl
theorem dX6_distanceOf_50 : decode cX6_distanceOf 50 = .ok (.iload 4, 2) := dAt dlX6_distanceOf_0 30 rfl
theorem dX6_distanceOf_52 : decode cX6_distanceOf 52 = .ok (.if_icmp .eq 71, 3) := dAt dlX6_distanceOf_0 31 rfl
theorem dX6_distanceOf_55 : decode cX6_distanceOf 55 = .ok (.iload 7, 2) := dAt dlX6_distanceOf_0 32 rfl
theorem dX6_distanceOf_57 : decode cX6_distanceOf 57 = .ok (.iload 5, 2) := dAt dlX6_distanceOf_0 33 rfl
theorem dX6_distanceOf_59 : decode cX6_distanceOf 59 = .ok (.aload_n 0, 1) := dAt dlX6_distanceOf_0 34 rfl
theorem dX6_distanceOf_60 : decode cX6_distanceOf 60 = .ok (.getfield 22, 3) := dAt dlX6_distanceOf_0 35 rfl
theorem dX6_distanceOf_63 : decode cX6_distanceOf 63 = .ok (.iload 8, 2) := dAt dlX6_distanceOf_0 36 rfl
theorem dX6_distanceOf_65 : decode cX6_distanceOf 65 = .ok (.iaload, 1) := dAt dlX6_distanceOf_0 37 rfl
theorem dX6_distanceOf_66 : decode cX6_distanceOf 66 = .ok (.ishr, 1) := dAt dlX6_distanceOf_0 38 rfl
theorem dX6_distanceOf_67 : decode cX6_distanceOf 67 = .ok (.iconst 1, 1) := dAt dlX6_distanceOf_0 39 rfl
theorem dX6_distanceOf_68 : decode cX6_distanceOf 68 = .ok (.iand, 1) := dAt dlX6_distanceOf_0 40 rfl
theorem dX6_distanceOf_69 : decode cX6_distanceOf 69 = .ok (.iconst 1, 1) := dAt dlX6_distanceOf_0 41 rfl
theorem dX6_distanceOf_70 : decode cX6_distanceOf 70 = .ok (.if_icmp .ne 15, 3) := dAt dlX6_distanceOf_0 42 rfl
theorem dX6_distanceOf_73 : decode cX6_distanceOf 73 = .ok (.iconst 1, 1) := dAt dlX6_distanceOf_0 43 rfl
theorem dX6_distanceOf_74 : decode cX6_distanceOf 74 = .ok (.aload_n 0, 1) := dAt dlX6_distanceOf_0 44 rfl
theorem dX6_distanceOf_75 : decode cX6_distanceOf 75 = .ok (.getfield 25, 3) := dAt dlX6_distanceOf_0 45 rfl
theorem dX6_distanceOf_78 : decode cX6_distanceOf 78 = .ok (.iload 8, 2) := dAt dlX6_distanceOf_0 46 rfl
theorem dX6_distanceOf_80 : decode cX6_distanceOf 80 = .ok (.iaload, 1) := dAt dlX6_distanceOf_0 47 rfl
theorem dX6_distanceOf_81 : decode cX6_distanceOf 81 = .ok (.ishl, 1) := dAt dlX6_distanceOf_0 48 rfl
theorem dX6_distanceOf_82 : decode cX6_distanceOf 82 = .ok (.goto 4, 3) := dAt dlX6_distanceOf_0 49 rfl
theorem dX6_distanceOf_85 : decode cX6_distanceOf 85 = .ok (.iconst 0, 1) := dAt dlX6_distanceOf_0 50 rfl
theorem dX6_distanceOf_86 : decode cX6_distanceOf 86 = .ok (.ior, 1) := dAt dlX6_distanceOf_0 51 rfl
theorem dX6_distanceOf_87 : decode cX6_distanceOf 87 = .ok (.istore 7, 2) := dAt dlX6_distanceOf_0 52 rfl
theorem dX6_distanceOf_89 : decode cX6_distanceOf 89 = .ok (.iload 7, 2) := dAt dlX6_distanceOf_0 53 rfl
theorem dX6_distanceOf_91 : decode cX6_distanceOf 91 = .ok (.iload 5, 2) := dAt dlX6_distanceOf_0 54 rfl
theorem dX6_distanceOf_93 : decode cX6_distanceOf 93 = .ok (.aload_n 0, 1) := dAt dlX6_distanceOf_0 55 rfl
theorem dX6_distanceOf_94 : decode cX6_distanceOf 94 = .ok (.getfield 25, 3) := dAt dlX6_distanceOf_0 56 rfl
theorem dX6_distanceOf_97 : decode cX6_distanceOf 97 = .ok (.iload 8, 2) := dAt dlX6_distanceOf_0 57 rfl
theorem dX6_distanceOf_99 : decode cX6_distanceOf 99 = .ok (.iaload, 1) := dAt dlX6_distanceOf_0 58 rfl
theorem dX6_distanceOf_100 : decode cX6_distanceOf 100 = .ok (.ishr, 1) := dAt dlX6_distanceOf_0 59 rfl
def ilX6_distanceOf_1 : List (Nat × Instr × Nat) := [(101, .iconst 1, 1), (102, .iand, 1), (103, .iconst 1, 1), (104, .if_icmp .ne 15, 3), (107, .iconst 1, 1), (108, .aload_n 0, 1), (109, .getfield 22, 3), (112, .iload 8, 2), (114, .iaload, 1), (115, .ishl, 1), (116, .goto 4, 3), (119, .iconst 0, 1), (120, .ior, 1), (121, .istore 7, 2), (123, .iinc 8 1, 3), (126, .goto (-87), 3), (129, .iload 7, 2), (131, .istore 5, 2), (133, .iinc 6 1, 3), (136, .goto (-128), 3), (139, .iconst (-1), 1), (140, .ireturn, 1)]
theorem dlX6_distanceOf_1 : dOK cX6_distanceOf ilX6_distanceOf_1 = true := by decide +kernel
theorem dX6_distanceOf_101 : decode cX6_distanceOf 101 = .ok (.iconst 1, 1) := dAt dlX6_distanceOf_1 0 rfl
theorem dX6_distanceOf_102 : decode cX6_distanceOf 102 = .ok (.iand, 1) := dAt dlX6_distanceOf_1 1 rfl
theorem dX6_distanceOf_103 : decode cX6_distanceOf 103 = .ok (.iconst 1, 1) := dAt dlX6_distanceOf_1 2 rfl
theorem dX6_distanceOf_104 : decode cX6_distanceOf 104 = .ok (.if_icmp .ne 15, 3) := dAt dlX6_distanceOf_1 3 rfl
theorem dX6_distanceOf_107 : decode cX6_distanceOf 107 = .ok (.iconst 1, 1) := dAt dlX6_distanceOf_1 4 rfl
theorem dX6_distanceOf_108 : decode cX6_distanceOf 108 = .ok (.aload_n 0, 1) := dAt dlX6_distanceOf_1 5 rfl
theorem dX6_distanceOf_109 : decode cX6_distanceOf 109 = .ok (.getfield 22, 3) := dAt dlX6_distanceOf_1 6 rfl
theorem dX6_distanceOf_112 : decode cX6_distanceOf 112 = .ok (.iload 8, 2) := dAt dlX6_distanceOf_1 7 rfl
theorem dX6_distanceOf_114 : decode cX6_distanceOf 114 = .ok (.iaload, 1) := dAt dlX6_distanceOf_1 8 rfl
theorem dX6_distanceOf_115 : decode cX6_distanceOf 115 = .ok (.ishl, 1) := dAt dlX6_distanceOf_1 9 rfl
theorem dX6_distanceOf_116 : decode cX6_distanceOf 116 = .ok (.goto 4, 3) := dAt dlX6_distanceOf_1 10 rfl
theorem dX6_distanceOf_119 : decode cX6_distanceOf 119 = .ok (.iconst 0, 1) := dAt dlX6_distanceOf_1 11 rfl
theorem dX6_distanceOf_120 : decode cX6_distanceOf 120 = .ok (.ior, 1) := dAt dlX6_distanceOf_1 12 rfl
theorem dX6_distanceOf_121 : decode cX6_distanceOf 121 = .ok (.istore 7, 2) := dAt dlX6_distanceOf_1 13 rfl
theorem dX6_distanceOf_123 : decode cX6_distanceOf 123 = .ok (.iinc 8 1, 3) := dAt dlX6_distanceOf_1 14 rfl
theorem dX6_distanceOf_126 : decode cX6_distanceOf 126 = .ok (.goto (-87), 3) := dAt dlX6_distanceOf_1 15 rfl
theorem dX6_distanceOf_129 : decode cX6_distanceOf 129 = .ok (.iload 7, 2) := dAt dlX6_distanceOf_1 16 rfl
theorem dX6_distanceOf_131 : decode cX6_distanceOf 131 = .ok (.istore 5, 2) := dAt dlX6_distanceOf_1 17 rfl
theorem dX6_distanceOf_133 : decode cX6_distanceOf 133 = .ok (.iinc 6 1, 3) := dAt dlX6_distanceOf_1 18 rfl
theorem dX6_distanceOf_136 : decode cX6_distanceOf 136 = .ok (.goto (-128), 3) := dAt dlX6_distanceOf_1 19 rfl
theorem dX6_distanceOf_139 : decode cX6_distanceOf 139 = .ok (.iconst (-1), 1) := dAt dlX6_distanceOf_1 20 rfl
theorem dX6_distanceOf_140 : decode cX6_distanceOf 140 = .ok (.ireturn, 1) := dAt dlX6_distanceOf_1 21 rfl
def ilX6_distance_0 : List (Nat × Instr × Nat) := [(0, .aload_n 0, 1), (1, .iload_n 1, 1), (2, .iload_n 2, 1), (3, .invokevirtual 81, 3), (6, .ifCond .eq 12, 3), (9, .aload_n 0, 1), (10, .iload_n 1, 1), (11, .iload_n 3, 1), (12, .invokevirtual 81, 3), (15, .ifCond .ne 6, 3), (18, .bipush (-2), 2), (20, .ireturn, 1), (21, .aload_n 0, 1), (22, .iload_n 1, 1), (23, .invokevirtual 109, 3), (26, .aload_n 0, 1), (27, .iload_n 1, 1), (28, .iload_n 2, 1), (29, .iload_n 3, 1), (30, .iconst (-1), 1), (31, .invokevirtual 173, 3), (34, .ireturn, 1)]
theorem dlX6_distance_0 : dOK cX6_distance ilX6_distance_0 = true := by decide +kernel
theorem dX6_distance_0 : decode cX6_distance 0 = .ok (.aload_n 0, 1) := dAt dlX6_distance_0 0 rfl
theorem dX6_distance_1 : decode cX6_distance 1 = .ok (.iload_n 1, 1) := dAt dlX6_distance_0 1 rfl
theorem dX6_distance_2 : decode cX6_distance 2 = .ok (.iload_n 2, 1) := dAt dlX6_distance_0 2 rfl
theorem dX6_distance_3 : decode cX6_distance 3 = .ok (.invokevirtual 81, 3) := dAt dlX6_distance_0 3 rfl
theorem dX6_distance_6 : decode cX6_distance 6 = .ok (.ifCond .eq 12, 3) := dAt dlX6_distance_0 4 rfl
theorem dX6_distance_9 : decode cX6_distance 9 = .ok (.aload_n 0, 1) := dAt dlX6_distance_0 5 rfl
theorem dX6_distance_10 : decode cX6_distance 10 = .ok (.iload_n 1, 1) := dAt dlX6_distance_0 6 rfl
theorem dX6_distance_11 : decode cX6_distance 11 = .ok (.iload_n 3, 1) := dAt dlX6_distance_0 7 rfl
theorem dX6_distance_12 : decode cX6_distance 12 = .ok (.invokevirtual 81, 3) := dAt dlX6_distance_0 8 rfl
theorem dX6_distance_15 : decode cX6_distance 15 = .ok (.ifCond .ne 6, 3) := dAt dlX6_distance_0 9 rfl
theorem dX6_distance_18 : decode cX6_distance 18 = .ok (.bipush (-2), 2) := dAt dlX6_distance_0 10 rfl
theorem dX6_distance_20 : decode cX6_distance 20 = .ok (.ireturn, 1) := dAt dlX6_distance_0 11 rfl
theorem dX6_distance_21 : decode cX6_distance 21 = .ok (.aload_n 0, 1) := dAt dlX6_distance_0 12 rfl
theorem dX6_distance_22 : decode cX6_distance 22 = .ok (.iload_n 1, 1) := dAt dlX6_distance_0 13 rfl
theorem dX6_distance_23 : decode cX6_distance 23 = .ok (.invokevirtual 109, 3) := dAt dlX6_distance_0 14 rfl
theorem dX6_distance_26 : decode cX6_distance 26 = .ok (.aload_n 0, 1) := dAt dlX6_distance_0 15 rfl
theorem dX6_distance_27 : decode cX6_distance 27 = .ok (.iload_n 1, 1) := dAt dlX6_distance_0 16 rfl
theorem dX6_distance_28 : decode cX6_distance 28 = .ok (.iload_n 2, 1) := dAt dlX6_distance_0 17 rfl
theorem dX6_distance_29 : decode cX6_distance 29 = .ok (.iload_n 3, 1) := dAt dlX6_distance_0 18 rfl
theorem dX6_distance_30 : decode cX6_distance 30 = .ok (.iconst (-1), 1) := dAt dlX6_distance_0 19 rfl
theorem dX6_distance_31 : decode cX6_distance 31 = .ok (.invokevirtual 173, 3) := dAt dlX6_distance_0 20 rfl
theorem dX6_distance_34 : decode cX6_distance 34 = .ok (.ireturn, 1) := dAt dlX6_distance_0 21 rfl
def ilX6_round_0 : List (Nat × Instr × Nat) := [(0, .iload_n 1, 1), (1, .invokestatic 69, 3), (4, .ifCond .ne 6, 3), (7, .bipush (-2), 2), (9, .ireturn, 1), (10, .aload_n 0, 1), (11, .iload_n 1, 1), (12, .invokevirtual 109, 3), (15, .iconst (-1), 1), (16, .istore_n 2, 1), (17, .iconst 0, 1), (18, .istore_n 3, 1), (19, .iload_n 3, 1), (20, .aload_n 0, 1), (21, .getfield 105, 3), (24, .if_icmp .ge 55, 3), (27, .aload_n 0, 1), (28, .iload_n 1, 1), (29, .aload_n 0, 1), (30, .getfield 22, 3), (33, .iload_n 3, 1), (34, .iaload, 1), (35, .aload_n 0, 1), (36, .getfield 25, 3), (39, .iload_n 3, 1), (40, .iaload, 1), (41, .iload_n 3, 1), (42, .invokevirtual 173, 3), (45, .istore 4, 2), (47, .iload 4, 2), (49, .ifCond .lt 22, 3), (52, .iload_n 2, 1), (53, .ifCond .lt 11, 3), (56, .iload 4, 2), (58, .iconst 1, 1), (59, .iadd, 1), (60, .iload_n 2, 1), (61, .if_icmp .ge 10, 3), (64, .iload 4, 2), (66, .iconst 1, 1), (67, .iadd, 1), (68, .goto 4, 3), (71, .iload_n 2, 1), (72, .istore_n 2, 1), (73, .iinc 3 1, 3), (76, .goto (-57), 3), (79, .iload_n 2, 1), (80, .ireturn, 1)]
theorem dlX6_round_0 : dOK cX6_round ilX6_round_0 = true := by decide +kernel
theorem dX6_round_0 : decode cX6_round 0 = .ok (.iload_n 1, 1) := dAt dlX6_round_0 0 rfl
theorem dX6_round_1 : decode cX6_round 1 = .ok (.invokestatic 69, 3) := dAt dlX6_round_0 1 rfl
theorem dX6_round_4 : decode cX6_round 4 = .ok (.ifCond .ne 6, 3) := dAt dlX6_round_0 2 rfl
theorem dX6_round_7 : decode cX6_round 7 = .ok (.bipush (-2), 2) := dAt dlX6_round_0 3 rfl
theorem dX6_round_9 : decode cX6_round 9 = .ok (.ireturn, 1) := dAt dlX6_round_0 4 rfl
theorem dX6_round_10 : decode cX6_round 10 = .ok (.aload_n 0, 1) := dAt dlX6_round_0 5 rfl
theorem dX6_round_11 : decode cX6_round 11 = .ok (.iload_n 1, 1) := dAt dlX6_round_0 6 rfl
theorem dX6_round_12 : decode cX6_round 12 = .ok (.invokevirtual 109, 3) := dAt dlX6_round_0 7 rfl
theorem dX6_round_15 : decode cX6_round 15 = .ok (.iconst (-1), 1) := dAt dlX6_round_0 8 rfl
theorem dX6_round_16 : decode cX6_round 16 = .ok (.istore_n 2, 1) := dAt dlX6_round_0 9 rfl
theorem dX6_round_17 : decode cX6_round 17 = .ok (.iconst 0, 1) := dAt dlX6_round_0 10 rfl
theorem dX6_round_18 : decode cX6_round 18 = .ok (.istore_n 3, 1) := dAt dlX6_round_0 11 rfl
theorem dX6_round_19 : decode cX6_round 19 = .ok (.iload_n 3, 1) := dAt dlX6_round_0 12 rfl
theorem dX6_round_20 : decode cX6_round 20 = .ok (.aload_n 0, 1) := dAt dlX6_round_0 13 rfl
theorem dX6_round_21 : decode cX6_round 21 = .ok (.getfield 105, 3) := dAt dlX6_round_0 14 rfl
theorem dX6_round_24 : decode cX6_round 24 = .ok (.if_icmp .ge 55, 3) := dAt dlX6_round_0 15 rfl
theorem dX6_round_27 : decode cX6_round 27 = .ok (.aload_n 0, 1) := dAt dlX6_round_0 16 rfl
theorem dX6_round_28 : decode cX6_round 28 = .ok (.iload_n 1, 1) := dAt dlX6_round_0 17 rfl
theorem dX6_round_29 : decode cX6_round 29 = .ok (.aload_n 0, 1) := dAt dlX6_round_0 18 rfl
theorem dX6_round_30 : decode cX6_round 30 = .ok (.getfield 22, 3) := dAt dlX6_round_0 19 rfl
theorem dX6_round_33 : decode cX6_round 33 = .ok (.iload_n 3, 1) := dAt dlX6_round_0 20 rfl
theorem dX6_round_34 : decode cX6_round 34 = .ok (.iaload, 1) := dAt dlX6_round_0 21 rfl
theorem dX6_round_35 : decode cX6_round 35 = .ok (.aload_n 0, 1) := dAt dlX6_round_0 22 rfl
theorem dX6_round_36 : decode cX6_round 36 = .ok (.getfield 25, 3) := dAt dlX6_round_0 23 rfl
theorem dX6_round_39 : decode cX6_round 39 = .ok (.iload_n 3, 1) := dAt dlX6_round_0 24 rfl
theorem dX6_round_40 : decode cX6_round 40 = .ok (.iaload, 1) := dAt dlX6_round_0 25 rfl
theorem dX6_round_41 : decode cX6_round 41 = .ok (.iload_n 3, 1) := dAt dlX6_round_0 26 rfl
theorem dX6_round_42 : decode cX6_round 42 = .ok (.invokevirtual 173, 3) := dAt dlX6_round_0 27 rfl
theorem dX6_round_45 : decode cX6_round 45 = .ok (.istore 4, 2) := dAt dlX6_round_0 28 rfl
theorem dX6_round_47 : decode cX6_round 47 = .ok (.iload 4, 2) := dAt dlX6_round_0 29 rfl
theorem dX6_round_49 : decode cX6_round 49 = .ok (.ifCond .lt 22, 3) := dAt dlX6_round_0 30 rfl
theorem dX6_round_52 : decode cX6_round 52 = .ok (.iload_n 2, 1) := dAt dlX6_round_0 31 rfl
theorem dX6_round_53 : decode cX6_round 53 = .ok (.ifCond .lt 11, 3) := dAt dlX6_round_0 32 rfl
theorem dX6_round_56 : decode cX6_round 56 = .ok (.iload 4, 2) := dAt dlX6_round_0 33 rfl
theorem dX6_round_58 : decode cX6_round 58 = .ok (.iconst 1, 1) := dAt dlX6_round_0 34 rfl
theorem dX6_round_59 : decode cX6_round 59 = .ok (.iadd, 1) := dAt dlX6_round_0 35 rfl
theorem dX6_round_60 : decode cX6_round 60 = .ok (.iload_n 2, 1) := dAt dlX6_round_0 36 rfl
theorem dX6_round_61 : decode cX6_round 61 = .ok (.if_icmp .ge 10, 3) := dAt dlX6_round_0 37 rfl
theorem dX6_round_64 : decode cX6_round 64 = .ok (.iload 4, 2) := dAt dlX6_round_0 38 rfl
theorem dX6_round_66 : decode cX6_round 66 = .ok (.iconst 1, 1) := dAt dlX6_round_0 39 rfl
theorem dX6_round_67 : decode cX6_round 67 = .ok (.iadd, 1) := dAt dlX6_round_0 40 rfl
theorem dX6_round_68 : decode cX6_round 68 = .ok (.goto 4, 3) := dAt dlX6_round_0 41 rfl
theorem dX6_round_71 : decode cX6_round 71 = .ok (.iload_n 2, 1) := dAt dlX6_round_0 42 rfl
theorem dX6_round_72 : decode cX6_round 72 = .ok (.istore_n 2, 1) := dAt dlX6_round_0 43 rfl
theorem dX6_round_73 : decode cX6_round 73 = .ok (.iinc 3 1, 3) := dAt dlX6_round_0 44 rfl
theorem dX6_round_76 : decode cX6_round 76 = .ok (.goto (-57), 3) := dAt dlX6_round_0 45 rfl
theorem dX6_round_79 : decode cX6_round 79 = .ok (.iload_n 2, 1) := dAt dlX6_round_0 46 rfl
theorem dX6_round_80 : decode cX6_round 80 = .ok (.ireturn, 1) := dAt dlX6_round_0 47 rfl
def ilX6_oddOnes_0 : List (Nat × Instr × Nat) := [(0, .iconst 0, 1), (1, .istore_n 3, 1), (2, .iconst 0, 1), (3, .istore 4, 2), (5, .iload 4, 2), (7, .aload_n 0, 1), (8, .getfield 105, 3), (11, .if_icmp .ge 46, 3), (14, .iload_n 3, 1), (15, .lload_n 1, 1), (16, .iload 4, 2), (18, .lshr, 1), (19, .lconst 1, 1), (20, .land, 1), (21, .lconst 1, 1), (22, .lcmp, 1), (23, .ifCond .ne 25, 3), (26, .iconst 1, 1), (27, .aload_n 0, 1), (28, .getfield 22, 3), (31, .iload 4, 2), (33, .iaload, 1), (34, .ishl, 1), (35, .iconst 1, 1), (36, .aload_n 0, 1), (37, .getfield 25, 3), (40, .iload 4, 2), (42, .iaload, 1), (43, .ishl, 1), (44, .ixor, 1), (45, .goto 4, 3), (48, .iconst 0, 1), (49, .ixor, 1), (50, .istore_n 3, 1), (51, .iinc 4 1, 3), (54, .goto (-49), 3), (57, .iload_n 3, 1), (58, .ireturn, 1)]
theorem dlX6_oddOnes_0 : dOK cX6_oddOnes ilX6_oddOnes_0 = true := by decide +kernel
theorem dX6_oddOnes_0 : decode cX6_oddOnes 0 = .ok (.iconst 0, 1) := dAt dlX6_oddOnes_0 0 rfl
theorem dX6_oddOnes_1 : decode cX6_oddOnes 1 = .ok (.istore_n 3, 1) := dAt dlX6_oddOnes_0 1 rfl
theorem dX6_oddOnes_2 : decode cX6_oddOnes 2 = .ok (.iconst 0, 1) := dAt dlX6_oddOnes_0 2 rfl
theorem dX6_oddOnes_3 : decode cX6_oddOnes 3 = .ok (.istore 4, 2) := dAt dlX6_oddOnes_0 3 rfl
theorem dX6_oddOnes_5 : decode cX6_oddOnes 5 = .ok (.iload 4, 2) := dAt dlX6_oddOnes_0 4 rfl
theorem dX6_oddOnes_7 : decode cX6_oddOnes 7 = .ok (.aload_n 0, 1) := dAt dlX6_oddOnes_0 5 rfl
theorem dX6_oddOnes_8 : decode cX6_oddOnes 8 = .ok (.getfield 105, 3) := dAt dlX6_oddOnes_0 6 rfl
theorem dX6_oddOnes_11 : decode cX6_oddOnes 11 = .ok (.if_icmp .ge 46, 3) := dAt dlX6_oddOnes_0 7 rfl
theorem dX6_oddOnes_14 : decode cX6_oddOnes 14 = .ok (.iload_n 3, 1) := dAt dlX6_oddOnes_0 8 rfl
theorem dX6_oddOnes_15 : decode cX6_oddOnes 15 = .ok (.lload_n 1, 1) := dAt dlX6_oddOnes_0 9 rfl
theorem dX6_oddOnes_16 : decode cX6_oddOnes 16 = .ok (.iload 4, 2) := dAt dlX6_oddOnes_0 10 rfl
theorem dX6_oddOnes_18 : decode cX6_oddOnes 18 = .ok (.lshr, 1) := dAt dlX6_oddOnes_0 11 rfl
theorem dX6_oddOnes_19 : decode cX6_oddOnes 19 = .ok (.lconst 1, 1) := dAt dlX6_oddOnes_0 12 rfl
theorem dX6_oddOnes_20 : decode cX6_oddOnes 20 = .ok (.land, 1) := dAt dlX6_oddOnes_0 13 rfl
theorem dX6_oddOnes_21 : decode cX6_oddOnes 21 = .ok (.lconst 1, 1) := dAt dlX6_oddOnes_0 14 rfl
theorem dX6_oddOnes_22 : decode cX6_oddOnes 22 = .ok (.lcmp, 1) := dAt dlX6_oddOnes_0 15 rfl
theorem dX6_oddOnes_23 : decode cX6_oddOnes 23 = .ok (.ifCond .ne 25, 3) := dAt dlX6_oddOnes_0 16 rfl
theorem dX6_oddOnes_26 : decode cX6_oddOnes 26 = .ok (.iconst 1, 1) := dAt dlX6_oddOnes_0 17 rfl
theorem dX6_oddOnes_27 : decode cX6_oddOnes 27 = .ok (.aload_n 0, 1) := dAt dlX6_oddOnes_0 18 rfl
theorem dX6_oddOnes_28 : decode cX6_oddOnes 28 = .ok (.getfield 22, 3) := dAt dlX6_oddOnes_0 19 rfl
theorem dX6_oddOnes_31 : decode cX6_oddOnes 31 = .ok (.iload 4, 2) := dAt dlX6_oddOnes_0 20 rfl
theorem dX6_oddOnes_33 : decode cX6_oddOnes 33 = .ok (.iaload, 1) := dAt dlX6_oddOnes_0 21 rfl
theorem dX6_oddOnes_34 : decode cX6_oddOnes 34 = .ok (.ishl, 1) := dAt dlX6_oddOnes_0 22 rfl
theorem dX6_oddOnes_35 : decode cX6_oddOnes 35 = .ok (.iconst 1, 1) := dAt dlX6_oddOnes_0 23 rfl
theorem dX6_oddOnes_36 : decode cX6_oddOnes 36 = .ok (.aload_n 0, 1) := dAt dlX6_oddOnes_0 24 rfl
theorem dX6_oddOnes_37 : decode cX6_oddOnes 37 = .ok (.getfield 25, 3) := dAt dlX6_oddOnes_0 25 rfl
theorem dX6_oddOnes_40 : decode cX6_oddOnes 40 = .ok (.iload 4, 2) := dAt dlX6_oddOnes_0 26 rfl
theorem dX6_oddOnes_42 : decode cX6_oddOnes 42 = .ok (.iaload, 1) := dAt dlX6_oddOnes_0 27 rfl
theorem dX6_oddOnes_43 : decode cX6_oddOnes 43 = .ok (.ishl, 1) := dAt dlX6_oddOnes_0 28 rfl
theorem dX6_oddOnes_44 : decode cX6_oddOnes 44 = .ok (.ixor, 1) := dAt dlX6_oddOnes_0 29 rfl
theorem dX6_oddOnes_45 : decode cX6_oddOnes 45 = .ok (.goto 4, 3) := dAt dlX6_oddOnes_0 30 rfl
theorem dX6_oddOnes_48 : decode cX6_oddOnes 48 = .ok (.iconst 0, 1) := dAt dlX6_oddOnes_0 31 rfl
theorem dX6_oddOnes_49 : decode cX6_oddOnes 49 = .ok (.ixor, 1) := dAt dlX6_oddOnes_0 32 rfl
theorem dX6_oddOnes_50 : decode cX6_oddOnes 50 = .ok (.istore_n 3, 1) := dAt dlX6_oddOnes_0 33 rfl
theorem dX6_oddOnes_51 : decode cX6_oddOnes 51 = .ok (.iinc 4 1, 3) := dAt dlX6_oddOnes_0 34 rfl
theorem dX6_oddOnes_54 : decode cX6_oddOnes 54 = .ok (.goto (-49), 3) := dAt dlX6_oddOnes_0 35 rfl
theorem dX6_oddOnes_57 : decode cX6_oddOnes 57 = .ok (.iload_n 3, 1) := dAt dlX6_oddOnes_0 36 rfl
theorem dX6_oddOnes_58 : decode cX6_oddOnes 58 = .ok (.ireturn, 1) := dAt dlX6_oddOnes_0 37 rfl
def ilX6_isWord_0 : List (Nat × Instr × Nat) := [(0, .iload_n 1, 1), (1, .invokestatic 69, 3), (4, .ifCond .ne 5, 3), (7, .iconst 0, 1), (8, .ireturn, 1), (9, .aload_n 0, 1), (10, .iload_n 1, 1), (11, .invokevirtual 109, 3), (14, .lload_n 2, 1), (15, .lconst 0, 1), (16, .lcmp, 1), (17, .ifCond .lt 18, 3), (20, .lload_n 2, 1), (21, .aload_n 0, 1), (22, .getfield 105, 3), (25, .lshr, 1), (26, .lconst 0, 1), (27, .lcmp, 1), (28, .ifCond .ne 7, 3), (31, .iconst 1, 1), (32, .goto 4, 3), (35, .iconst 0, 1), (36, .ireturn, 1)]
theorem dlX6_isWord_0 : dOK cX6_isWord ilX6_isWord_0 = true := by decide +kernel
theorem dX6_isWord_0 : decode cX6_isWord 0 = .ok (.iload_n 1, 1) := dAt dlX6_isWord_0 0 rfl
theorem dX6_isWord_1 : decode cX6_isWord 1 = .ok (.invokestatic 69, 3) := dAt dlX6_isWord_0 1 rfl
theorem dX6_isWord_4 : decode cX6_isWord 4 = .ok (.ifCond .ne 5, 3) := dAt dlX6_isWord_0 2 rfl
theorem dX6_isWord_7 : decode cX6_isWord 7 = .ok (.iconst 0, 1) := dAt dlX6_isWord_0 3 rfl
theorem dX6_isWord_8 : decode cX6_isWord 8 = .ok (.ireturn, 1) := dAt dlX6_isWord_0 4 rfl
theorem dX6_isWord_9 : decode cX6_isWord 9 = .ok (.aload_n 0, 1) := dAt dlX6_isWord_0 5 rfl
theorem dX6_isWord_10 : decode cX6_isWord 10 = .ok (.iload_n 1, 1) := dAt dlX6_isWord_0 6 rfl
theorem dX6_isWord_11 : decode cX6_isWord 11 = .ok (.invokevirtual 109, 3) := dAt dlX6_isWord_0 7 rfl
theorem dX6_isWord_14 : decode cX6_isWord 14 = .ok (.lload_n 2, 1) := dAt dlX6_isWord_0 8 rfl
theorem dX6_isWord_15 : decode cX6_isWord 15 = .ok (.lconst 0, 1) := dAt dlX6_isWord_0 9 rfl
theorem dX6_isWord_16 : decode cX6_isWord 16 = .ok (.lcmp, 1) := dAt dlX6_isWord_0 10 rfl
theorem dX6_isWord_17 : decode cX6_isWord 17 = .ok (.ifCond .lt 18, 3) := dAt dlX6_isWord_0 11 rfl
theorem dX6_isWord_20 : decode cX6_isWord 20 = .ok (.lload_n 2, 1) := dAt dlX6_isWord_0 12 rfl
theorem dX6_isWord_21 : decode cX6_isWord 21 = .ok (.aload_n 0, 1) := dAt dlX6_isWord_0 13 rfl
theorem dX6_isWord_22 : decode cX6_isWord 22 = .ok (.getfield 105, 3) := dAt dlX6_isWord_0 14 rfl
theorem dX6_isWord_25 : decode cX6_isWord 25 = .ok (.lshr, 1) := dAt dlX6_isWord_0 15 rfl
theorem dX6_isWord_26 : decode cX6_isWord 26 = .ok (.lconst 0, 1) := dAt dlX6_isWord_0 16 rfl
theorem dX6_isWord_27 : decode cX6_isWord 27 = .ok (.lcmp, 1) := dAt dlX6_isWord_0 17 rfl
theorem dX6_isWord_28 : decode cX6_isWord 28 = .ok (.ifCond .ne 7, 3) := dAt dlX6_isWord_0 18 rfl
theorem dX6_isWord_31 : decode cX6_isWord 31 = .ok (.iconst 1, 1) := dAt dlX6_isWord_0 19 rfl
theorem dX6_isWord_32 : decode cX6_isWord 32 = .ok (.goto 4, 3) := dAt dlX6_isWord_0 20 rfl
theorem dX6_isWord_35 : decode cX6_isWord 35 = .ok (.iconst 0, 1) := dAt dlX6_isWord_0 21 rfl
theorem dX6_isWord_36 : decode cX6_isWord 36 = .ok (.ireturn, 1) := dAt dlX6_isWord_0 22 rfl
def ilX6_odd_0 : List (Nat × Instr × Nat) := [(0, .aload_n 0, 1), (1, .iload_n 1, 1), (2, .lload_n 2, 1), (3, .invokevirtual 177, 3), (6, .ifCond .eq 14, 3), (9, .aload_n 0, 1), (10, .lload_n 2, 1), (11, .invokevirtual 181, 3), (14, .invokestatic 73, 3), (17, .goto 5, 3), (20, .bipush (-2), 2), (22, .ireturn, 1)]
theorem dlX6_odd_0 : dOK cX6_odd ilX6_odd_0 = true := by decide +kernel
theorem dX6_odd_0 : decode cX6_odd 0 = .ok (.aload_n 0, 1) := dAt dlX6_odd_0 0 rfl
theorem dX6_odd_1 : decode cX6_odd 1 = .ok (.iload_n 1, 1) := dAt dlX6_odd_0 1 rfl
theorem dX6_odd_2 : decode cX6_odd 2 = .ok (.lload_n 2, 1) := dAt dlX6_odd_0 2 rfl
theorem dX6_odd_3 : decode cX6_odd 3 = .ok (.invokevirtual 177, 3) := dAt dlX6_odd_0 3 rfl
theorem dX6_odd_6 : decode cX6_odd 6 = .ok (.ifCond .eq 14, 3) := dAt dlX6_odd_0 4 rfl
theorem dX6_odd_9 : decode cX6_odd 9 = .ok (.aload_n 0, 1) := dAt dlX6_odd_0 5 rfl
theorem dX6_odd_10 : decode cX6_odd 10 = .ok (.lload_n 2, 1) := dAt dlX6_odd_0 6 rfl
theorem dX6_odd_11 : decode cX6_odd 11 = .ok (.invokevirtual 181, 3) := dAt dlX6_odd_0 7 rfl
theorem dX6_odd_14 : decode cX6_odd 14 = .ok (.invokestatic 73, 3) := dAt dlX6_odd_0 8 rfl
theorem dX6_odd_17 : decode cX6_odd 17 = .ok (.goto 5, 3) := dAt dlX6_odd_0 9 rfl
theorem dX6_odd_20 : decode cX6_odd 20 = .ok (.bipush (-2), 2) := dAt dlX6_odd_0 10 rfl
theorem dX6_odd_22 : decode cX6_odd 22 = .ok (.ireturn, 1) := dAt dlX6_odd_0 11 rfl
def ilX6_flipped_0 : List (Nat × Instr × Nat) := [(0, .aload_n 0, 1), (1, .iload_n 1, 1), (2, .lload_n 2, 1), (3, .invokevirtual 177, 3), (6, .ifCond .ne 7, 3), (9, .ldc2_w 145, 3), (12, .lreturn, 1), (13, .lload_n 2, 1), (14, .lstore 4, 2), (16, .iconst 1, 1), (17, .istore 6, 2), (19, .iload 6, 2), (21, .ifCond .eq 84, 3), (24, .aload_n 0, 1), (25, .lload 4, 2), (27, .invokevirtual 181, 3), (30, .istore 7, 2), (32, .iconst 0, 1), (33, .istore 6, 2), (35, .iconst 0, 1), (36, .istore 8, 2), (38, .iload 8, 2), (40, .aload_n 0, 1), (41, .getfield 105, 3), (44, .if_icmp .ge 58, 3), (47, .iload 6, 2), (49, .ifCond .ne 53, 3), (52, .iload 7, 2), (54, .aload_n 0, 1), (55, .getfield 22, 3), (58, .iload 8, 2), (60, .iaload, 1), (61, .ishr, 1), (62, .iconst 1, 1), (63, .iand, 1), (64, .iconst 1, 1), (65, .if_icmp .ne 31, 3), (68, .iload 7, 2), (70, .aload_n 0, 1), (71, .getfield 25, 3), (74, .iload 8, 2), (76, .iaload, 1), (77, .ishr, 1), (78, .iconst 1, 1), (79, .iand, 1), (80, .iconst 1, 1), (81, .if_icmp .ne 15, 3), (84, .lload 4, 2), (86, .lconst 1, 1), (87, .iload 8, 2), (89, .lshl, 1), (90, .lxor, 1), (91, .lstore 4, 2), (93, .iconst 1, 1), (94, .istore 6, 2), (96, .iinc 8 1, 3), (99, .goto (-61), 3), (102, .goto (-83), 3), (105, .lload 4, 2), (107, .lreturn, 1)]
theorem dlX6_flipped_0 : dOK cX6_flipped ilX6_flipped_0 = true := by decide +kernel
theorem dX6_flipped_0 : decode cX6_flipped 0 = .ok (.aload_n 0, 1) := dAt dlX6_flipped_0 0 rfl
theorem dX6_flipped_1 : decode cX6_flipped 1 = .ok (.iload_n 1, 1) := dAt dlX6_flipped_0 1 rfl
theorem dX6_flipped_2 : decode cX6_flipped 2 = .ok (.lload_n 2, 1) := dAt dlX6_flipped_0 2 rfl
theorem dX6_flipped_3 : decode cX6_flipped 3 = .ok (.invokevirtual 177, 3) := dAt dlX6_flipped_0 3 rfl
theorem dX6_flipped_6 : decode cX6_flipped 6 = .ok (.ifCond .ne 7, 3) := dAt dlX6_flipped_0 4 rfl
theorem dX6_flipped_9 : decode cX6_flipped 9 = .ok (.ldc2_w 145, 3) := dAt dlX6_flipped_0 5 rfl
theorem dX6_flipped_12 : decode cX6_flipped 12 = .ok (.lreturn, 1) := dAt dlX6_flipped_0 6 rfl
theorem dX6_flipped_13 : decode cX6_flipped 13 = .ok (.lload_n 2, 1) := dAt dlX6_flipped_0 7 rfl
theorem dX6_flipped_14 : decode cX6_flipped 14 = .ok (.lstore 4, 2) := dAt dlX6_flipped_0 8 rfl
theorem dX6_flipped_16 : decode cX6_flipped 16 = .ok (.iconst 1, 1) := dAt dlX6_flipped_0 9 rfl
theorem dX6_flipped_17 : decode cX6_flipped 17 = .ok (.istore 6, 2) := dAt dlX6_flipped_0 10 rfl
theorem dX6_flipped_19 : decode cX6_flipped 19 = .ok (.iload 6, 2) := dAt dlX6_flipped_0 11 rfl
theorem dX6_flipped_21 : decode cX6_flipped 21 = .ok (.ifCond .eq 84, 3) := dAt dlX6_flipped_0 12 rfl
theorem dX6_flipped_24 : decode cX6_flipped 24 = .ok (.aload_n 0, 1) := dAt dlX6_flipped_0 13 rfl
theorem dX6_flipped_25 : decode cX6_flipped 25 = .ok (.lload 4, 2) := dAt dlX6_flipped_0 14 rfl
theorem dX6_flipped_27 : decode cX6_flipped 27 = .ok (.invokevirtual 181, 3) := dAt dlX6_flipped_0 15 rfl
theorem dX6_flipped_30 : decode cX6_flipped 30 = .ok (.istore 7, 2) := dAt dlX6_flipped_0 16 rfl
theorem dX6_flipped_32 : decode cX6_flipped 32 = .ok (.iconst 0, 1) := dAt dlX6_flipped_0 17 rfl
theorem dX6_flipped_33 : decode cX6_flipped 33 = .ok (.istore 6, 2) := dAt dlX6_flipped_0 18 rfl
theorem dX6_flipped_35 : decode cX6_flipped 35 = .ok (.iconst 0, 1) := dAt dlX6_flipped_0 19 rfl
theorem dX6_flipped_36 : decode cX6_flipped 36 = .ok (.istore 8, 2) := dAt dlX6_flipped_0 20 rfl
theorem dX6_flipped_38 : decode cX6_flipped 38 = .ok (.iload 8, 2) := dAt dlX6_flipped_0 21 rfl
theorem dX6_flipped_40 : decode cX6_flipped 40 = .ok (.aload_n 0, 1) := dAt dlX6_flipped_0 22 rfl
theorem dX6_flipped_41 : decode cX6_flipped 41 = .ok (.getfield 105, 3) := dAt dlX6_flipped_0 23 rfl
theorem dX6_flipped_44 : decode cX6_flipped 44 = .ok (.if_icmp .ge 58, 3) := dAt dlX6_flipped_0 24 rfl
theorem dX6_flipped_47 : decode cX6_flipped 47 = .ok (.iload 6, 2) := dAt dlX6_flipped_0 25 rfl
theorem dX6_flipped_49 : decode cX6_flipped 49 = .ok (.ifCond .ne 53, 3) := dAt dlX6_flipped_0 26 rfl
theorem dX6_flipped_52 : decode cX6_flipped 52 = .ok (.iload 7, 2) := dAt dlX6_flipped_0 27 rfl
theorem dX6_flipped_54 : decode cX6_flipped 54 = .ok (.aload_n 0, 1) := dAt dlX6_flipped_0 28 rfl
theorem dX6_flipped_55 : decode cX6_flipped 55 = .ok (.getfield 22, 3) := dAt dlX6_flipped_0 29 rfl
theorem dX6_flipped_58 : decode cX6_flipped 58 = .ok (.iload 8, 2) := dAt dlX6_flipped_0 30 rfl
theorem dX6_flipped_60 : decode cX6_flipped 60 = .ok (.iaload, 1) := dAt dlX6_flipped_0 31 rfl
theorem dX6_flipped_61 : decode cX6_flipped 61 = .ok (.ishr, 1) := dAt dlX6_flipped_0 32 rfl
theorem dX6_flipped_62 : decode cX6_flipped 62 = .ok (.iconst 1, 1) := dAt dlX6_flipped_0 33 rfl
theorem dX6_flipped_63 : decode cX6_flipped 63 = .ok (.iand, 1) := dAt dlX6_flipped_0 34 rfl
theorem dX6_flipped_64 : decode cX6_flipped 64 = .ok (.iconst 1, 1) := dAt dlX6_flipped_0 35 rfl
theorem dX6_flipped_65 : decode cX6_flipped 65 = .ok (.if_icmp .ne 31, 3) := dAt dlX6_flipped_0 36 rfl
theorem dX6_flipped_68 : decode cX6_flipped 68 = .ok (.iload 7, 2) := dAt dlX6_flipped_0 37 rfl
theorem dX6_flipped_70 : decode cX6_flipped 70 = .ok (.aload_n 0, 1) := dAt dlX6_flipped_0 38 rfl
theorem dX6_flipped_71 : decode cX6_flipped 71 = .ok (.getfield 25, 3) := dAt dlX6_flipped_0 39 rfl
theorem dX6_flipped_74 : decode cX6_flipped 74 = .ok (.iload 8, 2) := dAt dlX6_flipped_0 40 rfl
theorem dX6_flipped_76 : decode cX6_flipped 76 = .ok (.iaload, 1) := dAt dlX6_flipped_0 41 rfl
theorem dX6_flipped_77 : decode cX6_flipped 77 = .ok (.ishr, 1) := dAt dlX6_flipped_0 42 rfl
theorem dX6_flipped_78 : decode cX6_flipped 78 = .ok (.iconst 1, 1) := dAt dlX6_flipped_0 43 rfl
theorem dX6_flipped_79 : decode cX6_flipped 79 = .ok (.iand, 1) := dAt dlX6_flipped_0 44 rfl
theorem dX6_flipped_80 : decode cX6_flipped 80 = .ok (.iconst 1, 1) := dAt dlX6_flipped_0 45 rfl
theorem dX6_flipped_81 : decode cX6_flipped 81 = .ok (.if_icmp .ne 15, 3) := dAt dlX6_flipped_0 46 rfl
theorem dX6_flipped_84 : decode cX6_flipped 84 = .ok (.lload 4, 2) := dAt dlX6_flipped_0 47 rfl
theorem dX6_flipped_86 : decode cX6_flipped 86 = .ok (.lconst 1, 1) := dAt dlX6_flipped_0 48 rfl
theorem dX6_flipped_87 : decode cX6_flipped 87 = .ok (.iload 8, 2) := dAt dlX6_flipped_0 49 rfl
theorem dX6_flipped_89 : decode cX6_flipped 89 = .ok (.lshl, 1) := dAt dlX6_flipped_0 50 rfl
theorem dX6_flipped_90 : decode cX6_flipped 90 = .ok (.lxor, 1) := dAt dlX6_flipped_0 51 rfl
theorem dX6_flipped_91 : decode cX6_flipped 91 = .ok (.lstore 4, 2) := dAt dlX6_flipped_0 52 rfl
theorem dX6_flipped_93 : decode cX6_flipped 93 = .ok (.iconst 1, 1) := dAt dlX6_flipped_0 53 rfl
theorem dX6_flipped_94 : decode cX6_flipped 94 = .ok (.istore 6, 2) := dAt dlX6_flipped_0 54 rfl
theorem dX6_flipped_96 : decode cX6_flipped 96 = .ok (.iinc 8 1, 3) := dAt dlX6_flipped_0 55 rfl
theorem dX6_flipped_99 : decode cX6_flipped 99 = .ok (.goto (-61), 3) := dAt dlX6_flipped_0 56 rfl
theorem dX6_flipped_102 : decode cX6_flipped 102 = .ok (.goto (-83), 3) := dAt dlX6_flipped_0 57 rfl
theorem dX6_flipped_105 : decode cX6_flipped 105 = .ok (.lload 4, 2) := dAt dlX6_flipped_0 58 rfl
theorem dX6_flipped_107 : decode cX6_flipped 107 = .ok (.lreturn, 1) := dAt dlX6_flipped_0 59 rfl
def ilX6_digest_0 : List (Nat × Instr × Nat) := [(0, .ldc2_w 185, 3), (3, .lstore_n 1, 1), (4, .iconst 0, 1), (5, .istore_n 3, 1), (6, .iload_n 3, 1), (7, .iconst 4, 1), (8, .if_icmp .ge 63, 3), (11, .ldc2_w 187, 3), (14, .lload_n 1, 1), (15, .lmul, 1), (16, .aload_n 0, 1), (17, .getfield 7, 3), (20, .iload_n 3, 1), (21, .iaload, 1), (22, .i2l, 1), (23, .ladd, 1), (24, .lstore_n 1, 1), (25, .iconst 0, 1), (26, .istore 4, 2), (28, .iload 4, 2), (30, .aload_n 0, 1), (31, .getfield 7, 3), (34, .iload_n 3, 1), (35, .iaload, 1), (36, .if_icmp .ge 29, 3), (39, .ldc2_w 187, 3), (42, .lload_n 1, 1), (43, .lmul, 1), (44, .aload_n 0, 1), (45, .getfield 13, 3), (48, .bipush 10, 2), (50, .iload_n 3, 1), (51, .imul, 1), (52, .iload 4, 2), (54, .iadd, 1), (55, .iaload, 1), (56, .i2l, 1), (57, .ladd, 1), (58, .lstore_n 1, 1), (59, .iinc 4 1, 3), (62, .goto (-34), 3), (65, .iinc 3 1, 3), (68, .goto (-62), 3), (71, .lload_n 1, 1), (72, .lreturn, 1)]
theorem dlX6_digest_0 : dOK cX6_digest ilX6_digest_0 = true := by decide +kernel
theorem dX6_digest_0 : decode cX6_digest 0 = .ok (.ldc2_w 185, 3) := dAt dlX6_digest_0 0 rfl
theorem dX6_digest_3 : decode cX6_digest 3 = .ok (.lstore_n 1, 1) := dAt dlX6_digest_0 1 rfl
theorem dX6_digest_4 : decode cX6_digest 4 = .ok (.iconst 0, 1) := dAt dlX6_digest_0 2 rfl
theorem dX6_digest_5 : decode cX6_digest 5 = .ok (.istore_n 3, 1) := dAt dlX6_digest_0 3 rfl
theorem dX6_digest_6 : decode cX6_digest 6 = .ok (.iload_n 3, 1) := dAt dlX6_digest_0 4 rfl
theorem dX6_digest_7 : decode cX6_digest 7 = .ok (.iconst 4, 1) := dAt dlX6_digest_0 5 rfl
theorem dX6_digest_8 : decode cX6_digest 8 = .ok (.if_icmp .ge 63, 3) := dAt dlX6_digest_0 6 rfl
theorem dX6_digest_11 : decode cX6_digest 11 = .ok (.ldc2_w 187, 3) := dAt dlX6_digest_0 7 rfl
theorem dX6_digest_14 : decode cX6_digest 14 = .ok (.lload_n 1, 1) := dAt dlX6_digest_0 8 rfl
theorem dX6_digest_15 : decode cX6_digest 15 = .ok (.lmul, 1) := dAt dlX6_digest_0 9 rfl
theorem dX6_digest_16 : decode cX6_digest 16 = .ok (.aload_n 0, 1) := dAt dlX6_digest_0 10 rfl
theorem dX6_digest_17 : decode cX6_digest 17 = .ok (.getfield 7, 3) := dAt dlX6_digest_0 11 rfl
theorem dX6_digest_20 : decode cX6_digest 20 = .ok (.iload_n 3, 1) := dAt dlX6_digest_0 12 rfl
theorem dX6_digest_21 : decode cX6_digest 21 = .ok (.iaload, 1) := dAt dlX6_digest_0 13 rfl
theorem dX6_digest_22 : decode cX6_digest 22 = .ok (.i2l, 1) := dAt dlX6_digest_0 14 rfl
theorem dX6_digest_23 : decode cX6_digest 23 = .ok (.ladd, 1) := dAt dlX6_digest_0 15 rfl
theorem dX6_digest_24 : decode cX6_digest 24 = .ok (.lstore_n 1, 1) := dAt dlX6_digest_0 16 rfl
theorem dX6_digest_25 : decode cX6_digest 25 = .ok (.iconst 0, 1) := dAt dlX6_digest_0 17 rfl
theorem dX6_digest_26 : decode cX6_digest 26 = .ok (.istore 4, 2) := dAt dlX6_digest_0 18 rfl
theorem dX6_digest_28 : decode cX6_digest 28 = .ok (.iload 4, 2) := dAt dlX6_digest_0 19 rfl
theorem dX6_digest_30 : decode cX6_digest 30 = .ok (.aload_n 0, 1) := dAt dlX6_digest_0 20 rfl
theorem dX6_digest_31 : decode cX6_digest 31 = .ok (.getfield 7, 3) := dAt dlX6_digest_0 21 rfl
theorem dX6_digest_34 : decode cX6_digest 34 = .ok (.iload_n 3, 1) := dAt dlX6_digest_0 22 rfl
theorem dX6_digest_35 : decode cX6_digest 35 = .ok (.iaload, 1) := dAt dlX6_digest_0 23 rfl
theorem dX6_digest_36 : decode cX6_digest 36 = .ok (.if_icmp .ge 29, 3) := dAt dlX6_digest_0 24 rfl
theorem dX6_digest_39 : decode cX6_digest 39 = .ok (.ldc2_w 187, 3) := dAt dlX6_digest_0 25 rfl
theorem dX6_digest_42 : decode cX6_digest 42 = .ok (.lload_n 1, 1) := dAt dlX6_digest_0 26 rfl
theorem dX6_digest_43 : decode cX6_digest 43 = .ok (.lmul, 1) := dAt dlX6_digest_0 27 rfl
theorem dX6_digest_44 : decode cX6_digest 44 = .ok (.aload_n 0, 1) := dAt dlX6_digest_0 28 rfl
theorem dX6_digest_45 : decode cX6_digest 45 = .ok (.getfield 13, 3) := dAt dlX6_digest_0 29 rfl
theorem dX6_digest_48 : decode cX6_digest 48 = .ok (.bipush 10, 2) := dAt dlX6_digest_0 30 rfl
theorem dX6_digest_50 : decode cX6_digest 50 = .ok (.iload_n 3, 1) := dAt dlX6_digest_0 31 rfl
theorem dX6_digest_51 : decode cX6_digest 51 = .ok (.imul, 1) := dAt dlX6_digest_0 32 rfl
theorem dX6_digest_52 : decode cX6_digest 52 = .ok (.iload 4, 2) := dAt dlX6_digest_0 33 rfl
theorem dX6_digest_54 : decode cX6_digest 54 = .ok (.iadd, 1) := dAt dlX6_digest_0 34 rfl
theorem dX6_digest_55 : decode cX6_digest 55 = .ok (.iaload, 1) := dAt dlX6_digest_0 35 rfl
theorem dX6_digest_56 : decode cX6_digest 56 = .ok (.i2l, 1) := dAt dlX6_digest_0 36 rfl
theorem dX6_digest_57 : decode cX6_digest 57 = .ok (.ladd, 1) := dAt dlX6_digest_0 37 rfl
theorem dX6_digest_58 : decode cX6_digest 58 = .ok (.lstore_n 1, 1) := dAt dlX6_digest_0 38 rfl
theorem dX6_digest_59 : decode cX6_digest 59 = .ok (.iinc 4 1, 3) := dAt dlX6_digest_0 39 rfl
theorem dX6_digest_62 : decode cX6_digest 62 = .ok (.goto (-34), 3) := dAt dlX6_digest_0 40 rfl
theorem dX6_digest_65 : decode cX6_digest 65 = .ok (.iinc 3 1, 3) := dAt dlX6_digest_0 41 rfl
theorem dX6_digest_68 : decode cX6_digest 68 = .ok (.goto (-62), 3) := dAt dlX6_digest_0 42 rfl
theorem dX6_digest_71 : decode cX6_digest 71 = .ok (.lload_n 1, 1) := dAt dlX6_digest_0 43 rfl
theorem dX6_digest_72 : decode cX6_digest 72 = .ok (.lreturn, 1) := dAt dlX6_digest_0 44 rfl
def ilJ6_bitCount_0f7a4_0 : List (Nat × Instr × Nat) := [(0, .iload_n 0, 1), (1, .iload_n 0, 1), (2, .iconst 1, 1), (3, .iushr, 1), (4, .ldc_w 265, 3), (7, .iand, 1), (8, .isub, 1), (9, .istore_n 0, 1), (10, .iload_n 0, 1), (11, .ldc_w 266, 3), (14, .iand, 1), (15, .iload_n 0, 1), (16, .iconst 2, 1), (17, .iushr, 1), (18, .ldc_w 266, 3), (21, .iand, 1), (22, .iadd, 1), (23, .istore_n 0, 1), (24, .iload_n 0, 1), (25, .iload_n 0, 1), (26, .iconst 4, 1), (27, .iushr, 1), (28, .iadd, 1), (29, .ldc_w 267, 3), (32, .iand, 1), (33, .istore_n 0, 1), (34, .iload_n 0, 1), (35, .iload_n 0, 1), (36, .bipush 8, 2), (38, .iushr, 1), (39, .iadd, 1), (40, .istore_n 0, 1), (41, .iload_n 0, 1), (42, .iload_n 0, 1), (43, .bipush 16, 2), (45, .iushr, 1), (46, .iadd, 1), (47, .istore_n 0, 1), (48, .iload_n 0, 1), (49, .bipush 63, 2), (51, .iand, 1), (52, .ireturn, 1)]
theorem dlJ6_bitCount_0f7a4_0 : dOK cJ6_bitCount_0f7a4 ilJ6_bitCount_0f7a4_0 = true := by decide +kernel
theorem dJ6_bitCount_0f7a4_0 : decode cJ6_bitCount_0f7a4 0 = .ok (.iload_n 0, 1) := dAt dlJ6_bitCount_0f7a4_0 0 rfl
theorem dJ6_bitCount_0f7a4_1 : decode cJ6_bitCount_0f7a4 1 = .ok (.iload_n 0, 1) := dAt dlJ6_bitCount_0f7a4_0 1 rfl
theorem dJ6_bitCount_0f7a4_2 : decode cJ6_bitCount_0f7a4 2 = .ok (.iconst 1, 1) := dAt dlJ6_bitCount_0f7a4_0 2 rfl
theorem dJ6_bitCount_0f7a4_3 : decode cJ6_bitCount_0f7a4 3 = .ok (.iushr, 1) := dAt dlJ6_bitCount_0f7a4_0 3 rfl
theorem dJ6_bitCount_0f7a4_4 : decode cJ6_bitCount_0f7a4 4 = .ok (.ldc_w 265, 3) := dAt dlJ6_bitCount_0f7a4_0 4 rfl
theorem dJ6_bitCount_0f7a4_7 : decode cJ6_bitCount_0f7a4 7 = .ok (.iand, 1) := dAt dlJ6_bitCount_0f7a4_0 5 rfl
theorem dJ6_bitCount_0f7a4_8 : decode cJ6_bitCount_0f7a4 8 = .ok (.isub, 1) := dAt dlJ6_bitCount_0f7a4_0 6 rfl
theorem dJ6_bitCount_0f7a4_9 : decode cJ6_bitCount_0f7a4 9 = .ok (.istore_n 0, 1) := dAt dlJ6_bitCount_0f7a4_0 7 rfl
theorem dJ6_bitCount_0f7a4_10 : decode cJ6_bitCount_0f7a4 10 = .ok (.iload_n 0, 1) := dAt dlJ6_bitCount_0f7a4_0 8 rfl
theorem dJ6_bitCount_0f7a4_11 : decode cJ6_bitCount_0f7a4 11 = .ok (.ldc_w 266, 3) := dAt dlJ6_bitCount_0f7a4_0 9 rfl
theorem dJ6_bitCount_0f7a4_14 : decode cJ6_bitCount_0f7a4 14 = .ok (.iand, 1) := dAt dlJ6_bitCount_0f7a4_0 10 rfl
theorem dJ6_bitCount_0f7a4_15 : decode cJ6_bitCount_0f7a4 15 = .ok (.iload_n 0, 1) := dAt dlJ6_bitCount_0f7a4_0 11 rfl
theorem dJ6_bitCount_0f7a4_16 : decode cJ6_bitCount_0f7a4 16 = .ok (.iconst 2, 1) := dAt dlJ6_bitCount_0f7a4_0 12 rfl
theorem dJ6_bitCount_0f7a4_17 : decode cJ6_bitCount_0f7a4 17 = .ok (.iushr, 1) := dAt dlJ6_bitCount_0f7a4_0 13 rfl
theorem dJ6_bitCount_0f7a4_18 : decode cJ6_bitCount_0f7a4 18 = .ok (.ldc_w 266, 3) := dAt dlJ6_bitCount_0f7a4_0 14 rfl
theorem dJ6_bitCount_0f7a4_21 : decode cJ6_bitCount_0f7a4 21 = .ok (.iand, 1) := dAt dlJ6_bitCount_0f7a4_0 15 rfl
theorem dJ6_bitCount_0f7a4_22 : decode cJ6_bitCount_0f7a4 22 = .ok (.iadd, 1) := dAt dlJ6_bitCount_0f7a4_0 16 rfl
theorem dJ6_bitCount_0f7a4_23 : decode cJ6_bitCount_0f7a4 23 = .ok (.istore_n 0, 1) := dAt dlJ6_bitCount_0f7a4_0 17 rfl
theorem dJ6_bitCount_0f7a4_24 : decode cJ6_bitCount_0f7a4 24 = .ok (.iload_n 0, 1) := dAt dlJ6_bitCount_0f7a4_0 18 rfl
theorem dJ6_bitCount_0f7a4_25 : decode cJ6_bitCount_0f7a4 25 = .ok (.iload_n 0, 1) := dAt dlJ6_bitCount_0f7a4_0 19 rfl
theorem dJ6_bitCount_0f7a4_26 : decode cJ6_bitCount_0f7a4 26 = .ok (.iconst 4, 1) := dAt dlJ6_bitCount_0f7a4_0 20 rfl
theorem dJ6_bitCount_0f7a4_27 : decode cJ6_bitCount_0f7a4 27 = .ok (.iushr, 1) := dAt dlJ6_bitCount_0f7a4_0 21 rfl
theorem dJ6_bitCount_0f7a4_28 : decode cJ6_bitCount_0f7a4 28 = .ok (.iadd, 1) := dAt dlJ6_bitCount_0f7a4_0 22 rfl
theorem dJ6_bitCount_0f7a4_29 : decode cJ6_bitCount_0f7a4 29 = .ok (.ldc_w 267, 3) := dAt dlJ6_bitCount_0f7a4_0 23 rfl
theorem dJ6_bitCount_0f7a4_32 : decode cJ6_bitCount_0f7a4 32 = .ok (.iand, 1) := dAt dlJ6_bitCount_0f7a4_0 24 rfl
theorem dJ6_bitCount_0f7a4_33 : decode cJ6_bitCount_0f7a4 33 = .ok (.istore_n 0, 1) := dAt dlJ6_bitCount_0f7a4_0 25 rfl
theorem dJ6_bitCount_0f7a4_34 : decode cJ6_bitCount_0f7a4 34 = .ok (.iload_n 0, 1) := dAt dlJ6_bitCount_0f7a4_0 26 rfl
theorem dJ6_bitCount_0f7a4_35 : decode cJ6_bitCount_0f7a4 35 = .ok (.iload_n 0, 1) := dAt dlJ6_bitCount_0f7a4_0 27 rfl
theorem dJ6_bitCount_0f7a4_36 : decode cJ6_bitCount_0f7a4 36 = .ok (.bipush 8, 2) := dAt dlJ6_bitCount_0f7a4_0 28 rfl
theorem dJ6_bitCount_0f7a4_38 : decode cJ6_bitCount_0f7a4 38 = .ok (.iushr, 1) := dAt dlJ6_bitCount_0f7a4_0 29 rfl
theorem dJ6_bitCount_0f7a4_39 : decode cJ6_bitCount_0f7a4 39 = .ok (.iadd, 1) := dAt dlJ6_bitCount_0f7a4_0 30 rfl
theorem dJ6_bitCount_0f7a4_40 : decode cJ6_bitCount_0f7a4 40 = .ok (.istore_n 0, 1) := dAt dlJ6_bitCount_0f7a4_0 31 rfl
theorem dJ6_bitCount_0f7a4_41 : decode cJ6_bitCount_0f7a4 41 = .ok (.iload_n 0, 1) := dAt dlJ6_bitCount_0f7a4_0 32 rfl
theorem dJ6_bitCount_0f7a4_42 : decode cJ6_bitCount_0f7a4 42 = .ok (.iload_n 0, 1) := dAt dlJ6_bitCount_0f7a4_0 33 rfl
theorem dJ6_bitCount_0f7a4_43 : decode cJ6_bitCount_0f7a4 43 = .ok (.bipush 16, 2) := dAt dlJ6_bitCount_0f7a4_0 34 rfl
theorem dJ6_bitCount_0f7a4_45 : decode cJ6_bitCount_0f7a4 45 = .ok (.iushr, 1) := dAt dlJ6_bitCount_0f7a4_0 35 rfl
theorem dJ6_bitCount_0f7a4_46 : decode cJ6_bitCount_0f7a4 46 = .ok (.iadd, 1) := dAt dlJ6_bitCount_0f7a4_0 36 rfl
theorem dJ6_bitCount_0f7a4_47 : decode cJ6_bitCount_0f7a4 47 = .ok (.istore_n 0, 1) := dAt dlJ6_bitCount_0f7a4_0 37 rfl
theorem dJ6_bitCount_0f7a4_48 : decode cJ6_bitCount_0f7a4 48 = .ok (.iload_n 0, 1) := dAt dlJ6_bitCount_0f7a4_0 38 rfl
theorem dJ6_bitCount_0f7a4_49 : decode cJ6_bitCount_0f7a4 49 = .ok (.bipush 63, 2) := dAt dlJ6_bitCount_0f7a4_0 39 rfl
theorem dJ6_bitCount_0f7a4_51 : decode cJ6_bitCount_0f7a4 51 = .ok (.iand, 1) := dAt dlJ6_bitCount_0f7a4_0 40 rfl
theorem dJ6_bitCount_0f7a4_52 : decode cJ6_bitCount_0f7a4 52 = .ok (.ireturn, 1) := dAt dlJ6_bitCount_0f7a4_0 41 rfl
def ilJ13_signum_95d88_0 : List (Nat × Instr × Nat) := [(0, .lload_n 0, 1), (1, .bipush 63, 2), (3, .lshr, 1), (4, .lload_n 0, 1), (5, .lneg, 1), (6, .bipush 63, 2), (8, .lushr, 1), (9, .lor, 1), (10, .l2i, 1), (11, .ireturn, 1)]
theorem dlJ13_signum_95d88_0 : dOK cJ13_signum_95d88 ilJ13_signum_95d88_0 = true := by decide +kernel
theorem dJ13_signum_95d88_0 : decode cJ13_signum_95d88 0 = .ok (.lload_n 0, 1) := dAt dlJ13_signum_95d88_0 0 rfl
theorem dJ13_signum_95d88_1 : decode cJ13_signum_95d88 1 = .ok (.bipush 63, 2) := dAt dlJ13_signum_95d88_0 1 rfl
theorem dJ13_signum_95d88_3 : decode cJ13_signum_95d88 3 = .ok (.lshr, 1) := dAt dlJ13_signum_95d88_0 2 rfl
theorem dJ13_signum_95d88_4 : decode cJ13_signum_95d88 4 = .ok (.lload_n 0, 1) := dAt dlJ13_signum_95d88_0 3 rfl
theorem dJ13_signum_95d88_5 : decode cJ13_signum_95d88 5 = .ok (.lneg, 1) := dAt dlJ13_signum_95d88_0 4 rfl
theorem dJ13_signum_95d88_6 : decode cJ13_signum_95d88 6 = .ok (.bipush 63, 2) := dAt dlJ13_signum_95d88_0 5 rfl
theorem dJ13_signum_95d88_8 : decode cJ13_signum_95d88 8 = .ok (.lushr, 1) := dAt dlJ13_signum_95d88_0 6 rfl
theorem dJ13_signum_95d88_9 : decode cJ13_signum_95d88 9 = .ok (.lor, 1) := dAt dlJ13_signum_95d88_0 7 rfl
theorem dJ13_signum_95d88_10 : decode cJ13_signum_95d88 10 = .ok (.l2i, 1) := dAt dlJ13_signum_95d88_0 8 rfl
theorem dJ13_signum_95d88_11 : decode cJ13_signum_95d88 11 = .ok (.ireturn, 1) := dAt dlJ13_signum_95d88_0 9 rfl
def ilJ9_abs_067f4_0 : List (Nat × Instr × Nat) := [(0, .lload_n 0, 1), (1, .lconst 0, 1), (2, .lcmp, 1), (3, .ifCond .ge 8, 3), (6, .lload_n 0, 1), (7, .lneg, 1), (8, .goto 4, 3), (11, .lload_n 0, 1), (12, .lreturn, 1)]
theorem dlJ9_abs_067f4_0 : dOK cJ9_abs_067f4 ilJ9_abs_067f4_0 = true := by decide +kernel
theorem dJ9_abs_067f4_0 : decode cJ9_abs_067f4 0 = .ok (.lload_n 0, 1) := dAt dlJ9_abs_067f4_0 0 rfl
theorem dJ9_abs_067f4_1 : decode cJ9_abs_067f4 1 = .ok (.lconst 0, 1) := dAt dlJ9_abs_067f4_0 1 rfl
theorem dJ9_abs_067f4_2 : decode cJ9_abs_067f4 2 = .ok (.lcmp, 1) := dAt dlJ9_abs_067f4_0 2 rfl
theorem dJ9_abs_067f4_3 : decode cJ9_abs_067f4 3 = .ok (.ifCond .ge 8, 3) := dAt dlJ9_abs_067f4_0 3 rfl
theorem dJ9_abs_067f4_6 : decode cJ9_abs_067f4 6 = .ok (.lload_n 0, 1) := dAt dlJ9_abs_067f4_0 4 rfl
theorem dJ9_abs_067f4_7 : decode cJ9_abs_067f4 7 = .ok (.lneg, 1) := dAt dlJ9_abs_067f4_0 5 rfl
theorem dJ9_abs_067f4_8 : decode cJ9_abs_067f4 8 = .ok (.goto 4, 3) := dAt dlJ9_abs_067f4_0 6 rfl
theorem dJ9_abs_067f4_11 : decode cJ9_abs_067f4 11 = .ok (.lload_n 0, 1) := dAt dlJ9_abs_067f4_0 7 rfl
theorem dJ9_abs_067f4_12 : decode cJ9_abs_067f4 12 = .ok (.lreturn, 1) := dAt dlJ9_abs_067f4_0 8 rfl
def ilJ9_max_7cf53_0 : List (Nat × Instr × Nat) := [(0, .iload_n 0, 1), (1, .iload_n 1, 1), (2, .if_icmp .lt 7, 3), (5, .iload_n 0, 1), (6, .goto 4, 3), (9, .iload_n 1, 1), (10, .ireturn, 1)]
theorem dlJ9_max_7cf53_0 : dOK cJ9_max_7cf53 ilJ9_max_7cf53_0 = true := by decide +kernel
theorem dJ9_max_7cf53_0 : decode cJ9_max_7cf53 0 = .ok (.iload_n 0, 1) := dAt dlJ9_max_7cf53_0 0 rfl
theorem dJ9_max_7cf53_1 : decode cJ9_max_7cf53 1 = .ok (.iload_n 1, 1) := dAt dlJ9_max_7cf53_0 1 rfl
theorem dJ9_max_7cf53_2 : decode cJ9_max_7cf53 2 = .ok (.if_icmp .lt 7, 3) := dAt dlJ9_max_7cf53_0 2 rfl
theorem dJ9_max_7cf53_5 : decode cJ9_max_7cf53 5 = .ok (.iload_n 0, 1) := dAt dlJ9_max_7cf53_0 3 rfl
theorem dJ9_max_7cf53_6 : decode cJ9_max_7cf53 6 = .ok (.goto 4, 3) := dAt dlJ9_max_7cf53_0 4 rfl
theorem dJ9_max_7cf53_9 : decode cJ9_max_7cf53 9 = .ok (.iload_n 1, 1) := dAt dlJ9_max_7cf53_0 5 rfl
theorem dJ9_max_7cf53_10 : decode cJ9_max_7cf53 10 = .ok (.ireturn, 1) := dAt dlJ9_max_7cf53_0 6 rfl
def ilJ9_min_7cf53_0 : List (Nat × Instr × Nat) := [(0, .iload_n 0, 1), (1, .iload_n 1, 1), (2, .if_icmp .gt 7, 3), (5, .iload_n 0, 1), (6, .goto 4, 3), (9, .iload_n 1, 1), (10, .ireturn, 1)]
theorem dlJ9_min_7cf53_0 : dOK cJ9_min_7cf53 ilJ9_min_7cf53_0 = true := by decide +kernel
theorem dJ9_min_7cf53_0 : decode cJ9_min_7cf53 0 = .ok (.iload_n 0, 1) := dAt dlJ9_min_7cf53_0 0 rfl
theorem dJ9_min_7cf53_1 : decode cJ9_min_7cf53 1 = .ok (.iload_n 1, 1) := dAt dlJ9_min_7cf53_0 1 rfl
theorem dJ9_min_7cf53_2 : decode cJ9_min_7cf53 2 = .ok (.if_icmp .gt 7, 3) := dAt dlJ9_min_7cf53_0 2 rfl
theorem dJ9_min_7cf53_5 : decode cJ9_min_7cf53 5 = .ok (.iload_n 0, 1) := dAt dlJ9_min_7cf53_0 3 rfl
theorem dJ9_min_7cf53_6 : decode cJ9_min_7cf53 6 = .ok (.goto 4, 3) := dAt dlJ9_min_7cf53_0 4 rfl
theorem dJ9_min_7cf53_9 : decode cJ9_min_7cf53 9 = .ok (.iload_n 1, 1) := dAt dlJ9_min_7cf53_0 5 rfl
theorem dJ9_min_7cf53_10 : decode cJ9_min_7cf53 10 = .ok (.ireturn, 1) := dAt dlJ9_min_7cf53_0 6 rfl
def ilJ7_fill_d0a16_0 : List (Nat × Instr × Nat) := [(0, .iconst 0, 1), (1, .istore_n 3, 1), (2, .aload_n 0, 1), (3, .arraylength, 1), (4, .istore 4, 2), (6, .iload_n 3, 1), (7, .iload 4, 2), (9, .if_icmp .ge 13, 3), (12, .aload_n 0, 1), (13, .iload_n 3, 1), (14, .lload_n 1, 1), (15, .lastore, 1), (16, .iinc 3 1, 3), (19, .goto (-13), 3), (22, .return_, 1)]
theorem dlJ7_fill_d0a16_0 : dOK cJ7_fill_d0a16 ilJ7_fill_d0a16_0 = true := by decide +kernel
theorem dJ7_fill_d0a16_0 : decode cJ7_fill_d0a16 0 = .ok (.iconst 0, 1) := dAt dlJ7_fill_d0a16_0 0 rfl
theorem dJ7_fill_d0a16_1 : decode cJ7_fill_d0a16 1 = .ok (.istore_n 3, 1) := dAt dlJ7_fill_d0a16_0 1 rfl
theorem dJ7_fill_d0a16_2 : decode cJ7_fill_d0a16 2 = .ok (.aload_n 0, 1) := dAt dlJ7_fill_d0a16_0 2 rfl
theorem dJ7_fill_d0a16_3 : decode cJ7_fill_d0a16 3 = .ok (.arraylength, 1) := dAt dlJ7_fill_d0a16_0 3 rfl
theorem dJ7_fill_d0a16_4 : decode cJ7_fill_d0a16 4 = .ok (.istore 4, 2) := dAt dlJ7_fill_d0a16_0 4 rfl
theorem dJ7_fill_d0a16_6 : decode cJ7_fill_d0a16 6 = .ok (.iload_n 3, 1) := dAt dlJ7_fill_d0a16_0 5 rfl
theorem dJ7_fill_d0a16_7 : decode cJ7_fill_d0a16 7 = .ok (.iload 4, 2) := dAt dlJ7_fill_d0a16_0 6 rfl
theorem dJ7_fill_d0a16_9 : decode cJ7_fill_d0a16 9 = .ok (.if_icmp .ge 13, 3) := dAt dlJ7_fill_d0a16_0 7 rfl
theorem dJ7_fill_d0a16_12 : decode cJ7_fill_d0a16 12 = .ok (.aload_n 0, 1) := dAt dlJ7_fill_d0a16_0 8 rfl
theorem dJ7_fill_d0a16_13 : decode cJ7_fill_d0a16 13 = .ok (.iload_n 3, 1) := dAt dlJ7_fill_d0a16_0 9 rfl
theorem dJ7_fill_d0a16_14 : decode cJ7_fill_d0a16 14 = .ok (.lload_n 1, 1) := dAt dlJ7_fill_d0a16_0 10 rfl
theorem dJ7_fill_d0a16_15 : decode cJ7_fill_d0a16 15 = .ok (.lastore, 1) := dAt dlJ7_fill_d0a16_0 11 rfl
theorem dJ7_fill_d0a16_16 : decode cJ7_fill_d0a16 16 = .ok (.iinc 3 1, 3) := dAt dlJ7_fill_d0a16_0 12 rfl
theorem dJ7_fill_d0a16_19 : decode cJ7_fill_d0a16 19 = .ok (.goto (-13), 3) := dAt dlJ7_fill_d0a16_0 13 rfl
theorem dJ7_fill_d0a16_22 : decode cJ7_fill_d0a16 22 = .ok (.return_, 1) := dAt dlJ7_fill_d0a16_0 14 rfl
def ilJ7_fill_53178_0 : List (Nat × Instr × Nat) := [(0, .iconst 0, 1), (1, .istore_n 2, 1), (2, .aload_n 0, 1), (3, .arraylength, 1), (4, .istore_n 3, 1), (5, .iload_n 2, 1), (6, .iload_n 3, 1), (7, .if_icmp .ge 13, 3), (10, .aload_n 0, 1), (11, .iload_n 2, 1), (12, .iload_n 1, 1), (13, .iastore, 1), (14, .iinc 2 1, 3), (17, .goto (-12), 3), (20, .return_, 1)]
theorem dlJ7_fill_53178_0 : dOK cJ7_fill_53178 ilJ7_fill_53178_0 = true := by decide +kernel
theorem dJ7_fill_53178_0 : decode cJ7_fill_53178 0 = .ok (.iconst 0, 1) := dAt dlJ7_fill_53178_0 0 rfl
theorem dJ7_fill_53178_1 : decode cJ7_fill_53178 1 = .ok (.istore_n 2, 1) := dAt dlJ7_fill_53178_0 1 rfl
theorem dJ7_fill_53178_2 : decode cJ7_fill_53178 2 = .ok (.aload_n 0, 1) := dAt dlJ7_fill_53178_0 2 rfl
theorem dJ7_fill_53178_3 : decode cJ7_fill_53178 3 = .ok (.arraylength, 1) := dAt dlJ7_fill_53178_0 3 rfl
theorem dJ7_fill_53178_4 : decode cJ7_fill_53178 4 = .ok (.istore_n 3, 1) := dAt dlJ7_fill_53178_0 4 rfl
theorem dJ7_fill_53178_5 : decode cJ7_fill_53178 5 = .ok (.iload_n 2, 1) := dAt dlJ7_fill_53178_0 5 rfl
theorem dJ7_fill_53178_6 : decode cJ7_fill_53178 6 = .ok (.iload_n 3, 1) := dAt dlJ7_fill_53178_0 6 rfl
theorem dJ7_fill_53178_7 : decode cJ7_fill_53178 7 = .ok (.if_icmp .ge 13, 3) := dAt dlJ7_fill_53178_0 7 rfl
theorem dJ7_fill_53178_10 : decode cJ7_fill_53178 10 = .ok (.aload_n 0, 1) := dAt dlJ7_fill_53178_0 8 rfl
theorem dJ7_fill_53178_11 : decode cJ7_fill_53178 11 = .ok (.iload_n 2, 1) := dAt dlJ7_fill_53178_0 9 rfl
theorem dJ7_fill_53178_12 : decode cJ7_fill_53178 12 = .ok (.iload_n 1, 1) := dAt dlJ7_fill_53178_0 10 rfl
theorem dJ7_fill_53178_13 : decode cJ7_fill_53178 13 = .ok (.iastore, 1) := dAt dlJ7_fill_53178_0 11 rfl
theorem dJ7_fill_53178_14 : decode cJ7_fill_53178 14 = .ok (.iinc 2 1, 3) := dAt dlJ7_fill_53178_0 12 rfl
theorem dJ7_fill_53178_17 : decode cJ7_fill_53178 17 = .ok (.goto (-12), 3) := dAt dlJ7_fill_53178_0 13 rfl
theorem dJ7_fill_53178_20 : decode cJ7_fill_53178 20 = .ok (.return_, 1) := dAt dlJ7_fill_53178_0 14 rfl
def ilL_law_0 : List (Nat × Instr × Nat) := [(0, .new 7, 3), (3, .dup, 1), (4, .invokespecial 9, 3), (7, .astore_n 1, 1), (8, .new 10, 3), (11, .dup, 1), (12, .invokespecial 12, 3), (15, .astore_n 2, 1), (16, .iconst 0, 1), (17, .istore_n 3, 1), (18, .iload_n 3, 1), (19, .aload_n 0, 1), (20, .arraylength, 1), (21, .iconst 5, 1), (22, .isub, 1), (23, .if_icmp .gt 1021, 3), (26, .aload_n 0, 1), (27, .iload_n 3, 1), (28, .iaload, 1), (29, .bipush 31, 2), (31, .iand, 1), (32, .tableswitch 1006 0 21 #[104, 137, 206, 249, 292, 325, 358, 391, 434, 493, 536, 579, 602, 635, 658, 712, 756, 799, 842, 865, 928, 992], 104), (136, .aload_n 1, 1), (137, .aload_n 0, 1), (138, .iload_n 3, 1), (139, .iconst 1, 1), (140, .iadd, 1), (141, .iaload, 1), (142, .aload_n 0, 1), (143, .iload_n 3, 1), (144, .iconst 2, 1), (145, .iadd, 1), (146, .iaload, 1), (147, .invokevirtual 13, 3), (150, .aload_n 2, 1), (151, .aload_n 0, 1), (152, .iload_n 3, 1), (153, .iconst 1, 1), (154, .iadd, 1), (155, .iaload, 1), (156, .aload_n 0, 1), (157, .iload_n 3, 1), (158, .iconst 2, 1), (159, .iadd, 1), (160, .iaload, 1), (161, .invokevirtual 17, 3), (164, .if_icmp .eq 874, 3), (167, .iconst 0, 1), (168, .ireturn, 1), (169, .aload_n 1, 1), (170, .aload_n 0, 1), (171, .iload_n 3, 1), (172, .iconst 1, 1), (173, .iadd, 1), (174, .iaload, 1), (175, .aload_n 0, 1), (176, .iload_n 3, 1), (177, .iconst 2, 1), (178, .iadd, 1), (179, .iaload, 1)]
theorem dlL_law_0 : dOK cL_law ilL_law_0 = true := by decide +kernel
theorem dL_law_0 : decode cL_law 0 = .ok (.new 7, 3) := dAt dlL_law_0 0 rfl
theorem dL_law_3 : decode cL_law 3 = .ok (.dup, 1) := dAt dlL_law_0 1 rfl
theorem dL_law_4 : decode cL_law 4 = .ok (.invokespecial 9, 3) := dAt dlL_law_0 2 rfl
theorem dL_law_7 : decode cL_law 7 = .ok (.astore_n 1, 1) := dAt dlL_law_0 3 rfl
theorem dL_law_8 : decode cL_law 8 = .ok (.new 10, 3) := dAt dlL_law_0 4 rfl
theorem dL_law_11 : decode cL_law 11 = .ok (.dup, 1) := dAt dlL_law_0 5 rfl
theorem dL_law_12 : decode cL_law 12 = .ok (.invokespecial 12, 3) := dAt dlL_law_0 6 rfl
theorem dL_law_15 : decode cL_law 15 = .ok (.astore_n 2, 1) := dAt dlL_law_0 7 rfl
theorem dL_law_16 : decode cL_law 16 = .ok (.iconst 0, 1) := dAt dlL_law_0 8 rfl
theorem dL_law_17 : decode cL_law 17 = .ok (.istore_n 3, 1) := dAt dlL_law_0 9 rfl
theorem dL_law_18 : decode cL_law 18 = .ok (.iload_n 3, 1) := dAt dlL_law_0 10 rfl
theorem dL_law_19 : decode cL_law 19 = .ok (.aload_n 0, 1) := dAt dlL_law_0 11 rfl
theorem dL_law_20 : decode cL_law 20 = .ok (.arraylength, 1) := dAt dlL_law_0 12 rfl
theorem dL_law_21 : decode cL_law 21 = .ok (.iconst 5, 1) := dAt dlL_law_0 13 rfl
theorem dL_law_22 : decode cL_law 22 = .ok (.isub, 1) := dAt dlL_law_0 14 rfl
theorem dL_law_23 : decode cL_law 23 = .ok (.if_icmp .gt 1021, 3) := dAt dlL_law_0 15 rfl
theorem dL_law_26 : decode cL_law 26 = .ok (.aload_n 0, 1) := dAt dlL_law_0 16 rfl
theorem dL_law_27 : decode cL_law 27 = .ok (.iload_n 3, 1) := dAt dlL_law_0 17 rfl
theorem dL_law_28 : decode cL_law 28 = .ok (.iaload, 1) := dAt dlL_law_0 18 rfl
theorem dL_law_29 : decode cL_law 29 = .ok (.bipush 31, 2) := dAt dlL_law_0 19 rfl
theorem dL_law_31 : decode cL_law 31 = .ok (.iand, 1) := dAt dlL_law_0 20 rfl
theorem dL_law_32 : decode cL_law 32 = .ok (.tableswitch 1006 0 21 #[104, 137, 206, 249, 292, 325, 358, 391, 434, 493, 536, 579, 602, 635, 658, 712, 756, 799, 842, 865, 928, 992], 104) := dAt dlL_law_0 21 rfl
theorem dL_law_136 : decode cL_law 136 = .ok (.aload_n 1, 1) := dAt dlL_law_0 22 rfl
theorem dL_law_137 : decode cL_law 137 = .ok (.aload_n 0, 1) := dAt dlL_law_0 23 rfl
theorem dL_law_138 : decode cL_law 138 = .ok (.iload_n 3, 1) := dAt dlL_law_0 24 rfl
theorem dL_law_139 : decode cL_law 139 = .ok (.iconst 1, 1) := dAt dlL_law_0 25 rfl
theorem dL_law_140 : decode cL_law 140 = .ok (.iadd, 1) := dAt dlL_law_0 26 rfl
theorem dL_law_141 : decode cL_law 141 = .ok (.iaload, 1) := dAt dlL_law_0 27 rfl
theorem dL_law_142 : decode cL_law 142 = .ok (.aload_n 0, 1) := dAt dlL_law_0 28 rfl
theorem dL_law_143 : decode cL_law 143 = .ok (.iload_n 3, 1) := dAt dlL_law_0 29 rfl
theorem dL_law_144 : decode cL_law 144 = .ok (.iconst 2, 1) := dAt dlL_law_0 30 rfl
theorem dL_law_145 : decode cL_law 145 = .ok (.iadd, 1) := dAt dlL_law_0 31 rfl
theorem dL_law_146 : decode cL_law 146 = .ok (.iaload, 1) := dAt dlL_law_0 32 rfl
theorem dL_law_147 : decode cL_law 147 = .ok (.invokevirtual 13, 3) := dAt dlL_law_0 33 rfl
theorem dL_law_150 : decode cL_law 150 = .ok (.aload_n 2, 1) := dAt dlL_law_0 34 rfl
theorem dL_law_151 : decode cL_law 151 = .ok (.aload_n 0, 1) := dAt dlL_law_0 35 rfl
theorem dL_law_152 : decode cL_law 152 = .ok (.iload_n 3, 1) := dAt dlL_law_0 36 rfl
theorem dL_law_153 : decode cL_law 153 = .ok (.iconst 1, 1) := dAt dlL_law_0 37 rfl
theorem dL_law_154 : decode cL_law 154 = .ok (.iadd, 1) := dAt dlL_law_0 38 rfl
theorem dL_law_155 : decode cL_law 155 = .ok (.iaload, 1) := dAt dlL_law_0 39 rfl
theorem dL_law_156 : decode cL_law 156 = .ok (.aload_n 0, 1) := dAt dlL_law_0 40 rfl
theorem dL_law_157 : decode cL_law 157 = .ok (.iload_n 3, 1) := dAt dlL_law_0 41 rfl
theorem dL_law_158 : decode cL_law 158 = .ok (.iconst 2, 1) := dAt dlL_law_0 42 rfl
theorem dL_law_159 : decode cL_law 159 = .ok (.iadd, 1) := dAt dlL_law_0 43 rfl
theorem dL_law_160 : decode cL_law 160 = .ok (.iaload, 1) := dAt dlL_law_0 44 rfl
theorem dL_law_161 : decode cL_law 161 = .ok (.invokevirtual 17, 3) := dAt dlL_law_0 45 rfl
theorem dL_law_164 : decode cL_law 164 = .ok (.if_icmp .eq 874, 3) := dAt dlL_law_0 46 rfl
theorem dL_law_167 : decode cL_law 167 = .ok (.iconst 0, 1) := dAt dlL_law_0 47 rfl
theorem dL_law_168 : decode cL_law 168 = .ok (.ireturn, 1) := dAt dlL_law_0 48 rfl
theorem dL_law_169 : decode cL_law 169 = .ok (.aload_n 1, 1) := dAt dlL_law_0 49 rfl
theorem dL_law_170 : decode cL_law 170 = .ok (.aload_n 0, 1) := dAt dlL_law_0 50 rfl
theorem dL_law_171 : decode cL_law 171 = .ok (.iload_n 3, 1) := dAt dlL_law_0 51 rfl
theorem dL_law_172 : decode cL_law 172 = .ok (.iconst 1, 1) := dAt dlL_law_0 52 rfl
theorem dL_law_173 : decode cL_law 173 = .ok (.iadd, 1) := dAt dlL_law_0 53 rfl
theorem dL_law_174 : decode cL_law 174 = .ok (.iaload, 1) := dAt dlL_law_0 54 rfl
theorem dL_law_175 : decode cL_law 175 = .ok (.aload_n 0, 1) := dAt dlL_law_0 55 rfl
theorem dL_law_176 : decode cL_law 176 = .ok (.iload_n 3, 1) := dAt dlL_law_0 56 rfl
theorem dL_law_177 : decode cL_law 177 = .ok (.iconst 2, 1) := dAt dlL_law_0 57 rfl
theorem dL_law_178 : decode cL_law 178 = .ok (.iadd, 1) := dAt dlL_law_0 58 rfl
theorem dL_law_179 : decode cL_law 179 = .ok (.iaload, 1) := dAt dlL_law_0 59 rfl
def ilL_law_1 : List (Nat × Instr × Nat) := [(180, .aload_n 0, 1), (181, .iload_n 3, 1), (182, .iconst 3, 1), (183, .iadd, 1), (184, .iaload, 1), (185, .aload_n 0, 1), (186, .iload_n 3, 1), (187, .iconst 4, 1), (188, .iadd, 1), (189, .iaload, 1), (190, .ifCond .eq 7, 3), (193, .iconst 1, 1), (194, .goto 4, 3), (197, .iconst 0, 1), (198, .invokevirtual 18, 3), (201, .aload_n 2, 1), (202, .aload_n 0, 1), (203, .iload_n 3, 1), (204, .iconst 1, 1), (205, .iadd, 1), (206, .iaload, 1), (207, .aload_n 0, 1), (208, .iload_n 3, 1), (209, .iconst 2, 1), (210, .iadd, 1), (211, .iaload, 1), (212, .aload_n 0, 1), (213, .iload_n 3, 1), (214, .iconst 3, 1), (215, .iadd, 1), (216, .iaload, 1), (217, .aload_n 0, 1), (218, .iload_n 3, 1), (219, .iconst 4, 1), (220, .iadd, 1), (221, .iaload, 1), (222, .ifCond .eq 7, 3), (225, .iconst 1, 1), (226, .goto 4, 3), (229, .iconst 0, 1), (230, .invokevirtual 22, 3), (233, .if_icmp .eq 805, 3), (236, .iconst 0, 1), (237, .ireturn, 1), (238, .aload_n 1, 1), (239, .aload_n 0, 1), (240, .iload_n 3, 1), (241, .iconst 1, 1), (242, .iadd, 1), (243, .iaload, 1), (244, .aload_n 0, 1), (245, .iload_n 3, 1), (246, .iconst 2, 1), (247, .iadd, 1), (248, .iaload, 1), (249, .aload_n 0, 1), (250, .iload_n 3, 1), (251, .iconst 3, 1), (252, .iadd, 1), (253, .iaload, 1)]
theorem dlL_law_1 : dOK cL_law ilL_law_1 = true := by decide +kernel
theorem dL_law_180 : decode cL_law 180 = .ok (.aload_n 0, 1) := dAt dlL_law_1 0 rfl
theorem dL_law_181 : decode cL_law 181 = .ok (.iload_n 3, 1) := dAt dlL_law_1 1 rfl
theorem dL_law_182 : decode cL_law 182 = .ok (.iconst 3, 1) := dAt dlL_law_1 2 rfl
theorem dL_law_183 : decode cL_law 183 = .ok (.iadd, 1) := dAt dlL_law_1 3 rfl
theorem dL_law_184 : decode cL_law 184 = .ok (.iaload, 1) := dAt dlL_law_1 4 rfl
theorem dL_law_185 : decode cL_law 185 = .ok (.aload_n 0, 1) := dAt dlL_law_1 5 rfl
theorem dL_law_186 : decode cL_law 186 = .ok (.iload_n 3, 1) := dAt dlL_law_1 6 rfl
theorem dL_law_187 : decode cL_law 187 = .ok (.iconst 4, 1) := dAt dlL_law_1 7 rfl
theorem dL_law_188 : decode cL_law 188 = .ok (.iadd, 1) := dAt dlL_law_1 8 rfl
theorem dL_law_189 : decode cL_law 189 = .ok (.iaload, 1) := dAt dlL_law_1 9 rfl
theorem dL_law_190 : decode cL_law 190 = .ok (.ifCond .eq 7, 3) := dAt dlL_law_1 10 rfl
theorem dL_law_193 : decode cL_law 193 = .ok (.iconst 1, 1) := dAt dlL_law_1 11 rfl
theorem dL_law_194 : decode cL_law 194 = .ok (.goto 4, 3) := dAt dlL_law_1 12 rfl
theorem dL_law_197 : decode cL_law 197 = .ok (.iconst 0, 1) := dAt dlL_law_1 13 rfl
theorem dL_law_198 : decode cL_law 198 = .ok (.invokevirtual 18, 3) := dAt dlL_law_1 14 rfl
theorem dL_law_201 : decode cL_law 201 = .ok (.aload_n 2, 1) := dAt dlL_law_1 15 rfl
theorem dL_law_202 : decode cL_law 202 = .ok (.aload_n 0, 1) := dAt dlL_law_1 16 rfl
theorem dL_law_203 : decode cL_law 203 = .ok (.iload_n 3, 1) := dAt dlL_law_1 17 rfl
theorem dL_law_204 : decode cL_law 204 = .ok (.iconst 1, 1) := dAt dlL_law_1 18 rfl
theorem dL_law_205 : decode cL_law 205 = .ok (.iadd, 1) := dAt dlL_law_1 19 rfl
theorem dL_law_206 : decode cL_law 206 = .ok (.iaload, 1) := dAt dlL_law_1 20 rfl
theorem dL_law_207 : decode cL_law 207 = .ok (.aload_n 0, 1) := dAt dlL_law_1 21 rfl
theorem dL_law_208 : decode cL_law 208 = .ok (.iload_n 3, 1) := dAt dlL_law_1 22 rfl
theorem dL_law_209 : decode cL_law 209 = .ok (.iconst 2, 1) := dAt dlL_law_1 23 rfl
theorem dL_law_210 : decode cL_law 210 = .ok (.iadd, 1) := dAt dlL_law_1 24 rfl
theorem dL_law_211 : decode cL_law 211 = .ok (.iaload, 1) := dAt dlL_law_1 25 rfl
theorem dL_law_212 : decode cL_law 212 = .ok (.aload_n 0, 1) := dAt dlL_law_1 26 rfl
theorem dL_law_213 : decode cL_law 213 = .ok (.iload_n 3, 1) := dAt dlL_law_1 27 rfl
theorem dL_law_214 : decode cL_law 214 = .ok (.iconst 3, 1) := dAt dlL_law_1 28 rfl
theorem dL_law_215 : decode cL_law 215 = .ok (.iadd, 1) := dAt dlL_law_1 29 rfl
theorem dL_law_216 : decode cL_law 216 = .ok (.iaload, 1) := dAt dlL_law_1 30 rfl
theorem dL_law_217 : decode cL_law 217 = .ok (.aload_n 0, 1) := dAt dlL_law_1 31 rfl
theorem dL_law_218 : decode cL_law 218 = .ok (.iload_n 3, 1) := dAt dlL_law_1 32 rfl
theorem dL_law_219 : decode cL_law 219 = .ok (.iconst 4, 1) := dAt dlL_law_1 33 rfl
theorem dL_law_220 : decode cL_law 220 = .ok (.iadd, 1) := dAt dlL_law_1 34 rfl
theorem dL_law_221 : decode cL_law 221 = .ok (.iaload, 1) := dAt dlL_law_1 35 rfl
theorem dL_law_222 : decode cL_law 222 = .ok (.ifCond .eq 7, 3) := dAt dlL_law_1 36 rfl
theorem dL_law_225 : decode cL_law 225 = .ok (.iconst 1, 1) := dAt dlL_law_1 37 rfl
theorem dL_law_226 : decode cL_law 226 = .ok (.goto 4, 3) := dAt dlL_law_1 38 rfl
theorem dL_law_229 : decode cL_law 229 = .ok (.iconst 0, 1) := dAt dlL_law_1 39 rfl
theorem dL_law_230 : decode cL_law 230 = .ok (.invokevirtual 22, 3) := dAt dlL_law_1 40 rfl
theorem dL_law_233 : decode cL_law 233 = .ok (.if_icmp .eq 805, 3) := dAt dlL_law_1 41 rfl
theorem dL_law_236 : decode cL_law 236 = .ok (.iconst 0, 1) := dAt dlL_law_1 42 rfl
theorem dL_law_237 : decode cL_law 237 = .ok (.ireturn, 1) := dAt dlL_law_1 43 rfl
theorem dL_law_238 : decode cL_law 238 = .ok (.aload_n 1, 1) := dAt dlL_law_1 44 rfl
theorem dL_law_239 : decode cL_law 239 = .ok (.aload_n 0, 1) := dAt dlL_law_1 45 rfl
theorem dL_law_240 : decode cL_law 240 = .ok (.iload_n 3, 1) := dAt dlL_law_1 46 rfl
theorem dL_law_241 : decode cL_law 241 = .ok (.iconst 1, 1) := dAt dlL_law_1 47 rfl
theorem dL_law_242 : decode cL_law 242 = .ok (.iadd, 1) := dAt dlL_law_1 48 rfl
theorem dL_law_243 : decode cL_law 243 = .ok (.iaload, 1) := dAt dlL_law_1 49 rfl
theorem dL_law_244 : decode cL_law 244 = .ok (.aload_n 0, 1) := dAt dlL_law_1 50 rfl
theorem dL_law_245 : decode cL_law 245 = .ok (.iload_n 3, 1) := dAt dlL_law_1 51 rfl
theorem dL_law_246 : decode cL_law 246 = .ok (.iconst 2, 1) := dAt dlL_law_1 52 rfl
theorem dL_law_247 : decode cL_law 247 = .ok (.iadd, 1) := dAt dlL_law_1 53 rfl
theorem dL_law_248 : decode cL_law 248 = .ok (.iaload, 1) := dAt dlL_law_1 54 rfl
theorem dL_law_249 : decode cL_law 249 = .ok (.aload_n 0, 1) := dAt dlL_law_1 55 rfl
theorem dL_law_250 : decode cL_law 250 = .ok (.iload_n 3, 1) := dAt dlL_law_1 56 rfl
theorem dL_law_251 : decode cL_law 251 = .ok (.iconst 3, 1) := dAt dlL_law_1 57 rfl
theorem dL_law_252 : decode cL_law 252 = .ok (.iadd, 1) := dAt dlL_law_1 58 rfl
theorem dL_law_253 : decode cL_law 253 = .ok (.iaload, 1) := dAt dlL_law_1 59 rfl
def ilL_law_2 : List (Nat × Instr × Nat) := [(254, .invokevirtual 23, 3), (257, .aload_n 2, 1), (258, .aload_n 0, 1), (259, .iload_n 3, 1), (260, .iconst 1, 1), (261, .iadd, 1), (262, .iaload, 1), (263, .aload_n 0, 1), (264, .iload_n 3, 1), (265, .iconst 2, 1), (266, .iadd, 1), (267, .iaload, 1), (268, .aload_n 0, 1), (269, .iload_n 3, 1), (270, .iconst 3, 1), (271, .iadd, 1), (272, .iaload, 1), (273, .invokevirtual 27, 3), (276, .if_icmp .eq 762, 3), (279, .iconst 0, 1), (280, .ireturn, 1), (281, .aload_n 1, 1), (282, .aload_n 0, 1), (283, .iload_n 3, 1), (284, .iconst 1, 1), (285, .iadd, 1), (286, .iaload, 1), (287, .aload_n 0, 1), (288, .iload_n 3, 1), (289, .iconst 2, 1), (290, .iadd, 1), (291, .iaload, 1), (292, .aload_n 0, 1), (293, .iload_n 3, 1), (294, .iconst 3, 1), (295, .iadd, 1), (296, .iaload, 1), (297, .invokevirtual 28, 3), (300, .aload_n 2, 1), (301, .aload_n 0, 1), (302, .iload_n 3, 1), (303, .iconst 1, 1), (304, .iadd, 1), (305, .iaload, 1), (306, .aload_n 0, 1), (307, .iload_n 3, 1), (308, .iconst 2, 1), (309, .iadd, 1), (310, .iaload, 1), (311, .aload_n 0, 1), (312, .iload_n 3, 1), (313, .iconst 3, 1), (314, .iadd, 1), (315, .iaload, 1), (316, .invokevirtual 31, 3), (319, .if_icmp .eq 719, 3), (322, .iconst 0, 1), (323, .ireturn, 1), (324, .aload_n 1, 1), (325, .aload_n 0, 1)]
theorem dlL_law_2 : dOK cL_law ilL_law_2 = true := by decide +kernel
theorem dL_law_254 : decode cL_law 254 = .ok (.invokevirtual 23, 3) := dAt dlL_law_2 0 rfl
theorem dL_law_257 : decode cL_law 257 = .ok (.aload_n 2, 1) := dAt dlL_law_2 1 rfl
theorem dL_law_258 : decode cL_law 258 = .ok (.aload_n 0, 1) := dAt dlL_law_2 2 rfl
theorem dL_law_259 : decode cL_law 259 = .ok (.iload_n 3, 1) := dAt dlL_law_2 3 rfl
theorem dL_law_260 : decode cL_law 260 = .ok (.iconst 1, 1) := dAt dlL_law_2 4 rfl
theorem dL_law_261 : decode cL_law 261 = .ok (.iadd, 1) := dAt dlL_law_2 5 rfl
theorem dL_law_262 : decode cL_law 262 = .ok (.iaload, 1) := dAt dlL_law_2 6 rfl
theorem dL_law_263 : decode cL_law 263 = .ok (.aload_n 0, 1) := dAt dlL_law_2 7 rfl
theorem dL_law_264 : decode cL_law 264 = .ok (.iload_n 3, 1) := dAt dlL_law_2 8 rfl
theorem dL_law_265 : decode cL_law 265 = .ok (.iconst 2, 1) := dAt dlL_law_2 9 rfl
theorem dL_law_266 : decode cL_law 266 = .ok (.iadd, 1) := dAt dlL_law_2 10 rfl
theorem dL_law_267 : decode cL_law 267 = .ok (.iaload, 1) := dAt dlL_law_2 11 rfl
theorem dL_law_268 : decode cL_law 268 = .ok (.aload_n 0, 1) := dAt dlL_law_2 12 rfl
theorem dL_law_269 : decode cL_law 269 = .ok (.iload_n 3, 1) := dAt dlL_law_2 13 rfl
theorem dL_law_270 : decode cL_law 270 = .ok (.iconst 3, 1) := dAt dlL_law_2 14 rfl
theorem dL_law_271 : decode cL_law 271 = .ok (.iadd, 1) := dAt dlL_law_2 15 rfl
theorem dL_law_272 : decode cL_law 272 = .ok (.iaload, 1) := dAt dlL_law_2 16 rfl
theorem dL_law_273 : decode cL_law 273 = .ok (.invokevirtual 27, 3) := dAt dlL_law_2 17 rfl
theorem dL_law_276 : decode cL_law 276 = .ok (.if_icmp .eq 762, 3) := dAt dlL_law_2 18 rfl
theorem dL_law_279 : decode cL_law 279 = .ok (.iconst 0, 1) := dAt dlL_law_2 19 rfl
theorem dL_law_280 : decode cL_law 280 = .ok (.ireturn, 1) := dAt dlL_law_2 20 rfl
theorem dL_law_281 : decode cL_law 281 = .ok (.aload_n 1, 1) := dAt dlL_law_2 21 rfl
theorem dL_law_282 : decode cL_law 282 = .ok (.aload_n 0, 1) := dAt dlL_law_2 22 rfl
theorem dL_law_283 : decode cL_law 283 = .ok (.iload_n 3, 1) := dAt dlL_law_2 23 rfl
theorem dL_law_284 : decode cL_law 284 = .ok (.iconst 1, 1) := dAt dlL_law_2 24 rfl
theorem dL_law_285 : decode cL_law 285 = .ok (.iadd, 1) := dAt dlL_law_2 25 rfl
theorem dL_law_286 : decode cL_law 286 = .ok (.iaload, 1) := dAt dlL_law_2 26 rfl
theorem dL_law_287 : decode cL_law 287 = .ok (.aload_n 0, 1) := dAt dlL_law_2 27 rfl
theorem dL_law_288 : decode cL_law 288 = .ok (.iload_n 3, 1) := dAt dlL_law_2 28 rfl
theorem dL_law_289 : decode cL_law 289 = .ok (.iconst 2, 1) := dAt dlL_law_2 29 rfl
theorem dL_law_290 : decode cL_law 290 = .ok (.iadd, 1) := dAt dlL_law_2 30 rfl
theorem dL_law_291 : decode cL_law 291 = .ok (.iaload, 1) := dAt dlL_law_2 31 rfl
theorem dL_law_292 : decode cL_law 292 = .ok (.aload_n 0, 1) := dAt dlL_law_2 32 rfl
theorem dL_law_293 : decode cL_law 293 = .ok (.iload_n 3, 1) := dAt dlL_law_2 33 rfl
theorem dL_law_294 : decode cL_law 294 = .ok (.iconst 3, 1) := dAt dlL_law_2 34 rfl
theorem dL_law_295 : decode cL_law 295 = .ok (.iadd, 1) := dAt dlL_law_2 35 rfl
theorem dL_law_296 : decode cL_law 296 = .ok (.iaload, 1) := dAt dlL_law_2 36 rfl
theorem dL_law_297 : decode cL_law 297 = .ok (.invokevirtual 28, 3) := dAt dlL_law_2 37 rfl
theorem dL_law_300 : decode cL_law 300 = .ok (.aload_n 2, 1) := dAt dlL_law_2 38 rfl
theorem dL_law_301 : decode cL_law 301 = .ok (.aload_n 0, 1) := dAt dlL_law_2 39 rfl
theorem dL_law_302 : decode cL_law 302 = .ok (.iload_n 3, 1) := dAt dlL_law_2 40 rfl
theorem dL_law_303 : decode cL_law 303 = .ok (.iconst 1, 1) := dAt dlL_law_2 41 rfl
theorem dL_law_304 : decode cL_law 304 = .ok (.iadd, 1) := dAt dlL_law_2 42 rfl
theorem dL_law_305 : decode cL_law 305 = .ok (.iaload, 1) := dAt dlL_law_2 43 rfl
theorem dL_law_306 : decode cL_law 306 = .ok (.aload_n 0, 1) := dAt dlL_law_2 44 rfl
theorem dL_law_307 : decode cL_law 307 = .ok (.iload_n 3, 1) := dAt dlL_law_2 45 rfl
theorem dL_law_308 : decode cL_law 308 = .ok (.iconst 2, 1) := dAt dlL_law_2 46 rfl
theorem dL_law_309 : decode cL_law 309 = .ok (.iadd, 1) := dAt dlL_law_2 47 rfl
theorem dL_law_310 : decode cL_law 310 = .ok (.iaload, 1) := dAt dlL_law_2 48 rfl
theorem dL_law_311 : decode cL_law 311 = .ok (.aload_n 0, 1) := dAt dlL_law_2 49 rfl
theorem dL_law_312 : decode cL_law 312 = .ok (.iload_n 3, 1) := dAt dlL_law_2 50 rfl
theorem dL_law_313 : decode cL_law 313 = .ok (.iconst 3, 1) := dAt dlL_law_2 51 rfl
theorem dL_law_314 : decode cL_law 314 = .ok (.iadd, 1) := dAt dlL_law_2 52 rfl
theorem dL_law_315 : decode cL_law 315 = .ok (.iaload, 1) := dAt dlL_law_2 53 rfl
theorem dL_law_316 : decode cL_law 316 = .ok (.invokevirtual 31, 3) := dAt dlL_law_2 54 rfl
theorem dL_law_319 : decode cL_law 319 = .ok (.if_icmp .eq 719, 3) := dAt dlL_law_2 55 rfl
theorem dL_law_322 : decode cL_law 322 = .ok (.iconst 0, 1) := dAt dlL_law_2 56 rfl
theorem dL_law_323 : decode cL_law 323 = .ok (.ireturn, 1) := dAt dlL_law_2 57 rfl
theorem dL_law_324 : decode cL_law 324 = .ok (.aload_n 1, 1) := dAt dlL_law_2 58 rfl
theorem dL_law_325 : decode cL_law 325 = .ok (.aload_n 0, 1) := dAt dlL_law_2 59 rfl
def ilL_law_3 : List (Nat × Instr × Nat) := [(326, .iload_n 3, 1), (327, .iconst 1, 1), (328, .iadd, 1), (329, .iaload, 1), (330, .aload_n 0, 1), (331, .iload_n 3, 1), (332, .iconst 2, 1), (333, .iadd, 1), (334, .iaload, 1), (335, .invokevirtual 32, 3), (338, .aload_n 2, 1), (339, .aload_n 0, 1), (340, .iload_n 3, 1), (341, .iconst 1, 1), (342, .iadd, 1), (343, .iaload, 1), (344, .aload_n 0, 1), (345, .iload_n 3, 1), (346, .iconst 2, 1), (347, .iadd, 1), (348, .iaload, 1), (349, .invokevirtual 35, 3), (352, .if_icmp .eq 686, 3), (355, .iconst 0, 1), (356, .ireturn, 1), (357, .aload_n 1, 1), (358, .aload_n 0, 1), (359, .iload_n 3, 1), (360, .iconst 1, 1), (361, .iadd, 1), (362, .iaload, 1), (363, .aload_n 0, 1), (364, .iload_n 3, 1), (365, .iconst 2, 1), (366, .iadd, 1), (367, .iaload, 1), (368, .invokevirtual 36, 3), (371, .aload_n 2, 1), (372, .aload_n 0, 1), (373, .iload_n 3, 1), (374, .iconst 1, 1), (375, .iadd, 1), (376, .iaload, 1), (377, .aload_n 0, 1), (378, .iload_n 3, 1), (379, .iconst 2, 1), (380, .iadd, 1), (381, .iaload, 1), (382, .invokevirtual 39, 3), (385, .if_icmp .eq 653, 3), (388, .iconst 0, 1), (389, .ireturn, 1), (390, .aload_n 1, 1), (391, .aload_n 0, 1), (392, .iload_n 3, 1), (393, .iconst 1, 1), (394, .iadd, 1), (395, .iaload, 1), (396, .aload_n 0, 1), (397, .iload_n 3, 1)]
theorem dlL_law_3 : dOK cL_law ilL_law_3 = true := by decide +kernel
theorem dL_law_326 : decode cL_law 326 = .ok (.iload_n 3, 1) := dAt dlL_law_3 0 rfl
theorem dL_law_327 : decode cL_law 327 = .ok (.iconst 1, 1) := dAt dlL_law_3 1 rfl
theorem dL_law_328 : decode cL_law 328 = .ok (.iadd, 1) := dAt dlL_law_3 2 rfl
theorem dL_law_329 : decode cL_law 329 = .ok (.iaload, 1) := dAt dlL_law_3 3 rfl
theorem dL_law_330 : decode cL_law 330 = .ok (.aload_n 0, 1) := dAt dlL_law_3 4 rfl
theorem dL_law_331 : decode cL_law 331 = .ok (.iload_n 3, 1) := dAt dlL_law_3 5 rfl
theorem dL_law_332 : decode cL_law 332 = .ok (.iconst 2, 1) := dAt dlL_law_3 6 rfl
theorem dL_law_333 : decode cL_law 333 = .ok (.iadd, 1) := dAt dlL_law_3 7 rfl
theorem dL_law_334 : decode cL_law 334 = .ok (.iaload, 1) := dAt dlL_law_3 8 rfl
theorem dL_law_335 : decode cL_law 335 = .ok (.invokevirtual 32, 3) := dAt dlL_law_3 9 rfl
theorem dL_law_338 : decode cL_law 338 = .ok (.aload_n 2, 1) := dAt dlL_law_3 10 rfl
theorem dL_law_339 : decode cL_law 339 = .ok (.aload_n 0, 1) := dAt dlL_law_3 11 rfl
theorem dL_law_340 : decode cL_law 340 = .ok (.iload_n 3, 1) := dAt dlL_law_3 12 rfl
theorem dL_law_341 : decode cL_law 341 = .ok (.iconst 1, 1) := dAt dlL_law_3 13 rfl
theorem dL_law_342 : decode cL_law 342 = .ok (.iadd, 1) := dAt dlL_law_3 14 rfl
theorem dL_law_343 : decode cL_law 343 = .ok (.iaload, 1) := dAt dlL_law_3 15 rfl
theorem dL_law_344 : decode cL_law 344 = .ok (.aload_n 0, 1) := dAt dlL_law_3 16 rfl
theorem dL_law_345 : decode cL_law 345 = .ok (.iload_n 3, 1) := dAt dlL_law_3 17 rfl
theorem dL_law_346 : decode cL_law 346 = .ok (.iconst 2, 1) := dAt dlL_law_3 18 rfl
theorem dL_law_347 : decode cL_law 347 = .ok (.iadd, 1) := dAt dlL_law_3 19 rfl
theorem dL_law_348 : decode cL_law 348 = .ok (.iaload, 1) := dAt dlL_law_3 20 rfl
theorem dL_law_349 : decode cL_law 349 = .ok (.invokevirtual 35, 3) := dAt dlL_law_3 21 rfl
theorem dL_law_352 : decode cL_law 352 = .ok (.if_icmp .eq 686, 3) := dAt dlL_law_3 22 rfl
theorem dL_law_355 : decode cL_law 355 = .ok (.iconst 0, 1) := dAt dlL_law_3 23 rfl
theorem dL_law_356 : decode cL_law 356 = .ok (.ireturn, 1) := dAt dlL_law_3 24 rfl
theorem dL_law_357 : decode cL_law 357 = .ok (.aload_n 1, 1) := dAt dlL_law_3 25 rfl
theorem dL_law_358 : decode cL_law 358 = .ok (.aload_n 0, 1) := dAt dlL_law_3 26 rfl
theorem dL_law_359 : decode cL_law 359 = .ok (.iload_n 3, 1) := dAt dlL_law_3 27 rfl
theorem dL_law_360 : decode cL_law 360 = .ok (.iconst 1, 1) := dAt dlL_law_3 28 rfl
theorem dL_law_361 : decode cL_law 361 = .ok (.iadd, 1) := dAt dlL_law_3 29 rfl
theorem dL_law_362 : decode cL_law 362 = .ok (.iaload, 1) := dAt dlL_law_3 30 rfl
theorem dL_law_363 : decode cL_law 363 = .ok (.aload_n 0, 1) := dAt dlL_law_3 31 rfl
theorem dL_law_364 : decode cL_law 364 = .ok (.iload_n 3, 1) := dAt dlL_law_3 32 rfl
theorem dL_law_365 : decode cL_law 365 = .ok (.iconst 2, 1) := dAt dlL_law_3 33 rfl
theorem dL_law_366 : decode cL_law 366 = .ok (.iadd, 1) := dAt dlL_law_3 34 rfl
theorem dL_law_367 : decode cL_law 367 = .ok (.iaload, 1) := dAt dlL_law_3 35 rfl
theorem dL_law_368 : decode cL_law 368 = .ok (.invokevirtual 36, 3) := dAt dlL_law_3 36 rfl
theorem dL_law_371 : decode cL_law 371 = .ok (.aload_n 2, 1) := dAt dlL_law_3 37 rfl
theorem dL_law_372 : decode cL_law 372 = .ok (.aload_n 0, 1) := dAt dlL_law_3 38 rfl
theorem dL_law_373 : decode cL_law 373 = .ok (.iload_n 3, 1) := dAt dlL_law_3 39 rfl
theorem dL_law_374 : decode cL_law 374 = .ok (.iconst 1, 1) := dAt dlL_law_3 40 rfl
theorem dL_law_375 : decode cL_law 375 = .ok (.iadd, 1) := dAt dlL_law_3 41 rfl
theorem dL_law_376 : decode cL_law 376 = .ok (.iaload, 1) := dAt dlL_law_3 42 rfl
theorem dL_law_377 : decode cL_law 377 = .ok (.aload_n 0, 1) := dAt dlL_law_3 43 rfl
theorem dL_law_378 : decode cL_law 378 = .ok (.iload_n 3, 1) := dAt dlL_law_3 44 rfl
theorem dL_law_379 : decode cL_law 379 = .ok (.iconst 2, 1) := dAt dlL_law_3 45 rfl
theorem dL_law_380 : decode cL_law 380 = .ok (.iadd, 1) := dAt dlL_law_3 46 rfl
theorem dL_law_381 : decode cL_law 381 = .ok (.iaload, 1) := dAt dlL_law_3 47 rfl
theorem dL_law_382 : decode cL_law 382 = .ok (.invokevirtual 39, 3) := dAt dlL_law_3 48 rfl
theorem dL_law_385 : decode cL_law 385 = .ok (.if_icmp .eq 653, 3) := dAt dlL_law_3 49 rfl
theorem dL_law_388 : decode cL_law 388 = .ok (.iconst 0, 1) := dAt dlL_law_3 50 rfl
theorem dL_law_389 : decode cL_law 389 = .ok (.ireturn, 1) := dAt dlL_law_3 51 rfl
theorem dL_law_390 : decode cL_law 390 = .ok (.aload_n 1, 1) := dAt dlL_law_3 52 rfl
theorem dL_law_391 : decode cL_law 391 = .ok (.aload_n 0, 1) := dAt dlL_law_3 53 rfl
theorem dL_law_392 : decode cL_law 392 = .ok (.iload_n 3, 1) := dAt dlL_law_3 54 rfl
theorem dL_law_393 : decode cL_law 393 = .ok (.iconst 1, 1) := dAt dlL_law_3 55 rfl
theorem dL_law_394 : decode cL_law 394 = .ok (.iadd, 1) := dAt dlL_law_3 56 rfl
theorem dL_law_395 : decode cL_law 395 = .ok (.iaload, 1) := dAt dlL_law_3 57 rfl
theorem dL_law_396 : decode cL_law 396 = .ok (.aload_n 0, 1) := dAt dlL_law_3 58 rfl
theorem dL_law_397 : decode cL_law 397 = .ok (.iload_n 3, 1) := dAt dlL_law_3 59 rfl
def ilL_law_4 : List (Nat × Instr × Nat) := [(398, .iconst 2, 1), (399, .iadd, 1), (400, .iaload, 1), (401, .invokevirtual 40, 3), (404, .aload_n 2, 1), (405, .aload_n 0, 1), (406, .iload_n 3, 1), (407, .iconst 1, 1), (408, .iadd, 1), (409, .iaload, 1), (410, .aload_n 0, 1), (411, .iload_n 3, 1), (412, .iconst 2, 1), (413, .iadd, 1), (414, .iaload, 1), (415, .invokevirtual 43, 3), (418, .if_icmp .eq 620, 3), (421, .iconst 0, 1), (422, .ireturn, 1), (423, .aload_n 1, 1), (424, .aload_n 0, 1), (425, .iload_n 3, 1), (426, .iconst 1, 1), (427, .iadd, 1), (428, .iaload, 1), (429, .aload_n 0, 1), (430, .iload_n 3, 1), (431, .iconst 2, 1), (432, .iadd, 1), (433, .iaload, 1), (434, .aload_n 0, 1), (435, .iload_n 3, 1), (436, .iconst 3, 1), (437, .iadd, 1), (438, .iaload, 1), (439, .invokevirtual 44, 3), (442, .aload_n 2, 1), (443, .aload_n 0, 1), (444, .iload_n 3, 1), (445, .iconst 1, 1), (446, .iadd, 1), (447, .iaload, 1), (448, .aload_n 0, 1), (449, .iload_n 3, 1), (450, .iconst 2, 1), (451, .iadd, 1), (452, .iaload, 1), (453, .aload_n 0, 1), (454, .iload_n 3, 1), (455, .iconst 3, 1), (456, .iadd, 1), (457, .iaload, 1), (458, .invokevirtual 47, 3), (461, .if_icmp .eq 577, 3), (464, .iconst 0, 1), (465, .ireturn, 1), (466, .aload_n 1, 1), (467, .aload_n 0, 1), (468, .iload_n 3, 1), (469, .iconst 1, 1)]
theorem dlL_law_4 : dOK cL_law ilL_law_4 = true := by decide +kernel
theorem dL_law_398 : decode cL_law 398 = .ok (.iconst 2, 1) := dAt dlL_law_4 0 rfl
theorem dL_law_399 : decode cL_law 399 = .ok (.iadd, 1) := dAt dlL_law_4 1 rfl
theorem dL_law_400 : decode cL_law 400 = .ok (.iaload, 1) := dAt dlL_law_4 2 rfl
theorem dL_law_401 : decode cL_law 401 = .ok (.invokevirtual 40, 3) := dAt dlL_law_4 3 rfl
theorem dL_law_404 : decode cL_law 404 = .ok (.aload_n 2, 1) := dAt dlL_law_4 4 rfl
theorem dL_law_405 : decode cL_law 405 = .ok (.aload_n 0, 1) := dAt dlL_law_4 5 rfl
theorem dL_law_406 : decode cL_law 406 = .ok (.iload_n 3, 1) := dAt dlL_law_4 6 rfl
theorem dL_law_407 : decode cL_law 407 = .ok (.iconst 1, 1) := dAt dlL_law_4 7 rfl
theorem dL_law_408 : decode cL_law 408 = .ok (.iadd, 1) := dAt dlL_law_4 8 rfl
theorem dL_law_409 : decode cL_law 409 = .ok (.iaload, 1) := dAt dlL_law_4 9 rfl
theorem dL_law_410 : decode cL_law 410 = .ok (.aload_n 0, 1) := dAt dlL_law_4 10 rfl
theorem dL_law_411 : decode cL_law 411 = .ok (.iload_n 3, 1) := dAt dlL_law_4 11 rfl
theorem dL_law_412 : decode cL_law 412 = .ok (.iconst 2, 1) := dAt dlL_law_4 12 rfl
theorem dL_law_413 : decode cL_law 413 = .ok (.iadd, 1) := dAt dlL_law_4 13 rfl
theorem dL_law_414 : decode cL_law 414 = .ok (.iaload, 1) := dAt dlL_law_4 14 rfl
theorem dL_law_415 : decode cL_law 415 = .ok (.invokevirtual 43, 3) := dAt dlL_law_4 15 rfl
theorem dL_law_418 : decode cL_law 418 = .ok (.if_icmp .eq 620, 3) := dAt dlL_law_4 16 rfl
theorem dL_law_421 : decode cL_law 421 = .ok (.iconst 0, 1) := dAt dlL_law_4 17 rfl
theorem dL_law_422 : decode cL_law 422 = .ok (.ireturn, 1) := dAt dlL_law_4 18 rfl
theorem dL_law_423 : decode cL_law 423 = .ok (.aload_n 1, 1) := dAt dlL_law_4 19 rfl
theorem dL_law_424 : decode cL_law 424 = .ok (.aload_n 0, 1) := dAt dlL_law_4 20 rfl
theorem dL_law_425 : decode cL_law 425 = .ok (.iload_n 3, 1) := dAt dlL_law_4 21 rfl
theorem dL_law_426 : decode cL_law 426 = .ok (.iconst 1, 1) := dAt dlL_law_4 22 rfl
theorem dL_law_427 : decode cL_law 427 = .ok (.iadd, 1) := dAt dlL_law_4 23 rfl
theorem dL_law_428 : decode cL_law 428 = .ok (.iaload, 1) := dAt dlL_law_4 24 rfl
theorem dL_law_429 : decode cL_law 429 = .ok (.aload_n 0, 1) := dAt dlL_law_4 25 rfl
theorem dL_law_430 : decode cL_law 430 = .ok (.iload_n 3, 1) := dAt dlL_law_4 26 rfl
theorem dL_law_431 : decode cL_law 431 = .ok (.iconst 2, 1) := dAt dlL_law_4 27 rfl
theorem dL_law_432 : decode cL_law 432 = .ok (.iadd, 1) := dAt dlL_law_4 28 rfl
theorem dL_law_433 : decode cL_law 433 = .ok (.iaload, 1) := dAt dlL_law_4 29 rfl
theorem dL_law_434 : decode cL_law 434 = .ok (.aload_n 0, 1) := dAt dlL_law_4 30 rfl
theorem dL_law_435 : decode cL_law 435 = .ok (.iload_n 3, 1) := dAt dlL_law_4 31 rfl
theorem dL_law_436 : decode cL_law 436 = .ok (.iconst 3, 1) := dAt dlL_law_4 32 rfl
theorem dL_law_437 : decode cL_law 437 = .ok (.iadd, 1) := dAt dlL_law_4 33 rfl
theorem dL_law_438 : decode cL_law 438 = .ok (.iaload, 1) := dAt dlL_law_4 34 rfl
theorem dL_law_439 : decode cL_law 439 = .ok (.invokevirtual 44, 3) := dAt dlL_law_4 35 rfl
theorem dL_law_442 : decode cL_law 442 = .ok (.aload_n 2, 1) := dAt dlL_law_4 36 rfl
theorem dL_law_443 : decode cL_law 443 = .ok (.aload_n 0, 1) := dAt dlL_law_4 37 rfl
theorem dL_law_444 : decode cL_law 444 = .ok (.iload_n 3, 1) := dAt dlL_law_4 38 rfl
theorem dL_law_445 : decode cL_law 445 = .ok (.iconst 1, 1) := dAt dlL_law_4 39 rfl
theorem dL_law_446 : decode cL_law 446 = .ok (.iadd, 1) := dAt dlL_law_4 40 rfl
theorem dL_law_447 : decode cL_law 447 = .ok (.iaload, 1) := dAt dlL_law_4 41 rfl
theorem dL_law_448 : decode cL_law 448 = .ok (.aload_n 0, 1) := dAt dlL_law_4 42 rfl
theorem dL_law_449 : decode cL_law 449 = .ok (.iload_n 3, 1) := dAt dlL_law_4 43 rfl
theorem dL_law_450 : decode cL_law 450 = .ok (.iconst 2, 1) := dAt dlL_law_4 44 rfl
theorem dL_law_451 : decode cL_law 451 = .ok (.iadd, 1) := dAt dlL_law_4 45 rfl
theorem dL_law_452 : decode cL_law 452 = .ok (.iaload, 1) := dAt dlL_law_4 46 rfl
theorem dL_law_453 : decode cL_law 453 = .ok (.aload_n 0, 1) := dAt dlL_law_4 47 rfl
theorem dL_law_454 : decode cL_law 454 = .ok (.iload_n 3, 1) := dAt dlL_law_4 48 rfl
theorem dL_law_455 : decode cL_law 455 = .ok (.iconst 3, 1) := dAt dlL_law_4 49 rfl
theorem dL_law_456 : decode cL_law 456 = .ok (.iadd, 1) := dAt dlL_law_4 50 rfl
theorem dL_law_457 : decode cL_law 457 = .ok (.iaload, 1) := dAt dlL_law_4 51 rfl
theorem dL_law_458 : decode cL_law 458 = .ok (.invokevirtual 47, 3) := dAt dlL_law_4 52 rfl
theorem dL_law_461 : decode cL_law 461 = .ok (.if_icmp .eq 577, 3) := dAt dlL_law_4 53 rfl
theorem dL_law_464 : decode cL_law 464 = .ok (.iconst 0, 1) := dAt dlL_law_4 54 rfl
theorem dL_law_465 : decode cL_law 465 = .ok (.ireturn, 1) := dAt dlL_law_4 55 rfl
theorem dL_law_466 : decode cL_law 466 = .ok (.aload_n 1, 1) := dAt dlL_law_4 56 rfl
theorem dL_law_467 : decode cL_law 467 = .ok (.aload_n 0, 1) := dAt dlL_law_4 57 rfl
theorem dL_law_468 : decode cL_law 468 = .ok (.iload_n 3, 1) := dAt dlL_law_4 58 rfl
theorem dL_law_469 : decode cL_law 469 = .ok (.iconst 1, 1) := dAt dlL_law_4 59 rfl
def ilL_law_5 : List (Nat × Instr × Nat) := [(470, .iadd, 1), (471, .iaload, 1), (472, .aload_n 0, 1), (473, .iload_n 3, 1), (474, .iconst 2, 1), (475, .iadd, 1), (476, .iaload, 1), (477, .ifCond .eq 7, 3), (480, .iconst 1, 1), (481, .goto 4, 3), (484, .iconst 0, 1), (485, .aload_n 0, 1), (486, .iload_n 3, 1), (487, .iconst 3, 1), (488, .iadd, 1), (489, .iaload, 1), (490, .invokevirtual 48, 3), (493, .aload_n 2, 1), (494, .aload_n 0, 1), (495, .iload_n 3, 1), (496, .iconst 1, 1), (497, .iadd, 1), (498, .iaload, 1), (499, .aload_n 0, 1), (500, .iload_n 3, 1), (501, .iconst 2, 1), (502, .iadd, 1), (503, .iaload, 1), (504, .ifCond .eq 7, 3), (507, .iconst 1, 1), (508, .goto 4, 3), (511, .iconst 0, 1), (512, .aload_n 0, 1), (513, .iload_n 3, 1), (514, .iconst 3, 1), (515, .iadd, 1), (516, .iaload, 1), (517, .invokevirtual 52, 3), (520, .if_icmp .eq 518, 3), (523, .iconst 0, 1), (524, .ireturn, 1), (525, .aload_n 1, 1), (526, .aload_n 0, 1), (527, .iload_n 3, 1), (528, .iconst 1, 1), (529, .iadd, 1), (530, .iaload, 1), (531, .aload_n 0, 1), (532, .iload_n 3, 1), (533, .iconst 2, 1), (534, .iadd, 1), (535, .iaload, 1), (536, .aload_n 0, 1), (537, .iload_n 3, 1), (538, .iconst 3, 1), (539, .iadd, 1), (540, .iaload, 1), (541, .invokevirtual 53, 3), (544, .aload_n 2, 1), (545, .aload_n 0, 1)]
theorem dlL_law_5 : dOK cL_law ilL_law_5 = true := by decide +kernel
theorem dL_law_470 : decode cL_law 470 = .ok (.iadd, 1) := dAt dlL_law_5 0 rfl
theorem dL_law_471 : decode cL_law 471 = .ok (.iaload, 1) := dAt dlL_law_5 1 rfl
theorem dL_law_472 : decode cL_law 472 = .ok (.aload_n 0, 1) := dAt dlL_law_5 2 rfl
theorem dL_law_473 : decode cL_law 473 = .ok (.iload_n 3, 1) := dAt dlL_law_5 3 rfl
theorem dL_law_474 : decode cL_law 474 = .ok (.iconst 2, 1) := dAt dlL_law_5 4 rfl
theorem dL_law_475 : decode cL_law 475 = .ok (.iadd, 1) := dAt dlL_law_5 5 rfl
theorem dL_law_476 : decode cL_law 476 = .ok (.iaload, 1) := dAt dlL_law_5 6 rfl
theorem dL_law_477 : decode cL_law 477 = .ok (.ifCond .eq 7, 3) := dAt dlL_law_5 7 rfl
theorem dL_law_480 : decode cL_law 480 = .ok (.iconst 1, 1) := dAt dlL_law_5 8 rfl
theorem dL_law_481 : decode cL_law 481 = .ok (.goto 4, 3) := dAt dlL_law_5 9 rfl
theorem dL_law_484 : decode cL_law 484 = .ok (.iconst 0, 1) := dAt dlL_law_5 10 rfl
theorem dL_law_485 : decode cL_law 485 = .ok (.aload_n 0, 1) := dAt dlL_law_5 11 rfl
theorem dL_law_486 : decode cL_law 486 = .ok (.iload_n 3, 1) := dAt dlL_law_5 12 rfl
theorem dL_law_487 : decode cL_law 487 = .ok (.iconst 3, 1) := dAt dlL_law_5 13 rfl
theorem dL_law_488 : decode cL_law 488 = .ok (.iadd, 1) := dAt dlL_law_5 14 rfl
theorem dL_law_489 : decode cL_law 489 = .ok (.iaload, 1) := dAt dlL_law_5 15 rfl
theorem dL_law_490 : decode cL_law 490 = .ok (.invokevirtual 48, 3) := dAt dlL_law_5 16 rfl
theorem dL_law_493 : decode cL_law 493 = .ok (.aload_n 2, 1) := dAt dlL_law_5 17 rfl
theorem dL_law_494 : decode cL_law 494 = .ok (.aload_n 0, 1) := dAt dlL_law_5 18 rfl
theorem dL_law_495 : decode cL_law 495 = .ok (.iload_n 3, 1) := dAt dlL_law_5 19 rfl
theorem dL_law_496 : decode cL_law 496 = .ok (.iconst 1, 1) := dAt dlL_law_5 20 rfl
theorem dL_law_497 : decode cL_law 497 = .ok (.iadd, 1) := dAt dlL_law_5 21 rfl
theorem dL_law_498 : decode cL_law 498 = .ok (.iaload, 1) := dAt dlL_law_5 22 rfl
theorem dL_law_499 : decode cL_law 499 = .ok (.aload_n 0, 1) := dAt dlL_law_5 23 rfl
theorem dL_law_500 : decode cL_law 500 = .ok (.iload_n 3, 1) := dAt dlL_law_5 24 rfl
theorem dL_law_501 : decode cL_law 501 = .ok (.iconst 2, 1) := dAt dlL_law_5 25 rfl
theorem dL_law_502 : decode cL_law 502 = .ok (.iadd, 1) := dAt dlL_law_5 26 rfl
theorem dL_law_503 : decode cL_law 503 = .ok (.iaload, 1) := dAt dlL_law_5 27 rfl
theorem dL_law_504 : decode cL_law 504 = .ok (.ifCond .eq 7, 3) := dAt dlL_law_5 28 rfl
theorem dL_law_507 : decode cL_law 507 = .ok (.iconst 1, 1) := dAt dlL_law_5 29 rfl
theorem dL_law_508 : decode cL_law 508 = .ok (.goto 4, 3) := dAt dlL_law_5 30 rfl
theorem dL_law_511 : decode cL_law 511 = .ok (.iconst 0, 1) := dAt dlL_law_5 31 rfl
theorem dL_law_512 : decode cL_law 512 = .ok (.aload_n 0, 1) := dAt dlL_law_5 32 rfl
theorem dL_law_513 : decode cL_law 513 = .ok (.iload_n 3, 1) := dAt dlL_law_5 33 rfl
theorem dL_law_514 : decode cL_law 514 = .ok (.iconst 3, 1) := dAt dlL_law_5 34 rfl
theorem dL_law_515 : decode cL_law 515 = .ok (.iadd, 1) := dAt dlL_law_5 35 rfl
theorem dL_law_516 : decode cL_law 516 = .ok (.iaload, 1) := dAt dlL_law_5 36 rfl
theorem dL_law_517 : decode cL_law 517 = .ok (.invokevirtual 52, 3) := dAt dlL_law_5 37 rfl
theorem dL_law_520 : decode cL_law 520 = .ok (.if_icmp .eq 518, 3) := dAt dlL_law_5 38 rfl
theorem dL_law_523 : decode cL_law 523 = .ok (.iconst 0, 1) := dAt dlL_law_5 39 rfl
theorem dL_law_524 : decode cL_law 524 = .ok (.ireturn, 1) := dAt dlL_law_5 40 rfl
theorem dL_law_525 : decode cL_law 525 = .ok (.aload_n 1, 1) := dAt dlL_law_5 41 rfl
theorem dL_law_526 : decode cL_law 526 = .ok (.aload_n 0, 1) := dAt dlL_law_5 42 rfl
theorem dL_law_527 : decode cL_law 527 = .ok (.iload_n 3, 1) := dAt dlL_law_5 43 rfl
theorem dL_law_528 : decode cL_law 528 = .ok (.iconst 1, 1) := dAt dlL_law_5 44 rfl
theorem dL_law_529 : decode cL_law 529 = .ok (.iadd, 1) := dAt dlL_law_5 45 rfl
theorem dL_law_530 : decode cL_law 530 = .ok (.iaload, 1) := dAt dlL_law_5 46 rfl
theorem dL_law_531 : decode cL_law 531 = .ok (.aload_n 0, 1) := dAt dlL_law_5 47 rfl
theorem dL_law_532 : decode cL_law 532 = .ok (.iload_n 3, 1) := dAt dlL_law_5 48 rfl
theorem dL_law_533 : decode cL_law 533 = .ok (.iconst 2, 1) := dAt dlL_law_5 49 rfl
theorem dL_law_534 : decode cL_law 534 = .ok (.iadd, 1) := dAt dlL_law_5 50 rfl
theorem dL_law_535 : decode cL_law 535 = .ok (.iaload, 1) := dAt dlL_law_5 51 rfl
theorem dL_law_536 : decode cL_law 536 = .ok (.aload_n 0, 1) := dAt dlL_law_5 52 rfl
theorem dL_law_537 : decode cL_law 537 = .ok (.iload_n 3, 1) := dAt dlL_law_5 53 rfl
theorem dL_law_538 : decode cL_law 538 = .ok (.iconst 3, 1) := dAt dlL_law_5 54 rfl
theorem dL_law_539 : decode cL_law 539 = .ok (.iadd, 1) := dAt dlL_law_5 55 rfl
theorem dL_law_540 : decode cL_law 540 = .ok (.iaload, 1) := dAt dlL_law_5 56 rfl
theorem dL_law_541 : decode cL_law 541 = .ok (.invokevirtual 53, 3) := dAt dlL_law_5 57 rfl
theorem dL_law_544 : decode cL_law 544 = .ok (.aload_n 2, 1) := dAt dlL_law_5 58 rfl
theorem dL_law_545 : decode cL_law 545 = .ok (.aload_n 0, 1) := dAt dlL_law_5 59 rfl
def ilL_law_6 : List (Nat × Instr × Nat) := [(546, .iload_n 3, 1), (547, .iconst 1, 1), (548, .iadd, 1), (549, .iaload, 1), (550, .aload_n 0, 1), (551, .iload_n 3, 1), (552, .iconst 2, 1), (553, .iadd, 1), (554, .iaload, 1), (555, .aload_n 0, 1), (556, .iload_n 3, 1), (557, .iconst 3, 1), (558, .iadd, 1), (559, .iaload, 1), (560, .invokevirtual 56, 3), (563, .if_icmp .eq 475, 3), (566, .iconst 0, 1), (567, .ireturn, 1), (568, .aload_n 1, 1), (569, .aload_n 0, 1), (570, .iload_n 3, 1), (571, .iconst 1, 1), (572, .iadd, 1), (573, .iaload, 1), (574, .aload_n 0, 1), (575, .iload_n 3, 1), (576, .iconst 2, 1), (577, .iadd, 1), (578, .iaload, 1), (579, .aload_n 0, 1), (580, .iload_n 3, 1), (581, .iconst 3, 1), (582, .iadd, 1), (583, .iaload, 1), (584, .invokevirtual 57, 3), (587, .aload_n 2, 1), (588, .aload_n 0, 1), (589, .iload_n 3, 1), (590, .iconst 1, 1), (591, .iadd, 1), (592, .iaload, 1), (593, .aload_n 0, 1), (594, .iload_n 3, 1), (595, .iconst 2, 1), (596, .iadd, 1), (597, .iaload, 1), (598, .aload_n 0, 1), (599, .iload_n 3, 1), (600, .iconst 3, 1), (601, .iadd, 1), (602, .iaload, 1), (603, .invokevirtual 60, 3), (606, .if_icmp .eq 432, 3), (609, .iconst 0, 1), (610, .ireturn, 1), (611, .aload_n 1, 1), (612, .aload_n 0, 1), (613, .iload_n 3, 1), (614, .iconst 1, 1), (615, .iadd, 1)]
theorem dlL_law_6 : dOK cL_law ilL_law_6 = true := by decide +kernel
theorem dL_law_546 : decode cL_law 546 = .ok (.iload_n 3, 1) := dAt dlL_law_6 0 rfl
theorem dL_law_547 : decode cL_law 547 = .ok (.iconst 1, 1) := dAt dlL_law_6 1 rfl
theorem dL_law_548 : decode cL_law 548 = .ok (.iadd, 1) := dAt dlL_law_6 2 rfl
theorem dL_law_549 : decode cL_law 549 = .ok (.iaload, 1) := dAt dlL_law_6 3 rfl
theorem dL_law_550 : decode cL_law 550 = .ok (.aload_n 0, 1) := dAt dlL_law_6 4 rfl
theorem dL_law_551 : decode cL_law 551 = .ok (.iload_n 3, 1) := dAt dlL_law_6 5 rfl
theorem dL_law_552 : decode cL_law 552 = .ok (.iconst 2, 1) := dAt dlL_law_6 6 rfl
theorem dL_law_553 : decode cL_law 553 = .ok (.iadd, 1) := dAt dlL_law_6 7 rfl
theorem dL_law_554 : decode cL_law 554 = .ok (.iaload, 1) := dAt dlL_law_6 8 rfl
theorem dL_law_555 : decode cL_law 555 = .ok (.aload_n 0, 1) := dAt dlL_law_6 9 rfl
theorem dL_law_556 : decode cL_law 556 = .ok (.iload_n 3, 1) := dAt dlL_law_6 10 rfl
theorem dL_law_557 : decode cL_law 557 = .ok (.iconst 3, 1) := dAt dlL_law_6 11 rfl
theorem dL_law_558 : decode cL_law 558 = .ok (.iadd, 1) := dAt dlL_law_6 12 rfl
theorem dL_law_559 : decode cL_law 559 = .ok (.iaload, 1) := dAt dlL_law_6 13 rfl
theorem dL_law_560 : decode cL_law 560 = .ok (.invokevirtual 56, 3) := dAt dlL_law_6 14 rfl
theorem dL_law_563 : decode cL_law 563 = .ok (.if_icmp .eq 475, 3) := dAt dlL_law_6 15 rfl
theorem dL_law_566 : decode cL_law 566 = .ok (.iconst 0, 1) := dAt dlL_law_6 16 rfl
theorem dL_law_567 : decode cL_law 567 = .ok (.ireturn, 1) := dAt dlL_law_6 17 rfl
theorem dL_law_568 : decode cL_law 568 = .ok (.aload_n 1, 1) := dAt dlL_law_6 18 rfl
theorem dL_law_569 : decode cL_law 569 = .ok (.aload_n 0, 1) := dAt dlL_law_6 19 rfl
theorem dL_law_570 : decode cL_law 570 = .ok (.iload_n 3, 1) := dAt dlL_law_6 20 rfl
theorem dL_law_571 : decode cL_law 571 = .ok (.iconst 1, 1) := dAt dlL_law_6 21 rfl
theorem dL_law_572 : decode cL_law 572 = .ok (.iadd, 1) := dAt dlL_law_6 22 rfl
theorem dL_law_573 : decode cL_law 573 = .ok (.iaload, 1) := dAt dlL_law_6 23 rfl
theorem dL_law_574 : decode cL_law 574 = .ok (.aload_n 0, 1) := dAt dlL_law_6 24 rfl
theorem dL_law_575 : decode cL_law 575 = .ok (.iload_n 3, 1) := dAt dlL_law_6 25 rfl
theorem dL_law_576 : decode cL_law 576 = .ok (.iconst 2, 1) := dAt dlL_law_6 26 rfl
theorem dL_law_577 : decode cL_law 577 = .ok (.iadd, 1) := dAt dlL_law_6 27 rfl
theorem dL_law_578 : decode cL_law 578 = .ok (.iaload, 1) := dAt dlL_law_6 28 rfl
theorem dL_law_579 : decode cL_law 579 = .ok (.aload_n 0, 1) := dAt dlL_law_6 29 rfl
theorem dL_law_580 : decode cL_law 580 = .ok (.iload_n 3, 1) := dAt dlL_law_6 30 rfl
theorem dL_law_581 : decode cL_law 581 = .ok (.iconst 3, 1) := dAt dlL_law_6 31 rfl
theorem dL_law_582 : decode cL_law 582 = .ok (.iadd, 1) := dAt dlL_law_6 32 rfl
theorem dL_law_583 : decode cL_law 583 = .ok (.iaload, 1) := dAt dlL_law_6 33 rfl
theorem dL_law_584 : decode cL_law 584 = .ok (.invokevirtual 57, 3) := dAt dlL_law_6 34 rfl
theorem dL_law_587 : decode cL_law 587 = .ok (.aload_n 2, 1) := dAt dlL_law_6 35 rfl
theorem dL_law_588 : decode cL_law 588 = .ok (.aload_n 0, 1) := dAt dlL_law_6 36 rfl
theorem dL_law_589 : decode cL_law 589 = .ok (.iload_n 3, 1) := dAt dlL_law_6 37 rfl
theorem dL_law_590 : decode cL_law 590 = .ok (.iconst 1, 1) := dAt dlL_law_6 38 rfl
theorem dL_law_591 : decode cL_law 591 = .ok (.iadd, 1) := dAt dlL_law_6 39 rfl
theorem dL_law_592 : decode cL_law 592 = .ok (.iaload, 1) := dAt dlL_law_6 40 rfl
theorem dL_law_593 : decode cL_law 593 = .ok (.aload_n 0, 1) := dAt dlL_law_6 41 rfl
theorem dL_law_594 : decode cL_law 594 = .ok (.iload_n 3, 1) := dAt dlL_law_6 42 rfl
theorem dL_law_595 : decode cL_law 595 = .ok (.iconst 2, 1) := dAt dlL_law_6 43 rfl
theorem dL_law_596 : decode cL_law 596 = .ok (.iadd, 1) := dAt dlL_law_6 44 rfl
theorem dL_law_597 : decode cL_law 597 = .ok (.iaload, 1) := dAt dlL_law_6 45 rfl
theorem dL_law_598 : decode cL_law 598 = .ok (.aload_n 0, 1) := dAt dlL_law_6 46 rfl
theorem dL_law_599 : decode cL_law 599 = .ok (.iload_n 3, 1) := dAt dlL_law_6 47 rfl
theorem dL_law_600 : decode cL_law 600 = .ok (.iconst 3, 1) := dAt dlL_law_6 48 rfl
theorem dL_law_601 : decode cL_law 601 = .ok (.iadd, 1) := dAt dlL_law_6 49 rfl
theorem dL_law_602 : decode cL_law 602 = .ok (.iaload, 1) := dAt dlL_law_6 50 rfl
theorem dL_law_603 : decode cL_law 603 = .ok (.invokevirtual 60, 3) := dAt dlL_law_6 51 rfl
theorem dL_law_606 : decode cL_law 606 = .ok (.if_icmp .eq 432, 3) := dAt dlL_law_6 52 rfl
theorem dL_law_609 : decode cL_law 609 = .ok (.iconst 0, 1) := dAt dlL_law_6 53 rfl
theorem dL_law_610 : decode cL_law 610 = .ok (.ireturn, 1) := dAt dlL_law_6 54 rfl
theorem dL_law_611 : decode cL_law 611 = .ok (.aload_n 1, 1) := dAt dlL_law_6 55 rfl
theorem dL_law_612 : decode cL_law 612 = .ok (.aload_n 0, 1) := dAt dlL_law_6 56 rfl
theorem dL_law_613 : decode cL_law 613 = .ok (.iload_n 3, 1) := dAt dlL_law_6 57 rfl
theorem dL_law_614 : decode cL_law 614 = .ok (.iconst 1, 1) := dAt dlL_law_6 58 rfl
theorem dL_law_615 : decode cL_law 615 = .ok (.iadd, 1) := dAt dlL_law_6 59 rfl
def ilL_law_7 : List (Nat × Instr × Nat) := [(616, .iaload, 1), (617, .invokevirtual 61, 3), (620, .aload_n 2, 1), (621, .aload_n 0, 1), (622, .iload_n 3, 1), (623, .iconst 1, 1), (624, .iadd, 1), (625, .iaload, 1), (626, .invokevirtual 65, 3), (629, .if_icmp .eq 409, 3), (632, .iconst 0, 1), (633, .ireturn, 1), (634, .aload_n 1, 1), (635, .aload_n 0, 1), (636, .iload_n 3, 1), (637, .iconst 1, 1), (638, .iadd, 1), (639, .iaload, 1), (640, .aload_n 0, 1), (641, .iload_n 3, 1), (642, .iconst 2, 1), (643, .iadd, 1), (644, .iaload, 1), (645, .invokevirtual 66, 3), (648, .aload_n 2, 1), (649, .aload_n 0, 1), (650, .iload_n 3, 1), (651, .iconst 1, 1), (652, .iadd, 1), (653, .iaload, 1), (654, .aload_n 0, 1), (655, .iload_n 3, 1), (656, .iconst 2, 1), (657, .iadd, 1), (658, .iaload, 1), (659, .invokevirtual 69, 3), (662, .if_icmp .eq 376, 3), (665, .iconst 0, 1), (666, .ireturn, 1), (667, .aload_n 1, 1), (668, .aload_n 0, 1), (669, .iload_n 3, 1), (670, .iconst 1, 1), (671, .iadd, 1), (672, .iaload, 1), (673, .invokevirtual 70, 3), (676, .aload_n 2, 1), (677, .aload_n 0, 1), (678, .iload_n 3, 1), (679, .iconst 1, 1), (680, .iadd, 1), (681, .iaload, 1), (682, .invokevirtual 73, 3), (685, .if_icmp .eq 353, 3), (688, .iconst 0, 1), (689, .ireturn, 1), (690, .aload_n 1, 1), (691, .aload_n 0, 1), (692, .iload_n 3, 1), (693, .iconst 1, 1)]
theorem dlL_law_7 : dOK cL_law ilL_law_7 = true := by decide +kernel
theorem dL_law_616 : decode cL_law 616 = .ok (.iaload, 1) := dAt dlL_law_7 0 rfl
theorem dL_law_617 : decode cL_law 617 = .ok (.invokevirtual 61, 3) := dAt dlL_law_7 1 rfl
theorem dL_law_620 : decode cL_law 620 = .ok (.aload_n 2, 1) := dAt dlL_law_7 2 rfl
theorem dL_law_621 : decode cL_law 621 = .ok (.aload_n 0, 1) := dAt dlL_law_7 3 rfl
theorem dL_law_622 : decode cL_law 622 = .ok (.iload_n 3, 1) := dAt dlL_law_7 4 rfl
theorem dL_law_623 : decode cL_law 623 = .ok (.iconst 1, 1) := dAt dlL_law_7 5 rfl
theorem dL_law_624 : decode cL_law 624 = .ok (.iadd, 1) := dAt dlL_law_7 6 rfl
theorem dL_law_625 : decode cL_law 625 = .ok (.iaload, 1) := dAt dlL_law_7 7 rfl
theorem dL_law_626 : decode cL_law 626 = .ok (.invokevirtual 65, 3) := dAt dlL_law_7 8 rfl
theorem dL_law_629 : decode cL_law 629 = .ok (.if_icmp .eq 409, 3) := dAt dlL_law_7 9 rfl
theorem dL_law_632 : decode cL_law 632 = .ok (.iconst 0, 1) := dAt dlL_law_7 10 rfl
theorem dL_law_633 : decode cL_law 633 = .ok (.ireturn, 1) := dAt dlL_law_7 11 rfl
theorem dL_law_634 : decode cL_law 634 = .ok (.aload_n 1, 1) := dAt dlL_law_7 12 rfl
theorem dL_law_635 : decode cL_law 635 = .ok (.aload_n 0, 1) := dAt dlL_law_7 13 rfl
theorem dL_law_636 : decode cL_law 636 = .ok (.iload_n 3, 1) := dAt dlL_law_7 14 rfl
theorem dL_law_637 : decode cL_law 637 = .ok (.iconst 1, 1) := dAt dlL_law_7 15 rfl
theorem dL_law_638 : decode cL_law 638 = .ok (.iadd, 1) := dAt dlL_law_7 16 rfl
theorem dL_law_639 : decode cL_law 639 = .ok (.iaload, 1) := dAt dlL_law_7 17 rfl
theorem dL_law_640 : decode cL_law 640 = .ok (.aload_n 0, 1) := dAt dlL_law_7 18 rfl
theorem dL_law_641 : decode cL_law 641 = .ok (.iload_n 3, 1) := dAt dlL_law_7 19 rfl
theorem dL_law_642 : decode cL_law 642 = .ok (.iconst 2, 1) := dAt dlL_law_7 20 rfl
theorem dL_law_643 : decode cL_law 643 = .ok (.iadd, 1) := dAt dlL_law_7 21 rfl
theorem dL_law_644 : decode cL_law 644 = .ok (.iaload, 1) := dAt dlL_law_7 22 rfl
theorem dL_law_645 : decode cL_law 645 = .ok (.invokevirtual 66, 3) := dAt dlL_law_7 23 rfl
theorem dL_law_648 : decode cL_law 648 = .ok (.aload_n 2, 1) := dAt dlL_law_7 24 rfl
theorem dL_law_649 : decode cL_law 649 = .ok (.aload_n 0, 1) := dAt dlL_law_7 25 rfl
theorem dL_law_650 : decode cL_law 650 = .ok (.iload_n 3, 1) := dAt dlL_law_7 26 rfl
theorem dL_law_651 : decode cL_law 651 = .ok (.iconst 1, 1) := dAt dlL_law_7 27 rfl
theorem dL_law_652 : decode cL_law 652 = .ok (.iadd, 1) := dAt dlL_law_7 28 rfl
theorem dL_law_653 : decode cL_law 653 = .ok (.iaload, 1) := dAt dlL_law_7 29 rfl
theorem dL_law_654 : decode cL_law 654 = .ok (.aload_n 0, 1) := dAt dlL_law_7 30 rfl
theorem dL_law_655 : decode cL_law 655 = .ok (.iload_n 3, 1) := dAt dlL_law_7 31 rfl
theorem dL_law_656 : decode cL_law 656 = .ok (.iconst 2, 1) := dAt dlL_law_7 32 rfl
theorem dL_law_657 : decode cL_law 657 = .ok (.iadd, 1) := dAt dlL_law_7 33 rfl
theorem dL_law_658 : decode cL_law 658 = .ok (.iaload, 1) := dAt dlL_law_7 34 rfl
theorem dL_law_659 : decode cL_law 659 = .ok (.invokevirtual 69, 3) := dAt dlL_law_7 35 rfl
theorem dL_law_662 : decode cL_law 662 = .ok (.if_icmp .eq 376, 3) := dAt dlL_law_7 36 rfl
theorem dL_law_665 : decode cL_law 665 = .ok (.iconst 0, 1) := dAt dlL_law_7 37 rfl
theorem dL_law_666 : decode cL_law 666 = .ok (.ireturn, 1) := dAt dlL_law_7 38 rfl
theorem dL_law_667 : decode cL_law 667 = .ok (.aload_n 1, 1) := dAt dlL_law_7 39 rfl
theorem dL_law_668 : decode cL_law 668 = .ok (.aload_n 0, 1) := dAt dlL_law_7 40 rfl
theorem dL_law_669 : decode cL_law 669 = .ok (.iload_n 3, 1) := dAt dlL_law_7 41 rfl
theorem dL_law_670 : decode cL_law 670 = .ok (.iconst 1, 1) := dAt dlL_law_7 42 rfl
theorem dL_law_671 : decode cL_law 671 = .ok (.iadd, 1) := dAt dlL_law_7 43 rfl
theorem dL_law_672 : decode cL_law 672 = .ok (.iaload, 1) := dAt dlL_law_7 44 rfl
theorem dL_law_673 : decode cL_law 673 = .ok (.invokevirtual 70, 3) := dAt dlL_law_7 45 rfl
theorem dL_law_676 : decode cL_law 676 = .ok (.aload_n 2, 1) := dAt dlL_law_7 46 rfl
theorem dL_law_677 : decode cL_law 677 = .ok (.aload_n 0, 1) := dAt dlL_law_7 47 rfl
theorem dL_law_678 : decode cL_law 678 = .ok (.iload_n 3, 1) := dAt dlL_law_7 48 rfl
theorem dL_law_679 : decode cL_law 679 = .ok (.iconst 1, 1) := dAt dlL_law_7 49 rfl
theorem dL_law_680 : decode cL_law 680 = .ok (.iadd, 1) := dAt dlL_law_7 50 rfl
theorem dL_law_681 : decode cL_law 681 = .ok (.iaload, 1) := dAt dlL_law_7 51 rfl
theorem dL_law_682 : decode cL_law 682 = .ok (.invokevirtual 73, 3) := dAt dlL_law_7 52 rfl
theorem dL_law_685 : decode cL_law 685 = .ok (.if_icmp .eq 353, 3) := dAt dlL_law_7 53 rfl
theorem dL_law_688 : decode cL_law 688 = .ok (.iconst 0, 1) := dAt dlL_law_7 54 rfl
theorem dL_law_689 : decode cL_law 689 = .ok (.ireturn, 1) := dAt dlL_law_7 55 rfl
theorem dL_law_690 : decode cL_law 690 = .ok (.aload_n 1, 1) := dAt dlL_law_7 56 rfl
theorem dL_law_691 : decode cL_law 691 = .ok (.aload_n 0, 1) := dAt dlL_law_7 57 rfl
theorem dL_law_692 : decode cL_law 692 = .ok (.iload_n 3, 1) := dAt dlL_law_7 58 rfl
theorem dL_law_693 : decode cL_law 693 = .ok (.iconst 1, 1) := dAt dlL_law_7 59 rfl
def ilL_law_8 : List (Nat × Instr × Nat) := [(694, .iadd, 1), (695, .iaload, 1), (696, .aload_n 0, 1), (697, .iload_n 3, 1), (698, .iconst 2, 1), (699, .iadd, 1), (700, .iaload, 1), (701, .aload_n 0, 1), (702, .iload_n 3, 1), (703, .iconst 3, 1), (704, .iadd, 1), (705, .iaload, 1), (706, .aload_n 0, 1), (707, .iload_n 3, 1), (708, .iconst 4, 1), (709, .iadd, 1), (710, .iaload, 1), (711, .invokevirtual 74, 3), (714, .aload_n 2, 1), (715, .aload_n 0, 1), (716, .iload_n 3, 1), (717, .iconst 1, 1), (718, .iadd, 1), (719, .iaload, 1), (720, .aload_n 0, 1), (721, .iload_n 3, 1), (722, .iconst 2, 1), (723, .iadd, 1), (724, .iaload, 1), (725, .aload_n 0, 1), (726, .iload_n 3, 1), (727, .iconst 3, 1), (728, .iadd, 1), (729, .iaload, 1), (730, .aload_n 0, 1), (731, .iload_n 3, 1), (732, .iconst 4, 1), (733, .iadd, 1), (734, .iaload, 1), (735, .invokevirtual 78, 3), (738, .lcmp, 1), (739, .ifCond .eq 299, 3), (742, .iconst 0, 1), (743, .ireturn, 1), (744, .aload_n 1, 1), (745, .aload_n 0, 1), (746, .iload_n 3, 1), (747, .iconst 1, 1), (748, .iadd, 1), (749, .iaload, 1), (750, .aload_n 0, 1), (751, .iload_n 3, 1), (752, .iconst 2, 1), (753, .iadd, 1), (754, .iaload, 1), (755, .aload_n 0, 1), (756, .iload_n 3, 1), (757, .iconst 3, 1), (758, .iadd, 1), (759, .iaload, 1)]
theorem dlL_law_8 : dOK cL_law ilL_law_8 = true := by decide +kernel
theorem dL_law_694 : decode cL_law 694 = .ok (.iadd, 1) := dAt dlL_law_8 0 rfl
theorem dL_law_695 : decode cL_law 695 = .ok (.iaload, 1) := dAt dlL_law_8 1 rfl
theorem dL_law_696 : decode cL_law 696 = .ok (.aload_n 0, 1) := dAt dlL_law_8 2 rfl
theorem dL_law_697 : decode cL_law 697 = .ok (.iload_n 3, 1) := dAt dlL_law_8 3 rfl
theorem dL_law_698 : decode cL_law 698 = .ok (.iconst 2, 1) := dAt dlL_law_8 4 rfl
theorem dL_law_699 : decode cL_law 699 = .ok (.iadd, 1) := dAt dlL_law_8 5 rfl
theorem dL_law_700 : decode cL_law 700 = .ok (.iaload, 1) := dAt dlL_law_8 6 rfl
theorem dL_law_701 : decode cL_law 701 = .ok (.aload_n 0, 1) := dAt dlL_law_8 7 rfl
theorem dL_law_702 : decode cL_law 702 = .ok (.iload_n 3, 1) := dAt dlL_law_8 8 rfl
theorem dL_law_703 : decode cL_law 703 = .ok (.iconst 3, 1) := dAt dlL_law_8 9 rfl
theorem dL_law_704 : decode cL_law 704 = .ok (.iadd, 1) := dAt dlL_law_8 10 rfl
theorem dL_law_705 : decode cL_law 705 = .ok (.iaload, 1) := dAt dlL_law_8 11 rfl
theorem dL_law_706 : decode cL_law 706 = .ok (.aload_n 0, 1) := dAt dlL_law_8 12 rfl
theorem dL_law_707 : decode cL_law 707 = .ok (.iload_n 3, 1) := dAt dlL_law_8 13 rfl
theorem dL_law_708 : decode cL_law 708 = .ok (.iconst 4, 1) := dAt dlL_law_8 14 rfl
theorem dL_law_709 : decode cL_law 709 = .ok (.iadd, 1) := dAt dlL_law_8 15 rfl
theorem dL_law_710 : decode cL_law 710 = .ok (.iaload, 1) := dAt dlL_law_8 16 rfl
theorem dL_law_711 : decode cL_law 711 = .ok (.invokevirtual 74, 3) := dAt dlL_law_8 17 rfl
theorem dL_law_714 : decode cL_law 714 = .ok (.aload_n 2, 1) := dAt dlL_law_8 18 rfl
theorem dL_law_715 : decode cL_law 715 = .ok (.aload_n 0, 1) := dAt dlL_law_8 19 rfl
theorem dL_law_716 : decode cL_law 716 = .ok (.iload_n 3, 1) := dAt dlL_law_8 20 rfl
theorem dL_law_717 : decode cL_law 717 = .ok (.iconst 1, 1) := dAt dlL_law_8 21 rfl
theorem dL_law_718 : decode cL_law 718 = .ok (.iadd, 1) := dAt dlL_law_8 22 rfl
theorem dL_law_719 : decode cL_law 719 = .ok (.iaload, 1) := dAt dlL_law_8 23 rfl
theorem dL_law_720 : decode cL_law 720 = .ok (.aload_n 0, 1) := dAt dlL_law_8 24 rfl
theorem dL_law_721 : decode cL_law 721 = .ok (.iload_n 3, 1) := dAt dlL_law_8 25 rfl
theorem dL_law_722 : decode cL_law 722 = .ok (.iconst 2, 1) := dAt dlL_law_8 26 rfl
theorem dL_law_723 : decode cL_law 723 = .ok (.iadd, 1) := dAt dlL_law_8 27 rfl
theorem dL_law_724 : decode cL_law 724 = .ok (.iaload, 1) := dAt dlL_law_8 28 rfl
theorem dL_law_725 : decode cL_law 725 = .ok (.aload_n 0, 1) := dAt dlL_law_8 29 rfl
theorem dL_law_726 : decode cL_law 726 = .ok (.iload_n 3, 1) := dAt dlL_law_8 30 rfl
theorem dL_law_727 : decode cL_law 727 = .ok (.iconst 3, 1) := dAt dlL_law_8 31 rfl
theorem dL_law_728 : decode cL_law 728 = .ok (.iadd, 1) := dAt dlL_law_8 32 rfl
theorem dL_law_729 : decode cL_law 729 = .ok (.iaload, 1) := dAt dlL_law_8 33 rfl
theorem dL_law_730 : decode cL_law 730 = .ok (.aload_n 0, 1) := dAt dlL_law_8 34 rfl
theorem dL_law_731 : decode cL_law 731 = .ok (.iload_n 3, 1) := dAt dlL_law_8 35 rfl
theorem dL_law_732 : decode cL_law 732 = .ok (.iconst 4, 1) := dAt dlL_law_8 36 rfl
theorem dL_law_733 : decode cL_law 733 = .ok (.iadd, 1) := dAt dlL_law_8 37 rfl
theorem dL_law_734 : decode cL_law 734 = .ok (.iaload, 1) := dAt dlL_law_8 38 rfl
theorem dL_law_735 : decode cL_law 735 = .ok (.invokevirtual 78, 3) := dAt dlL_law_8 39 rfl
theorem dL_law_738 : decode cL_law 738 = .ok (.lcmp, 1) := dAt dlL_law_8 40 rfl
theorem dL_law_739 : decode cL_law 739 = .ok (.ifCond .eq 299, 3) := dAt dlL_law_8 41 rfl
theorem dL_law_742 : decode cL_law 742 = .ok (.iconst 0, 1) := dAt dlL_law_8 42 rfl
theorem dL_law_743 : decode cL_law 743 = .ok (.ireturn, 1) := dAt dlL_law_8 43 rfl
theorem dL_law_744 : decode cL_law 744 = .ok (.aload_n 1, 1) := dAt dlL_law_8 44 rfl
theorem dL_law_745 : decode cL_law 745 = .ok (.aload_n 0, 1) := dAt dlL_law_8 45 rfl
theorem dL_law_746 : decode cL_law 746 = .ok (.iload_n 3, 1) := dAt dlL_law_8 46 rfl
theorem dL_law_747 : decode cL_law 747 = .ok (.iconst 1, 1) := dAt dlL_law_8 47 rfl
theorem dL_law_748 : decode cL_law 748 = .ok (.iadd, 1) := dAt dlL_law_8 48 rfl
theorem dL_law_749 : decode cL_law 749 = .ok (.iaload, 1) := dAt dlL_law_8 49 rfl
theorem dL_law_750 : decode cL_law 750 = .ok (.aload_n 0, 1) := dAt dlL_law_8 50 rfl
theorem dL_law_751 : decode cL_law 751 = .ok (.iload_n 3, 1) := dAt dlL_law_8 51 rfl
theorem dL_law_752 : decode cL_law 752 = .ok (.iconst 2, 1) := dAt dlL_law_8 52 rfl
theorem dL_law_753 : decode cL_law 753 = .ok (.iadd, 1) := dAt dlL_law_8 53 rfl
theorem dL_law_754 : decode cL_law 754 = .ok (.iaload, 1) := dAt dlL_law_8 54 rfl
theorem dL_law_755 : decode cL_law 755 = .ok (.aload_n 0, 1) := dAt dlL_law_8 55 rfl
theorem dL_law_756 : decode cL_law 756 = .ok (.iload_n 3, 1) := dAt dlL_law_8 56 rfl
theorem dL_law_757 : decode cL_law 757 = .ok (.iconst 3, 1) := dAt dlL_law_8 57 rfl
theorem dL_law_758 : decode cL_law 758 = .ok (.iadd, 1) := dAt dlL_law_8 58 rfl
theorem dL_law_759 : decode cL_law 759 = .ok (.iaload, 1) := dAt dlL_law_8 59 rfl
def ilL_law_9 : List (Nat × Instr × Nat) := [(760, .invokevirtual 79, 3), (763, .aload_n 2, 1), (764, .aload_n 0, 1), (765, .iload_n 3, 1), (766, .iconst 1, 1), (767, .iadd, 1), (768, .iaload, 1), (769, .aload_n 0, 1), (770, .iload_n 3, 1), (771, .iconst 2, 1), (772, .iadd, 1), (773, .iaload, 1), (774, .aload_n 0, 1), (775, .iload_n 3, 1), (776, .iconst 3, 1), (777, .iadd, 1), (778, .iaload, 1), (779, .invokevirtual 83, 3), (782, .lcmp, 1), (783, .ifCond .eq 255, 3), (786, .iconst 0, 1), (787, .ireturn, 1), (788, .aload_n 1, 1), (789, .aload_n 0, 1), (790, .iload_n 3, 1), (791, .iconst 1, 1), (792, .iadd, 1), (793, .iaload, 1), (794, .aload_n 0, 1), (795, .iload_n 3, 1), (796, .iconst 2, 1), (797, .iadd, 1), (798, .iaload, 1), (799, .aload_n 0, 1), (800, .iload_n 3, 1), (801, .iconst 3, 1), (802, .iadd, 1), (803, .iaload, 1), (804, .invokevirtual 84, 3), (807, .aload_n 2, 1), (808, .aload_n 0, 1), (809, .iload_n 3, 1), (810, .iconst 1, 1), (811, .iadd, 1), (812, .iaload, 1), (813, .aload_n 0, 1), (814, .iload_n 3, 1), (815, .iconst 2, 1), (816, .iadd, 1), (817, .iaload, 1), (818, .aload_n 0, 1), (819, .iload_n 3, 1), (820, .iconst 3, 1), (821, .iadd, 1), (822, .iaload, 1), (823, .invokevirtual 87, 3), (826, .if_icmp .eq 212, 3), (829, .iconst 0, 1), (830, .ireturn, 1), (831, .aload_n 1, 1)]
theorem dlL_law_9 : dOK cL_law ilL_law_9 = true := by decide +kernel
theorem dL_law_760 : decode cL_law 760 = .ok (.invokevirtual 79, 3) := dAt dlL_law_9 0 rfl
theorem dL_law_763 : decode cL_law 763 = .ok (.aload_n 2, 1) := dAt dlL_law_9 1 rfl
theorem dL_law_764 : decode cL_law 764 = .ok (.aload_n 0, 1) := dAt dlL_law_9 2 rfl
theorem dL_law_765 : decode cL_law 765 = .ok (.iload_n 3, 1) := dAt dlL_law_9 3 rfl
theorem dL_law_766 : decode cL_law 766 = .ok (.iconst 1, 1) := dAt dlL_law_9 4 rfl
theorem dL_law_767 : decode cL_law 767 = .ok (.iadd, 1) := dAt dlL_law_9 5 rfl
theorem dL_law_768 : decode cL_law 768 = .ok (.iaload, 1) := dAt dlL_law_9 6 rfl
theorem dL_law_769 : decode cL_law 769 = .ok (.aload_n 0, 1) := dAt dlL_law_9 7 rfl
theorem dL_law_770 : decode cL_law 770 = .ok (.iload_n 3, 1) := dAt dlL_law_9 8 rfl
theorem dL_law_771 : decode cL_law 771 = .ok (.iconst 2, 1) := dAt dlL_law_9 9 rfl
theorem dL_law_772 : decode cL_law 772 = .ok (.iadd, 1) := dAt dlL_law_9 10 rfl
theorem dL_law_773 : decode cL_law 773 = .ok (.iaload, 1) := dAt dlL_law_9 11 rfl
theorem dL_law_774 : decode cL_law 774 = .ok (.aload_n 0, 1) := dAt dlL_law_9 12 rfl
theorem dL_law_775 : decode cL_law 775 = .ok (.iload_n 3, 1) := dAt dlL_law_9 13 rfl
theorem dL_law_776 : decode cL_law 776 = .ok (.iconst 3, 1) := dAt dlL_law_9 14 rfl
theorem dL_law_777 : decode cL_law 777 = .ok (.iadd, 1) := dAt dlL_law_9 15 rfl
theorem dL_law_778 : decode cL_law 778 = .ok (.iaload, 1) := dAt dlL_law_9 16 rfl
theorem dL_law_779 : decode cL_law 779 = .ok (.invokevirtual 83, 3) := dAt dlL_law_9 17 rfl
theorem dL_law_782 : decode cL_law 782 = .ok (.lcmp, 1) := dAt dlL_law_9 18 rfl
theorem dL_law_783 : decode cL_law 783 = .ok (.ifCond .eq 255, 3) := dAt dlL_law_9 19 rfl
theorem dL_law_786 : decode cL_law 786 = .ok (.iconst 0, 1) := dAt dlL_law_9 20 rfl
theorem dL_law_787 : decode cL_law 787 = .ok (.ireturn, 1) := dAt dlL_law_9 21 rfl
theorem dL_law_788 : decode cL_law 788 = .ok (.aload_n 1, 1) := dAt dlL_law_9 22 rfl
theorem dL_law_789 : decode cL_law 789 = .ok (.aload_n 0, 1) := dAt dlL_law_9 23 rfl
theorem dL_law_790 : decode cL_law 790 = .ok (.iload_n 3, 1) := dAt dlL_law_9 24 rfl
theorem dL_law_791 : decode cL_law 791 = .ok (.iconst 1, 1) := dAt dlL_law_9 25 rfl
theorem dL_law_792 : decode cL_law 792 = .ok (.iadd, 1) := dAt dlL_law_9 26 rfl
theorem dL_law_793 : decode cL_law 793 = .ok (.iaload, 1) := dAt dlL_law_9 27 rfl
theorem dL_law_794 : decode cL_law 794 = .ok (.aload_n 0, 1) := dAt dlL_law_9 28 rfl
theorem dL_law_795 : decode cL_law 795 = .ok (.iload_n 3, 1) := dAt dlL_law_9 29 rfl
theorem dL_law_796 : decode cL_law 796 = .ok (.iconst 2, 1) := dAt dlL_law_9 30 rfl
theorem dL_law_797 : decode cL_law 797 = .ok (.iadd, 1) := dAt dlL_law_9 31 rfl
theorem dL_law_798 : decode cL_law 798 = .ok (.iaload, 1) := dAt dlL_law_9 32 rfl
theorem dL_law_799 : decode cL_law 799 = .ok (.aload_n 0, 1) := dAt dlL_law_9 33 rfl
theorem dL_law_800 : decode cL_law 800 = .ok (.iload_n 3, 1) := dAt dlL_law_9 34 rfl
theorem dL_law_801 : decode cL_law 801 = .ok (.iconst 3, 1) := dAt dlL_law_9 35 rfl
theorem dL_law_802 : decode cL_law 802 = .ok (.iadd, 1) := dAt dlL_law_9 36 rfl
theorem dL_law_803 : decode cL_law 803 = .ok (.iaload, 1) := dAt dlL_law_9 37 rfl
theorem dL_law_804 : decode cL_law 804 = .ok (.invokevirtual 84, 3) := dAt dlL_law_9 38 rfl
theorem dL_law_807 : decode cL_law 807 = .ok (.aload_n 2, 1) := dAt dlL_law_9 39 rfl
theorem dL_law_808 : decode cL_law 808 = .ok (.aload_n 0, 1) := dAt dlL_law_9 40 rfl
theorem dL_law_809 : decode cL_law 809 = .ok (.iload_n 3, 1) := dAt dlL_law_9 41 rfl
theorem dL_law_810 : decode cL_law 810 = .ok (.iconst 1, 1) := dAt dlL_law_9 42 rfl
theorem dL_law_811 : decode cL_law 811 = .ok (.iadd, 1) := dAt dlL_law_9 43 rfl
theorem dL_law_812 : decode cL_law 812 = .ok (.iaload, 1) := dAt dlL_law_9 44 rfl
theorem dL_law_813 : decode cL_law 813 = .ok (.aload_n 0, 1) := dAt dlL_law_9 45 rfl
theorem dL_law_814 : decode cL_law 814 = .ok (.iload_n 3, 1) := dAt dlL_law_9 46 rfl
theorem dL_law_815 : decode cL_law 815 = .ok (.iconst 2, 1) := dAt dlL_law_9 47 rfl
theorem dL_law_816 : decode cL_law 816 = .ok (.iadd, 1) := dAt dlL_law_9 48 rfl
theorem dL_law_817 : decode cL_law 817 = .ok (.iaload, 1) := dAt dlL_law_9 49 rfl
theorem dL_law_818 : decode cL_law 818 = .ok (.aload_n 0, 1) := dAt dlL_law_9 50 rfl
theorem dL_law_819 : decode cL_law 819 = .ok (.iload_n 3, 1) := dAt dlL_law_9 51 rfl
theorem dL_law_820 : decode cL_law 820 = .ok (.iconst 3, 1) := dAt dlL_law_9 52 rfl
theorem dL_law_821 : decode cL_law 821 = .ok (.iadd, 1) := dAt dlL_law_9 53 rfl
theorem dL_law_822 : decode cL_law 822 = .ok (.iaload, 1) := dAt dlL_law_9 54 rfl
theorem dL_law_823 : decode cL_law 823 = .ok (.invokevirtual 87, 3) := dAt dlL_law_9 55 rfl
theorem dL_law_826 : decode cL_law 826 = .ok (.if_icmp .eq 212, 3) := dAt dlL_law_9 56 rfl
theorem dL_law_829 : decode cL_law 829 = .ok (.iconst 0, 1) := dAt dlL_law_9 57 rfl
theorem dL_law_830 : decode cL_law 830 = .ok (.ireturn, 1) := dAt dlL_law_9 58 rfl
theorem dL_law_831 : decode cL_law 831 = .ok (.aload_n 1, 1) := dAt dlL_law_9 59 rfl
def ilL_law_10 : List (Nat × Instr × Nat) := [(832, .aload_n 0, 1), (833, .iload_n 3, 1), (834, .iconst 1, 1), (835, .iadd, 1), (836, .iaload, 1), (837, .aload_n 0, 1), (838, .iload_n 3, 1), (839, .iconst 2, 1), (840, .iadd, 1), (841, .iaload, 1), (842, .aload_n 0, 1), (843, .iload_n 3, 1), (844, .iconst 3, 1), (845, .iadd, 1), (846, .iaload, 1), (847, .invokevirtual 88, 3), (850, .aload_n 2, 1), (851, .aload_n 0, 1), (852, .iload_n 3, 1), (853, .iconst 1, 1), (854, .iadd, 1), (855, .iaload, 1), (856, .aload_n 0, 1), (857, .iload_n 3, 1), (858, .iconst 2, 1), (859, .iadd, 1), (860, .iaload, 1), (861, .aload_n 0, 1), (862, .iload_n 3, 1), (863, .iconst 3, 1), (864, .iadd, 1), (865, .iaload, 1), (866, .invokevirtual 91, 3), (869, .if_icmp .eq 169, 3), (872, .iconst 0, 1), (873, .ireturn, 1), (874, .aload_n 1, 1), (875, .aload_n 0, 1), (876, .iload_n 3, 1), (877, .iconst 1, 1), (878, .iadd, 1), (879, .iaload, 1), (880, .invokevirtual 92, 3), (883, .aload_n 2, 1), (884, .aload_n 0, 1), (885, .iload_n 3, 1), (886, .iconst 1, 1), (887, .iadd, 1), (888, .iaload, 1), (889, .invokevirtual 95, 3), (892, .if_icmp .eq 146, 3), (895, .iconst 0, 1), (896, .ireturn, 1), (897, .aload_n 1, 1), (898, .aload_n 0, 1), (899, .iload_n 3, 1), (900, .iconst 1, 1), (901, .iadd, 1), (902, .iaload, 1), (903, .aload_n 0, 1)]
theorem dlL_law_10 : dOK cL_law ilL_law_10 = true := by decide +kernel
theorem dL_law_832 : decode cL_law 832 = .ok (.aload_n 0, 1) := dAt dlL_law_10 0 rfl
theorem dL_law_833 : decode cL_law 833 = .ok (.iload_n 3, 1) := dAt dlL_law_10 1 rfl
theorem dL_law_834 : decode cL_law 834 = .ok (.iconst 1, 1) := dAt dlL_law_10 2 rfl
theorem dL_law_835 : decode cL_law 835 = .ok (.iadd, 1) := dAt dlL_law_10 3 rfl
theorem dL_law_836 : decode cL_law 836 = .ok (.iaload, 1) := dAt dlL_law_10 4 rfl
theorem dL_law_837 : decode cL_law 837 = .ok (.aload_n 0, 1) := dAt dlL_law_10 5 rfl
theorem dL_law_838 : decode cL_law 838 = .ok (.iload_n 3, 1) := dAt dlL_law_10 6 rfl
theorem dL_law_839 : decode cL_law 839 = .ok (.iconst 2, 1) := dAt dlL_law_10 7 rfl
theorem dL_law_840 : decode cL_law 840 = .ok (.iadd, 1) := dAt dlL_law_10 8 rfl
theorem dL_law_841 : decode cL_law 841 = .ok (.iaload, 1) := dAt dlL_law_10 9 rfl
theorem dL_law_842 : decode cL_law 842 = .ok (.aload_n 0, 1) := dAt dlL_law_10 10 rfl
theorem dL_law_843 : decode cL_law 843 = .ok (.iload_n 3, 1) := dAt dlL_law_10 11 rfl
theorem dL_law_844 : decode cL_law 844 = .ok (.iconst 3, 1) := dAt dlL_law_10 12 rfl
theorem dL_law_845 : decode cL_law 845 = .ok (.iadd, 1) := dAt dlL_law_10 13 rfl
theorem dL_law_846 : decode cL_law 846 = .ok (.iaload, 1) := dAt dlL_law_10 14 rfl
theorem dL_law_847 : decode cL_law 847 = .ok (.invokevirtual 88, 3) := dAt dlL_law_10 15 rfl
theorem dL_law_850 : decode cL_law 850 = .ok (.aload_n 2, 1) := dAt dlL_law_10 16 rfl
theorem dL_law_851 : decode cL_law 851 = .ok (.aload_n 0, 1) := dAt dlL_law_10 17 rfl
theorem dL_law_852 : decode cL_law 852 = .ok (.iload_n 3, 1) := dAt dlL_law_10 18 rfl
theorem dL_law_853 : decode cL_law 853 = .ok (.iconst 1, 1) := dAt dlL_law_10 19 rfl
theorem dL_law_854 : decode cL_law 854 = .ok (.iadd, 1) := dAt dlL_law_10 20 rfl
theorem dL_law_855 : decode cL_law 855 = .ok (.iaload, 1) := dAt dlL_law_10 21 rfl
theorem dL_law_856 : decode cL_law 856 = .ok (.aload_n 0, 1) := dAt dlL_law_10 22 rfl
theorem dL_law_857 : decode cL_law 857 = .ok (.iload_n 3, 1) := dAt dlL_law_10 23 rfl
theorem dL_law_858 : decode cL_law 858 = .ok (.iconst 2, 1) := dAt dlL_law_10 24 rfl
theorem dL_law_859 : decode cL_law 859 = .ok (.iadd, 1) := dAt dlL_law_10 25 rfl
theorem dL_law_860 : decode cL_law 860 = .ok (.iaload, 1) := dAt dlL_law_10 26 rfl
theorem dL_law_861 : decode cL_law 861 = .ok (.aload_n 0, 1) := dAt dlL_law_10 27 rfl
theorem dL_law_862 : decode cL_law 862 = .ok (.iload_n 3, 1) := dAt dlL_law_10 28 rfl
theorem dL_law_863 : decode cL_law 863 = .ok (.iconst 3, 1) := dAt dlL_law_10 29 rfl
theorem dL_law_864 : decode cL_law 864 = .ok (.iadd, 1) := dAt dlL_law_10 30 rfl
theorem dL_law_865 : decode cL_law 865 = .ok (.iaload, 1) := dAt dlL_law_10 31 rfl
theorem dL_law_866 : decode cL_law 866 = .ok (.invokevirtual 91, 3) := dAt dlL_law_10 32 rfl
theorem dL_law_869 : decode cL_law 869 = .ok (.if_icmp .eq 169, 3) := dAt dlL_law_10 33 rfl
theorem dL_law_872 : decode cL_law 872 = .ok (.iconst 0, 1) := dAt dlL_law_10 34 rfl
theorem dL_law_873 : decode cL_law 873 = .ok (.ireturn, 1) := dAt dlL_law_10 35 rfl
theorem dL_law_874 : decode cL_law 874 = .ok (.aload_n 1, 1) := dAt dlL_law_10 36 rfl
theorem dL_law_875 : decode cL_law 875 = .ok (.aload_n 0, 1) := dAt dlL_law_10 37 rfl
theorem dL_law_876 : decode cL_law 876 = .ok (.iload_n 3, 1) := dAt dlL_law_10 38 rfl
theorem dL_law_877 : decode cL_law 877 = .ok (.iconst 1, 1) := dAt dlL_law_10 39 rfl
theorem dL_law_878 : decode cL_law 878 = .ok (.iadd, 1) := dAt dlL_law_10 40 rfl
theorem dL_law_879 : decode cL_law 879 = .ok (.iaload, 1) := dAt dlL_law_10 41 rfl
theorem dL_law_880 : decode cL_law 880 = .ok (.invokevirtual 92, 3) := dAt dlL_law_10 42 rfl
theorem dL_law_883 : decode cL_law 883 = .ok (.aload_n 2, 1) := dAt dlL_law_10 43 rfl
theorem dL_law_884 : decode cL_law 884 = .ok (.aload_n 0, 1) := dAt dlL_law_10 44 rfl
theorem dL_law_885 : decode cL_law 885 = .ok (.iload_n 3, 1) := dAt dlL_law_10 45 rfl
theorem dL_law_886 : decode cL_law 886 = .ok (.iconst 1, 1) := dAt dlL_law_10 46 rfl
theorem dL_law_887 : decode cL_law 887 = .ok (.iadd, 1) := dAt dlL_law_10 47 rfl
theorem dL_law_888 : decode cL_law 888 = .ok (.iaload, 1) := dAt dlL_law_10 48 rfl
theorem dL_law_889 : decode cL_law 889 = .ok (.invokevirtual 95, 3) := dAt dlL_law_10 49 rfl
theorem dL_law_892 : decode cL_law 892 = .ok (.if_icmp .eq 146, 3) := dAt dlL_law_10 50 rfl
theorem dL_law_895 : decode cL_law 895 = .ok (.iconst 0, 1) := dAt dlL_law_10 51 rfl
theorem dL_law_896 : decode cL_law 896 = .ok (.ireturn, 1) := dAt dlL_law_10 52 rfl
theorem dL_law_897 : decode cL_law 897 = .ok (.aload_n 1, 1) := dAt dlL_law_10 53 rfl
theorem dL_law_898 : decode cL_law 898 = .ok (.aload_n 0, 1) := dAt dlL_law_10 54 rfl
theorem dL_law_899 : decode cL_law 899 = .ok (.iload_n 3, 1) := dAt dlL_law_10 55 rfl
theorem dL_law_900 : decode cL_law 900 = .ok (.iconst 1, 1) := dAt dlL_law_10 56 rfl
theorem dL_law_901 : decode cL_law 901 = .ok (.iadd, 1) := dAt dlL_law_10 57 rfl
theorem dL_law_902 : decode cL_law 902 = .ok (.iaload, 1) := dAt dlL_law_10 58 rfl
theorem dL_law_903 : decode cL_law 903 = .ok (.aload_n 0, 1) := dAt dlL_law_10 59 rfl
def ilL_law_11 : List (Nat × Instr × Nat) := [(904, .iload_n 3, 1), (905, .iconst 2, 1), (906, .iadd, 1), (907, .iaload, 1), (908, .i2l, 1), (909, .bipush 32, 2), (911, .lshl, 1), (912, .aload_n 0, 1), (913, .iload_n 3, 1), (914, .iconst 3, 1), (915, .iadd, 1), (916, .iaload, 1), (917, .i2l, 1), (918, .ldc2_w 96, 3), (921, .land, 1), (922, .lor, 1), (923, .invokevirtual 98, 3), (926, .aload_n 2, 1), (927, .aload_n 0, 1), (928, .iload_n 3, 1), (929, .iconst 1, 1), (930, .iadd, 1), (931, .iaload, 1), (932, .aload_n 0, 1), (933, .iload_n 3, 1), (934, .iconst 2, 1), (935, .iadd, 1), (936, .iaload, 1), (937, .i2l, 1), (938, .bipush 32, 2), (940, .lshl, 1), (941, .aload_n 0, 1), (942, .iload_n 3, 1), (943, .iconst 3, 1), (944, .iadd, 1), (945, .iaload, 1), (946, .i2l, 1), (947, .ldc2_w 96, 3), (950, .land, 1), (951, .lor, 1), (952, .invokevirtual 102, 3), (955, .if_icmp .eq 83, 3), (958, .iconst 0, 1), (959, .ireturn, 1), (960, .aload_n 1, 1), (961, .aload_n 0, 1), (962, .iload_n 3, 1), (963, .iconst 1, 1), (964, .iadd, 1), (965, .iaload, 1), (966, .aload_n 0, 1), (967, .iload_n 3, 1), (968, .iconst 2, 1), (969, .iadd, 1), (970, .iaload, 1), (971, .i2l, 1), (972, .bipush 32, 2), (974, .lshl, 1), (975, .aload_n 0, 1), (976, .iload_n 3, 1)]
theorem dlL_law_11 : dOK cL_law ilL_law_11 = true := by decide +kernel
theorem dL_law_904 : decode cL_law 904 = .ok (.iload_n 3, 1) := dAt dlL_law_11 0 rfl
theorem dL_law_905 : decode cL_law 905 = .ok (.iconst 2, 1) := dAt dlL_law_11 1 rfl
theorem dL_law_906 : decode cL_law 906 = .ok (.iadd, 1) := dAt dlL_law_11 2 rfl
theorem dL_law_907 : decode cL_law 907 = .ok (.iaload, 1) := dAt dlL_law_11 3 rfl
theorem dL_law_908 : decode cL_law 908 = .ok (.i2l, 1) := dAt dlL_law_11 4 rfl
theorem dL_law_909 : decode cL_law 909 = .ok (.bipush 32, 2) := dAt dlL_law_11 5 rfl
theorem dL_law_911 : decode cL_law 911 = .ok (.lshl, 1) := dAt dlL_law_11 6 rfl
theorem dL_law_912 : decode cL_law 912 = .ok (.aload_n 0, 1) := dAt dlL_law_11 7 rfl
theorem dL_law_913 : decode cL_law 913 = .ok (.iload_n 3, 1) := dAt dlL_law_11 8 rfl
theorem dL_law_914 : decode cL_law 914 = .ok (.iconst 3, 1) := dAt dlL_law_11 9 rfl
theorem dL_law_915 : decode cL_law 915 = .ok (.iadd, 1) := dAt dlL_law_11 10 rfl
theorem dL_law_916 : decode cL_law 916 = .ok (.iaload, 1) := dAt dlL_law_11 11 rfl
theorem dL_law_917 : decode cL_law 917 = .ok (.i2l, 1) := dAt dlL_law_11 12 rfl
theorem dL_law_918 : decode cL_law 918 = .ok (.ldc2_w 96, 3) := dAt dlL_law_11 13 rfl
theorem dL_law_921 : decode cL_law 921 = .ok (.land, 1) := dAt dlL_law_11 14 rfl
theorem dL_law_922 : decode cL_law 922 = .ok (.lor, 1) := dAt dlL_law_11 15 rfl
theorem dL_law_923 : decode cL_law 923 = .ok (.invokevirtual 98, 3) := dAt dlL_law_11 16 rfl
theorem dL_law_926 : decode cL_law 926 = .ok (.aload_n 2, 1) := dAt dlL_law_11 17 rfl
theorem dL_law_927 : decode cL_law 927 = .ok (.aload_n 0, 1) := dAt dlL_law_11 18 rfl
theorem dL_law_928 : decode cL_law 928 = .ok (.iload_n 3, 1) := dAt dlL_law_11 19 rfl
theorem dL_law_929 : decode cL_law 929 = .ok (.iconst 1, 1) := dAt dlL_law_11 20 rfl
theorem dL_law_930 : decode cL_law 930 = .ok (.iadd, 1) := dAt dlL_law_11 21 rfl
theorem dL_law_931 : decode cL_law 931 = .ok (.iaload, 1) := dAt dlL_law_11 22 rfl
theorem dL_law_932 : decode cL_law 932 = .ok (.aload_n 0, 1) := dAt dlL_law_11 23 rfl
theorem dL_law_933 : decode cL_law 933 = .ok (.iload_n 3, 1) := dAt dlL_law_11 24 rfl
theorem dL_law_934 : decode cL_law 934 = .ok (.iconst 2, 1) := dAt dlL_law_11 25 rfl
theorem dL_law_935 : decode cL_law 935 = .ok (.iadd, 1) := dAt dlL_law_11 26 rfl
theorem dL_law_936 : decode cL_law 936 = .ok (.iaload, 1) := dAt dlL_law_11 27 rfl
theorem dL_law_937 : decode cL_law 937 = .ok (.i2l, 1) := dAt dlL_law_11 28 rfl
theorem dL_law_938 : decode cL_law 938 = .ok (.bipush 32, 2) := dAt dlL_law_11 29 rfl
theorem dL_law_940 : decode cL_law 940 = .ok (.lshl, 1) := dAt dlL_law_11 30 rfl
theorem dL_law_941 : decode cL_law 941 = .ok (.aload_n 0, 1) := dAt dlL_law_11 31 rfl
theorem dL_law_942 : decode cL_law 942 = .ok (.iload_n 3, 1) := dAt dlL_law_11 32 rfl
theorem dL_law_943 : decode cL_law 943 = .ok (.iconst 3, 1) := dAt dlL_law_11 33 rfl
theorem dL_law_944 : decode cL_law 944 = .ok (.iadd, 1) := dAt dlL_law_11 34 rfl
theorem dL_law_945 : decode cL_law 945 = .ok (.iaload, 1) := dAt dlL_law_11 35 rfl
theorem dL_law_946 : decode cL_law 946 = .ok (.i2l, 1) := dAt dlL_law_11 36 rfl
theorem dL_law_947 : decode cL_law 947 = .ok (.ldc2_w 96, 3) := dAt dlL_law_11 37 rfl
theorem dL_law_950 : decode cL_law 950 = .ok (.land, 1) := dAt dlL_law_11 38 rfl
theorem dL_law_951 : decode cL_law 951 = .ok (.lor, 1) := dAt dlL_law_11 39 rfl
theorem dL_law_952 : decode cL_law 952 = .ok (.invokevirtual 102, 3) := dAt dlL_law_11 40 rfl
theorem dL_law_955 : decode cL_law 955 = .ok (.if_icmp .eq 83, 3) := dAt dlL_law_11 41 rfl
theorem dL_law_958 : decode cL_law 958 = .ok (.iconst 0, 1) := dAt dlL_law_11 42 rfl
theorem dL_law_959 : decode cL_law 959 = .ok (.ireturn, 1) := dAt dlL_law_11 43 rfl
theorem dL_law_960 : decode cL_law 960 = .ok (.aload_n 1, 1) := dAt dlL_law_11 44 rfl
theorem dL_law_961 : decode cL_law 961 = .ok (.aload_n 0, 1) := dAt dlL_law_11 45 rfl
theorem dL_law_962 : decode cL_law 962 = .ok (.iload_n 3, 1) := dAt dlL_law_11 46 rfl
theorem dL_law_963 : decode cL_law 963 = .ok (.iconst 1, 1) := dAt dlL_law_11 47 rfl
theorem dL_law_964 : decode cL_law 964 = .ok (.iadd, 1) := dAt dlL_law_11 48 rfl
theorem dL_law_965 : decode cL_law 965 = .ok (.iaload, 1) := dAt dlL_law_11 49 rfl
theorem dL_law_966 : decode cL_law 966 = .ok (.aload_n 0, 1) := dAt dlL_law_11 50 rfl
theorem dL_law_967 : decode cL_law 967 = .ok (.iload_n 3, 1) := dAt dlL_law_11 51 rfl
theorem dL_law_968 : decode cL_law 968 = .ok (.iconst 2, 1) := dAt dlL_law_11 52 rfl
theorem dL_law_969 : decode cL_law 969 = .ok (.iadd, 1) := dAt dlL_law_11 53 rfl
theorem dL_law_970 : decode cL_law 970 = .ok (.iaload, 1) := dAt dlL_law_11 54 rfl
theorem dL_law_971 : decode cL_law 971 = .ok (.i2l, 1) := dAt dlL_law_11 55 rfl
theorem dL_law_972 : decode cL_law 972 = .ok (.bipush 32, 2) := dAt dlL_law_11 56 rfl
theorem dL_law_974 : decode cL_law 974 = .ok (.lshl, 1) := dAt dlL_law_11 57 rfl
theorem dL_law_975 : decode cL_law 975 = .ok (.aload_n 0, 1) := dAt dlL_law_11 58 rfl
theorem dL_law_976 : decode cL_law 976 = .ok (.iload_n 3, 1) := dAt dlL_law_11 59 rfl
def ilL_law_12 : List (Nat × Instr × Nat) := [(977, .iconst 3, 1), (978, .iadd, 1), (979, .iaload, 1), (980, .i2l, 1), (981, .ldc2_w 96, 3), (984, .land, 1), (985, .lor, 1), (986, .invokevirtual 103, 3), (989, .aload_n 2, 1), (990, .aload_n 0, 1), (991, .iload_n 3, 1), (992, .iconst 1, 1), (993, .iadd, 1), (994, .iaload, 1), (995, .aload_n 0, 1), (996, .iload_n 3, 1), (997, .iconst 2, 1), (998, .iadd, 1), (999, .iaload, 1), (1000, .i2l, 1), (1001, .bipush 32, 2), (1003, .lshl, 1), (1004, .aload_n 0, 1), (1005, .iload_n 3, 1), (1006, .iconst 3, 1), (1007, .iadd, 1), (1008, .iaload, 1), (1009, .i2l, 1), (1010, .ldc2_w 96, 3), (1013, .land, 1), (1014, .lor, 1), (1015, .invokevirtual 107, 3), (1018, .lcmp, 1), (1019, .ifCond .eq 19, 3), (1022, .iconst 0, 1), (1023, .ireturn, 1), (1024, .aload_n 1, 1), (1025, .invokevirtual 108, 3), (1028, .aload_n 2, 1), (1029, .invokevirtual 112, 3), (1032, .lcmp, 1), (1033, .ifCond .eq 5, 3), (1036, .iconst 0, 1), (1037, .ireturn, 1), (1038, .iinc 3 5, 3), (1041, .goto (-1023), 3), (1044, .iconst 1, 1), (1045, .ireturn, 1)]
theorem dlL_law_12 : dOK cL_law ilL_law_12 = true := by decide +kernel
theorem dL_law_977 : decode cL_law 977 = .ok (.iconst 3, 1) := dAt dlL_law_12 0 rfl
theorem dL_law_978 : decode cL_law 978 = .ok (.iadd, 1) := dAt dlL_law_12 1 rfl
theorem dL_law_979 : decode cL_law 979 = .ok (.iaload, 1) := dAt dlL_law_12 2 rfl
theorem dL_law_980 : decode cL_law 980 = .ok (.i2l, 1) := dAt dlL_law_12 3 rfl
theorem dL_law_981 : decode cL_law 981 = .ok (.ldc2_w 96, 3) := dAt dlL_law_12 4 rfl
theorem dL_law_984 : decode cL_law 984 = .ok (.land, 1) := dAt dlL_law_12 5 rfl
theorem dL_law_985 : decode cL_law 985 = .ok (.lor, 1) := dAt dlL_law_12 6 rfl
theorem dL_law_986 : decode cL_law 986 = .ok (.invokevirtual 103, 3) := dAt dlL_law_12 7 rfl
theorem dL_law_989 : decode cL_law 989 = .ok (.aload_n 2, 1) := dAt dlL_law_12 8 rfl
theorem dL_law_990 : decode cL_law 990 = .ok (.aload_n 0, 1) := dAt dlL_law_12 9 rfl
theorem dL_law_991 : decode cL_law 991 = .ok (.iload_n 3, 1) := dAt dlL_law_12 10 rfl
theorem dL_law_992 : decode cL_law 992 = .ok (.iconst 1, 1) := dAt dlL_law_12 11 rfl
theorem dL_law_993 : decode cL_law 993 = .ok (.iadd, 1) := dAt dlL_law_12 12 rfl
theorem dL_law_994 : decode cL_law 994 = .ok (.iaload, 1) := dAt dlL_law_12 13 rfl
theorem dL_law_995 : decode cL_law 995 = .ok (.aload_n 0, 1) := dAt dlL_law_12 14 rfl
theorem dL_law_996 : decode cL_law 996 = .ok (.iload_n 3, 1) := dAt dlL_law_12 15 rfl
theorem dL_law_997 : decode cL_law 997 = .ok (.iconst 2, 1) := dAt dlL_law_12 16 rfl
theorem dL_law_998 : decode cL_law 998 = .ok (.iadd, 1) := dAt dlL_law_12 17 rfl
theorem dL_law_999 : decode cL_law 999 = .ok (.iaload, 1) := dAt dlL_law_12 18 rfl
theorem dL_law_1000 : decode cL_law 1000 = .ok (.i2l, 1) := dAt dlL_law_12 19 rfl
theorem dL_law_1001 : decode cL_law 1001 = .ok (.bipush 32, 2) := dAt dlL_law_12 20 rfl
theorem dL_law_1003 : decode cL_law 1003 = .ok (.lshl, 1) := dAt dlL_law_12 21 rfl
theorem dL_law_1004 : decode cL_law 1004 = .ok (.aload_n 0, 1) := dAt dlL_law_12 22 rfl
theorem dL_law_1005 : decode cL_law 1005 = .ok (.iload_n 3, 1) := dAt dlL_law_12 23 rfl
theorem dL_law_1006 : decode cL_law 1006 = .ok (.iconst 3, 1) := dAt dlL_law_12 24 rfl
theorem dL_law_1007 : decode cL_law 1007 = .ok (.iadd, 1) := dAt dlL_law_12 25 rfl
theorem dL_law_1008 : decode cL_law 1008 = .ok (.iaload, 1) := dAt dlL_law_12 26 rfl
theorem dL_law_1009 : decode cL_law 1009 = .ok (.i2l, 1) := dAt dlL_law_12 27 rfl
theorem dL_law_1010 : decode cL_law 1010 = .ok (.ldc2_w 96, 3) := dAt dlL_law_12 28 rfl
theorem dL_law_1013 : decode cL_law 1013 = .ok (.land, 1) := dAt dlL_law_12 29 rfl
theorem dL_law_1014 : decode cL_law 1014 = .ok (.lor, 1) := dAt dlL_law_12 30 rfl
theorem dL_law_1015 : decode cL_law 1015 = .ok (.invokevirtual 107, 3) := dAt dlL_law_12 31 rfl
theorem dL_law_1018 : decode cL_law 1018 = .ok (.lcmp, 1) := dAt dlL_law_12 32 rfl
theorem dL_law_1019 : decode cL_law 1019 = .ok (.ifCond .eq 19, 3) := dAt dlL_law_12 33 rfl
theorem dL_law_1022 : decode cL_law 1022 = .ok (.iconst 0, 1) := dAt dlL_law_12 34 rfl
theorem dL_law_1023 : decode cL_law 1023 = .ok (.ireturn, 1) := dAt dlL_law_12 35 rfl
theorem dL_law_1024 : decode cL_law 1024 = .ok (.aload_n 1, 1) := dAt dlL_law_12 36 rfl
theorem dL_law_1025 : decode cL_law 1025 = .ok (.invokevirtual 108, 3) := dAt dlL_law_12 37 rfl
theorem dL_law_1028 : decode cL_law 1028 = .ok (.aload_n 2, 1) := dAt dlL_law_12 38 rfl
theorem dL_law_1029 : decode cL_law 1029 = .ok (.invokevirtual 112, 3) := dAt dlL_law_12 39 rfl
theorem dL_law_1032 : decode cL_law 1032 = .ok (.lcmp, 1) := dAt dlL_law_12 40 rfl
theorem dL_law_1033 : decode cL_law 1033 = .ok (.ifCond .eq 5, 3) := dAt dlL_law_12 41 rfl
theorem dL_law_1036 : decode cL_law 1036 = .ok (.iconst 0, 1) := dAt dlL_law_12 42 rfl
theorem dL_law_1037 : decode cL_law 1037 = .ok (.ireturn, 1) := dAt dlL_law_12 43 rfl
theorem dL_law_1038 : decode cL_law 1038 = .ok (.iinc 3 5, 3) := dAt dlL_law_12 44 rfl
theorem dL_law_1041 : decode cL_law 1041 = .ok (.goto (-1023), 3) := dAt dlL_law_12 45 rfl
theorem dL_law_1044 : decode cL_law 1044 = .ok (.iconst 1, 1) := dAt dlL_law_12 46 rfl
theorem dL_law_1045 : decode cL_law 1045 = .ok (.ireturn, 1) := dAt dlL_law_12 47 rfl
