abbrev mi_Mod_doPending : MI := (⟨"WarpMillModel", "doPending", "()V"⟩, prog_13_method_57_code, 3, none, 2, 47)
def it_Mod_doPending_0 : List (Nat × ClassFile.Instr × Nat) := [(0, .aload_n 0, 1), (1, .getfield 133, 3), (4, .aload_n 0, 1), (5, .getfield 159, 3), (8, .if_icmp .le (4), 3), (11, .return_, 1), (12, .iconst 0, 1), (13, .istore_n 1, 1), (14, .aload_n 0, 1), (15, .ldc 132, 2), (17, .putfield 133, 3), (20, .iconst 0, 1), (21, .istore_n 2, 1), (22, .iload_n 2, 1), (23, .aload_n 0, 1), (24, .getfield 129, 3), (27, .if_icmp .ge (135), 3), (30, .aload_n 0, 1), (31, .getfield 87, 3), (34, .iload_n 2, 1), (35, .iaload, 1), (36, .aload_n 0, 1), (37, .getfield 159, 3), (40, .if_icmp .gt (11), 3)]
theorem id_Mod_doPending_0 : ∀ q ∈ it_Mod_doPending_0, decode prog_13_method_57_code q.1 = .ok q.2 := by decide +kernel
theorem d_Mod_doPending_0 : decode prog_13_method_57_code 0 = .ok (.aload_n 0, 1) := id_Mod_doPending_0 (0, .aload_n 0, 1) (List.mem_of_getElem? (i := 0) rfl)
theorem d_Mod_doPending_1 : decode prog_13_method_57_code 1 = .ok (.getfield 133, 3) := id_Mod_doPending_0 (1, .getfield 133, 3) (List.mem_of_getElem? (i := 1) rfl)
theorem d_Mod_doPending_4 : decode prog_13_method_57_code 4 = .ok (.aload_n 0, 1) := id_Mod_doPending_0 (4, .aload_n 0, 1) (List.mem_of_getElem? (i := 2) rfl)
theorem d_Mod_doPending_5 : decode prog_13_method_57_code 5 = .ok (.getfield 159, 3) := id_Mod_doPending_0 (5, .getfield 159, 3) (List.mem_of_getElem? (i := 3) rfl)
theorem d_Mod_doPending_8 : decode prog_13_method_57_code 8 = .ok (.if_icmp .le (4), 3) := id_Mod_doPending_0 (8, .if_icmp .le (4), 3) (List.mem_of_getElem? (i := 4) rfl)
theorem d_Mod_doPending_11 : decode prog_13_method_57_code 11 = .ok (.return_, 1) := id_Mod_doPending_0 (11, .return_, 1) (List.mem_of_getElem? (i := 5) rfl)
theorem d_Mod_doPending_12 : decode prog_13_method_57_code 12 = .ok (.iconst 0, 1) := id_Mod_doPending_0 (12, .iconst 0, 1) (List.mem_of_getElem? (i := 6) rfl)
theorem d_Mod_doPending_13 : decode prog_13_method_57_code 13 = .ok (.istore_n 1, 1) := id_Mod_doPending_0 (13, .istore_n 1, 1) (List.mem_of_getElem? (i := 7) rfl)
theorem d_Mod_doPending_14 : decode prog_13_method_57_code 14 = .ok (.aload_n 0, 1) := id_Mod_doPending_0 (14, .aload_n 0, 1) (List.mem_of_getElem? (i := 8) rfl)
theorem d_Mod_doPending_15 : decode prog_13_method_57_code 15 = .ok (.ldc 132, 2) := id_Mod_doPending_0 (15, .ldc 132, 2) (List.mem_of_getElem? (i := 9) rfl)
theorem d_Mod_doPending_17 : decode prog_13_method_57_code 17 = .ok (.putfield 133, 3) := id_Mod_doPending_0 (17, .putfield 133, 3) (List.mem_of_getElem? (i := 10) rfl)
theorem d_Mod_doPending_20 : decode prog_13_method_57_code 20 = .ok (.iconst 0, 1) := id_Mod_doPending_0 (20, .iconst 0, 1) (List.mem_of_getElem? (i := 11) rfl)
theorem d_Mod_doPending_21 : decode prog_13_method_57_code 21 = .ok (.istore_n 2, 1) := id_Mod_doPending_0 (21, .istore_n 2, 1) (List.mem_of_getElem? (i := 12) rfl)
theorem d_Mod_doPending_22 : decode prog_13_method_57_code 22 = .ok (.iload_n 2, 1) := id_Mod_doPending_0 (22, .iload_n 2, 1) (List.mem_of_getElem? (i := 13) rfl)
theorem d_Mod_doPending_23 : decode prog_13_method_57_code 23 = .ok (.aload_n 0, 1) := id_Mod_doPending_0 (23, .aload_n 0, 1) (List.mem_of_getElem? (i := 14) rfl)
theorem d_Mod_doPending_24 : decode prog_13_method_57_code 24 = .ok (.getfield 129, 3) := id_Mod_doPending_0 (24, .getfield 129, 3) (List.mem_of_getElem? (i := 15) rfl)
theorem d_Mod_doPending_27 : decode prog_13_method_57_code 27 = .ok (.if_icmp .ge (135), 3) := id_Mod_doPending_0 (27, .if_icmp .ge (135), 3) (List.mem_of_getElem? (i := 16) rfl)
theorem d_Mod_doPending_30 : decode prog_13_method_57_code 30 = .ok (.aload_n 0, 1) := id_Mod_doPending_0 (30, .aload_n 0, 1) (List.mem_of_getElem? (i := 17) rfl)
theorem d_Mod_doPending_31 : decode prog_13_method_57_code 31 = .ok (.getfield 87, 3) := id_Mod_doPending_0 (31, .getfield 87, 3) (List.mem_of_getElem? (i := 18) rfl)
theorem d_Mod_doPending_34 : decode prog_13_method_57_code 34 = .ok (.iload_n 2, 1) := id_Mod_doPending_0 (34, .iload_n 2, 1) (List.mem_of_getElem? (i := 19) rfl)
theorem d_Mod_doPending_35 : decode prog_13_method_57_code 35 = .ok (.iaload, 1) := id_Mod_doPending_0 (35, .iaload, 1) (List.mem_of_getElem? (i := 20) rfl)
theorem d_Mod_doPending_36 : decode prog_13_method_57_code 36 = .ok (.aload_n 0, 1) := id_Mod_doPending_0 (36, .aload_n 0, 1) (List.mem_of_getElem? (i := 21) rfl)
theorem d_Mod_doPending_37 : decode prog_13_method_57_code 37 = .ok (.getfield 159, 3) := id_Mod_doPending_0 (37, .getfield 159, 3) (List.mem_of_getElem? (i := 22) rfl)
theorem d_Mod_doPending_40 : decode prog_13_method_57_code 40 = .ok (.if_icmp .gt (11), 3) := id_Mod_doPending_0 (40, .if_icmp .gt (11), 3) (List.mem_of_getElem? (i := 23) rfl)
def it_Mod_doPending_1 : List (Nat × ClassFile.Instr × Nat) := [(43, .aload_n 0, 1), (44, .iload_n 2, 1), (45, .invokevirtual 356, 3), (48, .goto (108), 3), (51, .aload_n 0, 1), (52, .aload_n 0, 1), (53, .getfield 87, 3), (56, .iload_n 2, 1), (57, .iaload, 1), (58, .aload_n 0, 1), (59, .getfield 133, 3), (62, .if_icmp .ge (12), 3), (65, .aload_n 0, 1), (66, .getfield 87, 3), (69, .iload_n 2, 1), (70, .iaload, 1), (71, .goto (7), 3), (74, .aload_n 0, 1), (75, .getfield 133, 3), (78, .putfield 133, 3), (81, .aload_n 0, 1), (82, .getfield 87, 3), (85, .iload_n 1, 1), (86, .aload_n 0, 1)]
theorem id_Mod_doPending_1 : ∀ q ∈ it_Mod_doPending_1, decode prog_13_method_57_code q.1 = .ok q.2 := by decide +kernel
theorem d_Mod_doPending_43 : decode prog_13_method_57_code 43 = .ok (.aload_n 0, 1) := id_Mod_doPending_1 (43, .aload_n 0, 1) (List.mem_of_getElem? (i := 0) rfl)
theorem d_Mod_doPending_44 : decode prog_13_method_57_code 44 = .ok (.iload_n 2, 1) := id_Mod_doPending_1 (44, .iload_n 2, 1) (List.mem_of_getElem? (i := 1) rfl)
theorem d_Mod_doPending_45 : decode prog_13_method_57_code 45 = .ok (.invokevirtual 356, 3) := id_Mod_doPending_1 (45, .invokevirtual 356, 3) (List.mem_of_getElem? (i := 2) rfl)
theorem d_Mod_doPending_48 : decode prog_13_method_57_code 48 = .ok (.goto (108), 3) := id_Mod_doPending_1 (48, .goto (108), 3) (List.mem_of_getElem? (i := 3) rfl)
theorem d_Mod_doPending_51 : decode prog_13_method_57_code 51 = .ok (.aload_n 0, 1) := id_Mod_doPending_1 (51, .aload_n 0, 1) (List.mem_of_getElem? (i := 4) rfl)
theorem d_Mod_doPending_52 : decode prog_13_method_57_code 52 = .ok (.aload_n 0, 1) := id_Mod_doPending_1 (52, .aload_n 0, 1) (List.mem_of_getElem? (i := 5) rfl)
theorem d_Mod_doPending_53 : decode prog_13_method_57_code 53 = .ok (.getfield 87, 3) := id_Mod_doPending_1 (53, .getfield 87, 3) (List.mem_of_getElem? (i := 6) rfl)
theorem d_Mod_doPending_56 : decode prog_13_method_57_code 56 = .ok (.iload_n 2, 1) := id_Mod_doPending_1 (56, .iload_n 2, 1) (List.mem_of_getElem? (i := 7) rfl)
theorem d_Mod_doPending_57 : decode prog_13_method_57_code 57 = .ok (.iaload, 1) := id_Mod_doPending_1 (57, .iaload, 1) (List.mem_of_getElem? (i := 8) rfl)
theorem d_Mod_doPending_58 : decode prog_13_method_57_code 58 = .ok (.aload_n 0, 1) := id_Mod_doPending_1 (58, .aload_n 0, 1) (List.mem_of_getElem? (i := 9) rfl)
theorem d_Mod_doPending_59 : decode prog_13_method_57_code 59 = .ok (.getfield 133, 3) := id_Mod_doPending_1 (59, .getfield 133, 3) (List.mem_of_getElem? (i := 10) rfl)
theorem d_Mod_doPending_62 : decode prog_13_method_57_code 62 = .ok (.if_icmp .ge (12), 3) := id_Mod_doPending_1 (62, .if_icmp .ge (12), 3) (List.mem_of_getElem? (i := 11) rfl)
theorem d_Mod_doPending_65 : decode prog_13_method_57_code 65 = .ok (.aload_n 0, 1) := id_Mod_doPending_1 (65, .aload_n 0, 1) (List.mem_of_getElem? (i := 12) rfl)
theorem d_Mod_doPending_66 : decode prog_13_method_57_code 66 = .ok (.getfield 87, 3) := id_Mod_doPending_1 (66, .getfield 87, 3) (List.mem_of_getElem? (i := 13) rfl)
theorem d_Mod_doPending_69 : decode prog_13_method_57_code 69 = .ok (.iload_n 2, 1) := id_Mod_doPending_1 (69, .iload_n 2, 1) (List.mem_of_getElem? (i := 14) rfl)
theorem d_Mod_doPending_70 : decode prog_13_method_57_code 70 = .ok (.iaload, 1) := id_Mod_doPending_1 (70, .iaload, 1) (List.mem_of_getElem? (i := 15) rfl)
theorem d_Mod_doPending_71 : decode prog_13_method_57_code 71 = .ok (.goto (7), 3) := id_Mod_doPending_1 (71, .goto (7), 3) (List.mem_of_getElem? (i := 16) rfl)
theorem d_Mod_doPending_74 : decode prog_13_method_57_code 74 = .ok (.aload_n 0, 1) := id_Mod_doPending_1 (74, .aload_n 0, 1) (List.mem_of_getElem? (i := 17) rfl)
theorem d_Mod_doPending_75 : decode prog_13_method_57_code 75 = .ok (.getfield 133, 3) := id_Mod_doPending_1 (75, .getfield 133, 3) (List.mem_of_getElem? (i := 18) rfl)
theorem d_Mod_doPending_78 : decode prog_13_method_57_code 78 = .ok (.putfield 133, 3) := id_Mod_doPending_1 (78, .putfield 133, 3) (List.mem_of_getElem? (i := 19) rfl)
theorem d_Mod_doPending_81 : decode prog_13_method_57_code 81 = .ok (.aload_n 0, 1) := id_Mod_doPending_1 (81, .aload_n 0, 1) (List.mem_of_getElem? (i := 20) rfl)
theorem d_Mod_doPending_82 : decode prog_13_method_57_code 82 = .ok (.getfield 87, 3) := id_Mod_doPending_1 (82, .getfield 87, 3) (List.mem_of_getElem? (i := 21) rfl)
theorem d_Mod_doPending_85 : decode prog_13_method_57_code 85 = .ok (.iload_n 1, 1) := id_Mod_doPending_1 (85, .iload_n 1, 1) (List.mem_of_getElem? (i := 22) rfl)
theorem d_Mod_doPending_86 : decode prog_13_method_57_code 86 = .ok (.aload_n 0, 1) := id_Mod_doPending_1 (86, .aload_n 0, 1) (List.mem_of_getElem? (i := 23) rfl)
def it_Mod_doPending_2 : List (Nat × ClassFile.Instr × Nat) := [(87, .getfield 87, 3), (90, .iload_n 2, 1), (91, .iaload, 1), (92, .iastore, 1), (93, .aload_n 0, 1), (94, .getfield 90, 3), (97, .iload_n 1, 1), (98, .aload_n 0, 1), (99, .getfield 90, 3), (102, .iload_n 2, 1), (103, .iaload, 1), (104, .iastore, 1), (105, .aload_n 0, 1), (106, .getfield 93, 3), (109, .iload_n 1, 1), (110, .aload_n 0, 1), (111, .getfield 93, 3), (114, .iload_n 2, 1), (115, .iaload, 1), (116, .iastore, 1), (117, .aload_n 0, 1), (118, .getfield 96, 3), (121, .iload_n 1, 1), (122, .aload_n 0, 1)]
theorem id_Mod_doPending_2 : ∀ q ∈ it_Mod_doPending_2, decode prog_13_method_57_code q.1 = .ok q.2 := by decide +kernel
theorem d_Mod_doPending_87 : decode prog_13_method_57_code 87 = .ok (.getfield 87, 3) := id_Mod_doPending_2 (87, .getfield 87, 3) (List.mem_of_getElem? (i := 0) rfl)
theorem d_Mod_doPending_90 : decode prog_13_method_57_code 90 = .ok (.iload_n 2, 1) := id_Mod_doPending_2 (90, .iload_n 2, 1) (List.mem_of_getElem? (i := 1) rfl)
theorem d_Mod_doPending_91 : decode prog_13_method_57_code 91 = .ok (.iaload, 1) := id_Mod_doPending_2 (91, .iaload, 1) (List.mem_of_getElem? (i := 2) rfl)
theorem d_Mod_doPending_92 : decode prog_13_method_57_code 92 = .ok (.iastore, 1) := id_Mod_doPending_2 (92, .iastore, 1) (List.mem_of_getElem? (i := 3) rfl)
theorem d_Mod_doPending_93 : decode prog_13_method_57_code 93 = .ok (.aload_n 0, 1) := id_Mod_doPending_2 (93, .aload_n 0, 1) (List.mem_of_getElem? (i := 4) rfl)
theorem d_Mod_doPending_94 : decode prog_13_method_57_code 94 = .ok (.getfield 90, 3) := id_Mod_doPending_2 (94, .getfield 90, 3) (List.mem_of_getElem? (i := 5) rfl)
theorem d_Mod_doPending_97 : decode prog_13_method_57_code 97 = .ok (.iload_n 1, 1) := id_Mod_doPending_2 (97, .iload_n 1, 1) (List.mem_of_getElem? (i := 6) rfl)
theorem d_Mod_doPending_98 : decode prog_13_method_57_code 98 = .ok (.aload_n 0, 1) := id_Mod_doPending_2 (98, .aload_n 0, 1) (List.mem_of_getElem? (i := 7) rfl)
theorem d_Mod_doPending_99 : decode prog_13_method_57_code 99 = .ok (.getfield 90, 3) := id_Mod_doPending_2 (99, .getfield 90, 3) (List.mem_of_getElem? (i := 8) rfl)
theorem d_Mod_doPending_102 : decode prog_13_method_57_code 102 = .ok (.iload_n 2, 1) := id_Mod_doPending_2 (102, .iload_n 2, 1) (List.mem_of_getElem? (i := 9) rfl)
theorem d_Mod_doPending_103 : decode prog_13_method_57_code 103 = .ok (.iaload, 1) := id_Mod_doPending_2 (103, .iaload, 1) (List.mem_of_getElem? (i := 10) rfl)
theorem d_Mod_doPending_104 : decode prog_13_method_57_code 104 = .ok (.iastore, 1) := id_Mod_doPending_2 (104, .iastore, 1) (List.mem_of_getElem? (i := 11) rfl)
theorem d_Mod_doPending_105 : decode prog_13_method_57_code 105 = .ok (.aload_n 0, 1) := id_Mod_doPending_2 (105, .aload_n 0, 1) (List.mem_of_getElem? (i := 12) rfl)
theorem d_Mod_doPending_106 : decode prog_13_method_57_code 106 = .ok (.getfield 93, 3) := id_Mod_doPending_2 (106, .getfield 93, 3) (List.mem_of_getElem? (i := 13) rfl)
theorem d_Mod_doPending_109 : decode prog_13_method_57_code 109 = .ok (.iload_n 1, 1) := id_Mod_doPending_2 (109, .iload_n 1, 1) (List.mem_of_getElem? (i := 14) rfl)
theorem d_Mod_doPending_110 : decode prog_13_method_57_code 110 = .ok (.aload_n 0, 1) := id_Mod_doPending_2 (110, .aload_n 0, 1) (List.mem_of_getElem? (i := 15) rfl)
theorem d_Mod_doPending_111 : decode prog_13_method_57_code 111 = .ok (.getfield 93, 3) := id_Mod_doPending_2 (111, .getfield 93, 3) (List.mem_of_getElem? (i := 16) rfl)
theorem d_Mod_doPending_114 : decode prog_13_method_57_code 114 = .ok (.iload_n 2, 1) := id_Mod_doPending_2 (114, .iload_n 2, 1) (List.mem_of_getElem? (i := 17) rfl)
theorem d_Mod_doPending_115 : decode prog_13_method_57_code 115 = .ok (.iaload, 1) := id_Mod_doPending_2 (115, .iaload, 1) (List.mem_of_getElem? (i := 18) rfl)
theorem d_Mod_doPending_116 : decode prog_13_method_57_code 116 = .ok (.iastore, 1) := id_Mod_doPending_2 (116, .iastore, 1) (List.mem_of_getElem? (i := 19) rfl)
theorem d_Mod_doPending_117 : decode prog_13_method_57_code 117 = .ok (.aload_n 0, 1) := id_Mod_doPending_2 (117, .aload_n 0, 1) (List.mem_of_getElem? (i := 20) rfl)
theorem d_Mod_doPending_118 : decode prog_13_method_57_code 118 = .ok (.getfield 96, 3) := id_Mod_doPending_2 (118, .getfield 96, 3) (List.mem_of_getElem? (i := 21) rfl)
theorem d_Mod_doPending_121 : decode prog_13_method_57_code 121 = .ok (.iload_n 1, 1) := id_Mod_doPending_2 (121, .iload_n 1, 1) (List.mem_of_getElem? (i := 22) rfl)
theorem d_Mod_doPending_122 : decode prog_13_method_57_code 122 = .ok (.aload_n 0, 1) := id_Mod_doPending_2 (122, .aload_n 0, 1) (List.mem_of_getElem? (i := 23) rfl)
def it_Mod_doPending_3 : List (Nat × ClassFile.Instr × Nat) := [(123, .getfield 96, 3), (126, .iload_n 2, 1), (127, .iaload, 1), (128, .iastore, 1), (129, .aload_n 0, 1), (130, .getfield 99, 3), (133, .iload_n 1, 1), (134, .aload_n 0, 1), (135, .getfield 99, 3), (138, .iload_n 2, 1), (139, .iaload, 1), (140, .iastore, 1), (141, .aload_n 0, 1), (142, .getfield 102, 3), (145, .iload_n 1, 1), (146, .aload_n 0, 1), (147, .getfield 102, 3), (150, .iload_n 2, 1), (151, .iaload, 1), (152, .iastore, 1), (153, .iinc 1 (1), 3), (156, .iinc 2 (1), 3), (159, .goto (-137), 3), (162, .aload_n 0, 1)]
theorem id_Mod_doPending_3 : ∀ q ∈ it_Mod_doPending_3, decode prog_13_method_57_code q.1 = .ok q.2 := by decide +kernel
theorem d_Mod_doPending_123 : decode prog_13_method_57_code 123 = .ok (.getfield 96, 3) := id_Mod_doPending_3 (123, .getfield 96, 3) (List.mem_of_getElem? (i := 0) rfl)
theorem d_Mod_doPending_126 : decode prog_13_method_57_code 126 = .ok (.iload_n 2, 1) := id_Mod_doPending_3 (126, .iload_n 2, 1) (List.mem_of_getElem? (i := 1) rfl)
theorem d_Mod_doPending_127 : decode prog_13_method_57_code 127 = .ok (.iaload, 1) := id_Mod_doPending_3 (127, .iaload, 1) (List.mem_of_getElem? (i := 2) rfl)
theorem d_Mod_doPending_128 : decode prog_13_method_57_code 128 = .ok (.iastore, 1) := id_Mod_doPending_3 (128, .iastore, 1) (List.mem_of_getElem? (i := 3) rfl)
theorem d_Mod_doPending_129 : decode prog_13_method_57_code 129 = .ok (.aload_n 0, 1) := id_Mod_doPending_3 (129, .aload_n 0, 1) (List.mem_of_getElem? (i := 4) rfl)
theorem d_Mod_doPending_130 : decode prog_13_method_57_code 130 = .ok (.getfield 99, 3) := id_Mod_doPending_3 (130, .getfield 99, 3) (List.mem_of_getElem? (i := 5) rfl)
theorem d_Mod_doPending_133 : decode prog_13_method_57_code 133 = .ok (.iload_n 1, 1) := id_Mod_doPending_3 (133, .iload_n 1, 1) (List.mem_of_getElem? (i := 6) rfl)
theorem d_Mod_doPending_134 : decode prog_13_method_57_code 134 = .ok (.aload_n 0, 1) := id_Mod_doPending_3 (134, .aload_n 0, 1) (List.mem_of_getElem? (i := 7) rfl)
theorem d_Mod_doPending_135 : decode prog_13_method_57_code 135 = .ok (.getfield 99, 3) := id_Mod_doPending_3 (135, .getfield 99, 3) (List.mem_of_getElem? (i := 8) rfl)
theorem d_Mod_doPending_138 : decode prog_13_method_57_code 138 = .ok (.iload_n 2, 1) := id_Mod_doPending_3 (138, .iload_n 2, 1) (List.mem_of_getElem? (i := 9) rfl)
theorem d_Mod_doPending_139 : decode prog_13_method_57_code 139 = .ok (.iaload, 1) := id_Mod_doPending_3 (139, .iaload, 1) (List.mem_of_getElem? (i := 10) rfl)
theorem d_Mod_doPending_140 : decode prog_13_method_57_code 140 = .ok (.iastore, 1) := id_Mod_doPending_3 (140, .iastore, 1) (List.mem_of_getElem? (i := 11) rfl)
theorem d_Mod_doPending_141 : decode prog_13_method_57_code 141 = .ok (.aload_n 0, 1) := id_Mod_doPending_3 (141, .aload_n 0, 1) (List.mem_of_getElem? (i := 12) rfl)
theorem d_Mod_doPending_142 : decode prog_13_method_57_code 142 = .ok (.getfield 102, 3) := id_Mod_doPending_3 (142, .getfield 102, 3) (List.mem_of_getElem? (i := 13) rfl)
theorem d_Mod_doPending_145 : decode prog_13_method_57_code 145 = .ok (.iload_n 1, 1) := id_Mod_doPending_3 (145, .iload_n 1, 1) (List.mem_of_getElem? (i := 14) rfl)
theorem d_Mod_doPending_146 : decode prog_13_method_57_code 146 = .ok (.aload_n 0, 1) := id_Mod_doPending_3 (146, .aload_n 0, 1) (List.mem_of_getElem? (i := 15) rfl)
theorem d_Mod_doPending_147 : decode prog_13_method_57_code 147 = .ok (.getfield 102, 3) := id_Mod_doPending_3 (147, .getfield 102, 3) (List.mem_of_getElem? (i := 16) rfl)
theorem d_Mod_doPending_150 : decode prog_13_method_57_code 150 = .ok (.iload_n 2, 1) := id_Mod_doPending_3 (150, .iload_n 2, 1) (List.mem_of_getElem? (i := 17) rfl)
theorem d_Mod_doPending_151 : decode prog_13_method_57_code 151 = .ok (.iaload, 1) := id_Mod_doPending_3 (151, .iaload, 1) (List.mem_of_getElem? (i := 18) rfl)
theorem d_Mod_doPending_152 : decode prog_13_method_57_code 152 = .ok (.iastore, 1) := id_Mod_doPending_3 (152, .iastore, 1) (List.mem_of_getElem? (i := 19) rfl)
theorem d_Mod_doPending_153 : decode prog_13_method_57_code 153 = .ok (.iinc 1 (1), 3) := id_Mod_doPending_3 (153, .iinc 1 (1), 3) (List.mem_of_getElem? (i := 20) rfl)
theorem d_Mod_doPending_156 : decode prog_13_method_57_code 156 = .ok (.iinc 2 (1), 3) := id_Mod_doPending_3 (156, .iinc 2 (1), 3) (List.mem_of_getElem? (i := 21) rfl)
theorem d_Mod_doPending_159 : decode prog_13_method_57_code 159 = .ok (.goto (-137), 3) := id_Mod_doPending_3 (159, .goto (-137), 3) (List.mem_of_getElem? (i := 22) rfl)
theorem d_Mod_doPending_162 : decode prog_13_method_57_code 162 = .ok (.aload_n 0, 1) := id_Mod_doPending_3 (162, .aload_n 0, 1) (List.mem_of_getElem? (i := 23) rfl)
def it_Mod_doPending_4 : List (Nat × ClassFile.Instr × Nat) := [(163, .iload_n 1, 1), (164, .putfield 129, 3), (167, .return_, 1)]
theorem id_Mod_doPending_4 : ∀ q ∈ it_Mod_doPending_4, decode prog_13_method_57_code q.1 = .ok q.2 := by decide +kernel
theorem d_Mod_doPending_163 : decode prog_13_method_57_code 163 = .ok (.iload_n 1, 1) := id_Mod_doPending_4 (163, .iload_n 1, 1) (List.mem_of_getElem? (i := 0) rfl)
theorem d_Mod_doPending_164 : decode prog_13_method_57_code 164 = .ok (.putfield 129, 3) := id_Mod_doPending_4 (164, .putfield 129, 3) (List.mem_of_getElem? (i := 1) rfl)
theorem d_Mod_doPending_167 : decode prog_13_method_57_code 167 = .ok (.return_, 1) := id_Mod_doPending_4 (167, .return_, 1) (List.mem_of_getElem? (i := 2) rfl)
theorem wC_Mod_doPending : Cond.code ⟨"WarpMillModel", "doPending", "()V"⟩ prog_13_method_57_code 3 (none) ∈ lw_tb := mem_tb 1292 (by decide +kernel) rfl
theorem cw_Mod_doPending_Mod_doOne : cW mi_Mod_doPending mi_Mod_doOne 1 := ⟨wC_Mod_doOne, wi_Mod, ⟨by decide, by decide, by decide +kernel⟩, by decide, by decide⟩
def b_Mod_doPending_78 (F : Nat) (k22 : Nat → Int32 → Int32 → Hp → Option Hp) (x0 : Nat) (x1 : Int32) (x2 : Int32) (s0 : Nat) (s1 : Int32) (h : Hp) : Option Hp := gd (hK h s0 = 12) <| pw (sI h 746 s0 s1) fun h_78_2 => gd (hK h_78_2 x0 = 12) <| rq h_78_2 (hR h_78_2 747 x0) 100 fun a_82_2 => ix x2 (hN h_78_2 a_82_2) fun j_91 => ix x1 (hN h_78_2 a_82_2) fun j_92 => pw (sA h_78_2 a_82_2 j_92 (hA h_78_2 a_82_2 j_91)) fun h_92_2 => rq h_92_2 (hR h_92_2 748 x0) 100 fun a_94 => ix x2 (hN h_92_2 a_94) fun j_103 => ix x1 (hN h_92_2 a_94) fun j_104 => pw (sA h_92_2 a_94 j_104 (hA h_92_2 a_94 j_103)) fun h_104_2 => rq h_104_2 (hR h_104_2 749 x0) 100 fun a_106 => ix x2 (hN h_104_2 a_106) fun j_115 => ix x1 (hN h_104_2 a_106) fun j_116 => pw (sA h_104_2 a_106 j_116 (hA h_104_2 a_106 j_115)) fun h_116_2 => rq h_116_2 (hR h_116_2 750 x0) 100 fun a_118 => ix x2 (hN h_116_2 a_118) fun j_127 => ix x1 (hN h_116_2 a_118) fun j_128 => pw (sA h_116_2 a_118 j_128 (hA h_116_2 a_118 j_127)) fun h_128_2 => rq h_128_2 (hR h_128_2 751 x0) 100 fun a_130 => ix x2 (hN h_128_2 a_130) fun j_139 => ix x1 (hN h_128_2 a_130) fun j_140 => pw (sA h_128_2 a_130 j_140 (hA h_128_2 a_130 j_139)) fun h_140_2 => rq h_140_2 (hR h_140_2 752 x0) 100 fun a_142 => ix x2 (hN h_140_2 a_142) fun j_151 => ix x1 (hN h_140_2 a_142) fun j_152 => pw (sA h_140_2 a_142 j_152 (hA h_140_2 a_142 j_151)) fun h_152_2 => k22 x0 (x1 + 1) (x2 + 1) h_152_2
set_option maxRecDepth 100000 in
set_option maxHeartbeats 4000000 in
theorem e_Mod_doPending_78 {G : Gl} (hw : gF G) {h0 : Hp} {F : Nat} {h' : Hp} {k22 : Nat → Int32 → Int32 → Hp → Option Hp} (hk22 : ∀ (y0 : Nat) (y1 : Int32) (y2 : Int32) (hh : Hp), k22 y0 y1 y2 hh = some h' → Go G mi_Mod_doPending h0 (pV h') hh 22 [(0, .ref y0), (1, .int y1), (2, .int y2)] []) {x0 : Nat} {x1 : Int32} {x2 : Int32} {s0 : Nat} {s1 : Int32} {h : Hp} (hf : b_Mod_doPending_78 F k22 x0 x1 x2 s0 s1 h = some h') : Go G mi_Mod_doPending h0 (pV h') h 78 [(0, .ref x0), (1, .int x1), (2, .int x2)] [.int s1, .ref s0] := by
  unfold b_Mod_doPending_78 at hf
  obtain ⟨k_78, hf⟩ := gd_s hf
  refine fp_Mod_soonest hw lf_Mod_133 d_Mod_doPending_78 k_78 ?_
  have hf := pw_b hf
  refine g_aload_n d_Mod_doPending_81 rfl ?_
  obtain ⟨k_82, hf⟩ := gd_s hf
  obtain ⟨a_82_2, e_82_2, k_82_2, hf⟩ := rq_s hf
  refine fgs_Mod_when lf_Mod_87 d_Mod_doPending_82 k_82 e_82_2 ?_
  refine g_iload_n d_Mod_doPending_85 rfl ?_
  refine g_aload_n d_Mod_doPending_86 rfl ?_
  refine fgs_Mod_when lf_Mod_87 d_Mod_doPending_87 k_82 e_82_2 ?_
  refine g_iload_n d_Mod_doPending_90 rfl ?_
  obtain ⟨i_91, hf⟩ := ix_s hf
  refine g_iald k_82_2 i_91 d_Mod_doPending_91 ?_
  obtain ⟨i_92, hf⟩ := ix_s hf
  refine g_iast hw k_82_2 i_92 d_Mod_doPending_92 ?_
  have hf := pw_b hf
  refine g_aload_n d_Mod_doPending_93 rfl ?_
  obtain ⟨a_94, e_94, k_94, hf⟩ := rq_s hf
  refine fgs_Mod_who lf_Mod_90 d_Mod_doPending_94 (kksA k_82) e_94 ?_
  refine g_iload_n d_Mod_doPending_97 rfl ?_
  refine g_aload_n d_Mod_doPending_98 rfl ?_
  refine fgs_Mod_who lf_Mod_90 d_Mod_doPending_99 (kksA k_82) e_94 ?_
  refine g_iload_n d_Mod_doPending_102 rfl ?_
  obtain ⟨i_103, hf⟩ := ix_s hf
  refine g_iald k_94 i_103 d_Mod_doPending_103 ?_
  obtain ⟨i_104, hf⟩ := ix_s hf
  refine g_iast hw k_94 i_104 d_Mod_doPending_104 ?_
  have hf := pw_b hf
  refine g_aload_n d_Mod_doPending_105 rfl ?_
  obtain ⟨a_106, e_106, k_106, hf⟩ := rq_s hf
  refine fgs_Mod_what lf_Mod_93 d_Mod_doPending_106 (kksA (kksA k_82)) e_106 ?_
  refine g_iload_n d_Mod_doPending_109 rfl ?_
  refine g_aload_n d_Mod_doPending_110 rfl ?_
  refine fgs_Mod_what lf_Mod_93 d_Mod_doPending_111 (kksA (kksA k_82)) e_106 ?_
  refine g_iload_n d_Mod_doPending_114 rfl ?_
  obtain ⟨i_115, hf⟩ := ix_s hf
  refine g_iald k_106 i_115 d_Mod_doPending_115 ?_
  obtain ⟨i_116, hf⟩ := ix_s hf
  refine g_iast hw k_106 i_116 d_Mod_doPending_116 ?_
  have hf := pw_b hf
  refine g_aload_n d_Mod_doPending_117 rfl ?_
  obtain ⟨a_118, e_118, k_118, hf⟩ := rq_s hf
  refine fgs_Mod_where lf_Mod_96 d_Mod_doPending_118 (kksA (kksA (kksA k_82))) e_118 ?_
  refine g_iload_n d_Mod_doPending_121 rfl ?_
  refine g_aload_n d_Mod_doPending_122 rfl ?_
  refine fgs_Mod_where lf_Mod_96 d_Mod_doPending_123 (kksA (kksA (kksA k_82))) e_118 ?_
  refine g_iload_n d_Mod_doPending_126 rfl ?_
  obtain ⟨i_127, hf⟩ := ix_s hf
  refine g_iald k_118 i_127 d_Mod_doPending_127 ?_
  obtain ⟨i_128, hf⟩ := ix_s hf
  refine g_iast hw k_118 i_128 d_Mod_doPending_128 ?_
  have hf := pw_b hf
  refine g_aload_n d_Mod_doPending_129 rfl ?_
  obtain ⟨a_130, e_130, k_130, hf⟩ := rq_s hf
  refine fgs_Mod_with lf_Mod_99 d_Mod_doPending_130 (kksA (kksA (kksA (kksA k_82)))) e_130 ?_
  refine g_iload_n d_Mod_doPending_133 rfl ?_
  refine g_aload_n d_Mod_doPending_134 rfl ?_
  refine fgs_Mod_with lf_Mod_99 d_Mod_doPending_135 (kksA (kksA (kksA (kksA k_82)))) e_130 ?_
  refine g_iload_n d_Mod_doPending_138 rfl ?_
  obtain ⟨i_139, hf⟩ := ix_s hf
  refine g_iald k_130 i_139 d_Mod_doPending_139 ?_
  obtain ⟨i_140, hf⟩ := ix_s hf
  refine g_iast hw k_130 i_140 d_Mod_doPending_140 ?_
  have hf := pw_b hf
  refine g_aload_n d_Mod_doPending_141 rfl ?_
  obtain ⟨a_142, e_142, k_142, hf⟩ := rq_s hf
  refine fgs_Mod_old lf_Mod_102 d_Mod_doPending_142 (kksA (kksA (kksA (kksA (kksA k_82))))) e_142 ?_
  refine g_iload_n d_Mod_doPending_145 rfl ?_
  refine g_aload_n d_Mod_doPending_146 rfl ?_
  refine fgs_Mod_old lf_Mod_102 d_Mod_doPending_147 (kksA (kksA (kksA (kksA (kksA k_82))))) e_142 ?_
  refine g_iload_n d_Mod_doPending_150 rfl ?_
  obtain ⟨i_151, hf⟩ := ix_s hf
  refine g_iald k_142 i_151 d_Mod_doPending_151 ?_
  obtain ⟨i_152, hf⟩ := ix_s hf
  refine g_iast hw k_142 i_152 d_Mod_doPending_152 ?_
  have hf := pw_b hf
  refine g_iinc (_ + 1) d_Mod_doPending_153 rfl (by rfl) (by decide) ?_
  show Go _ _ _ _ _ _ [(0, _), (1, _), (2, _)] _
  refine g_iinc (_ + 1) d_Mod_doPending_156 rfl (by rfl) (by decide) ?_
  show Go _ _ _ _ _ _ [(0, _), (1, _), (2, _)] _
  refine g_goto 22 d_Mod_doPending_159 (by decide) ?_
  exact hk22 _ _ _ _ hf
def b_Mod_doPending_22 (F : Nat) : Nat → Nat → Int32 → Int32 → Hp → Option Hp
  | 0 => fun _ _ _ _ => none
  | n + 1 => fun x0 x1 x2 h => gd (hK h x0 = 12) <| if (hI h 745 x0) ≤ x2 then (pw (sI h 745 x0 x1) fun h_164 => some h_164) else (rq h (hR h 747 x0) 100 fun a_31 => ix x2 (hN h a_31) fun j_35 => if (hI h 719 x0) < (hA h a_31 j_35) then (ix x2 (hN h a_31) fun j_57 => if (hI h 746 x0) ≤ (hA h a_31 j_57) then (b_Mod_doPending_78 F (b_Mod_doPending_22 F n) x0 x1 x2 x0 (hI h 746 x0) h) else (ix x2 (hN h a_31) fun j_70 => b_Mod_doPending_78 F (b_Mod_doPending_22 F n) x0 x1 x2 x0 (hA h a_31 j_70) h)) else (clv (f_Mod_doOne F x0 x2 h) fun h_45 => b_Mod_doPending_22 F n x0 x1 (x2 + 1) h_45))
set_option maxRecDepth 100000 in
set_option maxHeartbeats 4000000 in
theorem e_Mod_doPending_22 {G : Gl} (hw : gF G) {h0 : Hp} {F : Nat} {h' : Hp}   : ∀ (n : Nat) (x0 : Nat) (x1 : Int32) (x2 : Int32) (h : Hp), b_Mod_doPending_22 F n x0 x1 x2 h = some h' → Go G mi_Mod_doPending h0 (pV h') h 22 [(0, .ref x0), (1, .int x1), (2, .int x2)] [] := by
  intro n
  induction n with
  | zero =>
    intro _ _ _ _ hf
    exact nm_s hf
  | succ n ih =>
    intro x0 x1 x2 h hf
    unfold b_Mod_doPending_22 at hf
    refine g_iload_n d_Mod_doPending_22 rfl ?_
    refine g_aload_n d_Mod_doPending_23 rfl ?_
    obtain ⟨k_24, hf⟩ := gd_s hf
    refine fg_Mod_pending lf_Mod_129 d_Mod_doPending_24 k_24 ?_
    refine g_icmp_ge 162 d_Mod_doPending_27 (by decide) (fun c_27 => ?_) (fun c_27 => ?_)
    · have hf := ifp hf c_27
      refine g_aload_n d_Mod_doPending_162 rfl ?_
      refine g_iload_n d_Mod_doPending_163 rfl ?_
      refine fp_Mod_pending hw lf_Mod_129 d_Mod_doPending_164 k_24 ?_
      have hf := pw_b hf
      exact Go.ret none trivial rfl d_Mod_doPending_167 (pV_of hf)
    · have hf := ifn hf c_27
      refine g_aload_n d_Mod_doPending_30 rfl ?_
      obtain ⟨a_31, e_31, k_31, hf⟩ := rq_s hf
      refine fgs_Mod_when lf_Mod_87 d_Mod_doPending_31 k_24 e_31 ?_
      refine g_iload_n d_Mod_doPending_34 rfl ?_
      obtain ⟨i_35, hf⟩ := ix_s hf
      refine g_iald k_31 i_35 d_Mod_doPending_35 ?_
      refine g_aload_n d_Mod_doPending_36 rfl ?_
      refine fg_Mod_cycle lf_Mod_159 d_Mod_doPending_37 k_24 ?_
      refine g_icmp_gt 51 d_Mod_doPending_40 (by decide) (fun c_40 => ?_) (fun c_40 => ?_)
      · have hf := ifp hf c_40
        refine g_aload_n d_Mod_doPending_51 rfl ?_
        refine g_aload_n d_Mod_doPending_52 rfl ?_
        refine fgs_Mod_when lf_Mod_87 d_Mod_doPending_53 k_24 e_31 ?_
        refine g_iload_n d_Mod_doPending_56 rfl ?_
        obtain ⟨i_57, hf⟩ := ix_s hf
        refine g_iald k_31 i_57 d_Mod_doPending_57 ?_
        refine g_aload_n d_Mod_doPending_58 rfl ?_
        refine fg_Mod_soonest lf_Mod_133 d_Mod_doPending_59 k_24 ?_
        refine g_icmp_ge 74 d_Mod_doPending_62 (by decide) (fun c_62 => ?_) (fun c_62 => ?_)
        · have hf := ifp hf c_62
          refine g_aload_n d_Mod_doPending_74 rfl ?_
          refine fg_Mod_soonest lf_Mod_133 d_Mod_doPending_75 k_24 ?_
          have key := e_Mod_doPending_78 hw (G := G) (h0 := h0) (fun _ _ _ _ q => ih _ _ _ _ q) hf
          exact key
        · have hf := ifn hf c_62
          refine g_aload_n d_Mod_doPending_65 rfl ?_
          refine fgs_Mod_when lf_Mod_87 d_Mod_doPending_66 k_24 e_31 ?_
          refine g_iload_n d_Mod_doPending_69 rfl ?_
          obtain ⟨i_70, hf⟩ := ix_s hf
          refine g_iald k_31 i_70 d_Mod_doPending_70 ?_
          refine g_goto 78 d_Mod_doPending_71 (by decide) ?_
          have key := e_Mod_doPending_78 hw (G := G) (h0 := h0) (fun _ _ _ _ q => ih _ _ _ _ q) hf
          exact key
      · have hf := ifn hf c_40
        refine g_aload_n d_Mod_doPending_43 rfl ?_
        refine g_iload_n d_Mod_doPending_44 rfl ?_
        obtain ⟨h_45, e_45, hf⟩ := clv_s hf
        refine g_callV (mz := mi_Mod_doOne) (e_Mod_doOne hw e_45) cw_Mod_doPending_Mod_doOne lm_Mod_356 wI_Mod_doOne wV_Mod_doOne (ci := 11) k_24 (by decide) rfl rfl d_Mod_doPending_45 rfl rfl (by first | exact Nat.le_of_ble_eq_true rfl | simp [cat_rf, Value.category]) (fun r1 h1 hp hro => ?_)
        obtain ⟨rfl, rfl⟩ := hp
        dsimp only [Option.toList_some, Option.toList_none, List.cons_append, List.nil_append]
        refine g_goto 156 d_Mod_doPending_48 (by decide) ?_
        refine g_iinc (_ + 1) d_Mod_doPending_156 rfl (by rfl) (by decide) ?_
        show Go _ _ _ _ _ _ [(0, _), (1, _), (2, _)] _
        refine g_goto 22 d_Mod_doPending_159 (by decide) ?_
        exact ih _ _ _ _ hf
def f_Mod_doPending (F : Nat) (x0 : Nat) (h : Hp) : Option Hp := gd (hK h x0 = 12) <| if (hI h 746 x0) ≤ (hI h 719 x0) then (pw (sI h 746 x0 (2147483647 : Int32)) fun h_17 => b_Mod_doPending_22 F F x0 (0 : Int32) (0 : Int32) h_17) else (some h)
set_option maxRecDepth 100000 in
set_option maxHeartbeats 4000000 in
theorem e_Mod_doPending {G : Gl} (hw : gF G) {F : Nat} {h' : Hp} {x0 : Nat} {h : Hp} (hf : f_Mod_doPending F x0 h = some h') : Ex G mi_Mod_doPending [.ref x0] h (pV h') := by
  unfold f_Mod_doPending at hf
  refine Ex.of nmV (by decide) (Nat.le_of_ble_eq_true rfl) ?_
  show Go G mi_Mod_doPending h _ h 0 [(0, .ref x0)] []
  refine g_aload_n d_Mod_doPending_0 rfl ?_
  obtain ⟨k_1, hf⟩ := gd_s hf
  refine fg_Mod_soonest lf_Mod_133 d_Mod_doPending_1 k_1 ?_
  refine g_aload_n d_Mod_doPending_4 rfl ?_
  refine fg_Mod_cycle lf_Mod_159 d_Mod_doPending_5 k_1 ?_
  refine g_icmp_le 12 d_Mod_doPending_8 (by decide) (fun c_8 => ?_) (fun c_8 => ?_)
  · have hf := ifp hf c_8
    refine g_iconst 0 d_Mod_doPending_12 (by decide) ?_
    refine g_istore_n d_Mod_doPending_13 (by decide) ?_
    show Go _ _ _ _ _ _ [(0, _), (1, _)] _
    refine g_aload_n d_Mod_doPending_14 rfl ?_
    refine g_ldc lk_Mod_132 d_Mod_doPending_15 ?_
    refine fp_Mod_soonest hw lf_Mod_133 d_Mod_doPending_17 k_1 ?_
    have hf := pw_b hf
    refine g_iconst 0 d_Mod_doPending_20 (by decide) ?_
    refine g_istore_n d_Mod_doPending_21 (by decide) ?_
    show Go _ _ _ _ _ _ [(0, _), (1, _), (2, _)] _
    have key := e_Mod_doPending_22 hw (G := G) (h0 := h)  F _ _ _ _ hf
    exact key
  · have hf := ifn hf c_8
    exact Go.ret none trivial rfl d_Mod_doPending_11 (pV_of hf)
abbrev mi_Mod_freeSlots : MI := (⟨"WarpMillModel", "freeSlots", "(I)I"⟩, prog_13_method_15_code, 4, some .int, 0, 0)
def it_Mod_freeSlots_0 : List (Nat × ClassFile.Instr × Nat) := [(0, .iconst 0, 1), (1, .istore_n 2, 1), (2, .bipush (16), 2), (4, .iload_n 1, 1), (5, .imul, 1), (6, .istore_n 3, 1), (7, .iload_n 3, 1), (8, .bipush (16), 2), (10, .iload_n 1, 1), (11, .imul, 1), (12, .aload_n 0, 1), (13, .getfield 13, 3), (16, .iadd, 1), (17, .if_icmp .ge (27), 3), (20, .iload_n 2, 1), (21, .aload_n 0, 1), (22, .getfield 54, 3), (25, .iload_n 3, 1), (26, .iaload, 1), (27, .iconst (-1), 1), (28, .if_icmp .ne (7), 3), (31, .iconst 1, 1), (32, .goto (4), 3), (35, .iconst 0, 1)]
theorem id_Mod_freeSlots_0 : ∀ q ∈ it_Mod_freeSlots_0, decode prog_13_method_15_code q.1 = .ok q.2 := by decide +kernel
theorem d_Mod_freeSlots_0 : decode prog_13_method_15_code 0 = .ok (.iconst 0, 1) := id_Mod_freeSlots_0 (0, .iconst 0, 1) (List.mem_of_getElem? (i := 0) rfl)
theorem d_Mod_freeSlots_1 : decode prog_13_method_15_code 1 = .ok (.istore_n 2, 1) := id_Mod_freeSlots_0 (1, .istore_n 2, 1) (List.mem_of_getElem? (i := 1) rfl)
theorem d_Mod_freeSlots_2 : decode prog_13_method_15_code 2 = .ok (.bipush (16), 2) := id_Mod_freeSlots_0 (2, .bipush (16), 2) (List.mem_of_getElem? (i := 2) rfl)
theorem d_Mod_freeSlots_4 : decode prog_13_method_15_code 4 = .ok (.iload_n 1, 1) := id_Mod_freeSlots_0 (4, .iload_n 1, 1) (List.mem_of_getElem? (i := 3) rfl)
theorem d_Mod_freeSlots_5 : decode prog_13_method_15_code 5 = .ok (.imul, 1) := id_Mod_freeSlots_0 (5, .imul, 1) (List.mem_of_getElem? (i := 4) rfl)
theorem d_Mod_freeSlots_6 : decode prog_13_method_15_code 6 = .ok (.istore_n 3, 1) := id_Mod_freeSlots_0 (6, .istore_n 3, 1) (List.mem_of_getElem? (i := 5) rfl)
theorem d_Mod_freeSlots_7 : decode prog_13_method_15_code 7 = .ok (.iload_n 3, 1) := id_Mod_freeSlots_0 (7, .iload_n 3, 1) (List.mem_of_getElem? (i := 6) rfl)
theorem d_Mod_freeSlots_8 : decode prog_13_method_15_code 8 = .ok (.bipush (16), 2) := id_Mod_freeSlots_0 (8, .bipush (16), 2) (List.mem_of_getElem? (i := 7) rfl)
theorem d_Mod_freeSlots_10 : decode prog_13_method_15_code 10 = .ok (.iload_n 1, 1) := id_Mod_freeSlots_0 (10, .iload_n 1, 1) (List.mem_of_getElem? (i := 8) rfl)
theorem d_Mod_freeSlots_11 : decode prog_13_method_15_code 11 = .ok (.imul, 1) := id_Mod_freeSlots_0 (11, .imul, 1) (List.mem_of_getElem? (i := 9) rfl)
theorem d_Mod_freeSlots_12 : decode prog_13_method_15_code 12 = .ok (.aload_n 0, 1) := id_Mod_freeSlots_0 (12, .aload_n 0, 1) (List.mem_of_getElem? (i := 10) rfl)
theorem d_Mod_freeSlots_13 : decode prog_13_method_15_code 13 = .ok (.getfield 13, 3) := id_Mod_freeSlots_0 (13, .getfield 13, 3) (List.mem_of_getElem? (i := 11) rfl)
theorem d_Mod_freeSlots_16 : decode prog_13_method_15_code 16 = .ok (.iadd, 1) := id_Mod_freeSlots_0 (16, .iadd, 1) (List.mem_of_getElem? (i := 12) rfl)
theorem d_Mod_freeSlots_17 : decode prog_13_method_15_code 17 = .ok (.if_icmp .ge (27), 3) := id_Mod_freeSlots_0 (17, .if_icmp .ge (27), 3) (List.mem_of_getElem? (i := 13) rfl)
theorem d_Mod_freeSlots_20 : decode prog_13_method_15_code 20 = .ok (.iload_n 2, 1) := id_Mod_freeSlots_0 (20, .iload_n 2, 1) (List.mem_of_getElem? (i := 14) rfl)
theorem d_Mod_freeSlots_21 : decode prog_13_method_15_code 21 = .ok (.aload_n 0, 1) := id_Mod_freeSlots_0 (21, .aload_n 0, 1) (List.mem_of_getElem? (i := 15) rfl)
theorem d_Mod_freeSlots_22 : decode prog_13_method_15_code 22 = .ok (.getfield 54, 3) := id_Mod_freeSlots_0 (22, .getfield 54, 3) (List.mem_of_getElem? (i := 16) rfl)
theorem d_Mod_freeSlots_25 : decode prog_13_method_15_code 25 = .ok (.iload_n 3, 1) := id_Mod_freeSlots_0 (25, .iload_n 3, 1) (List.mem_of_getElem? (i := 17) rfl)
theorem d_Mod_freeSlots_26 : decode prog_13_method_15_code 26 = .ok (.iaload, 1) := id_Mod_freeSlots_0 (26, .iaload, 1) (List.mem_of_getElem? (i := 18) rfl)
theorem d_Mod_freeSlots_27 : decode prog_13_method_15_code 27 = .ok (.iconst (-1), 1) := id_Mod_freeSlots_0 (27, .iconst (-1), 1) (List.mem_of_getElem? (i := 19) rfl)
theorem d_Mod_freeSlots_28 : decode prog_13_method_15_code 28 = .ok (.if_icmp .ne (7), 3) := id_Mod_freeSlots_0 (28, .if_icmp .ne (7), 3) (List.mem_of_getElem? (i := 20) rfl)
theorem d_Mod_freeSlots_31 : decode prog_13_method_15_code 31 = .ok (.iconst 1, 1) := id_Mod_freeSlots_0 (31, .iconst 1, 1) (List.mem_of_getElem? (i := 21) rfl)
theorem d_Mod_freeSlots_32 : decode prog_13_method_15_code 32 = .ok (.goto (4), 3) := id_Mod_freeSlots_0 (32, .goto (4), 3) (List.mem_of_getElem? (i := 22) rfl)
theorem d_Mod_freeSlots_35 : decode prog_13_method_15_code 35 = .ok (.iconst 0, 1) := id_Mod_freeSlots_0 (35, .iconst 0, 1) (List.mem_of_getElem? (i := 23) rfl)
def it_Mod_freeSlots_1 : List (Nat × ClassFile.Instr × Nat) := [(36, .iadd, 1), (37, .istore_n 2, 1), (38, .iinc 3 (1), 3), (41, .goto (-34), 3), (44, .iload_n 2, 1), (45, .ireturn, 1)]
theorem id_Mod_freeSlots_1 : ∀ q ∈ it_Mod_freeSlots_1, decode prog_13_method_15_code q.1 = .ok q.2 := by decide +kernel
theorem d_Mod_freeSlots_36 : decode prog_13_method_15_code 36 = .ok (.iadd, 1) := id_Mod_freeSlots_1 (36, .iadd, 1) (List.mem_of_getElem? (i := 0) rfl)
theorem d_Mod_freeSlots_37 : decode prog_13_method_15_code 37 = .ok (.istore_n 2, 1) := id_Mod_freeSlots_1 (37, .istore_n 2, 1) (List.mem_of_getElem? (i := 1) rfl)
theorem d_Mod_freeSlots_38 : decode prog_13_method_15_code 38 = .ok (.iinc 3 (1), 3) := id_Mod_freeSlots_1 (38, .iinc 3 (1), 3) (List.mem_of_getElem? (i := 2) rfl)
theorem d_Mod_freeSlots_41 : decode prog_13_method_15_code 41 = .ok (.goto (-34), 3) := id_Mod_freeSlots_1 (41, .goto (-34), 3) (List.mem_of_getElem? (i := 3) rfl)
theorem d_Mod_freeSlots_44 : decode prog_13_method_15_code 44 = .ok (.iload_n 2, 1) := id_Mod_freeSlots_1 (44, .iload_n 2, 1) (List.mem_of_getElem? (i := 4) rfl)
theorem d_Mod_freeSlots_45 : decode prog_13_method_15_code 45 = .ok (.ireturn, 1) := id_Mod_freeSlots_1 (45, .ireturn, 1) (List.mem_of_getElem? (i := 5) rfl)
theorem wC_Mod_freeSlots : Cond.code ⟨"WarpMillModel", "freeSlots", "(I)I"⟩ prog_13_method_15_code 4 (some .int) ∈ lw_tb := mem_tb 1310 (by decide +kernel) rfl
def b_Mod_freeSlots_7 (F : Nat) : Nat → Nat → Int32 → Int32 → Int32 → Hp → Option (Int32 × Hp)
  | 0 => fun _ _ _ _ _ => none
  | n + 1 => fun x0 x1 x2 x3 h => gd (hK h x0 = 12) <| if (((16 : Int32) * x1) + (hI h 706 x0)) ≤ x3 then (some (x2, h)) else (rq h (hR h 735 x0) 100 fun a_22 => ix x3 (hN h a_22) fun j_26 => if (hA h a_22 j_26) = (-1 : Int32) then (b_Mod_freeSlots_7 F n x0 x1 (x2 + (1 : Int32)) (x3 + 1) h) else (b_Mod_freeSlots_7 F n x0 x1 (x2 + (0 : Int32)) (x3 + 1) h))
set_option maxRecDepth 100000 in
set_option maxHeartbeats 4000000 in
theorem e_Mod_freeSlots_7 {G : Gl} {h0 : Hp} {F : Nat} {r : Int32} {h' : Hp}   : ∀ (n : Nat) (x0 : Nat) (x1 : Int32) (x2 : Int32) (x3 : Int32) (h : Hp), b_Mod_freeSlots_7 F n x0 x1 x2 x3 h = some (r, h') → Go G mi_Mod_freeSlots h0 (pI r h') h 7 [(0, .ref x0), (1, .int x1), (2, .int x2), (3, .int x3)] [] := by
  intro n
  induction n with
  | zero =>
    intro _ _ _ _ _ hf
    exact nm_s hf
  | succ n ih =>
    intro x0 x1 x2 x3 h hf
    unfold b_Mod_freeSlots_7 at hf
    refine g_iload_n d_Mod_freeSlots_7 rfl ?_
    refine g_bipush (16) d_Mod_freeSlots_8 (by decide) ?_
    refine g_iload_n d_Mod_freeSlots_10 rfl ?_
    refine g_imul d_Mod_freeSlots_11 ?_
    refine g_aload_n d_Mod_freeSlots_12 rfl ?_
    obtain ⟨k_13, hf⟩ := gd_s hf
    refine fg_Mod_slots lf_Mod_13 d_Mod_freeSlots_13 k_13 ?_
    refine g_iadd d_Mod_freeSlots_16 ?_
    refine g_icmp_ge 44 d_Mod_freeSlots_17 (by decide) (fun c_17 => ?_) (fun c_17 => ?_)
    · have hf := ifp hf c_17
      refine g_iload_n d_Mod_freeSlots_44 rfl ?_
      exact Go.ret (some _) (rOk_i _) rfl d_Mod_freeSlots_45 (pI_of hf)
    · have hf := ifn hf c_17
      refine g_iload_n d_Mod_freeSlots_20 rfl ?_
      refine g_aload_n d_Mod_freeSlots_21 rfl ?_
      obtain ⟨a_22, e_22, k_22, hf⟩ := rq_s hf
      refine fgs_Mod_slotBlock lf_Mod_54 d_Mod_freeSlots_22 k_13 e_22 ?_
      refine g_iload_n d_Mod_freeSlots_25 rfl ?_
      obtain ⟨i_26, hf⟩ := ix_s hf
      refine g_iald k_22 i_26 d_Mod_freeSlots_26 ?_
      refine g_iconst (-1) d_Mod_freeSlots_27 (by decide) ?_
      refine g_icmp_ne 35 d_Mod_freeSlots_28 (by decide) (fun c_28 => ?_) (fun c_28 => ?_)
      · have hf := ifn hf c_28
        refine g_iconst 0 d_Mod_freeSlots_35 (by decide) ?_
        refine g_iadd d_Mod_freeSlots_36 ?_
        refine g_istore_n d_Mod_freeSlots_37 (by decide) ?_
        show Go _ _ _ _ _ _ [(0, _), (1, _), (2, _), (3, _)] _
        refine g_iinc (_ + 1) d_Mod_freeSlots_38 rfl (by rfl) (by decide) ?_
        show Go _ _ _ _ _ _ [(0, _), (1, _), (2, _), (3, _)] _
        refine g_goto 7 d_Mod_freeSlots_41 (by decide) ?_
        exact ih _ _ _ _ _ hf
      · have hf := ifp hf c_28
        refine g_iconst 1 d_Mod_freeSlots_31 (by decide) ?_
        refine g_goto 36 d_Mod_freeSlots_32 (by decide) ?_
        refine g_iadd d_Mod_freeSlots_36 ?_
        refine g_istore_n d_Mod_freeSlots_37 (by decide) ?_
        show Go _ _ _ _ _ _ [(0, _), (1, _), (2, _), (3, _)] _
        refine g_iinc (_ + 1) d_Mod_freeSlots_38 rfl (by rfl) (by decide) ?_
        show Go _ _ _ _ _ _ [(0, _), (1, _), (2, _), (3, _)] _
        refine g_goto 7 d_Mod_freeSlots_41 (by decide) ?_
        exact ih _ _ _ _ _ hf
def f_Mod_freeSlots (F : Nat) (x0 : Nat) (x1 : Int32) (h : Hp) : Option (Int32 × Hp) := b_Mod_freeSlots_7 F F x0 x1 (0 : Int32) ((16 : Int32) * x1) h
set_option maxRecDepth 100000 in
set_option maxHeartbeats 4000000 in
theorem e_Mod_freeSlots {G : Gl} {F : Nat} {r : Int32} {h' : Hp} {x0 : Nat} {x1 : Int32} {h : Hp} (hf : f_Mod_freeSlots F x0 x1 h = some (r, h')) : Ex G mi_Mod_freeSlots [.ref x0, .int x1] h (pI r h') := by
  unfold f_Mod_freeSlots at hf
  refine Ex.of nmI (by decide) (Nat.le_of_ble_eq_true rfl) ?_
  show Go G mi_Mod_freeSlots h _ h 0 [(0, .ref x0), (1, .int x1)] []
  refine g_iconst 0 d_Mod_freeSlots_0 (by decide) ?_
  refine g_istore_n d_Mod_freeSlots_1 (by decide) ?_
  show Go _ _ _ _ _ _ [(0, _), (1, _), (2, _)] _
  refine g_bipush (16) d_Mod_freeSlots_2 (by decide) ?_
  refine g_iload_n d_Mod_freeSlots_4 rfl ?_
  refine g_imul d_Mod_freeSlots_5 ?_
  refine g_istore_n d_Mod_freeSlots_6 (by decide) ?_
  show Go _ _ _ _ _ _ [(0, _), (1, _), (2, _), (3, _)] _
  have key := e_Mod_freeSlots_7 (G := G) (h0 := h)  F _ _ _ _ _ hf
  exact key
abbrev mi_Mod_warps : MI := (⟨"WarpMillModel", "warps", "()I"⟩, prog_13_method_14_code, 1, some .int, 0, 0)
def it_Mod_warps_0 : List (Nat × ClassFile.Instr × Nat) := [(0, .aload_n 0, 1), (1, .getfield 153, 3), (4, .aload_n 0, 1), (5, .getfield 7, 3), (8, .iadd, 1), (9, .iconst 1, 1), (10, .isub, 1), (11, .aload_n 0, 1), (12, .getfield 7, 3), (15, .idiv, 1), (16, .ireturn, 1)]
theorem id_Mod_warps_0 : ∀ q ∈ it_Mod_warps_0, decode prog_13_method_14_code q.1 = .ok q.2 := by decide +kernel
theorem d_Mod_warps_0 : decode prog_13_method_14_code 0 = .ok (.aload_n 0, 1) := id_Mod_warps_0 (0, .aload_n 0, 1) (List.mem_of_getElem? (i := 0) rfl)
theorem d_Mod_warps_1 : decode prog_13_method_14_code 1 = .ok (.getfield 153, 3) := id_Mod_warps_0 (1, .getfield 153, 3) (List.mem_of_getElem? (i := 1) rfl)
theorem d_Mod_warps_4 : decode prog_13_method_14_code 4 = .ok (.aload_n 0, 1) := id_Mod_warps_0 (4, .aload_n 0, 1) (List.mem_of_getElem? (i := 2) rfl)
theorem d_Mod_warps_5 : decode prog_13_method_14_code 5 = .ok (.getfield 7, 3) := id_Mod_warps_0 (5, .getfield 7, 3) (List.mem_of_getElem? (i := 3) rfl)
theorem d_Mod_warps_8 : decode prog_13_method_14_code 8 = .ok (.iadd, 1) := id_Mod_warps_0 (8, .iadd, 1) (List.mem_of_getElem? (i := 4) rfl)
theorem d_Mod_warps_9 : decode prog_13_method_14_code 9 = .ok (.iconst 1, 1) := id_Mod_warps_0 (9, .iconst 1, 1) (List.mem_of_getElem? (i := 5) rfl)
theorem d_Mod_warps_10 : decode prog_13_method_14_code 10 = .ok (.isub, 1) := id_Mod_warps_0 (10, .isub, 1) (List.mem_of_getElem? (i := 6) rfl)
theorem d_Mod_warps_11 : decode prog_13_method_14_code 11 = .ok (.aload_n 0, 1) := id_Mod_warps_0 (11, .aload_n 0, 1) (List.mem_of_getElem? (i := 7) rfl)
theorem d_Mod_warps_12 : decode prog_13_method_14_code 12 = .ok (.getfield 7, 3) := id_Mod_warps_0 (12, .getfield 7, 3) (List.mem_of_getElem? (i := 8) rfl)
theorem d_Mod_warps_15 : decode prog_13_method_14_code 15 = .ok (.idiv, 1) := id_Mod_warps_0 (15, .idiv, 1) (List.mem_of_getElem? (i := 9) rfl)
theorem d_Mod_warps_16 : decode prog_13_method_14_code 16 = .ok (.ireturn, 1) := id_Mod_warps_0 (16, .ireturn, 1) (List.mem_of_getElem? (i := 10) rfl)
theorem wC_Mod_warps : Cond.code ⟨"WarpMillModel", "warps", "()I"⟩ prog_13_method_14_code 1 (some .int) ∈ lw_tb := mem_tb 1314 (by decide +kernel) rfl
def f_Mod_warps (F : Nat) (x0 : Nat) (h : Hp) : Option (Int32 × Hp) := gd (hK h x0 = 12) <| gd (¬ (hI h 705 x0) = 0) <| some (((((hI h 717 x0) + (hI h 705 x0)) - (1 : Int32)) / (hI h 705 x0)), h)
set_option maxRecDepth 100000 in
set_option maxHeartbeats 4000000 in
theorem e_Mod_warps {G : Gl} {F : Nat} {r : Int32} {h' : Hp} {x0 : Nat} {h : Hp} (hf : f_Mod_warps F x0 h = some (r, h')) : Ex G mi_Mod_warps [.ref x0] h (pI r h') := by
  unfold f_Mod_warps at hf
  refine Ex.of nmI (by decide) (Nat.le_of_ble_eq_true rfl) ?_
  show Go G mi_Mod_warps h _ h 0 [(0, .ref x0)] []
  refine g_aload_n d_Mod_warps_0 rfl ?_
  obtain ⟨k_1, hf⟩ := gd_s hf
  refine fg_Mod_threads lf_Mod_153 d_Mod_warps_1 k_1 ?_
  refine g_aload_n d_Mod_warps_4 rfl ?_
  refine fg_Mod_lanes lf_Mod_7 d_Mod_warps_5 k_1 ?_
  refine g_iadd d_Mod_warps_8 ?_
  refine g_iconst 1 d_Mod_warps_9 (by decide) ?_
  refine g_isub d_Mod_warps_10 ?_
  refine g_aload_n d_Mod_warps_11 rfl ?_
  refine fg_Mod_lanes lf_Mod_7 d_Mod_warps_12 k_1 ?_
  obtain ⟨z_15, hf⟩ := gd_s hf
  refine g_idiv d_Mod_warps_15 z_15 ?_
  exact Go.ret (some _) (rOk_i _) rfl d_Mod_warps_16 (pI_of hf)
abbrev mi_Mod_beginWarp : MI := (⟨"WarpMillModel", "beginWarp", "(I)V"⟩, prog_13_method_18_code, 4, none, 0, 0)
def it_Mod_beginWarp_0 : List (Nat × ClassFile.Instr × Nat) := [(0, .bipush (32), 2), (2, .iload_n 1, 1), (3, .imul, 1), (4, .istore_n 2, 1), (5, .iload_n 2, 1), (6, .bipush (32), 2), (8, .iload_n 1, 1), (9, .imul, 1), (10, .bipush (32), 2), (12, .iadd, 1), (13, .if_icmp .ge (63), 3), (16, .aload_n 0, 1), (17, .getfield 73, 3), (20, .iload_n 2, 1), (21, .iconst 0, 1), (22, .iastore, 1), (23, .aload_n 0, 1), (24, .getfield 70, 3), (27, .iload_n 2, 1), (28, .iconst 0, 1), (29, .iastore, 1), (30, .aload_n 0, 1), (31, .getfield 76, 3), (34, .iload_n 2, 1)]
theorem id_Mod_beginWarp_0 : ∀ q ∈ it_Mod_beginWarp_0, decode prog_13_method_18_code q.1 = .ok q.2 := by decide +kernel
theorem d_Mod_beginWarp_0 : decode prog_13_method_18_code 0 = .ok (.bipush (32), 2) := id_Mod_beginWarp_0 (0, .bipush (32), 2) (List.mem_of_getElem? (i := 0) rfl)
theorem d_Mod_beginWarp_2 : decode prog_13_method_18_code 2 = .ok (.iload_n 1, 1) := id_Mod_beginWarp_0 (2, .iload_n 1, 1) (List.mem_of_getElem? (i := 1) rfl)
theorem d_Mod_beginWarp_3 : decode prog_13_method_18_code 3 = .ok (.imul, 1) := id_Mod_beginWarp_0 (3, .imul, 1) (List.mem_of_getElem? (i := 2) rfl)
theorem d_Mod_beginWarp_4 : decode prog_13_method_18_code 4 = .ok (.istore_n 2, 1) := id_Mod_beginWarp_0 (4, .istore_n 2, 1) (List.mem_of_getElem? (i := 3) rfl)
theorem d_Mod_beginWarp_5 : decode prog_13_method_18_code 5 = .ok (.iload_n 2, 1) := id_Mod_beginWarp_0 (5, .iload_n 2, 1) (List.mem_of_getElem? (i := 4) rfl)
theorem d_Mod_beginWarp_6 : decode prog_13_method_18_code 6 = .ok (.bipush (32), 2) := id_Mod_beginWarp_0 (6, .bipush (32), 2) (List.mem_of_getElem? (i := 5) rfl)
theorem d_Mod_beginWarp_8 : decode prog_13_method_18_code 8 = .ok (.iload_n 1, 1) := id_Mod_beginWarp_0 (8, .iload_n 1, 1) (List.mem_of_getElem? (i := 6) rfl)
theorem d_Mod_beginWarp_9 : decode prog_13_method_18_code 9 = .ok (.imul, 1) := id_Mod_beginWarp_0 (9, .imul, 1) (List.mem_of_getElem? (i := 7) rfl)
theorem d_Mod_beginWarp_10 : decode prog_13_method_18_code 10 = .ok (.bipush (32), 2) := id_Mod_beginWarp_0 (10, .bipush (32), 2) (List.mem_of_getElem? (i := 8) rfl)
theorem d_Mod_beginWarp_12 : decode prog_13_method_18_code 12 = .ok (.iadd, 1) := id_Mod_beginWarp_0 (12, .iadd, 1) (List.mem_of_getElem? (i := 9) rfl)
theorem d_Mod_beginWarp_13 : decode prog_13_method_18_code 13 = .ok (.if_icmp .ge (63), 3) := id_Mod_beginWarp_0 (13, .if_icmp .ge (63), 3) (List.mem_of_getElem? (i := 10) rfl)
theorem d_Mod_beginWarp_16 : decode prog_13_method_18_code 16 = .ok (.aload_n 0, 1) := id_Mod_beginWarp_0 (16, .aload_n 0, 1) (List.mem_of_getElem? (i := 11) rfl)
theorem d_Mod_beginWarp_17 : decode prog_13_method_18_code 17 = .ok (.getfield 73, 3) := id_Mod_beginWarp_0 (17, .getfield 73, 3) (List.mem_of_getElem? (i := 12) rfl)
theorem d_Mod_beginWarp_20 : decode prog_13_method_18_code 20 = .ok (.iload_n 2, 1) := id_Mod_beginWarp_0 (20, .iload_n 2, 1) (List.mem_of_getElem? (i := 13) rfl)
theorem d_Mod_beginWarp_21 : decode prog_13_method_18_code 21 = .ok (.iconst 0, 1) := id_Mod_beginWarp_0 (21, .iconst 0, 1) (List.mem_of_getElem? (i := 14) rfl)
theorem d_Mod_beginWarp_22 : decode prog_13_method_18_code 22 = .ok (.iastore, 1) := id_Mod_beginWarp_0 (22, .iastore, 1) (List.mem_of_getElem? (i := 15) rfl)
theorem d_Mod_beginWarp_23 : decode prog_13_method_18_code 23 = .ok (.aload_n 0, 1) := id_Mod_beginWarp_0 (23, .aload_n 0, 1) (List.mem_of_getElem? (i := 16) rfl)
theorem d_Mod_beginWarp_24 : decode prog_13_method_18_code 24 = .ok (.getfield 70, 3) := id_Mod_beginWarp_0 (24, .getfield 70, 3) (List.mem_of_getElem? (i := 17) rfl)
theorem d_Mod_beginWarp_27 : decode prog_13_method_18_code 27 = .ok (.iload_n 2, 1) := id_Mod_beginWarp_0 (27, .iload_n 2, 1) (List.mem_of_getElem? (i := 18) rfl)
theorem d_Mod_beginWarp_28 : decode prog_13_method_18_code 28 = .ok (.iconst 0, 1) := id_Mod_beginWarp_0 (28, .iconst 0, 1) (List.mem_of_getElem? (i := 19) rfl)
theorem d_Mod_beginWarp_29 : decode prog_13_method_18_code 29 = .ok (.iastore, 1) := id_Mod_beginWarp_0 (29, .iastore, 1) (List.mem_of_getElem? (i := 20) rfl)
theorem d_Mod_beginWarp_30 : decode prog_13_method_18_code 30 = .ok (.aload_n 0, 1) := id_Mod_beginWarp_0 (30, .aload_n 0, 1) (List.mem_of_getElem? (i := 21) rfl)
theorem d_Mod_beginWarp_31 : decode prog_13_method_18_code 31 = .ok (.getfield 76, 3) := id_Mod_beginWarp_0 (31, .getfield 76, 3) (List.mem_of_getElem? (i := 22) rfl)
theorem d_Mod_beginWarp_34 : decode prog_13_method_18_code 34 = .ok (.iload_n 2, 1) := id_Mod_beginWarp_0 (34, .iload_n 2, 1) (List.mem_of_getElem? (i := 23) rfl)
def it_Mod_beginWarp_1 : List (Nat × ClassFile.Instr × Nat) := [(35, .iconst 0, 1), (36, .bastore, 1), (37, .aload_n 0, 1), (38, .getfield 80, 3), (41, .iload_n 2, 1), (42, .iconst 0, 1), (43, .bastore, 1), (44, .iconst 0, 1), (45, .istore_n 3, 1), (46, .iload_n 3, 1), (47, .bipush (16), 2), (49, .if_icmp .ge (21), 3), (52, .aload_n 0, 1), (53, .getfield 67, 3), (56, .bipush (16), 2), (58, .iload_n 2, 1), (59, .imul, 1), (60, .iload_n 3, 1), (61, .iadd, 1), (62, .iconst 0, 1), (63, .iastore, 1), (64, .iinc 3 (1), 3), (67, .goto (-21), 3), (70, .iinc 2 (1), 3)]
theorem id_Mod_beginWarp_1 : ∀ q ∈ it_Mod_beginWarp_1, decode prog_13_method_18_code q.1 = .ok q.2 := by decide +kernel
theorem d_Mod_beginWarp_35 : decode prog_13_method_18_code 35 = .ok (.iconst 0, 1) := id_Mod_beginWarp_1 (35, .iconst 0, 1) (List.mem_of_getElem? (i := 0) rfl)
theorem d_Mod_beginWarp_36 : decode prog_13_method_18_code 36 = .ok (.bastore, 1) := id_Mod_beginWarp_1 (36, .bastore, 1) (List.mem_of_getElem? (i := 1) rfl)
theorem d_Mod_beginWarp_37 : decode prog_13_method_18_code 37 = .ok (.aload_n 0, 1) := id_Mod_beginWarp_1 (37, .aload_n 0, 1) (List.mem_of_getElem? (i := 2) rfl)
theorem d_Mod_beginWarp_38 : decode prog_13_method_18_code 38 = .ok (.getfield 80, 3) := id_Mod_beginWarp_1 (38, .getfield 80, 3) (List.mem_of_getElem? (i := 3) rfl)
theorem d_Mod_beginWarp_41 : decode prog_13_method_18_code 41 = .ok (.iload_n 2, 1) := id_Mod_beginWarp_1 (41, .iload_n 2, 1) (List.mem_of_getElem? (i := 4) rfl)
theorem d_Mod_beginWarp_42 : decode prog_13_method_18_code 42 = .ok (.iconst 0, 1) := id_Mod_beginWarp_1 (42, .iconst 0, 1) (List.mem_of_getElem? (i := 5) rfl)
theorem d_Mod_beginWarp_43 : decode prog_13_method_18_code 43 = .ok (.bastore, 1) := id_Mod_beginWarp_1 (43, .bastore, 1) (List.mem_of_getElem? (i := 6) rfl)
theorem d_Mod_beginWarp_44 : decode prog_13_method_18_code 44 = .ok (.iconst 0, 1) := id_Mod_beginWarp_1 (44, .iconst 0, 1) (List.mem_of_getElem? (i := 7) rfl)
theorem d_Mod_beginWarp_45 : decode prog_13_method_18_code 45 = .ok (.istore_n 3, 1) := id_Mod_beginWarp_1 (45, .istore_n 3, 1) (List.mem_of_getElem? (i := 8) rfl)
theorem d_Mod_beginWarp_46 : decode prog_13_method_18_code 46 = .ok (.iload_n 3, 1) := id_Mod_beginWarp_1 (46, .iload_n 3, 1) (List.mem_of_getElem? (i := 9) rfl)
theorem d_Mod_beginWarp_47 : decode prog_13_method_18_code 47 = .ok (.bipush (16), 2) := id_Mod_beginWarp_1 (47, .bipush (16), 2) (List.mem_of_getElem? (i := 10) rfl)
theorem d_Mod_beginWarp_49 : decode prog_13_method_18_code 49 = .ok (.if_icmp .ge (21), 3) := id_Mod_beginWarp_1 (49, .if_icmp .ge (21), 3) (List.mem_of_getElem? (i := 11) rfl)
theorem d_Mod_beginWarp_52 : decode prog_13_method_18_code 52 = .ok (.aload_n 0, 1) := id_Mod_beginWarp_1 (52, .aload_n 0, 1) (List.mem_of_getElem? (i := 12) rfl)
theorem d_Mod_beginWarp_53 : decode prog_13_method_18_code 53 = .ok (.getfield 67, 3) := id_Mod_beginWarp_1 (53, .getfield 67, 3) (List.mem_of_getElem? (i := 13) rfl)
theorem d_Mod_beginWarp_56 : decode prog_13_method_18_code 56 = .ok (.bipush (16), 2) := id_Mod_beginWarp_1 (56, .bipush (16), 2) (List.mem_of_getElem? (i := 14) rfl)
theorem d_Mod_beginWarp_58 : decode prog_13_method_18_code 58 = .ok (.iload_n 2, 1) := id_Mod_beginWarp_1 (58, .iload_n 2, 1) (List.mem_of_getElem? (i := 15) rfl)
theorem d_Mod_beginWarp_59 : decode prog_13_method_18_code 59 = .ok (.imul, 1) := id_Mod_beginWarp_1 (59, .imul, 1) (List.mem_of_getElem? (i := 16) rfl)
theorem d_Mod_beginWarp_60 : decode prog_13_method_18_code 60 = .ok (.iload_n 3, 1) := id_Mod_beginWarp_1 (60, .iload_n 3, 1) (List.mem_of_getElem? (i := 17) rfl)
theorem d_Mod_beginWarp_61 : decode prog_13_method_18_code 61 = .ok (.iadd, 1) := id_Mod_beginWarp_1 (61, .iadd, 1) (List.mem_of_getElem? (i := 18) rfl)
theorem d_Mod_beginWarp_62 : decode prog_13_method_18_code 62 = .ok (.iconst 0, 1) := id_Mod_beginWarp_1 (62, .iconst 0, 1) (List.mem_of_getElem? (i := 19) rfl)
theorem d_Mod_beginWarp_63 : decode prog_13_method_18_code 63 = .ok (.iastore, 1) := id_Mod_beginWarp_1 (63, .iastore, 1) (List.mem_of_getElem? (i := 20) rfl)
theorem d_Mod_beginWarp_64 : decode prog_13_method_18_code 64 = .ok (.iinc 3 (1), 3) := id_Mod_beginWarp_1 (64, .iinc 3 (1), 3) (List.mem_of_getElem? (i := 21) rfl)
theorem d_Mod_beginWarp_67 : decode prog_13_method_18_code 67 = .ok (.goto (-21), 3) := id_Mod_beginWarp_1 (67, .goto (-21), 3) (List.mem_of_getElem? (i := 22) rfl)
theorem d_Mod_beginWarp_70 : decode prog_13_method_18_code 70 = .ok (.iinc 2 (1), 3) := id_Mod_beginWarp_1 (70, .iinc 2 (1), 3) (List.mem_of_getElem? (i := 23) rfl)
def it_Mod_beginWarp_2 : List (Nat × ClassFile.Instr × Nat) := [(73, .goto (-68), 3), (76, .return_, 1)]
theorem id_Mod_beginWarp_2 : ∀ q ∈ it_Mod_beginWarp_2, decode prog_13_method_18_code q.1 = .ok q.2 := by decide +kernel
theorem d_Mod_beginWarp_73 : decode prog_13_method_18_code 73 = .ok (.goto (-68), 3) := id_Mod_beginWarp_2 (73, .goto (-68), 3) (List.mem_of_getElem? (i := 0) rfl)
theorem d_Mod_beginWarp_76 : decode prog_13_method_18_code 76 = .ok (.return_, 1) := id_Mod_beginWarp_2 (76, .return_, 1) (List.mem_of_getElem? (i := 1) rfl)
theorem wC_Mod_beginWarp : Cond.code ⟨"WarpMillModel", "beginWarp", "(I)V"⟩ prog_13_method_18_code 4 (none) ∈ lw_tb := mem_tb 1322 (by decide +kernel) rfl
def b_Mod_beginWarp_46 (F : Nat) (k5 : Nat → Int32 → Int32 → Hp → Option Hp) : Nat → Nat → Int32 → Int32 → Int32 → Hp → Option Hp
  | 0 => fun _ _ _ _ _ => none
  | n + 1 => fun x0 x1 x2 x3 h => if (16 : Int32) ≤ x3 then (k5 x0 x1 (x2 + 1) h) else (gd (hK h x0 = 12) <| rq h (hR h 739 x0) 100 fun a_53_2 => ix (((16 : Int32) * x2) + x3) (hN h a_53_2) fun j_63 => pw (sA h a_53_2 j_63 (0 : Int32)) fun h_63_2 => b_Mod_beginWarp_46 F k5 n x0 x1 x2 (x3 + 1) h_63_2)
set_option maxRecDepth 100000 in
set_option maxHeartbeats 4000000 in
theorem e_Mod_beginWarp_46 {G : Gl} (hw : gF G) {h0 : Hp} {F : Nat} {h' : Hp} {k5 : Nat → Int32 → Int32 → Hp → Option Hp} (hk5 : ∀ (y0 : Nat) (y1 : Int32) (y2 : Int32) (hh : Hp), k5 y0 y1 y2 hh = some h' → Go G mi_Mod_beginWarp h0 (pV h') hh 5 [(0, .ref y0), (1, .int y1), (2, .int y2)] []) : ∀ (n : Nat) (x0 : Nat) (x1 : Int32) (x2 : Int32) (x3 : Int32) (h : Hp), b_Mod_beginWarp_46 F k5 n x0 x1 x2 x3 h = some h' → Go G mi_Mod_beginWarp h0 (pV h') h 46 [(0, .ref x0), (1, .int x1), (2, .int x2), (3, .int x3)] [] := by
  intro n
  induction n with
  | zero =>
    intro _ _ _ _ _ hf
    exact nm_s hf
  | succ n ih =>
    intro x0 x1 x2 x3 h hf
    unfold b_Mod_beginWarp_46 at hf
    refine g_iload_n d_Mod_beginWarp_46 rfl ?_
    refine g_bipush (16) d_Mod_beginWarp_47 (by decide) ?_
    refine g_icmp_ge 70 d_Mod_beginWarp_49 (by decide) (fun c_49 => ?_) (fun c_49 => ?_)
    · have hf := ifp hf c_49
      refine g_iinc (_ + 1) d_Mod_beginWarp_70 rfl (by rfl) (by decide) ?_
      show Go _ _ _ _ _ _ [(0, _), (1, _), (2, _), (3, _)] _
      refine g_goto 5 d_Mod_beginWarp_73 (by decide) ?_
      refine Go.locals [0, 1, 2] rfl ?_
      exact hk5 _ _ _ _ hf
    · have hf := ifn hf c_49
      refine g_aload_n d_Mod_beginWarp_52 rfl ?_
      obtain ⟨k_53, hf⟩ := gd_s hf
      obtain ⟨a_53_2, e_53_2, k_53_2, hf⟩ := rq_s hf
      refine fgs_Mod_register lf_Mod_67 d_Mod_beginWarp_53 k_53 e_53_2 ?_
      refine g_bipush (16) d_Mod_beginWarp_56 (by decide) ?_
      refine g_iload_n d_Mod_beginWarp_58 rfl ?_
      refine g_imul d_Mod_beginWarp_59 ?_
      refine g_iload_n d_Mod_beginWarp_60 rfl ?_
      refine g_iadd d_Mod_beginWarp_61 ?_
      refine g_iconst 0 d_Mod_beginWarp_62 (by decide) ?_
      obtain ⟨i_63, hf⟩ := ix_s hf
      refine g_iast hw k_53_2 i_63 d_Mod_beginWarp_63 ?_
      have hf := pw_b hf
      refine g_iinc (_ + 1) d_Mod_beginWarp_64 rfl (by rfl) (by decide) ?_
      show Go _ _ _ _ _ _ [(0, _), (1, _), (2, _), (3, _)] _
      refine g_goto 46 d_Mod_beginWarp_67 (by decide) ?_
      exact ih _ _ _ _ _ hf
def b_Mod_beginWarp_5 (F : Nat) : Nat → Nat → Int32 → Int32 → Hp → Option Hp
  | 0 => fun _ _ _ _ => none
  | n + 1 => fun x0 x1 x2 h => if (((32 : Int32) * x1) + (32 : Int32)) ≤ x2 then (some h) else (gd (hK h x0 = 12) <| rq h (hR h 741 x0) 100 fun a_17_2 => ix x2 (hN h a_17_2) fun j_22 => pw (sA h a_17_2 j_22 (0 : Int32)) fun h_22_2 => rq h_22_2 (hR h_22_2 740 x0) 100 fun a_24 => ix x2 (hN h_22_2 a_24) fun j_29 => pw (sA h_22_2 a_24 j_29 (0 : Int32)) fun h_29_2 => rq h_29_2 (hR h_29_2 742 x0) 101 fun a_31 => ix x2 (hN h_29_2 a_31) fun j_36 => pw (sA h_29_2 a_31 j_36 (0 : Int32)) fun h_36_2 => rq h_36_2 (hR h_36_2 743 x0) 101 fun a_38 => ix x2 (hN h_36_2 a_38) fun j_43 => pw (sA h_36_2 a_38 j_43 (0 : Int32)) fun h_43_2 => b_Mod_beginWarp_46 F (b_Mod_beginWarp_5 F n) F x0 x1 x2 (0 : Int32) h_43_2)
set_option maxRecDepth 100000 in
set_option maxHeartbeats 4000000 in
theorem e_Mod_beginWarp_5 {G : Gl} (hw : gF G) {h0 : Hp} {F : Nat} {h' : Hp}   : ∀ (n : Nat) (x0 : Nat) (x1 : Int32) (x2 : Int32) (h : Hp), b_Mod_beginWarp_5 F n x0 x1 x2 h = some h' → Go G mi_Mod_beginWarp h0 (pV h') h 5 [(0, .ref x0), (1, .int x1), (2, .int x2)] [] := by
  intro n
  induction n with
  | zero =>
    intro _ _ _ _ hf
    exact nm_s hf
  | succ n ih =>
    intro x0 x1 x2 h hf
    unfold b_Mod_beginWarp_5 at hf
    refine g_iload_n d_Mod_beginWarp_5 rfl ?_
    refine g_bipush (32) d_Mod_beginWarp_6 (by decide) ?_
    refine g_iload_n d_Mod_beginWarp_8 rfl ?_
    refine g_imul d_Mod_beginWarp_9 ?_
    refine g_bipush (32) d_Mod_beginWarp_10 (by decide) ?_
    refine g_iadd d_Mod_beginWarp_12 ?_
    refine g_icmp_ge 76 d_Mod_beginWarp_13 (by decide) (fun c_13 => ?_) (fun c_13 => ?_)
    · have hf := ifp hf c_13
      exact Go.ret none trivial rfl d_Mod_beginWarp_76 (pV_of hf)
    · have hf := ifn hf c_13
      refine g_aload_n d_Mod_beginWarp_16 rfl ?_
      obtain ⟨k_17, hf⟩ := gd_s hf
      obtain ⟨a_17_2, e_17_2, k_17_2, hf⟩ := rq_s hf
      refine fgs_Mod_place lf_Mod_73 d_Mod_beginWarp_17 k_17 e_17_2 ?_
      refine g_iload_n d_Mod_beginWarp_20 rfl ?_
      refine g_iconst 0 d_Mod_beginWarp_21 (by decide) ?_
      obtain ⟨i_22, hf⟩ := ix_s hf
      refine g_iast hw k_17_2 i_22 d_Mod_beginWarp_22 ?_
      have hf := pw_b hf
      refine g_aload_n d_Mod_beginWarp_23 rfl ?_
      obtain ⟨a_24, e_24, k_24, hf⟩ := rq_s hf
      refine fgs_Mod_predicate lf_Mod_70 d_Mod_beginWarp_24 (kksA k_17) e_24 ?_
      refine g_iload_n d_Mod_beginWarp_27 rfl ?_
      refine g_iconst 0 d_Mod_beginWarp_28 (by decide) ?_
      obtain ⟨i_29, hf⟩ := ix_s hf
      refine g_iast hw k_24 i_29 d_Mod_beginWarp_29 ?_
      have hf := pw_b hf
      refine g_aload_n d_Mod_beginWarp_30 rfl ?_
      obtain ⟨a_31, e_31, k_31, hf⟩ := rq_s hf
      refine fgs_Mod_isEnded lf_Mod_76 d_Mod_beginWarp_31 (kksA (kksA k_17)) e_31 ?_
      refine g_iload_n d_Mod_beginWarp_34 rfl ?_
      refine g_iconst 0 d_Mod_beginWarp_35 (by decide) ?_
      obtain ⟨i_36, hf⟩ := ix_s hf
      refine g_zast hw (zok (by decide)) k_31 i_36 d_Mod_beginWarp_36 ?_
      have hf := pw_b hf
      refine g_aload_n d_Mod_beginWarp_37 rfl ?_
      obtain ⟨a_38, e_38, k_38, hf⟩ := rq_s hf
      refine fgs_Mod_waits lf_Mod_80 d_Mod_beginWarp_38 (kksA (kksA (kksA k_17))) e_38 ?_
      refine g_iload_n d_Mod_beginWarp_41 rfl ?_
      refine g_iconst 0 d_Mod_beginWarp_42 (by decide) ?_
      obtain ⟨i_43, hf⟩ := ix_s hf
      refine g_zast hw (zok (by decide)) k_38 i_43 d_Mod_beginWarp_43 ?_
      have hf := pw_b hf
      refine g_iconst 0 d_Mod_beginWarp_44 (by decide) ?_
      refine g_istore_n d_Mod_beginWarp_45 (by decide) ?_
      show Go _ _ _ _ _ _ [(0, _), (1, _), (2, _), (3, _)] _
      have key := e_Mod_beginWarp_46 hw (G := G) (h0 := h0) (fun _ _ _ _ q => ih _ _ _ _ q) F _ _ _ _ _ hf
      exact key
def f_Mod_beginWarp (F : Nat) (x0 : Nat) (x1 : Int32) (h : Hp) : Option Hp := b_Mod_beginWarp_5 F F x0 x1 ((32 : Int32) * x1) h
set_option maxRecDepth 100000 in
set_option maxHeartbeats 4000000 in
theorem e_Mod_beginWarp {G : Gl} (hw : gF G) {F : Nat} {h' : Hp} {x0 : Nat} {x1 : Int32} {h : Hp} (hf : f_Mod_beginWarp F x0 x1 h = some h') : Ex G mi_Mod_beginWarp [.ref x0, .int x1] h (pV h') := by
  unfold f_Mod_beginWarp at hf
  refine Ex.of nmV (by decide) (Nat.le_of_ble_eq_true rfl) ?_
  show Go G mi_Mod_beginWarp h _ h 0 [(0, .ref x0), (1, .int x1)] []
  refine g_bipush (32) d_Mod_beginWarp_0 (by decide) ?_
  refine g_iload_n d_Mod_beginWarp_2 rfl ?_
  refine g_imul d_Mod_beginWarp_3 ?_
  refine g_istore_n d_Mod_beginWarp_4 (by decide) ?_
  show Go _ _ _ _ _ _ [(0, _), (1, _), (2, _)] _
  have key := e_Mod_beginWarp_5 hw (G := G) (h0 := h)  F _ _ _ _ hf
  exact key
abbrev mi_Mod_begin : MI := (⟨"WarpMillModel", "begin", "(II)V"⟩, prog_13_method_17_code, 6, none, 1, 23)
def it_Mod_begin_0 : List (Nat × ClassFile.Instr × Nat) := [(0, .iconst 0, 1), (1, .istore_n 3, 1), (2, .bipush (16), 2), (4, .iload_n 1, 1), (5, .imul, 1), (6, .istore 4, 2), (8, .iload 4, 2), (10, .bipush (16), 2), (12, .iload_n 1, 1), (13, .imul, 1), (14, .aload_n 0, 1), (15, .getfield 13, 3), (18, .iadd, 1), (19, .if_icmp .ge (94), 3), (22, .iload_n 3, 1), (23, .aload_n 0, 1), (24, .invokevirtual 196, 3), (27, .if_icmp .ge (86), 3), (30, .aload_n 0, 1), (31, .getfield 54, 3), (34, .iload 4, 2), (36, .iaload, 1), (37, .iconst (-1), 1), (38, .if_icmp .eq (6), 3)]
theorem id_Mod_begin_0 : ∀ q ∈ it_Mod_begin_0, decode prog_13_method_17_code q.1 = .ok q.2 := by decide +kernel
theorem d_Mod_begin_0 : decode prog_13_method_17_code 0 = .ok (.iconst 0, 1) := id_Mod_begin_0 (0, .iconst 0, 1) (List.mem_of_getElem? (i := 0) rfl)
theorem d_Mod_begin_1 : decode prog_13_method_17_code 1 = .ok (.istore_n 3, 1) := id_Mod_begin_0 (1, .istore_n 3, 1) (List.mem_of_getElem? (i := 1) rfl)
theorem d_Mod_begin_2 : decode prog_13_method_17_code 2 = .ok (.bipush (16), 2) := id_Mod_begin_0 (2, .bipush (16), 2) (List.mem_of_getElem? (i := 2) rfl)
theorem d_Mod_begin_4 : decode prog_13_method_17_code 4 = .ok (.iload_n 1, 1) := id_Mod_begin_0 (4, .iload_n 1, 1) (List.mem_of_getElem? (i := 3) rfl)
theorem d_Mod_begin_5 : decode prog_13_method_17_code 5 = .ok (.imul, 1) := id_Mod_begin_0 (5, .imul, 1) (List.mem_of_getElem? (i := 4) rfl)
theorem d_Mod_begin_6 : decode prog_13_method_17_code 6 = .ok (.istore 4, 2) := id_Mod_begin_0 (6, .istore 4, 2) (List.mem_of_getElem? (i := 5) rfl)
theorem d_Mod_begin_8 : decode prog_13_method_17_code 8 = .ok (.iload 4, 2) := id_Mod_begin_0 (8, .iload 4, 2) (List.mem_of_getElem? (i := 6) rfl)
theorem d_Mod_begin_10 : decode prog_13_method_17_code 10 = .ok (.bipush (16), 2) := id_Mod_begin_0 (10, .bipush (16), 2) (List.mem_of_getElem? (i := 7) rfl)
theorem d_Mod_begin_12 : decode prog_13_method_17_code 12 = .ok (.iload_n 1, 1) := id_Mod_begin_0 (12, .iload_n 1, 1) (List.mem_of_getElem? (i := 8) rfl)
theorem d_Mod_begin_13 : decode prog_13_method_17_code 13 = .ok (.imul, 1) := id_Mod_begin_0 (13, .imul, 1) (List.mem_of_getElem? (i := 9) rfl)
theorem d_Mod_begin_14 : decode prog_13_method_17_code 14 = .ok (.aload_n 0, 1) := id_Mod_begin_0 (14, .aload_n 0, 1) (List.mem_of_getElem? (i := 10) rfl)
theorem d_Mod_begin_15 : decode prog_13_method_17_code 15 = .ok (.getfield 13, 3) := id_Mod_begin_0 (15, .getfield 13, 3) (List.mem_of_getElem? (i := 11) rfl)
theorem d_Mod_begin_18 : decode prog_13_method_17_code 18 = .ok (.iadd, 1) := id_Mod_begin_0 (18, .iadd, 1) (List.mem_of_getElem? (i := 12) rfl)
theorem d_Mod_begin_19 : decode prog_13_method_17_code 19 = .ok (.if_icmp .ge (94), 3) := id_Mod_begin_0 (19, .if_icmp .ge (94), 3) (List.mem_of_getElem? (i := 13) rfl)
theorem d_Mod_begin_22 : decode prog_13_method_17_code 22 = .ok (.iload_n 3, 1) := id_Mod_begin_0 (22, .iload_n 3, 1) (List.mem_of_getElem? (i := 14) rfl)
theorem d_Mod_begin_23 : decode prog_13_method_17_code 23 = .ok (.aload_n 0, 1) := id_Mod_begin_0 (23, .aload_n 0, 1) (List.mem_of_getElem? (i := 15) rfl)
theorem d_Mod_begin_24 : decode prog_13_method_17_code 24 = .ok (.invokevirtual 196, 3) := id_Mod_begin_0 (24, .invokevirtual 196, 3) (List.mem_of_getElem? (i := 16) rfl)
theorem d_Mod_begin_27 : decode prog_13_method_17_code 27 = .ok (.if_icmp .ge (86), 3) := id_Mod_begin_0 (27, .if_icmp .ge (86), 3) (List.mem_of_getElem? (i := 17) rfl)
theorem d_Mod_begin_30 : decode prog_13_method_17_code 30 = .ok (.aload_n 0, 1) := id_Mod_begin_0 (30, .aload_n 0, 1) (List.mem_of_getElem? (i := 18) rfl)
theorem d_Mod_begin_31 : decode prog_13_method_17_code 31 = .ok (.getfield 54, 3) := id_Mod_begin_0 (31, .getfield 54, 3) (List.mem_of_getElem? (i := 19) rfl)
theorem d_Mod_begin_34 : decode prog_13_method_17_code 34 = .ok (.iload 4, 2) := id_Mod_begin_0 (34, .iload 4, 2) (List.mem_of_getElem? (i := 20) rfl)
theorem d_Mod_begin_36 : decode prog_13_method_17_code 36 = .ok (.iaload, 1) := id_Mod_begin_0 (36, .iaload, 1) (List.mem_of_getElem? (i := 21) rfl)
theorem d_Mod_begin_37 : decode prog_13_method_17_code 37 = .ok (.iconst (-1), 1) := id_Mod_begin_0 (37, .iconst (-1), 1) (List.mem_of_getElem? (i := 22) rfl)
theorem d_Mod_begin_38 : decode prog_13_method_17_code 38 = .ok (.if_icmp .eq (6), 3) := id_Mod_begin_0 (38, .if_icmp .eq (6), 3) (List.mem_of_getElem? (i := 23) rfl)
def it_Mod_begin_1 : List (Nat × ClassFile.Instr × Nat) := [(41, .goto (66), 3), (44, .aload_n 0, 1), (45, .getfield 54, 3), (48, .iload 4, 2), (50, .iload_n 2, 1), (51, .iastore, 1), (52, .aload_n 0, 1), (53, .getfield 57, 3), (56, .iload 4, 2), (58, .iload_n 3, 1), (59, .iastore, 1), (60, .aload_n 0, 1), (61, .getfield 60, 3), (64, .iload 4, 2), (66, .iconst 0, 1), (67, .iastore, 1), (68, .iconst 0, 1), (69, .istore 5, 2), (71, .iload 5, 2), (73, .bipush (20), 2), (75, .if_icmp .ge (23), 3), (78, .aload_n 0, 1), (79, .getfield 63, 3), (82, .bipush (20), 2)]
theorem id_Mod_begin_1 : ∀ q ∈ it_Mod_begin_1, decode prog_13_method_17_code q.1 = .ok q.2 := by decide +kernel
theorem d_Mod_begin_41 : decode prog_13_method_17_code 41 = .ok (.goto (66), 3) := id_Mod_begin_1 (41, .goto (66), 3) (List.mem_of_getElem? (i := 0) rfl)
theorem d_Mod_begin_44 : decode prog_13_method_17_code 44 = .ok (.aload_n 0, 1) := id_Mod_begin_1 (44, .aload_n 0, 1) (List.mem_of_getElem? (i := 1) rfl)
theorem d_Mod_begin_45 : decode prog_13_method_17_code 45 = .ok (.getfield 54, 3) := id_Mod_begin_1 (45, .getfield 54, 3) (List.mem_of_getElem? (i := 2) rfl)
theorem d_Mod_begin_48 : decode prog_13_method_17_code 48 = .ok (.iload 4, 2) := id_Mod_begin_1 (48, .iload 4, 2) (List.mem_of_getElem? (i := 3) rfl)
theorem d_Mod_begin_50 : decode prog_13_method_17_code 50 = .ok (.iload_n 2, 1) := id_Mod_begin_1 (50, .iload_n 2, 1) (List.mem_of_getElem? (i := 4) rfl)
theorem d_Mod_begin_51 : decode prog_13_method_17_code 51 = .ok (.iastore, 1) := id_Mod_begin_1 (51, .iastore, 1) (List.mem_of_getElem? (i := 5) rfl)
theorem d_Mod_begin_52 : decode prog_13_method_17_code 52 = .ok (.aload_n 0, 1) := id_Mod_begin_1 (52, .aload_n 0, 1) (List.mem_of_getElem? (i := 6) rfl)
theorem d_Mod_begin_53 : decode prog_13_method_17_code 53 = .ok (.getfield 57, 3) := id_Mod_begin_1 (53, .getfield 57, 3) (List.mem_of_getElem? (i := 7) rfl)
theorem d_Mod_begin_56 : decode prog_13_method_17_code 56 = .ok (.iload 4, 2) := id_Mod_begin_1 (56, .iload 4, 2) (List.mem_of_getElem? (i := 8) rfl)
theorem d_Mod_begin_58 : decode prog_13_method_17_code 58 = .ok (.iload_n 3, 1) := id_Mod_begin_1 (58, .iload_n 3, 1) (List.mem_of_getElem? (i := 9) rfl)
theorem d_Mod_begin_59 : decode prog_13_method_17_code 59 = .ok (.iastore, 1) := id_Mod_begin_1 (59, .iastore, 1) (List.mem_of_getElem? (i := 10) rfl)
theorem d_Mod_begin_60 : decode prog_13_method_17_code 60 = .ok (.aload_n 0, 1) := id_Mod_begin_1 (60, .aload_n 0, 1) (List.mem_of_getElem? (i := 11) rfl)
theorem d_Mod_begin_61 : decode prog_13_method_17_code 61 = .ok (.getfield 60, 3) := id_Mod_begin_1 (61, .getfield 60, 3) (List.mem_of_getElem? (i := 12) rfl)
theorem d_Mod_begin_64 : decode prog_13_method_17_code 64 = .ok (.iload 4, 2) := id_Mod_begin_1 (64, .iload 4, 2) (List.mem_of_getElem? (i := 13) rfl)
theorem d_Mod_begin_66 : decode prog_13_method_17_code 66 = .ok (.iconst 0, 1) := id_Mod_begin_1 (66, .iconst 0, 1) (List.mem_of_getElem? (i := 14) rfl)
theorem d_Mod_begin_67 : decode prog_13_method_17_code 67 = .ok (.iastore, 1) := id_Mod_begin_1 (67, .iastore, 1) (List.mem_of_getElem? (i := 15) rfl)
theorem d_Mod_begin_68 : decode prog_13_method_17_code 68 = .ok (.iconst 0, 1) := id_Mod_begin_1 (68, .iconst 0, 1) (List.mem_of_getElem? (i := 16) rfl)
theorem d_Mod_begin_69 : decode prog_13_method_17_code 69 = .ok (.istore 5, 2) := id_Mod_begin_1 (69, .istore 5, 2) (List.mem_of_getElem? (i := 17) rfl)
theorem d_Mod_begin_71 : decode prog_13_method_17_code 71 = .ok (.iload 5, 2) := id_Mod_begin_1 (71, .iload 5, 2) (List.mem_of_getElem? (i := 18) rfl)
theorem d_Mod_begin_73 : decode prog_13_method_17_code 73 = .ok (.bipush (20), 2) := id_Mod_begin_1 (73, .bipush (20), 2) (List.mem_of_getElem? (i := 19) rfl)
theorem d_Mod_begin_75 : decode prog_13_method_17_code 75 = .ok (.if_icmp .ge (23), 3) := id_Mod_begin_1 (75, .if_icmp .ge (23), 3) (List.mem_of_getElem? (i := 20) rfl)
theorem d_Mod_begin_78 : decode prog_13_method_17_code 78 = .ok (.aload_n 0, 1) := id_Mod_begin_1 (78, .aload_n 0, 1) (List.mem_of_getElem? (i := 21) rfl)
theorem d_Mod_begin_79 : decode prog_13_method_17_code 79 = .ok (.getfield 63, 3) := id_Mod_begin_1 (79, .getfield 63, 3) (List.mem_of_getElem? (i := 22) rfl)
theorem d_Mod_begin_82 : decode prog_13_method_17_code 82 = .ok (.bipush (20), 2) := id_Mod_begin_1 (82, .bipush (20), 2) (List.mem_of_getElem? (i := 23) rfl)
def it_Mod_begin_2 : List (Nat × ClassFile.Instr × Nat) := [(84, .iload 4, 2), (86, .imul, 1), (87, .iload 5, 2), (89, .iadd, 1), (90, .iconst 0, 1), (91, .iastore, 1), (92, .iinc 5 (1), 3), (95, .goto (-24), 3), (98, .aload_n 0, 1), (99, .iload 4, 2), (101, .invokevirtual 204, 3), (104, .iinc 3 (1), 3), (107, .iinc 4 (1), 3), (110, .goto (-102), 3), (113, .iconst 0, 1), (114, .istore 4, 2), (116, .iload 4, 2), (118, .bipush (64), 2), (120, .if_icmp .ge (22), 3), (123, .aload_n 0, 1), (124, .getfield 83, 3), (127, .bipush (64), 2), (129, .iload_n 2, 1), (130, .imul, 1)]
theorem id_Mod_begin_2 : ∀ q ∈ it_Mod_begin_2, decode prog_13_method_17_code q.1 = .ok q.2 := by decide +kernel
theorem d_Mod_begin_84 : decode prog_13_method_17_code 84 = .ok (.iload 4, 2) := id_Mod_begin_2 (84, .iload 4, 2) (List.mem_of_getElem? (i := 0) rfl)
theorem d_Mod_begin_86 : decode prog_13_method_17_code 86 = .ok (.imul, 1) := id_Mod_begin_2 (86, .imul, 1) (List.mem_of_getElem? (i := 1) rfl)
theorem d_Mod_begin_87 : decode prog_13_method_17_code 87 = .ok (.iload 5, 2) := id_Mod_begin_2 (87, .iload 5, 2) (List.mem_of_getElem? (i := 2) rfl)
theorem d_Mod_begin_89 : decode prog_13_method_17_code 89 = .ok (.iadd, 1) := id_Mod_begin_2 (89, .iadd, 1) (List.mem_of_getElem? (i := 3) rfl)
theorem d_Mod_begin_90 : decode prog_13_method_17_code 90 = .ok (.iconst 0, 1) := id_Mod_begin_2 (90, .iconst 0, 1) (List.mem_of_getElem? (i := 4) rfl)
theorem d_Mod_begin_91 : decode prog_13_method_17_code 91 = .ok (.iastore, 1) := id_Mod_begin_2 (91, .iastore, 1) (List.mem_of_getElem? (i := 5) rfl)
theorem d_Mod_begin_92 : decode prog_13_method_17_code 92 = .ok (.iinc 5 (1), 3) := id_Mod_begin_2 (92, .iinc 5 (1), 3) (List.mem_of_getElem? (i := 6) rfl)
theorem d_Mod_begin_95 : decode prog_13_method_17_code 95 = .ok (.goto (-24), 3) := id_Mod_begin_2 (95, .goto (-24), 3) (List.mem_of_getElem? (i := 7) rfl)
theorem d_Mod_begin_98 : decode prog_13_method_17_code 98 = .ok (.aload_n 0, 1) := id_Mod_begin_2 (98, .aload_n 0, 1) (List.mem_of_getElem? (i := 8) rfl)
theorem d_Mod_begin_99 : decode prog_13_method_17_code 99 = .ok (.iload 4, 2) := id_Mod_begin_2 (99, .iload 4, 2) (List.mem_of_getElem? (i := 9) rfl)
theorem d_Mod_begin_101 : decode prog_13_method_17_code 101 = .ok (.invokevirtual 204, 3) := id_Mod_begin_2 (101, .invokevirtual 204, 3) (List.mem_of_getElem? (i := 10) rfl)
theorem d_Mod_begin_104 : decode prog_13_method_17_code 104 = .ok (.iinc 3 (1), 3) := id_Mod_begin_2 (104, .iinc 3 (1), 3) (List.mem_of_getElem? (i := 11) rfl)
theorem d_Mod_begin_107 : decode prog_13_method_17_code 107 = .ok (.iinc 4 (1), 3) := id_Mod_begin_2 (107, .iinc 4 (1), 3) (List.mem_of_getElem? (i := 12) rfl)
theorem d_Mod_begin_110 : decode prog_13_method_17_code 110 = .ok (.goto (-102), 3) := id_Mod_begin_2 (110, .goto (-102), 3) (List.mem_of_getElem? (i := 13) rfl)
theorem d_Mod_begin_113 : decode prog_13_method_17_code 113 = .ok (.iconst 0, 1) := id_Mod_begin_2 (113, .iconst 0, 1) (List.mem_of_getElem? (i := 14) rfl)
theorem d_Mod_begin_114 : decode prog_13_method_17_code 114 = .ok (.istore 4, 2) := id_Mod_begin_2 (114, .istore 4, 2) (List.mem_of_getElem? (i := 15) rfl)
theorem d_Mod_begin_116 : decode prog_13_method_17_code 116 = .ok (.iload 4, 2) := id_Mod_begin_2 (116, .iload 4, 2) (List.mem_of_getElem? (i := 16) rfl)
theorem d_Mod_begin_118 : decode prog_13_method_17_code 118 = .ok (.bipush (64), 2) := id_Mod_begin_2 (118, .bipush (64), 2) (List.mem_of_getElem? (i := 17) rfl)
theorem d_Mod_begin_120 : decode prog_13_method_17_code 120 = .ok (.if_icmp .ge (22), 3) := id_Mod_begin_2 (120, .if_icmp .ge (22), 3) (List.mem_of_getElem? (i := 18) rfl)
theorem d_Mod_begin_123 : decode prog_13_method_17_code 123 = .ok (.aload_n 0, 1) := id_Mod_begin_2 (123, .aload_n 0, 1) (List.mem_of_getElem? (i := 19) rfl)
theorem d_Mod_begin_124 : decode prog_13_method_17_code 124 = .ok (.getfield 83, 3) := id_Mod_begin_2 (124, .getfield 83, 3) (List.mem_of_getElem? (i := 20) rfl)
theorem d_Mod_begin_127 : decode prog_13_method_17_code 127 = .ok (.bipush (64), 2) := id_Mod_begin_2 (127, .bipush (64), 2) (List.mem_of_getElem? (i := 21) rfl)
theorem d_Mod_begin_129 : decode prog_13_method_17_code 129 = .ok (.iload_n 2, 1) := id_Mod_begin_2 (129, .iload_n 2, 1) (List.mem_of_getElem? (i := 22) rfl)
theorem d_Mod_begin_130 : decode prog_13_method_17_code 130 = .ok (.imul, 1) := id_Mod_begin_2 (130, .imul, 1) (List.mem_of_getElem? (i := 23) rfl)
def it_Mod_begin_3 : List (Nat × ClassFile.Instr × Nat) := [(131, .iload 4, 2), (133, .iadd, 1), (134, .iconst 0, 1), (135, .iastore, 1), (136, .iinc 4 (1), 3), (139, .goto (-23), 3), (142, .return_, 1)]
theorem id_Mod_begin_3 : ∀ q ∈ it_Mod_begin_3, decode prog_13_method_17_code q.1 = .ok q.2 := by decide +kernel
theorem d_Mod_begin_131 : decode prog_13_method_17_code 131 = .ok (.iload 4, 2) := id_Mod_begin_3 (131, .iload 4, 2) (List.mem_of_getElem? (i := 0) rfl)
theorem d_Mod_begin_133 : decode prog_13_method_17_code 133 = .ok (.iadd, 1) := id_Mod_begin_3 (133, .iadd, 1) (List.mem_of_getElem? (i := 1) rfl)
theorem d_Mod_begin_134 : decode prog_13_method_17_code 134 = .ok (.iconst 0, 1) := id_Mod_begin_3 (134, .iconst 0, 1) (List.mem_of_getElem? (i := 2) rfl)
theorem d_Mod_begin_135 : decode prog_13_method_17_code 135 = .ok (.iastore, 1) := id_Mod_begin_3 (135, .iastore, 1) (List.mem_of_getElem? (i := 3) rfl)
theorem d_Mod_begin_136 : decode prog_13_method_17_code 136 = .ok (.iinc 4 (1), 3) := id_Mod_begin_3 (136, .iinc 4 (1), 3) (List.mem_of_getElem? (i := 4) rfl)
theorem d_Mod_begin_139 : decode prog_13_method_17_code 139 = .ok (.goto (-23), 3) := id_Mod_begin_3 (139, .goto (-23), 3) (List.mem_of_getElem? (i := 5) rfl)
theorem d_Mod_begin_142 : decode prog_13_method_17_code 142 = .ok (.return_, 1) := id_Mod_begin_3 (142, .return_, 1) (List.mem_of_getElem? (i := 6) rfl)
theorem wC_Mod_begin : Cond.code ⟨"WarpMillModel", "begin", "(II)V"⟩ prog_13_method_17_code 6 (none) ∈ lw_tb := mem_tb 1318 (by decide +kernel) rfl
theorem cw_Mod_begin_Mod_warps : cW mi_Mod_begin mi_Mod_warps 0 := ⟨wC_Mod_warps, wi_Mod, ⟨by decide, by decide, by decide +kernel⟩, by decide, by decide⟩
theorem cw_Mod_begin_Mod_beginWarp : cW mi_Mod_begin mi_Mod_beginWarp 1 := ⟨wC_Mod_beginWarp, wi_Mod, ⟨by decide, by decide, by decide +kernel⟩, by decide, by decide⟩
def b_Mod_begin_71 (F : Nat) (k8 : Nat → Int32 → Int32 → Int32 → Int32 → Hp → Option Hp) : Nat → Nat → Int32 → Int32 → Int32 → Int32 → Int32 → Hp → Option Hp
  | 0 => fun _ _ _ _ _ _ _ => none
  | n + 1 => fun x0 x1 x2 x3 x4 x5 h => if (20 : Int32) ≤ x5 then (gd (hK h x0 = 12) <| clv (f_Mod_beginWarp F x0 x4 h) fun h_101_2 => k8 x0 x1 x2 (x3 + 1) (x4 + 1) h_101_2) else (gd (hK h x0 = 12) <| rq h (hR h 738 x0) 100 fun a_79_2 => ix (((20 : Int32) * x4) + x5) (hN h a_79_2) fun j_91 => pw (sA h a_79_2 j_91 (0 : Int32)) fun h_91_2 => b_Mod_begin_71 F k8 n x0 x1 x2 x3 x4 (x5 + 1) h_91_2)
set_option maxRecDepth 100000 in
set_option maxHeartbeats 4000000 in
theorem e_Mod_begin_71 {G : Gl} (hw : gF G) {h0 : Hp} {F : Nat} {h' : Hp} {k8 : Nat → Int32 → Int32 → Int32 → Int32 → Hp → Option Hp} (hk8 : ∀ (y0 : Nat) (y1 : Int32) (y2 : Int32) (y3 : Int32) (y4 : Int32) (hh : Hp), k8 y0 y1 y2 y3 y4 hh = some h' → Go G mi_Mod_begin h0 (pV h') hh 8 [(0, .ref y0), (1, .int y1), (2, .int y2), (3, .int y3), (4, .int y4)] []) : ∀ (n : Nat) (x0 : Nat) (x1 : Int32) (x2 : Int32) (x3 : Int32) (x4 : Int32) (x5 : Int32) (h : Hp), b_Mod_begin_71 F k8 n x0 x1 x2 x3 x4 x5 h = some h' → Go G mi_Mod_begin h0 (pV h') h 71 [(0, .ref x0), (1, .int x1), (2, .int x2), (3, .int x3), (4, .int x4), (5, .int x5)] [] := by
  intro n
  induction n with
  | zero =>
    intro _ _ _ _ _ _ _ hf
    exact nm_s hf
  | succ n ih =>
    intro x0 x1 x2 x3 x4 x5 h hf
    unfold b_Mod_begin_71 at hf
    refine g_iload d_Mod_begin_71 rfl ?_
    refine g_bipush (20) d_Mod_begin_73 (by decide) ?_
    refine g_icmp_ge 98 d_Mod_begin_75 (by decide) (fun c_75 => ?_) (fun c_75 => ?_)
    · have hf := ifp hf c_75
      refine g_aload_n d_Mod_begin_98 rfl ?_
      refine g_iload d_Mod_begin_99 rfl ?_
      obtain ⟨k_101, hf⟩ := gd_s hf
      obtain ⟨h_101_2, e_101_2, hf⟩ := clv_s hf
      refine g_callV (mz := mi_Mod_beginWarp) (e_Mod_beginWarp hw e_101_2) cw_Mod_begin_Mod_beginWarp lm_Mod_204 wI_Mod_beginWarp wV_Mod_beginWarp (ci := 11) k_101 (by decide) rfl rfl d_Mod_begin_101 rfl rfl (by first | exact Nat.le_of_ble_eq_true rfl | simp [cat_rf, Value.category]) (fun r1 h1 hp hro => ?_)
      obtain ⟨rfl, rfl⟩ := hp
      dsimp only [Option.toList_some, Option.toList_none, List.cons_append, List.nil_append]
      refine g_iinc (_ + 1) d_Mod_begin_104 rfl (by rfl) (by decide) ?_
      show Go _ _ _ _ _ _ [(0, _), (1, _), (2, _), (3, _), (4, _), (5, _)] _
      refine g_iinc (_ + 1) d_Mod_begin_107 rfl (by rfl) (by decide) ?_
      show Go _ _ _ _ _ _ [(0, _), (1, _), (2, _), (3, _), (4, _), (5, _)] _
      refine g_goto 8 d_Mod_begin_110 (by decide) ?_
      refine Go.locals [0, 1, 2, 3, 4] rfl ?_
      exact hk8 _ _ _ _ _ _ hf
    · have hf := ifn hf c_75
      refine g_aload_n d_Mod_begin_78 rfl ?_
      obtain ⟨k_79, hf⟩ := gd_s hf
      obtain ⟨a_79_2, e_79_2, k_79_2, hf⟩ := rq_s hf
      refine fgs_Mod_ticks lf_Mod_63 d_Mod_begin_79 k_79 e_79_2 ?_
      refine g_bipush (20) d_Mod_begin_82 (by decide) ?_
      refine g_iload d_Mod_begin_84 rfl ?_
      refine g_imul d_Mod_begin_86 ?_
      refine g_iload d_Mod_begin_87 rfl ?_
      refine g_iadd d_Mod_begin_89 ?_
      refine g_iconst 0 d_Mod_begin_90 (by decide) ?_
      obtain ⟨i_91, hf⟩ := ix_s hf
      refine g_iast hw k_79_2 i_91 d_Mod_begin_91 ?_
      have hf := pw_b hf
      refine g_iinc (_ + 1) d_Mod_begin_92 rfl (by rfl) (by decide) ?_
      show Go _ _ _ _ _ _ [(0, _), (1, _), (2, _), (3, _), (4, _), (5, _)] _
      refine g_goto 71 d_Mod_begin_95 (by decide) ?_
      exact ih _ _ _ _ _ _ _ hf
def b_Mod_begin_116 (F : Nat) : Nat → Nat → Int32 → Int32 → Hp → Option Hp
  | 0 => fun _ _ _ _ => none
  | n + 1 => fun x0 x2 x4 h => if (64 : Int32) ≤ x4 then (some h) else (gd (hK h x0 = 12) <| rq h (hR h 744 x0) 100 fun a_124_2 => ix (((64 : Int32) * x2) + x4) (hN h a_124_2) fun j_135 => pw (sA h a_124_2 j_135 (0 : Int32)) fun h_135_2 => b_Mod_begin_116 F n x0 x2 (x4 + 1) h_135_2)
set_option maxRecDepth 100000 in
set_option maxHeartbeats 4000000 in
theorem e_Mod_begin_116 {G : Gl} (hw : gF G) {h0 : Hp} {F : Nat} {h' : Hp}   : ∀ (n : Nat) (x0 : Nat) (x2 : Int32) (x4 : Int32) (h : Hp), b_Mod_begin_116 F n x0 x2 x4 h = some h' → Go G mi_Mod_begin h0 (pV h') h 116 [(0, .ref x0), (2, .int x2), (4, .int x4)] [] := by
  intro n
  induction n with
  | zero =>
    intro _ _ _ _ hf
    exact nm_s hf
  | succ n ih =>
    intro x0 x2 x4 h hf
    unfold b_Mod_begin_116 at hf
    refine g_iload d_Mod_begin_116 rfl ?_
    refine g_bipush (64) d_Mod_begin_118 (by decide) ?_
    refine g_icmp_ge 142 d_Mod_begin_120 (by decide) (fun c_120 => ?_) (fun c_120 => ?_)
    · have hf := ifp hf c_120
      exact Go.ret none trivial rfl d_Mod_begin_142 (pV_of hf)
    · have hf := ifn hf c_120
      refine g_aload_n d_Mod_begin_123 rfl ?_
      obtain ⟨k_124, hf⟩ := gd_s hf
      obtain ⟨a_124_2, e_124_2, k_124_2, hf⟩ := rq_s hf
      refine fgs_Mod_shared lf_Mod_83 d_Mod_begin_124 k_124 e_124_2 ?_
      refine g_bipush (64) d_Mod_begin_127 (by decide) ?_
      refine g_iload_n d_Mod_begin_129 rfl ?_
      refine g_imul d_Mod_begin_130 ?_
      refine g_iload d_Mod_begin_131 rfl ?_
      refine g_iadd d_Mod_begin_133 ?_
      refine g_iconst 0 d_Mod_begin_134 (by decide) ?_
      obtain ⟨i_135, hf⟩ := ix_s hf
      refine g_iast hw k_124_2 i_135 d_Mod_begin_135 ?_
      have hf := pw_b hf
      refine g_iinc (_ + 1) d_Mod_begin_136 rfl (by rfl) (by decide) ?_
      show Go _ _ _ _ _ _ [(0, _), (2, _), (4, _)] _
      refine g_goto 116 d_Mod_begin_139 (by decide) ?_
      exact ih _ _ _ _ hf
def b_Mod_begin_113 (F : Nat) (x0 : Nat) (x2 : Int32) (h : Hp) : Option Hp := b_Mod_begin_116 F F x0 x2 (0 : Int32) h
set_option maxRecDepth 100000 in
set_option maxHeartbeats 4000000 in
theorem e_Mod_begin_113 {G : Gl} (hw : gF G) {h0 : Hp} {F : Nat} {h' : Hp}   {x0 : Nat} {x2 : Int32} {h : Hp} (hf : b_Mod_begin_113 F x0 x2 h = some h') : Go G mi_Mod_begin h0 (pV h') h 113 [(0, .ref x0), (2, .int x2)] [] := by
  unfold b_Mod_begin_113 at hf
  refine g_iconst 0 d_Mod_begin_113 (by decide) ?_
  refine g_istore d_Mod_begin_114 (by decide) ?_
  show Go _ _ _ _ _ _ [(0, _), (2, _), (4, _)] _
  have key := e_Mod_begin_116 hw (G := G) (h0 := h0)  F _ _ _ _ hf
  exact key
def b_Mod_begin_8 (F : Nat) : Nat → Nat → Int32 → Int32 → Int32 → Int32 → Hp → Option Hp
  | 0 => fun _ _ _ _ _ _ => none
  | n + 1 => fun x0 x1 x2 x3 x4 h => gd (hK h x0 = 12) <| if (((16 : Int32) * x1) + (hI h 706 x0)) ≤ x4 then (b_Mod_begin_113 F x0 x2 h) else (cl (f_Mod_warps F x0 h) fun v_24 h_24 => if v_24 ≤ x3 then (b_Mod_begin_113 F x0 x2 h_24) else (gd (hK h_24 x0 = 12) <| rq h_24 (hR h_24 735 x0) 100 fun a_31_2 => ix x4 (hN h_24 a_31_2) fun j_36 => if (hA h_24 a_31_2 j_36) = (-1 : Int32) then (ix x4 (hN h_24 a_31_2) fun j_51 => pw (sA h_24 a_31_2 j_51 x2) fun h_51_2 => rq h_51_2 (hR h_51_2 736 x0) 100 fun a_53 => ix x4 (hN h_51_2 a_53) fun j_59 => pw (sA h_51_2 a_53 j_59 x3) fun h_59_2 => rq h_59_2 (hR h_59_2 737 x0) 100 fun a_61 => ix x4 (hN h_59_2 a_61) fun j_67 => pw (sA h_59_2 a_61 j_67 (0 : Int32)) fun h_67_2 => b_Mod_begin_71 F (b_Mod_begin_8 F n) F x0 x1 x2 x3 x4 (0 : Int32) h_67_2) else (b_Mod_begin_8 F n x0 x1 x2 x3 (x4 + 1) h_24)))
set_option maxRecDepth 100000 in
set_option maxHeartbeats 4000000 in
theorem e_Mod_begin_8 {G : Gl} (hw : gF G) {h0 : Hp} {F : Nat} {h' : Hp}   : ∀ (n : Nat) (x0 : Nat) (x1 : Int32) (x2 : Int32) (x3 : Int32) (x4 : Int32) (h : Hp), b_Mod_begin_8 F n x0 x1 x2 x3 x4 h = some h' → Go G mi_Mod_begin h0 (pV h') h 8 [(0, .ref x0), (1, .int x1), (2, .int x2), (3, .int x3), (4, .int x4)] [] := by
  intro n
  induction n with
  | zero =>
    intro _ _ _ _ _ _ hf
    exact nm_s hf
  | succ n ih =>
    intro x0 x1 x2 x3 x4 h hf
    unfold b_Mod_begin_8 at hf
    refine g_iload d_Mod_begin_8 rfl ?_
    refine g_bipush (16) d_Mod_begin_10 (by decide) ?_
    refine g_iload_n d_Mod_begin_12 rfl ?_
    refine g_imul d_Mod_begin_13 ?_
    refine g_aload_n d_Mod_begin_14 rfl ?_
    obtain ⟨k_15, hf⟩ := gd_s hf
    refine fg_Mod_slots lf_Mod_13 d_Mod_begin_15 k_15 ?_
    refine g_iadd d_Mod_begin_18 ?_
    refine g_icmp_ge 113 d_Mod_begin_19 (by decide) (fun c_19 => ?_) (fun c_19 => ?_)
    · have hf := ifp hf c_19
      refine Go.locals [0, 2] rfl ?_
      have key := e_Mod_begin_113 hw (G := G) (h0 := h0)  hf
      exact key
    · have hf := ifn hf c_19
      refine g_iload_n d_Mod_begin_22 rfl ?_
      refine g_aload_n d_Mod_begin_23 rfl ?_
      obtain ⟨v_24, h_24, e_24, hf⟩ := cl_s hf
      refine g_callV (mz := mi_Mod_warps) (e_Mod_warps e_24) cw_Mod_begin_Mod_warps lm_Mod_196 wI_Mod_warps wV_Mod_warps (ci := 11) k_15 (by decide) rfl rfl d_Mod_begin_24 rfl rfl (by first | exact Nat.le_of_ble_eq_true rfl | simp [cat_rf, Value.category]) (fun r1 h1 hp hro => ?_)
      obtain ⟨rfl, rfl⟩ := hp
      dsimp only [Option.toList_some, Option.toList_none, List.cons_append, List.nil_append]
      refine g_icmp_ge 113 d_Mod_begin_27 (by decide) (fun c_27 => ?_) (fun c_27 => ?_)
      · have hf := ifp hf c_27
        refine Go.locals [0, 2] rfl ?_
        have key := e_Mod_begin_113 hw (G := G) (h0 := h0)  hf
        exact key
      · have hf := ifn hf c_27
        refine g_aload_n d_Mod_begin_30 rfl ?_
        obtain ⟨k_31, hf⟩ := gd_s hf
        obtain ⟨a_31_2, e_31_2, k_31_2, hf⟩ := rq_s hf
        refine fgs_Mod_slotBlock lf_Mod_54 d_Mod_begin_31 k_31 e_31_2 ?_
        refine g_iload d_Mod_begin_34 rfl ?_
        obtain ⟨i_36, hf⟩ := ix_s hf
        refine g_iald k_31_2 i_36 d_Mod_begin_36 ?_
        refine g_iconst (-1) d_Mod_begin_37 (by decide) ?_
        refine g_icmp_eq 44 d_Mod_begin_38 (by decide) (fun c_38 => ?_) (fun c_38 => ?_)
        · have hf := ifp hf c_38
          refine g_aload_n d_Mod_begin_44 rfl ?_
          refine fgs_Mod_slotBlock lf_Mod_54 d_Mod_begin_45 k_31 e_31_2 ?_
          refine g_iload d_Mod_begin_48 rfl ?_
          refine g_iload_n d_Mod_begin_50 rfl ?_
          obtain ⟨i_51, hf⟩ := ix_s hf
          refine g_iast hw k_31_2 i_51 d_Mod_begin_51 ?_
          have hf := pw_b hf
          refine g_aload_n d_Mod_begin_52 rfl ?_
          obtain ⟨a_53, e_53, k_53, hf⟩ := rq_s hf
          refine fgs_Mod_slotWarp lf_Mod_57 d_Mod_begin_53 (kksA k_31) e_53 ?_
          refine g_iload d_Mod_begin_56 rfl ?_
          refine g_iload_n d_Mod_begin_58 rfl ?_
          obtain ⟨i_59, hf⟩ := ix_s hf
          refine g_iast hw k_53 i_59 d_Mod_begin_59 ?_
          have hf := pw_b hf
          refine g_aload_n d_Mod_begin_60 rfl ?_
          obtain ⟨a_61, e_61, k_61, hf⟩ := rq_s hf
          refine fgs_Mod_memoryTick lf_Mod_60 d_Mod_begin_61 (kksA (kksA k_31)) e_61 ?_
          refine g_iload d_Mod_begin_64 rfl ?_
          refine g_iconst 0 d_Mod_begin_66 (by decide) ?_
          obtain ⟨i_67, hf⟩ := ix_s hf
          refine g_iast hw k_61 i_67 d_Mod_begin_67 ?_
          have hf := pw_b hf
          refine g_iconst 0 d_Mod_begin_68 (by decide) ?_
          refine g_istore d_Mod_begin_69 (by decide) ?_
          show Go _ _ _ _ _ _ [(0, _), (1, _), (2, _), (3, _), (4, _), (5, _)] _
          have key := e_Mod_begin_71 hw (G := G) (h0 := h0) (fun _ _ _ _ _ _ q => ih _ _ _ _ _ _ q) F _ _ _ _ _ _ _ hf
          exact key
        · have hf := ifn hf c_38
          refine g_goto 107 d_Mod_begin_41 (by decide) ?_
          refine g_iinc (_ + 1) d_Mod_begin_107 rfl (by rfl) (by decide) ?_
          show Go _ _ _ _ _ _ [(0, _), (1, _), (2, _), (3, _), (4, _)] _
          refine g_goto 8 d_Mod_begin_110 (by decide) ?_
          exact ih _ _ _ _ _ _ hf
def f_Mod_begin (F : Nat) (x0 : Nat) (x1 : Int32) (x2 : Int32) (h : Hp) : Option Hp := b_Mod_begin_8 F F x0 x1 x2 (0 : Int32) ((16 : Int32) * x1) h
set_option maxRecDepth 100000 in
set_option maxHeartbeats 4000000 in
theorem e_Mod_begin {G : Gl} (hw : gF G) {F : Nat} {h' : Hp} {x0 : Nat} {x1 : Int32} {x2 : Int32} {h : Hp} (hf : f_Mod_begin F x0 x1 x2 h = some h') : Ex G mi_Mod_begin [.ref x0, .int x1, .int x2] h (pV h') := by
  unfold f_Mod_begin at hf
  refine Ex.of nmV (by decide) (Nat.le_of_ble_eq_true rfl) ?_
  show Go G mi_Mod_begin h _ h 0 [(0, .ref x0), (1, .int x1), (2, .int x2)] []
  refine g_iconst 0 d_Mod_begin_0 (by decide) ?_
  refine g_istore_n d_Mod_begin_1 (by decide) ?_
  show Go _ _ _ _ _ _ [(0, _), (1, _), (2, _), (3, _)] _
  refine g_bipush (16) d_Mod_begin_2 (by decide) ?_
  refine g_iload_n d_Mod_begin_4 rfl ?_
  refine g_imul d_Mod_begin_5 ?_
  refine g_istore d_Mod_begin_6 (by decide) ?_
  show Go _ _ _ _ _ _ [(0, _), (1, _), (2, _), (3, _), (4, _)] _
  have key := e_Mod_begin_8 hw (G := G) (h0 := h)  F _ _ _ _ _ _ hf
  exact key
abbrev mi_Mod_dispatch : MI := (⟨"WarpMillModel", "dispatch", "()V"⟩, prog_13_method_16_code, 3, none, 2, 48)
def it_Mod_dispatch_0 : List (Nat × ClassFile.Instr × Nat) := [(0, .aload_n 0, 1), (1, .getfield 156, 3), (4, .aload_n 0, 1), (5, .getfield 150, 3), (8, .if_icmp .ge (7), 3), (11, .iconst 1, 1), (12, .goto (4), 3), (15, .iconst 0, 1), (16, .istore_n 1, 1), (17, .iload_n 1, 1), (18, .ifCond .eq (91), 3), (21, .iconst 0, 1), (22, .istore_n 2, 1), (23, .iload_n 2, 1), (24, .aload_n 0, 1), (25, .getfield 16, 3), (28, .if_icmp .ge (21), 3), (31, .aload_n 0, 1), (32, .iload_n 2, 1), (33, .invokevirtual 192, 3), (36, .aload_n 0, 1), (37, .invokevirtual 196, 3), (40, .if_icmp .ge (9), 3), (43, .iinc 2 (1), 3)]
theorem id_Mod_dispatch_0 : ∀ q ∈ it_Mod_dispatch_0, decode prog_13_method_16_code q.1 = .ok q.2 := by decide +kernel
theorem d_Mod_dispatch_0 : decode prog_13_method_16_code 0 = .ok (.aload_n 0, 1) := id_Mod_dispatch_0 (0, .aload_n 0, 1) (List.mem_of_getElem? (i := 0) rfl)
theorem d_Mod_dispatch_1 : decode prog_13_method_16_code 1 = .ok (.getfield 156, 3) := id_Mod_dispatch_0 (1, .getfield 156, 3) (List.mem_of_getElem? (i := 1) rfl)
theorem d_Mod_dispatch_4 : decode prog_13_method_16_code 4 = .ok (.aload_n 0, 1) := id_Mod_dispatch_0 (4, .aload_n 0, 1) (List.mem_of_getElem? (i := 2) rfl)
theorem d_Mod_dispatch_5 : decode prog_13_method_16_code 5 = .ok (.getfield 150, 3) := id_Mod_dispatch_0 (5, .getfield 150, 3) (List.mem_of_getElem? (i := 3) rfl)
theorem d_Mod_dispatch_8 : decode prog_13_method_16_code 8 = .ok (.if_icmp .ge (7), 3) := id_Mod_dispatch_0 (8, .if_icmp .ge (7), 3) (List.mem_of_getElem? (i := 4) rfl)
theorem d_Mod_dispatch_11 : decode prog_13_method_16_code 11 = .ok (.iconst 1, 1) := id_Mod_dispatch_0 (11, .iconst 1, 1) (List.mem_of_getElem? (i := 5) rfl)
theorem d_Mod_dispatch_12 : decode prog_13_method_16_code 12 = .ok (.goto (4), 3) := id_Mod_dispatch_0 (12, .goto (4), 3) (List.mem_of_getElem? (i := 6) rfl)
theorem d_Mod_dispatch_15 : decode prog_13_method_16_code 15 = .ok (.iconst 0, 1) := id_Mod_dispatch_0 (15, .iconst 0, 1) (List.mem_of_getElem? (i := 7) rfl)
theorem d_Mod_dispatch_16 : decode prog_13_method_16_code 16 = .ok (.istore_n 1, 1) := id_Mod_dispatch_0 (16, .istore_n 1, 1) (List.mem_of_getElem? (i := 8) rfl)
theorem d_Mod_dispatch_17 : decode prog_13_method_16_code 17 = .ok (.iload_n 1, 1) := id_Mod_dispatch_0 (17, .iload_n 1, 1) (List.mem_of_getElem? (i := 9) rfl)
theorem d_Mod_dispatch_18 : decode prog_13_method_16_code 18 = .ok (.ifCond .eq (91), 3) := id_Mod_dispatch_0 (18, .ifCond .eq (91), 3) (List.mem_of_getElem? (i := 10) rfl)
theorem d_Mod_dispatch_21 : decode prog_13_method_16_code 21 = .ok (.iconst 0, 1) := id_Mod_dispatch_0 (21, .iconst 0, 1) (List.mem_of_getElem? (i := 11) rfl)
theorem d_Mod_dispatch_22 : decode prog_13_method_16_code 22 = .ok (.istore_n 2, 1) := id_Mod_dispatch_0 (22, .istore_n 2, 1) (List.mem_of_getElem? (i := 12) rfl)
theorem d_Mod_dispatch_23 : decode prog_13_method_16_code 23 = .ok (.iload_n 2, 1) := id_Mod_dispatch_0 (23, .iload_n 2, 1) (List.mem_of_getElem? (i := 13) rfl)
theorem d_Mod_dispatch_24 : decode prog_13_method_16_code 24 = .ok (.aload_n 0, 1) := id_Mod_dispatch_0 (24, .aload_n 0, 1) (List.mem_of_getElem? (i := 14) rfl)
theorem d_Mod_dispatch_25 : decode prog_13_method_16_code 25 = .ok (.getfield 16, 3) := id_Mod_dispatch_0 (25, .getfield 16, 3) (List.mem_of_getElem? (i := 15) rfl)
theorem d_Mod_dispatch_28 : decode prog_13_method_16_code 28 = .ok (.if_icmp .ge (21), 3) := id_Mod_dispatch_0 (28, .if_icmp .ge (21), 3) (List.mem_of_getElem? (i := 16) rfl)
theorem d_Mod_dispatch_31 : decode prog_13_method_16_code 31 = .ok (.aload_n 0, 1) := id_Mod_dispatch_0 (31, .aload_n 0, 1) (List.mem_of_getElem? (i := 17) rfl)
theorem d_Mod_dispatch_32 : decode prog_13_method_16_code 32 = .ok (.iload_n 2, 1) := id_Mod_dispatch_0 (32, .iload_n 2, 1) (List.mem_of_getElem? (i := 18) rfl)
theorem d_Mod_dispatch_33 : decode prog_13_method_16_code 33 = .ok (.invokevirtual 192, 3) := id_Mod_dispatch_0 (33, .invokevirtual 192, 3) (List.mem_of_getElem? (i := 19) rfl)
theorem d_Mod_dispatch_36 : decode prog_13_method_16_code 36 = .ok (.aload_n 0, 1) := id_Mod_dispatch_0 (36, .aload_n 0, 1) (List.mem_of_getElem? (i := 20) rfl)
theorem d_Mod_dispatch_37 : decode prog_13_method_16_code 37 = .ok (.invokevirtual 196, 3) := id_Mod_dispatch_0 (37, .invokevirtual 196, 3) (List.mem_of_getElem? (i := 21) rfl)
theorem d_Mod_dispatch_40 : decode prog_13_method_16_code 40 = .ok (.if_icmp .ge (9), 3) := id_Mod_dispatch_0 (40, .if_icmp .ge (9), 3) (List.mem_of_getElem? (i := 22) rfl)
theorem d_Mod_dispatch_43 : decode prog_13_method_16_code 43 = .ok (.iinc 2 (1), 3) := id_Mod_dispatch_0 (43, .iinc 2 (1), 3) (List.mem_of_getElem? (i := 23) rfl)
def it_Mod_dispatch_1 : List (Nat × ClassFile.Instr × Nat) := [(46, .goto (-23), 3), (49, .iload_n 2, 1), (50, .aload_n 0, 1), (51, .getfield 16, 3), (54, .if_icmp .ge (7), 3), (57, .iconst 1, 1), (58, .goto (4), 3), (61, .iconst 0, 1), (62, .istore_n 1, 1), (63, .iload_n 1, 1), (64, .ifCond .ne (6), 3), (67, .goto (-50), 3), (70, .aload_n 0, 1), (71, .iload_n 2, 1), (72, .aload_n 0, 1), (73, .getfield 156, 3), (76, .invokevirtual 200, 3), (79, .aload_n 0, 1), (80, .dup, 1), (81, .getfield 156, 3), (84, .iconst 1, 1), (85, .iadd, 1), (86, .putfield 156, 3), (89, .aload_n 0, 1)]
theorem id_Mod_dispatch_1 : ∀ q ∈ it_Mod_dispatch_1, decode prog_13_method_16_code q.1 = .ok q.2 := by decide +kernel
theorem d_Mod_dispatch_46 : decode prog_13_method_16_code 46 = .ok (.goto (-23), 3) := id_Mod_dispatch_1 (46, .goto (-23), 3) (List.mem_of_getElem? (i := 0) rfl)
theorem d_Mod_dispatch_49 : decode prog_13_method_16_code 49 = .ok (.iload_n 2, 1) := id_Mod_dispatch_1 (49, .iload_n 2, 1) (List.mem_of_getElem? (i := 1) rfl)
theorem d_Mod_dispatch_50 : decode prog_13_method_16_code 50 = .ok (.aload_n 0, 1) := id_Mod_dispatch_1 (50, .aload_n 0, 1) (List.mem_of_getElem? (i := 2) rfl)
theorem d_Mod_dispatch_51 : decode prog_13_method_16_code 51 = .ok (.getfield 16, 3) := id_Mod_dispatch_1 (51, .getfield 16, 3) (List.mem_of_getElem? (i := 3) rfl)
theorem d_Mod_dispatch_54 : decode prog_13_method_16_code 54 = .ok (.if_icmp .ge (7), 3) := id_Mod_dispatch_1 (54, .if_icmp .ge (7), 3) (List.mem_of_getElem? (i := 4) rfl)
theorem d_Mod_dispatch_57 : decode prog_13_method_16_code 57 = .ok (.iconst 1, 1) := id_Mod_dispatch_1 (57, .iconst 1, 1) (List.mem_of_getElem? (i := 5) rfl)
theorem d_Mod_dispatch_58 : decode prog_13_method_16_code 58 = .ok (.goto (4), 3) := id_Mod_dispatch_1 (58, .goto (4), 3) (List.mem_of_getElem? (i := 6) rfl)
theorem d_Mod_dispatch_61 : decode prog_13_method_16_code 61 = .ok (.iconst 0, 1) := id_Mod_dispatch_1 (61, .iconst 0, 1) (List.mem_of_getElem? (i := 7) rfl)
theorem d_Mod_dispatch_62 : decode prog_13_method_16_code 62 = .ok (.istore_n 1, 1) := id_Mod_dispatch_1 (62, .istore_n 1, 1) (List.mem_of_getElem? (i := 8) rfl)
theorem d_Mod_dispatch_63 : decode prog_13_method_16_code 63 = .ok (.iload_n 1, 1) := id_Mod_dispatch_1 (63, .iload_n 1, 1) (List.mem_of_getElem? (i := 9) rfl)
theorem d_Mod_dispatch_64 : decode prog_13_method_16_code 64 = .ok (.ifCond .ne (6), 3) := id_Mod_dispatch_1 (64, .ifCond .ne (6), 3) (List.mem_of_getElem? (i := 10) rfl)
theorem d_Mod_dispatch_67 : decode prog_13_method_16_code 67 = .ok (.goto (-50), 3) := id_Mod_dispatch_1 (67, .goto (-50), 3) (List.mem_of_getElem? (i := 11) rfl)
theorem d_Mod_dispatch_70 : decode prog_13_method_16_code 70 = .ok (.aload_n 0, 1) := id_Mod_dispatch_1 (70, .aload_n 0, 1) (List.mem_of_getElem? (i := 12) rfl)
theorem d_Mod_dispatch_71 : decode prog_13_method_16_code 71 = .ok (.iload_n 2, 1) := id_Mod_dispatch_1 (71, .iload_n 2, 1) (List.mem_of_getElem? (i := 13) rfl)
theorem d_Mod_dispatch_72 : decode prog_13_method_16_code 72 = .ok (.aload_n 0, 1) := id_Mod_dispatch_1 (72, .aload_n 0, 1) (List.mem_of_getElem? (i := 14) rfl)
theorem d_Mod_dispatch_73 : decode prog_13_method_16_code 73 = .ok (.getfield 156, 3) := id_Mod_dispatch_1 (73, .getfield 156, 3) (List.mem_of_getElem? (i := 15) rfl)
theorem d_Mod_dispatch_76 : decode prog_13_method_16_code 76 = .ok (.invokevirtual 200, 3) := id_Mod_dispatch_1 (76, .invokevirtual 200, 3) (List.mem_of_getElem? (i := 16) rfl)
theorem d_Mod_dispatch_79 : decode prog_13_method_16_code 79 = .ok (.aload_n 0, 1) := id_Mod_dispatch_1 (79, .aload_n 0, 1) (List.mem_of_getElem? (i := 17) rfl)
theorem d_Mod_dispatch_80 : decode prog_13_method_16_code 80 = .ok (.dup, 1) := id_Mod_dispatch_1 (80, .dup, 1) (List.mem_of_getElem? (i := 18) rfl)
theorem d_Mod_dispatch_81 : decode prog_13_method_16_code 81 = .ok (.getfield 156, 3) := id_Mod_dispatch_1 (81, .getfield 156, 3) (List.mem_of_getElem? (i := 19) rfl)
theorem d_Mod_dispatch_84 : decode prog_13_method_16_code 84 = .ok (.iconst 1, 1) := id_Mod_dispatch_1 (84, .iconst 1, 1) (List.mem_of_getElem? (i := 20) rfl)
theorem d_Mod_dispatch_85 : decode prog_13_method_16_code 85 = .ok (.iadd, 1) := id_Mod_dispatch_1 (85, .iadd, 1) (List.mem_of_getElem? (i := 21) rfl)
theorem d_Mod_dispatch_86 : decode prog_13_method_16_code 86 = .ok (.putfield 156, 3) := id_Mod_dispatch_1 (86, .putfield 156, 3) (List.mem_of_getElem? (i := 22) rfl)
theorem d_Mod_dispatch_89 : decode prog_13_method_16_code 89 = .ok (.aload_n 0, 1) := id_Mod_dispatch_1 (89, .aload_n 0, 1) (List.mem_of_getElem? (i := 23) rfl)
def it_Mod_dispatch_2 : List (Nat × ClassFile.Instr × Nat) := [(90, .getfield 156, 3), (93, .aload_n 0, 1), (94, .getfield 150, 3), (97, .if_icmp .ge (7), 3), (100, .iconst 1, 1), (101, .goto (4), 3), (104, .iconst 0, 1), (105, .istore_n 1, 1), (106, .goto (-89), 3), (109, .return_, 1)]
theorem id_Mod_dispatch_2 : ∀ q ∈ it_Mod_dispatch_2, decode prog_13_method_16_code q.1 = .ok q.2 := by decide +kernel
theorem d_Mod_dispatch_90 : decode prog_13_method_16_code 90 = .ok (.getfield 156, 3) := id_Mod_dispatch_2 (90, .getfield 156, 3) (List.mem_of_getElem? (i := 0) rfl)
theorem d_Mod_dispatch_93 : decode prog_13_method_16_code 93 = .ok (.aload_n 0, 1) := id_Mod_dispatch_2 (93, .aload_n 0, 1) (List.mem_of_getElem? (i := 1) rfl)
theorem d_Mod_dispatch_94 : decode prog_13_method_16_code 94 = .ok (.getfield 150, 3) := id_Mod_dispatch_2 (94, .getfield 150, 3) (List.mem_of_getElem? (i := 2) rfl)
theorem d_Mod_dispatch_97 : decode prog_13_method_16_code 97 = .ok (.if_icmp .ge (7), 3) := id_Mod_dispatch_2 (97, .if_icmp .ge (7), 3) (List.mem_of_getElem? (i := 3) rfl)
theorem d_Mod_dispatch_100 : decode prog_13_method_16_code 100 = .ok (.iconst 1, 1) := id_Mod_dispatch_2 (100, .iconst 1, 1) (List.mem_of_getElem? (i := 4) rfl)
theorem d_Mod_dispatch_101 : decode prog_13_method_16_code 101 = .ok (.goto (4), 3) := id_Mod_dispatch_2 (101, .goto (4), 3) (List.mem_of_getElem? (i := 5) rfl)
theorem d_Mod_dispatch_104 : decode prog_13_method_16_code 104 = .ok (.iconst 0, 1) := id_Mod_dispatch_2 (104, .iconst 0, 1) (List.mem_of_getElem? (i := 6) rfl)
theorem d_Mod_dispatch_105 : decode prog_13_method_16_code 105 = .ok (.istore_n 1, 1) := id_Mod_dispatch_2 (105, .istore_n 1, 1) (List.mem_of_getElem? (i := 7) rfl)
theorem d_Mod_dispatch_106 : decode prog_13_method_16_code 106 = .ok (.goto (-89), 3) := id_Mod_dispatch_2 (106, .goto (-89), 3) (List.mem_of_getElem? (i := 8) rfl)
theorem d_Mod_dispatch_109 : decode prog_13_method_16_code 109 = .ok (.return_, 1) := id_Mod_dispatch_2 (109, .return_, 1) (List.mem_of_getElem? (i := 9) rfl)
theorem wC_Mod_dispatch : Cond.code ⟨"WarpMillModel", "dispatch", "()V"⟩ prog_13_method_16_code 3 (none) ∈ lw_tb := mem_tb 1306 (by decide +kernel) rfl
theorem cw_Mod_dispatch_Mod_freeSlots : cW mi_Mod_dispatch mi_Mod_freeSlots 1 := ⟨wC_Mod_freeSlots, wi_Mod, ⟨by decide, by decide, by decide +kernel⟩, by decide, by decide⟩
theorem cw_Mod_dispatch_Mod_warps : cW mi_Mod_dispatch mi_Mod_warps 0 := ⟨wC_Mod_warps, wi_Mod, ⟨by decide, by decide, by decide +kernel⟩, by decide, by decide⟩
theorem cw_Mod_dispatch_Mod_begin : cW mi_Mod_dispatch mi_Mod_begin 2 := ⟨wC_Mod_begin, wi_Mod, ⟨by decide, by decide, by decide +kernel⟩, by decide, by decide⟩
def b_Mod_dispatch_62 (F : Nat) (k17 : Nat → Int32 → Hp → Option Hp) (x0 : Nat) (x2 : Int32) (s0 : Int32) (h : Hp) : Option Hp := if s0 = 0 then (k17 x0 s0 h) else (gd (hK h x0 = 12) <| clv (f_Mod_begin F x0 x2 (hI h 718 x0) h) fun h_76 => gd (hK h_76 x0 = 12) <| pw (sI h_76 718 x0 ((hI h_76 718 x0) + (1 : Int32))) fun h_86 => if (hI h_86 716 x0) ≤ (hI h_86 718 x0) then (k17 x0 (0 : Int32) h_86) else (k17 x0 (1 : Int32) h_86))
set_option maxRecDepth 100000 in
set_option maxHeartbeats 4000000 in
theorem e_Mod_dispatch_62 {G : Gl} (hw : gF G) {h0 : Hp} {F : Nat} {h' : Hp} {k17 : Nat → Int32 → Hp → Option Hp} (hk17 : ∀ (y0 : Nat) (y1 : Int32) (hh : Hp), k17 y0 y1 hh = some h' → Go G mi_Mod_dispatch h0 (pV h') hh 17 [(0, .ref y0), (1, .int y1)] []) {x0 : Nat} {x2 : Int32} {s0 : Int32} {h : Hp} (hf : b_Mod_dispatch_62 F k17 x0 x2 s0 h = some h') : Go G mi_Mod_dispatch h0 (pV h') h 62 [(0, .ref x0), (2, .int x2)] [.int s0] := by
  unfold b_Mod_dispatch_62 at hf
  refine g_istore_n d_Mod_dispatch_62 (by decide) ?_
  show Go _ _ _ _ _ _ [(0, _), (1, _), (2, _)] _
  refine g_iload_n d_Mod_dispatch_63 rfl ?_
  refine g_if_ne 70 d_Mod_dispatch_64 (by decide) (fun c_64 => ?_) (fun c_64 => ?_)
  · have hf := ifn hf c_64
    refine g_aload_n d_Mod_dispatch_70 rfl ?_
    refine g_iload_n d_Mod_dispatch_71 rfl ?_
    refine g_aload_n d_Mod_dispatch_72 rfl ?_
    obtain ⟨k_73, hf⟩ := gd_s hf
    refine fg_Mod_next lf_Mod_156 d_Mod_dispatch_73 k_73 ?_
    obtain ⟨h_76, e_76, hf⟩ := clv_s hf
    refine g_callV (mz := mi_Mod_begin) (e_Mod_begin hw e_76) cw_Mod_dispatch_Mod_begin lm_Mod_200 wI_Mod_begin wV_Mod_begin (ci := 11) k_73 (by decide) rfl rfl d_Mod_dispatch_76 rfl rfl (by first | exact Nat.le_of_ble_eq_true rfl | simp [cat_rf, Value.category]) (fun r1 h1 hp hro => ?_)
    obtain ⟨rfl, rfl⟩ := hp
    dsimp only [Option.toList_some, Option.toList_none, List.cons_append, List.nil_append]
    refine g_aload_n d_Mod_dispatch_79 rfl ?_
    refine g_dup (by first | rfl | exact cat_rf _) d_Mod_dispatch_80 ?_
    obtain ⟨k_81, hf⟩ := gd_s hf
    refine fg_Mod_next lf_Mod_156 d_Mod_dispatch_81 k_81 ?_
    refine g_iconst 1 d_Mod_dispatch_84 (by decide) ?_
    refine g_iadd d_Mod_dispatch_85 ?_
    refine fp_Mod_next hw lf_Mod_156 d_Mod_dispatch_86 k_81 ?_
    have hf := pw_b hf
    refine g_aload_n d_Mod_dispatch_89 rfl ?_
    refine fg_Mod_next lf_Mod_156 d_Mod_dispatch_90 (kksI k_81) ?_
    refine g_aload_n d_Mod_dispatch_93 rfl ?_
    refine fg_Mod_blocks lf_Mod_150 d_Mod_dispatch_94 (kksI k_81) ?_
    refine g_icmp_ge 104 d_Mod_dispatch_97 (by decide) (fun c_97 => ?_) (fun c_97 => ?_)
    · have hf := ifp hf c_97
      refine g_iconst 0 d_Mod_dispatch_104 (by decide) ?_
      refine g_istore_n d_Mod_dispatch_105 (by decide) ?_
      show Go _ _ _ _ _ _ [(0, _), (1, _), (2, _)] _
      refine g_goto 17 d_Mod_dispatch_106 (by decide) ?_
      refine Go.locals [0, 1] rfl ?_
      exact hk17 _ _ _ hf
    · have hf := ifn hf c_97
      refine g_iconst 1 d_Mod_dispatch_100 (by decide) ?_
      refine g_goto 105 d_Mod_dispatch_101 (by decide) ?_
      refine g_istore_n d_Mod_dispatch_105 (by decide) ?_
      show Go _ _ _ _ _ _ [(0, _), (1, _), (2, _)] _
      refine g_goto 17 d_Mod_dispatch_106 (by decide) ?_
      refine Go.locals [0, 1] rfl ?_
      exact hk17 _ _ _ hf
  · have hf := ifp hf c_64
    refine g_goto 17 d_Mod_dispatch_67 (by decide) ?_
    refine Go.locals [0, 1] rfl ?_
    exact hk17 _ _ _ hf
def b_Mod_dispatch_49 (F : Nat) (k17 : Nat → Int32 → Hp → Option Hp) (x0 : Nat) (x2 : Int32) (h : Hp) : Option Hp := gd (hK h x0 = 12) <| if (hI h 707 x0) ≤ x2 then (b_Mod_dispatch_62 F k17 x0 x2 (0 : Int32) h) else (b_Mod_dispatch_62 F k17 x0 x2 (1 : Int32) h)
set_option maxRecDepth 100000 in
set_option maxHeartbeats 4000000 in
theorem e_Mod_dispatch_49 {G : Gl} (hw : gF G) {h0 : Hp} {F : Nat} {h' : Hp} {k17 : Nat → Int32 → Hp → Option Hp} (hk17 : ∀ (y0 : Nat) (y1 : Int32) (hh : Hp), k17 y0 y1 hh = some h' → Go G mi_Mod_dispatch h0 (pV h') hh 17 [(0, .ref y0), (1, .int y1)] []) {x0 : Nat} {x2 : Int32} {h : Hp} (hf : b_Mod_dispatch_49 F k17 x0 x2 h = some h') : Go G mi_Mod_dispatch h0 (pV h') h 49 [(0, .ref x0), (2, .int x2)] [] := by
  unfold b_Mod_dispatch_49 at hf
  refine g_iload_n d_Mod_dispatch_49 rfl ?_
  refine g_aload_n d_Mod_dispatch_50 rfl ?_
  obtain ⟨k_51, hf⟩ := gd_s hf
  refine fg_Mod_units lf_Mod_16 d_Mod_dispatch_51 k_51 ?_
  refine g_icmp_ge 61 d_Mod_dispatch_54 (by decide) (fun c_54 => ?_) (fun c_54 => ?_)
  · have hf := ifp hf c_54
    refine g_iconst 0 d_Mod_dispatch_61 (by decide) ?_
    have key := e_Mod_dispatch_62 hw (G := G) (h0 := h0) hk17 hf
    exact key
  · have hf := ifn hf c_54
    refine g_iconst 1 d_Mod_dispatch_57 (by decide) ?_
    refine g_goto 62 d_Mod_dispatch_58 (by decide) ?_
    have key := e_Mod_dispatch_62 hw (G := G) (h0 := h0) hk17 hf
    exact key
def b_Mod_dispatch_23 (F : Nat) (k17 : Nat → Int32 → Hp → Option Hp) : Nat → Nat → Int32 → Hp → Option Hp
  | 0 => fun _ _ _ => none
  | n + 1 => fun x0 x2 h => gd (hK h x0 = 12) <| if (hI h 707 x0) ≤ x2 then (b_Mod_dispatch_49 F k17 x0 x2 h) else (cl (f_Mod_freeSlots F x0 x2 h) fun v_33 h_33 => gd (hK h_33 x0 = 12) <| cl (f_Mod_warps F x0 h_33) fun v_37_2 h_37_2 => if v_37_2 ≤ v_33 then (b_Mod_dispatch_49 F k17 x0 x2 h_37_2) else (b_Mod_dispatch_23 F k17 n x0 (x2 + 1) h_37_2))
set_option maxRecDepth 100000 in
set_option maxHeartbeats 4000000 in
theorem e_Mod_dispatch_23 {G : Gl} (hw : gF G) {h0 : Hp} {F : Nat} {h' : Hp} {k17 : Nat → Int32 → Hp → Option Hp} (hk17 : ∀ (y0 : Nat) (y1 : Int32) (hh : Hp), k17 y0 y1 hh = some h' → Go G mi_Mod_dispatch h0 (pV h') hh 17 [(0, .ref y0), (1, .int y1)] []) : ∀ (n : Nat) (x0 : Nat) (x2 : Int32) (h : Hp), b_Mod_dispatch_23 F k17 n x0 x2 h = some h' → Go G mi_Mod_dispatch h0 (pV h') h 23 [(0, .ref x0), (2, .int x2)] [] := by
  intro n
  induction n with
  | zero =>
    intro _ _ _ hf
    exact nm_s hf
  | succ n ih =>
    intro x0 x2 h hf
    unfold b_Mod_dispatch_23 at hf
    refine g_iload_n d_Mod_dispatch_23 rfl ?_
    refine g_aload_n d_Mod_dispatch_24 rfl ?_
    obtain ⟨k_25, hf⟩ := gd_s hf
    refine fg_Mod_units lf_Mod_16 d_Mod_dispatch_25 k_25 ?_
    refine g_icmp_ge 49 d_Mod_dispatch_28 (by decide) (fun c_28 => ?_) (fun c_28 => ?_)
    · have hf := ifp hf c_28
      have key := e_Mod_dispatch_49 hw (G := G) (h0 := h0) hk17 hf
      exact key
    · have hf := ifn hf c_28
      refine g_aload_n d_Mod_dispatch_31 rfl ?_
      refine g_iload_n d_Mod_dispatch_32 rfl ?_
      obtain ⟨v_33, h_33, e_33, hf⟩ := cl_s hf
      refine g_callV (mz := mi_Mod_freeSlots) (e_Mod_freeSlots e_33) cw_Mod_dispatch_Mod_freeSlots lm_Mod_192 wI_Mod_freeSlots wV_Mod_freeSlots (ci := 11) k_25 (by decide) rfl rfl d_Mod_dispatch_33 rfl rfl (by first | exact Nat.le_of_ble_eq_true rfl | simp [cat_rf, Value.category]) (fun r1 h1 hp hro => ?_)
      obtain ⟨rfl, rfl⟩ := hp
      dsimp only [Option.toList_some, Option.toList_none, List.cons_append, List.nil_append]
      refine g_aload_n d_Mod_dispatch_36 rfl ?_
      obtain ⟨k_37, hf⟩ := gd_s hf
      obtain ⟨v_37_2, h_37_2, e_37_2, hf⟩ := cl_s hf
      refine g_callV (mz := mi_Mod_warps) (e_Mod_warps e_37_2) cw_Mod_dispatch_Mod_warps lm_Mod_196 wI_Mod_warps wV_Mod_warps (ci := 11) k_37 (by decide) rfl rfl d_Mod_dispatch_37 rfl rfl (by first | exact Nat.le_of_ble_eq_true rfl | simp [cat_rf, Value.category]) (fun r1 h1 hp hro => ?_)
      obtain ⟨rfl, rfl⟩ := hp
      dsimp only [Option.toList_some, Option.toList_none, List.cons_append, List.nil_append]
      refine g_icmp_ge 49 d_Mod_dispatch_40 (by decide) (fun c_40 => ?_) (fun c_40 => ?_)
      · have hf := ifp hf c_40
        have key := e_Mod_dispatch_49 hw (G := G) (h0 := h0) hk17 hf
        exact key
      · have hf := ifn hf c_40
        refine g_iinc (_ + 1) d_Mod_dispatch_43 rfl (by rfl) (by decide) ?_
        show Go _ _ _ _ _ _ [(0, _), (2, _)] _
        refine g_goto 23 d_Mod_dispatch_46 (by decide) ?_
        exact ih _ _ _ hf
def b_Mod_dispatch_17 (F : Nat) : Nat → Nat → Int32 → Hp → Option Hp
  | 0 => fun _ _ _ => none
  | n + 1 => fun x0 x1 h => if x1 = 0 then (some h) else (b_Mod_dispatch_23 F (b_Mod_dispatch_17 F n) F x0 (0 : Int32) h)
set_option maxRecDepth 100000 in
set_option maxHeartbeats 4000000 in
theorem e_Mod_dispatch_17 {G : Gl} (hw : gF G) {h0 : Hp} {F : Nat} {h' : Hp}   : ∀ (n : Nat) (x0 : Nat) (x1 : Int32) (h : Hp), b_Mod_dispatch_17 F n x0 x1 h = some h' → Go G mi_Mod_dispatch h0 (pV h') h 17 [(0, .ref x0), (1, .int x1)] [] := by
  intro n
  induction n with
  | zero =>
    intro _ _ _ hf
    exact nm_s hf
  | succ n ih =>
    intro x0 x1 h hf
    unfold b_Mod_dispatch_17 at hf
    refine g_iload_n d_Mod_dispatch_17 rfl ?_
    refine g_if_eq 109 d_Mod_dispatch_18 (by decide) (fun c_18 => ?_) (fun c_18 => ?_)
    · have hf := ifp hf c_18
      exact Go.ret none trivial rfl d_Mod_dispatch_109 (pV_of hf)
    · have hf := ifn hf c_18
      refine g_iconst 0 d_Mod_dispatch_21 (by decide) ?_
      refine g_istore_n d_Mod_dispatch_22 (by decide) ?_
      show Go _ _ _ _ _ _ [(0, _), (1, _), (2, _)] _
      refine Go.locals [0, 2] rfl ?_
      have key := e_Mod_dispatch_23 hw (G := G) (h0 := h0) (fun _ _ _ q => ih _ _ _ q) F _ _ _ hf
      exact key
def b_Mod_dispatch_16 (F : Nat) (x0 : Nat) (s0 : Int32) (h : Hp) : Option Hp := b_Mod_dispatch_17 F F x0 s0 h
set_option maxRecDepth 100000 in
set_option maxHeartbeats 4000000 in
theorem e_Mod_dispatch_16 {G : Gl} (hw : gF G) {h0 : Hp} {F : Nat} {h' : Hp}   {x0 : Nat} {s0 : Int32} {h : Hp} (hf : b_Mod_dispatch_16 F x0 s0 h = some h') : Go G mi_Mod_dispatch h0 (pV h') h 16 [(0, .ref x0)] [.int s0] := by
  unfold b_Mod_dispatch_16 at hf
  refine g_istore_n d_Mod_dispatch_16 (by decide) ?_
  show Go _ _ _ _ _ _ [(0, _), (1, _)] _
  have key := e_Mod_dispatch_17 hw (G := G) (h0 := h0)  F _ _ _ hf
  exact key
def f_Mod_dispatch (F : Nat) (x0 : Nat) (h : Hp) : Option Hp := gd (hK h x0 = 12) <| if (hI h 716 x0) ≤ (hI h 718 x0) then (b_Mod_dispatch_16 F x0 (0 : Int32) h) else (b_Mod_dispatch_16 F x0 (1 : Int32) h)
set_option maxRecDepth 100000 in
set_option maxHeartbeats 4000000 in
theorem e_Mod_dispatch {G : Gl} (hw : gF G) {F : Nat} {h' : Hp} {x0 : Nat} {h : Hp} (hf : f_Mod_dispatch F x0 h = some h') : Ex G mi_Mod_dispatch [.ref x0] h (pV h') := by
  unfold f_Mod_dispatch at hf
  refine Ex.of nmV (by decide) (Nat.le_of_ble_eq_true rfl) ?_
  show Go G mi_Mod_dispatch h _ h 0 [(0, .ref x0)] []
  refine g_aload_n d_Mod_dispatch_0 rfl ?_
  obtain ⟨k_1, hf⟩ := gd_s hf
  refine fg_Mod_next lf_Mod_156 d_Mod_dispatch_1 k_1 ?_
  refine g_aload_n d_Mod_dispatch_4 rfl ?_
  refine fg_Mod_blocks lf_Mod_150 d_Mod_dispatch_5 k_1 ?_
  refine g_icmp_ge 15 d_Mod_dispatch_8 (by decide) (fun c_8 => ?_) (fun c_8 => ?_)
  · have hf := ifp hf c_8
    refine g_iconst 0 d_Mod_dispatch_15 (by decide) ?_
    have key := e_Mod_dispatch_16 hw (G := G) (h0 := h)  hf
    exact key
  · have hf := ifn hf c_8
    refine g_iconst 1 d_Mod_dispatch_11 (by decide) ?_
    refine g_goto 16 d_Mod_dispatch_12 (by decide) ?_
    have key := e_Mod_dispatch_16 hw (G := G) (h0 := h)  hf
    exact key
abbrev mi_Mod_isLane : MI := (⟨"WarpMillModel", "isLane", "(II)Z"⟩, prog_13_method_20_code, 3, some .boolean, 0, 0)
def it_Mod_isLane_0 : List (Nat × ClassFile.Instr × Nat) := [(0, .iload_n 2, 1), (1, .aload_n 0, 1), (2, .getfield 7, 3), (5, .if_icmp .ge (27), 3), (8, .aload_n 0, 1), (9, .getfield 7, 3), (12, .aload_n 0, 1), (13, .getfield 57, 3), (16, .iload_n 1, 1), (17, .iaload, 1), (18, .imul, 1), (19, .iload_n 2, 1), (20, .iadd, 1), (21, .aload_n 0, 1), (22, .getfield 153, 3), (25, .if_icmp .ge (7), 3), (28, .iconst 1, 1), (29, .goto (4), 3), (32, .iconst 0, 1), (33, .ireturn, 1)]
theorem id_Mod_isLane_0 : ∀ q ∈ it_Mod_isLane_0, decode prog_13_method_20_code q.1 = .ok q.2 := by decide +kernel
theorem d_Mod_isLane_0 : decode prog_13_method_20_code 0 = .ok (.iload_n 2, 1) := id_Mod_isLane_0 (0, .iload_n 2, 1) (List.mem_of_getElem? (i := 0) rfl)
theorem d_Mod_isLane_1 : decode prog_13_method_20_code 1 = .ok (.aload_n 0, 1) := id_Mod_isLane_0 (1, .aload_n 0, 1) (List.mem_of_getElem? (i := 1) rfl)
theorem d_Mod_isLane_2 : decode prog_13_method_20_code 2 = .ok (.getfield 7, 3) := id_Mod_isLane_0 (2, .getfield 7, 3) (List.mem_of_getElem? (i := 2) rfl)
theorem d_Mod_isLane_5 : decode prog_13_method_20_code 5 = .ok (.if_icmp .ge (27), 3) := id_Mod_isLane_0 (5, .if_icmp .ge (27), 3) (List.mem_of_getElem? (i := 3) rfl)
theorem d_Mod_isLane_8 : decode prog_13_method_20_code 8 = .ok (.aload_n 0, 1) := id_Mod_isLane_0 (8, .aload_n 0, 1) (List.mem_of_getElem? (i := 4) rfl)
theorem d_Mod_isLane_9 : decode prog_13_method_20_code 9 = .ok (.getfield 7, 3) := id_Mod_isLane_0 (9, .getfield 7, 3) (List.mem_of_getElem? (i := 5) rfl)
theorem d_Mod_isLane_12 : decode prog_13_method_20_code 12 = .ok (.aload_n 0, 1) := id_Mod_isLane_0 (12, .aload_n 0, 1) (List.mem_of_getElem? (i := 6) rfl)
theorem d_Mod_isLane_13 : decode prog_13_method_20_code 13 = .ok (.getfield 57, 3) := id_Mod_isLane_0 (13, .getfield 57, 3) (List.mem_of_getElem? (i := 7) rfl)
theorem d_Mod_isLane_16 : decode prog_13_method_20_code 16 = .ok (.iload_n 1, 1) := id_Mod_isLane_0 (16, .iload_n 1, 1) (List.mem_of_getElem? (i := 8) rfl)
theorem d_Mod_isLane_17 : decode prog_13_method_20_code 17 = .ok (.iaload, 1) := id_Mod_isLane_0 (17, .iaload, 1) (List.mem_of_getElem? (i := 9) rfl)
theorem d_Mod_isLane_18 : decode prog_13_method_20_code 18 = .ok (.imul, 1) := id_Mod_isLane_0 (18, .imul, 1) (List.mem_of_getElem? (i := 10) rfl)
theorem d_Mod_isLane_19 : decode prog_13_method_20_code 19 = .ok (.iload_n 2, 1) := id_Mod_isLane_0 (19, .iload_n 2, 1) (List.mem_of_getElem? (i := 11) rfl)
theorem d_Mod_isLane_20 : decode prog_13_method_20_code 20 = .ok (.iadd, 1) := id_Mod_isLane_0 (20, .iadd, 1) (List.mem_of_getElem? (i := 12) rfl)
theorem d_Mod_isLane_21 : decode prog_13_method_20_code 21 = .ok (.aload_n 0, 1) := id_Mod_isLane_0 (21, .aload_n 0, 1) (List.mem_of_getElem? (i := 13) rfl)
theorem d_Mod_isLane_22 : decode prog_13_method_20_code 22 = .ok (.getfield 153, 3) := id_Mod_isLane_0 (22, .getfield 153, 3) (List.mem_of_getElem? (i := 14) rfl)
theorem d_Mod_isLane_25 : decode prog_13_method_20_code 25 = .ok (.if_icmp .ge (7), 3) := id_Mod_isLane_0 (25, .if_icmp .ge (7), 3) (List.mem_of_getElem? (i := 15) rfl)
theorem d_Mod_isLane_28 : decode prog_13_method_20_code 28 = .ok (.iconst 1, 1) := id_Mod_isLane_0 (28, .iconst 1, 1) (List.mem_of_getElem? (i := 16) rfl)
theorem d_Mod_isLane_29 : decode prog_13_method_20_code 29 = .ok (.goto (4), 3) := id_Mod_isLane_0 (29, .goto (4), 3) (List.mem_of_getElem? (i := 17) rfl)
theorem d_Mod_isLane_32 : decode prog_13_method_20_code 32 = .ok (.iconst 0, 1) := id_Mod_isLane_0 (32, .iconst 0, 1) (List.mem_of_getElem? (i := 18) rfl)
theorem d_Mod_isLane_33 : decode prog_13_method_20_code 33 = .ok (.ireturn, 1) := id_Mod_isLane_0 (33, .ireturn, 1) (List.mem_of_getElem? (i := 19) rfl)
theorem wC_Mod_isLane : Cond.code ⟨"WarpMillModel", "isLane", "(II)Z"⟩ prog_13_method_20_code 3 (some .boolean) ∈ lw_tb := mem_tb 1342 (by decide +kernel) rfl
def f_Mod_isLane (F : Nat) (x0 : Nat) (x1 : Int32) (x2 : Int32) (h : Hp) : Option (Int32 × Hp) := gd (hK h x0 = 12) <| if (hI h 705 x0) ≤ x2 then (some ((0 : Int32), h)) else (rq h (hR h 736 x0) 100 fun a_13 => ix x1 (hN h a_13) fun j_17 => if (hI h 717 x0) ≤ (((hI h 705 x0) * (hA h a_13 j_17)) + x2) then (some ((0 : Int32), h)) else (some ((1 : Int32), h)))
set_option maxRecDepth 100000 in
set_option maxHeartbeats 4000000 in
theorem e_Mod_isLane {G : Gl} {F : Nat} {r : Int32} {h' : Hp} {x0 : Nat} {x1 : Int32} {x2 : Int32} {h : Hp} (hf : f_Mod_isLane F x0 x1 x2 h = some (r, h')) : Ex G mi_Mod_isLane [.ref x0, .int x1, .int x2] h (pI r h') := by
  unfold f_Mod_isLane at hf
  refine Ex.of nmI (by decide) (Nat.le_of_ble_eq_true rfl) ?_
  show Go G mi_Mod_isLane h _ h 0 [(0, .ref x0), (1, .int x1), (2, .int x2)] []
  refine g_iload_n d_Mod_isLane_0 rfl ?_
  refine g_aload_n d_Mod_isLane_1 rfl ?_
  obtain ⟨k_2, hf⟩ := gd_s hf
  refine fg_Mod_lanes lf_Mod_7 d_Mod_isLane_2 k_2 ?_
  refine g_icmp_ge 32 d_Mod_isLane_5 (by decide) (fun c_5 => ?_) (fun c_5 => ?_)
  · have hf := ifp hf c_5
    refine g_iconst 0 d_Mod_isLane_32 (by decide) ?_
    exact Go.ret (some _) rOk_b0 rfl d_Mod_isLane_33 (pI_of hf)
  · have hf := ifn hf c_5
    refine g_aload_n d_Mod_isLane_8 rfl ?_
    refine fg_Mod_lanes lf_Mod_7 d_Mod_isLane_9 k_2 ?_
    refine g_aload_n d_Mod_isLane_12 rfl ?_
    obtain ⟨a_13, e_13, k_13, hf⟩ := rq_s hf
    refine fgs_Mod_slotWarp lf_Mod_57 d_Mod_isLane_13 k_2 e_13 ?_
    refine g_iload_n d_Mod_isLane_16 rfl ?_
    obtain ⟨i_17, hf⟩ := ix_s hf
    refine g_iald k_13 i_17 d_Mod_isLane_17 ?_
    refine g_imul d_Mod_isLane_18 ?_
    refine g_iload_n d_Mod_isLane_19 rfl ?_
    refine g_iadd d_Mod_isLane_20 ?_
    refine g_aload_n d_Mod_isLane_21 rfl ?_
    refine fg_Mod_threads lf_Mod_153 d_Mod_isLane_22 k_2 ?_
    refine g_icmp_ge 32 d_Mod_isLane_25 (by decide) (fun c_25 => ?_) (fun c_25 => ?_)
    · have hf := ifp hf c_25
      refine g_iconst 0 d_Mod_isLane_32 (by decide) ?_
      exact Go.ret (some _) rOk_b0 rfl d_Mod_isLane_33 (pI_of hf)
    · have hf := ifn hf c_25
      refine g_iconst 1 d_Mod_isLane_28 (by decide) ?_
      refine g_goto 33 d_Mod_isLane_29 (by decide) ?_
      exact Go.ret (some _) rOk_b1 rfl d_Mod_isLane_33 (pI_of hf)
abbrev mi_Mod_isAwake : MI := (⟨"WarpMillModel", "isAwake", "(II)Z"⟩, prog_13_method_21_code, 3, some .boolean, 1, 22)
def it_Mod_isAwake_0 : List (Nat × ClassFile.Instr × Nat) := [(0, .aload_n 0, 1), (1, .iload_n 1, 1), (2, .iload_n 2, 1), (3, .invokevirtual 208, 3), (6, .ifCond .eq (33), 3), (9, .aload_n 0, 1), (10, .getfield 76, 3), (13, .iload_n 1, 1), (14, .iload_n 2, 1), (15, .invokestatic 211, 3), (18, .baload, 1), (19, .ifCond .ne (20), 3), (22, .aload_n 0, 1), (23, .getfield 80, 3), (26, .iload_n 1, 1), (27, .iload_n 2, 1), (28, .invokestatic 211, 3), (31, .baload, 1), (32, .ifCond .ne (7), 3), (35, .iconst 1, 1), (36, .goto (4), 3), (39, .iconst 0, 1), (40, .ireturn, 1)]
theorem id_Mod_isAwake_0 : ∀ q ∈ it_Mod_isAwake_0, decode prog_13_method_21_code q.1 = .ok q.2 := by decide +kernel
theorem d_Mod_isAwake_0 : decode prog_13_method_21_code 0 = .ok (.aload_n 0, 1) := id_Mod_isAwake_0 (0, .aload_n 0, 1) (List.mem_of_getElem? (i := 0) rfl)
theorem d_Mod_isAwake_1 : decode prog_13_method_21_code 1 = .ok (.iload_n 1, 1) := id_Mod_isAwake_0 (1, .iload_n 1, 1) (List.mem_of_getElem? (i := 1) rfl)
theorem d_Mod_isAwake_2 : decode prog_13_method_21_code 2 = .ok (.iload_n 2, 1) := id_Mod_isAwake_0 (2, .iload_n 2, 1) (List.mem_of_getElem? (i := 2) rfl)
theorem d_Mod_isAwake_3 : decode prog_13_method_21_code 3 = .ok (.invokevirtual 208, 3) := id_Mod_isAwake_0 (3, .invokevirtual 208, 3) (List.mem_of_getElem? (i := 3) rfl)
theorem d_Mod_isAwake_6 : decode prog_13_method_21_code 6 = .ok (.ifCond .eq (33), 3) := id_Mod_isAwake_0 (6, .ifCond .eq (33), 3) (List.mem_of_getElem? (i := 4) rfl)
theorem d_Mod_isAwake_9 : decode prog_13_method_21_code 9 = .ok (.aload_n 0, 1) := id_Mod_isAwake_0 (9, .aload_n 0, 1) (List.mem_of_getElem? (i := 5) rfl)
theorem d_Mod_isAwake_10 : decode prog_13_method_21_code 10 = .ok (.getfield 76, 3) := id_Mod_isAwake_0 (10, .getfield 76, 3) (List.mem_of_getElem? (i := 6) rfl)
theorem d_Mod_isAwake_13 : decode prog_13_method_21_code 13 = .ok (.iload_n 1, 1) := id_Mod_isAwake_0 (13, .iload_n 1, 1) (List.mem_of_getElem? (i := 7) rfl)
theorem d_Mod_isAwake_14 : decode prog_13_method_21_code 14 = .ok (.iload_n 2, 1) := id_Mod_isAwake_0 (14, .iload_n 2, 1) (List.mem_of_getElem? (i := 8) rfl)
theorem d_Mod_isAwake_15 : decode prog_13_method_21_code 15 = .ok (.invokestatic 211, 3) := id_Mod_isAwake_0 (15, .invokestatic 211, 3) (List.mem_of_getElem? (i := 9) rfl)
theorem d_Mod_isAwake_18 : decode prog_13_method_21_code 18 = .ok (.baload, 1) := id_Mod_isAwake_0 (18, .baload, 1) (List.mem_of_getElem? (i := 10) rfl)
theorem d_Mod_isAwake_19 : decode prog_13_method_21_code 19 = .ok (.ifCond .ne (20), 3) := id_Mod_isAwake_0 (19, .ifCond .ne (20), 3) (List.mem_of_getElem? (i := 11) rfl)
theorem d_Mod_isAwake_22 : decode prog_13_method_21_code 22 = .ok (.aload_n 0, 1) := id_Mod_isAwake_0 (22, .aload_n 0, 1) (List.mem_of_getElem? (i := 12) rfl)
theorem d_Mod_isAwake_23 : decode prog_13_method_21_code 23 = .ok (.getfield 80, 3) := id_Mod_isAwake_0 (23, .getfield 80, 3) (List.mem_of_getElem? (i := 13) rfl)
theorem d_Mod_isAwake_26 : decode prog_13_method_21_code 26 = .ok (.iload_n 1, 1) := id_Mod_isAwake_0 (26, .iload_n 1, 1) (List.mem_of_getElem? (i := 14) rfl)
theorem d_Mod_isAwake_27 : decode prog_13_method_21_code 27 = .ok (.iload_n 2, 1) := id_Mod_isAwake_0 (27, .iload_n 2, 1) (List.mem_of_getElem? (i := 15) rfl)
theorem d_Mod_isAwake_28 : decode prog_13_method_21_code 28 = .ok (.invokestatic 211, 3) := id_Mod_isAwake_0 (28, .invokestatic 211, 3) (List.mem_of_getElem? (i := 16) rfl)
theorem d_Mod_isAwake_31 : decode prog_13_method_21_code 31 = .ok (.baload, 1) := id_Mod_isAwake_0 (31, .baload, 1) (List.mem_of_getElem? (i := 17) rfl)
theorem d_Mod_isAwake_32 : decode prog_13_method_21_code 32 = .ok (.ifCond .ne (7), 3) := id_Mod_isAwake_0 (32, .ifCond .ne (7), 3) (List.mem_of_getElem? (i := 18) rfl)
theorem d_Mod_isAwake_35 : decode prog_13_method_21_code 35 = .ok (.iconst 1, 1) := id_Mod_isAwake_0 (35, .iconst 1, 1) (List.mem_of_getElem? (i := 19) rfl)
theorem d_Mod_isAwake_36 : decode prog_13_method_21_code 36 = .ok (.goto (4), 3) := id_Mod_isAwake_0 (36, .goto (4), 3) (List.mem_of_getElem? (i := 20) rfl)
theorem d_Mod_isAwake_39 : decode prog_13_method_21_code 39 = .ok (.iconst 0, 1) := id_Mod_isAwake_0 (39, .iconst 0, 1) (List.mem_of_getElem? (i := 21) rfl)
theorem d_Mod_isAwake_40 : decode prog_13_method_21_code 40 = .ok (.ireturn, 1) := id_Mod_isAwake_0 (40, .ireturn, 1) (List.mem_of_getElem? (i := 22) rfl)
theorem wC_Mod_isAwake : Cond.code ⟨"WarpMillModel", "isAwake", "(II)Z"⟩ prog_13_method_21_code 3 (some .boolean) ∈ lw_tb := mem_tb 1338 (by decide +kernel) rfl
theorem cw_Mod_isAwake_Mod_isLane : cW mi_Mod_isAwake mi_Mod_isLane 2 := ⟨wC_Mod_isLane, wi_Mod, ⟨by decide, by decide, by decide +kernel⟩, by decide, by decide⟩
theorem cw_Mod_isAwake_Mod_thread : cW mi_Mod_isAwake mi_Mod_thread 2 := ⟨wC_Mod_thread, wi_Mod, ⟨by decide, by decide, by decide +kernel⟩, by decide, by decide⟩
def f_Mod_isAwake (F : Nat) (x0 : Nat) (x1 : Int32) (x2 : Int32) (h : Hp) : Option (Int32 × Hp) := gd (hK h x0 = 12) <| cl (f_Mod_isLane F x0 x1 x2 h) fun v_3_2 h_3_2 => if v_3_2 = 0 then (some ((0 : Int32), h_3_2)) else (gd (hK h_3_2 x0 = 12) <| rq h_3_2 (hR h_3_2 742 x0) 101 fun a_10_2 => cl (f_Mod_thread F x1 x2 h_3_2) fun v_15 h_15 => gd (hK h_15 a_10_2 = 101) <| ix v_15 (hN h_15 a_10_2) fun j_18_2 => if (hA h_15 a_10_2 j_18_2) = 0 then (gd (hK h_15 x0 = 12) <| rq h_15 (hR h_15 743 x0) 101 fun a_23_2 => cl (f_Mod_thread F x1 x2 h_15) fun v_28 h_28 => gd (hK h_28 a_23_2 = 101) <| ix v_28 (hN h_28 a_23_2) fun j_31_2 => if (hA h_28 a_23_2 j_31_2) = 0 then (some ((1 : Int32), h_28)) else (some ((0 : Int32), h_28))) else (some ((0 : Int32), h_15)))
set_option maxRecDepth 100000 in
set_option maxHeartbeats 4000000 in
theorem e_Mod_isAwake {G : Gl} {F : Nat} {r : Int32} {h' : Hp} {x0 : Nat} {x1 : Int32} {x2 : Int32} {h : Hp} (hf : f_Mod_isAwake F x0 x1 x2 h = some (r, h')) : Ex G mi_Mod_isAwake [.ref x0, .int x1, .int x2] h (pI r h') := by
  unfold f_Mod_isAwake at hf
  refine Ex.of nmI (by decide) (Nat.le_of_ble_eq_true rfl) ?_
  show Go G mi_Mod_isAwake h _ h 0 [(0, .ref x0), (1, .int x1), (2, .int x2)] []
  refine g_aload_n d_Mod_isAwake_0 rfl ?_
  refine g_iload_n d_Mod_isAwake_1 rfl ?_
  refine g_iload_n d_Mod_isAwake_2 rfl ?_
  obtain ⟨k_3, hf⟩ := gd_s hf
  obtain ⟨v_3_2, h_3_2, e_3_2, hf⟩ := cl_s hf
  refine g_callV (mz := mi_Mod_isLane) (e_Mod_isLane e_3_2) cw_Mod_isAwake_Mod_isLane lm_Mod_208 wI_Mod_isLane wV_Mod_isLane (ci := 11) k_3 (by decide) rfl rfl d_Mod_isAwake_3 rfl rfl (by first | exact Nat.le_of_ble_eq_true rfl | simp [cat_rf, Value.category]) (fun r1 h1 hp hro => ?_)
  obtain ⟨rfl, rfl⟩ := hp
  dsimp only [Option.toList_some, Option.toList_none, List.cons_append, List.nil_append]
  refine g_if_eq 39 d_Mod_isAwake_6 (by decide) (fun c_6 => ?_) (fun c_6 => ?_)
  · have hf := ifp hf c_6
    refine g_iconst 0 d_Mod_isAwake_39 (by decide) ?_
    exact Go.ret (some _) rOk_b0 rfl d_Mod_isAwake_40 (pI_of hf)
  · have hf := ifn hf c_6
    refine g_aload_n d_Mod_isAwake_9 rfl ?_
    obtain ⟨k_10, hf⟩ := gd_s hf
    obtain ⟨a_10_2, e_10_2, k_10_2, hf⟩ := rq_s hf
    refine fgs_Mod_isEnded lf_Mod_76 d_Mod_isAwake_10 k_10 e_10_2 ?_
    refine g_iload_n d_Mod_isAwake_13 rfl ?_
    refine g_iload_n d_Mod_isAwake_14 rfl ?_
    obtain ⟨v_15, h_15, e_15, hf⟩ := cl_s hf
    refine g_callS (mz := mi_Mod_thread) (e_Mod_thread e_15) cw_Mod_isAwake_Mod_thread lm_Mod_211 wS_Mod_thread d_Mod_isAwake_15 rfl rfl (by first | exact Nat.le_of_ble_eq_true rfl | simp [cat_rf, Value.category]) (fun r1 h1 hp hro => ?_)
    obtain ⟨rfl, rfl⟩ := hp
    dsimp only [Option.toList_some, Option.toList_none, List.cons_append, List.nil_append]
    obtain ⟨k_18, hf⟩ := gd_s hf
    obtain ⟨i_18_2, hf⟩ := ix_s hf
    refine g_zald k_18 i_18_2 d_Mod_isAwake_18 ?_
    refine g_if_ne 39 d_Mod_isAwake_19 (by decide) (fun c_19 => ?_) (fun c_19 => ?_)
    · have hf := ifn hf c_19
      refine g_iconst 0 d_Mod_isAwake_39 (by decide) ?_
      exact Go.ret (some _) rOk_b0 rfl d_Mod_isAwake_40 (pI_of hf)
    · have hf := ifp hf c_19
      refine g_aload_n d_Mod_isAwake_22 rfl ?_
      obtain ⟨k_23, hf⟩ := gd_s hf
      obtain ⟨a_23_2, e_23_2, k_23_2, hf⟩ := rq_s hf
      refine fgs_Mod_waits lf_Mod_80 d_Mod_isAwake_23 k_23 e_23_2 ?_
      refine g_iload_n d_Mod_isAwake_26 rfl ?_
      refine g_iload_n d_Mod_isAwake_27 rfl ?_
      obtain ⟨v_28, h_28, e_28, hf⟩ := cl_s hf
      refine g_callS (mz := mi_Mod_thread) (e_Mod_thread e_28) cw_Mod_isAwake_Mod_thread lm_Mod_211 wS_Mod_thread d_Mod_isAwake_28 rfl rfl (by first | exact Nat.le_of_ble_eq_true rfl | simp [cat_rf, Value.category]) (fun r1 h1 hp hro => ?_)
      obtain ⟨rfl, rfl⟩ := hp
      dsimp only [Option.toList_some, Option.toList_none, List.cons_append, List.nil_append]
      obtain ⟨k_31, hf⟩ := gd_s hf
      obtain ⟨i_31_2, hf⟩ := ix_s hf
      refine g_zald k_31 i_31_2 d_Mod_isAwake_31 ?_
      refine g_if_ne 39 d_Mod_isAwake_32 (by decide) (fun c_32 => ?_) (fun c_32 => ?_)
      · have hf := ifn hf c_32
        refine g_iconst 0 d_Mod_isAwake_39 (by decide) ?_
        exact Go.ret (some _) rOk_b0 rfl d_Mod_isAwake_40 (pI_of hf)
      · have hf := ifp hf c_32
        refine g_iconst 1 d_Mod_isAwake_35 (by decide) ?_
        refine g_goto 40 d_Mod_isAwake_36 (by decide) ?_
        exact Go.ret (some _) rOk_b1 rfl d_Mod_isAwake_40 (pI_of hf)
