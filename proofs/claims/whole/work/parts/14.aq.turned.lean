abbrev mi_Mod_go : MI := (⟨"WarpMillModel", "go", "(II)V"⟩, prog_13_method_40_code, 11, none, 5, 118)
def it_Mod_go_0 : List (Nat × ClassFile.Instr × Nat) := [(0, .aload_n 0, 1), (1, .invokevirtual 250, 3), (4, .istore_n 3, 1), (5, .aload_n 0, 1), (6, .getfield 73, 3), (9, .iload_n 2, 1), (10, .iload_n 3, 1), (11, .invokestatic 211, 3), (14, .iaload, 1), (15, .istore 4, 2), (17, .iload 4, 2), (19, .ifCond .lt (11), 3), (22, .iload 4, 2), (24, .sipush (128), 3), (27, .if_icmp .lt (11), 3), (30, .aload_n 0, 1), (31, .iload_n 2, 1), (32, .iload_n 3, 1), (33, .iconst 1, 1), (34, .invokevirtual 287, 3), (37, .return_, 1), (38, .aload_n 0, 1), (39, .aload_n 0, 1), (40, .getfield 28, 3)]
theorem id_Mod_go_0 : ∀ q ∈ it_Mod_go_0, decode prog_13_method_40_code q.1 = .ok q.2 := by decide +kernel
theorem d_Mod_go_0 : decode prog_13_method_40_code 0 = .ok (.aload_n 0, 1) := id_Mod_go_0 (0, .aload_n 0, 1) (List.mem_of_getElem? (i := 0) rfl)
theorem d_Mod_go_1 : decode prog_13_method_40_code 1 = .ok (.invokevirtual 250, 3) := id_Mod_go_0 (1, .invokevirtual 250, 3) (List.mem_of_getElem? (i := 1) rfl)
theorem d_Mod_go_4 : decode prog_13_method_40_code 4 = .ok (.istore_n 3, 1) := id_Mod_go_0 (4, .istore_n 3, 1) (List.mem_of_getElem? (i := 2) rfl)
theorem d_Mod_go_5 : decode prog_13_method_40_code 5 = .ok (.aload_n 0, 1) := id_Mod_go_0 (5, .aload_n 0, 1) (List.mem_of_getElem? (i := 3) rfl)
theorem d_Mod_go_6 : decode prog_13_method_40_code 6 = .ok (.getfield 73, 3) := id_Mod_go_0 (6, .getfield 73, 3) (List.mem_of_getElem? (i := 4) rfl)
theorem d_Mod_go_9 : decode prog_13_method_40_code 9 = .ok (.iload_n 2, 1) := id_Mod_go_0 (9, .iload_n 2, 1) (List.mem_of_getElem? (i := 5) rfl)
theorem d_Mod_go_10 : decode prog_13_method_40_code 10 = .ok (.iload_n 3, 1) := id_Mod_go_0 (10, .iload_n 3, 1) (List.mem_of_getElem? (i := 6) rfl)
theorem d_Mod_go_11 : decode prog_13_method_40_code 11 = .ok (.invokestatic 211, 3) := id_Mod_go_0 (11, .invokestatic 211, 3) (List.mem_of_getElem? (i := 7) rfl)
theorem d_Mod_go_14 : decode prog_13_method_40_code 14 = .ok (.iaload, 1) := id_Mod_go_0 (14, .iaload, 1) (List.mem_of_getElem? (i := 8) rfl)
theorem d_Mod_go_15 : decode prog_13_method_40_code 15 = .ok (.istore 4, 2) := id_Mod_go_0 (15, .istore 4, 2) (List.mem_of_getElem? (i := 9) rfl)
theorem d_Mod_go_17 : decode prog_13_method_40_code 17 = .ok (.iload 4, 2) := id_Mod_go_0 (17, .iload 4, 2) (List.mem_of_getElem? (i := 10) rfl)
theorem d_Mod_go_19 : decode prog_13_method_40_code 19 = .ok (.ifCond .lt (11), 3) := id_Mod_go_0 (19, .ifCond .lt (11), 3) (List.mem_of_getElem? (i := 11) rfl)
theorem d_Mod_go_22 : decode prog_13_method_40_code 22 = .ok (.iload 4, 2) := id_Mod_go_0 (22, .iload 4, 2) (List.mem_of_getElem? (i := 12) rfl)
theorem d_Mod_go_24 : decode prog_13_method_40_code 24 = .ok (.sipush (128), 3) := id_Mod_go_0 (24, .sipush (128), 3) (List.mem_of_getElem? (i := 13) rfl)
theorem d_Mod_go_27 : decode prog_13_method_40_code 27 = .ok (.if_icmp .lt (11), 3) := id_Mod_go_0 (27, .if_icmp .lt (11), 3) (List.mem_of_getElem? (i := 14) rfl)
theorem d_Mod_go_30 : decode prog_13_method_40_code 30 = .ok (.aload_n 0, 1) := id_Mod_go_0 (30, .aload_n 0, 1) (List.mem_of_getElem? (i := 15) rfl)
theorem d_Mod_go_31 : decode prog_13_method_40_code 31 = .ok (.iload_n 2, 1) := id_Mod_go_0 (31, .iload_n 2, 1) (List.mem_of_getElem? (i := 16) rfl)
theorem d_Mod_go_32 : decode prog_13_method_40_code 32 = .ok (.iload_n 3, 1) := id_Mod_go_0 (32, .iload_n 3, 1) (List.mem_of_getElem? (i := 17) rfl)
theorem d_Mod_go_33 : decode prog_13_method_40_code 33 = .ok (.iconst 1, 1) := id_Mod_go_0 (33, .iconst 1, 1) (List.mem_of_getElem? (i := 18) rfl)
theorem d_Mod_go_34 : decode prog_13_method_40_code 34 = .ok (.invokevirtual 287, 3) := id_Mod_go_0 (34, .invokevirtual 287, 3) (List.mem_of_getElem? (i := 19) rfl)
theorem d_Mod_go_37 : decode prog_13_method_40_code 37 = .ok (.return_, 1) := id_Mod_go_0 (37, .return_, 1) (List.mem_of_getElem? (i := 20) rfl)
theorem d_Mod_go_38 : decode prog_13_method_40_code 38 = .ok (.aload_n 0, 1) := id_Mod_go_0 (38, .aload_n 0, 1) (List.mem_of_getElem? (i := 21) rfl)
theorem d_Mod_go_39 : decode prog_13_method_40_code 39 = .ok (.aload_n 0, 1) := id_Mod_go_0 (39, .aload_n 0, 1) (List.mem_of_getElem? (i := 22) rfl)
theorem d_Mod_go_40 : decode prog_13_method_40_code 40 = .ok (.getfield 28, 3) := id_Mod_go_0 (40, .getfield 28, 3) (List.mem_of_getElem? (i := 23) rfl)
def it_Mod_go_1 : List (Nat × ClassFile.Instr × Nat) := [(43, .iload 4, 2), (45, .laload, 1), (46, .invokevirtual 253, 3), (49, .aload_n 0, 1), (50, .invokevirtual 257, 3), (53, .ifCond .ne (11), 3), (56, .aload_n 0, 1), (57, .iload_n 2, 1), (58, .iload_n 3, 1), (59, .iconst 2, 1), (60, .invokevirtual 287, 3), (63, .return_, 1), (64, .iconst 0, 1), (65, .istore 5, 2), (67, .iconst 0, 1), (68, .istore 6, 2), (70, .iconst 0, 1), (71, .istore 7, 2), (73, .iload 7, 2), (75, .bipush (32), 2), (77, .if_icmp .ge (111), 3), (80, .aload_n 0, 1), (81, .getfield 111, 3), (84, .iload 7, 2)]
theorem id_Mod_go_1 : ∀ q ∈ it_Mod_go_1, decode prog_13_method_40_code q.1 = .ok q.2 := by decide +kernel
theorem d_Mod_go_43 : decode prog_13_method_40_code 43 = .ok (.iload 4, 2) := id_Mod_go_1 (43, .iload 4, 2) (List.mem_of_getElem? (i := 0) rfl)
theorem d_Mod_go_45 : decode prog_13_method_40_code 45 = .ok (.laload, 1) := id_Mod_go_1 (45, .laload, 1) (List.mem_of_getElem? (i := 1) rfl)
theorem d_Mod_go_46 : decode prog_13_method_40_code 46 = .ok (.invokevirtual 253, 3) := id_Mod_go_1 (46, .invokevirtual 253, 3) (List.mem_of_getElem? (i := 2) rfl)
theorem d_Mod_go_49 : decode prog_13_method_40_code 49 = .ok (.aload_n 0, 1) := id_Mod_go_1 (49, .aload_n 0, 1) (List.mem_of_getElem? (i := 3) rfl)
theorem d_Mod_go_50 : decode prog_13_method_40_code 50 = .ok (.invokevirtual 257, 3) := id_Mod_go_1 (50, .invokevirtual 257, 3) (List.mem_of_getElem? (i := 4) rfl)
theorem d_Mod_go_53 : decode prog_13_method_40_code 53 = .ok (.ifCond .ne (11), 3) := id_Mod_go_1 (53, .ifCond .ne (11), 3) (List.mem_of_getElem? (i := 5) rfl)
theorem d_Mod_go_56 : decode prog_13_method_40_code 56 = .ok (.aload_n 0, 1) := id_Mod_go_1 (56, .aload_n 0, 1) (List.mem_of_getElem? (i := 6) rfl)
theorem d_Mod_go_57 : decode prog_13_method_40_code 57 = .ok (.iload_n 2, 1) := id_Mod_go_1 (57, .iload_n 2, 1) (List.mem_of_getElem? (i := 7) rfl)
theorem d_Mod_go_58 : decode prog_13_method_40_code 58 = .ok (.iload_n 3, 1) := id_Mod_go_1 (58, .iload_n 3, 1) (List.mem_of_getElem? (i := 8) rfl)
theorem d_Mod_go_59 : decode prog_13_method_40_code 59 = .ok (.iconst 2, 1) := id_Mod_go_1 (59, .iconst 2, 1) (List.mem_of_getElem? (i := 9) rfl)
theorem d_Mod_go_60 : decode prog_13_method_40_code 60 = .ok (.invokevirtual 287, 3) := id_Mod_go_1 (60, .invokevirtual 287, 3) (List.mem_of_getElem? (i := 10) rfl)
theorem d_Mod_go_63 : decode prog_13_method_40_code 63 = .ok (.return_, 1) := id_Mod_go_1 (63, .return_, 1) (List.mem_of_getElem? (i := 11) rfl)
theorem d_Mod_go_64 : decode prog_13_method_40_code 64 = .ok (.iconst 0, 1) := id_Mod_go_1 (64, .iconst 0, 1) (List.mem_of_getElem? (i := 12) rfl)
theorem d_Mod_go_65 : decode prog_13_method_40_code 65 = .ok (.istore 5, 2) := id_Mod_go_1 (65, .istore 5, 2) (List.mem_of_getElem? (i := 13) rfl)
theorem d_Mod_go_67 : decode prog_13_method_40_code 67 = .ok (.iconst 0, 1) := id_Mod_go_1 (67, .iconst 0, 1) (List.mem_of_getElem? (i := 14) rfl)
theorem d_Mod_go_68 : decode prog_13_method_40_code 68 = .ok (.istore 6, 2) := id_Mod_go_1 (68, .istore 6, 2) (List.mem_of_getElem? (i := 15) rfl)
theorem d_Mod_go_70 : decode prog_13_method_40_code 70 = .ok (.iconst 0, 1) := id_Mod_go_1 (70, .iconst 0, 1) (List.mem_of_getElem? (i := 16) rfl)
theorem d_Mod_go_71 : decode prog_13_method_40_code 71 = .ok (.istore 7, 2) := id_Mod_go_1 (71, .istore 7, 2) (List.mem_of_getElem? (i := 17) rfl)
theorem d_Mod_go_73 : decode prog_13_method_40_code 73 = .ok (.iload 7, 2) := id_Mod_go_1 (73, .iload 7, 2) (List.mem_of_getElem? (i := 18) rfl)
theorem d_Mod_go_75 : decode prog_13_method_40_code 75 = .ok (.bipush (32), 2) := id_Mod_go_1 (75, .bipush (32), 2) (List.mem_of_getElem? (i := 19) rfl)
theorem d_Mod_go_77 : decode prog_13_method_40_code 77 = .ok (.if_icmp .ge (111), 3) := id_Mod_go_1 (77, .if_icmp .ge (111), 3) (List.mem_of_getElem? (i := 20) rfl)
theorem d_Mod_go_80 : decode prog_13_method_40_code 80 = .ok (.aload_n 0, 1) := id_Mod_go_1 (80, .aload_n 0, 1) (List.mem_of_getElem? (i := 21) rfl)
theorem d_Mod_go_81 : decode prog_13_method_40_code 81 = .ok (.getfield 111, 3) := id_Mod_go_1 (81, .getfield 111, 3) (List.mem_of_getElem? (i := 22) rfl)
theorem d_Mod_go_84 : decode prog_13_method_40_code 84 = .ok (.iload 7, 2) := id_Mod_go_1 (84, .iload 7, 2) (List.mem_of_getElem? (i := 23) rfl)
def it_Mod_go_2 : List (Nat × ClassFile.Instr × Nat) := [(86, .aload_n 0, 1), (87, .getfield 108, 3), (90, .iload 7, 2), (92, .baload, 1), (93, .ifCond .eq (47), 3), (96, .aload_n 0, 1), (97, .getfield 234, 3), (100, .bipush (8), 2), (102, .if_icmp .lt (34), 3), (105, .aload_n 0, 1), (106, .iload_n 2, 1), (107, .iload 7, 2), (109, .invokestatic 211, 3), (112, .aload_n 0, 1), (113, .getfield 234, 3), (116, .invokevirtual 291, 3), (119, .aload_n 0, 1), (120, .getfield 234, 3), (123, .iconst 4, 1), (124, .iand, 1), (125, .ifCond .eq (7), 3), (128, .iconst 1, 1), (129, .goto (4), 3), (132, .iconst 0, 1)]
theorem id_Mod_go_2 : ∀ q ∈ it_Mod_go_2, decode prog_13_method_40_code q.1 = .ok q.2 := by decide +kernel
theorem d_Mod_go_86 : decode prog_13_method_40_code 86 = .ok (.aload_n 0, 1) := id_Mod_go_2 (86, .aload_n 0, 1) (List.mem_of_getElem? (i := 0) rfl)
theorem d_Mod_go_87 : decode prog_13_method_40_code 87 = .ok (.getfield 108, 3) := id_Mod_go_2 (87, .getfield 108, 3) (List.mem_of_getElem? (i := 1) rfl)
theorem d_Mod_go_90 : decode prog_13_method_40_code 90 = .ok (.iload 7, 2) := id_Mod_go_2 (90, .iload 7, 2) (List.mem_of_getElem? (i := 2) rfl)
theorem d_Mod_go_92 : decode prog_13_method_40_code 92 = .ok (.baload, 1) := id_Mod_go_2 (92, .baload, 1) (List.mem_of_getElem? (i := 3) rfl)
theorem d_Mod_go_93 : decode prog_13_method_40_code 93 = .ok (.ifCond .eq (47), 3) := id_Mod_go_2 (93, .ifCond .eq (47), 3) (List.mem_of_getElem? (i := 4) rfl)
theorem d_Mod_go_96 : decode prog_13_method_40_code 96 = .ok (.aload_n 0, 1) := id_Mod_go_2 (96, .aload_n 0, 1) (List.mem_of_getElem? (i := 5) rfl)
theorem d_Mod_go_97 : decode prog_13_method_40_code 97 = .ok (.getfield 234, 3) := id_Mod_go_2 (97, .getfield 234, 3) (List.mem_of_getElem? (i := 6) rfl)
theorem d_Mod_go_100 : decode prog_13_method_40_code 100 = .ok (.bipush (8), 2) := id_Mod_go_2 (100, .bipush (8), 2) (List.mem_of_getElem? (i := 7) rfl)
theorem d_Mod_go_102 : decode prog_13_method_40_code 102 = .ok (.if_icmp .lt (34), 3) := id_Mod_go_2 (102, .if_icmp .lt (34), 3) (List.mem_of_getElem? (i := 8) rfl)
theorem d_Mod_go_105 : decode prog_13_method_40_code 105 = .ok (.aload_n 0, 1) := id_Mod_go_2 (105, .aload_n 0, 1) (List.mem_of_getElem? (i := 9) rfl)
theorem d_Mod_go_106 : decode prog_13_method_40_code 106 = .ok (.iload_n 2, 1) := id_Mod_go_2 (106, .iload_n 2, 1) (List.mem_of_getElem? (i := 10) rfl)
theorem d_Mod_go_107 : decode prog_13_method_40_code 107 = .ok (.iload 7, 2) := id_Mod_go_2 (107, .iload 7, 2) (List.mem_of_getElem? (i := 11) rfl)
theorem d_Mod_go_109 : decode prog_13_method_40_code 109 = .ok (.invokestatic 211, 3) := id_Mod_go_2 (109, .invokestatic 211, 3) (List.mem_of_getElem? (i := 12) rfl)
theorem d_Mod_go_112 : decode prog_13_method_40_code 112 = .ok (.aload_n 0, 1) := id_Mod_go_2 (112, .aload_n 0, 1) (List.mem_of_getElem? (i := 13) rfl)
theorem d_Mod_go_113 : decode prog_13_method_40_code 113 = .ok (.getfield 234, 3) := id_Mod_go_2 (113, .getfield 234, 3) (List.mem_of_getElem? (i := 14) rfl)
theorem d_Mod_go_116 : decode prog_13_method_40_code 116 = .ok (.invokevirtual 291, 3) := id_Mod_go_2 (116, .invokevirtual 291, 3) (List.mem_of_getElem? (i := 15) rfl)
theorem d_Mod_go_119 : decode prog_13_method_40_code 119 = .ok (.aload_n 0, 1) := id_Mod_go_2 (119, .aload_n 0, 1) (List.mem_of_getElem? (i := 16) rfl)
theorem d_Mod_go_120 : decode prog_13_method_40_code 120 = .ok (.getfield 234, 3) := id_Mod_go_2 (120, .getfield 234, 3) (List.mem_of_getElem? (i := 17) rfl)
theorem d_Mod_go_123 : decode prog_13_method_40_code 123 = .ok (.iconst 4, 1) := id_Mod_go_2 (123, .iconst 4, 1) (List.mem_of_getElem? (i := 18) rfl)
theorem d_Mod_go_124 : decode prog_13_method_40_code 124 = .ok (.iand, 1) := id_Mod_go_2 (124, .iand, 1) (List.mem_of_getElem? (i := 19) rfl)
theorem d_Mod_go_125 : decode prog_13_method_40_code 125 = .ok (.ifCond .eq (7), 3) := id_Mod_go_2 (125, .ifCond .eq (7), 3) (List.mem_of_getElem? (i := 20) rfl)
theorem d_Mod_go_128 : decode prog_13_method_40_code 128 = .ok (.iconst 1, 1) := id_Mod_go_2 (128, .iconst 1, 1) (List.mem_of_getElem? (i := 21) rfl)
theorem d_Mod_go_129 : decode prog_13_method_40_code 129 = .ok (.goto (4), 3) := id_Mod_go_2 (129, .goto (4), 3) (List.mem_of_getElem? (i := 22) rfl)
theorem d_Mod_go_132 : decode prog_13_method_40_code 132 = .ok (.iconst 0, 1) := id_Mod_go_2 (132, .iconst 0, 1) (List.mem_of_getElem? (i := 23) rfl)
def it_Mod_go_3 : List (Nat × ClassFile.Instr × Nat) := [(133, .if_icmp .eq (7), 3), (136, .iconst 1, 1), (137, .goto (4), 3), (140, .iconst 0, 1), (141, .bastore, 1), (142, .iload 5, 2), (144, .aload_n 0, 1), (145, .getfield 111, 3), (148, .iload 7, 2), (150, .baload, 1), (151, .ifCond .eq (7), 3), (154, .iconst 1, 1), (155, .goto (4), 3), (158, .iconst 0, 1), (159, .iadd, 1), (160, .istore 5, 2), (162, .iload 6, 2), (164, .aload_n 0, 1), (165, .getfield 108, 3), (168, .iload 7, 2), (170, .baload, 1), (171, .ifCond .eq (7), 3), (174, .iconst 1, 1), (175, .goto (4), 3)]
theorem id_Mod_go_3 : ∀ q ∈ it_Mod_go_3, decode prog_13_method_40_code q.1 = .ok q.2 := by decide +kernel
theorem d_Mod_go_133 : decode prog_13_method_40_code 133 = .ok (.if_icmp .eq (7), 3) := id_Mod_go_3 (133, .if_icmp .eq (7), 3) (List.mem_of_getElem? (i := 0) rfl)
theorem d_Mod_go_136 : decode prog_13_method_40_code 136 = .ok (.iconst 1, 1) := id_Mod_go_3 (136, .iconst 1, 1) (List.mem_of_getElem? (i := 1) rfl)
theorem d_Mod_go_137 : decode prog_13_method_40_code 137 = .ok (.goto (4), 3) := id_Mod_go_3 (137, .goto (4), 3) (List.mem_of_getElem? (i := 2) rfl)
theorem d_Mod_go_140 : decode prog_13_method_40_code 140 = .ok (.iconst 0, 1) := id_Mod_go_3 (140, .iconst 0, 1) (List.mem_of_getElem? (i := 3) rfl)
theorem d_Mod_go_141 : decode prog_13_method_40_code 141 = .ok (.bastore, 1) := id_Mod_go_3 (141, .bastore, 1) (List.mem_of_getElem? (i := 4) rfl)
theorem d_Mod_go_142 : decode prog_13_method_40_code 142 = .ok (.iload 5, 2) := id_Mod_go_3 (142, .iload 5, 2) (List.mem_of_getElem? (i := 5) rfl)
theorem d_Mod_go_144 : decode prog_13_method_40_code 144 = .ok (.aload_n 0, 1) := id_Mod_go_3 (144, .aload_n 0, 1) (List.mem_of_getElem? (i := 6) rfl)
theorem d_Mod_go_145 : decode prog_13_method_40_code 145 = .ok (.getfield 111, 3) := id_Mod_go_3 (145, .getfield 111, 3) (List.mem_of_getElem? (i := 7) rfl)
theorem d_Mod_go_148 : decode prog_13_method_40_code 148 = .ok (.iload 7, 2) := id_Mod_go_3 (148, .iload 7, 2) (List.mem_of_getElem? (i := 8) rfl)
theorem d_Mod_go_150 : decode prog_13_method_40_code 150 = .ok (.baload, 1) := id_Mod_go_3 (150, .baload, 1) (List.mem_of_getElem? (i := 9) rfl)
theorem d_Mod_go_151 : decode prog_13_method_40_code 151 = .ok (.ifCond .eq (7), 3) := id_Mod_go_3 (151, .ifCond .eq (7), 3) (List.mem_of_getElem? (i := 10) rfl)
theorem d_Mod_go_154 : decode prog_13_method_40_code 154 = .ok (.iconst 1, 1) := id_Mod_go_3 (154, .iconst 1, 1) (List.mem_of_getElem? (i := 11) rfl)
theorem d_Mod_go_155 : decode prog_13_method_40_code 155 = .ok (.goto (4), 3) := id_Mod_go_3 (155, .goto (4), 3) (List.mem_of_getElem? (i := 12) rfl)
theorem d_Mod_go_158 : decode prog_13_method_40_code 158 = .ok (.iconst 0, 1) := id_Mod_go_3 (158, .iconst 0, 1) (List.mem_of_getElem? (i := 13) rfl)
theorem d_Mod_go_159 : decode prog_13_method_40_code 159 = .ok (.iadd, 1) := id_Mod_go_3 (159, .iadd, 1) (List.mem_of_getElem? (i := 14) rfl)
theorem d_Mod_go_160 : decode prog_13_method_40_code 160 = .ok (.istore 5, 2) := id_Mod_go_3 (160, .istore 5, 2) (List.mem_of_getElem? (i := 15) rfl)
theorem d_Mod_go_162 : decode prog_13_method_40_code 162 = .ok (.iload 6, 2) := id_Mod_go_3 (162, .iload 6, 2) (List.mem_of_getElem? (i := 16) rfl)
theorem d_Mod_go_164 : decode prog_13_method_40_code 164 = .ok (.aload_n 0, 1) := id_Mod_go_3 (164, .aload_n 0, 1) (List.mem_of_getElem? (i := 17) rfl)
theorem d_Mod_go_165 : decode prog_13_method_40_code 165 = .ok (.getfield 108, 3) := id_Mod_go_3 (165, .getfield 108, 3) (List.mem_of_getElem? (i := 18) rfl)
theorem d_Mod_go_168 : decode prog_13_method_40_code 168 = .ok (.iload 7, 2) := id_Mod_go_3 (168, .iload 7, 2) (List.mem_of_getElem? (i := 19) rfl)
theorem d_Mod_go_170 : decode prog_13_method_40_code 170 = .ok (.baload, 1) := id_Mod_go_3 (170, .baload, 1) (List.mem_of_getElem? (i := 20) rfl)
theorem d_Mod_go_171 : decode prog_13_method_40_code 171 = .ok (.ifCond .eq (7), 3) := id_Mod_go_3 (171, .ifCond .eq (7), 3) (List.mem_of_getElem? (i := 21) rfl)
theorem d_Mod_go_174 : decode prog_13_method_40_code 174 = .ok (.iconst 1, 1) := id_Mod_go_3 (174, .iconst 1, 1) (List.mem_of_getElem? (i := 22) rfl)
theorem d_Mod_go_175 : decode prog_13_method_40_code 175 = .ok (.goto (4), 3) := id_Mod_go_3 (175, .goto (4), 3) (List.mem_of_getElem? (i := 23) rfl)
def it_Mod_go_4 : List (Nat × ClassFile.Instr × Nat) := [(178, .iconst 0, 1), (179, .iadd, 1), (180, .istore 6, 2), (182, .iinc 7 (1), 3), (185, .goto (-112), 3), (188, .iconst 0, 1), (189, .istore 7, 2), (191, .iload 7, 2), (193, .aload_n 0, 1), (194, .getfield 7, 3), (197, .if_icmp .ge (53), 3), (200, .aload_n 0, 1), (201, .getfield 111, 3), (204, .iload 7, 2), (206, .baload, 1), (207, .ifCond .eq (16), 3), (210, .aload_n 0, 1), (211, .iload_n 2, 1), (212, .iload 7, 2), (214, .invokestatic 211, 3), (217, .invokevirtual 294, 3), (220, .goto (4), 3), (223, .iconst 0, 1), (224, .istore 8, 2)]
theorem id_Mod_go_4 : ∀ q ∈ it_Mod_go_4, decode prog_13_method_40_code q.1 = .ok q.2 := by decide +kernel
theorem d_Mod_go_178 : decode prog_13_method_40_code 178 = .ok (.iconst 0, 1) := id_Mod_go_4 (178, .iconst 0, 1) (List.mem_of_getElem? (i := 0) rfl)
theorem d_Mod_go_179 : decode prog_13_method_40_code 179 = .ok (.iadd, 1) := id_Mod_go_4 (179, .iadd, 1) (List.mem_of_getElem? (i := 1) rfl)
theorem d_Mod_go_180 : decode prog_13_method_40_code 180 = .ok (.istore 6, 2) := id_Mod_go_4 (180, .istore 6, 2) (List.mem_of_getElem? (i := 2) rfl)
theorem d_Mod_go_182 : decode prog_13_method_40_code 182 = .ok (.iinc 7 (1), 3) := id_Mod_go_4 (182, .iinc 7 (1), 3) (List.mem_of_getElem? (i := 3) rfl)
theorem d_Mod_go_185 : decode prog_13_method_40_code 185 = .ok (.goto (-112), 3) := id_Mod_go_4 (185, .goto (-112), 3) (List.mem_of_getElem? (i := 4) rfl)
theorem d_Mod_go_188 : decode prog_13_method_40_code 188 = .ok (.iconst 0, 1) := id_Mod_go_4 (188, .iconst 0, 1) (List.mem_of_getElem? (i := 5) rfl)
theorem d_Mod_go_189 : decode prog_13_method_40_code 189 = .ok (.istore 7, 2) := id_Mod_go_4 (189, .istore 7, 2) (List.mem_of_getElem? (i := 6) rfl)
theorem d_Mod_go_191 : decode prog_13_method_40_code 191 = .ok (.iload 7, 2) := id_Mod_go_4 (191, .iload 7, 2) (List.mem_of_getElem? (i := 7) rfl)
theorem d_Mod_go_193 : decode prog_13_method_40_code 193 = .ok (.aload_n 0, 1) := id_Mod_go_4 (193, .aload_n 0, 1) (List.mem_of_getElem? (i := 8) rfl)
theorem d_Mod_go_194 : decode prog_13_method_40_code 194 = .ok (.getfield 7, 3) := id_Mod_go_4 (194, .getfield 7, 3) (List.mem_of_getElem? (i := 9) rfl)
theorem d_Mod_go_197 : decode prog_13_method_40_code 197 = .ok (.if_icmp .ge (53), 3) := id_Mod_go_4 (197, .if_icmp .ge (53), 3) (List.mem_of_getElem? (i := 10) rfl)
theorem d_Mod_go_200 : decode prog_13_method_40_code 200 = .ok (.aload_n 0, 1) := id_Mod_go_4 (200, .aload_n 0, 1) (List.mem_of_getElem? (i := 11) rfl)
theorem d_Mod_go_201 : decode prog_13_method_40_code 201 = .ok (.getfield 111, 3) := id_Mod_go_4 (201, .getfield 111, 3) (List.mem_of_getElem? (i := 12) rfl)
theorem d_Mod_go_204 : decode prog_13_method_40_code 204 = .ok (.iload 7, 2) := id_Mod_go_4 (204, .iload 7, 2) (List.mem_of_getElem? (i := 13) rfl)
theorem d_Mod_go_206 : decode prog_13_method_40_code 206 = .ok (.baload, 1) := id_Mod_go_4 (206, .baload, 1) (List.mem_of_getElem? (i := 14) rfl)
theorem d_Mod_go_207 : decode prog_13_method_40_code 207 = .ok (.ifCond .eq (16), 3) := id_Mod_go_4 (207, .ifCond .eq (16), 3) (List.mem_of_getElem? (i := 15) rfl)
theorem d_Mod_go_210 : decode prog_13_method_40_code 210 = .ok (.aload_n 0, 1) := id_Mod_go_4 (210, .aload_n 0, 1) (List.mem_of_getElem? (i := 16) rfl)
theorem d_Mod_go_211 : decode prog_13_method_40_code 211 = .ok (.iload_n 2, 1) := id_Mod_go_4 (211, .iload_n 2, 1) (List.mem_of_getElem? (i := 17) rfl)
theorem d_Mod_go_212 : decode prog_13_method_40_code 212 = .ok (.iload 7, 2) := id_Mod_go_4 (212, .iload 7, 2) (List.mem_of_getElem? (i := 18) rfl)
theorem d_Mod_go_214 : decode prog_13_method_40_code 214 = .ok (.invokestatic 211, 3) := id_Mod_go_4 (214, .invokestatic 211, 3) (List.mem_of_getElem? (i := 19) rfl)
theorem d_Mod_go_217 : decode prog_13_method_40_code 217 = .ok (.invokevirtual 294, 3) := id_Mod_go_4 (217, .invokevirtual 294, 3) (List.mem_of_getElem? (i := 20) rfl)
theorem d_Mod_go_220 : decode prog_13_method_40_code 220 = .ok (.goto (4), 3) := id_Mod_go_4 (220, .goto (4), 3) (List.mem_of_getElem? (i := 21) rfl)
theorem d_Mod_go_223 : decode prog_13_method_40_code 223 = .ok (.iconst 0, 1) := id_Mod_go_4 (223, .iconst 0, 1) (List.mem_of_getElem? (i := 22) rfl)
theorem d_Mod_go_224 : decode prog_13_method_40_code 224 = .ok (.istore 8, 2) := id_Mod_go_4 (224, .istore 8, 2) (List.mem_of_getElem? (i := 23) rfl)
def it_Mod_go_5 : List (Nat × ClassFile.Instr × Nat) := [(226, .iload 8, 2), (228, .ifCond .ne (6), 3), (231, .goto (13), 3), (234, .aload_n 0, 1), (235, .iload_n 2, 1), (236, .iload 7, 2), (238, .iload 8, 2), (240, .invokevirtual 287, 3), (243, .return_, 1), (244, .iinc 7 (1), 3), (247, .goto (-56), 3), (250, .aload_n 0, 1), (251, .iload_n 1, 1), (252, .iload_n 2, 1), (253, .invokevirtual 297, 3), (256, .istore 7, 2), (258, .aload_n 0, 1), (259, .dup, 1), (260, .getfield 162, 3), (263, .iconst 1, 1), (264, .iadd, 1), (265, .putfield 162, 3), (268, .aload_n 0, 1), (269, .getfield 51, 3)]
theorem id_Mod_go_5 : ∀ q ∈ it_Mod_go_5, decode prog_13_method_40_code q.1 = .ok q.2 := by decide +kernel
theorem d_Mod_go_226 : decode prog_13_method_40_code 226 = .ok (.iload 8, 2) := id_Mod_go_5 (226, .iload 8, 2) (List.mem_of_getElem? (i := 0) rfl)
theorem d_Mod_go_228 : decode prog_13_method_40_code 228 = .ok (.ifCond .ne (6), 3) := id_Mod_go_5 (228, .ifCond .ne (6), 3) (List.mem_of_getElem? (i := 1) rfl)
theorem d_Mod_go_231 : decode prog_13_method_40_code 231 = .ok (.goto (13), 3) := id_Mod_go_5 (231, .goto (13), 3) (List.mem_of_getElem? (i := 2) rfl)
theorem d_Mod_go_234 : decode prog_13_method_40_code 234 = .ok (.aload_n 0, 1) := id_Mod_go_5 (234, .aload_n 0, 1) (List.mem_of_getElem? (i := 3) rfl)
theorem d_Mod_go_235 : decode prog_13_method_40_code 235 = .ok (.iload_n 2, 1) := id_Mod_go_5 (235, .iload_n 2, 1) (List.mem_of_getElem? (i := 4) rfl)
theorem d_Mod_go_236 : decode prog_13_method_40_code 236 = .ok (.iload 7, 2) := id_Mod_go_5 (236, .iload 7, 2) (List.mem_of_getElem? (i := 5) rfl)
theorem d_Mod_go_238 : decode prog_13_method_40_code 238 = .ok (.iload 8, 2) := id_Mod_go_5 (238, .iload 8, 2) (List.mem_of_getElem? (i := 6) rfl)
theorem d_Mod_go_240 : decode prog_13_method_40_code 240 = .ok (.invokevirtual 287, 3) := id_Mod_go_5 (240, .invokevirtual 287, 3) (List.mem_of_getElem? (i := 7) rfl)
theorem d_Mod_go_243 : decode prog_13_method_40_code 243 = .ok (.return_, 1) := id_Mod_go_5 (243, .return_, 1) (List.mem_of_getElem? (i := 8) rfl)
theorem d_Mod_go_244 : decode prog_13_method_40_code 244 = .ok (.iinc 7 (1), 3) := id_Mod_go_5 (244, .iinc 7 (1), 3) (List.mem_of_getElem? (i := 9) rfl)
theorem d_Mod_go_247 : decode prog_13_method_40_code 247 = .ok (.goto (-56), 3) := id_Mod_go_5 (247, .goto (-56), 3) (List.mem_of_getElem? (i := 10) rfl)
theorem d_Mod_go_250 : decode prog_13_method_40_code 250 = .ok (.aload_n 0, 1) := id_Mod_go_5 (250, .aload_n 0, 1) (List.mem_of_getElem? (i := 11) rfl)
theorem d_Mod_go_251 : decode prog_13_method_40_code 251 = .ok (.iload_n 1, 1) := id_Mod_go_5 (251, .iload_n 1, 1) (List.mem_of_getElem? (i := 12) rfl)
theorem d_Mod_go_252 : decode prog_13_method_40_code 252 = .ok (.iload_n 2, 1) := id_Mod_go_5 (252, .iload_n 2, 1) (List.mem_of_getElem? (i := 13) rfl)
theorem d_Mod_go_253 : decode prog_13_method_40_code 253 = .ok (.invokevirtual 297, 3) := id_Mod_go_5 (253, .invokevirtual 297, 3) (List.mem_of_getElem? (i := 14) rfl)
theorem d_Mod_go_256 : decode prog_13_method_40_code 256 = .ok (.istore 7, 2) := id_Mod_go_5 (256, .istore 7, 2) (List.mem_of_getElem? (i := 15) rfl)
theorem d_Mod_go_258 : decode prog_13_method_40_code 258 = .ok (.aload_n 0, 1) := id_Mod_go_5 (258, .aload_n 0, 1) (List.mem_of_getElem? (i := 16) rfl)
theorem d_Mod_go_259 : decode prog_13_method_40_code 259 = .ok (.dup, 1) := id_Mod_go_5 (259, .dup, 1) (List.mem_of_getElem? (i := 17) rfl)
theorem d_Mod_go_260 : decode prog_13_method_40_code 260 = .ok (.getfield 162, 3) := id_Mod_go_5 (260, .getfield 162, 3) (List.mem_of_getElem? (i := 18) rfl)
theorem d_Mod_go_263 : decode prog_13_method_40_code 263 = .ok (.iconst 1, 1) := id_Mod_go_5 (263, .iconst 1, 1) (List.mem_of_getElem? (i := 19) rfl)
theorem d_Mod_go_264 : decode prog_13_method_40_code 264 = .ok (.iadd, 1) := id_Mod_go_5 (264, .iadd, 1) (List.mem_of_getElem? (i := 20) rfl)
theorem d_Mod_go_265 : decode prog_13_method_40_code 265 = .ok (.putfield 162, 3) := id_Mod_go_5 (265, .putfield 162, 3) (List.mem_of_getElem? (i := 21) rfl)
theorem d_Mod_go_268 : decode prog_13_method_40_code 268 = .ok (.aload_n 0, 1) := id_Mod_go_5 (268, .aload_n 0, 1) (List.mem_of_getElem? (i := 22) rfl)
theorem d_Mod_go_269 : decode prog_13_method_40_code 269 = .ok (.getfield 51, 3) := id_Mod_go_5 (269, .getfield 51, 3) (List.mem_of_getElem? (i := 23) rfl)
def it_Mod_go_6 : List (Nat × ClassFile.Instr × Nat) := [(272, .iload_n 1, 1), (273, .dup2, 1), (274, .iaload, 1), (275, .iconst 1, 1), (276, .iadd, 1), (277, .iastore, 1), (278, .aload_n 0, 1), (279, .dup, 1), (280, .getfield 165, 3), (283, .iload 5, 2), (285, .iadd, 1), (286, .putfield 165, 3), (289, .aload_n 0, 1), (290, .dup, 1), (291, .getfield 168, 3), (294, .iload 5, 2), (296, .iload 6, 2), (298, .if_icmp .ge (7), 3), (301, .iconst 1, 1), (302, .goto (4), 3), (305, .iconst 0, 1), (306, .iadd, 1), (307, .putfield 168, 3), (310, .aload_n 0, 1)]
theorem id_Mod_go_6 : ∀ q ∈ it_Mod_go_6, decode prog_13_method_40_code q.1 = .ok q.2 := by decide +kernel
theorem d_Mod_go_272 : decode prog_13_method_40_code 272 = .ok (.iload_n 1, 1) := id_Mod_go_6 (272, .iload_n 1, 1) (List.mem_of_getElem? (i := 0) rfl)
theorem d_Mod_go_273 : decode prog_13_method_40_code 273 = .ok (.dup2, 1) := id_Mod_go_6 (273, .dup2, 1) (List.mem_of_getElem? (i := 1) rfl)
theorem d_Mod_go_274 : decode prog_13_method_40_code 274 = .ok (.iaload, 1) := id_Mod_go_6 (274, .iaload, 1) (List.mem_of_getElem? (i := 2) rfl)
theorem d_Mod_go_275 : decode prog_13_method_40_code 275 = .ok (.iconst 1, 1) := id_Mod_go_6 (275, .iconst 1, 1) (List.mem_of_getElem? (i := 3) rfl)
theorem d_Mod_go_276 : decode prog_13_method_40_code 276 = .ok (.iadd, 1) := id_Mod_go_6 (276, .iadd, 1) (List.mem_of_getElem? (i := 4) rfl)
theorem d_Mod_go_277 : decode prog_13_method_40_code 277 = .ok (.iastore, 1) := id_Mod_go_6 (277, .iastore, 1) (List.mem_of_getElem? (i := 5) rfl)
theorem d_Mod_go_278 : decode prog_13_method_40_code 278 = .ok (.aload_n 0, 1) := id_Mod_go_6 (278, .aload_n 0, 1) (List.mem_of_getElem? (i := 6) rfl)
theorem d_Mod_go_279 : decode prog_13_method_40_code 279 = .ok (.dup, 1) := id_Mod_go_6 (279, .dup, 1) (List.mem_of_getElem? (i := 7) rfl)
theorem d_Mod_go_280 : decode prog_13_method_40_code 280 = .ok (.getfield 165, 3) := id_Mod_go_6 (280, .getfield 165, 3) (List.mem_of_getElem? (i := 8) rfl)
theorem d_Mod_go_283 : decode prog_13_method_40_code 283 = .ok (.iload 5, 2) := id_Mod_go_6 (283, .iload 5, 2) (List.mem_of_getElem? (i := 9) rfl)
theorem d_Mod_go_285 : decode prog_13_method_40_code 285 = .ok (.iadd, 1) := id_Mod_go_6 (285, .iadd, 1) (List.mem_of_getElem? (i := 10) rfl)
theorem d_Mod_go_286 : decode prog_13_method_40_code 286 = .ok (.putfield 165, 3) := id_Mod_go_6 (286, .putfield 165, 3) (List.mem_of_getElem? (i := 11) rfl)
theorem d_Mod_go_289 : decode prog_13_method_40_code 289 = .ok (.aload_n 0, 1) := id_Mod_go_6 (289, .aload_n 0, 1) (List.mem_of_getElem? (i := 12) rfl)
theorem d_Mod_go_290 : decode prog_13_method_40_code 290 = .ok (.dup, 1) := id_Mod_go_6 (290, .dup, 1) (List.mem_of_getElem? (i := 13) rfl)
theorem d_Mod_go_291 : decode prog_13_method_40_code 291 = .ok (.getfield 168, 3) := id_Mod_go_6 (291, .getfield 168, 3) (List.mem_of_getElem? (i := 14) rfl)
theorem d_Mod_go_294 : decode prog_13_method_40_code 294 = .ok (.iload 5, 2) := id_Mod_go_6 (294, .iload 5, 2) (List.mem_of_getElem? (i := 15) rfl)
theorem d_Mod_go_296 : decode prog_13_method_40_code 296 = .ok (.iload 6, 2) := id_Mod_go_6 (296, .iload 6, 2) (List.mem_of_getElem? (i := 16) rfl)
theorem d_Mod_go_298 : decode prog_13_method_40_code 298 = .ok (.if_icmp .ge (7), 3) := id_Mod_go_6 (298, .if_icmp .ge (7), 3) (List.mem_of_getElem? (i := 17) rfl)
theorem d_Mod_go_301 : decode prog_13_method_40_code 301 = .ok (.iconst 1, 1) := id_Mod_go_6 (301, .iconst 1, 1) (List.mem_of_getElem? (i := 18) rfl)
theorem d_Mod_go_302 : decode prog_13_method_40_code 302 = .ok (.goto (4), 3) := id_Mod_go_6 (302, .goto (4), 3) (List.mem_of_getElem? (i := 19) rfl)
theorem d_Mod_go_305 : decode prog_13_method_40_code 305 = .ok (.iconst 0, 1) := id_Mod_go_6 (305, .iconst 0, 1) (List.mem_of_getElem? (i := 20) rfl)
theorem d_Mod_go_306 : decode prog_13_method_40_code 306 = .ok (.iadd, 1) := id_Mod_go_6 (306, .iadd, 1) (List.mem_of_getElem? (i := 21) rfl)
theorem d_Mod_go_307 : decode prog_13_method_40_code 307 = .ok (.putfield 168, 3) := id_Mod_go_6 (307, .putfield 168, 3) (List.mem_of_getElem? (i := 22) rfl)
theorem d_Mod_go_310 : decode prog_13_method_40_code 310 = .ok (.aload_n 0, 1) := id_Mod_go_6 (310, .aload_n 0, 1) (List.mem_of_getElem? (i := 23) rfl)
def it_Mod_go_7 : List (Nat × ClassFile.Instr × Nat) := [(311, .iload_n 2, 1), (312, .invokevirtual 300, 3), (315, .iconst 0, 1), (316, .istore 8, 2), (318, .iload 8, 2), (320, .aload_n 0, 1), (321, .getfield 7, 3), (324, .if_icmp .ge (71), 3), (327, .aload_n 0, 1), (328, .getfield 108, 3), (331, .iload 8, 2), (333, .baload, 1), (334, .ifCond .ne (6), 3), (337, .goto (52), 3), (340, .iload_n 2, 1), (341, .iload 8, 2), (343, .invokestatic 211, 3), (346, .istore 9, 2), (348, .aload_n 0, 1), (349, .getfield 73, 3), (352, .iload 9, 2), (354, .iaload, 1), (355, .istore 10, 2), (357, .aload_n 0, 1)]
theorem id_Mod_go_7 : ∀ q ∈ it_Mod_go_7, decode prog_13_method_40_code q.1 = .ok q.2 := by decide +kernel
theorem d_Mod_go_311 : decode prog_13_method_40_code 311 = .ok (.iload_n 2, 1) := id_Mod_go_7 (311, .iload_n 2, 1) (List.mem_of_getElem? (i := 0) rfl)
theorem d_Mod_go_312 : decode prog_13_method_40_code 312 = .ok (.invokevirtual 300, 3) := id_Mod_go_7 (312, .invokevirtual 300, 3) (List.mem_of_getElem? (i := 1) rfl)
theorem d_Mod_go_315 : decode prog_13_method_40_code 315 = .ok (.iconst 0, 1) := id_Mod_go_7 (315, .iconst 0, 1) (List.mem_of_getElem? (i := 2) rfl)
theorem d_Mod_go_316 : decode prog_13_method_40_code 316 = .ok (.istore 8, 2) := id_Mod_go_7 (316, .istore 8, 2) (List.mem_of_getElem? (i := 3) rfl)
theorem d_Mod_go_318 : decode prog_13_method_40_code 318 = .ok (.iload 8, 2) := id_Mod_go_7 (318, .iload 8, 2) (List.mem_of_getElem? (i := 4) rfl)
theorem d_Mod_go_320 : decode prog_13_method_40_code 320 = .ok (.aload_n 0, 1) := id_Mod_go_7 (320, .aload_n 0, 1) (List.mem_of_getElem? (i := 5) rfl)
theorem d_Mod_go_321 : decode prog_13_method_40_code 321 = .ok (.getfield 7, 3) := id_Mod_go_7 (321, .getfield 7, 3) (List.mem_of_getElem? (i := 6) rfl)
theorem d_Mod_go_324 : decode prog_13_method_40_code 324 = .ok (.if_icmp .ge (71), 3) := id_Mod_go_7 (324, .if_icmp .ge (71), 3) (List.mem_of_getElem? (i := 7) rfl)
theorem d_Mod_go_327 : decode prog_13_method_40_code 327 = .ok (.aload_n 0, 1) := id_Mod_go_7 (327, .aload_n 0, 1) (List.mem_of_getElem? (i := 8) rfl)
theorem d_Mod_go_328 : decode prog_13_method_40_code 328 = .ok (.getfield 108, 3) := id_Mod_go_7 (328, .getfield 108, 3) (List.mem_of_getElem? (i := 9) rfl)
theorem d_Mod_go_331 : decode prog_13_method_40_code 331 = .ok (.iload 8, 2) := id_Mod_go_7 (331, .iload 8, 2) (List.mem_of_getElem? (i := 10) rfl)
theorem d_Mod_go_333 : decode prog_13_method_40_code 333 = .ok (.baload, 1) := id_Mod_go_7 (333, .baload, 1) (List.mem_of_getElem? (i := 11) rfl)
theorem d_Mod_go_334 : decode prog_13_method_40_code 334 = .ok (.ifCond .ne (6), 3) := id_Mod_go_7 (334, .ifCond .ne (6), 3) (List.mem_of_getElem? (i := 12) rfl)
theorem d_Mod_go_337 : decode prog_13_method_40_code 337 = .ok (.goto (52), 3) := id_Mod_go_7 (337, .goto (52), 3) (List.mem_of_getElem? (i := 13) rfl)
theorem d_Mod_go_340 : decode prog_13_method_40_code 340 = .ok (.iload_n 2, 1) := id_Mod_go_7 (340, .iload_n 2, 1) (List.mem_of_getElem? (i := 14) rfl)
theorem d_Mod_go_341 : decode prog_13_method_40_code 341 = .ok (.iload 8, 2) := id_Mod_go_7 (341, .iload 8, 2) (List.mem_of_getElem? (i := 15) rfl)
theorem d_Mod_go_343 : decode prog_13_method_40_code 343 = .ok (.invokestatic 211, 3) := id_Mod_go_7 (343, .invokestatic 211, 3) (List.mem_of_getElem? (i := 16) rfl)
theorem d_Mod_go_346 : decode prog_13_method_40_code 346 = .ok (.istore 9, 2) := id_Mod_go_7 (346, .istore 9, 2) (List.mem_of_getElem? (i := 17) rfl)
theorem d_Mod_go_348 : decode prog_13_method_40_code 348 = .ok (.aload_n 0, 1) := id_Mod_go_7 (348, .aload_n 0, 1) (List.mem_of_getElem? (i := 18) rfl)
theorem d_Mod_go_349 : decode prog_13_method_40_code 349 = .ok (.getfield 73, 3) := id_Mod_go_7 (349, .getfield 73, 3) (List.mem_of_getElem? (i := 19) rfl)
theorem d_Mod_go_352 : decode prog_13_method_40_code 352 = .ok (.iload 9, 2) := id_Mod_go_7 (352, .iload 9, 2) (List.mem_of_getElem? (i := 20) rfl)
theorem d_Mod_go_354 : decode prog_13_method_40_code 354 = .ok (.iaload, 1) := id_Mod_go_7 (354, .iaload, 1) (List.mem_of_getElem? (i := 21) rfl)
theorem d_Mod_go_355 : decode prog_13_method_40_code 355 = .ok (.istore 10, 2) := id_Mod_go_7 (355, .istore 10, 2) (List.mem_of_getElem? (i := 22) rfl)
theorem d_Mod_go_357 : decode prog_13_method_40_code 357 = .ok (.aload_n 0, 1) := id_Mod_go_7 (357, .aload_n 0, 1) (List.mem_of_getElem? (i := 23) rfl)
def it_Mod_go_8 : List (Nat × ClassFile.Instr × Nat) := [(358, .getfield 73, 3), (361, .iload 9, 2), (363, .iload 10, 2), (365, .iconst 1, 1), (366, .iadd, 1), (367, .iastore, 1), (368, .aload_n 0, 1), (369, .getfield 111, 3), (372, .iload 8, 2), (374, .baload, 1), (375, .ifCond .eq (14), 3), (378, .aload_n 0, 1), (379, .iload_n 2, 1), (380, .iload 8, 2), (382, .iload 9, 2), (384, .iload 10, 2), (386, .invokevirtual 303, 3), (389, .iinc 8 (1), 3), (392, .goto (-74), 3), (395, .aload_n 0, 1), (396, .invokevirtual 269, 3), (399, .ifCond .eq (24), 3), (402, .aload_n 0, 1), (403, .getfield 63, 3)]
theorem id_Mod_go_8 : ∀ q ∈ it_Mod_go_8, decode prog_13_method_40_code q.1 = .ok q.2 := by decide +kernel
theorem d_Mod_go_358 : decode prog_13_method_40_code 358 = .ok (.getfield 73, 3) := id_Mod_go_8 (358, .getfield 73, 3) (List.mem_of_getElem? (i := 0) rfl)
theorem d_Mod_go_361 : decode prog_13_method_40_code 361 = .ok (.iload 9, 2) := id_Mod_go_8 (361, .iload 9, 2) (List.mem_of_getElem? (i := 1) rfl)
theorem d_Mod_go_363 : decode prog_13_method_40_code 363 = .ok (.iload 10, 2) := id_Mod_go_8 (363, .iload 10, 2) (List.mem_of_getElem? (i := 2) rfl)
theorem d_Mod_go_365 : decode prog_13_method_40_code 365 = .ok (.iconst 1, 1) := id_Mod_go_8 (365, .iconst 1, 1) (List.mem_of_getElem? (i := 3) rfl)
theorem d_Mod_go_366 : decode prog_13_method_40_code 366 = .ok (.iadd, 1) := id_Mod_go_8 (366, .iadd, 1) (List.mem_of_getElem? (i := 4) rfl)
theorem d_Mod_go_367 : decode prog_13_method_40_code 367 = .ok (.iastore, 1) := id_Mod_go_8 (367, .iastore, 1) (List.mem_of_getElem? (i := 5) rfl)
theorem d_Mod_go_368 : decode prog_13_method_40_code 368 = .ok (.aload_n 0, 1) := id_Mod_go_8 (368, .aload_n 0, 1) (List.mem_of_getElem? (i := 6) rfl)
theorem d_Mod_go_369 : decode prog_13_method_40_code 369 = .ok (.getfield 111, 3) := id_Mod_go_8 (369, .getfield 111, 3) (List.mem_of_getElem? (i := 7) rfl)
theorem d_Mod_go_372 : decode prog_13_method_40_code 372 = .ok (.iload 8, 2) := id_Mod_go_8 (372, .iload 8, 2) (List.mem_of_getElem? (i := 8) rfl)
theorem d_Mod_go_374 : decode prog_13_method_40_code 374 = .ok (.baload, 1) := id_Mod_go_8 (374, .baload, 1) (List.mem_of_getElem? (i := 9) rfl)
theorem d_Mod_go_375 : decode prog_13_method_40_code 375 = .ok (.ifCond .eq (14), 3) := id_Mod_go_8 (375, .ifCond .eq (14), 3) (List.mem_of_getElem? (i := 10) rfl)
theorem d_Mod_go_378 : decode prog_13_method_40_code 378 = .ok (.aload_n 0, 1) := id_Mod_go_8 (378, .aload_n 0, 1) (List.mem_of_getElem? (i := 11) rfl)
theorem d_Mod_go_379 : decode prog_13_method_40_code 379 = .ok (.iload_n 2, 1) := id_Mod_go_8 (379, .iload_n 2, 1) (List.mem_of_getElem? (i := 12) rfl)
theorem d_Mod_go_380 : decode prog_13_method_40_code 380 = .ok (.iload 8, 2) := id_Mod_go_8 (380, .iload 8, 2) (List.mem_of_getElem? (i := 13) rfl)
theorem d_Mod_go_382 : decode prog_13_method_40_code 382 = .ok (.iload 9, 2) := id_Mod_go_8 (382, .iload 9, 2) (List.mem_of_getElem? (i := 14) rfl)
theorem d_Mod_go_384 : decode prog_13_method_40_code 384 = .ok (.iload 10, 2) := id_Mod_go_8 (384, .iload 10, 2) (List.mem_of_getElem? (i := 15) rfl)
theorem d_Mod_go_386 : decode prog_13_method_40_code 386 = .ok (.invokevirtual 303, 3) := id_Mod_go_8 (386, .invokevirtual 303, 3) (List.mem_of_getElem? (i := 16) rfl)
theorem d_Mod_go_389 : decode prog_13_method_40_code 389 = .ok (.iinc 8 (1), 3) := id_Mod_go_8 (389, .iinc 8 (1), 3) (List.mem_of_getElem? (i := 17) rfl)
theorem d_Mod_go_392 : decode prog_13_method_40_code 392 = .ok (.goto (-74), 3) := id_Mod_go_8 (392, .goto (-74), 3) (List.mem_of_getElem? (i := 18) rfl)
theorem d_Mod_go_395 : decode prog_13_method_40_code 395 = .ok (.aload_n 0, 1) := id_Mod_go_8 (395, .aload_n 0, 1) (List.mem_of_getElem? (i := 19) rfl)
theorem d_Mod_go_396 : decode prog_13_method_40_code 396 = .ok (.invokevirtual 269, 3) := id_Mod_go_8 (396, .invokevirtual 269, 3) (List.mem_of_getElem? (i := 20) rfl)
theorem d_Mod_go_399 : decode prog_13_method_40_code 399 = .ok (.ifCond .eq (24), 3) := id_Mod_go_8 (399, .ifCond .eq (24), 3) (List.mem_of_getElem? (i := 21) rfl)
theorem d_Mod_go_402 : decode prog_13_method_40_code 402 = .ok (.aload_n 0, 1) := id_Mod_go_8 (402, .aload_n 0, 1) (List.mem_of_getElem? (i := 22) rfl)
theorem d_Mod_go_403 : decode prog_13_method_40_code 403 = .ok (.getfield 63, 3) := id_Mod_go_8 (403, .getfield 63, 3) (List.mem_of_getElem? (i := 23) rfl)
def it_Mod_go_9 : List (Nat × ClassFile.Instr × Nat) := [(406, .bipush (20), 2), (408, .iload_n 2, 1), (409, .imul, 1), (410, .aload_n 0, 1), (411, .getfield 225, 3), (414, .iadd, 1), (415, .aload_n 0, 1), (416, .getfield 159, 3), (419, .iload 7, 2), (421, .iadd, 1), (422, .iastore, 1), (423, .aload_n 0, 1), (424, .invokevirtual 272, 3), (427, .ifCond .eq (29), 3), (430, .aload_n 0, 1), (431, .getfield 63, 3), (434, .bipush (20), 2), (436, .iload_n 2, 1), (437, .imul, 1), (438, .bipush (16), 2), (440, .iadd, 1), (441, .aload_n 0, 1), (442, .getfield 225, 3), (445, .iconst 3, 1)]
theorem id_Mod_go_9 : ∀ q ∈ it_Mod_go_9, decode prog_13_method_40_code q.1 = .ok q.2 := by decide +kernel
theorem d_Mod_go_406 : decode prog_13_method_40_code 406 = .ok (.bipush (20), 2) := id_Mod_go_9 (406, .bipush (20), 2) (List.mem_of_getElem? (i := 0) rfl)
theorem d_Mod_go_408 : decode prog_13_method_40_code 408 = .ok (.iload_n 2, 1) := id_Mod_go_9 (408, .iload_n 2, 1) (List.mem_of_getElem? (i := 1) rfl)
theorem d_Mod_go_409 : decode prog_13_method_40_code 409 = .ok (.imul, 1) := id_Mod_go_9 (409, .imul, 1) (List.mem_of_getElem? (i := 2) rfl)
theorem d_Mod_go_410 : decode prog_13_method_40_code 410 = .ok (.aload_n 0, 1) := id_Mod_go_9 (410, .aload_n 0, 1) (List.mem_of_getElem? (i := 3) rfl)
theorem d_Mod_go_411 : decode prog_13_method_40_code 411 = .ok (.getfield 225, 3) := id_Mod_go_9 (411, .getfield 225, 3) (List.mem_of_getElem? (i := 4) rfl)
theorem d_Mod_go_414 : decode prog_13_method_40_code 414 = .ok (.iadd, 1) := id_Mod_go_9 (414, .iadd, 1) (List.mem_of_getElem? (i := 5) rfl)
theorem d_Mod_go_415 : decode prog_13_method_40_code 415 = .ok (.aload_n 0, 1) := id_Mod_go_9 (415, .aload_n 0, 1) (List.mem_of_getElem? (i := 6) rfl)
theorem d_Mod_go_416 : decode prog_13_method_40_code 416 = .ok (.getfield 159, 3) := id_Mod_go_9 (416, .getfield 159, 3) (List.mem_of_getElem? (i := 7) rfl)
theorem d_Mod_go_419 : decode prog_13_method_40_code 419 = .ok (.iload 7, 2) := id_Mod_go_9 (419, .iload 7, 2) (List.mem_of_getElem? (i := 8) rfl)
theorem d_Mod_go_421 : decode prog_13_method_40_code 421 = .ok (.iadd, 1) := id_Mod_go_9 (421, .iadd, 1) (List.mem_of_getElem? (i := 9) rfl)
theorem d_Mod_go_422 : decode prog_13_method_40_code 422 = .ok (.iastore, 1) := id_Mod_go_9 (422, .iastore, 1) (List.mem_of_getElem? (i := 10) rfl)
theorem d_Mod_go_423 : decode prog_13_method_40_code 423 = .ok (.aload_n 0, 1) := id_Mod_go_9 (423, .aload_n 0, 1) (List.mem_of_getElem? (i := 11) rfl)
theorem d_Mod_go_424 : decode prog_13_method_40_code 424 = .ok (.invokevirtual 272, 3) := id_Mod_go_9 (424, .invokevirtual 272, 3) (List.mem_of_getElem? (i := 12) rfl)
theorem d_Mod_go_427 : decode prog_13_method_40_code 427 = .ok (.ifCond .eq (29), 3) := id_Mod_go_9 (427, .ifCond .eq (29), 3) (List.mem_of_getElem? (i := 13) rfl)
theorem d_Mod_go_430 : decode prog_13_method_40_code 430 = .ok (.aload_n 0, 1) := id_Mod_go_9 (430, .aload_n 0, 1) (List.mem_of_getElem? (i := 14) rfl)
theorem d_Mod_go_431 : decode prog_13_method_40_code 431 = .ok (.getfield 63, 3) := id_Mod_go_9 (431, .getfield 63, 3) (List.mem_of_getElem? (i := 15) rfl)
theorem d_Mod_go_434 : decode prog_13_method_40_code 434 = .ok (.bipush (20), 2) := id_Mod_go_9 (434, .bipush (20), 2) (List.mem_of_getElem? (i := 16) rfl)
theorem d_Mod_go_436 : decode prog_13_method_40_code 436 = .ok (.iload_n 2, 1) := id_Mod_go_9 (436, .iload_n 2, 1) (List.mem_of_getElem? (i := 17) rfl)
theorem d_Mod_go_437 : decode prog_13_method_40_code 437 = .ok (.imul, 1) := id_Mod_go_9 (437, .imul, 1) (List.mem_of_getElem? (i := 18) rfl)
theorem d_Mod_go_438 : decode prog_13_method_40_code 438 = .ok (.bipush (16), 2) := id_Mod_go_9 (438, .bipush (16), 2) (List.mem_of_getElem? (i := 19) rfl)
theorem d_Mod_go_440 : decode prog_13_method_40_code 440 = .ok (.iadd, 1) := id_Mod_go_9 (440, .iadd, 1) (List.mem_of_getElem? (i := 20) rfl)
theorem d_Mod_go_441 : decode prog_13_method_40_code 441 = .ok (.aload_n 0, 1) := id_Mod_go_9 (441, .aload_n 0, 1) (List.mem_of_getElem? (i := 21) rfl)
theorem d_Mod_go_442 : decode prog_13_method_40_code 442 = .ok (.getfield 225, 3) := id_Mod_go_9 (442, .getfield 225, 3) (List.mem_of_getElem? (i := 22) rfl)
theorem d_Mod_go_445 : decode prog_13_method_40_code 445 = .ok (.iconst 3, 1) := id_Mod_go_9 (445, .iconst 3, 1) (List.mem_of_getElem? (i := 23) rfl)
def it_Mod_go_10 : List (Nat × ClassFile.Instr × Nat) := [(446, .iand, 1), (447, .iadd, 1), (448, .aload_n 0, 1), (449, .getfield 159, 3), (452, .iload 7, 2), (454, .iadd, 1), (455, .iastore, 1), (456, .aload_n 0, 1), (457, .invokevirtual 240, 3), (460, .ifCond .eq (16), 3), (463, .aload_n 0, 1), (464, .getfield 60, 3), (467, .iload_n 2, 1), (468, .aload_n 0, 1), (469, .getfield 159, 3), (472, .iload 7, 2), (474, .iadd, 1), (475, .iastore, 1), (476, .aload_n 0, 1), (477, .getfield 220, 3), (480, .iconst 2, 1), (481, .if_icmp .ge (13), 3), (484, .aload_n 0, 1), (485, .aload_n 0, 1)]
theorem id_Mod_go_10 : ∀ q ∈ it_Mod_go_10, decode prog_13_method_40_code q.1 = .ok q.2 := by decide +kernel
theorem d_Mod_go_446 : decode prog_13_method_40_code 446 = .ok (.iand, 1) := id_Mod_go_10 (446, .iand, 1) (List.mem_of_getElem? (i := 0) rfl)
theorem d_Mod_go_447 : decode prog_13_method_40_code 447 = .ok (.iadd, 1) := id_Mod_go_10 (447, .iadd, 1) (List.mem_of_getElem? (i := 1) rfl)
theorem d_Mod_go_448 : decode prog_13_method_40_code 448 = .ok (.aload_n 0, 1) := id_Mod_go_10 (448, .aload_n 0, 1) (List.mem_of_getElem? (i := 2) rfl)
theorem d_Mod_go_449 : decode prog_13_method_40_code 449 = .ok (.getfield 159, 3) := id_Mod_go_10 (449, .getfield 159, 3) (List.mem_of_getElem? (i := 3) rfl)
theorem d_Mod_go_452 : decode prog_13_method_40_code 452 = .ok (.iload 7, 2) := id_Mod_go_10 (452, .iload 7, 2) (List.mem_of_getElem? (i := 4) rfl)
theorem d_Mod_go_454 : decode prog_13_method_40_code 454 = .ok (.iadd, 1) := id_Mod_go_10 (454, .iadd, 1) (List.mem_of_getElem? (i := 5) rfl)
theorem d_Mod_go_455 : decode prog_13_method_40_code 455 = .ok (.iastore, 1) := id_Mod_go_10 (455, .iastore, 1) (List.mem_of_getElem? (i := 6) rfl)
theorem d_Mod_go_456 : decode prog_13_method_40_code 456 = .ok (.aload_n 0, 1) := id_Mod_go_10 (456, .aload_n 0, 1) (List.mem_of_getElem? (i := 7) rfl)
theorem d_Mod_go_457 : decode prog_13_method_40_code 457 = .ok (.invokevirtual 240, 3) := id_Mod_go_10 (457, .invokevirtual 240, 3) (List.mem_of_getElem? (i := 8) rfl)
theorem d_Mod_go_460 : decode prog_13_method_40_code 460 = .ok (.ifCond .eq (16), 3) := id_Mod_go_10 (460, .ifCond .eq (16), 3) (List.mem_of_getElem? (i := 9) rfl)
theorem d_Mod_go_463 : decode prog_13_method_40_code 463 = .ok (.aload_n 0, 1) := id_Mod_go_10 (463, .aload_n 0, 1) (List.mem_of_getElem? (i := 10) rfl)
theorem d_Mod_go_464 : decode prog_13_method_40_code 464 = .ok (.getfield 60, 3) := id_Mod_go_10 (464, .getfield 60, 3) (List.mem_of_getElem? (i := 11) rfl)
theorem d_Mod_go_467 : decode prog_13_method_40_code 467 = .ok (.iload_n 2, 1) := id_Mod_go_10 (467, .iload_n 2, 1) (List.mem_of_getElem? (i := 12) rfl)
theorem d_Mod_go_468 : decode prog_13_method_40_code 468 = .ok (.aload_n 0, 1) := id_Mod_go_10 (468, .aload_n 0, 1) (List.mem_of_getElem? (i := 13) rfl)
theorem d_Mod_go_469 : decode prog_13_method_40_code 469 = .ok (.getfield 159, 3) := id_Mod_go_10 (469, .getfield 159, 3) (List.mem_of_getElem? (i := 14) rfl)
theorem d_Mod_go_472 : decode prog_13_method_40_code 472 = .ok (.iload 7, 2) := id_Mod_go_10 (472, .iload 7, 2) (List.mem_of_getElem? (i := 15) rfl)
theorem d_Mod_go_474 : decode prog_13_method_40_code 474 = .ok (.iadd, 1) := id_Mod_go_10 (474, .iadd, 1) (List.mem_of_getElem? (i := 16) rfl)
theorem d_Mod_go_475 : decode prog_13_method_40_code 475 = .ok (.iastore, 1) := id_Mod_go_10 (475, .iastore, 1) (List.mem_of_getElem? (i := 17) rfl)
theorem d_Mod_go_476 : decode prog_13_method_40_code 476 = .ok (.aload_n 0, 1) := id_Mod_go_10 (476, .aload_n 0, 1) (List.mem_of_getElem? (i := 18) rfl)
theorem d_Mod_go_477 : decode prog_13_method_40_code 477 = .ok (.getfield 220, 3) := id_Mod_go_10 (477, .getfield 220, 3) (List.mem_of_getElem? (i := 19) rfl)
theorem d_Mod_go_480 : decode prog_13_method_40_code 480 = .ok (.iconst 2, 1) := id_Mod_go_10 (480, .iconst 2, 1) (List.mem_of_getElem? (i := 20) rfl)
theorem d_Mod_go_481 : decode prog_13_method_40_code 481 = .ok (.if_icmp .ge (13), 3) := id_Mod_go_10 (481, .if_icmp .ge (13), 3) (List.mem_of_getElem? (i := 21) rfl)
theorem d_Mod_go_484 : decode prog_13_method_40_code 484 = .ok (.aload_n 0, 1) := id_Mod_go_10 (484, .aload_n 0, 1) (List.mem_of_getElem? (i := 22) rfl)
theorem d_Mod_go_485 : decode prog_13_method_40_code 485 = .ok (.aload_n 0, 1) := id_Mod_go_10 (485, .aload_n 0, 1) (List.mem_of_getElem? (i := 23) rfl)
def it_Mod_go_11 : List (Nat × ClassFile.Instr × Nat) := [(486, .getfield 54, 3), (489, .iload_n 2, 1), (490, .iaload, 1), (491, .invokevirtual 307, 3), (494, .return_, 1)]
theorem id_Mod_go_11 : ∀ q ∈ it_Mod_go_11, decode prog_13_method_40_code q.1 = .ok q.2 := by decide +kernel
theorem d_Mod_go_486 : decode prog_13_method_40_code 486 = .ok (.getfield 54, 3) := id_Mod_go_11 (486, .getfield 54, 3) (List.mem_of_getElem? (i := 0) rfl)
theorem d_Mod_go_489 : decode prog_13_method_40_code 489 = .ok (.iload_n 2, 1) := id_Mod_go_11 (489, .iload_n 2, 1) (List.mem_of_getElem? (i := 1) rfl)
theorem d_Mod_go_490 : decode prog_13_method_40_code 490 = .ok (.iaload, 1) := id_Mod_go_11 (490, .iaload, 1) (List.mem_of_getElem? (i := 2) rfl)
theorem d_Mod_go_491 : decode prog_13_method_40_code 491 = .ok (.invokevirtual 307, 3) := id_Mod_go_11 (491, .invokevirtual 307, 3) (List.mem_of_getElem? (i := 3) rfl)
theorem d_Mod_go_494 : decode prog_13_method_40_code 494 = .ok (.return_, 1) := id_Mod_go_11 (494, .return_, 1) (List.mem_of_getElem? (i := 4) rfl)
theorem wC_Mod_go : Cond.code ⟨"WarpMillModel", "go", "(II)V"⟩ prog_13_method_40_code 11 (none) ∈ lw_tb := mem_tb 1392 (by decide +kernel) rfl
theorem cw_Mod_go_Mod_firstOfGroup : cW mi_Mod_go mi_Mod_firstOfGroup 0 := ⟨wC_Mod_firstOfGroup, wi_Mod, ⟨by decide, by decide, by decide +kernel⟩, by decide, by decide⟩
theorem cw_Mod_go_Mod_thread : cW mi_Mod_go mi_Mod_thread 2 := ⟨wC_Mod_thread, wi_Mod, ⟨by decide, by decide, by decide +kernel⟩, by decide, by decide⟩
theorem cw_Mod_go_Mod_trap : cW mi_Mod_go mi_Mod_trap 3 := ⟨wC_Mod_trap, wi_Mod, ⟨by decide, by decide, by decide +kernel⟩, by decide, by decide⟩
theorem cw_Mod_go_Mod_take : cW mi_Mod_go mi_Mod_take 1 := ⟨wC_Mod_take, wi_Mod, ⟨by decide, by decide, by decide +kernel⟩, by decide, by decide⟩
theorem cw_Mod_go_Mod_isWord : cW mi_Mod_go mi_Mod_isWord 0 := ⟨wC_Mod_isWord, wi_Mod, ⟨by decide, by decide, by decide +kernel⟩, by decide, by decide⟩
theorem cw_Mod_go_Mod_has : cW mi_Mod_go mi_Mod_has 2 := ⟨wC_Mod_has, wi_Mod, ⟨by decide, by decide, by decide +kernel⟩, by decide, by decide⟩
theorem cw_Mod_go_Mod_whyNot : cW mi_Mod_go mi_Mod_whyNot 1 := ⟨wC_Mod_whyNot, wi_Mod, ⟨by decide, by decide, by decide +kernel⟩, by decide, by decide⟩
theorem cw_Mod_go_Mod_time : cW mi_Mod_go mi_Mod_time 2 := ⟨wC_Mod_time, wi_Mod, ⟨by decide, by decide, by decide +kernel⟩, by decide, by decide⟩
theorem cw_Mod_go_Mod_together : cW mi_Mod_go mi_Mod_together 1 := ⟨wC_Mod_together, wi_Mod, ⟨by decide, by decide, by decide +kernel⟩, by decide, by decide⟩
theorem cw_Mod_go_Mod_act : cW mi_Mod_go mi_Mod_act 4 := ⟨wC_Mod_act, wi_Mod, ⟨by decide, by decide, by decide +kernel⟩, by decide, by decide⟩
theorem cw_Mod_go_Mod_writesD : cW mi_Mod_go mi_Mod_writesD 0 := ⟨wC_Mod_writesD, wi_Mod, ⟨by decide, by decide, by decide +kernel⟩, by decide, by decide⟩
theorem cw_Mod_go_Mod_writesPredicate : cW mi_Mod_go mi_Mod_writesPredicate 0 := ⟨wC_Mod_writesPredicate, wi_Mod, ⟨by decide, by decide, by decide +kernel⟩, by decide, by decide⟩
theorem cw_Mod_go_Mod_isMemory : cW mi_Mod_go mi_Mod_isMemory 0 := ⟨wC_Mod_isMemory, wi_Mod, ⟨by decide, by decide, by decide +kernel⟩, by decide, by decide⟩
theorem cw_Mod_go_Mod_settle : cW mi_Mod_go mi_Mod_settle 1 := ⟨wC_Mod_settle, wi_Mod, ⟨by decide, by decide, by decide +kernel⟩, by decide, by decide⟩
def b_Mod_go_30 (F : Nat) (x0 : Nat) (x2 : Int32) (x3 : Int32) (h : Hp) : Option Hp := gd (hK h x0 = 12) <| clv (f_Mod_trap F x0 x2 x3 (1 : Int32) h) fun h_34_2 => some h_34_2
set_option maxRecDepth 100000 in
set_option maxHeartbeats 4000000 in
theorem e_Mod_go_30 {G : Gl} (hw : gF G) {h0 : Hp} {F : Nat} {h' : Hp}   {x0 : Nat} {x2 : Int32} {x3 : Int32} {h : Hp} (hf : b_Mod_go_30 F x0 x2 x3 h = some h') : Go G mi_Mod_go h0 (pV h') h 30 [(0, .ref x0), (2, .int x2), (3, .int x3)] [] := by
  unfold b_Mod_go_30 at hf
  refine g_aload_n d_Mod_go_30 rfl ?_
  refine g_iload_n d_Mod_go_31 rfl ?_
  refine g_iload_n d_Mod_go_32 rfl ?_
  refine g_iconst 1 d_Mod_go_33 (by decide) ?_
  obtain ⟨k_34, hf⟩ := gd_s hf
  obtain ⟨h_34_2, e_34_2, hf⟩ := clv_s hf
  refine g_callV (mz := mi_Mod_trap) (e_Mod_trap hw e_34_2) cw_Mod_go_Mod_trap lm_Mod_287 wI_Mod_trap wV_Mod_trap (ci := 11) k_34 (by decide) rfl rfl d_Mod_go_34 rfl rfl (by first | exact Nat.le_of_ble_eq_true rfl | simp [cat_rf, Value.category]) (fun r1 h1 hp hro => ?_)
  obtain ⟨rfl, rfl⟩ := hp
  dsimp only [Option.toList_some, Option.toList_none, List.cons_append, List.nil_append]
  exact Go.ret none trivial rfl d_Mod_go_37 (pV_of hf)
def b_Mod_go_159 (F : Nat) (k73 : Nat → Int32 → Int32 → Int32 → Int32 → Int32 → Hp → Option Hp) (x0 : Nat) (x1 : Int32) (x2 : Int32) (x6 : Int32) (x7 : Int32) (s0 : Int32) (s1 : Int32) (h : Hp) : Option Hp := gd (hK h x0 = 12) <| rq h (hR h 754 x0) 101 fun a_165_2 => ix x7 (hN h a_165_2) fun j_170 => if (hA h a_165_2 j_170) = 0 then (k73 x0 x1 x2 (s0 + s1) (x6 + (0 : Int32)) (x7 + 1) h) else (k73 x0 x1 x2 (s0 + s1) (x6 + (1 : Int32)) (x7 + 1) h)
set_option maxRecDepth 100000 in
set_option maxHeartbeats 4000000 in
theorem e_Mod_go_159 {G : Gl} (hw : gF G) {h0 : Hp} {F : Nat} {h' : Hp} {k73 : Nat → Int32 → Int32 → Int32 → Int32 → Int32 → Hp → Option Hp} (hk73 : ∀ (y0 : Nat) (y1 : Int32) (y2 : Int32) (y5 : Int32) (y6 : Int32) (y7 : Int32) (hh : Hp), k73 y0 y1 y2 y5 y6 y7 hh = some h' → Go G mi_Mod_go h0 (pV h') hh 73 [(0, .ref y0), (1, .int y1), (2, .int y2), (5, .int y5), (6, .int y6), (7, .int y7)] []) {x0 : Nat} {x1 : Int32} {x2 : Int32} {x6 : Int32} {x7 : Int32} {s0 : Int32} {s1 : Int32} {h : Hp} (hf : b_Mod_go_159 F k73 x0 x1 x2 x6 x7 s0 s1 h = some h') : Go G mi_Mod_go h0 (pV h') h 159 [(0, .ref x0), (1, .int x1), (2, .int x2), (6, .int x6), (7, .int x7)] [.int s1, .int s0] := by
  unfold b_Mod_go_159 at hf
  refine g_iadd d_Mod_go_159 ?_
  refine g_istore d_Mod_go_160 (by decide) ?_
  show Go _ _ _ _ _ _ [(0, _), (1, _), (2, _), (5, _), (6, _), (7, _)] _
  refine g_iload d_Mod_go_162 rfl ?_
  refine g_aload_n d_Mod_go_164 rfl ?_
  obtain ⟨k_165, hf⟩ := gd_s hf
  obtain ⟨a_165_2, e_165_2, k_165_2, hf⟩ := rq_s hf
  refine fgs_Mod_inGroup lf_Mod_108 d_Mod_go_165 k_165 e_165_2 ?_
  refine g_iload d_Mod_go_168 rfl ?_
  obtain ⟨i_170, hf⟩ := ix_s hf
  refine g_zald k_165_2 i_170 d_Mod_go_170 ?_
  refine g_if_eq 178 d_Mod_go_171 (by decide) (fun c_171 => ?_) (fun c_171 => ?_)
  · have hf := ifp hf c_171
    refine g_iconst 0 d_Mod_go_178 (by decide) ?_
    refine g_iadd d_Mod_go_179 ?_
    refine g_istore d_Mod_go_180 (by decide) ?_
    show Go _ _ _ _ _ _ [(0, _), (1, _), (2, _), (5, _), (6, _), (7, _)] _
    refine g_iinc (_ + 1) d_Mod_go_182 rfl (by rfl) (by decide) ?_
    show Go _ _ _ _ _ _ [(0, _), (1, _), (2, _), (5, _), (6, _), (7, _)] _
    refine g_goto 73 d_Mod_go_185 (by decide) ?_
    exact hk73 _ _ _ _ _ _ _ hf
  · have hf := ifn hf c_171
    refine g_iconst 1 d_Mod_go_174 (by decide) ?_
    refine g_goto 179 d_Mod_go_175 (by decide) ?_
    refine g_iadd d_Mod_go_179 ?_
    refine g_istore d_Mod_go_180 (by decide) ?_
    show Go _ _ _ _ _ _ [(0, _), (1, _), (2, _), (5, _), (6, _), (7, _)] _
    refine g_iinc (_ + 1) d_Mod_go_182 rfl (by rfl) (by decide) ?_
    show Go _ _ _ _ _ _ [(0, _), (1, _), (2, _), (5, _), (6, _), (7, _)] _
    refine g_goto 73 d_Mod_go_185 (by decide) ?_
    exact hk73 _ _ _ _ _ _ _ hf
def b_Mod_go_141 (F : Nat) (k73 : Nat → Int32 → Int32 → Int32 → Int32 → Int32 → Hp → Option Hp) (x0 : Nat) (x1 : Int32) (x2 : Int32) (x5 : Int32) (x6 : Int32) (x7 : Int32) (s0 : Nat) (s1 : Int32) (s2 : Int32) (h : Hp) : Option Hp := gd (hK h s0 = 101) <| ix s1 (hN h s0) fun j_141_2 => gd (s2 = 0 ∨ s2 = 1) <| pw (sA h s0 j_141_2 s2) fun h_141_4 => gd (hK h_141_4 x0 = 12) <| rq h_141_4 (hR h_141_4 755 x0) 101 fun a_145_2 => ix x7 (hN h_141_4 a_145_2) fun j_150 => if (hA h_141_4 a_145_2 j_150) = 0 then (b_Mod_go_159 F k73 x0 x1 x2 x6 x7 x5 (0 : Int32) h_141_4) else (b_Mod_go_159 F k73 x0 x1 x2 x6 x7 x5 (1 : Int32) h_141_4)
set_option maxRecDepth 100000 in
set_option maxHeartbeats 4000000 in
theorem e_Mod_go_141 {G : Gl} (hw : gF G) {h0 : Hp} {F : Nat} {h' : Hp} {k73 : Nat → Int32 → Int32 → Int32 → Int32 → Int32 → Hp → Option Hp} (hk73 : ∀ (y0 : Nat) (y1 : Int32) (y2 : Int32) (y5 : Int32) (y6 : Int32) (y7 : Int32) (hh : Hp), k73 y0 y1 y2 y5 y6 y7 hh = some h' → Go G mi_Mod_go h0 (pV h') hh 73 [(0, .ref y0), (1, .int y1), (2, .int y2), (5, .int y5), (6, .int y6), (7, .int y7)] []) {x0 : Nat} {x1 : Int32} {x2 : Int32} {x5 : Int32} {x6 : Int32} {x7 : Int32} {s0 : Nat} {s1 : Int32} {s2 : Int32} {h : Hp} (hf : b_Mod_go_141 F k73 x0 x1 x2 x5 x6 x7 s0 s1 s2 h = some h') : Go G mi_Mod_go h0 (pV h') h 141 [(0, .ref x0), (1, .int x1), (2, .int x2), (5, .int x5), (6, .int x6), (7, .int x7)] [.int s2, .int s1, .ref s0] := by
  unfold b_Mod_go_141 at hf
  obtain ⟨k_141, hf⟩ := gd_s hf
  obtain ⟨i_141_2, hf⟩ := ix_s hf
  obtain ⟨b_141_3, hf⟩ := gd_s hf
  refine g_zast hw (zok b_141_3) k_141 i_141_2 d_Mod_go_141 ?_
  have hf := pw_b hf
  refine g_iload d_Mod_go_142 rfl ?_
  refine g_aload_n d_Mod_go_144 rfl ?_
  obtain ⟨k_145, hf⟩ := gd_s hf
  obtain ⟨a_145_2, e_145_2, k_145_2, hf⟩ := rq_s hf
  refine fgs_Mod_does lf_Mod_111 d_Mod_go_145 k_145 e_145_2 ?_
  refine g_iload d_Mod_go_148 rfl ?_
  obtain ⟨i_150, hf⟩ := ix_s hf
  refine g_zald k_145_2 i_150 d_Mod_go_150 ?_
  refine g_if_eq 158 d_Mod_go_151 (by decide) (fun c_151 => ?_) (fun c_151 => ?_)
  · have hf := ifp hf c_151
    refine g_iconst 0 d_Mod_go_158 (by decide) ?_
    refine Go.locals [0, 1, 2, 4, 5] rfl ?_
    have key := e_Mod_go_159 hw (G := G) (h0 := h0) hk73 hf
    exact key
  · have hf := ifn hf c_151
    refine g_iconst 1 d_Mod_go_154 (by decide) ?_
    refine g_goto 159 d_Mod_go_155 (by decide) ?_
    refine Go.locals [0, 1, 2, 4, 5] rfl ?_
    have key := e_Mod_go_159 hw (G := G) (h0 := h0) hk73 hf
    exact key
def b_Mod_go_136 (F : Nat) (k73 : Nat → Int32 → Int32 → Int32 → Int32 → Int32 → Hp → Option Hp) (x0 : Nat) (x1 : Int32) (x2 : Int32) (x5 : Int32) (x6 : Int32) (x7 : Int32) (s0 : Nat) (s1 : Int32) (h : Hp) : Option Hp := b_Mod_go_141 F k73 x0 x1 x2 x5 x6 x7 s0 s1 (1 : Int32) h
set_option maxRecDepth 100000 in
set_option maxHeartbeats 4000000 in
theorem e_Mod_go_136 {G : Gl} (hw : gF G) {h0 : Hp} {F : Nat} {h' : Hp} {k73 : Nat → Int32 → Int32 → Int32 → Int32 → Int32 → Hp → Option Hp} (hk73 : ∀ (y0 : Nat) (y1 : Int32) (y2 : Int32) (y5 : Int32) (y6 : Int32) (y7 : Int32) (hh : Hp), k73 y0 y1 y2 y5 y6 y7 hh = some h' → Go G mi_Mod_go h0 (pV h') hh 73 [(0, .ref y0), (1, .int y1), (2, .int y2), (5, .int y5), (6, .int y6), (7, .int y7)] []) {x0 : Nat} {x1 : Int32} {x2 : Int32} {x5 : Int32} {x6 : Int32} {x7 : Int32} {s0 : Nat} {s1 : Int32} {h : Hp} (hf : b_Mod_go_136 F k73 x0 x1 x2 x5 x6 x7 s0 s1 h = some h') : Go G mi_Mod_go h0 (pV h') h 136 [(0, .ref x0), (1, .int x1), (2, .int x2), (5, .int x5), (6, .int x6), (7, .int x7)] [.int s1, .ref s0] := by
  unfold b_Mod_go_136 at hf
  refine g_iconst 1 d_Mod_go_136 (by decide) ?_
  refine g_goto 141 d_Mod_go_137 (by decide) ?_
  have key := e_Mod_go_141 hw (G := G) (h0 := h0) hk73 hf
  exact key
def b_Mod_go_140 (F : Nat) (k73 : Nat → Int32 → Int32 → Int32 → Int32 → Int32 → Hp → Option Hp) (x0 : Nat) (x1 : Int32) (x2 : Int32) (x5 : Int32) (x6 : Int32) (x7 : Int32) (s0 : Nat) (s1 : Int32) (h : Hp) : Option Hp := b_Mod_go_141 F k73 x0 x1 x2 x5 x6 x7 s0 s1 (0 : Int32) h
set_option maxRecDepth 100000 in
set_option maxHeartbeats 4000000 in
theorem e_Mod_go_140 {G : Gl} (hw : gF G) {h0 : Hp} {F : Nat} {h' : Hp} {k73 : Nat → Int32 → Int32 → Int32 → Int32 → Int32 → Hp → Option Hp} (hk73 : ∀ (y0 : Nat) (y1 : Int32) (y2 : Int32) (y5 : Int32) (y6 : Int32) (y7 : Int32) (hh : Hp), k73 y0 y1 y2 y5 y6 y7 hh = some h' → Go G mi_Mod_go h0 (pV h') hh 73 [(0, .ref y0), (1, .int y1), (2, .int y2), (5, .int y5), (6, .int y6), (7, .int y7)] []) {x0 : Nat} {x1 : Int32} {x2 : Int32} {x5 : Int32} {x6 : Int32} {x7 : Int32} {s0 : Nat} {s1 : Int32} {h : Hp} (hf : b_Mod_go_140 F k73 x0 x1 x2 x5 x6 x7 s0 s1 h = some h') : Go G mi_Mod_go h0 (pV h') h 140 [(0, .ref x0), (1, .int x1), (2, .int x2), (5, .int x5), (6, .int x6), (7, .int x7)] [.int s1, .ref s0] := by
  unfold b_Mod_go_140 at hf
  refine g_iconst 0 d_Mod_go_140 (by decide) ?_
  have key := e_Mod_go_141 hw (G := G) (h0 := h0) hk73 hf
  exact key
def b_Mod_go_133 (F : Nat) (k73 : Nat → Int32 → Int32 → Int32 → Int32 → Int32 → Hp → Option Hp) (x0 : Nat) (x1 : Int32) (x2 : Int32) (x5 : Int32) (x6 : Int32) (x7 : Int32) (s0 : Nat) (s1 : Int32) (s2 : Int32) (s3 : Int32) (h : Hp) : Option Hp := if s2 = s3 then (b_Mod_go_140 F k73 x0 x1 x2 x5 x6 x7 s0 s1 h) else (b_Mod_go_136 F k73 x0 x1 x2 x5 x6 x7 s0 s1 h)
set_option maxRecDepth 100000 in
set_option maxHeartbeats 4000000 in
theorem e_Mod_go_133 {G : Gl} (hw : gF G) {h0 : Hp} {F : Nat} {h' : Hp} {k73 : Nat → Int32 → Int32 → Int32 → Int32 → Int32 → Hp → Option Hp} (hk73 : ∀ (y0 : Nat) (y1 : Int32) (y2 : Int32) (y5 : Int32) (y6 : Int32) (y7 : Int32) (hh : Hp), k73 y0 y1 y2 y5 y6 y7 hh = some h' → Go G mi_Mod_go h0 (pV h') hh 73 [(0, .ref y0), (1, .int y1), (2, .int y2), (5, .int y5), (6, .int y6), (7, .int y7)] []) {x0 : Nat} {x1 : Int32} {x2 : Int32} {x5 : Int32} {x6 : Int32} {x7 : Int32} {s0 : Nat} {s1 : Int32} {s2 : Int32} {s3 : Int32} {h : Hp} (hf : b_Mod_go_133 F k73 x0 x1 x2 x5 x6 x7 s0 s1 s2 s3 h = some h') : Go G mi_Mod_go h0 (pV h') h 133 [(0, .ref x0), (1, .int x1), (2, .int x2), (5, .int x5), (6, .int x6), (7, .int x7)] [.int s3, .int s2, .int s1, .ref s0] := by
  unfold b_Mod_go_133 at hf
  refine g_icmp_eq 140 d_Mod_go_133 (by decide) (fun c_133 => ?_) (fun c_133 => ?_)
  · have hf := ifp hf c_133
    have key := e_Mod_go_140 hw (G := G) (h0 := h0) hk73 hf
    exact key
  · have hf := ifn hf c_133
    have key := e_Mod_go_136 hw (G := G) (h0 := h0) hk73 hf
    exact key
def b_Mod_go_224 (F : Nat) (k191 : Nat → Int32 → Int32 → Int32 → Int32 → Int32 → Hp → Option Hp) (x0 : Nat) (x1 : Int32) (x2 : Int32) (x5 : Int32) (x6 : Int32) (x7 : Int32) (s0 : Int32) (h : Hp) : Option Hp := if s0 = 0 then (k191 x0 x1 x2 x5 x6 (x7 + 1) h) else (gd (hK h x0 = 12) <| clv (f_Mod_trap F x0 x2 x7 s0 h) fun h_240_2 => some h_240_2)
set_option maxRecDepth 100000 in
set_option maxHeartbeats 4000000 in
theorem e_Mod_go_224 {G : Gl} (hw : gF G) {h0 : Hp} {F : Nat} {h' : Hp} {k191 : Nat → Int32 → Int32 → Int32 → Int32 → Int32 → Hp → Option Hp} (hk191 : ∀ (y0 : Nat) (y1 : Int32) (y2 : Int32) (y5 : Int32) (y6 : Int32) (y7 : Int32) (hh : Hp), k191 y0 y1 y2 y5 y6 y7 hh = some h' → Go G mi_Mod_go h0 (pV h') hh 191 [(0, .ref y0), (1, .int y1), (2, .int y2), (5, .int y5), (6, .int y6), (7, .int y7)] []) {x0 : Nat} {x1 : Int32} {x2 : Int32} {x5 : Int32} {x6 : Int32} {x7 : Int32} {s0 : Int32} {h : Hp} (hf : b_Mod_go_224 F k191 x0 x1 x2 x5 x6 x7 s0 h = some h') : Go G mi_Mod_go h0 (pV h') h 224 [(0, .ref x0), (1, .int x1), (2, .int x2), (5, .int x5), (6, .int x6), (7, .int x7)] [.int s0] := by
  unfold b_Mod_go_224 at hf
  refine g_istore d_Mod_go_224 (by decide) ?_
  show Go _ _ _ _ _ _ [(0, _), (1, _), (2, _), (5, _), (6, _), (7, _), (8, _)] _
  refine g_iload d_Mod_go_226 rfl ?_
  refine g_if_ne 234 d_Mod_go_228 (by decide) (fun c_228 => ?_) (fun c_228 => ?_)
  · have hf := ifn hf c_228
    refine g_aload_n d_Mod_go_234 rfl ?_
    refine g_iload_n d_Mod_go_235 rfl ?_
    refine g_iload d_Mod_go_236 rfl ?_
    refine g_iload d_Mod_go_238 rfl ?_
    obtain ⟨k_240, hf⟩ := gd_s hf
    obtain ⟨h_240_2, e_240_2, hf⟩ := clv_s hf
    refine g_callV (mz := mi_Mod_trap) (e_Mod_trap hw e_240_2) cw_Mod_go_Mod_trap lm_Mod_287 wI_Mod_trap wV_Mod_trap (ci := 11) k_240 (by decide) rfl rfl d_Mod_go_240 rfl rfl (by first | exact Nat.le_of_ble_eq_true rfl | simp [cat_rf, Value.category]) (fun r1 h1 hp hro => ?_)
    obtain ⟨rfl, rfl⟩ := hp
    dsimp only [Option.toList_some, Option.toList_none, List.cons_append, List.nil_append]
    exact Go.ret none trivial rfl d_Mod_go_243 (pV_of hf)
  · have hf := ifp hf c_228
    refine g_goto 244 d_Mod_go_231 (by decide) ?_
    refine g_iinc (_ + 1) d_Mod_go_244 rfl (by rfl) (by decide) ?_
    show Go _ _ _ _ _ _ [(0, _), (1, _), (2, _), (5, _), (6, _), (7, _), (8, _)] _
    refine g_goto 191 d_Mod_go_247 (by decide) ?_
    refine Go.locals [0, 1, 2, 3, 4, 5] rfl ?_
    exact hk191 _ _ _ _ _ _ _ hf
def b_Mod_go_476 (F : Nat) (x0 : Nat) (x2 : Int32) (h : Hp) : Option Hp := gd (hK h x0 = 12) <| if (2 : Int32) ≤ (hI h 756 x0) then (some h) else (rq h (hR h 735 x0) 100 fun a_486 => ix x2 (hN h a_486) fun j_490 => clv (f_Mod_settle F x0 (hA h a_486 j_490) h) fun h_491 => some h_491)
set_option maxRecDepth 100000 in
set_option maxHeartbeats 4000000 in
theorem e_Mod_go_476 {G : Gl} (hw : gF G) {h0 : Hp} {F : Nat} {h' : Hp}   {x0 : Nat} {x2 : Int32} {h : Hp} (hf : b_Mod_go_476 F x0 x2 h = some h') : Go G mi_Mod_go h0 (pV h') h 476 [(0, .ref x0), (2, .int x2)] [] := by
  unfold b_Mod_go_476 at hf
  refine g_aload_n d_Mod_go_476 rfl ?_
  obtain ⟨k_477, hf⟩ := gd_s hf
  refine fg_Mod_op lf_Mod_220 d_Mod_go_477 k_477 ?_
  refine g_iconst 2 d_Mod_go_480 (by decide) ?_
  refine g_icmp_ge 494 d_Mod_go_481 (by decide) (fun c_481 => ?_) (fun c_481 => ?_)
  · have hf := ifp hf c_481
    exact Go.ret none trivial rfl d_Mod_go_494 (pV_of hf)
  · have hf := ifn hf c_481
    refine g_aload_n d_Mod_go_484 rfl ?_
    refine g_aload_n d_Mod_go_485 rfl ?_
    obtain ⟨a_486, e_486, k_486, hf⟩ := rq_s hf
    refine fgs_Mod_slotBlock lf_Mod_54 d_Mod_go_486 k_477 e_486 ?_
    refine g_iload_n d_Mod_go_489 rfl ?_
    obtain ⟨i_490, hf⟩ := ix_s hf
    refine g_iald k_486 i_490 d_Mod_go_490 ?_
    obtain ⟨h_491, e_491, hf⟩ := clv_s hf
    refine g_callV (mz := mi_Mod_settle) (e_Mod_settle hw e_491) cw_Mod_go_Mod_settle lm_Mod_307 wI_Mod_settle wV_Mod_settle (ci := 11) k_477 (by decide) rfl rfl d_Mod_go_491 rfl rfl (by first | exact Nat.le_of_ble_eq_true rfl | simp [cat_rf, Value.category]) (fun r1 h1 hp hro => ?_)
    obtain ⟨rfl, rfl⟩ := hp
    dsimp only [Option.toList_some, Option.toList_none, List.cons_append, List.nil_append]
    exact Go.ret none trivial rfl d_Mod_go_494 (pV_of hf)
def b_Mod_go_456 (F : Nat) (x0 : Nat) (x2 : Int32) (x7 : Int32) (h : Hp) : Option Hp := gd (hK h x0 = 12) <| cl (f_Mod_isMemory F x0 h) fun v_457_2 h_457_2 => if v_457_2 = 0 then (b_Mod_go_476 F x0 x2 h_457_2) else (gd (hK h_457_2 x0 = 12) <| rq h_457_2 (hR h_457_2 737 x0) 100 fun a_464_2 => ix x2 (hN h_457_2 a_464_2) fun j_475 => pw (sA h_457_2 a_464_2 j_475 ((hI h_457_2 719 x0) + x7)) fun h_475_2 => b_Mod_go_476 F x0 x2 h_475_2)
set_option maxRecDepth 100000 in
set_option maxHeartbeats 4000000 in
theorem e_Mod_go_456 {G : Gl} (hw : gF G) {h0 : Hp} {F : Nat} {h' : Hp}   {x0 : Nat} {x2 : Int32} {x7 : Int32} {h : Hp} (hf : b_Mod_go_456 F x0 x2 x7 h = some h') : Go G mi_Mod_go h0 (pV h') h 456 [(0, .ref x0), (2, .int x2), (7, .int x7)] [] := by
  unfold b_Mod_go_456 at hf
  refine g_aload_n d_Mod_go_456 rfl ?_
  obtain ⟨k_457, hf⟩ := gd_s hf
  obtain ⟨v_457_2, h_457_2, e_457_2, hf⟩ := cl_s hf
  refine g_callV (mz := mi_Mod_isMemory) (e_Mod_isMemory e_457_2) cw_Mod_go_Mod_isMemory lm_Mod_240 wI_Mod_isMemory wV_Mod_isMemory (ci := 11) k_457 (by decide) rfl rfl d_Mod_go_457 rfl rfl (by first | exact Nat.le_of_ble_eq_true rfl | simp [cat_rf, Value.category]) (fun r1 h1 hp hro => ?_)
  obtain ⟨rfl, rfl⟩ := hp
  dsimp only [Option.toList_some, Option.toList_none, List.cons_append, List.nil_append]
  refine g_if_eq 476 d_Mod_go_460 (by decide) (fun c_460 => ?_) (fun c_460 => ?_)
  · have hf := ifp hf c_460
    refine Go.locals [0, 1] rfl ?_
    have key := e_Mod_go_476 hw (G := G) (h0 := h0)  hf
    exact key
  · have hf := ifn hf c_460
    refine g_aload_n d_Mod_go_463 rfl ?_
    obtain ⟨k_464, hf⟩ := gd_s hf
    obtain ⟨a_464_2, e_464_2, k_464_2, hf⟩ := rq_s hf
    refine fgs_Mod_memoryTick lf_Mod_60 d_Mod_go_464 k_464 e_464_2 ?_
    refine g_iload_n d_Mod_go_467 rfl ?_
    refine g_aload_n d_Mod_go_468 rfl ?_
    refine fg_Mod_cycle lf_Mod_159 d_Mod_go_469 k_464 ?_
    refine g_iload d_Mod_go_472 rfl ?_
    refine g_iadd d_Mod_go_474 ?_
    obtain ⟨i_475, hf⟩ := ix_s hf
    refine g_iast hw k_464_2 i_475 d_Mod_go_475 ?_
    have hf := pw_b hf
    refine Go.locals [0, 1] rfl ?_
    have key := e_Mod_go_476 hw (G := G) (h0 := h0)  hf
    exact key
def b_Mod_go_423 (F : Nat) (x0 : Nat) (x2 : Int32) (x7 : Int32) (h : Hp) : Option Hp := gd (hK h x0 = 12) <| cl (f_Mod_writesPredicate F x0 h) fun v_424_2 h_424_2 => if v_424_2 = 0 then (b_Mod_go_456 F x0 x2 x7 h_424_2) else (gd (hK h_424_2 x0 = 12) <| rq h_424_2 (hR h_424_2 738 x0) 100 fun a_431_2 => ix ((((20 : Int32) * x2) + (16 : Int32)) + ((hI h_424_2 757 x0) &&& (3 : Int32))) (hN h_424_2 a_431_2) fun j_455 => pw (sA h_424_2 a_431_2 j_455 ((hI h_424_2 719 x0) + x7)) fun h_455_2 => b_Mod_go_456 F x0 x2 x7 h_455_2)
set_option maxRecDepth 100000 in
set_option maxHeartbeats 4000000 in
theorem e_Mod_go_423 {G : Gl} (hw : gF G) {h0 : Hp} {F : Nat} {h' : Hp}   {x0 : Nat} {x2 : Int32} {x7 : Int32} {h : Hp} (hf : b_Mod_go_423 F x0 x2 x7 h = some h') : Go G mi_Mod_go h0 (pV h') h 423 [(0, .ref x0), (2, .int x2), (7, .int x7)] [] := by
  unfold b_Mod_go_423 at hf
  refine g_aload_n d_Mod_go_423 rfl ?_
  obtain ⟨k_424, hf⟩ := gd_s hf
  obtain ⟨v_424_2, h_424_2, e_424_2, hf⟩ := cl_s hf
  refine g_callV (mz := mi_Mod_writesPredicate) (e_Mod_writesPredicate e_424_2) cw_Mod_go_Mod_writesPredicate lm_Mod_272 wI_Mod_writesPredicate wV_Mod_writesPredicate (ci := 11) k_424 (by decide) rfl rfl d_Mod_go_424 rfl rfl (by first | exact Nat.le_of_ble_eq_true rfl | simp [cat_rf, Value.category]) (fun r1 h1 hp hro => ?_)
  obtain ⟨rfl, rfl⟩ := hp
  dsimp only [Option.toList_some, Option.toList_none, List.cons_append, List.nil_append]
  refine g_if_eq 456 d_Mod_go_427 (by decide) (fun c_427 => ?_) (fun c_427 => ?_)
  · have hf := ifp hf c_427
    have key := e_Mod_go_456 hw (G := G) (h0 := h0)  hf
    exact key
  · have hf := ifn hf c_427
    refine g_aload_n d_Mod_go_430 rfl ?_
    obtain ⟨k_431, hf⟩ := gd_s hf
    obtain ⟨a_431_2, e_431_2, k_431_2, hf⟩ := rq_s hf
    refine fgs_Mod_ticks lf_Mod_63 d_Mod_go_431 k_431 e_431_2 ?_
    refine g_bipush (20) d_Mod_go_434 (by decide) ?_
    refine g_iload_n d_Mod_go_436 rfl ?_
    refine g_imul d_Mod_go_437 ?_
    refine g_bipush (16) d_Mod_go_438 (by decide) ?_
    refine g_iadd d_Mod_go_440 ?_
    refine g_aload_n d_Mod_go_441 rfl ?_
    refine fg_Mod_d lf_Mod_225 d_Mod_go_442 k_431 ?_
    refine g_iconst 3 d_Mod_go_445 (by decide) ?_
    refine g_iand d_Mod_go_446 ?_
    refine g_iadd d_Mod_go_447 ?_
    refine g_aload_n d_Mod_go_448 rfl ?_
    refine fg_Mod_cycle lf_Mod_159 d_Mod_go_449 k_431 ?_
    refine g_iload d_Mod_go_452 rfl ?_
    refine g_iadd d_Mod_go_454 ?_
    obtain ⟨i_455, hf⟩ := ix_s hf
    refine g_iast hw k_431_2 i_455 d_Mod_go_455 ?_
    have hf := pw_b hf
    have key := e_Mod_go_456 hw (G := G) (h0 := h0)  hf
    exact key
def b_Mod_go_318 (F : Nat) : Nat → Nat → Int32 → Int32 → Int32 → Hp → Option Hp
  | 0 => fun _ _ _ _ _ => none
  | n + 1 => fun x0 x2 x7 x8 h => gd (hK h x0 = 12) <| if (hI h 705 x0) ≤ x8 then (cl (f_Mod_writesD F x0 h) fun v_396 h_396 => if v_396 = 0 then (b_Mod_go_423 F x0 x2 x7 h_396) else (gd (hK h_396 x0 = 12) <| rq h_396 (hR h_396 738 x0) 100 fun a_403_2 => ix (((20 : Int32) * x2) + (hI h_396 757 x0)) (hN h_396 a_403_2) fun j_422 => pw (sA h_396 a_403_2 j_422 ((hI h_396 719 x0) + x7)) fun h_422_2 => b_Mod_go_423 F x0 x2 x7 h_422_2)) else (rq h (hR h 754 x0) 101 fun a_328 => ix x8 (hN h a_328) fun j_333 => if (hA h a_328 j_333) = 0 then (b_Mod_go_318 F n x0 x2 x7 (x8 + 1) h) else (cl (f_Mod_thread F x2 x8 h) fun v_343 h_343 => gd (hK h_343 x0 = 12) <| rq h_343 (hR h_343 741 x0) 100 fun a_349_2 => ix v_343 (hN h_343 a_349_2) fun j_354 => ix v_343 (hN h_343 a_349_2) fun j_367 => pw (sA h_343 a_349_2 j_367 ((hA h_343 a_349_2 j_354) + (1 : Int32))) fun h_367_2 => rq h_367_2 (hR h_367_2 755 x0) 101 fun a_369 => ix x8 (hN h_367_2 a_369) fun j_374 => if (hA h_367_2 a_369 j_374) = 0 then (b_Mod_go_318 F n x0 x2 x7 (x8 + 1) h_367_2) else (clv (f_Mod_act F x0 x2 x8 v_343 (hA h_343 a_349_2 j_354) h_367_2) fun h_386 => b_Mod_go_318 F n x0 x2 x7 (x8 + 1) h_386)))
set_option maxRecDepth 100000 in
set_option maxHeartbeats 4000000 in
theorem e_Mod_go_318 {G : Gl} (hw : gF G) {h0 : Hp} {F : Nat} {h' : Hp}   : ∀ (n : Nat) (x0 : Nat) (x2 : Int32) (x7 : Int32) (x8 : Int32) (h : Hp), b_Mod_go_318 F n x0 x2 x7 x8 h = some h' → Go G mi_Mod_go h0 (pV h') h 318 [(0, .ref x0), (2, .int x2), (7, .int x7), (8, .int x8)] [] := by
  intro n
  induction n with
  | zero =>
    intro _ _ _ _ _ hf
    exact nm_s hf
  | succ n ih =>
    intro x0 x2 x7 x8 h hf
    unfold b_Mod_go_318 at hf
    refine g_iload d_Mod_go_318 rfl ?_
    refine g_aload_n d_Mod_go_320 rfl ?_
    obtain ⟨k_321, hf⟩ := gd_s hf
    refine fg_Mod_lanes lf_Mod_7 d_Mod_go_321 k_321 ?_
    refine g_icmp_ge 395 d_Mod_go_324 (by decide) (fun c_324 => ?_) (fun c_324 => ?_)
    · have hf := ifp hf c_324
      refine g_aload_n d_Mod_go_395 rfl ?_
      obtain ⟨v_396, h_396, e_396, hf⟩ := cl_s hf
      refine g_callV (mz := mi_Mod_writesD) (e_Mod_writesD e_396) cw_Mod_go_Mod_writesD lm_Mod_269 wI_Mod_writesD wV_Mod_writesD (ci := 11) k_321 (by decide) rfl rfl d_Mod_go_396 rfl rfl (by first | exact Nat.le_of_ble_eq_true rfl | simp [cat_rf, Value.category]) (fun r1 h1 hp hro => ?_)
      obtain ⟨rfl, rfl⟩ := hp
      dsimp only [Option.toList_some, Option.toList_none, List.cons_append, List.nil_append]
      refine g_if_eq 423 d_Mod_go_399 (by decide) (fun c_399 => ?_) (fun c_399 => ?_)
      · have hf := ifp hf c_399
        refine Go.locals [0, 1, 2] rfl ?_
        have key := e_Mod_go_423 hw (G := G) (h0 := h0)  hf
        exact key
      · have hf := ifn hf c_399
        refine g_aload_n d_Mod_go_402 rfl ?_
        obtain ⟨k_403, hf⟩ := gd_s hf
        obtain ⟨a_403_2, e_403_2, k_403_2, hf⟩ := rq_s hf
        refine fgs_Mod_ticks lf_Mod_63 d_Mod_go_403 k_403 e_403_2 ?_
        refine g_bipush (20) d_Mod_go_406 (by decide) ?_
        refine g_iload_n d_Mod_go_408 rfl ?_
        refine g_imul d_Mod_go_409 ?_
        refine g_aload_n d_Mod_go_410 rfl ?_
        refine fg_Mod_d lf_Mod_225 d_Mod_go_411 k_403 ?_
        refine g_iadd d_Mod_go_414 ?_
        refine g_aload_n d_Mod_go_415 rfl ?_
        refine fg_Mod_cycle lf_Mod_159 d_Mod_go_416 k_403 ?_
        refine g_iload d_Mod_go_419 rfl ?_
        refine g_iadd d_Mod_go_421 ?_
        obtain ⟨i_422, hf⟩ := ix_s hf
        refine g_iast hw k_403_2 i_422 d_Mod_go_422 ?_
        have hf := pw_b hf
        refine Go.locals [0, 1, 2] rfl ?_
        have key := e_Mod_go_423 hw (G := G) (h0 := h0)  hf
        exact key
    · have hf := ifn hf c_324
      refine g_aload_n d_Mod_go_327 rfl ?_
      obtain ⟨a_328, e_328, k_328, hf⟩ := rq_s hf
      refine fgs_Mod_inGroup lf_Mod_108 d_Mod_go_328 k_321 e_328 ?_
      refine g_iload d_Mod_go_331 rfl ?_
      obtain ⟨i_333, hf⟩ := ix_s hf
      refine g_zald k_328 i_333 d_Mod_go_333 ?_
      refine g_if_ne 340 d_Mod_go_334 (by decide) (fun c_334 => ?_) (fun c_334 => ?_)
      · have hf := ifn hf c_334
        refine g_iload_n d_Mod_go_340 rfl ?_
        refine g_iload d_Mod_go_341 rfl ?_
        obtain ⟨v_343, h_343, e_343, hf⟩ := cl_s hf
        refine g_callS (mz := mi_Mod_thread) (e_Mod_thread e_343) cw_Mod_go_Mod_thread lm_Mod_211 wS_Mod_thread d_Mod_go_343 rfl rfl (by first | exact Nat.le_of_ble_eq_true rfl | simp [cat_rf, Value.category]) (fun r1 h1 hp hro => ?_)
        obtain ⟨rfl, rfl⟩ := hp
        dsimp only [Option.toList_some, Option.toList_none, List.cons_append, List.nil_append]
        refine g_istore d_Mod_go_346 (by decide) ?_
        show Go _ _ _ _ _ _ [(0, _), (2, _), (7, _), (8, _), (9, _)] _
        refine g_aload_n d_Mod_go_348 rfl ?_
        obtain ⟨k_349, hf⟩ := gd_s hf
        obtain ⟨a_349_2, e_349_2, k_349_2, hf⟩ := rq_s hf
        refine fgs_Mod_place lf_Mod_73 d_Mod_go_349 k_349 e_349_2 ?_
        refine g_iload d_Mod_go_352 rfl ?_
        obtain ⟨i_354, hf⟩ := ix_s hf
        refine g_iald k_349_2 i_354 d_Mod_go_354 ?_
        refine g_istore d_Mod_go_355 (by decide) ?_
        show Go _ _ _ _ _ _ [(0, _), (2, _), (7, _), (8, _), (9, _), (10, _)] _
        refine g_aload_n d_Mod_go_357 rfl ?_
        refine fgs_Mod_place lf_Mod_73 d_Mod_go_358 k_349 e_349_2 ?_
        refine g_iload d_Mod_go_361 rfl ?_
        refine g_iload d_Mod_go_363 rfl ?_
        refine g_iconst 1 d_Mod_go_365 (by decide) ?_
        refine g_iadd d_Mod_go_366 ?_
        obtain ⟨i_367, hf⟩ := ix_s hf
        refine g_iast hw k_349_2 i_367 d_Mod_go_367 ?_
        have hf := pw_b hf
        refine g_aload_n d_Mod_go_368 rfl ?_
        obtain ⟨a_369, e_369, k_369, hf⟩ := rq_s hf
        refine fgs_Mod_does lf_Mod_111 d_Mod_go_369 (kksA k_349) e_369 ?_
        refine g_iload d_Mod_go_372 rfl ?_
        obtain ⟨i_374, hf⟩ := ix_s hf
        refine g_zald k_369 i_374 d_Mod_go_374 ?_
        refine g_if_eq 389 d_Mod_go_375 (by decide) (fun c_375 => ?_) (fun c_375 => ?_)
        · have hf := ifp hf c_375
          refine g_iinc (_ + 1) d_Mod_go_389 rfl (by rfl) (by decide) ?_
          show Go _ _ _ _ _ _ [(0, _), (2, _), (7, _), (8, _), (9, _), (10, _)] _
          refine g_goto 318 d_Mod_go_392 (by decide) ?_
          refine Go.locals [0, 1, 2, 3] rfl ?_
          exact ih _ _ _ _ _ hf
        · have hf := ifn hf c_375
          refine g_aload_n d_Mod_go_378 rfl ?_
          refine g_iload_n d_Mod_go_379 rfl ?_
          refine g_iload d_Mod_go_380 rfl ?_
          refine g_iload d_Mod_go_382 rfl ?_
          refine g_iload d_Mod_go_384 rfl ?_
          obtain ⟨h_386, e_386, hf⟩ := clv_s hf
          refine g_callV (mz := mi_Mod_act) (e_Mod_act hw e_386) cw_Mod_go_Mod_act lm_Mod_303 wI_Mod_act wV_Mod_act (ci := 11) (kksA k_349) (by decide) rfl rfl d_Mod_go_386 rfl rfl (by first | exact Nat.le_of_ble_eq_true rfl | simp [cat_rf, Value.category]) (fun r1 h1 hp hro => ?_)
          obtain ⟨rfl, rfl⟩ := hp
          dsimp only [Option.toList_some, Option.toList_none, List.cons_append, List.nil_append]
          refine g_iinc (_ + 1) d_Mod_go_389 rfl (by rfl) (by decide) ?_
          show Go _ _ _ _ _ _ [(0, _), (2, _), (7, _), (8, _), (9, _), (10, _)] _
          refine g_goto 318 d_Mod_go_392 (by decide) ?_
          refine Go.locals [0, 1, 2, 3] rfl ?_
          exact ih _ _ _ _ _ hf
      · have hf := ifp hf c_334
        refine g_goto 389 d_Mod_go_337 (by decide) ?_
        refine g_iinc (_ + 1) d_Mod_go_389 rfl (by rfl) (by decide) ?_
        show Go _ _ _ _ _ _ [(0, _), (2, _), (7, _), (8, _)] _
        refine g_goto 318 d_Mod_go_392 (by decide) ?_
        exact ih _ _ _ _ _ hf
def b_Mod_go_306 (F : Nat) (x0 : Nat) (x2 : Int32) (x7 : Int32) (s0 : Nat) (s1 : Int32) (s2 : Int32) (h : Hp) : Option Hp := gd (hK h s0 = 12) <| pw (sI h 722 s0 (s1 + s2)) fun h_307_2 => gd (hK h_307_2 x0 = 12) <| clv (f_Mod_together F x0 x2 h_307_2) fun h_312_2 => b_Mod_go_318 F F x0 x2 x7 (0 : Int32) h_312_2
set_option maxRecDepth 100000 in
set_option maxHeartbeats 4000000 in
theorem e_Mod_go_306 {G : Gl} (hw : gF G) {h0 : Hp} {F : Nat} {h' : Hp}   {x0 : Nat} {x2 : Int32} {x7 : Int32} {s0 : Nat} {s1 : Int32} {s2 : Int32} {h : Hp} (hf : b_Mod_go_306 F x0 x2 x7 s0 s1 s2 h = some h') : Go G mi_Mod_go h0 (pV h') h 306 [(0, .ref x0), (2, .int x2), (7, .int x7)] [.int s2, .int s1, .ref s0] := by
  unfold b_Mod_go_306 at hf
  refine g_iadd d_Mod_go_306 ?_
  obtain ⟨k_307, hf⟩ := gd_s hf
  refine fp_Mod_partly hw lf_Mod_168 d_Mod_go_307 k_307 ?_
  have hf := pw_b hf
  refine g_aload_n d_Mod_go_310 rfl ?_
  refine g_iload_n d_Mod_go_311 rfl ?_
  obtain ⟨k_312, hf⟩ := gd_s hf
  obtain ⟨h_312_2, e_312_2, hf⟩ := clv_s hf
  refine g_callV (mz := mi_Mod_together) (e_Mod_together hw e_312_2) cw_Mod_go_Mod_together lm_Mod_300 wI_Mod_together wV_Mod_together (ci := 11) k_312 (by decide) rfl rfl d_Mod_go_312 rfl rfl (by first | exact Nat.le_of_ble_eq_true rfl | simp [cat_rf, Value.category]) (fun r1 h1 hp hro => ?_)
  obtain ⟨rfl, rfl⟩ := hp
  dsimp only [Option.toList_some, Option.toList_none, List.cons_append, List.nil_append]
  refine g_iconst 0 d_Mod_go_315 (by decide) ?_
  refine g_istore d_Mod_go_316 (by decide) ?_
  show Go _ _ _ _ _ _ [(0, _), (2, _), (7, _), (8, _)] _
  have key := e_Mod_go_318 hw (G := G) (h0 := h0)  F _ _ _ _ _ hf
  exact key
def b_Mod_go_191 (F : Nat) : Nat → Nat → Int32 → Int32 → Int32 → Int32 → Int32 → Hp → Option Hp
  | 0 => fun _ _ _ _ _ _ _ => none
  | n + 1 => fun x0 x1 x2 x5 x6 x7 h => gd (hK h x0 = 12) <| if (hI h 705 x0) ≤ x7 then (cl (f_Mod_time F x0 x1 x2 h) fun v_253 h_253 => gd (hK h_253 x0 = 12) <| pw (sI h_253 720 x0 ((hI h_253 720 x0) + (1 : Int32))) fun h_265 => rq h_265 (hR h_265 734 x0) 100 fun a_269 => ix x1 (hN h_265 a_269) fun j_274 => ix x1 (hN h_265 a_269) fun j_277 => pw (sA h_265 a_269 j_277 ((hA h_265 a_269 j_274) + (1 : Int32))) fun h_277_2 => pw (sI h_277_2 721 x0 ((hI h_277_2 721 x0) + x5)) fun h_286 => if x6 ≤ x5 then (b_Mod_go_306 F x0 x2 v_253 x0 (hI h_286 722 x0) (0 : Int32) h_286) else (b_Mod_go_306 F x0 x2 v_253 x0 (hI h_286 722 x0) (1 : Int32) h_286)) else (rq h (hR h 755 x0) 101 fun a_201 => ix x7 (hN h a_201) fun j_206 => if (hA h a_201 j_206) = 0 then (b_Mod_go_224 F (b_Mod_go_191 F n) x0 x1 x2 x5 x6 x7 (0 : Int32) h) else (cl (f_Mod_thread F x2 x7 h) fun v_214 h_214 => gd (hK h_214 x0 = 12) <| cl (f_Mod_whyNot F x0 v_214 h_214) fun v_217_2 h_217_2 => b_Mod_go_224 F (b_Mod_go_191 F n) x0 x1 x2 x5 x6 x7 v_217_2 h_217_2))
set_option maxRecDepth 100000 in
set_option maxHeartbeats 4000000 in
theorem e_Mod_go_191 {G : Gl} (hw : gF G) {h0 : Hp} {F : Nat} {h' : Hp}   : ∀ (n : Nat) (x0 : Nat) (x1 : Int32) (x2 : Int32) (x5 : Int32) (x6 : Int32) (x7 : Int32) (h : Hp), b_Mod_go_191 F n x0 x1 x2 x5 x6 x7 h = some h' → Go G mi_Mod_go h0 (pV h') h 191 [(0, .ref x0), (1, .int x1), (2, .int x2), (5, .int x5), (6, .int x6), (7, .int x7)] [] := by
  intro n
  induction n with
  | zero =>
    intro _ _ _ _ _ _ _ hf
    exact nm_s hf
  | succ n ih =>
    intro x0 x1 x2 x5 x6 x7 h hf
    unfold b_Mod_go_191 at hf
    refine g_iload d_Mod_go_191 rfl ?_
    refine g_aload_n d_Mod_go_193 rfl ?_
    obtain ⟨k_194, hf⟩ := gd_s hf
    refine fg_Mod_lanes lf_Mod_7 d_Mod_go_194 k_194 ?_
    refine g_icmp_ge 250 d_Mod_go_197 (by decide) (fun c_197 => ?_) (fun c_197 => ?_)
    · have hf := ifp hf c_197
      refine g_aload_n d_Mod_go_250 rfl ?_
      refine g_iload_n d_Mod_go_251 rfl ?_
      refine g_iload_n d_Mod_go_252 rfl ?_
      obtain ⟨v_253, h_253, e_253, hf⟩ := cl_s hf
      refine g_callV (mz := mi_Mod_time) (e_Mod_time hw e_253) cw_Mod_go_Mod_time lm_Mod_297 wI_Mod_time wV_Mod_time (ci := 11) k_194 (by decide) rfl rfl d_Mod_go_253 rfl rfl (by first | exact Nat.le_of_ble_eq_true rfl | simp [cat_rf, Value.category]) (fun r1 h1 hp hro => ?_)
      obtain ⟨rfl, rfl⟩ := hp
      dsimp only [Option.toList_some, Option.toList_none, List.cons_append, List.nil_append]
      refine g_istore d_Mod_go_256 (by decide) ?_
      show Go _ _ _ _ _ _ [(0, _), (1, _), (2, _), (5, _), (6, _), (7, _)] _
      refine g_aload_n d_Mod_go_258 rfl ?_
      refine g_dup (by first | rfl | exact cat_rf _) d_Mod_go_259 ?_
      obtain ⟨k_260, hf⟩ := gd_s hf
      refine fg_Mod_went lf_Mod_162 d_Mod_go_260 k_260 ?_
      refine g_iconst 1 d_Mod_go_263 (by decide) ?_
      refine g_iadd d_Mod_go_264 ?_
      refine fp_Mod_went hw lf_Mod_162 d_Mod_go_265 k_260 ?_
      have hf := pw_b hf
      refine g_aload_n d_Mod_go_268 rfl ?_
      obtain ⟨a_269, e_269, k_269, hf⟩ := rq_s hf
      refine fgs_Mod_unitWords lf_Mod_51 d_Mod_go_269 (kksI k_260) e_269 ?_
      refine g_iload_n d_Mod_go_272 rfl ?_
      refine g_dup2 rfl rfl d_Mod_go_273 ?_
      obtain ⟨i_274, hf⟩ := ix_s hf
      refine g_iald k_269 i_274 d_Mod_go_274 ?_
      refine g_iconst 1 d_Mod_go_275 (by decide) ?_
      refine g_iadd d_Mod_go_276 ?_
      obtain ⟨i_277, hf⟩ := ix_s hf
      refine g_iast hw k_269 i_277 d_Mod_go_277 ?_
      have hf := pw_b hf
      refine g_aload_n d_Mod_go_278 rfl ?_
      refine g_dup (by first | rfl | exact cat_rf _) d_Mod_go_279 ?_
      refine fg_Mod_did lf_Mod_165 d_Mod_go_280 (kksA (kksI k_260)) ?_
      refine g_iload d_Mod_go_283 rfl ?_
      refine g_iadd d_Mod_go_285 ?_
      refine fp_Mod_did hw lf_Mod_165 d_Mod_go_286 (kksA (kksI k_260)) ?_
      have hf := pw_b hf
      refine g_aload_n d_Mod_go_289 rfl ?_
      refine g_dup (by first | rfl | exact cat_rf _) d_Mod_go_290 ?_
      refine fg_Mod_partly lf_Mod_168 d_Mod_go_291 (kksI (kksA (kksI k_260))) ?_
      refine g_iload d_Mod_go_294 rfl ?_
      refine g_iload d_Mod_go_296 rfl ?_
      refine g_icmp_ge 305 d_Mod_go_298 (by decide) (fun c_298 => ?_) (fun c_298 => ?_)
      · have hf := ifp hf c_298
        refine g_iconst 0 d_Mod_go_305 (by decide) ?_
        refine Go.locals [0, 2, 5] rfl ?_
        have key := e_Mod_go_306 hw (G := G) (h0 := h0)  hf
        exact key
      · have hf := ifn hf c_298
        refine g_iconst 1 d_Mod_go_301 (by decide) ?_
        refine g_goto 306 d_Mod_go_302 (by decide) ?_
        refine Go.locals [0, 2, 5] rfl ?_
        have key := e_Mod_go_306 hw (G := G) (h0 := h0)  hf
        exact key
    · have hf := ifn hf c_197
      refine g_aload_n d_Mod_go_200 rfl ?_
      obtain ⟨a_201, e_201, k_201, hf⟩ := rq_s hf
      refine fgs_Mod_does lf_Mod_111 d_Mod_go_201 k_194 e_201 ?_
      refine g_iload d_Mod_go_204 rfl ?_
      obtain ⟨i_206, hf⟩ := ix_s hf
      refine g_zald k_201 i_206 d_Mod_go_206 ?_
      refine g_if_eq 223 d_Mod_go_207 (by decide) (fun c_207 => ?_) (fun c_207 => ?_)
      · have hf := ifp hf c_207
        refine g_iconst 0 d_Mod_go_223 (by decide) ?_
        have key := e_Mod_go_224 hw (G := G) (h0 := h0) (fun _ _ _ _ _ _ _ q => ih _ _ _ _ _ _ _ q) hf
        exact key
      · have hf := ifn hf c_207
        refine g_aload_n d_Mod_go_210 rfl ?_
        refine g_iload_n d_Mod_go_211 rfl ?_
        refine g_iload d_Mod_go_212 rfl ?_
        obtain ⟨v_214, h_214, e_214, hf⟩ := cl_s hf
        refine g_callS (mz := mi_Mod_thread) (e_Mod_thread e_214) cw_Mod_go_Mod_thread lm_Mod_211 wS_Mod_thread d_Mod_go_214 rfl rfl (by first | exact Nat.le_of_ble_eq_true rfl | simp [cat_rf, Value.category]) (fun r1 h1 hp hro => ?_)
        obtain ⟨rfl, rfl⟩ := hp
        dsimp only [Option.toList_some, Option.toList_none, List.cons_append, List.nil_append]
        obtain ⟨k_217, hf⟩ := gd_s hf
        obtain ⟨v_217_2, h_217_2, e_217_2, hf⟩ := cl_s hf
        refine g_callV (mz := mi_Mod_whyNot) (e_Mod_whyNot e_217_2) cw_Mod_go_Mod_whyNot lm_Mod_294 wI_Mod_whyNot wV_Mod_whyNot (ci := 11) k_217 (by decide) rfl rfl d_Mod_go_217 rfl rfl (by first | exact Nat.le_of_ble_eq_true rfl | simp [cat_rf, Value.category]) (fun r1 h1 hp hro => ?_)
        obtain ⟨rfl, rfl⟩ := hp
        dsimp only [Option.toList_some, Option.toList_none, List.cons_append, List.nil_append]
        refine g_goto 224 d_Mod_go_220 (by decide) ?_
        have key := e_Mod_go_224 hw (G := G) (h0 := h0) (fun _ _ _ _ _ _ _ q => ih _ _ _ _ _ _ _ q) hf
        exact key
def b_Mod_go_73 (F : Nat) : Nat → Nat → Int32 → Int32 → Int32 → Int32 → Int32 → Hp → Option Hp
  | 0 => fun _ _ _ _ _ _ _ => none
  | n + 1 => fun x0 x1 x2 x5 x6 x7 h => if (32 : Int32) ≤ x7 then (b_Mod_go_191 F F x0 x1 x2 x5 x6 (0 : Int32) h) else (gd (hK h x0 = 12) <| rq h (hR h 755 x0) 101 fun a_81_2 => rq h (hR h 754 x0) 101 fun a_87 => ix x7 (hN h a_87) fun j_92 => if (hA h a_87 j_92) = 0 then (b_Mod_go_140 F (b_Mod_go_73 F n) x0 x1 x2 x5 x6 x7 a_81_2 x7 h) else (if (hI h 760 x0) < (8 : Int32) then (b_Mod_go_136 F (b_Mod_go_73 F n) x0 x1 x2 x5 x6 x7 a_81_2 x7 h) else (cl (f_Mod_thread F x2 x7 h) fun v_109 h_109 => gd (hK h_109 x0 = 12) <| cl (f_Mod_has F x0 v_109 (hI h_109 760 x0) h_109) fun v_116 h_116 => gd (hK h_116 x0 = 12) <| if ((hI h_116 760 x0) &&& (4 : Int32)) = 0 then (b_Mod_go_133 F (b_Mod_go_73 F n) x0 x1 x2 x5 x6 x7 a_81_2 x7 v_116 (0 : Int32) h_116) else (b_Mod_go_133 F (b_Mod_go_73 F n) x0 x1 x2 x5 x6 x7 a_81_2 x7 v_116 (1 : Int32) h_116))))
set_option maxRecDepth 100000 in
set_option maxHeartbeats 4000000 in
theorem e_Mod_go_73 {G : Gl} (hw : gF G) {h0 : Hp} {F : Nat} {h' : Hp}   : ∀ (n : Nat) (x0 : Nat) (x1 : Int32) (x2 : Int32) (x5 : Int32) (x6 : Int32) (x7 : Int32) (h : Hp), b_Mod_go_73 F n x0 x1 x2 x5 x6 x7 h = some h' → Go G mi_Mod_go h0 (pV h') h 73 [(0, .ref x0), (1, .int x1), (2, .int x2), (5, .int x5), (6, .int x6), (7, .int x7)] [] := by
  intro n
  induction n with
  | zero =>
    intro _ _ _ _ _ _ _ hf
    exact nm_s hf
  | succ n ih =>
    intro x0 x1 x2 x5 x6 x7 h hf
    unfold b_Mod_go_73 at hf
    refine g_iload d_Mod_go_73 rfl ?_
    refine g_bipush (32) d_Mod_go_75 (by decide) ?_
    refine g_icmp_ge 188 d_Mod_go_77 (by decide) (fun c_77 => ?_) (fun c_77 => ?_)
    · have hf := ifp hf c_77
      refine g_iconst 0 d_Mod_go_188 (by decide) ?_
      refine g_istore d_Mod_go_189 (by decide) ?_
      show Go _ _ _ _ _ _ [(0, _), (1, _), (2, _), (5, _), (6, _), (7, _)] _
      have key := e_Mod_go_191 hw (G := G) (h0 := h0)  F _ _ _ _ _ _ _ hf
      exact key
    · have hf := ifn hf c_77
      refine g_aload_n d_Mod_go_80 rfl ?_
      obtain ⟨k_81, hf⟩ := gd_s hf
      obtain ⟨a_81_2, e_81_2, k_81_2, hf⟩ := rq_s hf
      refine fgs_Mod_does lf_Mod_111 d_Mod_go_81 k_81 e_81_2 ?_
      refine g_iload d_Mod_go_84 rfl ?_
      refine g_aload_n d_Mod_go_86 rfl ?_
      obtain ⟨a_87, e_87, k_87, hf⟩ := rq_s hf
      refine fgs_Mod_inGroup lf_Mod_108 d_Mod_go_87 k_81 e_87 ?_
      refine g_iload d_Mod_go_90 rfl ?_
      obtain ⟨i_92, hf⟩ := ix_s hf
      refine g_zald k_87 i_92 d_Mod_go_92 ?_
      refine g_if_eq 140 d_Mod_go_93 (by decide) (fun c_93 => ?_) (fun c_93 => ?_)
      · have hf := ifp hf c_93
        have key := e_Mod_go_140 hw (G := G) (h0 := h0) (fun _ _ _ _ _ _ _ q => ih _ _ _ _ _ _ _ q) hf
        exact key
      · have hf := ifn hf c_93
        refine g_aload_n d_Mod_go_96 rfl ?_
        refine fg_Mod_g lf_Mod_234 d_Mod_go_97 k_81 ?_
        refine g_bipush (8) d_Mod_go_100 (by decide) ?_
        refine g_icmp_lt 136 d_Mod_go_102 (by decide) (fun c_102 => ?_) (fun c_102 => ?_)
        · have hf := ifp hf c_102
          have key := e_Mod_go_136 hw (G := G) (h0 := h0) (fun _ _ _ _ _ _ _ q => ih _ _ _ _ _ _ _ q) hf
          exact key
        · have hf := ifn hf c_102
          refine g_aload_n d_Mod_go_105 rfl ?_
          refine g_iload_n d_Mod_go_106 rfl ?_
          refine g_iload d_Mod_go_107 rfl ?_
          obtain ⟨v_109, h_109, e_109, hf⟩ := cl_s hf
          refine g_callS (mz := mi_Mod_thread) (e_Mod_thread e_109) cw_Mod_go_Mod_thread lm_Mod_211 wS_Mod_thread d_Mod_go_109 rfl rfl (by first | exact Nat.le_of_ble_eq_true rfl | simp [cat_rf, Value.category]) (fun r1 h1 hp hro => ?_)
          obtain ⟨rfl, rfl⟩ := hp
          dsimp only [Option.toList_some, Option.toList_none, List.cons_append, List.nil_append]
          refine g_aload_n d_Mod_go_112 rfl ?_
          obtain ⟨k_113, hf⟩ := gd_s hf
          refine fg_Mod_g lf_Mod_234 d_Mod_go_113 k_113 ?_
          obtain ⟨v_116, h_116, e_116, hf⟩ := cl_s hf
          refine g_callV (mz := mi_Mod_has) (e_Mod_has e_116) cw_Mod_go_Mod_has lm_Mod_291 wI_Mod_has wV_Mod_has (ci := 11) k_113 (by decide) rfl rfl d_Mod_go_116 rfl rfl (by first | exact Nat.le_of_ble_eq_true rfl | simp [cat_rf, Value.category]) (fun r1 h1 hp hro => ?_)
          obtain ⟨rfl, rfl⟩ := hp
          dsimp only [Option.toList_some, Option.toList_none, List.cons_append, List.nil_append]
          refine g_aload_n d_Mod_go_119 rfl ?_
          obtain ⟨k_120, hf⟩ := gd_s hf
          refine fg_Mod_g lf_Mod_234 d_Mod_go_120 k_120 ?_
          refine g_iconst 4 d_Mod_go_123 (by decide) ?_
          refine g_iand d_Mod_go_124 ?_
          refine g_if_eq 132 d_Mod_go_125 (by decide) (fun c_125 => ?_) (fun c_125 => ?_)
          · have hf := ifp hf c_125
            refine g_iconst 0 d_Mod_go_132 (by decide) ?_
            have key := e_Mod_go_133 hw (G := G) (h0 := h0) (fun _ _ _ _ _ _ _ q => ih _ _ _ _ _ _ _ q) hf
            exact key
          · have hf := ifn hf c_125
            refine g_iconst 1 d_Mod_go_128 (by decide) ?_
            refine g_goto 133 d_Mod_go_129 (by decide) ?_
            have key := e_Mod_go_133 hw (G := G) (h0 := h0) (fun _ _ _ _ _ _ _ q => ih _ _ _ _ _ _ _ q) hf
            exact key
def f_Mod_go (F : Nat) (x0 : Nat) (x1 : Int32) (x2 : Int32) (h : Hp) : Option Hp := gd (hK h x0 = 12) <| cl (f_Mod_firstOfGroup F x0 h) fun v_1_2 h_1_2 => gd (hK h_1_2 x0 = 12) <| rq h_1_2 (hR h_1_2 741 x0) 100 fun a_6_2 => cl (f_Mod_thread F x2 v_1_2 h_1_2) fun v_11 h_11 => gd (hK h_11 a_6_2 = 100) <| ix v_11 (hN h_11 a_6_2) fun j_14_2 => if (hA h_11 a_6_2 j_14_2) < 0 then (b_Mod_go_30 F x0 x2 v_1_2 h_11) else (if (hA h_11 a_6_2 j_14_2) < (128 : Int32) then (gd (hK h_11 x0 = 12) <| rq h_11 (hR h_11 711 x0) 110 fun a_40_2 => ix (hA h_11 a_6_2 j_14_2) (hN h_11 a_40_2) fun j_45 => clv (f_Mod_take F x0 (hL h_11 a_40_2 j_45) h_11) fun h_46 => gd (hK h_46 x0 = 12) <| cl (f_Mod_isWord F x0 h_46) fun v_50_2 h_50_2 => if v_50_2 = 0 then (gd (hK h_50_2 x0 = 12) <| clv (f_Mod_trap F x0 x2 v_1_2 (2 : Int32) h_50_2) fun h_60_2 => some h_60_2) else (b_Mod_go_73 F F x0 x1 x2 (0 : Int32) (0 : Int32) (0 : Int32) h_50_2)) else (b_Mod_go_30 F x0 x2 v_1_2 h_11))
set_option maxRecDepth 100000 in
set_option maxHeartbeats 4000000 in
theorem e_Mod_go {G : Gl} (hw : gF G) {F : Nat} {h' : Hp} {x0 : Nat} {x1 : Int32} {x2 : Int32} {h : Hp} (hf : f_Mod_go F x0 x1 x2 h = some h') : Ex G mi_Mod_go [.ref x0, .int x1, .int x2] h (pV h') := by
  unfold f_Mod_go at hf
  refine Ex.of nmV (by decide) (Nat.le_of_ble_eq_true rfl) ?_
  show Go G mi_Mod_go h _ h 0 [(0, .ref x0), (1, .int x1), (2, .int x2)] []
  refine g_aload_n d_Mod_go_0 rfl ?_
  obtain ⟨k_1, hf⟩ := gd_s hf
  obtain ⟨v_1_2, h_1_2, e_1_2, hf⟩ := cl_s hf
  refine g_callV (mz := mi_Mod_firstOfGroup) (e_Mod_firstOfGroup e_1_2) cw_Mod_go_Mod_firstOfGroup lm_Mod_250 wI_Mod_firstOfGroup wV_Mod_firstOfGroup (ci := 11) k_1 (by decide) rfl rfl d_Mod_go_1 rfl rfl (by first | exact Nat.le_of_ble_eq_true rfl | simp [cat_rf, Value.category]) (fun r1 h1 hp hro => ?_)
  obtain ⟨rfl, rfl⟩ := hp
  dsimp only [Option.toList_some, Option.toList_none, List.cons_append, List.nil_append]
  refine g_istore_n d_Mod_go_4 (by decide) ?_
  show Go _ _ _ _ _ _ [(0, _), (1, _), (2, _), (3, _)] _
  refine g_aload_n d_Mod_go_5 rfl ?_
  obtain ⟨k_6, hf⟩ := gd_s hf
  obtain ⟨a_6_2, e_6_2, k_6_2, hf⟩ := rq_s hf
  refine fgs_Mod_place lf_Mod_73 d_Mod_go_6 k_6 e_6_2 ?_
  refine g_iload_n d_Mod_go_9 rfl ?_
  refine g_iload_n d_Mod_go_10 rfl ?_
  obtain ⟨v_11, h_11, e_11, hf⟩ := cl_s hf
  refine g_callS (mz := mi_Mod_thread) (e_Mod_thread e_11) cw_Mod_go_Mod_thread lm_Mod_211 wS_Mod_thread d_Mod_go_11 rfl rfl (by first | exact Nat.le_of_ble_eq_true rfl | simp [cat_rf, Value.category]) (fun r1 h1 hp hro => ?_)
  obtain ⟨rfl, rfl⟩ := hp
  dsimp only [Option.toList_some, Option.toList_none, List.cons_append, List.nil_append]
  obtain ⟨k_14, hf⟩ := gd_s hf
  obtain ⟨i_14_2, hf⟩ := ix_s hf
  refine g_iald k_14 i_14_2 d_Mod_go_14 ?_
  refine g_istore d_Mod_go_15 (by decide) ?_
  show Go _ _ _ _ _ _ [(0, _), (1, _), (2, _), (3, _), (4, _)] _
  refine g_iload d_Mod_go_17 rfl ?_
  refine g_if_lt 30 d_Mod_go_19 (by decide) (fun c_19 => ?_) (fun c_19 => ?_)
  · have hf := ifp hf c_19
    refine Go.locals [0, 2, 3] rfl ?_
    have key := e_Mod_go_30 hw (G := G) (h0 := h)  hf
    exact key
  · have hf := ifn hf c_19
    refine g_iload d_Mod_go_22 rfl ?_
    refine g_sipush (128) d_Mod_go_24 (by decide) ?_
    refine g_icmp_lt 38 d_Mod_go_27 (by decide) (fun c_27 => ?_) (fun c_27 => ?_)
    · have hf := ifp hf c_27
      refine g_aload_n d_Mod_go_38 rfl ?_
      refine g_aload_n d_Mod_go_39 rfl ?_
      obtain ⟨k_40, hf⟩ := gd_s hf
      obtain ⟨a_40_2, e_40_2, k_40_2, hf⟩ := rq_s hf
      refine fgs_Mod_kernel lf_Mod_28 d_Mod_go_40 k_40 e_40_2 ?_
      refine g_iload d_Mod_go_43 rfl ?_
      obtain ⟨i_45, hf⟩ := ix_s hf
      refine g_lald k_40_2 i_45 d_Mod_go_45 ?_
      obtain ⟨h_46, e_46, hf⟩ := clv_s hf
      refine g_callV (mz := mi_Mod_take) (e_Mod_take hw e_46) cw_Mod_go_Mod_take lm_Mod_253 wI_Mod_take wV_Mod_take (ci := 11) k_40 (by decide) rfl rfl d_Mod_go_46 rfl rfl (by first | exact Nat.le_of_ble_eq_true rfl | simp [cat_rf, Value.category]) (fun r1 h1 hp hro => ?_)
      obtain ⟨rfl, rfl⟩ := hp
      dsimp only [Option.toList_some, Option.toList_none, List.cons_append, List.nil_append]
      refine g_aload_n d_Mod_go_49 rfl ?_
      obtain ⟨k_50, hf⟩ := gd_s hf
      obtain ⟨v_50_2, h_50_2, e_50_2, hf⟩ := cl_s hf
      refine g_callV (mz := mi_Mod_isWord) (e_Mod_isWord e_50_2) cw_Mod_go_Mod_isWord lm_Mod_257 wI_Mod_isWord wV_Mod_isWord (ci := 11) k_50 (by decide) rfl rfl d_Mod_go_50 rfl rfl (by first | exact Nat.le_of_ble_eq_true rfl | simp [cat_rf, Value.category]) (fun r1 h1 hp hro => ?_)
      obtain ⟨rfl, rfl⟩ := hp
      dsimp only [Option.toList_some, Option.toList_none, List.cons_append, List.nil_append]
      refine g_if_ne 64 d_Mod_go_53 (by decide) (fun c_53 => ?_) (fun c_53 => ?_)
      · have hf := ifn hf c_53
        refine g_iconst 0 d_Mod_go_64 (by decide) ?_
        refine g_istore d_Mod_go_65 (by decide) ?_
        show Go _ _ _ _ _ _ [(0, _), (1, _), (2, _), (3, _), (4, _), (5, _)] _
        refine g_iconst 0 d_Mod_go_67 (by decide) ?_
        refine g_istore d_Mod_go_68 (by decide) ?_
        show Go _ _ _ _ _ _ [(0, _), (1, _), (2, _), (3, _), (4, _), (5, _), (6, _)] _
        refine g_iconst 0 d_Mod_go_70 (by decide) ?_
        refine g_istore d_Mod_go_71 (by decide) ?_
        show Go _ _ _ _ _ _ [(0, _), (1, _), (2, _), (3, _), (4, _), (5, _), (6, _), (7, _)] _
        refine Go.locals [0, 1, 2, 5, 6, 7] rfl ?_
        have key := e_Mod_go_73 hw (G := G) (h0 := h)  F _ _ _ _ _ _ _ hf
        exact key
      · have hf := ifp hf c_53
        refine g_aload_n d_Mod_go_56 rfl ?_
        refine g_iload_n d_Mod_go_57 rfl ?_
        refine g_iload_n d_Mod_go_58 rfl ?_
        refine g_iconst 2 d_Mod_go_59 (by decide) ?_
        obtain ⟨k_60, hf⟩ := gd_s hf
        obtain ⟨h_60_2, e_60_2, hf⟩ := clv_s hf
        refine g_callV (mz := mi_Mod_trap) (e_Mod_trap hw e_60_2) cw_Mod_go_Mod_trap lm_Mod_287 wI_Mod_trap wV_Mod_trap (ci := 11) k_60 (by decide) rfl rfl d_Mod_go_60 rfl rfl (by first | exact Nat.le_of_ble_eq_true rfl | simp [cat_rf, Value.category]) (fun r1 h1 hp hro => ?_)
        obtain ⟨rfl, rfl⟩ := hp
        dsimp only [Option.toList_some, Option.toList_none, List.cons_append, List.nil_append]
        exact Go.ret none trivial rfl d_Mod_go_63 (pV_of hf)
    · have hf := ifn hf c_27
      refine Go.locals [0, 2, 3] rfl ?_
      have key := e_Mod_go_30 hw (G := G) (h0 := h)  hf
      exact key
abbrev mi_Mod_unitGoes : MI := (⟨"WarpMillModel", "unitGoes", "(I)V"⟩, prog_13_method_35_code, 4, none, 6, 148)
def it_Mod_unitGoes_0 : List (Nat × ClassFile.Instr × Nat) := [(0, .iconst 1, 1), (1, .istore_n 2, 1), (2, .iload_n 2, 1), (3, .aload_n 0, 1), (4, .getfield 13, 3), (7, .if_icmp .gt (59), 3), (10, .aload_n 0, 1), (11, .getfield 48, 3), (14, .iload_n 1, 1), (15, .iaload, 1), (16, .iload_n 2, 1), (17, .iadd, 1), (18, .aload_n 0, 1), (19, .getfield 13, 3), (22, .irem, 1), (23, .istore_n 3, 1), (24, .aload_n 0, 1), (25, .iload_n 1, 1), (26, .bipush (16), 2), (28, .iload_n 1, 1), (29, .imul, 1), (30, .iload_n 3, 1), (31, .iadd, 1), (32, .invokevirtual 278, 3)]
theorem id_Mod_unitGoes_0 : ∀ q ∈ it_Mod_unitGoes_0, decode prog_13_method_35_code q.1 = .ok q.2 := by decide +kernel
theorem d_Mod_unitGoes_0 : decode prog_13_method_35_code 0 = .ok (.iconst 1, 1) := id_Mod_unitGoes_0 (0, .iconst 1, 1) (List.mem_of_getElem? (i := 0) rfl)
theorem d_Mod_unitGoes_1 : decode prog_13_method_35_code 1 = .ok (.istore_n 2, 1) := id_Mod_unitGoes_0 (1, .istore_n 2, 1) (List.mem_of_getElem? (i := 1) rfl)
theorem d_Mod_unitGoes_2 : decode prog_13_method_35_code 2 = .ok (.iload_n 2, 1) := id_Mod_unitGoes_0 (2, .iload_n 2, 1) (List.mem_of_getElem? (i := 2) rfl)
theorem d_Mod_unitGoes_3 : decode prog_13_method_35_code 3 = .ok (.aload_n 0, 1) := id_Mod_unitGoes_0 (3, .aload_n 0, 1) (List.mem_of_getElem? (i := 3) rfl)
theorem d_Mod_unitGoes_4 : decode prog_13_method_35_code 4 = .ok (.getfield 13, 3) := id_Mod_unitGoes_0 (4, .getfield 13, 3) (List.mem_of_getElem? (i := 4) rfl)
theorem d_Mod_unitGoes_7 : decode prog_13_method_35_code 7 = .ok (.if_icmp .gt (59), 3) := id_Mod_unitGoes_0 (7, .if_icmp .gt (59), 3) (List.mem_of_getElem? (i := 5) rfl)
theorem d_Mod_unitGoes_10 : decode prog_13_method_35_code 10 = .ok (.aload_n 0, 1) := id_Mod_unitGoes_0 (10, .aload_n 0, 1) (List.mem_of_getElem? (i := 6) rfl)
theorem d_Mod_unitGoes_11 : decode prog_13_method_35_code 11 = .ok (.getfield 48, 3) := id_Mod_unitGoes_0 (11, .getfield 48, 3) (List.mem_of_getElem? (i := 7) rfl)
theorem d_Mod_unitGoes_14 : decode prog_13_method_35_code 14 = .ok (.iload_n 1, 1) := id_Mod_unitGoes_0 (14, .iload_n 1, 1) (List.mem_of_getElem? (i := 8) rfl)
theorem d_Mod_unitGoes_15 : decode prog_13_method_35_code 15 = .ok (.iaload, 1) := id_Mod_unitGoes_0 (15, .iaload, 1) (List.mem_of_getElem? (i := 9) rfl)
theorem d_Mod_unitGoes_16 : decode prog_13_method_35_code 16 = .ok (.iload_n 2, 1) := id_Mod_unitGoes_0 (16, .iload_n 2, 1) (List.mem_of_getElem? (i := 10) rfl)
theorem d_Mod_unitGoes_17 : decode prog_13_method_35_code 17 = .ok (.iadd, 1) := id_Mod_unitGoes_0 (17, .iadd, 1) (List.mem_of_getElem? (i := 11) rfl)
theorem d_Mod_unitGoes_18 : decode prog_13_method_35_code 18 = .ok (.aload_n 0, 1) := id_Mod_unitGoes_0 (18, .aload_n 0, 1) (List.mem_of_getElem? (i := 12) rfl)
theorem d_Mod_unitGoes_19 : decode prog_13_method_35_code 19 = .ok (.getfield 13, 3) := id_Mod_unitGoes_0 (19, .getfield 13, 3) (List.mem_of_getElem? (i := 13) rfl)
theorem d_Mod_unitGoes_22 : decode prog_13_method_35_code 22 = .ok (.irem, 1) := id_Mod_unitGoes_0 (22, .irem, 1) (List.mem_of_getElem? (i := 14) rfl)
theorem d_Mod_unitGoes_23 : decode prog_13_method_35_code 23 = .ok (.istore_n 3, 1) := id_Mod_unitGoes_0 (23, .istore_n 3, 1) (List.mem_of_getElem? (i := 15) rfl)
theorem d_Mod_unitGoes_24 : decode prog_13_method_35_code 24 = .ok (.aload_n 0, 1) := id_Mod_unitGoes_0 (24, .aload_n 0, 1) (List.mem_of_getElem? (i := 16) rfl)
theorem d_Mod_unitGoes_25 : decode prog_13_method_35_code 25 = .ok (.iload_n 1, 1) := id_Mod_unitGoes_0 (25, .iload_n 1, 1) (List.mem_of_getElem? (i := 17) rfl)
theorem d_Mod_unitGoes_26 : decode prog_13_method_35_code 26 = .ok (.bipush (16), 2) := id_Mod_unitGoes_0 (26, .bipush (16), 2) (List.mem_of_getElem? (i := 18) rfl)
theorem d_Mod_unitGoes_28 : decode prog_13_method_35_code 28 = .ok (.iload_n 1, 1) := id_Mod_unitGoes_0 (28, .iload_n 1, 1) (List.mem_of_getElem? (i := 19) rfl)
theorem d_Mod_unitGoes_29 : decode prog_13_method_35_code 29 = .ok (.imul, 1) := id_Mod_unitGoes_0 (29, .imul, 1) (List.mem_of_getElem? (i := 20) rfl)
theorem d_Mod_unitGoes_30 : decode prog_13_method_35_code 30 = .ok (.iload_n 3, 1) := id_Mod_unitGoes_0 (30, .iload_n 3, 1) (List.mem_of_getElem? (i := 21) rfl)
theorem d_Mod_unitGoes_31 : decode prog_13_method_35_code 31 = .ok (.iadd, 1) := id_Mod_unitGoes_0 (31, .iadd, 1) (List.mem_of_getElem? (i := 22) rfl)
theorem d_Mod_unitGoes_32 : decode prog_13_method_35_code 32 = .ok (.invokevirtual 278, 3) := id_Mod_unitGoes_0 (32, .invokevirtual 278, 3) (List.mem_of_getElem? (i := 23) rfl)
def it_Mod_unitGoes_1 : List (Nat × ClassFile.Instr × Nat) := [(35, .ifCond .ne (6), 3), (38, .goto (22), 3), (41, .aload_n 0, 1), (42, .getfield 48, 3), (45, .iload_n 1, 1), (46, .iload_n 3, 1), (47, .iastore, 1), (48, .aload_n 0, 1), (49, .iload_n 1, 1), (50, .bipush (16), 2), (52, .iload_n 1, 1), (53, .imul, 1), (54, .iload_n 3, 1), (55, .iadd, 1), (56, .invokevirtual 281, 3), (59, .return_, 1), (60, .iinc 2 (1), 3), (63, .goto (-61), 3), (66, .return_, 1)]
theorem id_Mod_unitGoes_1 : ∀ q ∈ it_Mod_unitGoes_1, decode prog_13_method_35_code q.1 = .ok q.2 := by decide +kernel
theorem d_Mod_unitGoes_35 : decode prog_13_method_35_code 35 = .ok (.ifCond .ne (6), 3) := id_Mod_unitGoes_1 (35, .ifCond .ne (6), 3) (List.mem_of_getElem? (i := 0) rfl)
theorem d_Mod_unitGoes_38 : decode prog_13_method_35_code 38 = .ok (.goto (22), 3) := id_Mod_unitGoes_1 (38, .goto (22), 3) (List.mem_of_getElem? (i := 1) rfl)
theorem d_Mod_unitGoes_41 : decode prog_13_method_35_code 41 = .ok (.aload_n 0, 1) := id_Mod_unitGoes_1 (41, .aload_n 0, 1) (List.mem_of_getElem? (i := 2) rfl)
theorem d_Mod_unitGoes_42 : decode prog_13_method_35_code 42 = .ok (.getfield 48, 3) := id_Mod_unitGoes_1 (42, .getfield 48, 3) (List.mem_of_getElem? (i := 3) rfl)
theorem d_Mod_unitGoes_45 : decode prog_13_method_35_code 45 = .ok (.iload_n 1, 1) := id_Mod_unitGoes_1 (45, .iload_n 1, 1) (List.mem_of_getElem? (i := 4) rfl)
theorem d_Mod_unitGoes_46 : decode prog_13_method_35_code 46 = .ok (.iload_n 3, 1) := id_Mod_unitGoes_1 (46, .iload_n 3, 1) (List.mem_of_getElem? (i := 5) rfl)
theorem d_Mod_unitGoes_47 : decode prog_13_method_35_code 47 = .ok (.iastore, 1) := id_Mod_unitGoes_1 (47, .iastore, 1) (List.mem_of_getElem? (i := 6) rfl)
theorem d_Mod_unitGoes_48 : decode prog_13_method_35_code 48 = .ok (.aload_n 0, 1) := id_Mod_unitGoes_1 (48, .aload_n 0, 1) (List.mem_of_getElem? (i := 7) rfl)
theorem d_Mod_unitGoes_49 : decode prog_13_method_35_code 49 = .ok (.iload_n 1, 1) := id_Mod_unitGoes_1 (49, .iload_n 1, 1) (List.mem_of_getElem? (i := 8) rfl)
theorem d_Mod_unitGoes_50 : decode prog_13_method_35_code 50 = .ok (.bipush (16), 2) := id_Mod_unitGoes_1 (50, .bipush (16), 2) (List.mem_of_getElem? (i := 9) rfl)
theorem d_Mod_unitGoes_52 : decode prog_13_method_35_code 52 = .ok (.iload_n 1, 1) := id_Mod_unitGoes_1 (52, .iload_n 1, 1) (List.mem_of_getElem? (i := 10) rfl)
theorem d_Mod_unitGoes_53 : decode prog_13_method_35_code 53 = .ok (.imul, 1) := id_Mod_unitGoes_1 (53, .imul, 1) (List.mem_of_getElem? (i := 11) rfl)
theorem d_Mod_unitGoes_54 : decode prog_13_method_35_code 54 = .ok (.iload_n 3, 1) := id_Mod_unitGoes_1 (54, .iload_n 3, 1) (List.mem_of_getElem? (i := 12) rfl)
theorem d_Mod_unitGoes_55 : decode prog_13_method_35_code 55 = .ok (.iadd, 1) := id_Mod_unitGoes_1 (55, .iadd, 1) (List.mem_of_getElem? (i := 13) rfl)
theorem d_Mod_unitGoes_56 : decode prog_13_method_35_code 56 = .ok (.invokevirtual 281, 3) := id_Mod_unitGoes_1 (56, .invokevirtual 281, 3) (List.mem_of_getElem? (i := 14) rfl)
theorem d_Mod_unitGoes_59 : decode prog_13_method_35_code 59 = .ok (.return_, 1) := id_Mod_unitGoes_1 (59, .return_, 1) (List.mem_of_getElem? (i := 15) rfl)
theorem d_Mod_unitGoes_60 : decode prog_13_method_35_code 60 = .ok (.iinc 2 (1), 3) := id_Mod_unitGoes_1 (60, .iinc 2 (1), 3) (List.mem_of_getElem? (i := 16) rfl)
theorem d_Mod_unitGoes_63 : decode prog_13_method_35_code 63 = .ok (.goto (-61), 3) := id_Mod_unitGoes_1 (63, .goto (-61), 3) (List.mem_of_getElem? (i := 17) rfl)
theorem d_Mod_unitGoes_66 : decode prog_13_method_35_code 66 = .ok (.return_, 1) := id_Mod_unitGoes_1 (66, .return_, 1) (List.mem_of_getElem? (i := 18) rfl)
theorem wC_Mod_unitGoes : Cond.code ⟨"WarpMillModel", "unitGoes", "(I)V"⟩ prog_13_method_35_code 4 (none) ∈ lw_tb := mem_tb 1326 (by decide +kernel) rfl
theorem cw_Mod_unitGoes_Mod_isReady : cW mi_Mod_unitGoes mi_Mod_isReady 2 := ⟨wC_Mod_isReady, wi_Mod, ⟨by decide, by decide, by decide +kernel⟩, by decide, by decide⟩
theorem cw_Mod_unitGoes_Mod_go : cW mi_Mod_unitGoes mi_Mod_go 2 := ⟨wC_Mod_go, wi_Mod, ⟨by decide, by decide, by decide +kernel⟩, by decide, by decide⟩
def b_Mod_unitGoes_2 (F : Nat) : Nat → Nat → Int32 → Int32 → Hp → Option Hp
  | 0 => fun _ _ _ _ => none
  | n + 1 => fun x0 x1 x2 h => gd (hK h x0 = 12) <| if (hI h 706 x0) < x2 then (some h) else (rq h (hR h 733 x0) 100 fun a_11 => ix x1 (hN h a_11) fun j_15 => gd (¬ (hI h 706 x0) = 0) <| cl (f_Mod_isReady F x0 x1 (((16 : Int32) * x1) + (((hA h a_11 j_15) + x2) - ((hA h a_11 j_15) + x2) / (hI h 706 x0) * (hI h 706 x0))) h) fun v_32 h_32 => if v_32 = 0 then (b_Mod_unitGoes_2 F n x0 x1 (x2 + 1) h_32) else (gd (hK h_32 x0 = 12) <| rq h_32 (hR h_32 733 x0) 100 fun a_42_2 => ix x1 (hN h_32 a_42_2) fun j_47 => pw (sA h_32 a_42_2 j_47 (((hA h a_11 j_15) + x2) - ((hA h a_11 j_15) + x2) / (hI h 706 x0) * (hI h 706 x0))) fun h_47_2 => clv (f_Mod_go F x0 x1 (((16 : Int32) * x1) + (((hA h a_11 j_15) + x2) - ((hA h a_11 j_15) + x2) / (hI h 706 x0) * (hI h 706 x0))) h_47_2) fun h_56 => some h_56))
set_option maxRecDepth 100000 in
set_option maxHeartbeats 4000000 in
theorem e_Mod_unitGoes_2 {G : Gl} (hw : gF G) {h0 : Hp} {F : Nat} {h' : Hp}   : ∀ (n : Nat) (x0 : Nat) (x1 : Int32) (x2 : Int32) (h : Hp), b_Mod_unitGoes_2 F n x0 x1 x2 h = some h' → Go G mi_Mod_unitGoes h0 (pV h') h 2 [(0, .ref x0), (1, .int x1), (2, .int x2)] [] := by
  intro n
  induction n with
  | zero =>
    intro _ _ _ _ hf
    exact nm_s hf
  | succ n ih =>
    intro x0 x1 x2 h hf
    unfold b_Mod_unitGoes_2 at hf
    refine g_iload_n d_Mod_unitGoes_2 rfl ?_
    refine g_aload_n d_Mod_unitGoes_3 rfl ?_
    obtain ⟨k_4, hf⟩ := gd_s hf
    refine fg_Mod_slots lf_Mod_13 d_Mod_unitGoes_4 k_4 ?_
    refine g_icmp_gt 66 d_Mod_unitGoes_7 (by decide) (fun c_7 => ?_) (fun c_7 => ?_)
    · have hf := ifp hf c_7
      exact Go.ret none trivial rfl d_Mod_unitGoes_66 (pV_of hf)
    · have hf := ifn hf c_7
      refine g_aload_n d_Mod_unitGoes_10 rfl ?_
      obtain ⟨a_11, e_11, k_11, hf⟩ := rq_s hf
      refine fgs_Mod_latest lf_Mod_48 d_Mod_unitGoes_11 k_4 e_11 ?_
      refine g_iload_n d_Mod_unitGoes_14 rfl ?_
      obtain ⟨i_15, hf⟩ := ix_s hf
      refine g_iald k_11 i_15 d_Mod_unitGoes_15 ?_
      refine g_iload_n d_Mod_unitGoes_16 rfl ?_
      refine g_iadd d_Mod_unitGoes_17 ?_
      refine g_aload_n d_Mod_unitGoes_18 rfl ?_
      refine fg_Mod_slots lf_Mod_13 d_Mod_unitGoes_19 k_4 ?_
      obtain ⟨z_22, hf⟩ := gd_s hf
      refine g_irem d_Mod_unitGoes_22 z_22 ?_
      refine g_istore_n d_Mod_unitGoes_23 (by decide) ?_
      show Go _ _ _ _ _ _ [(0, _), (1, _), (2, _), (3, _)] _
      refine g_aload_n d_Mod_unitGoes_24 rfl ?_
      refine g_iload_n d_Mod_unitGoes_25 rfl ?_
      refine g_bipush (16) d_Mod_unitGoes_26 (by decide) ?_
      refine g_iload_n d_Mod_unitGoes_28 rfl ?_
      refine g_imul d_Mod_unitGoes_29 ?_
      refine g_iload_n d_Mod_unitGoes_30 rfl ?_
      refine g_iadd d_Mod_unitGoes_31 ?_
      obtain ⟨v_32, h_32, e_32, hf⟩ := cl_s hf
      refine g_callV (mz := mi_Mod_isReady) (e_Mod_isReady hw e_32) cw_Mod_unitGoes_Mod_isReady lm_Mod_278 wI_Mod_isReady wV_Mod_isReady (ci := 11) k_4 (by decide) rfl rfl d_Mod_unitGoes_32 rfl rfl (by first | exact Nat.le_of_ble_eq_true rfl | simp [cat_rf, Value.category]) (fun r1 h1 hp hro => ?_)
      obtain ⟨rfl, rfl⟩ := hp
      dsimp only [Option.toList_some, Option.toList_none, List.cons_append, List.nil_append]
      refine g_if_ne 41 d_Mod_unitGoes_35 (by decide) (fun c_35 => ?_) (fun c_35 => ?_)
      · have hf := ifn hf c_35
        refine g_aload_n d_Mod_unitGoes_41 rfl ?_
        obtain ⟨k_42, hf⟩ := gd_s hf
        obtain ⟨a_42_2, e_42_2, k_42_2, hf⟩ := rq_s hf
        refine fgs_Mod_latest lf_Mod_48 d_Mod_unitGoes_42 k_42 e_42_2 ?_
        refine g_iload_n d_Mod_unitGoes_45 rfl ?_
        refine g_iload_n d_Mod_unitGoes_46 rfl ?_
        obtain ⟨i_47, hf⟩ := ix_s hf
        refine g_iast hw k_42_2 i_47 d_Mod_unitGoes_47 ?_
        have hf := pw_b hf
        refine g_aload_n d_Mod_unitGoes_48 rfl ?_
        refine g_iload_n d_Mod_unitGoes_49 rfl ?_
        refine g_bipush (16) d_Mod_unitGoes_50 (by decide) ?_
        refine g_iload_n d_Mod_unitGoes_52 rfl ?_
        refine g_imul d_Mod_unitGoes_53 ?_
        refine g_iload_n d_Mod_unitGoes_54 rfl ?_
        refine g_iadd d_Mod_unitGoes_55 ?_
        obtain ⟨h_56, e_56, hf⟩ := clv_s hf
        refine g_callV (mz := mi_Mod_go) (e_Mod_go hw e_56) cw_Mod_unitGoes_Mod_go lm_Mod_281 wI_Mod_go wV_Mod_go (ci := 11) (kksA k_42) (by decide) rfl rfl d_Mod_unitGoes_56 rfl rfl (by first | exact Nat.le_of_ble_eq_true rfl | simp [cat_rf, Value.category]) (fun r1 h1 hp hro => ?_)
        obtain ⟨rfl, rfl⟩ := hp
        dsimp only [Option.toList_some, Option.toList_none, List.cons_append, List.nil_append]
        exact Go.ret none trivial rfl d_Mod_unitGoes_59 (pV_of hf)
      · have hf := ifp hf c_35
        refine g_goto 60 d_Mod_unitGoes_38 (by decide) ?_
        refine g_iinc (_ + 1) d_Mod_unitGoes_60 rfl (by rfl) (by decide) ?_
        show Go _ _ _ _ _ _ [(0, _), (1, _), (2, _), (3, _)] _
        refine g_goto 2 d_Mod_unitGoes_63 (by decide) ?_
        refine Go.locals [0, 1, 2] rfl ?_
        exact ih _ _ _ _ hf
def f_Mod_unitGoes (F : Nat) (x0 : Nat) (x1 : Int32) (h : Hp) : Option Hp := b_Mod_unitGoes_2 F F x0 x1 (1 : Int32) h
set_option maxRecDepth 100000 in
set_option maxHeartbeats 4000000 in
theorem e_Mod_unitGoes {G : Gl} (hw : gF G) {F : Nat} {h' : Hp} {x0 : Nat} {x1 : Int32} {h : Hp} (hf : f_Mod_unitGoes F x0 x1 h = some h') : Ex G mi_Mod_unitGoes [.ref x0, .int x1] h (pV h') := by
  unfold f_Mod_unitGoes at hf
  refine Ex.of nmV (by decide) (Nat.le_of_ble_eq_true rfl) ?_
  show Go G mi_Mod_unitGoes h _ h 0 [(0, .ref x0), (1, .int x1)] []
  refine g_iconst 1 d_Mod_unitGoes_0 (by decide) ?_
  refine g_istore_n d_Mod_unitGoes_1 (by decide) ?_
  show Go _ _ _ _ _ _ [(0, _), (1, _), (2, _)] _
  have key := e_Mod_unitGoes_2 hw (G := G) (h0 := h)  F _ _ _ _ hf
  exact key
abbrev mi_Mod_oneCycle : MI := (⟨"WarpMillModel", "oneCycle", "()V"⟩, prog_13_method_60_code, 2, none, 7, 171)
def it_Mod_oneCycle_0 : List (Nat × ClassFile.Instr × Nat) := [(0, .aload_n 0, 1), (1, .invokevirtual 359, 3), (4, .aload_n 0, 1), (5, .getfield 136, 3), (8, .iconst 1, 1), (9, .if_icmp .ne (7), 3), (12, .aload_n 0, 1), (13, .invokevirtual 362, 3), (16, .iconst 0, 1), (17, .istore_n 1, 1), (18, .iload_n 1, 1), (19, .aload_n 0, 1), (20, .getfield 16, 3), (23, .if_icmp .ge (22), 3), (26, .aload_n 0, 1), (27, .getfield 136, 3), (30, .iconst 1, 1), (31, .if_icmp .ne (14), 3), (34, .aload_n 0, 1), (35, .iload_n 1, 1), (36, .invokevirtual 365, 3), (39, .iinc 1 (1), 3), (42, .goto (-24), 3), (45, .aload_n 0, 1)]
theorem id_Mod_oneCycle_0 : ∀ q ∈ it_Mod_oneCycle_0, decode prog_13_method_60_code q.1 = .ok q.2 := by decide +kernel
theorem d_Mod_oneCycle_0 : decode prog_13_method_60_code 0 = .ok (.aload_n 0, 1) := id_Mod_oneCycle_0 (0, .aload_n 0, 1) (List.mem_of_getElem? (i := 0) rfl)
theorem d_Mod_oneCycle_1 : decode prog_13_method_60_code 1 = .ok (.invokevirtual 359, 3) := id_Mod_oneCycle_0 (1, .invokevirtual 359, 3) (List.mem_of_getElem? (i := 1) rfl)
theorem d_Mod_oneCycle_4 : decode prog_13_method_60_code 4 = .ok (.aload_n 0, 1) := id_Mod_oneCycle_0 (4, .aload_n 0, 1) (List.mem_of_getElem? (i := 2) rfl)
theorem d_Mod_oneCycle_5 : decode prog_13_method_60_code 5 = .ok (.getfield 136, 3) := id_Mod_oneCycle_0 (5, .getfield 136, 3) (List.mem_of_getElem? (i := 3) rfl)
theorem d_Mod_oneCycle_8 : decode prog_13_method_60_code 8 = .ok (.iconst 1, 1) := id_Mod_oneCycle_0 (8, .iconst 1, 1) (List.mem_of_getElem? (i := 4) rfl)
theorem d_Mod_oneCycle_9 : decode prog_13_method_60_code 9 = .ok (.if_icmp .ne (7), 3) := id_Mod_oneCycle_0 (9, .if_icmp .ne (7), 3) (List.mem_of_getElem? (i := 5) rfl)
theorem d_Mod_oneCycle_12 : decode prog_13_method_60_code 12 = .ok (.aload_n 0, 1) := id_Mod_oneCycle_0 (12, .aload_n 0, 1) (List.mem_of_getElem? (i := 6) rfl)
theorem d_Mod_oneCycle_13 : decode prog_13_method_60_code 13 = .ok (.invokevirtual 362, 3) := id_Mod_oneCycle_0 (13, .invokevirtual 362, 3) (List.mem_of_getElem? (i := 7) rfl)
theorem d_Mod_oneCycle_16 : decode prog_13_method_60_code 16 = .ok (.iconst 0, 1) := id_Mod_oneCycle_0 (16, .iconst 0, 1) (List.mem_of_getElem? (i := 8) rfl)
theorem d_Mod_oneCycle_17 : decode prog_13_method_60_code 17 = .ok (.istore_n 1, 1) := id_Mod_oneCycle_0 (17, .istore_n 1, 1) (List.mem_of_getElem? (i := 9) rfl)
theorem d_Mod_oneCycle_18 : decode prog_13_method_60_code 18 = .ok (.iload_n 1, 1) := id_Mod_oneCycle_0 (18, .iload_n 1, 1) (List.mem_of_getElem? (i := 10) rfl)
theorem d_Mod_oneCycle_19 : decode prog_13_method_60_code 19 = .ok (.aload_n 0, 1) := id_Mod_oneCycle_0 (19, .aload_n 0, 1) (List.mem_of_getElem? (i := 11) rfl)
theorem d_Mod_oneCycle_20 : decode prog_13_method_60_code 20 = .ok (.getfield 16, 3) := id_Mod_oneCycle_0 (20, .getfield 16, 3) (List.mem_of_getElem? (i := 12) rfl)
theorem d_Mod_oneCycle_23 : decode prog_13_method_60_code 23 = .ok (.if_icmp .ge (22), 3) := id_Mod_oneCycle_0 (23, .if_icmp .ge (22), 3) (List.mem_of_getElem? (i := 13) rfl)
theorem d_Mod_oneCycle_26 : decode prog_13_method_60_code 26 = .ok (.aload_n 0, 1) := id_Mod_oneCycle_0 (26, .aload_n 0, 1) (List.mem_of_getElem? (i := 14) rfl)
theorem d_Mod_oneCycle_27 : decode prog_13_method_60_code 27 = .ok (.getfield 136, 3) := id_Mod_oneCycle_0 (27, .getfield 136, 3) (List.mem_of_getElem? (i := 15) rfl)
theorem d_Mod_oneCycle_30 : decode prog_13_method_60_code 30 = .ok (.iconst 1, 1) := id_Mod_oneCycle_0 (30, .iconst 1, 1) (List.mem_of_getElem? (i := 16) rfl)
theorem d_Mod_oneCycle_31 : decode prog_13_method_60_code 31 = .ok (.if_icmp .ne (14), 3) := id_Mod_oneCycle_0 (31, .if_icmp .ne (14), 3) (List.mem_of_getElem? (i := 17) rfl)
theorem d_Mod_oneCycle_34 : decode prog_13_method_60_code 34 = .ok (.aload_n 0, 1) := id_Mod_oneCycle_0 (34, .aload_n 0, 1) (List.mem_of_getElem? (i := 18) rfl)
theorem d_Mod_oneCycle_35 : decode prog_13_method_60_code 35 = .ok (.iload_n 1, 1) := id_Mod_oneCycle_0 (35, .iload_n 1, 1) (List.mem_of_getElem? (i := 19) rfl)
theorem d_Mod_oneCycle_36 : decode prog_13_method_60_code 36 = .ok (.invokevirtual 365, 3) := id_Mod_oneCycle_0 (36, .invokevirtual 365, 3) (List.mem_of_getElem? (i := 20) rfl)
theorem d_Mod_oneCycle_39 : decode prog_13_method_60_code 39 = .ok (.iinc 1 (1), 3) := id_Mod_oneCycle_0 (39, .iinc 1 (1), 3) (List.mem_of_getElem? (i := 21) rfl)
theorem d_Mod_oneCycle_42 : decode prog_13_method_60_code 42 = .ok (.goto (-24), 3) := id_Mod_oneCycle_0 (42, .goto (-24), 3) (List.mem_of_getElem? (i := 22) rfl)
theorem d_Mod_oneCycle_45 : decode prog_13_method_60_code 45 = .ok (.aload_n 0, 1) := id_Mod_oneCycle_0 (45, .aload_n 0, 1) (List.mem_of_getElem? (i := 23) rfl)
def it_Mod_oneCycle_1 : List (Nat × ClassFile.Instr × Nat) := [(46, .dup, 1), (47, .getfield 159, 3), (50, .iconst 1, 1), (51, .iadd, 1), (52, .putfield 159, 3), (55, .aload_n 0, 1), (56, .dup, 1), (57, .getfield 368, 3), (60, .iconst 1, 1), (61, .iadd, 1), (62, .putfield 368, 3), (65, .aload_n 0, 1), (66, .getfield 129, 3), (69, .ifCond .le (4), 3), (72, .return_, 1), (73, .aload_n 0, 1), (74, .getfield 136, 3), (77, .iconst 4, 1), (78, .if_icmp .ne (11), 3), (81, .aload_n 0, 1), (82, .iconst 3, 1), (83, .putfield 136, 3), (86, .goto (19), 3), (89, .aload_n 0, 1)]
theorem id_Mod_oneCycle_1 : ∀ q ∈ it_Mod_oneCycle_1, decode prog_13_method_60_code q.1 = .ok q.2 := by decide +kernel
theorem d_Mod_oneCycle_46 : decode prog_13_method_60_code 46 = .ok (.dup, 1) := id_Mod_oneCycle_1 (46, .dup, 1) (List.mem_of_getElem? (i := 0) rfl)
theorem d_Mod_oneCycle_47 : decode prog_13_method_60_code 47 = .ok (.getfield 159, 3) := id_Mod_oneCycle_1 (47, .getfield 159, 3) (List.mem_of_getElem? (i := 1) rfl)
theorem d_Mod_oneCycle_50 : decode prog_13_method_60_code 50 = .ok (.iconst 1, 1) := id_Mod_oneCycle_1 (50, .iconst 1, 1) (List.mem_of_getElem? (i := 2) rfl)
theorem d_Mod_oneCycle_51 : decode prog_13_method_60_code 51 = .ok (.iadd, 1) := id_Mod_oneCycle_1 (51, .iadd, 1) (List.mem_of_getElem? (i := 3) rfl)
theorem d_Mod_oneCycle_52 : decode prog_13_method_60_code 52 = .ok (.putfield 159, 3) := id_Mod_oneCycle_1 (52, .putfield 159, 3) (List.mem_of_getElem? (i := 4) rfl)
theorem d_Mod_oneCycle_55 : decode prog_13_method_60_code 55 = .ok (.aload_n 0, 1) := id_Mod_oneCycle_1 (55, .aload_n 0, 1) (List.mem_of_getElem? (i := 5) rfl)
theorem d_Mod_oneCycle_56 : decode prog_13_method_60_code 56 = .ok (.dup, 1) := id_Mod_oneCycle_1 (56, .dup, 1) (List.mem_of_getElem? (i := 6) rfl)
theorem d_Mod_oneCycle_57 : decode prog_13_method_60_code 57 = .ok (.getfield 368, 3) := id_Mod_oneCycle_1 (57, .getfield 368, 3) (List.mem_of_getElem? (i := 7) rfl)
theorem d_Mod_oneCycle_60 : decode prog_13_method_60_code 60 = .ok (.iconst 1, 1) := id_Mod_oneCycle_1 (60, .iconst 1, 1) (List.mem_of_getElem? (i := 8) rfl)
theorem d_Mod_oneCycle_61 : decode prog_13_method_60_code 61 = .ok (.iadd, 1) := id_Mod_oneCycle_1 (61, .iadd, 1) (List.mem_of_getElem? (i := 9) rfl)
theorem d_Mod_oneCycle_62 : decode prog_13_method_60_code 62 = .ok (.putfield 368, 3) := id_Mod_oneCycle_1 (62, .putfield 368, 3) (List.mem_of_getElem? (i := 10) rfl)
theorem d_Mod_oneCycle_65 : decode prog_13_method_60_code 65 = .ok (.aload_n 0, 1) := id_Mod_oneCycle_1 (65, .aload_n 0, 1) (List.mem_of_getElem? (i := 11) rfl)
theorem d_Mod_oneCycle_66 : decode prog_13_method_60_code 66 = .ok (.getfield 129, 3) := id_Mod_oneCycle_1 (66, .getfield 129, 3) (List.mem_of_getElem? (i := 12) rfl)
theorem d_Mod_oneCycle_69 : decode prog_13_method_60_code 69 = .ok (.ifCond .le (4), 3) := id_Mod_oneCycle_1 (69, .ifCond .le (4), 3) (List.mem_of_getElem? (i := 13) rfl)
theorem d_Mod_oneCycle_72 : decode prog_13_method_60_code 72 = .ok (.return_, 1) := id_Mod_oneCycle_1 (72, .return_, 1) (List.mem_of_getElem? (i := 14) rfl)
theorem d_Mod_oneCycle_73 : decode prog_13_method_60_code 73 = .ok (.aload_n 0, 1) := id_Mod_oneCycle_1 (73, .aload_n 0, 1) (List.mem_of_getElem? (i := 15) rfl)
theorem d_Mod_oneCycle_74 : decode prog_13_method_60_code 74 = .ok (.getfield 136, 3) := id_Mod_oneCycle_1 (74, .getfield 136, 3) (List.mem_of_getElem? (i := 16) rfl)
theorem d_Mod_oneCycle_77 : decode prog_13_method_60_code 77 = .ok (.iconst 4, 1) := id_Mod_oneCycle_1 (77, .iconst 4, 1) (List.mem_of_getElem? (i := 17) rfl)
theorem d_Mod_oneCycle_78 : decode prog_13_method_60_code 78 = .ok (.if_icmp .ne (11), 3) := id_Mod_oneCycle_1 (78, .if_icmp .ne (11), 3) (List.mem_of_getElem? (i := 18) rfl)
theorem d_Mod_oneCycle_81 : decode prog_13_method_60_code 81 = .ok (.aload_n 0, 1) := id_Mod_oneCycle_1 (81, .aload_n 0, 1) (List.mem_of_getElem? (i := 19) rfl)
theorem d_Mod_oneCycle_82 : decode prog_13_method_60_code 82 = .ok (.iconst 3, 1) := id_Mod_oneCycle_1 (82, .iconst 3, 1) (List.mem_of_getElem? (i := 20) rfl)
theorem d_Mod_oneCycle_83 : decode prog_13_method_60_code 83 = .ok (.putfield 136, 3) := id_Mod_oneCycle_1 (83, .putfield 136, 3) (List.mem_of_getElem? (i := 21) rfl)
theorem d_Mod_oneCycle_86 : decode prog_13_method_60_code 86 = .ok (.goto (19), 3) := id_Mod_oneCycle_1 (86, .goto (19), 3) (List.mem_of_getElem? (i := 22) rfl)
theorem d_Mod_oneCycle_89 : decode prog_13_method_60_code 89 = .ok (.aload_n 0, 1) := id_Mod_oneCycle_1 (89, .aload_n 0, 1) (List.mem_of_getElem? (i := 23) rfl)
def it_Mod_oneCycle_2 : List (Nat × ClassFile.Instr × Nat) := [(90, .getfield 177, 3), (93, .aload_n 0, 1), (94, .getfield 150, 3), (97, .if_icmp .ne (8), 3), (100, .aload_n 0, 1), (101, .iconst 2, 1), (102, .putfield 136, 3), (105, .return_, 1)]
theorem id_Mod_oneCycle_2 : ∀ q ∈ it_Mod_oneCycle_2, decode prog_13_method_60_code q.1 = .ok q.2 := by decide +kernel
theorem d_Mod_oneCycle_90 : decode prog_13_method_60_code 90 = .ok (.getfield 177, 3) := id_Mod_oneCycle_2 (90, .getfield 177, 3) (List.mem_of_getElem? (i := 0) rfl)
theorem d_Mod_oneCycle_93 : decode prog_13_method_60_code 93 = .ok (.aload_n 0, 1) := id_Mod_oneCycle_2 (93, .aload_n 0, 1) (List.mem_of_getElem? (i := 1) rfl)
theorem d_Mod_oneCycle_94 : decode prog_13_method_60_code 94 = .ok (.getfield 150, 3) := id_Mod_oneCycle_2 (94, .getfield 150, 3) (List.mem_of_getElem? (i := 2) rfl)
theorem d_Mod_oneCycle_97 : decode prog_13_method_60_code 97 = .ok (.if_icmp .ne (8), 3) := id_Mod_oneCycle_2 (97, .if_icmp .ne (8), 3) (List.mem_of_getElem? (i := 3) rfl)
theorem d_Mod_oneCycle_100 : decode prog_13_method_60_code 100 = .ok (.aload_n 0, 1) := id_Mod_oneCycle_2 (100, .aload_n 0, 1) (List.mem_of_getElem? (i := 4) rfl)
theorem d_Mod_oneCycle_101 : decode prog_13_method_60_code 101 = .ok (.iconst 2, 1) := id_Mod_oneCycle_2 (101, .iconst 2, 1) (List.mem_of_getElem? (i := 5) rfl)
theorem d_Mod_oneCycle_102 : decode prog_13_method_60_code 102 = .ok (.putfield 136, 3) := id_Mod_oneCycle_2 (102, .putfield 136, 3) (List.mem_of_getElem? (i := 6) rfl)
theorem d_Mod_oneCycle_105 : decode prog_13_method_60_code 105 = .ok (.return_, 1) := id_Mod_oneCycle_2 (105, .return_, 1) (List.mem_of_getElem? (i := 7) rfl)
theorem wC_Mod_oneCycle : Cond.code ⟨"WarpMillModel", "oneCycle", "()V"⟩ prog_13_method_60_code 2 (none) ∈ lw_tb := mem_tb 1288 (by decide +kernel) rfl
theorem cw_Mod_oneCycle_Mod_doPending : cW mi_Mod_oneCycle mi_Mod_doPending 0 := ⟨wC_Mod_doPending, wi_Mod, ⟨by decide, by decide, by decide +kernel⟩, by decide, by decide⟩
theorem cw_Mod_oneCycle_Mod_dispatch : cW mi_Mod_oneCycle mi_Mod_dispatch 0 := ⟨wC_Mod_dispatch, wi_Mod, ⟨by decide, by decide, by decide +kernel⟩, by decide, by decide⟩
theorem cw_Mod_oneCycle_Mod_unitGoes : cW mi_Mod_oneCycle mi_Mod_unitGoes 1 := ⟨wC_Mod_unitGoes, wi_Mod, ⟨by decide, by decide, by decide +kernel⟩, by decide, by decide⟩
def b_Mod_oneCycle_45 (F : Nat) (x0 : Nat) (h : Hp) : Option Hp := gd (hK h x0 = 12) <| pw (sI h 719 x0 ((hI h 719 x0) + (1 : Int32))) fun h_52 => pw (sI h_52 726 x0 ((hI h_52 726 x0) + (1 : Int32))) fun h_62 => if (hI h_62 745 x0) ≤ 0 then (if (hI h_62 715 x0) = (4 : Int32) then (pw (sI h_62 715 x0 (3 : Int32)) fun h_83 => some h_83) else (if (hI h_62 725 x0) = (hI h_62 716 x0) then (pw (sI h_62 715 x0 (2 : Int32)) fun h_102 => some h_102) else (some h_62))) else (some h_62)
set_option maxRecDepth 100000 in
set_option maxHeartbeats 4000000 in
theorem e_Mod_oneCycle_45 {G : Gl} (hw : gF G) {h0 : Hp} {F : Nat} {h' : Hp}   {x0 : Nat} {h : Hp} (hf : b_Mod_oneCycle_45 F x0 h = some h') : Go G mi_Mod_oneCycle h0 (pV h') h 45 [(0, .ref x0)] [] := by
  unfold b_Mod_oneCycle_45 at hf
  refine g_aload_n d_Mod_oneCycle_45 rfl ?_
  refine g_dup (by first | rfl | exact cat_rf _) d_Mod_oneCycle_46 ?_
  obtain ⟨k_47, hf⟩ := gd_s hf
  refine fg_Mod_cycle lf_Mod_159 d_Mod_oneCycle_47 k_47 ?_
  refine g_iconst 1 d_Mod_oneCycle_50 (by decide) ?_
  refine g_iadd d_Mod_oneCycle_51 ?_
  refine fp_Mod_cycle hw lf_Mod_159 d_Mod_oneCycle_52 k_47 ?_
  have hf := pw_b hf
  refine g_aload_n d_Mod_oneCycle_55 rfl ?_
  refine g_dup (by first | rfl | exact cat_rf _) d_Mod_oneCycle_56 ?_
  refine fg_Mod_inAll lf_Mod_368 d_Mod_oneCycle_57 (kksI k_47) ?_
  refine g_iconst 1 d_Mod_oneCycle_60 (by decide) ?_
  refine g_iadd d_Mod_oneCycle_61 ?_
  refine fp_Mod_inAll hw lf_Mod_368 d_Mod_oneCycle_62 (kksI k_47) ?_
  have hf := pw_b hf
  refine g_aload_n d_Mod_oneCycle_65 rfl ?_
  refine fg_Mod_pending lf_Mod_129 d_Mod_oneCycle_66 (kksI (kksI k_47)) ?_
  refine g_if_le 73 d_Mod_oneCycle_69 (by decide) (fun c_69 => ?_) (fun c_69 => ?_)
  · have hf := ifp hf c_69
    refine g_aload_n d_Mod_oneCycle_73 rfl ?_
    refine fg_Mod_status lf_Mod_136 d_Mod_oneCycle_74 (kksI (kksI k_47)) ?_
    refine g_iconst 4 d_Mod_oneCycle_77 (by decide) ?_
    refine g_icmp_ne 89 d_Mod_oneCycle_78 (by decide) (fun c_78 => ?_) (fun c_78 => ?_)
    · have hf := ifn hf c_78
      refine g_aload_n d_Mod_oneCycle_89 rfl ?_
      refine fg_Mod_ended lf_Mod_177 d_Mod_oneCycle_90 (kksI (kksI k_47)) ?_
      refine g_aload_n d_Mod_oneCycle_93 rfl ?_
      refine fg_Mod_blocks lf_Mod_150 d_Mod_oneCycle_94 (kksI (kksI k_47)) ?_
      refine g_icmp_ne 105 d_Mod_oneCycle_97 (by decide) (fun c_97 => ?_) (fun c_97 => ?_)
      · have hf := ifn hf c_97
        exact Go.ret none trivial rfl d_Mod_oneCycle_105 (pV_of hf)
      · have hf := ifp hf c_97
        refine g_aload_n d_Mod_oneCycle_100 rfl ?_
        refine g_iconst 2 d_Mod_oneCycle_101 (by decide) ?_
        refine fp_Mod_status hw lf_Mod_136 d_Mod_oneCycle_102 (kksI (kksI k_47)) ?_
        have hf := pw_b hf
        exact Go.ret none trivial rfl d_Mod_oneCycle_105 (pV_of hf)
    · have hf := ifp hf c_78
      refine g_aload_n d_Mod_oneCycle_81 rfl ?_
      refine g_iconst 3 d_Mod_oneCycle_82 (by decide) ?_
      refine fp_Mod_status hw lf_Mod_136 d_Mod_oneCycle_83 (kksI (kksI k_47)) ?_
      have hf := pw_b hf
      refine g_goto 105 d_Mod_oneCycle_86 (by decide) ?_
      exact Go.ret none trivial rfl d_Mod_oneCycle_105 (pV_of hf)
  · have hf := ifn hf c_69
    exact Go.ret none trivial rfl d_Mod_oneCycle_72 (pV_of hf)
def b_Mod_oneCycle_18 (F : Nat) : Nat → Nat → Int32 → Hp → Option Hp
  | 0 => fun _ _ _ => none
  | n + 1 => fun x0 x1 h => gd (hK h x0 = 12) <| if (hI h 707 x0) ≤ x1 then (b_Mod_oneCycle_45 F x0 h) else (if (hI h 715 x0) = (1 : Int32) then (clv (f_Mod_unitGoes F x0 x1 h) fun h_36 => b_Mod_oneCycle_18 F n x0 (x1 + 1) h_36) else (b_Mod_oneCycle_45 F x0 h))
set_option maxRecDepth 100000 in
set_option maxHeartbeats 4000000 in
theorem e_Mod_oneCycle_18 {G : Gl} (hw : gF G) {h0 : Hp} {F : Nat} {h' : Hp}   : ∀ (n : Nat) (x0 : Nat) (x1 : Int32) (h : Hp), b_Mod_oneCycle_18 F n x0 x1 h = some h' → Go G mi_Mod_oneCycle h0 (pV h') h 18 [(0, .ref x0), (1, .int x1)] [] := by
  intro n
  induction n with
  | zero =>
    intro _ _ _ hf
    exact nm_s hf
  | succ n ih =>
    intro x0 x1 h hf
    unfold b_Mod_oneCycle_18 at hf
    refine g_iload_n d_Mod_oneCycle_18 rfl ?_
    refine g_aload_n d_Mod_oneCycle_19 rfl ?_
    obtain ⟨k_20, hf⟩ := gd_s hf
    refine fg_Mod_units lf_Mod_16 d_Mod_oneCycle_20 k_20 ?_
    refine g_icmp_ge 45 d_Mod_oneCycle_23 (by decide) (fun c_23 => ?_) (fun c_23 => ?_)
    · have hf := ifp hf c_23
      refine Go.locals [0] rfl ?_
      have key := e_Mod_oneCycle_45 hw (G := G) (h0 := h0)  hf
      exact key
    · have hf := ifn hf c_23
      refine g_aload_n d_Mod_oneCycle_26 rfl ?_
      refine fg_Mod_status lf_Mod_136 d_Mod_oneCycle_27 k_20 ?_
      refine g_iconst 1 d_Mod_oneCycle_30 (by decide) ?_
      refine g_icmp_ne 45 d_Mod_oneCycle_31 (by decide) (fun c_31 => ?_) (fun c_31 => ?_)
      · have hf := ifn hf c_31
        refine Go.locals [0] rfl ?_
        have key := e_Mod_oneCycle_45 hw (G := G) (h0 := h0)  hf
        exact key
      · have hf := ifp hf c_31
        refine g_aload_n d_Mod_oneCycle_34 rfl ?_
        refine g_iload_n d_Mod_oneCycle_35 rfl ?_
        obtain ⟨h_36, e_36, hf⟩ := clv_s hf
        refine g_callV (mz := mi_Mod_unitGoes) (e_Mod_unitGoes hw e_36) cw_Mod_oneCycle_Mod_unitGoes lm_Mod_365 wI_Mod_unitGoes wV_Mod_unitGoes (ci := 11) k_20 (by decide) rfl rfl d_Mod_oneCycle_36 rfl rfl (by first | exact Nat.le_of_ble_eq_true rfl | simp [cat_rf, Value.category]) (fun r1 h1 hp hro => ?_)
        obtain ⟨rfl, rfl⟩ := hp
        dsimp only [Option.toList_some, Option.toList_none, List.cons_append, List.nil_append]
        refine g_iinc (_ + 1) d_Mod_oneCycle_39 rfl (by rfl) (by decide) ?_
        show Go _ _ _ _ _ _ [(0, _), (1, _)] _
        refine g_goto 18 d_Mod_oneCycle_42 (by decide) ?_
        exact ih _ _ _ hf
def b_Mod_oneCycle_16 (F : Nat) (x0 : Nat) (h : Hp) : Option Hp := b_Mod_oneCycle_18 F F x0 (0 : Int32) h
set_option maxRecDepth 100000 in
set_option maxHeartbeats 4000000 in
theorem e_Mod_oneCycle_16 {G : Gl} (hw : gF G) {h0 : Hp} {F : Nat} {h' : Hp}   {x0 : Nat} {h : Hp} (hf : b_Mod_oneCycle_16 F x0 h = some h') : Go G mi_Mod_oneCycle h0 (pV h') h 16 [(0, .ref x0)] [] := by
  unfold b_Mod_oneCycle_16 at hf
  refine g_iconst 0 d_Mod_oneCycle_16 (by decide) ?_
  refine g_istore_n d_Mod_oneCycle_17 (by decide) ?_
  show Go _ _ _ _ _ _ [(0, _), (1, _)] _
  have key := e_Mod_oneCycle_18 hw (G := G) (h0 := h0)  F _ _ _ hf
  exact key
def f_Mod_oneCycle (F : Nat) (x0 : Nat) (h : Hp) : Option Hp := gd (hK h x0 = 12) <| clv (f_Mod_doPending F x0 h) fun h_1_2 => gd (hK h_1_2 x0 = 12) <| if (hI h_1_2 715 x0) = (1 : Int32) then (clv (f_Mod_dispatch F x0 h_1_2) fun h_13 => b_Mod_oneCycle_16 F x0 h_13) else (b_Mod_oneCycle_16 F x0 h_1_2)
set_option maxRecDepth 100000 in
set_option maxHeartbeats 4000000 in
theorem e_Mod_oneCycle {G : Gl} (hw : gF G) {F : Nat} {h' : Hp} {x0 : Nat} {h : Hp} (hf : f_Mod_oneCycle F x0 h = some h') : Ex G mi_Mod_oneCycle [.ref x0] h (pV h') := by
  unfold f_Mod_oneCycle at hf
  refine Ex.of nmV (by decide) (Nat.le_of_ble_eq_true rfl) ?_
  show Go G mi_Mod_oneCycle h _ h 0 [(0, .ref x0)] []
  refine g_aload_n d_Mod_oneCycle_0 rfl ?_
  obtain ⟨k_1, hf⟩ := gd_s hf
  obtain ⟨h_1_2, e_1_2, hf⟩ := clv_s hf
  refine g_callV (mz := mi_Mod_doPending) (e_Mod_doPending hw e_1_2) cw_Mod_oneCycle_Mod_doPending lm_Mod_359 wI_Mod_doPending wV_Mod_doPending (ci := 11) k_1 (by decide) rfl rfl d_Mod_oneCycle_1 rfl rfl (by first | exact Nat.le_of_ble_eq_true rfl | simp [cat_rf, Value.category]) (fun r1 h1 hp hro => ?_)
  obtain ⟨rfl, rfl⟩ := hp
  dsimp only [Option.toList_some, Option.toList_none, List.cons_append, List.nil_append]
  refine g_aload_n d_Mod_oneCycle_4 rfl ?_
  obtain ⟨k_5, hf⟩ := gd_s hf
  refine fg_Mod_status lf_Mod_136 d_Mod_oneCycle_5 k_5 ?_
  refine g_iconst 1 d_Mod_oneCycle_8 (by decide) ?_
  refine g_icmp_ne 16 d_Mod_oneCycle_9 (by decide) (fun c_9 => ?_) (fun c_9 => ?_)
  · have hf := ifn hf c_9
    have key := e_Mod_oneCycle_16 hw (G := G) (h0 := h)  hf
    exact key
  · have hf := ifp hf c_9
    refine g_aload_n d_Mod_oneCycle_12 rfl ?_
    obtain ⟨h_13, e_13, hf⟩ := clv_s hf
    refine g_callV (mz := mi_Mod_dispatch) (e_Mod_dispatch hw e_13) cw_Mod_oneCycle_Mod_dispatch lm_Mod_362 wI_Mod_dispatch wV_Mod_dispatch (ci := 11) k_5 (by decide) rfl rfl d_Mod_oneCycle_13 rfl rfl (by first | exact Nat.le_of_ble_eq_true rfl | simp [cat_rf, Value.category]) (fun r1 h1 hp hro => ?_)
    obtain ⟨rfl, rfl⟩ := hp
    dsimp only [Option.toList_some, Option.toList_none, List.cons_append, List.nil_append]
    have key := e_Mod_oneCycle_16 hw (G := G) (h0 := h)  hf
    exact key
abbrev mi_Mod_run : MI := (⟨"WarpMillModel", "run", "(I)I"⟩, prog_13_method_61_code, 3, some .int, 8, 192)
def it_Mod_run_0 : List (Nat × ClassFile.Instr × Nat) := [(0, .iload_n 1, 1), (1, .iconst 1, 1), (2, .if_icmp .lt (10), 3), (5, .iload_n 1, 1), (6, .sipush (500), 3), (9, .if_icmp .le (9), 3), (12, .aload_n 0, 1), (13, .iconst 1, 1), (14, .invokevirtual 371, 3), (17, .ireturn, 1), (18, .aload_n 0, 1), (19, .getfield 368, 3), (22, .sipush (20000), 3), (25, .if_icmp .lt (9), 3), (28, .aload_n 0, 1), (29, .iconst 2, 1), (30, .invokevirtual 371, 3), (33, .ireturn, 1), (34, .aload_n 0, 1), (35, .iconst 0, 1), (36, .putfield 120, 3), (39, .iconst 0, 1), (40, .istore_n 2, 1), (41, .iload_n 2, 1)]
theorem id_Mod_run_0 : ∀ q ∈ it_Mod_run_0, decode prog_13_method_61_code q.1 = .ok q.2 := by decide +kernel
theorem d_Mod_run_0 : decode prog_13_method_61_code 0 = .ok (.iload_n 1, 1) := id_Mod_run_0 (0, .iload_n 1, 1) (List.mem_of_getElem? (i := 0) rfl)
theorem d_Mod_run_1 : decode prog_13_method_61_code 1 = .ok (.iconst 1, 1) := id_Mod_run_0 (1, .iconst 1, 1) (List.mem_of_getElem? (i := 1) rfl)
theorem d_Mod_run_2 : decode prog_13_method_61_code 2 = .ok (.if_icmp .lt (10), 3) := id_Mod_run_0 (2, .if_icmp .lt (10), 3) (List.mem_of_getElem? (i := 2) rfl)
theorem d_Mod_run_5 : decode prog_13_method_61_code 5 = .ok (.iload_n 1, 1) := id_Mod_run_0 (5, .iload_n 1, 1) (List.mem_of_getElem? (i := 3) rfl)
theorem d_Mod_run_6 : decode prog_13_method_61_code 6 = .ok (.sipush (500), 3) := id_Mod_run_0 (6, .sipush (500), 3) (List.mem_of_getElem? (i := 4) rfl)
theorem d_Mod_run_9 : decode prog_13_method_61_code 9 = .ok (.if_icmp .le (9), 3) := id_Mod_run_0 (9, .if_icmp .le (9), 3) (List.mem_of_getElem? (i := 5) rfl)
theorem d_Mod_run_12 : decode prog_13_method_61_code 12 = .ok (.aload_n 0, 1) := id_Mod_run_0 (12, .aload_n 0, 1) (List.mem_of_getElem? (i := 6) rfl)
theorem d_Mod_run_13 : decode prog_13_method_61_code 13 = .ok (.iconst 1, 1) := id_Mod_run_0 (13, .iconst 1, 1) (List.mem_of_getElem? (i := 7) rfl)
theorem d_Mod_run_14 : decode prog_13_method_61_code 14 = .ok (.invokevirtual 371, 3) := id_Mod_run_0 (14, .invokevirtual 371, 3) (List.mem_of_getElem? (i := 8) rfl)
theorem d_Mod_run_17 : decode prog_13_method_61_code 17 = .ok (.ireturn, 1) := id_Mod_run_0 (17, .ireturn, 1) (List.mem_of_getElem? (i := 9) rfl)
theorem d_Mod_run_18 : decode prog_13_method_61_code 18 = .ok (.aload_n 0, 1) := id_Mod_run_0 (18, .aload_n 0, 1) (List.mem_of_getElem? (i := 10) rfl)
theorem d_Mod_run_19 : decode prog_13_method_61_code 19 = .ok (.getfield 368, 3) := id_Mod_run_0 (19, .getfield 368, 3) (List.mem_of_getElem? (i := 11) rfl)
theorem d_Mod_run_22 : decode prog_13_method_61_code 22 = .ok (.sipush (20000), 3) := id_Mod_run_0 (22, .sipush (20000), 3) (List.mem_of_getElem? (i := 12) rfl)
theorem d_Mod_run_25 : decode prog_13_method_61_code 25 = .ok (.if_icmp .lt (9), 3) := id_Mod_run_0 (25, .if_icmp .lt (9), 3) (List.mem_of_getElem? (i := 13) rfl)
theorem d_Mod_run_28 : decode prog_13_method_61_code 28 = .ok (.aload_n 0, 1) := id_Mod_run_0 (28, .aload_n 0, 1) (List.mem_of_getElem? (i := 14) rfl)
theorem d_Mod_run_29 : decode prog_13_method_61_code 29 = .ok (.iconst 2, 1) := id_Mod_run_0 (29, .iconst 2, 1) (List.mem_of_getElem? (i := 15) rfl)
theorem d_Mod_run_30 : decode prog_13_method_61_code 30 = .ok (.invokevirtual 371, 3) := id_Mod_run_0 (30, .invokevirtual 371, 3) (List.mem_of_getElem? (i := 16) rfl)
theorem d_Mod_run_33 : decode prog_13_method_61_code 33 = .ok (.ireturn, 1) := id_Mod_run_0 (33, .ireturn, 1) (List.mem_of_getElem? (i := 17) rfl)
theorem d_Mod_run_34 : decode prog_13_method_61_code 34 = .ok (.aload_n 0, 1) := id_Mod_run_0 (34, .aload_n 0, 1) (List.mem_of_getElem? (i := 18) rfl)
theorem d_Mod_run_35 : decode prog_13_method_61_code 35 = .ok (.iconst 0, 1) := id_Mod_run_0 (35, .iconst 0, 1) (List.mem_of_getElem? (i := 19) rfl)
theorem d_Mod_run_36 : decode prog_13_method_61_code 36 = .ok (.putfield 120, 3) := id_Mod_run_0 (36, .putfield 120, 3) (List.mem_of_getElem? (i := 20) rfl)
theorem d_Mod_run_39 : decode prog_13_method_61_code 39 = .ok (.iconst 0, 1) := id_Mod_run_0 (39, .iconst 0, 1) (List.mem_of_getElem? (i := 21) rfl)
theorem d_Mod_run_40 : decode prog_13_method_61_code 40 = .ok (.istore_n 2, 1) := id_Mod_run_0 (40, .istore_n 2, 1) (List.mem_of_getElem? (i := 22) rfl)
theorem d_Mod_run_41 : decode prog_13_method_61_code 41 = .ok (.iload_n 2, 1) := id_Mod_run_0 (41, .iload_n 2, 1) (List.mem_of_getElem? (i := 23) rfl)
def it_Mod_run_1 : List (Nat × ClassFile.Instr × Nat) := [(42, .iload_n 1, 1), (43, .if_icmp .ge (30), 3), (46, .aload_n 0, 1), (47, .invokevirtual 143, 3), (50, .ifCond .eq (23), 3), (53, .aload_n 0, 1), (54, .getfield 368, 3), (57, .sipush (20000), 3), (60, .if_icmp .ge (13), 3), (63, .aload_n 0, 1), (64, .invokevirtual 374, 3), (67, .iinc 2 (1), 3), (70, .goto (-29), 3), (73, .aload_n 0, 1), (74, .getfield 136, 3), (77, .ireturn, 1)]
theorem id_Mod_run_1 : ∀ q ∈ it_Mod_run_1, decode prog_13_method_61_code q.1 = .ok q.2 := by decide +kernel
theorem d_Mod_run_42 : decode prog_13_method_61_code 42 = .ok (.iload_n 1, 1) := id_Mod_run_1 (42, .iload_n 1, 1) (List.mem_of_getElem? (i := 0) rfl)
theorem d_Mod_run_43 : decode prog_13_method_61_code 43 = .ok (.if_icmp .ge (30), 3) := id_Mod_run_1 (43, .if_icmp .ge (30), 3) (List.mem_of_getElem? (i := 1) rfl)
theorem d_Mod_run_46 : decode prog_13_method_61_code 46 = .ok (.aload_n 0, 1) := id_Mod_run_1 (46, .aload_n 0, 1) (List.mem_of_getElem? (i := 2) rfl)
theorem d_Mod_run_47 : decode prog_13_method_61_code 47 = .ok (.invokevirtual 143, 3) := id_Mod_run_1 (47, .invokevirtual 143, 3) (List.mem_of_getElem? (i := 3) rfl)
theorem d_Mod_run_50 : decode prog_13_method_61_code 50 = .ok (.ifCond .eq (23), 3) := id_Mod_run_1 (50, .ifCond .eq (23), 3) (List.mem_of_getElem? (i := 4) rfl)
theorem d_Mod_run_53 : decode prog_13_method_61_code 53 = .ok (.aload_n 0, 1) := id_Mod_run_1 (53, .aload_n 0, 1) (List.mem_of_getElem? (i := 5) rfl)
theorem d_Mod_run_54 : decode prog_13_method_61_code 54 = .ok (.getfield 368, 3) := id_Mod_run_1 (54, .getfield 368, 3) (List.mem_of_getElem? (i := 6) rfl)
theorem d_Mod_run_57 : decode prog_13_method_61_code 57 = .ok (.sipush (20000), 3) := id_Mod_run_1 (57, .sipush (20000), 3) (List.mem_of_getElem? (i := 7) rfl)
theorem d_Mod_run_60 : decode prog_13_method_61_code 60 = .ok (.if_icmp .ge (13), 3) := id_Mod_run_1 (60, .if_icmp .ge (13), 3) (List.mem_of_getElem? (i := 8) rfl)
theorem d_Mod_run_63 : decode prog_13_method_61_code 63 = .ok (.aload_n 0, 1) := id_Mod_run_1 (63, .aload_n 0, 1) (List.mem_of_getElem? (i := 9) rfl)
theorem d_Mod_run_64 : decode prog_13_method_61_code 64 = .ok (.invokevirtual 374, 3) := id_Mod_run_1 (64, .invokevirtual 374, 3) (List.mem_of_getElem? (i := 10) rfl)
theorem d_Mod_run_67 : decode prog_13_method_61_code 67 = .ok (.iinc 2 (1), 3) := id_Mod_run_1 (67, .iinc 2 (1), 3) (List.mem_of_getElem? (i := 11) rfl)
theorem d_Mod_run_70 : decode prog_13_method_61_code 70 = .ok (.goto (-29), 3) := id_Mod_run_1 (70, .goto (-29), 3) (List.mem_of_getElem? (i := 12) rfl)
theorem d_Mod_run_73 : decode prog_13_method_61_code 73 = .ok (.aload_n 0, 1) := id_Mod_run_1 (73, .aload_n 0, 1) (List.mem_of_getElem? (i := 13) rfl)
theorem d_Mod_run_74 : decode prog_13_method_61_code 74 = .ok (.getfield 136, 3) := id_Mod_run_1 (74, .getfield 136, 3) (List.mem_of_getElem? (i := 14) rfl)
theorem d_Mod_run_77 : decode prog_13_method_61_code 77 = .ok (.ireturn, 1) := id_Mod_run_1 (77, .ireturn, 1) (List.mem_of_getElem? (i := 15) rfl)
theorem wC_Mod_run : Cond.code ⟨"WarpMillModel", "run", "(I)I"⟩ prog_13_method_61_code 3 (some .int) ∈ lw_tb := mem_tb 1280 (by decide +kernel) rfl
theorem cw_Mod_run_Mod_raise : cW mi_Mod_run mi_Mod_raise 1 := ⟨wC_Mod_raise, wi_Mod, ⟨by decide, by decide, by decide +kernel⟩, by decide, by decide⟩
theorem cw_Mod_run_Mod_isUnder : cW mi_Mod_run mi_Mod_isUnder 0 := ⟨wC_Mod_isUnder, wi_Mod, ⟨by decide, by decide, by decide +kernel⟩, by decide, by decide⟩
theorem cw_Mod_run_Mod_oneCycle : cW mi_Mod_run mi_Mod_oneCycle 0 := ⟨wC_Mod_oneCycle, wi_Mod, ⟨by decide, by decide, by decide +kernel⟩, by decide, by decide⟩
def b_Mod_run_12 (F : Nat) (x0 : Nat) (h : Hp) : Option (Int32 × Hp) := gd (hK h x0 = 12) <| cl (f_Mod_raise F x0 (1 : Int32) h) fun v_14_2 h_14_2 => some (v_14_2, h_14_2)
set_option maxRecDepth 100000 in
set_option maxHeartbeats 4000000 in
theorem e_Mod_run_12 {G : Gl} (hw : gF G) {h0 : Hp} {F : Nat} {r : Int32} {h' : Hp}   {x0 : Nat} {h : Hp} (hf : b_Mod_run_12 F x0 h = some (r, h')) : Go G mi_Mod_run h0 (pI r h') h 12 [(0, .ref x0)] [] := by
  unfold b_Mod_run_12 at hf
  refine g_aload_n d_Mod_run_12 rfl ?_
  refine g_iconst 1 d_Mod_run_13 (by decide) ?_
  obtain ⟨k_14, hf⟩ := gd_s hf
  obtain ⟨v_14_2, h_14_2, e_14_2, hf⟩ := cl_s hf
  refine g_callV (mz := mi_Mod_raise) (e_Mod_raise hw e_14_2) cw_Mod_run_Mod_raise lm_Mod_371 wI_Mod_raise wV_Mod_raise (ci := 11) k_14 (by decide) rfl rfl d_Mod_run_14 rfl rfl (by first | exact Nat.le_of_ble_eq_true rfl | simp [cat_rf, Value.category]) (fun r1 h1 hp hro => ?_)
  obtain ⟨rfl, rfl⟩ := hp
  dsimp only [Option.toList_some, Option.toList_none, List.cons_append, List.nil_append]
  exact Go.ret (some _) (rOk_i _) rfl d_Mod_run_17 (pI_of hf)
def b_Mod_run_73 (F : Nat) (x0 : Nat) (h : Hp) : Option (Int32 × Hp) := gd (hK h x0 = 12) <| some ((hI h 715 x0), h)
set_option maxRecDepth 100000 in
set_option maxHeartbeats 4000000 in
theorem e_Mod_run_73 {G : Gl} (hw : gF G) {h0 : Hp} {F : Nat} {r : Int32} {h' : Hp}   {x0 : Nat} {h : Hp} (hf : b_Mod_run_73 F x0 h = some (r, h')) : Go G mi_Mod_run h0 (pI r h') h 73 [(0, .ref x0)] [] := by
  unfold b_Mod_run_73 at hf
  refine g_aload_n d_Mod_run_73 rfl ?_
  obtain ⟨k_74, hf⟩ := gd_s hf
  refine fg_Mod_status lf_Mod_136 d_Mod_run_74 k_74 ?_
  exact Go.ret (some _) (rOk_i _) rfl d_Mod_run_77 (pI_of hf)
def b_Mod_run_41 (F : Nat) : Nat → Nat → Int32 → Int32 → Hp → Option (Int32 × Hp)
  | 0 => fun _ _ _ _ => none
  | n + 1 => fun x0 x1 x2 h => if x1 ≤ x2 then (b_Mod_run_73 F x0 h) else (gd (hK h x0 = 12) <| cl (f_Mod_isUnder F x0 h) fun v_47_2 h_47_2 => if v_47_2 = 0 then (b_Mod_run_73 F x0 h_47_2) else (gd (hK h_47_2 x0 = 12) <| if (20000 : Int32) ≤ (hI h_47_2 726 x0) then (b_Mod_run_73 F x0 h_47_2) else (clv (f_Mod_oneCycle F x0 h_47_2) fun h_64 => b_Mod_run_41 F n x0 x1 (x2 + 1) h_64)))
set_option maxRecDepth 100000 in
set_option maxHeartbeats 4000000 in
theorem e_Mod_run_41 {G : Gl} (hw : gF G) {h0 : Hp} {F : Nat} {r : Int32} {h' : Hp}   : ∀ (n : Nat) (x0 : Nat) (x1 : Int32) (x2 : Int32) (h : Hp), b_Mod_run_41 F n x0 x1 x2 h = some (r, h') → Go G mi_Mod_run h0 (pI r h') h 41 [(0, .ref x0), (1, .int x1), (2, .int x2)] [] := by
  intro n
  induction n with
  | zero =>
    intro _ _ _ _ hf
    exact nm_s hf
  | succ n ih =>
    intro x0 x1 x2 h hf
    unfold b_Mod_run_41 at hf
    refine g_iload_n d_Mod_run_41 rfl ?_
    refine g_iload_n d_Mod_run_42 rfl ?_
    refine g_icmp_ge 73 d_Mod_run_43 (by decide) (fun c_43 => ?_) (fun c_43 => ?_)
    · have hf := ifp hf c_43
      refine Go.locals [0] rfl ?_
      have key := e_Mod_run_73 hw (G := G) (h0 := h0)  hf
      exact key
    · have hf := ifn hf c_43
      refine g_aload_n d_Mod_run_46 rfl ?_
      obtain ⟨k_47, hf⟩ := gd_s hf
      obtain ⟨v_47_2, h_47_2, e_47_2, hf⟩ := cl_s hf
      refine g_callV (mz := mi_Mod_isUnder) (e_Mod_isUnder e_47_2) cw_Mod_run_Mod_isUnder lm_Mod_143 wI_Mod_isUnder wV_Mod_isUnder (ci := 11) k_47 (by decide) rfl rfl d_Mod_run_47 rfl rfl (by first | exact Nat.le_of_ble_eq_true rfl | simp [cat_rf, Value.category]) (fun r1 h1 hp hro => ?_)
      obtain ⟨rfl, rfl⟩ := hp
      dsimp only [Option.toList_some, Option.toList_none, List.cons_append, List.nil_append]
      refine g_if_eq 73 d_Mod_run_50 (by decide) (fun c_50 => ?_) (fun c_50 => ?_)
      · have hf := ifp hf c_50
        refine Go.locals [0] rfl ?_
        have key := e_Mod_run_73 hw (G := G) (h0 := h0)  hf
        exact key
      · have hf := ifn hf c_50
        refine g_aload_n d_Mod_run_53 rfl ?_
        obtain ⟨k_54, hf⟩ := gd_s hf
        refine fg_Mod_inAll lf_Mod_368 d_Mod_run_54 k_54 ?_
        refine g_sipush (20000) d_Mod_run_57 (by decide) ?_
        refine g_icmp_ge 73 d_Mod_run_60 (by decide) (fun c_60 => ?_) (fun c_60 => ?_)
        · have hf := ifp hf c_60
          refine Go.locals [0] rfl ?_
          have key := e_Mod_run_73 hw (G := G) (h0 := h0)  hf
          exact key
        · have hf := ifn hf c_60
          refine g_aload_n d_Mod_run_63 rfl ?_
          obtain ⟨h_64, e_64, hf⟩ := clv_s hf
          refine g_callV (mz := mi_Mod_oneCycle) (e_Mod_oneCycle hw e_64) cw_Mod_run_Mod_oneCycle lm_Mod_374 wI_Mod_oneCycle wV_Mod_oneCycle (ci := 11) k_54 (by decide) rfl rfl d_Mod_run_64 rfl rfl (by first | exact Nat.le_of_ble_eq_true rfl | simp [cat_rf, Value.category]) (fun r1 h1 hp hro => ?_)
          obtain ⟨rfl, rfl⟩ := hp
          dsimp only [Option.toList_some, Option.toList_none, List.cons_append, List.nil_append]
          refine g_iinc (_ + 1) d_Mod_run_67 rfl (by rfl) (by decide) ?_
          show Go _ _ _ _ _ _ [(0, _), (1, _), (2, _)] _
          refine g_goto 41 d_Mod_run_70 (by decide) ?_
          exact ih _ _ _ _ hf
def f_Mod_run (F : Nat) (x0 : Nat) (x1 : Int32) (h : Hp) : Option (Int32 × Hp) := if x1 < (1 : Int32) then (b_Mod_run_12 F x0 h) else (if x1 ≤ (500 : Int32) then (gd (hK h x0 = 12) <| if (hI h 726 x0) < (20000 : Int32) then (pw (sI h 704 x0 (0 : Int32)) fun h_36 => b_Mod_run_41 F F x0 x1 (0 : Int32) h_36) else (cl (f_Mod_raise F x0 (2 : Int32) h) fun v_30 h_30 => some (v_30, h_30))) else (b_Mod_run_12 F x0 h))
set_option maxRecDepth 100000 in
set_option maxHeartbeats 4000000 in
theorem e_Mod_run {G : Gl} (hw : gF G) {F : Nat} {r : Int32} {h' : Hp} {x0 : Nat} {x1 : Int32} {h : Hp} (hf : f_Mod_run F x0 x1 h = some (r, h')) : Ex G mi_Mod_run [.ref x0, .int x1] h (pI r h') := by
  unfold f_Mod_run at hf
  refine Ex.of nmI (by decide) (Nat.le_of_ble_eq_true rfl) ?_
  show Go G mi_Mod_run h _ h 0 [(0, .ref x0), (1, .int x1)] []
  refine g_iload_n d_Mod_run_0 rfl ?_
  refine g_iconst 1 d_Mod_run_1 (by decide) ?_
  refine g_icmp_lt 12 d_Mod_run_2 (by decide) (fun c_2 => ?_) (fun c_2 => ?_)
  · have hf := ifp hf c_2
    refine Go.locals [0] rfl ?_
    have key := e_Mod_run_12 hw (G := G) (h0 := h)  hf
    exact key
  · have hf := ifn hf c_2
    refine g_iload_n d_Mod_run_5 rfl ?_
    refine g_sipush (500) d_Mod_run_6 (by decide) ?_
    refine g_icmp_le 18 d_Mod_run_9 (by decide) (fun c_9 => ?_) (fun c_9 => ?_)
    · have hf := ifp hf c_9
      refine g_aload_n d_Mod_run_18 rfl ?_
      obtain ⟨k_19, hf⟩ := gd_s hf
      refine fg_Mod_inAll lf_Mod_368 d_Mod_run_19 k_19 ?_
      refine g_sipush (20000) d_Mod_run_22 (by decide) ?_
      refine g_icmp_lt 34 d_Mod_run_25 (by decide) (fun c_25 => ?_) (fun c_25 => ?_)
      · have hf := ifp hf c_25
        refine g_aload_n d_Mod_run_34 rfl ?_
        refine g_iconst 0 d_Mod_run_35 (by decide) ?_
        refine fp_Mod_thrown hw lf_Mod_120 d_Mod_run_36 k_19 ?_
        have hf := pw_b hf
        refine g_iconst 0 d_Mod_run_39 (by decide) ?_
        refine g_istore_n d_Mod_run_40 (by decide) ?_
        show Go _ _ _ _ _ _ [(0, _), (1, _), (2, _)] _
        have key := e_Mod_run_41 hw (G := G) (h0 := h)  F _ _ _ _ hf
        exact key
      · have hf := ifn hf c_25
        refine g_aload_n d_Mod_run_28 rfl ?_
        refine g_iconst 2 d_Mod_run_29 (by decide) ?_
        obtain ⟨v_30, h_30, e_30, hf⟩ := cl_s hf
        refine g_callV (mz := mi_Mod_raise) (e_Mod_raise hw e_30) cw_Mod_run_Mod_raise lm_Mod_371 wI_Mod_raise wV_Mod_raise (ci := 11) k_19 (by decide) rfl rfl d_Mod_run_30 rfl rfl (by first | exact Nat.le_of_ble_eq_true rfl | simp [cat_rf, Value.category]) (fun r1 h1 hp hro => ?_)
        obtain ⟨rfl, rfl⟩ := hp
        dsimp only [Option.toList_some, Option.toList_none, List.cons_append, List.nil_append]
        exact Go.ret (some _) (rOk_i _) rfl d_Mod_run_33 (pI_of hf)
    · have hf := ifn hf c_9
      refine Go.locals [0] rfl ?_
      have key := e_Mod_run_12 hw (G := G) (h0 := h)  hf
      exact key
abbrev mi_Mod_thrown : MI := (⟨"WarpMillModel", "thrown", "()I"⟩, prog_13_method_2_code, 1, some .int, 0, 0)
def it_Mod_thrown_0 : List (Nat × ClassFile.Instr × Nat) := [(0, .aload_n 0, 1), (1, .getfield 120, 3), (4, .ireturn, 1)]
theorem id_Mod_thrown_0 : ∀ q ∈ it_Mod_thrown_0, decode prog_13_method_2_code q.1 = .ok q.2 := by decide +kernel
theorem d_Mod_thrown_0 : decode prog_13_method_2_code 0 = .ok (.aload_n 0, 1) := id_Mod_thrown_0 (0, .aload_n 0, 1) (List.mem_of_getElem? (i := 0) rfl)
theorem d_Mod_thrown_1 : decode prog_13_method_2_code 1 = .ok (.getfield 120, 3) := id_Mod_thrown_0 (1, .getfield 120, 3) (List.mem_of_getElem? (i := 1) rfl)
theorem d_Mod_thrown_4 : decode prog_13_method_2_code 4 = .ok (.ireturn, 1) := id_Mod_thrown_0 (4, .ireturn, 1) (List.mem_of_getElem? (i := 2) rfl)
theorem wC_Mod_thrown : Cond.code ⟨"WarpMillModel", "thrown", "()I"⟩ prog_13_method_2_code 1 (some .int) ∈ lw_tb := mem_tb 1249 (by decide +kernel) rfl
def f_Mod_thrown (F : Nat) (x0 : Nat) (h : Hp) : Option (Int32 × Hp) := gd (hK h x0 = 12) <| some ((hI h 704 x0), h)
set_option maxRecDepth 100000 in
set_option maxHeartbeats 4000000 in
theorem e_Mod_thrown {G : Gl} {F : Nat} {r : Int32} {h' : Hp} {x0 : Nat} {h : Hp} (hf : f_Mod_thrown F x0 h = some (r, h')) : Ex G mi_Mod_thrown [.ref x0] h (pI r h') := by
  unfold f_Mod_thrown at hf
  refine Ex.of nmI (by decide) (Nat.le_of_ble_eq_true rfl) ?_
  show Go G mi_Mod_thrown h _ h 0 [(0, .ref x0)] []
  refine g_aload_n d_Mod_thrown_0 rfl ?_
  obtain ⟨k_1, hf⟩ := gd_s hf
  refine fg_Mod_thrown lf_Mod_120 d_Mod_thrown_1 k_1 ?_
  exact Go.ret (some _) (rOk_i _) rfl d_Mod_thrown_4 (pI_of hf)
