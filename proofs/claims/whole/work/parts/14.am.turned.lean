abbrev mi_Mod_isReady : MI := (⟨"WarpMillModel", "isReady", "(II)Z"⟩, prog_13_method_34_code, 5, some .boolean, 3, 69)
def it_Mod_isReady_0 : List (Nat × ClassFile.Instr × Nat) := [(0, .aload_n 0, 1), (1, .getfield 54, 3), (4, .iload_n 2, 1), (5, .iaload, 1), (6, .iconst (-1), 1), (7, .if_icmp .eq (11), 3), (10, .aload_n 0, 1), (11, .iload_n 2, 1), (12, .invokevirtual 246, 3), (15, .ifCond .ne (5), 3), (18, .iconst 0, 1), (19, .ireturn, 1), (20, .aload_n 0, 1), (21, .getfield 73, 3), (24, .iload_n 2, 1), (25, .aload_n 0, 1), (26, .invokevirtual 250, 3), (29, .invokestatic 211, 3), (32, .iaload, 1), (33, .istore_n 3, 1), (34, .iload_n 3, 1), (35, .ifCond .lt (10), 3), (38, .iload_n 3, 1), (39, .sipush (128), 3)]
theorem id_Mod_isReady_0 : ∀ q ∈ it_Mod_isReady_0, decode prog_13_method_34_code q.1 = .ok q.2 := by decide +kernel
theorem d_Mod_isReady_0 : decode prog_13_method_34_code 0 = .ok (.aload_n 0, 1) := id_Mod_isReady_0 (0, .aload_n 0, 1) (List.mem_of_getElem? (i := 0) rfl)
theorem d_Mod_isReady_1 : decode prog_13_method_34_code 1 = .ok (.getfield 54, 3) := id_Mod_isReady_0 (1, .getfield 54, 3) (List.mem_of_getElem? (i := 1) rfl)
theorem d_Mod_isReady_4 : decode prog_13_method_34_code 4 = .ok (.iload_n 2, 1) := id_Mod_isReady_0 (4, .iload_n 2, 1) (List.mem_of_getElem? (i := 2) rfl)
theorem d_Mod_isReady_5 : decode prog_13_method_34_code 5 = .ok (.iaload, 1) := id_Mod_isReady_0 (5, .iaload, 1) (List.mem_of_getElem? (i := 3) rfl)
theorem d_Mod_isReady_6 : decode prog_13_method_34_code 6 = .ok (.iconst (-1), 1) := id_Mod_isReady_0 (6, .iconst (-1), 1) (List.mem_of_getElem? (i := 4) rfl)
theorem d_Mod_isReady_7 : decode prog_13_method_34_code 7 = .ok (.if_icmp .eq (11), 3) := id_Mod_isReady_0 (7, .if_icmp .eq (11), 3) (List.mem_of_getElem? (i := 5) rfl)
theorem d_Mod_isReady_10 : decode prog_13_method_34_code 10 = .ok (.aload_n 0, 1) := id_Mod_isReady_0 (10, .aload_n 0, 1) (List.mem_of_getElem? (i := 6) rfl)
theorem d_Mod_isReady_11 : decode prog_13_method_34_code 11 = .ok (.iload_n 2, 1) := id_Mod_isReady_0 (11, .iload_n 2, 1) (List.mem_of_getElem? (i := 7) rfl)
theorem d_Mod_isReady_12 : decode prog_13_method_34_code 12 = .ok (.invokevirtual 246, 3) := id_Mod_isReady_0 (12, .invokevirtual 246, 3) (List.mem_of_getElem? (i := 8) rfl)
theorem d_Mod_isReady_15 : decode prog_13_method_34_code 15 = .ok (.ifCond .ne (5), 3) := id_Mod_isReady_0 (15, .ifCond .ne (5), 3) (List.mem_of_getElem? (i := 9) rfl)
theorem d_Mod_isReady_18 : decode prog_13_method_34_code 18 = .ok (.iconst 0, 1) := id_Mod_isReady_0 (18, .iconst 0, 1) (List.mem_of_getElem? (i := 10) rfl)
theorem d_Mod_isReady_19 : decode prog_13_method_34_code 19 = .ok (.ireturn, 1) := id_Mod_isReady_0 (19, .ireturn, 1) (List.mem_of_getElem? (i := 11) rfl)
theorem d_Mod_isReady_20 : decode prog_13_method_34_code 20 = .ok (.aload_n 0, 1) := id_Mod_isReady_0 (20, .aload_n 0, 1) (List.mem_of_getElem? (i := 12) rfl)
theorem d_Mod_isReady_21 : decode prog_13_method_34_code 21 = .ok (.getfield 73, 3) := id_Mod_isReady_0 (21, .getfield 73, 3) (List.mem_of_getElem? (i := 13) rfl)
theorem d_Mod_isReady_24 : decode prog_13_method_34_code 24 = .ok (.iload_n 2, 1) := id_Mod_isReady_0 (24, .iload_n 2, 1) (List.mem_of_getElem? (i := 14) rfl)
theorem d_Mod_isReady_25 : decode prog_13_method_34_code 25 = .ok (.aload_n 0, 1) := id_Mod_isReady_0 (25, .aload_n 0, 1) (List.mem_of_getElem? (i := 15) rfl)
theorem d_Mod_isReady_26 : decode prog_13_method_34_code 26 = .ok (.invokevirtual 250, 3) := id_Mod_isReady_0 (26, .invokevirtual 250, 3) (List.mem_of_getElem? (i := 16) rfl)
theorem d_Mod_isReady_29 : decode prog_13_method_34_code 29 = .ok (.invokestatic 211, 3) := id_Mod_isReady_0 (29, .invokestatic 211, 3) (List.mem_of_getElem? (i := 17) rfl)
theorem d_Mod_isReady_32 : decode prog_13_method_34_code 32 = .ok (.iaload, 1) := id_Mod_isReady_0 (32, .iaload, 1) (List.mem_of_getElem? (i := 18) rfl)
theorem d_Mod_isReady_33 : decode prog_13_method_34_code 33 = .ok (.istore_n 3, 1) := id_Mod_isReady_0 (33, .istore_n 3, 1) (List.mem_of_getElem? (i := 19) rfl)
theorem d_Mod_isReady_34 : decode prog_13_method_34_code 34 = .ok (.iload_n 3, 1) := id_Mod_isReady_0 (34, .iload_n 3, 1) (List.mem_of_getElem? (i := 20) rfl)
theorem d_Mod_isReady_35 : decode prog_13_method_34_code 35 = .ok (.ifCond .lt (10), 3) := id_Mod_isReady_0 (35, .ifCond .lt (10), 3) (List.mem_of_getElem? (i := 21) rfl)
theorem d_Mod_isReady_38 : decode prog_13_method_34_code 38 = .ok (.iload_n 3, 1) := id_Mod_isReady_0 (38, .iload_n 3, 1) (List.mem_of_getElem? (i := 22) rfl)
theorem d_Mod_isReady_39 : decode prog_13_method_34_code 39 = .ok (.sipush (128), 3) := id_Mod_isReady_0 (39, .sipush (128), 3) (List.mem_of_getElem? (i := 23) rfl)
def it_Mod_isReady_1 : List (Nat × ClassFile.Instr × Nat) := [(42, .if_icmp .lt (5), 3), (45, .iconst 1, 1), (46, .ireturn, 1), (47, .aload_n 0, 1), (48, .aload_n 0, 1), (49, .getfield 28, 3), (52, .iload_n 3, 1), (53, .laload, 1), (54, .invokevirtual 253, 3), (57, .aload_n 0, 1), (58, .invokevirtual 257, 3), (61, .ifCond .ne (5), 3), (64, .iconst 1, 1), (65, .ireturn, 1), (66, .aload_n 0, 1), (67, .getfield 234, 3), (70, .bipush (8), 2), (72, .if_icmp .lt (15), 3), (75, .aload_n 0, 1), (76, .iload_n 2, 1), (77, .aload_n 0, 1), (78, .getfield 234, 3), (81, .invokevirtual 260, 3), (84, .ifCond .eq (7), 3)]
theorem id_Mod_isReady_1 : ∀ q ∈ it_Mod_isReady_1, decode prog_13_method_34_code q.1 = .ok q.2 := by decide +kernel
theorem d_Mod_isReady_42 : decode prog_13_method_34_code 42 = .ok (.if_icmp .lt (5), 3) := id_Mod_isReady_1 (42, .if_icmp .lt (5), 3) (List.mem_of_getElem? (i := 0) rfl)
theorem d_Mod_isReady_45 : decode prog_13_method_34_code 45 = .ok (.iconst 1, 1) := id_Mod_isReady_1 (45, .iconst 1, 1) (List.mem_of_getElem? (i := 1) rfl)
theorem d_Mod_isReady_46 : decode prog_13_method_34_code 46 = .ok (.ireturn, 1) := id_Mod_isReady_1 (46, .ireturn, 1) (List.mem_of_getElem? (i := 2) rfl)
theorem d_Mod_isReady_47 : decode prog_13_method_34_code 47 = .ok (.aload_n 0, 1) := id_Mod_isReady_1 (47, .aload_n 0, 1) (List.mem_of_getElem? (i := 3) rfl)
theorem d_Mod_isReady_48 : decode prog_13_method_34_code 48 = .ok (.aload_n 0, 1) := id_Mod_isReady_1 (48, .aload_n 0, 1) (List.mem_of_getElem? (i := 4) rfl)
theorem d_Mod_isReady_49 : decode prog_13_method_34_code 49 = .ok (.getfield 28, 3) := id_Mod_isReady_1 (49, .getfield 28, 3) (List.mem_of_getElem? (i := 5) rfl)
theorem d_Mod_isReady_52 : decode prog_13_method_34_code 52 = .ok (.iload_n 3, 1) := id_Mod_isReady_1 (52, .iload_n 3, 1) (List.mem_of_getElem? (i := 6) rfl)
theorem d_Mod_isReady_53 : decode prog_13_method_34_code 53 = .ok (.laload, 1) := id_Mod_isReady_1 (53, .laload, 1) (List.mem_of_getElem? (i := 7) rfl)
theorem d_Mod_isReady_54 : decode prog_13_method_34_code 54 = .ok (.invokevirtual 253, 3) := id_Mod_isReady_1 (54, .invokevirtual 253, 3) (List.mem_of_getElem? (i := 8) rfl)
theorem d_Mod_isReady_57 : decode prog_13_method_34_code 57 = .ok (.aload_n 0, 1) := id_Mod_isReady_1 (57, .aload_n 0, 1) (List.mem_of_getElem? (i := 9) rfl)
theorem d_Mod_isReady_58 : decode prog_13_method_34_code 58 = .ok (.invokevirtual 257, 3) := id_Mod_isReady_1 (58, .invokevirtual 257, 3) (List.mem_of_getElem? (i := 10) rfl)
theorem d_Mod_isReady_61 : decode prog_13_method_34_code 61 = .ok (.ifCond .ne (5), 3) := id_Mod_isReady_1 (61, .ifCond .ne (5), 3) (List.mem_of_getElem? (i := 11) rfl)
theorem d_Mod_isReady_64 : decode prog_13_method_34_code 64 = .ok (.iconst 1, 1) := id_Mod_isReady_1 (64, .iconst 1, 1) (List.mem_of_getElem? (i := 12) rfl)
theorem d_Mod_isReady_65 : decode prog_13_method_34_code 65 = .ok (.ireturn, 1) := id_Mod_isReady_1 (65, .ireturn, 1) (List.mem_of_getElem? (i := 13) rfl)
theorem d_Mod_isReady_66 : decode prog_13_method_34_code 66 = .ok (.aload_n 0, 1) := id_Mod_isReady_1 (66, .aload_n 0, 1) (List.mem_of_getElem? (i := 14) rfl)
theorem d_Mod_isReady_67 : decode prog_13_method_34_code 67 = .ok (.getfield 234, 3) := id_Mod_isReady_1 (67, .getfield 234, 3) (List.mem_of_getElem? (i := 15) rfl)
theorem d_Mod_isReady_70 : decode prog_13_method_34_code 70 = .ok (.bipush (8), 2) := id_Mod_isReady_1 (70, .bipush (8), 2) (List.mem_of_getElem? (i := 16) rfl)
theorem d_Mod_isReady_72 : decode prog_13_method_34_code 72 = .ok (.if_icmp .lt (15), 3) := id_Mod_isReady_1 (72, .if_icmp .lt (15), 3) (List.mem_of_getElem? (i := 17) rfl)
theorem d_Mod_isReady_75 : decode prog_13_method_34_code 75 = .ok (.aload_n 0, 1) := id_Mod_isReady_1 (75, .aload_n 0, 1) (List.mem_of_getElem? (i := 18) rfl)
theorem d_Mod_isReady_76 : decode prog_13_method_34_code 76 = .ok (.iload_n 2, 1) := id_Mod_isReady_1 (76, .iload_n 2, 1) (List.mem_of_getElem? (i := 19) rfl)
theorem d_Mod_isReady_77 : decode prog_13_method_34_code 77 = .ok (.aload_n 0, 1) := id_Mod_isReady_1 (77, .aload_n 0, 1) (List.mem_of_getElem? (i := 20) rfl)
theorem d_Mod_isReady_78 : decode prog_13_method_34_code 78 = .ok (.getfield 234, 3) := id_Mod_isReady_1 (78, .getfield 234, 3) (List.mem_of_getElem? (i := 21) rfl)
theorem d_Mod_isReady_81 : decode prog_13_method_34_code 81 = .ok (.invokevirtual 260, 3) := id_Mod_isReady_1 (81, .invokevirtual 260, 3) (List.mem_of_getElem? (i := 22) rfl)
theorem d_Mod_isReady_84 : decode prog_13_method_34_code 84 = .ok (.ifCond .eq (7), 3) := id_Mod_isReady_1 (84, .ifCond .eq (7), 3) (List.mem_of_getElem? (i := 23) rfl)
def it_Mod_isReady_2 : List (Nat × ClassFile.Instr × Nat) := [(87, .iconst 1, 1), (88, .goto (4), 3), (91, .iconst 0, 1), (92, .istore 4, 2), (94, .iload 4, 2), (96, .ifCond .eq (73), 3), (99, .aload_n 0, 1), (100, .invokevirtual 263, 3), (103, .ifCond .eq (15), 3), (106, .aload_n 0, 1), (107, .iload_n 2, 1), (108, .aload_n 0, 1), (109, .getfield 228, 3), (112, .invokevirtual 243, 3), (115, .ifCond .eq (54), 3), (118, .aload_n 0, 1), (119, .invokevirtual 266, 3), (122, .ifCond .eq (15), 3), (125, .aload_n 0, 1), (126, .iload_n 2, 1), (127, .aload_n 0, 1), (128, .getfield 231, 3), (131, .invokevirtual 243, 3), (134, .ifCond .eq (35), 3)]
theorem id_Mod_isReady_2 : ∀ q ∈ it_Mod_isReady_2, decode prog_13_method_34_code q.1 = .ok q.2 := by decide +kernel
theorem d_Mod_isReady_87 : decode prog_13_method_34_code 87 = .ok (.iconst 1, 1) := id_Mod_isReady_2 (87, .iconst 1, 1) (List.mem_of_getElem? (i := 0) rfl)
theorem d_Mod_isReady_88 : decode prog_13_method_34_code 88 = .ok (.goto (4), 3) := id_Mod_isReady_2 (88, .goto (4), 3) (List.mem_of_getElem? (i := 1) rfl)
theorem d_Mod_isReady_91 : decode prog_13_method_34_code 91 = .ok (.iconst 0, 1) := id_Mod_isReady_2 (91, .iconst 0, 1) (List.mem_of_getElem? (i := 2) rfl)
theorem d_Mod_isReady_92 : decode prog_13_method_34_code 92 = .ok (.istore 4, 2) := id_Mod_isReady_2 (92, .istore 4, 2) (List.mem_of_getElem? (i := 3) rfl)
theorem d_Mod_isReady_94 : decode prog_13_method_34_code 94 = .ok (.iload 4, 2) := id_Mod_isReady_2 (94, .iload 4, 2) (List.mem_of_getElem? (i := 4) rfl)
theorem d_Mod_isReady_96 : decode prog_13_method_34_code 96 = .ok (.ifCond .eq (73), 3) := id_Mod_isReady_2 (96, .ifCond .eq (73), 3) (List.mem_of_getElem? (i := 5) rfl)
theorem d_Mod_isReady_99 : decode prog_13_method_34_code 99 = .ok (.aload_n 0, 1) := id_Mod_isReady_2 (99, .aload_n 0, 1) (List.mem_of_getElem? (i := 6) rfl)
theorem d_Mod_isReady_100 : decode prog_13_method_34_code 100 = .ok (.invokevirtual 263, 3) := id_Mod_isReady_2 (100, .invokevirtual 263, 3) (List.mem_of_getElem? (i := 7) rfl)
theorem d_Mod_isReady_103 : decode prog_13_method_34_code 103 = .ok (.ifCond .eq (15), 3) := id_Mod_isReady_2 (103, .ifCond .eq (15), 3) (List.mem_of_getElem? (i := 8) rfl)
theorem d_Mod_isReady_106 : decode prog_13_method_34_code 106 = .ok (.aload_n 0, 1) := id_Mod_isReady_2 (106, .aload_n 0, 1) (List.mem_of_getElem? (i := 9) rfl)
theorem d_Mod_isReady_107 : decode prog_13_method_34_code 107 = .ok (.iload_n 2, 1) := id_Mod_isReady_2 (107, .iload_n 2, 1) (List.mem_of_getElem? (i := 10) rfl)
theorem d_Mod_isReady_108 : decode prog_13_method_34_code 108 = .ok (.aload_n 0, 1) := id_Mod_isReady_2 (108, .aload_n 0, 1) (List.mem_of_getElem? (i := 11) rfl)
theorem d_Mod_isReady_109 : decode prog_13_method_34_code 109 = .ok (.getfield 228, 3) := id_Mod_isReady_2 (109, .getfield 228, 3) (List.mem_of_getElem? (i := 12) rfl)
theorem d_Mod_isReady_112 : decode prog_13_method_34_code 112 = .ok (.invokevirtual 243, 3) := id_Mod_isReady_2 (112, .invokevirtual 243, 3) (List.mem_of_getElem? (i := 13) rfl)
theorem d_Mod_isReady_115 : decode prog_13_method_34_code 115 = .ok (.ifCond .eq (54), 3) := id_Mod_isReady_2 (115, .ifCond .eq (54), 3) (List.mem_of_getElem? (i := 14) rfl)
theorem d_Mod_isReady_118 : decode prog_13_method_34_code 118 = .ok (.aload_n 0, 1) := id_Mod_isReady_2 (118, .aload_n 0, 1) (List.mem_of_getElem? (i := 15) rfl)
theorem d_Mod_isReady_119 : decode prog_13_method_34_code 119 = .ok (.invokevirtual 266, 3) := id_Mod_isReady_2 (119, .invokevirtual 266, 3) (List.mem_of_getElem? (i := 16) rfl)
theorem d_Mod_isReady_122 : decode prog_13_method_34_code 122 = .ok (.ifCond .eq (15), 3) := id_Mod_isReady_2 (122, .ifCond .eq (15), 3) (List.mem_of_getElem? (i := 17) rfl)
theorem d_Mod_isReady_125 : decode prog_13_method_34_code 125 = .ok (.aload_n 0, 1) := id_Mod_isReady_2 (125, .aload_n 0, 1) (List.mem_of_getElem? (i := 18) rfl)
theorem d_Mod_isReady_126 : decode prog_13_method_34_code 126 = .ok (.iload_n 2, 1) := id_Mod_isReady_2 (126, .iload_n 2, 1) (List.mem_of_getElem? (i := 19) rfl)
theorem d_Mod_isReady_127 : decode prog_13_method_34_code 127 = .ok (.aload_n 0, 1) := id_Mod_isReady_2 (127, .aload_n 0, 1) (List.mem_of_getElem? (i := 20) rfl)
theorem d_Mod_isReady_128 : decode prog_13_method_34_code 128 = .ok (.getfield 231, 3) := id_Mod_isReady_2 (128, .getfield 231, 3) (List.mem_of_getElem? (i := 21) rfl)
theorem d_Mod_isReady_131 : decode prog_13_method_34_code 131 = .ok (.invokevirtual 243, 3) := id_Mod_isReady_2 (131, .invokevirtual 243, 3) (List.mem_of_getElem? (i := 22) rfl)
theorem d_Mod_isReady_134 : decode prog_13_method_34_code 134 = .ok (.ifCond .eq (35), 3) := id_Mod_isReady_2 (134, .ifCond .eq (35), 3) (List.mem_of_getElem? (i := 23) rfl)
def it_Mod_isReady_3 : List (Nat × ClassFile.Instr × Nat) := [(137, .aload_n 0, 1), (138, .invokevirtual 269, 3), (141, .ifCond .ne (12), 3), (144, .aload_n 0, 1), (145, .getfield 220, 3), (148, .bipush (57), 2), (150, .if_icmp .ne (15), 3), (153, .aload_n 0, 1), (154, .iload_n 2, 1), (155, .aload_n 0, 1), (156, .getfield 225, 3), (159, .invokevirtual 243, 3), (162, .ifCond .eq (7), 3), (165, .iconst 1, 1), (166, .goto (4), 3), (169, .iconst 0, 1), (170, .istore 4, 2), (172, .iload 4, 2), (174, .ifCond .eq (70), 3), (177, .aload_n 0, 1), (178, .getfield 220, 3), (181, .bipush (21), 2), (183, .if_icmp .ne (15), 3), (186, .aload_n 0, 1)]
theorem id_Mod_isReady_3 : ∀ q ∈ it_Mod_isReady_3, decode prog_13_method_34_code q.1 = .ok q.2 := by decide +kernel
theorem d_Mod_isReady_137 : decode prog_13_method_34_code 137 = .ok (.aload_n 0, 1) := id_Mod_isReady_3 (137, .aload_n 0, 1) (List.mem_of_getElem? (i := 0) rfl)
theorem d_Mod_isReady_138 : decode prog_13_method_34_code 138 = .ok (.invokevirtual 269, 3) := id_Mod_isReady_3 (138, .invokevirtual 269, 3) (List.mem_of_getElem? (i := 1) rfl)
theorem d_Mod_isReady_141 : decode prog_13_method_34_code 141 = .ok (.ifCond .ne (12), 3) := id_Mod_isReady_3 (141, .ifCond .ne (12), 3) (List.mem_of_getElem? (i := 2) rfl)
theorem d_Mod_isReady_144 : decode prog_13_method_34_code 144 = .ok (.aload_n 0, 1) := id_Mod_isReady_3 (144, .aload_n 0, 1) (List.mem_of_getElem? (i := 3) rfl)
theorem d_Mod_isReady_145 : decode prog_13_method_34_code 145 = .ok (.getfield 220, 3) := id_Mod_isReady_3 (145, .getfield 220, 3) (List.mem_of_getElem? (i := 4) rfl)
theorem d_Mod_isReady_148 : decode prog_13_method_34_code 148 = .ok (.bipush (57), 2) := id_Mod_isReady_3 (148, .bipush (57), 2) (List.mem_of_getElem? (i := 5) rfl)
theorem d_Mod_isReady_150 : decode prog_13_method_34_code 150 = .ok (.if_icmp .ne (15), 3) := id_Mod_isReady_3 (150, .if_icmp .ne (15), 3) (List.mem_of_getElem? (i := 6) rfl)
theorem d_Mod_isReady_153 : decode prog_13_method_34_code 153 = .ok (.aload_n 0, 1) := id_Mod_isReady_3 (153, .aload_n 0, 1) (List.mem_of_getElem? (i := 7) rfl)
theorem d_Mod_isReady_154 : decode prog_13_method_34_code 154 = .ok (.iload_n 2, 1) := id_Mod_isReady_3 (154, .iload_n 2, 1) (List.mem_of_getElem? (i := 8) rfl)
theorem d_Mod_isReady_155 : decode prog_13_method_34_code 155 = .ok (.aload_n 0, 1) := id_Mod_isReady_3 (155, .aload_n 0, 1) (List.mem_of_getElem? (i := 9) rfl)
theorem d_Mod_isReady_156 : decode prog_13_method_34_code 156 = .ok (.getfield 225, 3) := id_Mod_isReady_3 (156, .getfield 225, 3) (List.mem_of_getElem? (i := 10) rfl)
theorem d_Mod_isReady_159 : decode prog_13_method_34_code 159 = .ok (.invokevirtual 243, 3) := id_Mod_isReady_3 (159, .invokevirtual 243, 3) (List.mem_of_getElem? (i := 11) rfl)
theorem d_Mod_isReady_162 : decode prog_13_method_34_code 162 = .ok (.ifCond .eq (7), 3) := id_Mod_isReady_3 (162, .ifCond .eq (7), 3) (List.mem_of_getElem? (i := 12) rfl)
theorem d_Mod_isReady_165 : decode prog_13_method_34_code 165 = .ok (.iconst 1, 1) := id_Mod_isReady_3 (165, .iconst 1, 1) (List.mem_of_getElem? (i := 13) rfl)
theorem d_Mod_isReady_166 : decode prog_13_method_34_code 166 = .ok (.goto (4), 3) := id_Mod_isReady_3 (166, .goto (4), 3) (List.mem_of_getElem? (i := 14) rfl)
theorem d_Mod_isReady_169 : decode prog_13_method_34_code 169 = .ok (.iconst 0, 1) := id_Mod_isReady_3 (169, .iconst 0, 1) (List.mem_of_getElem? (i := 15) rfl)
theorem d_Mod_isReady_170 : decode prog_13_method_34_code 170 = .ok (.istore 4, 2) := id_Mod_isReady_3 (170, .istore 4, 2) (List.mem_of_getElem? (i := 16) rfl)
theorem d_Mod_isReady_172 : decode prog_13_method_34_code 172 = .ok (.iload 4, 2) := id_Mod_isReady_3 (172, .iload 4, 2) (List.mem_of_getElem? (i := 17) rfl)
theorem d_Mod_isReady_174 : decode prog_13_method_34_code 174 = .ok (.ifCond .eq (70), 3) := id_Mod_isReady_3 (174, .ifCond .eq (70), 3) (List.mem_of_getElem? (i := 18) rfl)
theorem d_Mod_isReady_177 : decode prog_13_method_34_code 177 = .ok (.aload_n 0, 1) := id_Mod_isReady_3 (177, .aload_n 0, 1) (List.mem_of_getElem? (i := 19) rfl)
theorem d_Mod_isReady_178 : decode prog_13_method_34_code 178 = .ok (.getfield 220, 3) := id_Mod_isReady_3 (178, .getfield 220, 3) (List.mem_of_getElem? (i := 20) rfl)
theorem d_Mod_isReady_181 : decode prog_13_method_34_code 181 = .ok (.bipush (21), 2) := id_Mod_isReady_3 (181, .bipush (21), 2) (List.mem_of_getElem? (i := 21) rfl)
theorem d_Mod_isReady_183 : decode prog_13_method_34_code 183 = .ok (.if_icmp .ne (15), 3) := id_Mod_isReady_3 (183, .if_icmp .ne (15), 3) (List.mem_of_getElem? (i := 22) rfl)
theorem d_Mod_isReady_186 : decode prog_13_method_34_code 186 = .ok (.aload_n 0, 1) := id_Mod_isReady_3 (186, .aload_n 0, 1) (List.mem_of_getElem? (i := 23) rfl)
def it_Mod_isReady_4 : List (Nat × ClassFile.Instr × Nat) := [(187, .iload_n 2, 1), (188, .aload_n 0, 1), (189, .getfield 237, 3), (192, .invokevirtual 260, 3), (195, .ifCond .eq (49), 3), (198, .aload_n 0, 1), (199, .getfield 220, 3), (202, .bipush (34), 2), (204, .if_icmp .eq (12), 3), (207, .aload_n 0, 1), (208, .getfield 220, 3), (211, .bipush (35), 2), (213, .if_icmp .ne (27), 3), (216, .aload_n 0, 1), (217, .iload_n 2, 1), (218, .aload_n 0, 1), (219, .getfield 228, 3), (222, .invokevirtual 260, 3), (225, .ifCond .eq (19), 3), (228, .aload_n 0, 1), (229, .iload_n 2, 1), (230, .aload_n 0, 1), (231, .getfield 231, 3), (234, .invokevirtual 260, 3)]
theorem id_Mod_isReady_4 : ∀ q ∈ it_Mod_isReady_4, decode prog_13_method_34_code q.1 = .ok q.2 := by decide +kernel
theorem d_Mod_isReady_187 : decode prog_13_method_34_code 187 = .ok (.iload_n 2, 1) := id_Mod_isReady_4 (187, .iload_n 2, 1) (List.mem_of_getElem? (i := 0) rfl)
theorem d_Mod_isReady_188 : decode prog_13_method_34_code 188 = .ok (.aload_n 0, 1) := id_Mod_isReady_4 (188, .aload_n 0, 1) (List.mem_of_getElem? (i := 1) rfl)
theorem d_Mod_isReady_189 : decode prog_13_method_34_code 189 = .ok (.getfield 237, 3) := id_Mod_isReady_4 (189, .getfield 237, 3) (List.mem_of_getElem? (i := 2) rfl)
theorem d_Mod_isReady_192 : decode prog_13_method_34_code 192 = .ok (.invokevirtual 260, 3) := id_Mod_isReady_4 (192, .invokevirtual 260, 3) (List.mem_of_getElem? (i := 3) rfl)
theorem d_Mod_isReady_195 : decode prog_13_method_34_code 195 = .ok (.ifCond .eq (49), 3) := id_Mod_isReady_4 (195, .ifCond .eq (49), 3) (List.mem_of_getElem? (i := 4) rfl)
theorem d_Mod_isReady_198 : decode prog_13_method_34_code 198 = .ok (.aload_n 0, 1) := id_Mod_isReady_4 (198, .aload_n 0, 1) (List.mem_of_getElem? (i := 5) rfl)
theorem d_Mod_isReady_199 : decode prog_13_method_34_code 199 = .ok (.getfield 220, 3) := id_Mod_isReady_4 (199, .getfield 220, 3) (List.mem_of_getElem? (i := 6) rfl)
theorem d_Mod_isReady_202 : decode prog_13_method_34_code 202 = .ok (.bipush (34), 2) := id_Mod_isReady_4 (202, .bipush (34), 2) (List.mem_of_getElem? (i := 7) rfl)
theorem d_Mod_isReady_204 : decode prog_13_method_34_code 204 = .ok (.if_icmp .eq (12), 3) := id_Mod_isReady_4 (204, .if_icmp .eq (12), 3) (List.mem_of_getElem? (i := 8) rfl)
theorem d_Mod_isReady_207 : decode prog_13_method_34_code 207 = .ok (.aload_n 0, 1) := id_Mod_isReady_4 (207, .aload_n 0, 1) (List.mem_of_getElem? (i := 9) rfl)
theorem d_Mod_isReady_208 : decode prog_13_method_34_code 208 = .ok (.getfield 220, 3) := id_Mod_isReady_4 (208, .getfield 220, 3) (List.mem_of_getElem? (i := 10) rfl)
theorem d_Mod_isReady_211 : decode prog_13_method_34_code 211 = .ok (.bipush (35), 2) := id_Mod_isReady_4 (211, .bipush (35), 2) (List.mem_of_getElem? (i := 11) rfl)
theorem d_Mod_isReady_213 : decode prog_13_method_34_code 213 = .ok (.if_icmp .ne (27), 3) := id_Mod_isReady_4 (213, .if_icmp .ne (27), 3) (List.mem_of_getElem? (i := 12) rfl)
theorem d_Mod_isReady_216 : decode prog_13_method_34_code 216 = .ok (.aload_n 0, 1) := id_Mod_isReady_4 (216, .aload_n 0, 1) (List.mem_of_getElem? (i := 13) rfl)
theorem d_Mod_isReady_217 : decode prog_13_method_34_code 217 = .ok (.iload_n 2, 1) := id_Mod_isReady_4 (217, .iload_n 2, 1) (List.mem_of_getElem? (i := 14) rfl)
theorem d_Mod_isReady_218 : decode prog_13_method_34_code 218 = .ok (.aload_n 0, 1) := id_Mod_isReady_4 (218, .aload_n 0, 1) (List.mem_of_getElem? (i := 15) rfl)
theorem d_Mod_isReady_219 : decode prog_13_method_34_code 219 = .ok (.getfield 228, 3) := id_Mod_isReady_4 (219, .getfield 228, 3) (List.mem_of_getElem? (i := 16) rfl)
theorem d_Mod_isReady_222 : decode prog_13_method_34_code 222 = .ok (.invokevirtual 260, 3) := id_Mod_isReady_4 (222, .invokevirtual 260, 3) (List.mem_of_getElem? (i := 17) rfl)
theorem d_Mod_isReady_225 : decode prog_13_method_34_code 225 = .ok (.ifCond .eq (19), 3) := id_Mod_isReady_4 (225, .ifCond .eq (19), 3) (List.mem_of_getElem? (i := 18) rfl)
theorem d_Mod_isReady_228 : decode prog_13_method_34_code 228 = .ok (.aload_n 0, 1) := id_Mod_isReady_4 (228, .aload_n 0, 1) (List.mem_of_getElem? (i := 19) rfl)
theorem d_Mod_isReady_229 : decode prog_13_method_34_code 229 = .ok (.iload_n 2, 1) := id_Mod_isReady_4 (229, .iload_n 2, 1) (List.mem_of_getElem? (i := 20) rfl)
theorem d_Mod_isReady_230 : decode prog_13_method_34_code 230 = .ok (.aload_n 0, 1) := id_Mod_isReady_4 (230, .aload_n 0, 1) (List.mem_of_getElem? (i := 21) rfl)
theorem d_Mod_isReady_231 : decode prog_13_method_34_code 231 = .ok (.getfield 231, 3) := id_Mod_isReady_4 (231, .getfield 231, 3) (List.mem_of_getElem? (i := 22) rfl)
theorem d_Mod_isReady_234 : decode prog_13_method_34_code 234 = .ok (.invokevirtual 260, 3) := id_Mod_isReady_4 (234, .invokevirtual 260, 3) (List.mem_of_getElem? (i := 23) rfl)
def it_Mod_isReady_5 : List (Nat × ClassFile.Instr × Nat) := [(237, .ifCond .eq (7), 3), (240, .iconst 1, 1), (241, .goto (4), 3), (244, .iconst 0, 1), (245, .istore 4, 2), (247, .iload 4, 2), (249, .ifCond .eq (74), 3), (252, .aload_n 0, 1), (253, .getfield 220, 3), (256, .bipush (36), 2), (258, .if_icmp .eq (30), 3), (261, .aload_n 0, 1), (262, .getfield 220, 3), (265, .bipush (70), 2), (267, .if_icmp .eq (21), 3), (270, .aload_n 0, 1), (271, .getfield 220, 3), (274, .bipush (71), 2), (276, .if_icmp .eq (12), 3), (279, .aload_n 0, 1), (280, .getfield 220, 3), (283, .bipush (72), 2), (285, .if_icmp .ne (15), 3), (288, .aload_n 0, 1)]
theorem id_Mod_isReady_5 : ∀ q ∈ it_Mod_isReady_5, decode prog_13_method_34_code q.1 = .ok q.2 := by decide +kernel
theorem d_Mod_isReady_237 : decode prog_13_method_34_code 237 = .ok (.ifCond .eq (7), 3) := id_Mod_isReady_5 (237, .ifCond .eq (7), 3) (List.mem_of_getElem? (i := 0) rfl)
theorem d_Mod_isReady_240 : decode prog_13_method_34_code 240 = .ok (.iconst 1, 1) := id_Mod_isReady_5 (240, .iconst 1, 1) (List.mem_of_getElem? (i := 1) rfl)
theorem d_Mod_isReady_241 : decode prog_13_method_34_code 241 = .ok (.goto (4), 3) := id_Mod_isReady_5 (241, .goto (4), 3) (List.mem_of_getElem? (i := 2) rfl)
theorem d_Mod_isReady_244 : decode prog_13_method_34_code 244 = .ok (.iconst 0, 1) := id_Mod_isReady_5 (244, .iconst 0, 1) (List.mem_of_getElem? (i := 3) rfl)
theorem d_Mod_isReady_245 : decode prog_13_method_34_code 245 = .ok (.istore 4, 2) := id_Mod_isReady_5 (245, .istore 4, 2) (List.mem_of_getElem? (i := 4) rfl)
theorem d_Mod_isReady_247 : decode prog_13_method_34_code 247 = .ok (.iload 4, 2) := id_Mod_isReady_5 (247, .iload 4, 2) (List.mem_of_getElem? (i := 5) rfl)
theorem d_Mod_isReady_249 : decode prog_13_method_34_code 249 = .ok (.ifCond .eq (74), 3) := id_Mod_isReady_5 (249, .ifCond .eq (74), 3) (List.mem_of_getElem? (i := 6) rfl)
theorem d_Mod_isReady_252 : decode prog_13_method_34_code 252 = .ok (.aload_n 0, 1) := id_Mod_isReady_5 (252, .aload_n 0, 1) (List.mem_of_getElem? (i := 7) rfl)
theorem d_Mod_isReady_253 : decode prog_13_method_34_code 253 = .ok (.getfield 220, 3) := id_Mod_isReady_5 (253, .getfield 220, 3) (List.mem_of_getElem? (i := 8) rfl)
theorem d_Mod_isReady_256 : decode prog_13_method_34_code 256 = .ok (.bipush (36), 2) := id_Mod_isReady_5 (256, .bipush (36), 2) (List.mem_of_getElem? (i := 9) rfl)
theorem d_Mod_isReady_258 : decode prog_13_method_34_code 258 = .ok (.if_icmp .eq (30), 3) := id_Mod_isReady_5 (258, .if_icmp .eq (30), 3) (List.mem_of_getElem? (i := 10) rfl)
theorem d_Mod_isReady_261 : decode prog_13_method_34_code 261 = .ok (.aload_n 0, 1) := id_Mod_isReady_5 (261, .aload_n 0, 1) (List.mem_of_getElem? (i := 11) rfl)
theorem d_Mod_isReady_262 : decode prog_13_method_34_code 262 = .ok (.getfield 220, 3) := id_Mod_isReady_5 (262, .getfield 220, 3) (List.mem_of_getElem? (i := 12) rfl)
theorem d_Mod_isReady_265 : decode prog_13_method_34_code 265 = .ok (.bipush (70), 2) := id_Mod_isReady_5 (265, .bipush (70), 2) (List.mem_of_getElem? (i := 13) rfl)
theorem d_Mod_isReady_267 : decode prog_13_method_34_code 267 = .ok (.if_icmp .eq (21), 3) := id_Mod_isReady_5 (267, .if_icmp .eq (21), 3) (List.mem_of_getElem? (i := 14) rfl)
theorem d_Mod_isReady_270 : decode prog_13_method_34_code 270 = .ok (.aload_n 0, 1) := id_Mod_isReady_5 (270, .aload_n 0, 1) (List.mem_of_getElem? (i := 15) rfl)
theorem d_Mod_isReady_271 : decode prog_13_method_34_code 271 = .ok (.getfield 220, 3) := id_Mod_isReady_5 (271, .getfield 220, 3) (List.mem_of_getElem? (i := 16) rfl)
theorem d_Mod_isReady_274 : decode prog_13_method_34_code 274 = .ok (.bipush (71), 2) := id_Mod_isReady_5 (274, .bipush (71), 2) (List.mem_of_getElem? (i := 17) rfl)
theorem d_Mod_isReady_276 : decode prog_13_method_34_code 276 = .ok (.if_icmp .eq (12), 3) := id_Mod_isReady_5 (276, .if_icmp .eq (12), 3) (List.mem_of_getElem? (i := 18) rfl)
theorem d_Mod_isReady_279 : decode prog_13_method_34_code 279 = .ok (.aload_n 0, 1) := id_Mod_isReady_5 (279, .aload_n 0, 1) (List.mem_of_getElem? (i := 19) rfl)
theorem d_Mod_isReady_280 : decode prog_13_method_34_code 280 = .ok (.getfield 220, 3) := id_Mod_isReady_5 (280, .getfield 220, 3) (List.mem_of_getElem? (i := 20) rfl)
theorem d_Mod_isReady_283 : decode prog_13_method_34_code 283 = .ok (.bipush (72), 2) := id_Mod_isReady_5 (283, .bipush (72), 2) (List.mem_of_getElem? (i := 21) rfl)
theorem d_Mod_isReady_285 : decode prog_13_method_34_code 285 = .ok (.if_icmp .ne (15), 3) := id_Mod_isReady_5 (285, .if_icmp .ne (15), 3) (List.mem_of_getElem? (i := 22) rfl)
theorem d_Mod_isReady_288 : decode prog_13_method_34_code 288 = .ok (.aload_n 0, 1) := id_Mod_isReady_5 (288, .aload_n 0, 1) (List.mem_of_getElem? (i := 23) rfl)
def it_Mod_isReady_6 : List (Nat × ClassFile.Instr × Nat) := [(289, .iload_n 2, 1), (290, .aload_n 0, 1), (291, .getfield 228, 3), (294, .invokevirtual 260, 3), (297, .ifCond .eq (26), 3), (300, .aload_n 0, 1), (301, .invokevirtual 272, 3), (304, .ifCond .eq (15), 3), (307, .aload_n 0, 1), (308, .iload_n 2, 1), (309, .aload_n 0, 1), (310, .getfield 225, 3), (313, .invokevirtual 260, 3), (316, .ifCond .eq (7), 3), (319, .iconst 1, 1), (320, .goto (4), 3), (323, .iconst 0, 1), (324, .istore 4, 2), (326, .iload 4, 2), (328, .ifCond .eq (73), 3), (331, .aload_n 0, 1), (332, .getfield 220, 3), (335, .bipush (7), 2), (337, .if_icmp .eq (12), 3)]
theorem id_Mod_isReady_6 : ∀ q ∈ it_Mod_isReady_6, decode prog_13_method_34_code q.1 = .ok q.2 := by decide +kernel
theorem d_Mod_isReady_289 : decode prog_13_method_34_code 289 = .ok (.iload_n 2, 1) := id_Mod_isReady_6 (289, .iload_n 2, 1) (List.mem_of_getElem? (i := 0) rfl)
theorem d_Mod_isReady_290 : decode prog_13_method_34_code 290 = .ok (.aload_n 0, 1) := id_Mod_isReady_6 (290, .aload_n 0, 1) (List.mem_of_getElem? (i := 1) rfl)
theorem d_Mod_isReady_291 : decode prog_13_method_34_code 291 = .ok (.getfield 228, 3) := id_Mod_isReady_6 (291, .getfield 228, 3) (List.mem_of_getElem? (i := 2) rfl)
theorem d_Mod_isReady_294 : decode prog_13_method_34_code 294 = .ok (.invokevirtual 260, 3) := id_Mod_isReady_6 (294, .invokevirtual 260, 3) (List.mem_of_getElem? (i := 3) rfl)
theorem d_Mod_isReady_297 : decode prog_13_method_34_code 297 = .ok (.ifCond .eq (26), 3) := id_Mod_isReady_6 (297, .ifCond .eq (26), 3) (List.mem_of_getElem? (i := 4) rfl)
theorem d_Mod_isReady_300 : decode prog_13_method_34_code 300 = .ok (.aload_n 0, 1) := id_Mod_isReady_6 (300, .aload_n 0, 1) (List.mem_of_getElem? (i := 5) rfl)
theorem d_Mod_isReady_301 : decode prog_13_method_34_code 301 = .ok (.invokevirtual 272, 3) := id_Mod_isReady_6 (301, .invokevirtual 272, 3) (List.mem_of_getElem? (i := 6) rfl)
theorem d_Mod_isReady_304 : decode prog_13_method_34_code 304 = .ok (.ifCond .eq (15), 3) := id_Mod_isReady_6 (304, .ifCond .eq (15), 3) (List.mem_of_getElem? (i := 7) rfl)
theorem d_Mod_isReady_307 : decode prog_13_method_34_code 307 = .ok (.aload_n 0, 1) := id_Mod_isReady_6 (307, .aload_n 0, 1) (List.mem_of_getElem? (i := 8) rfl)
theorem d_Mod_isReady_308 : decode prog_13_method_34_code 308 = .ok (.iload_n 2, 1) := id_Mod_isReady_6 (308, .iload_n 2, 1) (List.mem_of_getElem? (i := 9) rfl)
theorem d_Mod_isReady_309 : decode prog_13_method_34_code 309 = .ok (.aload_n 0, 1) := id_Mod_isReady_6 (309, .aload_n 0, 1) (List.mem_of_getElem? (i := 10) rfl)
theorem d_Mod_isReady_310 : decode prog_13_method_34_code 310 = .ok (.getfield 225, 3) := id_Mod_isReady_6 (310, .getfield 225, 3) (List.mem_of_getElem? (i := 11) rfl)
theorem d_Mod_isReady_313 : decode prog_13_method_34_code 313 = .ok (.invokevirtual 260, 3) := id_Mod_isReady_6 (313, .invokevirtual 260, 3) (List.mem_of_getElem? (i := 12) rfl)
theorem d_Mod_isReady_316 : decode prog_13_method_34_code 316 = .ok (.ifCond .eq (7), 3) := id_Mod_isReady_6 (316, .ifCond .eq (7), 3) (List.mem_of_getElem? (i := 13) rfl)
theorem d_Mod_isReady_319 : decode prog_13_method_34_code 319 = .ok (.iconst 1, 1) := id_Mod_isReady_6 (319, .iconst 1, 1) (List.mem_of_getElem? (i := 14) rfl)
theorem d_Mod_isReady_320 : decode prog_13_method_34_code 320 = .ok (.goto (4), 3) := id_Mod_isReady_6 (320, .goto (4), 3) (List.mem_of_getElem? (i := 15) rfl)
theorem d_Mod_isReady_323 : decode prog_13_method_34_code 323 = .ok (.iconst 0, 1) := id_Mod_isReady_6 (323, .iconst 0, 1) (List.mem_of_getElem? (i := 16) rfl)
theorem d_Mod_isReady_324 : decode prog_13_method_34_code 324 = .ok (.istore 4, 2) := id_Mod_isReady_6 (324, .istore 4, 2) (List.mem_of_getElem? (i := 17) rfl)
theorem d_Mod_isReady_326 : decode prog_13_method_34_code 326 = .ok (.iload 4, 2) := id_Mod_isReady_6 (326, .iload 4, 2) (List.mem_of_getElem? (i := 18) rfl)
theorem d_Mod_isReady_328 : decode prog_13_method_34_code 328 = .ok (.ifCond .eq (73), 3) := id_Mod_isReady_6 (328, .ifCond .eq (73), 3) (List.mem_of_getElem? (i := 19) rfl)
theorem d_Mod_isReady_331 : decode prog_13_method_34_code 331 = .ok (.aload_n 0, 1) := id_Mod_isReady_6 (331, .aload_n 0, 1) (List.mem_of_getElem? (i := 20) rfl)
theorem d_Mod_isReady_332 : decode prog_13_method_34_code 332 = .ok (.getfield 220, 3) := id_Mod_isReady_6 (332, .getfield 220, 3) (List.mem_of_getElem? (i := 21) rfl)
theorem d_Mod_isReady_335 : decode prog_13_method_34_code 335 = .ok (.bipush (7), 2) := id_Mod_isReady_6 (335, .bipush (7), 2) (List.mem_of_getElem? (i := 22) rfl)
theorem d_Mod_isReady_337 : decode prog_13_method_34_code 337 = .ok (.if_icmp .eq (12), 3) := id_Mod_isReady_6 (337, .if_icmp .eq (12), 3) (List.mem_of_getElem? (i := 23) rfl)
def it_Mod_isReady_7 : List (Nat × ClassFile.Instr × Nat) := [(340, .aload_n 0, 1), (341, .getfield 220, 3), (344, .bipush (8), 2), (346, .if_icmp .ne (16), 3), (349, .aload_n 0, 1), (350, .getfield 42, 3), (353, .iload_n 1, 1), (354, .iaload, 1), (355, .aload_n 0, 1), (356, .getfield 159, 3), (359, .if_icmp .gt (42), 3), (362, .aload_n 0, 1), (363, .invokevirtual 240, 3), (366, .ifCond .ne (18), 3), (369, .aload_n 0, 1), (370, .getfield 220, 3), (373, .ifCond .eq (11), 3), (376, .aload_n 0, 1), (377, .getfield 220, 3), (380, .iconst 1, 1), (381, .if_icmp .ne (16), 3), (384, .aload_n 0, 1), (385, .getfield 60, 3), (388, .iload_n 2, 1)]
theorem id_Mod_isReady_7 : ∀ q ∈ it_Mod_isReady_7, decode prog_13_method_34_code q.1 = .ok q.2 := by decide +kernel
theorem d_Mod_isReady_340 : decode prog_13_method_34_code 340 = .ok (.aload_n 0, 1) := id_Mod_isReady_7 (340, .aload_n 0, 1) (List.mem_of_getElem? (i := 0) rfl)
theorem d_Mod_isReady_341 : decode prog_13_method_34_code 341 = .ok (.getfield 220, 3) := id_Mod_isReady_7 (341, .getfield 220, 3) (List.mem_of_getElem? (i := 1) rfl)
theorem d_Mod_isReady_344 : decode prog_13_method_34_code 344 = .ok (.bipush (8), 2) := id_Mod_isReady_7 (344, .bipush (8), 2) (List.mem_of_getElem? (i := 2) rfl)
theorem d_Mod_isReady_346 : decode prog_13_method_34_code 346 = .ok (.if_icmp .ne (16), 3) := id_Mod_isReady_7 (346, .if_icmp .ne (16), 3) (List.mem_of_getElem? (i := 3) rfl)
theorem d_Mod_isReady_349 : decode prog_13_method_34_code 349 = .ok (.aload_n 0, 1) := id_Mod_isReady_7 (349, .aload_n 0, 1) (List.mem_of_getElem? (i := 4) rfl)
theorem d_Mod_isReady_350 : decode prog_13_method_34_code 350 = .ok (.getfield 42, 3) := id_Mod_isReady_7 (350, .getfield 42, 3) (List.mem_of_getElem? (i := 5) rfl)
theorem d_Mod_isReady_353 : decode prog_13_method_34_code 353 = .ok (.iload_n 1, 1) := id_Mod_isReady_7 (353, .iload_n 1, 1) (List.mem_of_getElem? (i := 6) rfl)
theorem d_Mod_isReady_354 : decode prog_13_method_34_code 354 = .ok (.iaload, 1) := id_Mod_isReady_7 (354, .iaload, 1) (List.mem_of_getElem? (i := 7) rfl)
theorem d_Mod_isReady_355 : decode prog_13_method_34_code 355 = .ok (.aload_n 0, 1) := id_Mod_isReady_7 (355, .aload_n 0, 1) (List.mem_of_getElem? (i := 8) rfl)
theorem d_Mod_isReady_356 : decode prog_13_method_34_code 356 = .ok (.getfield 159, 3) := id_Mod_isReady_7 (356, .getfield 159, 3) (List.mem_of_getElem? (i := 9) rfl)
theorem d_Mod_isReady_359 : decode prog_13_method_34_code 359 = .ok (.if_icmp .gt (42), 3) := id_Mod_isReady_7 (359, .if_icmp .gt (42), 3) (List.mem_of_getElem? (i := 10) rfl)
theorem d_Mod_isReady_362 : decode prog_13_method_34_code 362 = .ok (.aload_n 0, 1) := id_Mod_isReady_7 (362, .aload_n 0, 1) (List.mem_of_getElem? (i := 11) rfl)
theorem d_Mod_isReady_363 : decode prog_13_method_34_code 363 = .ok (.invokevirtual 240, 3) := id_Mod_isReady_7 (363, .invokevirtual 240, 3) (List.mem_of_getElem? (i := 12) rfl)
theorem d_Mod_isReady_366 : decode prog_13_method_34_code 366 = .ok (.ifCond .ne (18), 3) := id_Mod_isReady_7 (366, .ifCond .ne (18), 3) (List.mem_of_getElem? (i := 13) rfl)
theorem d_Mod_isReady_369 : decode prog_13_method_34_code 369 = .ok (.aload_n 0, 1) := id_Mod_isReady_7 (369, .aload_n 0, 1) (List.mem_of_getElem? (i := 14) rfl)
theorem d_Mod_isReady_370 : decode prog_13_method_34_code 370 = .ok (.getfield 220, 3) := id_Mod_isReady_7 (370, .getfield 220, 3) (List.mem_of_getElem? (i := 15) rfl)
theorem d_Mod_isReady_373 : decode prog_13_method_34_code 373 = .ok (.ifCond .eq (11), 3) := id_Mod_isReady_7 (373, .ifCond .eq (11), 3) (List.mem_of_getElem? (i := 16) rfl)
theorem d_Mod_isReady_376 : decode prog_13_method_34_code 376 = .ok (.aload_n 0, 1) := id_Mod_isReady_7 (376, .aload_n 0, 1) (List.mem_of_getElem? (i := 17) rfl)
theorem d_Mod_isReady_377 : decode prog_13_method_34_code 377 = .ok (.getfield 220, 3) := id_Mod_isReady_7 (377, .getfield 220, 3) (List.mem_of_getElem? (i := 18) rfl)
theorem d_Mod_isReady_380 : decode prog_13_method_34_code 380 = .ok (.iconst 1, 1) := id_Mod_isReady_7 (380, .iconst 1, 1) (List.mem_of_getElem? (i := 19) rfl)
theorem d_Mod_isReady_381 : decode prog_13_method_34_code 381 = .ok (.if_icmp .ne (16), 3) := id_Mod_isReady_7 (381, .if_icmp .ne (16), 3) (List.mem_of_getElem? (i := 20) rfl)
theorem d_Mod_isReady_384 : decode prog_13_method_34_code 384 = .ok (.aload_n 0, 1) := id_Mod_isReady_7 (384, .aload_n 0, 1) (List.mem_of_getElem? (i := 21) rfl)
theorem d_Mod_isReady_385 : decode prog_13_method_34_code 385 = .ok (.getfield 60, 3) := id_Mod_isReady_7 (385, .getfield 60, 3) (List.mem_of_getElem? (i := 22) rfl)
theorem d_Mod_isReady_388 : decode prog_13_method_34_code 388 = .ok (.iload_n 2, 1) := id_Mod_isReady_7 (388, .iload_n 2, 1) (List.mem_of_getElem? (i := 23) rfl)
def it_Mod_isReady_8 : List (Nat × ClassFile.Instr × Nat) := [(389, .iaload, 1), (390, .aload_n 0, 1), (391, .getfield 159, 3), (394, .if_icmp .gt (7), 3), (397, .iconst 1, 1), (398, .goto (4), 3), (401, .iconst 0, 1), (402, .istore 4, 2), (404, .iload 4, 2), (406, .ifCond .eq (27), 3), (409, .aload_n 0, 1), (410, .invokevirtual 275, 3), (413, .ifCond .eq (16), 3), (416, .aload_n 0, 1), (417, .getfield 45, 3), (420, .iload_n 1, 1), (421, .iaload, 1), (422, .aload_n 0, 1), (423, .getfield 159, 3), (426, .if_icmp .gt (7), 3), (429, .iconst 1, 1), (430, .goto (4), 3), (433, .iconst 0, 1), (434, .ireturn, 1)]
theorem id_Mod_isReady_8 : ∀ q ∈ it_Mod_isReady_8, decode prog_13_method_34_code q.1 = .ok q.2 := by decide +kernel
theorem d_Mod_isReady_389 : decode prog_13_method_34_code 389 = .ok (.iaload, 1) := id_Mod_isReady_8 (389, .iaload, 1) (List.mem_of_getElem? (i := 0) rfl)
theorem d_Mod_isReady_390 : decode prog_13_method_34_code 390 = .ok (.aload_n 0, 1) := id_Mod_isReady_8 (390, .aload_n 0, 1) (List.mem_of_getElem? (i := 1) rfl)
theorem d_Mod_isReady_391 : decode prog_13_method_34_code 391 = .ok (.getfield 159, 3) := id_Mod_isReady_8 (391, .getfield 159, 3) (List.mem_of_getElem? (i := 2) rfl)
theorem d_Mod_isReady_394 : decode prog_13_method_34_code 394 = .ok (.if_icmp .gt (7), 3) := id_Mod_isReady_8 (394, .if_icmp .gt (7), 3) (List.mem_of_getElem? (i := 3) rfl)
theorem d_Mod_isReady_397 : decode prog_13_method_34_code 397 = .ok (.iconst 1, 1) := id_Mod_isReady_8 (397, .iconst 1, 1) (List.mem_of_getElem? (i := 4) rfl)
theorem d_Mod_isReady_398 : decode prog_13_method_34_code 398 = .ok (.goto (4), 3) := id_Mod_isReady_8 (398, .goto (4), 3) (List.mem_of_getElem? (i := 5) rfl)
theorem d_Mod_isReady_401 : decode prog_13_method_34_code 401 = .ok (.iconst 0, 1) := id_Mod_isReady_8 (401, .iconst 0, 1) (List.mem_of_getElem? (i := 6) rfl)
theorem d_Mod_isReady_402 : decode prog_13_method_34_code 402 = .ok (.istore 4, 2) := id_Mod_isReady_8 (402, .istore 4, 2) (List.mem_of_getElem? (i := 7) rfl)
theorem d_Mod_isReady_404 : decode prog_13_method_34_code 404 = .ok (.iload 4, 2) := id_Mod_isReady_8 (404, .iload 4, 2) (List.mem_of_getElem? (i := 8) rfl)
theorem d_Mod_isReady_406 : decode prog_13_method_34_code 406 = .ok (.ifCond .eq (27), 3) := id_Mod_isReady_8 (406, .ifCond .eq (27), 3) (List.mem_of_getElem? (i := 9) rfl)
theorem d_Mod_isReady_409 : decode prog_13_method_34_code 409 = .ok (.aload_n 0, 1) := id_Mod_isReady_8 (409, .aload_n 0, 1) (List.mem_of_getElem? (i := 10) rfl)
theorem d_Mod_isReady_410 : decode prog_13_method_34_code 410 = .ok (.invokevirtual 275, 3) := id_Mod_isReady_8 (410, .invokevirtual 275, 3) (List.mem_of_getElem? (i := 11) rfl)
theorem d_Mod_isReady_413 : decode prog_13_method_34_code 413 = .ok (.ifCond .eq (16), 3) := id_Mod_isReady_8 (413, .ifCond .eq (16), 3) (List.mem_of_getElem? (i := 12) rfl)
theorem d_Mod_isReady_416 : decode prog_13_method_34_code 416 = .ok (.aload_n 0, 1) := id_Mod_isReady_8 (416, .aload_n 0, 1) (List.mem_of_getElem? (i := 13) rfl)
theorem d_Mod_isReady_417 : decode prog_13_method_34_code 417 = .ok (.getfield 45, 3) := id_Mod_isReady_8 (417, .getfield 45, 3) (List.mem_of_getElem? (i := 14) rfl)
theorem d_Mod_isReady_420 : decode prog_13_method_34_code 420 = .ok (.iload_n 1, 1) := id_Mod_isReady_8 (420, .iload_n 1, 1) (List.mem_of_getElem? (i := 15) rfl)
theorem d_Mod_isReady_421 : decode prog_13_method_34_code 421 = .ok (.iaload, 1) := id_Mod_isReady_8 (421, .iaload, 1) (List.mem_of_getElem? (i := 16) rfl)
theorem d_Mod_isReady_422 : decode prog_13_method_34_code 422 = .ok (.aload_n 0, 1) := id_Mod_isReady_8 (422, .aload_n 0, 1) (List.mem_of_getElem? (i := 17) rfl)
theorem d_Mod_isReady_423 : decode prog_13_method_34_code 423 = .ok (.getfield 159, 3) := id_Mod_isReady_8 (423, .getfield 159, 3) (List.mem_of_getElem? (i := 18) rfl)
theorem d_Mod_isReady_426 : decode prog_13_method_34_code 426 = .ok (.if_icmp .gt (7), 3) := id_Mod_isReady_8 (426, .if_icmp .gt (7), 3) (List.mem_of_getElem? (i := 19) rfl)
theorem d_Mod_isReady_429 : decode prog_13_method_34_code 429 = .ok (.iconst 1, 1) := id_Mod_isReady_8 (429, .iconst 1, 1) (List.mem_of_getElem? (i := 20) rfl)
theorem d_Mod_isReady_430 : decode prog_13_method_34_code 430 = .ok (.goto (4), 3) := id_Mod_isReady_8 (430, .goto (4), 3) (List.mem_of_getElem? (i := 21) rfl)
theorem d_Mod_isReady_433 : decode prog_13_method_34_code 433 = .ok (.iconst 0, 1) := id_Mod_isReady_8 (433, .iconst 0, 1) (List.mem_of_getElem? (i := 22) rfl)
theorem d_Mod_isReady_434 : decode prog_13_method_34_code 434 = .ok (.ireturn, 1) := id_Mod_isReady_8 (434, .ireturn, 1) (List.mem_of_getElem? (i := 23) rfl)
theorem wC_Mod_isReady : Cond.code ⟨"WarpMillModel", "isReady", "(II)Z"⟩ prog_13_method_34_code 5 (some .boolean) ∈ lw_tb := mem_tb 1330 (by decide +kernel) rfl
theorem cw_Mod_isReady_Mod_group : cW mi_Mod_isReady mi_Mod_group 1 := ⟨wC_Mod_group, wi_Mod, ⟨by decide, by decide, by decide +kernel⟩, by decide, by decide⟩
theorem cw_Mod_isReady_Mod_firstOfGroup : cW mi_Mod_isReady mi_Mod_firstOfGroup 0 := ⟨wC_Mod_firstOfGroup, wi_Mod, ⟨by decide, by decide, by decide +kernel⟩, by decide, by decide⟩
theorem cw_Mod_isReady_Mod_thread : cW mi_Mod_isReady mi_Mod_thread 2 := ⟨wC_Mod_thread, wi_Mod, ⟨by decide, by decide, by decide +kernel⟩, by decide, by decide⟩
theorem cw_Mod_isReady_Mod_take : cW mi_Mod_isReady mi_Mod_take 1 := ⟨wC_Mod_take, wi_Mod, ⟨by decide, by decide, by decide +kernel⟩, by decide, by decide⟩
theorem cw_Mod_isReady_Mod_isWord : cW mi_Mod_isReady mi_Mod_isWord 0 := ⟨wC_Mod_isWord, wi_Mod, ⟨by decide, by decide, by decide +kernel⟩, by decide, by decide⟩
theorem cw_Mod_isReady_Mod_isPredicateThere : cW mi_Mod_isReady mi_Mod_isPredicateThere 2 := ⟨wC_Mod_isPredicateThere, wi_Mod, ⟨by decide, by decide, by decide +kernel⟩, by decide, by decide⟩
theorem cw_Mod_isReady_Mod_readsA : cW mi_Mod_isReady mi_Mod_readsA 0 := ⟨wC_Mod_readsA, wi_Mod, ⟨by decide, by decide, by decide +kernel⟩, by decide, by decide⟩
theorem cw_Mod_isReady_Mod_isThere : cW mi_Mod_isReady mi_Mod_isThere 2 := ⟨wC_Mod_isThere, wi_Mod, ⟨by decide, by decide, by decide +kernel⟩, by decide, by decide⟩
theorem cw_Mod_isReady_Mod_readsB : cW mi_Mod_isReady mi_Mod_readsB 0 := ⟨wC_Mod_readsB, wi_Mod, ⟨by decide, by decide, by decide +kernel⟩, by decide, by decide⟩
theorem cw_Mod_isReady_Mod_writesD : cW mi_Mod_isReady mi_Mod_writesD 0 := ⟨wC_Mod_writesD, wi_Mod, ⟨by decide, by decide, by decide +kernel⟩, by decide, by decide⟩
theorem cw_Mod_isReady_Mod_writesPredicate : cW mi_Mod_isReady mi_Mod_writesPredicate 0 := ⟨wC_Mod_writesPredicate, wi_Mod, ⟨by decide, by decide, by decide +kernel⟩, by decide, by decide⟩
theorem cw_Mod_isReady_Mod_isMemory : cW mi_Mod_isReady mi_Mod_isMemory 0 := ⟨wC_Mod_isMemory, wi_Mod, ⟨by decide, by decide, by decide +kernel⟩, by decide, by decide⟩
theorem cw_Mod_isReady_Mod_isShared : cW mi_Mod_isReady mi_Mod_isShared 0 := ⟨wC_Mod_isShared, wi_Mod, ⟨by decide, by decide, by decide +kernel⟩, by decide, by decide⟩
def b_Mod_isReady_429 (F : Nat)  (h : Hp) : Option (Int32 × Hp) := some ((1 : Int32), h)
set_option maxRecDepth 100000 in
set_option maxHeartbeats 4000000 in
theorem e_Mod_isReady_429 {G : Gl} (hw : gF G) {h0 : Hp} {F : Nat} {r : Int32} {h' : Hp}    {h : Hp} (hf : b_Mod_isReady_429 F  h = some (r, h')) : Go G mi_Mod_isReady h0 (pI r h') h 429 [] [] := by
  unfold b_Mod_isReady_429 at hf
  refine g_iconst 1 d_Mod_isReady_429 (by decide) ?_
  refine g_goto 434 d_Mod_isReady_430 (by decide) ?_
  exact Go.ret (some _) rOk_b1 rfl d_Mod_isReady_434 (pI_of hf)
def b_Mod_isReady_402 (F : Nat) (x0 : Nat) (x1 : Int32) (s0 : Int32) (h : Hp) : Option (Int32 × Hp) := if s0 = 0 then (some ((0 : Int32), h)) else (gd (hK h x0 = 12) <| cl (f_Mod_isShared F x0 h) fun v_410_2 h_410_2 => if v_410_2 = 0 then (b_Mod_isReady_429 F h_410_2) else (gd (hK h_410_2 x0 = 12) <| rq h_410_2 (hR h_410_2 732 x0) 100 fun a_417_2 => ix x1 (hN h_410_2 a_417_2) fun j_421 => if (hI h_410_2 719 x0) < (hA h_410_2 a_417_2 j_421) then (some ((0 : Int32), h_410_2)) else (b_Mod_isReady_429 F h_410_2)))
set_option maxRecDepth 100000 in
set_option maxHeartbeats 4000000 in
theorem e_Mod_isReady_402 {G : Gl} (hw : gF G) {h0 : Hp} {F : Nat} {r : Int32} {h' : Hp}   {x0 : Nat} {x1 : Int32} {s0 : Int32} {h : Hp} (hf : b_Mod_isReady_402 F x0 x1 s0 h = some (r, h')) : Go G mi_Mod_isReady h0 (pI r h') h 402 [(0, .ref x0), (1, .int x1)] [.int s0] := by
  unfold b_Mod_isReady_402 at hf
  refine g_istore d_Mod_isReady_402 (by decide) ?_
  show Go _ _ _ _ _ _ [(0, _), (1, _), (4, _)] _
  refine g_iload d_Mod_isReady_404 rfl ?_
  refine g_if_eq 433 d_Mod_isReady_406 (by decide) (fun c_406 => ?_) (fun c_406 => ?_)
  · have hf := ifp hf c_406
    refine g_iconst 0 d_Mod_isReady_433 (by decide) ?_
    exact Go.ret (some _) rOk_b0 rfl d_Mod_isReady_434 (pI_of hf)
  · have hf := ifn hf c_406
    refine g_aload_n d_Mod_isReady_409 rfl ?_
    obtain ⟨k_410, hf⟩ := gd_s hf
    obtain ⟨v_410_2, h_410_2, e_410_2, hf⟩ := cl_s hf
    refine g_callV (mz := mi_Mod_isShared) (e_Mod_isShared e_410_2) cw_Mod_isReady_Mod_isShared lm_Mod_275 wI_Mod_isShared wV_Mod_isShared (ci := 11) k_410 (by decide) rfl rfl d_Mod_isReady_410 rfl rfl (by first | exact Nat.le_of_ble_eq_true rfl | simp [cat_rf, Value.category]) (fun r1 h1 hp hro => ?_)
    obtain ⟨rfl, rfl⟩ := hp
    dsimp only [Option.toList_some, Option.toList_none, List.cons_append, List.nil_append]
    refine g_if_eq 429 d_Mod_isReady_413 (by decide) (fun c_413 => ?_) (fun c_413 => ?_)
    · have hf := ifp hf c_413
      refine Go.locals [] rfl ?_
      have key := e_Mod_isReady_429 hw (G := G) (h0 := h0)  hf
      exact key
    · have hf := ifn hf c_413
      refine g_aload_n d_Mod_isReady_416 rfl ?_
      obtain ⟨k_417, hf⟩ := gd_s hf
      obtain ⟨a_417_2, e_417_2, k_417_2, hf⟩ := rq_s hf
      refine fgs_Mod_sharedTick lf_Mod_45 d_Mod_isReady_417 k_417 e_417_2 ?_
      refine g_iload_n d_Mod_isReady_420 rfl ?_
      obtain ⟨i_421, hf⟩ := ix_s hf
      refine g_iald k_417_2 i_421 d_Mod_isReady_421 ?_
      refine g_aload_n d_Mod_isReady_422 rfl ?_
      refine fg_Mod_cycle lf_Mod_159 d_Mod_isReady_423 k_417 ?_
      refine g_icmp_gt 433 d_Mod_isReady_426 (by decide) (fun c_426 => ?_) (fun c_426 => ?_)
      · have hf := ifp hf c_426
        refine g_iconst 0 d_Mod_isReady_433 (by decide) ?_
        exact Go.ret (some _) rOk_b0 rfl d_Mod_isReady_434 (pI_of hf)
      · have hf := ifn hf c_426
        refine Go.locals [] rfl ?_
        have key := e_Mod_isReady_429 hw (G := G) (h0 := h0)  hf
        exact key
def b_Mod_isReady_397 (F : Nat) (x0 : Nat) (x1 : Int32) (h : Hp) : Option (Int32 × Hp) := b_Mod_isReady_402 F x0 x1 (1 : Int32) h
set_option maxRecDepth 100000 in
set_option maxHeartbeats 4000000 in
theorem e_Mod_isReady_397 {G : Gl} (hw : gF G) {h0 : Hp} {F : Nat} {r : Int32} {h' : Hp}   {x0 : Nat} {x1 : Int32} {h : Hp} (hf : b_Mod_isReady_397 F x0 x1 h = some (r, h')) : Go G mi_Mod_isReady h0 (pI r h') h 397 [(0, .ref x0), (1, .int x1)] [] := by
  unfold b_Mod_isReady_397 at hf
  refine g_iconst 1 d_Mod_isReady_397 (by decide) ?_
  refine g_goto 402 d_Mod_isReady_398 (by decide) ?_
  have key := e_Mod_isReady_402 hw (G := G) (h0 := h0)  hf
  exact key
def b_Mod_isReady_401 (F : Nat) (x0 : Nat) (x1 : Int32) (h : Hp) : Option (Int32 × Hp) := b_Mod_isReady_402 F x0 x1 (0 : Int32) h
set_option maxRecDepth 100000 in
set_option maxHeartbeats 4000000 in
theorem e_Mod_isReady_401 {G : Gl} (hw : gF G) {h0 : Hp} {F : Nat} {r : Int32} {h' : Hp}   {x0 : Nat} {x1 : Int32} {h : Hp} (hf : b_Mod_isReady_401 F x0 x1 h = some (r, h')) : Go G mi_Mod_isReady h0 (pI r h') h 401 [(0, .ref x0), (1, .int x1)] [] := by
  unfold b_Mod_isReady_401 at hf
  refine g_iconst 0 d_Mod_isReady_401 (by decide) ?_
  have key := e_Mod_isReady_402 hw (G := G) (h0 := h0)  hf
  exact key
def b_Mod_isReady_384 (F : Nat) (x0 : Nat) (x1 : Int32) (x2 : Int32) (h : Hp) : Option (Int32 × Hp) := gd (hK h x0 = 12) <| rq h (hR h 737 x0) 100 fun a_385_2 => ix x2 (hN h a_385_2) fun j_389 => if (hI h 719 x0) < (hA h a_385_2 j_389) then (b_Mod_isReady_401 F x0 x1 h) else (b_Mod_isReady_397 F x0 x1 h)
set_option maxRecDepth 100000 in
set_option maxHeartbeats 4000000 in
theorem e_Mod_isReady_384 {G : Gl} (hw : gF G) {h0 : Hp} {F : Nat} {r : Int32} {h' : Hp}   {x0 : Nat} {x1 : Int32} {x2 : Int32} {h : Hp} (hf : b_Mod_isReady_384 F x0 x1 x2 h = some (r, h')) : Go G mi_Mod_isReady h0 (pI r h') h 384 [(0, .ref x0), (1, .int x1), (2, .int x2)] [] := by
  unfold b_Mod_isReady_384 at hf
  refine g_aload_n d_Mod_isReady_384 rfl ?_
  obtain ⟨k_385, hf⟩ := gd_s hf
  obtain ⟨a_385_2, e_385_2, k_385_2, hf⟩ := rq_s hf
  refine fgs_Mod_memoryTick lf_Mod_60 d_Mod_isReady_385 k_385 e_385_2 ?_
  refine g_iload_n d_Mod_isReady_388 rfl ?_
  obtain ⟨i_389, hf⟩ := ix_s hf
  refine g_iald k_385_2 i_389 d_Mod_isReady_389 ?_
  refine g_aload_n d_Mod_isReady_390 rfl ?_
  refine fg_Mod_cycle lf_Mod_159 d_Mod_isReady_391 k_385 ?_
  refine g_icmp_gt 401 d_Mod_isReady_394 (by decide) (fun c_394 => ?_) (fun c_394 => ?_)
  · have hf := ifp hf c_394
    refine Go.locals [0, 1] rfl ?_
    have key := e_Mod_isReady_401 hw (G := G) (h0 := h0)  hf
    exact key
  · have hf := ifn hf c_394
    refine Go.locals [0, 1] rfl ?_
    have key := e_Mod_isReady_397 hw (G := G) (h0 := h0)  hf
    exact key
def b_Mod_isReady_362 (F : Nat) (x0 : Nat) (x1 : Int32) (x2 : Int32) (h : Hp) : Option (Int32 × Hp) := gd (hK h x0 = 12) <| cl (f_Mod_isMemory F x0 h) fun v_363_2 h_363_2 => if v_363_2 = 0 then (gd (hK h_363_2 x0 = 12) <| if (hI h_363_2 756 x0) = 0 then (b_Mod_isReady_384 F x0 x1 x2 h_363_2) else (if (hI h_363_2 756 x0) = (1 : Int32) then (b_Mod_isReady_384 F x0 x1 x2 h_363_2) else (b_Mod_isReady_397 F x0 x1 h_363_2))) else (b_Mod_isReady_384 F x0 x1 x2 h_363_2)
set_option maxRecDepth 100000 in
set_option maxHeartbeats 4000000 in
theorem e_Mod_isReady_362 {G : Gl} (hw : gF G) {h0 : Hp} {F : Nat} {r : Int32} {h' : Hp}   {x0 : Nat} {x1 : Int32} {x2 : Int32} {h : Hp} (hf : b_Mod_isReady_362 F x0 x1 x2 h = some (r, h')) : Go G mi_Mod_isReady h0 (pI r h') h 362 [(0, .ref x0), (1, .int x1), (2, .int x2)] [] := by
  unfold b_Mod_isReady_362 at hf
  refine g_aload_n d_Mod_isReady_362 rfl ?_
  obtain ⟨k_363, hf⟩ := gd_s hf
  obtain ⟨v_363_2, h_363_2, e_363_2, hf⟩ := cl_s hf
  refine g_callV (mz := mi_Mod_isMemory) (e_Mod_isMemory e_363_2) cw_Mod_isReady_Mod_isMemory lm_Mod_240 wI_Mod_isMemory wV_Mod_isMemory (ci := 11) k_363 (by decide) rfl rfl d_Mod_isReady_363 rfl rfl (by first | exact Nat.le_of_ble_eq_true rfl | simp [cat_rf, Value.category]) (fun r1 h1 hp hro => ?_)
  obtain ⟨rfl, rfl⟩ := hp
  dsimp only [Option.toList_some, Option.toList_none, List.cons_append, List.nil_append]
  refine g_if_ne 384 d_Mod_isReady_366 (by decide) (fun c_366 => ?_) (fun c_366 => ?_)
  · have hf := ifn hf c_366
    have key := e_Mod_isReady_384 hw (G := G) (h0 := h0)  hf
    exact key
  · have hf := ifp hf c_366
    refine g_aload_n d_Mod_isReady_369 rfl ?_
    obtain ⟨k_370, hf⟩ := gd_s hf
    refine fg_Mod_op lf_Mod_220 d_Mod_isReady_370 k_370 ?_
    refine g_if_eq 384 d_Mod_isReady_373 (by decide) (fun c_373 => ?_) (fun c_373 => ?_)
    · have hf := ifp hf c_373
      have key := e_Mod_isReady_384 hw (G := G) (h0 := h0)  hf
      exact key
    · have hf := ifn hf c_373
      refine g_aload_n d_Mod_isReady_376 rfl ?_
      refine fg_Mod_op lf_Mod_220 d_Mod_isReady_377 k_370 ?_
      refine g_iconst 1 d_Mod_isReady_380 (by decide) ?_
      refine g_icmp_ne 397 d_Mod_isReady_381 (by decide) (fun c_381 => ?_) (fun c_381 => ?_)
      · have hf := ifn hf c_381
        refine Go.locals [0, 1] rfl ?_
        have key := e_Mod_isReady_397 hw (G := G) (h0 := h0)  hf
        exact key
      · have hf := ifp hf c_381
        have key := e_Mod_isReady_384 hw (G := G) (h0 := h0)  hf
        exact key
def b_Mod_isReady_349 (F : Nat) (x0 : Nat) (x1 : Int32) (x2 : Int32) (h : Hp) : Option (Int32 × Hp) := gd (hK h x0 = 12) <| rq h (hR h 731 x0) 100 fun a_350_2 => ix x1 (hN h a_350_2) fun j_354 => if (hI h 719 x0) < (hA h a_350_2 j_354) then (b_Mod_isReady_401 F x0 x1 h) else (b_Mod_isReady_362 F x0 x1 x2 h)
set_option maxRecDepth 100000 in
set_option maxHeartbeats 4000000 in
theorem e_Mod_isReady_349 {G : Gl} (hw : gF G) {h0 : Hp} {F : Nat} {r : Int32} {h' : Hp}   {x0 : Nat} {x1 : Int32} {x2 : Int32} {h : Hp} (hf : b_Mod_isReady_349 F x0 x1 x2 h = some (r, h')) : Go G mi_Mod_isReady h0 (pI r h') h 349 [(0, .ref x0), (1, .int x1), (2, .int x2)] [] := by
  unfold b_Mod_isReady_349 at hf
  refine g_aload_n d_Mod_isReady_349 rfl ?_
  obtain ⟨k_350, hf⟩ := gd_s hf
  obtain ⟨a_350_2, e_350_2, k_350_2, hf⟩ := rq_s hf
  refine fgs_Mod_divider lf_Mod_42 d_Mod_isReady_350 k_350 e_350_2 ?_
  refine g_iload_n d_Mod_isReady_353 rfl ?_
  obtain ⟨i_354, hf⟩ := ix_s hf
  refine g_iald k_350_2 i_354 d_Mod_isReady_354 ?_
  refine g_aload_n d_Mod_isReady_355 rfl ?_
  refine fg_Mod_cycle lf_Mod_159 d_Mod_isReady_356 k_350 ?_
  refine g_icmp_gt 401 d_Mod_isReady_359 (by decide) (fun c_359 => ?_) (fun c_359 => ?_)
  · have hf := ifp hf c_359
    refine Go.locals [0, 1] rfl ?_
    have key := e_Mod_isReady_401 hw (G := G) (h0 := h0)  hf
    exact key
  · have hf := ifn hf c_359
    have key := e_Mod_isReady_362 hw (G := G) (h0 := h0)  hf
    exact key
def b_Mod_isReady_324 (F : Nat) (x0 : Nat) (x1 : Int32) (x2 : Int32) (s0 : Int32) (h : Hp) : Option (Int32 × Hp) := if s0 = 0 then (b_Mod_isReady_401 F x0 x1 h) else (gd (hK h x0 = 12) <| if (hI h 756 x0) = (7 : Int32) then (b_Mod_isReady_349 F x0 x1 x2 h) else (if (hI h 756 x0) = (8 : Int32) then (b_Mod_isReady_349 F x0 x1 x2 h) else (b_Mod_isReady_362 F x0 x1 x2 h)))
set_option maxRecDepth 100000 in
set_option maxHeartbeats 4000000 in
theorem e_Mod_isReady_324 {G : Gl} (hw : gF G) {h0 : Hp} {F : Nat} {r : Int32} {h' : Hp}   {x0 : Nat} {x1 : Int32} {x2 : Int32} {s0 : Int32} {h : Hp} (hf : b_Mod_isReady_324 F x0 x1 x2 s0 h = some (r, h')) : Go G mi_Mod_isReady h0 (pI r h') h 324 [(0, .ref x0), (1, .int x1), (2, .int x2)] [.int s0] := by
  unfold b_Mod_isReady_324 at hf
  refine g_istore d_Mod_isReady_324 (by decide) ?_
  show Go _ _ _ _ _ _ [(0, _), (1, _), (2, _), (4, _)] _
  refine g_iload d_Mod_isReady_326 rfl ?_
  refine g_if_eq 401 d_Mod_isReady_328 (by decide) (fun c_328 => ?_) (fun c_328 => ?_)
  · have hf := ifp hf c_328
    refine Go.locals [0, 1] rfl ?_
    have key := e_Mod_isReady_401 hw (G := G) (h0 := h0)  hf
    exact key
  · have hf := ifn hf c_328
    refine g_aload_n d_Mod_isReady_331 rfl ?_
    obtain ⟨k_332, hf⟩ := gd_s hf
    refine fg_Mod_op lf_Mod_220 d_Mod_isReady_332 k_332 ?_
    refine g_bipush (7) d_Mod_isReady_335 (by decide) ?_
    refine g_icmp_eq 349 d_Mod_isReady_337 (by decide) (fun c_337 => ?_) (fun c_337 => ?_)
    · have hf := ifp hf c_337
      refine Go.locals [0, 1, 2] rfl ?_
      have key := e_Mod_isReady_349 hw (G := G) (h0 := h0)  hf
      exact key
    · have hf := ifn hf c_337
      refine g_aload_n d_Mod_isReady_340 rfl ?_
      refine fg_Mod_op lf_Mod_220 d_Mod_isReady_341 k_332 ?_
      refine g_bipush (8) d_Mod_isReady_344 (by decide) ?_
      refine g_icmp_ne 362 d_Mod_isReady_346 (by decide) (fun c_346 => ?_) (fun c_346 => ?_)
      · have hf := ifn hf c_346
        refine Go.locals [0, 1, 2] rfl ?_
        have key := e_Mod_isReady_362 hw (G := G) (h0 := h0)  hf
        exact key
      · have hf := ifp hf c_346
        refine Go.locals [0, 1, 2] rfl ?_
        have key := e_Mod_isReady_349 hw (G := G) (h0 := h0)  hf
        exact key
def b_Mod_isReady_319 (F : Nat) (x0 : Nat) (x1 : Int32) (x2 : Int32) (h : Hp) : Option (Int32 × Hp) := b_Mod_isReady_324 F x0 x1 x2 (1 : Int32) h
set_option maxRecDepth 100000 in
set_option maxHeartbeats 4000000 in
theorem e_Mod_isReady_319 {G : Gl} (hw : gF G) {h0 : Hp} {F : Nat} {r : Int32} {h' : Hp}   {x0 : Nat} {x1 : Int32} {x2 : Int32} {h : Hp} (hf : b_Mod_isReady_319 F x0 x1 x2 h = some (r, h')) : Go G mi_Mod_isReady h0 (pI r h') h 319 [(0, .ref x0), (1, .int x1), (2, .int x2)] [] := by
  unfold b_Mod_isReady_319 at hf
  refine g_iconst 1 d_Mod_isReady_319 (by decide) ?_
  refine g_goto 324 d_Mod_isReady_320 (by decide) ?_
  have key := e_Mod_isReady_324 hw (G := G) (h0 := h0)  hf
  exact key
def b_Mod_isReady_323 (F : Nat) (x0 : Nat) (x1 : Int32) (x2 : Int32) (h : Hp) : Option (Int32 × Hp) := b_Mod_isReady_324 F x0 x1 x2 (0 : Int32) h
set_option maxRecDepth 100000 in
set_option maxHeartbeats 4000000 in
theorem e_Mod_isReady_323 {G : Gl} (hw : gF G) {h0 : Hp} {F : Nat} {r : Int32} {h' : Hp}   {x0 : Nat} {x1 : Int32} {x2 : Int32} {h : Hp} (hf : b_Mod_isReady_323 F x0 x1 x2 h = some (r, h')) : Go G mi_Mod_isReady h0 (pI r h') h 323 [(0, .ref x0), (1, .int x1), (2, .int x2)] [] := by
  unfold b_Mod_isReady_323 at hf
  refine g_iconst 0 d_Mod_isReady_323 (by decide) ?_
  have key := e_Mod_isReady_324 hw (G := G) (h0 := h0)  hf
  exact key
def b_Mod_isReady_300 (F : Nat) (x0 : Nat) (x1 : Int32) (x2 : Int32) (h : Hp) : Option (Int32 × Hp) := gd (hK h x0 = 12) <| cl (f_Mod_writesPredicate F x0 h) fun v_301_2 h_301_2 => if v_301_2 = 0 then (b_Mod_isReady_319 F x0 x1 x2 h_301_2) else (gd (hK h_301_2 x0 = 12) <| cl (f_Mod_isPredicateThere F x0 x2 (hI h_301_2 757 x0) h_301_2) fun v_313 h_313 => if v_313 = 0 then (b_Mod_isReady_323 F x0 x1 x2 h_313) else (b_Mod_isReady_319 F x0 x1 x2 h_313))
set_option maxRecDepth 100000 in
set_option maxHeartbeats 4000000 in
theorem e_Mod_isReady_300 {G : Gl} (hw : gF G) {h0 : Hp} {F : Nat} {r : Int32} {h' : Hp}   {x0 : Nat} {x1 : Int32} {x2 : Int32} {h : Hp} (hf : b_Mod_isReady_300 F x0 x1 x2 h = some (r, h')) : Go G mi_Mod_isReady h0 (pI r h') h 300 [(0, .ref x0), (1, .int x1), (2, .int x2)] [] := by
  unfold b_Mod_isReady_300 at hf
  refine g_aload_n d_Mod_isReady_300 rfl ?_
  obtain ⟨k_301, hf⟩ := gd_s hf
  obtain ⟨v_301_2, h_301_2, e_301_2, hf⟩ := cl_s hf
  refine g_callV (mz := mi_Mod_writesPredicate) (e_Mod_writesPredicate e_301_2) cw_Mod_isReady_Mod_writesPredicate lm_Mod_272 wI_Mod_writesPredicate wV_Mod_writesPredicate (ci := 11) k_301 (by decide) rfl rfl d_Mod_isReady_301 rfl rfl (by first | exact Nat.le_of_ble_eq_true rfl | simp [cat_rf, Value.category]) (fun r1 h1 hp hro => ?_)
  obtain ⟨rfl, rfl⟩ := hp
  dsimp only [Option.toList_some, Option.toList_none, List.cons_append, List.nil_append]
  refine g_if_eq 319 d_Mod_isReady_304 (by decide) (fun c_304 => ?_) (fun c_304 => ?_)
  · have hf := ifp hf c_304
    have key := e_Mod_isReady_319 hw (G := G) (h0 := h0)  hf
    exact key
  · have hf := ifn hf c_304
    refine g_aload_n d_Mod_isReady_307 rfl ?_
    refine g_iload_n d_Mod_isReady_308 rfl ?_
    refine g_aload_n d_Mod_isReady_309 rfl ?_
    obtain ⟨k_310, hf⟩ := gd_s hf
    refine fg_Mod_d lf_Mod_225 d_Mod_isReady_310 k_310 ?_
    obtain ⟨v_313, h_313, e_313, hf⟩ := cl_s hf
    refine g_callV (mz := mi_Mod_isPredicateThere) (e_Mod_isPredicateThere e_313) cw_Mod_isReady_Mod_isPredicateThere lm_Mod_260 wI_Mod_isPredicateThere wV_Mod_isPredicateThere (ci := 11) k_310 (by decide) rfl rfl d_Mod_isReady_313 rfl rfl (by first | exact Nat.le_of_ble_eq_true rfl | simp [cat_rf, Value.category]) (fun r1 h1 hp hro => ?_)
    obtain ⟨rfl, rfl⟩ := hp
    dsimp only [Option.toList_some, Option.toList_none, List.cons_append, List.nil_append]
    refine g_if_eq 323 d_Mod_isReady_316 (by decide) (fun c_316 => ?_) (fun c_316 => ?_)
    · have hf := ifp hf c_316
      have key := e_Mod_isReady_323 hw (G := G) (h0 := h0)  hf
      exact key
    · have hf := ifn hf c_316
      have key := e_Mod_isReady_319 hw (G := G) (h0 := h0)  hf
      exact key
def b_Mod_isReady_288 (F : Nat) (x0 : Nat) (x1 : Int32) (x2 : Int32) (h : Hp) : Option (Int32 × Hp) := gd (hK h x0 = 12) <| cl (f_Mod_isPredicateThere F x0 x2 (hI h 758 x0) h) fun v_294 h_294 => if v_294 = 0 then (b_Mod_isReady_323 F x0 x1 x2 h_294) else (b_Mod_isReady_300 F x0 x1 x2 h_294)
set_option maxRecDepth 100000 in
set_option maxHeartbeats 4000000 in
theorem e_Mod_isReady_288 {G : Gl} (hw : gF G) {h0 : Hp} {F : Nat} {r : Int32} {h' : Hp}   {x0 : Nat} {x1 : Int32} {x2 : Int32} {h : Hp} (hf : b_Mod_isReady_288 F x0 x1 x2 h = some (r, h')) : Go G mi_Mod_isReady h0 (pI r h') h 288 [(0, .ref x0), (1, .int x1), (2, .int x2)] [] := by
  unfold b_Mod_isReady_288 at hf
  refine g_aload_n d_Mod_isReady_288 rfl ?_
  refine g_iload_n d_Mod_isReady_289 rfl ?_
  refine g_aload_n d_Mod_isReady_290 rfl ?_
  obtain ⟨k_291, hf⟩ := gd_s hf
  refine fg_Mod_a lf_Mod_228 d_Mod_isReady_291 k_291 ?_
  obtain ⟨v_294, h_294, e_294, hf⟩ := cl_s hf
  refine g_callV (mz := mi_Mod_isPredicateThere) (e_Mod_isPredicateThere e_294) cw_Mod_isReady_Mod_isPredicateThere lm_Mod_260 wI_Mod_isPredicateThere wV_Mod_isPredicateThere (ci := 11) k_291 (by decide) rfl rfl d_Mod_isReady_294 rfl rfl (by first | exact Nat.le_of_ble_eq_true rfl | simp [cat_rf, Value.category]) (fun r1 h1 hp hro => ?_)
  obtain ⟨rfl, rfl⟩ := hp
  dsimp only [Option.toList_some, Option.toList_none, List.cons_append, List.nil_append]
  refine g_if_eq 323 d_Mod_isReady_297 (by decide) (fun c_297 => ?_) (fun c_297 => ?_)
  · have hf := ifp hf c_297
    have key := e_Mod_isReady_323 hw (G := G) (h0 := h0)  hf
    exact key
  · have hf := ifn hf c_297
    have key := e_Mod_isReady_300 hw (G := G) (h0 := h0)  hf
    exact key
def b_Mod_isReady_245 (F : Nat) (x0 : Nat) (x1 : Int32) (x2 : Int32) (s0 : Int32) (h : Hp) : Option (Int32 × Hp) := if s0 = 0 then (b_Mod_isReady_323 F x0 x1 x2 h) else (gd (hK h x0 = 12) <| if (hI h 756 x0) = (36 : Int32) then (b_Mod_isReady_288 F x0 x1 x2 h) else (if (hI h 756 x0) = (70 : Int32) then (b_Mod_isReady_288 F x0 x1 x2 h) else (if (hI h 756 x0) = (71 : Int32) then (b_Mod_isReady_288 F x0 x1 x2 h) else (if (hI h 756 x0) = (72 : Int32) then (b_Mod_isReady_288 F x0 x1 x2 h) else (b_Mod_isReady_300 F x0 x1 x2 h)))))
set_option maxRecDepth 100000 in
set_option maxHeartbeats 4000000 in
theorem e_Mod_isReady_245 {G : Gl} (hw : gF G) {h0 : Hp} {F : Nat} {r : Int32} {h' : Hp}   {x0 : Nat} {x1 : Int32} {x2 : Int32} {s0 : Int32} {h : Hp} (hf : b_Mod_isReady_245 F x0 x1 x2 s0 h = some (r, h')) : Go G mi_Mod_isReady h0 (pI r h') h 245 [(0, .ref x0), (1, .int x1), (2, .int x2)] [.int s0] := by
  unfold b_Mod_isReady_245 at hf
  refine g_istore d_Mod_isReady_245 (by decide) ?_
  show Go _ _ _ _ _ _ [(0, _), (1, _), (2, _), (4, _)] _
  refine g_iload d_Mod_isReady_247 rfl ?_
  refine g_if_eq 323 d_Mod_isReady_249 (by decide) (fun c_249 => ?_) (fun c_249 => ?_)
  · have hf := ifp hf c_249
    refine Go.locals [0, 1, 2] rfl ?_
    have key := e_Mod_isReady_323 hw (G := G) (h0 := h0)  hf
    exact key
  · have hf := ifn hf c_249
    refine g_aload_n d_Mod_isReady_252 rfl ?_
    obtain ⟨k_253, hf⟩ := gd_s hf
    refine fg_Mod_op lf_Mod_220 d_Mod_isReady_253 k_253 ?_
    refine g_bipush (36) d_Mod_isReady_256 (by decide) ?_
    refine g_icmp_eq 288 d_Mod_isReady_258 (by decide) (fun c_258 => ?_) (fun c_258 => ?_)
    · have hf := ifp hf c_258
      refine Go.locals [0, 1, 2] rfl ?_
      have key := e_Mod_isReady_288 hw (G := G) (h0 := h0)  hf
      exact key
    · have hf := ifn hf c_258
      refine g_aload_n d_Mod_isReady_261 rfl ?_
      refine fg_Mod_op lf_Mod_220 d_Mod_isReady_262 k_253 ?_
      refine g_bipush (70) d_Mod_isReady_265 (by decide) ?_
      refine g_icmp_eq 288 d_Mod_isReady_267 (by decide) (fun c_267 => ?_) (fun c_267 => ?_)
      · have hf := ifp hf c_267
        refine Go.locals [0, 1, 2] rfl ?_
        have key := e_Mod_isReady_288 hw (G := G) (h0 := h0)  hf
        exact key
      · have hf := ifn hf c_267
        refine g_aload_n d_Mod_isReady_270 rfl ?_
        refine fg_Mod_op lf_Mod_220 d_Mod_isReady_271 k_253 ?_
        refine g_bipush (71) d_Mod_isReady_274 (by decide) ?_
        refine g_icmp_eq 288 d_Mod_isReady_276 (by decide) (fun c_276 => ?_) (fun c_276 => ?_)
        · have hf := ifp hf c_276
          refine Go.locals [0, 1, 2] rfl ?_
          have key := e_Mod_isReady_288 hw (G := G) (h0 := h0)  hf
          exact key
        · have hf := ifn hf c_276
          refine g_aload_n d_Mod_isReady_279 rfl ?_
          refine fg_Mod_op lf_Mod_220 d_Mod_isReady_280 k_253 ?_
          refine g_bipush (72) d_Mod_isReady_283 (by decide) ?_
          refine g_icmp_ne 300 d_Mod_isReady_285 (by decide) (fun c_285 => ?_) (fun c_285 => ?_)
          · have hf := ifn hf c_285
            refine Go.locals [0, 1, 2] rfl ?_
            have key := e_Mod_isReady_300 hw (G := G) (h0 := h0)  hf
            exact key
          · have hf := ifp hf c_285
            refine Go.locals [0, 1, 2] rfl ?_
            have key := e_Mod_isReady_288 hw (G := G) (h0 := h0)  hf
            exact key
def b_Mod_isReady_240 (F : Nat) (x0 : Nat) (x1 : Int32) (x2 : Int32) (h : Hp) : Option (Int32 × Hp) := b_Mod_isReady_245 F x0 x1 x2 (1 : Int32) h
set_option maxRecDepth 100000 in
set_option maxHeartbeats 4000000 in
theorem e_Mod_isReady_240 {G : Gl} (hw : gF G) {h0 : Hp} {F : Nat} {r : Int32} {h' : Hp}   {x0 : Nat} {x1 : Int32} {x2 : Int32} {h : Hp} (hf : b_Mod_isReady_240 F x0 x1 x2 h = some (r, h')) : Go G mi_Mod_isReady h0 (pI r h') h 240 [(0, .ref x0), (1, .int x1), (2, .int x2)] [] := by
  unfold b_Mod_isReady_240 at hf
  refine g_iconst 1 d_Mod_isReady_240 (by decide) ?_
  refine g_goto 245 d_Mod_isReady_241 (by decide) ?_
  have key := e_Mod_isReady_245 hw (G := G) (h0 := h0)  hf
  exact key
def b_Mod_isReady_244 (F : Nat) (x0 : Nat) (x1 : Int32) (x2 : Int32) (h : Hp) : Option (Int32 × Hp) := b_Mod_isReady_245 F x0 x1 x2 (0 : Int32) h
set_option maxRecDepth 100000 in
set_option maxHeartbeats 4000000 in
theorem e_Mod_isReady_244 {G : Gl} (hw : gF G) {h0 : Hp} {F : Nat} {r : Int32} {h' : Hp}   {x0 : Nat} {x1 : Int32} {x2 : Int32} {h : Hp} (hf : b_Mod_isReady_244 F x0 x1 x2 h = some (r, h')) : Go G mi_Mod_isReady h0 (pI r h') h 244 [(0, .ref x0), (1, .int x1), (2, .int x2)] [] := by
  unfold b_Mod_isReady_244 at hf
  refine g_iconst 0 d_Mod_isReady_244 (by decide) ?_
  have key := e_Mod_isReady_245 hw (G := G) (h0 := h0)  hf
  exact key
def b_Mod_isReady_216 (F : Nat) (x0 : Nat) (x1 : Int32) (x2 : Int32) (h : Hp) : Option (Int32 × Hp) := gd (hK h x0 = 12) <| cl (f_Mod_isPredicateThere F x0 x2 (hI h 758 x0) h) fun v_222 h_222 => if v_222 = 0 then (b_Mod_isReady_244 F x0 x1 x2 h_222) else (gd (hK h_222 x0 = 12) <| cl (f_Mod_isPredicateThere F x0 x2 (hI h_222 759 x0) h_222) fun v_234 h_234 => if v_234 = 0 then (b_Mod_isReady_244 F x0 x1 x2 h_234) else (b_Mod_isReady_240 F x0 x1 x2 h_234))
set_option maxRecDepth 100000 in
set_option maxHeartbeats 4000000 in
theorem e_Mod_isReady_216 {G : Gl} (hw : gF G) {h0 : Hp} {F : Nat} {r : Int32} {h' : Hp}   {x0 : Nat} {x1 : Int32} {x2 : Int32} {h : Hp} (hf : b_Mod_isReady_216 F x0 x1 x2 h = some (r, h')) : Go G mi_Mod_isReady h0 (pI r h') h 216 [(0, .ref x0), (1, .int x1), (2, .int x2)] [] := by
  unfold b_Mod_isReady_216 at hf
  refine g_aload_n d_Mod_isReady_216 rfl ?_
  refine g_iload_n d_Mod_isReady_217 rfl ?_
  refine g_aload_n d_Mod_isReady_218 rfl ?_
  obtain ⟨k_219, hf⟩ := gd_s hf
  refine fg_Mod_a lf_Mod_228 d_Mod_isReady_219 k_219 ?_
  obtain ⟨v_222, h_222, e_222, hf⟩ := cl_s hf
  refine g_callV (mz := mi_Mod_isPredicateThere) (e_Mod_isPredicateThere e_222) cw_Mod_isReady_Mod_isPredicateThere lm_Mod_260 wI_Mod_isPredicateThere wV_Mod_isPredicateThere (ci := 11) k_219 (by decide) rfl rfl d_Mod_isReady_222 rfl rfl (by first | exact Nat.le_of_ble_eq_true rfl | simp [cat_rf, Value.category]) (fun r1 h1 hp hro => ?_)
  obtain ⟨rfl, rfl⟩ := hp
  dsimp only [Option.toList_some, Option.toList_none, List.cons_append, List.nil_append]
  refine g_if_eq 244 d_Mod_isReady_225 (by decide) (fun c_225 => ?_) (fun c_225 => ?_)
  · have hf := ifp hf c_225
    have key := e_Mod_isReady_244 hw (G := G) (h0 := h0)  hf
    exact key
  · have hf := ifn hf c_225
    refine g_aload_n d_Mod_isReady_228 rfl ?_
    refine g_iload_n d_Mod_isReady_229 rfl ?_
    refine g_aload_n d_Mod_isReady_230 rfl ?_
    obtain ⟨k_231, hf⟩ := gd_s hf
    refine fg_Mod_b lf_Mod_231 d_Mod_isReady_231 k_231 ?_
    obtain ⟨v_234, h_234, e_234, hf⟩ := cl_s hf
    refine g_callV (mz := mi_Mod_isPredicateThere) (e_Mod_isPredicateThere e_234) cw_Mod_isReady_Mod_isPredicateThere lm_Mod_260 wI_Mod_isPredicateThere wV_Mod_isPredicateThere (ci := 11) k_231 (by decide) rfl rfl d_Mod_isReady_234 rfl rfl (by first | exact Nat.le_of_ble_eq_true rfl | simp [cat_rf, Value.category]) (fun r1 h1 hp hro => ?_)
    obtain ⟨rfl, rfl⟩ := hp
    dsimp only [Option.toList_some, Option.toList_none, List.cons_append, List.nil_append]
    refine g_if_eq 244 d_Mod_isReady_237 (by decide) (fun c_237 => ?_) (fun c_237 => ?_)
    · have hf := ifp hf c_237
      have key := e_Mod_isReady_244 hw (G := G) (h0 := h0)  hf
      exact key
    · have hf := ifn hf c_237
      have key := e_Mod_isReady_240 hw (G := G) (h0 := h0)  hf
      exact key
def b_Mod_isReady_198 (F : Nat) (x0 : Nat) (x1 : Int32) (x2 : Int32) (h : Hp) : Option (Int32 × Hp) := gd (hK h x0 = 12) <| if (hI h 756 x0) = (34 : Int32) then (b_Mod_isReady_216 F x0 x1 x2 h) else (if (hI h 756 x0) = (35 : Int32) then (b_Mod_isReady_216 F x0 x1 x2 h) else (b_Mod_isReady_240 F x0 x1 x2 h))
set_option maxRecDepth 100000 in
set_option maxHeartbeats 4000000 in
theorem e_Mod_isReady_198 {G : Gl} (hw : gF G) {h0 : Hp} {F : Nat} {r : Int32} {h' : Hp}   {x0 : Nat} {x1 : Int32} {x2 : Int32} {h : Hp} (hf : b_Mod_isReady_198 F x0 x1 x2 h = some (r, h')) : Go G mi_Mod_isReady h0 (pI r h') h 198 [(0, .ref x0), (1, .int x1), (2, .int x2)] [] := by
  unfold b_Mod_isReady_198 at hf
  refine g_aload_n d_Mod_isReady_198 rfl ?_
  obtain ⟨k_199, hf⟩ := gd_s hf
  refine fg_Mod_op lf_Mod_220 d_Mod_isReady_199 k_199 ?_
  refine g_bipush (34) d_Mod_isReady_202 (by decide) ?_
  refine g_icmp_eq 216 d_Mod_isReady_204 (by decide) (fun c_204 => ?_) (fun c_204 => ?_)
  · have hf := ifp hf c_204
    have key := e_Mod_isReady_216 hw (G := G) (h0 := h0)  hf
    exact key
  · have hf := ifn hf c_204
    refine g_aload_n d_Mod_isReady_207 rfl ?_
    refine fg_Mod_op lf_Mod_220 d_Mod_isReady_208 k_199 ?_
    refine g_bipush (35) d_Mod_isReady_211 (by decide) ?_
    refine g_icmp_ne 240 d_Mod_isReady_213 (by decide) (fun c_213 => ?_) (fun c_213 => ?_)
    · have hf := ifn hf c_213
      have key := e_Mod_isReady_240 hw (G := G) (h0 := h0)  hf
      exact key
    · have hf := ifp hf c_213
      have key := e_Mod_isReady_216 hw (G := G) (h0 := h0)  hf
      exact key
def b_Mod_isReady_170 (F : Nat) (x0 : Nat) (x1 : Int32) (x2 : Int32) (s0 : Int32) (h : Hp) : Option (Int32 × Hp) := if s0 = 0 then (b_Mod_isReady_244 F x0 x1 x2 h) else (gd (hK h x0 = 12) <| if (hI h 756 x0) = (21 : Int32) then (cl (f_Mod_isPredicateThere F x0 x2 (hI h 761 x0) h) fun v_192 h_192 => if v_192 = 0 then (b_Mod_isReady_244 F x0 x1 x2 h_192) else (b_Mod_isReady_198 F x0 x1 x2 h_192)) else (b_Mod_isReady_198 F x0 x1 x2 h))
set_option maxRecDepth 100000 in
set_option maxHeartbeats 4000000 in
theorem e_Mod_isReady_170 {G : Gl} (hw : gF G) {h0 : Hp} {F : Nat} {r : Int32} {h' : Hp}   {x0 : Nat} {x1 : Int32} {x2 : Int32} {s0 : Int32} {h : Hp} (hf : b_Mod_isReady_170 F x0 x1 x2 s0 h = some (r, h')) : Go G mi_Mod_isReady h0 (pI r h') h 170 [(0, .ref x0), (1, .int x1), (2, .int x2)] [.int s0] := by
  unfold b_Mod_isReady_170 at hf
  refine g_istore d_Mod_isReady_170 (by decide) ?_
  show Go _ _ _ _ _ _ [(0, _), (1, _), (2, _), (4, _)] _
  refine g_iload d_Mod_isReady_172 rfl ?_
  refine g_if_eq 244 d_Mod_isReady_174 (by decide) (fun c_174 => ?_) (fun c_174 => ?_)
  · have hf := ifp hf c_174
    refine Go.locals [0, 1, 2] rfl ?_
    have key := e_Mod_isReady_244 hw (G := G) (h0 := h0)  hf
    exact key
  · have hf := ifn hf c_174
    refine g_aload_n d_Mod_isReady_177 rfl ?_
    obtain ⟨k_178, hf⟩ := gd_s hf
    refine fg_Mod_op lf_Mod_220 d_Mod_isReady_178 k_178 ?_
    refine g_bipush (21) d_Mod_isReady_181 (by decide) ?_
    refine g_icmp_ne 198 d_Mod_isReady_183 (by decide) (fun c_183 => ?_) (fun c_183 => ?_)
    · have hf := ifn hf c_183
      refine Go.locals [0, 1, 2] rfl ?_
      have key := e_Mod_isReady_198 hw (G := G) (h0 := h0)  hf
      exact key
    · have hf := ifp hf c_183
      refine g_aload_n d_Mod_isReady_186 rfl ?_
      refine g_iload_n d_Mod_isReady_187 rfl ?_
      refine g_aload_n d_Mod_isReady_188 rfl ?_
      refine fg_Mod_n lf_Mod_237 d_Mod_isReady_189 k_178 ?_
      obtain ⟨v_192, h_192, e_192, hf⟩ := cl_s hf
      refine g_callV (mz := mi_Mod_isPredicateThere) (e_Mod_isPredicateThere e_192) cw_Mod_isReady_Mod_isPredicateThere lm_Mod_260 wI_Mod_isPredicateThere wV_Mod_isPredicateThere (ci := 11) k_178 (by decide) rfl rfl d_Mod_isReady_192 rfl rfl (by first | exact Nat.le_of_ble_eq_true rfl | simp [cat_rf, Value.category]) (fun r1 h1 hp hro => ?_)
      obtain ⟨rfl, rfl⟩ := hp
      dsimp only [Option.toList_some, Option.toList_none, List.cons_append, List.nil_append]
      refine g_if_eq 244 d_Mod_isReady_195 (by decide) (fun c_195 => ?_) (fun c_195 => ?_)
      · have hf := ifp hf c_195
        refine Go.locals [0, 1, 2] rfl ?_
        have key := e_Mod_isReady_244 hw (G := G) (h0 := h0)  hf
        exact key
      · have hf := ifn hf c_195
        refine Go.locals [0, 1, 2] rfl ?_
        have key := e_Mod_isReady_198 hw (G := G) (h0 := h0)  hf
        exact key
def b_Mod_isReady_165 (F : Nat) (x0 : Nat) (x1 : Int32) (x2 : Int32) (h : Hp) : Option (Int32 × Hp) := b_Mod_isReady_170 F x0 x1 x2 (1 : Int32) h
set_option maxRecDepth 100000 in
set_option maxHeartbeats 4000000 in
theorem e_Mod_isReady_165 {G : Gl} (hw : gF G) {h0 : Hp} {F : Nat} {r : Int32} {h' : Hp}   {x0 : Nat} {x1 : Int32} {x2 : Int32} {h : Hp} (hf : b_Mod_isReady_165 F x0 x1 x2 h = some (r, h')) : Go G mi_Mod_isReady h0 (pI r h') h 165 [(0, .ref x0), (1, .int x1), (2, .int x2)] [] := by
  unfold b_Mod_isReady_165 at hf
  refine g_iconst 1 d_Mod_isReady_165 (by decide) ?_
  refine g_goto 170 d_Mod_isReady_166 (by decide) ?_
  have key := e_Mod_isReady_170 hw (G := G) (h0 := h0)  hf
  exact key
def b_Mod_isReady_169 (F : Nat) (x0 : Nat) (x1 : Int32) (x2 : Int32) (h : Hp) : Option (Int32 × Hp) := b_Mod_isReady_170 F x0 x1 x2 (0 : Int32) h
set_option maxRecDepth 100000 in
set_option maxHeartbeats 4000000 in
theorem e_Mod_isReady_169 {G : Gl} (hw : gF G) {h0 : Hp} {F : Nat} {r : Int32} {h' : Hp}   {x0 : Nat} {x1 : Int32} {x2 : Int32} {h : Hp} (hf : b_Mod_isReady_169 F x0 x1 x2 h = some (r, h')) : Go G mi_Mod_isReady h0 (pI r h') h 169 [(0, .ref x0), (1, .int x1), (2, .int x2)] [] := by
  unfold b_Mod_isReady_169 at hf
  refine g_iconst 0 d_Mod_isReady_169 (by decide) ?_
  have key := e_Mod_isReady_170 hw (G := G) (h0 := h0)  hf
  exact key
def b_Mod_isReady_153 (F : Nat) (x0 : Nat) (x1 : Int32) (x2 : Int32) (h : Hp) : Option (Int32 × Hp) := gd (hK h x0 = 12) <| cl (f_Mod_isThere F x0 x2 (hI h 757 x0) h) fun v_159 h_159 => if v_159 = 0 then (b_Mod_isReady_169 F x0 x1 x2 h_159) else (b_Mod_isReady_165 F x0 x1 x2 h_159)
set_option maxRecDepth 100000 in
set_option maxHeartbeats 4000000 in
theorem e_Mod_isReady_153 {G : Gl} (hw : gF G) {h0 : Hp} {F : Nat} {r : Int32} {h' : Hp}   {x0 : Nat} {x1 : Int32} {x2 : Int32} {h : Hp} (hf : b_Mod_isReady_153 F x0 x1 x2 h = some (r, h')) : Go G mi_Mod_isReady h0 (pI r h') h 153 [(0, .ref x0), (1, .int x1), (2, .int x2)] [] := by
  unfold b_Mod_isReady_153 at hf
  refine g_aload_n d_Mod_isReady_153 rfl ?_
  refine g_iload_n d_Mod_isReady_154 rfl ?_
  refine g_aload_n d_Mod_isReady_155 rfl ?_
  obtain ⟨k_156, hf⟩ := gd_s hf
  refine fg_Mod_d lf_Mod_225 d_Mod_isReady_156 k_156 ?_
  obtain ⟨v_159, h_159, e_159, hf⟩ := cl_s hf
  refine g_callV (mz := mi_Mod_isThere) (e_Mod_isThere e_159) cw_Mod_isReady_Mod_isThere lm_Mod_243 wI_Mod_isThere wV_Mod_isThere (ci := 11) k_156 (by decide) rfl rfl d_Mod_isReady_159 rfl rfl (by first | exact Nat.le_of_ble_eq_true rfl | simp [cat_rf, Value.category]) (fun r1 h1 hp hro => ?_)
  obtain ⟨rfl, rfl⟩ := hp
  dsimp only [Option.toList_some, Option.toList_none, List.cons_append, List.nil_append]
  refine g_if_eq 169 d_Mod_isReady_162 (by decide) (fun c_162 => ?_) (fun c_162 => ?_)
  · have hf := ifp hf c_162
    have key := e_Mod_isReady_169 hw (G := G) (h0 := h0)  hf
    exact key
  · have hf := ifn hf c_162
    have key := e_Mod_isReady_165 hw (G := G) (h0 := h0)  hf
    exact key
def b_Mod_isReady_137 (F : Nat) (x0 : Nat) (x1 : Int32) (x2 : Int32) (h : Hp) : Option (Int32 × Hp) := gd (hK h x0 = 12) <| cl (f_Mod_writesD F x0 h) fun v_138_2 h_138_2 => if v_138_2 = 0 then (gd (hK h_138_2 x0 = 12) <| if (hI h_138_2 756 x0) = (57 : Int32) then (b_Mod_isReady_153 F x0 x1 x2 h_138_2) else (b_Mod_isReady_165 F x0 x1 x2 h_138_2)) else (b_Mod_isReady_153 F x0 x1 x2 h_138_2)
set_option maxRecDepth 100000 in
set_option maxHeartbeats 4000000 in
theorem e_Mod_isReady_137 {G : Gl} (hw : gF G) {h0 : Hp} {F : Nat} {r : Int32} {h' : Hp}   {x0 : Nat} {x1 : Int32} {x2 : Int32} {h : Hp} (hf : b_Mod_isReady_137 F x0 x1 x2 h = some (r, h')) : Go G mi_Mod_isReady h0 (pI r h') h 137 [(0, .ref x0), (1, .int x1), (2, .int x2)] [] := by
  unfold b_Mod_isReady_137 at hf
  refine g_aload_n d_Mod_isReady_137 rfl ?_
  obtain ⟨k_138, hf⟩ := gd_s hf
  obtain ⟨v_138_2, h_138_2, e_138_2, hf⟩ := cl_s hf
  refine g_callV (mz := mi_Mod_writesD) (e_Mod_writesD e_138_2) cw_Mod_isReady_Mod_writesD lm_Mod_269 wI_Mod_writesD wV_Mod_writesD (ci := 11) k_138 (by decide) rfl rfl d_Mod_isReady_138 rfl rfl (by first | exact Nat.le_of_ble_eq_true rfl | simp [cat_rf, Value.category]) (fun r1 h1 hp hro => ?_)
  obtain ⟨rfl, rfl⟩ := hp
  dsimp only [Option.toList_some, Option.toList_none, List.cons_append, List.nil_append]
  refine g_if_ne 153 d_Mod_isReady_141 (by decide) (fun c_141 => ?_) (fun c_141 => ?_)
  · have hf := ifn hf c_141
    have key := e_Mod_isReady_153 hw (G := G) (h0 := h0)  hf
    exact key
  · have hf := ifp hf c_141
    refine g_aload_n d_Mod_isReady_144 rfl ?_
    obtain ⟨k_145, hf⟩ := gd_s hf
    refine fg_Mod_op lf_Mod_220 d_Mod_isReady_145 k_145 ?_
    refine g_bipush (57) d_Mod_isReady_148 (by decide) ?_
    refine g_icmp_ne 165 d_Mod_isReady_150 (by decide) (fun c_150 => ?_) (fun c_150 => ?_)
    · have hf := ifn hf c_150
      have key := e_Mod_isReady_165 hw (G := G) (h0 := h0)  hf
      exact key
    · have hf := ifp hf c_150
      have key := e_Mod_isReady_153 hw (G := G) (h0 := h0)  hf
      exact key
def b_Mod_isReady_118 (F : Nat) (x0 : Nat) (x1 : Int32) (x2 : Int32) (h : Hp) : Option (Int32 × Hp) := gd (hK h x0 = 12) <| cl (f_Mod_readsB F x0 h) fun v_119_2 h_119_2 => if v_119_2 = 0 then (b_Mod_isReady_137 F x0 x1 x2 h_119_2) else (gd (hK h_119_2 x0 = 12) <| cl (f_Mod_isThere F x0 x2 (hI h_119_2 759 x0) h_119_2) fun v_131 h_131 => if v_131 = 0 then (b_Mod_isReady_169 F x0 x1 x2 h_131) else (b_Mod_isReady_137 F x0 x1 x2 h_131))
set_option maxRecDepth 100000 in
set_option maxHeartbeats 4000000 in
theorem e_Mod_isReady_118 {G : Gl} (hw : gF G) {h0 : Hp} {F : Nat} {r : Int32} {h' : Hp}   {x0 : Nat} {x1 : Int32} {x2 : Int32} {h : Hp} (hf : b_Mod_isReady_118 F x0 x1 x2 h = some (r, h')) : Go G mi_Mod_isReady h0 (pI r h') h 118 [(0, .ref x0), (1, .int x1), (2, .int x2)] [] := by
  unfold b_Mod_isReady_118 at hf
  refine g_aload_n d_Mod_isReady_118 rfl ?_
  obtain ⟨k_119, hf⟩ := gd_s hf
  obtain ⟨v_119_2, h_119_2, e_119_2, hf⟩ := cl_s hf
  refine g_callV (mz := mi_Mod_readsB) (e_Mod_readsB e_119_2) cw_Mod_isReady_Mod_readsB lm_Mod_266 wI_Mod_readsB wV_Mod_readsB (ci := 11) k_119 (by decide) rfl rfl d_Mod_isReady_119 rfl rfl (by first | exact Nat.le_of_ble_eq_true rfl | simp [cat_rf, Value.category]) (fun r1 h1 hp hro => ?_)
  obtain ⟨rfl, rfl⟩ := hp
  dsimp only [Option.toList_some, Option.toList_none, List.cons_append, List.nil_append]
  refine g_if_eq 137 d_Mod_isReady_122 (by decide) (fun c_122 => ?_) (fun c_122 => ?_)
  · have hf := ifp hf c_122
    have key := e_Mod_isReady_137 hw (G := G) (h0 := h0)  hf
    exact key
  · have hf := ifn hf c_122
    refine g_aload_n d_Mod_isReady_125 rfl ?_
    refine g_iload_n d_Mod_isReady_126 rfl ?_
    refine g_aload_n d_Mod_isReady_127 rfl ?_
    obtain ⟨k_128, hf⟩ := gd_s hf
    refine fg_Mod_b lf_Mod_231 d_Mod_isReady_128 k_128 ?_
    obtain ⟨v_131, h_131, e_131, hf⟩ := cl_s hf
    refine g_callV (mz := mi_Mod_isThere) (e_Mod_isThere e_131) cw_Mod_isReady_Mod_isThere lm_Mod_243 wI_Mod_isThere wV_Mod_isThere (ci := 11) k_128 (by decide) rfl rfl d_Mod_isReady_131 rfl rfl (by first | exact Nat.le_of_ble_eq_true rfl | simp [cat_rf, Value.category]) (fun r1 h1 hp hro => ?_)
    obtain ⟨rfl, rfl⟩ := hp
    dsimp only [Option.toList_some, Option.toList_none, List.cons_append, List.nil_append]
    refine g_if_eq 169 d_Mod_isReady_134 (by decide) (fun c_134 => ?_) (fun c_134 => ?_)
    · have hf := ifp hf c_134
      have key := e_Mod_isReady_169 hw (G := G) (h0 := h0)  hf
      exact key
    · have hf := ifn hf c_134
      have key := e_Mod_isReady_137 hw (G := G) (h0 := h0)  hf
      exact key
def b_Mod_isReady_92 (F : Nat) (x0 : Nat) (x1 : Int32) (x2 : Int32) (s0 : Int32) (h : Hp) : Option (Int32 × Hp) := if s0 = 0 then (b_Mod_isReady_169 F x0 x1 x2 h) else (gd (hK h x0 = 12) <| cl (f_Mod_readsA F x0 h) fun v_100_2 h_100_2 => if v_100_2 = 0 then (b_Mod_isReady_118 F x0 x1 x2 h_100_2) else (gd (hK h_100_2 x0 = 12) <| cl (f_Mod_isThere F x0 x2 (hI h_100_2 758 x0) h_100_2) fun v_112 h_112 => if v_112 = 0 then (b_Mod_isReady_169 F x0 x1 x2 h_112) else (b_Mod_isReady_118 F x0 x1 x2 h_112)))
set_option maxRecDepth 100000 in
set_option maxHeartbeats 4000000 in
theorem e_Mod_isReady_92 {G : Gl} (hw : gF G) {h0 : Hp} {F : Nat} {r : Int32} {h' : Hp}   {x0 : Nat} {x1 : Int32} {x2 : Int32} {s0 : Int32} {h : Hp} (hf : b_Mod_isReady_92 F x0 x1 x2 s0 h = some (r, h')) : Go G mi_Mod_isReady h0 (pI r h') h 92 [(0, .ref x0), (1, .int x1), (2, .int x2)] [.int s0] := by
  unfold b_Mod_isReady_92 at hf
  refine g_istore d_Mod_isReady_92 (by decide) ?_
  show Go _ _ _ _ _ _ [(0, _), (1, _), (2, _), (4, _)] _
  refine g_iload d_Mod_isReady_94 rfl ?_
  refine g_if_eq 169 d_Mod_isReady_96 (by decide) (fun c_96 => ?_) (fun c_96 => ?_)
  · have hf := ifp hf c_96
    refine Go.locals [0, 1, 2] rfl ?_
    have key := e_Mod_isReady_169 hw (G := G) (h0 := h0)  hf
    exact key
  · have hf := ifn hf c_96
    refine g_aload_n d_Mod_isReady_99 rfl ?_
    obtain ⟨k_100, hf⟩ := gd_s hf
    obtain ⟨v_100_2, h_100_2, e_100_2, hf⟩ := cl_s hf
    refine g_callV (mz := mi_Mod_readsA) (e_Mod_readsA e_100_2) cw_Mod_isReady_Mod_readsA lm_Mod_263 wI_Mod_readsA wV_Mod_readsA (ci := 11) k_100 (by decide) rfl rfl d_Mod_isReady_100 rfl rfl (by first | exact Nat.le_of_ble_eq_true rfl | simp [cat_rf, Value.category]) (fun r1 h1 hp hro => ?_)
    obtain ⟨rfl, rfl⟩ := hp
    dsimp only [Option.toList_some, Option.toList_none, List.cons_append, List.nil_append]
    refine g_if_eq 118 d_Mod_isReady_103 (by decide) (fun c_103 => ?_) (fun c_103 => ?_)
    · have hf := ifp hf c_103
      refine Go.locals [0, 1, 2] rfl ?_
      have key := e_Mod_isReady_118 hw (G := G) (h0 := h0)  hf
      exact key
    · have hf := ifn hf c_103
      refine g_aload_n d_Mod_isReady_106 rfl ?_
      refine g_iload_n d_Mod_isReady_107 rfl ?_
      refine g_aload_n d_Mod_isReady_108 rfl ?_
      obtain ⟨k_109, hf⟩ := gd_s hf
      refine fg_Mod_a lf_Mod_228 d_Mod_isReady_109 k_109 ?_
      obtain ⟨v_112, h_112, e_112, hf⟩ := cl_s hf
      refine g_callV (mz := mi_Mod_isThere) (e_Mod_isThere e_112) cw_Mod_isReady_Mod_isThere lm_Mod_243 wI_Mod_isThere wV_Mod_isThere (ci := 11) k_109 (by decide) rfl rfl d_Mod_isReady_112 rfl rfl (by first | exact Nat.le_of_ble_eq_true rfl | simp [cat_rf, Value.category]) (fun r1 h1 hp hro => ?_)
      obtain ⟨rfl, rfl⟩ := hp
      dsimp only [Option.toList_some, Option.toList_none, List.cons_append, List.nil_append]
      refine g_if_eq 169 d_Mod_isReady_115 (by decide) (fun c_115 => ?_) (fun c_115 => ?_)
      · have hf := ifp hf c_115
        refine Go.locals [0, 1, 2] rfl ?_
        have key := e_Mod_isReady_169 hw (G := G) (h0 := h0)  hf
        exact key
      · have hf := ifn hf c_115
        refine Go.locals [0, 1, 2] rfl ?_
        have key := e_Mod_isReady_118 hw (G := G) (h0 := h0)  hf
        exact key
def b_Mod_isReady_87 (F : Nat) (x0 : Nat) (x1 : Int32) (x2 : Int32) (h : Hp) : Option (Int32 × Hp) := b_Mod_isReady_92 F x0 x1 x2 (1 : Int32) h
set_option maxRecDepth 100000 in
set_option maxHeartbeats 4000000 in
theorem e_Mod_isReady_87 {G : Gl} (hw : gF G) {h0 : Hp} {F : Nat} {r : Int32} {h' : Hp}   {x0 : Nat} {x1 : Int32} {x2 : Int32} {h : Hp} (hf : b_Mod_isReady_87 F x0 x1 x2 h = some (r, h')) : Go G mi_Mod_isReady h0 (pI r h') h 87 [(0, .ref x0), (1, .int x1), (2, .int x2)] [] := by
  unfold b_Mod_isReady_87 at hf
  refine g_iconst 1 d_Mod_isReady_87 (by decide) ?_
  refine g_goto 92 d_Mod_isReady_88 (by decide) ?_
  have key := e_Mod_isReady_92 hw (G := G) (h0 := h0)  hf
  exact key
def f_Mod_isReady (F : Nat) (x0 : Nat) (x1 : Int32) (x2 : Int32) (h : Hp) : Option (Int32 × Hp) := gd (hK h x0 = 12) <| rq h (hR h 735 x0) 100 fun a_1_2 => ix x2 (hN h a_1_2) fun j_5 => if (hA h a_1_2 j_5) = (-1 : Int32) then (some ((0 : Int32), h)) else (cl (f_Mod_group F x0 x2 h) fun v_12 h_12 => if v_12 = 0 then (some ((0 : Int32), h_12)) else (gd (hK h_12 x0 = 12) <| rq h_12 (hR h_12 741 x0) 100 fun a_21_2 => cl (f_Mod_firstOfGroup F x0 h_12) fun v_26 h_26 => cl (f_Mod_thread F x2 v_26 h_26) fun v_29 h_29 => gd (hK h_29 a_21_2 = 100) <| ix v_29 (hN h_29 a_21_2) fun j_32_2 => if (hA h_29 a_21_2 j_32_2) < 0 then (some ((1 : Int32), h_29)) else (if (hA h_29 a_21_2 j_32_2) < (128 : Int32) then (gd (hK h_29 x0 = 12) <| rq h_29 (hR h_29 711 x0) 110 fun a_49_2 => ix (hA h_29 a_21_2 j_32_2) (hN h_29 a_49_2) fun j_53 => clv (f_Mod_take F x0 (hL h_29 a_49_2 j_53) h_29) fun h_54 => gd (hK h_54 x0 = 12) <| cl (f_Mod_isWord F x0 h_54) fun v_58_2 h_58_2 => if v_58_2 = 0 then (some ((1 : Int32), h_58_2)) else (gd (hK h_58_2 x0 = 12) <| if (hI h_58_2 760 x0) < (8 : Int32) then (b_Mod_isReady_87 F x0 x1 x2 h_58_2) else (cl (f_Mod_isPredicateThere F x0 x2 (hI h_58_2 760 x0) h_58_2) fun v_81 h_81 => if v_81 = 0 then (b_Mod_isReady_92 F x0 x1 x2 (0 : Int32) h_81) else (b_Mod_isReady_87 F x0 x1 x2 h_81)))) else (some ((1 : Int32), h_29)))))
set_option maxRecDepth 100000 in
set_option maxHeartbeats 4000000 in
theorem e_Mod_isReady {G : Gl} (hw : gF G) {F : Nat} {r : Int32} {h' : Hp} {x0 : Nat} {x1 : Int32} {x2 : Int32} {h : Hp} (hf : f_Mod_isReady F x0 x1 x2 h = some (r, h')) : Ex G mi_Mod_isReady [.ref x0, .int x1, .int x2] h (pI r h') := by
  unfold f_Mod_isReady at hf
  refine Ex.of nmI (by decide) (Nat.le_of_ble_eq_true rfl) ?_
  show Go G mi_Mod_isReady h _ h 0 [(0, .ref x0), (1, .int x1), (2, .int x2)] []
  refine g_aload_n d_Mod_isReady_0 rfl ?_
  obtain ⟨k_1, hf⟩ := gd_s hf
  obtain ⟨a_1_2, e_1_2, k_1_2, hf⟩ := rq_s hf
  refine fgs_Mod_slotBlock lf_Mod_54 d_Mod_isReady_1 k_1 e_1_2 ?_
  refine g_iload_n d_Mod_isReady_4 rfl ?_
  obtain ⟨i_5, hf⟩ := ix_s hf
  refine g_iald k_1_2 i_5 d_Mod_isReady_5 ?_
  refine g_iconst (-1) d_Mod_isReady_6 (by decide) ?_
  refine g_icmp_eq 18 d_Mod_isReady_7 (by decide) (fun c_7 => ?_) (fun c_7 => ?_)
  · have hf := ifp hf c_7
    refine g_iconst 0 d_Mod_isReady_18 (by decide) ?_
    exact Go.ret (some _) rOk_b0 rfl d_Mod_isReady_19 (pI_of hf)
  · have hf := ifn hf c_7
    refine g_aload_n d_Mod_isReady_10 rfl ?_
    refine g_iload_n d_Mod_isReady_11 rfl ?_
    obtain ⟨v_12, h_12, e_12, hf⟩ := cl_s hf
    refine g_callV (mz := mi_Mod_group) (e_Mod_group hw e_12) cw_Mod_isReady_Mod_group lm_Mod_246 wI_Mod_group wV_Mod_group (ci := 11) k_1 (by decide) rfl rfl d_Mod_isReady_12 rfl rfl (by first | exact Nat.le_of_ble_eq_true rfl | simp [cat_rf, Value.category]) (fun r1 h1 hp hro => ?_)
    obtain ⟨rfl, rfl⟩ := hp
    dsimp only [Option.toList_some, Option.toList_none, List.cons_append, List.nil_append]
    refine g_if_ne 20 d_Mod_isReady_15 (by decide) (fun c_15 => ?_) (fun c_15 => ?_)
    · have hf := ifn hf c_15
      refine g_aload_n d_Mod_isReady_20 rfl ?_
      obtain ⟨k_21, hf⟩ := gd_s hf
      obtain ⟨a_21_2, e_21_2, k_21_2, hf⟩ := rq_s hf
      refine fgs_Mod_place lf_Mod_73 d_Mod_isReady_21 k_21 e_21_2 ?_
      refine g_iload_n d_Mod_isReady_24 rfl ?_
      refine g_aload_n d_Mod_isReady_25 rfl ?_
      obtain ⟨v_26, h_26, e_26, hf⟩ := cl_s hf
      refine g_callV (mz := mi_Mod_firstOfGroup) (e_Mod_firstOfGroup e_26) cw_Mod_isReady_Mod_firstOfGroup lm_Mod_250 wI_Mod_firstOfGroup wV_Mod_firstOfGroup (ci := 11) k_21 (by decide) rfl rfl d_Mod_isReady_26 rfl rfl (by first | exact Nat.le_of_ble_eq_true rfl | simp [cat_rf, Value.category]) (fun r1 h1 hp hro => ?_)
      obtain ⟨rfl, rfl⟩ := hp
      dsimp only [Option.toList_some, Option.toList_none, List.cons_append, List.nil_append]
      obtain ⟨v_29, h_29, e_29, hf⟩ := cl_s hf
      refine g_callS (mz := mi_Mod_thread) (e_Mod_thread e_29) cw_Mod_isReady_Mod_thread lm_Mod_211 wS_Mod_thread d_Mod_isReady_29 rfl rfl (by first | exact Nat.le_of_ble_eq_true rfl | simp [cat_rf, Value.category]) (fun r1 h1 hp hro => ?_)
      obtain ⟨rfl, rfl⟩ := hp
      dsimp only [Option.toList_some, Option.toList_none, List.cons_append, List.nil_append]
      obtain ⟨k_32, hf⟩ := gd_s hf
      obtain ⟨i_32_2, hf⟩ := ix_s hf
      refine g_iald k_32 i_32_2 d_Mod_isReady_32 ?_
      refine g_istore_n d_Mod_isReady_33 (by decide) ?_
      show Go _ _ _ _ _ _ [(0, _), (1, _), (2, _), (3, _)] _
      refine g_iload_n d_Mod_isReady_34 rfl ?_
      refine g_if_lt 45 d_Mod_isReady_35 (by decide) (fun c_35 => ?_) (fun c_35 => ?_)
      · have hf := ifp hf c_35
        refine g_iconst 1 d_Mod_isReady_45 (by decide) ?_
        exact Go.ret (some _) rOk_b1 rfl d_Mod_isReady_46 (pI_of hf)
      · have hf := ifn hf c_35
        refine g_iload_n d_Mod_isReady_38 rfl ?_
        refine g_sipush (128) d_Mod_isReady_39 (by decide) ?_
        refine g_icmp_lt 47 d_Mod_isReady_42 (by decide) (fun c_42 => ?_) (fun c_42 => ?_)
        · have hf := ifp hf c_42
          refine g_aload_n d_Mod_isReady_47 rfl ?_
          refine g_aload_n d_Mod_isReady_48 rfl ?_
          obtain ⟨k_49, hf⟩ := gd_s hf
          obtain ⟨a_49_2, e_49_2, k_49_2, hf⟩ := rq_s hf
          refine fgs_Mod_kernel lf_Mod_28 d_Mod_isReady_49 k_49 e_49_2 ?_
          refine g_iload_n d_Mod_isReady_52 rfl ?_
          obtain ⟨i_53, hf⟩ := ix_s hf
          refine g_lald k_49_2 i_53 d_Mod_isReady_53 ?_
          obtain ⟨h_54, e_54, hf⟩ := clv_s hf
          refine g_callV (mz := mi_Mod_take) (e_Mod_take hw e_54) cw_Mod_isReady_Mod_take lm_Mod_253 wI_Mod_take wV_Mod_take (ci := 11) k_49 (by decide) rfl rfl d_Mod_isReady_54 rfl rfl (by first | exact Nat.le_of_ble_eq_true rfl | simp [cat_rf, Value.category]) (fun r1 h1 hp hro => ?_)
          obtain ⟨rfl, rfl⟩ := hp
          dsimp only [Option.toList_some, Option.toList_none, List.cons_append, List.nil_append]
          refine g_aload_n d_Mod_isReady_57 rfl ?_
          obtain ⟨k_58, hf⟩ := gd_s hf
          obtain ⟨v_58_2, h_58_2, e_58_2, hf⟩ := cl_s hf
          refine g_callV (mz := mi_Mod_isWord) (e_Mod_isWord e_58_2) cw_Mod_isReady_Mod_isWord lm_Mod_257 wI_Mod_isWord wV_Mod_isWord (ci := 11) k_58 (by decide) rfl rfl d_Mod_isReady_58 rfl rfl (by first | exact Nat.le_of_ble_eq_true rfl | simp [cat_rf, Value.category]) (fun r1 h1 hp hro => ?_)
          obtain ⟨rfl, rfl⟩ := hp
          dsimp only [Option.toList_some, Option.toList_none, List.cons_append, List.nil_append]
          refine g_if_ne 66 d_Mod_isReady_61 (by decide) (fun c_61 => ?_) (fun c_61 => ?_)
          · have hf := ifn hf c_61
            refine g_aload_n d_Mod_isReady_66 rfl ?_
            obtain ⟨k_67, hf⟩ := gd_s hf
            refine fg_Mod_g lf_Mod_234 d_Mod_isReady_67 k_67 ?_
            refine g_bipush (8) d_Mod_isReady_70 (by decide) ?_
            refine g_icmp_lt 87 d_Mod_isReady_72 (by decide) (fun c_72 => ?_) (fun c_72 => ?_)
            · have hf := ifp hf c_72
              refine Go.locals [0, 1, 2] rfl ?_
              have key := e_Mod_isReady_87 hw (G := G) (h0 := h)  hf
              exact key
            · have hf := ifn hf c_72
              refine g_aload_n d_Mod_isReady_75 rfl ?_
              refine g_iload_n d_Mod_isReady_76 rfl ?_
              refine g_aload_n d_Mod_isReady_77 rfl ?_
              refine fg_Mod_g lf_Mod_234 d_Mod_isReady_78 k_67 ?_
              obtain ⟨v_81, h_81, e_81, hf⟩ := cl_s hf
              refine g_callV (mz := mi_Mod_isPredicateThere) (e_Mod_isPredicateThere e_81) cw_Mod_isReady_Mod_isPredicateThere lm_Mod_260 wI_Mod_isPredicateThere wV_Mod_isPredicateThere (ci := 11) k_67 (by decide) rfl rfl d_Mod_isReady_81 rfl rfl (by first | exact Nat.le_of_ble_eq_true rfl | simp [cat_rf, Value.category]) (fun r1 h1 hp hro => ?_)
              obtain ⟨rfl, rfl⟩ := hp
              dsimp only [Option.toList_some, Option.toList_none, List.cons_append, List.nil_append]
              refine g_if_eq 91 d_Mod_isReady_84 (by decide) (fun c_84 => ?_) (fun c_84 => ?_)
              · have hf := ifp hf c_84
                refine g_iconst 0 d_Mod_isReady_91 (by decide) ?_
                refine Go.locals [0, 1, 2] rfl ?_
                have key := e_Mod_isReady_92 hw (G := G) (h0 := h)  hf
                exact key
              · have hf := ifn hf c_84
                refine Go.locals [0, 1, 2] rfl ?_
                have key := e_Mod_isReady_87 hw (G := G) (h0 := h)  hf
                exact key
          · have hf := ifp hf c_61
            refine g_iconst 1 d_Mod_isReady_64 (by decide) ?_
            exact Go.ret (some _) rOk_b1 rfl d_Mod_isReady_65 (pI_of hf)
        · have hf := ifn hf c_42
          refine g_iconst 1 d_Mod_isReady_45 (by decide) ?_
          exact Go.ret (some _) rOk_b1 rfl d_Mod_isReady_46 (pI_of hf)
    · have hf := ifp hf c_15
      refine g_iconst 0 d_Mod_isReady_18 (by decide) ?_
      exact Go.ret (some _) rOk_b0 rfl d_Mod_isReady_19 (pI_of hf)
abbrev mi_Mod_trap : MI := (⟨"WarpMillModel", "trap", "(III)V"⟩, prog_13_method_39_code, 4, none, 1, 21)
def it_Mod_trap_0 : List (Nat × ClassFile.Instr × Nat) := [(0, .aload_n 0, 1), (1, .iconst 4, 1), (2, .putfield 136, 3), (5, .aload_n 0, 1), (6, .iload_n 3, 1), (7, .putfield 180, 3), (10, .aload_n 0, 1), (11, .aload_n 0, 1), (12, .getfield 54, 3), (15, .iload_n 1, 1), (16, .iaload, 1), (17, .putfield 183, 3), (20, .aload_n 0, 1), (21, .aload_n 0, 1), (22, .getfield 7, 3), (25, .aload_n 0, 1), (26, .getfield 57, 3), (29, .iload_n 1, 1), (30, .iaload, 1), (31, .imul, 1), (32, .iload_n 2, 1), (33, .iadd, 1), (34, .putfield 186, 3), (37, .aload_n 0, 1)]
theorem id_Mod_trap_0 : ∀ q ∈ it_Mod_trap_0, decode prog_13_method_39_code q.1 = .ok q.2 := by decide +kernel
theorem d_Mod_trap_0 : decode prog_13_method_39_code 0 = .ok (.aload_n 0, 1) := id_Mod_trap_0 (0, .aload_n 0, 1) (List.mem_of_getElem? (i := 0) rfl)
theorem d_Mod_trap_1 : decode prog_13_method_39_code 1 = .ok (.iconst 4, 1) := id_Mod_trap_0 (1, .iconst 4, 1) (List.mem_of_getElem? (i := 1) rfl)
theorem d_Mod_trap_2 : decode prog_13_method_39_code 2 = .ok (.putfield 136, 3) := id_Mod_trap_0 (2, .putfield 136, 3) (List.mem_of_getElem? (i := 2) rfl)
theorem d_Mod_trap_5 : decode prog_13_method_39_code 5 = .ok (.aload_n 0, 1) := id_Mod_trap_0 (5, .aload_n 0, 1) (List.mem_of_getElem? (i := 3) rfl)
theorem d_Mod_trap_6 : decode prog_13_method_39_code 6 = .ok (.iload_n 3, 1) := id_Mod_trap_0 (6, .iload_n 3, 1) (List.mem_of_getElem? (i := 4) rfl)
theorem d_Mod_trap_7 : decode prog_13_method_39_code 7 = .ok (.putfield 180, 3) := id_Mod_trap_0 (7, .putfield 180, 3) (List.mem_of_getElem? (i := 5) rfl)
theorem d_Mod_trap_10 : decode prog_13_method_39_code 10 = .ok (.aload_n 0, 1) := id_Mod_trap_0 (10, .aload_n 0, 1) (List.mem_of_getElem? (i := 6) rfl)
theorem d_Mod_trap_11 : decode prog_13_method_39_code 11 = .ok (.aload_n 0, 1) := id_Mod_trap_0 (11, .aload_n 0, 1) (List.mem_of_getElem? (i := 7) rfl)
theorem d_Mod_trap_12 : decode prog_13_method_39_code 12 = .ok (.getfield 54, 3) := id_Mod_trap_0 (12, .getfield 54, 3) (List.mem_of_getElem? (i := 8) rfl)
theorem d_Mod_trap_15 : decode prog_13_method_39_code 15 = .ok (.iload_n 1, 1) := id_Mod_trap_0 (15, .iload_n 1, 1) (List.mem_of_getElem? (i := 9) rfl)
theorem d_Mod_trap_16 : decode prog_13_method_39_code 16 = .ok (.iaload, 1) := id_Mod_trap_0 (16, .iaload, 1) (List.mem_of_getElem? (i := 10) rfl)
theorem d_Mod_trap_17 : decode prog_13_method_39_code 17 = .ok (.putfield 183, 3) := id_Mod_trap_0 (17, .putfield 183, 3) (List.mem_of_getElem? (i := 11) rfl)
theorem d_Mod_trap_20 : decode prog_13_method_39_code 20 = .ok (.aload_n 0, 1) := id_Mod_trap_0 (20, .aload_n 0, 1) (List.mem_of_getElem? (i := 12) rfl)
theorem d_Mod_trap_21 : decode prog_13_method_39_code 21 = .ok (.aload_n 0, 1) := id_Mod_trap_0 (21, .aload_n 0, 1) (List.mem_of_getElem? (i := 13) rfl)
theorem d_Mod_trap_22 : decode prog_13_method_39_code 22 = .ok (.getfield 7, 3) := id_Mod_trap_0 (22, .getfield 7, 3) (List.mem_of_getElem? (i := 14) rfl)
theorem d_Mod_trap_25 : decode prog_13_method_39_code 25 = .ok (.aload_n 0, 1) := id_Mod_trap_0 (25, .aload_n 0, 1) (List.mem_of_getElem? (i := 15) rfl)
theorem d_Mod_trap_26 : decode prog_13_method_39_code 26 = .ok (.getfield 57, 3) := id_Mod_trap_0 (26, .getfield 57, 3) (List.mem_of_getElem? (i := 16) rfl)
theorem d_Mod_trap_29 : decode prog_13_method_39_code 29 = .ok (.iload_n 1, 1) := id_Mod_trap_0 (29, .iload_n 1, 1) (List.mem_of_getElem? (i := 17) rfl)
theorem d_Mod_trap_30 : decode prog_13_method_39_code 30 = .ok (.iaload, 1) := id_Mod_trap_0 (30, .iaload, 1) (List.mem_of_getElem? (i := 18) rfl)
theorem d_Mod_trap_31 : decode prog_13_method_39_code 31 = .ok (.imul, 1) := id_Mod_trap_0 (31, .imul, 1) (List.mem_of_getElem? (i := 19) rfl)
theorem d_Mod_trap_32 : decode prog_13_method_39_code 32 = .ok (.iload_n 2, 1) := id_Mod_trap_0 (32, .iload_n 2, 1) (List.mem_of_getElem? (i := 20) rfl)
theorem d_Mod_trap_33 : decode prog_13_method_39_code 33 = .ok (.iadd, 1) := id_Mod_trap_0 (33, .iadd, 1) (List.mem_of_getElem? (i := 21) rfl)
theorem d_Mod_trap_34 : decode prog_13_method_39_code 34 = .ok (.putfield 186, 3) := id_Mod_trap_0 (34, .putfield 186, 3) (List.mem_of_getElem? (i := 22) rfl)
theorem d_Mod_trap_37 : decode prog_13_method_39_code 37 = .ok (.aload_n 0, 1) := id_Mod_trap_0 (37, .aload_n 0, 1) (List.mem_of_getElem? (i := 23) rfl)
def it_Mod_trap_1 : List (Nat × ClassFile.Instr × Nat) := [(38, .aload_n 0, 1), (39, .getfield 73, 3), (42, .iload_n 1, 1), (43, .iload_n 2, 1), (44, .invokestatic 211, 3), (47, .iaload, 1), (48, .putfield 189, 3), (51, .return_, 1)]
theorem id_Mod_trap_1 : ∀ q ∈ it_Mod_trap_1, decode prog_13_method_39_code q.1 = .ok q.2 := by decide +kernel
theorem d_Mod_trap_38 : decode prog_13_method_39_code 38 = .ok (.aload_n 0, 1) := id_Mod_trap_1 (38, .aload_n 0, 1) (List.mem_of_getElem? (i := 0) rfl)
theorem d_Mod_trap_39 : decode prog_13_method_39_code 39 = .ok (.getfield 73, 3) := id_Mod_trap_1 (39, .getfield 73, 3) (List.mem_of_getElem? (i := 1) rfl)
theorem d_Mod_trap_42 : decode prog_13_method_39_code 42 = .ok (.iload_n 1, 1) := id_Mod_trap_1 (42, .iload_n 1, 1) (List.mem_of_getElem? (i := 2) rfl)
theorem d_Mod_trap_43 : decode prog_13_method_39_code 43 = .ok (.iload_n 2, 1) := id_Mod_trap_1 (43, .iload_n 2, 1) (List.mem_of_getElem? (i := 3) rfl)
theorem d_Mod_trap_44 : decode prog_13_method_39_code 44 = .ok (.invokestatic 211, 3) := id_Mod_trap_1 (44, .invokestatic 211, 3) (List.mem_of_getElem? (i := 4) rfl)
theorem d_Mod_trap_47 : decode prog_13_method_39_code 47 = .ok (.iaload, 1) := id_Mod_trap_1 (47, .iaload, 1) (List.mem_of_getElem? (i := 5) rfl)
theorem d_Mod_trap_48 : decode prog_13_method_39_code 48 = .ok (.putfield 189, 3) := id_Mod_trap_1 (48, .putfield 189, 3) (List.mem_of_getElem? (i := 6) rfl)
theorem d_Mod_trap_51 : decode prog_13_method_39_code 51 = .ok (.return_, 1) := id_Mod_trap_1 (51, .return_, 1) (List.mem_of_getElem? (i := 7) rfl)
theorem wC_Mod_trap : Cond.code ⟨"WarpMillModel", "trap", "(III)V"⟩ prog_13_method_39_code 4 (none) ∈ lw_tb := mem_tb 1396 (by decide +kernel) rfl
theorem cw_Mod_trap_Mod_thread : cW mi_Mod_trap mi_Mod_thread 2 := ⟨wC_Mod_thread, wi_Mod, ⟨by decide, by decide, by decide +kernel⟩, by decide, by decide⟩
def f_Mod_trap (F : Nat) (x0 : Nat) (x1 : Int32) (x2 : Int32) (x3 : Int32) (h : Hp) : Option Hp := gd (hK h x0 = 12) <| pw (sI h 715 x0 (4 : Int32)) fun h_2_2 => pw (sI h_2_2 727 x0 x3) fun h_7 => rq h_7 (hR h_7 735 x0) 100 fun a_12 => ix x1 (hN h_7 a_12) fun j_16 => pw (sI h_7 728 x0 (hA h_7 a_12 j_16)) fun h_17 => rq h_17 (hR h_17 736 x0) 100 fun a_26 => ix x1 (hN h_17 a_26) fun j_30 => pw (sI h_17 729 x0 (((hI h_17 705 x0) * (hA h_17 a_26 j_30)) + x2)) fun h_34 => rq h_34 (hR h_34 741 x0) 100 fun a_39 => cl (f_Mod_thread F x1 x2 h_34) fun v_44 h_44 => gd (hK h_44 a_39 = 100) <| ix v_44 (hN h_44 a_39) fun j_47_2 => gd (hK h_44 x0 = 12) <| pw (sI h_44 730 x0 (hA h_44 a_39 j_47_2)) fun h_48_2 => some h_48_2
set_option maxRecDepth 100000 in
set_option maxHeartbeats 4000000 in
theorem e_Mod_trap {G : Gl} (hw : gF G) {F : Nat} {h' : Hp} {x0 : Nat} {x1 : Int32} {x2 : Int32} {x3 : Int32} {h : Hp} (hf : f_Mod_trap F x0 x1 x2 x3 h = some h') : Ex G mi_Mod_trap [.ref x0, .int x1, .int x2, .int x3] h (pV h') := by
  unfold f_Mod_trap at hf
  refine Ex.of nmV (by decide) (Nat.le_of_ble_eq_true rfl) ?_
  show Go G mi_Mod_trap h _ h 0 [(0, .ref x0), (1, .int x1), (2, .int x2), (3, .int x3)] []
  refine g_aload_n d_Mod_trap_0 rfl ?_
  refine g_iconst 4 d_Mod_trap_1 (by decide) ?_
  obtain ⟨k_2, hf⟩ := gd_s hf
  refine fp_Mod_status hw lf_Mod_136 d_Mod_trap_2 k_2 ?_
  have hf := pw_b hf
  refine g_aload_n d_Mod_trap_5 rfl ?_
  refine g_iload_n d_Mod_trap_6 rfl ?_
  refine fp_Mod_why hw lf_Mod_180 d_Mod_trap_7 (kksI k_2) ?_
  have hf := pw_b hf
  refine g_aload_n d_Mod_trap_10 rfl ?_
  refine g_aload_n d_Mod_trap_11 rfl ?_
  obtain ⟨a_12, e_12, k_12, hf⟩ := rq_s hf
  refine fgs_Mod_slotBlock lf_Mod_54 d_Mod_trap_12 (kksI (kksI k_2)) e_12 ?_
  refine g_iload_n d_Mod_trap_15 rfl ?_
  obtain ⟨i_16, hf⟩ := ix_s hf
  refine g_iald k_12 i_16 d_Mod_trap_16 ?_
  refine fp_Mod_whyBlock hw lf_Mod_183 d_Mod_trap_17 (kksI (kksI k_2)) ?_
  have hf := pw_b hf
  refine g_aload_n d_Mod_trap_20 rfl ?_
  refine g_aload_n d_Mod_trap_21 rfl ?_
  refine fg_Mod_lanes lf_Mod_7 d_Mod_trap_22 (kksI (kksI (kksI k_2))) ?_
  refine g_aload_n d_Mod_trap_25 rfl ?_
  obtain ⟨a_26, e_26, k_26, hf⟩ := rq_s hf
  refine fgs_Mod_slotWarp lf_Mod_57 d_Mod_trap_26 (kksI (kksI (kksI k_2))) e_26 ?_
  refine g_iload_n d_Mod_trap_29 rfl ?_
  obtain ⟨i_30, hf⟩ := ix_s hf
  refine g_iald k_26 i_30 d_Mod_trap_30 ?_
  refine g_imul d_Mod_trap_31 ?_
  refine g_iload_n d_Mod_trap_32 rfl ?_
  refine g_iadd d_Mod_trap_33 ?_
  refine fp_Mod_whyThread hw lf_Mod_186 d_Mod_trap_34 (kksI (kksI (kksI k_2))) ?_
  have hf := pw_b hf
  refine g_aload_n d_Mod_trap_37 rfl ?_
  refine g_aload_n d_Mod_trap_38 rfl ?_
  obtain ⟨a_39, e_39, k_39, hf⟩ := rq_s hf
  refine fgs_Mod_place lf_Mod_73 d_Mod_trap_39 (kksI (kksI (kksI (kksI k_2)))) e_39 ?_
  refine g_iload_n d_Mod_trap_42 rfl ?_
  refine g_iload_n d_Mod_trap_43 rfl ?_
  obtain ⟨v_44, h_44, e_44, hf⟩ := cl_s hf
  refine g_callS (mz := mi_Mod_thread) (e_Mod_thread e_44) cw_Mod_trap_Mod_thread lm_Mod_211 wS_Mod_thread d_Mod_trap_44 rfl rfl (by first | exact Nat.le_of_ble_eq_true rfl | simp [cat_rf, Value.category]) (fun r1 h1 hp hro => ?_)
  obtain ⟨rfl, rfl⟩ := hp
  dsimp only [Option.toList_some, Option.toList_none, List.cons_append, List.nil_append]
  obtain ⟨k_47, hf⟩ := gd_s hf
  obtain ⟨i_47_2, hf⟩ := ix_s hf
  refine g_iald k_47 i_47_2 d_Mod_trap_47 ?_
  obtain ⟨k_48, hf⟩ := gd_s hf
  refine fp_Mod_whyPlace hw lf_Mod_189 d_Mod_trap_48 k_48 ?_
  have hf := pw_b hf
  exact Go.ret none trivial rfl d_Mod_trap_51 (pV_of hf)
abbrev mi_Mod_has : MI := (⟨"WarpMillModel", "has", "(II)Z"⟩, prog_13_method_37_code, 3, some .boolean, 0, 0)
def it_Mod_has_0 : List (Nat × ClassFile.Instr × Nat) := [(0, .aload_n 0, 1), (1, .getfield 70, 3), (4, .iload_n 1, 1), (5, .iaload, 1), (6, .iload_n 2, 1), (7, .iconst 3, 1), (8, .iand, 1), (9, .ishr, 1), (10, .iconst 1, 1), (11, .iand, 1), (12, .iconst 1, 1), (13, .if_icmp .ne (7), 3), (16, .iconst 1, 1), (17, .goto (4), 3), (20, .iconst 0, 1), (21, .ireturn, 1)]
theorem id_Mod_has_0 : ∀ q ∈ it_Mod_has_0, decode prog_13_method_37_code q.1 = .ok q.2 := by decide +kernel
theorem d_Mod_has_0 : decode prog_13_method_37_code 0 = .ok (.aload_n 0, 1) := id_Mod_has_0 (0, .aload_n 0, 1) (List.mem_of_getElem? (i := 0) rfl)
theorem d_Mod_has_1 : decode prog_13_method_37_code 1 = .ok (.getfield 70, 3) := id_Mod_has_0 (1, .getfield 70, 3) (List.mem_of_getElem? (i := 1) rfl)
theorem d_Mod_has_4 : decode prog_13_method_37_code 4 = .ok (.iload_n 1, 1) := id_Mod_has_0 (4, .iload_n 1, 1) (List.mem_of_getElem? (i := 2) rfl)
theorem d_Mod_has_5 : decode prog_13_method_37_code 5 = .ok (.iaload, 1) := id_Mod_has_0 (5, .iaload, 1) (List.mem_of_getElem? (i := 3) rfl)
theorem d_Mod_has_6 : decode prog_13_method_37_code 6 = .ok (.iload_n 2, 1) := id_Mod_has_0 (6, .iload_n 2, 1) (List.mem_of_getElem? (i := 4) rfl)
theorem d_Mod_has_7 : decode prog_13_method_37_code 7 = .ok (.iconst 3, 1) := id_Mod_has_0 (7, .iconst 3, 1) (List.mem_of_getElem? (i := 5) rfl)
theorem d_Mod_has_8 : decode prog_13_method_37_code 8 = .ok (.iand, 1) := id_Mod_has_0 (8, .iand, 1) (List.mem_of_getElem? (i := 6) rfl)
theorem d_Mod_has_9 : decode prog_13_method_37_code 9 = .ok (.ishr, 1) := id_Mod_has_0 (9, .ishr, 1) (List.mem_of_getElem? (i := 7) rfl)
theorem d_Mod_has_10 : decode prog_13_method_37_code 10 = .ok (.iconst 1, 1) := id_Mod_has_0 (10, .iconst 1, 1) (List.mem_of_getElem? (i := 8) rfl)
theorem d_Mod_has_11 : decode prog_13_method_37_code 11 = .ok (.iand, 1) := id_Mod_has_0 (11, .iand, 1) (List.mem_of_getElem? (i := 9) rfl)
theorem d_Mod_has_12 : decode prog_13_method_37_code 12 = .ok (.iconst 1, 1) := id_Mod_has_0 (12, .iconst 1, 1) (List.mem_of_getElem? (i := 10) rfl)
theorem d_Mod_has_13 : decode prog_13_method_37_code 13 = .ok (.if_icmp .ne (7), 3) := id_Mod_has_0 (13, .if_icmp .ne (7), 3) (List.mem_of_getElem? (i := 11) rfl)
theorem d_Mod_has_16 : decode prog_13_method_37_code 16 = .ok (.iconst 1, 1) := id_Mod_has_0 (16, .iconst 1, 1) (List.mem_of_getElem? (i := 12) rfl)
theorem d_Mod_has_17 : decode prog_13_method_37_code 17 = .ok (.goto (4), 3) := id_Mod_has_0 (17, .goto (4), 3) (List.mem_of_getElem? (i := 13) rfl)
theorem d_Mod_has_20 : decode prog_13_method_37_code 20 = .ok (.iconst 0, 1) := id_Mod_has_0 (20, .iconst 0, 1) (List.mem_of_getElem? (i := 14) rfl)
theorem d_Mod_has_21 : decode prog_13_method_37_code 21 = .ok (.ireturn, 1) := id_Mod_has_0 (21, .ireturn, 1) (List.mem_of_getElem? (i := 15) rfl)
theorem wC_Mod_has : Cond.code ⟨"WarpMillModel", "has", "(II)Z"⟩ prog_13_method_37_code 3 (some .boolean) ∈ lw_tb := mem_tb 1400 (by decide +kernel) rfl
def f_Mod_has (F : Nat) (x0 : Nat) (x1 : Int32) (x2 : Int32) (h : Hp) : Option (Int32 × Hp) := gd (hK h x0 = 12) <| rq h (hR h 740 x0) 100 fun a_1_2 => ix x1 (hN h a_1_2) fun j_5 => if (((hA h a_1_2 j_5) >>> ((x2 &&& (3 : Int32)) &&& 31)) &&& (1 : Int32)) = (1 : Int32) then (some ((1 : Int32), h)) else (some ((0 : Int32), h))
set_option maxRecDepth 100000 in
set_option maxHeartbeats 4000000 in
theorem e_Mod_has {G : Gl} {F : Nat} {r : Int32} {h' : Hp} {x0 : Nat} {x1 : Int32} {x2 : Int32} {h : Hp} (hf : f_Mod_has F x0 x1 x2 h = some (r, h')) : Ex G mi_Mod_has [.ref x0, .int x1, .int x2] h (pI r h') := by
  unfold f_Mod_has at hf
  refine Ex.of nmI (by decide) (Nat.le_of_ble_eq_true rfl) ?_
  show Go G mi_Mod_has h _ h 0 [(0, .ref x0), (1, .int x1), (2, .int x2)] []
  refine g_aload_n d_Mod_has_0 rfl ?_
  obtain ⟨k_1, hf⟩ := gd_s hf
  obtain ⟨a_1_2, e_1_2, k_1_2, hf⟩ := rq_s hf
  refine fgs_Mod_predicate lf_Mod_70 d_Mod_has_1 k_1 e_1_2 ?_
  refine g_iload_n d_Mod_has_4 rfl ?_
  obtain ⟨i_5, hf⟩ := ix_s hf
  refine g_iald k_1_2 i_5 d_Mod_has_5 ?_
  refine g_iload_n d_Mod_has_6 rfl ?_
  refine g_iconst 3 d_Mod_has_7 (by decide) ?_
  refine g_iand d_Mod_has_8 ?_
  refine g_ishr d_Mod_has_9 ?_
  refine g_iconst 1 d_Mod_has_10 (by decide) ?_
  refine g_iand d_Mod_has_11 ?_
  refine g_iconst 1 d_Mod_has_12 (by decide) ?_
  refine g_icmp_ne 20 d_Mod_has_13 (by decide) (fun c_13 => ?_) (fun c_13 => ?_)
  · have hf := ifn hf c_13
    refine g_iconst 0 d_Mod_has_20 (by decide) ?_
    exact Go.ret (some _) rOk_b0 rfl d_Mod_has_21 (pI_of hf)
  · have hf := ifp hf c_13
    refine g_iconst 1 d_Mod_has_16 (by decide) ?_
    refine g_goto 21 d_Mod_has_17 (by decide) ?_
    exact Go.ret (some _) rOk_b1 rfl d_Mod_has_21 (pI_of hf)
abbrev mi_Mod_reg : MI := (⟨"WarpMillModel", "reg", "(II)I"⟩, prog_13_method_36_code, 3, some .int, 0, 0)
def it_Mod_reg_0 : List (Nat × ClassFile.Instr × Nat) := [(0, .aload_n 0, 1), (1, .getfield 67, 3), (4, .bipush (16), 2), (6, .iload_n 1, 1), (7, .imul, 1), (8, .iload_n 2, 1), (9, .iadd, 1), (10, .iaload, 1), (11, .ireturn, 1)]
theorem id_Mod_reg_0 : ∀ q ∈ it_Mod_reg_0, decode prog_13_method_36_code q.1 = .ok q.2 := by decide +kernel
theorem d_Mod_reg_0 : decode prog_13_method_36_code 0 = .ok (.aload_n 0, 1) := id_Mod_reg_0 (0, .aload_n 0, 1) (List.mem_of_getElem? (i := 0) rfl)
theorem d_Mod_reg_1 : decode prog_13_method_36_code 1 = .ok (.getfield 67, 3) := id_Mod_reg_0 (1, .getfield 67, 3) (List.mem_of_getElem? (i := 1) rfl)
theorem d_Mod_reg_4 : decode prog_13_method_36_code 4 = .ok (.bipush (16), 2) := id_Mod_reg_0 (4, .bipush (16), 2) (List.mem_of_getElem? (i := 2) rfl)
theorem d_Mod_reg_6 : decode prog_13_method_36_code 6 = .ok (.iload_n 1, 1) := id_Mod_reg_0 (6, .iload_n 1, 1) (List.mem_of_getElem? (i := 3) rfl)
theorem d_Mod_reg_7 : decode prog_13_method_36_code 7 = .ok (.imul, 1) := id_Mod_reg_0 (7, .imul, 1) (List.mem_of_getElem? (i := 4) rfl)
theorem d_Mod_reg_8 : decode prog_13_method_36_code 8 = .ok (.iload_n 2, 1) := id_Mod_reg_0 (8, .iload_n 2, 1) (List.mem_of_getElem? (i := 5) rfl)
theorem d_Mod_reg_9 : decode prog_13_method_36_code 9 = .ok (.iadd, 1) := id_Mod_reg_0 (9, .iadd, 1) (List.mem_of_getElem? (i := 6) rfl)
theorem d_Mod_reg_10 : decode prog_13_method_36_code 10 = .ok (.iaload, 1) := id_Mod_reg_0 (10, .iaload, 1) (List.mem_of_getElem? (i := 7) rfl)
theorem d_Mod_reg_11 : decode prog_13_method_36_code 11 = .ok (.ireturn, 1) := id_Mod_reg_0 (11, .ireturn, 1) (List.mem_of_getElem? (i := 8) rfl)
theorem wC_Mod_reg : Cond.code ⟨"WarpMillModel", "reg", "(II)I"⟩ prog_13_method_36_code 3 (some .int) ∈ lw_tb := mem_tb 1408 (by decide +kernel) rfl
def f_Mod_reg (F : Nat) (x0 : Nat) (x1 : Int32) (x2 : Int32) (h : Hp) : Option (Int32 × Hp) := gd (hK h x0 = 12) <| rq h (hR h 739 x0) 100 fun a_1_2 => ix (((16 : Int32) * x1) + x2) (hN h a_1_2) fun j_10 => some ((hA h a_1_2 j_10), h)
set_option maxRecDepth 100000 in
set_option maxHeartbeats 4000000 in
theorem e_Mod_reg {G : Gl} {F : Nat} {r : Int32} {h' : Hp} {x0 : Nat} {x1 : Int32} {x2 : Int32} {h : Hp} (hf : f_Mod_reg F x0 x1 x2 h = some (r, h')) : Ex G mi_Mod_reg [.ref x0, .int x1, .int x2] h (pI r h') := by
  unfold f_Mod_reg at hf
  refine Ex.of nmI (by decide) (Nat.le_of_ble_eq_true rfl) ?_
  show Go G mi_Mod_reg h _ h 0 [(0, .ref x0), (1, .int x1), (2, .int x2)] []
  refine g_aload_n d_Mod_reg_0 rfl ?_
  obtain ⟨k_1, hf⟩ := gd_s hf
  obtain ⟨a_1_2, e_1_2, k_1_2, hf⟩ := rq_s hf
  refine fgs_Mod_register lf_Mod_67 d_Mod_reg_1 k_1 e_1_2 ?_
  refine g_bipush (16) d_Mod_reg_4 (by decide) ?_
  refine g_iload_n d_Mod_reg_6 rfl ?_
  refine g_imul d_Mod_reg_7 ?_
  refine g_iload_n d_Mod_reg_8 rfl ?_
  refine g_iadd d_Mod_reg_9 ?_
  obtain ⟨i_10, hf⟩ := ix_s hf
  refine g_iald k_1_2 i_10 d_Mod_reg_10 ?_
  exact Go.ret (some _) (rOk_i _) rfl d_Mod_reg_11 (pI_of hf)
abbrev mi_Mod_whyNot : MI := (⟨"WarpMillModel", "whyNot", "(I)I"⟩, prog_13_method_38_code, 3, some .int, 1, 22)
def it_Mod_whyNot_0 : List (Nat × ClassFile.Instr × Nat) := [(0, .aload_n 0, 1), (1, .getfield 220, 3), (4, .bipush (7), 2), (6, .if_icmp .eq (12), 3), (9, .aload_n 0, 1), (10, .getfield 220, 3), (13, .bipush (8), 2), (15, .if_icmp .ne (17), 3), (18, .aload_n 0, 1), (19, .iload_n 1, 1), (20, .aload_n 0, 1), (21, .getfield 231, 3), (24, .invokevirtual 284, 3), (27, .ifCond .ne (5), 3), (30, .iconst 3, 1), (31, .ireturn, 1), (32, .aload_n 0, 1), (33, .iload_n 1, 1), (34, .aload_n 0, 1), (35, .getfield 228, 3), (38, .invokevirtual 284, 3), (41, .aload_n 0, 1), (42, .getfield 237, 3), (45, .iadd, 1)]
theorem id_Mod_whyNot_0 : ∀ q ∈ it_Mod_whyNot_0, decode prog_13_method_38_code q.1 = .ok q.2 := by decide +kernel
theorem d_Mod_whyNot_0 : decode prog_13_method_38_code 0 = .ok (.aload_n 0, 1) := id_Mod_whyNot_0 (0, .aload_n 0, 1) (List.mem_of_getElem? (i := 0) rfl)
theorem d_Mod_whyNot_1 : decode prog_13_method_38_code 1 = .ok (.getfield 220, 3) := id_Mod_whyNot_0 (1, .getfield 220, 3) (List.mem_of_getElem? (i := 1) rfl)
theorem d_Mod_whyNot_4 : decode prog_13_method_38_code 4 = .ok (.bipush (7), 2) := id_Mod_whyNot_0 (4, .bipush (7), 2) (List.mem_of_getElem? (i := 2) rfl)
theorem d_Mod_whyNot_6 : decode prog_13_method_38_code 6 = .ok (.if_icmp .eq (12), 3) := id_Mod_whyNot_0 (6, .if_icmp .eq (12), 3) (List.mem_of_getElem? (i := 3) rfl)
theorem d_Mod_whyNot_9 : decode prog_13_method_38_code 9 = .ok (.aload_n 0, 1) := id_Mod_whyNot_0 (9, .aload_n 0, 1) (List.mem_of_getElem? (i := 4) rfl)
theorem d_Mod_whyNot_10 : decode prog_13_method_38_code 10 = .ok (.getfield 220, 3) := id_Mod_whyNot_0 (10, .getfield 220, 3) (List.mem_of_getElem? (i := 5) rfl)
theorem d_Mod_whyNot_13 : decode prog_13_method_38_code 13 = .ok (.bipush (8), 2) := id_Mod_whyNot_0 (13, .bipush (8), 2) (List.mem_of_getElem? (i := 6) rfl)
theorem d_Mod_whyNot_15 : decode prog_13_method_38_code 15 = .ok (.if_icmp .ne (17), 3) := id_Mod_whyNot_0 (15, .if_icmp .ne (17), 3) (List.mem_of_getElem? (i := 7) rfl)
theorem d_Mod_whyNot_18 : decode prog_13_method_38_code 18 = .ok (.aload_n 0, 1) := id_Mod_whyNot_0 (18, .aload_n 0, 1) (List.mem_of_getElem? (i := 8) rfl)
theorem d_Mod_whyNot_19 : decode prog_13_method_38_code 19 = .ok (.iload_n 1, 1) := id_Mod_whyNot_0 (19, .iload_n 1, 1) (List.mem_of_getElem? (i := 9) rfl)
theorem d_Mod_whyNot_20 : decode prog_13_method_38_code 20 = .ok (.aload_n 0, 1) := id_Mod_whyNot_0 (20, .aload_n 0, 1) (List.mem_of_getElem? (i := 10) rfl)
theorem d_Mod_whyNot_21 : decode prog_13_method_38_code 21 = .ok (.getfield 231, 3) := id_Mod_whyNot_0 (21, .getfield 231, 3) (List.mem_of_getElem? (i := 11) rfl)
theorem d_Mod_whyNot_24 : decode prog_13_method_38_code 24 = .ok (.invokevirtual 284, 3) := id_Mod_whyNot_0 (24, .invokevirtual 284, 3) (List.mem_of_getElem? (i := 12) rfl)
theorem d_Mod_whyNot_27 : decode prog_13_method_38_code 27 = .ok (.ifCond .ne (5), 3) := id_Mod_whyNot_0 (27, .ifCond .ne (5), 3) (List.mem_of_getElem? (i := 13) rfl)
theorem d_Mod_whyNot_30 : decode prog_13_method_38_code 30 = .ok (.iconst 3, 1) := id_Mod_whyNot_0 (30, .iconst 3, 1) (List.mem_of_getElem? (i := 14) rfl)
theorem d_Mod_whyNot_31 : decode prog_13_method_38_code 31 = .ok (.ireturn, 1) := id_Mod_whyNot_0 (31, .ireturn, 1) (List.mem_of_getElem? (i := 15) rfl)
theorem d_Mod_whyNot_32 : decode prog_13_method_38_code 32 = .ok (.aload_n 0, 1) := id_Mod_whyNot_0 (32, .aload_n 0, 1) (List.mem_of_getElem? (i := 16) rfl)
theorem d_Mod_whyNot_33 : decode prog_13_method_38_code 33 = .ok (.iload_n 1, 1) := id_Mod_whyNot_0 (33, .iload_n 1, 1) (List.mem_of_getElem? (i := 17) rfl)
theorem d_Mod_whyNot_34 : decode prog_13_method_38_code 34 = .ok (.aload_n 0, 1) := id_Mod_whyNot_0 (34, .aload_n 0, 1) (List.mem_of_getElem? (i := 18) rfl)
theorem d_Mod_whyNot_35 : decode prog_13_method_38_code 35 = .ok (.getfield 228, 3) := id_Mod_whyNot_0 (35, .getfield 228, 3) (List.mem_of_getElem? (i := 19) rfl)
theorem d_Mod_whyNot_38 : decode prog_13_method_38_code 38 = .ok (.invokevirtual 284, 3) := id_Mod_whyNot_0 (38, .invokevirtual 284, 3) (List.mem_of_getElem? (i := 20) rfl)
theorem d_Mod_whyNot_41 : decode prog_13_method_38_code 41 = .ok (.aload_n 0, 1) := id_Mod_whyNot_0 (41, .aload_n 0, 1) (List.mem_of_getElem? (i := 21) rfl)
theorem d_Mod_whyNot_42 : decode prog_13_method_38_code 42 = .ok (.getfield 237, 3) := id_Mod_whyNot_0 (42, .getfield 237, 3) (List.mem_of_getElem? (i := 22) rfl)
theorem d_Mod_whyNot_45 : decode prog_13_method_38_code 45 = .ok (.iadd, 1) := id_Mod_whyNot_0 (45, .iadd, 1) (List.mem_of_getElem? (i := 23) rfl)
def it_Mod_whyNot_1 : List (Nat × ClassFile.Instr × Nat) := [(46, .istore_n 2, 1), (47, .aload_n 0, 1), (48, .invokevirtual 240, 3), (51, .ifCond .eq (31), 3), (54, .iload_n 2, 1), (55, .ifCond .lt (23), 3), (58, .iload_n 2, 1), (59, .aload_n 0, 1), (60, .invokevirtual 275, 3), (63, .ifCond .eq (8), 3), (66, .bipush (64), 2), (68, .goto (7), 3), (71, .aload_n 0, 1), (72, .getfield 25, 3), (75, .if_icmp .lt (7), 3), (78, .iconst 4, 1), (79, .goto (4), 3), (82, .iconst 0, 1), (83, .ireturn, 1)]
theorem id_Mod_whyNot_1 : ∀ q ∈ it_Mod_whyNot_1, decode prog_13_method_38_code q.1 = .ok q.2 := by decide +kernel
theorem d_Mod_whyNot_46 : decode prog_13_method_38_code 46 = .ok (.istore_n 2, 1) := id_Mod_whyNot_1 (46, .istore_n 2, 1) (List.mem_of_getElem? (i := 0) rfl)
theorem d_Mod_whyNot_47 : decode prog_13_method_38_code 47 = .ok (.aload_n 0, 1) := id_Mod_whyNot_1 (47, .aload_n 0, 1) (List.mem_of_getElem? (i := 1) rfl)
theorem d_Mod_whyNot_48 : decode prog_13_method_38_code 48 = .ok (.invokevirtual 240, 3) := id_Mod_whyNot_1 (48, .invokevirtual 240, 3) (List.mem_of_getElem? (i := 2) rfl)
theorem d_Mod_whyNot_51 : decode prog_13_method_38_code 51 = .ok (.ifCond .eq (31), 3) := id_Mod_whyNot_1 (51, .ifCond .eq (31), 3) (List.mem_of_getElem? (i := 3) rfl)
theorem d_Mod_whyNot_54 : decode prog_13_method_38_code 54 = .ok (.iload_n 2, 1) := id_Mod_whyNot_1 (54, .iload_n 2, 1) (List.mem_of_getElem? (i := 4) rfl)
theorem d_Mod_whyNot_55 : decode prog_13_method_38_code 55 = .ok (.ifCond .lt (23), 3) := id_Mod_whyNot_1 (55, .ifCond .lt (23), 3) (List.mem_of_getElem? (i := 5) rfl)
theorem d_Mod_whyNot_58 : decode prog_13_method_38_code 58 = .ok (.iload_n 2, 1) := id_Mod_whyNot_1 (58, .iload_n 2, 1) (List.mem_of_getElem? (i := 6) rfl)
theorem d_Mod_whyNot_59 : decode prog_13_method_38_code 59 = .ok (.aload_n 0, 1) := id_Mod_whyNot_1 (59, .aload_n 0, 1) (List.mem_of_getElem? (i := 7) rfl)
theorem d_Mod_whyNot_60 : decode prog_13_method_38_code 60 = .ok (.invokevirtual 275, 3) := id_Mod_whyNot_1 (60, .invokevirtual 275, 3) (List.mem_of_getElem? (i := 8) rfl)
theorem d_Mod_whyNot_63 : decode prog_13_method_38_code 63 = .ok (.ifCond .eq (8), 3) := id_Mod_whyNot_1 (63, .ifCond .eq (8), 3) (List.mem_of_getElem? (i := 9) rfl)
theorem d_Mod_whyNot_66 : decode prog_13_method_38_code 66 = .ok (.bipush (64), 2) := id_Mod_whyNot_1 (66, .bipush (64), 2) (List.mem_of_getElem? (i := 10) rfl)
theorem d_Mod_whyNot_68 : decode prog_13_method_38_code 68 = .ok (.goto (7), 3) := id_Mod_whyNot_1 (68, .goto (7), 3) (List.mem_of_getElem? (i := 11) rfl)
theorem d_Mod_whyNot_71 : decode prog_13_method_38_code 71 = .ok (.aload_n 0, 1) := id_Mod_whyNot_1 (71, .aload_n 0, 1) (List.mem_of_getElem? (i := 12) rfl)
theorem d_Mod_whyNot_72 : decode prog_13_method_38_code 72 = .ok (.getfield 25, 3) := id_Mod_whyNot_1 (72, .getfield 25, 3) (List.mem_of_getElem? (i := 13) rfl)
theorem d_Mod_whyNot_75 : decode prog_13_method_38_code 75 = .ok (.if_icmp .lt (7), 3) := id_Mod_whyNot_1 (75, .if_icmp .lt (7), 3) (List.mem_of_getElem? (i := 14) rfl)
theorem d_Mod_whyNot_78 : decode prog_13_method_38_code 78 = .ok (.iconst 4, 1) := id_Mod_whyNot_1 (78, .iconst 4, 1) (List.mem_of_getElem? (i := 15) rfl)
theorem d_Mod_whyNot_79 : decode prog_13_method_38_code 79 = .ok (.goto (4), 3) := id_Mod_whyNot_1 (79, .goto (4), 3) (List.mem_of_getElem? (i := 16) rfl)
theorem d_Mod_whyNot_82 : decode prog_13_method_38_code 82 = .ok (.iconst 0, 1) := id_Mod_whyNot_1 (82, .iconst 0, 1) (List.mem_of_getElem? (i := 17) rfl)
theorem d_Mod_whyNot_83 : decode prog_13_method_38_code 83 = .ok (.ireturn, 1) := id_Mod_whyNot_1 (83, .ireturn, 1) (List.mem_of_getElem? (i := 18) rfl)
theorem wC_Mod_whyNot : Cond.code ⟨"WarpMillModel", "whyNot", "(I)I"⟩ prog_13_method_38_code 3 (some .int) ∈ lw_tb := mem_tb 1404 (by decide +kernel) rfl
theorem cw_Mod_whyNot_Mod_reg : cW mi_Mod_whyNot mi_Mod_reg 2 := ⟨wC_Mod_reg, wi_Mod, ⟨by decide, by decide, by decide +kernel⟩, by decide, by decide⟩
theorem cw_Mod_whyNot_Mod_isMemory : cW mi_Mod_whyNot mi_Mod_isMemory 0 := ⟨wC_Mod_isMemory, wi_Mod, ⟨by decide, by decide, by decide +kernel⟩, by decide, by decide⟩
theorem cw_Mod_whyNot_Mod_isShared : cW mi_Mod_whyNot mi_Mod_isShared 0 := ⟨wC_Mod_isShared, wi_Mod, ⟨by decide, by decide, by decide +kernel⟩, by decide, by decide⟩
def b_Mod_whyNot_78 (F : Nat)  (h : Hp) : Option (Int32 × Hp) := some ((4 : Int32), h)
set_option maxRecDepth 100000 in
set_option maxHeartbeats 4000000 in
theorem e_Mod_whyNot_78 {G : Gl} {h0 : Hp} {F : Nat} {r : Int32} {h' : Hp}    {h : Hp} (hf : b_Mod_whyNot_78 F  h = some (r, h')) : Go G mi_Mod_whyNot h0 (pI r h') h 78 [] [] := by
  unfold b_Mod_whyNot_78 at hf
  refine g_iconst 4 d_Mod_whyNot_78 (by decide) ?_
  refine g_goto 83 d_Mod_whyNot_79 (by decide) ?_
  exact Go.ret (some _) (rOk_i _) rfl d_Mod_whyNot_83 (pI_of hf)
def b_Mod_whyNot_75 (F : Nat) (s0 : Int32) (s1 : Int32) (h : Hp) : Option (Int32 × Hp) := if s0 < s1 then (some ((0 : Int32), h)) else (b_Mod_whyNot_78 F h)
set_option maxRecDepth 100000 in
set_option maxHeartbeats 4000000 in
theorem e_Mod_whyNot_75 {G : Gl} {h0 : Hp} {F : Nat} {r : Int32} {h' : Hp}   {s0 : Int32} {s1 : Int32} {h : Hp} (hf : b_Mod_whyNot_75 F s0 s1 h = some (r, h')) : Go G mi_Mod_whyNot h0 (pI r h') h 75 [] [.int s1, .int s0] := by
  unfold b_Mod_whyNot_75 at hf
  refine g_icmp_lt 82 d_Mod_whyNot_75 (by decide) (fun c_75 => ?_) (fun c_75 => ?_)
  · have hf := ifp hf c_75
    refine g_iconst 0 d_Mod_whyNot_82 (by decide) ?_
    exact Go.ret (some _) (rOk_i _) rfl d_Mod_whyNot_83 (pI_of hf)
  · have hf := ifn hf c_75
    have key := e_Mod_whyNot_78 (G := G) (h0 := h0)  hf
    exact key
def b_Mod_whyNot_32 (F : Nat) (x0 : Nat) (x1 : Int32) (h : Hp) : Option (Int32 × Hp) := gd (hK h x0 = 12) <| cl (f_Mod_reg F x0 x1 (hI h 758 x0) h) fun v_38 h_38 => gd (hK h_38 x0 = 12) <| cl (f_Mod_isMemory F x0 h_38) fun v_48 h_48 => if v_48 = 0 then (some ((0 : Int32), h_48)) else (if (v_38 + (hI h_38 761 x0)) < 0 then (b_Mod_whyNot_78 F h_48) else (gd (hK h_48 x0 = 12) <| cl (f_Mod_isShared F x0 h_48) fun v_60_2 h_60_2 => if v_60_2 = 0 then (gd (hK h_60_2 x0 = 12) <| b_Mod_whyNot_75 F (v_38 + (hI h_38 761 x0)) (hI h_60_2 710 x0) h_60_2) else (b_Mod_whyNot_75 F (v_38 + (hI h_38 761 x0)) (64 : Int32) h_60_2)))
set_option maxRecDepth 100000 in
set_option maxHeartbeats 4000000 in
theorem e_Mod_whyNot_32 {G : Gl} {h0 : Hp} {F : Nat} {r : Int32} {h' : Hp}   {x0 : Nat} {x1 : Int32} {h : Hp} (hf : b_Mod_whyNot_32 F x0 x1 h = some (r, h')) : Go G mi_Mod_whyNot h0 (pI r h') h 32 [(0, .ref x0), (1, .int x1)] [] := by
  unfold b_Mod_whyNot_32 at hf
  refine g_aload_n d_Mod_whyNot_32 rfl ?_
  refine g_iload_n d_Mod_whyNot_33 rfl ?_
  refine g_aload_n d_Mod_whyNot_34 rfl ?_
  obtain ⟨k_35, hf⟩ := gd_s hf
  refine fg_Mod_a lf_Mod_228 d_Mod_whyNot_35 k_35 ?_
  obtain ⟨v_38, h_38, e_38, hf⟩ := cl_s hf
  refine g_callV (mz := mi_Mod_reg) (e_Mod_reg e_38) cw_Mod_whyNot_Mod_reg lm_Mod_284 wI_Mod_reg wV_Mod_reg (ci := 11) k_35 (by decide) rfl rfl d_Mod_whyNot_38 rfl rfl (by first | exact Nat.le_of_ble_eq_true rfl | simp [cat_rf, Value.category]) (fun r1 h1 hp hro => ?_)
  obtain ⟨rfl, rfl⟩ := hp
  dsimp only [Option.toList_some, Option.toList_none, List.cons_append, List.nil_append]
  refine g_aload_n d_Mod_whyNot_41 rfl ?_
  obtain ⟨k_42, hf⟩ := gd_s hf
  refine fg_Mod_n lf_Mod_237 d_Mod_whyNot_42 k_42 ?_
  refine g_iadd d_Mod_whyNot_45 ?_
  refine g_istore_n d_Mod_whyNot_46 (by decide) ?_
  show Go _ _ _ _ _ _ [(0, _), (1, _), (2, _)] _
  refine g_aload_n d_Mod_whyNot_47 rfl ?_
  obtain ⟨v_48, h_48, e_48, hf⟩ := cl_s hf
  refine g_callV (mz := mi_Mod_isMemory) (e_Mod_isMemory e_48) cw_Mod_whyNot_Mod_isMemory lm_Mod_240 wI_Mod_isMemory wV_Mod_isMemory (ci := 11) k_42 (by decide) rfl rfl d_Mod_whyNot_48 rfl rfl (by first | exact Nat.le_of_ble_eq_true rfl | simp [cat_rf, Value.category]) (fun r1 h1 hp hro => ?_)
  obtain ⟨rfl, rfl⟩ := hp
  dsimp only [Option.toList_some, Option.toList_none, List.cons_append, List.nil_append]
  refine g_if_eq 82 d_Mod_whyNot_51 (by decide) (fun c_51 => ?_) (fun c_51 => ?_)
  · have hf := ifp hf c_51
    refine g_iconst 0 d_Mod_whyNot_82 (by decide) ?_
    exact Go.ret (some _) (rOk_i _) rfl d_Mod_whyNot_83 (pI_of hf)
  · have hf := ifn hf c_51
    refine g_iload_n d_Mod_whyNot_54 rfl ?_
    refine g_if_lt 78 d_Mod_whyNot_55 (by decide) (fun c_55 => ?_) (fun c_55 => ?_)
    · have hf := ifp hf c_55
      refine Go.locals [] rfl ?_
      have key := e_Mod_whyNot_78 (G := G) (h0 := h0)  hf
      exact key
    · have hf := ifn hf c_55
      refine g_iload_n d_Mod_whyNot_58 rfl ?_
      refine g_aload_n d_Mod_whyNot_59 rfl ?_
      obtain ⟨k_60, hf⟩ := gd_s hf
      obtain ⟨v_60_2, h_60_2, e_60_2, hf⟩ := cl_s hf
      refine g_callV (mz := mi_Mod_isShared) (e_Mod_isShared e_60_2) cw_Mod_whyNot_Mod_isShared lm_Mod_275 wI_Mod_isShared wV_Mod_isShared (ci := 11) k_60 (by decide) rfl rfl d_Mod_whyNot_60 rfl rfl (by first | exact Nat.le_of_ble_eq_true rfl | simp [cat_rf, Value.category]) (fun r1 h1 hp hro => ?_)
      obtain ⟨rfl, rfl⟩ := hp
      dsimp only [Option.toList_some, Option.toList_none, List.cons_append, List.nil_append]
      refine g_if_eq 71 d_Mod_whyNot_63 (by decide) (fun c_63 => ?_) (fun c_63 => ?_)
      · have hf := ifp hf c_63
        refine g_aload_n d_Mod_whyNot_71 rfl ?_
        obtain ⟨k_72, hf⟩ := gd_s hf
        refine fg_Mod_ints lf_Mod_25 d_Mod_whyNot_72 k_72 ?_
        refine Go.locals [] rfl ?_
        have key := e_Mod_whyNot_75 (G := G) (h0 := h0)  hf
        exact key
      · have hf := ifn hf c_63
        refine g_bipush (64) d_Mod_whyNot_66 (by decide) ?_
        refine g_goto 75 d_Mod_whyNot_68 (by decide) ?_
        refine Go.locals [] rfl ?_
        have key := e_Mod_whyNot_75 (G := G) (h0 := h0)  hf
        exact key
def b_Mod_whyNot_18 (F : Nat) (x0 : Nat) (x1 : Int32) (h : Hp) : Option (Int32 × Hp) := gd (hK h x0 = 12) <| cl (f_Mod_reg F x0 x1 (hI h 759 x0) h) fun v_24 h_24 => if v_24 = 0 then (some ((3 : Int32), h_24)) else (b_Mod_whyNot_32 F x0 x1 h_24)
set_option maxRecDepth 100000 in
set_option maxHeartbeats 4000000 in
theorem e_Mod_whyNot_18 {G : Gl} {h0 : Hp} {F : Nat} {r : Int32} {h' : Hp}   {x0 : Nat} {x1 : Int32} {h : Hp} (hf : b_Mod_whyNot_18 F x0 x1 h = some (r, h')) : Go G mi_Mod_whyNot h0 (pI r h') h 18 [(0, .ref x0), (1, .int x1)] [] := by
  unfold b_Mod_whyNot_18 at hf
  refine g_aload_n d_Mod_whyNot_18 rfl ?_
  refine g_iload_n d_Mod_whyNot_19 rfl ?_
  refine g_aload_n d_Mod_whyNot_20 rfl ?_
  obtain ⟨k_21, hf⟩ := gd_s hf
  refine fg_Mod_b lf_Mod_231 d_Mod_whyNot_21 k_21 ?_
  obtain ⟨v_24, h_24, e_24, hf⟩ := cl_s hf
  refine g_callV (mz := mi_Mod_reg) (e_Mod_reg e_24) cw_Mod_whyNot_Mod_reg lm_Mod_284 wI_Mod_reg wV_Mod_reg (ci := 11) k_21 (by decide) rfl rfl d_Mod_whyNot_24 rfl rfl (by first | exact Nat.le_of_ble_eq_true rfl | simp [cat_rf, Value.category]) (fun r1 h1 hp hro => ?_)
  obtain ⟨rfl, rfl⟩ := hp
  dsimp only [Option.toList_some, Option.toList_none, List.cons_append, List.nil_append]
  refine g_if_ne 32 d_Mod_whyNot_27 (by decide) (fun c_27 => ?_) (fun c_27 => ?_)
  · have hf := ifn hf c_27
    have key := e_Mod_whyNot_32 (G := G) (h0 := h0)  hf
    exact key
  · have hf := ifp hf c_27
    refine g_iconst 3 d_Mod_whyNot_30 (by decide) ?_
    exact Go.ret (some _) (rOk_i _) rfl d_Mod_whyNot_31 (pI_of hf)
def f_Mod_whyNot (F : Nat) (x0 : Nat) (x1 : Int32) (h : Hp) : Option (Int32 × Hp) := gd (hK h x0 = 12) <| if (hI h 756 x0) = (7 : Int32) then (b_Mod_whyNot_18 F x0 x1 h) else (if (hI h 756 x0) = (8 : Int32) then (b_Mod_whyNot_18 F x0 x1 h) else (b_Mod_whyNot_32 F x0 x1 h))
set_option maxRecDepth 100000 in
set_option maxHeartbeats 4000000 in
theorem e_Mod_whyNot {G : Gl} {F : Nat} {r : Int32} {h' : Hp} {x0 : Nat} {x1 : Int32} {h : Hp} (hf : f_Mod_whyNot F x0 x1 h = some (r, h')) : Ex G mi_Mod_whyNot [.ref x0, .int x1] h (pI r h') := by
  unfold f_Mod_whyNot at hf
  refine Ex.of nmI (by decide) (Nat.le_of_ble_eq_true rfl) ?_
  show Go G mi_Mod_whyNot h _ h 0 [(0, .ref x0), (1, .int x1)] []
  refine g_aload_n d_Mod_whyNot_0 rfl ?_
  obtain ⟨k_1, hf⟩ := gd_s hf
  refine fg_Mod_op lf_Mod_220 d_Mod_whyNot_1 k_1 ?_
  refine g_bipush (7) d_Mod_whyNot_4 (by decide) ?_
  refine g_icmp_eq 18 d_Mod_whyNot_6 (by decide) (fun c_6 => ?_) (fun c_6 => ?_)
  · have hf := ifp hf c_6
    have key := e_Mod_whyNot_18 (G := G) (h0 := h)  hf
    exact key
  · have hf := ifn hf c_6
    refine g_aload_n d_Mod_whyNot_9 rfl ?_
    refine fg_Mod_op lf_Mod_220 d_Mod_whyNot_10 k_1 ?_
    refine g_bipush (8) d_Mod_whyNot_13 (by decide) ?_
    refine g_icmp_ne 32 d_Mod_whyNot_15 (by decide) (fun c_15 => ?_) (fun c_15 => ?_)
    · have hf := ifn hf c_15
      have key := e_Mod_whyNot_32 (G := G) (h0 := h)  hf
      exact key
    · have hf := ifp hf c_15
      have key := e_Mod_whyNot_18 (G := G) (h0 := h)  hf
      exact key
abbrev mi_Mod_asked : MI := (⟨"WarpMillModel", "asked", "(II)I"⟩, prog_13_method_42_code, 3, some .int, 1, 22)
def it_Mod_asked_0 : List (Nat × ClassFile.Instr × Nat) := [(0, .aload_n 0, 1), (1, .iload_n 1, 1), (2, .iload_n 2, 1), (3, .invokestatic 211, 3), (6, .aload_n 0, 1), (7, .getfield 228, 3), (10, .invokevirtual 284, 3), (13, .aload_n 0, 1), (14, .getfield 237, 3), (17, .iadd, 1), (18, .ireturn, 1)]
theorem id_Mod_asked_0 : ∀ q ∈ it_Mod_asked_0, decode prog_13_method_42_code q.1 = .ok q.2 := by decide +kernel
theorem d_Mod_asked_0 : decode prog_13_method_42_code 0 = .ok (.aload_n 0, 1) := id_Mod_asked_0 (0, .aload_n 0, 1) (List.mem_of_getElem? (i := 0) rfl)
theorem d_Mod_asked_1 : decode prog_13_method_42_code 1 = .ok (.iload_n 1, 1) := id_Mod_asked_0 (1, .iload_n 1, 1) (List.mem_of_getElem? (i := 1) rfl)
theorem d_Mod_asked_2 : decode prog_13_method_42_code 2 = .ok (.iload_n 2, 1) := id_Mod_asked_0 (2, .iload_n 2, 1) (List.mem_of_getElem? (i := 2) rfl)
theorem d_Mod_asked_3 : decode prog_13_method_42_code 3 = .ok (.invokestatic 211, 3) := id_Mod_asked_0 (3, .invokestatic 211, 3) (List.mem_of_getElem? (i := 3) rfl)
theorem d_Mod_asked_6 : decode prog_13_method_42_code 6 = .ok (.aload_n 0, 1) := id_Mod_asked_0 (6, .aload_n 0, 1) (List.mem_of_getElem? (i := 4) rfl)
theorem d_Mod_asked_7 : decode prog_13_method_42_code 7 = .ok (.getfield 228, 3) := id_Mod_asked_0 (7, .getfield 228, 3) (List.mem_of_getElem? (i := 5) rfl)
theorem d_Mod_asked_10 : decode prog_13_method_42_code 10 = .ok (.invokevirtual 284, 3) := id_Mod_asked_0 (10, .invokevirtual 284, 3) (List.mem_of_getElem? (i := 6) rfl)
theorem d_Mod_asked_13 : decode prog_13_method_42_code 13 = .ok (.aload_n 0, 1) := id_Mod_asked_0 (13, .aload_n 0, 1) (List.mem_of_getElem? (i := 7) rfl)
theorem d_Mod_asked_14 : decode prog_13_method_42_code 14 = .ok (.getfield 237, 3) := id_Mod_asked_0 (14, .getfield 237, 3) (List.mem_of_getElem? (i := 8) rfl)
theorem d_Mod_asked_17 : decode prog_13_method_42_code 17 = .ok (.iadd, 1) := id_Mod_asked_0 (17, .iadd, 1) (List.mem_of_getElem? (i := 9) rfl)
theorem d_Mod_asked_18 : decode prog_13_method_42_code 18 = .ok (.ireturn, 1) := id_Mod_asked_0 (18, .ireturn, 1) (List.mem_of_getElem? (i := 10) rfl)
theorem wC_Mod_asked : Cond.code ⟨"WarpMillModel", "asked", "(II)I"⟩ prog_13_method_42_code 3 (some .int) ∈ lw_tb := mem_tb 1420 (by decide +kernel) rfl
theorem cw_Mod_asked_Mod_thread : cW mi_Mod_asked mi_Mod_thread 2 := ⟨wC_Mod_thread, wi_Mod, ⟨by decide, by decide, by decide +kernel⟩, by decide, by decide⟩
theorem cw_Mod_asked_Mod_reg : cW mi_Mod_asked mi_Mod_reg 2 := ⟨wC_Mod_reg, wi_Mod, ⟨by decide, by decide, by decide +kernel⟩, by decide, by decide⟩
def f_Mod_asked (F : Nat) (x0 : Nat) (x1 : Int32) (x2 : Int32) (h : Hp) : Option (Int32 × Hp) := cl (f_Mod_thread F x1 x2 h) fun v_3 h_3 => gd (hK h_3 x0 = 12) <| cl (f_Mod_reg F x0 v_3 (hI h_3 758 x0) h_3) fun v_10 h_10 => gd (hK h_10 x0 = 12) <| some ((v_10 + (hI h_10 761 x0)), h_10)
set_option maxRecDepth 100000 in
set_option maxHeartbeats 4000000 in
theorem e_Mod_asked {G : Gl} {F : Nat} {r : Int32} {h' : Hp} {x0 : Nat} {x1 : Int32} {x2 : Int32} {h : Hp} (hf : f_Mod_asked F x0 x1 x2 h = some (r, h')) : Ex G mi_Mod_asked [.ref x0, .int x1, .int x2] h (pI r h') := by
  unfold f_Mod_asked at hf
  refine Ex.of nmI (by decide) (Nat.le_of_ble_eq_true rfl) ?_
  show Go G mi_Mod_asked h _ h 0 [(0, .ref x0), (1, .int x1), (2, .int x2)] []
  refine g_aload_n d_Mod_asked_0 rfl ?_
  refine g_iload_n d_Mod_asked_1 rfl ?_
  refine g_iload_n d_Mod_asked_2 rfl ?_
  obtain ⟨v_3, h_3, e_3, hf⟩ := cl_s hf
  refine g_callS (mz := mi_Mod_thread) (e_Mod_thread e_3) cw_Mod_asked_Mod_thread lm_Mod_211 wS_Mod_thread d_Mod_asked_3 rfl rfl (by first | exact Nat.le_of_ble_eq_true rfl | simp [cat_rf, Value.category]) (fun r1 h1 hp hro => ?_)
  obtain ⟨rfl, rfl⟩ := hp
  dsimp only [Option.toList_some, Option.toList_none, List.cons_append, List.nil_append]
  refine g_aload_n d_Mod_asked_6 rfl ?_
  obtain ⟨k_7, hf⟩ := gd_s hf
  refine fg_Mod_a lf_Mod_228 d_Mod_asked_7 k_7 ?_
  obtain ⟨v_10, h_10, e_10, hf⟩ := cl_s hf
  refine g_callV (mz := mi_Mod_reg) (e_Mod_reg e_10) cw_Mod_asked_Mod_reg lm_Mod_284 wI_Mod_reg wV_Mod_reg (ci := 11) k_7 (by decide) rfl rfl d_Mod_asked_10 rfl rfl (by first | exact Nat.le_of_ble_eq_true rfl | simp [cat_rf, Value.category]) (fun r1 h1 hp hro => ?_)
  obtain ⟨rfl, rfl⟩ := hp
  dsimp only [Option.toList_some, Option.toList_none, List.cons_append, List.nil_append]
  refine g_aload_n d_Mod_asked_13 rfl ?_
  obtain ⟨k_14, hf⟩ := gd_s hf
  refine fg_Mod_n lf_Mod_237 d_Mod_asked_14 k_14 ?_
  refine g_iadd d_Mod_asked_17 ?_
  exact Go.ret (some _) (rOk_i _) rfl d_Mod_asked_18 (pI_of hf)
abbrev mi_Mod_isAgain : MI := (⟨"WarpMillModel", "isAgain", "(II)Z"⟩, prog_13_method_43_code, 4, some .boolean, 2, 44)
def it_Mod_isAgain_0 : List (Nat × ClassFile.Instr × Nat) := [(0, .iconst 0, 1), (1, .istore_n 3, 1), (2, .iload_n 3, 1), (3, .iload_n 2, 1), (4, .if_icmp .ge (35), 3), (7, .aload_n 0, 1), (8, .getfield 111, 3), (11, .iload_n 3, 1), (12, .baload, 1), (13, .ifCond .eq (20), 3), (16, .aload_n 0, 1), (17, .iload_n 1, 1), (18, .iload_n 3, 1), (19, .invokevirtual 316, 3), (22, .aload_n 0, 1), (23, .iload_n 1, 1), (24, .iload_n 2, 1), (25, .invokevirtual 316, 3), (28, .if_icmp .ne (5), 3), (31, .iconst 1, 1), (32, .ireturn, 1), (33, .iinc 3 (1), 3), (36, .goto (-34), 3), (39, .iconst 0, 1)]
theorem id_Mod_isAgain_0 : ∀ q ∈ it_Mod_isAgain_0, decode prog_13_method_43_code q.1 = .ok q.2 := by decide +kernel
theorem d_Mod_isAgain_0 : decode prog_13_method_43_code 0 = .ok (.iconst 0, 1) := id_Mod_isAgain_0 (0, .iconst 0, 1) (List.mem_of_getElem? (i := 0) rfl)
theorem d_Mod_isAgain_1 : decode prog_13_method_43_code 1 = .ok (.istore_n 3, 1) := id_Mod_isAgain_0 (1, .istore_n 3, 1) (List.mem_of_getElem? (i := 1) rfl)
theorem d_Mod_isAgain_2 : decode prog_13_method_43_code 2 = .ok (.iload_n 3, 1) := id_Mod_isAgain_0 (2, .iload_n 3, 1) (List.mem_of_getElem? (i := 2) rfl)
theorem d_Mod_isAgain_3 : decode prog_13_method_43_code 3 = .ok (.iload_n 2, 1) := id_Mod_isAgain_0 (3, .iload_n 2, 1) (List.mem_of_getElem? (i := 3) rfl)
theorem d_Mod_isAgain_4 : decode prog_13_method_43_code 4 = .ok (.if_icmp .ge (35), 3) := id_Mod_isAgain_0 (4, .if_icmp .ge (35), 3) (List.mem_of_getElem? (i := 4) rfl)
theorem d_Mod_isAgain_7 : decode prog_13_method_43_code 7 = .ok (.aload_n 0, 1) := id_Mod_isAgain_0 (7, .aload_n 0, 1) (List.mem_of_getElem? (i := 5) rfl)
theorem d_Mod_isAgain_8 : decode prog_13_method_43_code 8 = .ok (.getfield 111, 3) := id_Mod_isAgain_0 (8, .getfield 111, 3) (List.mem_of_getElem? (i := 6) rfl)
theorem d_Mod_isAgain_11 : decode prog_13_method_43_code 11 = .ok (.iload_n 3, 1) := id_Mod_isAgain_0 (11, .iload_n 3, 1) (List.mem_of_getElem? (i := 7) rfl)
theorem d_Mod_isAgain_12 : decode prog_13_method_43_code 12 = .ok (.baload, 1) := id_Mod_isAgain_0 (12, .baload, 1) (List.mem_of_getElem? (i := 8) rfl)
theorem d_Mod_isAgain_13 : decode prog_13_method_43_code 13 = .ok (.ifCond .eq (20), 3) := id_Mod_isAgain_0 (13, .ifCond .eq (20), 3) (List.mem_of_getElem? (i := 9) rfl)
theorem d_Mod_isAgain_16 : decode prog_13_method_43_code 16 = .ok (.aload_n 0, 1) := id_Mod_isAgain_0 (16, .aload_n 0, 1) (List.mem_of_getElem? (i := 10) rfl)
theorem d_Mod_isAgain_17 : decode prog_13_method_43_code 17 = .ok (.iload_n 1, 1) := id_Mod_isAgain_0 (17, .iload_n 1, 1) (List.mem_of_getElem? (i := 11) rfl)
theorem d_Mod_isAgain_18 : decode prog_13_method_43_code 18 = .ok (.iload_n 3, 1) := id_Mod_isAgain_0 (18, .iload_n 3, 1) (List.mem_of_getElem? (i := 12) rfl)
theorem d_Mod_isAgain_19 : decode prog_13_method_43_code 19 = .ok (.invokevirtual 316, 3) := id_Mod_isAgain_0 (19, .invokevirtual 316, 3) (List.mem_of_getElem? (i := 13) rfl)
theorem d_Mod_isAgain_22 : decode prog_13_method_43_code 22 = .ok (.aload_n 0, 1) := id_Mod_isAgain_0 (22, .aload_n 0, 1) (List.mem_of_getElem? (i := 14) rfl)
theorem d_Mod_isAgain_23 : decode prog_13_method_43_code 23 = .ok (.iload_n 1, 1) := id_Mod_isAgain_0 (23, .iload_n 1, 1) (List.mem_of_getElem? (i := 15) rfl)
theorem d_Mod_isAgain_24 : decode prog_13_method_43_code 24 = .ok (.iload_n 2, 1) := id_Mod_isAgain_0 (24, .iload_n 2, 1) (List.mem_of_getElem? (i := 16) rfl)
theorem d_Mod_isAgain_25 : decode prog_13_method_43_code 25 = .ok (.invokevirtual 316, 3) := id_Mod_isAgain_0 (25, .invokevirtual 316, 3) (List.mem_of_getElem? (i := 17) rfl)
theorem d_Mod_isAgain_28 : decode prog_13_method_43_code 28 = .ok (.if_icmp .ne (5), 3) := id_Mod_isAgain_0 (28, .if_icmp .ne (5), 3) (List.mem_of_getElem? (i := 18) rfl)
theorem d_Mod_isAgain_31 : decode prog_13_method_43_code 31 = .ok (.iconst 1, 1) := id_Mod_isAgain_0 (31, .iconst 1, 1) (List.mem_of_getElem? (i := 19) rfl)
theorem d_Mod_isAgain_32 : decode prog_13_method_43_code 32 = .ok (.ireturn, 1) := id_Mod_isAgain_0 (32, .ireturn, 1) (List.mem_of_getElem? (i := 20) rfl)
theorem d_Mod_isAgain_33 : decode prog_13_method_43_code 33 = .ok (.iinc 3 (1), 3) := id_Mod_isAgain_0 (33, .iinc 3 (1), 3) (List.mem_of_getElem? (i := 21) rfl)
theorem d_Mod_isAgain_36 : decode prog_13_method_43_code 36 = .ok (.goto (-34), 3) := id_Mod_isAgain_0 (36, .goto (-34), 3) (List.mem_of_getElem? (i := 22) rfl)
theorem d_Mod_isAgain_39 : decode prog_13_method_43_code 39 = .ok (.iconst 0, 1) := id_Mod_isAgain_0 (39, .iconst 0, 1) (List.mem_of_getElem? (i := 23) rfl)
def it_Mod_isAgain_1 : List (Nat × ClassFile.Instr × Nat) := [(40, .ireturn, 1)]
theorem id_Mod_isAgain_1 : ∀ q ∈ it_Mod_isAgain_1, decode prog_13_method_43_code q.1 = .ok q.2 := by decide +kernel
theorem d_Mod_isAgain_40 : decode prog_13_method_43_code 40 = .ok (.ireturn, 1) := id_Mod_isAgain_1 (40, .ireturn, 1) (List.mem_of_getElem? (i := 0) rfl)
theorem wC_Mod_isAgain : Cond.code ⟨"WarpMillModel", "isAgain", "(II)Z"⟩ prog_13_method_43_code 4 (some .boolean) ∈ lw_tb := mem_tb 1424 (by decide +kernel) rfl
theorem cw_Mod_isAgain_Mod_asked : cW mi_Mod_isAgain mi_Mod_asked 2 := ⟨wC_Mod_asked, wi_Mod, ⟨by decide, by decide, by decide +kernel⟩, by decide, by decide⟩
def b_Mod_isAgain_2 (F : Nat) : Nat → Nat → Int32 → Int32 → Int32 → Hp → Option (Int32 × Hp)
  | 0 => fun _ _ _ _ _ => none
  | n + 1 => fun x0 x1 x2 x3 h => if x2 ≤ x3 then (some ((0 : Int32), h)) else (gd (hK h x0 = 12) <| rq h (hR h 755 x0) 101 fun a_8_2 => ix x3 (hN h a_8_2) fun j_12 => if (hA h a_8_2 j_12) = 0 then (b_Mod_isAgain_2 F n x0 x1 x2 (x3 + 1) h) else (cl (f_Mod_asked F x0 x1 x3 h) fun v_19 h_19 => gd (hK h_19 x0 = 12) <| cl (f_Mod_asked F x0 x1 x2 h_19) fun v_25_2 h_25_2 => if v_19 = v_25_2 then (some ((1 : Int32), h_25_2)) else (b_Mod_isAgain_2 F n x0 x1 x2 (x3 + 1) h_25_2)))
set_option maxRecDepth 100000 in
set_option maxHeartbeats 4000000 in
theorem e_Mod_isAgain_2 {G : Gl} {h0 : Hp} {F : Nat} {r : Int32} {h' : Hp}   : ∀ (n : Nat) (x0 : Nat) (x1 : Int32) (x2 : Int32) (x3 : Int32) (h : Hp), b_Mod_isAgain_2 F n x0 x1 x2 x3 h = some (r, h') → Go G mi_Mod_isAgain h0 (pI r h') h 2 [(0, .ref x0), (1, .int x1), (2, .int x2), (3, .int x3)] [] := by
  intro n
  induction n with
  | zero =>
    intro _ _ _ _ _ hf
    exact nm_s hf
  | succ n ih =>
    intro x0 x1 x2 x3 h hf
    unfold b_Mod_isAgain_2 at hf
    refine g_iload_n d_Mod_isAgain_2 rfl ?_
    refine g_iload_n d_Mod_isAgain_3 rfl ?_
    refine g_icmp_ge 39 d_Mod_isAgain_4 (by decide) (fun c_4 => ?_) (fun c_4 => ?_)
    · have hf := ifp hf c_4
      refine g_iconst 0 d_Mod_isAgain_39 (by decide) ?_
      exact Go.ret (some _) rOk_b0 rfl d_Mod_isAgain_40 (pI_of hf)
    · have hf := ifn hf c_4
      refine g_aload_n d_Mod_isAgain_7 rfl ?_
      obtain ⟨k_8, hf⟩ := gd_s hf
      obtain ⟨a_8_2, e_8_2, k_8_2, hf⟩ := rq_s hf
      refine fgs_Mod_does lf_Mod_111 d_Mod_isAgain_8 k_8 e_8_2 ?_
      refine g_iload_n d_Mod_isAgain_11 rfl ?_
      obtain ⟨i_12, hf⟩ := ix_s hf
      refine g_zald k_8_2 i_12 d_Mod_isAgain_12 ?_
      refine g_if_eq 33 d_Mod_isAgain_13 (by decide) (fun c_13 => ?_) (fun c_13 => ?_)
      · have hf := ifp hf c_13
        refine g_iinc (_ + 1) d_Mod_isAgain_33 rfl (by rfl) (by decide) ?_
        show Go _ _ _ _ _ _ [(0, _), (1, _), (2, _), (3, _)] _
        refine g_goto 2 d_Mod_isAgain_36 (by decide) ?_
        exact ih _ _ _ _ _ hf
      · have hf := ifn hf c_13
        refine g_aload_n d_Mod_isAgain_16 rfl ?_
        refine g_iload_n d_Mod_isAgain_17 rfl ?_
        refine g_iload_n d_Mod_isAgain_18 rfl ?_
        obtain ⟨v_19, h_19, e_19, hf⟩ := cl_s hf
        refine g_callV (mz := mi_Mod_asked) (e_Mod_asked e_19) cw_Mod_isAgain_Mod_asked lm_Mod_316 wI_Mod_asked wV_Mod_asked (ci := 11) k_8 (by decide) rfl rfl d_Mod_isAgain_19 rfl rfl (by first | exact Nat.le_of_ble_eq_true rfl | simp [cat_rf, Value.category]) (fun r1 h1 hp hro => ?_)
        obtain ⟨rfl, rfl⟩ := hp
        dsimp only [Option.toList_some, Option.toList_none, List.cons_append, List.nil_append]
        refine g_aload_n d_Mod_isAgain_22 rfl ?_
        refine g_iload_n d_Mod_isAgain_23 rfl ?_
        refine g_iload_n d_Mod_isAgain_24 rfl ?_
        obtain ⟨k_25, hf⟩ := gd_s hf
        obtain ⟨v_25_2, h_25_2, e_25_2, hf⟩ := cl_s hf
        refine g_callV (mz := mi_Mod_asked) (e_Mod_asked e_25_2) cw_Mod_isAgain_Mod_asked lm_Mod_316 wI_Mod_asked wV_Mod_asked (ci := 11) k_25 (by decide) rfl rfl d_Mod_isAgain_25 rfl rfl (by first | exact Nat.le_of_ble_eq_true rfl | simp [cat_rf, Value.category]) (fun r1 h1 hp hro => ?_)
        obtain ⟨rfl, rfl⟩ := hp
        dsimp only [Option.toList_some, Option.toList_none, List.cons_append, List.nil_append]
        refine g_icmp_ne 33 d_Mod_isAgain_28 (by decide) (fun c_28 => ?_) (fun c_28 => ?_)
        · have hf := ifn hf c_28
          refine g_iinc (_ + 1) d_Mod_isAgain_33 rfl (by rfl) (by decide) ?_
          show Go _ _ _ _ _ _ [(0, _), (1, _), (2, _), (3, _)] _
          refine g_goto 2 d_Mod_isAgain_36 (by decide) ?_
          exact ih _ _ _ _ _ hf
        · have hf := ifp hf c_28
          refine g_iconst 1 d_Mod_isAgain_31 (by decide) ?_
          exact Go.ret (some _) rOk_b1 rfl d_Mod_isAgain_32 (pI_of hf)
def f_Mod_isAgain (F : Nat) (x0 : Nat) (x1 : Int32) (x2 : Int32) (h : Hp) : Option (Int32 × Hp) := b_Mod_isAgain_2 F F x0 x1 x2 (0 : Int32) h
set_option maxRecDepth 100000 in
set_option maxHeartbeats 4000000 in
theorem e_Mod_isAgain {G : Gl} {F : Nat} {r : Int32} {h' : Hp} {x0 : Nat} {x1 : Int32} {x2 : Int32} {h : Hp} (hf : f_Mod_isAgain F x0 x1 x2 h = some (r, h')) : Ex G mi_Mod_isAgain [.ref x0, .int x1, .int x2] h (pI r h') := by
  unfold f_Mod_isAgain at hf
  refine Ex.of nmI (by decide) (Nat.le_of_ble_eq_true rfl) ?_
  show Go G mi_Mod_isAgain h _ h 0 [(0, .ref x0), (1, .int x1), (2, .int x2)] []
  refine g_iconst 0 d_Mod_isAgain_0 (by decide) ?_
  refine g_istore_n d_Mod_isAgain_1 (by decide) ?_
  show Go _ _ _ _ _ _ [(0, _), (1, _), (2, _), (3, _)] _
  have key := e_Mod_isAgain_2 (G := G) (h0 := h)  F _ _ _ _ _ hf
  exact key
