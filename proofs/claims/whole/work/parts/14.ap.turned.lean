abbrev mi_Mod_act : MI := (⟨"WarpMillModel", "act", "(IIII)V"⟩, prog_13_method_51_code, 8, none, 2, 49)
def it_Mod_act_0 : List (Nat × ClassFile.Instr × Nat) := [(0, .aload_n 0, 1), (1, .iload_n 3, 1), (2, .aload_n 0, 1), (3, .getfield 228, 3), (6, .invokevirtual 284, 3), (9, .istore 5, 2), (11, .aload_n 0, 1), (12, .iload_n 3, 1), (13, .aload_n 0, 1), (14, .getfield 231, 3), (17, .invokevirtual 284, 3), (20, .istore 6, 2), (22, .bipush (16), 2), (24, .iload_n 3, 1), (25, .imul, 1), (26, .aload_n 0, 1), (27, .getfield 225, 3), (30, .iadd, 1), (31, .istore 7, 2), (33, .aload_n 0, 1), (34, .getfield 220, 3), (37, .ifCond .ne (13), 3), (40, .aload_n 0, 1), (41, .getfield 76, 3)]
theorem id_Mod_act_0 : ∀ q ∈ it_Mod_act_0, decode prog_13_method_51_code q.1 = .ok q.2 := by decide +kernel
theorem d_Mod_act_0 : decode prog_13_method_51_code 0 = .ok (.aload_n 0, 1) := id_Mod_act_0 (0, .aload_n 0, 1) (List.mem_of_getElem? (i := 0) rfl)
theorem d_Mod_act_1 : decode prog_13_method_51_code 1 = .ok (.iload_n 3, 1) := id_Mod_act_0 (1, .iload_n 3, 1) (List.mem_of_getElem? (i := 1) rfl)
theorem d_Mod_act_2 : decode prog_13_method_51_code 2 = .ok (.aload_n 0, 1) := id_Mod_act_0 (2, .aload_n 0, 1) (List.mem_of_getElem? (i := 2) rfl)
theorem d_Mod_act_3 : decode prog_13_method_51_code 3 = .ok (.getfield 228, 3) := id_Mod_act_0 (3, .getfield 228, 3) (List.mem_of_getElem? (i := 3) rfl)
theorem d_Mod_act_6 : decode prog_13_method_51_code 6 = .ok (.invokevirtual 284, 3) := id_Mod_act_0 (6, .invokevirtual 284, 3) (List.mem_of_getElem? (i := 4) rfl)
theorem d_Mod_act_9 : decode prog_13_method_51_code 9 = .ok (.istore 5, 2) := id_Mod_act_0 (9, .istore 5, 2) (List.mem_of_getElem? (i := 5) rfl)
theorem d_Mod_act_11 : decode prog_13_method_51_code 11 = .ok (.aload_n 0, 1) := id_Mod_act_0 (11, .aload_n 0, 1) (List.mem_of_getElem? (i := 6) rfl)
theorem d_Mod_act_12 : decode prog_13_method_51_code 12 = .ok (.iload_n 3, 1) := id_Mod_act_0 (12, .iload_n 3, 1) (List.mem_of_getElem? (i := 7) rfl)
theorem d_Mod_act_13 : decode prog_13_method_51_code 13 = .ok (.aload_n 0, 1) := id_Mod_act_0 (13, .aload_n 0, 1) (List.mem_of_getElem? (i := 8) rfl)
theorem d_Mod_act_14 : decode prog_13_method_51_code 14 = .ok (.getfield 231, 3) := id_Mod_act_0 (14, .getfield 231, 3) (List.mem_of_getElem? (i := 9) rfl)
theorem d_Mod_act_17 : decode prog_13_method_51_code 17 = .ok (.invokevirtual 284, 3) := id_Mod_act_0 (17, .invokevirtual 284, 3) (List.mem_of_getElem? (i := 10) rfl)
theorem d_Mod_act_20 : decode prog_13_method_51_code 20 = .ok (.istore 6, 2) := id_Mod_act_0 (20, .istore 6, 2) (List.mem_of_getElem? (i := 11) rfl)
theorem d_Mod_act_22 : decode prog_13_method_51_code 22 = .ok (.bipush (16), 2) := id_Mod_act_0 (22, .bipush (16), 2) (List.mem_of_getElem? (i := 12) rfl)
theorem d_Mod_act_24 : decode prog_13_method_51_code 24 = .ok (.iload_n 3, 1) := id_Mod_act_0 (24, .iload_n 3, 1) (List.mem_of_getElem? (i := 13) rfl)
theorem d_Mod_act_25 : decode prog_13_method_51_code 25 = .ok (.imul, 1) := id_Mod_act_0 (25, .imul, 1) (List.mem_of_getElem? (i := 14) rfl)
theorem d_Mod_act_26 : decode prog_13_method_51_code 26 = .ok (.aload_n 0, 1) := id_Mod_act_0 (26, .aload_n 0, 1) (List.mem_of_getElem? (i := 15) rfl)
theorem d_Mod_act_27 : decode prog_13_method_51_code 27 = .ok (.getfield 225, 3) := id_Mod_act_0 (27, .getfield 225, 3) (List.mem_of_getElem? (i := 16) rfl)
theorem d_Mod_act_30 : decode prog_13_method_51_code 30 = .ok (.iadd, 1) := id_Mod_act_0 (30, .iadd, 1) (List.mem_of_getElem? (i := 17) rfl)
theorem d_Mod_act_31 : decode prog_13_method_51_code 31 = .ok (.istore 7, 2) := id_Mod_act_0 (31, .istore 7, 2) (List.mem_of_getElem? (i := 18) rfl)
theorem d_Mod_act_33 : decode prog_13_method_51_code 33 = .ok (.aload_n 0, 1) := id_Mod_act_0 (33, .aload_n 0, 1) (List.mem_of_getElem? (i := 19) rfl)
theorem d_Mod_act_34 : decode prog_13_method_51_code 34 = .ok (.getfield 220, 3) := id_Mod_act_0 (34, .getfield 220, 3) (List.mem_of_getElem? (i := 20) rfl)
theorem d_Mod_act_37 : decode prog_13_method_51_code 37 = .ok (.ifCond .ne (13), 3) := id_Mod_act_0 (37, .ifCond .ne (13), 3) (List.mem_of_getElem? (i := 21) rfl)
theorem d_Mod_act_40 : decode prog_13_method_51_code 40 = .ok (.aload_n 0, 1) := id_Mod_act_0 (40, .aload_n 0, 1) (List.mem_of_getElem? (i := 22) rfl)
theorem d_Mod_act_41 : decode prog_13_method_51_code 41 = .ok (.getfield 76, 3) := id_Mod_act_0 (41, .getfield 76, 3) (List.mem_of_getElem? (i := 23) rfl)
def it_Mod_act_1 : List (Nat × ClassFile.Instr × Nat) := [(44, .iload_n 3, 1), (45, .iconst 1, 1), (46, .bastore, 1), (47, .goto (464), 3), (50, .aload_n 0, 1), (51, .getfield 220, 3), (54, .iconst 1, 1), (55, .if_icmp .ne (13), 3), (58, .aload_n 0, 1), (59, .getfield 80, 3), (62, .iload_n 3, 1), (63, .iconst 1, 1), (64, .bastore, 1), (65, .goto (446), 3), (68, .aload_n 0, 1), (69, .getfield 220, 3), (72, .iconst 2, 1), (73, .if_icmp .ne (17), 3), (76, .aload_n 0, 1), (77, .getfield 67, 3), (80, .iload 7, 2), (82, .aload_n 0, 1), (83, .getfield 237, 3), (86, .iastore, 1)]
theorem id_Mod_act_1 : ∀ q ∈ it_Mod_act_1, decode prog_13_method_51_code q.1 = .ok q.2 := by decide +kernel
theorem d_Mod_act_44 : decode prog_13_method_51_code 44 = .ok (.iload_n 3, 1) := id_Mod_act_1 (44, .iload_n 3, 1) (List.mem_of_getElem? (i := 0) rfl)
theorem d_Mod_act_45 : decode prog_13_method_51_code 45 = .ok (.iconst 1, 1) := id_Mod_act_1 (45, .iconst 1, 1) (List.mem_of_getElem? (i := 1) rfl)
theorem d_Mod_act_46 : decode prog_13_method_51_code 46 = .ok (.bastore, 1) := id_Mod_act_1 (46, .bastore, 1) (List.mem_of_getElem? (i := 2) rfl)
theorem d_Mod_act_47 : decode prog_13_method_51_code 47 = .ok (.goto (464), 3) := id_Mod_act_1 (47, .goto (464), 3) (List.mem_of_getElem? (i := 3) rfl)
theorem d_Mod_act_50 : decode prog_13_method_51_code 50 = .ok (.aload_n 0, 1) := id_Mod_act_1 (50, .aload_n 0, 1) (List.mem_of_getElem? (i := 4) rfl)
theorem d_Mod_act_51 : decode prog_13_method_51_code 51 = .ok (.getfield 220, 3) := id_Mod_act_1 (51, .getfield 220, 3) (List.mem_of_getElem? (i := 5) rfl)
theorem d_Mod_act_54 : decode prog_13_method_51_code 54 = .ok (.iconst 1, 1) := id_Mod_act_1 (54, .iconst 1, 1) (List.mem_of_getElem? (i := 6) rfl)
theorem d_Mod_act_55 : decode prog_13_method_51_code 55 = .ok (.if_icmp .ne (13), 3) := id_Mod_act_1 (55, .if_icmp .ne (13), 3) (List.mem_of_getElem? (i := 7) rfl)
theorem d_Mod_act_58 : decode prog_13_method_51_code 58 = .ok (.aload_n 0, 1) := id_Mod_act_1 (58, .aload_n 0, 1) (List.mem_of_getElem? (i := 8) rfl)
theorem d_Mod_act_59 : decode prog_13_method_51_code 59 = .ok (.getfield 80, 3) := id_Mod_act_1 (59, .getfield 80, 3) (List.mem_of_getElem? (i := 9) rfl)
theorem d_Mod_act_62 : decode prog_13_method_51_code 62 = .ok (.iload_n 3, 1) := id_Mod_act_1 (62, .iload_n 3, 1) (List.mem_of_getElem? (i := 10) rfl)
theorem d_Mod_act_63 : decode prog_13_method_51_code 63 = .ok (.iconst 1, 1) := id_Mod_act_1 (63, .iconst 1, 1) (List.mem_of_getElem? (i := 11) rfl)
theorem d_Mod_act_64 : decode prog_13_method_51_code 64 = .ok (.bastore, 1) := id_Mod_act_1 (64, .bastore, 1) (List.mem_of_getElem? (i := 12) rfl)
theorem d_Mod_act_65 : decode prog_13_method_51_code 65 = .ok (.goto (446), 3) := id_Mod_act_1 (65, .goto (446), 3) (List.mem_of_getElem? (i := 13) rfl)
theorem d_Mod_act_68 : decode prog_13_method_51_code 68 = .ok (.aload_n 0, 1) := id_Mod_act_1 (68, .aload_n 0, 1) (List.mem_of_getElem? (i := 14) rfl)
theorem d_Mod_act_69 : decode prog_13_method_51_code 69 = .ok (.getfield 220, 3) := id_Mod_act_1 (69, .getfield 220, 3) (List.mem_of_getElem? (i := 15) rfl)
theorem d_Mod_act_72 : decode prog_13_method_51_code 72 = .ok (.iconst 2, 1) := id_Mod_act_1 (72, .iconst 2, 1) (List.mem_of_getElem? (i := 16) rfl)
theorem d_Mod_act_73 : decode prog_13_method_51_code 73 = .ok (.if_icmp .ne (17), 3) := id_Mod_act_1 (73, .if_icmp .ne (17), 3) (List.mem_of_getElem? (i := 17) rfl)
theorem d_Mod_act_76 : decode prog_13_method_51_code 76 = .ok (.aload_n 0, 1) := id_Mod_act_1 (76, .aload_n 0, 1) (List.mem_of_getElem? (i := 18) rfl)
theorem d_Mod_act_77 : decode prog_13_method_51_code 77 = .ok (.getfield 67, 3) := id_Mod_act_1 (77, .getfield 67, 3) (List.mem_of_getElem? (i := 19) rfl)
theorem d_Mod_act_80 : decode prog_13_method_51_code 80 = .ok (.iload 7, 2) := id_Mod_act_1 (80, .iload 7, 2) (List.mem_of_getElem? (i := 20) rfl)
theorem d_Mod_act_82 : decode prog_13_method_51_code 82 = .ok (.aload_n 0, 1) := id_Mod_act_1 (82, .aload_n 0, 1) (List.mem_of_getElem? (i := 21) rfl)
theorem d_Mod_act_83 : decode prog_13_method_51_code 83 = .ok (.getfield 237, 3) := id_Mod_act_1 (83, .getfield 237, 3) (List.mem_of_getElem? (i := 22) rfl)
theorem d_Mod_act_86 : decode prog_13_method_51_code 86 = .ok (.iastore, 1) := id_Mod_act_1 (86, .iastore, 1) (List.mem_of_getElem? (i := 23) rfl)
def it_Mod_act_2 : List (Nat × ClassFile.Instr × Nat) := [(87, .goto (424), 3), (90, .aload_n 0, 1), (91, .getfield 220, 3), (94, .iconst 3, 1), (95, .if_icmp .ne (19), 3), (98, .aload_n 0, 1), (99, .getfield 67, 3), (102, .iload 7, 2), (104, .aload_n 0, 1), (105, .iload_n 1, 1), (106, .iload_n 2, 1), (107, .invokevirtual 328, 3), (110, .iastore, 1), (111, .goto (400), 3), (114, .aload_n 0, 1), (115, .getfield 220, 3), (118, .bipush (21), 2), (120, .if_icmp .gt (22), 3), (123, .aload_n 0, 1), (124, .getfield 67, 3), (127, .iload 7, 2), (129, .aload_n 0, 1), (130, .iload 5, 2), (132, .iload 6, 2)]
theorem id_Mod_act_2 : ∀ q ∈ it_Mod_act_2, decode prog_13_method_51_code q.1 = .ok q.2 := by decide +kernel
theorem d_Mod_act_87 : decode prog_13_method_51_code 87 = .ok (.goto (424), 3) := id_Mod_act_2 (87, .goto (424), 3) (List.mem_of_getElem? (i := 0) rfl)
theorem d_Mod_act_90 : decode prog_13_method_51_code 90 = .ok (.aload_n 0, 1) := id_Mod_act_2 (90, .aload_n 0, 1) (List.mem_of_getElem? (i := 1) rfl)
theorem d_Mod_act_91 : decode prog_13_method_51_code 91 = .ok (.getfield 220, 3) := id_Mod_act_2 (91, .getfield 220, 3) (List.mem_of_getElem? (i := 2) rfl)
theorem d_Mod_act_94 : decode prog_13_method_51_code 94 = .ok (.iconst 3, 1) := id_Mod_act_2 (94, .iconst 3, 1) (List.mem_of_getElem? (i := 3) rfl)
theorem d_Mod_act_95 : decode prog_13_method_51_code 95 = .ok (.if_icmp .ne (19), 3) := id_Mod_act_2 (95, .if_icmp .ne (19), 3) (List.mem_of_getElem? (i := 4) rfl)
theorem d_Mod_act_98 : decode prog_13_method_51_code 98 = .ok (.aload_n 0, 1) := id_Mod_act_2 (98, .aload_n 0, 1) (List.mem_of_getElem? (i := 5) rfl)
theorem d_Mod_act_99 : decode prog_13_method_51_code 99 = .ok (.getfield 67, 3) := id_Mod_act_2 (99, .getfield 67, 3) (List.mem_of_getElem? (i := 6) rfl)
theorem d_Mod_act_102 : decode prog_13_method_51_code 102 = .ok (.iload 7, 2) := id_Mod_act_2 (102, .iload 7, 2) (List.mem_of_getElem? (i := 7) rfl)
theorem d_Mod_act_104 : decode prog_13_method_51_code 104 = .ok (.aload_n 0, 1) := id_Mod_act_2 (104, .aload_n 0, 1) (List.mem_of_getElem? (i := 8) rfl)
theorem d_Mod_act_105 : decode prog_13_method_51_code 105 = .ok (.iload_n 1, 1) := id_Mod_act_2 (105, .iload_n 1, 1) (List.mem_of_getElem? (i := 9) rfl)
theorem d_Mod_act_106 : decode prog_13_method_51_code 106 = .ok (.iload_n 2, 1) := id_Mod_act_2 (106, .iload_n 2, 1) (List.mem_of_getElem? (i := 10) rfl)
theorem d_Mod_act_107 : decode prog_13_method_51_code 107 = .ok (.invokevirtual 328, 3) := id_Mod_act_2 (107, .invokevirtual 328, 3) (List.mem_of_getElem? (i := 11) rfl)
theorem d_Mod_act_110 : decode prog_13_method_51_code 110 = .ok (.iastore, 1) := id_Mod_act_2 (110, .iastore, 1) (List.mem_of_getElem? (i := 12) rfl)
theorem d_Mod_act_111 : decode prog_13_method_51_code 111 = .ok (.goto (400), 3) := id_Mod_act_2 (111, .goto (400), 3) (List.mem_of_getElem? (i := 13) rfl)
theorem d_Mod_act_114 : decode prog_13_method_51_code 114 = .ok (.aload_n 0, 1) := id_Mod_act_2 (114, .aload_n 0, 1) (List.mem_of_getElem? (i := 14) rfl)
theorem d_Mod_act_115 : decode prog_13_method_51_code 115 = .ok (.getfield 220, 3) := id_Mod_act_2 (115, .getfield 220, 3) (List.mem_of_getElem? (i := 15) rfl)
theorem d_Mod_act_118 : decode prog_13_method_51_code 118 = .ok (.bipush (21), 2) := id_Mod_act_2 (118, .bipush (21), 2) (List.mem_of_getElem? (i := 16) rfl)
theorem d_Mod_act_120 : decode prog_13_method_51_code 120 = .ok (.if_icmp .gt (22), 3) := id_Mod_act_2 (120, .if_icmp .gt (22), 3) (List.mem_of_getElem? (i := 17) rfl)
theorem d_Mod_act_123 : decode prog_13_method_51_code 123 = .ok (.aload_n 0, 1) := id_Mod_act_2 (123, .aload_n 0, 1) (List.mem_of_getElem? (i := 18) rfl)
theorem d_Mod_act_124 : decode prog_13_method_51_code 124 = .ok (.getfield 67, 3) := id_Mod_act_2 (124, .getfield 67, 3) (List.mem_of_getElem? (i := 19) rfl)
theorem d_Mod_act_127 : decode prog_13_method_51_code 127 = .ok (.iload 7, 2) := id_Mod_act_2 (127, .iload 7, 2) (List.mem_of_getElem? (i := 20) rfl)
theorem d_Mod_act_129 : decode prog_13_method_51_code 129 = .ok (.aload_n 0, 1) := id_Mod_act_2 (129, .aload_n 0, 1) (List.mem_of_getElem? (i := 21) rfl)
theorem d_Mod_act_130 : decode prog_13_method_51_code 130 = .ok (.iload 5, 2) := id_Mod_act_2 (130, .iload 5, 2) (List.mem_of_getElem? (i := 22) rfl)
theorem d_Mod_act_132 : decode prog_13_method_51_code 132 = .ok (.iload 6, 2) := id_Mod_act_2 (132, .iload 6, 2) (List.mem_of_getElem? (i := 23) rfl)
def it_Mod_act_3 : List (Nat × ClassFile.Instr × Nat) := [(134, .iload_n 3, 1), (135, .invokevirtual 331, 3), (138, .iastore, 1), (139, .goto (372), 3), (142, .aload_n 0, 1), (143, .getfield 220, 3), (146, .bipush (33), 2), (148, .if_icmp .gt (99), 3), (151, .aload_n 0, 1), (152, .iload_n 3, 1), (153, .aload_n 0, 1), (154, .getfield 220, 3), (157, .bipush (30), 2), (159, .if_icmp .ne (18), 3), (162, .iload 5, 2), (164, .iload 6, 2), (166, .if_icmp .ge (7), 3), (169, .iconst 1, 1), (170, .goto (71), 3), (173, .iconst 0, 1), (174, .goto (67), 3), (177, .aload_n 0, 1), (178, .getfield 220, 3), (181, .bipush (31), 2)]
theorem id_Mod_act_3 : ∀ q ∈ it_Mod_act_3, decode prog_13_method_51_code q.1 = .ok q.2 := by decide +kernel
theorem d_Mod_act_134 : decode prog_13_method_51_code 134 = .ok (.iload_n 3, 1) := id_Mod_act_3 (134, .iload_n 3, 1) (List.mem_of_getElem? (i := 0) rfl)
theorem d_Mod_act_135 : decode prog_13_method_51_code 135 = .ok (.invokevirtual 331, 3) := id_Mod_act_3 (135, .invokevirtual 331, 3) (List.mem_of_getElem? (i := 1) rfl)
theorem d_Mod_act_138 : decode prog_13_method_51_code 138 = .ok (.iastore, 1) := id_Mod_act_3 (138, .iastore, 1) (List.mem_of_getElem? (i := 2) rfl)
theorem d_Mod_act_139 : decode prog_13_method_51_code 139 = .ok (.goto (372), 3) := id_Mod_act_3 (139, .goto (372), 3) (List.mem_of_getElem? (i := 3) rfl)
theorem d_Mod_act_142 : decode prog_13_method_51_code 142 = .ok (.aload_n 0, 1) := id_Mod_act_3 (142, .aload_n 0, 1) (List.mem_of_getElem? (i := 4) rfl)
theorem d_Mod_act_143 : decode prog_13_method_51_code 143 = .ok (.getfield 220, 3) := id_Mod_act_3 (143, .getfield 220, 3) (List.mem_of_getElem? (i := 5) rfl)
theorem d_Mod_act_146 : decode prog_13_method_51_code 146 = .ok (.bipush (33), 2) := id_Mod_act_3 (146, .bipush (33), 2) (List.mem_of_getElem? (i := 6) rfl)
theorem d_Mod_act_148 : decode prog_13_method_51_code 148 = .ok (.if_icmp .gt (99), 3) := id_Mod_act_3 (148, .if_icmp .gt (99), 3) (List.mem_of_getElem? (i := 7) rfl)
theorem d_Mod_act_151 : decode prog_13_method_51_code 151 = .ok (.aload_n 0, 1) := id_Mod_act_3 (151, .aload_n 0, 1) (List.mem_of_getElem? (i := 8) rfl)
theorem d_Mod_act_152 : decode prog_13_method_51_code 152 = .ok (.iload_n 3, 1) := id_Mod_act_3 (152, .iload_n 3, 1) (List.mem_of_getElem? (i := 9) rfl)
theorem d_Mod_act_153 : decode prog_13_method_51_code 153 = .ok (.aload_n 0, 1) := id_Mod_act_3 (153, .aload_n 0, 1) (List.mem_of_getElem? (i := 10) rfl)
theorem d_Mod_act_154 : decode prog_13_method_51_code 154 = .ok (.getfield 220, 3) := id_Mod_act_3 (154, .getfield 220, 3) (List.mem_of_getElem? (i := 11) rfl)
theorem d_Mod_act_157 : decode prog_13_method_51_code 157 = .ok (.bipush (30), 2) := id_Mod_act_3 (157, .bipush (30), 2) (List.mem_of_getElem? (i := 12) rfl)
theorem d_Mod_act_159 : decode prog_13_method_51_code 159 = .ok (.if_icmp .ne (18), 3) := id_Mod_act_3 (159, .if_icmp .ne (18), 3) (List.mem_of_getElem? (i := 13) rfl)
theorem d_Mod_act_162 : decode prog_13_method_51_code 162 = .ok (.iload 5, 2) := id_Mod_act_3 (162, .iload 5, 2) (List.mem_of_getElem? (i := 14) rfl)
theorem d_Mod_act_164 : decode prog_13_method_51_code 164 = .ok (.iload 6, 2) := id_Mod_act_3 (164, .iload 6, 2) (List.mem_of_getElem? (i := 15) rfl)
theorem d_Mod_act_166 : decode prog_13_method_51_code 166 = .ok (.if_icmp .ge (7), 3) := id_Mod_act_3 (166, .if_icmp .ge (7), 3) (List.mem_of_getElem? (i := 16) rfl)
theorem d_Mod_act_169 : decode prog_13_method_51_code 169 = .ok (.iconst 1, 1) := id_Mod_act_3 (169, .iconst 1, 1) (List.mem_of_getElem? (i := 17) rfl)
theorem d_Mod_act_170 : decode prog_13_method_51_code 170 = .ok (.goto (71), 3) := id_Mod_act_3 (170, .goto (71), 3) (List.mem_of_getElem? (i := 18) rfl)
theorem d_Mod_act_173 : decode prog_13_method_51_code 173 = .ok (.iconst 0, 1) := id_Mod_act_3 (173, .iconst 0, 1) (List.mem_of_getElem? (i := 19) rfl)
theorem d_Mod_act_174 : decode prog_13_method_51_code 174 = .ok (.goto (67), 3) := id_Mod_act_3 (174, .goto (67), 3) (List.mem_of_getElem? (i := 20) rfl)
theorem d_Mod_act_177 : decode prog_13_method_51_code 177 = .ok (.aload_n 0, 1) := id_Mod_act_3 (177, .aload_n 0, 1) (List.mem_of_getElem? (i := 21) rfl)
theorem d_Mod_act_178 : decode prog_13_method_51_code 178 = .ok (.getfield 220, 3) := id_Mod_act_3 (178, .getfield 220, 3) (List.mem_of_getElem? (i := 22) rfl)
theorem d_Mod_act_181 : decode prog_13_method_51_code 181 = .ok (.bipush (31), 2) := id_Mod_act_3 (181, .bipush (31), 2) (List.mem_of_getElem? (i := 23) rfl)
def it_Mod_act_4 : List (Nat × ClassFile.Instr × Nat) := [(183, .if_icmp .ne (18), 3), (186, .iload 5, 2), (188, .iload 6, 2), (190, .if_icmp .ne (7), 3), (193, .iconst 1, 1), (194, .goto (47), 3), (197, .iconst 0, 1), (198, .goto (43), 3), (201, .aload_n 0, 1), (202, .getfield 220, 3), (205, .bipush (32), 2), (207, .if_icmp .ne (20), 3), (210, .iload 5, 2), (212, .aload_n 0, 1), (213, .getfield 237, 3), (216, .if_icmp .ge (7), 3), (219, .iconst 1, 1), (220, .goto (21), 3), (223, .iconst 0, 1), (224, .goto (17), 3), (227, .iload 5, 2), (229, .aload_n 0, 1), (230, .getfield 237, 3), (233, .if_icmp .ne (7), 3)]
theorem id_Mod_act_4 : ∀ q ∈ it_Mod_act_4, decode prog_13_method_51_code q.1 = .ok q.2 := by decide +kernel
theorem d_Mod_act_183 : decode prog_13_method_51_code 183 = .ok (.if_icmp .ne (18), 3) := id_Mod_act_4 (183, .if_icmp .ne (18), 3) (List.mem_of_getElem? (i := 0) rfl)
theorem d_Mod_act_186 : decode prog_13_method_51_code 186 = .ok (.iload 5, 2) := id_Mod_act_4 (186, .iload 5, 2) (List.mem_of_getElem? (i := 1) rfl)
theorem d_Mod_act_188 : decode prog_13_method_51_code 188 = .ok (.iload 6, 2) := id_Mod_act_4 (188, .iload 6, 2) (List.mem_of_getElem? (i := 2) rfl)
theorem d_Mod_act_190 : decode prog_13_method_51_code 190 = .ok (.if_icmp .ne (7), 3) := id_Mod_act_4 (190, .if_icmp .ne (7), 3) (List.mem_of_getElem? (i := 3) rfl)
theorem d_Mod_act_193 : decode prog_13_method_51_code 193 = .ok (.iconst 1, 1) := id_Mod_act_4 (193, .iconst 1, 1) (List.mem_of_getElem? (i := 4) rfl)
theorem d_Mod_act_194 : decode prog_13_method_51_code 194 = .ok (.goto (47), 3) := id_Mod_act_4 (194, .goto (47), 3) (List.mem_of_getElem? (i := 5) rfl)
theorem d_Mod_act_197 : decode prog_13_method_51_code 197 = .ok (.iconst 0, 1) := id_Mod_act_4 (197, .iconst 0, 1) (List.mem_of_getElem? (i := 6) rfl)
theorem d_Mod_act_198 : decode prog_13_method_51_code 198 = .ok (.goto (43), 3) := id_Mod_act_4 (198, .goto (43), 3) (List.mem_of_getElem? (i := 7) rfl)
theorem d_Mod_act_201 : decode prog_13_method_51_code 201 = .ok (.aload_n 0, 1) := id_Mod_act_4 (201, .aload_n 0, 1) (List.mem_of_getElem? (i := 8) rfl)
theorem d_Mod_act_202 : decode prog_13_method_51_code 202 = .ok (.getfield 220, 3) := id_Mod_act_4 (202, .getfield 220, 3) (List.mem_of_getElem? (i := 9) rfl)
theorem d_Mod_act_205 : decode prog_13_method_51_code 205 = .ok (.bipush (32), 2) := id_Mod_act_4 (205, .bipush (32), 2) (List.mem_of_getElem? (i := 10) rfl)
theorem d_Mod_act_207 : decode prog_13_method_51_code 207 = .ok (.if_icmp .ne (20), 3) := id_Mod_act_4 (207, .if_icmp .ne (20), 3) (List.mem_of_getElem? (i := 11) rfl)
theorem d_Mod_act_210 : decode prog_13_method_51_code 210 = .ok (.iload 5, 2) := id_Mod_act_4 (210, .iload 5, 2) (List.mem_of_getElem? (i := 12) rfl)
theorem d_Mod_act_212 : decode prog_13_method_51_code 212 = .ok (.aload_n 0, 1) := id_Mod_act_4 (212, .aload_n 0, 1) (List.mem_of_getElem? (i := 13) rfl)
theorem d_Mod_act_213 : decode prog_13_method_51_code 213 = .ok (.getfield 237, 3) := id_Mod_act_4 (213, .getfield 237, 3) (List.mem_of_getElem? (i := 14) rfl)
theorem d_Mod_act_216 : decode prog_13_method_51_code 216 = .ok (.if_icmp .ge (7), 3) := id_Mod_act_4 (216, .if_icmp .ge (7), 3) (List.mem_of_getElem? (i := 15) rfl)
theorem d_Mod_act_219 : decode prog_13_method_51_code 219 = .ok (.iconst 1, 1) := id_Mod_act_4 (219, .iconst 1, 1) (List.mem_of_getElem? (i := 16) rfl)
theorem d_Mod_act_220 : decode prog_13_method_51_code 220 = .ok (.goto (21), 3) := id_Mod_act_4 (220, .goto (21), 3) (List.mem_of_getElem? (i := 17) rfl)
theorem d_Mod_act_223 : decode prog_13_method_51_code 223 = .ok (.iconst 0, 1) := id_Mod_act_4 (223, .iconst 0, 1) (List.mem_of_getElem? (i := 18) rfl)
theorem d_Mod_act_224 : decode prog_13_method_51_code 224 = .ok (.goto (17), 3) := id_Mod_act_4 (224, .goto (17), 3) (List.mem_of_getElem? (i := 19) rfl)
theorem d_Mod_act_227 : decode prog_13_method_51_code 227 = .ok (.iload 5, 2) := id_Mod_act_4 (227, .iload 5, 2) (List.mem_of_getElem? (i := 20) rfl)
theorem d_Mod_act_229 : decode prog_13_method_51_code 229 = .ok (.aload_n 0, 1) := id_Mod_act_4 (229, .aload_n 0, 1) (List.mem_of_getElem? (i := 21) rfl)
theorem d_Mod_act_230 : decode prog_13_method_51_code 230 = .ok (.getfield 237, 3) := id_Mod_act_4 (230, .getfield 237, 3) (List.mem_of_getElem? (i := 22) rfl)
theorem d_Mod_act_233 : decode prog_13_method_51_code 233 = .ok (.if_icmp .ne (7), 3) := id_Mod_act_4 (233, .if_icmp .ne (7), 3) (List.mem_of_getElem? (i := 23) rfl)
def it_Mod_act_5 : List (Nat × ClassFile.Instr × Nat) := [(236, .iconst 1, 1), (237, .goto (4), 3), (240, .iconst 0, 1), (241, .invokevirtual 335, 3), (244, .goto (267), 3), (247, .aload_n 0, 1), (248, .getfield 220, 3), (251, .bipush (36), 2), (253, .if_icmp .gt (110), 3), (256, .aload_n 0, 1), (257, .iload_n 3, 1), (258, .aload_n 0, 1), (259, .getfield 220, 3), (262, .bipush (34), 2), (264, .if_icmp .ne (35), 3), (267, .aload_n 0, 1), (268, .iload_n 3, 1), (269, .aload_n 0, 1), (270, .getfield 228, 3), (273, .invokevirtual 291, 3), (276, .ifCond .eq (19), 3), (279, .aload_n 0, 1), (280, .iload_n 3, 1), (281, .aload_n 0, 1)]
theorem id_Mod_act_5 : ∀ q ∈ it_Mod_act_5, decode prog_13_method_51_code q.1 = .ok q.2 := by decide +kernel
theorem d_Mod_act_236 : decode prog_13_method_51_code 236 = .ok (.iconst 1, 1) := id_Mod_act_5 (236, .iconst 1, 1) (List.mem_of_getElem? (i := 0) rfl)
theorem d_Mod_act_237 : decode prog_13_method_51_code 237 = .ok (.goto (4), 3) := id_Mod_act_5 (237, .goto (4), 3) (List.mem_of_getElem? (i := 1) rfl)
theorem d_Mod_act_240 : decode prog_13_method_51_code 240 = .ok (.iconst 0, 1) := id_Mod_act_5 (240, .iconst 0, 1) (List.mem_of_getElem? (i := 2) rfl)
theorem d_Mod_act_241 : decode prog_13_method_51_code 241 = .ok (.invokevirtual 335, 3) := id_Mod_act_5 (241, .invokevirtual 335, 3) (List.mem_of_getElem? (i := 3) rfl)
theorem d_Mod_act_244 : decode prog_13_method_51_code 244 = .ok (.goto (267), 3) := id_Mod_act_5 (244, .goto (267), 3) (List.mem_of_getElem? (i := 4) rfl)
theorem d_Mod_act_247 : decode prog_13_method_51_code 247 = .ok (.aload_n 0, 1) := id_Mod_act_5 (247, .aload_n 0, 1) (List.mem_of_getElem? (i := 5) rfl)
theorem d_Mod_act_248 : decode prog_13_method_51_code 248 = .ok (.getfield 220, 3) := id_Mod_act_5 (248, .getfield 220, 3) (List.mem_of_getElem? (i := 6) rfl)
theorem d_Mod_act_251 : decode prog_13_method_51_code 251 = .ok (.bipush (36), 2) := id_Mod_act_5 (251, .bipush (36), 2) (List.mem_of_getElem? (i := 7) rfl)
theorem d_Mod_act_253 : decode prog_13_method_51_code 253 = .ok (.if_icmp .gt (110), 3) := id_Mod_act_5 (253, .if_icmp .gt (110), 3) (List.mem_of_getElem? (i := 8) rfl)
theorem d_Mod_act_256 : decode prog_13_method_51_code 256 = .ok (.aload_n 0, 1) := id_Mod_act_5 (256, .aload_n 0, 1) (List.mem_of_getElem? (i := 9) rfl)
theorem d_Mod_act_257 : decode prog_13_method_51_code 257 = .ok (.iload_n 3, 1) := id_Mod_act_5 (257, .iload_n 3, 1) (List.mem_of_getElem? (i := 10) rfl)
theorem d_Mod_act_258 : decode prog_13_method_51_code 258 = .ok (.aload_n 0, 1) := id_Mod_act_5 (258, .aload_n 0, 1) (List.mem_of_getElem? (i := 11) rfl)
theorem d_Mod_act_259 : decode prog_13_method_51_code 259 = .ok (.getfield 220, 3) := id_Mod_act_5 (259, .getfield 220, 3) (List.mem_of_getElem? (i := 12) rfl)
theorem d_Mod_act_262 : decode prog_13_method_51_code 262 = .ok (.bipush (34), 2) := id_Mod_act_5 (262, .bipush (34), 2) (List.mem_of_getElem? (i := 13) rfl)
theorem d_Mod_act_264 : decode prog_13_method_51_code 264 = .ok (.if_icmp .ne (35), 3) := id_Mod_act_5 (264, .if_icmp .ne (35), 3) (List.mem_of_getElem? (i := 14) rfl)
theorem d_Mod_act_267 : decode prog_13_method_51_code 267 = .ok (.aload_n 0, 1) := id_Mod_act_5 (267, .aload_n 0, 1) (List.mem_of_getElem? (i := 15) rfl)
theorem d_Mod_act_268 : decode prog_13_method_51_code 268 = .ok (.iload_n 3, 1) := id_Mod_act_5 (268, .iload_n 3, 1) (List.mem_of_getElem? (i := 16) rfl)
theorem d_Mod_act_269 : decode prog_13_method_51_code 269 = .ok (.aload_n 0, 1) := id_Mod_act_5 (269, .aload_n 0, 1) (List.mem_of_getElem? (i := 17) rfl)
theorem d_Mod_act_270 : decode prog_13_method_51_code 270 = .ok (.getfield 228, 3) := id_Mod_act_5 (270, .getfield 228, 3) (List.mem_of_getElem? (i := 18) rfl)
theorem d_Mod_act_273 : decode prog_13_method_51_code 273 = .ok (.invokevirtual 291, 3) := id_Mod_act_5 (273, .invokevirtual 291, 3) (List.mem_of_getElem? (i := 19) rfl)
theorem d_Mod_act_276 : decode prog_13_method_51_code 276 = .ok (.ifCond .eq (19), 3) := id_Mod_act_5 (276, .ifCond .eq (19), 3) (List.mem_of_getElem? (i := 20) rfl)
theorem d_Mod_act_279 : decode prog_13_method_51_code 279 = .ok (.aload_n 0, 1) := id_Mod_act_5 (279, .aload_n 0, 1) (List.mem_of_getElem? (i := 21) rfl)
theorem d_Mod_act_280 : decode prog_13_method_51_code 280 = .ok (.iload_n 3, 1) := id_Mod_act_5 (280, .iload_n 3, 1) (List.mem_of_getElem? (i := 22) rfl)
theorem d_Mod_act_281 : decode prog_13_method_51_code 281 = .ok (.aload_n 0, 1) := id_Mod_act_5 (281, .aload_n 0, 1) (List.mem_of_getElem? (i := 23) rfl)
def it_Mod_act_6 : List (Nat × ClassFile.Instr × Nat) := [(282, .getfield 231, 3), (285, .invokevirtual 291, 3), (288, .ifCond .eq (7), 3), (291, .iconst 1, 1), (292, .goto (65), 3), (295, .iconst 0, 1), (296, .goto (61), 3), (299, .aload_n 0, 1), (300, .getfield 220, 3), (303, .bipush (35), 2), (305, .if_icmp .ne (35), 3), (308, .aload_n 0, 1), (309, .iload_n 3, 1), (310, .aload_n 0, 1), (311, .getfield 228, 3), (314, .invokevirtual 291, 3), (317, .ifCond .ne (15), 3), (320, .aload_n 0, 1), (321, .iload_n 3, 1), (322, .aload_n 0, 1), (323, .getfield 231, 3), (326, .invokevirtual 291, 3), (329, .ifCond .eq (7), 3), (332, .iconst 1, 1)]
theorem id_Mod_act_6 : ∀ q ∈ it_Mod_act_6, decode prog_13_method_51_code q.1 = .ok q.2 := by decide +kernel
theorem d_Mod_act_282 : decode prog_13_method_51_code 282 = .ok (.getfield 231, 3) := id_Mod_act_6 (282, .getfield 231, 3) (List.mem_of_getElem? (i := 0) rfl)
theorem d_Mod_act_285 : decode prog_13_method_51_code 285 = .ok (.invokevirtual 291, 3) := id_Mod_act_6 (285, .invokevirtual 291, 3) (List.mem_of_getElem? (i := 1) rfl)
theorem d_Mod_act_288 : decode prog_13_method_51_code 288 = .ok (.ifCond .eq (7), 3) := id_Mod_act_6 (288, .ifCond .eq (7), 3) (List.mem_of_getElem? (i := 2) rfl)
theorem d_Mod_act_291 : decode prog_13_method_51_code 291 = .ok (.iconst 1, 1) := id_Mod_act_6 (291, .iconst 1, 1) (List.mem_of_getElem? (i := 3) rfl)
theorem d_Mod_act_292 : decode prog_13_method_51_code 292 = .ok (.goto (65), 3) := id_Mod_act_6 (292, .goto (65), 3) (List.mem_of_getElem? (i := 4) rfl)
theorem d_Mod_act_295 : decode prog_13_method_51_code 295 = .ok (.iconst 0, 1) := id_Mod_act_6 (295, .iconst 0, 1) (List.mem_of_getElem? (i := 5) rfl)
theorem d_Mod_act_296 : decode prog_13_method_51_code 296 = .ok (.goto (61), 3) := id_Mod_act_6 (296, .goto (61), 3) (List.mem_of_getElem? (i := 6) rfl)
theorem d_Mod_act_299 : decode prog_13_method_51_code 299 = .ok (.aload_n 0, 1) := id_Mod_act_6 (299, .aload_n 0, 1) (List.mem_of_getElem? (i := 7) rfl)
theorem d_Mod_act_300 : decode prog_13_method_51_code 300 = .ok (.getfield 220, 3) := id_Mod_act_6 (300, .getfield 220, 3) (List.mem_of_getElem? (i := 8) rfl)
theorem d_Mod_act_303 : decode prog_13_method_51_code 303 = .ok (.bipush (35), 2) := id_Mod_act_6 (303, .bipush (35), 2) (List.mem_of_getElem? (i := 9) rfl)
theorem d_Mod_act_305 : decode prog_13_method_51_code 305 = .ok (.if_icmp .ne (35), 3) := id_Mod_act_6 (305, .if_icmp .ne (35), 3) (List.mem_of_getElem? (i := 10) rfl)
theorem d_Mod_act_308 : decode prog_13_method_51_code 308 = .ok (.aload_n 0, 1) := id_Mod_act_6 (308, .aload_n 0, 1) (List.mem_of_getElem? (i := 11) rfl)
theorem d_Mod_act_309 : decode prog_13_method_51_code 309 = .ok (.iload_n 3, 1) := id_Mod_act_6 (309, .iload_n 3, 1) (List.mem_of_getElem? (i := 12) rfl)
theorem d_Mod_act_310 : decode prog_13_method_51_code 310 = .ok (.aload_n 0, 1) := id_Mod_act_6 (310, .aload_n 0, 1) (List.mem_of_getElem? (i := 13) rfl)
theorem d_Mod_act_311 : decode prog_13_method_51_code 311 = .ok (.getfield 228, 3) := id_Mod_act_6 (311, .getfield 228, 3) (List.mem_of_getElem? (i := 14) rfl)
theorem d_Mod_act_314 : decode prog_13_method_51_code 314 = .ok (.invokevirtual 291, 3) := id_Mod_act_6 (314, .invokevirtual 291, 3) (List.mem_of_getElem? (i := 15) rfl)
theorem d_Mod_act_317 : decode prog_13_method_51_code 317 = .ok (.ifCond .ne (15), 3) := id_Mod_act_6 (317, .ifCond .ne (15), 3) (List.mem_of_getElem? (i := 16) rfl)
theorem d_Mod_act_320 : decode prog_13_method_51_code 320 = .ok (.aload_n 0, 1) := id_Mod_act_6 (320, .aload_n 0, 1) (List.mem_of_getElem? (i := 17) rfl)
theorem d_Mod_act_321 : decode prog_13_method_51_code 321 = .ok (.iload_n 3, 1) := id_Mod_act_6 (321, .iload_n 3, 1) (List.mem_of_getElem? (i := 18) rfl)
theorem d_Mod_act_322 : decode prog_13_method_51_code 322 = .ok (.aload_n 0, 1) := id_Mod_act_6 (322, .aload_n 0, 1) (List.mem_of_getElem? (i := 19) rfl)
theorem d_Mod_act_323 : decode prog_13_method_51_code 323 = .ok (.getfield 231, 3) := id_Mod_act_6 (323, .getfield 231, 3) (List.mem_of_getElem? (i := 20) rfl)
theorem d_Mod_act_326 : decode prog_13_method_51_code 326 = .ok (.invokevirtual 291, 3) := id_Mod_act_6 (326, .invokevirtual 291, 3) (List.mem_of_getElem? (i := 21) rfl)
theorem d_Mod_act_329 : decode prog_13_method_51_code 329 = .ok (.ifCond .eq (7), 3) := id_Mod_act_6 (329, .ifCond .eq (7), 3) (List.mem_of_getElem? (i := 22) rfl)
theorem d_Mod_act_332 : decode prog_13_method_51_code 332 = .ok (.iconst 1, 1) := id_Mod_act_6 (332, .iconst 1, 1) (List.mem_of_getElem? (i := 23) rfl)
def it_Mod_act_7 : List (Nat × ClassFile.Instr × Nat) := [(333, .goto (24), 3), (336, .iconst 0, 1), (337, .goto (20), 3), (340, .aload_n 0, 1), (341, .iload_n 3, 1), (342, .aload_n 0, 1), (343, .getfield 228, 3), (346, .invokevirtual 291, 3), (349, .ifCond .ne (7), 3), (352, .iconst 1, 1), (353, .goto (4), 3), (356, .iconst 0, 1), (357, .invokevirtual 335, 3), (360, .goto (151), 3), (363, .aload_n 0, 1), (364, .getfield 220, 3), (367, .bipush (42), 2), (369, .if_icmp .gt (17), 3), (372, .aload_n 0, 1), (373, .iload_n 3, 1), (374, .iload 7, 2), (376, .iload 5, 2), (378, .iload 4, 2), (380, .invokevirtual 339, 3)]
theorem id_Mod_act_7 : ∀ q ∈ it_Mod_act_7, decode prog_13_method_51_code q.1 = .ok q.2 := by decide +kernel
theorem d_Mod_act_333 : decode prog_13_method_51_code 333 = .ok (.goto (24), 3) := id_Mod_act_7 (333, .goto (24), 3) (List.mem_of_getElem? (i := 0) rfl)
theorem d_Mod_act_336 : decode prog_13_method_51_code 336 = .ok (.iconst 0, 1) := id_Mod_act_7 (336, .iconst 0, 1) (List.mem_of_getElem? (i := 1) rfl)
theorem d_Mod_act_337 : decode prog_13_method_51_code 337 = .ok (.goto (20), 3) := id_Mod_act_7 (337, .goto (20), 3) (List.mem_of_getElem? (i := 2) rfl)
theorem d_Mod_act_340 : decode prog_13_method_51_code 340 = .ok (.aload_n 0, 1) := id_Mod_act_7 (340, .aload_n 0, 1) (List.mem_of_getElem? (i := 3) rfl)
theorem d_Mod_act_341 : decode prog_13_method_51_code 341 = .ok (.iload_n 3, 1) := id_Mod_act_7 (341, .iload_n 3, 1) (List.mem_of_getElem? (i := 4) rfl)
theorem d_Mod_act_342 : decode prog_13_method_51_code 342 = .ok (.aload_n 0, 1) := id_Mod_act_7 (342, .aload_n 0, 1) (List.mem_of_getElem? (i := 5) rfl)
theorem d_Mod_act_343 : decode prog_13_method_51_code 343 = .ok (.getfield 228, 3) := id_Mod_act_7 (343, .getfield 228, 3) (List.mem_of_getElem? (i := 6) rfl)
theorem d_Mod_act_346 : decode prog_13_method_51_code 346 = .ok (.invokevirtual 291, 3) := id_Mod_act_7 (346, .invokevirtual 291, 3) (List.mem_of_getElem? (i := 7) rfl)
theorem d_Mod_act_349 : decode prog_13_method_51_code 349 = .ok (.ifCond .ne (7), 3) := id_Mod_act_7 (349, .ifCond .ne (7), 3) (List.mem_of_getElem? (i := 8) rfl)
theorem d_Mod_act_352 : decode prog_13_method_51_code 352 = .ok (.iconst 1, 1) := id_Mod_act_7 (352, .iconst 1, 1) (List.mem_of_getElem? (i := 9) rfl)
theorem d_Mod_act_353 : decode prog_13_method_51_code 353 = .ok (.goto (4), 3) := id_Mod_act_7 (353, .goto (4), 3) (List.mem_of_getElem? (i := 10) rfl)
theorem d_Mod_act_356 : decode prog_13_method_51_code 356 = .ok (.iconst 0, 1) := id_Mod_act_7 (356, .iconst 0, 1) (List.mem_of_getElem? (i := 11) rfl)
theorem d_Mod_act_357 : decode prog_13_method_51_code 357 = .ok (.invokevirtual 335, 3) := id_Mod_act_7 (357, .invokevirtual 335, 3) (List.mem_of_getElem? (i := 12) rfl)
theorem d_Mod_act_360 : decode prog_13_method_51_code 360 = .ok (.goto (151), 3) := id_Mod_act_7 (360, .goto (151), 3) (List.mem_of_getElem? (i := 13) rfl)
theorem d_Mod_act_363 : decode prog_13_method_51_code 363 = .ok (.aload_n 0, 1) := id_Mod_act_7 (363, .aload_n 0, 1) (List.mem_of_getElem? (i := 14) rfl)
theorem d_Mod_act_364 : decode prog_13_method_51_code 364 = .ok (.getfield 220, 3) := id_Mod_act_7 (364, .getfield 220, 3) (List.mem_of_getElem? (i := 15) rfl)
theorem d_Mod_act_367 : decode prog_13_method_51_code 367 = .ok (.bipush (42), 2) := id_Mod_act_7 (367, .bipush (42), 2) (List.mem_of_getElem? (i := 16) rfl)
theorem d_Mod_act_369 : decode prog_13_method_51_code 369 = .ok (.if_icmp .gt (17), 3) := id_Mod_act_7 (369, .if_icmp .gt (17), 3) (List.mem_of_getElem? (i := 17) rfl)
theorem d_Mod_act_372 : decode prog_13_method_51_code 372 = .ok (.aload_n 0, 1) := id_Mod_act_7 (372, .aload_n 0, 1) (List.mem_of_getElem? (i := 18) rfl)
theorem d_Mod_act_373 : decode prog_13_method_51_code 373 = .ok (.iload_n 3, 1) := id_Mod_act_7 (373, .iload_n 3, 1) (List.mem_of_getElem? (i := 19) rfl)
theorem d_Mod_act_374 : decode prog_13_method_51_code 374 = .ok (.iload 7, 2) := id_Mod_act_7 (374, .iload 7, 2) (List.mem_of_getElem? (i := 20) rfl)
theorem d_Mod_act_376 : decode prog_13_method_51_code 376 = .ok (.iload 5, 2) := id_Mod_act_7 (376, .iload 5, 2) (List.mem_of_getElem? (i := 21) rfl)
theorem d_Mod_act_378 : decode prog_13_method_51_code 378 = .ok (.iload 4, 2) := id_Mod_act_7 (378, .iload 4, 2) (List.mem_of_getElem? (i := 22) rfl)
theorem d_Mod_act_380 : decode prog_13_method_51_code 380 = .ok (.invokevirtual 339, 3) := id_Mod_act_7 (380, .invokevirtual 339, 3) (List.mem_of_getElem? (i := 23) rfl)
def it_Mod_act_8 : List (Nat × ClassFile.Instr × Nat) := [(383, .goto (128), 3), (386, .aload_n 0, 1), (387, .invokevirtual 240, 3), (390, .ifCond .eq (35), 3), (393, .aload_n 0, 1), (394, .invokevirtual 275, 3), (397, .ifCond .ne (28), 3), (400, .aload_n 0, 1), (401, .iload_n 1, 1), (402, .iload_n 2, 1), (403, .iload 5, 2), (405, .aload_n 0, 1), (406, .getfield 237, 3), (409, .iadd, 1), (410, .iload 6, 2), (412, .aload_n 0, 1), (413, .getfield 67, 3), (416, .iload 7, 2), (418, .iaload, 1), (419, .invokevirtual 342, 3), (422, .goto (89), 3), (425, .aload_n 0, 1), (426, .getfield 220, 3), (429, .bipush (59), 2)]
theorem id_Mod_act_8 : ∀ q ∈ it_Mod_act_8, decode prog_13_method_51_code q.1 = .ok q.2 := by decide +kernel
theorem d_Mod_act_383 : decode prog_13_method_51_code 383 = .ok (.goto (128), 3) := id_Mod_act_8 (383, .goto (128), 3) (List.mem_of_getElem? (i := 0) rfl)
theorem d_Mod_act_386 : decode prog_13_method_51_code 386 = .ok (.aload_n 0, 1) := id_Mod_act_8 (386, .aload_n 0, 1) (List.mem_of_getElem? (i := 1) rfl)
theorem d_Mod_act_387 : decode prog_13_method_51_code 387 = .ok (.invokevirtual 240, 3) := id_Mod_act_8 (387, .invokevirtual 240, 3) (List.mem_of_getElem? (i := 2) rfl)
theorem d_Mod_act_390 : decode prog_13_method_51_code 390 = .ok (.ifCond .eq (35), 3) := id_Mod_act_8 (390, .ifCond .eq (35), 3) (List.mem_of_getElem? (i := 3) rfl)
theorem d_Mod_act_393 : decode prog_13_method_51_code 393 = .ok (.aload_n 0, 1) := id_Mod_act_8 (393, .aload_n 0, 1) (List.mem_of_getElem? (i := 4) rfl)
theorem d_Mod_act_394 : decode prog_13_method_51_code 394 = .ok (.invokevirtual 275, 3) := id_Mod_act_8 (394, .invokevirtual 275, 3) (List.mem_of_getElem? (i := 5) rfl)
theorem d_Mod_act_397 : decode prog_13_method_51_code 397 = .ok (.ifCond .ne (28), 3) := id_Mod_act_8 (397, .ifCond .ne (28), 3) (List.mem_of_getElem? (i := 6) rfl)
theorem d_Mod_act_400 : decode prog_13_method_51_code 400 = .ok (.aload_n 0, 1) := id_Mod_act_8 (400, .aload_n 0, 1) (List.mem_of_getElem? (i := 7) rfl)
theorem d_Mod_act_401 : decode prog_13_method_51_code 401 = .ok (.iload_n 1, 1) := id_Mod_act_8 (401, .iload_n 1, 1) (List.mem_of_getElem? (i := 8) rfl)
theorem d_Mod_act_402 : decode prog_13_method_51_code 402 = .ok (.iload_n 2, 1) := id_Mod_act_8 (402, .iload_n 2, 1) (List.mem_of_getElem? (i := 9) rfl)
theorem d_Mod_act_403 : decode prog_13_method_51_code 403 = .ok (.iload 5, 2) := id_Mod_act_8 (403, .iload 5, 2) (List.mem_of_getElem? (i := 10) rfl)
theorem d_Mod_act_405 : decode prog_13_method_51_code 405 = .ok (.aload_n 0, 1) := id_Mod_act_8 (405, .aload_n 0, 1) (List.mem_of_getElem? (i := 11) rfl)
theorem d_Mod_act_406 : decode prog_13_method_51_code 406 = .ok (.getfield 237, 3) := id_Mod_act_8 (406, .getfield 237, 3) (List.mem_of_getElem? (i := 12) rfl)
theorem d_Mod_act_409 : decode prog_13_method_51_code 409 = .ok (.iadd, 1) := id_Mod_act_8 (409, .iadd, 1) (List.mem_of_getElem? (i := 13) rfl)
theorem d_Mod_act_410 : decode prog_13_method_51_code 410 = .ok (.iload 6, 2) := id_Mod_act_8 (410, .iload 6, 2) (List.mem_of_getElem? (i := 14) rfl)
theorem d_Mod_act_412 : decode prog_13_method_51_code 412 = .ok (.aload_n 0, 1) := id_Mod_act_8 (412, .aload_n 0, 1) (List.mem_of_getElem? (i := 15) rfl)
theorem d_Mod_act_413 : decode prog_13_method_51_code 413 = .ok (.getfield 67, 3) := id_Mod_act_8 (413, .getfield 67, 3) (List.mem_of_getElem? (i := 16) rfl)
theorem d_Mod_act_416 : decode prog_13_method_51_code 416 = .ok (.iload 7, 2) := id_Mod_act_8 (416, .iload 7, 2) (List.mem_of_getElem? (i := 17) rfl)
theorem d_Mod_act_418 : decode prog_13_method_51_code 418 = .ok (.iaload, 1) := id_Mod_act_8 (418, .iaload, 1) (List.mem_of_getElem? (i := 18) rfl)
theorem d_Mod_act_419 : decode prog_13_method_51_code 419 = .ok (.invokevirtual 342, 3) := id_Mod_act_8 (419, .invokevirtual 342, 3) (List.mem_of_getElem? (i := 19) rfl)
theorem d_Mod_act_422 : decode prog_13_method_51_code 422 = .ok (.goto (89), 3) := id_Mod_act_8 (422, .goto (89), 3) (List.mem_of_getElem? (i := 20) rfl)
theorem d_Mod_act_425 : decode prog_13_method_51_code 425 = .ok (.aload_n 0, 1) := id_Mod_act_8 (425, .aload_n 0, 1) (List.mem_of_getElem? (i := 21) rfl)
theorem d_Mod_act_426 : decode prog_13_method_51_code 426 = .ok (.getfield 220, 3) := id_Mod_act_8 (426, .getfield 220, 3) (List.mem_of_getElem? (i := 22) rfl)
theorem d_Mod_act_429 : decode prog_13_method_51_code 429 = .ok (.bipush (59), 2) := id_Mod_act_8 (429, .bipush (59), 2) (List.mem_of_getElem? (i := 23) rfl)
def it_Mod_act_9 : List (Nat × ClassFile.Instr × Nat) := [(431, .if_icmp .gt (22), 3), (434, .aload_n 0, 1), (435, .iload_n 1, 1), (436, .iload 7, 2), (438, .iload 5, 2), (440, .aload_n 0, 1), (441, .getfield 237, 3), (444, .iadd, 1), (445, .iload 6, 2), (447, .invokevirtual 346, 3), (450, .goto (61), 3), (453, .aload_n 0, 1), (454, .getfield 220, 3), (457, .bipush (71), 2), (459, .if_icmp .gt (24), 3), (462, .aload_n 0, 1), (463, .iload_n 3, 1), (464, .aload_n 0, 1), (465, .getfield 325, 3), (468, .iconst 1, 1), (469, .if_icmp .ne (7), 3), (472, .iconst 1, 1), (473, .goto (4), 3), (476, .iconst 0, 1)]
theorem id_Mod_act_9 : ∀ q ∈ it_Mod_act_9, decode prog_13_method_51_code q.1 = .ok q.2 := by decide +kernel
theorem d_Mod_act_431 : decode prog_13_method_51_code 431 = .ok (.if_icmp .gt (22), 3) := id_Mod_act_9 (431, .if_icmp .gt (22), 3) (List.mem_of_getElem? (i := 0) rfl)
theorem d_Mod_act_434 : decode prog_13_method_51_code 434 = .ok (.aload_n 0, 1) := id_Mod_act_9 (434, .aload_n 0, 1) (List.mem_of_getElem? (i := 1) rfl)
theorem d_Mod_act_435 : decode prog_13_method_51_code 435 = .ok (.iload_n 1, 1) := id_Mod_act_9 (435, .iload_n 1, 1) (List.mem_of_getElem? (i := 2) rfl)
theorem d_Mod_act_436 : decode prog_13_method_51_code 436 = .ok (.iload 7, 2) := id_Mod_act_9 (436, .iload 7, 2) (List.mem_of_getElem? (i := 3) rfl)
theorem d_Mod_act_438 : decode prog_13_method_51_code 438 = .ok (.iload 5, 2) := id_Mod_act_9 (438, .iload 5, 2) (List.mem_of_getElem? (i := 4) rfl)
theorem d_Mod_act_440 : decode prog_13_method_51_code 440 = .ok (.aload_n 0, 1) := id_Mod_act_9 (440, .aload_n 0, 1) (List.mem_of_getElem? (i := 5) rfl)
theorem d_Mod_act_441 : decode prog_13_method_51_code 441 = .ok (.getfield 237, 3) := id_Mod_act_9 (441, .getfield 237, 3) (List.mem_of_getElem? (i := 6) rfl)
theorem d_Mod_act_444 : decode prog_13_method_51_code 444 = .ok (.iadd, 1) := id_Mod_act_9 (444, .iadd, 1) (List.mem_of_getElem? (i := 7) rfl)
theorem d_Mod_act_445 : decode prog_13_method_51_code 445 = .ok (.iload 6, 2) := id_Mod_act_9 (445, .iload 6, 2) (List.mem_of_getElem? (i := 8) rfl)
theorem d_Mod_act_447 : decode prog_13_method_51_code 447 = .ok (.invokevirtual 346, 3) := id_Mod_act_9 (447, .invokevirtual 346, 3) (List.mem_of_getElem? (i := 9) rfl)
theorem d_Mod_act_450 : decode prog_13_method_51_code 450 = .ok (.goto (61), 3) := id_Mod_act_9 (450, .goto (61), 3) (List.mem_of_getElem? (i := 10) rfl)
theorem d_Mod_act_453 : decode prog_13_method_51_code 453 = .ok (.aload_n 0, 1) := id_Mod_act_9 (453, .aload_n 0, 1) (List.mem_of_getElem? (i := 11) rfl)
theorem d_Mod_act_454 : decode prog_13_method_51_code 454 = .ok (.getfield 220, 3) := id_Mod_act_9 (454, .getfield 220, 3) (List.mem_of_getElem? (i := 12) rfl)
theorem d_Mod_act_457 : decode prog_13_method_51_code 457 = .ok (.bipush (71), 2) := id_Mod_act_9 (457, .bipush (71), 2) (List.mem_of_getElem? (i := 13) rfl)
theorem d_Mod_act_459 : decode prog_13_method_51_code 459 = .ok (.if_icmp .gt (24), 3) := id_Mod_act_9 (459, .if_icmp .gt (24), 3) (List.mem_of_getElem? (i := 14) rfl)
theorem d_Mod_act_462 : decode prog_13_method_51_code 462 = .ok (.aload_n 0, 1) := id_Mod_act_9 (462, .aload_n 0, 1) (List.mem_of_getElem? (i := 15) rfl)
theorem d_Mod_act_463 : decode prog_13_method_51_code 463 = .ok (.iload_n 3, 1) := id_Mod_act_9 (463, .iload_n 3, 1) (List.mem_of_getElem? (i := 16) rfl)
theorem d_Mod_act_464 : decode prog_13_method_51_code 464 = .ok (.aload_n 0, 1) := id_Mod_act_9 (464, .aload_n 0, 1) (List.mem_of_getElem? (i := 17) rfl)
theorem d_Mod_act_465 : decode prog_13_method_51_code 465 = .ok (.getfield 325, 3) := id_Mod_act_9 (465, .getfield 325, 3) (List.mem_of_getElem? (i := 18) rfl)
theorem d_Mod_act_468 : decode prog_13_method_51_code 468 = .ok (.iconst 1, 1) := id_Mod_act_9 (468, .iconst 1, 1) (List.mem_of_getElem? (i := 19) rfl)
theorem d_Mod_act_469 : decode prog_13_method_51_code 469 = .ok (.if_icmp .ne (7), 3) := id_Mod_act_9 (469, .if_icmp .ne (7), 3) (List.mem_of_getElem? (i := 20) rfl)
theorem d_Mod_act_472 : decode prog_13_method_51_code 472 = .ok (.iconst 1, 1) := id_Mod_act_9 (472, .iconst 1, 1) (List.mem_of_getElem? (i := 21) rfl)
theorem d_Mod_act_473 : decode prog_13_method_51_code 473 = .ok (.goto (4), 3) := id_Mod_act_9 (473, .goto (4), 3) (List.mem_of_getElem? (i := 22) rfl)
theorem d_Mod_act_476 : decode prog_13_method_51_code 476 = .ok (.iconst 0, 1) := id_Mod_act_9 (476, .iconst 0, 1) (List.mem_of_getElem? (i := 23) rfl)
def it_Mod_act_10 : List (Nat × ClassFile.Instr × Nat) := [(477, .invokevirtual 335, 3), (480, .goto (31), 3), (483, .aload_n 0, 1), (484, .getfield 67, 3), (487, .iload 7, 2), (489, .aload_n 0, 1), (490, .getfield 220, 3), (493, .bipush (72), 2), (495, .if_icmp .ne (10), 3), (498, .aload_n 0, 1), (499, .getfield 325, 3), (502, .goto (8), 3), (505, .aload_n 0, 1), (506, .iload_n 2, 1), (507, .invokevirtual 349, 3), (510, .iastore, 1), (511, .return_, 1)]
theorem id_Mod_act_10 : ∀ q ∈ it_Mod_act_10, decode prog_13_method_51_code q.1 = .ok q.2 := by decide +kernel
theorem d_Mod_act_477 : decode prog_13_method_51_code 477 = .ok (.invokevirtual 335, 3) := id_Mod_act_10 (477, .invokevirtual 335, 3) (List.mem_of_getElem? (i := 0) rfl)
theorem d_Mod_act_480 : decode prog_13_method_51_code 480 = .ok (.goto (31), 3) := id_Mod_act_10 (480, .goto (31), 3) (List.mem_of_getElem? (i := 1) rfl)
theorem d_Mod_act_483 : decode prog_13_method_51_code 483 = .ok (.aload_n 0, 1) := id_Mod_act_10 (483, .aload_n 0, 1) (List.mem_of_getElem? (i := 2) rfl)
theorem d_Mod_act_484 : decode prog_13_method_51_code 484 = .ok (.getfield 67, 3) := id_Mod_act_10 (484, .getfield 67, 3) (List.mem_of_getElem? (i := 3) rfl)
theorem d_Mod_act_487 : decode prog_13_method_51_code 487 = .ok (.iload 7, 2) := id_Mod_act_10 (487, .iload 7, 2) (List.mem_of_getElem? (i := 4) rfl)
theorem d_Mod_act_489 : decode prog_13_method_51_code 489 = .ok (.aload_n 0, 1) := id_Mod_act_10 (489, .aload_n 0, 1) (List.mem_of_getElem? (i := 5) rfl)
theorem d_Mod_act_490 : decode prog_13_method_51_code 490 = .ok (.getfield 220, 3) := id_Mod_act_10 (490, .getfield 220, 3) (List.mem_of_getElem? (i := 6) rfl)
theorem d_Mod_act_493 : decode prog_13_method_51_code 493 = .ok (.bipush (72), 2) := id_Mod_act_10 (493, .bipush (72), 2) (List.mem_of_getElem? (i := 7) rfl)
theorem d_Mod_act_495 : decode prog_13_method_51_code 495 = .ok (.if_icmp .ne (10), 3) := id_Mod_act_10 (495, .if_icmp .ne (10), 3) (List.mem_of_getElem? (i := 8) rfl)
theorem d_Mod_act_498 : decode prog_13_method_51_code 498 = .ok (.aload_n 0, 1) := id_Mod_act_10 (498, .aload_n 0, 1) (List.mem_of_getElem? (i := 9) rfl)
theorem d_Mod_act_499 : decode prog_13_method_51_code 499 = .ok (.getfield 325, 3) := id_Mod_act_10 (499, .getfield 325, 3) (List.mem_of_getElem? (i := 10) rfl)
theorem d_Mod_act_502 : decode prog_13_method_51_code 502 = .ok (.goto (8), 3) := id_Mod_act_10 (502, .goto (8), 3) (List.mem_of_getElem? (i := 11) rfl)
theorem d_Mod_act_505 : decode prog_13_method_51_code 505 = .ok (.aload_n 0, 1) := id_Mod_act_10 (505, .aload_n 0, 1) (List.mem_of_getElem? (i := 12) rfl)
theorem d_Mod_act_506 : decode prog_13_method_51_code 506 = .ok (.iload_n 2, 1) := id_Mod_act_10 (506, .iload_n 2, 1) (List.mem_of_getElem? (i := 13) rfl)
theorem d_Mod_act_507 : decode prog_13_method_51_code 507 = .ok (.invokevirtual 349, 3) := id_Mod_act_10 (507, .invokevirtual 349, 3) (List.mem_of_getElem? (i := 14) rfl)
theorem d_Mod_act_510 : decode prog_13_method_51_code 510 = .ok (.iastore, 1) := id_Mod_act_10 (510, .iastore, 1) (List.mem_of_getElem? (i := 15) rfl)
theorem d_Mod_act_511 : decode prog_13_method_51_code 511 = .ok (.return_, 1) := id_Mod_act_10 (511, .return_, 1) (List.mem_of_getElem? (i := 16) rfl)
theorem wC_Mod_act : Cond.code ⟨"WarpMillModel", "act", "(IIII)V"⟩ prog_13_method_51_code 8 (none) ∈ lw_tb := mem_tb 1440 (by decide +kernel) rfl
theorem cw_Mod_act_Mod_reg : cW mi_Mod_act mi_Mod_reg 2 := ⟨wC_Mod_reg, wi_Mod, ⟨by decide, by decide, by decide +kernel⟩, by decide, by decide⟩
theorem cw_Mod_act_Mod_told : cW mi_Mod_act mi_Mod_told 2 := ⟨wC_Mod_told, wi_Mod, ⟨by decide, by decide, by decide +kernel⟩, by decide, by decide⟩
theorem cw_Mod_act_Mod_reckon : cW mi_Mod_act mi_Mod_reckon 3 := ⟨wC_Mod_reckon, wi_Mod, ⟨by decide, by decide, by decide +kernel⟩, by decide, by decide⟩
theorem cw_Mod_act_Mod_say : cW mi_Mod_act mi_Mod_say 2 := ⟨wC_Mod_say, wi_Mod, ⟨by decide, by decide, by decide +kernel⟩, by decide, by decide⟩
theorem cw_Mod_act_Mod_has : cW mi_Mod_act mi_Mod_has 2 := ⟨wC_Mod_has, wi_Mod, ⟨by decide, by decide, by decide +kernel⟩, by decide, by decide⟩
theorem cw_Mod_act_Mod_jump : cW mi_Mod_act mi_Mod_jump 4 := ⟨wC_Mod_jump, wi_Mod, ⟨by decide, by decide, by decide +kernel⟩, by decide, by decide⟩
theorem cw_Mod_act_Mod_isMemory : cW mi_Mod_act mi_Mod_isMemory 0 := ⟨wC_Mod_isMemory, wi_Mod, ⟨by decide, by decide, by decide +kernel⟩, by decide, by decide⟩
theorem cw_Mod_act_Mod_isShared : cW mi_Mod_act mi_Mod_isShared 0 := ⟨wC_Mod_isShared, wi_Mod, ⟨by decide, by decide, by decide +kernel⟩, by decide, by decide⟩
theorem cw_Mod_act_Mod_ask : cW mi_Mod_act mi_Mod_ask 5 := ⟨wC_Mod_ask, wi_Mod, ⟨by decide, by decide, by decide +kernel⟩, by decide, by decide⟩
theorem cw_Mod_act_Mod_touch : cW mi_Mod_act mi_Mod_touch 4 := ⟨wC_Mod_touch, wi_Mod, ⟨by decide, by decide, by decide +kernel⟩, by decide, by decide⟩
theorem cw_Mod_act_Mod_from : cW mi_Mod_act mi_Mod_from 1 := ⟨wC_Mod_from, wi_Mod, ⟨by decide, by decide, by decide +kernel⟩, by decide, by decide⟩
def b_Mod_act_241 (F : Nat) (s0 : Nat) (s1 : Int32) (s2 : Int32) (h : Hp) : Option Hp := gd (hK h s0 = 12) <| clv (f_Mod_say F s0 s1 s2 h) fun h_241_2 => some h_241_2
set_option maxRecDepth 100000 in
set_option maxHeartbeats 4000000 in
theorem e_Mod_act_241 {G : Gl} (hw : gF G) {h0 : Hp} {F : Nat} {h' : Hp}   {s0 : Nat} {s1 : Int32} {s2 : Int32} {h : Hp} (hf : b_Mod_act_241 F s0 s1 s2 h = some h') : Go G mi_Mod_act h0 (pV h') h 241 [] [.int s2, .int s1, .ref s0] := by
  unfold b_Mod_act_241 at hf
  obtain ⟨k_241, hf⟩ := gd_s hf
  obtain ⟨h_241_2, e_241_2, hf⟩ := clv_s hf
  refine g_callV (mz := mi_Mod_say) (e_Mod_say hw e_241_2) cw_Mod_act_Mod_say lm_Mod_335 wI_Mod_say wV_Mod_say (ci := 11) k_241 (by decide) rfl rfl d_Mod_act_241 rfl rfl (by first | exact Nat.le_of_ble_eq_true rfl | simp [cat_rf, Value.category]) (fun r1 h1 hp hro => ?_)
  obtain ⟨rfl, rfl⟩ := hp
  dsimp only [Option.toList_some, Option.toList_none, List.cons_append, List.nil_append]
  refine g_goto 511 d_Mod_act_244 (by decide) ?_
  exact Go.ret none trivial rfl d_Mod_act_511 (pV_of hf)
def b_Mod_act_357 (F : Nat) (s0 : Nat) (s1 : Int32) (s2 : Int32) (h : Hp) : Option Hp := gd (hK h s0 = 12) <| clv (f_Mod_say F s0 s1 s2 h) fun h_357_2 => some h_357_2
set_option maxRecDepth 100000 in
set_option maxHeartbeats 4000000 in
theorem e_Mod_act_357 {G : Gl} (hw : gF G) {h0 : Hp} {F : Nat} {h' : Hp}   {s0 : Nat} {s1 : Int32} {s2 : Int32} {h : Hp} (hf : b_Mod_act_357 F s0 s1 s2 h = some h') : Go G mi_Mod_act h0 (pV h') h 357 [] [.int s2, .int s1, .ref s0] := by
  unfold b_Mod_act_357 at hf
  obtain ⟨k_357, hf⟩ := gd_s hf
  obtain ⟨h_357_2, e_357_2, hf⟩ := clv_s hf
  refine g_callV (mz := mi_Mod_say) (e_Mod_say hw e_357_2) cw_Mod_act_Mod_say lm_Mod_335 wI_Mod_say wV_Mod_say (ci := 11) k_357 (by decide) rfl rfl d_Mod_act_357 rfl rfl (by first | exact Nat.le_of_ble_eq_true rfl | simp [cat_rf, Value.category]) (fun r1 h1 hp hro => ?_)
  obtain ⟨rfl, rfl⟩ := hp
  dsimp only [Option.toList_some, Option.toList_none, List.cons_append, List.nil_append]
  refine g_goto 511 d_Mod_act_360 (by decide) ?_
  exact Go.ret none trivial rfl d_Mod_act_511 (pV_of hf)
def b_Mod_act_295 (F : Nat) (s0 : Nat) (s1 : Int32) (h : Hp) : Option Hp := b_Mod_act_357 F s0 s1 (0 : Int32) h
set_option maxRecDepth 100000 in
set_option maxHeartbeats 4000000 in
theorem e_Mod_act_295 {G : Gl} (hw : gF G) {h0 : Hp} {F : Nat} {h' : Hp}   {s0 : Nat} {s1 : Int32} {h : Hp} (hf : b_Mod_act_295 F s0 s1 h = some h') : Go G mi_Mod_act h0 (pV h') h 295 [] [.int s1, .ref s0] := by
  unfold b_Mod_act_295 at hf
  refine g_iconst 0 d_Mod_act_295 (by decide) ?_
  refine g_goto 357 d_Mod_act_296 (by decide) ?_
  have key := e_Mod_act_357 hw (G := G) (h0 := h0)  hf
  exact key
def b_Mod_act_332 (F : Nat) (s0 : Nat) (s1 : Int32) (h : Hp) : Option Hp := b_Mod_act_357 F s0 s1 (1 : Int32) h
set_option maxRecDepth 100000 in
set_option maxHeartbeats 4000000 in
theorem e_Mod_act_332 {G : Gl} (hw : gF G) {h0 : Hp} {F : Nat} {h' : Hp}   {s0 : Nat} {s1 : Int32} {h : Hp} (hf : b_Mod_act_332 F s0 s1 h = some h') : Go G mi_Mod_act h0 (pV h') h 332 [] [.int s1, .ref s0] := by
  unfold b_Mod_act_332 at hf
  refine g_iconst 1 d_Mod_act_332 (by decide) ?_
  refine g_goto 357 d_Mod_act_333 (by decide) ?_
  have key := e_Mod_act_357 hw (G := G) (h0 := h0)  hf
  exact key
def b_Mod_act_477 (F : Nat) (s0 : Nat) (s1 : Int32) (s2 : Int32) (h : Hp) : Option Hp := gd (hK h s0 = 12) <| clv (f_Mod_say F s0 s1 s2 h) fun h_477_2 => some h_477_2
set_option maxRecDepth 100000 in
set_option maxHeartbeats 4000000 in
theorem e_Mod_act_477 {G : Gl} (hw : gF G) {h0 : Hp} {F : Nat} {h' : Hp}   {s0 : Nat} {s1 : Int32} {s2 : Int32} {h : Hp} (hf : b_Mod_act_477 F s0 s1 s2 h = some h') : Go G mi_Mod_act h0 (pV h') h 477 [] [.int s2, .int s1, .ref s0] := by
  unfold b_Mod_act_477 at hf
  obtain ⟨k_477, hf⟩ := gd_s hf
  obtain ⟨h_477_2, e_477_2, hf⟩ := clv_s hf
  refine g_callV (mz := mi_Mod_say) (e_Mod_say hw e_477_2) cw_Mod_act_Mod_say lm_Mod_335 wI_Mod_say wV_Mod_say (ci := 11) k_477 (by decide) rfl rfl d_Mod_act_477 rfl rfl (by first | exact Nat.le_of_ble_eq_true rfl | simp [cat_rf, Value.category]) (fun r1 h1 hp hro => ?_)
  obtain ⟨rfl, rfl⟩ := hp
  dsimp only [Option.toList_some, Option.toList_none, List.cons_append, List.nil_append]
  refine g_goto 511 d_Mod_act_480 (by decide) ?_
  exact Go.ret none trivial rfl d_Mod_act_511 (pV_of hf)
def b_Mod_act_510 (F : Nat) (s0 : Nat) (s1 : Int32) (s2 : Int32) (h : Hp) : Option Hp := gd (hK h s0 = 100) <| ix s1 (hN h s0) fun j_510_2 => pw (sA h s0 j_510_2 s2) fun h_510_3 => some h_510_3
set_option maxRecDepth 100000 in
set_option maxHeartbeats 4000000 in
theorem e_Mod_act_510 {G : Gl} (hw : gF G) {h0 : Hp} {F : Nat} {h' : Hp}   {s0 : Nat} {s1 : Int32} {s2 : Int32} {h : Hp} (hf : b_Mod_act_510 F s0 s1 s2 h = some h') : Go G mi_Mod_act h0 (pV h') h 510 [] [.int s2, .int s1, .ref s0] := by
  unfold b_Mod_act_510 at hf
  obtain ⟨k_510, hf⟩ := gd_s hf
  obtain ⟨i_510_2, hf⟩ := ix_s hf
  refine g_iast hw k_510 i_510_2 d_Mod_act_510 ?_
  have hf := pw_b hf
  exact Go.ret none trivial rfl d_Mod_act_511 (pV_of hf)
def b_Mod_act_425 (F : Nat) (x0 : Nat) (x1 : Int32) (x2 : Int32) (x3 : Int32) (x5 : Int32) (x6 : Int32) (x7 : Int32) (h : Hp) : Option Hp := gd (hK h x0 = 12) <| if (59 : Int32) < (hI h 756 x0) then (if (71 : Int32) < (hI h 756 x0) then (rq h (hR h 739 x0) 100 fun a_484 => if (hI h 756 x0) = (72 : Int32) then (b_Mod_act_510 F a_484 x7 (hI h 762 x0) h) else (cl (f_Mod_from F x0 x2 h) fun v_507 h_507 => b_Mod_act_510 F a_484 x7 v_507 h_507)) else (if (hI h 762 x0) = (1 : Int32) then (b_Mod_act_477 F x0 x3 (1 : Int32) h) else (b_Mod_act_477 F x0 x3 (0 : Int32) h))) else (clv (f_Mod_touch F x0 x1 x7 (x5 + (hI h 761 x0)) x6 h) fun h_447 => some h_447)
set_option maxRecDepth 100000 in
set_option maxHeartbeats 4000000 in
theorem e_Mod_act_425 {G : Gl} (hw : gF G) {h0 : Hp} {F : Nat} {h' : Hp}   {x0 : Nat} {x1 : Int32} {x2 : Int32} {x3 : Int32} {x5 : Int32} {x6 : Int32} {x7 : Int32} {h : Hp} (hf : b_Mod_act_425 F x0 x1 x2 x3 x5 x6 x7 h = some h') : Go G mi_Mod_act h0 (pV h') h 425 [(0, .ref x0), (1, .int x1), (2, .int x2), (3, .int x3), (5, .int x5), (6, .int x6), (7, .int x7)] [] := by
  unfold b_Mod_act_425 at hf
  refine g_aload_n d_Mod_act_425 rfl ?_
  obtain ⟨k_426, hf⟩ := gd_s hf
  refine fg_Mod_op lf_Mod_220 d_Mod_act_426 k_426 ?_
  refine g_bipush (59) d_Mod_act_429 (by decide) ?_
  refine g_icmp_gt 453 d_Mod_act_431 (by decide) (fun c_431 => ?_) (fun c_431 => ?_)
  · have hf := ifp hf c_431
    refine g_aload_n d_Mod_act_453 rfl ?_
    refine fg_Mod_op lf_Mod_220 d_Mod_act_454 k_426 ?_
    refine g_bipush (71) d_Mod_act_457 (by decide) ?_
    refine g_icmp_gt 483 d_Mod_act_459 (by decide) (fun c_459 => ?_) (fun c_459 => ?_)
    · have hf := ifp hf c_459
      refine g_aload_n d_Mod_act_483 rfl ?_
      obtain ⟨a_484, e_484, k_484, hf⟩ := rq_s hf
      refine fgs_Mod_register lf_Mod_67 d_Mod_act_484 k_426 e_484 ?_
      refine g_iload d_Mod_act_487 rfl ?_
      refine g_aload_n d_Mod_act_489 rfl ?_
      refine fg_Mod_op lf_Mod_220 d_Mod_act_490 k_426 ?_
      refine g_bipush (72) d_Mod_act_493 (by decide) ?_
      refine g_icmp_ne 505 d_Mod_act_495 (by decide) (fun c_495 => ?_) (fun c_495 => ?_)
      · have hf := ifn hf c_495
        refine g_aload_n d_Mod_act_505 rfl ?_
        refine g_iload_n d_Mod_act_506 rfl ?_
        obtain ⟨v_507, h_507, e_507, hf⟩ := cl_s hf
        refine g_callV (mz := mi_Mod_from) (e_Mod_from e_507) cw_Mod_act_Mod_from lm_Mod_349 wI_Mod_from wV_Mod_from (ci := 11) k_426 (by decide) rfl rfl d_Mod_act_507 rfl rfl (by first | exact Nat.le_of_ble_eq_true rfl | simp [cat_rf, Value.category]) (fun r1 h1 hp hro => ?_)
        obtain ⟨rfl, rfl⟩ := hp
        dsimp only [Option.toList_some, Option.toList_none, List.cons_append, List.nil_append]
        refine Go.locals [] rfl ?_
        have key := e_Mod_act_510 hw (G := G) (h0 := h0)  hf
        exact key
      · have hf := ifp hf c_495
        refine g_aload_n d_Mod_act_498 rfl ?_
        refine fg_Mod_votes lf_Mod_325 d_Mod_act_499 k_426 ?_
        refine g_goto 510 d_Mod_act_502 (by decide) ?_
        refine Go.locals [] rfl ?_
        have key := e_Mod_act_510 hw (G := G) (h0 := h0)  hf
        exact key
    · have hf := ifn hf c_459
      refine g_aload_n d_Mod_act_462 rfl ?_
      refine g_iload_n d_Mod_act_463 rfl ?_
      refine g_aload_n d_Mod_act_464 rfl ?_
      refine fg_Mod_votes lf_Mod_325 d_Mod_act_465 k_426 ?_
      refine g_iconst 1 d_Mod_act_468 (by decide) ?_
      refine g_icmp_ne 476 d_Mod_act_469 (by decide) (fun c_469 => ?_) (fun c_469 => ?_)
      · have hf := ifn hf c_469
        refine g_iconst 0 d_Mod_act_476 (by decide) ?_
        refine Go.locals [] rfl ?_
        have key := e_Mod_act_477 hw (G := G) (h0 := h0)  hf
        exact key
      · have hf := ifp hf c_469
        refine g_iconst 1 d_Mod_act_472 (by decide) ?_
        refine g_goto 477 d_Mod_act_473 (by decide) ?_
        refine Go.locals [] rfl ?_
        have key := e_Mod_act_477 hw (G := G) (h0 := h0)  hf
        exact key
  · have hf := ifn hf c_431
    refine g_aload_n d_Mod_act_434 rfl ?_
    refine g_iload_n d_Mod_act_435 rfl ?_
    refine g_iload d_Mod_act_436 rfl ?_
    refine g_iload d_Mod_act_438 rfl ?_
    refine g_aload_n d_Mod_act_440 rfl ?_
    refine fg_Mod_n lf_Mod_237 d_Mod_act_441 k_426 ?_
    refine g_iadd d_Mod_act_444 ?_
    refine g_iload d_Mod_act_445 rfl ?_
    obtain ⟨h_447, e_447, hf⟩ := clv_s hf
    refine g_callV (mz := mi_Mod_touch) (e_Mod_touch hw e_447) cw_Mod_act_Mod_touch lm_Mod_346 wI_Mod_touch wV_Mod_touch (ci := 11) k_426 (by decide) rfl rfl d_Mod_act_447 rfl rfl (by first | exact Nat.le_of_ble_eq_true rfl | simp [cat_rf, Value.category]) (fun r1 h1 hp hro => ?_)
    obtain ⟨rfl, rfl⟩ := hp
    dsimp only [Option.toList_some, Option.toList_none, List.cons_append, List.nil_append]
    refine g_goto 511 d_Mod_act_450 (by decide) ?_
    exact Go.ret none trivial rfl d_Mod_act_511 (pV_of hf)
def f_Mod_act (F : Nat) (x0 : Nat) (x1 : Int32) (x2 : Int32) (x3 : Int32) (x4 : Int32) (h : Hp) : Option Hp := gd (hK h x0 = 12) <| cl (f_Mod_reg F x0 x3 (hI h 758 x0) h) fun v_6 h_6 => gd (hK h_6 x0 = 12) <| cl (f_Mod_reg F x0 x3 (hI h_6 759 x0) h_6) fun v_17 h_17 => gd (hK h_17 x0 = 12) <| if (hI h_17 756 x0) = 0 then (rq h_17 (hR h_17 742 x0) 101 fun a_41 => ix x3 (hN h_17 a_41) fun j_46 => pw (sA h_17 a_41 j_46 (1 : Int32)) fun h_46_2 => some h_46_2) else (if (hI h_17 756 x0) = (1 : Int32) then (rq h_17 (hR h_17 743 x0) 101 fun a_59 => ix x3 (hN h_17 a_59) fun j_64 => pw (sA h_17 a_59 j_64 (1 : Int32)) fun h_64_2 => some h_64_2) else (if (hI h_17 756 x0) = (2 : Int32) then (rq h_17 (hR h_17 739 x0) 100 fun a_77 => ix (((16 : Int32) * x3) + (hI h_17 757 x0)) (hN h_17 a_77) fun j_86 => pw (sA h_17 a_77 j_86 (hI h_17 761 x0)) fun h_86_2 => some h_86_2) else (if (hI h_17 756 x0) = (3 : Int32) then (rq h_17 (hR h_17 739 x0) 100 fun a_99 => cl (f_Mod_told F x0 x1 x2 h_17) fun v_107 h_107 => gd (hK h_107 a_99 = 100) <| ix (((16 : Int32) * x3) + (hI h_17 757 x0)) (hN h_107 a_99) fun j_110_2 => pw (sA h_107 a_99 j_110_2 v_107) fun h_110_3 => some h_110_3) else (if (21 : Int32) < (hI h_17 756 x0) then (if (33 : Int32) < (hI h_17 756 x0) then (if (36 : Int32) < (hI h_17 756 x0) then (if (42 : Int32) < (hI h_17 756 x0) then (cl (f_Mod_isMemory F x0 h_17) fun v_387 h_387 => if v_387 = 0 then (b_Mod_act_425 F x0 x1 x2 x3 v_6 v_17 (((16 : Int32) * x3) + (hI h_17 757 x0)) h_387) else (gd (hK h_387 x0 = 12) <| cl (f_Mod_isShared F x0 h_387) fun v_394_2 h_394_2 => if v_394_2 = 0 then (gd (hK h_394_2 x0 = 12) <| rq h_394_2 (hR h_394_2 739 x0) 100 fun a_413 => ix (((16 : Int32) * x3) + (hI h_17 757 x0)) (hN h_394_2 a_413) fun j_418 => clv (f_Mod_ask F x0 x1 x2 (v_6 + (hI h_394_2 761 x0)) v_17 (hA h_394_2 a_413 j_418) h_394_2) fun h_419 => some h_419) else (b_Mod_act_425 F x0 x1 x2 x3 v_6 v_17 (((16 : Int32) * x3) + (hI h_17 757 x0)) h_394_2))) else (clv (f_Mod_jump F x0 x3 (((16 : Int32) * x3) + (hI h_17 757 x0)) v_6 x4 h_17) fun h_380 => some h_380)) else (if (hI h_17 756 x0) = (34 : Int32) then (cl (f_Mod_has F x0 x3 (hI h_17 758 x0) h_17) fun v_273 h_273 => if v_273 = 0 then (b_Mod_act_295 F x0 x3 h_273) else (gd (hK h_273 x0 = 12) <| cl (f_Mod_has F x0 x3 (hI h_273 759 x0) h_273) fun v_285 h_285 => if v_285 = 0 then (b_Mod_act_295 F x0 x3 h_285) else (b_Mod_act_357 F x0 x3 (1 : Int32) h_285))) else (if (hI h_17 756 x0) = (35 : Int32) then (cl (f_Mod_has F x0 x3 (hI h_17 758 x0) h_17) fun v_314 h_314 => if v_314 = 0 then (gd (hK h_314 x0 = 12) <| cl (f_Mod_has F x0 x3 (hI h_314 759 x0) h_314) fun v_326 h_326 => if v_326 = 0 then (b_Mod_act_357 F x0 x3 (0 : Int32) h_326) else (b_Mod_act_332 F x0 x3 h_326)) else (b_Mod_act_332 F x0 x3 h_314)) else (cl (f_Mod_has F x0 x3 (hI h_17 758 x0) h_17) fun v_346 h_346 => if v_346 = 0 then (b_Mod_act_357 F x0 x3 (1 : Int32) h_346) else (b_Mod_act_357 F x0 x3 (0 : Int32) h_346))))) else (if (hI h_17 756 x0) = (30 : Int32) then (if v_17 ≤ v_6 then (b_Mod_act_241 F x0 x3 (0 : Int32) h_17) else (b_Mod_act_241 F x0 x3 (1 : Int32) h_17)) else (if (hI h_17 756 x0) = (31 : Int32) then (if v_6 = v_17 then (b_Mod_act_241 F x0 x3 (1 : Int32) h_17) else (b_Mod_act_241 F x0 x3 (0 : Int32) h_17)) else (if (hI h_17 756 x0) = (32 : Int32) then (if (hI h_17 761 x0) ≤ v_6 then (b_Mod_act_241 F x0 x3 (0 : Int32) h_17) else (b_Mod_act_241 F x0 x3 (1 : Int32) h_17)) else (if v_6 = (hI h_17 761 x0) then (b_Mod_act_241 F x0 x3 (1 : Int32) h_17) else (b_Mod_act_241 F x0 x3 (0 : Int32) h_17)))))) else (rq h_17 (hR h_17 739 x0) 100 fun a_124 => cl (f_Mod_reckon F x0 v_6 v_17 x3 h_17) fun v_135 h_135 => gd (hK h_135 a_124 = 100) <| ix (((16 : Int32) * x3) + (hI h_17 757 x0)) (hN h_135 a_124) fun j_138_2 => pw (sA h_135 a_124 j_138_2 v_135) fun h_138_3 => some h_138_3)))))
set_option maxRecDepth 100000 in
set_option maxHeartbeats 4000000 in
theorem e_Mod_act {G : Gl} (hw : gF G) {F : Nat} {h' : Hp} {x0 : Nat} {x1 : Int32} {x2 : Int32} {x3 : Int32} {x4 : Int32} {h : Hp} (hf : f_Mod_act F x0 x1 x2 x3 x4 h = some h') : Ex G mi_Mod_act [.ref x0, .int x1, .int x2, .int x3, .int x4] h (pV h') := by
  unfold f_Mod_act at hf
  refine Ex.of nmV (by decide) (Nat.le_of_ble_eq_true rfl) ?_
  show Go G mi_Mod_act h _ h 0 [(0, .ref x0), (1, .int x1), (2, .int x2), (3, .int x3), (4, .int x4)] []
  refine g_aload_n d_Mod_act_0 rfl ?_
  refine g_iload_n d_Mod_act_1 rfl ?_
  refine g_aload_n d_Mod_act_2 rfl ?_
  obtain ⟨k_3, hf⟩ := gd_s hf
  refine fg_Mod_a lf_Mod_228 d_Mod_act_3 k_3 ?_
  obtain ⟨v_6, h_6, e_6, hf⟩ := cl_s hf
  refine g_callV (mz := mi_Mod_reg) (e_Mod_reg e_6) cw_Mod_act_Mod_reg lm_Mod_284 wI_Mod_reg wV_Mod_reg (ci := 11) k_3 (by decide) rfl rfl d_Mod_act_6 rfl rfl (by first | exact Nat.le_of_ble_eq_true rfl | simp [cat_rf, Value.category]) (fun r1 h1 hp hro => ?_)
  obtain ⟨rfl, rfl⟩ := hp
  dsimp only [Option.toList_some, Option.toList_none, List.cons_append, List.nil_append]
  refine g_istore d_Mod_act_9 (by decide) ?_
  show Go _ _ _ _ _ _ [(0, _), (1, _), (2, _), (3, _), (4, _), (5, _)] _
  refine g_aload_n d_Mod_act_11 rfl ?_
  refine g_iload_n d_Mod_act_12 rfl ?_
  refine g_aload_n d_Mod_act_13 rfl ?_
  obtain ⟨k_14, hf⟩ := gd_s hf
  refine fg_Mod_b lf_Mod_231 d_Mod_act_14 k_14 ?_
  obtain ⟨v_17, h_17, e_17, hf⟩ := cl_s hf
  refine g_callV (mz := mi_Mod_reg) (e_Mod_reg e_17) cw_Mod_act_Mod_reg lm_Mod_284 wI_Mod_reg wV_Mod_reg (ci := 11) k_14 (by decide) rfl rfl d_Mod_act_17 rfl rfl (by first | exact Nat.le_of_ble_eq_true rfl | simp [cat_rf, Value.category]) (fun r1 h1 hp hro => ?_)
  obtain ⟨rfl, rfl⟩ := hp
  dsimp only [Option.toList_some, Option.toList_none, List.cons_append, List.nil_append]
  refine g_istore d_Mod_act_20 (by decide) ?_
  show Go _ _ _ _ _ _ [(0, _), (1, _), (2, _), (3, _), (4, _), (5, _), (6, _)] _
  refine g_bipush (16) d_Mod_act_22 (by decide) ?_
  refine g_iload_n d_Mod_act_24 rfl ?_
  refine g_imul d_Mod_act_25 ?_
  refine g_aload_n d_Mod_act_26 rfl ?_
  obtain ⟨k_27, hf⟩ := gd_s hf
  refine fg_Mod_d lf_Mod_225 d_Mod_act_27 k_27 ?_
  refine g_iadd d_Mod_act_30 ?_
  refine g_istore d_Mod_act_31 (by decide) ?_
  show Go _ _ _ _ _ _ [(0, _), (1, _), (2, _), (3, _), (4, _), (5, _), (6, _), (7, _)] _
  refine g_aload_n d_Mod_act_33 rfl ?_
  refine fg_Mod_op lf_Mod_220 d_Mod_act_34 k_27 ?_
  refine g_if_ne 50 d_Mod_act_37 (by decide) (fun c_37 => ?_) (fun c_37 => ?_)
  · have hf := ifn hf c_37
    refine g_aload_n d_Mod_act_50 rfl ?_
    refine fg_Mod_op lf_Mod_220 d_Mod_act_51 k_27 ?_
    refine g_iconst 1 d_Mod_act_54 (by decide) ?_
    refine g_icmp_ne 68 d_Mod_act_55 (by decide) (fun c_55 => ?_) (fun c_55 => ?_)
    · have hf := ifn hf c_55
      refine g_aload_n d_Mod_act_68 rfl ?_
      refine fg_Mod_op lf_Mod_220 d_Mod_act_69 k_27 ?_
      refine g_iconst 2 d_Mod_act_72 (by decide) ?_
      refine g_icmp_ne 90 d_Mod_act_73 (by decide) (fun c_73 => ?_) (fun c_73 => ?_)
      · have hf := ifn hf c_73
        refine g_aload_n d_Mod_act_90 rfl ?_
        refine fg_Mod_op lf_Mod_220 d_Mod_act_91 k_27 ?_
        refine g_iconst 3 d_Mod_act_94 (by decide) ?_
        refine g_icmp_ne 114 d_Mod_act_95 (by decide) (fun c_95 => ?_) (fun c_95 => ?_)
        · have hf := ifn hf c_95
          refine g_aload_n d_Mod_act_114 rfl ?_
          refine fg_Mod_op lf_Mod_220 d_Mod_act_115 k_27 ?_
          refine g_bipush (21) d_Mod_act_118 (by decide) ?_
          refine g_icmp_gt 142 d_Mod_act_120 (by decide) (fun c_120 => ?_) (fun c_120 => ?_)
          · have hf := ifp hf c_120
            refine g_aload_n d_Mod_act_142 rfl ?_
            refine fg_Mod_op lf_Mod_220 d_Mod_act_143 k_27 ?_
            refine g_bipush (33) d_Mod_act_146 (by decide) ?_
            refine g_icmp_gt 247 d_Mod_act_148 (by decide) (fun c_148 => ?_) (fun c_148 => ?_)
            · have hf := ifp hf c_148
              refine g_aload_n d_Mod_act_247 rfl ?_
              refine fg_Mod_op lf_Mod_220 d_Mod_act_248 k_27 ?_
              refine g_bipush (36) d_Mod_act_251 (by decide) ?_
              refine g_icmp_gt 363 d_Mod_act_253 (by decide) (fun c_253 => ?_) (fun c_253 => ?_)
              · have hf := ifp hf c_253
                refine g_aload_n d_Mod_act_363 rfl ?_
                refine fg_Mod_op lf_Mod_220 d_Mod_act_364 k_27 ?_
                refine g_bipush (42) d_Mod_act_367 (by decide) ?_
                refine g_icmp_gt 386 d_Mod_act_369 (by decide) (fun c_369 => ?_) (fun c_369 => ?_)
                · have hf := ifp hf c_369
                  refine g_aload_n d_Mod_act_386 rfl ?_
                  obtain ⟨v_387, h_387, e_387, hf⟩ := cl_s hf
                  refine g_callV (mz := mi_Mod_isMemory) (e_Mod_isMemory e_387) cw_Mod_act_Mod_isMemory lm_Mod_240 wI_Mod_isMemory wV_Mod_isMemory (ci := 11) k_27 (by decide) rfl rfl d_Mod_act_387 rfl rfl (by first | exact Nat.le_of_ble_eq_true rfl | simp [cat_rf, Value.category]) (fun r1 h1 hp hro => ?_)
                  obtain ⟨rfl, rfl⟩ := hp
                  dsimp only [Option.toList_some, Option.toList_none, List.cons_append, List.nil_append]
                  refine g_if_eq 425 d_Mod_act_390 (by decide) (fun c_390 => ?_) (fun c_390 => ?_)
                  · have hf := ifp hf c_390
                    refine Go.locals [0, 1, 2, 3, 5, 6, 7] rfl ?_
                    have key := e_Mod_act_425 hw (G := G) (h0 := h)  hf
                    exact key
                  · have hf := ifn hf c_390
                    refine g_aload_n d_Mod_act_393 rfl ?_
                    obtain ⟨k_394, hf⟩ := gd_s hf
                    obtain ⟨v_394_2, h_394_2, e_394_2, hf⟩ := cl_s hf
                    refine g_callV (mz := mi_Mod_isShared) (e_Mod_isShared e_394_2) cw_Mod_act_Mod_isShared lm_Mod_275 wI_Mod_isShared wV_Mod_isShared (ci := 11) k_394 (by decide) rfl rfl d_Mod_act_394 rfl rfl (by first | exact Nat.le_of_ble_eq_true rfl | simp [cat_rf, Value.category]) (fun r1 h1 hp hro => ?_)
                    obtain ⟨rfl, rfl⟩ := hp
                    dsimp only [Option.toList_some, Option.toList_none, List.cons_append, List.nil_append]
                    refine g_if_ne 425 d_Mod_act_397 (by decide) (fun c_397 => ?_) (fun c_397 => ?_)
                    · have hf := ifn hf c_397
                      refine Go.locals [0, 1, 2, 3, 5, 6, 7] rfl ?_
                      have key := e_Mod_act_425 hw (G := G) (h0 := h)  hf
                      exact key
                    · have hf := ifp hf c_397
                      refine g_aload_n d_Mod_act_400 rfl ?_
                      refine g_iload_n d_Mod_act_401 rfl ?_
                      refine g_iload_n d_Mod_act_402 rfl ?_
                      refine g_iload d_Mod_act_403 rfl ?_
                      refine g_aload_n d_Mod_act_405 rfl ?_
                      obtain ⟨k_406, hf⟩ := gd_s hf
                      refine fg_Mod_n lf_Mod_237 d_Mod_act_406 k_406 ?_
                      refine g_iadd d_Mod_act_409 ?_
                      refine g_iload d_Mod_act_410 rfl ?_
                      refine g_aload_n d_Mod_act_412 rfl ?_
                      obtain ⟨a_413, e_413, k_413, hf⟩ := rq_s hf
                      refine fgs_Mod_register lf_Mod_67 d_Mod_act_413 k_406 e_413 ?_
                      refine g_iload d_Mod_act_416 rfl ?_
                      obtain ⟨i_418, hf⟩ := ix_s hf
                      refine g_iald k_413 i_418 d_Mod_act_418 ?_
                      obtain ⟨h_419, e_419, hf⟩ := clv_s hf
                      refine g_callV (mz := mi_Mod_ask) (e_Mod_ask hw e_419) cw_Mod_act_Mod_ask lm_Mod_342 wI_Mod_ask wV_Mod_ask (ci := 11) k_406 (by decide) rfl rfl d_Mod_act_419 rfl rfl (by first | exact Nat.le_of_ble_eq_true rfl | simp [cat_rf, Value.category]) (fun r1 h1 hp hro => ?_)
                      obtain ⟨rfl, rfl⟩ := hp
                      dsimp only [Option.toList_some, Option.toList_none, List.cons_append, List.nil_append]
                      refine g_goto 511 d_Mod_act_422 (by decide) ?_
                      exact Go.ret none trivial rfl d_Mod_act_511 (pV_of hf)
                · have hf := ifn hf c_369
                  refine g_aload_n d_Mod_act_372 rfl ?_
                  refine g_iload_n d_Mod_act_373 rfl ?_
                  refine g_iload d_Mod_act_374 rfl ?_
                  refine g_iload d_Mod_act_376 rfl ?_
                  refine g_iload d_Mod_act_378 rfl ?_
                  obtain ⟨h_380, e_380, hf⟩ := clv_s hf
                  refine g_callV (mz := mi_Mod_jump) (e_Mod_jump hw e_380) cw_Mod_act_Mod_jump lm_Mod_339 wI_Mod_jump wV_Mod_jump (ci := 11) k_27 (by decide) rfl rfl d_Mod_act_380 rfl rfl (by first | exact Nat.le_of_ble_eq_true rfl | simp [cat_rf, Value.category]) (fun r1 h1 hp hro => ?_)
                  obtain ⟨rfl, rfl⟩ := hp
                  dsimp only [Option.toList_some, Option.toList_none, List.cons_append, List.nil_append]
                  refine g_goto 511 d_Mod_act_383 (by decide) ?_
                  exact Go.ret none trivial rfl d_Mod_act_511 (pV_of hf)
              · have hf := ifn hf c_253
                refine g_aload_n d_Mod_act_256 rfl ?_
                refine g_iload_n d_Mod_act_257 rfl ?_
                refine g_aload_n d_Mod_act_258 rfl ?_
                refine fg_Mod_op lf_Mod_220 d_Mod_act_259 k_27 ?_
                refine g_bipush (34) d_Mod_act_262 (by decide) ?_
                refine g_icmp_ne 299 d_Mod_act_264 (by decide) (fun c_264 => ?_) (fun c_264 => ?_)
                · have hf := ifn hf c_264
                  refine g_aload_n d_Mod_act_299 rfl ?_
                  refine fg_Mod_op lf_Mod_220 d_Mod_act_300 k_27 ?_
                  refine g_bipush (35) d_Mod_act_303 (by decide) ?_
                  refine g_icmp_ne 340 d_Mod_act_305 (by decide) (fun c_305 => ?_) (fun c_305 => ?_)
                  · have hf := ifn hf c_305
                    refine g_aload_n d_Mod_act_340 rfl ?_
                    refine g_iload_n d_Mod_act_341 rfl ?_
                    refine g_aload_n d_Mod_act_342 rfl ?_
                    refine fg_Mod_a lf_Mod_228 d_Mod_act_343 k_27 ?_
                    obtain ⟨v_346, h_346, e_346, hf⟩ := cl_s hf
                    refine g_callV (mz := mi_Mod_has) (e_Mod_has e_346) cw_Mod_act_Mod_has lm_Mod_291 wI_Mod_has wV_Mod_has (ci := 11) k_27 (by decide) rfl rfl d_Mod_act_346 rfl rfl (by first | exact Nat.le_of_ble_eq_true rfl | simp [cat_rf, Value.category]) (fun r1 h1 hp hro => ?_)
                    obtain ⟨rfl, rfl⟩ := hp
                    dsimp only [Option.toList_some, Option.toList_none, List.cons_append, List.nil_append]
                    refine g_if_ne 356 d_Mod_act_349 (by decide) (fun c_349 => ?_) (fun c_349 => ?_)
                    · have hf := ifn hf c_349
                      refine g_iconst 0 d_Mod_act_356 (by decide) ?_
                      refine Go.locals [] rfl ?_
                      have key := e_Mod_act_357 hw (G := G) (h0 := h)  hf
                      exact key
                    · have hf := ifp hf c_349
                      refine g_iconst 1 d_Mod_act_352 (by decide) ?_
                      refine g_goto 357 d_Mod_act_353 (by decide) ?_
                      refine Go.locals [] rfl ?_
                      have key := e_Mod_act_357 hw (G := G) (h0 := h)  hf
                      exact key
                  · have hf := ifp hf c_305
                    refine g_aload_n d_Mod_act_308 rfl ?_
                    refine g_iload_n d_Mod_act_309 rfl ?_
                    refine g_aload_n d_Mod_act_310 rfl ?_
                    refine fg_Mod_a lf_Mod_228 d_Mod_act_311 k_27 ?_
                    obtain ⟨v_314, h_314, e_314, hf⟩ := cl_s hf
                    refine g_callV (mz := mi_Mod_has) (e_Mod_has e_314) cw_Mod_act_Mod_has lm_Mod_291 wI_Mod_has wV_Mod_has (ci := 11) k_27 (by decide) rfl rfl d_Mod_act_314 rfl rfl (by first | exact Nat.le_of_ble_eq_true rfl | simp [cat_rf, Value.category]) (fun r1 h1 hp hro => ?_)
                    obtain ⟨rfl, rfl⟩ := hp
                    dsimp only [Option.toList_some, Option.toList_none, List.cons_append, List.nil_append]
                    refine g_if_ne 332 d_Mod_act_317 (by decide) (fun c_317 => ?_) (fun c_317 => ?_)
                    · have hf := ifn hf c_317
                      refine Go.locals [] rfl ?_
                      have key := e_Mod_act_332 hw (G := G) (h0 := h)  hf
                      exact key
                    · have hf := ifp hf c_317
                      refine g_aload_n d_Mod_act_320 rfl ?_
                      refine g_iload_n d_Mod_act_321 rfl ?_
                      refine g_aload_n d_Mod_act_322 rfl ?_
                      obtain ⟨k_323, hf⟩ := gd_s hf
                      refine fg_Mod_b lf_Mod_231 d_Mod_act_323 k_323 ?_
                      obtain ⟨v_326, h_326, e_326, hf⟩ := cl_s hf
                      refine g_callV (mz := mi_Mod_has) (e_Mod_has e_326) cw_Mod_act_Mod_has lm_Mod_291 wI_Mod_has wV_Mod_has (ci := 11) k_323 (by decide) rfl rfl d_Mod_act_326 rfl rfl (by first | exact Nat.le_of_ble_eq_true rfl | simp [cat_rf, Value.category]) (fun r1 h1 hp hro => ?_)
                      obtain ⟨rfl, rfl⟩ := hp
                      dsimp only [Option.toList_some, Option.toList_none, List.cons_append, List.nil_append]
                      refine g_if_eq 336 d_Mod_act_329 (by decide) (fun c_329 => ?_) (fun c_329 => ?_)
                      · have hf := ifp hf c_329
                        refine g_iconst 0 d_Mod_act_336 (by decide) ?_
                        refine g_goto 357 d_Mod_act_337 (by decide) ?_
                        refine Go.locals [] rfl ?_
                        have key := e_Mod_act_357 hw (G := G) (h0 := h)  hf
                        exact key
                      · have hf := ifn hf c_329
                        refine Go.locals [] rfl ?_
                        have key := e_Mod_act_332 hw (G := G) (h0 := h)  hf
                        exact key
                · have hf := ifp hf c_264
                  refine g_aload_n d_Mod_act_267 rfl ?_
                  refine g_iload_n d_Mod_act_268 rfl ?_
                  refine g_aload_n d_Mod_act_269 rfl ?_
                  refine fg_Mod_a lf_Mod_228 d_Mod_act_270 k_27 ?_
                  obtain ⟨v_273, h_273, e_273, hf⟩ := cl_s hf
                  refine g_callV (mz := mi_Mod_has) (e_Mod_has e_273) cw_Mod_act_Mod_has lm_Mod_291 wI_Mod_has wV_Mod_has (ci := 11) k_27 (by decide) rfl rfl d_Mod_act_273 rfl rfl (by first | exact Nat.le_of_ble_eq_true rfl | simp [cat_rf, Value.category]) (fun r1 h1 hp hro => ?_)
                  obtain ⟨rfl, rfl⟩ := hp
                  dsimp only [Option.toList_some, Option.toList_none, List.cons_append, List.nil_append]
                  refine g_if_eq 295 d_Mod_act_276 (by decide) (fun c_276 => ?_) (fun c_276 => ?_)
                  · have hf := ifp hf c_276
                    refine Go.locals [] rfl ?_
                    have key := e_Mod_act_295 hw (G := G) (h0 := h)  hf
                    exact key
                  · have hf := ifn hf c_276
                    refine g_aload_n d_Mod_act_279 rfl ?_
                    refine g_iload_n d_Mod_act_280 rfl ?_
                    refine g_aload_n d_Mod_act_281 rfl ?_
                    obtain ⟨k_282, hf⟩ := gd_s hf
                    refine fg_Mod_b lf_Mod_231 d_Mod_act_282 k_282 ?_
                    obtain ⟨v_285, h_285, e_285, hf⟩ := cl_s hf
                    refine g_callV (mz := mi_Mod_has) (e_Mod_has e_285) cw_Mod_act_Mod_has lm_Mod_291 wI_Mod_has wV_Mod_has (ci := 11) k_282 (by decide) rfl rfl d_Mod_act_285 rfl rfl (by first | exact Nat.le_of_ble_eq_true rfl | simp [cat_rf, Value.category]) (fun r1 h1 hp hro => ?_)
                    obtain ⟨rfl, rfl⟩ := hp
                    dsimp only [Option.toList_some, Option.toList_none, List.cons_append, List.nil_append]
                    refine g_if_eq 295 d_Mod_act_288 (by decide) (fun c_288 => ?_) (fun c_288 => ?_)
                    · have hf := ifp hf c_288
                      refine Go.locals [] rfl ?_
                      have key := e_Mod_act_295 hw (G := G) (h0 := h)  hf
                      exact key
                    · have hf := ifn hf c_288
                      refine g_iconst 1 d_Mod_act_291 (by decide) ?_
                      refine g_goto 357 d_Mod_act_292 (by decide) ?_
                      refine Go.locals [] rfl ?_
                      have key := e_Mod_act_357 hw (G := G) (h0 := h)  hf
                      exact key
            · have hf := ifn hf c_148
              refine g_aload_n d_Mod_act_151 rfl ?_
              refine g_iload_n d_Mod_act_152 rfl ?_
              refine g_aload_n d_Mod_act_153 rfl ?_
              refine fg_Mod_op lf_Mod_220 d_Mod_act_154 k_27 ?_
              refine g_bipush (30) d_Mod_act_157 (by decide) ?_
              refine g_icmp_ne 177 d_Mod_act_159 (by decide) (fun c_159 => ?_) (fun c_159 => ?_)
              · have hf := ifn hf c_159
                refine g_aload_n d_Mod_act_177 rfl ?_
                refine fg_Mod_op lf_Mod_220 d_Mod_act_178 k_27 ?_
                refine g_bipush (31) d_Mod_act_181 (by decide) ?_
                refine g_icmp_ne 201 d_Mod_act_183 (by decide) (fun c_183 => ?_) (fun c_183 => ?_)
                · have hf := ifn hf c_183
                  refine g_aload_n d_Mod_act_201 rfl ?_
                  refine fg_Mod_op lf_Mod_220 d_Mod_act_202 k_27 ?_
                  refine g_bipush (32) d_Mod_act_205 (by decide) ?_
                  refine g_icmp_ne 227 d_Mod_act_207 (by decide) (fun c_207 => ?_) (fun c_207 => ?_)
                  · have hf := ifn hf c_207
                    refine g_iload d_Mod_act_227 rfl ?_
                    refine g_aload_n d_Mod_act_229 rfl ?_
                    refine fg_Mod_n lf_Mod_237 d_Mod_act_230 k_27 ?_
                    refine g_icmp_ne 240 d_Mod_act_233 (by decide) (fun c_233 => ?_) (fun c_233 => ?_)
                    · have hf := ifn hf c_233
                      refine g_iconst 0 d_Mod_act_240 (by decide) ?_
                      refine Go.locals [] rfl ?_
                      have key := e_Mod_act_241 hw (G := G) (h0 := h)  hf
                      exact key
                    · have hf := ifp hf c_233
                      refine g_iconst 1 d_Mod_act_236 (by decide) ?_
                      refine g_goto 241 d_Mod_act_237 (by decide) ?_
                      refine Go.locals [] rfl ?_
                      have key := e_Mod_act_241 hw (G := G) (h0 := h)  hf
                      exact key
                  · have hf := ifp hf c_207
                    refine g_iload d_Mod_act_210 rfl ?_
                    refine g_aload_n d_Mod_act_212 rfl ?_
                    refine fg_Mod_n lf_Mod_237 d_Mod_act_213 k_27 ?_
                    refine g_icmp_ge 223 d_Mod_act_216 (by decide) (fun c_216 => ?_) (fun c_216 => ?_)
                    · have hf := ifp hf c_216
                      refine g_iconst 0 d_Mod_act_223 (by decide) ?_
                      refine g_goto 241 d_Mod_act_224 (by decide) ?_
                      refine Go.locals [] rfl ?_
                      have key := e_Mod_act_241 hw (G := G) (h0 := h)  hf
                      exact key
                    · have hf := ifn hf c_216
                      refine g_iconst 1 d_Mod_act_219 (by decide) ?_
                      refine g_goto 241 d_Mod_act_220 (by decide) ?_
                      refine Go.locals [] rfl ?_
                      have key := e_Mod_act_241 hw (G := G) (h0 := h)  hf
                      exact key
                · have hf := ifp hf c_183
                  refine g_iload d_Mod_act_186 rfl ?_
                  refine g_iload d_Mod_act_188 rfl ?_
                  refine g_icmp_ne 197 d_Mod_act_190 (by decide) (fun c_190 => ?_) (fun c_190 => ?_)
                  · have hf := ifn hf c_190
                    refine g_iconst 0 d_Mod_act_197 (by decide) ?_
                    refine g_goto 241 d_Mod_act_198 (by decide) ?_
                    refine Go.locals [] rfl ?_
                    have key := e_Mod_act_241 hw (G := G) (h0 := h)  hf
                    exact key
                  · have hf := ifp hf c_190
                    refine g_iconst 1 d_Mod_act_193 (by decide) ?_
                    refine g_goto 241 d_Mod_act_194 (by decide) ?_
                    refine Go.locals [] rfl ?_
                    have key := e_Mod_act_241 hw (G := G) (h0 := h)  hf
                    exact key
              · have hf := ifp hf c_159
                refine g_iload d_Mod_act_162 rfl ?_
                refine g_iload d_Mod_act_164 rfl ?_
                refine g_icmp_ge 173 d_Mod_act_166 (by decide) (fun c_166 => ?_) (fun c_166 => ?_)
                · have hf := ifp hf c_166
                  refine g_iconst 0 d_Mod_act_173 (by decide) ?_
                  refine g_goto 241 d_Mod_act_174 (by decide) ?_
                  refine Go.locals [] rfl ?_
                  have key := e_Mod_act_241 hw (G := G) (h0 := h)  hf
                  exact key
                · have hf := ifn hf c_166
                  refine g_iconst 1 d_Mod_act_169 (by decide) ?_
                  refine g_goto 241 d_Mod_act_170 (by decide) ?_
                  refine Go.locals [] rfl ?_
                  have key := e_Mod_act_241 hw (G := G) (h0 := h)  hf
                  exact key
          · have hf := ifn hf c_120
            refine g_aload_n d_Mod_act_123 rfl ?_
            obtain ⟨a_124, e_124, k_124, hf⟩ := rq_s hf
            refine fgs_Mod_register lf_Mod_67 d_Mod_act_124 k_27 e_124 ?_
            refine g_iload d_Mod_act_127 rfl ?_
            refine g_aload_n d_Mod_act_129 rfl ?_
            refine g_iload d_Mod_act_130 rfl ?_
            refine g_iload d_Mod_act_132 rfl ?_
            refine g_iload_n d_Mod_act_134 rfl ?_
            obtain ⟨v_135, h_135, e_135, hf⟩ := cl_s hf
            refine g_callV (mz := mi_Mod_reckon) (e_Mod_reckon e_135) cw_Mod_act_Mod_reckon lm_Mod_331 wI_Mod_reckon wV_Mod_reckon (ci := 11) k_27 (by decide) rfl rfl d_Mod_act_135 rfl rfl (by first | exact Nat.le_of_ble_eq_true rfl | simp [cat_rf, Value.category]) (fun r1 h1 hp hro => ?_)
            obtain ⟨rfl, rfl⟩ := hp
            dsimp only [Option.toList_some, Option.toList_none, List.cons_append, List.nil_append]
            obtain ⟨k_138, hf⟩ := gd_s hf
            obtain ⟨i_138_2, hf⟩ := ix_s hf
            refine g_iast hw k_138 i_138_2 d_Mod_act_138 ?_
            have hf := pw_b hf
            refine g_goto 511 d_Mod_act_139 (by decide) ?_
            exact Go.ret none trivial rfl d_Mod_act_511 (pV_of hf)
        · have hf := ifp hf c_95
          refine g_aload_n d_Mod_act_98 rfl ?_
          obtain ⟨a_99, e_99, k_99, hf⟩ := rq_s hf
          refine fgs_Mod_register lf_Mod_67 d_Mod_act_99 k_27 e_99 ?_
          refine g_iload d_Mod_act_102 rfl ?_
          refine g_aload_n d_Mod_act_104 rfl ?_
          refine g_iload_n d_Mod_act_105 rfl ?_
          refine g_iload_n d_Mod_act_106 rfl ?_
          obtain ⟨v_107, h_107, e_107, hf⟩ := cl_s hf
          refine g_callV (mz := mi_Mod_told) (e_Mod_told e_107) cw_Mod_act_Mod_told lm_Mod_328 wI_Mod_told wV_Mod_told (ci := 11) k_27 (by decide) rfl rfl d_Mod_act_107 rfl rfl (by first | exact Nat.le_of_ble_eq_true rfl | simp [cat_rf, Value.category]) (fun r1 h1 hp hro => ?_)
          obtain ⟨rfl, rfl⟩ := hp
          dsimp only [Option.toList_some, Option.toList_none, List.cons_append, List.nil_append]
          obtain ⟨k_110, hf⟩ := gd_s hf
          obtain ⟨i_110_2, hf⟩ := ix_s hf
          refine g_iast hw k_110 i_110_2 d_Mod_act_110 ?_
          have hf := pw_b hf
          refine g_goto 511 d_Mod_act_111 (by decide) ?_
          exact Go.ret none trivial rfl d_Mod_act_511 (pV_of hf)
      · have hf := ifp hf c_73
        refine g_aload_n d_Mod_act_76 rfl ?_
        obtain ⟨a_77, e_77, k_77, hf⟩ := rq_s hf
        refine fgs_Mod_register lf_Mod_67 d_Mod_act_77 k_27 e_77 ?_
        refine g_iload d_Mod_act_80 rfl ?_
        refine g_aload_n d_Mod_act_82 rfl ?_
        refine fg_Mod_n lf_Mod_237 d_Mod_act_83 k_27 ?_
        obtain ⟨i_86, hf⟩ := ix_s hf
        refine g_iast hw k_77 i_86 d_Mod_act_86 ?_
        have hf := pw_b hf
        refine g_goto 511 d_Mod_act_87 (by decide) ?_
        exact Go.ret none trivial rfl d_Mod_act_511 (pV_of hf)
    · have hf := ifp hf c_55
      refine g_aload_n d_Mod_act_58 rfl ?_
      obtain ⟨a_59, e_59, k_59, hf⟩ := rq_s hf
      refine fgs_Mod_waits lf_Mod_80 d_Mod_act_59 k_27 e_59 ?_
      refine g_iload_n d_Mod_act_62 rfl ?_
      refine g_iconst 1 d_Mod_act_63 (by decide) ?_
      obtain ⟨i_64, hf⟩ := ix_s hf
      refine g_zast hw (zok (by decide)) k_59 i_64 d_Mod_act_64 ?_
      have hf := pw_b hf
      refine g_goto 511 d_Mod_act_65 (by decide) ?_
      exact Go.ret none trivial rfl d_Mod_act_511 (pV_of hf)
  · have hf := ifp hf c_37
    refine g_aload_n d_Mod_act_40 rfl ?_
    obtain ⟨a_41, e_41, k_41, hf⟩ := rq_s hf
    refine fgs_Mod_isEnded lf_Mod_76 d_Mod_act_41 k_27 e_41 ?_
    refine g_iload_n d_Mod_act_44 rfl ?_
    refine g_iconst 1 d_Mod_act_45 (by decide) ?_
    obtain ⟨i_46, hf⟩ := ix_s hf
    refine g_zast hw (zok (by decide)) k_41 i_46 d_Mod_act_46 ?_
    have hf := pw_b hf
    refine g_goto 511 d_Mod_act_47 (by decide) ?_
    exact Go.ret none trivial rfl d_Mod_act_511 (pV_of hf)
abbrev mi_Mod_settle : MI := (⟨"WarpMillModel", "settle", "(I)V"⟩, prog_13_method_59_code, 7, none, 1, 22)
def it_Mod_settle_0 : List (Nat × ClassFile.Instr × Nat) := [(0, .iconst 1, 1), (1, .istore_n 2, 1), (2, .iconst 1, 1), (3, .istore_n 3, 1), (4, .iconst 0, 1), (5, .istore 4, 2), (7, .iload 4, 2), (9, .sipush (128), 3), (12, .if_icmp .ge (119), 3), (15, .iconst 0, 1), (16, .istore 5, 2), (18, .aload_n 0, 1), (19, .getfield 54, 3), (22, .iload 4, 2), (24, .iaload, 1), (25, .iload_n 1, 1), (26, .if_icmp .ne (99), 3), (29, .iload 5, 2), (31, .aload_n 0, 1), (32, .getfield 7, 3), (35, .if_icmp .ge (90), 3), (38, .iload 4, 2), (40, .iload 5, 2), (42, .invokestatic 211, 3)]
theorem id_Mod_settle_0 : ∀ q ∈ it_Mod_settle_0, decode prog_13_method_59_code q.1 = .ok q.2 := by decide +kernel
theorem d_Mod_settle_0 : decode prog_13_method_59_code 0 = .ok (.iconst 1, 1) := id_Mod_settle_0 (0, .iconst 1, 1) (List.mem_of_getElem? (i := 0) rfl)
theorem d_Mod_settle_1 : decode prog_13_method_59_code 1 = .ok (.istore_n 2, 1) := id_Mod_settle_0 (1, .istore_n 2, 1) (List.mem_of_getElem? (i := 1) rfl)
theorem d_Mod_settle_2 : decode prog_13_method_59_code 2 = .ok (.iconst 1, 1) := id_Mod_settle_0 (2, .iconst 1, 1) (List.mem_of_getElem? (i := 2) rfl)
theorem d_Mod_settle_3 : decode prog_13_method_59_code 3 = .ok (.istore_n 3, 1) := id_Mod_settle_0 (3, .istore_n 3, 1) (List.mem_of_getElem? (i := 3) rfl)
theorem d_Mod_settle_4 : decode prog_13_method_59_code 4 = .ok (.iconst 0, 1) := id_Mod_settle_0 (4, .iconst 0, 1) (List.mem_of_getElem? (i := 4) rfl)
theorem d_Mod_settle_5 : decode prog_13_method_59_code 5 = .ok (.istore 4, 2) := id_Mod_settle_0 (5, .istore 4, 2) (List.mem_of_getElem? (i := 5) rfl)
theorem d_Mod_settle_7 : decode prog_13_method_59_code 7 = .ok (.iload 4, 2) := id_Mod_settle_0 (7, .iload 4, 2) (List.mem_of_getElem? (i := 6) rfl)
theorem d_Mod_settle_9 : decode prog_13_method_59_code 9 = .ok (.sipush (128), 3) := id_Mod_settle_0 (9, .sipush (128), 3) (List.mem_of_getElem? (i := 7) rfl)
theorem d_Mod_settle_12 : decode prog_13_method_59_code 12 = .ok (.if_icmp .ge (119), 3) := id_Mod_settle_0 (12, .if_icmp .ge (119), 3) (List.mem_of_getElem? (i := 8) rfl)
theorem d_Mod_settle_15 : decode prog_13_method_59_code 15 = .ok (.iconst 0, 1) := id_Mod_settle_0 (15, .iconst 0, 1) (List.mem_of_getElem? (i := 9) rfl)
theorem d_Mod_settle_16 : decode prog_13_method_59_code 16 = .ok (.istore 5, 2) := id_Mod_settle_0 (16, .istore 5, 2) (List.mem_of_getElem? (i := 10) rfl)
theorem d_Mod_settle_18 : decode prog_13_method_59_code 18 = .ok (.aload_n 0, 1) := id_Mod_settle_0 (18, .aload_n 0, 1) (List.mem_of_getElem? (i := 11) rfl)
theorem d_Mod_settle_19 : decode prog_13_method_59_code 19 = .ok (.getfield 54, 3) := id_Mod_settle_0 (19, .getfield 54, 3) (List.mem_of_getElem? (i := 12) rfl)
theorem d_Mod_settle_22 : decode prog_13_method_59_code 22 = .ok (.iload 4, 2) := id_Mod_settle_0 (22, .iload 4, 2) (List.mem_of_getElem? (i := 13) rfl)
theorem d_Mod_settle_24 : decode prog_13_method_59_code 24 = .ok (.iaload, 1) := id_Mod_settle_0 (24, .iaload, 1) (List.mem_of_getElem? (i := 14) rfl)
theorem d_Mod_settle_25 : decode prog_13_method_59_code 25 = .ok (.iload_n 1, 1) := id_Mod_settle_0 (25, .iload_n 1, 1) (List.mem_of_getElem? (i := 15) rfl)
theorem d_Mod_settle_26 : decode prog_13_method_59_code 26 = .ok (.if_icmp .ne (99), 3) := id_Mod_settle_0 (26, .if_icmp .ne (99), 3) (List.mem_of_getElem? (i := 16) rfl)
theorem d_Mod_settle_29 : decode prog_13_method_59_code 29 = .ok (.iload 5, 2) := id_Mod_settle_0 (29, .iload 5, 2) (List.mem_of_getElem? (i := 17) rfl)
theorem d_Mod_settle_31 : decode prog_13_method_59_code 31 = .ok (.aload_n 0, 1) := id_Mod_settle_0 (31, .aload_n 0, 1) (List.mem_of_getElem? (i := 18) rfl)
theorem d_Mod_settle_32 : decode prog_13_method_59_code 32 = .ok (.getfield 7, 3) := id_Mod_settle_0 (32, .getfield 7, 3) (List.mem_of_getElem? (i := 19) rfl)
theorem d_Mod_settle_35 : decode prog_13_method_59_code 35 = .ok (.if_icmp .ge (90), 3) := id_Mod_settle_0 (35, .if_icmp .ge (90), 3) (List.mem_of_getElem? (i := 20) rfl)
theorem d_Mod_settle_38 : decode prog_13_method_59_code 38 = .ok (.iload 4, 2) := id_Mod_settle_0 (38, .iload 4, 2) (List.mem_of_getElem? (i := 21) rfl)
theorem d_Mod_settle_40 : decode prog_13_method_59_code 40 = .ok (.iload 5, 2) := id_Mod_settle_0 (40, .iload 5, 2) (List.mem_of_getElem? (i := 22) rfl)
theorem d_Mod_settle_42 : decode prog_13_method_59_code 42 = .ok (.invokestatic 211, 3) := id_Mod_settle_0 (42, .invokestatic 211, 3) (List.mem_of_getElem? (i := 23) rfl)
def it_Mod_settle_1 : List (Nat × ClassFile.Instr × Nat) := [(45, .istore 6, 2), (47, .iload_n 2, 1), (48, .ifCond .eq (38), 3), (51, .aload_n 0, 1), (52, .getfield 76, 3), (55, .iload 6, 2), (57, .baload, 1), (58, .ifCond .ne (24), 3), (61, .aload_n 0, 1), (62, .getfield 80, 3), (65, .iload 6, 2), (67, .baload, 1), (68, .ifCond .ne (14), 3), (71, .aload_n 0, 1), (72, .iload 4, 2), (74, .iload 5, 2), (76, .invokevirtual 208, 3), (79, .ifCond .ne (7), 3), (82, .iconst 1, 1), (83, .goto (4), 3), (86, .iconst 0, 1), (87, .istore_n 2, 1), (88, .iload_n 3, 1), (89, .ifCond .eq (28), 3)]
theorem id_Mod_settle_1 : ∀ q ∈ it_Mod_settle_1, decode prog_13_method_59_code q.1 = .ok q.2 := by decide +kernel
theorem d_Mod_settle_45 : decode prog_13_method_59_code 45 = .ok (.istore 6, 2) := id_Mod_settle_1 (45, .istore 6, 2) (List.mem_of_getElem? (i := 0) rfl)
theorem d_Mod_settle_47 : decode prog_13_method_59_code 47 = .ok (.iload_n 2, 1) := id_Mod_settle_1 (47, .iload_n 2, 1) (List.mem_of_getElem? (i := 1) rfl)
theorem d_Mod_settle_48 : decode prog_13_method_59_code 48 = .ok (.ifCond .eq (38), 3) := id_Mod_settle_1 (48, .ifCond .eq (38), 3) (List.mem_of_getElem? (i := 2) rfl)
theorem d_Mod_settle_51 : decode prog_13_method_59_code 51 = .ok (.aload_n 0, 1) := id_Mod_settle_1 (51, .aload_n 0, 1) (List.mem_of_getElem? (i := 3) rfl)
theorem d_Mod_settle_52 : decode prog_13_method_59_code 52 = .ok (.getfield 76, 3) := id_Mod_settle_1 (52, .getfield 76, 3) (List.mem_of_getElem? (i := 4) rfl)
theorem d_Mod_settle_55 : decode prog_13_method_59_code 55 = .ok (.iload 6, 2) := id_Mod_settle_1 (55, .iload 6, 2) (List.mem_of_getElem? (i := 5) rfl)
theorem d_Mod_settle_57 : decode prog_13_method_59_code 57 = .ok (.baload, 1) := id_Mod_settle_1 (57, .baload, 1) (List.mem_of_getElem? (i := 6) rfl)
theorem d_Mod_settle_58 : decode prog_13_method_59_code 58 = .ok (.ifCond .ne (24), 3) := id_Mod_settle_1 (58, .ifCond .ne (24), 3) (List.mem_of_getElem? (i := 7) rfl)
theorem d_Mod_settle_61 : decode prog_13_method_59_code 61 = .ok (.aload_n 0, 1) := id_Mod_settle_1 (61, .aload_n 0, 1) (List.mem_of_getElem? (i := 8) rfl)
theorem d_Mod_settle_62 : decode prog_13_method_59_code 62 = .ok (.getfield 80, 3) := id_Mod_settle_1 (62, .getfield 80, 3) (List.mem_of_getElem? (i := 9) rfl)
theorem d_Mod_settle_65 : decode prog_13_method_59_code 65 = .ok (.iload 6, 2) := id_Mod_settle_1 (65, .iload 6, 2) (List.mem_of_getElem? (i := 10) rfl)
theorem d_Mod_settle_67 : decode prog_13_method_59_code 67 = .ok (.baload, 1) := id_Mod_settle_1 (67, .baload, 1) (List.mem_of_getElem? (i := 11) rfl)
theorem d_Mod_settle_68 : decode prog_13_method_59_code 68 = .ok (.ifCond .ne (14), 3) := id_Mod_settle_1 (68, .ifCond .ne (14), 3) (List.mem_of_getElem? (i := 12) rfl)
theorem d_Mod_settle_71 : decode prog_13_method_59_code 71 = .ok (.aload_n 0, 1) := id_Mod_settle_1 (71, .aload_n 0, 1) (List.mem_of_getElem? (i := 13) rfl)
theorem d_Mod_settle_72 : decode prog_13_method_59_code 72 = .ok (.iload 4, 2) := id_Mod_settle_1 (72, .iload 4, 2) (List.mem_of_getElem? (i := 14) rfl)
theorem d_Mod_settle_74 : decode prog_13_method_59_code 74 = .ok (.iload 5, 2) := id_Mod_settle_1 (74, .iload 5, 2) (List.mem_of_getElem? (i := 15) rfl)
theorem d_Mod_settle_76 : decode prog_13_method_59_code 76 = .ok (.invokevirtual 208, 3) := id_Mod_settle_1 (76, .invokevirtual 208, 3) (List.mem_of_getElem? (i := 16) rfl)
theorem d_Mod_settle_79 : decode prog_13_method_59_code 79 = .ok (.ifCond .ne (7), 3) := id_Mod_settle_1 (79, .ifCond .ne (7), 3) (List.mem_of_getElem? (i := 17) rfl)
theorem d_Mod_settle_82 : decode prog_13_method_59_code 82 = .ok (.iconst 1, 1) := id_Mod_settle_1 (82, .iconst 1, 1) (List.mem_of_getElem? (i := 18) rfl)
theorem d_Mod_settle_83 : decode prog_13_method_59_code 83 = .ok (.goto (4), 3) := id_Mod_settle_1 (83, .goto (4), 3) (List.mem_of_getElem? (i := 19) rfl)
theorem d_Mod_settle_86 : decode prog_13_method_59_code 86 = .ok (.iconst 0, 1) := id_Mod_settle_1 (86, .iconst 0, 1) (List.mem_of_getElem? (i := 20) rfl)
theorem d_Mod_settle_87 : decode prog_13_method_59_code 87 = .ok (.istore_n 2, 1) := id_Mod_settle_1 (87, .istore_n 2, 1) (List.mem_of_getElem? (i := 21) rfl)
theorem d_Mod_settle_88 : decode prog_13_method_59_code 88 = .ok (.iload_n 3, 1) := id_Mod_settle_1 (88, .iload_n 3, 1) (List.mem_of_getElem? (i := 22) rfl)
theorem d_Mod_settle_89 : decode prog_13_method_59_code 89 = .ok (.ifCond .eq (28), 3) := id_Mod_settle_1 (89, .ifCond .eq (28), 3) (List.mem_of_getElem? (i := 23) rfl)
def it_Mod_settle_2 : List (Nat × ClassFile.Instr × Nat) := [(92, .aload_n 0, 1), (93, .getfield 76, 3), (96, .iload 6, 2), (98, .baload, 1), (99, .ifCond .ne (14), 3), (102, .aload_n 0, 1), (103, .iload 4, 2), (105, .iload 5, 2), (107, .invokevirtual 208, 3), (110, .ifCond .ne (7), 3), (113, .iconst 1, 1), (114, .goto (4), 3), (117, .iconst 0, 1), (118, .istore_n 3, 1), (119, .iinc 5 (1), 3), (122, .goto (-104), 3), (125, .iinc 4 (1), 3), (128, .goto (-121), 3), (131, .iconst 0, 1), (132, .istore 4, 2), (134, .iload 4, 2), (136, .sipush (128), 3), (139, .if_icmp .ge (78), 3), (142, .iconst 0, 1)]
theorem id_Mod_settle_2 : ∀ q ∈ it_Mod_settle_2, decode prog_13_method_59_code q.1 = .ok q.2 := by decide +kernel
theorem d_Mod_settle_92 : decode prog_13_method_59_code 92 = .ok (.aload_n 0, 1) := id_Mod_settle_2 (92, .aload_n 0, 1) (List.mem_of_getElem? (i := 0) rfl)
theorem d_Mod_settle_93 : decode prog_13_method_59_code 93 = .ok (.getfield 76, 3) := id_Mod_settle_2 (93, .getfield 76, 3) (List.mem_of_getElem? (i := 1) rfl)
theorem d_Mod_settle_96 : decode prog_13_method_59_code 96 = .ok (.iload 6, 2) := id_Mod_settle_2 (96, .iload 6, 2) (List.mem_of_getElem? (i := 2) rfl)
theorem d_Mod_settle_98 : decode prog_13_method_59_code 98 = .ok (.baload, 1) := id_Mod_settle_2 (98, .baload, 1) (List.mem_of_getElem? (i := 3) rfl)
theorem d_Mod_settle_99 : decode prog_13_method_59_code 99 = .ok (.ifCond .ne (14), 3) := id_Mod_settle_2 (99, .ifCond .ne (14), 3) (List.mem_of_getElem? (i := 4) rfl)
theorem d_Mod_settle_102 : decode prog_13_method_59_code 102 = .ok (.aload_n 0, 1) := id_Mod_settle_2 (102, .aload_n 0, 1) (List.mem_of_getElem? (i := 5) rfl)
theorem d_Mod_settle_103 : decode prog_13_method_59_code 103 = .ok (.iload 4, 2) := id_Mod_settle_2 (103, .iload 4, 2) (List.mem_of_getElem? (i := 6) rfl)
theorem d_Mod_settle_105 : decode prog_13_method_59_code 105 = .ok (.iload 5, 2) := id_Mod_settle_2 (105, .iload 5, 2) (List.mem_of_getElem? (i := 7) rfl)
theorem d_Mod_settle_107 : decode prog_13_method_59_code 107 = .ok (.invokevirtual 208, 3) := id_Mod_settle_2 (107, .invokevirtual 208, 3) (List.mem_of_getElem? (i := 8) rfl)
theorem d_Mod_settle_110 : decode prog_13_method_59_code 110 = .ok (.ifCond .ne (7), 3) := id_Mod_settle_2 (110, .ifCond .ne (7), 3) (List.mem_of_getElem? (i := 9) rfl)
theorem d_Mod_settle_113 : decode prog_13_method_59_code 113 = .ok (.iconst 1, 1) := id_Mod_settle_2 (113, .iconst 1, 1) (List.mem_of_getElem? (i := 10) rfl)
theorem d_Mod_settle_114 : decode prog_13_method_59_code 114 = .ok (.goto (4), 3) := id_Mod_settle_2 (114, .goto (4), 3) (List.mem_of_getElem? (i := 11) rfl)
theorem d_Mod_settle_117 : decode prog_13_method_59_code 117 = .ok (.iconst 0, 1) := id_Mod_settle_2 (117, .iconst 0, 1) (List.mem_of_getElem? (i := 12) rfl)
theorem d_Mod_settle_118 : decode prog_13_method_59_code 118 = .ok (.istore_n 3, 1) := id_Mod_settle_2 (118, .istore_n 3, 1) (List.mem_of_getElem? (i := 13) rfl)
theorem d_Mod_settle_119 : decode prog_13_method_59_code 119 = .ok (.iinc 5 (1), 3) := id_Mod_settle_2 (119, .iinc 5 (1), 3) (List.mem_of_getElem? (i := 14) rfl)
theorem d_Mod_settle_122 : decode prog_13_method_59_code 122 = .ok (.goto (-104), 3) := id_Mod_settle_2 (122, .goto (-104), 3) (List.mem_of_getElem? (i := 15) rfl)
theorem d_Mod_settle_125 : decode prog_13_method_59_code 125 = .ok (.iinc 4 (1), 3) := id_Mod_settle_2 (125, .iinc 4 (1), 3) (List.mem_of_getElem? (i := 16) rfl)
theorem d_Mod_settle_128 : decode prog_13_method_59_code 128 = .ok (.goto (-121), 3) := id_Mod_settle_2 (128, .goto (-121), 3) (List.mem_of_getElem? (i := 17) rfl)
theorem d_Mod_settle_131 : decode prog_13_method_59_code 131 = .ok (.iconst 0, 1) := id_Mod_settle_2 (131, .iconst 0, 1) (List.mem_of_getElem? (i := 18) rfl)
theorem d_Mod_settle_132 : decode prog_13_method_59_code 132 = .ok (.istore 4, 2) := id_Mod_settle_2 (132, .istore 4, 2) (List.mem_of_getElem? (i := 19) rfl)
theorem d_Mod_settle_134 : decode prog_13_method_59_code 134 = .ok (.iload 4, 2) := id_Mod_settle_2 (134, .iload 4, 2) (List.mem_of_getElem? (i := 20) rfl)
theorem d_Mod_settle_136 : decode prog_13_method_59_code 136 = .ok (.sipush (128), 3) := id_Mod_settle_2 (136, .sipush (128), 3) (List.mem_of_getElem? (i := 21) rfl)
theorem d_Mod_settle_139 : decode prog_13_method_59_code 139 = .ok (.if_icmp .ge (78), 3) := id_Mod_settle_2 (139, .if_icmp .ge (78), 3) (List.mem_of_getElem? (i := 22) rfl)
theorem d_Mod_settle_142 : decode prog_13_method_59_code 142 = .ok (.iconst 0, 1) := id_Mod_settle_2 (142, .iconst 0, 1) (List.mem_of_getElem? (i := 23) rfl)
def it_Mod_settle_3 : List (Nat × ClassFile.Instr × Nat) := [(143, .istore 5, 2), (145, .iload_n 2, 1), (146, .ifCond .eq (42), 3), (149, .aload_n 0, 1), (150, .getfield 54, 3), (153, .iload 4, 2), (155, .iaload, 1), (156, .iload_n 1, 1), (157, .if_icmp .ne (31), 3), (160, .iload 5, 2), (162, .aload_n 0, 1), (163, .getfield 7, 3), (166, .if_icmp .ge (22), 3), (169, .aload_n 0, 1), (170, .getfield 80, 3), (173, .iload 4, 2), (175, .iload 5, 2), (177, .invokestatic 211, 3), (180, .iconst 0, 1), (181, .bastore, 1), (182, .iinc 5 (1), 3), (185, .goto (-40), 3), (188, .iload_n 3, 1), (189, .ifCond .eq (22), 3)]
theorem id_Mod_settle_3 : ∀ q ∈ it_Mod_settle_3, decode prog_13_method_59_code q.1 = .ok q.2 := by decide +kernel
theorem d_Mod_settle_143 : decode prog_13_method_59_code 143 = .ok (.istore 5, 2) := id_Mod_settle_3 (143, .istore 5, 2) (List.mem_of_getElem? (i := 0) rfl)
theorem d_Mod_settle_145 : decode prog_13_method_59_code 145 = .ok (.iload_n 2, 1) := id_Mod_settle_3 (145, .iload_n 2, 1) (List.mem_of_getElem? (i := 1) rfl)
theorem d_Mod_settle_146 : decode prog_13_method_59_code 146 = .ok (.ifCond .eq (42), 3) := id_Mod_settle_3 (146, .ifCond .eq (42), 3) (List.mem_of_getElem? (i := 2) rfl)
theorem d_Mod_settle_149 : decode prog_13_method_59_code 149 = .ok (.aload_n 0, 1) := id_Mod_settle_3 (149, .aload_n 0, 1) (List.mem_of_getElem? (i := 3) rfl)
theorem d_Mod_settle_150 : decode prog_13_method_59_code 150 = .ok (.getfield 54, 3) := id_Mod_settle_3 (150, .getfield 54, 3) (List.mem_of_getElem? (i := 4) rfl)
theorem d_Mod_settle_153 : decode prog_13_method_59_code 153 = .ok (.iload 4, 2) := id_Mod_settle_3 (153, .iload 4, 2) (List.mem_of_getElem? (i := 5) rfl)
theorem d_Mod_settle_155 : decode prog_13_method_59_code 155 = .ok (.iaload, 1) := id_Mod_settle_3 (155, .iaload, 1) (List.mem_of_getElem? (i := 6) rfl)
theorem d_Mod_settle_156 : decode prog_13_method_59_code 156 = .ok (.iload_n 1, 1) := id_Mod_settle_3 (156, .iload_n 1, 1) (List.mem_of_getElem? (i := 7) rfl)
theorem d_Mod_settle_157 : decode prog_13_method_59_code 157 = .ok (.if_icmp .ne (31), 3) := id_Mod_settle_3 (157, .if_icmp .ne (31), 3) (List.mem_of_getElem? (i := 8) rfl)
theorem d_Mod_settle_160 : decode prog_13_method_59_code 160 = .ok (.iload 5, 2) := id_Mod_settle_3 (160, .iload 5, 2) (List.mem_of_getElem? (i := 9) rfl)
theorem d_Mod_settle_162 : decode prog_13_method_59_code 162 = .ok (.aload_n 0, 1) := id_Mod_settle_3 (162, .aload_n 0, 1) (List.mem_of_getElem? (i := 10) rfl)
theorem d_Mod_settle_163 : decode prog_13_method_59_code 163 = .ok (.getfield 7, 3) := id_Mod_settle_3 (163, .getfield 7, 3) (List.mem_of_getElem? (i := 11) rfl)
theorem d_Mod_settle_166 : decode prog_13_method_59_code 166 = .ok (.if_icmp .ge (22), 3) := id_Mod_settle_3 (166, .if_icmp .ge (22), 3) (List.mem_of_getElem? (i := 12) rfl)
theorem d_Mod_settle_169 : decode prog_13_method_59_code 169 = .ok (.aload_n 0, 1) := id_Mod_settle_3 (169, .aload_n 0, 1) (List.mem_of_getElem? (i := 13) rfl)
theorem d_Mod_settle_170 : decode prog_13_method_59_code 170 = .ok (.getfield 80, 3) := id_Mod_settle_3 (170, .getfield 80, 3) (List.mem_of_getElem? (i := 14) rfl)
theorem d_Mod_settle_173 : decode prog_13_method_59_code 173 = .ok (.iload 4, 2) := id_Mod_settle_3 (173, .iload 4, 2) (List.mem_of_getElem? (i := 15) rfl)
theorem d_Mod_settle_175 : decode prog_13_method_59_code 175 = .ok (.iload 5, 2) := id_Mod_settle_3 (175, .iload 5, 2) (List.mem_of_getElem? (i := 16) rfl)
theorem d_Mod_settle_177 : decode prog_13_method_59_code 177 = .ok (.invokestatic 211, 3) := id_Mod_settle_3 (177, .invokestatic 211, 3) (List.mem_of_getElem? (i := 17) rfl)
theorem d_Mod_settle_180 : decode prog_13_method_59_code 180 = .ok (.iconst 0, 1) := id_Mod_settle_3 (180, .iconst 0, 1) (List.mem_of_getElem? (i := 18) rfl)
theorem d_Mod_settle_181 : decode prog_13_method_59_code 181 = .ok (.bastore, 1) := id_Mod_settle_3 (181, .bastore, 1) (List.mem_of_getElem? (i := 19) rfl)
theorem d_Mod_settle_182 : decode prog_13_method_59_code 182 = .ok (.iinc 5 (1), 3) := id_Mod_settle_3 (182, .iinc 5 (1), 3) (List.mem_of_getElem? (i := 20) rfl)
theorem d_Mod_settle_185 : decode prog_13_method_59_code 185 = .ok (.goto (-40), 3) := id_Mod_settle_3 (185, .goto (-40), 3) (List.mem_of_getElem? (i := 21) rfl)
theorem d_Mod_settle_188 : decode prog_13_method_59_code 188 = .ok (.iload_n 3, 1) := id_Mod_settle_3 (188, .iload_n 3, 1) (List.mem_of_getElem? (i := 22) rfl)
theorem d_Mod_settle_189 : decode prog_13_method_59_code 189 = .ok (.ifCond .eq (22), 3) := id_Mod_settle_3 (189, .ifCond .eq (22), 3) (List.mem_of_getElem? (i := 23) rfl)
def it_Mod_settle_4 : List (Nat × ClassFile.Instr × Nat) := [(192, .aload_n 0, 1), (193, .getfield 54, 3), (196, .iload 4, 2), (198, .iaload, 1), (199, .iload_n 1, 1), (200, .if_icmp .ne (11), 3), (203, .aload_n 0, 1), (204, .getfield 54, 3), (207, .iload 4, 2), (209, .iconst (-1), 1), (210, .iastore, 1), (211, .iinc 4 (1), 3), (214, .goto (-80), 3), (217, .aload_n 0, 1), (218, .dup, 1), (219, .getfield 177, 3), (222, .iload_n 3, 1), (223, .ifCond .eq (7), 3), (226, .iconst 1, 1), (227, .goto (4), 3), (230, .iconst 0, 1), (231, .iadd, 1), (232, .putfield 177, 3), (235, .return_, 1)]
theorem id_Mod_settle_4 : ∀ q ∈ it_Mod_settle_4, decode prog_13_method_59_code q.1 = .ok q.2 := by decide +kernel
theorem d_Mod_settle_192 : decode prog_13_method_59_code 192 = .ok (.aload_n 0, 1) := id_Mod_settle_4 (192, .aload_n 0, 1) (List.mem_of_getElem? (i := 0) rfl)
theorem d_Mod_settle_193 : decode prog_13_method_59_code 193 = .ok (.getfield 54, 3) := id_Mod_settle_4 (193, .getfield 54, 3) (List.mem_of_getElem? (i := 1) rfl)
theorem d_Mod_settle_196 : decode prog_13_method_59_code 196 = .ok (.iload 4, 2) := id_Mod_settle_4 (196, .iload 4, 2) (List.mem_of_getElem? (i := 2) rfl)
theorem d_Mod_settle_198 : decode prog_13_method_59_code 198 = .ok (.iaload, 1) := id_Mod_settle_4 (198, .iaload, 1) (List.mem_of_getElem? (i := 3) rfl)
theorem d_Mod_settle_199 : decode prog_13_method_59_code 199 = .ok (.iload_n 1, 1) := id_Mod_settle_4 (199, .iload_n 1, 1) (List.mem_of_getElem? (i := 4) rfl)
theorem d_Mod_settle_200 : decode prog_13_method_59_code 200 = .ok (.if_icmp .ne (11), 3) := id_Mod_settle_4 (200, .if_icmp .ne (11), 3) (List.mem_of_getElem? (i := 5) rfl)
theorem d_Mod_settle_203 : decode prog_13_method_59_code 203 = .ok (.aload_n 0, 1) := id_Mod_settle_4 (203, .aload_n 0, 1) (List.mem_of_getElem? (i := 6) rfl)
theorem d_Mod_settle_204 : decode prog_13_method_59_code 204 = .ok (.getfield 54, 3) := id_Mod_settle_4 (204, .getfield 54, 3) (List.mem_of_getElem? (i := 7) rfl)
theorem d_Mod_settle_207 : decode prog_13_method_59_code 207 = .ok (.iload 4, 2) := id_Mod_settle_4 (207, .iload 4, 2) (List.mem_of_getElem? (i := 8) rfl)
theorem d_Mod_settle_209 : decode prog_13_method_59_code 209 = .ok (.iconst (-1), 1) := id_Mod_settle_4 (209, .iconst (-1), 1) (List.mem_of_getElem? (i := 9) rfl)
theorem d_Mod_settle_210 : decode prog_13_method_59_code 210 = .ok (.iastore, 1) := id_Mod_settle_4 (210, .iastore, 1) (List.mem_of_getElem? (i := 10) rfl)
theorem d_Mod_settle_211 : decode prog_13_method_59_code 211 = .ok (.iinc 4 (1), 3) := id_Mod_settle_4 (211, .iinc 4 (1), 3) (List.mem_of_getElem? (i := 11) rfl)
theorem d_Mod_settle_214 : decode prog_13_method_59_code 214 = .ok (.goto (-80), 3) := id_Mod_settle_4 (214, .goto (-80), 3) (List.mem_of_getElem? (i := 12) rfl)
theorem d_Mod_settle_217 : decode prog_13_method_59_code 217 = .ok (.aload_n 0, 1) := id_Mod_settle_4 (217, .aload_n 0, 1) (List.mem_of_getElem? (i := 13) rfl)
theorem d_Mod_settle_218 : decode prog_13_method_59_code 218 = .ok (.dup, 1) := id_Mod_settle_4 (218, .dup, 1) (List.mem_of_getElem? (i := 14) rfl)
theorem d_Mod_settle_219 : decode prog_13_method_59_code 219 = .ok (.getfield 177, 3) := id_Mod_settle_4 (219, .getfield 177, 3) (List.mem_of_getElem? (i := 15) rfl)
theorem d_Mod_settle_222 : decode prog_13_method_59_code 222 = .ok (.iload_n 3, 1) := id_Mod_settle_4 (222, .iload_n 3, 1) (List.mem_of_getElem? (i := 16) rfl)
theorem d_Mod_settle_223 : decode prog_13_method_59_code 223 = .ok (.ifCond .eq (7), 3) := id_Mod_settle_4 (223, .ifCond .eq (7), 3) (List.mem_of_getElem? (i := 17) rfl)
theorem d_Mod_settle_226 : decode prog_13_method_59_code 226 = .ok (.iconst 1, 1) := id_Mod_settle_4 (226, .iconst 1, 1) (List.mem_of_getElem? (i := 18) rfl)
theorem d_Mod_settle_227 : decode prog_13_method_59_code 227 = .ok (.goto (4), 3) := id_Mod_settle_4 (227, .goto (4), 3) (List.mem_of_getElem? (i := 19) rfl)
theorem d_Mod_settle_230 : decode prog_13_method_59_code 230 = .ok (.iconst 0, 1) := id_Mod_settle_4 (230, .iconst 0, 1) (List.mem_of_getElem? (i := 20) rfl)
theorem d_Mod_settle_231 : decode prog_13_method_59_code 231 = .ok (.iadd, 1) := id_Mod_settle_4 (231, .iadd, 1) (List.mem_of_getElem? (i := 21) rfl)
theorem d_Mod_settle_232 : decode prog_13_method_59_code 232 = .ok (.putfield 177, 3) := id_Mod_settle_4 (232, .putfield 177, 3) (List.mem_of_getElem? (i := 22) rfl)
theorem d_Mod_settle_235 : decode prog_13_method_59_code 235 = .ok (.return_, 1) := id_Mod_settle_4 (235, .return_, 1) (List.mem_of_getElem? (i := 23) rfl)
theorem wC_Mod_settle : Cond.code ⟨"WarpMillModel", "settle", "(I)V"⟩ prog_13_method_59_code 7 (none) ∈ lw_tb := mem_tb 1472 (by decide +kernel) rfl
theorem cw_Mod_settle_Mod_thread : cW mi_Mod_settle mi_Mod_thread 2 := ⟨wC_Mod_thread, wi_Mod, ⟨by decide, by decide, by decide +kernel⟩, by decide, by decide⟩
theorem cw_Mod_settle_Mod_isLane : cW mi_Mod_settle mi_Mod_isLane 2 := ⟨wC_Mod_isLane, wi_Mod, ⟨by decide, by decide, by decide +kernel⟩, by decide, by decide⟩
def b_Mod_settle_113 (F : Nat) (k7 : Nat → Int32 → Int32 → Int32 → Int32 → Hp → Option Hp) (k18 : Nat → Int32 → Int32 → Int32 → Int32 → Int32 → Hp → Option Hp) (x0 : Nat) (x1 : Int32) (x2 : Int32) (x4 : Int32) (x5 : Int32) (h : Hp) : Option Hp := k18 x0 x1 x2 (1 : Int32) x4 (x5 + 1) h
set_option maxRecDepth 100000 in
set_option maxHeartbeats 4000000 in
theorem e_Mod_settle_113 {G : Gl} (hw : gF G) {h0 : Hp} {F : Nat} {h' : Hp} {k7 : Nat → Int32 → Int32 → Int32 → Int32 → Hp → Option Hp} {k18 : Nat → Int32 → Int32 → Int32 → Int32 → Int32 → Hp → Option Hp} (hk7 : ∀ (y0 : Nat) (y1 : Int32) (y2 : Int32) (y3 : Int32) (y4 : Int32) (hh : Hp), k7 y0 y1 y2 y3 y4 hh = some h' → Go G mi_Mod_settle h0 (pV h') hh 7 [(0, .ref y0), (1, .int y1), (2, .int y2), (3, .int y3), (4, .int y4)] []) (hk18 : ∀ (y0 : Nat) (y1 : Int32) (y2 : Int32) (y3 : Int32) (y4 : Int32) (y5 : Int32) (hh : Hp), k18 y0 y1 y2 y3 y4 y5 hh = some h' → Go G mi_Mod_settle h0 (pV h') hh 18 [(0, .ref y0), (1, .int y1), (2, .int y2), (3, .int y3), (4, .int y4), (5, .int y5)] []) {x0 : Nat} {x1 : Int32} {x2 : Int32} {x4 : Int32} {x5 : Int32} {h : Hp} (hf : b_Mod_settle_113 F k7 k18 x0 x1 x2 x4 x5 h = some h') : Go G mi_Mod_settle h0 (pV h') h 113 [(0, .ref x0), (1, .int x1), (2, .int x2), (4, .int x4), (5, .int x5)] [] := by
  unfold b_Mod_settle_113 at hf
  refine g_iconst 1 d_Mod_settle_113 (by decide) ?_
  refine g_goto 118 d_Mod_settle_114 (by decide) ?_
  refine g_istore_n d_Mod_settle_118 (by decide) ?_
  show Go _ _ _ _ _ _ [(0, _), (1, _), (2, _), (3, _), (4, _), (5, _)] _
  refine g_iinc (_ + 1) d_Mod_settle_119 rfl (by rfl) (by decide) ?_
  show Go _ _ _ _ _ _ [(0, _), (1, _), (2, _), (3, _), (4, _), (5, _)] _
  refine g_goto 18 d_Mod_settle_122 (by decide) ?_
  exact hk18 _ _ _ _ _ _ _ hf
def b_Mod_settle_87 (F : Nat) (k7 : Nat → Int32 → Int32 → Int32 → Int32 → Hp → Option Hp) (k18 : Nat → Int32 → Int32 → Int32 → Int32 → Int32 → Hp → Option Hp) (x0 : Nat) (x1 : Int32) (x3 : Int32) (x4 : Int32) (x5 : Int32) (x6 : Int32) (s0 : Int32) (h : Hp) : Option Hp := if x3 = 0 then (k18 x0 x1 s0 (0 : Int32) x4 (x5 + 1) h) else (gd (hK h x0 = 12) <| rq h (hR h 742 x0) 101 fun a_93_2 => ix x6 (hN h a_93_2) fun j_98 => if (hA h a_93_2 j_98) = 0 then (cl (f_Mod_isLane F x0 x4 x5 h) fun v_107 h_107 => if v_107 = 0 then (b_Mod_settle_113 F k7 k18 x0 x1 s0 x4 x5 h_107) else (k18 x0 x1 s0 (0 : Int32) x4 (x5 + 1) h_107)) else (b_Mod_settle_113 F k7 k18 x0 x1 s0 x4 x5 h))
set_option maxRecDepth 100000 in
set_option maxHeartbeats 4000000 in
theorem e_Mod_settle_87 {G : Gl} (hw : gF G) {h0 : Hp} {F : Nat} {h' : Hp} {k7 : Nat → Int32 → Int32 → Int32 → Int32 → Hp → Option Hp} {k18 : Nat → Int32 → Int32 → Int32 → Int32 → Int32 → Hp → Option Hp} (hk7 : ∀ (y0 : Nat) (y1 : Int32) (y2 : Int32) (y3 : Int32) (y4 : Int32) (hh : Hp), k7 y0 y1 y2 y3 y4 hh = some h' → Go G mi_Mod_settle h0 (pV h') hh 7 [(0, .ref y0), (1, .int y1), (2, .int y2), (3, .int y3), (4, .int y4)] []) (hk18 : ∀ (y0 : Nat) (y1 : Int32) (y2 : Int32) (y3 : Int32) (y4 : Int32) (y5 : Int32) (hh : Hp), k18 y0 y1 y2 y3 y4 y5 hh = some h' → Go G mi_Mod_settle h0 (pV h') hh 18 [(0, .ref y0), (1, .int y1), (2, .int y2), (3, .int y3), (4, .int y4), (5, .int y5)] []) {x0 : Nat} {x1 : Int32} {x3 : Int32} {x4 : Int32} {x5 : Int32} {x6 : Int32} {s0 : Int32} {h : Hp} (hf : b_Mod_settle_87 F k7 k18 x0 x1 x3 x4 x5 x6 s0 h = some h') : Go G mi_Mod_settle h0 (pV h') h 87 [(0, .ref x0), (1, .int x1), (3, .int x3), (4, .int x4), (5, .int x5), (6, .int x6)] [.int s0] := by
  unfold b_Mod_settle_87 at hf
  refine g_istore_n d_Mod_settle_87 (by decide) ?_
  show Go _ _ _ _ _ _ [(0, _), (1, _), (2, _), (3, _), (4, _), (5, _), (6, _)] _
  refine g_iload_n d_Mod_settle_88 rfl ?_
  refine g_if_eq 117 d_Mod_settle_89 (by decide) (fun c_89 => ?_) (fun c_89 => ?_)
  · have hf := ifp hf c_89
    refine g_iconst 0 d_Mod_settle_117 (by decide) ?_
    refine g_istore_n d_Mod_settle_118 (by decide) ?_
    show Go _ _ _ _ _ _ [(0, _), (1, _), (2, _), (3, _), (4, _), (5, _), (6, _)] _
    refine g_iinc (_ + 1) d_Mod_settle_119 rfl (by rfl) (by decide) ?_
    show Go _ _ _ _ _ _ [(0, _), (1, _), (2, _), (3, _), (4, _), (5, _), (6, _)] _
    refine g_goto 18 d_Mod_settle_122 (by decide) ?_
    refine Go.locals [0, 1, 2, 3, 4, 5] rfl ?_
    exact hk18 _ _ _ _ _ _ _ hf
  · have hf := ifn hf c_89
    refine g_aload_n d_Mod_settle_92 rfl ?_
    obtain ⟨k_93, hf⟩ := gd_s hf
    obtain ⟨a_93_2, e_93_2, k_93_2, hf⟩ := rq_s hf
    refine fgs_Mod_isEnded lf_Mod_76 d_Mod_settle_93 k_93 e_93_2 ?_
    refine g_iload d_Mod_settle_96 rfl ?_
    obtain ⟨i_98, hf⟩ := ix_s hf
    refine g_zald k_93_2 i_98 d_Mod_settle_98 ?_
    refine g_if_ne 113 d_Mod_settle_99 (by decide) (fun c_99 => ?_) (fun c_99 => ?_)
    · have hf := ifn hf c_99
      refine Go.locals [0, 1, 2, 4, 5] rfl ?_
      have key := e_Mod_settle_113 hw (G := G) (h0 := h0) hk7 hk18 hf
      exact key
    · have hf := ifp hf c_99
      refine g_aload_n d_Mod_settle_102 rfl ?_
      refine g_iload d_Mod_settle_103 rfl ?_
      refine g_iload d_Mod_settle_105 rfl ?_
      obtain ⟨v_107, h_107, e_107, hf⟩ := cl_s hf
      refine g_callV (mz := mi_Mod_isLane) (e_Mod_isLane e_107) cw_Mod_settle_Mod_isLane lm_Mod_208 wI_Mod_isLane wV_Mod_isLane (ci := 11) k_93 (by decide) rfl rfl d_Mod_settle_107 rfl rfl (by first | exact Nat.le_of_ble_eq_true rfl | simp [cat_rf, Value.category]) (fun r1 h1 hp hro => ?_)
      obtain ⟨rfl, rfl⟩ := hp
      dsimp only [Option.toList_some, Option.toList_none, List.cons_append, List.nil_append]
      refine g_if_ne 117 d_Mod_settle_110 (by decide) (fun c_110 => ?_) (fun c_110 => ?_)
      · have hf := ifn hf c_110
        refine g_iconst 0 d_Mod_settle_117 (by decide) ?_
        refine g_istore_n d_Mod_settle_118 (by decide) ?_
        show Go _ _ _ _ _ _ [(0, _), (1, _), (2, _), (3, _), (4, _), (5, _), (6, _)] _
        refine g_iinc (_ + 1) d_Mod_settle_119 rfl (by rfl) (by decide) ?_
        show Go _ _ _ _ _ _ [(0, _), (1, _), (2, _), (3, _), (4, _), (5, _), (6, _)] _
        refine g_goto 18 d_Mod_settle_122 (by decide) ?_
        refine Go.locals [0, 1, 2, 3, 4, 5] rfl ?_
        exact hk18 _ _ _ _ _ _ _ hf
      · have hf := ifp hf c_110
        refine Go.locals [0, 1, 2, 4, 5] rfl ?_
        have key := e_Mod_settle_113 hw (G := G) (h0 := h0) hk7 hk18 hf
        exact key
def b_Mod_settle_82 (F : Nat) (k7 : Nat → Int32 → Int32 → Int32 → Int32 → Hp → Option Hp) (k18 : Nat → Int32 → Int32 → Int32 → Int32 → Int32 → Hp → Option Hp) (x0 : Nat) (x1 : Int32) (x3 : Int32) (x4 : Int32) (x5 : Int32) (x6 : Int32) (h : Hp) : Option Hp := b_Mod_settle_87 F k7 k18 x0 x1 x3 x4 x5 x6 (1 : Int32) h
set_option maxRecDepth 100000 in
set_option maxHeartbeats 4000000 in
theorem e_Mod_settle_82 {G : Gl} (hw : gF G) {h0 : Hp} {F : Nat} {h' : Hp} {k7 : Nat → Int32 → Int32 → Int32 → Int32 → Hp → Option Hp} {k18 : Nat → Int32 → Int32 → Int32 → Int32 → Int32 → Hp → Option Hp} (hk7 : ∀ (y0 : Nat) (y1 : Int32) (y2 : Int32) (y3 : Int32) (y4 : Int32) (hh : Hp), k7 y0 y1 y2 y3 y4 hh = some h' → Go G mi_Mod_settle h0 (pV h') hh 7 [(0, .ref y0), (1, .int y1), (2, .int y2), (3, .int y3), (4, .int y4)] []) (hk18 : ∀ (y0 : Nat) (y1 : Int32) (y2 : Int32) (y3 : Int32) (y4 : Int32) (y5 : Int32) (hh : Hp), k18 y0 y1 y2 y3 y4 y5 hh = some h' → Go G mi_Mod_settle h0 (pV h') hh 18 [(0, .ref y0), (1, .int y1), (2, .int y2), (3, .int y3), (4, .int y4), (5, .int y5)] []) {x0 : Nat} {x1 : Int32} {x3 : Int32} {x4 : Int32} {x5 : Int32} {x6 : Int32} {h : Hp} (hf : b_Mod_settle_82 F k7 k18 x0 x1 x3 x4 x5 x6 h = some h') : Go G mi_Mod_settle h0 (pV h') h 82 [(0, .ref x0), (1, .int x1), (3, .int x3), (4, .int x4), (5, .int x5), (6, .int x6)] [] := by
  unfold b_Mod_settle_82 at hf
  refine g_iconst 1 d_Mod_settle_82 (by decide) ?_
  refine g_goto 87 d_Mod_settle_83 (by decide) ?_
  have key := e_Mod_settle_87 hw (G := G) (h0 := h0) hk7 hk18 hf
  exact key
def b_Mod_settle_86 (F : Nat) (k7 : Nat → Int32 → Int32 → Int32 → Int32 → Hp → Option Hp) (k18 : Nat → Int32 → Int32 → Int32 → Int32 → Int32 → Hp → Option Hp) (x0 : Nat) (x1 : Int32) (x3 : Int32) (x4 : Int32) (x5 : Int32) (x6 : Int32) (h : Hp) : Option Hp := b_Mod_settle_87 F k7 k18 x0 x1 x3 x4 x5 x6 (0 : Int32) h
set_option maxRecDepth 100000 in
set_option maxHeartbeats 4000000 in
theorem e_Mod_settle_86 {G : Gl} (hw : gF G) {h0 : Hp} {F : Nat} {h' : Hp} {k7 : Nat → Int32 → Int32 → Int32 → Int32 → Hp → Option Hp} {k18 : Nat → Int32 → Int32 → Int32 → Int32 → Int32 → Hp → Option Hp} (hk7 : ∀ (y0 : Nat) (y1 : Int32) (y2 : Int32) (y3 : Int32) (y4 : Int32) (hh : Hp), k7 y0 y1 y2 y3 y4 hh = some h' → Go G mi_Mod_settle h0 (pV h') hh 7 [(0, .ref y0), (1, .int y1), (2, .int y2), (3, .int y3), (4, .int y4)] []) (hk18 : ∀ (y0 : Nat) (y1 : Int32) (y2 : Int32) (y3 : Int32) (y4 : Int32) (y5 : Int32) (hh : Hp), k18 y0 y1 y2 y3 y4 y5 hh = some h' → Go G mi_Mod_settle h0 (pV h') hh 18 [(0, .ref y0), (1, .int y1), (2, .int y2), (3, .int y3), (4, .int y4), (5, .int y5)] []) {x0 : Nat} {x1 : Int32} {x3 : Int32} {x4 : Int32} {x5 : Int32} {x6 : Int32} {h : Hp} (hf : b_Mod_settle_86 F k7 k18 x0 x1 x3 x4 x5 x6 h = some h') : Go G mi_Mod_settle h0 (pV h') h 86 [(0, .ref x0), (1, .int x1), (3, .int x3), (4, .int x4), (5, .int x5), (6, .int x6)] [] := by
  unfold b_Mod_settle_86 at hf
  refine g_iconst 0 d_Mod_settle_86 (by decide) ?_
  have key := e_Mod_settle_87 hw (G := G) (h0 := h0) hk7 hk18 hf
  exact key
def b_Mod_settle_18 (F : Nat) (k7 : Nat → Int32 → Int32 → Int32 → Int32 → Hp → Option Hp) : Nat → Nat → Int32 → Int32 → Int32 → Int32 → Int32 → Hp → Option Hp
  | 0 => fun _ _ _ _ _ _ _ => none
  | n + 1 => fun x0 x1 x2 x3 x4 x5 h => gd (hK h x0 = 12) <| rq h (hR h 735 x0) 100 fun a_19_2 => ix x4 (hN h a_19_2) fun j_24 => if (hA h a_19_2 j_24) = x1 then (if (hI h 705 x0) ≤ x5 then (k7 x0 x1 x2 x3 (x4 + 1) h) else (cl (f_Mod_thread F x4 x5 h) fun v_42 h_42 => if x2 = 0 then (b_Mod_settle_86 F k7 (b_Mod_settle_18 F k7 n) x0 x1 x3 x4 x5 v_42 h_42) else (gd (hK h_42 x0 = 12) <| rq h_42 (hR h_42 742 x0) 101 fun a_52_2 => ix v_42 (hN h_42 a_52_2) fun j_57 => if (hA h_42 a_52_2 j_57) = 0 then (rq h_42 (hR h_42 743 x0) 101 fun a_62 => ix v_42 (hN h_42 a_62) fun j_67 => if (hA h_42 a_62 j_67) = 0 then (cl (f_Mod_isLane F x0 x4 x5 h_42) fun v_76 h_76 => if v_76 = 0 then (b_Mod_settle_82 F k7 (b_Mod_settle_18 F k7 n) x0 x1 x3 x4 x5 v_42 h_76) else (b_Mod_settle_86 F k7 (b_Mod_settle_18 F k7 n) x0 x1 x3 x4 x5 v_42 h_76)) else (b_Mod_settle_82 F k7 (b_Mod_settle_18 F k7 n) x0 x1 x3 x4 x5 v_42 h_42)) else (b_Mod_settle_82 F k7 (b_Mod_settle_18 F k7 n) x0 x1 x3 x4 x5 v_42 h_42)))) else (k7 x0 x1 x2 x3 (x4 + 1) h)
set_option maxRecDepth 100000 in
set_option maxHeartbeats 4000000 in
theorem e_Mod_settle_18 {G : Gl} (hw : gF G) {h0 : Hp} {F : Nat} {h' : Hp} {k7 : Nat → Int32 → Int32 → Int32 → Int32 → Hp → Option Hp} (hk7 : ∀ (y0 : Nat) (y1 : Int32) (y2 : Int32) (y3 : Int32) (y4 : Int32) (hh : Hp), k7 y0 y1 y2 y3 y4 hh = some h' → Go G mi_Mod_settle h0 (pV h') hh 7 [(0, .ref y0), (1, .int y1), (2, .int y2), (3, .int y3), (4, .int y4)] []) : ∀ (n : Nat) (x0 : Nat) (x1 : Int32) (x2 : Int32) (x3 : Int32) (x4 : Int32) (x5 : Int32) (h : Hp), b_Mod_settle_18 F k7 n x0 x1 x2 x3 x4 x5 h = some h' → Go G mi_Mod_settle h0 (pV h') h 18 [(0, .ref x0), (1, .int x1), (2, .int x2), (3, .int x3), (4, .int x4), (5, .int x5)] [] := by
  intro n
  induction n with
  | zero =>
    intro _ _ _ _ _ _ _ hf
    exact nm_s hf
  | succ n ih =>
    intro x0 x1 x2 x3 x4 x5 h hf
    unfold b_Mod_settle_18 at hf
    refine g_aload_n d_Mod_settle_18 rfl ?_
    obtain ⟨k_19, hf⟩ := gd_s hf
    obtain ⟨a_19_2, e_19_2, k_19_2, hf⟩ := rq_s hf
    refine fgs_Mod_slotBlock lf_Mod_54 d_Mod_settle_19 k_19 e_19_2 ?_
    refine g_iload d_Mod_settle_22 rfl ?_
    obtain ⟨i_24, hf⟩ := ix_s hf
    refine g_iald k_19_2 i_24 d_Mod_settle_24 ?_
    refine g_iload_n d_Mod_settle_25 rfl ?_
    refine g_icmp_ne 125 d_Mod_settle_26 (by decide) (fun c_26 => ?_) (fun c_26 => ?_)
    · have hf := ifn hf c_26
      refine g_iinc (_ + 1) d_Mod_settle_125 rfl (by rfl) (by decide) ?_
      show Go _ _ _ _ _ _ [(0, _), (1, _), (2, _), (3, _), (4, _), (5, _)] _
      refine g_goto 7 d_Mod_settle_128 (by decide) ?_
      refine Go.locals [0, 1, 2, 3, 4] rfl ?_
      exact hk7 _ _ _ _ _ _ hf
    · have hf := ifp hf c_26
      refine g_iload d_Mod_settle_29 rfl ?_
      refine g_aload_n d_Mod_settle_31 rfl ?_
      refine fg_Mod_lanes lf_Mod_7 d_Mod_settle_32 k_19 ?_
      refine g_icmp_ge 125 d_Mod_settle_35 (by decide) (fun c_35 => ?_) (fun c_35 => ?_)
      · have hf := ifp hf c_35
        refine g_iinc (_ + 1) d_Mod_settle_125 rfl (by rfl) (by decide) ?_
        show Go _ _ _ _ _ _ [(0, _), (1, _), (2, _), (3, _), (4, _), (5, _)] _
        refine g_goto 7 d_Mod_settle_128 (by decide) ?_
        refine Go.locals [0, 1, 2, 3, 4] rfl ?_
        exact hk7 _ _ _ _ _ _ hf
      · have hf := ifn hf c_35
        refine g_iload d_Mod_settle_38 rfl ?_
        refine g_iload d_Mod_settle_40 rfl ?_
        obtain ⟨v_42, h_42, e_42, hf⟩ := cl_s hf
        refine g_callS (mz := mi_Mod_thread) (e_Mod_thread e_42) cw_Mod_settle_Mod_thread lm_Mod_211 wS_Mod_thread d_Mod_settle_42 rfl rfl (by first | exact Nat.le_of_ble_eq_true rfl | simp [cat_rf, Value.category]) (fun r1 h1 hp hro => ?_)
        obtain ⟨rfl, rfl⟩ := hp
        dsimp only [Option.toList_some, Option.toList_none, List.cons_append, List.nil_append]
        refine g_istore d_Mod_settle_45 (by decide) ?_
        show Go _ _ _ _ _ _ [(0, _), (1, _), (2, _), (3, _), (4, _), (5, _), (6, _)] _
        refine g_iload_n d_Mod_settle_47 rfl ?_
        refine g_if_eq 86 d_Mod_settle_48 (by decide) (fun c_48 => ?_) (fun c_48 => ?_)
        · have hf := ifp hf c_48
          refine Go.locals [0, 1, 3, 4, 5, 6] rfl ?_
          have key := e_Mod_settle_86 hw (G := G) (h0 := h0) hk7 (fun _ _ _ _ _ _ _ q => ih _ _ _ _ _ _ _ q) hf
          exact key
        · have hf := ifn hf c_48
          refine g_aload_n d_Mod_settle_51 rfl ?_
          obtain ⟨k_52, hf⟩ := gd_s hf
          obtain ⟨a_52_2, e_52_2, k_52_2, hf⟩ := rq_s hf
          refine fgs_Mod_isEnded lf_Mod_76 d_Mod_settle_52 k_52 e_52_2 ?_
          refine g_iload d_Mod_settle_55 rfl ?_
          obtain ⟨i_57, hf⟩ := ix_s hf
          refine g_zald k_52_2 i_57 d_Mod_settle_57 ?_
          refine g_if_ne 82 d_Mod_settle_58 (by decide) (fun c_58 => ?_) (fun c_58 => ?_)
          · have hf := ifn hf c_58
            refine Go.locals [0, 1, 3, 4, 5, 6] rfl ?_
            have key := e_Mod_settle_82 hw (G := G) (h0 := h0) hk7 (fun _ _ _ _ _ _ _ q => ih _ _ _ _ _ _ _ q) hf
            exact key
          · have hf := ifp hf c_58
            refine g_aload_n d_Mod_settle_61 rfl ?_
            obtain ⟨a_62, e_62, k_62, hf⟩ := rq_s hf
            refine fgs_Mod_waits lf_Mod_80 d_Mod_settle_62 k_52 e_62 ?_
            refine g_iload d_Mod_settle_65 rfl ?_
            obtain ⟨i_67, hf⟩ := ix_s hf
            refine g_zald k_62 i_67 d_Mod_settle_67 ?_
            refine g_if_ne 82 d_Mod_settle_68 (by decide) (fun c_68 => ?_) (fun c_68 => ?_)
            · have hf := ifn hf c_68
              refine Go.locals [0, 1, 3, 4, 5, 6] rfl ?_
              have key := e_Mod_settle_82 hw (G := G) (h0 := h0) hk7 (fun _ _ _ _ _ _ _ q => ih _ _ _ _ _ _ _ q) hf
              exact key
            · have hf := ifp hf c_68
              refine g_aload_n d_Mod_settle_71 rfl ?_
              refine g_iload d_Mod_settle_72 rfl ?_
              refine g_iload d_Mod_settle_74 rfl ?_
              obtain ⟨v_76, h_76, e_76, hf⟩ := cl_s hf
              refine g_callV (mz := mi_Mod_isLane) (e_Mod_isLane e_76) cw_Mod_settle_Mod_isLane lm_Mod_208 wI_Mod_isLane wV_Mod_isLane (ci := 11) k_52 (by decide) rfl rfl d_Mod_settle_76 rfl rfl (by first | exact Nat.le_of_ble_eq_true rfl | simp [cat_rf, Value.category]) (fun r1 h1 hp hro => ?_)
              obtain ⟨rfl, rfl⟩ := hp
              dsimp only [Option.toList_some, Option.toList_none, List.cons_append, List.nil_append]
              refine g_if_ne 86 d_Mod_settle_79 (by decide) (fun c_79 => ?_) (fun c_79 => ?_)
              · have hf := ifn hf c_79
                refine Go.locals [0, 1, 3, 4, 5, 6] rfl ?_
                have key := e_Mod_settle_86 hw (G := G) (h0 := h0) hk7 (fun _ _ _ _ _ _ _ q => ih _ _ _ _ _ _ _ q) hf
                exact key
              · have hf := ifp hf c_79
                refine Go.locals [0, 1, 3, 4, 5, 6] rfl ?_
                have key := e_Mod_settle_82 hw (G := G) (h0 := h0) hk7 (fun _ _ _ _ _ _ _ q => ih _ _ _ _ _ _ _ q) hf
                exact key
def b_Mod_settle_188 (F : Nat) (k134 : Nat → Int32 → Int32 → Int32 → Int32 → Hp → Option Hp) (x0 : Nat) (x1 : Int32) (x2 : Int32) (x3 : Int32) (x4 : Int32) (h : Hp) : Option Hp := if x3 = 0 then (k134 x0 x1 x2 x3 (x4 + 1) h) else (gd (hK h x0 = 12) <| rq h (hR h 735 x0) 100 fun a_193_2 => ix x4 (hN h a_193_2) fun j_198 => if (hA h a_193_2 j_198) = x1 then (ix x4 (hN h a_193_2) fun j_210 => pw (sA h a_193_2 j_210 (-1 : Int32)) fun h_210_2 => k134 x0 x1 x2 x3 (x4 + 1) h_210_2) else (k134 x0 x1 x2 x3 (x4 + 1) h))
set_option maxRecDepth 100000 in
set_option maxHeartbeats 4000000 in
theorem e_Mod_settle_188 {G : Gl} (hw : gF G) {h0 : Hp} {F : Nat} {h' : Hp} {k134 : Nat → Int32 → Int32 → Int32 → Int32 → Hp → Option Hp} (hk134 : ∀ (y0 : Nat) (y1 : Int32) (y2 : Int32) (y3 : Int32) (y4 : Int32) (hh : Hp), k134 y0 y1 y2 y3 y4 hh = some h' → Go G mi_Mod_settle h0 (pV h') hh 134 [(0, .ref y0), (1, .int y1), (2, .int y2), (3, .int y3), (4, .int y4)] []) {x0 : Nat} {x1 : Int32} {x2 : Int32} {x3 : Int32} {x4 : Int32} {h : Hp} (hf : b_Mod_settle_188 F k134 x0 x1 x2 x3 x4 h = some h') : Go G mi_Mod_settle h0 (pV h') h 188 [(0, .ref x0), (1, .int x1), (2, .int x2), (3, .int x3), (4, .int x4)] [] := by
  unfold b_Mod_settle_188 at hf
  refine g_iload_n d_Mod_settle_188 rfl ?_
  refine g_if_eq 211 d_Mod_settle_189 (by decide) (fun c_189 => ?_) (fun c_189 => ?_)
  · have hf := ifp hf c_189
    refine g_iinc (_ + 1) d_Mod_settle_211 rfl (by rfl) (by decide) ?_
    show Go _ _ _ _ _ _ [(0, _), (1, _), (2, _), (3, _), (4, _)] _
    refine g_goto 134 d_Mod_settle_214 (by decide) ?_
    exact hk134 _ _ _ _ _ _ hf
  · have hf := ifn hf c_189
    refine g_aload_n d_Mod_settle_192 rfl ?_
    obtain ⟨k_193, hf⟩ := gd_s hf
    obtain ⟨a_193_2, e_193_2, k_193_2, hf⟩ := rq_s hf
    refine fgs_Mod_slotBlock lf_Mod_54 d_Mod_settle_193 k_193 e_193_2 ?_
    refine g_iload d_Mod_settle_196 rfl ?_
    obtain ⟨i_198, hf⟩ := ix_s hf
    refine g_iald k_193_2 i_198 d_Mod_settle_198 ?_
    refine g_iload_n d_Mod_settle_199 rfl ?_
    refine g_icmp_ne 211 d_Mod_settle_200 (by decide) (fun c_200 => ?_) (fun c_200 => ?_)
    · have hf := ifn hf c_200
      refine g_iinc (_ + 1) d_Mod_settle_211 rfl (by rfl) (by decide) ?_
      show Go _ _ _ _ _ _ [(0, _), (1, _), (2, _), (3, _), (4, _)] _
      refine g_goto 134 d_Mod_settle_214 (by decide) ?_
      exact hk134 _ _ _ _ _ _ hf
    · have hf := ifp hf c_200
      refine g_aload_n d_Mod_settle_203 rfl ?_
      refine fgs_Mod_slotBlock lf_Mod_54 d_Mod_settle_204 k_193 e_193_2 ?_
      refine g_iload d_Mod_settle_207 rfl ?_
      refine g_iconst (-1) d_Mod_settle_209 (by decide) ?_
      obtain ⟨i_210, hf⟩ := ix_s hf
      refine g_iast hw k_193_2 i_210 d_Mod_settle_210 ?_
      have hf := pw_b hf
      refine g_iinc (_ + 1) d_Mod_settle_211 rfl (by rfl) (by decide) ?_
      show Go _ _ _ _ _ _ [(0, _), (1, _), (2, _), (3, _), (4, _)] _
      refine g_goto 134 d_Mod_settle_214 (by decide) ?_
      exact hk134 _ _ _ _ _ _ hf
def b_Mod_settle_145 (F : Nat) (k134 : Nat → Int32 → Int32 → Int32 → Int32 → Hp → Option Hp) : Nat → Nat → Int32 → Int32 → Int32 → Int32 → Int32 → Hp → Option Hp
  | 0 => fun _ _ _ _ _ _ _ => none
  | n + 1 => fun x0 x1 x2 x3 x4 x5 h => if x2 = 0 then (b_Mod_settle_188 F k134 x0 x1 x2 x3 x4 h) else (gd (hK h x0 = 12) <| rq h (hR h 735 x0) 100 fun a_150_2 => ix x4 (hN h a_150_2) fun j_155 => if (hA h a_150_2 j_155) = x1 then (if (hI h 705 x0) ≤ x5 then (b_Mod_settle_188 F k134 x0 x1 x2 x3 x4 h) else (rq h (hR h 743 x0) 101 fun a_170 => cl (f_Mod_thread F x4 x5 h) fun v_177 h_177 => gd (hK h_177 a_170 = 101) <| ix v_177 (hN h_177 a_170) fun j_181_2 => pw (sA h_177 a_170 j_181_2 (0 : Int32)) fun h_181_3 => b_Mod_settle_145 F k134 n x0 x1 x2 x3 x4 (x5 + 1) h_181_3)) else (b_Mod_settle_188 F k134 x0 x1 x2 x3 x4 h))
set_option maxRecDepth 100000 in
set_option maxHeartbeats 4000000 in
theorem e_Mod_settle_145 {G : Gl} (hw : gF G) {h0 : Hp} {F : Nat} {h' : Hp} {k134 : Nat → Int32 → Int32 → Int32 → Int32 → Hp → Option Hp} (hk134 : ∀ (y0 : Nat) (y1 : Int32) (y2 : Int32) (y3 : Int32) (y4 : Int32) (hh : Hp), k134 y0 y1 y2 y3 y4 hh = some h' → Go G mi_Mod_settle h0 (pV h') hh 134 [(0, .ref y0), (1, .int y1), (2, .int y2), (3, .int y3), (4, .int y4)] []) : ∀ (n : Nat) (x0 : Nat) (x1 : Int32) (x2 : Int32) (x3 : Int32) (x4 : Int32) (x5 : Int32) (h : Hp), b_Mod_settle_145 F k134 n x0 x1 x2 x3 x4 x5 h = some h' → Go G mi_Mod_settle h0 (pV h') h 145 [(0, .ref x0), (1, .int x1), (2, .int x2), (3, .int x3), (4, .int x4), (5, .int x5)] [] := by
  intro n
  induction n with
  | zero =>
    intro _ _ _ _ _ _ _ hf
    exact nm_s hf
  | succ n ih =>
    intro x0 x1 x2 x3 x4 x5 h hf
    unfold b_Mod_settle_145 at hf
    refine g_iload_n d_Mod_settle_145 rfl ?_
    refine g_if_eq 188 d_Mod_settle_146 (by decide) (fun c_146 => ?_) (fun c_146 => ?_)
    · have hf := ifp hf c_146
      refine Go.locals [0, 1, 2, 3, 4] rfl ?_
      have key := e_Mod_settle_188 hw (G := G) (h0 := h0) hk134 hf
      exact key
    · have hf := ifn hf c_146
      refine g_aload_n d_Mod_settle_149 rfl ?_
      obtain ⟨k_150, hf⟩ := gd_s hf
      obtain ⟨a_150_2, e_150_2, k_150_2, hf⟩ := rq_s hf
      refine fgs_Mod_slotBlock lf_Mod_54 d_Mod_settle_150 k_150 e_150_2 ?_
      refine g_iload d_Mod_settle_153 rfl ?_
      obtain ⟨i_155, hf⟩ := ix_s hf
      refine g_iald k_150_2 i_155 d_Mod_settle_155 ?_
      refine g_iload_n d_Mod_settle_156 rfl ?_
      refine g_icmp_ne 188 d_Mod_settle_157 (by decide) (fun c_157 => ?_) (fun c_157 => ?_)
      · have hf := ifn hf c_157
        refine Go.locals [0, 1, 2, 3, 4] rfl ?_
        have key := e_Mod_settle_188 hw (G := G) (h0 := h0) hk134 hf
        exact key
      · have hf := ifp hf c_157
        refine g_iload d_Mod_settle_160 rfl ?_
        refine g_aload_n d_Mod_settle_162 rfl ?_
        refine fg_Mod_lanes lf_Mod_7 d_Mod_settle_163 k_150 ?_
        refine g_icmp_ge 188 d_Mod_settle_166 (by decide) (fun c_166 => ?_) (fun c_166 => ?_)
        · have hf := ifp hf c_166
          refine Go.locals [0, 1, 2, 3, 4] rfl ?_
          have key := e_Mod_settle_188 hw (G := G) (h0 := h0) hk134 hf
          exact key
        · have hf := ifn hf c_166
          refine g_aload_n d_Mod_settle_169 rfl ?_
          obtain ⟨a_170, e_170, k_170, hf⟩ := rq_s hf
          refine fgs_Mod_waits lf_Mod_80 d_Mod_settle_170 k_150 e_170 ?_
          refine g_iload d_Mod_settle_173 rfl ?_
          refine g_iload d_Mod_settle_175 rfl ?_
          obtain ⟨v_177, h_177, e_177, hf⟩ := cl_s hf
          refine g_callS (mz := mi_Mod_thread) (e_Mod_thread e_177) cw_Mod_settle_Mod_thread lm_Mod_211 wS_Mod_thread d_Mod_settle_177 rfl rfl (by first | exact Nat.le_of_ble_eq_true rfl | simp [cat_rf, Value.category]) (fun r1 h1 hp hro => ?_)
          obtain ⟨rfl, rfl⟩ := hp
          dsimp only [Option.toList_some, Option.toList_none, List.cons_append, List.nil_append]
          refine g_iconst 0 d_Mod_settle_180 (by decide) ?_
          obtain ⟨k_181, hf⟩ := gd_s hf
          obtain ⟨i_181_2, hf⟩ := ix_s hf
          refine g_zast hw (zok (by decide)) k_181 i_181_2 d_Mod_settle_181 ?_
          have hf := pw_b hf
          refine g_iinc (_ + 1) d_Mod_settle_182 rfl (by rfl) (by decide) ?_
          show Go _ _ _ _ _ _ [(0, _), (1, _), (2, _), (3, _), (4, _), (5, _)] _
          refine g_goto 145 d_Mod_settle_185 (by decide) ?_
          exact ih _ _ _ _ _ _ _ hf
def b_Mod_settle_231 (F : Nat) (s0 : Nat) (s1 : Int32) (s2 : Int32) (h : Hp) : Option Hp := gd (hK h s0 = 12) <| pw (sI h 725 s0 (s1 + s2)) fun h_232_2 => some h_232_2
set_option maxRecDepth 100000 in
set_option maxHeartbeats 4000000 in
theorem e_Mod_settle_231 {G : Gl} (hw : gF G) {h0 : Hp} {F : Nat} {h' : Hp}   {s0 : Nat} {s1 : Int32} {s2 : Int32} {h : Hp} (hf : b_Mod_settle_231 F s0 s1 s2 h = some h') : Go G mi_Mod_settle h0 (pV h') h 231 [] [.int s2, .int s1, .ref s0] := by
  unfold b_Mod_settle_231 at hf
  refine g_iadd d_Mod_settle_231 ?_
  obtain ⟨k_232, hf⟩ := gd_s hf
  refine fp_Mod_ended hw lf_Mod_177 d_Mod_settle_232 k_232 ?_
  have hf := pw_b hf
  exact Go.ret none trivial rfl d_Mod_settle_235 (pV_of hf)
def b_Mod_settle_134 (F : Nat) : Nat → Nat → Int32 → Int32 → Int32 → Int32 → Hp → Option Hp
  | 0 => fun _ _ _ _ _ _ => none
  | n + 1 => fun x0 x1 x2 x3 x4 h => if (128 : Int32) ≤ x4 then (gd (hK h x0 = 12) <| if x3 = 0 then (b_Mod_settle_231 F x0 (hI h 725 x0) (0 : Int32) h) else (b_Mod_settle_231 F x0 (hI h 725 x0) (1 : Int32) h)) else (b_Mod_settle_145 F (b_Mod_settle_134 F n) F x0 x1 x2 x3 x4 (0 : Int32) h)
set_option maxRecDepth 100000 in
set_option maxHeartbeats 4000000 in
theorem e_Mod_settle_134 {G : Gl} (hw : gF G) {h0 : Hp} {F : Nat} {h' : Hp}   : ∀ (n : Nat) (x0 : Nat) (x1 : Int32) (x2 : Int32) (x3 : Int32) (x4 : Int32) (h : Hp), b_Mod_settle_134 F n x0 x1 x2 x3 x4 h = some h' → Go G mi_Mod_settle h0 (pV h') h 134 [(0, .ref x0), (1, .int x1), (2, .int x2), (3, .int x3), (4, .int x4)] [] := by
  intro n
  induction n with
  | zero =>
    intro _ _ _ _ _ _ hf
    exact nm_s hf
  | succ n ih =>
    intro x0 x1 x2 x3 x4 h hf
    unfold b_Mod_settle_134 at hf
    refine g_iload d_Mod_settle_134 rfl ?_
    refine g_sipush (128) d_Mod_settle_136 (by decide) ?_
    refine g_icmp_ge 217 d_Mod_settle_139 (by decide) (fun c_139 => ?_) (fun c_139 => ?_)
    · have hf := ifp hf c_139
      refine g_aload_n d_Mod_settle_217 rfl ?_
      refine g_dup (by first | rfl | exact cat_rf _) d_Mod_settle_218 ?_
      obtain ⟨k_219, hf⟩ := gd_s hf
      refine fg_Mod_ended lf_Mod_177 d_Mod_settle_219 k_219 ?_
      refine g_iload_n d_Mod_settle_222 rfl ?_
      refine g_if_eq 230 d_Mod_settle_223 (by decide) (fun c_223 => ?_) (fun c_223 => ?_)
      · have hf := ifp hf c_223
        refine g_iconst 0 d_Mod_settle_230 (by decide) ?_
        refine Go.locals [] rfl ?_
        have key := e_Mod_settle_231 hw (G := G) (h0 := h0)  hf
        exact key
      · have hf := ifn hf c_223
        refine g_iconst 1 d_Mod_settle_226 (by decide) ?_
        refine g_goto 231 d_Mod_settle_227 (by decide) ?_
        refine Go.locals [] rfl ?_
        have key := e_Mod_settle_231 hw (G := G) (h0 := h0)  hf
        exact key
    · have hf := ifn hf c_139
      refine g_iconst 0 d_Mod_settle_142 (by decide) ?_
      refine g_istore d_Mod_settle_143 (by decide) ?_
      show Go _ _ _ _ _ _ [(0, _), (1, _), (2, _), (3, _), (4, _), (5, _)] _
      have key := e_Mod_settle_145 hw (G := G) (h0 := h0) (fun _ _ _ _ _ _ q => ih _ _ _ _ _ _ q) F _ _ _ _ _ _ _ hf
      exact key
def b_Mod_settle_7 (F : Nat) : Nat → Nat → Int32 → Int32 → Int32 → Int32 → Hp → Option Hp
  | 0 => fun _ _ _ _ _ _ => none
  | n + 1 => fun x0 x1 x2 x3 x4 h => if (128 : Int32) ≤ x4 then (b_Mod_settle_134 F F x0 x1 x2 x3 (0 : Int32) h) else (b_Mod_settle_18 F (b_Mod_settle_7 F n) F x0 x1 x2 x3 x4 (0 : Int32) h)
set_option maxRecDepth 100000 in
set_option maxHeartbeats 4000000 in
theorem e_Mod_settle_7 {G : Gl} (hw : gF G) {h0 : Hp} {F : Nat} {h' : Hp}   : ∀ (n : Nat) (x0 : Nat) (x1 : Int32) (x2 : Int32) (x3 : Int32) (x4 : Int32) (h : Hp), b_Mod_settle_7 F n x0 x1 x2 x3 x4 h = some h' → Go G mi_Mod_settle h0 (pV h') h 7 [(0, .ref x0), (1, .int x1), (2, .int x2), (3, .int x3), (4, .int x4)] [] := by
  intro n
  induction n with
  | zero =>
    intro _ _ _ _ _ _ hf
    exact nm_s hf
  | succ n ih =>
    intro x0 x1 x2 x3 x4 h hf
    unfold b_Mod_settle_7 at hf
    refine g_iload d_Mod_settle_7 rfl ?_
    refine g_sipush (128) d_Mod_settle_9 (by decide) ?_
    refine g_icmp_ge 131 d_Mod_settle_12 (by decide) (fun c_12 => ?_) (fun c_12 => ?_)
    · have hf := ifp hf c_12
      refine g_iconst 0 d_Mod_settle_131 (by decide) ?_
      refine g_istore d_Mod_settle_132 (by decide) ?_
      show Go _ _ _ _ _ _ [(0, _), (1, _), (2, _), (3, _), (4, _)] _
      have key := e_Mod_settle_134 hw (G := G) (h0 := h0)  F _ _ _ _ _ _ hf
      exact key
    · have hf := ifn hf c_12
      refine g_iconst 0 d_Mod_settle_15 (by decide) ?_
      refine g_istore d_Mod_settle_16 (by decide) ?_
      show Go _ _ _ _ _ _ [(0, _), (1, _), (2, _), (3, _), (4, _), (5, _)] _
      have key := e_Mod_settle_18 hw (G := G) (h0 := h0) (fun _ _ _ _ _ _ q => ih _ _ _ _ _ _ q) F _ _ _ _ _ _ _ hf
      exact key
def f_Mod_settle (F : Nat) (x0 : Nat) (x1 : Int32) (h : Hp) : Option Hp := b_Mod_settle_7 F F x0 x1 (1 : Int32) (1 : Int32) (0 : Int32) h
set_option maxRecDepth 100000 in
set_option maxHeartbeats 4000000 in
theorem e_Mod_settle {G : Gl} (hw : gF G) {F : Nat} {h' : Hp} {x0 : Nat} {x1 : Int32} {h : Hp} (hf : f_Mod_settle F x0 x1 h = some h') : Ex G mi_Mod_settle [.ref x0, .int x1] h (pV h') := by
  unfold f_Mod_settle at hf
  refine Ex.of nmV (by decide) (Nat.le_of_ble_eq_true rfl) ?_
  show Go G mi_Mod_settle h _ h 0 [(0, .ref x0), (1, .int x1)] []
  refine g_iconst 1 d_Mod_settle_0 (by decide) ?_
  refine g_istore_n d_Mod_settle_1 (by decide) ?_
  show Go _ _ _ _ _ _ [(0, _), (1, _), (2, _)] _
  refine g_iconst 1 d_Mod_settle_2 (by decide) ?_
  refine g_istore_n d_Mod_settle_3 (by decide) ?_
  show Go _ _ _ _ _ _ [(0, _), (1, _), (2, _), (3, _)] _
  refine g_iconst 0 d_Mod_settle_4 (by decide) ?_
  refine g_istore d_Mod_settle_5 (by decide) ?_
  show Go _ _ _ _ _ _ [(0, _), (1, _), (2, _), (3, _), (4, _)] _
  have key := e_Mod_settle_7 hw (G := G) (h0 := h)  F _ _ _ _ _ _ hf
  exact key
