abbrev mi_Mod_init : MI := (⟨"WarpMillModel", "<init>", "()V"⟩, prog_13_method_1_code, 1, none, 3, 63)
def it_Mod_init_0 : List (Nat × ClassFile.Instr × Nat) := [(0, .aload_n 0, 1), (1, .invokespecial 1, 3), (4, .aload_n 0, 1), (5, .iconst 4, 1), (6, .putfield 7, 3), (9, .aload_n 0, 1), (10, .iconst 4, 1), (11, .putfield 13, 3), (14, .aload_n 0, 1), (15, .iconst 2, 1), (16, .putfield 16, 3), (19, .aload_n 0, 1), (20, .iconst 4, 1), (21, .putfield 19, 3), (24, .aload_n 0, 1), (25, .iconst 2, 1), (26, .putfield 22, 3), (29, .aload_n 0, 1), (30, .sipush (512), 3), (33, .putfield 25, 3), (36, .aload_n 0, 1), (37, .sipush (128), 3), (40, .newarray .long, 2), (42, .putfield 28, 3)]
theorem id_Mod_init_0 : ∀ q ∈ it_Mod_init_0, decode prog_13_method_1_code q.1 = .ok q.2 := by decide +kernel
theorem d_Mod_init_0 : decode prog_13_method_1_code 0 = .ok (.aload_n 0, 1) := id_Mod_init_0 (0, .aload_n 0, 1) (List.mem_of_getElem? (i := 0) rfl)
theorem d_Mod_init_1 : decode prog_13_method_1_code 1 = .ok (.invokespecial 1, 3) := id_Mod_init_0 (1, .invokespecial 1, 3) (List.mem_of_getElem? (i := 1) rfl)
theorem d_Mod_init_4 : decode prog_13_method_1_code 4 = .ok (.aload_n 0, 1) := id_Mod_init_0 (4, .aload_n 0, 1) (List.mem_of_getElem? (i := 2) rfl)
theorem d_Mod_init_5 : decode prog_13_method_1_code 5 = .ok (.iconst 4, 1) := id_Mod_init_0 (5, .iconst 4, 1) (List.mem_of_getElem? (i := 3) rfl)
theorem d_Mod_init_6 : decode prog_13_method_1_code 6 = .ok (.putfield 7, 3) := id_Mod_init_0 (6, .putfield 7, 3) (List.mem_of_getElem? (i := 4) rfl)
theorem d_Mod_init_9 : decode prog_13_method_1_code 9 = .ok (.aload_n 0, 1) := id_Mod_init_0 (9, .aload_n 0, 1) (List.mem_of_getElem? (i := 5) rfl)
theorem d_Mod_init_10 : decode prog_13_method_1_code 10 = .ok (.iconst 4, 1) := id_Mod_init_0 (10, .iconst 4, 1) (List.mem_of_getElem? (i := 6) rfl)
theorem d_Mod_init_11 : decode prog_13_method_1_code 11 = .ok (.putfield 13, 3) := id_Mod_init_0 (11, .putfield 13, 3) (List.mem_of_getElem? (i := 7) rfl)
theorem d_Mod_init_14 : decode prog_13_method_1_code 14 = .ok (.aload_n 0, 1) := id_Mod_init_0 (14, .aload_n 0, 1) (List.mem_of_getElem? (i := 8) rfl)
theorem d_Mod_init_15 : decode prog_13_method_1_code 15 = .ok (.iconst 2, 1) := id_Mod_init_0 (15, .iconst 2, 1) (List.mem_of_getElem? (i := 9) rfl)
theorem d_Mod_init_16 : decode prog_13_method_1_code 16 = .ok (.putfield 16, 3) := id_Mod_init_0 (16, .putfield 16, 3) (List.mem_of_getElem? (i := 10) rfl)
theorem d_Mod_init_19 : decode prog_13_method_1_code 19 = .ok (.aload_n 0, 1) := id_Mod_init_0 (19, .aload_n 0, 1) (List.mem_of_getElem? (i := 11) rfl)
theorem d_Mod_init_20 : decode prog_13_method_1_code 20 = .ok (.iconst 4, 1) := id_Mod_init_0 (20, .iconst 4, 1) (List.mem_of_getElem? (i := 12) rfl)
theorem d_Mod_init_21 : decode prog_13_method_1_code 21 = .ok (.putfield 19, 3) := id_Mod_init_0 (21, .putfield 19, 3) (List.mem_of_getElem? (i := 13) rfl)
theorem d_Mod_init_24 : decode prog_13_method_1_code 24 = .ok (.aload_n 0, 1) := id_Mod_init_0 (24, .aload_n 0, 1) (List.mem_of_getElem? (i := 14) rfl)
theorem d_Mod_init_25 : decode prog_13_method_1_code 25 = .ok (.iconst 2, 1) := id_Mod_init_0 (25, .iconst 2, 1) (List.mem_of_getElem? (i := 15) rfl)
theorem d_Mod_init_26 : decode prog_13_method_1_code 26 = .ok (.putfield 22, 3) := id_Mod_init_0 (26, .putfield 22, 3) (List.mem_of_getElem? (i := 16) rfl)
theorem d_Mod_init_29 : decode prog_13_method_1_code 29 = .ok (.aload_n 0, 1) := id_Mod_init_0 (29, .aload_n 0, 1) (List.mem_of_getElem? (i := 17) rfl)
theorem d_Mod_init_30 : decode prog_13_method_1_code 30 = .ok (.sipush (512), 3) := id_Mod_init_0 (30, .sipush (512), 3) (List.mem_of_getElem? (i := 18) rfl)
theorem d_Mod_init_33 : decode prog_13_method_1_code 33 = .ok (.putfield 25, 3) := id_Mod_init_0 (33, .putfield 25, 3) (List.mem_of_getElem? (i := 19) rfl)
theorem d_Mod_init_36 : decode prog_13_method_1_code 36 = .ok (.aload_n 0, 1) := id_Mod_init_0 (36, .aload_n 0, 1) (List.mem_of_getElem? (i := 20) rfl)
theorem d_Mod_init_37 : decode prog_13_method_1_code 37 = .ok (.sipush (128), 3) := id_Mod_init_0 (37, .sipush (128), 3) (List.mem_of_getElem? (i := 21) rfl)
theorem d_Mod_init_40 : decode prog_13_method_1_code 40 = .ok (.newarray .long, 2) := id_Mod_init_0 (40, .newarray .long, 2) (List.mem_of_getElem? (i := 22) rfl)
theorem d_Mod_init_42 : decode prog_13_method_1_code 42 = .ok (.putfield 28, 3) := id_Mod_init_0 (42, .putfield 28, 3) (List.mem_of_getElem? (i := 23) rfl)
def it_Mod_init_1 : List (Nat × ClassFile.Instr × Nat) := [(45, .aload_n 0, 1), (46, .sipush (4096), 3), (49, .newarray .int, 2), (51, .putfield 32, 3), (54, .aload_n 0, 1), (55, .bipush (32), 2), (57, .newarray .int, 2), (59, .putfield 36, 3), (62, .aload_n 0, 1), (63, .bipush (8), 2), (65, .newarray .int, 2), (67, .putfield 39, 3), (70, .aload_n 0, 1), (71, .bipush (8), 2), (73, .newarray .int, 2), (75, .putfield 42, 3), (78, .aload_n 0, 1), (79, .bipush (8), 2), (81, .newarray .int, 2), (83, .putfield 45, 3), (86, .aload_n 0, 1), (87, .bipush (8), 2), (89, .newarray .int, 2), (91, .putfield 48, 3)]
theorem id_Mod_init_1 : ∀ q ∈ it_Mod_init_1, decode prog_13_method_1_code q.1 = .ok q.2 := by decide +kernel
theorem d_Mod_init_45 : decode prog_13_method_1_code 45 = .ok (.aload_n 0, 1) := id_Mod_init_1 (45, .aload_n 0, 1) (List.mem_of_getElem? (i := 0) rfl)
theorem d_Mod_init_46 : decode prog_13_method_1_code 46 = .ok (.sipush (4096), 3) := id_Mod_init_1 (46, .sipush (4096), 3) (List.mem_of_getElem? (i := 1) rfl)
theorem d_Mod_init_49 : decode prog_13_method_1_code 49 = .ok (.newarray .int, 2) := id_Mod_init_1 (49, .newarray .int, 2) (List.mem_of_getElem? (i := 2) rfl)
theorem d_Mod_init_51 : decode prog_13_method_1_code 51 = .ok (.putfield 32, 3) := id_Mod_init_1 (51, .putfield 32, 3) (List.mem_of_getElem? (i := 3) rfl)
theorem d_Mod_init_54 : decode prog_13_method_1_code 54 = .ok (.aload_n 0, 1) := id_Mod_init_1 (54, .aload_n 0, 1) (List.mem_of_getElem? (i := 4) rfl)
theorem d_Mod_init_55 : decode prog_13_method_1_code 55 = .ok (.bipush (32), 2) := id_Mod_init_1 (55, .bipush (32), 2) (List.mem_of_getElem? (i := 5) rfl)
theorem d_Mod_init_57 : decode prog_13_method_1_code 57 = .ok (.newarray .int, 2) := id_Mod_init_1 (57, .newarray .int, 2) (List.mem_of_getElem? (i := 6) rfl)
theorem d_Mod_init_59 : decode prog_13_method_1_code 59 = .ok (.putfield 36, 3) := id_Mod_init_1 (59, .putfield 36, 3) (List.mem_of_getElem? (i := 7) rfl)
theorem d_Mod_init_62 : decode prog_13_method_1_code 62 = .ok (.aload_n 0, 1) := id_Mod_init_1 (62, .aload_n 0, 1) (List.mem_of_getElem? (i := 8) rfl)
theorem d_Mod_init_63 : decode prog_13_method_1_code 63 = .ok (.bipush (8), 2) := id_Mod_init_1 (63, .bipush (8), 2) (List.mem_of_getElem? (i := 9) rfl)
theorem d_Mod_init_65 : decode prog_13_method_1_code 65 = .ok (.newarray .int, 2) := id_Mod_init_1 (65, .newarray .int, 2) (List.mem_of_getElem? (i := 10) rfl)
theorem d_Mod_init_67 : decode prog_13_method_1_code 67 = .ok (.putfield 39, 3) := id_Mod_init_1 (67, .putfield 39, 3) (List.mem_of_getElem? (i := 11) rfl)
theorem d_Mod_init_70 : decode prog_13_method_1_code 70 = .ok (.aload_n 0, 1) := id_Mod_init_1 (70, .aload_n 0, 1) (List.mem_of_getElem? (i := 12) rfl)
theorem d_Mod_init_71 : decode prog_13_method_1_code 71 = .ok (.bipush (8), 2) := id_Mod_init_1 (71, .bipush (8), 2) (List.mem_of_getElem? (i := 13) rfl)
theorem d_Mod_init_73 : decode prog_13_method_1_code 73 = .ok (.newarray .int, 2) := id_Mod_init_1 (73, .newarray .int, 2) (List.mem_of_getElem? (i := 14) rfl)
theorem d_Mod_init_75 : decode prog_13_method_1_code 75 = .ok (.putfield 42, 3) := id_Mod_init_1 (75, .putfield 42, 3) (List.mem_of_getElem? (i := 15) rfl)
theorem d_Mod_init_78 : decode prog_13_method_1_code 78 = .ok (.aload_n 0, 1) := id_Mod_init_1 (78, .aload_n 0, 1) (List.mem_of_getElem? (i := 16) rfl)
theorem d_Mod_init_79 : decode prog_13_method_1_code 79 = .ok (.bipush (8), 2) := id_Mod_init_1 (79, .bipush (8), 2) (List.mem_of_getElem? (i := 17) rfl)
theorem d_Mod_init_81 : decode prog_13_method_1_code 81 = .ok (.newarray .int, 2) := id_Mod_init_1 (81, .newarray .int, 2) (List.mem_of_getElem? (i := 18) rfl)
theorem d_Mod_init_83 : decode prog_13_method_1_code 83 = .ok (.putfield 45, 3) := id_Mod_init_1 (83, .putfield 45, 3) (List.mem_of_getElem? (i := 19) rfl)
theorem d_Mod_init_86 : decode prog_13_method_1_code 86 = .ok (.aload_n 0, 1) := id_Mod_init_1 (86, .aload_n 0, 1) (List.mem_of_getElem? (i := 20) rfl)
theorem d_Mod_init_87 : decode prog_13_method_1_code 87 = .ok (.bipush (8), 2) := id_Mod_init_1 (87, .bipush (8), 2) (List.mem_of_getElem? (i := 21) rfl)
theorem d_Mod_init_89 : decode prog_13_method_1_code 89 = .ok (.newarray .int, 2) := id_Mod_init_1 (89, .newarray .int, 2) (List.mem_of_getElem? (i := 22) rfl)
theorem d_Mod_init_91 : decode prog_13_method_1_code 91 = .ok (.putfield 48, 3) := id_Mod_init_1 (91, .putfield 48, 3) (List.mem_of_getElem? (i := 23) rfl)
def it_Mod_init_2 : List (Nat × ClassFile.Instr × Nat) := [(94, .aload_n 0, 1), (95, .bipush (8), 2), (97, .newarray .int, 2), (99, .putfield 51, 3), (102, .aload_n 0, 1), (103, .sipush (128), 3), (106, .newarray .int, 2), (108, .putfield 54, 3), (111, .aload_n 0, 1), (112, .sipush (128), 3), (115, .newarray .int, 2), (117, .putfield 57, 3), (120, .aload_n 0, 1), (121, .sipush (128), 3), (124, .newarray .int, 2), (126, .putfield 60, 3), (129, .aload_n 0, 1), (130, .sipush (2560), 3), (133, .newarray .int, 2), (135, .putfield 63, 3), (138, .aload_n 0, 1), (139, .ldc 66, 2), (141, .newarray .int, 2), (143, .putfield 67, 3)]
theorem id_Mod_init_2 : ∀ q ∈ it_Mod_init_2, decode prog_13_method_1_code q.1 = .ok q.2 := by decide +kernel
theorem d_Mod_init_94 : decode prog_13_method_1_code 94 = .ok (.aload_n 0, 1) := id_Mod_init_2 (94, .aload_n 0, 1) (List.mem_of_getElem? (i := 0) rfl)
theorem d_Mod_init_95 : decode prog_13_method_1_code 95 = .ok (.bipush (8), 2) := id_Mod_init_2 (95, .bipush (8), 2) (List.mem_of_getElem? (i := 1) rfl)
theorem d_Mod_init_97 : decode prog_13_method_1_code 97 = .ok (.newarray .int, 2) := id_Mod_init_2 (97, .newarray .int, 2) (List.mem_of_getElem? (i := 2) rfl)
theorem d_Mod_init_99 : decode prog_13_method_1_code 99 = .ok (.putfield 51, 3) := id_Mod_init_2 (99, .putfield 51, 3) (List.mem_of_getElem? (i := 3) rfl)
theorem d_Mod_init_102 : decode prog_13_method_1_code 102 = .ok (.aload_n 0, 1) := id_Mod_init_2 (102, .aload_n 0, 1) (List.mem_of_getElem? (i := 4) rfl)
theorem d_Mod_init_103 : decode prog_13_method_1_code 103 = .ok (.sipush (128), 3) := id_Mod_init_2 (103, .sipush (128), 3) (List.mem_of_getElem? (i := 5) rfl)
theorem d_Mod_init_106 : decode prog_13_method_1_code 106 = .ok (.newarray .int, 2) := id_Mod_init_2 (106, .newarray .int, 2) (List.mem_of_getElem? (i := 6) rfl)
theorem d_Mod_init_108 : decode prog_13_method_1_code 108 = .ok (.putfield 54, 3) := id_Mod_init_2 (108, .putfield 54, 3) (List.mem_of_getElem? (i := 7) rfl)
theorem d_Mod_init_111 : decode prog_13_method_1_code 111 = .ok (.aload_n 0, 1) := id_Mod_init_2 (111, .aload_n 0, 1) (List.mem_of_getElem? (i := 8) rfl)
theorem d_Mod_init_112 : decode prog_13_method_1_code 112 = .ok (.sipush (128), 3) := id_Mod_init_2 (112, .sipush (128), 3) (List.mem_of_getElem? (i := 9) rfl)
theorem d_Mod_init_115 : decode prog_13_method_1_code 115 = .ok (.newarray .int, 2) := id_Mod_init_2 (115, .newarray .int, 2) (List.mem_of_getElem? (i := 10) rfl)
theorem d_Mod_init_117 : decode prog_13_method_1_code 117 = .ok (.putfield 57, 3) := id_Mod_init_2 (117, .putfield 57, 3) (List.mem_of_getElem? (i := 11) rfl)
theorem d_Mod_init_120 : decode prog_13_method_1_code 120 = .ok (.aload_n 0, 1) := id_Mod_init_2 (120, .aload_n 0, 1) (List.mem_of_getElem? (i := 12) rfl)
theorem d_Mod_init_121 : decode prog_13_method_1_code 121 = .ok (.sipush (128), 3) := id_Mod_init_2 (121, .sipush (128), 3) (List.mem_of_getElem? (i := 13) rfl)
theorem d_Mod_init_124 : decode prog_13_method_1_code 124 = .ok (.newarray .int, 2) := id_Mod_init_2 (124, .newarray .int, 2) (List.mem_of_getElem? (i := 14) rfl)
theorem d_Mod_init_126 : decode prog_13_method_1_code 126 = .ok (.putfield 60, 3) := id_Mod_init_2 (126, .putfield 60, 3) (List.mem_of_getElem? (i := 15) rfl)
theorem d_Mod_init_129 : decode prog_13_method_1_code 129 = .ok (.aload_n 0, 1) := id_Mod_init_2 (129, .aload_n 0, 1) (List.mem_of_getElem? (i := 16) rfl)
theorem d_Mod_init_130 : decode prog_13_method_1_code 130 = .ok (.sipush (2560), 3) := id_Mod_init_2 (130, .sipush (2560), 3) (List.mem_of_getElem? (i := 17) rfl)
theorem d_Mod_init_133 : decode prog_13_method_1_code 133 = .ok (.newarray .int, 2) := id_Mod_init_2 (133, .newarray .int, 2) (List.mem_of_getElem? (i := 18) rfl)
theorem d_Mod_init_135 : decode prog_13_method_1_code 135 = .ok (.putfield 63, 3) := id_Mod_init_2 (135, .putfield 63, 3) (List.mem_of_getElem? (i := 19) rfl)
theorem d_Mod_init_138 : decode prog_13_method_1_code 138 = .ok (.aload_n 0, 1) := id_Mod_init_2 (138, .aload_n 0, 1) (List.mem_of_getElem? (i := 20) rfl)
theorem d_Mod_init_139 : decode prog_13_method_1_code 139 = .ok (.ldc 66, 2) := id_Mod_init_2 (139, .ldc 66, 2) (List.mem_of_getElem? (i := 21) rfl)
theorem d_Mod_init_141 : decode prog_13_method_1_code 141 = .ok (.newarray .int, 2) := id_Mod_init_2 (141, .newarray .int, 2) (List.mem_of_getElem? (i := 22) rfl)
theorem d_Mod_init_143 : decode prog_13_method_1_code 143 = .ok (.putfield 67, 3) := id_Mod_init_2 (143, .putfield 67, 3) (List.mem_of_getElem? (i := 23) rfl)
def it_Mod_init_3 : List (Nat × ClassFile.Instr × Nat) := [(146, .aload_n 0, 1), (147, .sipush (4096), 3), (150, .newarray .int, 2), (152, .putfield 70, 3), (155, .aload_n 0, 1), (156, .sipush (4096), 3), (159, .newarray .int, 2), (161, .putfield 73, 3), (164, .aload_n 0, 1), (165, .sipush (4096), 3), (168, .newarray .boolean, 2), (170, .putfield 76, 3), (173, .aload_n 0, 1), (174, .sipush (4096), 3), (177, .newarray .boolean, 2), (179, .putfield 80, 3), (182, .aload_n 0, 1), (183, .sipush (4096), 3), (186, .newarray .int, 2), (188, .putfield 83, 3), (191, .aload_n 0, 1), (192, .ldc 86, 2), (194, .newarray .int, 2), (196, .putfield 87, 3)]
theorem id_Mod_init_3 : ∀ q ∈ it_Mod_init_3, decode prog_13_method_1_code q.1 = .ok q.2 := by decide +kernel
theorem d_Mod_init_146 : decode prog_13_method_1_code 146 = .ok (.aload_n 0, 1) := id_Mod_init_3 (146, .aload_n 0, 1) (List.mem_of_getElem? (i := 0) rfl)
theorem d_Mod_init_147 : decode prog_13_method_1_code 147 = .ok (.sipush (4096), 3) := id_Mod_init_3 (147, .sipush (4096), 3) (List.mem_of_getElem? (i := 1) rfl)
theorem d_Mod_init_150 : decode prog_13_method_1_code 150 = .ok (.newarray .int, 2) := id_Mod_init_3 (150, .newarray .int, 2) (List.mem_of_getElem? (i := 2) rfl)
theorem d_Mod_init_152 : decode prog_13_method_1_code 152 = .ok (.putfield 70, 3) := id_Mod_init_3 (152, .putfield 70, 3) (List.mem_of_getElem? (i := 3) rfl)
theorem d_Mod_init_155 : decode prog_13_method_1_code 155 = .ok (.aload_n 0, 1) := id_Mod_init_3 (155, .aload_n 0, 1) (List.mem_of_getElem? (i := 4) rfl)
theorem d_Mod_init_156 : decode prog_13_method_1_code 156 = .ok (.sipush (4096), 3) := id_Mod_init_3 (156, .sipush (4096), 3) (List.mem_of_getElem? (i := 5) rfl)
theorem d_Mod_init_159 : decode prog_13_method_1_code 159 = .ok (.newarray .int, 2) := id_Mod_init_3 (159, .newarray .int, 2) (List.mem_of_getElem? (i := 6) rfl)
theorem d_Mod_init_161 : decode prog_13_method_1_code 161 = .ok (.putfield 73, 3) := id_Mod_init_3 (161, .putfield 73, 3) (List.mem_of_getElem? (i := 7) rfl)
theorem d_Mod_init_164 : decode prog_13_method_1_code 164 = .ok (.aload_n 0, 1) := id_Mod_init_3 (164, .aload_n 0, 1) (List.mem_of_getElem? (i := 8) rfl)
theorem d_Mod_init_165 : decode prog_13_method_1_code 165 = .ok (.sipush (4096), 3) := id_Mod_init_3 (165, .sipush (4096), 3) (List.mem_of_getElem? (i := 9) rfl)
theorem d_Mod_init_168 : decode prog_13_method_1_code 168 = .ok (.newarray .boolean, 2) := id_Mod_init_3 (168, .newarray .boolean, 2) (List.mem_of_getElem? (i := 10) rfl)
theorem d_Mod_init_170 : decode prog_13_method_1_code 170 = .ok (.putfield 76, 3) := id_Mod_init_3 (170, .putfield 76, 3) (List.mem_of_getElem? (i := 11) rfl)
theorem d_Mod_init_173 : decode prog_13_method_1_code 173 = .ok (.aload_n 0, 1) := id_Mod_init_3 (173, .aload_n 0, 1) (List.mem_of_getElem? (i := 12) rfl)
theorem d_Mod_init_174 : decode prog_13_method_1_code 174 = .ok (.sipush (4096), 3) := id_Mod_init_3 (174, .sipush (4096), 3) (List.mem_of_getElem? (i := 13) rfl)
theorem d_Mod_init_177 : decode prog_13_method_1_code 177 = .ok (.newarray .boolean, 2) := id_Mod_init_3 (177, .newarray .boolean, 2) (List.mem_of_getElem? (i := 14) rfl)
theorem d_Mod_init_179 : decode prog_13_method_1_code 179 = .ok (.putfield 80, 3) := id_Mod_init_3 (179, .putfield 80, 3) (List.mem_of_getElem? (i := 15) rfl)
theorem d_Mod_init_182 : decode prog_13_method_1_code 182 = .ok (.aload_n 0, 1) := id_Mod_init_3 (182, .aload_n 0, 1) (List.mem_of_getElem? (i := 16) rfl)
theorem d_Mod_init_183 : decode prog_13_method_1_code 183 = .ok (.sipush (4096), 3) := id_Mod_init_3 (183, .sipush (4096), 3) (List.mem_of_getElem? (i := 17) rfl)
theorem d_Mod_init_186 : decode prog_13_method_1_code 186 = .ok (.newarray .int, 2) := id_Mod_init_3 (186, .newarray .int, 2) (List.mem_of_getElem? (i := 18) rfl)
theorem d_Mod_init_188 : decode prog_13_method_1_code 188 = .ok (.putfield 83, 3) := id_Mod_init_3 (188, .putfield 83, 3) (List.mem_of_getElem? (i := 19) rfl)
theorem d_Mod_init_191 : decode prog_13_method_1_code 191 = .ok (.aload_n 0, 1) := id_Mod_init_3 (191, .aload_n 0, 1) (List.mem_of_getElem? (i := 20) rfl)
theorem d_Mod_init_192 : decode prog_13_method_1_code 192 = .ok (.ldc 86, 2) := id_Mod_init_3 (192, .ldc 86, 2) (List.mem_of_getElem? (i := 21) rfl)
theorem d_Mod_init_194 : decode prog_13_method_1_code 194 = .ok (.newarray .int, 2) := id_Mod_init_3 (194, .newarray .int, 2) (List.mem_of_getElem? (i := 22) rfl)
theorem d_Mod_init_196 : decode prog_13_method_1_code 196 = .ok (.putfield 87, 3) := id_Mod_init_3 (196, .putfield 87, 3) (List.mem_of_getElem? (i := 23) rfl)
def it_Mod_init_4 : List (Nat × ClassFile.Instr × Nat) := [(199, .aload_n 0, 1), (200, .ldc 86, 2), (202, .newarray .int, 2), (204, .putfield 90, 3), (207, .aload_n 0, 1), (208, .ldc 86, 2), (210, .newarray .int, 2), (212, .putfield 93, 3), (215, .aload_n 0, 1), (216, .ldc 86, 2), (218, .newarray .int, 2), (220, .putfield 96, 3), (223, .aload_n 0, 1), (224, .ldc 86, 2), (226, .newarray .int, 2), (228, .putfield 99, 3), (231, .aload_n 0, 1), (232, .ldc 86, 2), (234, .newarray .int, 2), (236, .putfield 102, 3), (239, .aload_n 0, 1), (240, .bipush (32), 2), (242, .newarray .int, 2), (244, .putfield 105, 3)]
theorem id_Mod_init_4 : ∀ q ∈ it_Mod_init_4, decode prog_13_method_1_code q.1 = .ok q.2 := by decide +kernel
theorem d_Mod_init_199 : decode prog_13_method_1_code 199 = .ok (.aload_n 0, 1) := id_Mod_init_4 (199, .aload_n 0, 1) (List.mem_of_getElem? (i := 0) rfl)
theorem d_Mod_init_200 : decode prog_13_method_1_code 200 = .ok (.ldc 86, 2) := id_Mod_init_4 (200, .ldc 86, 2) (List.mem_of_getElem? (i := 1) rfl)
theorem d_Mod_init_202 : decode prog_13_method_1_code 202 = .ok (.newarray .int, 2) := id_Mod_init_4 (202, .newarray .int, 2) (List.mem_of_getElem? (i := 2) rfl)
theorem d_Mod_init_204 : decode prog_13_method_1_code 204 = .ok (.putfield 90, 3) := id_Mod_init_4 (204, .putfield 90, 3) (List.mem_of_getElem? (i := 3) rfl)
theorem d_Mod_init_207 : decode prog_13_method_1_code 207 = .ok (.aload_n 0, 1) := id_Mod_init_4 (207, .aload_n 0, 1) (List.mem_of_getElem? (i := 4) rfl)
theorem d_Mod_init_208 : decode prog_13_method_1_code 208 = .ok (.ldc 86, 2) := id_Mod_init_4 (208, .ldc 86, 2) (List.mem_of_getElem? (i := 5) rfl)
theorem d_Mod_init_210 : decode prog_13_method_1_code 210 = .ok (.newarray .int, 2) := id_Mod_init_4 (210, .newarray .int, 2) (List.mem_of_getElem? (i := 6) rfl)
theorem d_Mod_init_212 : decode prog_13_method_1_code 212 = .ok (.putfield 93, 3) := id_Mod_init_4 (212, .putfield 93, 3) (List.mem_of_getElem? (i := 7) rfl)
theorem d_Mod_init_215 : decode prog_13_method_1_code 215 = .ok (.aload_n 0, 1) := id_Mod_init_4 (215, .aload_n 0, 1) (List.mem_of_getElem? (i := 8) rfl)
theorem d_Mod_init_216 : decode prog_13_method_1_code 216 = .ok (.ldc 86, 2) := id_Mod_init_4 (216, .ldc 86, 2) (List.mem_of_getElem? (i := 9) rfl)
theorem d_Mod_init_218 : decode prog_13_method_1_code 218 = .ok (.newarray .int, 2) := id_Mod_init_4 (218, .newarray .int, 2) (List.mem_of_getElem? (i := 10) rfl)
theorem d_Mod_init_220 : decode prog_13_method_1_code 220 = .ok (.putfield 96, 3) := id_Mod_init_4 (220, .putfield 96, 3) (List.mem_of_getElem? (i := 11) rfl)
theorem d_Mod_init_223 : decode prog_13_method_1_code 223 = .ok (.aload_n 0, 1) := id_Mod_init_4 (223, .aload_n 0, 1) (List.mem_of_getElem? (i := 12) rfl)
theorem d_Mod_init_224 : decode prog_13_method_1_code 224 = .ok (.ldc 86, 2) := id_Mod_init_4 (224, .ldc 86, 2) (List.mem_of_getElem? (i := 13) rfl)
theorem d_Mod_init_226 : decode prog_13_method_1_code 226 = .ok (.newarray .int, 2) := id_Mod_init_4 (226, .newarray .int, 2) (List.mem_of_getElem? (i := 14) rfl)
theorem d_Mod_init_228 : decode prog_13_method_1_code 228 = .ok (.putfield 99, 3) := id_Mod_init_4 (228, .putfield 99, 3) (List.mem_of_getElem? (i := 15) rfl)
theorem d_Mod_init_231 : decode prog_13_method_1_code 231 = .ok (.aload_n 0, 1) := id_Mod_init_4 (231, .aload_n 0, 1) (List.mem_of_getElem? (i := 16) rfl)
theorem d_Mod_init_232 : decode prog_13_method_1_code 232 = .ok (.ldc 86, 2) := id_Mod_init_4 (232, .ldc 86, 2) (List.mem_of_getElem? (i := 17) rfl)
theorem d_Mod_init_234 : decode prog_13_method_1_code 234 = .ok (.newarray .int, 2) := id_Mod_init_4 (234, .newarray .int, 2) (List.mem_of_getElem? (i := 18) rfl)
theorem d_Mod_init_236 : decode prog_13_method_1_code 236 = .ok (.putfield 102, 3) := id_Mod_init_4 (236, .putfield 102, 3) (List.mem_of_getElem? (i := 19) rfl)
theorem d_Mod_init_239 : decode prog_13_method_1_code 239 = .ok (.aload_n 0, 1) := id_Mod_init_4 (239, .aload_n 0, 1) (List.mem_of_getElem? (i := 20) rfl)
theorem d_Mod_init_240 : decode prog_13_method_1_code 240 = .ok (.bipush (32), 2) := id_Mod_init_4 (240, .bipush (32), 2) (List.mem_of_getElem? (i := 21) rfl)
theorem d_Mod_init_242 : decode prog_13_method_1_code 242 = .ok (.newarray .int, 2) := id_Mod_init_4 (242, .newarray .int, 2) (List.mem_of_getElem? (i := 22) rfl)
theorem d_Mod_init_244 : decode prog_13_method_1_code 244 = .ok (.putfield 105, 3) := id_Mod_init_4 (244, .putfield 105, 3) (List.mem_of_getElem? (i := 23) rfl)
def it_Mod_init_5 : List (Nat × ClassFile.Instr × Nat) := [(247, .aload_n 0, 1), (248, .bipush (32), 2), (250, .newarray .boolean, 2), (252, .putfield 108, 3), (255, .aload_n 0, 1), (256, .bipush (32), 2), (258, .newarray .boolean, 2), (260, .putfield 111, 3), (263, .aload_n 0, 1), (264, .bipush (32), 2), (266, .newarray .int, 2), (268, .putfield 114, 3), (271, .aload_n 0, 1), (272, .invokevirtual 117, 3), (275, .return_, 1)]
theorem id_Mod_init_5 : ∀ q ∈ it_Mod_init_5, decode prog_13_method_1_code q.1 = .ok q.2 := by decide +kernel
theorem d_Mod_init_247 : decode prog_13_method_1_code 247 = .ok (.aload_n 0, 1) := id_Mod_init_5 (247, .aload_n 0, 1) (List.mem_of_getElem? (i := 0) rfl)
theorem d_Mod_init_248 : decode prog_13_method_1_code 248 = .ok (.bipush (32), 2) := id_Mod_init_5 (248, .bipush (32), 2) (List.mem_of_getElem? (i := 1) rfl)
theorem d_Mod_init_250 : decode prog_13_method_1_code 250 = .ok (.newarray .boolean, 2) := id_Mod_init_5 (250, .newarray .boolean, 2) (List.mem_of_getElem? (i := 2) rfl)
theorem d_Mod_init_252 : decode prog_13_method_1_code 252 = .ok (.putfield 108, 3) := id_Mod_init_5 (252, .putfield 108, 3) (List.mem_of_getElem? (i := 3) rfl)
theorem d_Mod_init_255 : decode prog_13_method_1_code 255 = .ok (.aload_n 0, 1) := id_Mod_init_5 (255, .aload_n 0, 1) (List.mem_of_getElem? (i := 4) rfl)
theorem d_Mod_init_256 : decode prog_13_method_1_code 256 = .ok (.bipush (32), 2) := id_Mod_init_5 (256, .bipush (32), 2) (List.mem_of_getElem? (i := 5) rfl)
theorem d_Mod_init_258 : decode prog_13_method_1_code 258 = .ok (.newarray .boolean, 2) := id_Mod_init_5 (258, .newarray .boolean, 2) (List.mem_of_getElem? (i := 6) rfl)
theorem d_Mod_init_260 : decode prog_13_method_1_code 260 = .ok (.putfield 111, 3) := id_Mod_init_5 (260, .putfield 111, 3) (List.mem_of_getElem? (i := 7) rfl)
theorem d_Mod_init_263 : decode prog_13_method_1_code 263 = .ok (.aload_n 0, 1) := id_Mod_init_5 (263, .aload_n 0, 1) (List.mem_of_getElem? (i := 8) rfl)
theorem d_Mod_init_264 : decode prog_13_method_1_code 264 = .ok (.bipush (32), 2) := id_Mod_init_5 (264, .bipush (32), 2) (List.mem_of_getElem? (i := 9) rfl)
theorem d_Mod_init_266 : decode prog_13_method_1_code 266 = .ok (.newarray .int, 2) := id_Mod_init_5 (266, .newarray .int, 2) (List.mem_of_getElem? (i := 10) rfl)
theorem d_Mod_init_268 : decode prog_13_method_1_code 268 = .ok (.putfield 114, 3) := id_Mod_init_5 (268, .putfield 114, 3) (List.mem_of_getElem? (i := 11) rfl)
theorem d_Mod_init_271 : decode prog_13_method_1_code 271 = .ok (.aload_n 0, 1) := id_Mod_init_5 (271, .aload_n 0, 1) (List.mem_of_getElem? (i := 12) rfl)
theorem d_Mod_init_272 : decode prog_13_method_1_code 272 = .ok (.invokevirtual 117, 3) := id_Mod_init_5 (272, .invokevirtual 117, 3) (List.mem_of_getElem? (i := 13) rfl)
theorem d_Mod_init_275 : decode prog_13_method_1_code 275 = .ok (.return_, 1) := id_Mod_init_5 (275, .return_, 1) (List.mem_of_getElem? (i := 14) rfl)
theorem wC_Mod_init : Cond.code ⟨"WarpMillModel", "<init>", "()V"⟩ prog_13_method_1_code 1 (none) ∈ lw_tb := mem_tb 1046 (by decide +kernel) rfl
theorem cw_Mod_init_Mod_clearHouse : cW mi_Mod_init mi_Mod_clearHouse 0 := ⟨wC_Mod_clearHouse, wi_Mod, ⟨by decide, by decide, by decide +kernel⟩, by decide, by decide⟩
def f_Mod_init (F : Nat) (x0 : Nat) (h : Hp) : Option Hp := gd (hK h x0 = 12) <| pw (sI h 705 x0 (4 : Int32)) fun h_6_2 => pw (sI h_6_2 706 x0 (4 : Int32)) fun h_11 => pw (sI h_11 707 x0 (2 : Int32)) fun h_16 => pw (sI h_16 708 x0 (4 : Int32)) fun h_21 => pw (sI h_21 709 x0 (2 : Int32)) fun h_26 => pw (sI h_26 710 x0 (512 : Int32)) fun h_33 => pw (hT h_33) fun a_40 => pw (nw h_33 110 128 128) fun h_40_2 => gd (hK h_40_2 x0 = 12) <| pw (sR h_40_2 711 x0 (some a_40)) fun h_42_2 => pw (hT h_42_2) fun a_49 => pw (nw h_42_2 100 4096 4096) fun h_49_2 => gd (hK h_49_2 x0 = 12) <| pw (sR h_49_2 712 x0 (some a_49)) fun h_51_2 => pw (hT h_51_2) fun a_57 => pw (nw h_51_2 100 32 32) fun h_57_2 => gd (hK h_57_2 x0 = 12) <| pw (sR h_57_2 713 x0 (some a_57)) fun h_59_2 => pw (hT h_59_2) fun a_65 => pw (nw h_59_2 100 8 8) fun h_65_2 => gd (hK h_65_2 x0 = 12) <| pw (sR h_65_2 714 x0 (some a_65)) fun h_67_2 => pw (hT h_67_2) fun a_73 => pw (nw h_67_2 100 8 8) fun h_73_2 => gd (hK h_73_2 x0 = 12) <| pw (sR h_73_2 731 x0 (some a_73)) fun h_75_2 => pw (hT h_75_2) fun a_81 => pw (nw h_75_2 100 8 8) fun h_81_2 => gd (hK h_81_2 x0 = 12) <| pw (sR h_81_2 732 x0 (some a_81)) fun h_83_2 => pw (hT h_83_2) fun a_89 => pw (nw h_83_2 100 8 8) fun h_89_2 => gd (hK h_89_2 x0 = 12) <| pw (sR h_89_2 733 x0 (some a_89)) fun h_91_2 => pw (hT h_91_2) fun a_97 => pw (nw h_91_2 100 8 8) fun h_97_2 => gd (hK h_97_2 x0 = 12) <| pw (sR h_97_2 734 x0 (some a_97)) fun h_99_2 => pw (hT h_99_2) fun a_106 => pw (nw h_99_2 100 128 128) fun h_106_2 => gd (hK h_106_2 x0 = 12) <| pw (sR h_106_2 735 x0 (some a_106)) fun h_108_2 => pw (hT h_108_2) fun a_115 => pw (nw h_108_2 100 128 128) fun h_115_2 => gd (hK h_115_2 x0 = 12) <| pw (sR h_115_2 736 x0 (some a_115)) fun h_117_2 => pw (hT h_117_2) fun a_124 => pw (nw h_117_2 100 128 128) fun h_124_2 => gd (hK h_124_2 x0 = 12) <| pw (sR h_124_2 737 x0 (some a_124)) fun h_126_2 => pw (hT h_126_2) fun a_133 => pw (nw h_126_2 100 2560 2560) fun h_133_2 => gd (hK h_133_2 x0 = 12) <| pw (sR h_133_2 738 x0 (some a_133)) fun h_135_2 => pw (hT h_135_2) fun a_141 => pw (nw h_135_2 100 65536 65536) fun h_141_2 => gd (hK h_141_2 x0 = 12) <| pw (sR h_141_2 739 x0 (some a_141)) fun h_143_2 => pw (hT h_143_2) fun a_150 => pw (nw h_143_2 100 4096 4096) fun h_150_2 => gd (hK h_150_2 x0 = 12) <| pw (sR h_150_2 740 x0 (some a_150)) fun h_152_2 => pw (hT h_152_2) fun a_159 => pw (nw h_152_2 100 4096 4096) fun h_159_2 => gd (hK h_159_2 x0 = 12) <| pw (sR h_159_2 741 x0 (some a_159)) fun h_161_2 => pw (hT h_161_2) fun a_168 => pw (nw h_161_2 101 4096 4096) fun h_168_2 => gd (hK h_168_2 x0 = 12) <| pw (sR h_168_2 742 x0 (some a_168)) fun h_170_2 => pw (hT h_170_2) fun a_177 => pw (nw h_170_2 101 4096 4096) fun h_177_2 => gd (hK h_177_2 x0 = 12) <| pw (sR h_177_2 743 x0 (some a_177)) fun h_179_2 => pw (hT h_179_2) fun a_186 => pw (nw h_179_2 100 4096 4096) fun h_186_2 => gd (hK h_186_2 x0 = 12) <| pw (sR h_186_2 744 x0 (some a_186)) fun h_188_2 => pw (hT h_188_2) fun a_194 => pw (nw h_188_2 100 32768 32768) fun h_194_2 => gd (hK h_194_2 x0 = 12) <| pw (sR h_194_2 747 x0 (some a_194)) fun h_196_2 => pw (hT h_196_2) fun a_202 => pw (nw h_196_2 100 32768 32768) fun h_202_2 => gd (hK h_202_2 x0 = 12) <| pw (sR h_202_2 748 x0 (some a_202)) fun h_204_2 => pw (hT h_204_2) fun a_210 => pw (nw h_204_2 100 32768 32768) fun h_210_2 => gd (hK h_210_2 x0 = 12) <| pw (sR h_210_2 749 x0 (some a_210)) fun h_212_2 => pw (hT h_212_2) fun a_218 => pw (nw h_212_2 100 32768 32768) fun h_218_2 => gd (hK h_218_2 x0 = 12) <| pw (sR h_218_2 750 x0 (some a_218)) fun h_220_2 => pw (hT h_220_2) fun a_226 => pw (nw h_220_2 100 32768 32768) fun h_226_2 => gd (hK h_226_2 x0 = 12) <| pw (sR h_226_2 751 x0 (some a_226)) fun h_228_2 => pw (hT h_228_2) fun a_234 => pw (nw h_228_2 100 32768 32768) fun h_234_2 => gd (hK h_234_2 x0 = 12) <| pw (sR h_234_2 752 x0 (some a_234)) fun h_236_2 => pw (hT h_236_2) fun a_242 => pw (nw h_236_2 100 32 32) fun h_242_2 => gd (hK h_242_2 x0 = 12) <| pw (sR h_242_2 753 x0 (some a_242)) fun h_244_2 => pw (hT h_244_2) fun a_250 => pw (nw h_244_2 101 32 32) fun h_250_2 => gd (hK h_250_2 x0 = 12) <| pw (sR h_250_2 754 x0 (some a_250)) fun h_252_2 => pw (hT h_252_2) fun a_258 => pw (nw h_252_2 101 32 32) fun h_258_2 => gd (hK h_258_2 x0 = 12) <| pw (sR h_258_2 755 x0 (some a_258)) fun h_260_2 => pw (hT h_260_2) fun a_266 => pw (nw h_260_2 100 32 32) fun h_266_2 => gd (hK h_266_2 x0 = 12) <| pw (sR h_266_2 763 x0 (some a_266)) fun h_268_2 => clv (f_Mod_clearHouse F x0 h_268_2) fun h_272 => some h_272
set_option maxRecDepth 100000 in
set_option maxHeartbeats 4000000 in
theorem e_Mod_init {G : Gl} (hw : gF G) {F : Nat} {h' : Hp} {x0 : Nat} {h : Hp} (hf : f_Mod_init F x0 h = some h') : Ex G mi_Mod_init [.ref x0] h (pV h') := by
  unfold f_Mod_init at hf
  refine Ex.of nmV (by decide) (Nat.le_of_ble_eq_true rfl) ?_
  show Go G mi_Mod_init h _ h 0 [(0, .ref x0)] []
  refine g_aload_n d_Mod_init_0 rfl ?_
  refine g_objInit lm_Mod_1 wI_Object_init wC_obj (Nat.le_of_ble_eq_true rfl) (Nat.le_of_ble_eq_true rfl) d_Mod_init_1 ?_
  refine g_aload_n d_Mod_init_4 rfl ?_
  refine g_iconst 4 d_Mod_init_5 (by decide) ?_
  obtain ⟨k_6, hf⟩ := gd_s hf
  refine fp_Mod_lanes hw lf_Mod_7 d_Mod_init_6 k_6 ?_
  have hf := pw_b hf
  refine g_aload_n d_Mod_init_9 rfl ?_
  refine g_iconst 4 d_Mod_init_10 (by decide) ?_
  refine fp_Mod_slots hw lf_Mod_13 d_Mod_init_11 (kksI k_6) ?_
  have hf := pw_b hf
  refine g_aload_n d_Mod_init_14 rfl ?_
  refine g_iconst 2 d_Mod_init_15 (by decide) ?_
  refine fp_Mod_units hw lf_Mod_16 d_Mod_init_16 (kksI (kksI k_6)) ?_
  have hf := pw_b hf
  refine g_aload_n d_Mod_init_19 rfl ?_
  refine g_iconst 4 d_Mod_init_20 (by decide) ?_
  refine fp_Mod_banks hw lf_Mod_19 d_Mod_init_21 (kksI (kksI (kksI k_6))) ?_
  have hf := pw_b hf
  refine g_aload_n d_Mod_init_24 rfl ?_
  refine g_iconst 2 d_Mod_init_25 (by decide) ?_
  refine fp_Mod_gates hw lf_Mod_22 d_Mod_init_26 (kksI (kksI (kksI (kksI k_6)))) ?_
  have hf := pw_b hf
  refine g_aload_n d_Mod_init_29 rfl ?_
  refine g_sipush (512) d_Mod_init_30 (by decide) ?_
  refine fp_Mod_ints hw lf_Mod_25 d_Mod_init_33 (kksI (kksI (kksI (kksI (kksI k_6))))) ?_
  have hf := pw_b hf
  refine g_aload_n d_Mod_init_36 rfl ?_
  refine g_sipush (128) d_Mod_init_37 (by decide) ?_
  obtain ⟨a_40, e_40, hf⟩ := pw_s hf
  refine g_newal 128 (by decide) (by decide) (by decide) wA_long d_Mod_init_40 ?_
  refine Go.kn (fun k_40 => ?_)
  rw [← e_40] at k_40 ⊢
  have hf := pw_b hf
  obtain ⟨k_42, hf⟩ := gd_s hf
  refine fp_Mod_kernel hw (some a_40) rfl lf_Mod_28 d_Mod_init_42 rfl rfl k_42 ?_
  have hf := pw_b hf
  refine g_aload_n d_Mod_init_45 rfl ?_
  refine g_sipush (4096) d_Mod_init_46 (by decide) ?_
  obtain ⟨a_49, e_49, hf⟩ := pw_s hf
  refine g_newai 4096 (by decide) (by decide) (by decide) wA_int d_Mod_init_49 ?_
  refine Go.kn (fun k_49 => ?_)
  rw [← e_49] at k_49 ⊢
  have hf := pw_b hf
  obtain ⟨k_51, hf⟩ := gd_s hf
  refine fp_Mod_memory hw (some a_49) rfl lf_Mod_32 d_Mod_init_51 rfl rfl k_51 ?_
  have hf := pw_b hf
  refine g_aload_n d_Mod_init_54 rfl ?_
  refine g_bipush (32) d_Mod_init_55 (by decide) ?_
  obtain ⟨a_57, e_57, hf⟩ := pw_s hf
  refine g_newai 32 (by decide) (by decide) (by decide) wA_int d_Mod_init_57 ?_
  refine Go.kn (fun k_57 => ?_)
  rw [← e_57] at k_57 ⊢
  have hf := pw_b hf
  obtain ⟨k_59, hf⟩ := gd_s hf
  refine fp_Mod_cache hw (some a_57) rfl lf_Mod_36 d_Mod_init_59 rfl rfl k_59 ?_
  have hf := pw_b hf
  refine g_aload_n d_Mod_init_62 rfl ?_
  refine g_bipush (8) d_Mod_init_63 (by decide) ?_
  obtain ⟨a_65, e_65, hf⟩ := pw_s hf
  refine g_newai 8 (by decide) (by decide) (by decide) wA_int d_Mod_init_65 ?_
  refine Go.kn (fun k_65 => ?_)
  rw [← e_65] at k_65 ⊢
  have hf := pw_b hf
  obtain ⟨k_67, hf⟩ := gd_s hf
  refine fp_Mod_gateTick hw (some a_65) rfl lf_Mod_39 d_Mod_init_67 rfl rfl k_67 ?_
  have hf := pw_b hf
  refine g_aload_n d_Mod_init_70 rfl ?_
  refine g_bipush (8) d_Mod_init_71 (by decide) ?_
  obtain ⟨a_73, e_73, hf⟩ := pw_s hf
  refine g_newai 8 (by decide) (by decide) (by decide) wA_int d_Mod_init_73 ?_
  refine Go.kn (fun k_73 => ?_)
  rw [← e_73] at k_73 ⊢
  have hf := pw_b hf
  obtain ⟨k_75, hf⟩ := gd_s hf
  refine fp_Mod_divider hw (some a_73) rfl lf_Mod_42 d_Mod_init_75 rfl rfl k_75 ?_
  have hf := pw_b hf
  refine g_aload_n d_Mod_init_78 rfl ?_
  refine g_bipush (8) d_Mod_init_79 (by decide) ?_
  obtain ⟨a_81, e_81, hf⟩ := pw_s hf
  refine g_newai 8 (by decide) (by decide) (by decide) wA_int d_Mod_init_81 ?_
  refine Go.kn (fun k_81 => ?_)
  rw [← e_81] at k_81 ⊢
  have hf := pw_b hf
  obtain ⟨k_83, hf⟩ := gd_s hf
  refine fp_Mod_sharedTick hw (some a_81) rfl lf_Mod_45 d_Mod_init_83 rfl rfl k_83 ?_
  have hf := pw_b hf
  refine g_aload_n d_Mod_init_86 rfl ?_
  refine g_bipush (8) d_Mod_init_87 (by decide) ?_
  obtain ⟨a_89, e_89, hf⟩ := pw_s hf
  refine g_newai 8 (by decide) (by decide) (by decide) wA_int d_Mod_init_89 ?_
  refine Go.kn (fun k_89 => ?_)
  rw [← e_89] at k_89 ⊢
  have hf := pw_b hf
  obtain ⟨k_91, hf⟩ := gd_s hf
  refine fp_Mod_latest hw (some a_89) rfl lf_Mod_48 d_Mod_init_91 rfl rfl k_91 ?_
  have hf := pw_b hf
  refine g_aload_n d_Mod_init_94 rfl ?_
  refine g_bipush (8) d_Mod_init_95 (by decide) ?_
  obtain ⟨a_97, e_97, hf⟩ := pw_s hf
  refine g_newai 8 (by decide) (by decide) (by decide) wA_int d_Mod_init_97 ?_
  refine Go.kn (fun k_97 => ?_)
  rw [← e_97] at k_97 ⊢
  have hf := pw_b hf
  obtain ⟨k_99, hf⟩ := gd_s hf
  refine fp_Mod_unitWords hw (some a_97) rfl lf_Mod_51 d_Mod_init_99 rfl rfl k_99 ?_
  have hf := pw_b hf
  refine g_aload_n d_Mod_init_102 rfl ?_
  refine g_sipush (128) d_Mod_init_103 (by decide) ?_
  obtain ⟨a_106, e_106, hf⟩ := pw_s hf
  refine g_newai 128 (by decide) (by decide) (by decide) wA_int d_Mod_init_106 ?_
  refine Go.kn (fun k_106 => ?_)
  rw [← e_106] at k_106 ⊢
  have hf := pw_b hf
  obtain ⟨k_108, hf⟩ := gd_s hf
  refine fp_Mod_slotBlock hw (some a_106) rfl lf_Mod_54 d_Mod_init_108 rfl rfl k_108 ?_
  have hf := pw_b hf
  refine g_aload_n d_Mod_init_111 rfl ?_
  refine g_sipush (128) d_Mod_init_112 (by decide) ?_
  obtain ⟨a_115, e_115, hf⟩ := pw_s hf
  refine g_newai 128 (by decide) (by decide) (by decide) wA_int d_Mod_init_115 ?_
  refine Go.kn (fun k_115 => ?_)
  rw [← e_115] at k_115 ⊢
  have hf := pw_b hf
  obtain ⟨k_117, hf⟩ := gd_s hf
  refine fp_Mod_slotWarp hw (some a_115) rfl lf_Mod_57 d_Mod_init_117 rfl rfl k_117 ?_
  have hf := pw_b hf
  refine g_aload_n d_Mod_init_120 rfl ?_
  refine g_sipush (128) d_Mod_init_121 (by decide) ?_
  obtain ⟨a_124, e_124, hf⟩ := pw_s hf
  refine g_newai 128 (by decide) (by decide) (by decide) wA_int d_Mod_init_124 ?_
  refine Go.kn (fun k_124 => ?_)
  rw [← e_124] at k_124 ⊢
  have hf := pw_b hf
  obtain ⟨k_126, hf⟩ := gd_s hf
  refine fp_Mod_memoryTick hw (some a_124) rfl lf_Mod_60 d_Mod_init_126 rfl rfl k_126 ?_
  have hf := pw_b hf
  refine g_aload_n d_Mod_init_129 rfl ?_
  refine g_sipush (2560) d_Mod_init_130 (by decide) ?_
  obtain ⟨a_133, e_133, hf⟩ := pw_s hf
  refine g_newai 2560 (by decide) (by decide) (by decide) wA_int d_Mod_init_133 ?_
  refine Go.kn (fun k_133 => ?_)
  rw [← e_133] at k_133 ⊢
  have hf := pw_b hf
  obtain ⟨k_135, hf⟩ := gd_s hf
  refine fp_Mod_ticks hw (some a_133) rfl lf_Mod_63 d_Mod_init_135 rfl rfl k_135 ?_
  have hf := pw_b hf
  refine g_aload_n d_Mod_init_138 rfl ?_
  refine g_ldc lk_Mod_66 d_Mod_init_139 ?_
  obtain ⟨a_141, e_141, hf⟩ := pw_s hf
  refine g_newai 65536 (by decide) (by decide) (by decide) wA_int d_Mod_init_141 ?_
  refine Go.kn (fun k_141 => ?_)
  rw [← e_141] at k_141 ⊢
  have hf := pw_b hf
  obtain ⟨k_143, hf⟩ := gd_s hf
  refine fp_Mod_register hw (some a_141) rfl lf_Mod_67 d_Mod_init_143 rfl rfl k_143 ?_
  have hf := pw_b hf
  refine g_aload_n d_Mod_init_146 rfl ?_
  refine g_sipush (4096) d_Mod_init_147 (by decide) ?_
  obtain ⟨a_150, e_150, hf⟩ := pw_s hf
  refine g_newai 4096 (by decide) (by decide) (by decide) wA_int d_Mod_init_150 ?_
  refine Go.kn (fun k_150 => ?_)
  rw [← e_150] at k_150 ⊢
  have hf := pw_b hf
  obtain ⟨k_152, hf⟩ := gd_s hf
  refine fp_Mod_predicate hw (some a_150) rfl lf_Mod_70 d_Mod_init_152 rfl rfl k_152 ?_
  have hf := pw_b hf
  refine g_aload_n d_Mod_init_155 rfl ?_
  refine g_sipush (4096) d_Mod_init_156 (by decide) ?_
  obtain ⟨a_159, e_159, hf⟩ := pw_s hf
  refine g_newai 4096 (by decide) (by decide) (by decide) wA_int d_Mod_init_159 ?_
  refine Go.kn (fun k_159 => ?_)
  rw [← e_159] at k_159 ⊢
  have hf := pw_b hf
  obtain ⟨k_161, hf⟩ := gd_s hf
  refine fp_Mod_place hw (some a_159) rfl lf_Mod_73 d_Mod_init_161 rfl rfl k_161 ?_
  have hf := pw_b hf
  refine g_aload_n d_Mod_init_164 rfl ?_
  refine g_sipush (4096) d_Mod_init_165 (by decide) ?_
  obtain ⟨a_168, e_168, hf⟩ := pw_s hf
  refine g_newaz 4096 (by decide) (by decide) (by decide) wA_boolean d_Mod_init_168 ?_
  refine Go.kn (fun k_168 => ?_)
  rw [← e_168] at k_168 ⊢
  have hf := pw_b hf
  obtain ⟨k_170, hf⟩ := gd_s hf
  refine fp_Mod_isEnded hw (some a_168) rfl lf_Mod_76 d_Mod_init_170 rfl rfl k_170 ?_
  have hf := pw_b hf
  refine g_aload_n d_Mod_init_173 rfl ?_
  refine g_sipush (4096) d_Mod_init_174 (by decide) ?_
  obtain ⟨a_177, e_177, hf⟩ := pw_s hf
  refine g_newaz 4096 (by decide) (by decide) (by decide) wA_boolean d_Mod_init_177 ?_
  refine Go.kn (fun k_177 => ?_)
  rw [← e_177] at k_177 ⊢
  have hf := pw_b hf
  obtain ⟨k_179, hf⟩ := gd_s hf
  refine fp_Mod_waits hw (some a_177) rfl lf_Mod_80 d_Mod_init_179 rfl rfl k_179 ?_
  have hf := pw_b hf
  refine g_aload_n d_Mod_init_182 rfl ?_
  refine g_sipush (4096) d_Mod_init_183 (by decide) ?_
  obtain ⟨a_186, e_186, hf⟩ := pw_s hf
  refine g_newai 4096 (by decide) (by decide) (by decide) wA_int d_Mod_init_186 ?_
  refine Go.kn (fun k_186 => ?_)
  rw [← e_186] at k_186 ⊢
  have hf := pw_b hf
  obtain ⟨k_188, hf⟩ := gd_s hf
  refine fp_Mod_shared hw (some a_186) rfl lf_Mod_83 d_Mod_init_188 rfl rfl k_188 ?_
  have hf := pw_b hf
  refine g_aload_n d_Mod_init_191 rfl ?_
  refine g_ldc lk_Mod_86 d_Mod_init_192 ?_
  obtain ⟨a_194, e_194, hf⟩ := pw_s hf
  refine g_newai 32768 (by decide) (by decide) (by decide) wA_int d_Mod_init_194 ?_
  refine Go.kn (fun k_194 => ?_)
  rw [← e_194] at k_194 ⊢
  have hf := pw_b hf
  obtain ⟨k_196, hf⟩ := gd_s hf
  refine fp_Mod_when hw (some a_194) rfl lf_Mod_87 d_Mod_init_196 rfl rfl k_196 ?_
  have hf := pw_b hf
  refine g_aload_n d_Mod_init_199 rfl ?_
  refine g_ldc lk_Mod_86 d_Mod_init_200 ?_
  obtain ⟨a_202, e_202, hf⟩ := pw_s hf
  refine g_newai 32768 (by decide) (by decide) (by decide) wA_int d_Mod_init_202 ?_
  refine Go.kn (fun k_202 => ?_)
  rw [← e_202] at k_202 ⊢
  have hf := pw_b hf
  obtain ⟨k_204, hf⟩ := gd_s hf
  refine fp_Mod_who hw (some a_202) rfl lf_Mod_90 d_Mod_init_204 rfl rfl k_204 ?_
  have hf := pw_b hf
  refine g_aload_n d_Mod_init_207 rfl ?_
  refine g_ldc lk_Mod_86 d_Mod_init_208 ?_
  obtain ⟨a_210, e_210, hf⟩ := pw_s hf
  refine g_newai 32768 (by decide) (by decide) (by decide) wA_int d_Mod_init_210 ?_
  refine Go.kn (fun k_210 => ?_)
  rw [← e_210] at k_210 ⊢
  have hf := pw_b hf
  obtain ⟨k_212, hf⟩ := gd_s hf
  refine fp_Mod_what hw (some a_210) rfl lf_Mod_93 d_Mod_init_212 rfl rfl k_212 ?_
  have hf := pw_b hf
  refine g_aload_n d_Mod_init_215 rfl ?_
  refine g_ldc lk_Mod_86 d_Mod_init_216 ?_
  obtain ⟨a_218, e_218, hf⟩ := pw_s hf
  refine g_newai 32768 (by decide) (by decide) (by decide) wA_int d_Mod_init_218 ?_
  refine Go.kn (fun k_218 => ?_)
  rw [← e_218] at k_218 ⊢
  have hf := pw_b hf
  obtain ⟨k_220, hf⟩ := gd_s hf
  refine fp_Mod_where hw (some a_218) rfl lf_Mod_96 d_Mod_init_220 rfl rfl k_220 ?_
  have hf := pw_b hf
  refine g_aload_n d_Mod_init_223 rfl ?_
  refine g_ldc lk_Mod_86 d_Mod_init_224 ?_
  obtain ⟨a_226, e_226, hf⟩ := pw_s hf
  refine g_newai 32768 (by decide) (by decide) (by decide) wA_int d_Mod_init_226 ?_
  refine Go.kn (fun k_226 => ?_)
  rw [← e_226] at k_226 ⊢
  have hf := pw_b hf
  obtain ⟨k_228, hf⟩ := gd_s hf
  refine fp_Mod_with hw (some a_226) rfl lf_Mod_99 d_Mod_init_228 rfl rfl k_228 ?_
  have hf := pw_b hf
  refine g_aload_n d_Mod_init_231 rfl ?_
  refine g_ldc lk_Mod_86 d_Mod_init_232 ?_
  obtain ⟨a_234, e_234, hf⟩ := pw_s hf
  refine g_newai 32768 (by decide) (by decide) (by decide) wA_int d_Mod_init_234 ?_
  refine Go.kn (fun k_234 => ?_)
  rw [← e_234] at k_234 ⊢
  have hf := pw_b hf
  obtain ⟨k_236, hf⟩ := gd_s hf
  refine fp_Mod_old hw (some a_234) rfl lf_Mod_102 d_Mod_init_236 rfl rfl k_236 ?_
  have hf := pw_b hf
  refine g_aload_n d_Mod_init_239 rfl ?_
  refine g_bipush (32) d_Mod_init_240 (by decide) ?_
  obtain ⟨a_242, e_242, hf⟩ := pw_s hf
  refine g_newai 32 (by decide) (by decide) (by decide) wA_int d_Mod_init_242 ?_
  refine Go.kn (fun k_242 => ?_)
  rw [← e_242] at k_242 ⊢
  have hf := pw_b hf
  obtain ⟨k_244, hf⟩ := gd_s hf
  refine fp_Mod_doneAt hw (some a_242) rfl lf_Mod_105 d_Mod_init_244 rfl rfl k_244 ?_
  have hf := pw_b hf
  refine g_aload_n d_Mod_init_247 rfl ?_
  refine g_bipush (32) d_Mod_init_248 (by decide) ?_
  obtain ⟨a_250, e_250, hf⟩ := pw_s hf
  refine g_newaz 32 (by decide) (by decide) (by decide) wA_boolean d_Mod_init_250 ?_
  refine Go.kn (fun k_250 => ?_)
  rw [← e_250] at k_250 ⊢
  have hf := pw_b hf
  obtain ⟨k_252, hf⟩ := gd_s hf
  refine fp_Mod_inGroup hw (some a_250) rfl lf_Mod_108 d_Mod_init_252 rfl rfl k_252 ?_
  have hf := pw_b hf
  refine g_aload_n d_Mod_init_255 rfl ?_
  refine g_bipush (32) d_Mod_init_256 (by decide) ?_
  obtain ⟨a_258, e_258, hf⟩ := pw_s hf
  refine g_newaz 32 (by decide) (by decide) (by decide) wA_boolean d_Mod_init_258 ?_
  refine Go.kn (fun k_258 => ?_)
  rw [← e_258] at k_258 ⊢
  have hf := pw_b hf
  obtain ⟨k_260, hf⟩ := gd_s hf
  refine fp_Mod_does hw (some a_258) rfl lf_Mod_111 d_Mod_init_260 rfl rfl k_260 ?_
  have hf := pw_b hf
  refine g_aload_n d_Mod_init_263 rfl ?_
  refine g_bipush (32) d_Mod_init_264 (by decide) ?_
  obtain ⟨a_266, e_266, hf⟩ := pw_s hf
  refine g_newai 32 (by decide) (by decide) (by decide) wA_int d_Mod_init_266 ?_
  refine Go.kn (fun k_266 => ?_)
  rw [← e_266] at k_266 ⊢
  have hf := pw_b hf
  obtain ⟨k_268, hf⟩ := gd_s hf
  refine fp_Mod_had hw (some a_266) rfl lf_Mod_114 d_Mod_init_268 rfl rfl k_268 ?_
  have hf := pw_b hf
  refine g_aload_n d_Mod_init_271 rfl ?_
  obtain ⟨h_272, e_272, hf⟩ := clv_s hf
  refine g_callV (mz := mi_Mod_clearHouse) (e_Mod_clearHouse hw e_272) cw_Mod_init_Mod_clearHouse lm_Mod_117 wI_Mod_clearHouse wV_Mod_clearHouse (ci := 11) (kksR k_268) (by decide) rfl rfl d_Mod_init_272 rfl rfl (by first | exact Nat.le_of_ble_eq_true rfl | simp [cat_rf, Value.category]) (fun r1 h1 hp hro => ?_)
  obtain ⟨rfl, rfl⟩ := hp
  dsimp only [Option.toList_some, Option.toList_none, List.cons_append, List.nil_append]
  exact Go.ret none trivial rfl d_Mod_init_275 (pV_of hf)
abbrev mi_Tally_underWay : MI := (⟨"WarpMill$Tally", "underWay", "()Z"⟩, prog_8_method_2_code, 1, some .boolean, 0, 0)
def it_Tally_underWay_0 : List (Nat × ClassFile.Instr × Nat) := [(0, .aload_n 0, 1), (1, .getfield 9, 3), (4, .iconst 1, 1), (5, .if_icmp .eq (11), 3), (8, .aload_n 0, 1), (9, .getfield 9, 3), (12, .iconst 4, 1), (13, .if_icmp .ne (7), 3), (16, .iconst 1, 1), (17, .goto (4), 3), (20, .iconst 0, 1), (21, .ireturn, 1)]
theorem id_Tally_underWay_0 : ∀ q ∈ it_Tally_underWay_0, decode prog_8_method_2_code q.1 = .ok q.2 := by decide +kernel
theorem d_Tally_underWay_0 : decode prog_8_method_2_code 0 = .ok (.aload_n 0, 1) := id_Tally_underWay_0 (0, .aload_n 0, 1) (List.mem_of_getElem? (i := 0) rfl)
theorem d_Tally_underWay_1 : decode prog_8_method_2_code 1 = .ok (.getfield 9, 3) := id_Tally_underWay_0 (1, .getfield 9, 3) (List.mem_of_getElem? (i := 1) rfl)
theorem d_Tally_underWay_4 : decode prog_8_method_2_code 4 = .ok (.iconst 1, 1) := id_Tally_underWay_0 (4, .iconst 1, 1) (List.mem_of_getElem? (i := 2) rfl)
theorem d_Tally_underWay_5 : decode prog_8_method_2_code 5 = .ok (.if_icmp .eq (11), 3) := id_Tally_underWay_0 (5, .if_icmp .eq (11), 3) (List.mem_of_getElem? (i := 3) rfl)
theorem d_Tally_underWay_8 : decode prog_8_method_2_code 8 = .ok (.aload_n 0, 1) := id_Tally_underWay_0 (8, .aload_n 0, 1) (List.mem_of_getElem? (i := 4) rfl)
theorem d_Tally_underWay_9 : decode prog_8_method_2_code 9 = .ok (.getfield 9, 3) := id_Tally_underWay_0 (9, .getfield 9, 3) (List.mem_of_getElem? (i := 5) rfl)
theorem d_Tally_underWay_12 : decode prog_8_method_2_code 12 = .ok (.iconst 4, 1) := id_Tally_underWay_0 (12, .iconst 4, 1) (List.mem_of_getElem? (i := 6) rfl)
theorem d_Tally_underWay_13 : decode prog_8_method_2_code 13 = .ok (.if_icmp .ne (7), 3) := id_Tally_underWay_0 (13, .if_icmp .ne (7), 3) (List.mem_of_getElem? (i := 7) rfl)
theorem d_Tally_underWay_16 : decode prog_8_method_2_code 16 = .ok (.iconst 1, 1) := id_Tally_underWay_0 (16, .iconst 1, 1) (List.mem_of_getElem? (i := 8) rfl)
theorem d_Tally_underWay_17 : decode prog_8_method_2_code 17 = .ok (.goto (4), 3) := id_Tally_underWay_0 (17, .goto (4), 3) (List.mem_of_getElem? (i := 9) rfl)
theorem d_Tally_underWay_20 : decode prog_8_method_2_code 20 = .ok (.iconst 0, 1) := id_Tally_underWay_0 (20, .iconst 0, 1) (List.mem_of_getElem? (i := 10) rfl)
theorem d_Tally_underWay_21 : decode prog_8_method_2_code 21 = .ok (.ireturn, 1) := id_Tally_underWay_0 (21, .ireturn, 1) (List.mem_of_getElem? (i := 11) rfl)
theorem wC_Tally_underWay : Cond.code ⟨"WarpMill$Tally", "underWay", "()Z"⟩ prog_8_method_2_code 1 (some .boolean) ∈ lw_tb := mem_tb 422 (by decide +kernel) rfl
def b_Tally_underWay_16 (F : Nat)  (h : Hp) : Option (Int32 × Hp) := some ((1 : Int32), h)
set_option maxRecDepth 100000 in
set_option maxHeartbeats 4000000 in
theorem e_Tally_underWay_16 {G : Gl} {h0 : Hp} {F : Nat} {r : Int32} {h' : Hp}    {h : Hp} (hf : b_Tally_underWay_16 F  h = some (r, h')) : Go G mi_Tally_underWay h0 (pI r h') h 16 [] [] := by
  unfold b_Tally_underWay_16 at hf
  refine g_iconst 1 d_Tally_underWay_16 (by decide) ?_
  refine g_goto 21 d_Tally_underWay_17 (by decide) ?_
  exact Go.ret (some _) rOk_b1 rfl d_Tally_underWay_21 (pI_of hf)
def f_Tally_underWay (F : Nat) (x0 : Nat) (h : Hp) : Option (Int32 × Hp) := gd (hK h x0 = 6) <| if (hI h 320 x0) = (1 : Int32) then (b_Tally_underWay_16 F h) else (if (hI h 320 x0) = (4 : Int32) then (b_Tally_underWay_16 F h) else (some ((0 : Int32), h)))
set_option maxRecDepth 100000 in
set_option maxHeartbeats 4000000 in
theorem e_Tally_underWay {G : Gl} {F : Nat} {r : Int32} {h' : Hp} {x0 : Nat} {h : Hp} (hf : f_Tally_underWay F x0 h = some (r, h')) : Ex G mi_Tally_underWay [.ref x0] h (pI r h') := by
  unfold f_Tally_underWay at hf
  refine Ex.of nmI (by decide) (Nat.le_of_ble_eq_true rfl) ?_
  show Go G mi_Tally_underWay h _ h 0 [(0, .ref x0)] []
  refine g_aload_n d_Tally_underWay_0 rfl ?_
  obtain ⟨k_1, hf⟩ := gd_s hf
  refine fg_Tally_status lf_Tally_9 d_Tally_underWay_1 k_1 ?_
  refine g_iconst 1 d_Tally_underWay_4 (by decide) ?_
  refine g_icmp_eq 16 d_Tally_underWay_5 (by decide) (fun c_5 => ?_) (fun c_5 => ?_)
  · have hf := ifp hf c_5
    refine Go.locals [] rfl ?_
    have key := e_Tally_underWay_16 (G := G) (h0 := h)  hf
    exact key
  · have hf := ifn hf c_5
    refine g_aload_n d_Tally_underWay_8 rfl ?_
    refine fg_Tally_status lf_Tally_9 d_Tally_underWay_9 k_1 ?_
    refine g_iconst 4 d_Tally_underWay_12 (by decide) ?_
    refine g_icmp_ne 20 d_Tally_underWay_13 (by decide) (fun c_13 => ?_) (fun c_13 => ?_)
    · have hf := ifn hf c_13
      refine g_iconst 0 d_Tally_underWay_20 (by decide) ?_
      exact Go.ret (some _) rOk_b0 rfl d_Tally_underWay_21 (pI_of hf)
    · have hf := ifp hf c_13
      refine Go.locals [] rfl ?_
      have key := e_Tally_underWay_16 (G := G) (h0 := h)  hf
      exact key
abbrev mi_Sizes_isPower : MI := (⟨"WarpMill$Sizes", "isPower", "(II)Z"⟩, prog_7_method_3_code, 2, some .boolean, 0, 0)
def it_Sizes_isPower_0 : List (Nat × ClassFile.Instr × Nat) := [(0, .iload_n 0, 1), (1, .iconst 1, 1), (2, .if_icmp .lt (20), 3), (5, .iload_n 0, 1), (6, .iload_n 1, 1), (7, .if_icmp .gt (15), 3), (10, .iload_n 0, 1), (11, .iload_n 0, 1), (12, .iconst 1, 1), (13, .isub, 1), (14, .iand, 1), (15, .ifCond .ne (7), 3), (18, .iconst 1, 1), (19, .goto (4), 3), (22, .iconst 0, 1), (23, .ireturn, 1)]
theorem id_Sizes_isPower_0 : ∀ q ∈ it_Sizes_isPower_0, decode prog_7_method_3_code q.1 = .ok q.2 := by decide +kernel
theorem d_Sizes_isPower_0 : decode prog_7_method_3_code 0 = .ok (.iload_n 0, 1) := id_Sizes_isPower_0 (0, .iload_n 0, 1) (List.mem_of_getElem? (i := 0) rfl)
theorem d_Sizes_isPower_1 : decode prog_7_method_3_code 1 = .ok (.iconst 1, 1) := id_Sizes_isPower_0 (1, .iconst 1, 1) (List.mem_of_getElem? (i := 1) rfl)
theorem d_Sizes_isPower_2 : decode prog_7_method_3_code 2 = .ok (.if_icmp .lt (20), 3) := id_Sizes_isPower_0 (2, .if_icmp .lt (20), 3) (List.mem_of_getElem? (i := 2) rfl)
theorem d_Sizes_isPower_5 : decode prog_7_method_3_code 5 = .ok (.iload_n 0, 1) := id_Sizes_isPower_0 (5, .iload_n 0, 1) (List.mem_of_getElem? (i := 3) rfl)
theorem d_Sizes_isPower_6 : decode prog_7_method_3_code 6 = .ok (.iload_n 1, 1) := id_Sizes_isPower_0 (6, .iload_n 1, 1) (List.mem_of_getElem? (i := 4) rfl)
theorem d_Sizes_isPower_7 : decode prog_7_method_3_code 7 = .ok (.if_icmp .gt (15), 3) := id_Sizes_isPower_0 (7, .if_icmp .gt (15), 3) (List.mem_of_getElem? (i := 5) rfl)
theorem d_Sizes_isPower_10 : decode prog_7_method_3_code 10 = .ok (.iload_n 0, 1) := id_Sizes_isPower_0 (10, .iload_n 0, 1) (List.mem_of_getElem? (i := 6) rfl)
theorem d_Sizes_isPower_11 : decode prog_7_method_3_code 11 = .ok (.iload_n 0, 1) := id_Sizes_isPower_0 (11, .iload_n 0, 1) (List.mem_of_getElem? (i := 7) rfl)
theorem d_Sizes_isPower_12 : decode prog_7_method_3_code 12 = .ok (.iconst 1, 1) := id_Sizes_isPower_0 (12, .iconst 1, 1) (List.mem_of_getElem? (i := 8) rfl)
theorem d_Sizes_isPower_13 : decode prog_7_method_3_code 13 = .ok (.isub, 1) := id_Sizes_isPower_0 (13, .isub, 1) (List.mem_of_getElem? (i := 9) rfl)
theorem d_Sizes_isPower_14 : decode prog_7_method_3_code 14 = .ok (.iand, 1) := id_Sizes_isPower_0 (14, .iand, 1) (List.mem_of_getElem? (i := 10) rfl)
theorem d_Sizes_isPower_15 : decode prog_7_method_3_code 15 = .ok (.ifCond .ne (7), 3) := id_Sizes_isPower_0 (15, .ifCond .ne (7), 3) (List.mem_of_getElem? (i := 11) rfl)
theorem d_Sizes_isPower_18 : decode prog_7_method_3_code 18 = .ok (.iconst 1, 1) := id_Sizes_isPower_0 (18, .iconst 1, 1) (List.mem_of_getElem? (i := 12) rfl)
theorem d_Sizes_isPower_19 : decode prog_7_method_3_code 19 = .ok (.goto (4), 3) := id_Sizes_isPower_0 (19, .goto (4), 3) (List.mem_of_getElem? (i := 13) rfl)
theorem d_Sizes_isPower_22 : decode prog_7_method_3_code 22 = .ok (.iconst 0, 1) := id_Sizes_isPower_0 (22, .iconst 0, 1) (List.mem_of_getElem? (i := 14) rfl)
theorem d_Sizes_isPower_23 : decode prog_7_method_3_code 23 = .ok (.ireturn, 1) := id_Sizes_isPower_0 (23, .ireturn, 1) (List.mem_of_getElem? (i := 15) rfl)
theorem wC_Sizes_isPower : Cond.code ⟨"WarpMill$Sizes", "isPower", "(II)Z"⟩ prog_7_method_3_code 2 (some .boolean) ∈ lw_tb := mem_tb 429 (by decide +kernel) rfl
def f_Sizes_isPower (F : Nat) (x0 : Int32) (x1 : Int32) (h : Hp) : Option (Int32 × Hp) := if x0 < (1 : Int32) then (some ((0 : Int32), h)) else (if x1 < x0 then (some ((0 : Int32), h)) else (if (x0 &&& (x0 - (1 : Int32))) = 0 then (some ((1 : Int32), h)) else (some ((0 : Int32), h))))
set_option maxRecDepth 100000 in
set_option maxHeartbeats 4000000 in
theorem e_Sizes_isPower {G : Gl} {F : Nat} {r : Int32} {h' : Hp} {x0 : Int32} {x1 : Int32} {h : Hp} (hf : f_Sizes_isPower F x0 x1 h = some (r, h')) : Ex G mi_Sizes_isPower [.int x0, .int x1] h (pI r h') := by
  unfold f_Sizes_isPower at hf
  refine Ex.of nmI (by decide) (Nat.le_of_ble_eq_true rfl) ?_
  show Go G mi_Sizes_isPower h _ h 0 [(0, .int x0), (1, .int x1)] []
  refine g_iload_n d_Sizes_isPower_0 rfl ?_
  refine g_iconst 1 d_Sizes_isPower_1 (by decide) ?_
  refine g_icmp_lt 22 d_Sizes_isPower_2 (by decide) (fun c_2 => ?_) (fun c_2 => ?_)
  · have hf := ifp hf c_2
    refine g_iconst 0 d_Sizes_isPower_22 (by decide) ?_
    exact Go.ret (some _) rOk_b0 rfl d_Sizes_isPower_23 (pI_of hf)
  · have hf := ifn hf c_2
    refine g_iload_n d_Sizes_isPower_5 rfl ?_
    refine g_iload_n d_Sizes_isPower_6 rfl ?_
    refine g_icmp_gt 22 d_Sizes_isPower_7 (by decide) (fun c_7 => ?_) (fun c_7 => ?_)
    · have hf := ifp hf c_7
      refine g_iconst 0 d_Sizes_isPower_22 (by decide) ?_
      exact Go.ret (some _) rOk_b0 rfl d_Sizes_isPower_23 (pI_of hf)
    · have hf := ifn hf c_7
      refine g_iload_n d_Sizes_isPower_10 rfl ?_
      refine g_iload_n d_Sizes_isPower_11 rfl ?_
      refine g_iconst 1 d_Sizes_isPower_12 (by decide) ?_
      refine g_isub d_Sizes_isPower_13 ?_
      refine g_iand d_Sizes_isPower_14 ?_
      refine g_if_ne 22 d_Sizes_isPower_15 (by decide) (fun c_15 => ?_) (fun c_15 => ?_)
      · have hf := ifn hf c_15
        refine g_iconst 0 d_Sizes_isPower_22 (by decide) ?_
        exact Go.ret (some _) rOk_b0 rfl d_Sizes_isPower_23 (pI_of hf)
      · have hf := ifp hf c_15
        refine g_iconst 1 d_Sizes_isPower_18 (by decide) ?_
        refine g_goto 23 d_Sizes_isPower_19 (by decide) ?_
        exact Go.ret (some _) rOk_b1 rfl d_Sizes_isPower_23 (pI_of hf)
abbrev mi_Sizes_become : MI := (⟨"WarpMill$Sizes", "become", "(IIIIII)Z"⟩, prog_7_method_2_code, 7, some .boolean, 1, 21)
def it_Sizes_become_0 : List (Nat × ClassFile.Instr × Nat) := [(0, .iload_n 1, 1), (1, .bipush (32), 2), (3, .invokestatic 30, 3), (6, .ifCond .eq (14), 3), (9, .iload_n 2, 1), (10, .iconst 1, 1), (11, .if_icmp .lt (9), 3), (14, .iload_n 2, 1), (15, .bipush (16), 2), (17, .if_icmp .le (5), 3), (20, .iconst 0, 1), (21, .ireturn, 1), (22, .iload_n 3, 1), (23, .iconst 1, 1), (24, .if_icmp .lt (19), 3), (27, .iload_n 3, 1), (28, .bipush (8), 2), (30, .if_icmp .gt (13), 3), (33, .iload 4, 2), (35, .bipush (32), 2), (37, .invokestatic 30, 3), (40, .ifCond .ne (5), 3), (43, .iconst 0, 1), (44, .ireturn, 1)]
theorem id_Sizes_become_0 : ∀ q ∈ it_Sizes_become_0, decode prog_7_method_2_code q.1 = .ok q.2 := by decide +kernel
theorem d_Sizes_become_0 : decode prog_7_method_2_code 0 = .ok (.iload_n 1, 1) := id_Sizes_become_0 (0, .iload_n 1, 1) (List.mem_of_getElem? (i := 0) rfl)
theorem d_Sizes_become_1 : decode prog_7_method_2_code 1 = .ok (.bipush (32), 2) := id_Sizes_become_0 (1, .bipush (32), 2) (List.mem_of_getElem? (i := 1) rfl)
theorem d_Sizes_become_3 : decode prog_7_method_2_code 3 = .ok (.invokestatic 30, 3) := id_Sizes_become_0 (3, .invokestatic 30, 3) (List.mem_of_getElem? (i := 2) rfl)
theorem d_Sizes_become_6 : decode prog_7_method_2_code 6 = .ok (.ifCond .eq (14), 3) := id_Sizes_become_0 (6, .ifCond .eq (14), 3) (List.mem_of_getElem? (i := 3) rfl)
theorem d_Sizes_become_9 : decode prog_7_method_2_code 9 = .ok (.iload_n 2, 1) := id_Sizes_become_0 (9, .iload_n 2, 1) (List.mem_of_getElem? (i := 4) rfl)
theorem d_Sizes_become_10 : decode prog_7_method_2_code 10 = .ok (.iconst 1, 1) := id_Sizes_become_0 (10, .iconst 1, 1) (List.mem_of_getElem? (i := 5) rfl)
theorem d_Sizes_become_11 : decode prog_7_method_2_code 11 = .ok (.if_icmp .lt (9), 3) := id_Sizes_become_0 (11, .if_icmp .lt (9), 3) (List.mem_of_getElem? (i := 6) rfl)
theorem d_Sizes_become_14 : decode prog_7_method_2_code 14 = .ok (.iload_n 2, 1) := id_Sizes_become_0 (14, .iload_n 2, 1) (List.mem_of_getElem? (i := 7) rfl)
theorem d_Sizes_become_15 : decode prog_7_method_2_code 15 = .ok (.bipush (16), 2) := id_Sizes_become_0 (15, .bipush (16), 2) (List.mem_of_getElem? (i := 8) rfl)
theorem d_Sizes_become_17 : decode prog_7_method_2_code 17 = .ok (.if_icmp .le (5), 3) := id_Sizes_become_0 (17, .if_icmp .le (5), 3) (List.mem_of_getElem? (i := 9) rfl)
theorem d_Sizes_become_20 : decode prog_7_method_2_code 20 = .ok (.iconst 0, 1) := id_Sizes_become_0 (20, .iconst 0, 1) (List.mem_of_getElem? (i := 10) rfl)
theorem d_Sizes_become_21 : decode prog_7_method_2_code 21 = .ok (.ireturn, 1) := id_Sizes_become_0 (21, .ireturn, 1) (List.mem_of_getElem? (i := 11) rfl)
theorem d_Sizes_become_22 : decode prog_7_method_2_code 22 = .ok (.iload_n 3, 1) := id_Sizes_become_0 (22, .iload_n 3, 1) (List.mem_of_getElem? (i := 12) rfl)
theorem d_Sizes_become_23 : decode prog_7_method_2_code 23 = .ok (.iconst 1, 1) := id_Sizes_become_0 (23, .iconst 1, 1) (List.mem_of_getElem? (i := 13) rfl)
theorem d_Sizes_become_24 : decode prog_7_method_2_code 24 = .ok (.if_icmp .lt (19), 3) := id_Sizes_become_0 (24, .if_icmp .lt (19), 3) (List.mem_of_getElem? (i := 14) rfl)
theorem d_Sizes_become_27 : decode prog_7_method_2_code 27 = .ok (.iload_n 3, 1) := id_Sizes_become_0 (27, .iload_n 3, 1) (List.mem_of_getElem? (i := 15) rfl)
theorem d_Sizes_become_28 : decode prog_7_method_2_code 28 = .ok (.bipush (8), 2) := id_Sizes_become_0 (28, .bipush (8), 2) (List.mem_of_getElem? (i := 16) rfl)
theorem d_Sizes_become_30 : decode prog_7_method_2_code 30 = .ok (.if_icmp .gt (13), 3) := id_Sizes_become_0 (30, .if_icmp .gt (13), 3) (List.mem_of_getElem? (i := 17) rfl)
theorem d_Sizes_become_33 : decode prog_7_method_2_code 33 = .ok (.iload 4, 2) := id_Sizes_become_0 (33, .iload 4, 2) (List.mem_of_getElem? (i := 18) rfl)
theorem d_Sizes_become_35 : decode prog_7_method_2_code 35 = .ok (.bipush (32), 2) := id_Sizes_become_0 (35, .bipush (32), 2) (List.mem_of_getElem? (i := 19) rfl)
theorem d_Sizes_become_37 : decode prog_7_method_2_code 37 = .ok (.invokestatic 30, 3) := id_Sizes_become_0 (37, .invokestatic 30, 3) (List.mem_of_getElem? (i := 20) rfl)
theorem d_Sizes_become_40 : decode prog_7_method_2_code 40 = .ok (.ifCond .ne (5), 3) := id_Sizes_become_0 (40, .ifCond .ne (5), 3) (List.mem_of_getElem? (i := 21) rfl)
theorem d_Sizes_become_43 : decode prog_7_method_2_code 43 = .ok (.iconst 0, 1) := id_Sizes_become_0 (43, .iconst 0, 1) (List.mem_of_getElem? (i := 22) rfl)
theorem d_Sizes_become_44 : decode prog_7_method_2_code 44 = .ok (.ireturn, 1) := id_Sizes_become_0 (44, .ireturn, 1) (List.mem_of_getElem? (i := 23) rfl)
def it_Sizes_become_1 : List (Nat × ClassFile.Instr × Nat) := [(45, .iload 5, 2), (47, .bipush (8), 2), (49, .invokestatic 30, 3), (52, .ifCond .eq (22), 3), (55, .iload 6, 2), (57, .sipush (4096), 3), (60, .invokestatic 30, 3), (63, .ifCond .eq (11), 3), (66, .iload 6, 2), (68, .sipush (512), 3), (71, .if_icmp .ge (5), 3), (74, .iconst 0, 1), (75, .ireturn, 1), (76, .aload_n 0, 1), (77, .iload_n 1, 1), (78, .putfield 9, 3), (81, .aload_n 0, 1), (82, .iload_n 2, 1), (83, .putfield 15, 3), (86, .aload_n 0, 1), (87, .iload_n 3, 1), (88, .putfield 18, 3), (91, .aload_n 0, 1), (92, .iload 4, 2)]
theorem id_Sizes_become_1 : ∀ q ∈ it_Sizes_become_1, decode prog_7_method_2_code q.1 = .ok q.2 := by decide +kernel
theorem d_Sizes_become_45 : decode prog_7_method_2_code 45 = .ok (.iload 5, 2) := id_Sizes_become_1 (45, .iload 5, 2) (List.mem_of_getElem? (i := 0) rfl)
theorem d_Sizes_become_47 : decode prog_7_method_2_code 47 = .ok (.bipush (8), 2) := id_Sizes_become_1 (47, .bipush (8), 2) (List.mem_of_getElem? (i := 1) rfl)
theorem d_Sizes_become_49 : decode prog_7_method_2_code 49 = .ok (.invokestatic 30, 3) := id_Sizes_become_1 (49, .invokestatic 30, 3) (List.mem_of_getElem? (i := 2) rfl)
theorem d_Sizes_become_52 : decode prog_7_method_2_code 52 = .ok (.ifCond .eq (22), 3) := id_Sizes_become_1 (52, .ifCond .eq (22), 3) (List.mem_of_getElem? (i := 3) rfl)
theorem d_Sizes_become_55 : decode prog_7_method_2_code 55 = .ok (.iload 6, 2) := id_Sizes_become_1 (55, .iload 6, 2) (List.mem_of_getElem? (i := 4) rfl)
theorem d_Sizes_become_57 : decode prog_7_method_2_code 57 = .ok (.sipush (4096), 3) := id_Sizes_become_1 (57, .sipush (4096), 3) (List.mem_of_getElem? (i := 5) rfl)
theorem d_Sizes_become_60 : decode prog_7_method_2_code 60 = .ok (.invokestatic 30, 3) := id_Sizes_become_1 (60, .invokestatic 30, 3) (List.mem_of_getElem? (i := 6) rfl)
theorem d_Sizes_become_63 : decode prog_7_method_2_code 63 = .ok (.ifCond .eq (11), 3) := id_Sizes_become_1 (63, .ifCond .eq (11), 3) (List.mem_of_getElem? (i := 7) rfl)
theorem d_Sizes_become_66 : decode prog_7_method_2_code 66 = .ok (.iload 6, 2) := id_Sizes_become_1 (66, .iload 6, 2) (List.mem_of_getElem? (i := 8) rfl)
theorem d_Sizes_become_68 : decode prog_7_method_2_code 68 = .ok (.sipush (512), 3) := id_Sizes_become_1 (68, .sipush (512), 3) (List.mem_of_getElem? (i := 9) rfl)
theorem d_Sizes_become_71 : decode prog_7_method_2_code 71 = .ok (.if_icmp .ge (5), 3) := id_Sizes_become_1 (71, .if_icmp .ge (5), 3) (List.mem_of_getElem? (i := 10) rfl)
theorem d_Sizes_become_74 : decode prog_7_method_2_code 74 = .ok (.iconst 0, 1) := id_Sizes_become_1 (74, .iconst 0, 1) (List.mem_of_getElem? (i := 11) rfl)
theorem d_Sizes_become_75 : decode prog_7_method_2_code 75 = .ok (.ireturn, 1) := id_Sizes_become_1 (75, .ireturn, 1) (List.mem_of_getElem? (i := 12) rfl)
theorem d_Sizes_become_76 : decode prog_7_method_2_code 76 = .ok (.aload_n 0, 1) := id_Sizes_become_1 (76, .aload_n 0, 1) (List.mem_of_getElem? (i := 13) rfl)
theorem d_Sizes_become_77 : decode prog_7_method_2_code 77 = .ok (.iload_n 1, 1) := id_Sizes_become_1 (77, .iload_n 1, 1) (List.mem_of_getElem? (i := 14) rfl)
theorem d_Sizes_become_78 : decode prog_7_method_2_code 78 = .ok (.putfield 9, 3) := id_Sizes_become_1 (78, .putfield 9, 3) (List.mem_of_getElem? (i := 15) rfl)
theorem d_Sizes_become_81 : decode prog_7_method_2_code 81 = .ok (.aload_n 0, 1) := id_Sizes_become_1 (81, .aload_n 0, 1) (List.mem_of_getElem? (i := 16) rfl)
theorem d_Sizes_become_82 : decode prog_7_method_2_code 82 = .ok (.iload_n 2, 1) := id_Sizes_become_1 (82, .iload_n 2, 1) (List.mem_of_getElem? (i := 17) rfl)
theorem d_Sizes_become_83 : decode prog_7_method_2_code 83 = .ok (.putfield 15, 3) := id_Sizes_become_1 (83, .putfield 15, 3) (List.mem_of_getElem? (i := 18) rfl)
theorem d_Sizes_become_86 : decode prog_7_method_2_code 86 = .ok (.aload_n 0, 1) := id_Sizes_become_1 (86, .aload_n 0, 1) (List.mem_of_getElem? (i := 19) rfl)
theorem d_Sizes_become_87 : decode prog_7_method_2_code 87 = .ok (.iload_n 3, 1) := id_Sizes_become_1 (87, .iload_n 3, 1) (List.mem_of_getElem? (i := 20) rfl)
theorem d_Sizes_become_88 : decode prog_7_method_2_code 88 = .ok (.putfield 18, 3) := id_Sizes_become_1 (88, .putfield 18, 3) (List.mem_of_getElem? (i := 21) rfl)
theorem d_Sizes_become_91 : decode prog_7_method_2_code 91 = .ok (.aload_n 0, 1) := id_Sizes_become_1 (91, .aload_n 0, 1) (List.mem_of_getElem? (i := 22) rfl)
theorem d_Sizes_become_92 : decode prog_7_method_2_code 92 = .ok (.iload 4, 2) := id_Sizes_become_1 (92, .iload 4, 2) (List.mem_of_getElem? (i := 23) rfl)
def it_Sizes_become_2 : List (Nat × ClassFile.Instr × Nat) := [(94, .putfield 21, 3), (97, .aload_n 0, 1), (98, .iload 5, 2), (100, .putfield 24, 3), (103, .aload_n 0, 1), (104, .iload 6, 2), (106, .putfield 27, 3), (109, .iconst 1, 1), (110, .ireturn, 1)]
theorem id_Sizes_become_2 : ∀ q ∈ it_Sizes_become_2, decode prog_7_method_2_code q.1 = .ok q.2 := by decide +kernel
theorem d_Sizes_become_94 : decode prog_7_method_2_code 94 = .ok (.putfield 21, 3) := id_Sizes_become_2 (94, .putfield 21, 3) (List.mem_of_getElem? (i := 0) rfl)
theorem d_Sizes_become_97 : decode prog_7_method_2_code 97 = .ok (.aload_n 0, 1) := id_Sizes_become_2 (97, .aload_n 0, 1) (List.mem_of_getElem? (i := 1) rfl)
theorem d_Sizes_become_98 : decode prog_7_method_2_code 98 = .ok (.iload 5, 2) := id_Sizes_become_2 (98, .iload 5, 2) (List.mem_of_getElem? (i := 2) rfl)
theorem d_Sizes_become_100 : decode prog_7_method_2_code 100 = .ok (.putfield 24, 3) := id_Sizes_become_2 (100, .putfield 24, 3) (List.mem_of_getElem? (i := 3) rfl)
theorem d_Sizes_become_103 : decode prog_7_method_2_code 103 = .ok (.aload_n 0, 1) := id_Sizes_become_2 (103, .aload_n 0, 1) (List.mem_of_getElem? (i := 4) rfl)
theorem d_Sizes_become_104 : decode prog_7_method_2_code 104 = .ok (.iload 6, 2) := id_Sizes_become_2 (104, .iload 6, 2) (List.mem_of_getElem? (i := 5) rfl)
theorem d_Sizes_become_106 : decode prog_7_method_2_code 106 = .ok (.putfield 27, 3) := id_Sizes_become_2 (106, .putfield 27, 3) (List.mem_of_getElem? (i := 6) rfl)
theorem d_Sizes_become_109 : decode prog_7_method_2_code 109 = .ok (.iconst 1, 1) := id_Sizes_become_2 (109, .iconst 1, 1) (List.mem_of_getElem? (i := 7) rfl)
theorem d_Sizes_become_110 : decode prog_7_method_2_code 110 = .ok (.ireturn, 1) := id_Sizes_become_2 (110, .ireturn, 1) (List.mem_of_getElem? (i := 8) rfl)
theorem wC_Sizes_become : Cond.code ⟨"WarpMill$Sizes", "become", "(IIIIII)Z"⟩ prog_7_method_2_code 7 (some .boolean) ∈ lw_tb := mem_tb 426 (by decide +kernel) rfl
theorem cw_Sizes_become_Sizes_isPower : cW mi_Sizes_become mi_Sizes_isPower 2 := ⟨wC_Sizes_isPower, wi_Sizes, ⟨by decide, by decide, by decide +kernel⟩, by decide, by decide⟩
def f_Sizes_become (F : Nat) (x0 : Nat) (x1 : Int32) (x2 : Int32) (x3 : Int32) (x4 : Int32) (x5 : Int32) (x6 : Int32) (h : Hp) : Option (Int32 × Hp) := cl (f_Sizes_isPower F x1 (32 : Int32) h) fun v_3 h_3 => if v_3 = 0 then (some ((0 : Int32), h_3)) else (if x2 < (1 : Int32) then (some ((0 : Int32), h_3)) else (if x2 ≤ (16 : Int32) then (if x3 < (1 : Int32) then (some ((0 : Int32), h_3)) else (if (8 : Int32) < x3 then (some ((0 : Int32), h_3)) else (cl (f_Sizes_isPower F x4 (32 : Int32) h_3) fun v_37 h_37 => if v_37 = 0 then (some ((0 : Int32), h_37)) else (cl (f_Sizes_isPower F x5 (8 : Int32) h_37) fun v_49 h_49 => if v_49 = 0 then (some ((0 : Int32), h_49)) else (cl (f_Sizes_isPower F x6 (4096 : Int32) h_49) fun v_60 h_60 => if v_60 = 0 then (some ((0 : Int32), h_60)) else (if (512 : Int32) ≤ x6 then (gd (hK h_60 x0 = 2) <| pw (sI h_60 64 x0 x1) fun h_78_2 => pw (sI h_78_2 65 x0 x2) fun h_83 => pw (sI h_83 66 x0 x3) fun h_88 => pw (sI h_88 67 x0 x4) fun h_94 => pw (sI h_94 68 x0 x5) fun h_100 => pw (sI h_100 69 x0 x6) fun h_106 => some ((1 : Int32), h_106)) else (some ((0 : Int32), h_60)))))))) else (some ((0 : Int32), h_3))))
set_option maxRecDepth 100000 in
set_option maxHeartbeats 4000000 in
theorem e_Sizes_become {G : Gl} (hw : gF G) {F : Nat} {r : Int32} {h' : Hp} {x0 : Nat} {x1 : Int32} {x2 : Int32} {x3 : Int32} {x4 : Int32} {x5 : Int32} {x6 : Int32} {h : Hp} (hf : f_Sizes_become F x0 x1 x2 x3 x4 x5 x6 h = some (r, h')) : Ex G mi_Sizes_become [.ref x0, .int x1, .int x2, .int x3, .int x4, .int x5, .int x6] h (pI r h') := by
  unfold f_Sizes_become at hf
  refine Ex.of nmI (by decide) (Nat.le_of_ble_eq_true rfl) ?_
  show Go G mi_Sizes_become h _ h 0 [(0, .ref x0), (1, .int x1), (2, .int x2), (3, .int x3), (4, .int x4), (5, .int x5), (6, .int x6)] []
  refine g_iload_n d_Sizes_become_0 rfl ?_
  refine g_bipush (32) d_Sizes_become_1 (by decide) ?_
  obtain ⟨v_3, h_3, e_3, hf⟩ := cl_s hf
  refine g_callS (mz := mi_Sizes_isPower) (e_Sizes_isPower e_3) cw_Sizes_become_Sizes_isPower lm_Sizes_30 wS_Sizes_isPower d_Sizes_become_3 rfl rfl (by first | exact Nat.le_of_ble_eq_true rfl | simp [cat_rf, Value.category]) (fun r1 h1 hp hro => ?_)
  obtain ⟨rfl, rfl⟩ := hp
  dsimp only [Option.toList_some, Option.toList_none, List.cons_append, List.nil_append]
  refine g_if_eq 20 d_Sizes_become_6 (by decide) (fun c_6 => ?_) (fun c_6 => ?_)
  · have hf := ifp hf c_6
    refine g_iconst 0 d_Sizes_become_20 (by decide) ?_
    exact Go.ret (some _) rOk_b0 rfl d_Sizes_become_21 (pI_of hf)
  · have hf := ifn hf c_6
    refine g_iload_n d_Sizes_become_9 rfl ?_
    refine g_iconst 1 d_Sizes_become_10 (by decide) ?_
    refine g_icmp_lt 20 d_Sizes_become_11 (by decide) (fun c_11 => ?_) (fun c_11 => ?_)
    · have hf := ifp hf c_11
      refine g_iconst 0 d_Sizes_become_20 (by decide) ?_
      exact Go.ret (some _) rOk_b0 rfl d_Sizes_become_21 (pI_of hf)
    · have hf := ifn hf c_11
      refine g_iload_n d_Sizes_become_14 rfl ?_
      refine g_bipush (16) d_Sizes_become_15 (by decide) ?_
      refine g_icmp_le 22 d_Sizes_become_17 (by decide) (fun c_17 => ?_) (fun c_17 => ?_)
      · have hf := ifp hf c_17
        refine g_iload_n d_Sizes_become_22 rfl ?_
        refine g_iconst 1 d_Sizes_become_23 (by decide) ?_
        refine g_icmp_lt 43 d_Sizes_become_24 (by decide) (fun c_24 => ?_) (fun c_24 => ?_)
        · have hf := ifp hf c_24
          refine g_iconst 0 d_Sizes_become_43 (by decide) ?_
          exact Go.ret (some _) rOk_b0 rfl d_Sizes_become_44 (pI_of hf)
        · have hf := ifn hf c_24
          refine g_iload_n d_Sizes_become_27 rfl ?_
          refine g_bipush (8) d_Sizes_become_28 (by decide) ?_
          refine g_icmp_gt 43 d_Sizes_become_30 (by decide) (fun c_30 => ?_) (fun c_30 => ?_)
          · have hf := ifp hf c_30
            refine g_iconst 0 d_Sizes_become_43 (by decide) ?_
            exact Go.ret (some _) rOk_b0 rfl d_Sizes_become_44 (pI_of hf)
          · have hf := ifn hf c_30
            refine g_iload d_Sizes_become_33 rfl ?_
            refine g_bipush (32) d_Sizes_become_35 (by decide) ?_
            obtain ⟨v_37, h_37, e_37, hf⟩ := cl_s hf
            refine g_callS (mz := mi_Sizes_isPower) (e_Sizes_isPower e_37) cw_Sizes_become_Sizes_isPower lm_Sizes_30 wS_Sizes_isPower d_Sizes_become_37 rfl rfl (by first | exact Nat.le_of_ble_eq_true rfl | simp [cat_rf, Value.category]) (fun r1 h1 hp hro => ?_)
            obtain ⟨rfl, rfl⟩ := hp
            dsimp only [Option.toList_some, Option.toList_none, List.cons_append, List.nil_append]
            refine g_if_ne 45 d_Sizes_become_40 (by decide) (fun c_40 => ?_) (fun c_40 => ?_)
            · have hf := ifn hf c_40
              refine g_iload d_Sizes_become_45 rfl ?_
              refine g_bipush (8) d_Sizes_become_47 (by decide) ?_
              obtain ⟨v_49, h_49, e_49, hf⟩ := cl_s hf
              refine g_callS (mz := mi_Sizes_isPower) (e_Sizes_isPower e_49) cw_Sizes_become_Sizes_isPower lm_Sizes_30 wS_Sizes_isPower d_Sizes_become_49 rfl rfl (by first | exact Nat.le_of_ble_eq_true rfl | simp [cat_rf, Value.category]) (fun r1 h1 hp hro => ?_)
              obtain ⟨rfl, rfl⟩ := hp
              dsimp only [Option.toList_some, Option.toList_none, List.cons_append, List.nil_append]
              refine g_if_eq 74 d_Sizes_become_52 (by decide) (fun c_52 => ?_) (fun c_52 => ?_)
              · have hf := ifp hf c_52
                refine g_iconst 0 d_Sizes_become_74 (by decide) ?_
                exact Go.ret (some _) rOk_b0 rfl d_Sizes_become_75 (pI_of hf)
              · have hf := ifn hf c_52
                refine g_iload d_Sizes_become_55 rfl ?_
                refine g_sipush (4096) d_Sizes_become_57 (by decide) ?_
                obtain ⟨v_60, h_60, e_60, hf⟩ := cl_s hf
                refine g_callS (mz := mi_Sizes_isPower) (e_Sizes_isPower e_60) cw_Sizes_become_Sizes_isPower lm_Sizes_30 wS_Sizes_isPower d_Sizes_become_60 rfl rfl (by first | exact Nat.le_of_ble_eq_true rfl | simp [cat_rf, Value.category]) (fun r1 h1 hp hro => ?_)
                obtain ⟨rfl, rfl⟩ := hp
                dsimp only [Option.toList_some, Option.toList_none, List.cons_append, List.nil_append]
                refine g_if_eq 74 d_Sizes_become_63 (by decide) (fun c_63 => ?_) (fun c_63 => ?_)
                · have hf := ifp hf c_63
                  refine g_iconst 0 d_Sizes_become_74 (by decide) ?_
                  exact Go.ret (some _) rOk_b0 rfl d_Sizes_become_75 (pI_of hf)
                · have hf := ifn hf c_63
                  refine g_iload d_Sizes_become_66 rfl ?_
                  refine g_sipush (512) d_Sizes_become_68 (by decide) ?_
                  refine g_icmp_ge 76 d_Sizes_become_71 (by decide) (fun c_71 => ?_) (fun c_71 => ?_)
                  · have hf := ifp hf c_71
                    refine g_aload_n d_Sizes_become_76 rfl ?_
                    refine g_iload_n d_Sizes_become_77 rfl ?_
                    obtain ⟨k_78, hf⟩ := gd_s hf
                    refine fp_Sizes_lanes hw lf_Sizes_9 d_Sizes_become_78 k_78 ?_
                    have hf := pw_b hf
                    refine g_aload_n d_Sizes_become_81 rfl ?_
                    refine g_iload_n d_Sizes_become_82 rfl ?_
                    refine fp_Sizes_slots hw lf_Sizes_15 d_Sizes_become_83 (kksI k_78) ?_
                    have hf := pw_b hf
                    refine g_aload_n d_Sizes_become_86 rfl ?_
                    refine g_iload_n d_Sizes_become_87 rfl ?_
                    refine fp_Sizes_units hw lf_Sizes_18 d_Sizes_become_88 (kksI (kksI k_78)) ?_
                    have hf := pw_b hf
                    refine g_aload_n d_Sizes_become_91 rfl ?_
                    refine g_iload d_Sizes_become_92 rfl ?_
                    refine fp_Sizes_banks hw lf_Sizes_21 d_Sizes_become_94 (kksI (kksI (kksI k_78))) ?_
                    have hf := pw_b hf
                    refine g_aload_n d_Sizes_become_97 rfl ?_
                    refine g_iload d_Sizes_become_98 rfl ?_
                    refine fp_Sizes_gates hw lf_Sizes_24 d_Sizes_become_100 (kksI (kksI (kksI (kksI k_78)))) ?_
                    have hf := pw_b hf
                    refine g_aload_n d_Sizes_become_103 rfl ?_
                    refine g_iload d_Sizes_become_104 rfl ?_
                    refine fp_Sizes_ints hw lf_Sizes_27 d_Sizes_become_106 (kksI (kksI (kksI (kksI (kksI k_78))))) ?_
                    have hf := pw_b hf
                    refine g_iconst 1 d_Sizes_become_109 (by decide) ?_
                    exact Go.ret (some _) rOk_b1 rfl d_Sizes_become_110 (pI_of hf)
                  · have hf := ifn hf c_71
                    refine g_iconst 0 d_Sizes_become_74 (by decide) ?_
                    exact Go.ret (some _) rOk_b0 rfl d_Sizes_become_75 (pI_of hf)
            · have hf := ifp hf c_40
              refine g_iconst 0 d_Sizes_become_43 (by decide) ?_
              exact Go.ret (some _) rOk_b0 rfl d_Sizes_become_44 (pI_of hf)
      · have hf := ifn hf c_17
        refine g_iconst 0 d_Sizes_become_20 (by decide) ?_
        exact Go.ret (some _) rOk_b0 rfl d_Sizes_become_21 (pI_of hf)
abbrev mi_Memory_resize : MI := (⟨"WarpMill$Memory", "resize", "(I)V"⟩, prog_5_method_3_code, 3, none, 0, 0)
def it_Memory_resize_0 : List (Nat × ClassFile.Instr × Nat) := [(0, .aload_n 0, 1), (1, .getfield 29, 3), (4, .istore_n 2, 1), (5, .iload_n 2, 1), (6, .iload_n 1, 1), (7, .if_icmp .ge (25), 3), (10, .iload_n 2, 1), (11, .aload_n 0, 1), (12, .getfield 9, 3), (15, .arraylength, 1), (16, .if_icmp .ge (16), 3), (19, .aload_n 0, 1), (20, .getfield 9, 3), (23, .iload_n 2, 1), (24, .iconst 0, 1), (25, .iastore, 1), (26, .iinc 2 (1), 3), (29, .goto (-24), 3), (32, .aload_n 0, 1), (33, .iload_n 1, 1), (34, .putfield 29, 3), (37, .return_, 1)]
theorem id_Memory_resize_0 : ∀ q ∈ it_Memory_resize_0, decode prog_5_method_3_code q.1 = .ok q.2 := by decide +kernel
theorem d_Memory_resize_0 : decode prog_5_method_3_code 0 = .ok (.aload_n 0, 1) := id_Memory_resize_0 (0, .aload_n 0, 1) (List.mem_of_getElem? (i := 0) rfl)
theorem d_Memory_resize_1 : decode prog_5_method_3_code 1 = .ok (.getfield 29, 3) := id_Memory_resize_0 (1, .getfield 29, 3) (List.mem_of_getElem? (i := 1) rfl)
theorem d_Memory_resize_4 : decode prog_5_method_3_code 4 = .ok (.istore_n 2, 1) := id_Memory_resize_0 (4, .istore_n 2, 1) (List.mem_of_getElem? (i := 2) rfl)
theorem d_Memory_resize_5 : decode prog_5_method_3_code 5 = .ok (.iload_n 2, 1) := id_Memory_resize_0 (5, .iload_n 2, 1) (List.mem_of_getElem? (i := 3) rfl)
theorem d_Memory_resize_6 : decode prog_5_method_3_code 6 = .ok (.iload_n 1, 1) := id_Memory_resize_0 (6, .iload_n 1, 1) (List.mem_of_getElem? (i := 4) rfl)
theorem d_Memory_resize_7 : decode prog_5_method_3_code 7 = .ok (.if_icmp .ge (25), 3) := id_Memory_resize_0 (7, .if_icmp .ge (25), 3) (List.mem_of_getElem? (i := 5) rfl)
theorem d_Memory_resize_10 : decode prog_5_method_3_code 10 = .ok (.iload_n 2, 1) := id_Memory_resize_0 (10, .iload_n 2, 1) (List.mem_of_getElem? (i := 6) rfl)
theorem d_Memory_resize_11 : decode prog_5_method_3_code 11 = .ok (.aload_n 0, 1) := id_Memory_resize_0 (11, .aload_n 0, 1) (List.mem_of_getElem? (i := 7) rfl)
theorem d_Memory_resize_12 : decode prog_5_method_3_code 12 = .ok (.getfield 9, 3) := id_Memory_resize_0 (12, .getfield 9, 3) (List.mem_of_getElem? (i := 8) rfl)
theorem d_Memory_resize_15 : decode prog_5_method_3_code 15 = .ok (.arraylength, 1) := id_Memory_resize_0 (15, .arraylength, 1) (List.mem_of_getElem? (i := 9) rfl)
theorem d_Memory_resize_16 : decode prog_5_method_3_code 16 = .ok (.if_icmp .ge (16), 3) := id_Memory_resize_0 (16, .if_icmp .ge (16), 3) (List.mem_of_getElem? (i := 10) rfl)
theorem d_Memory_resize_19 : decode prog_5_method_3_code 19 = .ok (.aload_n 0, 1) := id_Memory_resize_0 (19, .aload_n 0, 1) (List.mem_of_getElem? (i := 11) rfl)
theorem d_Memory_resize_20 : decode prog_5_method_3_code 20 = .ok (.getfield 9, 3) := id_Memory_resize_0 (20, .getfield 9, 3) (List.mem_of_getElem? (i := 12) rfl)
theorem d_Memory_resize_23 : decode prog_5_method_3_code 23 = .ok (.iload_n 2, 1) := id_Memory_resize_0 (23, .iload_n 2, 1) (List.mem_of_getElem? (i := 13) rfl)
theorem d_Memory_resize_24 : decode prog_5_method_3_code 24 = .ok (.iconst 0, 1) := id_Memory_resize_0 (24, .iconst 0, 1) (List.mem_of_getElem? (i := 14) rfl)
theorem d_Memory_resize_25 : decode prog_5_method_3_code 25 = .ok (.iastore, 1) := id_Memory_resize_0 (25, .iastore, 1) (List.mem_of_getElem? (i := 15) rfl)
theorem d_Memory_resize_26 : decode prog_5_method_3_code 26 = .ok (.iinc 2 (1), 3) := id_Memory_resize_0 (26, .iinc 2 (1), 3) (List.mem_of_getElem? (i := 16) rfl)
theorem d_Memory_resize_29 : decode prog_5_method_3_code 29 = .ok (.goto (-24), 3) := id_Memory_resize_0 (29, .goto (-24), 3) (List.mem_of_getElem? (i := 17) rfl)
theorem d_Memory_resize_32 : decode prog_5_method_3_code 32 = .ok (.aload_n 0, 1) := id_Memory_resize_0 (32, .aload_n 0, 1) (List.mem_of_getElem? (i := 18) rfl)
theorem d_Memory_resize_33 : decode prog_5_method_3_code 33 = .ok (.iload_n 1, 1) := id_Memory_resize_0 (33, .iload_n 1, 1) (List.mem_of_getElem? (i := 19) rfl)
theorem d_Memory_resize_34 : decode prog_5_method_3_code 34 = .ok (.putfield 29, 3) := id_Memory_resize_0 (34, .putfield 29, 3) (List.mem_of_getElem? (i := 20) rfl)
theorem d_Memory_resize_37 : decode prog_5_method_3_code 37 = .ok (.return_, 1) := id_Memory_resize_0 (37, .return_, 1) (List.mem_of_getElem? (i := 21) rfl)
theorem wC_Memory_resize : Cond.code ⟨"WarpMill$Memory", "resize", "(I)V"⟩ prog_5_method_3_code 3 (none) ∈ lw_tb := mem_tb 433 (by decide +kernel) rfl
def b_Memory_resize_32 (F : Nat) (x0 : Nat) (x1 : Int32) (h : Hp) : Option Hp := gd (hK h x0 = 3) <| pw (sI h 131 x0 x1) fun h_34_2 => some h_34_2
set_option maxRecDepth 100000 in
set_option maxHeartbeats 4000000 in
theorem e_Memory_resize_32 {G : Gl} (hw : gF G) {h0 : Hp} {F : Nat} {h' : Hp}   {x0 : Nat} {x1 : Int32} {h : Hp} (hf : b_Memory_resize_32 F x0 x1 h = some h') : Go G mi_Memory_resize h0 (pV h') h 32 [(0, .ref x0), (1, .int x1)] [] := by
  unfold b_Memory_resize_32 at hf
  refine g_aload_n d_Memory_resize_32 rfl ?_
  refine g_iload_n d_Memory_resize_33 rfl ?_
  obtain ⟨k_34, hf⟩ := gd_s hf
  refine fp_Memory_size hw lf_Memory_29 d_Memory_resize_34 k_34 ?_
  have hf := pw_b hf
  exact Go.ret none trivial rfl d_Memory_resize_37 (pV_of hf)
def b_Memory_resize_5 (F : Nat) : Nat → Nat → Int32 → Int32 → Hp → Option Hp
  | 0 => fun _ _ _ _ => none
  | n + 1 => fun x0 x1 x2 h => if x1 ≤ x2 then (b_Memory_resize_32 F x0 x1 h) else (gd (hK h x0 = 3) <| rq h (hR h 128 x0) 100 fun a_12_2 => if (nI (hN h a_12_2)) ≤ x2 then (b_Memory_resize_32 F x0 x1 h) else (ix x2 (hN h a_12_2) fun j_25 => pw (sA h a_12_2 j_25 (0 : Int32)) fun h_25_2 => b_Memory_resize_5 F n x0 x1 (x2 + 1) h_25_2))
set_option maxRecDepth 100000 in
set_option maxHeartbeats 4000000 in
theorem e_Memory_resize_5 {G : Gl} (hw : gF G) {h0 : Hp} {F : Nat} {h' : Hp}   : ∀ (n : Nat) (x0 : Nat) (x1 : Int32) (x2 : Int32) (h : Hp), b_Memory_resize_5 F n x0 x1 x2 h = some h' → Go G mi_Memory_resize h0 (pV h') h 5 [(0, .ref x0), (1, .int x1), (2, .int x2)] [] := by
  intro n
  induction n with
  | zero =>
    intro _ _ _ _ hf
    exact nm_s hf
  | succ n ih =>
    intro x0 x1 x2 h hf
    unfold b_Memory_resize_5 at hf
    refine g_iload_n d_Memory_resize_5 rfl ?_
    refine g_iload_n d_Memory_resize_6 rfl ?_
    refine g_icmp_ge 32 d_Memory_resize_7 (by decide) (fun c_7 => ?_) (fun c_7 => ?_)
    · have hf := ifp hf c_7
      refine Go.locals [0, 1] rfl ?_
      have key := e_Memory_resize_32 hw (G := G) (h0 := h0)  hf
      exact key
    · have hf := ifn hf c_7
      refine g_iload_n d_Memory_resize_10 rfl ?_
      refine g_aload_n d_Memory_resize_11 rfl ?_
      obtain ⟨k_12, hf⟩ := gd_s hf
      obtain ⟨a_12_2, e_12_2, k_12_2, hf⟩ := rq_s hf
      refine fgs_Memory_ints lf_Memory_9 d_Memory_resize_12 k_12 e_12_2 ?_
      refine g_alen k_12_2 (by decide) rfl d_Memory_resize_15 ?_
      refine g_icmp_ge 32 d_Memory_resize_16 (by decide) (fun c_16 => ?_) (fun c_16 => ?_)
      · have hf := ifp hf c_16
        refine Go.locals [0, 1] rfl ?_
        have key := e_Memory_resize_32 hw (G := G) (h0 := h0)  hf
        exact key
      · have hf := ifn hf c_16
        refine g_aload_n d_Memory_resize_19 rfl ?_
        refine fgs_Memory_ints lf_Memory_9 d_Memory_resize_20 k_12 e_12_2 ?_
        refine g_iload_n d_Memory_resize_23 rfl ?_
        refine g_iconst 0 d_Memory_resize_24 (by decide) ?_
        obtain ⟨i_25, hf⟩ := ix_s hf
        refine g_iast hw k_12_2 i_25 d_Memory_resize_25 ?_
        have hf := pw_b hf
        refine g_iinc (_ + 1) d_Memory_resize_26 rfl (by rfl) (by decide) ?_
        show Go _ _ _ _ _ _ [(0, _), (1, _), (2, _)] _
        refine g_goto 5 d_Memory_resize_29 (by decide) ?_
        exact ih _ _ _ _ hf
def f_Memory_resize (F : Nat) (x0 : Nat) (x1 : Int32) (h : Hp) : Option Hp := gd (hK h x0 = 3) <| b_Memory_resize_5 F F x0 x1 (hI h 131 x0) h
set_option maxRecDepth 100000 in
set_option maxHeartbeats 4000000 in
theorem e_Memory_resize {G : Gl} (hw : gF G) {F : Nat} {h' : Hp} {x0 : Nat} {x1 : Int32} {h : Hp} (hf : f_Memory_resize F x0 x1 h = some h') : Ex G mi_Memory_resize [.ref x0, .int x1] h (pV h') := by
  unfold f_Memory_resize at hf
  refine Ex.of nmV (by decide) (Nat.le_of_ble_eq_true rfl) ?_
  show Go G mi_Memory_resize h _ h 0 [(0, .ref x0), (1, .int x1)] []
  refine g_aload_n d_Memory_resize_0 rfl ?_
  obtain ⟨k_1, hf⟩ := gd_s hf
  refine fg_Memory_size lf_Memory_29 d_Memory_resize_1 k_1 ?_
  refine g_istore_n d_Memory_resize_4 (by decide) ?_
  show Go _ _ _ _ _ _ [(0, _), (1, _), (2, _)] _
  have key := e_Memory_resize_5 hw (G := G) (h0 := h)  F _ _ _ _ hf
  exact key
abbrev mi_Cache_empty : MI := (⟨"WarpMill$Cache", "empty", "()V"⟩, prog_4_method_2_code, 1, none, 1, 23)
def it_Cache_empty_0 : List (Nat × ClassFile.Instr × Nat) := [(0, .aload_n 0, 1), (1, .getfield 9, 3), (4, .iconst (-1), 1), (5, .invokestatic 18, 3), (8, .return_, 1)]
theorem id_Cache_empty_0 : ∀ q ∈ it_Cache_empty_0, decode prog_4_method_2_code q.1 = .ok q.2 := by decide +kernel
theorem d_Cache_empty_0 : decode prog_4_method_2_code 0 = .ok (.aload_n 0, 1) := id_Cache_empty_0 (0, .aload_n 0, 1) (List.mem_of_getElem? (i := 0) rfl)
theorem d_Cache_empty_1 : decode prog_4_method_2_code 1 = .ok (.getfield 9, 3) := id_Cache_empty_0 (1, .getfield 9, 3) (List.mem_of_getElem? (i := 1) rfl)
theorem d_Cache_empty_4 : decode prog_4_method_2_code 4 = .ok (.iconst (-1), 1) := id_Cache_empty_0 (4, .iconst (-1), 1) (List.mem_of_getElem? (i := 2) rfl)
theorem d_Cache_empty_5 : decode prog_4_method_2_code 5 = .ok (.invokestatic 18, 3) := id_Cache_empty_0 (5, .invokestatic 18, 3) (List.mem_of_getElem? (i := 3) rfl)
theorem d_Cache_empty_8 : decode prog_4_method_2_code 8 = .ok (.return_, 1) := id_Cache_empty_0 (8, .return_, 1) (List.mem_of_getElem? (i := 4) rfl)
theorem wC_Cache_empty : Cond.code ⟨"WarpMill$Cache", "empty", "()V"⟩ prog_4_method_2_code 1 (none) ∈ lw_tb := mem_tb 437 (by decide +kernel) rfl
theorem cw_Cache_empty_Arrays_fill : cW mi_Cache_empty mi_Arrays_fill 2 := ⟨wC_Arrays_fill, wi_Arrays, ⟨by decide, by decide, by decide +kernel⟩, by decide, by decide⟩
def f_Cache_empty (F : Nat) (x0 : Nat) (h : Hp) : Option Hp := gd (hK h x0 = 4) <| rq h (hR h 192 x0) 100 fun a_1_2 => clv (f_Arrays_fill F (some a_1_2) (-1 : Int32) h) fun h_5 => some h_5
set_option maxRecDepth 100000 in
set_option maxHeartbeats 4000000 in
theorem e_Cache_empty {G : Gl} (hw : gF G) {F : Nat} {h' : Hp} {x0 : Nat} {h : Hp} (hf : f_Cache_empty F x0 h = some h') : Ex G mi_Cache_empty [.ref x0] h (pV h') := by
  unfold f_Cache_empty at hf
  refine Ex.of nmV (by decide) (Nat.le_of_ble_eq_true rfl) ?_
  show Go G mi_Cache_empty h _ h 0 [(0, .ref x0)] []
  refine g_aload_n d_Cache_empty_0 rfl ?_
  obtain ⟨k_1, hf⟩ := gd_s hf
  obtain ⟨a_1_2, e_1_2, k_1_2, hf⟩ := rq_s hf
  refine fgs_Cache_lines lf_Cache_9 d_Cache_empty_1 k_1 e_1_2 ?_
  refine g_iconst (-1) d_Cache_empty_4 (by decide) ?_
  obtain ⟨h_5, e_5, hf⟩ := clv_s hf
  refine g_callS (mz := mi_Arrays_fill) (e_Arrays_fill hw e_5) cw_Cache_empty_Arrays_fill lm_Cache_18 wS_Arrays_fill d_Cache_empty_5 rfl rfl (by first | exact Nat.le_of_ble_eq_true rfl | simp [cat_rf, Value.category]) (fun r1 h1 hp hro => ?_)
  obtain ⟨rfl, rfl⟩ := hp
  dsimp only [Option.toList_some, Option.toList_none, List.cons_append, List.nil_append]
  exact Go.ret none trivial rfl d_Cache_empty_8 (pV_of hf)
abbrev mi_Tally_begin : MI := (⟨"WarpMill$Tally", "begin", "(III)V"⟩, prog_8_method_3_code, 4, none, 0, 0)
def it_Tally_begin_0 : List (Nat × ClassFile.Instr × Nat) := [(0, .aload_n 0, 1), (1, .iload_n 1, 1), (2, .putfield 9, 3), (5, .aload_n 0, 1), (6, .iload_n 2, 1), (7, .putfield 15, 3), (10, .aload_n 0, 1), (11, .iload_n 3, 1), (12, .putfield 18, 3), (15, .aload_n 0, 1), (16, .iconst 0, 1), (17, .putfield 21, 3), (20, .aload_n 0, 1), (21, .iconst 0, 1), (22, .putfield 24, 3), (25, .aload_n 0, 1), (26, .iconst 0, 1), (27, .putfield 27, 3), (30, .aload_n 0, 1), (31, .iconst 0, 1), (32, .putfield 30, 3), (35, .aload_n 0, 1), (36, .iconst 0, 1), (37, .putfield 33, 3)]
theorem id_Tally_begin_0 : ∀ q ∈ it_Tally_begin_0, decode prog_8_method_3_code q.1 = .ok q.2 := by decide +kernel
theorem d_Tally_begin_0 : decode prog_8_method_3_code 0 = .ok (.aload_n 0, 1) := id_Tally_begin_0 (0, .aload_n 0, 1) (List.mem_of_getElem? (i := 0) rfl)
theorem d_Tally_begin_1 : decode prog_8_method_3_code 1 = .ok (.iload_n 1, 1) := id_Tally_begin_0 (1, .iload_n 1, 1) (List.mem_of_getElem? (i := 1) rfl)
theorem d_Tally_begin_2 : decode prog_8_method_3_code 2 = .ok (.putfield 9, 3) := id_Tally_begin_0 (2, .putfield 9, 3) (List.mem_of_getElem? (i := 2) rfl)
theorem d_Tally_begin_5 : decode prog_8_method_3_code 5 = .ok (.aload_n 0, 1) := id_Tally_begin_0 (5, .aload_n 0, 1) (List.mem_of_getElem? (i := 3) rfl)
theorem d_Tally_begin_6 : decode prog_8_method_3_code 6 = .ok (.iload_n 2, 1) := id_Tally_begin_0 (6, .iload_n 2, 1) (List.mem_of_getElem? (i := 4) rfl)
theorem d_Tally_begin_7 : decode prog_8_method_3_code 7 = .ok (.putfield 15, 3) := id_Tally_begin_0 (7, .putfield 15, 3) (List.mem_of_getElem? (i := 5) rfl)
theorem d_Tally_begin_10 : decode prog_8_method_3_code 10 = .ok (.aload_n 0, 1) := id_Tally_begin_0 (10, .aload_n 0, 1) (List.mem_of_getElem? (i := 6) rfl)
theorem d_Tally_begin_11 : decode prog_8_method_3_code 11 = .ok (.iload_n 3, 1) := id_Tally_begin_0 (11, .iload_n 3, 1) (List.mem_of_getElem? (i := 7) rfl)
theorem d_Tally_begin_12 : decode prog_8_method_3_code 12 = .ok (.putfield 18, 3) := id_Tally_begin_0 (12, .putfield 18, 3) (List.mem_of_getElem? (i := 8) rfl)
theorem d_Tally_begin_15 : decode prog_8_method_3_code 15 = .ok (.aload_n 0, 1) := id_Tally_begin_0 (15, .aload_n 0, 1) (List.mem_of_getElem? (i := 9) rfl)
theorem d_Tally_begin_16 : decode prog_8_method_3_code 16 = .ok (.iconst 0, 1) := id_Tally_begin_0 (16, .iconst 0, 1) (List.mem_of_getElem? (i := 10) rfl)
theorem d_Tally_begin_17 : decode prog_8_method_3_code 17 = .ok (.putfield 21, 3) := id_Tally_begin_0 (17, .putfield 21, 3) (List.mem_of_getElem? (i := 11) rfl)
theorem d_Tally_begin_20 : decode prog_8_method_3_code 20 = .ok (.aload_n 0, 1) := id_Tally_begin_0 (20, .aload_n 0, 1) (List.mem_of_getElem? (i := 12) rfl)
theorem d_Tally_begin_21 : decode prog_8_method_3_code 21 = .ok (.iconst 0, 1) := id_Tally_begin_0 (21, .iconst 0, 1) (List.mem_of_getElem? (i := 13) rfl)
theorem d_Tally_begin_22 : decode prog_8_method_3_code 22 = .ok (.putfield 24, 3) := id_Tally_begin_0 (22, .putfield 24, 3) (List.mem_of_getElem? (i := 14) rfl)
theorem d_Tally_begin_25 : decode prog_8_method_3_code 25 = .ok (.aload_n 0, 1) := id_Tally_begin_0 (25, .aload_n 0, 1) (List.mem_of_getElem? (i := 15) rfl)
theorem d_Tally_begin_26 : decode prog_8_method_3_code 26 = .ok (.iconst 0, 1) := id_Tally_begin_0 (26, .iconst 0, 1) (List.mem_of_getElem? (i := 16) rfl)
theorem d_Tally_begin_27 : decode prog_8_method_3_code 27 = .ok (.putfield 27, 3) := id_Tally_begin_0 (27, .putfield 27, 3) (List.mem_of_getElem? (i := 17) rfl)
theorem d_Tally_begin_30 : decode prog_8_method_3_code 30 = .ok (.aload_n 0, 1) := id_Tally_begin_0 (30, .aload_n 0, 1) (List.mem_of_getElem? (i := 18) rfl)
theorem d_Tally_begin_31 : decode prog_8_method_3_code 31 = .ok (.iconst 0, 1) := id_Tally_begin_0 (31, .iconst 0, 1) (List.mem_of_getElem? (i := 19) rfl)
theorem d_Tally_begin_32 : decode prog_8_method_3_code 32 = .ok (.putfield 30, 3) := id_Tally_begin_0 (32, .putfield 30, 3) (List.mem_of_getElem? (i := 20) rfl)
theorem d_Tally_begin_35 : decode prog_8_method_3_code 35 = .ok (.aload_n 0, 1) := id_Tally_begin_0 (35, .aload_n 0, 1) (List.mem_of_getElem? (i := 21) rfl)
theorem d_Tally_begin_36 : decode prog_8_method_3_code 36 = .ok (.iconst 0, 1) := id_Tally_begin_0 (36, .iconst 0, 1) (List.mem_of_getElem? (i := 22) rfl)
theorem d_Tally_begin_37 : decode prog_8_method_3_code 37 = .ok (.putfield 33, 3) := id_Tally_begin_0 (37, .putfield 33, 3) (List.mem_of_getElem? (i := 23) rfl)
def it_Tally_begin_1 : List (Nat × ClassFile.Instr × Nat) := [(40, .aload_n 0, 1), (41, .iconst 0, 1), (42, .putfield 36, 3), (45, .aload_n 0, 1), (46, .iconst 0, 1), (47, .putfield 39, 3), (50, .aload_n 0, 1), (51, .iconst 0, 1), (52, .putfield 42, 3), (55, .aload_n 0, 1), (56, .iconst 0, 1), (57, .putfield 45, 3), (60, .aload_n 0, 1), (61, .iconst 0, 1), (62, .putfield 48, 3), (65, .return_, 1)]
theorem id_Tally_begin_1 : ∀ q ∈ it_Tally_begin_1, decode prog_8_method_3_code q.1 = .ok q.2 := by decide +kernel
theorem d_Tally_begin_40 : decode prog_8_method_3_code 40 = .ok (.aload_n 0, 1) := id_Tally_begin_1 (40, .aload_n 0, 1) (List.mem_of_getElem? (i := 0) rfl)
theorem d_Tally_begin_41 : decode prog_8_method_3_code 41 = .ok (.iconst 0, 1) := id_Tally_begin_1 (41, .iconst 0, 1) (List.mem_of_getElem? (i := 1) rfl)
theorem d_Tally_begin_42 : decode prog_8_method_3_code 42 = .ok (.putfield 36, 3) := id_Tally_begin_1 (42, .putfield 36, 3) (List.mem_of_getElem? (i := 2) rfl)
theorem d_Tally_begin_45 : decode prog_8_method_3_code 45 = .ok (.aload_n 0, 1) := id_Tally_begin_1 (45, .aload_n 0, 1) (List.mem_of_getElem? (i := 3) rfl)
theorem d_Tally_begin_46 : decode prog_8_method_3_code 46 = .ok (.iconst 0, 1) := id_Tally_begin_1 (46, .iconst 0, 1) (List.mem_of_getElem? (i := 4) rfl)
theorem d_Tally_begin_47 : decode prog_8_method_3_code 47 = .ok (.putfield 39, 3) := id_Tally_begin_1 (47, .putfield 39, 3) (List.mem_of_getElem? (i := 5) rfl)
theorem d_Tally_begin_50 : decode prog_8_method_3_code 50 = .ok (.aload_n 0, 1) := id_Tally_begin_1 (50, .aload_n 0, 1) (List.mem_of_getElem? (i := 6) rfl)
theorem d_Tally_begin_51 : decode prog_8_method_3_code 51 = .ok (.iconst 0, 1) := id_Tally_begin_1 (51, .iconst 0, 1) (List.mem_of_getElem? (i := 7) rfl)
theorem d_Tally_begin_52 : decode prog_8_method_3_code 52 = .ok (.putfield 42, 3) := id_Tally_begin_1 (52, .putfield 42, 3) (List.mem_of_getElem? (i := 8) rfl)
theorem d_Tally_begin_55 : decode prog_8_method_3_code 55 = .ok (.aload_n 0, 1) := id_Tally_begin_1 (55, .aload_n 0, 1) (List.mem_of_getElem? (i := 9) rfl)
theorem d_Tally_begin_56 : decode prog_8_method_3_code 56 = .ok (.iconst 0, 1) := id_Tally_begin_1 (56, .iconst 0, 1) (List.mem_of_getElem? (i := 10) rfl)
theorem d_Tally_begin_57 : decode prog_8_method_3_code 57 = .ok (.putfield 45, 3) := id_Tally_begin_1 (57, .putfield 45, 3) (List.mem_of_getElem? (i := 11) rfl)
theorem d_Tally_begin_60 : decode prog_8_method_3_code 60 = .ok (.aload_n 0, 1) := id_Tally_begin_1 (60, .aload_n 0, 1) (List.mem_of_getElem? (i := 12) rfl)
theorem d_Tally_begin_61 : decode prog_8_method_3_code 61 = .ok (.iconst 0, 1) := id_Tally_begin_1 (61, .iconst 0, 1) (List.mem_of_getElem? (i := 13) rfl)
theorem d_Tally_begin_62 : decode prog_8_method_3_code 62 = .ok (.putfield 48, 3) := id_Tally_begin_1 (62, .putfield 48, 3) (List.mem_of_getElem? (i := 14) rfl)
theorem d_Tally_begin_65 : decode prog_8_method_3_code 65 = .ok (.return_, 1) := id_Tally_begin_1 (65, .return_, 1) (List.mem_of_getElem? (i := 15) rfl)
theorem wC_Tally_begin : Cond.code ⟨"WarpMill$Tally", "begin", "(III)V"⟩ prog_8_method_3_code 4 (none) ∈ lw_tb := mem_tb 441 (by decide +kernel) rfl
def f_Tally_begin (F : Nat) (x0 : Nat) (x1 : Int32) (x2 : Int32) (x3 : Int32) (h : Hp) : Option Hp := gd (hK h x0 = 6) <| pw (sI h 320 x0 x1) fun h_2_2 => pw (sI h_2_2 321 x0 x2) fun h_7 => pw (sI h_7 322 x0 x3) fun h_12 => pw (sI h_12 323 x0 (0 : Int32)) fun h_17 => pw (sI h_17 324 x0 (0 : Int32)) fun h_22 => pw (sI h_22 325 x0 (0 : Int32)) fun h_27 => pw (sI h_27 327 x0 (0 : Int32)) fun h_32 => pw (sI h_32 328 x0 (0 : Int32)) fun h_37 => pw (sI h_37 329 x0 (0 : Int32)) fun h_42 => pw (sI h_42 330 x0 (0 : Int32)) fun h_47 => pw (sI h_47 331 x0 (0 : Int32)) fun h_52 => pw (sI h_52 332 x0 (0 : Int32)) fun h_57 => pw (sI h_57 333 x0 (0 : Int32)) fun h_62 => some h_62
set_option maxRecDepth 100000 in
set_option maxHeartbeats 4000000 in
theorem e_Tally_begin {G : Gl} (hw : gF G) {F : Nat} {h' : Hp} {x0 : Nat} {x1 : Int32} {x2 : Int32} {x3 : Int32} {h : Hp} (hf : f_Tally_begin F x0 x1 x2 x3 h = some h') : Ex G mi_Tally_begin [.ref x0, .int x1, .int x2, .int x3] h (pV h') := by
  unfold f_Tally_begin at hf
  refine Ex.of nmV (by decide) (Nat.le_of_ble_eq_true rfl) ?_
  show Go G mi_Tally_begin h _ h 0 [(0, .ref x0), (1, .int x1), (2, .int x2), (3, .int x3)] []
  refine g_aload_n d_Tally_begin_0 rfl ?_
  refine g_iload_n d_Tally_begin_1 rfl ?_
  obtain ⟨k_2, hf⟩ := gd_s hf
  refine fp_Tally_status hw lf_Tally_9 d_Tally_begin_2 k_2 ?_
  have hf := pw_b hf
  refine g_aload_n d_Tally_begin_5 rfl ?_
  refine g_iload_n d_Tally_begin_6 rfl ?_
  refine fp_Tally_blocks hw lf_Tally_15 d_Tally_begin_7 (kksI k_2) ?_
  have hf := pw_b hf
  refine g_aload_n d_Tally_begin_10 rfl ?_
  refine g_iload_n d_Tally_begin_11 rfl ?_
  refine fp_Tally_threads hw lf_Tally_18 d_Tally_begin_12 (kksI (kksI k_2)) ?_
  have hf := pw_b hf
  refine g_aload_n d_Tally_begin_15 rfl ?_
  refine g_iconst 0 d_Tally_begin_16 (by decide) ?_
  refine fp_Tally_dispatched hw lf_Tally_21 d_Tally_begin_17 (kksI (kksI (kksI k_2))) ?_
  have hf := pw_b hf
  refine g_aload_n d_Tally_begin_20 rfl ?_
  refine g_iconst 0 d_Tally_begin_21 (by decide) ?_
  refine fp_Tally_ended hw lf_Tally_24 d_Tally_begin_22 (kksI (kksI (kksI (kksI k_2)))) ?_
  have hf := pw_b hf
  refine g_aload_n d_Tally_begin_25 rfl ?_
  refine g_iconst 0 d_Tally_begin_26 (by decide) ?_
  refine fp_Tally_cycles hw lf_Tally_27 d_Tally_begin_27 (kksI (kksI (kksI (kksI (kksI k_2))))) ?_
  have hf := pw_b hf
  refine g_aload_n d_Tally_begin_30 rfl ?_
  refine g_iconst 0 d_Tally_begin_31 (by decide) ?_
  refine fp_Tally_went hw lf_Tally_30 d_Tally_begin_32 (kksI (kksI (kksI (kksI (kksI (kksI k_2)))))) ?_
  have hf := pw_b hf
  refine g_aload_n d_Tally_begin_35 rfl ?_
  refine g_iconst 0 d_Tally_begin_36 (by decide) ?_
  refine fp_Tally_did hw lf_Tally_33 d_Tally_begin_37 (kksI (kksI (kksI (kksI (kksI (kksI (kksI k_2))))))) ?_
  have hf := pw_b hf
  refine g_aload_n d_Tally_begin_40 rfl ?_
  refine g_iconst 0 d_Tally_begin_41 (by decide) ?_
  refine fp_Tally_partly hw lf_Tally_36 d_Tally_begin_42 (kksI (kksI (kksI (kksI (kksI (kksI (kksI (kksI k_2)))))))) ?_
  have hf := pw_b hf
  refine g_aload_n d_Tally_begin_45 rfl ?_
  refine g_iconst 0 d_Tally_begin_46 (by decide) ?_
  refine fp_Tally_why hw lf_Tally_39 d_Tally_begin_47 (kksI (kksI (kksI (kksI (kksI (kksI (kksI (kksI (kksI k_2))))))))) ?_
  have hf := pw_b hf
  refine g_aload_n d_Tally_begin_50 rfl ?_
  refine g_iconst 0 d_Tally_begin_51 (by decide) ?_
  refine fp_Tally_trapBlock hw lf_Tally_42 d_Tally_begin_52 (kksI (kksI (kksI (kksI (kksI (kksI (kksI (kksI (kksI (kksI k_2)))))))))) ?_
  have hf := pw_b hf
  refine g_aload_n d_Tally_begin_55 rfl ?_
  refine g_iconst 0 d_Tally_begin_56 (by decide) ?_
  refine fp_Tally_trapThread hw lf_Tally_45 d_Tally_begin_57 (kksI (kksI (kksI (kksI (kksI (kksI (kksI (kksI (kksI (kksI (kksI k_2))))))))))) ?_
  have hf := pw_b hf
  refine g_aload_n d_Tally_begin_60 rfl ?_
  refine g_iconst 0 d_Tally_begin_61 (by decide) ?_
  refine fp_Tally_trapPlace hw lf_Tally_48 d_Tally_begin_62 (kksI (kksI (kksI (kksI (kksI (kksI (kksI (kksI (kksI (kksI (kksI (kksI k_2)))))))))))) ?_
  have hf := pw_b hf
  exact Go.ret none trivial rfl d_Tally_begin_65 (pV_of hf)
abbrev mi_Unit_busy : MI := (⟨"WarpMill$Unit", "busy", "(I)LWarpMill$Warp;"⟩, prog_9_method_3_code, 3, some (.object "WarpMill$Warp"), 0, 0)
def it_Unit_busy_0 : List (Nat × ClassFile.Instr × Nat) := [(0, .iload_n 1, 1), (1, .ifCond .lt (20), 3), (4, .iload_n 1, 1), (5, .aload_n 0, 1), (6, .getfield 21, 3), (9, .if_icmp .ge (12), 3), (12, .iload_n 1, 1), (13, .aload_n 0, 1), (14, .getfield 11, 3), (17, .arraylength, 1), (18, .if_icmp .lt (5), 3), (21, .aconst_null, 1), (22, .areturn, 1), (23, .aload_n 0, 1), (24, .getfield 11, 3), (27, .iload_n 1, 1), (28, .aaload, 1), (29, .astore_n 2, 1), (30, .aload_n 2, 1), (31, .ifnull (14), 3), (34, .aload_n 2, 1), (35, .getfield 40, 3), (38, .ifnull (7), 3), (41, .aload_n 2, 1)]
theorem id_Unit_busy_0 : ∀ q ∈ it_Unit_busy_0, decode prog_9_method_3_code q.1 = .ok q.2 := by decide +kernel
theorem d_Unit_busy_0 : decode prog_9_method_3_code 0 = .ok (.iload_n 1, 1) := id_Unit_busy_0 (0, .iload_n 1, 1) (List.mem_of_getElem? (i := 0) rfl)
theorem d_Unit_busy_1 : decode prog_9_method_3_code 1 = .ok (.ifCond .lt (20), 3) := id_Unit_busy_0 (1, .ifCond .lt (20), 3) (List.mem_of_getElem? (i := 1) rfl)
theorem d_Unit_busy_4 : decode prog_9_method_3_code 4 = .ok (.iload_n 1, 1) := id_Unit_busy_0 (4, .iload_n 1, 1) (List.mem_of_getElem? (i := 2) rfl)
theorem d_Unit_busy_5 : decode prog_9_method_3_code 5 = .ok (.aload_n 0, 1) := id_Unit_busy_0 (5, .aload_n 0, 1) (List.mem_of_getElem? (i := 3) rfl)
theorem d_Unit_busy_6 : decode prog_9_method_3_code 6 = .ok (.getfield 21, 3) := id_Unit_busy_0 (6, .getfield 21, 3) (List.mem_of_getElem? (i := 4) rfl)
theorem d_Unit_busy_9 : decode prog_9_method_3_code 9 = .ok (.if_icmp .ge (12), 3) := id_Unit_busy_0 (9, .if_icmp .ge (12), 3) (List.mem_of_getElem? (i := 5) rfl)
theorem d_Unit_busy_12 : decode prog_9_method_3_code 12 = .ok (.iload_n 1, 1) := id_Unit_busy_0 (12, .iload_n 1, 1) (List.mem_of_getElem? (i := 6) rfl)
theorem d_Unit_busy_13 : decode prog_9_method_3_code 13 = .ok (.aload_n 0, 1) := id_Unit_busy_0 (13, .aload_n 0, 1) (List.mem_of_getElem? (i := 7) rfl)
theorem d_Unit_busy_14 : decode prog_9_method_3_code 14 = .ok (.getfield 11, 3) := id_Unit_busy_0 (14, .getfield 11, 3) (List.mem_of_getElem? (i := 8) rfl)
theorem d_Unit_busy_17 : decode prog_9_method_3_code 17 = .ok (.arraylength, 1) := id_Unit_busy_0 (17, .arraylength, 1) (List.mem_of_getElem? (i := 9) rfl)
theorem d_Unit_busy_18 : decode prog_9_method_3_code 18 = .ok (.if_icmp .lt (5), 3) := id_Unit_busy_0 (18, .if_icmp .lt (5), 3) (List.mem_of_getElem? (i := 10) rfl)
theorem d_Unit_busy_21 : decode prog_9_method_3_code 21 = .ok (.aconst_null, 1) := id_Unit_busy_0 (21, .aconst_null, 1) (List.mem_of_getElem? (i := 11) rfl)
theorem d_Unit_busy_22 : decode prog_9_method_3_code 22 = .ok (.areturn, 1) := id_Unit_busy_0 (22, .areturn, 1) (List.mem_of_getElem? (i := 12) rfl)
theorem d_Unit_busy_23 : decode prog_9_method_3_code 23 = .ok (.aload_n 0, 1) := id_Unit_busy_0 (23, .aload_n 0, 1) (List.mem_of_getElem? (i := 13) rfl)
theorem d_Unit_busy_24 : decode prog_9_method_3_code 24 = .ok (.getfield 11, 3) := id_Unit_busy_0 (24, .getfield 11, 3) (List.mem_of_getElem? (i := 14) rfl)
theorem d_Unit_busy_27 : decode prog_9_method_3_code 27 = .ok (.iload_n 1, 1) := id_Unit_busy_0 (27, .iload_n 1, 1) (List.mem_of_getElem? (i := 15) rfl)
theorem d_Unit_busy_28 : decode prog_9_method_3_code 28 = .ok (.aaload, 1) := id_Unit_busy_0 (28, .aaload, 1) (List.mem_of_getElem? (i := 16) rfl)
theorem d_Unit_busy_29 : decode prog_9_method_3_code 29 = .ok (.astore_n 2, 1) := id_Unit_busy_0 (29, .astore_n 2, 1) (List.mem_of_getElem? (i := 17) rfl)
theorem d_Unit_busy_30 : decode prog_9_method_3_code 30 = .ok (.aload_n 2, 1) := id_Unit_busy_0 (30, .aload_n 2, 1) (List.mem_of_getElem? (i := 18) rfl)
theorem d_Unit_busy_31 : decode prog_9_method_3_code 31 = .ok (.ifnull (14), 3) := id_Unit_busy_0 (31, .ifnull (14), 3) (List.mem_of_getElem? (i := 19) rfl)
theorem d_Unit_busy_34 : decode prog_9_method_3_code 34 = .ok (.aload_n 2, 1) := id_Unit_busy_0 (34, .aload_n 2, 1) (List.mem_of_getElem? (i := 20) rfl)
theorem d_Unit_busy_35 : decode prog_9_method_3_code 35 = .ok (.getfield 40, 3) := id_Unit_busy_0 (35, .getfield 40, 3) (List.mem_of_getElem? (i := 21) rfl)
theorem d_Unit_busy_38 : decode prog_9_method_3_code 38 = .ok (.ifnull (7), 3) := id_Unit_busy_0 (38, .ifnull (7), 3) (List.mem_of_getElem? (i := 22) rfl)
theorem d_Unit_busy_41 : decode prog_9_method_3_code 41 = .ok (.aload_n 2, 1) := id_Unit_busy_0 (41, .aload_n 2, 1) (List.mem_of_getElem? (i := 23) rfl)
def it_Unit_busy_1 : List (Nat × ClassFile.Instr × Nat) := [(42, .goto (4), 3), (45, .aconst_null, 1), (46, .areturn, 1)]
theorem id_Unit_busy_1 : ∀ q ∈ it_Unit_busy_1, decode prog_9_method_3_code q.1 = .ok q.2 := by decide +kernel
theorem d_Unit_busy_42 : decode prog_9_method_3_code 42 = .ok (.goto (4), 3) := id_Unit_busy_1 (42, .goto (4), 3) (List.mem_of_getElem? (i := 0) rfl)
theorem d_Unit_busy_45 : decode prog_9_method_3_code 45 = .ok (.aconst_null, 1) := id_Unit_busy_1 (45, .aconst_null, 1) (List.mem_of_getElem? (i := 1) rfl)
theorem d_Unit_busy_46 : decode prog_9_method_3_code 46 = .ok (.areturn, 1) := id_Unit_busy_1 (46, .areturn, 1) (List.mem_of_getElem? (i := 2) rfl)
theorem wC_Unit_busy : Cond.code ⟨"WarpMill$Unit", "busy", "(I)LWarpMill$Warp;"⟩ prog_9_method_3_code 3 (some (.object "WarpMill$Warp")) ∈ lw_tb := mem_tb 457 (by decide +kernel) rfl
def f_Unit_busy (F : Nat) (x0 : Nat) (x1 : Int32) (h : Hp) : Option (Option Nat × Hp) := if x1 < 0 then (some (none, h)) else (gd (hK h x0 = 7) <| if (hI h 386 x0) ≤ x1 then (some (none, h)) else (rq h (hR h 384 x0) 123 fun a_14 => if x1 < (nI (hN h a_14)) then (ix x1 (hN h a_14) fun j_28 => pw (hQ h a_14 j_28) fun o_28_2 => nu o_28_2 (some (none, h)) fun a_31 => (gd (hK h a_31 = 9) <| pw (hR h 512 a_31) fun o_35_2 => nu o_35_2 (some (none, h)) fun a_38 => (some ((some a_31), h)))) else (some (none, h))))
set_option maxRecDepth 100000 in
set_option maxHeartbeats 4000000 in
theorem e_Unit_busy {G : Gl} {F : Nat} {r : Option Nat} {h' : Hp} {x0 : Nat} {x1 : Int32} {h : Hp} (hf : f_Unit_busy F x0 x1 h = some (r, h')) : Ex G mi_Unit_busy [.ref x0, .int x1] h (pR r h') := by
  unfold f_Unit_busy at hf
  refine Ex.of nmR (by decide) (Nat.le_of_ble_eq_true rfl) ?_
  show Go G mi_Unit_busy h _ h 0 [(0, .ref x0), (1, .int x1)] []
  refine g_iload_n d_Unit_busy_0 rfl ?_
  refine g_if_lt 21 d_Unit_busy_1 (by decide) (fun c_1 => ?_) (fun c_1 => ?_)
  · have hf := ifp hf c_1
    refine g_null d_Unit_busy_21 ?_
    exact Go.ret (some .null) rOk_n rfl d_Unit_busy_22 (pR_of hf)
  · have hf := ifn hf c_1
    refine g_iload_n d_Unit_busy_4 rfl ?_
    refine g_aload_n d_Unit_busy_5 rfl ?_
    obtain ⟨k_6, hf⟩ := gd_s hf
    refine fg_Unit_slots lf_Unit_21 d_Unit_busy_6 k_6 ?_
    refine g_icmp_ge 21 d_Unit_busy_9 (by decide) (fun c_9 => ?_) (fun c_9 => ?_)
    · have hf := ifp hf c_9
      refine g_null d_Unit_busy_21 ?_
      exact Go.ret (some .null) rOk_n rfl d_Unit_busy_22 (pR_of hf)
    · have hf := ifn hf c_9
      refine g_iload_n d_Unit_busy_12 rfl ?_
      refine g_aload_n d_Unit_busy_13 rfl ?_
      obtain ⟨a_14, e_14, k_14, hf⟩ := rq_s hf
      refine fgs_Unit_warps lf_Unit_11 d_Unit_busy_14 k_6 e_14 ?_
      refine g_alen k_14 (by decide) rfl d_Unit_busy_17 ?_
      refine g_icmp_lt 23 d_Unit_busy_18 (by decide) (fun c_18 => ?_) (fun c_18 => ?_)
      · have hf := ifp hf c_18
        refine g_aload_n d_Unit_busy_23 rfl ?_
        refine fgs_Unit_warps lf_Unit_11 d_Unit_busy_24 k_6 e_14 ?_
        refine g_iload_n d_Unit_busy_27 rfl ?_
        obtain ⟨i_28, hf⟩ := ix_s hf
        refine g_aald k_14 (by decide) rfl rfl i_28 d_Unit_busy_28 ?_
        obtain ⟨o_28_2, e_28_2, hf⟩ := pw_s hf
        refine Go.vr e_28_2 ?_
        refine g_astore_nq (r := o_28_2) d_Unit_busy_29 (by decide) ?_
        show Go _ _ _ _ _ _ [(0, _), (1, _), (2, _)] _
        refine g_aload_nq (r := o_28_2) d_Unit_busy_30 rfl ?_
        refine g_ifnull (r := o_28_2) 45 d_Unit_busy_31 (by decide) (fun c_31 => ?_) (fun a_31 c_31 => ?_)
        · subst c_31
          have hf := nu_n hf
          refine g_null d_Unit_busy_45 ?_
          exact Go.ret (some .null) rOk_n rfl d_Unit_busy_46 (pR_of hf)
        · subst c_31
          have hf := nu_s hf
          refine g_aload_n d_Unit_busy_34 rfl ?_
          obtain ⟨k_35, hf⟩ := gd_s hf
          obtain ⟨o_35_2, e_35_2, hf⟩ := pw_s hf
          refine fg_Warp_block lf_Unit_40 d_Unit_busy_35 k_35 ?_
          refine Go.vr e_35_2 ?_
          refine g_ifnull (r := o_35_2) 45 d_Unit_busy_38 (by decide) (fun c_38 => ?_) (fun a_38 c_38 => ?_)
          · subst c_38
            have hf := nu_n hf
            refine g_null d_Unit_busy_45 ?_
            exact Go.ret (some .null) rOk_n rfl d_Unit_busy_46 (pR_of hf)
          · subst c_38
            have hf := nu_s hf
            refine g_aload_n d_Unit_busy_41 rfl ?_
            refine g_goto 46 d_Unit_busy_42 (by decide) ?_
            exact Go.ret (some (.ref _)) (rOk_r _) rfl d_Unit_busy_46 (pR_of hf)
      · have hf := ifn hf c_18
        refine g_null d_Unit_busy_21 ?_
        exact Go.ret (some .null) rOk_n rfl d_Unit_busy_22 (pR_of hf)
abbrev mi_Unit_free : MI := (⟨"WarpMill$Unit", "free", "(LWarpMill$Block;)V"⟩, prog_9_method_5_code, 4, none, 1, 22)
def it_Unit_free_0 : List (Nat × ClassFile.Instr × Nat) := [(0, .iconst 0, 1), (1, .istore_n 2, 1), (2, .iload_n 2, 1), (3, .aload_n 0, 1), (4, .getfield 21, 3), (7, .if_icmp .ge (42), 3), (10, .aload_n 0, 1), (11, .iload_n 2, 1), (12, .invokevirtual 44, 3), (15, .astore_n 3, 1), (16, .aload_n 3, 1), (17, .ifnull (26), 3), (20, .aload_n 3, 1), (21, .getfield 40, 3), (24, .aload_n 1, 1), (25, .if_acmp .ne (18), 3), (28, .aload_n 3, 1), (29, .aconst_null, 1), (30, .putfield 40, 3), (33, .aload_n 0, 1), (34, .dup, 1), (35, .getfield 25, 3), (38, .iconst 1, 1), (39, .iadd, 1)]
theorem id_Unit_free_0 : ∀ q ∈ it_Unit_free_0, decode prog_9_method_5_code q.1 = .ok q.2 := by decide +kernel
theorem d_Unit_free_0 : decode prog_9_method_5_code 0 = .ok (.iconst 0, 1) := id_Unit_free_0 (0, .iconst 0, 1) (List.mem_of_getElem? (i := 0) rfl)
theorem d_Unit_free_1 : decode prog_9_method_5_code 1 = .ok (.istore_n 2, 1) := id_Unit_free_0 (1, .istore_n 2, 1) (List.mem_of_getElem? (i := 1) rfl)
theorem d_Unit_free_2 : decode prog_9_method_5_code 2 = .ok (.iload_n 2, 1) := id_Unit_free_0 (2, .iload_n 2, 1) (List.mem_of_getElem? (i := 2) rfl)
theorem d_Unit_free_3 : decode prog_9_method_5_code 3 = .ok (.aload_n 0, 1) := id_Unit_free_0 (3, .aload_n 0, 1) (List.mem_of_getElem? (i := 3) rfl)
theorem d_Unit_free_4 : decode prog_9_method_5_code 4 = .ok (.getfield 21, 3) := id_Unit_free_0 (4, .getfield 21, 3) (List.mem_of_getElem? (i := 4) rfl)
theorem d_Unit_free_7 : decode prog_9_method_5_code 7 = .ok (.if_icmp .ge (42), 3) := id_Unit_free_0 (7, .if_icmp .ge (42), 3) (List.mem_of_getElem? (i := 5) rfl)
theorem d_Unit_free_10 : decode prog_9_method_5_code 10 = .ok (.aload_n 0, 1) := id_Unit_free_0 (10, .aload_n 0, 1) (List.mem_of_getElem? (i := 6) rfl)
theorem d_Unit_free_11 : decode prog_9_method_5_code 11 = .ok (.iload_n 2, 1) := id_Unit_free_0 (11, .iload_n 2, 1) (List.mem_of_getElem? (i := 7) rfl)
theorem d_Unit_free_12 : decode prog_9_method_5_code 12 = .ok (.invokevirtual 44, 3) := id_Unit_free_0 (12, .invokevirtual 44, 3) (List.mem_of_getElem? (i := 8) rfl)
theorem d_Unit_free_15 : decode prog_9_method_5_code 15 = .ok (.astore_n 3, 1) := id_Unit_free_0 (15, .astore_n 3, 1) (List.mem_of_getElem? (i := 9) rfl)
theorem d_Unit_free_16 : decode prog_9_method_5_code 16 = .ok (.aload_n 3, 1) := id_Unit_free_0 (16, .aload_n 3, 1) (List.mem_of_getElem? (i := 10) rfl)
theorem d_Unit_free_17 : decode prog_9_method_5_code 17 = .ok (.ifnull (26), 3) := id_Unit_free_0 (17, .ifnull (26), 3) (List.mem_of_getElem? (i := 11) rfl)
theorem d_Unit_free_20 : decode prog_9_method_5_code 20 = .ok (.aload_n 3, 1) := id_Unit_free_0 (20, .aload_n 3, 1) (List.mem_of_getElem? (i := 12) rfl)
theorem d_Unit_free_21 : decode prog_9_method_5_code 21 = .ok (.getfield 40, 3) := id_Unit_free_0 (21, .getfield 40, 3) (List.mem_of_getElem? (i := 13) rfl)
theorem d_Unit_free_24 : decode prog_9_method_5_code 24 = .ok (.aload_n 1, 1) := id_Unit_free_0 (24, .aload_n 1, 1) (List.mem_of_getElem? (i := 14) rfl)
theorem d_Unit_free_25 : decode prog_9_method_5_code 25 = .ok (.if_acmp .ne (18), 3) := id_Unit_free_0 (25, .if_acmp .ne (18), 3) (List.mem_of_getElem? (i := 15) rfl)
theorem d_Unit_free_28 : decode prog_9_method_5_code 28 = .ok (.aload_n 3, 1) := id_Unit_free_0 (28, .aload_n 3, 1) (List.mem_of_getElem? (i := 16) rfl)
theorem d_Unit_free_29 : decode prog_9_method_5_code 29 = .ok (.aconst_null, 1) := id_Unit_free_0 (29, .aconst_null, 1) (List.mem_of_getElem? (i := 17) rfl)
theorem d_Unit_free_30 : decode prog_9_method_5_code 30 = .ok (.putfield 40, 3) := id_Unit_free_0 (30, .putfield 40, 3) (List.mem_of_getElem? (i := 18) rfl)
theorem d_Unit_free_33 : decode prog_9_method_5_code 33 = .ok (.aload_n 0, 1) := id_Unit_free_0 (33, .aload_n 0, 1) (List.mem_of_getElem? (i := 19) rfl)
theorem d_Unit_free_34 : decode prog_9_method_5_code 34 = .ok (.dup, 1) := id_Unit_free_0 (34, .dup, 1) (List.mem_of_getElem? (i := 20) rfl)
theorem d_Unit_free_35 : decode prog_9_method_5_code 35 = .ok (.getfield 25, 3) := id_Unit_free_0 (35, .getfield 25, 3) (List.mem_of_getElem? (i := 21) rfl)
theorem d_Unit_free_38 : decode prog_9_method_5_code 38 = .ok (.iconst 1, 1) := id_Unit_free_0 (38, .iconst 1, 1) (List.mem_of_getElem? (i := 22) rfl)
theorem d_Unit_free_39 : decode prog_9_method_5_code 39 = .ok (.iadd, 1) := id_Unit_free_0 (39, .iadd, 1) (List.mem_of_getElem? (i := 23) rfl)
def it_Unit_free_1 : List (Nat × ClassFile.Instr × Nat) := [(40, .putfield 25, 3), (43, .iinc 2 (1), 3), (46, .goto (-44), 3), (49, .aload_n 1, 1), (50, .aconst_null, 1), (51, .putfield 59, 3), (54, .return_, 1)]
theorem id_Unit_free_1 : ∀ q ∈ it_Unit_free_1, decode prog_9_method_5_code q.1 = .ok q.2 := by decide +kernel
theorem d_Unit_free_40 : decode prog_9_method_5_code 40 = .ok (.putfield 25, 3) := id_Unit_free_1 (40, .putfield 25, 3) (List.mem_of_getElem? (i := 0) rfl)
theorem d_Unit_free_43 : decode prog_9_method_5_code 43 = .ok (.iinc 2 (1), 3) := id_Unit_free_1 (43, .iinc 2 (1), 3) (List.mem_of_getElem? (i := 1) rfl)
theorem d_Unit_free_46 : decode prog_9_method_5_code 46 = .ok (.goto (-44), 3) := id_Unit_free_1 (46, .goto (-44), 3) (List.mem_of_getElem? (i := 2) rfl)
theorem d_Unit_free_49 : decode prog_9_method_5_code 49 = .ok (.aload_n 1, 1) := id_Unit_free_1 (49, .aload_n 1, 1) (List.mem_of_getElem? (i := 3) rfl)
theorem d_Unit_free_50 : decode prog_9_method_5_code 50 = .ok (.aconst_null, 1) := id_Unit_free_1 (50, .aconst_null, 1) (List.mem_of_getElem? (i := 4) rfl)
theorem d_Unit_free_51 : decode prog_9_method_5_code 51 = .ok (.putfield 59, 3) := id_Unit_free_1 (51, .putfield 59, 3) (List.mem_of_getElem? (i := 5) rfl)
theorem d_Unit_free_54 : decode prog_9_method_5_code 54 = .ok (.return_, 1) := id_Unit_free_1 (54, .return_, 1) (List.mem_of_getElem? (i := 6) rfl)
theorem wC_Unit_free : Cond.code ⟨"WarpMill$Unit", "free", "(LWarpMill$Block;)V"⟩ prog_9_method_5_code 4 (none) ∈ lw_tb := mem_tb 453 (by decide +kernel) rfl
theorem cw_Unit_free_Unit_busy : cW mi_Unit_free mi_Unit_busy 1 := ⟨wC_Unit_busy, wi_Unit, ⟨by decide, by decide, by decide +kernel⟩, by decide, by decide⟩
def b_Unit_free_2 (F : Nat) : Nat → Nat → Option Nat → Int32 → Hp → Option Hp
  | 0 => fun _ _ _ _ => none
  | n + 1 => fun x0 x1 x2 h => gd (hK h x0 = 7) <| if (hI h 386 x0) ≤ x2 then (rq h x1 8 fun a_51 => pw (sR h 450 a_51 none) fun h_51_2 => some h_51_2) else (cl (f_Unit_busy F x0 x2 h) fun o_12 h_12 => nu o_12 (b_Unit_free_2 F n x0 x1 (x2 + 1) h_12) fun a_17 => (gd (hK h_12 a_17 = 9) <| pw (hR h_12 512 a_17) fun o_21_2 => if o_21_2 = x1 then (pw (sR h_12 512 a_17 none) fun h_30 => gd (hK h_30 x0 = 7) <| pw (sI h_30 387 x0 ((hI h_30 387 x0) + (1 : Int32))) fun h_40 => b_Unit_free_2 F n x0 x1 (x2 + 1) h_40) else (b_Unit_free_2 F n x0 x1 (x2 + 1) h_12)))
set_option maxRecDepth 100000 in
set_option maxHeartbeats 4000000 in
theorem e_Unit_free_2 {G : Gl} (hw : gF G) {h0 : Hp} {F : Nat} {h' : Hp}   : ∀ (n : Nat) (x0 : Nat) (x1 : Option Nat) (x2 : Int32) (h : Hp), b_Unit_free_2 F n x0 x1 x2 h = some h' → Go G mi_Unit_free h0 (pV h') h 2 [(0, .ref x0), (1, va_rf x1), (2, .int x2)] [] := by
  intro n
  induction n with
  | zero =>
    intro _ _ _ _ hf
    exact nm_s hf
  | succ n ih =>
    intro x0 x1 x2 h hf
    unfold b_Unit_free_2 at hf
    refine g_iload_n d_Unit_free_2 rfl ?_
    refine g_aload_n d_Unit_free_3 rfl ?_
    obtain ⟨k_4, hf⟩ := gd_s hf
    refine fg_Unit_slots lf_Unit_21 d_Unit_free_4 k_4 ?_
    refine g_icmp_ge 49 d_Unit_free_7 (by decide) (fun c_7 => ?_) (fun c_7 => ?_)
    · have hf := ifp hf c_7
      refine g_aload_nq (r := x1) d_Unit_free_49 rfl ?_
      refine g_null d_Unit_free_50 ?_
      obtain ⟨a_51, rfl, k_51, hf⟩ := rq_s hf
      refine fp_Block_unit hw none rfl lf_Unit_59 d_Unit_free_51 k_51 ?_
      have hf := pw_b hf
      exact Go.ret none trivial rfl d_Unit_free_54 (pV_of hf)
    · have hf := ifn hf c_7
      refine g_aload_n d_Unit_free_10 rfl ?_
      refine g_iload_n d_Unit_free_11 rfl ?_
      obtain ⟨o_12, h_12, e_12, hf⟩ := cl_s hf
      refine g_callV (mz := mi_Unit_busy) (e_Unit_busy e_12) cw_Unit_free_Unit_busy lm_Unit_44 wI_Unit_busy wV_Unit_busy (ci := 6) k_4 (by decide) rfl rfl d_Unit_free_12 rfl rfl (by first | exact Nat.le_of_ble_eq_true rfl | simp [cat_rf, Value.category]) (fun r1 h1 hp hro => ?_)
      obtain ⟨rfl, rfl⟩ := hp
      dsimp only [Option.toList_some, Option.toList_none, List.cons_append, List.nil_append]
      refine g_astore_nq (r := o_12) d_Unit_free_15 (by decide) ?_
      show Go _ _ _ _ _ _ [(0, _), (1, _), (2, _), (3, _)] _
      refine g_aload_nq (r := o_12) d_Unit_free_16 rfl ?_
      refine g_ifnull (r := o_12) 43 d_Unit_free_17 (by decide) (fun c_17 => ?_) (fun a_17 c_17 => ?_)
      · subst c_17
        have hf := nu_n hf
        refine g_iinc (_ + 1) d_Unit_free_43 rfl (by rfl) (by decide) ?_
        simp only [lset1, lset2, List.filter_cons, cat_rf]
        show Go _ _ _ _ _ _ [(0, _), (1, _), (2, _), (3, _)] _
        refine g_goto 2 d_Unit_free_46 (by decide) ?_
        refine Go.locals [0, 1, 2] rfl ?_
        exact ih _ _ _ _ hf
      · subst c_17
        have hf := nu_s hf
        refine g_aload_n d_Unit_free_20 rfl ?_
        obtain ⟨k_21, hf⟩ := gd_s hf
        obtain ⟨o_21_2, e_21_2, hf⟩ := pw_s hf
        refine fg_Warp_block lf_Unit_40 d_Unit_free_21 k_21 ?_
        refine Go.vr e_21_2 ?_
        refine g_aload_nq (r := x1) d_Unit_free_24 rfl ?_
        refine g_acmp_ne (rx := o_21_2) (ry := x1) 43 d_Unit_free_25 (by decide) (fun c_25 => ?_) (fun c_25 => ?_)
        · have hf := ifn hf c_25
          refine g_iinc (_ + 1) d_Unit_free_43 rfl (by rfl) (by decide) ?_
          simp only [lset1, lset2, List.filter_cons, cat_rf]
          show Go _ _ _ _ _ _ [(0, _), (1, _), (2, _), (3, _)] _
          refine g_goto 2 d_Unit_free_46 (by decide) ?_
          refine Go.locals [0, 1, 2] rfl ?_
          exact ih _ _ _ _ hf
        · have hf := ifp hf c_25
          refine g_aload_n d_Unit_free_28 rfl ?_
          refine g_null d_Unit_free_29 ?_
          refine fp_Warp_block hw none rfl lf_Unit_40 d_Unit_free_30 k_21 ?_
          have hf := pw_b hf
          refine g_aload_n d_Unit_free_33 rfl ?_
          refine g_dup (by first | rfl | exact cat_rf _) d_Unit_free_34 ?_
          obtain ⟨k_35, hf⟩ := gd_s hf
          refine fg_Unit_free lf_Unit_25 d_Unit_free_35 k_35 ?_
          refine g_iconst 1 d_Unit_free_38 (by decide) ?_
          refine g_iadd d_Unit_free_39 ?_
          refine fp_Unit_free hw lf_Unit_25 d_Unit_free_40 k_35 ?_
          have hf := pw_b hf
          refine g_iinc (_ + 1) d_Unit_free_43 rfl (by rfl) (by decide) ?_
          simp only [lset1, lset2, List.filter_cons, cat_rf]
          show Go _ _ _ _ _ _ [(0, _), (1, _), (2, _), (3, _)] _
          refine g_goto 2 d_Unit_free_46 (by decide) ?_
          refine Go.locals [0, 1, 2] rfl ?_
          exact ih _ _ _ _ hf
def f_Unit_free (F : Nat) (x0 : Nat) (x1 : Option Nat) (h : Hp) : Option Hp := b_Unit_free_2 F F x0 x1 (0 : Int32) h
set_option maxRecDepth 100000 in
set_option maxHeartbeats 4000000 in
theorem e_Unit_free {G : Gl} (hw : gF G) {F : Nat} {h' : Hp} {x0 : Nat} {x1 : Option Nat} {h : Hp} (hf : f_Unit_free F x0 x1 h = some h') : Ex G mi_Unit_free [.ref x0, va_rf x1] h (pV h') := by
  unfold f_Unit_free at hf
  refine Ex.of nmV (by decide) (by cases x1 <;> exact Nat.le_of_ble_eq_true rfl) ?_
  rw [show lv_args 0 [.ref x0, va_rf x1] = [(0, .ref x0), (1, va_rf x1)] from by cases x1 <;> rfl]
  show Go G mi_Unit_free h _ h 0 [(0, .ref x0), (1, va_rf x1)] []
  refine g_iconst 0 d_Unit_free_0 (by decide) ?_
  refine g_istore_n d_Unit_free_1 (by decide) ?_
  simp only [lset1, lset2, List.filter_cons, cat_rf]
  show Go _ _ _ _ _ _ [(0, _), (1, _), (2, _)] _
  have key := e_Unit_free_2 hw (G := G) (h0 := h)  F _ _ _ _ hf
  exact key
abbrev mi_WM_freeAllSlots : MI := (⟨"WarpMill", "freeAllSlots", "()V"⟩, prog_1_method_17_code, 3, none, 2, 45)
def it_WM_freeAllSlots_0 : List (Nat × ClassFile.Instr × Nat) := [(0, .iconst 0, 1), (1, .istore_n 1, 1), (2, .iload_n 1, 1), (3, .aload_n 0, 1), (4, .getfield 44, 3), (7, .arraylength, 1), (8, .if_icmp .ge (35), 3), (11, .aload_n 0, 1), (12, .getfield 44, 3), (15, .iload_n 1, 1), (16, .aaload, 1), (17, .astore_n 2, 1), (18, .aload_n 2, 1), (19, .ifnull (18), 3), (22, .aload_n 2, 1), (23, .getfield 173, 3), (26, .ifnull (11), 3), (29, .aload_n 2, 1), (30, .getfield 173, 3), (33, .aload_n 2, 1), (34, .invokevirtual 186, 3), (37, .iinc 1 (1), 3), (40, .goto (-38), 3), (43, .return_, 1)]
theorem id_WM_freeAllSlots_0 : ∀ q ∈ it_WM_freeAllSlots_0, decode prog_1_method_17_code q.1 = .ok q.2 := by decide +kernel
theorem d_WM_freeAllSlots_0 : decode prog_1_method_17_code 0 = .ok (.iconst 0, 1) := id_WM_freeAllSlots_0 (0, .iconst 0, 1) (List.mem_of_getElem? (i := 0) rfl)
theorem d_WM_freeAllSlots_1 : decode prog_1_method_17_code 1 = .ok (.istore_n 1, 1) := id_WM_freeAllSlots_0 (1, .istore_n 1, 1) (List.mem_of_getElem? (i := 1) rfl)
theorem d_WM_freeAllSlots_2 : decode prog_1_method_17_code 2 = .ok (.iload_n 1, 1) := id_WM_freeAllSlots_0 (2, .iload_n 1, 1) (List.mem_of_getElem? (i := 2) rfl)
theorem d_WM_freeAllSlots_3 : decode prog_1_method_17_code 3 = .ok (.aload_n 0, 1) := id_WM_freeAllSlots_0 (3, .aload_n 0, 1) (List.mem_of_getElem? (i := 3) rfl)
theorem d_WM_freeAllSlots_4 : decode prog_1_method_17_code 4 = .ok (.getfield 44, 3) := id_WM_freeAllSlots_0 (4, .getfield 44, 3) (List.mem_of_getElem? (i := 4) rfl)
theorem d_WM_freeAllSlots_7 : decode prog_1_method_17_code 7 = .ok (.arraylength, 1) := id_WM_freeAllSlots_0 (7, .arraylength, 1) (List.mem_of_getElem? (i := 5) rfl)
theorem d_WM_freeAllSlots_8 : decode prog_1_method_17_code 8 = .ok (.if_icmp .ge (35), 3) := id_WM_freeAllSlots_0 (8, .if_icmp .ge (35), 3) (List.mem_of_getElem? (i := 6) rfl)
theorem d_WM_freeAllSlots_11 : decode prog_1_method_17_code 11 = .ok (.aload_n 0, 1) := id_WM_freeAllSlots_0 (11, .aload_n 0, 1) (List.mem_of_getElem? (i := 7) rfl)
theorem d_WM_freeAllSlots_12 : decode prog_1_method_17_code 12 = .ok (.getfield 44, 3) := id_WM_freeAllSlots_0 (12, .getfield 44, 3) (List.mem_of_getElem? (i := 8) rfl)
theorem d_WM_freeAllSlots_15 : decode prog_1_method_17_code 15 = .ok (.iload_n 1, 1) := id_WM_freeAllSlots_0 (15, .iload_n 1, 1) (List.mem_of_getElem? (i := 9) rfl)
theorem d_WM_freeAllSlots_16 : decode prog_1_method_17_code 16 = .ok (.aaload, 1) := id_WM_freeAllSlots_0 (16, .aaload, 1) (List.mem_of_getElem? (i := 10) rfl)
theorem d_WM_freeAllSlots_17 : decode prog_1_method_17_code 17 = .ok (.astore_n 2, 1) := id_WM_freeAllSlots_0 (17, .astore_n 2, 1) (List.mem_of_getElem? (i := 11) rfl)
theorem d_WM_freeAllSlots_18 : decode prog_1_method_17_code 18 = .ok (.aload_n 2, 1) := id_WM_freeAllSlots_0 (18, .aload_n 2, 1) (List.mem_of_getElem? (i := 12) rfl)
theorem d_WM_freeAllSlots_19 : decode prog_1_method_17_code 19 = .ok (.ifnull (18), 3) := id_WM_freeAllSlots_0 (19, .ifnull (18), 3) (List.mem_of_getElem? (i := 13) rfl)
theorem d_WM_freeAllSlots_22 : decode prog_1_method_17_code 22 = .ok (.aload_n 2, 1) := id_WM_freeAllSlots_0 (22, .aload_n 2, 1) (List.mem_of_getElem? (i := 14) rfl)
theorem d_WM_freeAllSlots_23 : decode prog_1_method_17_code 23 = .ok (.getfield 173, 3) := id_WM_freeAllSlots_0 (23, .getfield 173, 3) (List.mem_of_getElem? (i := 15) rfl)
theorem d_WM_freeAllSlots_26 : decode prog_1_method_17_code 26 = .ok (.ifnull (11), 3) := id_WM_freeAllSlots_0 (26, .ifnull (11), 3) (List.mem_of_getElem? (i := 16) rfl)
theorem d_WM_freeAllSlots_29 : decode prog_1_method_17_code 29 = .ok (.aload_n 2, 1) := id_WM_freeAllSlots_0 (29, .aload_n 2, 1) (List.mem_of_getElem? (i := 17) rfl)
theorem d_WM_freeAllSlots_30 : decode prog_1_method_17_code 30 = .ok (.getfield 173, 3) := id_WM_freeAllSlots_0 (30, .getfield 173, 3) (List.mem_of_getElem? (i := 18) rfl)
theorem d_WM_freeAllSlots_33 : decode prog_1_method_17_code 33 = .ok (.aload_n 2, 1) := id_WM_freeAllSlots_0 (33, .aload_n 2, 1) (List.mem_of_getElem? (i := 19) rfl)
theorem d_WM_freeAllSlots_34 : decode prog_1_method_17_code 34 = .ok (.invokevirtual 186, 3) := id_WM_freeAllSlots_0 (34, .invokevirtual 186, 3) (List.mem_of_getElem? (i := 20) rfl)
theorem d_WM_freeAllSlots_37 : decode prog_1_method_17_code 37 = .ok (.iinc 1 (1), 3) := id_WM_freeAllSlots_0 (37, .iinc 1 (1), 3) (List.mem_of_getElem? (i := 21) rfl)
theorem d_WM_freeAllSlots_40 : decode prog_1_method_17_code 40 = .ok (.goto (-38), 3) := id_WM_freeAllSlots_0 (40, .goto (-38), 3) (List.mem_of_getElem? (i := 22) rfl)
theorem d_WM_freeAllSlots_43 : decode prog_1_method_17_code 43 = .ok (.return_, 1) := id_WM_freeAllSlots_0 (43, .return_, 1) (List.mem_of_getElem? (i := 23) rfl)
theorem wC_WM_freeAllSlots : Cond.code ⟨"WarpMill", "freeAllSlots", "()V"⟩ prog_1_method_17_code 3 (none) ∈ lw_tb := mem_tb 449 (by decide +kernel) rfl
theorem cw_WM_freeAllSlots_Unit_free : cW mi_WM_freeAllSlots mi_Unit_free 1 := ⟨wC_Unit_free, wi_Unit, ⟨by decide, by decide, by decide +kernel⟩, by decide, by decide⟩
def b_WM_freeAllSlots_2 (F : Nat) : Nat → Nat → Int32 → Hp → Option Hp
  | 0 => fun _ _ _ => none
  | n + 1 => fun x0 x1 h => gd (hK h x0 = 1) <| rq h (hR h 5 x0) 122 fun a_4_2 => if (nI (hN h a_4_2)) ≤ x1 then (some h) else (ix x1 (hN h a_4_2) fun j_16 => pw (hQ h a_4_2 j_16) fun o_16_2 => nu o_16_2 (b_WM_freeAllSlots_2 F n x0 (x1 + 1) h) fun a_19 => (gd (hK h a_19 = 8) <| pw (hR h 450 a_19) fun o_23_2 => nu o_23_2 (b_WM_freeAllSlots_2 F n x0 (x1 + 1) h) fun a_26 => (rq h (hR h 450 a_19) 7 fun a_30 => clv (f_Unit_free F a_30 (some a_19) h) fun h_34 => b_WM_freeAllSlots_2 F n x0 (x1 + 1) h_34)))
set_option maxRecDepth 100000 in
set_option maxHeartbeats 4000000 in
theorem e_WM_freeAllSlots_2 {G : Gl} (hw : gF G) {h0 : Hp} {F : Nat} {h' : Hp}   : ∀ (n : Nat) (x0 : Nat) (x1 : Int32) (h : Hp), b_WM_freeAllSlots_2 F n x0 x1 h = some h' → Go G mi_WM_freeAllSlots h0 (pV h') h 2 [(0, .ref x0), (1, .int x1)] [] := by
  intro n
  induction n with
  | zero =>
    intro _ _ _ hf
    exact nm_s hf
  | succ n ih =>
    intro x0 x1 h hf
    unfold b_WM_freeAllSlots_2 at hf
    refine g_iload_n d_WM_freeAllSlots_2 rfl ?_
    refine g_aload_n d_WM_freeAllSlots_3 rfl ?_
    obtain ⟨k_4, hf⟩ := gd_s hf
    obtain ⟨a_4_2, e_4_2, k_4_2, hf⟩ := rq_s hf
    refine fgs_WM_blocks lf_WM_44 d_WM_freeAllSlots_4 k_4 e_4_2 ?_
    refine g_alen k_4_2 (by decide) rfl d_WM_freeAllSlots_7 ?_
    refine g_icmp_ge 43 d_WM_freeAllSlots_8 (by decide) (fun c_8 => ?_) (fun c_8 => ?_)
    · have hf := ifp hf c_8
      exact Go.ret none trivial rfl d_WM_freeAllSlots_43 (pV_of hf)
    · have hf := ifn hf c_8
      refine g_aload_n d_WM_freeAllSlots_11 rfl ?_
      refine fgs_WM_blocks lf_WM_44 d_WM_freeAllSlots_12 k_4 e_4_2 ?_
      refine g_iload_n d_WM_freeAllSlots_15 rfl ?_
      obtain ⟨i_16, hf⟩ := ix_s hf
      refine g_aald k_4_2 (by decide) rfl rfl i_16 d_WM_freeAllSlots_16 ?_
      obtain ⟨o_16_2, e_16_2, hf⟩ := pw_s hf
      refine Go.vr e_16_2 ?_
      refine g_astore_nq (r := o_16_2) d_WM_freeAllSlots_17 (by decide) ?_
      show Go _ _ _ _ _ _ [(0, _), (1, _), (2, _)] _
      refine g_aload_nq (r := o_16_2) d_WM_freeAllSlots_18 rfl ?_
      refine g_ifnull (r := o_16_2) 37 d_WM_freeAllSlots_19 (by decide) (fun c_19 => ?_) (fun a_19 c_19 => ?_)
      · subst c_19
        have hf := nu_n hf
        refine g_iinc (_ + 1) d_WM_freeAllSlots_37 rfl (by rfl) (by decide) ?_
        show Go _ _ _ _ _ _ [(0, _), (1, _), (2, _)] _
        refine g_goto 2 d_WM_freeAllSlots_40 (by decide) ?_
        refine Go.locals [0, 1] rfl ?_
        exact ih _ _ _ hf
      · subst c_19
        have hf := nu_s hf
        refine g_aload_n d_WM_freeAllSlots_22 rfl ?_
        obtain ⟨k_23, hf⟩ := gd_s hf
        obtain ⟨o_23_2, e_23_2, hf⟩ := pw_s hf
        refine fg_Block_unit lf_WM_173 d_WM_freeAllSlots_23 k_23 ?_
        refine Go.vr e_23_2 ?_
        refine g_ifnull (r := o_23_2) 37 d_WM_freeAllSlots_26 (by decide) (fun c_26 => ?_) (fun a_26 c_26 => ?_)
        · subst c_26
          have hf := nu_n hf
          refine g_iinc (_ + 1) d_WM_freeAllSlots_37 rfl (by rfl) (by decide) ?_
          show Go _ _ _ _ _ _ [(0, _), (1, _), (2, _)] _
          refine g_goto 2 d_WM_freeAllSlots_40 (by decide) ?_
          refine Go.locals [0, 1] rfl ?_
          exact ih _ _ _ hf
        · subst c_26
          have hf := nu_s hf
          refine g_aload_n d_WM_freeAllSlots_29 rfl ?_
          obtain ⟨a_30, e_30, k_30, hf⟩ := rq_s hf
          refine fgs_Block_unit lf_WM_173 d_WM_freeAllSlots_30 k_23 e_30 ?_
          refine g_aload_n d_WM_freeAllSlots_33 rfl ?_
          obtain ⟨h_34, e_34, hf⟩ := clv_s hf
          refine g_callV (mz := mi_Unit_free) (e_Unit_free hw e_34) cw_WM_freeAllSlots_Unit_free lm_WM_186 wI_Unit_free wV_Unit_free (ci := 6) k_30 (by decide) rfl rfl d_WM_freeAllSlots_34 rfl rfl (by first | exact Nat.le_of_ble_eq_true rfl | simp [cat_rf, Value.category]) (fun r1 h1 hp hro => ?_)
          obtain ⟨rfl, rfl⟩ := hp
          dsimp only [Option.toList_some, Option.toList_none, List.cons_append, List.nil_append]
          refine g_iinc (_ + 1) d_WM_freeAllSlots_37 rfl (by rfl) (by decide) ?_
          show Go _ _ _ _ _ _ [(0, _), (1, _), (2, _)] _
          refine g_goto 2 d_WM_freeAllSlots_40 (by decide) ?_
          refine Go.locals [0, 1] rfl ?_
          exact ih _ _ _ hf
def f_WM_freeAllSlots (F : Nat) (x0 : Nat) (h : Hp) : Option Hp := b_WM_freeAllSlots_2 F F x0 (0 : Int32) h
set_option maxRecDepth 100000 in
set_option maxHeartbeats 4000000 in
theorem e_WM_freeAllSlots {G : Gl} (hw : gF G) {F : Nat} {h' : Hp} {x0 : Nat} {h : Hp} (hf : f_WM_freeAllSlots F x0 h = some h') : Ex G mi_WM_freeAllSlots [.ref x0] h (pV h') := by
  unfold f_WM_freeAllSlots at hf
  refine Ex.of nmV (by decide) (Nat.le_of_ble_eq_true rfl) ?_
  show Go G mi_WM_freeAllSlots h _ h 0 [(0, .ref x0)] []
  refine g_iconst 0 d_WM_freeAllSlots_0 (by decide) ?_
  refine g_istore_n d_WM_freeAllSlots_1 (by decide) ?_
  show Go _ _ _ _ _ _ [(0, _), (1, _)] _
  have key := e_WM_freeAllSlots_2 hw (G := G) (h0 := h)  F _ _ _ hf
  exact key
abbrev mi_Unit_begin : MI := (⟨"WarpMill$Unit", "begin", "(I)V"⟩, prog_9_method_2_code, 2, none, 0, 0)
def it_Unit_begin_0 : List (Nat × ClassFile.Instr × Nat) := [(0, .aload_n 0, 1), (1, .iload_n 1, 1), (2, .putfield 21, 3), (5, .aload_n 0, 1), (6, .iload_n 1, 1), (7, .putfield 25, 3), (10, .aload_n 0, 1), (11, .iload_n 1, 1), (12, .iconst 1, 1), (13, .isub, 1), (14, .putfield 28, 3), (17, .aload_n 0, 1), (18, .iconst 0, 1), (19, .putfield 31, 3), (22, .aload_n 0, 1), (23, .iconst 0, 1), (24, .putfield 34, 3), (27, .aload_n 0, 1), (28, .iconst 0, 1), (29, .putfield 37, 3), (32, .return_, 1)]
theorem id_Unit_begin_0 : ∀ q ∈ it_Unit_begin_0, decode prog_9_method_2_code q.1 = .ok q.2 := by decide +kernel
theorem d_Unit_begin_0 : decode prog_9_method_2_code 0 = .ok (.aload_n 0, 1) := id_Unit_begin_0 (0, .aload_n 0, 1) (List.mem_of_getElem? (i := 0) rfl)
theorem d_Unit_begin_1 : decode prog_9_method_2_code 1 = .ok (.iload_n 1, 1) := id_Unit_begin_0 (1, .iload_n 1, 1) (List.mem_of_getElem? (i := 1) rfl)
theorem d_Unit_begin_2 : decode prog_9_method_2_code 2 = .ok (.putfield 21, 3) := id_Unit_begin_0 (2, .putfield 21, 3) (List.mem_of_getElem? (i := 2) rfl)
theorem d_Unit_begin_5 : decode prog_9_method_2_code 5 = .ok (.aload_n 0, 1) := id_Unit_begin_0 (5, .aload_n 0, 1) (List.mem_of_getElem? (i := 3) rfl)
theorem d_Unit_begin_6 : decode prog_9_method_2_code 6 = .ok (.iload_n 1, 1) := id_Unit_begin_0 (6, .iload_n 1, 1) (List.mem_of_getElem? (i := 4) rfl)
theorem d_Unit_begin_7 : decode prog_9_method_2_code 7 = .ok (.putfield 25, 3) := id_Unit_begin_0 (7, .putfield 25, 3) (List.mem_of_getElem? (i := 5) rfl)
theorem d_Unit_begin_10 : decode prog_9_method_2_code 10 = .ok (.aload_n 0, 1) := id_Unit_begin_0 (10, .aload_n 0, 1) (List.mem_of_getElem? (i := 6) rfl)
theorem d_Unit_begin_11 : decode prog_9_method_2_code 11 = .ok (.iload_n 1, 1) := id_Unit_begin_0 (11, .iload_n 1, 1) (List.mem_of_getElem? (i := 7) rfl)
theorem d_Unit_begin_12 : decode prog_9_method_2_code 12 = .ok (.iconst 1, 1) := id_Unit_begin_0 (12, .iconst 1, 1) (List.mem_of_getElem? (i := 8) rfl)
theorem d_Unit_begin_13 : decode prog_9_method_2_code 13 = .ok (.isub, 1) := id_Unit_begin_0 (13, .isub, 1) (List.mem_of_getElem? (i := 9) rfl)
theorem d_Unit_begin_14 : decode prog_9_method_2_code 14 = .ok (.putfield 28, 3) := id_Unit_begin_0 (14, .putfield 28, 3) (List.mem_of_getElem? (i := 10) rfl)
theorem d_Unit_begin_17 : decode prog_9_method_2_code 17 = .ok (.aload_n 0, 1) := id_Unit_begin_0 (17, .aload_n 0, 1) (List.mem_of_getElem? (i := 11) rfl)
theorem d_Unit_begin_18 : decode prog_9_method_2_code 18 = .ok (.iconst 0, 1) := id_Unit_begin_0 (18, .iconst 0, 1) (List.mem_of_getElem? (i := 12) rfl)
theorem d_Unit_begin_19 : decode prog_9_method_2_code 19 = .ok (.putfield 31, 3) := id_Unit_begin_0 (19, .putfield 31, 3) (List.mem_of_getElem? (i := 13) rfl)
theorem d_Unit_begin_22 : decode prog_9_method_2_code 22 = .ok (.aload_n 0, 1) := id_Unit_begin_0 (22, .aload_n 0, 1) (List.mem_of_getElem? (i := 14) rfl)
theorem d_Unit_begin_23 : decode prog_9_method_2_code 23 = .ok (.iconst 0, 1) := id_Unit_begin_0 (23, .iconst 0, 1) (List.mem_of_getElem? (i := 15) rfl)
theorem d_Unit_begin_24 : decode prog_9_method_2_code 24 = .ok (.putfield 34, 3) := id_Unit_begin_0 (24, .putfield 34, 3) (List.mem_of_getElem? (i := 16) rfl)
theorem d_Unit_begin_27 : decode prog_9_method_2_code 27 = .ok (.aload_n 0, 1) := id_Unit_begin_0 (27, .aload_n 0, 1) (List.mem_of_getElem? (i := 17) rfl)
theorem d_Unit_begin_28 : decode prog_9_method_2_code 28 = .ok (.iconst 0, 1) := id_Unit_begin_0 (28, .iconst 0, 1) (List.mem_of_getElem? (i := 18) rfl)
theorem d_Unit_begin_29 : decode prog_9_method_2_code 29 = .ok (.putfield 37, 3) := id_Unit_begin_0 (29, .putfield 37, 3) (List.mem_of_getElem? (i := 19) rfl)
theorem d_Unit_begin_32 : decode prog_9_method_2_code 32 = .ok (.return_, 1) := id_Unit_begin_0 (32, .return_, 1) (List.mem_of_getElem? (i := 20) rfl)
theorem wC_Unit_begin : Cond.code ⟨"WarpMill$Unit", "begin", "(I)V"⟩ prog_9_method_2_code 2 (none) ∈ lw_tb := mem_tb 461 (by decide +kernel) rfl
def f_Unit_begin (F : Nat) (x0 : Nat) (x1 : Int32) (h : Hp) : Option Hp := gd (hK h x0 = 7) <| pw (sI h 386 x0 x1) fun h_2_2 => pw (sI h_2_2 387 x0 x1) fun h_7 => pw (sI h_7 388 x0 (x1 - (1 : Int32))) fun h_14 => pw (sI h_14 389 x0 (0 : Int32)) fun h_19 => pw (sI h_19 390 x0 (0 : Int32)) fun h_24 => pw (sI h_24 391 x0 (0 : Int32)) fun h_29 => some h_29
set_option maxRecDepth 100000 in
set_option maxHeartbeats 4000000 in
theorem e_Unit_begin {G : Gl} (hw : gF G) {F : Nat} {h' : Hp} {x0 : Nat} {x1 : Int32} {h : Hp} (hf : f_Unit_begin F x0 x1 h = some h') : Ex G mi_Unit_begin [.ref x0, .int x1] h (pV h') := by
  unfold f_Unit_begin at hf
  refine Ex.of nmV (by decide) (Nat.le_of_ble_eq_true rfl) ?_
  show Go G mi_Unit_begin h _ h 0 [(0, .ref x0), (1, .int x1)] []
  refine g_aload_n d_Unit_begin_0 rfl ?_
  refine g_iload_n d_Unit_begin_1 rfl ?_
  obtain ⟨k_2, hf⟩ := gd_s hf
  refine fp_Unit_slots hw lf_Unit_21 d_Unit_begin_2 k_2 ?_
  have hf := pw_b hf
  refine g_aload_n d_Unit_begin_5 rfl ?_
  refine g_iload_n d_Unit_begin_6 rfl ?_
  refine fp_Unit_free hw lf_Unit_25 d_Unit_begin_7 (kksI k_2) ?_
  have hf := pw_b hf
  refine g_aload_n d_Unit_begin_10 rfl ?_
  refine g_iload_n d_Unit_begin_11 rfl ?_
  refine g_iconst 1 d_Unit_begin_12 (by decide) ?_
  refine g_isub d_Unit_begin_13 ?_
  refine fp_Unit_last hw lf_Unit_28 d_Unit_begin_14 (kksI (kksI k_2)) ?_
  have hf := pw_b hf
  refine g_aload_n d_Unit_begin_17 rfl ?_
  refine g_iconst 0 d_Unit_begin_18 (by decide) ?_
  refine fp_Unit_went hw lf_Unit_31 d_Unit_begin_19 (kksI (kksI (kksI k_2))) ?_
  have hf := pw_b hf
  refine g_aload_n d_Unit_begin_22 rfl ?_
  refine g_iconst 0 d_Unit_begin_23 (by decide) ?_
  refine fp_Unit_dividerTick hw lf_Unit_34 d_Unit_begin_24 (kksI (kksI (kksI (kksI k_2)))) ?_
  have hf := pw_b hf
  refine g_aload_n d_Unit_begin_27 rfl ?_
  refine g_iconst 0 d_Unit_begin_28 (by decide) ?_
  refine fp_Unit_sharedTick hw lf_Unit_37 d_Unit_begin_29 (kksI (kksI (kksI (kksI (kksI k_2))))) ?_
  have hf := pw_b hf
  exact Go.ret none trivial rfl d_Unit_begin_32 (pV_of hf)
abbrev mi_Cache_begin : MI := (⟨"WarpMill$Cache", "begin", "()V"⟩, prog_4_method_3_code, 1, none, 1, 23)
def it_Cache_begin_0 : List (Nat × ClassFile.Instr × Nat) := [(0, .aload_n 0, 1), (1, .getfield 15, 3), (4, .iconst 0, 1), (5, .invokestatic 18, 3), (8, .aload_n 0, 1), (9, .iconst 0, 1), (10, .putfield 24, 3), (13, .aload_n 0, 1), (14, .iconst 0, 1), (15, .putfield 28, 3), (18, .return_, 1)]
theorem id_Cache_begin_0 : ∀ q ∈ it_Cache_begin_0, decode prog_4_method_3_code q.1 = .ok q.2 := by decide +kernel
theorem d_Cache_begin_0 : decode prog_4_method_3_code 0 = .ok (.aload_n 0, 1) := id_Cache_begin_0 (0, .aload_n 0, 1) (List.mem_of_getElem? (i := 0) rfl)
theorem d_Cache_begin_1 : decode prog_4_method_3_code 1 = .ok (.getfield 15, 3) := id_Cache_begin_0 (1, .getfield 15, 3) (List.mem_of_getElem? (i := 1) rfl)
theorem d_Cache_begin_4 : decode prog_4_method_3_code 4 = .ok (.iconst 0, 1) := id_Cache_begin_0 (4, .iconst 0, 1) (List.mem_of_getElem? (i := 2) rfl)
theorem d_Cache_begin_5 : decode prog_4_method_3_code 5 = .ok (.invokestatic 18, 3) := id_Cache_begin_0 (5, .invokestatic 18, 3) (List.mem_of_getElem? (i := 3) rfl)
theorem d_Cache_begin_8 : decode prog_4_method_3_code 8 = .ok (.aload_n 0, 1) := id_Cache_begin_0 (8, .aload_n 0, 1) (List.mem_of_getElem? (i := 4) rfl)
theorem d_Cache_begin_9 : decode prog_4_method_3_code 9 = .ok (.iconst 0, 1) := id_Cache_begin_0 (9, .iconst 0, 1) (List.mem_of_getElem? (i := 5) rfl)
theorem d_Cache_begin_10 : decode prog_4_method_3_code 10 = .ok (.putfield 24, 3) := id_Cache_begin_0 (10, .putfield 24, 3) (List.mem_of_getElem? (i := 6) rfl)
theorem d_Cache_begin_13 : decode prog_4_method_3_code 13 = .ok (.aload_n 0, 1) := id_Cache_begin_0 (13, .aload_n 0, 1) (List.mem_of_getElem? (i := 7) rfl)
theorem d_Cache_begin_14 : decode prog_4_method_3_code 14 = .ok (.iconst 0, 1) := id_Cache_begin_0 (14, .iconst 0, 1) (List.mem_of_getElem? (i := 8) rfl)
theorem d_Cache_begin_15 : decode prog_4_method_3_code 15 = .ok (.putfield 28, 3) := id_Cache_begin_0 (15, .putfield 28, 3) (List.mem_of_getElem? (i := 9) rfl)
theorem d_Cache_begin_18 : decode prog_4_method_3_code 18 = .ok (.return_, 1) := id_Cache_begin_0 (18, .return_, 1) (List.mem_of_getElem? (i := 10) rfl)
theorem wC_Cache_begin : Cond.code ⟨"WarpMill$Cache", "begin", "()V"⟩ prog_4_method_3_code 1 (none) ∈ lw_tb := mem_tb 465 (by decide +kernel) rfl
theorem cw_Cache_begin_Arrays_fill : cW mi_Cache_begin mi_Arrays_fill 2 := ⟨wC_Arrays_fill, wi_Arrays, ⟨by decide, by decide, by decide +kernel⟩, by decide, by decide⟩
def f_Cache_begin (F : Nat) (x0 : Nat) (h : Hp) : Option Hp := gd (hK h x0 = 4) <| rq h (hR h 193 x0) 100 fun a_1_2 => clv (f_Arrays_fill F (some a_1_2) (0 : Int32) h) fun h_5 => gd (hK h_5 x0 = 4) <| pw (sI h_5 194 x0 (0 : Int32)) fun h_10_2 => pw (sI h_10_2 195 x0 (0 : Int32)) fun h_15 => some h_15
set_option maxRecDepth 100000 in
set_option maxHeartbeats 4000000 in
theorem e_Cache_begin {G : Gl} (hw : gF G) {F : Nat} {h' : Hp} {x0 : Nat} {h : Hp} (hf : f_Cache_begin F x0 h = some h') : Ex G mi_Cache_begin [.ref x0] h (pV h') := by
  unfold f_Cache_begin at hf
  refine Ex.of nmV (by decide) (Nat.le_of_ble_eq_true rfl) ?_
  show Go G mi_Cache_begin h _ h 0 [(0, .ref x0)] []
  refine g_aload_n d_Cache_begin_0 rfl ?_
  obtain ⟨k_1, hf⟩ := gd_s hf
  obtain ⟨a_1_2, e_1_2, k_1_2, hf⟩ := rq_s hf
  refine fgs_Cache_ticks lf_Cache_15 d_Cache_begin_1 k_1 e_1_2 ?_
  refine g_iconst 0 d_Cache_begin_4 (by decide) ?_
  obtain ⟨h_5, e_5, hf⟩ := clv_s hf
  refine g_callS (mz := mi_Arrays_fill) (e_Arrays_fill hw e_5) cw_Cache_begin_Arrays_fill lm_Cache_18 wS_Arrays_fill d_Cache_begin_5 rfl rfl (by first | exact Nat.le_of_ble_eq_true rfl | simp [cat_rf, Value.category]) (fun r1 h1 hp hro => ?_)
  obtain ⟨rfl, rfl⟩ := hp
  dsimp only [Option.toList_some, Option.toList_none, List.cons_append, List.nil_append]
  refine g_aload_n d_Cache_begin_8 rfl ?_
  refine g_iconst 0 d_Cache_begin_9 (by decide) ?_
  obtain ⟨k_10, hf⟩ := gd_s hf
  refine fp_Cache_hits hw lf_Cache_24 d_Cache_begin_10 k_10 ?_
  have hf := pw_b hf
  refine g_aload_n d_Cache_begin_13 rfl ?_
  refine g_iconst 0 d_Cache_begin_14 (by decide) ?_
  refine fp_Cache_misses hw lf_Cache_28 d_Cache_begin_15 (kksI k_10) ?_
  have hf := pw_b hf
  exact Go.ret none trivial rfl d_Cache_begin_18 (pV_of hf)
