abbrev mi_Word_init : MI := (⟨"WarpMill$Word", "<init>", "(J)V"⟩, prog_11_method_1_code, 5, none, 2, 43)
def it_Word_init_0 : List (Nat × ClassFile.Instr × Nat) := [(0, .aload_n 0, 1), (1, .invokespecial 3, 3), (4, .aload_n 0, 1), (5, .lload_n 1, 1), (6, .l2i, 1), (7, .sipush (255), 3), (10, .iand, 1), (11, .putfield 9, 3), (14, .aload_n 0, 1), (15, .lload_n 1, 1), (16, .bipush (8), 2), (18, .lshr, 1), (19, .l2i, 1), (20, .bipush (15), 2), (22, .iand, 1), (23, .putfield 15, 3), (26, .aload_n 0, 1), (27, .lload_n 1, 1), (28, .bipush (12), 2), (30, .lshr, 1), (31, .l2i, 1), (32, .bipush (15), 2), (34, .iand, 1), (35, .putfield 18, 3)]
theorem id_Word_init_0 : ∀ q ∈ it_Word_init_0, decode prog_11_method_1_code q.1 = .ok q.2 := by decide +kernel
theorem d_Word_init_0 : decode prog_11_method_1_code 0 = .ok (.aload_n 0, 1) := id_Word_init_0 (0, .aload_n 0, 1) (List.mem_of_getElem? (i := 0) rfl)
theorem d_Word_init_1 : decode prog_11_method_1_code 1 = .ok (.invokespecial 3, 3) := id_Word_init_0 (1, .invokespecial 3, 3) (List.mem_of_getElem? (i := 1) rfl)
theorem d_Word_init_4 : decode prog_11_method_1_code 4 = .ok (.aload_n 0, 1) := id_Word_init_0 (4, .aload_n 0, 1) (List.mem_of_getElem? (i := 2) rfl)
theorem d_Word_init_5 : decode prog_11_method_1_code 5 = .ok (.lload_n 1, 1) := id_Word_init_0 (5, .lload_n 1, 1) (List.mem_of_getElem? (i := 3) rfl)
theorem d_Word_init_6 : decode prog_11_method_1_code 6 = .ok (.l2i, 1) := id_Word_init_0 (6, .l2i, 1) (List.mem_of_getElem? (i := 4) rfl)
theorem d_Word_init_7 : decode prog_11_method_1_code 7 = .ok (.sipush (255), 3) := id_Word_init_0 (7, .sipush (255), 3) (List.mem_of_getElem? (i := 5) rfl)
theorem d_Word_init_10 : decode prog_11_method_1_code 10 = .ok (.iand, 1) := id_Word_init_0 (10, .iand, 1) (List.mem_of_getElem? (i := 6) rfl)
theorem d_Word_init_11 : decode prog_11_method_1_code 11 = .ok (.putfield 9, 3) := id_Word_init_0 (11, .putfield 9, 3) (List.mem_of_getElem? (i := 7) rfl)
theorem d_Word_init_14 : decode prog_11_method_1_code 14 = .ok (.aload_n 0, 1) := id_Word_init_0 (14, .aload_n 0, 1) (List.mem_of_getElem? (i := 8) rfl)
theorem d_Word_init_15 : decode prog_11_method_1_code 15 = .ok (.lload_n 1, 1) := id_Word_init_0 (15, .lload_n 1, 1) (List.mem_of_getElem? (i := 9) rfl)
theorem d_Word_init_16 : decode prog_11_method_1_code 16 = .ok (.bipush (8), 2) := id_Word_init_0 (16, .bipush (8), 2) (List.mem_of_getElem? (i := 10) rfl)
theorem d_Word_init_18 : decode prog_11_method_1_code 18 = .ok (.lshr, 1) := id_Word_init_0 (18, .lshr, 1) (List.mem_of_getElem? (i := 11) rfl)
theorem d_Word_init_19 : decode prog_11_method_1_code 19 = .ok (.l2i, 1) := id_Word_init_0 (19, .l2i, 1) (List.mem_of_getElem? (i := 12) rfl)
theorem d_Word_init_20 : decode prog_11_method_1_code 20 = .ok (.bipush (15), 2) := id_Word_init_0 (20, .bipush (15), 2) (List.mem_of_getElem? (i := 13) rfl)
theorem d_Word_init_22 : decode prog_11_method_1_code 22 = .ok (.iand, 1) := id_Word_init_0 (22, .iand, 1) (List.mem_of_getElem? (i := 14) rfl)
theorem d_Word_init_23 : decode prog_11_method_1_code 23 = .ok (.putfield 15, 3) := id_Word_init_0 (23, .putfield 15, 3) (List.mem_of_getElem? (i := 15) rfl)
theorem d_Word_init_26 : decode prog_11_method_1_code 26 = .ok (.aload_n 0, 1) := id_Word_init_0 (26, .aload_n 0, 1) (List.mem_of_getElem? (i := 16) rfl)
theorem d_Word_init_27 : decode prog_11_method_1_code 27 = .ok (.lload_n 1, 1) := id_Word_init_0 (27, .lload_n 1, 1) (List.mem_of_getElem? (i := 17) rfl)
theorem d_Word_init_28 : decode prog_11_method_1_code 28 = .ok (.bipush (12), 2) := id_Word_init_0 (28, .bipush (12), 2) (List.mem_of_getElem? (i := 18) rfl)
theorem d_Word_init_30 : decode prog_11_method_1_code 30 = .ok (.lshr, 1) := id_Word_init_0 (30, .lshr, 1) (List.mem_of_getElem? (i := 19) rfl)
theorem d_Word_init_31 : decode prog_11_method_1_code 31 = .ok (.l2i, 1) := id_Word_init_0 (31, .l2i, 1) (List.mem_of_getElem? (i := 20) rfl)
theorem d_Word_init_32 : decode prog_11_method_1_code 32 = .ok (.bipush (15), 2) := id_Word_init_0 (32, .bipush (15), 2) (List.mem_of_getElem? (i := 21) rfl)
theorem d_Word_init_34 : decode prog_11_method_1_code 34 = .ok (.iand, 1) := id_Word_init_0 (34, .iand, 1) (List.mem_of_getElem? (i := 22) rfl)
theorem d_Word_init_35 : decode prog_11_method_1_code 35 = .ok (.putfield 18, 3) := id_Word_init_0 (35, .putfield 18, 3) (List.mem_of_getElem? (i := 23) rfl)
def it_Word_init_1 : List (Nat × ClassFile.Instr × Nat) := [(38, .aload_n 0, 1), (39, .lload_n 1, 1), (40, .bipush (16), 2), (42, .lshr, 1), (43, .l2i, 1), (44, .bipush (15), 2), (46, .iand, 1), (47, .putfield 21, 3), (50, .aload_n 0, 1), (51, .lload_n 1, 1), (52, .bipush (32), 2), (54, .lshr, 1), (55, .l2i, 1), (56, .putfield 24, 3), (59, .lload_n 1, 1), (60, .bipush (20), 2), (62, .lshr, 1), (63, .l2i, 1), (64, .bipush (15), 2), (66, .iand, 1), (67, .istore_n 3, 1), (68, .aload_n 0, 1), (69, .aload_n 0, 1), (70, .getfield 9, 3)]
theorem id_Word_init_1 : ∀ q ∈ it_Word_init_1, decode prog_11_method_1_code q.1 = .ok q.2 := by decide +kernel
theorem d_Word_init_38 : decode prog_11_method_1_code 38 = .ok (.aload_n 0, 1) := id_Word_init_1 (38, .aload_n 0, 1) (List.mem_of_getElem? (i := 0) rfl)
theorem d_Word_init_39 : decode prog_11_method_1_code 39 = .ok (.lload_n 1, 1) := id_Word_init_1 (39, .lload_n 1, 1) (List.mem_of_getElem? (i := 1) rfl)
theorem d_Word_init_40 : decode prog_11_method_1_code 40 = .ok (.bipush (16), 2) := id_Word_init_1 (40, .bipush (16), 2) (List.mem_of_getElem? (i := 2) rfl)
theorem d_Word_init_42 : decode prog_11_method_1_code 42 = .ok (.lshr, 1) := id_Word_init_1 (42, .lshr, 1) (List.mem_of_getElem? (i := 3) rfl)
theorem d_Word_init_43 : decode prog_11_method_1_code 43 = .ok (.l2i, 1) := id_Word_init_1 (43, .l2i, 1) (List.mem_of_getElem? (i := 4) rfl)
theorem d_Word_init_44 : decode prog_11_method_1_code 44 = .ok (.bipush (15), 2) := id_Word_init_1 (44, .bipush (15), 2) (List.mem_of_getElem? (i := 5) rfl)
theorem d_Word_init_46 : decode prog_11_method_1_code 46 = .ok (.iand, 1) := id_Word_init_1 (46, .iand, 1) (List.mem_of_getElem? (i := 6) rfl)
theorem d_Word_init_47 : decode prog_11_method_1_code 47 = .ok (.putfield 21, 3) := id_Word_init_1 (47, .putfield 21, 3) (List.mem_of_getElem? (i := 7) rfl)
theorem d_Word_init_50 : decode prog_11_method_1_code 50 = .ok (.aload_n 0, 1) := id_Word_init_1 (50, .aload_n 0, 1) (List.mem_of_getElem? (i := 8) rfl)
theorem d_Word_init_51 : decode prog_11_method_1_code 51 = .ok (.lload_n 1, 1) := id_Word_init_1 (51, .lload_n 1, 1) (List.mem_of_getElem? (i := 9) rfl)
theorem d_Word_init_52 : decode prog_11_method_1_code 52 = .ok (.bipush (32), 2) := id_Word_init_1 (52, .bipush (32), 2) (List.mem_of_getElem? (i := 10) rfl)
theorem d_Word_init_54 : decode prog_11_method_1_code 54 = .ok (.lshr, 1) := id_Word_init_1 (54, .lshr, 1) (List.mem_of_getElem? (i := 11) rfl)
theorem d_Word_init_55 : decode prog_11_method_1_code 55 = .ok (.l2i, 1) := id_Word_init_1 (55, .l2i, 1) (List.mem_of_getElem? (i := 12) rfl)
theorem d_Word_init_56 : decode prog_11_method_1_code 56 = .ok (.putfield 24, 3) := id_Word_init_1 (56, .putfield 24, 3) (List.mem_of_getElem? (i := 13) rfl)
theorem d_Word_init_59 : decode prog_11_method_1_code 59 = .ok (.lload_n 1, 1) := id_Word_init_1 (59, .lload_n 1, 1) (List.mem_of_getElem? (i := 14) rfl)
theorem d_Word_init_60 : decode prog_11_method_1_code 60 = .ok (.bipush (20), 2) := id_Word_init_1 (60, .bipush (20), 2) (List.mem_of_getElem? (i := 15) rfl)
theorem d_Word_init_62 : decode prog_11_method_1_code 62 = .ok (.lshr, 1) := id_Word_init_1 (62, .lshr, 1) (List.mem_of_getElem? (i := 16) rfl)
theorem d_Word_init_63 : decode prog_11_method_1_code 63 = .ok (.l2i, 1) := id_Word_init_1 (63, .l2i, 1) (List.mem_of_getElem? (i := 17) rfl)
theorem d_Word_init_64 : decode prog_11_method_1_code 64 = .ok (.bipush (15), 2) := id_Word_init_1 (64, .bipush (15), 2) (List.mem_of_getElem? (i := 18) rfl)
theorem d_Word_init_66 : decode prog_11_method_1_code 66 = .ok (.iand, 1) := id_Word_init_1 (66, .iand, 1) (List.mem_of_getElem? (i := 19) rfl)
theorem d_Word_init_67 : decode prog_11_method_1_code 67 = .ok (.istore_n 3, 1) := id_Word_init_1 (67, .istore_n 3, 1) (List.mem_of_getElem? (i := 20) rfl)
theorem d_Word_init_68 : decode prog_11_method_1_code 68 = .ok (.aload_n 0, 1) := id_Word_init_1 (68, .aload_n 0, 1) (List.mem_of_getElem? (i := 21) rfl)
theorem d_Word_init_69 : decode prog_11_method_1_code 69 = .ok (.aload_n 0, 1) := id_Word_init_1 (69, .aload_n 0, 1) (List.mem_of_getElem? (i := 22) rfl)
theorem d_Word_init_70 : decode prog_11_method_1_code 70 = .ok (.getfield 9, 3) := id_Word_init_1 (70, .getfield 9, 3) (List.mem_of_getElem? (i := 23) rfl)
def it_Word_init_2 : List (Nat × ClassFile.Instr × Nat) := [(73, .aload_n 0, 1), (74, .getfield 24, 3), (77, .invokestatic 27, 3), (80, .putfield 31, 3), (83, .aload_n 0, 1), (84, .iload_n 3, 1), (85, .bipush (8), 2), (87, .if_icmp .lt (9), 3), (90, .iload_n 3, 1), (91, .iconst 3, 1), (92, .iand, 1), (93, .goto (4), 3), (96, .iconst (-1), 1), (97, .putfield 35, 3), (100, .aload_n 0, 1), (101, .iload_n 3, 1), (102, .iconst 4, 1), (103, .iand, 1), (104, .ifCond .eq (7), 3), (107, .iconst 1, 1), (108, .goto (4), 3), (111, .iconst 0, 1), (112, .putfield 38, 3), (115, .aload_n 0, 1)]
theorem id_Word_init_2 : ∀ q ∈ it_Word_init_2, decode prog_11_method_1_code q.1 = .ok q.2 := by decide +kernel
theorem d_Word_init_73 : decode prog_11_method_1_code 73 = .ok (.aload_n 0, 1) := id_Word_init_2 (73, .aload_n 0, 1) (List.mem_of_getElem? (i := 0) rfl)
theorem d_Word_init_74 : decode prog_11_method_1_code 74 = .ok (.getfield 24, 3) := id_Word_init_2 (74, .getfield 24, 3) (List.mem_of_getElem? (i := 1) rfl)
theorem d_Word_init_77 : decode prog_11_method_1_code 77 = .ok (.invokestatic 27, 3) := id_Word_init_2 (77, .invokestatic 27, 3) (List.mem_of_getElem? (i := 2) rfl)
theorem d_Word_init_80 : decode prog_11_method_1_code 80 = .ok (.putfield 31, 3) := id_Word_init_2 (80, .putfield 31, 3) (List.mem_of_getElem? (i := 3) rfl)
theorem d_Word_init_83 : decode prog_11_method_1_code 83 = .ok (.aload_n 0, 1) := id_Word_init_2 (83, .aload_n 0, 1) (List.mem_of_getElem? (i := 4) rfl)
theorem d_Word_init_84 : decode prog_11_method_1_code 84 = .ok (.iload_n 3, 1) := id_Word_init_2 (84, .iload_n 3, 1) (List.mem_of_getElem? (i := 5) rfl)
theorem d_Word_init_85 : decode prog_11_method_1_code 85 = .ok (.bipush (8), 2) := id_Word_init_2 (85, .bipush (8), 2) (List.mem_of_getElem? (i := 6) rfl)
theorem d_Word_init_87 : decode prog_11_method_1_code 87 = .ok (.if_icmp .lt (9), 3) := id_Word_init_2 (87, .if_icmp .lt (9), 3) (List.mem_of_getElem? (i := 7) rfl)
theorem d_Word_init_90 : decode prog_11_method_1_code 90 = .ok (.iload_n 3, 1) := id_Word_init_2 (90, .iload_n 3, 1) (List.mem_of_getElem? (i := 8) rfl)
theorem d_Word_init_91 : decode prog_11_method_1_code 91 = .ok (.iconst 3, 1) := id_Word_init_2 (91, .iconst 3, 1) (List.mem_of_getElem? (i := 9) rfl)
theorem d_Word_init_92 : decode prog_11_method_1_code 92 = .ok (.iand, 1) := id_Word_init_2 (92, .iand, 1) (List.mem_of_getElem? (i := 10) rfl)
theorem d_Word_init_93 : decode prog_11_method_1_code 93 = .ok (.goto (4), 3) := id_Word_init_2 (93, .goto (4), 3) (List.mem_of_getElem? (i := 11) rfl)
theorem d_Word_init_96 : decode prog_11_method_1_code 96 = .ok (.iconst (-1), 1) := id_Word_init_2 (96, .iconst (-1), 1) (List.mem_of_getElem? (i := 12) rfl)
theorem d_Word_init_97 : decode prog_11_method_1_code 97 = .ok (.putfield 35, 3) := id_Word_init_2 (97, .putfield 35, 3) (List.mem_of_getElem? (i := 13) rfl)
theorem d_Word_init_100 : decode prog_11_method_1_code 100 = .ok (.aload_n 0, 1) := id_Word_init_2 (100, .aload_n 0, 1) (List.mem_of_getElem? (i := 14) rfl)
theorem d_Word_init_101 : decode prog_11_method_1_code 101 = .ok (.iload_n 3, 1) := id_Word_init_2 (101, .iload_n 3, 1) (List.mem_of_getElem? (i := 15) rfl)
theorem d_Word_init_102 : decode prog_11_method_1_code 102 = .ok (.iconst 4, 1) := id_Word_init_2 (102, .iconst 4, 1) (List.mem_of_getElem? (i := 16) rfl)
theorem d_Word_init_103 : decode prog_11_method_1_code 103 = .ok (.iand, 1) := id_Word_init_2 (103, .iand, 1) (List.mem_of_getElem? (i := 17) rfl)
theorem d_Word_init_104 : decode prog_11_method_1_code 104 = .ok (.ifCond .eq (7), 3) := id_Word_init_2 (104, .ifCond .eq (7), 3) (List.mem_of_getElem? (i := 18) rfl)
theorem d_Word_init_107 : decode prog_11_method_1_code 107 = .ok (.iconst 1, 1) := id_Word_init_2 (107, .iconst 1, 1) (List.mem_of_getElem? (i := 19) rfl)
theorem d_Word_init_108 : decode prog_11_method_1_code 108 = .ok (.goto (4), 3) := id_Word_init_2 (108, .goto (4), 3) (List.mem_of_getElem? (i := 20) rfl)
theorem d_Word_init_111 : decode prog_11_method_1_code 111 = .ok (.iconst 0, 1) := id_Word_init_2 (111, .iconst 0, 1) (List.mem_of_getElem? (i := 21) rfl)
theorem d_Word_init_112 : decode prog_11_method_1_code 112 = .ok (.putfield 38, 3) := id_Word_init_2 (112, .putfield 38, 3) (List.mem_of_getElem? (i := 22) rfl)
theorem d_Word_init_115 : decode prog_11_method_1_code 115 = .ok (.aload_n 0, 1) := id_Word_init_2 (115, .aload_n 0, 1) (List.mem_of_getElem? (i := 23) rfl)
def it_Word_init_3 : List (Nat × ClassFile.Instr × Nat) := [(116, .aload_n 0, 1), (117, .getfield 9, 3), (120, .bipush (7), 2), (122, .if_icmp .eq (12), 3), (125, .aload_n 0, 1), (126, .getfield 9, 3), (129, .bipush (8), 2), (131, .if_icmp .ne (7), 3), (134, .iconst 1, 1), (135, .goto (4), 3), (138, .iconst 0, 1), (139, .putfield 41, 3), (142, .aload_n 0, 1), (143, .aload_n 0, 1), (144, .getfield 9, 3), (147, .bipush (50), 2), (149, .if_icmp .lt (16), 3), (152, .aload_n 0, 1), (153, .getfield 9, 3), (156, .bipush (59), 2), (158, .if_icmp .gt (7), 3), (161, .iconst 1, 1), (162, .goto (4), 3), (165, .iconst 0, 1)]
theorem id_Word_init_3 : ∀ q ∈ it_Word_init_3, decode prog_11_method_1_code q.1 = .ok q.2 := by decide +kernel
theorem d_Word_init_116 : decode prog_11_method_1_code 116 = .ok (.aload_n 0, 1) := id_Word_init_3 (116, .aload_n 0, 1) (List.mem_of_getElem? (i := 0) rfl)
theorem d_Word_init_117 : decode prog_11_method_1_code 117 = .ok (.getfield 9, 3) := id_Word_init_3 (117, .getfield 9, 3) (List.mem_of_getElem? (i := 1) rfl)
theorem d_Word_init_120 : decode prog_11_method_1_code 120 = .ok (.bipush (7), 2) := id_Word_init_3 (120, .bipush (7), 2) (List.mem_of_getElem? (i := 2) rfl)
theorem d_Word_init_122 : decode prog_11_method_1_code 122 = .ok (.if_icmp .eq (12), 3) := id_Word_init_3 (122, .if_icmp .eq (12), 3) (List.mem_of_getElem? (i := 3) rfl)
theorem d_Word_init_125 : decode prog_11_method_1_code 125 = .ok (.aload_n 0, 1) := id_Word_init_3 (125, .aload_n 0, 1) (List.mem_of_getElem? (i := 4) rfl)
theorem d_Word_init_126 : decode prog_11_method_1_code 126 = .ok (.getfield 9, 3) := id_Word_init_3 (126, .getfield 9, 3) (List.mem_of_getElem? (i := 5) rfl)
theorem d_Word_init_129 : decode prog_11_method_1_code 129 = .ok (.bipush (8), 2) := id_Word_init_3 (129, .bipush (8), 2) (List.mem_of_getElem? (i := 6) rfl)
theorem d_Word_init_131 : decode prog_11_method_1_code 131 = .ok (.if_icmp .ne (7), 3) := id_Word_init_3 (131, .if_icmp .ne (7), 3) (List.mem_of_getElem? (i := 7) rfl)
theorem d_Word_init_134 : decode prog_11_method_1_code 134 = .ok (.iconst 1, 1) := id_Word_init_3 (134, .iconst 1, 1) (List.mem_of_getElem? (i := 8) rfl)
theorem d_Word_init_135 : decode prog_11_method_1_code 135 = .ok (.goto (4), 3) := id_Word_init_3 (135, .goto (4), 3) (List.mem_of_getElem? (i := 9) rfl)
theorem d_Word_init_138 : decode prog_11_method_1_code 138 = .ok (.iconst 0, 1) := id_Word_init_3 (138, .iconst 0, 1) (List.mem_of_getElem? (i := 10) rfl)
theorem d_Word_init_139 : decode prog_11_method_1_code 139 = .ok (.putfield 41, 3) := id_Word_init_3 (139, .putfield 41, 3) (List.mem_of_getElem? (i := 11) rfl)
theorem d_Word_init_142 : decode prog_11_method_1_code 142 = .ok (.aload_n 0, 1) := id_Word_init_3 (142, .aload_n 0, 1) (List.mem_of_getElem? (i := 12) rfl)
theorem d_Word_init_143 : decode prog_11_method_1_code 143 = .ok (.aload_n 0, 1) := id_Word_init_3 (143, .aload_n 0, 1) (List.mem_of_getElem? (i := 13) rfl)
theorem d_Word_init_144 : decode prog_11_method_1_code 144 = .ok (.getfield 9, 3) := id_Word_init_3 (144, .getfield 9, 3) (List.mem_of_getElem? (i := 14) rfl)
theorem d_Word_init_147 : decode prog_11_method_1_code 147 = .ok (.bipush (50), 2) := id_Word_init_3 (147, .bipush (50), 2) (List.mem_of_getElem? (i := 15) rfl)
theorem d_Word_init_149 : decode prog_11_method_1_code 149 = .ok (.if_icmp .lt (16), 3) := id_Word_init_3 (149, .if_icmp .lt (16), 3) (List.mem_of_getElem? (i := 16) rfl)
theorem d_Word_init_152 : decode prog_11_method_1_code 152 = .ok (.aload_n 0, 1) := id_Word_init_3 (152, .aload_n 0, 1) (List.mem_of_getElem? (i := 17) rfl)
theorem d_Word_init_153 : decode prog_11_method_1_code 153 = .ok (.getfield 9, 3) := id_Word_init_3 (153, .getfield 9, 3) (List.mem_of_getElem? (i := 18) rfl)
theorem d_Word_init_156 : decode prog_11_method_1_code 156 = .ok (.bipush (59), 2) := id_Word_init_3 (156, .bipush (59), 2) (List.mem_of_getElem? (i := 19) rfl)
theorem d_Word_init_158 : decode prog_11_method_1_code 158 = .ok (.if_icmp .gt (7), 3) := id_Word_init_3 (158, .if_icmp .gt (7), 3) (List.mem_of_getElem? (i := 20) rfl)
theorem d_Word_init_161 : decode prog_11_method_1_code 161 = .ok (.iconst 1, 1) := id_Word_init_3 (161, .iconst 1, 1) (List.mem_of_getElem? (i := 21) rfl)
theorem d_Word_init_162 : decode prog_11_method_1_code 162 = .ok (.goto (4), 3) := id_Word_init_3 (162, .goto (4), 3) (List.mem_of_getElem? (i := 22) rfl)
theorem d_Word_init_165 : decode prog_11_method_1_code 165 = .ok (.iconst 0, 1) := id_Word_init_3 (165, .iconst 0, 1) (List.mem_of_getElem? (i := 23) rfl)
def it_Word_init_4 : List (Nat × ClassFile.Instr × Nat) := [(166, .putfield 44, 3), (169, .aload_n 0, 1), (170, .aload_n 0, 1), (171, .getfield 9, 3), (174, .bipush (52), 2), (176, .if_icmp .eq (30), 3), (179, .aload_n 0, 1), (180, .getfield 9, 3), (183, .bipush (53), 2), (185, .if_icmp .eq (21), 3), (188, .aload_n 0, 1), (189, .getfield 9, 3), (192, .bipush (58), 2), (194, .if_icmp .eq (12), 3), (197, .aload_n 0, 1), (198, .getfield 9, 3), (201, .bipush (59), 2), (203, .if_icmp .ne (7), 3), (206, .iconst 1, 1), (207, .goto (4), 3), (210, .iconst 0, 1), (211, .putfield 47, 3), (214, .aload_n 0, 1), (215, .aload_n 0, 1)]
theorem id_Word_init_4 : ∀ q ∈ it_Word_init_4, decode prog_11_method_1_code q.1 = .ok q.2 := by decide +kernel
theorem d_Word_init_166 : decode prog_11_method_1_code 166 = .ok (.putfield 44, 3) := id_Word_init_4 (166, .putfield 44, 3) (List.mem_of_getElem? (i := 0) rfl)
theorem d_Word_init_169 : decode prog_11_method_1_code 169 = .ok (.aload_n 0, 1) := id_Word_init_4 (169, .aload_n 0, 1) (List.mem_of_getElem? (i := 1) rfl)
theorem d_Word_init_170 : decode prog_11_method_1_code 170 = .ok (.aload_n 0, 1) := id_Word_init_4 (170, .aload_n 0, 1) (List.mem_of_getElem? (i := 2) rfl)
theorem d_Word_init_171 : decode prog_11_method_1_code 171 = .ok (.getfield 9, 3) := id_Word_init_4 (171, .getfield 9, 3) (List.mem_of_getElem? (i := 3) rfl)
theorem d_Word_init_174 : decode prog_11_method_1_code 174 = .ok (.bipush (52), 2) := id_Word_init_4 (174, .bipush (52), 2) (List.mem_of_getElem? (i := 4) rfl)
theorem d_Word_init_176 : decode prog_11_method_1_code 176 = .ok (.if_icmp .eq (30), 3) := id_Word_init_4 (176, .if_icmp .eq (30), 3) (List.mem_of_getElem? (i := 5) rfl)
theorem d_Word_init_179 : decode prog_11_method_1_code 179 = .ok (.aload_n 0, 1) := id_Word_init_4 (179, .aload_n 0, 1) (List.mem_of_getElem? (i := 6) rfl)
theorem d_Word_init_180 : decode prog_11_method_1_code 180 = .ok (.getfield 9, 3) := id_Word_init_4 (180, .getfield 9, 3) (List.mem_of_getElem? (i := 7) rfl)
theorem d_Word_init_183 : decode prog_11_method_1_code 183 = .ok (.bipush (53), 2) := id_Word_init_4 (183, .bipush (53), 2) (List.mem_of_getElem? (i := 8) rfl)
theorem d_Word_init_185 : decode prog_11_method_1_code 185 = .ok (.if_icmp .eq (21), 3) := id_Word_init_4 (185, .if_icmp .eq (21), 3) (List.mem_of_getElem? (i := 9) rfl)
theorem d_Word_init_188 : decode prog_11_method_1_code 188 = .ok (.aload_n 0, 1) := id_Word_init_4 (188, .aload_n 0, 1) (List.mem_of_getElem? (i := 10) rfl)
theorem d_Word_init_189 : decode prog_11_method_1_code 189 = .ok (.getfield 9, 3) := id_Word_init_4 (189, .getfield 9, 3) (List.mem_of_getElem? (i := 11) rfl)
theorem d_Word_init_192 : decode prog_11_method_1_code 192 = .ok (.bipush (58), 2) := id_Word_init_4 (192, .bipush (58), 2) (List.mem_of_getElem? (i := 12) rfl)
theorem d_Word_init_194 : decode prog_11_method_1_code 194 = .ok (.if_icmp .eq (12), 3) := id_Word_init_4 (194, .if_icmp .eq (12), 3) (List.mem_of_getElem? (i := 13) rfl)
theorem d_Word_init_197 : decode prog_11_method_1_code 197 = .ok (.aload_n 0, 1) := id_Word_init_4 (197, .aload_n 0, 1) (List.mem_of_getElem? (i := 14) rfl)
theorem d_Word_init_198 : decode prog_11_method_1_code 198 = .ok (.getfield 9, 3) := id_Word_init_4 (198, .getfield 9, 3) (List.mem_of_getElem? (i := 15) rfl)
theorem d_Word_init_201 : decode prog_11_method_1_code 201 = .ok (.bipush (59), 2) := id_Word_init_4 (201, .bipush (59), 2) (List.mem_of_getElem? (i := 16) rfl)
theorem d_Word_init_203 : decode prog_11_method_1_code 203 = .ok (.if_icmp .ne (7), 3) := id_Word_init_4 (203, .if_icmp .ne (7), 3) (List.mem_of_getElem? (i := 17) rfl)
theorem d_Word_init_206 : decode prog_11_method_1_code 206 = .ok (.iconst 1, 1) := id_Word_init_4 (206, .iconst 1, 1) (List.mem_of_getElem? (i := 18) rfl)
theorem d_Word_init_207 : decode prog_11_method_1_code 207 = .ok (.goto (4), 3) := id_Word_init_4 (207, .goto (4), 3) (List.mem_of_getElem? (i := 19) rfl)
theorem d_Word_init_210 : decode prog_11_method_1_code 210 = .ok (.iconst 0, 1) := id_Word_init_4 (210, .iconst 0, 1) (List.mem_of_getElem? (i := 20) rfl)
theorem d_Word_init_211 : decode prog_11_method_1_code 211 = .ok (.putfield 47, 3) := id_Word_init_4 (211, .putfield 47, 3) (List.mem_of_getElem? (i := 21) rfl)
theorem d_Word_init_214 : decode prog_11_method_1_code 214 = .ok (.aload_n 0, 1) := id_Word_init_4 (214, .aload_n 0, 1) (List.mem_of_getElem? (i := 22) rfl)
theorem d_Word_init_215 : decode prog_11_method_1_code 215 = .ok (.aload_n 0, 1) := id_Word_init_4 (215, .aload_n 0, 1) (List.mem_of_getElem? (i := 23) rfl)
def it_Word_init_5 : List (Nat × ClassFile.Instr × Nat) := [(216, .getfield 9, 3), (219, .ifCond .eq (18), 3), (222, .aload_n 0, 1), (223, .getfield 9, 3), (226, .iconst 1, 1), (227, .if_icmp .eq (10), 3), (230, .aload_n 0, 1), (231, .getfield 44, 3), (234, .ifCond .eq (7), 3), (237, .iconst 1, 1), (238, .goto (4), 3), (241, .iconst 0, 1), (242, .putfield 50, 3), (245, .aload_n 0, 1), (246, .aload_n 0, 1), (247, .getfield 9, 3), (250, .aload_n 0, 1), (251, .getfield 15, 3), (254, .invokestatic 53, 3), (257, .putfield 57, 3), (260, .aload_n 0, 1), (261, .getfield 9, 3), (264, .aload_n 0, 1), (265, .getfield 18, 3)]
theorem id_Word_init_5 : ∀ q ∈ it_Word_init_5, decode prog_11_method_1_code q.1 = .ok q.2 := by decide +kernel
theorem d_Word_init_216 : decode prog_11_method_1_code 216 = .ok (.getfield 9, 3) := id_Word_init_5 (216, .getfield 9, 3) (List.mem_of_getElem? (i := 0) rfl)
theorem d_Word_init_219 : decode prog_11_method_1_code 219 = .ok (.ifCond .eq (18), 3) := id_Word_init_5 (219, .ifCond .eq (18), 3) (List.mem_of_getElem? (i := 1) rfl)
theorem d_Word_init_222 : decode prog_11_method_1_code 222 = .ok (.aload_n 0, 1) := id_Word_init_5 (222, .aload_n 0, 1) (List.mem_of_getElem? (i := 2) rfl)
theorem d_Word_init_223 : decode prog_11_method_1_code 223 = .ok (.getfield 9, 3) := id_Word_init_5 (223, .getfield 9, 3) (List.mem_of_getElem? (i := 3) rfl)
theorem d_Word_init_226 : decode prog_11_method_1_code 226 = .ok (.iconst 1, 1) := id_Word_init_5 (226, .iconst 1, 1) (List.mem_of_getElem? (i := 4) rfl)
theorem d_Word_init_227 : decode prog_11_method_1_code 227 = .ok (.if_icmp .eq (10), 3) := id_Word_init_5 (227, .if_icmp .eq (10), 3) (List.mem_of_getElem? (i := 5) rfl)
theorem d_Word_init_230 : decode prog_11_method_1_code 230 = .ok (.aload_n 0, 1) := id_Word_init_5 (230, .aload_n 0, 1) (List.mem_of_getElem? (i := 6) rfl)
theorem d_Word_init_231 : decode prog_11_method_1_code 231 = .ok (.getfield 44, 3) := id_Word_init_5 (231, .getfield 44, 3) (List.mem_of_getElem? (i := 7) rfl)
theorem d_Word_init_234 : decode prog_11_method_1_code 234 = .ok (.ifCond .eq (7), 3) := id_Word_init_5 (234, .ifCond .eq (7), 3) (List.mem_of_getElem? (i := 8) rfl)
theorem d_Word_init_237 : decode prog_11_method_1_code 237 = .ok (.iconst 1, 1) := id_Word_init_5 (237, .iconst 1, 1) (List.mem_of_getElem? (i := 9) rfl)
theorem d_Word_init_238 : decode prog_11_method_1_code 238 = .ok (.goto (4), 3) := id_Word_init_5 (238, .goto (4), 3) (List.mem_of_getElem? (i := 10) rfl)
theorem d_Word_init_241 : decode prog_11_method_1_code 241 = .ok (.iconst 0, 1) := id_Word_init_5 (241, .iconst 0, 1) (List.mem_of_getElem? (i := 11) rfl)
theorem d_Word_init_242 : decode prog_11_method_1_code 242 = .ok (.putfield 50, 3) := id_Word_init_5 (242, .putfield 50, 3) (List.mem_of_getElem? (i := 12) rfl)
theorem d_Word_init_245 : decode prog_11_method_1_code 245 = .ok (.aload_n 0, 1) := id_Word_init_5 (245, .aload_n 0, 1) (List.mem_of_getElem? (i := 13) rfl)
theorem d_Word_init_246 : decode prog_11_method_1_code 246 = .ok (.aload_n 0, 1) := id_Word_init_5 (246, .aload_n 0, 1) (List.mem_of_getElem? (i := 14) rfl)
theorem d_Word_init_247 : decode prog_11_method_1_code 247 = .ok (.getfield 9, 3) := id_Word_init_5 (247, .getfield 9, 3) (List.mem_of_getElem? (i := 15) rfl)
theorem d_Word_init_250 : decode prog_11_method_1_code 250 = .ok (.aload_n 0, 1) := id_Word_init_5 (250, .aload_n 0, 1) (List.mem_of_getElem? (i := 16) rfl)
theorem d_Word_init_251 : decode prog_11_method_1_code 251 = .ok (.getfield 15, 3) := id_Word_init_5 (251, .getfield 15, 3) (List.mem_of_getElem? (i := 17) rfl)
theorem d_Word_init_254 : decode prog_11_method_1_code 254 = .ok (.invokestatic 53, 3) := id_Word_init_5 (254, .invokestatic 53, 3) (List.mem_of_getElem? (i := 18) rfl)
theorem d_Word_init_257 : decode prog_11_method_1_code 257 = .ok (.putfield 57, 3) := id_Word_init_5 (257, .putfield 57, 3) (List.mem_of_getElem? (i := 19) rfl)
theorem d_Word_init_260 : decode prog_11_method_1_code 260 = .ok (.aload_n 0, 1) := id_Word_init_5 (260, .aload_n 0, 1) (List.mem_of_getElem? (i := 20) rfl)
theorem d_Word_init_261 : decode prog_11_method_1_code 261 = .ok (.getfield 9, 3) := id_Word_init_5 (261, .getfield 9, 3) (List.mem_of_getElem? (i := 21) rfl)
theorem d_Word_init_264 : decode prog_11_method_1_code 264 = .ok (.aload_n 0, 1) := id_Word_init_5 (264, .aload_n 0, 1) (List.mem_of_getElem? (i := 22) rfl)
theorem d_Word_init_265 : decode prog_11_method_1_code 265 = .ok (.getfield 18, 3) := id_Word_init_5 (265, .getfield 18, 3) (List.mem_of_getElem? (i := 23) rfl)
def it_Word_init_6 : List (Nat × ClassFile.Instr × Nat) := [(268, .aload_n 0, 1), (269, .getfield 21, 3), (272, .aload_n 0, 1), (273, .getfield 24, 3), (276, .invokestatic 60, 3), (279, .istore 4, 2), (281, .iload 4, 2), (283, .aload_n 0, 1), (284, .getfield 9, 3), (287, .invokestatic 64, 3), (290, .ifCond .eq (12), 3), (293, .iconst 1, 1), (294, .aload_n 0, 1), (295, .getfield 18, 3), (298, .ishl, 1), (299, .goto (4), 3), (302, .iconst 0, 1), (303, .ior, 1), (304, .istore 4, 2), (306, .iload 4, 2), (308, .aload_n 0, 1), (309, .getfield 9, 3), (312, .invokestatic 68, 3), (315, .ifCond .eq (12), 3)]
theorem id_Word_init_6 : ∀ q ∈ it_Word_init_6, decode prog_11_method_1_code q.1 = .ok q.2 := by decide +kernel
theorem d_Word_init_268 : decode prog_11_method_1_code 268 = .ok (.aload_n 0, 1) := id_Word_init_6 (268, .aload_n 0, 1) (List.mem_of_getElem? (i := 0) rfl)
theorem d_Word_init_269 : decode prog_11_method_1_code 269 = .ok (.getfield 21, 3) := id_Word_init_6 (269, .getfield 21, 3) (List.mem_of_getElem? (i := 1) rfl)
theorem d_Word_init_272 : decode prog_11_method_1_code 272 = .ok (.aload_n 0, 1) := id_Word_init_6 (272, .aload_n 0, 1) (List.mem_of_getElem? (i := 2) rfl)
theorem d_Word_init_273 : decode prog_11_method_1_code 273 = .ok (.getfield 24, 3) := id_Word_init_6 (273, .getfield 24, 3) (List.mem_of_getElem? (i := 3) rfl)
theorem d_Word_init_276 : decode prog_11_method_1_code 276 = .ok (.invokestatic 60, 3) := id_Word_init_6 (276, .invokestatic 60, 3) (List.mem_of_getElem? (i := 4) rfl)
theorem d_Word_init_279 : decode prog_11_method_1_code 279 = .ok (.istore 4, 2) := id_Word_init_6 (279, .istore 4, 2) (List.mem_of_getElem? (i := 5) rfl)
theorem d_Word_init_281 : decode prog_11_method_1_code 281 = .ok (.iload 4, 2) := id_Word_init_6 (281, .iload 4, 2) (List.mem_of_getElem? (i := 6) rfl)
theorem d_Word_init_283 : decode prog_11_method_1_code 283 = .ok (.aload_n 0, 1) := id_Word_init_6 (283, .aload_n 0, 1) (List.mem_of_getElem? (i := 7) rfl)
theorem d_Word_init_284 : decode prog_11_method_1_code 284 = .ok (.getfield 9, 3) := id_Word_init_6 (284, .getfield 9, 3) (List.mem_of_getElem? (i := 8) rfl)
theorem d_Word_init_287 : decode prog_11_method_1_code 287 = .ok (.invokestatic 64, 3) := id_Word_init_6 (287, .invokestatic 64, 3) (List.mem_of_getElem? (i := 9) rfl)
theorem d_Word_init_290 : decode prog_11_method_1_code 290 = .ok (.ifCond .eq (12), 3) := id_Word_init_6 (290, .ifCond .eq (12), 3) (List.mem_of_getElem? (i := 10) rfl)
theorem d_Word_init_293 : decode prog_11_method_1_code 293 = .ok (.iconst 1, 1) := id_Word_init_6 (293, .iconst 1, 1) (List.mem_of_getElem? (i := 11) rfl)
theorem d_Word_init_294 : decode prog_11_method_1_code 294 = .ok (.aload_n 0, 1) := id_Word_init_6 (294, .aload_n 0, 1) (List.mem_of_getElem? (i := 12) rfl)
theorem d_Word_init_295 : decode prog_11_method_1_code 295 = .ok (.getfield 18, 3) := id_Word_init_6 (295, .getfield 18, 3) (List.mem_of_getElem? (i := 13) rfl)
theorem d_Word_init_298 : decode prog_11_method_1_code 298 = .ok (.ishl, 1) := id_Word_init_6 (298, .ishl, 1) (List.mem_of_getElem? (i := 14) rfl)
theorem d_Word_init_299 : decode prog_11_method_1_code 299 = .ok (.goto (4), 3) := id_Word_init_6 (299, .goto (4), 3) (List.mem_of_getElem? (i := 15) rfl)
theorem d_Word_init_302 : decode prog_11_method_1_code 302 = .ok (.iconst 0, 1) := id_Word_init_6 (302, .iconst 0, 1) (List.mem_of_getElem? (i := 16) rfl)
theorem d_Word_init_303 : decode prog_11_method_1_code 303 = .ok (.ior, 1) := id_Word_init_6 (303, .ior, 1) (List.mem_of_getElem? (i := 17) rfl)
theorem d_Word_init_304 : decode prog_11_method_1_code 304 = .ok (.istore 4, 2) := id_Word_init_6 (304, .istore 4, 2) (List.mem_of_getElem? (i := 18) rfl)
theorem d_Word_init_306 : decode prog_11_method_1_code 306 = .ok (.iload 4, 2) := id_Word_init_6 (306, .iload 4, 2) (List.mem_of_getElem? (i := 19) rfl)
theorem d_Word_init_308 : decode prog_11_method_1_code 308 = .ok (.aload_n 0, 1) := id_Word_init_6 (308, .aload_n 0, 1) (List.mem_of_getElem? (i := 20) rfl)
theorem d_Word_init_309 : decode prog_11_method_1_code 309 = .ok (.getfield 9, 3) := id_Word_init_6 (309, .getfield 9, 3) (List.mem_of_getElem? (i := 21) rfl)
theorem d_Word_init_312 : decode prog_11_method_1_code 312 = .ok (.invokestatic 68, 3) := id_Word_init_6 (312, .invokestatic 68, 3) (List.mem_of_getElem? (i := 22) rfl)
theorem d_Word_init_315 : decode prog_11_method_1_code 315 = .ok (.ifCond .eq (12), 3) := id_Word_init_6 (315, .ifCond .eq (12), 3) (List.mem_of_getElem? (i := 23) rfl)
def it_Word_init_7 : List (Nat × ClassFile.Instr × Nat) := [(318, .iconst 1, 1), (319, .aload_n 0, 1), (320, .getfield 21, 3), (323, .ishl, 1), (324, .goto (4), 3), (327, .iconst 0, 1), (328, .ior, 1), (329, .istore 4, 2), (331, .iload 4, 2), (333, .aload_n 0, 1), (334, .getfield 57, 3), (337, .iconst (-1), 1), (338, .if_icmp .eq (12), 3), (341, .iconst 1, 1), (342, .aload_n 0, 1), (343, .getfield 57, 3), (346, .ishl, 1), (347, .goto (4), 3), (350, .iconst 0, 1), (351, .ior, 1), (352, .istore 4, 2), (354, .iload 4, 2), (356, .aload_n 0, 1), (357, .getfield 35, 3)]
theorem id_Word_init_7 : ∀ q ∈ it_Word_init_7, decode prog_11_method_1_code q.1 = .ok q.2 := by decide +kernel
theorem d_Word_init_318 : decode prog_11_method_1_code 318 = .ok (.iconst 1, 1) := id_Word_init_7 (318, .iconst 1, 1) (List.mem_of_getElem? (i := 0) rfl)
theorem d_Word_init_319 : decode prog_11_method_1_code 319 = .ok (.aload_n 0, 1) := id_Word_init_7 (319, .aload_n 0, 1) (List.mem_of_getElem? (i := 1) rfl)
theorem d_Word_init_320 : decode prog_11_method_1_code 320 = .ok (.getfield 21, 3) := id_Word_init_7 (320, .getfield 21, 3) (List.mem_of_getElem? (i := 2) rfl)
theorem d_Word_init_323 : decode prog_11_method_1_code 323 = .ok (.ishl, 1) := id_Word_init_7 (323, .ishl, 1) (List.mem_of_getElem? (i := 3) rfl)
theorem d_Word_init_324 : decode prog_11_method_1_code 324 = .ok (.goto (4), 3) := id_Word_init_7 (324, .goto (4), 3) (List.mem_of_getElem? (i := 4) rfl)
theorem d_Word_init_327 : decode prog_11_method_1_code 327 = .ok (.iconst 0, 1) := id_Word_init_7 (327, .iconst 0, 1) (List.mem_of_getElem? (i := 5) rfl)
theorem d_Word_init_328 : decode prog_11_method_1_code 328 = .ok (.ior, 1) := id_Word_init_7 (328, .ior, 1) (List.mem_of_getElem? (i := 6) rfl)
theorem d_Word_init_329 : decode prog_11_method_1_code 329 = .ok (.istore 4, 2) := id_Word_init_7 (329, .istore 4, 2) (List.mem_of_getElem? (i := 7) rfl)
theorem d_Word_init_331 : decode prog_11_method_1_code 331 = .ok (.iload 4, 2) := id_Word_init_7 (331, .iload 4, 2) (List.mem_of_getElem? (i := 8) rfl)
theorem d_Word_init_333 : decode prog_11_method_1_code 333 = .ok (.aload_n 0, 1) := id_Word_init_7 (333, .aload_n 0, 1) (List.mem_of_getElem? (i := 9) rfl)
theorem d_Word_init_334 : decode prog_11_method_1_code 334 = .ok (.getfield 57, 3) := id_Word_init_7 (334, .getfield 57, 3) (List.mem_of_getElem? (i := 10) rfl)
theorem d_Word_init_337 : decode prog_11_method_1_code 337 = .ok (.iconst (-1), 1) := id_Word_init_7 (337, .iconst (-1), 1) (List.mem_of_getElem? (i := 11) rfl)
theorem d_Word_init_338 : decode prog_11_method_1_code 338 = .ok (.if_icmp .eq (12), 3) := id_Word_init_7 (338, .if_icmp .eq (12), 3) (List.mem_of_getElem? (i := 12) rfl)
theorem d_Word_init_341 : decode prog_11_method_1_code 341 = .ok (.iconst 1, 1) := id_Word_init_7 (341, .iconst 1, 1) (List.mem_of_getElem? (i := 13) rfl)
theorem d_Word_init_342 : decode prog_11_method_1_code 342 = .ok (.aload_n 0, 1) := id_Word_init_7 (342, .aload_n 0, 1) (List.mem_of_getElem? (i := 14) rfl)
theorem d_Word_init_343 : decode prog_11_method_1_code 343 = .ok (.getfield 57, 3) := id_Word_init_7 (343, .getfield 57, 3) (List.mem_of_getElem? (i := 15) rfl)
theorem d_Word_init_346 : decode prog_11_method_1_code 346 = .ok (.ishl, 1) := id_Word_init_7 (346, .ishl, 1) (List.mem_of_getElem? (i := 16) rfl)
theorem d_Word_init_347 : decode prog_11_method_1_code 347 = .ok (.goto (4), 3) := id_Word_init_7 (347, .goto (4), 3) (List.mem_of_getElem? (i := 17) rfl)
theorem d_Word_init_350 : decode prog_11_method_1_code 350 = .ok (.iconst 0, 1) := id_Word_init_7 (350, .iconst 0, 1) (List.mem_of_getElem? (i := 18) rfl)
theorem d_Word_init_351 : decode prog_11_method_1_code 351 = .ok (.ior, 1) := id_Word_init_7 (351, .ior, 1) (List.mem_of_getElem? (i := 19) rfl)
theorem d_Word_init_352 : decode prog_11_method_1_code 352 = .ok (.istore 4, 2) := id_Word_init_7 (352, .istore 4, 2) (List.mem_of_getElem? (i := 20) rfl)
theorem d_Word_init_354 : decode prog_11_method_1_code 354 = .ok (.iload 4, 2) := id_Word_init_7 (354, .iload 4, 2) (List.mem_of_getElem? (i := 21) rfl)
theorem d_Word_init_356 : decode prog_11_method_1_code 356 = .ok (.aload_n 0, 1) := id_Word_init_7 (356, .aload_n 0, 1) (List.mem_of_getElem? (i := 22) rfl)
theorem d_Word_init_357 : decode prog_11_method_1_code 357 = .ok (.getfield 35, 3) := id_Word_init_7 (357, .getfield 35, 3) (List.mem_of_getElem? (i := 23) rfl)
def it_Word_init_8 : List (Nat × ClassFile.Instr × Nat) := [(360, .iconst (-1), 1), (361, .if_icmp .eq (13), 3), (364, .aload_n 0, 1), (365, .getfield 35, 3), (368, .invokestatic 71, 3), (371, .goto (4), 3), (374, .iconst 0, 1), (375, .ior, 1), (376, .istore 4, 2), (378, .aload_n 0, 1), (379, .aload_n 0, 1), (380, .getfield 31, 3), (383, .ifCond .eq (8), 3), (386, .iload 4, 2), (388, .goto (4), 3), (391, .iconst 0, 1), (392, .putfield 75, 3), (395, .aload_n 0, 1), (396, .aload_n 0, 1), (397, .getfield 9, 3), (400, .invokestatic 78, 3), (403, .putfield 81, 3), (406, .return_, 1)]
theorem id_Word_init_8 : ∀ q ∈ it_Word_init_8, decode prog_11_method_1_code q.1 = .ok q.2 := by decide +kernel
theorem d_Word_init_360 : decode prog_11_method_1_code 360 = .ok (.iconst (-1), 1) := id_Word_init_8 (360, .iconst (-1), 1) (List.mem_of_getElem? (i := 0) rfl)
theorem d_Word_init_361 : decode prog_11_method_1_code 361 = .ok (.if_icmp .eq (13), 3) := id_Word_init_8 (361, .if_icmp .eq (13), 3) (List.mem_of_getElem? (i := 1) rfl)
theorem d_Word_init_364 : decode prog_11_method_1_code 364 = .ok (.aload_n 0, 1) := id_Word_init_8 (364, .aload_n 0, 1) (List.mem_of_getElem? (i := 2) rfl)
theorem d_Word_init_365 : decode prog_11_method_1_code 365 = .ok (.getfield 35, 3) := id_Word_init_8 (365, .getfield 35, 3) (List.mem_of_getElem? (i := 3) rfl)
theorem d_Word_init_368 : decode prog_11_method_1_code 368 = .ok (.invokestatic 71, 3) := id_Word_init_8 (368, .invokestatic 71, 3) (List.mem_of_getElem? (i := 4) rfl)
theorem d_Word_init_371 : decode prog_11_method_1_code 371 = .ok (.goto (4), 3) := id_Word_init_8 (371, .goto (4), 3) (List.mem_of_getElem? (i := 5) rfl)
theorem d_Word_init_374 : decode prog_11_method_1_code 374 = .ok (.iconst 0, 1) := id_Word_init_8 (374, .iconst 0, 1) (List.mem_of_getElem? (i := 6) rfl)
theorem d_Word_init_375 : decode prog_11_method_1_code 375 = .ok (.ior, 1) := id_Word_init_8 (375, .ior, 1) (List.mem_of_getElem? (i := 7) rfl)
theorem d_Word_init_376 : decode prog_11_method_1_code 376 = .ok (.istore 4, 2) := id_Word_init_8 (376, .istore 4, 2) (List.mem_of_getElem? (i := 8) rfl)
theorem d_Word_init_378 : decode prog_11_method_1_code 378 = .ok (.aload_n 0, 1) := id_Word_init_8 (378, .aload_n 0, 1) (List.mem_of_getElem? (i := 9) rfl)
theorem d_Word_init_379 : decode prog_11_method_1_code 379 = .ok (.aload_n 0, 1) := id_Word_init_8 (379, .aload_n 0, 1) (List.mem_of_getElem? (i := 10) rfl)
theorem d_Word_init_380 : decode prog_11_method_1_code 380 = .ok (.getfield 31, 3) := id_Word_init_8 (380, .getfield 31, 3) (List.mem_of_getElem? (i := 11) rfl)
theorem d_Word_init_383 : decode prog_11_method_1_code 383 = .ok (.ifCond .eq (8), 3) := id_Word_init_8 (383, .ifCond .eq (8), 3) (List.mem_of_getElem? (i := 12) rfl)
theorem d_Word_init_386 : decode prog_11_method_1_code 386 = .ok (.iload 4, 2) := id_Word_init_8 (386, .iload 4, 2) (List.mem_of_getElem? (i := 13) rfl)
theorem d_Word_init_388 : decode prog_11_method_1_code 388 = .ok (.goto (4), 3) := id_Word_init_8 (388, .goto (4), 3) (List.mem_of_getElem? (i := 14) rfl)
theorem d_Word_init_391 : decode prog_11_method_1_code 391 = .ok (.iconst 0, 1) := id_Word_init_8 (391, .iconst 0, 1) (List.mem_of_getElem? (i := 15) rfl)
theorem d_Word_init_392 : decode prog_11_method_1_code 392 = .ok (.putfield 75, 3) := id_Word_init_8 (392, .putfield 75, 3) (List.mem_of_getElem? (i := 16) rfl)
theorem d_Word_init_395 : decode prog_11_method_1_code 395 = .ok (.aload_n 0, 1) := id_Word_init_8 (395, .aload_n 0, 1) (List.mem_of_getElem? (i := 17) rfl)
theorem d_Word_init_396 : decode prog_11_method_1_code 396 = .ok (.aload_n 0, 1) := id_Word_init_8 (396, .aload_n 0, 1) (List.mem_of_getElem? (i := 18) rfl)
theorem d_Word_init_397 : decode prog_11_method_1_code 397 = .ok (.getfield 9, 3) := id_Word_init_8 (397, .getfield 9, 3) (List.mem_of_getElem? (i := 19) rfl)
theorem d_Word_init_400 : decode prog_11_method_1_code 400 = .ok (.invokestatic 78, 3) := id_Word_init_8 (400, .invokestatic 78, 3) (List.mem_of_getElem? (i := 20) rfl)
theorem d_Word_init_403 : decode prog_11_method_1_code 403 = .ok (.putfield 81, 3) := id_Word_init_8 (403, .putfield 81, 3) (List.mem_of_getElem? (i := 21) rfl)
theorem d_Word_init_406 : decode prog_11_method_1_code 406 = .ok (.return_, 1) := id_Word_init_8 (406, .return_, 1) (List.mem_of_getElem? (i := 22) rfl)
theorem wC_Word_init : Cond.code ⟨"WarpMill$Word", "<init>", "(J)V"⟩ prog_11_method_1_code 5 (none) ∈ lw_tb := mem_tb 269 (by decide +kernel) rfl
theorem cw_Word_init_Word_isKnown : cW mi_Word_init mi_Word_isKnown 2 := ⟨wC_Word_isKnown, wi_Word, ⟨by decide, by decide, by decide +kernel⟩, by decide, by decide⟩
theorem cw_Word_init_Word_writtenBy : cW mi_Word_init mi_Word_writtenBy 2 := ⟨wC_Word_writtenBy, wi_Word, ⟨by decide, by decide, by decide +kernel⟩, by decide, by decide⟩
theorem cw_Word_init_Word_predicatesReadBy : cW mi_Word_init mi_Word_predicatesReadBy 4 := ⟨wC_Word_predicatesReadBy, wi_Word, ⟨by decide, by decide, by decide +kernel⟩, by decide, by decide⟩
theorem cw_Word_init_Word_readsA : cW mi_Word_init mi_Word_readsA 1 := ⟨wC_Word_readsA, wi_Word, ⟨by decide, by decide, by decide +kernel⟩, by decide, by decide⟩
theorem cw_Word_init_Word_readsB : cW mi_Word_init mi_Word_readsB 1 := ⟨wC_Word_readsB, wi_Word, ⟨by decide, by decide, by decide +kernel⟩, by decide, by decide⟩
theorem cw_Word_init_Word_tickOf : cW mi_Word_init mi_Word_tickOf 1 := ⟨wC_Word_tickOf, wi_Word, ⟨by decide, by decide, by decide +kernel⟩, by decide, by decide⟩
theorem cw_Word_init_Word_waitOf : cW mi_Word_init mi_Word_waitOf 1 := ⟨wC_Word_waitOf, wi_Word, ⟨by decide, by decide, by decide +kernel⟩, by decide, by decide⟩
def b_Word_init_392 (F : Nat) (x0 : Nat) (s0 : Nat) (s1 : Int32) (h : Hp) : Option Hp := gd (hK h s0 = 10) <| pw (sI h 589 s0 s1) fun h_392_2 => gd (hK h_392_2 x0 = 10) <| cl (f_Word_waitOf F (hI h_392_2 576 x0) h_392_2) fun v_400 h_400 => gd (hK h_400 x0 = 10) <| pw (sI h_400 590 x0 v_400) fun h_403_2 => some h_403_2
set_option maxRecDepth 100000 in
set_option maxHeartbeats 4000000 in
theorem e_Word_init_392 {G : Gl} (hw : gF G) {h0 : Hp} {F : Nat} {h' : Hp}   {x0 : Nat} {s0 : Nat} {s1 : Int32} {h : Hp} (hf : b_Word_init_392 F x0 s0 s1 h = some h') : Go G mi_Word_init h0 (pV h') h 392 [(0, .ref x0)] [.int s1, .ref s0] := by
  unfold b_Word_init_392 at hf
  obtain ⟨k_392, hf⟩ := gd_s hf
  refine fp_Word_needed hw lf_Word_75 d_Word_init_392 rfl rfl k_392 ?_
  have hf := pw_b hf
  refine g_aload_n d_Word_init_395 rfl ?_
  refine g_aload_n d_Word_init_396 rfl ?_
  obtain ⟨k_397, hf⟩ := gd_s hf
  refine fg_Word_op lf_Word_9 d_Word_init_397 k_397 ?_
  obtain ⟨v_400, h_400, e_400, hf⟩ := cl_s hf
  refine g_callS (mz := mi_Word_waitOf) (e_Word_waitOf e_400) cw_Word_init_Word_waitOf lm_Word_78 wS_Word_waitOf d_Word_init_400 rfl rfl (by first | exact Nat.le_of_ble_eq_true rfl | simp [cat_rf, Value.category]) (fun r1 h1 hp hro => ?_)
  obtain ⟨rfl, rfl⟩ := hp
  dsimp only [Option.toList_some, Option.toList_none, List.cons_append, List.nil_append]
  obtain ⟨k_403, hf⟩ := gd_s hf
  refine fp_Word_wait hw lf_Word_81 d_Word_init_403 rfl rfl k_403 ?_
  have hf := pw_b hf
  exact Go.ret none trivial rfl d_Word_init_406 (pV_of hf)
def b_Word_init_375 (F : Nat) (x0 : Nat) (s0 : Int32) (s1 : Int32) (h : Hp) : Option Hp := gd (hK h x0 = 10) <| if (hI h 581 x0) = 0 then (b_Word_init_392 F x0 x0 (0 : Int32) h) else (b_Word_init_392 F x0 x0 (s0 ||| s1) h)
set_option maxRecDepth 100000 in
set_option maxHeartbeats 4000000 in
theorem e_Word_init_375 {G : Gl} (hw : gF G) {h0 : Hp} {F : Nat} {h' : Hp}   {x0 : Nat} {s0 : Int32} {s1 : Int32} {h : Hp} (hf : b_Word_init_375 F x0 s0 s1 h = some h') : Go G mi_Word_init h0 (pV h') h 375 [(0, .ref x0)] [.int s1, .int s0] := by
  unfold b_Word_init_375 at hf
  refine g_ior d_Word_init_375 ?_
  refine g_istore d_Word_init_376 (by decide) ?_
  show Go _ _ _ _ _ _ [(0, _), (4, _)] _
  refine g_aload_n d_Word_init_378 rfl ?_
  refine g_aload_n d_Word_init_379 rfl ?_
  obtain ⟨k_380, hf⟩ := gd_s hf
  refine fg_Word_known lf_Word_31 d_Word_init_380 k_380 ?_
  refine g_if_eq 391 d_Word_init_383 (by decide) (fun c_383 => ?_) (fun c_383 => ?_)
  · have hf := ifp hf c_383
    refine g_iconst 0 d_Word_init_391 (by decide) ?_
    refine Go.locals [0] rfl ?_
    have key := e_Word_init_392 hw (G := G) (h0 := h0)  hf
    exact key
  · have hf := ifn hf c_383
    refine g_iload d_Word_init_386 rfl ?_
    refine g_goto 392 d_Word_init_388 (by decide) ?_
    refine Go.locals [0] rfl ?_
    have key := e_Word_init_392 hw (G := G) (h0 := h0)  hf
    exact key
def b_Word_init_351 (F : Nat) (x0 : Nat) (s0 : Int32) (s1 : Int32) (h : Hp) : Option Hp := gd (hK h x0 = 10) <| if (hI h 582 x0) = (-1 : Int32) then (b_Word_init_375 F x0 (s0 ||| s1) (0 : Int32) h) else (cl (f_Word_tickOf F (hI h 582 x0) h) fun v_368 h_368 => b_Word_init_375 F x0 (s0 ||| s1) v_368 h_368)
set_option maxRecDepth 100000 in
set_option maxHeartbeats 4000000 in
theorem e_Word_init_351 {G : Gl} (hw : gF G) {h0 : Hp} {F : Nat} {h' : Hp}   {x0 : Nat} {s0 : Int32} {s1 : Int32} {h : Hp} (hf : b_Word_init_351 F x0 s0 s1 h = some h') : Go G mi_Word_init h0 (pV h') h 351 [(0, .ref x0)] [.int s1, .int s0] := by
  unfold b_Word_init_351 at hf
  refine g_ior d_Word_init_351 ?_
  refine g_istore d_Word_init_352 (by decide) ?_
  show Go _ _ _ _ _ _ [(0, _), (4, _)] _
  refine g_iload d_Word_init_354 rfl ?_
  refine g_aload_n d_Word_init_356 rfl ?_
  obtain ⟨k_357, hf⟩ := gd_s hf
  refine fg_Word_guard lf_Word_35 d_Word_init_357 k_357 ?_
  refine g_iconst (-1) d_Word_init_360 (by decide) ?_
  refine g_icmp_eq 374 d_Word_init_361 (by decide) (fun c_361 => ?_) (fun c_361 => ?_)
  · have hf := ifp hf c_361
    refine g_iconst 0 d_Word_init_374 (by decide) ?_
    refine Go.locals [0] rfl ?_
    have key := e_Word_init_375 hw (G := G) (h0 := h0)  hf
    exact key
  · have hf := ifn hf c_361
    refine g_aload_n d_Word_init_364 rfl ?_
    refine fg_Word_guard lf_Word_35 d_Word_init_365 k_357 ?_
    obtain ⟨v_368, h_368, e_368, hf⟩ := cl_s hf
    refine g_callS (mz := mi_Word_tickOf) (e_Word_tickOf e_368) cw_Word_init_Word_tickOf lm_Word_71 wS_Word_tickOf d_Word_init_368 rfl rfl (by first | exact Nat.le_of_ble_eq_true rfl | simp [cat_rf, Value.category]) (fun r1 h1 hp hro => ?_)
    obtain ⟨rfl, rfl⟩ := hp
    dsimp only [Option.toList_some, Option.toList_none, List.cons_append, List.nil_append]
    refine g_goto 375 d_Word_init_371 (by decide) ?_
    refine Go.locals [0] rfl ?_
    have key := e_Word_init_375 hw (G := G) (h0 := h0)  hf
    exact key
def b_Word_init_328 (F : Nat) (x0 : Nat) (s0 : Int32) (s1 : Int32) (h : Hp) : Option Hp := gd (hK h x0 = 10) <| if (hI h 588 x0) = (-1 : Int32) then (b_Word_init_351 F x0 (s0 ||| s1) (0 : Int32) h) else (b_Word_init_351 F x0 (s0 ||| s1) ((1 : Int32) <<< ((hI h 588 x0) &&& 31)) h)
set_option maxRecDepth 100000 in
set_option maxHeartbeats 4000000 in
theorem e_Word_init_328 {G : Gl} (hw : gF G) {h0 : Hp} {F : Nat} {h' : Hp}   {x0 : Nat} {s0 : Int32} {s1 : Int32} {h : Hp} (hf : b_Word_init_328 F x0 s0 s1 h = some h') : Go G mi_Word_init h0 (pV h') h 328 [(0, .ref x0)] [.int s1, .int s0] := by
  unfold b_Word_init_328 at hf
  refine g_ior d_Word_init_328 ?_
  refine g_istore d_Word_init_329 (by decide) ?_
  show Go _ _ _ _ _ _ [(0, _), (4, _)] _
  refine g_iload d_Word_init_331 rfl ?_
  refine g_aload_n d_Word_init_333 rfl ?_
  obtain ⟨k_334, hf⟩ := gd_s hf
  refine fg_Word_written lf_Word_57 d_Word_init_334 k_334 ?_
  refine g_iconst (-1) d_Word_init_337 (by decide) ?_
  refine g_icmp_eq 350 d_Word_init_338 (by decide) (fun c_338 => ?_) (fun c_338 => ?_)
  · have hf := ifp hf c_338
    refine g_iconst 0 d_Word_init_350 (by decide) ?_
    refine Go.locals [0] rfl ?_
    have key := e_Word_init_351 hw (G := G) (h0 := h0)  hf
    exact key
  · have hf := ifn hf c_338
    refine g_iconst 1 d_Word_init_341 (by decide) ?_
    refine g_aload_n d_Word_init_342 rfl ?_
    refine fg_Word_written lf_Word_57 d_Word_init_343 k_334 ?_
    refine g_ishl d_Word_init_346 ?_
    refine g_goto 351 d_Word_init_347 (by decide) ?_
    refine Go.locals [0] rfl ?_
    have key := e_Word_init_351 hw (G := G) (h0 := h0)  hf
    exact key
def b_Word_init_303 (F : Nat) (x0 : Nat) (s0 : Int32) (s1 : Int32) (h : Hp) : Option Hp := gd (hK h x0 = 10) <| cl (f_Word_readsB F (hI h 576 x0) h) fun v_312 h_312 => if v_312 = 0 then (b_Word_init_328 F x0 (s0 ||| s1) (0 : Int32) h_312) else (gd (hK h_312 x0 = 10) <| b_Word_init_328 F x0 (s0 ||| s1) ((1 : Int32) <<< ((hI h_312 579 x0) &&& 31)) h_312)
set_option maxRecDepth 100000 in
set_option maxHeartbeats 4000000 in
theorem e_Word_init_303 {G : Gl} (hw : gF G) {h0 : Hp} {F : Nat} {h' : Hp}   {x0 : Nat} {s0 : Int32} {s1 : Int32} {h : Hp} (hf : b_Word_init_303 F x0 s0 s1 h = some h') : Go G mi_Word_init h0 (pV h') h 303 [(0, .ref x0)] [.int s1, .int s0] := by
  unfold b_Word_init_303 at hf
  refine g_ior d_Word_init_303 ?_
  refine g_istore d_Word_init_304 (by decide) ?_
  show Go _ _ _ _ _ _ [(0, _), (4, _)] _
  refine g_iload d_Word_init_306 rfl ?_
  refine g_aload_n d_Word_init_308 rfl ?_
  obtain ⟨k_309, hf⟩ := gd_s hf
  refine fg_Word_op lf_Word_9 d_Word_init_309 k_309 ?_
  obtain ⟨v_312, h_312, e_312, hf⟩ := cl_s hf
  refine g_callS (mz := mi_Word_readsB) (e_Word_readsB e_312) cw_Word_init_Word_readsB lm_Word_68 wS_Word_readsB d_Word_init_312 rfl rfl (by first | exact Nat.le_of_ble_eq_true rfl | simp [cat_rf, Value.category]) (fun r1 h1 hp hro => ?_)
  obtain ⟨rfl, rfl⟩ := hp
  dsimp only [Option.toList_some, Option.toList_none, List.cons_append, List.nil_append]
  refine g_if_eq 327 d_Word_init_315 (by decide) (fun c_315 => ?_) (fun c_315 => ?_)
  · have hf := ifp hf c_315
    refine g_iconst 0 d_Word_init_327 (by decide) ?_
    refine Go.locals [0] rfl ?_
    have key := e_Word_init_328 hw (G := G) (h0 := h0)  hf
    exact key
  · have hf := ifn hf c_315
    refine g_iconst 1 d_Word_init_318 (by decide) ?_
    refine g_aload_n d_Word_init_319 rfl ?_
    obtain ⟨k_320, hf⟩ := gd_s hf
    refine fg_Word_b lf_Word_21 d_Word_init_320 k_320 ?_
    refine g_ishl d_Word_init_323 ?_
    refine g_goto 328 d_Word_init_324 (by decide) ?_
    refine Go.locals [0] rfl ?_
    have key := e_Word_init_328 hw (G := G) (h0 := h0)  hf
    exact key
def b_Word_init_242 (F : Nat) (x0 : Nat) (s0 : Nat) (s1 : Int32) (h : Hp) : Option Hp := gd (hK h s0 = 10) <| gd (s1 = 0 ∨ s1 = 1) <| pw (sI h 587 s0 s1) fun h_242_3 => gd (hK h_242_3 x0 = 10) <| cl (f_Word_writtenBy F (hI h_242_3 576 x0) (hI h_242_3 577 x0) h_242_3) fun v_254 h_254 => gd (hK h_254 x0 = 10) <| pw (sI h_254 588 x0 v_254) fun h_257_2 => cl (f_Word_predicatesReadBy F (hI h_257_2 576 x0) (hI h_257_2 578 x0) (hI h_257_2 579 x0) (hI h_257_2 580 x0) h_257_2) fun v_276 h_276 => gd (hK h_276 x0 = 10) <| cl (f_Word_readsA F (hI h_276 576 x0) h_276) fun v_287 h_287 => if v_287 = 0 then (b_Word_init_303 F x0 v_276 (0 : Int32) h_287) else (gd (hK h_287 x0 = 10) <| b_Word_init_303 F x0 v_276 ((1 : Int32) <<< ((hI h_287 578 x0) &&& 31)) h_287)
set_option maxRecDepth 100000 in
set_option maxHeartbeats 4000000 in
theorem e_Word_init_242 {G : Gl} (hw : gF G) {h0 : Hp} {F : Nat} {h' : Hp}   {x0 : Nat} {s0 : Nat} {s1 : Int32} {h : Hp} (hf : b_Word_init_242 F x0 s0 s1 h = some h') : Go G mi_Word_init h0 (pV h') h 242 [(0, .ref x0)] [.int s1, .ref s0] := by
  unfold b_Word_init_242 at hf
  obtain ⟨k_242, hf⟩ := gd_s hf
  obtain ⟨b_242_2, hf⟩ := gd_s hf
  refine fp_Word_waitsForMemory hw b_242_2 lf_Word_50 d_Word_init_242 rfl rfl k_242 ?_
  have hf := pw_b hf
  refine g_aload_n d_Word_init_245 rfl ?_
  refine g_aload_n d_Word_init_246 rfl ?_
  obtain ⟨k_247, hf⟩ := gd_s hf
  refine fg_Word_op lf_Word_9 d_Word_init_247 k_247 ?_
  refine g_aload_n d_Word_init_250 rfl ?_
  refine fg_Word_d lf_Word_15 d_Word_init_251 k_247 ?_
  obtain ⟨v_254, h_254, e_254, hf⟩ := cl_s hf
  refine g_callS (mz := mi_Word_writtenBy) (e_Word_writtenBy e_254) cw_Word_init_Word_writtenBy lm_Word_53 wS_Word_writtenBy d_Word_init_254 rfl rfl (by first | exact Nat.le_of_ble_eq_true rfl | simp [cat_rf, Value.category]) (fun r1 h1 hp hro => ?_)
  obtain ⟨rfl, rfl⟩ := hp
  dsimp only [Option.toList_some, Option.toList_none, List.cons_append, List.nil_append]
  obtain ⟨k_257, hf⟩ := gd_s hf
  refine fp_Word_written hw lf_Word_57 d_Word_init_257 rfl rfl k_257 ?_
  have hf := pw_b hf
  refine g_aload_n d_Word_init_260 rfl ?_
  refine fg_Word_op lf_Word_9 d_Word_init_261 (kksI k_257) ?_
  refine g_aload_n d_Word_init_264 rfl ?_
  refine fg_Word_a lf_Word_18 d_Word_init_265 (kksI k_257) ?_
  refine g_aload_n d_Word_init_268 rfl ?_
  refine fg_Word_b lf_Word_21 d_Word_init_269 (kksI k_257) ?_
  refine g_aload_n d_Word_init_272 rfl ?_
  refine fg_Word_n lf_Word_24 d_Word_init_273 (kksI k_257) ?_
  obtain ⟨v_276, h_276, e_276, hf⟩ := cl_s hf
  refine g_callS (mz := mi_Word_predicatesReadBy) (e_Word_predicatesReadBy e_276) cw_Word_init_Word_predicatesReadBy lm_Word_60 wS_Word_predicatesReadBy d_Word_init_276 rfl rfl (by first | exact Nat.le_of_ble_eq_true rfl | simp [cat_rf, Value.category]) (fun r1 h1 hp hro => ?_)
  obtain ⟨rfl, rfl⟩ := hp
  dsimp only [Option.toList_some, Option.toList_none, List.cons_append, List.nil_append]
  refine g_istore d_Word_init_279 (by decide) ?_
  show Go _ _ _ _ _ _ [(0, _), (4, _)] _
  refine g_iload d_Word_init_281 rfl ?_
  refine g_aload_n d_Word_init_283 rfl ?_
  obtain ⟨k_284, hf⟩ := gd_s hf
  refine fg_Word_op lf_Word_9 d_Word_init_284 k_284 ?_
  obtain ⟨v_287, h_287, e_287, hf⟩ := cl_s hf
  refine g_callS (mz := mi_Word_readsA) (e_Word_readsA e_287) cw_Word_init_Word_readsA lm_Word_64 wS_Word_readsA d_Word_init_287 rfl rfl (by first | exact Nat.le_of_ble_eq_true rfl | simp [cat_rf, Value.category]) (fun r1 h1 hp hro => ?_)
  obtain ⟨rfl, rfl⟩ := hp
  dsimp only [Option.toList_some, Option.toList_none, List.cons_append, List.nil_append]
  refine g_if_eq 302 d_Word_init_290 (by decide) (fun c_290 => ?_) (fun c_290 => ?_)
  · have hf := ifp hf c_290
    refine g_iconst 0 d_Word_init_302 (by decide) ?_
    refine Go.locals [0] rfl ?_
    have key := e_Word_init_303 hw (G := G) (h0 := h0)  hf
    exact key
  · have hf := ifn hf c_290
    refine g_iconst 1 d_Word_init_293 (by decide) ?_
    refine g_aload_n d_Word_init_294 rfl ?_
    obtain ⟨k_295, hf⟩ := gd_s hf
    refine fg_Word_a lf_Word_18 d_Word_init_295 k_295 ?_
    refine g_ishl d_Word_init_298 ?_
    refine g_goto 303 d_Word_init_299 (by decide) ?_
    refine Go.locals [0] rfl ?_
    have key := e_Word_init_303 hw (G := G) (h0 := h0)  hf
    exact key
def b_Word_init_237 (F : Nat) (x0 : Nat) (s0 : Nat) (h : Hp) : Option Hp := b_Word_init_242 F x0 s0 (1 : Int32) h
set_option maxRecDepth 100000 in
set_option maxHeartbeats 4000000 in
theorem e_Word_init_237 {G : Gl} (hw : gF G) {h0 : Hp} {F : Nat} {h' : Hp}   {x0 : Nat} {s0 : Nat} {h : Hp} (hf : b_Word_init_237 F x0 s0 h = some h') : Go G mi_Word_init h0 (pV h') h 237 [(0, .ref x0)] [.ref s0] := by
  unfold b_Word_init_237 at hf
  refine g_iconst 1 d_Word_init_237 (by decide) ?_
  refine g_goto 242 d_Word_init_238 (by decide) ?_
  have key := e_Word_init_242 hw (G := G) (h0 := h0)  hf
  exact key
def b_Word_init_211 (F : Nat) (x0 : Nat) (s0 : Nat) (s1 : Int32) (h : Hp) : Option Hp := gd (hK h s0 = 10) <| gd (s1 = 0 ∨ s1 = 1) <| pw (sI h 586 s0 s1) fun h_211_3 => gd (hK h_211_3 x0 = 10) <| if (hI h_211_3 576 x0) = 0 then (b_Word_init_237 F x0 x0 h_211_3) else (if (hI h_211_3 576 x0) = (1 : Int32) then (b_Word_init_237 F x0 x0 h_211_3) else (if (hI h_211_3 585 x0) = 0 then (b_Word_init_242 F x0 x0 (0 : Int32) h_211_3) else (b_Word_init_237 F x0 x0 h_211_3)))
set_option maxRecDepth 100000 in
set_option maxHeartbeats 4000000 in
theorem e_Word_init_211 {G : Gl} (hw : gF G) {h0 : Hp} {F : Nat} {h' : Hp}   {x0 : Nat} {s0 : Nat} {s1 : Int32} {h : Hp} (hf : b_Word_init_211 F x0 s0 s1 h = some h') : Go G mi_Word_init h0 (pV h') h 211 [(0, .ref x0)] [.int s1, .ref s0] := by
  unfold b_Word_init_211 at hf
  obtain ⟨k_211, hf⟩ := gd_s hf
  obtain ⟨b_211_2, hf⟩ := gd_s hf
  refine fp_Word_usesShared hw b_211_2 lf_Word_47 d_Word_init_211 rfl rfl k_211 ?_
  have hf := pw_b hf
  refine g_aload_n d_Word_init_214 rfl ?_
  refine g_aload_n d_Word_init_215 rfl ?_
  obtain ⟨k_216, hf⟩ := gd_s hf
  refine fg_Word_op lf_Word_9 d_Word_init_216 k_216 ?_
  refine g_if_eq 237 d_Word_init_219 (by decide) (fun c_219 => ?_) (fun c_219 => ?_)
  · have hf := ifp hf c_219
    have key := e_Word_init_237 hw (G := G) (h0 := h0)  hf
    exact key
  · have hf := ifn hf c_219
    refine g_aload_n d_Word_init_222 rfl ?_
    refine fg_Word_op lf_Word_9 d_Word_init_223 k_216 ?_
    refine g_iconst 1 d_Word_init_226 (by decide) ?_
    refine g_icmp_eq 237 d_Word_init_227 (by decide) (fun c_227 => ?_) (fun c_227 => ?_)
    · have hf := ifp hf c_227
      have key := e_Word_init_237 hw (G := G) (h0 := h0)  hf
      exact key
    · have hf := ifn hf c_227
      refine g_aload_n d_Word_init_230 rfl ?_
      refine fg_Word_usesMemory lf_Word_44 d_Word_init_231 k_216 ?_
      refine g_if_eq 241 d_Word_init_234 (by decide) (fun c_234 => ?_) (fun c_234 => ?_)
      · have hf := ifp hf c_234
        refine g_iconst 0 d_Word_init_241 (by decide) ?_
        have key := e_Word_init_242 hw (G := G) (h0 := h0)  hf
        exact key
      · have hf := ifn hf c_234
        have key := e_Word_init_237 hw (G := G) (h0 := h0)  hf
        exact key
def b_Word_init_206 (F : Nat) (x0 : Nat) (s0 : Nat) (h : Hp) : Option Hp := b_Word_init_211 F x0 s0 (1 : Int32) h
set_option maxRecDepth 100000 in
set_option maxHeartbeats 4000000 in
theorem e_Word_init_206 {G : Gl} (hw : gF G) {h0 : Hp} {F : Nat} {h' : Hp}   {x0 : Nat} {s0 : Nat} {h : Hp} (hf : b_Word_init_206 F x0 s0 h = some h') : Go G mi_Word_init h0 (pV h') h 206 [(0, .ref x0)] [.ref s0] := by
  unfold b_Word_init_206 at hf
  refine g_iconst 1 d_Word_init_206 (by decide) ?_
  refine g_goto 211 d_Word_init_207 (by decide) ?_
  have key := e_Word_init_211 hw (G := G) (h0 := h0)  hf
  exact key
def b_Word_init_166 (F : Nat) (x0 : Nat) (s0 : Nat) (s1 : Int32) (h : Hp) : Option Hp := gd (hK h s0 = 10) <| gd (s1 = 0 ∨ s1 = 1) <| pw (sI h 585 s0 s1) fun h_166_3 => gd (hK h_166_3 x0 = 10) <| if (hI h_166_3 576 x0) = (52 : Int32) then (b_Word_init_206 F x0 x0 h_166_3) else (if (hI h_166_3 576 x0) = (53 : Int32) then (b_Word_init_206 F x0 x0 h_166_3) else (if (hI h_166_3 576 x0) = (58 : Int32) then (b_Word_init_206 F x0 x0 h_166_3) else (if (hI h_166_3 576 x0) = (59 : Int32) then (b_Word_init_206 F x0 x0 h_166_3) else (b_Word_init_211 F x0 x0 (0 : Int32) h_166_3))))
set_option maxRecDepth 100000 in
set_option maxHeartbeats 4000000 in
theorem e_Word_init_166 {G : Gl} (hw : gF G) {h0 : Hp} {F : Nat} {h' : Hp}   {x0 : Nat} {s0 : Nat} {s1 : Int32} {h : Hp} (hf : b_Word_init_166 F x0 s0 s1 h = some h') : Go G mi_Word_init h0 (pV h') h 166 [(0, .ref x0)] [.int s1, .ref s0] := by
  unfold b_Word_init_166 at hf
  obtain ⟨k_166, hf⟩ := gd_s hf
  obtain ⟨b_166_2, hf⟩ := gd_s hf
  refine fp_Word_usesMemory hw b_166_2 lf_Word_44 d_Word_init_166 rfl rfl k_166 ?_
  have hf := pw_b hf
  refine g_aload_n d_Word_init_169 rfl ?_
  refine g_aload_n d_Word_init_170 rfl ?_
  obtain ⟨k_171, hf⟩ := gd_s hf
  refine fg_Word_op lf_Word_9 d_Word_init_171 k_171 ?_
  refine g_bipush (52) d_Word_init_174 (by decide) ?_
  refine g_icmp_eq 206 d_Word_init_176 (by decide) (fun c_176 => ?_) (fun c_176 => ?_)
  · have hf := ifp hf c_176
    have key := e_Word_init_206 hw (G := G) (h0 := h0)  hf
    exact key
  · have hf := ifn hf c_176
    refine g_aload_n d_Word_init_179 rfl ?_
    refine fg_Word_op lf_Word_9 d_Word_init_180 k_171 ?_
    refine g_bipush (53) d_Word_init_183 (by decide) ?_
    refine g_icmp_eq 206 d_Word_init_185 (by decide) (fun c_185 => ?_) (fun c_185 => ?_)
    · have hf := ifp hf c_185
      have key := e_Word_init_206 hw (G := G) (h0 := h0)  hf
      exact key
    · have hf := ifn hf c_185
      refine g_aload_n d_Word_init_188 rfl ?_
      refine fg_Word_op lf_Word_9 d_Word_init_189 k_171 ?_
      refine g_bipush (58) d_Word_init_192 (by decide) ?_
      refine g_icmp_eq 206 d_Word_init_194 (by decide) (fun c_194 => ?_) (fun c_194 => ?_)
      · have hf := ifp hf c_194
        have key := e_Word_init_206 hw (G := G) (h0 := h0)  hf
        exact key
      · have hf := ifn hf c_194
        refine g_aload_n d_Word_init_197 rfl ?_
        refine fg_Word_op lf_Word_9 d_Word_init_198 k_171 ?_
        refine g_bipush (59) d_Word_init_201 (by decide) ?_
        refine g_icmp_ne 210 d_Word_init_203 (by decide) (fun c_203 => ?_) (fun c_203 => ?_)
        · have hf := ifn hf c_203
          refine g_iconst 0 d_Word_init_210 (by decide) ?_
          have key := e_Word_init_211 hw (G := G) (h0 := h0)  hf
          exact key
        · have hf := ifp hf c_203
          have key := e_Word_init_206 hw (G := G) (h0 := h0)  hf
          exact key
def b_Word_init_165 (F : Nat) (x0 : Nat) (s0 : Nat) (h : Hp) : Option Hp := b_Word_init_166 F x0 s0 (0 : Int32) h
set_option maxRecDepth 100000 in
set_option maxHeartbeats 4000000 in
theorem e_Word_init_165 {G : Gl} (hw : gF G) {h0 : Hp} {F : Nat} {h' : Hp}   {x0 : Nat} {s0 : Nat} {h : Hp} (hf : b_Word_init_165 F x0 s0 h = some h') : Go G mi_Word_init h0 (pV h') h 165 [(0, .ref x0)] [.ref s0] := by
  unfold b_Word_init_165 at hf
  refine g_iconst 0 d_Word_init_165 (by decide) ?_
  have key := e_Word_init_166 hw (G := G) (h0 := h0)  hf
  exact key
def b_Word_init_139 (F : Nat) (x0 : Nat) (s0 : Nat) (s1 : Int32) (h : Hp) : Option Hp := gd (hK h s0 = 10) <| gd (s1 = 0 ∨ s1 = 1) <| pw (sI h 584 s0 s1) fun h_139_3 => gd (hK h_139_3 x0 = 10) <| if (hI h_139_3 576 x0) < (50 : Int32) then (b_Word_init_165 F x0 x0 h_139_3) else (if (59 : Int32) < (hI h_139_3 576 x0) then (b_Word_init_165 F x0 x0 h_139_3) else (b_Word_init_166 F x0 x0 (1 : Int32) h_139_3))
set_option maxRecDepth 100000 in
set_option maxHeartbeats 4000000 in
theorem e_Word_init_139 {G : Gl} (hw : gF G) {h0 : Hp} {F : Nat} {h' : Hp}   {x0 : Nat} {s0 : Nat} {s1 : Int32} {h : Hp} (hf : b_Word_init_139 F x0 s0 s1 h = some h') : Go G mi_Word_init h0 (pV h') h 139 [(0, .ref x0)] [.int s1, .ref s0] := by
  unfold b_Word_init_139 at hf
  obtain ⟨k_139, hf⟩ := gd_s hf
  obtain ⟨b_139_2, hf⟩ := gd_s hf
  refine fp_Word_divides hw b_139_2 lf_Word_41 d_Word_init_139 rfl rfl k_139 ?_
  have hf := pw_b hf
  refine g_aload_n d_Word_init_142 rfl ?_
  refine g_aload_n d_Word_init_143 rfl ?_
  obtain ⟨k_144, hf⟩ := gd_s hf
  refine fg_Word_op lf_Word_9 d_Word_init_144 k_144 ?_
  refine g_bipush (50) d_Word_init_147 (by decide) ?_
  refine g_icmp_lt 165 d_Word_init_149 (by decide) (fun c_149 => ?_) (fun c_149 => ?_)
  · have hf := ifp hf c_149
    have key := e_Word_init_165 hw (G := G) (h0 := h0)  hf
    exact key
  · have hf := ifn hf c_149
    refine g_aload_n d_Word_init_152 rfl ?_
    refine fg_Word_op lf_Word_9 d_Word_init_153 k_144 ?_
    refine g_bipush (59) d_Word_init_156 (by decide) ?_
    refine g_icmp_gt 165 d_Word_init_158 (by decide) (fun c_158 => ?_) (fun c_158 => ?_)
    · have hf := ifp hf c_158
      have key := e_Word_init_165 hw (G := G) (h0 := h0)  hf
      exact key
    · have hf := ifn hf c_158
      refine g_iconst 1 d_Word_init_161 (by decide) ?_
      refine g_goto 166 d_Word_init_162 (by decide) ?_
      have key := e_Word_init_166 hw (G := G) (h0 := h0)  hf
      exact key
def b_Word_init_134 (F : Nat) (x0 : Nat) (s0 : Nat) (h : Hp) : Option Hp := b_Word_init_139 F x0 s0 (1 : Int32) h
set_option maxRecDepth 100000 in
set_option maxHeartbeats 4000000 in
theorem e_Word_init_134 {G : Gl} (hw : gF G) {h0 : Hp} {F : Nat} {h' : Hp}   {x0 : Nat} {s0 : Nat} {h : Hp} (hf : b_Word_init_134 F x0 s0 h = some h') : Go G mi_Word_init h0 (pV h') h 134 [(0, .ref x0)] [.ref s0] := by
  unfold b_Word_init_134 at hf
  refine g_iconst 1 d_Word_init_134 (by decide) ?_
  refine g_goto 139 d_Word_init_135 (by decide) ?_
  have key := e_Word_init_139 hw (G := G) (h0 := h0)  hf
  exact key
def b_Word_init_112 (F : Nat) (x0 : Nat) (s0 : Nat) (s1 : Int32) (h : Hp) : Option Hp := gd (hK h s0 = 10) <| gd (s1 = 0 ∨ s1 = 1) <| pw (sI h 583 s0 s1) fun h_112_3 => gd (hK h_112_3 x0 = 10) <| if (hI h_112_3 576 x0) = (7 : Int32) then (b_Word_init_134 F x0 x0 h_112_3) else (if (hI h_112_3 576 x0) = (8 : Int32) then (b_Word_init_134 F x0 x0 h_112_3) else (b_Word_init_139 F x0 x0 (0 : Int32) h_112_3))
set_option maxRecDepth 100000 in
set_option maxHeartbeats 4000000 in
theorem e_Word_init_112 {G : Gl} (hw : gF G) {h0 : Hp} {F : Nat} {h' : Hp}   {x0 : Nat} {s0 : Nat} {s1 : Int32} {h : Hp} (hf : b_Word_init_112 F x0 s0 s1 h = some h') : Go G mi_Word_init h0 (pV h') h 112 [(0, .ref x0)] [.int s1, .ref s0] := by
  unfold b_Word_init_112 at hf
  obtain ⟨k_112, hf⟩ := gd_s hf
  obtain ⟨b_112_2, hf⟩ := gd_s hf
  refine fp_Word_guardIsFalse hw b_112_2 lf_Word_38 d_Word_init_112 rfl rfl k_112 ?_
  have hf := pw_b hf
  refine g_aload_n d_Word_init_115 rfl ?_
  refine g_aload_n d_Word_init_116 rfl ?_
  obtain ⟨k_117, hf⟩ := gd_s hf
  refine fg_Word_op lf_Word_9 d_Word_init_117 k_117 ?_
  refine g_bipush (7) d_Word_init_120 (by decide) ?_
  refine g_icmp_eq 134 d_Word_init_122 (by decide) (fun c_122 => ?_) (fun c_122 => ?_)
  · have hf := ifp hf c_122
    have key := e_Word_init_134 hw (G := G) (h0 := h0)  hf
    exact key
  · have hf := ifn hf c_122
    refine g_aload_n d_Word_init_125 rfl ?_
    refine fg_Word_op lf_Word_9 d_Word_init_126 k_117 ?_
    refine g_bipush (8) d_Word_init_129 (by decide) ?_
    refine g_icmp_ne 138 d_Word_init_131 (by decide) (fun c_131 => ?_) (fun c_131 => ?_)
    · have hf := ifn hf c_131
      refine g_iconst 0 d_Word_init_138 (by decide) ?_
      have key := e_Word_init_139 hw (G := G) (h0 := h0)  hf
      exact key
    · have hf := ifp hf c_131
      have key := e_Word_init_134 hw (G := G) (h0 := h0)  hf
      exact key
def b_Word_init_97 (F : Nat) (x0 : Nat) (x3 : Int32) (s0 : Nat) (s1 : Int32) (h : Hp) : Option Hp := gd (hK h s0 = 10) <| pw (sI h 582 s0 s1) fun h_97_2 => if (x3 &&& (4 : Int32)) = 0 then (b_Word_init_112 F x0 x0 (0 : Int32) h_97_2) else (b_Word_init_112 F x0 x0 (1 : Int32) h_97_2)
set_option maxRecDepth 100000 in
set_option maxHeartbeats 4000000 in
theorem e_Word_init_97 {G : Gl} (hw : gF G) {h0 : Hp} {F : Nat} {h' : Hp}   {x0 : Nat} {x3 : Int32} {s0 : Nat} {s1 : Int32} {h : Hp} (hf : b_Word_init_97 F x0 x3 s0 s1 h = some h') : Go G mi_Word_init h0 (pV h') h 97 [(0, .ref x0), (3, .int x3)] [.int s1, .ref s0] := by
  unfold b_Word_init_97 at hf
  obtain ⟨k_97, hf⟩ := gd_s hf
  refine fp_Word_guard hw lf_Word_35 d_Word_init_97 rfl rfl k_97 ?_
  have hf := pw_b hf
  refine g_aload_n d_Word_init_100 rfl ?_
  refine g_iload_n d_Word_init_101 rfl ?_
  refine g_iconst 4 d_Word_init_102 (by decide) ?_
  refine g_iand d_Word_init_103 ?_
  refine g_if_eq 111 d_Word_init_104 (by decide) (fun c_104 => ?_) (fun c_104 => ?_)
  · have hf := ifp hf c_104
    refine g_iconst 0 d_Word_init_111 (by decide) ?_
    refine Go.locals [0] rfl ?_
    have key := e_Word_init_112 hw (G := G) (h0 := h0)  hf
    exact key
  · have hf := ifn hf c_104
    refine g_iconst 1 d_Word_init_107 (by decide) ?_
    refine g_goto 112 d_Word_init_108 (by decide) ?_
    refine Go.locals [0] rfl ?_
    have key := e_Word_init_112 hw (G := G) (h0 := h0)  hf
    exact key
def f_Word_init (F : Nat) (x0 : Nat) (x1 : Int64) (h : Hp) : Option Hp := gd (hK h x0 = 10) <| pw (sI h 576 x0 ((Int64.toInt32 x1) &&& (255 : Int32))) fun h_11_2 => pw (sI h_11_2 577 x0 ((Int64.toInt32 (x1 >>> (Int32.toInt64 (8 : Int32) &&& 63))) &&& (15 : Int32))) fun h_23 => pw (sI h_23 578 x0 ((Int64.toInt32 (x1 >>> (Int32.toInt64 (12 : Int32) &&& 63))) &&& (15 : Int32))) fun h_35 => pw (sI h_35 579 x0 ((Int64.toInt32 (x1 >>> (Int32.toInt64 (16 : Int32) &&& 63))) &&& (15 : Int32))) fun h_47 => pw (sI h_47 580 x0 (Int64.toInt32 (x1 >>> (Int32.toInt64 (32 : Int32) &&& 63)))) fun h_56 => cl (f_Word_isKnown F (hI h_56 576 x0) (hI h_56 580 x0) h_56) fun v_77 h_77 => gd (hK h_77 x0 = 10) <| gd (v_77 = 0 ∨ v_77 = 1) <| pw (sI h_77 581 x0 v_77) fun h_80_3 => if ((Int64.toInt32 (x1 >>> (Int32.toInt64 (20 : Int32) &&& 63))) &&& (15 : Int32)) < (8 : Int32) then (b_Word_init_97 F x0 ((Int64.toInt32 (x1 >>> (Int32.toInt64 (20 : Int32) &&& 63))) &&& (15 : Int32)) x0 (-1 : Int32) h_80_3) else (b_Word_init_97 F x0 ((Int64.toInt32 (x1 >>> (Int32.toInt64 (20 : Int32) &&& 63))) &&& (15 : Int32)) x0 (((Int64.toInt32 (x1 >>> (Int32.toInt64 (20 : Int32) &&& 63))) &&& (15 : Int32)) &&& (3 : Int32)) h_80_3)
set_option maxRecDepth 100000 in
set_option maxHeartbeats 4000000 in
theorem e_Word_init {G : Gl} (hw : gF G) {F : Nat} {h' : Hp} {x0 : Nat} {x1 : Int64} {h : Hp} (hf : f_Word_init F x0 x1 h = some h') : Ex G mi_Word_init [.ref x0, .long x1] h (pV h') := by
  unfold f_Word_init at hf
  refine Ex.of nmV (by decide) (Nat.le_of_ble_eq_true rfl) ?_
  show Go G mi_Word_init h _ h 0 [(0, .ref x0), (1, .long x1)] []
  refine g_aload_n d_Word_init_0 rfl ?_
  refine g_objInit lm_Word_3 wI_Object_init wC_obj (Nat.le_of_ble_eq_true rfl) (Nat.le_of_ble_eq_true rfl) d_Word_init_1 ?_
  refine g_aload_n d_Word_init_4 rfl ?_
  refine g_lload_n d_Word_init_5 rfl ?_
  refine g_l2i d_Word_init_6 ?_
  refine g_sipush (255) d_Word_init_7 (by decide) ?_
  refine g_iand d_Word_init_10 ?_
  obtain ⟨k_11, hf⟩ := gd_s hf
  refine fp_Word_op hw lf_Word_9 d_Word_init_11 rfl rfl k_11 ?_
  have hf := pw_b hf
  refine g_aload_n d_Word_init_14 rfl ?_
  refine g_lload_n d_Word_init_15 rfl ?_
  refine g_bipush (8) d_Word_init_16 (by decide) ?_
  refine g_lshr d_Word_init_18 ?_
  refine g_l2i d_Word_init_19 ?_
  refine g_bipush (15) d_Word_init_20 (by decide) ?_
  refine g_iand d_Word_init_22 ?_
  refine fp_Word_d hw lf_Word_15 d_Word_init_23 rfl rfl (kksI k_11) ?_
  have hf := pw_b hf
  refine g_aload_n d_Word_init_26 rfl ?_
  refine g_lload_n d_Word_init_27 rfl ?_
  refine g_bipush (12) d_Word_init_28 (by decide) ?_
  refine g_lshr d_Word_init_30 ?_
  refine g_l2i d_Word_init_31 ?_
  refine g_bipush (15) d_Word_init_32 (by decide) ?_
  refine g_iand d_Word_init_34 ?_
  refine fp_Word_a hw lf_Word_18 d_Word_init_35 rfl rfl (kksI (kksI k_11)) ?_
  have hf := pw_b hf
  refine g_aload_n d_Word_init_38 rfl ?_
  refine g_lload_n d_Word_init_39 rfl ?_
  refine g_bipush (16) d_Word_init_40 (by decide) ?_
  refine g_lshr d_Word_init_42 ?_
  refine g_l2i d_Word_init_43 ?_
  refine g_bipush (15) d_Word_init_44 (by decide) ?_
  refine g_iand d_Word_init_46 ?_
  refine fp_Word_b hw lf_Word_21 d_Word_init_47 rfl rfl (kksI (kksI (kksI k_11))) ?_
  have hf := pw_b hf
  refine g_aload_n d_Word_init_50 rfl ?_
  refine g_lload_n d_Word_init_51 rfl ?_
  refine g_bipush (32) d_Word_init_52 (by decide) ?_
  refine g_lshr d_Word_init_54 ?_
  refine g_l2i d_Word_init_55 ?_
  refine fp_Word_n hw lf_Word_24 d_Word_init_56 rfl rfl (kksI (kksI (kksI (kksI k_11)))) ?_
  have hf := pw_b hf
  refine g_lload_n d_Word_init_59 rfl ?_
  refine g_bipush (20) d_Word_init_60 (by decide) ?_
  refine g_lshr d_Word_init_62 ?_
  refine g_l2i d_Word_init_63 ?_
  refine g_bipush (15) d_Word_init_64 (by decide) ?_
  refine g_iand d_Word_init_66 ?_
  refine g_istore_n d_Word_init_67 (by decide) ?_
  show Go _ _ _ _ _ _ [(0, _), (1, _), (3, _)] _
  refine g_aload_n d_Word_init_68 rfl ?_
  refine g_aload_n d_Word_init_69 rfl ?_
  refine fg_Word_op lf_Word_9 d_Word_init_70 (kksI (kksI (kksI (kksI (kksI k_11))))) ?_
  refine g_aload_n d_Word_init_73 rfl ?_
  refine fg_Word_n lf_Word_24 d_Word_init_74 (kksI (kksI (kksI (kksI (kksI k_11))))) ?_
  obtain ⟨v_77, h_77, e_77, hf⟩ := cl_s hf
  refine g_callS (mz := mi_Word_isKnown) (e_Word_isKnown e_77) cw_Word_init_Word_isKnown lm_Word_27 wS_Word_isKnown d_Word_init_77 rfl rfl (by first | exact Nat.le_of_ble_eq_true rfl | simp [cat_rf, Value.category]) (fun r1 h1 hp hro => ?_)
  obtain ⟨rfl, rfl⟩ := hp
  dsimp only [Option.toList_some, Option.toList_none, List.cons_append, List.nil_append]
  obtain ⟨k_80, hf⟩ := gd_s hf
  obtain ⟨b_80_2, hf⟩ := gd_s hf
  refine fp_Word_known hw b_80_2 lf_Word_31 d_Word_init_80 rfl rfl k_80 ?_
  have hf := pw_b hf
  refine g_aload_n d_Word_init_83 rfl ?_
  refine g_iload_n d_Word_init_84 rfl ?_
  refine g_bipush (8) d_Word_init_85 (by decide) ?_
  refine g_icmp_lt 96 d_Word_init_87 (by decide) (fun c_87 => ?_) (fun c_87 => ?_)
  · have hf := ifp hf c_87
    refine g_iconst (-1) d_Word_init_96 (by decide) ?_
    refine Go.locals [0, 2] rfl ?_
    have key := e_Word_init_97 hw (G := G) (h0 := h)  hf
    exact key
  · have hf := ifn hf c_87
    refine g_iload_n d_Word_init_90 rfl ?_
    refine g_iconst 3 d_Word_init_91 (by decide) ?_
    refine g_iand d_Word_init_92 ?_
    refine g_goto 97 d_Word_init_93 (by decide) ?_
    refine Go.locals [0, 2] rfl ?_
    have key := e_Word_init_97 hw (G := G) (h0 := h)  hf
    exact key
abbrev mi_Unit_init : MI := (⟨"WarpMill$Unit", "<init>", "(I)V"⟩, prog_9_method_1_code, 2, none, 1, 21)
def it_Unit_init_0 : List (Nat × ClassFile.Instr × Nat) := [(0, .aload_n 0, 1), (1, .invokespecial 3, 3), (4, .aload_n 0, 1), (5, .bipush (16), 2), (7, .anewarray 9, 3), (10, .putfield 11, 3), (13, .aload_n 0, 1), (14, .bipush (32), 2), (16, .newarray .int, 2), (18, .putfield 17, 3), (21, .aload_n 0, 1), (22, .iload_n 1, 1), (23, .putfield 21, 3), (26, .aload_n 0, 1), (27, .iload_n 1, 1), (28, .putfield 25, 3), (31, .aload_n 0, 1), (32, .iload_n 1, 1), (33, .iconst 1, 1), (34, .isub, 1), (35, .putfield 28, 3), (38, .return_, 1)]
theorem id_Unit_init_0 : ∀ q ∈ it_Unit_init_0, decode prog_9_method_1_code q.1 = .ok q.2 := by decide +kernel
theorem d_Unit_init_0 : decode prog_9_method_1_code 0 = .ok (.aload_n 0, 1) := id_Unit_init_0 (0, .aload_n 0, 1) (List.mem_of_getElem? (i := 0) rfl)
theorem d_Unit_init_1 : decode prog_9_method_1_code 1 = .ok (.invokespecial 3, 3) := id_Unit_init_0 (1, .invokespecial 3, 3) (List.mem_of_getElem? (i := 1) rfl)
theorem d_Unit_init_4 : decode prog_9_method_1_code 4 = .ok (.aload_n 0, 1) := id_Unit_init_0 (4, .aload_n 0, 1) (List.mem_of_getElem? (i := 2) rfl)
theorem d_Unit_init_5 : decode prog_9_method_1_code 5 = .ok (.bipush (16), 2) := id_Unit_init_0 (5, .bipush (16), 2) (List.mem_of_getElem? (i := 3) rfl)
theorem d_Unit_init_7 : decode prog_9_method_1_code 7 = .ok (.anewarray 9, 3) := id_Unit_init_0 (7, .anewarray 9, 3) (List.mem_of_getElem? (i := 4) rfl)
theorem d_Unit_init_10 : decode prog_9_method_1_code 10 = .ok (.putfield 11, 3) := id_Unit_init_0 (10, .putfield 11, 3) (List.mem_of_getElem? (i := 5) rfl)
theorem d_Unit_init_13 : decode prog_9_method_1_code 13 = .ok (.aload_n 0, 1) := id_Unit_init_0 (13, .aload_n 0, 1) (List.mem_of_getElem? (i := 6) rfl)
theorem d_Unit_init_14 : decode prog_9_method_1_code 14 = .ok (.bipush (32), 2) := id_Unit_init_0 (14, .bipush (32), 2) (List.mem_of_getElem? (i := 7) rfl)
theorem d_Unit_init_16 : decode prog_9_method_1_code 16 = .ok (.newarray .int, 2) := id_Unit_init_0 (16, .newarray .int, 2) (List.mem_of_getElem? (i := 8) rfl)
theorem d_Unit_init_18 : decode prog_9_method_1_code 18 = .ok (.putfield 17, 3) := id_Unit_init_0 (18, .putfield 17, 3) (List.mem_of_getElem? (i := 9) rfl)
theorem d_Unit_init_21 : decode prog_9_method_1_code 21 = .ok (.aload_n 0, 1) := id_Unit_init_0 (21, .aload_n 0, 1) (List.mem_of_getElem? (i := 10) rfl)
theorem d_Unit_init_22 : decode prog_9_method_1_code 22 = .ok (.iload_n 1, 1) := id_Unit_init_0 (22, .iload_n 1, 1) (List.mem_of_getElem? (i := 11) rfl)
theorem d_Unit_init_23 : decode prog_9_method_1_code 23 = .ok (.putfield 21, 3) := id_Unit_init_0 (23, .putfield 21, 3) (List.mem_of_getElem? (i := 12) rfl)
theorem d_Unit_init_26 : decode prog_9_method_1_code 26 = .ok (.aload_n 0, 1) := id_Unit_init_0 (26, .aload_n 0, 1) (List.mem_of_getElem? (i := 13) rfl)
theorem d_Unit_init_27 : decode prog_9_method_1_code 27 = .ok (.iload_n 1, 1) := id_Unit_init_0 (27, .iload_n 1, 1) (List.mem_of_getElem? (i := 14) rfl)
theorem d_Unit_init_28 : decode prog_9_method_1_code 28 = .ok (.putfield 25, 3) := id_Unit_init_0 (28, .putfield 25, 3) (List.mem_of_getElem? (i := 15) rfl)
theorem d_Unit_init_31 : decode prog_9_method_1_code 31 = .ok (.aload_n 0, 1) := id_Unit_init_0 (31, .aload_n 0, 1) (List.mem_of_getElem? (i := 16) rfl)
theorem d_Unit_init_32 : decode prog_9_method_1_code 32 = .ok (.iload_n 1, 1) := id_Unit_init_0 (32, .iload_n 1, 1) (List.mem_of_getElem? (i := 17) rfl)
theorem d_Unit_init_33 : decode prog_9_method_1_code 33 = .ok (.iconst 1, 1) := id_Unit_init_0 (33, .iconst 1, 1) (List.mem_of_getElem? (i := 18) rfl)
theorem d_Unit_init_34 : decode prog_9_method_1_code 34 = .ok (.isub, 1) := id_Unit_init_0 (34, .isub, 1) (List.mem_of_getElem? (i := 19) rfl)
theorem d_Unit_init_35 : decode prog_9_method_1_code 35 = .ok (.putfield 28, 3) := id_Unit_init_0 (35, .putfield 28, 3) (List.mem_of_getElem? (i := 20) rfl)
theorem d_Unit_init_38 : decode prog_9_method_1_code 38 = .ok (.return_, 1) := id_Unit_init_0 (38, .return_, 1) (List.mem_of_getElem? (i := 21) rfl)
theorem wC_Unit_init : Cond.code ⟨"WarpMill$Unit", "<init>", "(I)V"⟩ prog_9_method_1_code 2 (none) ∈ lw_tb := mem_tb 364 (by decide +kernel) rfl
def f_Unit_init (F : Nat) (x0 : Nat) (x1 : Int32) (h : Hp) : Option Hp := pw (hT h) fun a_7 => pw (nw h 123 16 16) fun h_7_2 => gd (hK h_7_2 x0 = 7) <| pw (sR h_7_2 384 x0 (some a_7)) fun h_10_2 => pw (hT h_10_2) fun a_16 => pw (nw h_10_2 100 32 32) fun h_16_2 => gd (hK h_16_2 x0 = 7) <| pw (sR h_16_2 385 x0 (some a_16)) fun h_18_2 => pw (sI h_18_2 386 x0 x1) fun h_23 => pw (sI h_23 387 x0 x1) fun h_28 => pw (sI h_28 388 x0 (x1 - (1 : Int32))) fun h_35 => some h_35
set_option maxRecDepth 100000 in
set_option maxHeartbeats 4000000 in
theorem e_Unit_init {G : Gl} (hw : gF G) {F : Nat} {h' : Hp} {x0 : Nat} {x1 : Int32} {h : Hp} (hf : f_Unit_init F x0 x1 h = some h') : Ex G mi_Unit_init [.ref x0, .int x1] h (pV h') := by
  unfold f_Unit_init at hf
  refine Ex.of nmV (by decide) (Nat.le_of_ble_eq_true rfl) ?_
  show Go G mi_Unit_init h _ h 0 [(0, .ref x0), (1, .int x1)] []
  refine g_aload_n d_Unit_init_0 rfl ?_
  refine g_objInit lm_Unit_3 wI_Object_init wC_obj (Nat.le_of_ble_eq_true rfl) (Nat.le_of_ble_eq_true rfl) d_Unit_init_1 ?_
  refine g_aload_n d_Unit_init_4 rfl ?_
  refine g_bipush (16) d_Unit_init_5 (by decide) ?_
  obtain ⟨a_7, e_7, hf⟩ := pw_s hf
  refine g_anew 16 123 (by decide) rfl (by decide) (by decide) (by decide) lc_Unit_9 (by decide) d_Unit_init_7 ?_
  refine Go.kn (fun k_7 => ?_)
  rw [← e_7] at k_7 ⊢
  have hf := pw_b hf
  obtain ⟨k_10, hf⟩ := gd_s hf
  refine fp_Unit_warps hw (some a_7) rfl lf_Unit_11 d_Unit_init_10 rfl rfl k_10 ?_
  have hf := pw_b hf
  refine g_aload_n d_Unit_init_13 rfl ?_
  refine g_bipush (32) d_Unit_init_14 (by decide) ?_
  obtain ⟨a_16, e_16, hf⟩ := pw_s hf
  refine g_newai 32 (by decide) (by decide) (by decide) wA_int d_Unit_init_16 ?_
  refine Go.kn (fun k_16 => ?_)
  rw [← e_16] at k_16 ⊢
  have hf := pw_b hf
  obtain ⟨k_18, hf⟩ := gd_s hf
  refine fp_Unit_load hw (some a_16) rfl lf_Unit_17 d_Unit_init_18 rfl rfl k_18 ?_
  have hf := pw_b hf
  refine g_aload_n d_Unit_init_21 rfl ?_
  refine g_iload_n d_Unit_init_22 rfl ?_
  refine fp_Unit_slots hw lf_Unit_21 d_Unit_init_23 (kksR k_18) ?_
  have hf := pw_b hf
  refine g_aload_n d_Unit_init_26 rfl ?_
  refine g_iload_n d_Unit_init_27 rfl ?_
  refine fp_Unit_free hw lf_Unit_25 d_Unit_init_28 (kksI (kksR k_18)) ?_
  have hf := pw_b hf
  refine g_aload_n d_Unit_init_31 rfl ?_
  refine g_iload_n d_Unit_init_32 rfl ?_
  refine g_iconst 1 d_Unit_init_33 (by decide) ?_
  refine g_isub d_Unit_init_34 ?_
  refine fp_Unit_last hw lf_Unit_28 d_Unit_init_35 (kksI (kksI (kksR k_18))) ?_
  have hf := pw_b hf
  exact Go.ret none trivial rfl d_Unit_init_38 (pV_of hf)
abbrev mi_WM_init : MI := (⟨"WarpMill", "<init>", "()V"⟩, prog_1_method_1_code, 3, none, 3, 67)
def it_WM_init_0 : List (Nat × ClassFile.Instr × Nat) := [(0, .aload_n 0, 1), (1, .invokespecial 1, 3), (4, .aload_n 0, 1), (5, .new 7, 3), (8, .dup, 1), (9, .invokespecial 9, 3), (12, .putfield 10, 3), (15, .aload_n 0, 1), (16, .sipush (128), 3), (19, .anewarray 16, 3), (22, .putfield 18, 3), (25, .aload_n 0, 1), (26, .new 22, 3), (29, .dup, 1), (30, .invokespecial 24, 3), (33, .putfield 25, 3), (36, .aload_n 0, 1), (37, .new 29, 3), (40, .dup, 1), (41, .invokespecial 31, 3), (44, .putfield 32, 3), (47, .aload_n 0, 1), (48, .bipush (8), 2), (50, .anewarray 36, 3)]
theorem id_WM_init_0 : ∀ q ∈ it_WM_init_0, decode prog_1_method_1_code q.1 = .ok q.2 := by decide +kernel
theorem d_WM_init_0 : decode prog_1_method_1_code 0 = .ok (.aload_n 0, 1) := id_WM_init_0 (0, .aload_n 0, 1) (List.mem_of_getElem? (i := 0) rfl)
theorem d_WM_init_1 : decode prog_1_method_1_code 1 = .ok (.invokespecial 1, 3) := id_WM_init_0 (1, .invokespecial 1, 3) (List.mem_of_getElem? (i := 1) rfl)
theorem d_WM_init_4 : decode prog_1_method_1_code 4 = .ok (.aload_n 0, 1) := id_WM_init_0 (4, .aload_n 0, 1) (List.mem_of_getElem? (i := 2) rfl)
theorem d_WM_init_5 : decode prog_1_method_1_code 5 = .ok (.new 7, 3) := id_WM_init_0 (5, .new 7, 3) (List.mem_of_getElem? (i := 3) rfl)
theorem d_WM_init_8 : decode prog_1_method_1_code 8 = .ok (.dup, 1) := id_WM_init_0 (8, .dup, 1) (List.mem_of_getElem? (i := 4) rfl)
theorem d_WM_init_9 : decode prog_1_method_1_code 9 = .ok (.invokespecial 9, 3) := id_WM_init_0 (9, .invokespecial 9, 3) (List.mem_of_getElem? (i := 5) rfl)
theorem d_WM_init_12 : decode prog_1_method_1_code 12 = .ok (.putfield 10, 3) := id_WM_init_0 (12, .putfield 10, 3) (List.mem_of_getElem? (i := 6) rfl)
theorem d_WM_init_15 : decode prog_1_method_1_code 15 = .ok (.aload_n 0, 1) := id_WM_init_0 (15, .aload_n 0, 1) (List.mem_of_getElem? (i := 7) rfl)
theorem d_WM_init_16 : decode prog_1_method_1_code 16 = .ok (.sipush (128), 3) := id_WM_init_0 (16, .sipush (128), 3) (List.mem_of_getElem? (i := 8) rfl)
theorem d_WM_init_19 : decode prog_1_method_1_code 19 = .ok (.anewarray 16, 3) := id_WM_init_0 (19, .anewarray 16, 3) (List.mem_of_getElem? (i := 9) rfl)
theorem d_WM_init_22 : decode prog_1_method_1_code 22 = .ok (.putfield 18, 3) := id_WM_init_0 (22, .putfield 18, 3) (List.mem_of_getElem? (i := 10) rfl)
theorem d_WM_init_25 : decode prog_1_method_1_code 25 = .ok (.aload_n 0, 1) := id_WM_init_0 (25, .aload_n 0, 1) (List.mem_of_getElem? (i := 11) rfl)
theorem d_WM_init_26 : decode prog_1_method_1_code 26 = .ok (.new 22, 3) := id_WM_init_0 (26, .new 22, 3) (List.mem_of_getElem? (i := 12) rfl)
theorem d_WM_init_29 : decode prog_1_method_1_code 29 = .ok (.dup, 1) := id_WM_init_0 (29, .dup, 1) (List.mem_of_getElem? (i := 13) rfl)
theorem d_WM_init_30 : decode prog_1_method_1_code 30 = .ok (.invokespecial 24, 3) := id_WM_init_0 (30, .invokespecial 24, 3) (List.mem_of_getElem? (i := 14) rfl)
theorem d_WM_init_33 : decode prog_1_method_1_code 33 = .ok (.putfield 25, 3) := id_WM_init_0 (33, .putfield 25, 3) (List.mem_of_getElem? (i := 15) rfl)
theorem d_WM_init_36 : decode prog_1_method_1_code 36 = .ok (.aload_n 0, 1) := id_WM_init_0 (36, .aload_n 0, 1) (List.mem_of_getElem? (i := 16) rfl)
theorem d_WM_init_37 : decode prog_1_method_1_code 37 = .ok (.new 29, 3) := id_WM_init_0 (37, .new 29, 3) (List.mem_of_getElem? (i := 17) rfl)
theorem d_WM_init_40 : decode prog_1_method_1_code 40 = .ok (.dup, 1) := id_WM_init_0 (40, .dup, 1) (List.mem_of_getElem? (i := 18) rfl)
theorem d_WM_init_41 : decode prog_1_method_1_code 41 = .ok (.invokespecial 31, 3) := id_WM_init_0 (41, .invokespecial 31, 3) (List.mem_of_getElem? (i := 19) rfl)
theorem d_WM_init_44 : decode prog_1_method_1_code 44 = .ok (.putfield 32, 3) := id_WM_init_0 (44, .putfield 32, 3) (List.mem_of_getElem? (i := 20) rfl)
theorem d_WM_init_47 : decode prog_1_method_1_code 47 = .ok (.aload_n 0, 1) := id_WM_init_0 (47, .aload_n 0, 1) (List.mem_of_getElem? (i := 21) rfl)
theorem d_WM_init_48 : decode prog_1_method_1_code 48 = .ok (.bipush (8), 2) := id_WM_init_0 (48, .bipush (8), 2) (List.mem_of_getElem? (i := 22) rfl)
theorem d_WM_init_50 : decode prog_1_method_1_code 50 = .ok (.anewarray 36, 3) := id_WM_init_0 (50, .anewarray 36, 3) (List.mem_of_getElem? (i := 23) rfl)
def it_WM_init_1 : List (Nat × ClassFile.Instr × Nat) := [(53, .putfield 38, 3), (56, .aload_n 0, 1), (57, .bipush (64), 2), (59, .anewarray 42, 3), (62, .putfield 44, 3), (65, .new 16, 3), (68, .dup, 1), (69, .lconst 0, 1), (70, .invokespecial 48, 3), (73, .astore_n 1, 1), (74, .iconst 0, 1), (75, .istore_n 2, 1), (76, .iload_n 2, 1), (77, .aload_n 0, 1), (78, .getfield 18, 3), (81, .arraylength, 1), (82, .if_icmp .ge (16), 3), (85, .aload_n 0, 1), (86, .getfield 18, 3), (89, .iload_n 2, 1), (90, .aload_n 1, 1), (91, .aastore, 1), (92, .iinc 2 (1), 3), (95, .goto (-19), 3)]
theorem id_WM_init_1 : ∀ q ∈ it_WM_init_1, decode prog_1_method_1_code q.1 = .ok q.2 := by decide +kernel
theorem d_WM_init_53 : decode prog_1_method_1_code 53 = .ok (.putfield 38, 3) := id_WM_init_1 (53, .putfield 38, 3) (List.mem_of_getElem? (i := 0) rfl)
theorem d_WM_init_56 : decode prog_1_method_1_code 56 = .ok (.aload_n 0, 1) := id_WM_init_1 (56, .aload_n 0, 1) (List.mem_of_getElem? (i := 1) rfl)
theorem d_WM_init_57 : decode prog_1_method_1_code 57 = .ok (.bipush (64), 2) := id_WM_init_1 (57, .bipush (64), 2) (List.mem_of_getElem? (i := 2) rfl)
theorem d_WM_init_59 : decode prog_1_method_1_code 59 = .ok (.anewarray 42, 3) := id_WM_init_1 (59, .anewarray 42, 3) (List.mem_of_getElem? (i := 3) rfl)
theorem d_WM_init_62 : decode prog_1_method_1_code 62 = .ok (.putfield 44, 3) := id_WM_init_1 (62, .putfield 44, 3) (List.mem_of_getElem? (i := 4) rfl)
theorem d_WM_init_65 : decode prog_1_method_1_code 65 = .ok (.new 16, 3) := id_WM_init_1 (65, .new 16, 3) (List.mem_of_getElem? (i := 5) rfl)
theorem d_WM_init_68 : decode prog_1_method_1_code 68 = .ok (.dup, 1) := id_WM_init_1 (68, .dup, 1) (List.mem_of_getElem? (i := 6) rfl)
theorem d_WM_init_69 : decode prog_1_method_1_code 69 = .ok (.lconst 0, 1) := id_WM_init_1 (69, .lconst 0, 1) (List.mem_of_getElem? (i := 7) rfl)
theorem d_WM_init_70 : decode prog_1_method_1_code 70 = .ok (.invokespecial 48, 3) := id_WM_init_1 (70, .invokespecial 48, 3) (List.mem_of_getElem? (i := 8) rfl)
theorem d_WM_init_73 : decode prog_1_method_1_code 73 = .ok (.astore_n 1, 1) := id_WM_init_1 (73, .astore_n 1, 1) (List.mem_of_getElem? (i := 9) rfl)
theorem d_WM_init_74 : decode prog_1_method_1_code 74 = .ok (.iconst 0, 1) := id_WM_init_1 (74, .iconst 0, 1) (List.mem_of_getElem? (i := 10) rfl)
theorem d_WM_init_75 : decode prog_1_method_1_code 75 = .ok (.istore_n 2, 1) := id_WM_init_1 (75, .istore_n 2, 1) (List.mem_of_getElem? (i := 11) rfl)
theorem d_WM_init_76 : decode prog_1_method_1_code 76 = .ok (.iload_n 2, 1) := id_WM_init_1 (76, .iload_n 2, 1) (List.mem_of_getElem? (i := 12) rfl)
theorem d_WM_init_77 : decode prog_1_method_1_code 77 = .ok (.aload_n 0, 1) := id_WM_init_1 (77, .aload_n 0, 1) (List.mem_of_getElem? (i := 13) rfl)
theorem d_WM_init_78 : decode prog_1_method_1_code 78 = .ok (.getfield 18, 3) := id_WM_init_1 (78, .getfield 18, 3) (List.mem_of_getElem? (i := 14) rfl)
theorem d_WM_init_81 : decode prog_1_method_1_code 81 = .ok (.arraylength, 1) := id_WM_init_1 (81, .arraylength, 1) (List.mem_of_getElem? (i := 15) rfl)
theorem d_WM_init_82 : decode prog_1_method_1_code 82 = .ok (.if_icmp .ge (16), 3) := id_WM_init_1 (82, .if_icmp .ge (16), 3) (List.mem_of_getElem? (i := 16) rfl)
theorem d_WM_init_85 : decode prog_1_method_1_code 85 = .ok (.aload_n 0, 1) := id_WM_init_1 (85, .aload_n 0, 1) (List.mem_of_getElem? (i := 17) rfl)
theorem d_WM_init_86 : decode prog_1_method_1_code 86 = .ok (.getfield 18, 3) := id_WM_init_1 (86, .getfield 18, 3) (List.mem_of_getElem? (i := 18) rfl)
theorem d_WM_init_89 : decode prog_1_method_1_code 89 = .ok (.iload_n 2, 1) := id_WM_init_1 (89, .iload_n 2, 1) (List.mem_of_getElem? (i := 19) rfl)
theorem d_WM_init_90 : decode prog_1_method_1_code 90 = .ok (.aload_n 1, 1) := id_WM_init_1 (90, .aload_n 1, 1) (List.mem_of_getElem? (i := 20) rfl)
theorem d_WM_init_91 : decode prog_1_method_1_code 91 = .ok (.aastore, 1) := id_WM_init_1 (91, .aastore, 1) (List.mem_of_getElem? (i := 21) rfl)
theorem d_WM_init_92 : decode prog_1_method_1_code 92 = .ok (.iinc 2 (1), 3) := id_WM_init_1 (92, .iinc 2 (1), 3) (List.mem_of_getElem? (i := 22) rfl)
theorem d_WM_init_95 : decode prog_1_method_1_code 95 = .ok (.goto (-19), 3) := id_WM_init_1 (95, .goto (-19), 3) (List.mem_of_getElem? (i := 23) rfl)
def it_WM_init_2 : List (Nat × ClassFile.Instr × Nat) := [(98, .iconst 0, 1), (99, .istore_n 2, 1), (100, .iload_n 2, 1), (101, .aload_n 0, 1), (102, .getfield 38, 3), (105, .arraylength, 1), (106, .if_icmp .ge (29), 3), (109, .aload_n 0, 1), (110, .getfield 38, 3), (113, .iload_n 2, 1), (114, .new 36, 3), (117, .dup, 1), (118, .aload_n 0, 1), (119, .getfield 10, 3), (122, .getfield 51, 3), (125, .invokespecial 55, 3), (128, .aastore, 1), (129, .iinc 2 (1), 3), (132, .goto (-32), 3), (135, .return_, 1)]
theorem id_WM_init_2 : ∀ q ∈ it_WM_init_2, decode prog_1_method_1_code q.1 = .ok q.2 := by decide +kernel
theorem d_WM_init_98 : decode prog_1_method_1_code 98 = .ok (.iconst 0, 1) := id_WM_init_2 (98, .iconst 0, 1) (List.mem_of_getElem? (i := 0) rfl)
theorem d_WM_init_99 : decode prog_1_method_1_code 99 = .ok (.istore_n 2, 1) := id_WM_init_2 (99, .istore_n 2, 1) (List.mem_of_getElem? (i := 1) rfl)
theorem d_WM_init_100 : decode prog_1_method_1_code 100 = .ok (.iload_n 2, 1) := id_WM_init_2 (100, .iload_n 2, 1) (List.mem_of_getElem? (i := 2) rfl)
theorem d_WM_init_101 : decode prog_1_method_1_code 101 = .ok (.aload_n 0, 1) := id_WM_init_2 (101, .aload_n 0, 1) (List.mem_of_getElem? (i := 3) rfl)
theorem d_WM_init_102 : decode prog_1_method_1_code 102 = .ok (.getfield 38, 3) := id_WM_init_2 (102, .getfield 38, 3) (List.mem_of_getElem? (i := 4) rfl)
theorem d_WM_init_105 : decode prog_1_method_1_code 105 = .ok (.arraylength, 1) := id_WM_init_2 (105, .arraylength, 1) (List.mem_of_getElem? (i := 5) rfl)
theorem d_WM_init_106 : decode prog_1_method_1_code 106 = .ok (.if_icmp .ge (29), 3) := id_WM_init_2 (106, .if_icmp .ge (29), 3) (List.mem_of_getElem? (i := 6) rfl)
theorem d_WM_init_109 : decode prog_1_method_1_code 109 = .ok (.aload_n 0, 1) := id_WM_init_2 (109, .aload_n 0, 1) (List.mem_of_getElem? (i := 7) rfl)
theorem d_WM_init_110 : decode prog_1_method_1_code 110 = .ok (.getfield 38, 3) := id_WM_init_2 (110, .getfield 38, 3) (List.mem_of_getElem? (i := 8) rfl)
theorem d_WM_init_113 : decode prog_1_method_1_code 113 = .ok (.iload_n 2, 1) := id_WM_init_2 (113, .iload_n 2, 1) (List.mem_of_getElem? (i := 9) rfl)
theorem d_WM_init_114 : decode prog_1_method_1_code 114 = .ok (.new 36, 3) := id_WM_init_2 (114, .new 36, 3) (List.mem_of_getElem? (i := 10) rfl)
theorem d_WM_init_117 : decode prog_1_method_1_code 117 = .ok (.dup, 1) := id_WM_init_2 (117, .dup, 1) (List.mem_of_getElem? (i := 11) rfl)
theorem d_WM_init_118 : decode prog_1_method_1_code 118 = .ok (.aload_n 0, 1) := id_WM_init_2 (118, .aload_n 0, 1) (List.mem_of_getElem? (i := 12) rfl)
theorem d_WM_init_119 : decode prog_1_method_1_code 119 = .ok (.getfield 10, 3) := id_WM_init_2 (119, .getfield 10, 3) (List.mem_of_getElem? (i := 13) rfl)
theorem d_WM_init_122 : decode prog_1_method_1_code 122 = .ok (.getfield 51, 3) := id_WM_init_2 (122, .getfield 51, 3) (List.mem_of_getElem? (i := 14) rfl)
theorem d_WM_init_125 : decode prog_1_method_1_code 125 = .ok (.invokespecial 55, 3) := id_WM_init_2 (125, .invokespecial 55, 3) (List.mem_of_getElem? (i := 15) rfl)
theorem d_WM_init_128 : decode prog_1_method_1_code 128 = .ok (.aastore, 1) := id_WM_init_2 (128, .aastore, 1) (List.mem_of_getElem? (i := 16) rfl)
theorem d_WM_init_129 : decode prog_1_method_1_code 129 = .ok (.iinc 2 (1), 3) := id_WM_init_2 (129, .iinc 2 (1), 3) (List.mem_of_getElem? (i := 17) rfl)
theorem d_WM_init_132 : decode prog_1_method_1_code 132 = .ok (.goto (-32), 3) := id_WM_init_2 (132, .goto (-32), 3) (List.mem_of_getElem? (i := 18) rfl)
theorem d_WM_init_135 : decode prog_1_method_1_code 135 = .ok (.return_, 1) := id_WM_init_2 (135, .return_, 1) (List.mem_of_getElem? (i := 19) rfl)
theorem wC_WM_init : Cond.code ⟨"WarpMill", "<init>", "()V"⟩ prog_1_method_1_code 3 (none) ∈ lw_tb := mem_tb 98 (by decide +kernel) rfl
theorem cw_WM_init_Sizes_init : cW mi_WM_init mi_Sizes_init 0 := ⟨wC_Sizes_init, wi_Sizes, ⟨by decide, by decide, by decide +kernel⟩, by decide, by decide⟩
theorem cw_WM_init_Memory_init : cW mi_WM_init mi_Memory_init 0 := ⟨wC_Memory_init, wi_Memory, ⟨by decide, by decide, by decide +kernel⟩, by decide, by decide⟩
theorem cw_WM_init_Tally_init : cW mi_WM_init mi_Tally_init 0 := ⟨wC_Tally_init, wi_Tally, ⟨by decide, by decide, by decide +kernel⟩, by decide, by decide⟩
theorem cw_WM_init_Word_init : cW mi_WM_init mi_Word_init 1 := ⟨wC_Word_init, wi_Word, ⟨by decide, by decide, by decide +kernel⟩, by decide, by decide⟩
theorem cw_WM_init_Unit_init : cW mi_WM_init mi_Unit_init 1 := ⟨wC_Unit_init, wi_Unit, ⟨by decide, by decide, by decide +kernel⟩, by decide, by decide⟩
def b_WM_init_100 (F : Nat) : Nat → Nat → Int32 → Hp → Option Hp
  | 0 => fun _ _ _ => none
  | n + 1 => fun x0 x2 h => gd (hK h x0 = 1) <| rq h (hR h 4 x0) 121 fun a_102_2 => if (nI (hN h a_102_2)) ≤ x2 then (some h) else (pw (hT h) fun a_114 => pw (nw h 7 0 8) fun h_114_2 => gd (hK h_114_2 x0 = 1) <| rq h_114_2 (hR h_114_2 0 x0) 2 fun a_119_2 => clv (f_Unit_init F a_114 (hI h_114_2 65 a_119_2) h_114_2) fun h_125 => gd (hK h_125 a_102_2 = 121) <| gd (hK h_125 a_114 = 7) <| ix x2 (hN h_125 a_102_2) fun j_128_3 => pw (sQ h_125 a_102_2 j_128_3 (some a_114)) fun h_128_4 => b_WM_init_100 F n x0 (x2 + 1) h_128_4)
set_option maxRecDepth 100000 in
set_option maxHeartbeats 4000000 in
theorem e_WM_init_100 {G : Gl} (hw : gF G) {h0 : Hp} {F : Nat} {h' : Hp}   : ∀ (n : Nat) (x0 : Nat) (x2 : Int32) (h : Hp), b_WM_init_100 F n x0 x2 h = some h' → Go G mi_WM_init h0 (pV h') h 100 [(0, .ref x0), (2, .int x2)] [] := by
  intro n
  induction n with
  | zero =>
    intro _ _ _ hf
    exact nm_s hf
  | succ n ih =>
    intro x0 x2 h hf
    unfold b_WM_init_100 at hf
    refine g_iload_n d_WM_init_100 rfl ?_
    refine g_aload_n d_WM_init_101 rfl ?_
    obtain ⟨k_102, hf⟩ := gd_s hf
    obtain ⟨a_102_2, e_102_2, k_102_2, hf⟩ := rq_s hf
    refine fgs_WM_units lf_WM_38 d_WM_init_102 k_102 e_102_2 ?_
    refine g_alen k_102_2 (by decide) rfl d_WM_init_105 ?_
    refine g_icmp_ge 135 d_WM_init_106 (by decide) (fun c_106 => ?_) (fun c_106 => ?_)
    · have hf := ifp hf c_106
      exact Go.ret none trivial rfl d_WM_init_135 (pV_of hf)
    · have hf := ifn hf c_106
      refine g_aload_n d_WM_init_109 rfl ?_
      refine fgs_WM_units lf_WM_38 d_WM_init_110 k_102 e_102_2 ?_
      refine g_iload_n d_WM_init_113 rfl ?_
      obtain ⟨a_114, e_114, hf⟩ := pw_s hf
      refine g_newk 6 7 rfl okUnit lc_WM_36 wn_Unit wi_Unit d_WM_init_114 ?_
      refine Go.kn (fun k_114 => ?_)
      rw [← e_114] at k_114 ⊢
      have hf := pw_b hf
      refine g_dup (by first | rfl | exact cat_rf _) d_WM_init_117 ?_
      refine g_aload_n d_WM_init_118 rfl ?_
      obtain ⟨k_119, hf⟩ := gd_s hf
      obtain ⟨a_119_2, e_119_2, k_119_2, hf⟩ := rq_s hf
      refine fgs_WM_sizes lf_WM_10 d_WM_init_119 k_119 e_119_2 ?_
      refine fg_Sizes_slots lf_WM_51 d_WM_init_122 k_119_2 ?_
      obtain ⟨h_125, e_125, hf⟩ := clv_s hf
      refine g_callI (mz := mi_Unit_init) (e_Unit_init hw e_125) cw_WM_init_Unit_init lm_WM_55 wI_Unit_init rfl rfl d_WM_init_125 rfl rfl (by first | exact Nat.le_of_ble_eq_true rfl | simp [cat_rf, Value.category]) (fun r1 h1 hp hro => ?_)
      obtain ⟨rfl, rfl⟩ := hp
      dsimp only [Option.toList_some, Option.toList_none, List.cons_append, List.nil_append]
      obtain ⟨k_128, hf⟩ := gd_s hf
      obtain ⟨k_128_2, hf⟩ := gd_s hf
      obtain ⟨i_128_3, hf⟩ := ix_s hf
      refine g_aast hw (ci := 6) k_128 (by decide) rfl k_128_2 (by decide) rfl i_128_3 d_WM_init_128 ?_
      have hf := pw_b hf
      refine g_iinc (_ + 1) d_WM_init_129 rfl (by rfl) (by decide) ?_
      show Go _ _ _ _ _ _ [(0, _), (2, _)] _
      refine g_goto 100 d_WM_init_132 (by decide) ?_
      exact ih _ _ _ hf
def b_WM_init_76 (F : Nat) : Nat → Nat → Nat → Int32 → Hp → Option Hp
  | 0 => fun _ _ _ _ => none
  | n + 1 => fun x0 x1 x2 h => gd (hK h x0 = 1) <| rq h (hR h 1 x0) 120 fun a_78_2 => if (nI (hN h a_78_2)) ≤ x2 then (b_WM_init_100 F F x0 (0 : Int32) h) else (gd (hK h x1 = 10) <| ix x2 (hN h a_78_2) fun j_91_2 => pw (sQ h a_78_2 j_91_2 (some x1)) fun h_91_3 => b_WM_init_76 F n x0 x1 (x2 + 1) h_91_3)
set_option maxRecDepth 100000 in
set_option maxHeartbeats 4000000 in
theorem e_WM_init_76 {G : Gl} (hw : gF G) {h0 : Hp} {F : Nat} {h' : Hp}   : ∀ (n : Nat) (x0 : Nat) (x1 : Nat) (x2 : Int32) (h : Hp), b_WM_init_76 F n x0 x1 x2 h = some h' → Go G mi_WM_init h0 (pV h') h 76 [(0, .ref x0), (1, .ref x1), (2, .int x2)] [] := by
  intro n
  induction n with
  | zero =>
    intro _ _ _ _ hf
    exact nm_s hf
  | succ n ih =>
    intro x0 x1 x2 h hf
    unfold b_WM_init_76 at hf
    refine g_iload_n d_WM_init_76 rfl ?_
    refine g_aload_n d_WM_init_77 rfl ?_
    obtain ⟨k_78, hf⟩ := gd_s hf
    obtain ⟨a_78_2, e_78_2, k_78_2, hf⟩ := rq_s hf
    refine fgs_WM_kernel lf_WM_18 d_WM_init_78 k_78 e_78_2 ?_
    refine g_alen k_78_2 (by decide) rfl d_WM_init_81 ?_
    refine g_icmp_ge 98 d_WM_init_82 (by decide) (fun c_82 => ?_) (fun c_82 => ?_)
    · have hf := ifp hf c_82
      refine g_iconst 0 d_WM_init_98 (by decide) ?_
      refine g_istore_n d_WM_init_99 (by decide) ?_
      show Go _ _ _ _ _ _ [(0, _), (1, _), (2, _)] _
      refine Go.locals [0, 2] rfl ?_
      have key := e_WM_init_100 hw (G := G) (h0 := h0)  F _ _ _ hf
      exact key
    · have hf := ifn hf c_82
      refine g_aload_n d_WM_init_85 rfl ?_
      refine fgs_WM_kernel lf_WM_18 d_WM_init_86 k_78 e_78_2 ?_
      refine g_iload_n d_WM_init_89 rfl ?_
      refine g_aload_n d_WM_init_90 rfl ?_
      obtain ⟨k_91, hf⟩ := gd_s hf
      obtain ⟨i_91_2, hf⟩ := ix_s hf
      refine g_aast hw (ci := 9) k_78_2 (by decide) rfl k_91 (by decide) rfl i_91_2 d_WM_init_91 ?_
      have hf := pw_b hf
      refine g_iinc (_ + 1) d_WM_init_92 rfl (by rfl) (by decide) ?_
      show Go _ _ _ _ _ _ [(0, _), (1, _), (2, _)] _
      refine g_goto 76 d_WM_init_95 (by decide) ?_
      exact ih _ _ _ _ hf
def f_WM_init (F : Nat) (x0 : Nat) (h : Hp) : Option Hp := pw (hT h) fun a_5 => pw (nw h 2 0 6) fun h_5_2 => clv (f_Sizes_init F a_5 h_5_2) fun h_9 => gd (hK h_9 x0 = 1) <| pw (sR h_9 0 x0 (some a_5)) fun h_12_2 => pw (hT h_12_2) fun a_19 => pw (nw h_12_2 120 128 128) fun h_19_2 => gd (hK h_19_2 x0 = 1) <| pw (sR h_19_2 1 x0 (some a_19)) fun h_22_2 => pw (hT h_22_2) fun a_26 => pw (nw h_22_2 3 0 4) fun h_26_2 => clv (f_Memory_init F a_26 h_26_2) fun h_30 => gd (hK h_30 x0 = 1) <| pw (sR h_30 2 x0 (some a_26)) fun h_33_2 => pw (hT h_33_2) fun a_37 => pw (nw h_33_2 6 0 14) fun h_37_2 => clv (f_Tally_init F a_37 h_37_2) fun h_41 => gd (hK h_41 x0 = 1) <| pw (sR h_41 3 x0 (some a_37)) fun h_44_2 => pw (hT h_44_2) fun a_50 => pw (nw h_44_2 121 8 8) fun h_50_2 => gd (hK h_50_2 x0 = 1) <| pw (sR h_50_2 4 x0 (some a_50)) fun h_53_2 => pw (hT h_53_2) fun a_59 => pw (nw h_53_2 122 64 64) fun h_59_2 => gd (hK h_59_2 x0 = 1) <| pw (sR h_59_2 5 x0 (some a_59)) fun h_62_2 => pw (hT h_62_2) fun a_65 => pw (nw h_62_2 10 0 15) fun h_65_2 => clv (f_Word_init F a_65 (0 : Int64) h_65_2) fun h_70 => b_WM_init_76 F F x0 a_65 (0 : Int32) h_70
set_option maxRecDepth 100000 in
set_option maxHeartbeats 4000000 in
theorem e_WM_init {G : Gl} (hw : gF G) {F : Nat} {h' : Hp} {x0 : Nat} {h : Hp} (hf : f_WM_init F x0 h = some h') : Ex G mi_WM_init [.ref x0] h (pV h') := by
  unfold f_WM_init at hf
  refine Ex.of nmV (by decide) (Nat.le_of_ble_eq_true rfl) ?_
  show Go G mi_WM_init h _ h 0 [(0, .ref x0)] []
  refine g_aload_n d_WM_init_0 rfl ?_
  refine g_objInit lm_WM_1 wI_Object_init wC_obj (Nat.le_of_ble_eq_true rfl) (Nat.le_of_ble_eq_true rfl) d_WM_init_1 ?_
  refine g_aload_n d_WM_init_4 rfl ?_
  obtain ⟨a_5, e_5, hf⟩ := pw_s hf
  refine g_newk 1 2 rfl okSizes lc_WM_7 wn_Sizes wi_Sizes d_WM_init_5 ?_
  refine Go.kn (fun k_5 => ?_)
  rw [← e_5] at k_5 ⊢
  have hf := pw_b hf
  refine g_dup (by first | rfl | exact cat_rf _) d_WM_init_8 ?_
  obtain ⟨h_9, e_9, hf⟩ := clv_s hf
  refine g_callIN (mz := mi_Sizes_init) (e_Sizes_init hw e_9) cw_WM_init_Sizes_init (host := "WarpMill") (by decide +kernel) wI_Sizes_init rfl rfl d_WM_init_9 rfl rfl (by first | exact Nat.le_of_ble_eq_true rfl | simp [cat_rf, Value.category]) (fun r1 h1 hp hro => ?_)
  obtain ⟨rfl, rfl⟩ := hp
  dsimp only [Option.toList_some, Option.toList_none, List.cons_append, List.nil_append]
  obtain ⟨k_12, hf⟩ := gd_s hf
  refine fp_WM_sizes hw (some a_5) rfl lf_WM_10 d_WM_init_12 rfl rfl k_12 ?_
  have hf := pw_b hf
  refine g_aload_n d_WM_init_15 rfl ?_
  refine g_sipush (128) d_WM_init_16 (by decide) ?_
  obtain ⟨a_19, e_19, hf⟩ := pw_s hf
  refine g_anew 128 120 (by decide) rfl (by decide) (by decide) (by decide) lc_WM_16 (by decide) d_WM_init_19 ?_
  refine Go.kn (fun k_19 => ?_)
  rw [← e_19] at k_19 ⊢
  have hf := pw_b hf
  obtain ⟨k_22, hf⟩ := gd_s hf
  refine fp_WM_kernel hw (some a_19) rfl lf_WM_18 d_WM_init_22 rfl rfl k_22 ?_
  have hf := pw_b hf
  refine g_aload_n d_WM_init_25 rfl ?_
  obtain ⟨a_26, e_26, hf⟩ := pw_s hf
  refine g_newk 2 3 rfl okMemory lc_WM_22 wn_Memory wi_Memory d_WM_init_26 ?_
  refine Go.kn (fun k_26 => ?_)
  rw [← e_26] at k_26 ⊢
  have hf := pw_b hf
  refine g_dup (by first | rfl | exact cat_rf _) d_WM_init_29 ?_
  obtain ⟨h_30, e_30, hf⟩ := clv_s hf
  refine g_callIN (mz := mi_Memory_init) (e_Memory_init hw e_30) cw_WM_init_Memory_init (host := "WarpMill") (by decide +kernel) wI_Memory_init rfl rfl d_WM_init_30 rfl rfl (by first | exact Nat.le_of_ble_eq_true rfl | simp [cat_rf, Value.category]) (fun r1 h1 hp hro => ?_)
  obtain ⟨rfl, rfl⟩ := hp
  dsimp only [Option.toList_some, Option.toList_none, List.cons_append, List.nil_append]
  obtain ⟨k_33, hf⟩ := gd_s hf
  refine fp_WM_memory hw (some a_26) rfl lf_WM_25 d_WM_init_33 rfl rfl k_33 ?_
  have hf := pw_b hf
  refine g_aload_n d_WM_init_36 rfl ?_
  obtain ⟨a_37, e_37, hf⟩ := pw_s hf
  refine g_newk 5 6 rfl okTally lc_WM_29 wn_Tally wi_Tally d_WM_init_37 ?_
  refine Go.kn (fun k_37 => ?_)
  rw [← e_37] at k_37 ⊢
  have hf := pw_b hf
  refine g_dup (by first | rfl | exact cat_rf _) d_WM_init_40 ?_
  obtain ⟨h_41, e_41, hf⟩ := clv_s hf
  refine g_callIN (mz := mi_Tally_init) (e_Tally_init hw e_41) cw_WM_init_Tally_init (host := "WarpMill") (by decide +kernel) wI_Tally_init rfl rfl d_WM_init_41 rfl rfl (by first | exact Nat.le_of_ble_eq_true rfl | simp [cat_rf, Value.category]) (fun r1 h1 hp hro => ?_)
  obtain ⟨rfl, rfl⟩ := hp
  dsimp only [Option.toList_some, Option.toList_none, List.cons_append, List.nil_append]
  obtain ⟨k_44, hf⟩ := gd_s hf
  refine fp_WM_tally hw (some a_37) rfl lf_WM_32 d_WM_init_44 rfl rfl k_44 ?_
  have hf := pw_b hf
  refine g_aload_n d_WM_init_47 rfl ?_
  refine g_bipush (8) d_WM_init_48 (by decide) ?_
  obtain ⟨a_50, e_50, hf⟩ := pw_s hf
  refine g_anew 8 121 (by decide) rfl (by decide) (by decide) (by decide) lc_WM_36 (by decide) d_WM_init_50 ?_
  refine Go.kn (fun k_50 => ?_)
  rw [← e_50] at k_50 ⊢
  have hf := pw_b hf
  obtain ⟨k_53, hf⟩ := gd_s hf
  refine fp_WM_units hw (some a_50) rfl lf_WM_38 d_WM_init_53 rfl rfl k_53 ?_
  have hf := pw_b hf
  refine g_aload_n d_WM_init_56 rfl ?_
  refine g_bipush (64) d_WM_init_57 (by decide) ?_
  obtain ⟨a_59, e_59, hf⟩ := pw_s hf
  refine g_anew 64 122 (by decide) rfl (by decide) (by decide) (by decide) lc_WM_42 (by decide) d_WM_init_59 ?_
  refine Go.kn (fun k_59 => ?_)
  rw [← e_59] at k_59 ⊢
  have hf := pw_b hf
  obtain ⟨k_62, hf⟩ := gd_s hf
  refine fp_WM_blocks hw (some a_59) rfl lf_WM_44 d_WM_init_62 rfl rfl k_62 ?_
  have hf := pw_b hf
  obtain ⟨a_65, e_65, hf⟩ := pw_s hf
  refine g_newk 9 10 rfl okWord lc_WM_16 wn_Word wi_Word d_WM_init_65 ?_
  refine Go.kn (fun k_65 => ?_)
  rw [← e_65] at k_65 ⊢
  have hf := pw_b hf
  refine g_dup (by first | rfl | exact cat_rf _) d_WM_init_68 ?_
  refine g_lconst 0 d_WM_init_69 (by decide) ?_
  obtain ⟨h_70, e_70, hf⟩ := clv_s hf
  refine g_callI (mz := mi_Word_init) (e_Word_init hw e_70) cw_WM_init_Word_init lm_WM_48 wI_Word_init rfl rfl d_WM_init_70 rfl rfl (by first | exact Nat.le_of_ble_eq_true rfl | simp [cat_rf, Value.category]) (fun r1 h1 hp hro => ?_)
  obtain ⟨rfl, rfl⟩ := hp
  dsimp only [Option.toList_some, Option.toList_none, List.cons_append, List.nil_append]
  refine g_astore_n d_WM_init_73 (by decide) ?_
  show Go _ _ _ _ _ _ [(0, _), (1, _)] _
  refine g_iconst 0 d_WM_init_74 (by decide) ?_
  refine g_istore_n d_WM_init_75 (by decide) ?_
  show Go _ _ _ _ _ _ [(0, _), (1, _), (2, _)] _
  have key := e_WM_init_76 hw (G := G) (h0 := h)  F _ _ _ _ hf
  exact key
abbrev mi_Mod_freeAll : MI := (⟨"WarpMillModel", "freeAll", "()V"⟩, prog_13_method_6_code, 2, none, 0, 0)
def it_Mod_freeAll_0 : List (Nat × ClassFile.Instr × Nat) := [(0, .iconst 0, 1), (1, .istore_n 1, 1), (2, .iload_n 1, 1), (3, .sipush (128), 3), (6, .if_icmp .ge (16), 3), (9, .aload_n 0, 1), (10, .getfield 54, 3), (13, .iload_n 1, 1), (14, .iconst (-1), 1), (15, .iastore, 1), (16, .iinc 1 (1), 3), (19, .goto (-17), 3), (22, .aload_n 0, 1), (23, .iconst 0, 1), (24, .putfield 129, 3), (27, .aload_n 0, 1), (28, .ldc 132, 2), (30, .putfield 133, 3), (33, .return_, 1)]
theorem id_Mod_freeAll_0 : ∀ q ∈ it_Mod_freeAll_0, decode prog_13_method_6_code q.1 = .ok q.2 := by decide +kernel
theorem d_Mod_freeAll_0 : decode prog_13_method_6_code 0 = .ok (.iconst 0, 1) := id_Mod_freeAll_0 (0, .iconst 0, 1) (List.mem_of_getElem? (i := 0) rfl)
theorem d_Mod_freeAll_1 : decode prog_13_method_6_code 1 = .ok (.istore_n 1, 1) := id_Mod_freeAll_0 (1, .istore_n 1, 1) (List.mem_of_getElem? (i := 1) rfl)
theorem d_Mod_freeAll_2 : decode prog_13_method_6_code 2 = .ok (.iload_n 1, 1) := id_Mod_freeAll_0 (2, .iload_n 1, 1) (List.mem_of_getElem? (i := 2) rfl)
theorem d_Mod_freeAll_3 : decode prog_13_method_6_code 3 = .ok (.sipush (128), 3) := id_Mod_freeAll_0 (3, .sipush (128), 3) (List.mem_of_getElem? (i := 3) rfl)
theorem d_Mod_freeAll_6 : decode prog_13_method_6_code 6 = .ok (.if_icmp .ge (16), 3) := id_Mod_freeAll_0 (6, .if_icmp .ge (16), 3) (List.mem_of_getElem? (i := 4) rfl)
theorem d_Mod_freeAll_9 : decode prog_13_method_6_code 9 = .ok (.aload_n 0, 1) := id_Mod_freeAll_0 (9, .aload_n 0, 1) (List.mem_of_getElem? (i := 5) rfl)
theorem d_Mod_freeAll_10 : decode prog_13_method_6_code 10 = .ok (.getfield 54, 3) := id_Mod_freeAll_0 (10, .getfield 54, 3) (List.mem_of_getElem? (i := 6) rfl)
theorem d_Mod_freeAll_13 : decode prog_13_method_6_code 13 = .ok (.iload_n 1, 1) := id_Mod_freeAll_0 (13, .iload_n 1, 1) (List.mem_of_getElem? (i := 7) rfl)
theorem d_Mod_freeAll_14 : decode prog_13_method_6_code 14 = .ok (.iconst (-1), 1) := id_Mod_freeAll_0 (14, .iconst (-1), 1) (List.mem_of_getElem? (i := 8) rfl)
theorem d_Mod_freeAll_15 : decode prog_13_method_6_code 15 = .ok (.iastore, 1) := id_Mod_freeAll_0 (15, .iastore, 1) (List.mem_of_getElem? (i := 9) rfl)
theorem d_Mod_freeAll_16 : decode prog_13_method_6_code 16 = .ok (.iinc 1 (1), 3) := id_Mod_freeAll_0 (16, .iinc 1 (1), 3) (List.mem_of_getElem? (i := 10) rfl)
theorem d_Mod_freeAll_19 : decode prog_13_method_6_code 19 = .ok (.goto (-17), 3) := id_Mod_freeAll_0 (19, .goto (-17), 3) (List.mem_of_getElem? (i := 11) rfl)
theorem d_Mod_freeAll_22 : decode prog_13_method_6_code 22 = .ok (.aload_n 0, 1) := id_Mod_freeAll_0 (22, .aload_n 0, 1) (List.mem_of_getElem? (i := 12) rfl)
theorem d_Mod_freeAll_23 : decode prog_13_method_6_code 23 = .ok (.iconst 0, 1) := id_Mod_freeAll_0 (23, .iconst 0, 1) (List.mem_of_getElem? (i := 13) rfl)
theorem d_Mod_freeAll_24 : decode prog_13_method_6_code 24 = .ok (.putfield 129, 3) := id_Mod_freeAll_0 (24, .putfield 129, 3) (List.mem_of_getElem? (i := 14) rfl)
theorem d_Mod_freeAll_27 : decode prog_13_method_6_code 27 = .ok (.aload_n 0, 1) := id_Mod_freeAll_0 (27, .aload_n 0, 1) (List.mem_of_getElem? (i := 15) rfl)
theorem d_Mod_freeAll_28 : decode prog_13_method_6_code 28 = .ok (.ldc 132, 2) := id_Mod_freeAll_0 (28, .ldc 132, 2) (List.mem_of_getElem? (i := 16) rfl)
theorem d_Mod_freeAll_30 : decode prog_13_method_6_code 30 = .ok (.putfield 133, 3) := id_Mod_freeAll_0 (30, .putfield 133, 3) (List.mem_of_getElem? (i := 17) rfl)
theorem d_Mod_freeAll_33 : decode prog_13_method_6_code 33 = .ok (.return_, 1) := id_Mod_freeAll_0 (33, .return_, 1) (List.mem_of_getElem? (i := 18) rfl)
theorem wC_Mod_freeAll : Cond.code ⟨"WarpMillModel", "freeAll", "()V"⟩ prog_13_method_6_code 2 (none) ∈ lw_tb := mem_tb 1061 (by decide +kernel) rfl
def b_Mod_freeAll_2 (F : Nat) : Nat → Nat → Int32 → Hp → Option Hp
  | 0 => fun _ _ _ => none
  | n + 1 => fun x0 x1 h => if (128 : Int32) ≤ x1 then (gd (hK h x0 = 12) <| pw (sI h 745 x0 (0 : Int32)) fun h_24_2 => pw (sI h_24_2 746 x0 (2147483647 : Int32)) fun h_30 => some h_30) else (gd (hK h x0 = 12) <| rq h (hR h 735 x0) 100 fun a_10_2 => ix x1 (hN h a_10_2) fun j_15 => pw (sA h a_10_2 j_15 (-1 : Int32)) fun h_15_2 => b_Mod_freeAll_2 F n x0 (x1 + 1) h_15_2)
set_option maxRecDepth 100000 in
set_option maxHeartbeats 4000000 in
theorem e_Mod_freeAll_2 {G : Gl} (hw : gF G) {h0 : Hp} {F : Nat} {h' : Hp}   : ∀ (n : Nat) (x0 : Nat) (x1 : Int32) (h : Hp), b_Mod_freeAll_2 F n x0 x1 h = some h' → Go G mi_Mod_freeAll h0 (pV h') h 2 [(0, .ref x0), (1, .int x1)] [] := by
  intro n
  induction n with
  | zero =>
    intro _ _ _ hf
    exact nm_s hf
  | succ n ih =>
    intro x0 x1 h hf
    unfold b_Mod_freeAll_2 at hf
    refine g_iload_n d_Mod_freeAll_2 rfl ?_
    refine g_sipush (128) d_Mod_freeAll_3 (by decide) ?_
    refine g_icmp_ge 22 d_Mod_freeAll_6 (by decide) (fun c_6 => ?_) (fun c_6 => ?_)
    · have hf := ifp hf c_6
      refine g_aload_n d_Mod_freeAll_22 rfl ?_
      refine g_iconst 0 d_Mod_freeAll_23 (by decide) ?_
      obtain ⟨k_24, hf⟩ := gd_s hf
      refine fp_Mod_pending hw lf_Mod_129 d_Mod_freeAll_24 k_24 ?_
      have hf := pw_b hf
      refine g_aload_n d_Mod_freeAll_27 rfl ?_
      refine g_ldc lk_Mod_132 d_Mod_freeAll_28 ?_
      refine fp_Mod_soonest hw lf_Mod_133 d_Mod_freeAll_30 (kksI k_24) ?_
      have hf := pw_b hf
      exact Go.ret none trivial rfl d_Mod_freeAll_33 (pV_of hf)
    · have hf := ifn hf c_6
      refine g_aload_n d_Mod_freeAll_9 rfl ?_
      obtain ⟨k_10, hf⟩ := gd_s hf
      obtain ⟨a_10_2, e_10_2, k_10_2, hf⟩ := rq_s hf
      refine fgs_Mod_slotBlock lf_Mod_54 d_Mod_freeAll_10 k_10 e_10_2 ?_
      refine g_iload_n d_Mod_freeAll_13 rfl ?_
      refine g_iconst (-1) d_Mod_freeAll_14 (by decide) ?_
      obtain ⟨i_15, hf⟩ := ix_s hf
      refine g_iast hw k_10_2 i_15 d_Mod_freeAll_15 ?_
      have hf := pw_b hf
      refine g_iinc (_ + 1) d_Mod_freeAll_16 rfl (by rfl) (by decide) ?_
      show Go _ _ _ _ _ _ [(0, _), (1, _)] _
      refine g_goto 2 d_Mod_freeAll_19 (by decide) ?_
      exact ih _ _ _ hf
def f_Mod_freeAll (F : Nat) (x0 : Nat) (h : Hp) : Option Hp := b_Mod_freeAll_2 F F x0 (0 : Int32) h
set_option maxRecDepth 100000 in
set_option maxHeartbeats 4000000 in
theorem e_Mod_freeAll {G : Gl} (hw : gF G) {F : Nat} {h' : Hp} {x0 : Nat} {h : Hp} (hf : f_Mod_freeAll F x0 h = some h') : Ex G mi_Mod_freeAll [.ref x0] h (pV h') := by
  unfold f_Mod_freeAll at hf
  refine Ex.of nmV (by decide) (Nat.le_of_ble_eq_true rfl) ?_
  show Go G mi_Mod_freeAll h _ h 0 [(0, .ref x0)] []
  refine g_iconst 0 d_Mod_freeAll_0 (by decide) ?_
  refine g_istore_n d_Mod_freeAll_1 (by decide) ?_
  show Go _ _ _ _ _ _ [(0, _), (1, _)] _
  have key := e_Mod_freeAll_2 hw (G := G) (h0 := h)  F _ _ _ hf
  exact key
abbrev mi_Mod_clearUnits : MI := (⟨"WarpMillModel", "clearUnits", "()V"⟩, prog_13_method_4_code, 2, none, 1, 21)
def it_Mod_clearUnits_0 : List (Nat × ClassFile.Instr × Nat) := [(0, .iconst 0, 1), (1, .istore_n 1, 1), (2, .iload_n 1, 1), (3, .bipush (8), 2), (5, .if_icmp .ge (49), 3), (8, .aload_n 0, 1), (9, .getfield 42, 3), (12, .iload_n 1, 1), (13, .iconst 0, 1), (14, .iastore, 1), (15, .aload_n 0, 1), (16, .getfield 45, 3), (19, .iload_n 1, 1), (20, .iconst 0, 1), (21, .iastore, 1), (22, .aload_n 0, 1), (23, .getfield 48, 3), (26, .iload_n 1, 1), (27, .aload_n 0, 1), (28, .getfield 13, 3), (31, .iconst 1, 1), (32, .isub, 1), (33, .iastore, 1), (34, .aload_n 0, 1)]
theorem id_Mod_clearUnits_0 : ∀ q ∈ it_Mod_clearUnits_0, decode prog_13_method_4_code q.1 = .ok q.2 := by decide +kernel
theorem d_Mod_clearUnits_0 : decode prog_13_method_4_code 0 = .ok (.iconst 0, 1) := id_Mod_clearUnits_0 (0, .iconst 0, 1) (List.mem_of_getElem? (i := 0) rfl)
theorem d_Mod_clearUnits_1 : decode prog_13_method_4_code 1 = .ok (.istore_n 1, 1) := id_Mod_clearUnits_0 (1, .istore_n 1, 1) (List.mem_of_getElem? (i := 1) rfl)
theorem d_Mod_clearUnits_2 : decode prog_13_method_4_code 2 = .ok (.iload_n 1, 1) := id_Mod_clearUnits_0 (2, .iload_n 1, 1) (List.mem_of_getElem? (i := 2) rfl)
theorem d_Mod_clearUnits_3 : decode prog_13_method_4_code 3 = .ok (.bipush (8), 2) := id_Mod_clearUnits_0 (3, .bipush (8), 2) (List.mem_of_getElem? (i := 3) rfl)
theorem d_Mod_clearUnits_5 : decode prog_13_method_4_code 5 = .ok (.if_icmp .ge (49), 3) := id_Mod_clearUnits_0 (5, .if_icmp .ge (49), 3) (List.mem_of_getElem? (i := 4) rfl)
theorem d_Mod_clearUnits_8 : decode prog_13_method_4_code 8 = .ok (.aload_n 0, 1) := id_Mod_clearUnits_0 (8, .aload_n 0, 1) (List.mem_of_getElem? (i := 5) rfl)
theorem d_Mod_clearUnits_9 : decode prog_13_method_4_code 9 = .ok (.getfield 42, 3) := id_Mod_clearUnits_0 (9, .getfield 42, 3) (List.mem_of_getElem? (i := 6) rfl)
theorem d_Mod_clearUnits_12 : decode prog_13_method_4_code 12 = .ok (.iload_n 1, 1) := id_Mod_clearUnits_0 (12, .iload_n 1, 1) (List.mem_of_getElem? (i := 7) rfl)
theorem d_Mod_clearUnits_13 : decode prog_13_method_4_code 13 = .ok (.iconst 0, 1) := id_Mod_clearUnits_0 (13, .iconst 0, 1) (List.mem_of_getElem? (i := 8) rfl)
theorem d_Mod_clearUnits_14 : decode prog_13_method_4_code 14 = .ok (.iastore, 1) := id_Mod_clearUnits_0 (14, .iastore, 1) (List.mem_of_getElem? (i := 9) rfl)
theorem d_Mod_clearUnits_15 : decode prog_13_method_4_code 15 = .ok (.aload_n 0, 1) := id_Mod_clearUnits_0 (15, .aload_n 0, 1) (List.mem_of_getElem? (i := 10) rfl)
theorem d_Mod_clearUnits_16 : decode prog_13_method_4_code 16 = .ok (.getfield 45, 3) := id_Mod_clearUnits_0 (16, .getfield 45, 3) (List.mem_of_getElem? (i := 11) rfl)
theorem d_Mod_clearUnits_19 : decode prog_13_method_4_code 19 = .ok (.iload_n 1, 1) := id_Mod_clearUnits_0 (19, .iload_n 1, 1) (List.mem_of_getElem? (i := 12) rfl)
theorem d_Mod_clearUnits_20 : decode prog_13_method_4_code 20 = .ok (.iconst 0, 1) := id_Mod_clearUnits_0 (20, .iconst 0, 1) (List.mem_of_getElem? (i := 13) rfl)
theorem d_Mod_clearUnits_21 : decode prog_13_method_4_code 21 = .ok (.iastore, 1) := id_Mod_clearUnits_0 (21, .iastore, 1) (List.mem_of_getElem? (i := 14) rfl)
theorem d_Mod_clearUnits_22 : decode prog_13_method_4_code 22 = .ok (.aload_n 0, 1) := id_Mod_clearUnits_0 (22, .aload_n 0, 1) (List.mem_of_getElem? (i := 15) rfl)
theorem d_Mod_clearUnits_23 : decode prog_13_method_4_code 23 = .ok (.getfield 48, 3) := id_Mod_clearUnits_0 (23, .getfield 48, 3) (List.mem_of_getElem? (i := 16) rfl)
theorem d_Mod_clearUnits_26 : decode prog_13_method_4_code 26 = .ok (.iload_n 1, 1) := id_Mod_clearUnits_0 (26, .iload_n 1, 1) (List.mem_of_getElem? (i := 17) rfl)
theorem d_Mod_clearUnits_27 : decode prog_13_method_4_code 27 = .ok (.aload_n 0, 1) := id_Mod_clearUnits_0 (27, .aload_n 0, 1) (List.mem_of_getElem? (i := 18) rfl)
theorem d_Mod_clearUnits_28 : decode prog_13_method_4_code 28 = .ok (.getfield 13, 3) := id_Mod_clearUnits_0 (28, .getfield 13, 3) (List.mem_of_getElem? (i := 19) rfl)
theorem d_Mod_clearUnits_31 : decode prog_13_method_4_code 31 = .ok (.iconst 1, 1) := id_Mod_clearUnits_0 (31, .iconst 1, 1) (List.mem_of_getElem? (i := 20) rfl)
theorem d_Mod_clearUnits_32 : decode prog_13_method_4_code 32 = .ok (.isub, 1) := id_Mod_clearUnits_0 (32, .isub, 1) (List.mem_of_getElem? (i := 21) rfl)
theorem d_Mod_clearUnits_33 : decode prog_13_method_4_code 33 = .ok (.iastore, 1) := id_Mod_clearUnits_0 (33, .iastore, 1) (List.mem_of_getElem? (i := 22) rfl)
theorem d_Mod_clearUnits_34 : decode prog_13_method_4_code 34 = .ok (.aload_n 0, 1) := id_Mod_clearUnits_0 (34, .aload_n 0, 1) (List.mem_of_getElem? (i := 23) rfl)
def it_Mod_clearUnits_1 : List (Nat × ClassFile.Instr × Nat) := [(35, .getfield 51, 3), (38, .iload_n 1, 1), (39, .iconst 0, 1), (40, .iastore, 1), (41, .aload_n 0, 1), (42, .getfield 39, 3), (45, .iload_n 1, 1), (46, .iconst 0, 1), (47, .iastore, 1), (48, .iinc 1 (1), 3), (51, .goto (-49), 3), (54, .aload_n 0, 1), (55, .invokevirtual 123, 3), (58, .return_, 1)]
theorem id_Mod_clearUnits_1 : ∀ q ∈ it_Mod_clearUnits_1, decode prog_13_method_4_code q.1 = .ok q.2 := by decide +kernel
theorem d_Mod_clearUnits_35 : decode prog_13_method_4_code 35 = .ok (.getfield 51, 3) := id_Mod_clearUnits_1 (35, .getfield 51, 3) (List.mem_of_getElem? (i := 0) rfl)
theorem d_Mod_clearUnits_38 : decode prog_13_method_4_code 38 = .ok (.iload_n 1, 1) := id_Mod_clearUnits_1 (38, .iload_n 1, 1) (List.mem_of_getElem? (i := 1) rfl)
theorem d_Mod_clearUnits_39 : decode prog_13_method_4_code 39 = .ok (.iconst 0, 1) := id_Mod_clearUnits_1 (39, .iconst 0, 1) (List.mem_of_getElem? (i := 2) rfl)
theorem d_Mod_clearUnits_40 : decode prog_13_method_4_code 40 = .ok (.iastore, 1) := id_Mod_clearUnits_1 (40, .iastore, 1) (List.mem_of_getElem? (i := 3) rfl)
theorem d_Mod_clearUnits_41 : decode prog_13_method_4_code 41 = .ok (.aload_n 0, 1) := id_Mod_clearUnits_1 (41, .aload_n 0, 1) (List.mem_of_getElem? (i := 4) rfl)
theorem d_Mod_clearUnits_42 : decode prog_13_method_4_code 42 = .ok (.getfield 39, 3) := id_Mod_clearUnits_1 (42, .getfield 39, 3) (List.mem_of_getElem? (i := 5) rfl)
theorem d_Mod_clearUnits_45 : decode prog_13_method_4_code 45 = .ok (.iload_n 1, 1) := id_Mod_clearUnits_1 (45, .iload_n 1, 1) (List.mem_of_getElem? (i := 6) rfl)
theorem d_Mod_clearUnits_46 : decode prog_13_method_4_code 46 = .ok (.iconst 0, 1) := id_Mod_clearUnits_1 (46, .iconst 0, 1) (List.mem_of_getElem? (i := 7) rfl)
theorem d_Mod_clearUnits_47 : decode prog_13_method_4_code 47 = .ok (.iastore, 1) := id_Mod_clearUnits_1 (47, .iastore, 1) (List.mem_of_getElem? (i := 8) rfl)
theorem d_Mod_clearUnits_48 : decode prog_13_method_4_code 48 = .ok (.iinc 1 (1), 3) := id_Mod_clearUnits_1 (48, .iinc 1 (1), 3) (List.mem_of_getElem? (i := 9) rfl)
theorem d_Mod_clearUnits_51 : decode prog_13_method_4_code 51 = .ok (.goto (-49), 3) := id_Mod_clearUnits_1 (51, .goto (-49), 3) (List.mem_of_getElem? (i := 10) rfl)
theorem d_Mod_clearUnits_54 : decode prog_13_method_4_code 54 = .ok (.aload_n 0, 1) := id_Mod_clearUnits_1 (54, .aload_n 0, 1) (List.mem_of_getElem? (i := 11) rfl)
theorem d_Mod_clearUnits_55 : decode prog_13_method_4_code 55 = .ok (.invokevirtual 123, 3) := id_Mod_clearUnits_1 (55, .invokevirtual 123, 3) (List.mem_of_getElem? (i := 12) rfl)
theorem d_Mod_clearUnits_58 : decode prog_13_method_4_code 58 = .ok (.return_, 1) := id_Mod_clearUnits_1 (58, .return_, 1) (List.mem_of_getElem? (i := 13) rfl)
theorem wC_Mod_clearUnits : Cond.code ⟨"WarpMillModel", "clearUnits", "()V"⟩ prog_13_method_4_code 2 (none) ∈ lw_tb := mem_tb 1057 (by decide +kernel) rfl
theorem cw_Mod_clearUnits_Mod_freeAll : cW mi_Mod_clearUnits mi_Mod_freeAll 0 := ⟨wC_Mod_freeAll, wi_Mod, ⟨by decide, by decide, by decide +kernel⟩, by decide, by decide⟩
def b_Mod_clearUnits_2 (F : Nat) : Nat → Nat → Int32 → Hp → Option Hp
  | 0 => fun _ _ _ => none
  | n + 1 => fun x0 x1 h => if (8 : Int32) ≤ x1 then (gd (hK h x0 = 12) <| clv (f_Mod_freeAll F x0 h) fun h_55_2 => some h_55_2) else (gd (hK h x0 = 12) <| rq h (hR h 731 x0) 100 fun a_9_2 => ix x1 (hN h a_9_2) fun j_14 => pw (sA h a_9_2 j_14 (0 : Int32)) fun h_14_2 => rq h_14_2 (hR h_14_2 732 x0) 100 fun a_16 => ix x1 (hN h_14_2 a_16) fun j_21 => pw (sA h_14_2 a_16 j_21 (0 : Int32)) fun h_21_2 => rq h_21_2 (hR h_21_2 733 x0) 100 fun a_23 => ix x1 (hN h_21_2 a_23) fun j_33 => pw (sA h_21_2 a_23 j_33 ((hI h_21_2 706 x0) - (1 : Int32))) fun h_33_2 => rq h_33_2 (hR h_33_2 734 x0) 100 fun a_35 => ix x1 (hN h_33_2 a_35) fun j_40 => pw (sA h_33_2 a_35 j_40 (0 : Int32)) fun h_40_2 => rq h_40_2 (hR h_40_2 714 x0) 100 fun a_42 => ix x1 (hN h_40_2 a_42) fun j_47 => pw (sA h_40_2 a_42 j_47 (0 : Int32)) fun h_47_2 => b_Mod_clearUnits_2 F n x0 (x1 + 1) h_47_2)
set_option maxRecDepth 100000 in
set_option maxHeartbeats 4000000 in
theorem e_Mod_clearUnits_2 {G : Gl} (hw : gF G) {h0 : Hp} {F : Nat} {h' : Hp}   : ∀ (n : Nat) (x0 : Nat) (x1 : Int32) (h : Hp), b_Mod_clearUnits_2 F n x0 x1 h = some h' → Go G mi_Mod_clearUnits h0 (pV h') h 2 [(0, .ref x0), (1, .int x1)] [] := by
  intro n
  induction n with
  | zero =>
    intro _ _ _ hf
    exact nm_s hf
  | succ n ih =>
    intro x0 x1 h hf
    unfold b_Mod_clearUnits_2 at hf
    refine g_iload_n d_Mod_clearUnits_2 rfl ?_
    refine g_bipush (8) d_Mod_clearUnits_3 (by decide) ?_
    refine g_icmp_ge 54 d_Mod_clearUnits_5 (by decide) (fun c_5 => ?_) (fun c_5 => ?_)
    · have hf := ifp hf c_5
      refine g_aload_n d_Mod_clearUnits_54 rfl ?_
      obtain ⟨k_55, hf⟩ := gd_s hf
      obtain ⟨h_55_2, e_55_2, hf⟩ := clv_s hf
      refine g_callV (mz := mi_Mod_freeAll) (e_Mod_freeAll hw e_55_2) cw_Mod_clearUnits_Mod_freeAll lm_Mod_123 wI_Mod_freeAll wV_Mod_freeAll (ci := 11) k_55 (by decide) rfl rfl d_Mod_clearUnits_55 rfl rfl (by first | exact Nat.le_of_ble_eq_true rfl | simp [cat_rf, Value.category]) (fun r1 h1 hp hro => ?_)
      obtain ⟨rfl, rfl⟩ := hp
      dsimp only [Option.toList_some, Option.toList_none, List.cons_append, List.nil_append]
      exact Go.ret none trivial rfl d_Mod_clearUnits_58 (pV_of hf)
    · have hf := ifn hf c_5
      refine g_aload_n d_Mod_clearUnits_8 rfl ?_
      obtain ⟨k_9, hf⟩ := gd_s hf
      obtain ⟨a_9_2, e_9_2, k_9_2, hf⟩ := rq_s hf
      refine fgs_Mod_divider lf_Mod_42 d_Mod_clearUnits_9 k_9 e_9_2 ?_
      refine g_iload_n d_Mod_clearUnits_12 rfl ?_
      refine g_iconst 0 d_Mod_clearUnits_13 (by decide) ?_
      obtain ⟨i_14, hf⟩ := ix_s hf
      refine g_iast hw k_9_2 i_14 d_Mod_clearUnits_14 ?_
      have hf := pw_b hf
      refine g_aload_n d_Mod_clearUnits_15 rfl ?_
      obtain ⟨a_16, e_16, k_16, hf⟩ := rq_s hf
      refine fgs_Mod_sharedTick lf_Mod_45 d_Mod_clearUnits_16 (kksA k_9) e_16 ?_
      refine g_iload_n d_Mod_clearUnits_19 rfl ?_
      refine g_iconst 0 d_Mod_clearUnits_20 (by decide) ?_
      obtain ⟨i_21, hf⟩ := ix_s hf
      refine g_iast hw k_16 i_21 d_Mod_clearUnits_21 ?_
      have hf := pw_b hf
      refine g_aload_n d_Mod_clearUnits_22 rfl ?_
      obtain ⟨a_23, e_23, k_23, hf⟩ := rq_s hf
      refine fgs_Mod_latest lf_Mod_48 d_Mod_clearUnits_23 (kksA (kksA k_9)) e_23 ?_
      refine g_iload_n d_Mod_clearUnits_26 rfl ?_
      refine g_aload_n d_Mod_clearUnits_27 rfl ?_
      refine fg_Mod_slots lf_Mod_13 d_Mod_clearUnits_28 (kksA (kksA k_9)) ?_
      refine g_iconst 1 d_Mod_clearUnits_31 (by decide) ?_
      refine g_isub d_Mod_clearUnits_32 ?_
      obtain ⟨i_33, hf⟩ := ix_s hf
      refine g_iast hw k_23 i_33 d_Mod_clearUnits_33 ?_
      have hf := pw_b hf
      refine g_aload_n d_Mod_clearUnits_34 rfl ?_
      obtain ⟨a_35, e_35, k_35, hf⟩ := rq_s hf
      refine fgs_Mod_unitWords lf_Mod_51 d_Mod_clearUnits_35 (kksA (kksA (kksA k_9))) e_35 ?_
      refine g_iload_n d_Mod_clearUnits_38 rfl ?_
      refine g_iconst 0 d_Mod_clearUnits_39 (by decide) ?_
      obtain ⟨i_40, hf⟩ := ix_s hf
      refine g_iast hw k_35 i_40 d_Mod_clearUnits_40 ?_
      have hf := pw_b hf
      refine g_aload_n d_Mod_clearUnits_41 rfl ?_
      obtain ⟨a_42, e_42, k_42, hf⟩ := rq_s hf
      refine fgs_Mod_gateTick lf_Mod_39 d_Mod_clearUnits_42 (kksA (kksA (kksA (kksA k_9)))) e_42 ?_
      refine g_iload_n d_Mod_clearUnits_45 rfl ?_
      refine g_iconst 0 d_Mod_clearUnits_46 (by decide) ?_
      obtain ⟨i_47, hf⟩ := ix_s hf
      refine g_iast hw k_42 i_47 d_Mod_clearUnits_47 ?_
      have hf := pw_b hf
      refine g_iinc (_ + 1) d_Mod_clearUnits_48 rfl (by rfl) (by decide) ?_
      show Go _ _ _ _ _ _ [(0, _), (1, _)] _
      refine g_goto 2 d_Mod_clearUnits_51 (by decide) ?_
      exact ih _ _ _ hf
def f_Mod_clearUnits (F : Nat) (x0 : Nat) (h : Hp) : Option Hp := b_Mod_clearUnits_2 F F x0 (0 : Int32) h
set_option maxRecDepth 100000 in
set_option maxHeartbeats 4000000 in
theorem e_Mod_clearUnits {G : Gl} (hw : gF G) {F : Nat} {h' : Hp} {x0 : Nat} {h : Hp} (hf : f_Mod_clearUnits F x0 h = some h') : Ex G mi_Mod_clearUnits [.ref x0] h (pV h') := by
  unfold f_Mod_clearUnits at hf
  refine Ex.of nmV (by decide) (Nat.le_of_ble_eq_true rfl) ?_
  show Go G mi_Mod_clearUnits h _ h 0 [(0, .ref x0)] []
  refine g_iconst 0 d_Mod_clearUnits_0 (by decide) ?_
  refine g_istore_n d_Mod_clearUnits_1 (by decide) ?_
  show Go _ _ _ _ _ _ [(0, _), (1, _)] _
  have key := e_Mod_clearUnits_2 hw (G := G) (h0 := h)  F _ _ _ hf
  exact key
abbrev mi_Mod_clearHouse : MI := (⟨"WarpMillModel", "clearHouse", "()V"⟩, prog_13_method_5_code, 2, none, 2, 42)
def it_Mod_clearHouse_0 : List (Nat × ClassFile.Instr × Nat) := [(0, .aload_n 0, 1), (1, .invokevirtual 126, 3), (4, .iconst 0, 1), (5, .istore_n 1, 1), (6, .iload_n 1, 1), (7, .bipush (32), 2), (9, .if_icmp .ge (16), 3), (12, .aload_n 0, 1), (13, .getfield 36, 3), (16, .iload_n 1, 1), (17, .iconst (-1), 1), (18, .iastore, 1), (19, .iinc 1 (1), 3), (22, .goto (-16), 3), (25, .return_, 1)]
theorem id_Mod_clearHouse_0 : ∀ q ∈ it_Mod_clearHouse_0, decode prog_13_method_5_code q.1 = .ok q.2 := by decide +kernel
theorem d_Mod_clearHouse_0 : decode prog_13_method_5_code 0 = .ok (.aload_n 0, 1) := id_Mod_clearHouse_0 (0, .aload_n 0, 1) (List.mem_of_getElem? (i := 0) rfl)
theorem d_Mod_clearHouse_1 : decode prog_13_method_5_code 1 = .ok (.invokevirtual 126, 3) := id_Mod_clearHouse_0 (1, .invokevirtual 126, 3) (List.mem_of_getElem? (i := 1) rfl)
theorem d_Mod_clearHouse_4 : decode prog_13_method_5_code 4 = .ok (.iconst 0, 1) := id_Mod_clearHouse_0 (4, .iconst 0, 1) (List.mem_of_getElem? (i := 2) rfl)
theorem d_Mod_clearHouse_5 : decode prog_13_method_5_code 5 = .ok (.istore_n 1, 1) := id_Mod_clearHouse_0 (5, .istore_n 1, 1) (List.mem_of_getElem? (i := 3) rfl)
theorem d_Mod_clearHouse_6 : decode prog_13_method_5_code 6 = .ok (.iload_n 1, 1) := id_Mod_clearHouse_0 (6, .iload_n 1, 1) (List.mem_of_getElem? (i := 4) rfl)
theorem d_Mod_clearHouse_7 : decode prog_13_method_5_code 7 = .ok (.bipush (32), 2) := id_Mod_clearHouse_0 (7, .bipush (32), 2) (List.mem_of_getElem? (i := 5) rfl)
theorem d_Mod_clearHouse_9 : decode prog_13_method_5_code 9 = .ok (.if_icmp .ge (16), 3) := id_Mod_clearHouse_0 (9, .if_icmp .ge (16), 3) (List.mem_of_getElem? (i := 6) rfl)
theorem d_Mod_clearHouse_12 : decode prog_13_method_5_code 12 = .ok (.aload_n 0, 1) := id_Mod_clearHouse_0 (12, .aload_n 0, 1) (List.mem_of_getElem? (i := 7) rfl)
theorem d_Mod_clearHouse_13 : decode prog_13_method_5_code 13 = .ok (.getfield 36, 3) := id_Mod_clearHouse_0 (13, .getfield 36, 3) (List.mem_of_getElem? (i := 8) rfl)
theorem d_Mod_clearHouse_16 : decode prog_13_method_5_code 16 = .ok (.iload_n 1, 1) := id_Mod_clearHouse_0 (16, .iload_n 1, 1) (List.mem_of_getElem? (i := 9) rfl)
theorem d_Mod_clearHouse_17 : decode prog_13_method_5_code 17 = .ok (.iconst (-1), 1) := id_Mod_clearHouse_0 (17, .iconst (-1), 1) (List.mem_of_getElem? (i := 10) rfl)
theorem d_Mod_clearHouse_18 : decode prog_13_method_5_code 18 = .ok (.iastore, 1) := id_Mod_clearHouse_0 (18, .iastore, 1) (List.mem_of_getElem? (i := 11) rfl)
theorem d_Mod_clearHouse_19 : decode prog_13_method_5_code 19 = .ok (.iinc 1 (1), 3) := id_Mod_clearHouse_0 (19, .iinc 1 (1), 3) (List.mem_of_getElem? (i := 12) rfl)
theorem d_Mod_clearHouse_22 : decode prog_13_method_5_code 22 = .ok (.goto (-16), 3) := id_Mod_clearHouse_0 (22, .goto (-16), 3) (List.mem_of_getElem? (i := 13) rfl)
theorem d_Mod_clearHouse_25 : decode prog_13_method_5_code 25 = .ok (.return_, 1) := id_Mod_clearHouse_0 (25, .return_, 1) (List.mem_of_getElem? (i := 14) rfl)
theorem wC_Mod_clearHouse : Cond.code ⟨"WarpMillModel", "clearHouse", "()V"⟩ prog_13_method_5_code 2 (none) ∈ lw_tb := mem_tb 1053 (by decide +kernel) rfl
theorem cw_Mod_clearHouse_Mod_clearUnits : cW mi_Mod_clearHouse mi_Mod_clearUnits 0 := ⟨wC_Mod_clearUnits, wi_Mod, ⟨by decide, by decide, by decide +kernel⟩, by decide, by decide⟩
def b_Mod_clearHouse_6 (F : Nat) : Nat → Nat → Int32 → Hp → Option Hp
  | 0 => fun _ _ _ => none
  | n + 1 => fun x0 x1 h => if (32 : Int32) ≤ x1 then (some h) else (gd (hK h x0 = 12) <| rq h (hR h 713 x0) 100 fun a_13_2 => ix x1 (hN h a_13_2) fun j_18 => pw (sA h a_13_2 j_18 (-1 : Int32)) fun h_18_2 => b_Mod_clearHouse_6 F n x0 (x1 + 1) h_18_2)
set_option maxRecDepth 100000 in
set_option maxHeartbeats 4000000 in
theorem e_Mod_clearHouse_6 {G : Gl} (hw : gF G) {h0 : Hp} {F : Nat} {h' : Hp}   : ∀ (n : Nat) (x0 : Nat) (x1 : Int32) (h : Hp), b_Mod_clearHouse_6 F n x0 x1 h = some h' → Go G mi_Mod_clearHouse h0 (pV h') h 6 [(0, .ref x0), (1, .int x1)] [] := by
  intro n
  induction n with
  | zero =>
    intro _ _ _ hf
    exact nm_s hf
  | succ n ih =>
    intro x0 x1 h hf
    unfold b_Mod_clearHouse_6 at hf
    refine g_iload_n d_Mod_clearHouse_6 rfl ?_
    refine g_bipush (32) d_Mod_clearHouse_7 (by decide) ?_
    refine g_icmp_ge 25 d_Mod_clearHouse_9 (by decide) (fun c_9 => ?_) (fun c_9 => ?_)
    · have hf := ifp hf c_9
      exact Go.ret none trivial rfl d_Mod_clearHouse_25 (pV_of hf)
    · have hf := ifn hf c_9
      refine g_aload_n d_Mod_clearHouse_12 rfl ?_
      obtain ⟨k_13, hf⟩ := gd_s hf
      obtain ⟨a_13_2, e_13_2, k_13_2, hf⟩ := rq_s hf
      refine fgs_Mod_cache lf_Mod_36 d_Mod_clearHouse_13 k_13 e_13_2 ?_
      refine g_iload_n d_Mod_clearHouse_16 rfl ?_
      refine g_iconst (-1) d_Mod_clearHouse_17 (by decide) ?_
      obtain ⟨i_18, hf⟩ := ix_s hf
      refine g_iast hw k_13_2 i_18 d_Mod_clearHouse_18 ?_
      have hf := pw_b hf
      refine g_iinc (_ + 1) d_Mod_clearHouse_19 rfl (by rfl) (by decide) ?_
      show Go _ _ _ _ _ _ [(0, _), (1, _)] _
      refine g_goto 6 d_Mod_clearHouse_22 (by decide) ?_
      exact ih _ _ _ hf
def f_Mod_clearHouse (F : Nat) (x0 : Nat) (h : Hp) : Option Hp := gd (hK h x0 = 12) <| clv (f_Mod_clearUnits F x0 h) fun h_1_2 => b_Mod_clearHouse_6 F F x0 (0 : Int32) h_1_2
set_option maxRecDepth 100000 in
set_option maxHeartbeats 4000000 in
theorem e_Mod_clearHouse {G : Gl} (hw : gF G) {F : Nat} {h' : Hp} {x0 : Nat} {h : Hp} (hf : f_Mod_clearHouse F x0 h = some h') : Ex G mi_Mod_clearHouse [.ref x0] h (pV h') := by
  unfold f_Mod_clearHouse at hf
  refine Ex.of nmV (by decide) (Nat.le_of_ble_eq_true rfl) ?_
  show Go G mi_Mod_clearHouse h _ h 0 [(0, .ref x0)] []
  refine g_aload_n d_Mod_clearHouse_0 rfl ?_
  obtain ⟨k_1, hf⟩ := gd_s hf
  obtain ⟨h_1_2, e_1_2, hf⟩ := clv_s hf
  refine g_callV (mz := mi_Mod_clearUnits) (e_Mod_clearUnits hw e_1_2) cw_Mod_clearHouse_Mod_clearUnits lm_Mod_126 wI_Mod_clearUnits wV_Mod_clearUnits (ci := 11) k_1 (by decide) rfl rfl d_Mod_clearHouse_1 rfl rfl (by first | exact Nat.le_of_ble_eq_true rfl | simp [cat_rf, Value.category]) (fun r1 h1 hp hro => ?_)
  obtain ⟨rfl, rfl⟩ := hp
  dsimp only [Option.toList_some, Option.toList_none, List.cons_append, List.nil_append]
  refine g_iconst 0 d_Mod_clearHouse_4 (by decide) ?_
  refine g_istore_n d_Mod_clearHouse_5 (by decide) ?_
  show Go _ _ _ _ _ _ [(0, _), (1, _)] _
  have key := e_Mod_clearHouse_6 hw (G := G) (h0 := h)  F _ _ _ hf
  exact key
