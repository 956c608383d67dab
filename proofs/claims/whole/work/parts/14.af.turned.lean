abbrev mi_Warp_gather : MI := (⟨"WarpMill$Warp", "gather", "([LWarpMill$Word;)V"⟩, prog_10_method_3_code, 4, none, 2, 43)
def it_Warp_gather_0 : List (Nat × ClassFile.Instr × Nat) := [(0, .aload_n 0, 1), (1, .getfield 49, 3), (4, .aload_n 0, 1), (5, .getfield 52, 3), (8, .iconst (-1), 1), (9, .ixor, 1), (10, .iand, 1), (11, .aload_n 0, 1), (12, .getfield 55, 3), (15, .iconst (-1), 1), (16, .ixor, 1), (17, .iand, 1), (18, .istore_n 2, 1), (19, .aload_n 0, 1), (20, .iconst 0, 1), (21, .putfield 67, 3), (24, .aload_n 0, 1), (25, .iconst 0, 1), (26, .putfield 70, 3), (29, .iconst 0, 1), (30, .istore_n 3, 1), (31, .iload_n 3, 1), (32, .aload_n 0, 1), (33, .getfield 35, 3)]
theorem id_Warp_gather_0 : ∀ q ∈ it_Warp_gather_0, decode prog_10_method_3_code q.1 = .ok q.2 := by decide +kernel
theorem d_Warp_gather_0 : decode prog_10_method_3_code 0 = .ok (.aload_n 0, 1) := id_Warp_gather_0 (0, .aload_n 0, 1) (List.mem_of_getElem? (i := 0) rfl)
theorem d_Warp_gather_1 : decode prog_10_method_3_code 1 = .ok (.getfield 49, 3) := id_Warp_gather_0 (1, .getfield 49, 3) (List.mem_of_getElem? (i := 1) rfl)
theorem d_Warp_gather_4 : decode prog_10_method_3_code 4 = .ok (.aload_n 0, 1) := id_Warp_gather_0 (4, .aload_n 0, 1) (List.mem_of_getElem? (i := 2) rfl)
theorem d_Warp_gather_5 : decode prog_10_method_3_code 5 = .ok (.getfield 52, 3) := id_Warp_gather_0 (5, .getfield 52, 3) (List.mem_of_getElem? (i := 3) rfl)
theorem d_Warp_gather_8 : decode prog_10_method_3_code 8 = .ok (.iconst (-1), 1) := id_Warp_gather_0 (8, .iconst (-1), 1) (List.mem_of_getElem? (i := 4) rfl)
theorem d_Warp_gather_9 : decode prog_10_method_3_code 9 = .ok (.ixor, 1) := id_Warp_gather_0 (9, .ixor, 1) (List.mem_of_getElem? (i := 5) rfl)
theorem d_Warp_gather_10 : decode prog_10_method_3_code 10 = .ok (.iand, 1) := id_Warp_gather_0 (10, .iand, 1) (List.mem_of_getElem? (i := 6) rfl)
theorem d_Warp_gather_11 : decode prog_10_method_3_code 11 = .ok (.aload_n 0, 1) := id_Warp_gather_0 (11, .aload_n 0, 1) (List.mem_of_getElem? (i := 7) rfl)
theorem d_Warp_gather_12 : decode prog_10_method_3_code 12 = .ok (.getfield 55, 3) := id_Warp_gather_0 (12, .getfield 55, 3) (List.mem_of_getElem? (i := 8) rfl)
theorem d_Warp_gather_15 : decode prog_10_method_3_code 15 = .ok (.iconst (-1), 1) := id_Warp_gather_0 (15, .iconst (-1), 1) (List.mem_of_getElem? (i := 9) rfl)
theorem d_Warp_gather_16 : decode prog_10_method_3_code 16 = .ok (.ixor, 1) := id_Warp_gather_0 (16, .ixor, 1) (List.mem_of_getElem? (i := 10) rfl)
theorem d_Warp_gather_17 : decode prog_10_method_3_code 17 = .ok (.iand, 1) := id_Warp_gather_0 (17, .iand, 1) (List.mem_of_getElem? (i := 11) rfl)
theorem d_Warp_gather_18 : decode prog_10_method_3_code 18 = .ok (.istore_n 2, 1) := id_Warp_gather_0 (18, .istore_n 2, 1) (List.mem_of_getElem? (i := 12) rfl)
theorem d_Warp_gather_19 : decode prog_10_method_3_code 19 = .ok (.aload_n 0, 1) := id_Warp_gather_0 (19, .aload_n 0, 1) (List.mem_of_getElem? (i := 13) rfl)
theorem d_Warp_gather_20 : decode prog_10_method_3_code 20 = .ok (.iconst 0, 1) := id_Warp_gather_0 (20, .iconst 0, 1) (List.mem_of_getElem? (i := 14) rfl)
theorem d_Warp_gather_21 : decode prog_10_method_3_code 21 = .ok (.putfield 67, 3) := id_Warp_gather_0 (21, .putfield 67, 3) (List.mem_of_getElem? (i := 15) rfl)
theorem d_Warp_gather_24 : decode prog_10_method_3_code 24 = .ok (.aload_n 0, 1) := id_Warp_gather_0 (24, .aload_n 0, 1) (List.mem_of_getElem? (i := 16) rfl)
theorem d_Warp_gather_25 : decode prog_10_method_3_code 25 = .ok (.iconst 0, 1) := id_Warp_gather_0 (25, .iconst 0, 1) (List.mem_of_getElem? (i := 17) rfl)
theorem d_Warp_gather_26 : decode prog_10_method_3_code 26 = .ok (.putfield 70, 3) := id_Warp_gather_0 (26, .putfield 70, 3) (List.mem_of_getElem? (i := 18) rfl)
theorem d_Warp_gather_29 : decode prog_10_method_3_code 29 = .ok (.iconst 0, 1) := id_Warp_gather_0 (29, .iconst 0, 1) (List.mem_of_getElem? (i := 19) rfl)
theorem d_Warp_gather_30 : decode prog_10_method_3_code 30 = .ok (.istore_n 3, 1) := id_Warp_gather_0 (30, .istore_n 3, 1) (List.mem_of_getElem? (i := 20) rfl)
theorem d_Warp_gather_31 : decode prog_10_method_3_code 31 = .ok (.iload_n 3, 1) := id_Warp_gather_0 (31, .iload_n 3, 1) (List.mem_of_getElem? (i := 21) rfl)
theorem d_Warp_gather_32 : decode prog_10_method_3_code 32 = .ok (.aload_n 0, 1) := id_Warp_gather_0 (32, .aload_n 0, 1) (List.mem_of_getElem? (i := 22) rfl)
theorem d_Warp_gather_33 : decode prog_10_method_3_code 33 = .ok (.getfield 35, 3) := id_Warp_gather_0 (33, .getfield 35, 3) (List.mem_of_getElem? (i := 23) rfl)
def it_Warp_gather_1 : List (Nat × ClassFile.Instr × Nat) := [(36, .if_icmp .ge (77), 3), (39, .iload_n 2, 1), (40, .iload_n 3, 1), (41, .invokestatic 73, 3), (44, .ifCond .eq (63), 3), (47, .aload_n 0, 1), (48, .getfield 67, 3), (51, .ifCond .eq (16), 3), (54, .aload_n 0, 1), (55, .getfield 21, 3), (58, .iload_n 3, 1), (59, .iaload, 1), (60, .aload_n 0, 1), (61, .getfield 70, 3), (64, .if_icmp .ge (18), 3), (67, .aload_n 0, 1), (68, .iconst 0, 1), (69, .putfield 67, 3), (72, .aload_n 0, 1), (73, .aload_n 0, 1), (74, .getfield 21, 3), (77, .iload_n 3, 1), (78, .iaload, 1), (79, .putfield 70, 3)]
theorem id_Warp_gather_1 : ∀ q ∈ it_Warp_gather_1, decode prog_10_method_3_code q.1 = .ok q.2 := by decide +kernel
theorem d_Warp_gather_36 : decode prog_10_method_3_code 36 = .ok (.if_icmp .ge (77), 3) := id_Warp_gather_1 (36, .if_icmp .ge (77), 3) (List.mem_of_getElem? (i := 0) rfl)
theorem d_Warp_gather_39 : decode prog_10_method_3_code 39 = .ok (.iload_n 2, 1) := id_Warp_gather_1 (39, .iload_n 2, 1) (List.mem_of_getElem? (i := 1) rfl)
theorem d_Warp_gather_40 : decode prog_10_method_3_code 40 = .ok (.iload_n 3, 1) := id_Warp_gather_1 (40, .iload_n 3, 1) (List.mem_of_getElem? (i := 2) rfl)
theorem d_Warp_gather_41 : decode prog_10_method_3_code 41 = .ok (.invokestatic 73, 3) := id_Warp_gather_1 (41, .invokestatic 73, 3) (List.mem_of_getElem? (i := 3) rfl)
theorem d_Warp_gather_44 : decode prog_10_method_3_code 44 = .ok (.ifCond .eq (63), 3) := id_Warp_gather_1 (44, .ifCond .eq (63), 3) (List.mem_of_getElem? (i := 4) rfl)
theorem d_Warp_gather_47 : decode prog_10_method_3_code 47 = .ok (.aload_n 0, 1) := id_Warp_gather_1 (47, .aload_n 0, 1) (List.mem_of_getElem? (i := 5) rfl)
theorem d_Warp_gather_48 : decode prog_10_method_3_code 48 = .ok (.getfield 67, 3) := id_Warp_gather_1 (48, .getfield 67, 3) (List.mem_of_getElem? (i := 6) rfl)
theorem d_Warp_gather_51 : decode prog_10_method_3_code 51 = .ok (.ifCond .eq (16), 3) := id_Warp_gather_1 (51, .ifCond .eq (16), 3) (List.mem_of_getElem? (i := 7) rfl)
theorem d_Warp_gather_54 : decode prog_10_method_3_code 54 = .ok (.aload_n 0, 1) := id_Warp_gather_1 (54, .aload_n 0, 1) (List.mem_of_getElem? (i := 8) rfl)
theorem d_Warp_gather_55 : decode prog_10_method_3_code 55 = .ok (.getfield 21, 3) := id_Warp_gather_1 (55, .getfield 21, 3) (List.mem_of_getElem? (i := 9) rfl)
theorem d_Warp_gather_58 : decode prog_10_method_3_code 58 = .ok (.iload_n 3, 1) := id_Warp_gather_1 (58, .iload_n 3, 1) (List.mem_of_getElem? (i := 10) rfl)
theorem d_Warp_gather_59 : decode prog_10_method_3_code 59 = .ok (.iaload, 1) := id_Warp_gather_1 (59, .iaload, 1) (List.mem_of_getElem? (i := 11) rfl)
theorem d_Warp_gather_60 : decode prog_10_method_3_code 60 = .ok (.aload_n 0, 1) := id_Warp_gather_1 (60, .aload_n 0, 1) (List.mem_of_getElem? (i := 12) rfl)
theorem d_Warp_gather_61 : decode prog_10_method_3_code 61 = .ok (.getfield 70, 3) := id_Warp_gather_1 (61, .getfield 70, 3) (List.mem_of_getElem? (i := 13) rfl)
theorem d_Warp_gather_64 : decode prog_10_method_3_code 64 = .ok (.if_icmp .ge (18), 3) := id_Warp_gather_1 (64, .if_icmp .ge (18), 3) (List.mem_of_getElem? (i := 14) rfl)
theorem d_Warp_gather_67 : decode prog_10_method_3_code 67 = .ok (.aload_n 0, 1) := id_Warp_gather_1 (67, .aload_n 0, 1) (List.mem_of_getElem? (i := 15) rfl)
theorem d_Warp_gather_68 : decode prog_10_method_3_code 68 = .ok (.iconst 0, 1) := id_Warp_gather_1 (68, .iconst 0, 1) (List.mem_of_getElem? (i := 16) rfl)
theorem d_Warp_gather_69 : decode prog_10_method_3_code 69 = .ok (.putfield 67, 3) := id_Warp_gather_1 (69, .putfield 67, 3) (List.mem_of_getElem? (i := 17) rfl)
theorem d_Warp_gather_72 : decode prog_10_method_3_code 72 = .ok (.aload_n 0, 1) := id_Warp_gather_1 (72, .aload_n 0, 1) (List.mem_of_getElem? (i := 18) rfl)
theorem d_Warp_gather_73 : decode prog_10_method_3_code 73 = .ok (.aload_n 0, 1) := id_Warp_gather_1 (73, .aload_n 0, 1) (List.mem_of_getElem? (i := 19) rfl)
theorem d_Warp_gather_74 : decode prog_10_method_3_code 74 = .ok (.getfield 21, 3) := id_Warp_gather_1 (74, .getfield 21, 3) (List.mem_of_getElem? (i := 20) rfl)
theorem d_Warp_gather_77 : decode prog_10_method_3_code 77 = .ok (.iload_n 3, 1) := id_Warp_gather_1 (77, .iload_n 3, 1) (List.mem_of_getElem? (i := 21) rfl)
theorem d_Warp_gather_78 : decode prog_10_method_3_code 78 = .ok (.iaload, 1) := id_Warp_gather_1 (78, .iaload, 1) (List.mem_of_getElem? (i := 22) rfl)
theorem d_Warp_gather_79 : decode prog_10_method_3_code 79 = .ok (.putfield 70, 3) := id_Warp_gather_1 (79, .putfield 70, 3) (List.mem_of_getElem? (i := 23) rfl)
def it_Warp_gather_2 : List (Nat × ClassFile.Instr × Nat) := [(82, .aload_n 0, 1), (83, .getfield 21, 3), (86, .iload_n 3, 1), (87, .iaload, 1), (88, .aload_n 0, 1), (89, .getfield 70, 3), (92, .if_icmp .ne (15), 3), (95, .aload_n 0, 1), (96, .dup, 1), (97, .getfield 67, 3), (100, .iconst 1, 1), (101, .iload_n 3, 1), (102, .ishl, 1), (103, .ior, 1), (104, .putfield 67, 3), (107, .iinc 3 (1), 3), (110, .goto (-79), 3), (113, .aload_n 0, 1), (114, .aload_n 0, 1), (115, .getfield 70, 3), (118, .ifCond .lt (21), 3), (121, .aload_n 0, 1), (122, .getfield 70, 3), (125, .aload_n 1, 1)]
theorem id_Warp_gather_2 : ∀ q ∈ it_Warp_gather_2, decode prog_10_method_3_code q.1 = .ok q.2 := by decide +kernel
theorem d_Warp_gather_82 : decode prog_10_method_3_code 82 = .ok (.aload_n 0, 1) := id_Warp_gather_2 (82, .aload_n 0, 1) (List.mem_of_getElem? (i := 0) rfl)
theorem d_Warp_gather_83 : decode prog_10_method_3_code 83 = .ok (.getfield 21, 3) := id_Warp_gather_2 (83, .getfield 21, 3) (List.mem_of_getElem? (i := 1) rfl)
theorem d_Warp_gather_86 : decode prog_10_method_3_code 86 = .ok (.iload_n 3, 1) := id_Warp_gather_2 (86, .iload_n 3, 1) (List.mem_of_getElem? (i := 2) rfl)
theorem d_Warp_gather_87 : decode prog_10_method_3_code 87 = .ok (.iaload, 1) := id_Warp_gather_2 (87, .iaload, 1) (List.mem_of_getElem? (i := 3) rfl)
theorem d_Warp_gather_88 : decode prog_10_method_3_code 88 = .ok (.aload_n 0, 1) := id_Warp_gather_2 (88, .aload_n 0, 1) (List.mem_of_getElem? (i := 4) rfl)
theorem d_Warp_gather_89 : decode prog_10_method_3_code 89 = .ok (.getfield 70, 3) := id_Warp_gather_2 (89, .getfield 70, 3) (List.mem_of_getElem? (i := 5) rfl)
theorem d_Warp_gather_92 : decode prog_10_method_3_code 92 = .ok (.if_icmp .ne (15), 3) := id_Warp_gather_2 (92, .if_icmp .ne (15), 3) (List.mem_of_getElem? (i := 6) rfl)
theorem d_Warp_gather_95 : decode prog_10_method_3_code 95 = .ok (.aload_n 0, 1) := id_Warp_gather_2 (95, .aload_n 0, 1) (List.mem_of_getElem? (i := 7) rfl)
theorem d_Warp_gather_96 : decode prog_10_method_3_code 96 = .ok (.dup, 1) := id_Warp_gather_2 (96, .dup, 1) (List.mem_of_getElem? (i := 8) rfl)
theorem d_Warp_gather_97 : decode prog_10_method_3_code 97 = .ok (.getfield 67, 3) := id_Warp_gather_2 (97, .getfield 67, 3) (List.mem_of_getElem? (i := 9) rfl)
theorem d_Warp_gather_100 : decode prog_10_method_3_code 100 = .ok (.iconst 1, 1) := id_Warp_gather_2 (100, .iconst 1, 1) (List.mem_of_getElem? (i := 10) rfl)
theorem d_Warp_gather_101 : decode prog_10_method_3_code 101 = .ok (.iload_n 3, 1) := id_Warp_gather_2 (101, .iload_n 3, 1) (List.mem_of_getElem? (i := 11) rfl)
theorem d_Warp_gather_102 : decode prog_10_method_3_code 102 = .ok (.ishl, 1) := id_Warp_gather_2 (102, .ishl, 1) (List.mem_of_getElem? (i := 12) rfl)
theorem d_Warp_gather_103 : decode prog_10_method_3_code 103 = .ok (.ior, 1) := id_Warp_gather_2 (103, .ior, 1) (List.mem_of_getElem? (i := 13) rfl)
theorem d_Warp_gather_104 : decode prog_10_method_3_code 104 = .ok (.putfield 67, 3) := id_Warp_gather_2 (104, .putfield 67, 3) (List.mem_of_getElem? (i := 14) rfl)
theorem d_Warp_gather_107 : decode prog_10_method_3_code 107 = .ok (.iinc 3 (1), 3) := id_Warp_gather_2 (107, .iinc 3 (1), 3) (List.mem_of_getElem? (i := 15) rfl)
theorem d_Warp_gather_110 : decode prog_10_method_3_code 110 = .ok (.goto (-79), 3) := id_Warp_gather_2 (110, .goto (-79), 3) (List.mem_of_getElem? (i := 16) rfl)
theorem d_Warp_gather_113 : decode prog_10_method_3_code 113 = .ok (.aload_n 0, 1) := id_Warp_gather_2 (113, .aload_n 0, 1) (List.mem_of_getElem? (i := 17) rfl)
theorem d_Warp_gather_114 : decode prog_10_method_3_code 114 = .ok (.aload_n 0, 1) := id_Warp_gather_2 (114, .aload_n 0, 1) (List.mem_of_getElem? (i := 18) rfl)
theorem d_Warp_gather_115 : decode prog_10_method_3_code 115 = .ok (.getfield 70, 3) := id_Warp_gather_2 (115, .getfield 70, 3) (List.mem_of_getElem? (i := 19) rfl)
theorem d_Warp_gather_118 : decode prog_10_method_3_code 118 = .ok (.ifCond .lt (21), 3) := id_Warp_gather_2 (118, .ifCond .lt (21), 3) (List.mem_of_getElem? (i := 20) rfl)
theorem d_Warp_gather_121 : decode prog_10_method_3_code 121 = .ok (.aload_n 0, 1) := id_Warp_gather_2 (121, .aload_n 0, 1) (List.mem_of_getElem? (i := 21) rfl)
theorem d_Warp_gather_122 : decode prog_10_method_3_code 122 = .ok (.getfield 70, 3) := id_Warp_gather_2 (122, .getfield 70, 3) (List.mem_of_getElem? (i := 22) rfl)
theorem d_Warp_gather_125 : decode prog_10_method_3_code 125 = .ok (.aload_n 1, 1) := id_Warp_gather_2 (125, .aload_n 1, 1) (List.mem_of_getElem? (i := 23) rfl)
def it_Warp_gather_3 : List (Nat × ClassFile.Instr × Nat) := [(126, .arraylength, 1), (127, .if_icmp .ge (12), 3), (130, .aload_n 1, 1), (131, .aload_n 0, 1), (132, .getfield 70, 3), (135, .aaload, 1), (136, .goto (4), 3), (139, .aconst_null, 1), (140, .putfield 77, 3), (143, .aload_n 0, 1), (144, .aload_n 0, 1), (145, .getfield 77, 3), (148, .ifnonnull (7), 3), (151, .iconst 0, 1), (152, .goto (7), 3), (155, .aload_n 0, 1), (156, .invokevirtual 81, 3), (159, .putfield 85, 3), (162, .return_, 1)]
theorem id_Warp_gather_3 : ∀ q ∈ it_Warp_gather_3, decode prog_10_method_3_code q.1 = .ok q.2 := by decide +kernel
theorem d_Warp_gather_126 : decode prog_10_method_3_code 126 = .ok (.arraylength, 1) := id_Warp_gather_3 (126, .arraylength, 1) (List.mem_of_getElem? (i := 0) rfl)
theorem d_Warp_gather_127 : decode prog_10_method_3_code 127 = .ok (.if_icmp .ge (12), 3) := id_Warp_gather_3 (127, .if_icmp .ge (12), 3) (List.mem_of_getElem? (i := 1) rfl)
theorem d_Warp_gather_130 : decode prog_10_method_3_code 130 = .ok (.aload_n 1, 1) := id_Warp_gather_3 (130, .aload_n 1, 1) (List.mem_of_getElem? (i := 2) rfl)
theorem d_Warp_gather_131 : decode prog_10_method_3_code 131 = .ok (.aload_n 0, 1) := id_Warp_gather_3 (131, .aload_n 0, 1) (List.mem_of_getElem? (i := 3) rfl)
theorem d_Warp_gather_132 : decode prog_10_method_3_code 132 = .ok (.getfield 70, 3) := id_Warp_gather_3 (132, .getfield 70, 3) (List.mem_of_getElem? (i := 4) rfl)
theorem d_Warp_gather_135 : decode prog_10_method_3_code 135 = .ok (.aaload, 1) := id_Warp_gather_3 (135, .aaload, 1) (List.mem_of_getElem? (i := 5) rfl)
theorem d_Warp_gather_136 : decode prog_10_method_3_code 136 = .ok (.goto (4), 3) := id_Warp_gather_3 (136, .goto (4), 3) (List.mem_of_getElem? (i := 6) rfl)
theorem d_Warp_gather_139 : decode prog_10_method_3_code 139 = .ok (.aconst_null, 1) := id_Warp_gather_3 (139, .aconst_null, 1) (List.mem_of_getElem? (i := 7) rfl)
theorem d_Warp_gather_140 : decode prog_10_method_3_code 140 = .ok (.putfield 77, 3) := id_Warp_gather_3 (140, .putfield 77, 3) (List.mem_of_getElem? (i := 8) rfl)
theorem d_Warp_gather_143 : decode prog_10_method_3_code 143 = .ok (.aload_n 0, 1) := id_Warp_gather_3 (143, .aload_n 0, 1) (List.mem_of_getElem? (i := 9) rfl)
theorem d_Warp_gather_144 : decode prog_10_method_3_code 144 = .ok (.aload_n 0, 1) := id_Warp_gather_3 (144, .aload_n 0, 1) (List.mem_of_getElem? (i := 10) rfl)
theorem d_Warp_gather_145 : decode prog_10_method_3_code 145 = .ok (.getfield 77, 3) := id_Warp_gather_3 (145, .getfield 77, 3) (List.mem_of_getElem? (i := 11) rfl)
theorem d_Warp_gather_148 : decode prog_10_method_3_code 148 = .ok (.ifnonnull (7), 3) := id_Warp_gather_3 (148, .ifnonnull (7), 3) (List.mem_of_getElem? (i := 12) rfl)
theorem d_Warp_gather_151 : decode prog_10_method_3_code 151 = .ok (.iconst 0, 1) := id_Warp_gather_3 (151, .iconst 0, 1) (List.mem_of_getElem? (i := 13) rfl)
theorem d_Warp_gather_152 : decode prog_10_method_3_code 152 = .ok (.goto (7), 3) := id_Warp_gather_3 (152, .goto (7), 3) (List.mem_of_getElem? (i := 14) rfl)
theorem d_Warp_gather_155 : decode prog_10_method_3_code 155 = .ok (.aload_n 0, 1) := id_Warp_gather_3 (155, .aload_n 0, 1) (List.mem_of_getElem? (i := 15) rfl)
theorem d_Warp_gather_156 : decode prog_10_method_3_code 156 = .ok (.invokevirtual 81, 3) := id_Warp_gather_3 (156, .invokevirtual 81, 3) (List.mem_of_getElem? (i := 16) rfl)
theorem d_Warp_gather_159 : decode prog_10_method_3_code 159 = .ok (.putfield 85, 3) := id_Warp_gather_3 (159, .putfield 85, 3) (List.mem_of_getElem? (i := 17) rfl)
theorem d_Warp_gather_162 : decode prog_10_method_3_code 162 = .ok (.return_, 1) := id_Warp_gather_3 (162, .return_, 1) (List.mem_of_getElem? (i := 18) rfl)
theorem wC_Warp_gather : Cond.code ⟨"WarpMill$Warp", "gather", "([LWarpMill$Word;)V"⟩ prog_10_method_3_code 4 (none) ∈ lw_tb := mem_tb 812 (by decide +kernel) rfl
theorem cw_Warp_gather_WM_in : cW mi_Warp_gather mi_WM_in 2 := ⟨wC_WM_in, wi_WM, ⟨by decide, by decide, by decide +kernel⟩, by decide, by decide⟩
theorem cw_Warp_gather_Warp_tickNeeded : cW mi_Warp_gather mi_Warp_tickNeeded 0 := ⟨wC_Warp_tickNeeded, wi_Warp, ⟨by decide, by decide, by decide +kernel⟩, by decide, by decide⟩
def b_Warp_gather_82 (F : Nat) (k31 : Nat → Option Nat → Int32 → Int32 → Hp → Option Hp) (x0 : Nat) (x1 : Option Nat) (x2 : Int32) (x3 : Int32) (h : Hp) : Option Hp := gd (hK h x0 = 9) <| rq h (hR h 524 x0) 100 fun a_83_2 => ix x3 (hN h a_83_2) fun j_87 => if (hA h a_83_2 j_87) = (hI h 519 x0) then (pw (sI h 518 x0 ((hI h 518 x0) ||| ((1 : Int32) <<< (x3 &&& 31)))) fun h_104 => k31 x0 x1 x2 (x3 + 1) h_104) else (k31 x0 x1 x2 (x3 + 1) h)
set_option maxRecDepth 100000 in
set_option maxHeartbeats 4000000 in
theorem e_Warp_gather_82 {G : Gl} (hw : gF G) {h0 : Hp} {F : Nat} {h' : Hp} {k31 : Nat → Option Nat → Int32 → Int32 → Hp → Option Hp} (hk31 : ∀ (y0 : Nat) (y1 : Option Nat) (y2 : Int32) (y3 : Int32) (hh : Hp), k31 y0 y1 y2 y3 hh = some h' → Go G mi_Warp_gather h0 (pV h') hh 31 [(0, .ref y0), (1, va_rf y1), (2, .int y2), (3, .int y3)] []) {x0 : Nat} {x1 : Option Nat} {x2 : Int32} {x3 : Int32} {h : Hp} (hf : b_Warp_gather_82 F k31 x0 x1 x2 x3 h = some h') : Go G mi_Warp_gather h0 (pV h') h 82 [(0, .ref x0), (1, va_rf x1), (2, .int x2), (3, .int x3)] [] := by
  unfold b_Warp_gather_82 at hf
  refine g_aload_n d_Warp_gather_82 rfl ?_
  obtain ⟨k_83, hf⟩ := gd_s hf
  obtain ⟨a_83_2, e_83_2, k_83_2, hf⟩ := rq_s hf
  refine fgs_Warp_places lf_Warp_21 d_Warp_gather_83 k_83 e_83_2 ?_
  refine g_iload_n d_Warp_gather_86 rfl ?_
  obtain ⟨i_87, hf⟩ := ix_s hf
  refine g_iald k_83_2 i_87 d_Warp_gather_87 ?_
  refine g_aload_n d_Warp_gather_88 rfl ?_
  refine fg_Warp_place lf_Warp_70 d_Warp_gather_89 k_83 ?_
  refine g_icmp_ne 107 d_Warp_gather_92 (by decide) (fun c_92 => ?_) (fun c_92 => ?_)
  · have hf := ifn hf c_92
    refine g_iinc (_ + 1) d_Warp_gather_107 rfl (by rfl) (by decide) ?_
    show Go _ _ _ _ _ _ [(0, _), (1, _), (2, _), (3, _)] _
    refine g_goto 31 d_Warp_gather_110 (by decide) ?_
    exact hk31 _ _ _ _ _ hf
  · have hf := ifp hf c_92
    refine g_aload_n d_Warp_gather_95 rfl ?_
    refine g_dup (by first | rfl | exact cat_rf _) d_Warp_gather_96 ?_
    refine fg_Warp_group lf_Warp_67 d_Warp_gather_97 k_83 ?_
    refine g_iconst 1 d_Warp_gather_100 (by decide) ?_
    refine g_iload_n d_Warp_gather_101 rfl ?_
    refine g_ishl d_Warp_gather_102 ?_
    refine g_ior d_Warp_gather_103 ?_
    refine fp_Warp_group hw lf_Warp_67 d_Warp_gather_104 k_83 ?_
    have hf := pw_b hf
    refine g_iinc (_ + 1) d_Warp_gather_107 rfl (by rfl) (by decide) ?_
    show Go _ _ _ _ _ _ [(0, _), (1, _), (2, _), (3, _)] _
    refine g_goto 31 d_Warp_gather_110 (by decide) ?_
    exact hk31 _ _ _ _ _ hf
def b_Warp_gather_67 (F : Nat) (k31 : Nat → Option Nat → Int32 → Int32 → Hp → Option Hp) (x0 : Nat) (x1 : Option Nat) (x2 : Int32) (x3 : Int32) (h : Hp) : Option Hp := gd (hK h x0 = 9) <| pw (sI h 518 x0 (0 : Int32)) fun h_69_2 => rq h_69_2 (hR h_69_2 524 x0) 100 fun a_74 => ix x3 (hN h_69_2 a_74) fun j_78 => pw (sI h_69_2 519 x0 (hA h_69_2 a_74 j_78)) fun h_79 => b_Warp_gather_82 F k31 x0 x1 x2 x3 h_79
set_option maxRecDepth 100000 in
set_option maxHeartbeats 4000000 in
theorem e_Warp_gather_67 {G : Gl} (hw : gF G) {h0 : Hp} {F : Nat} {h' : Hp} {k31 : Nat → Option Nat → Int32 → Int32 → Hp → Option Hp} (hk31 : ∀ (y0 : Nat) (y1 : Option Nat) (y2 : Int32) (y3 : Int32) (hh : Hp), k31 y0 y1 y2 y3 hh = some h' → Go G mi_Warp_gather h0 (pV h') hh 31 [(0, .ref y0), (1, va_rf y1), (2, .int y2), (3, .int y3)] []) {x0 : Nat} {x1 : Option Nat} {x2 : Int32} {x3 : Int32} {h : Hp} (hf : b_Warp_gather_67 F k31 x0 x1 x2 x3 h = some h') : Go G mi_Warp_gather h0 (pV h') h 67 [(0, .ref x0), (1, va_rf x1), (2, .int x2), (3, .int x3)] [] := by
  unfold b_Warp_gather_67 at hf
  refine g_aload_n d_Warp_gather_67 rfl ?_
  refine g_iconst 0 d_Warp_gather_68 (by decide) ?_
  obtain ⟨k_69, hf⟩ := gd_s hf
  refine fp_Warp_group hw lf_Warp_67 d_Warp_gather_69 k_69 ?_
  have hf := pw_b hf
  refine g_aload_n d_Warp_gather_72 rfl ?_
  refine g_aload_n d_Warp_gather_73 rfl ?_
  obtain ⟨a_74, e_74, k_74, hf⟩ := rq_s hf
  refine fgs_Warp_places lf_Warp_21 d_Warp_gather_74 (kksI k_69) e_74 ?_
  refine g_iload_n d_Warp_gather_77 rfl ?_
  obtain ⟨i_78, hf⟩ := ix_s hf
  refine g_iald k_74 i_78 d_Warp_gather_78 ?_
  refine fp_Warp_place hw lf_Warp_70 d_Warp_gather_79 (kksI k_69) ?_
  have hf := pw_b hf
  have key := e_Warp_gather_82 hw (G := G) (h0 := h0) hk31 hf
  exact key
def b_Warp_gather_159 (F : Nat) (s0 : Nat) (s1 : Int32) (h : Hp) : Option Hp := gd (hK h s0 = 9) <| pw (sI h 521 s0 s1) fun h_159_2 => some h_159_2
set_option maxRecDepth 100000 in
set_option maxHeartbeats 4000000 in
theorem e_Warp_gather_159 {G : Gl} (hw : gF G) {h0 : Hp} {F : Nat} {h' : Hp}   {s0 : Nat} {s1 : Int32} {h : Hp} (hf : b_Warp_gather_159 F s0 s1 h = some h') : Go G mi_Warp_gather h0 (pV h') h 159 [] [.int s1, .ref s0] := by
  unfold b_Warp_gather_159 at hf
  obtain ⟨k_159, hf⟩ := gd_s hf
  refine fp_Warp_readyTick hw lf_Warp_85 d_Warp_gather_159 k_159 ?_
  have hf := pw_b hf
  exact Go.ret none trivial rfl d_Warp_gather_162 (pV_of hf)
def b_Warp_gather_140 (F : Nat) (x0 : Nat) (s0 : Nat) (s1 : Option Nat) (h : Hp) : Option Hp := gd (hK h s0 = 9) <| pw (sR h 520 s0 s1) fun h_140_2 => gd (hK h_140_2 x0 = 9) <| pw (hR h_140_2 520 x0) fun o_145_2 => nu o_145_2 (b_Warp_gather_159 F x0 (0 : Int32) h_140_2) fun a_148 => (cl (f_Warp_tickNeeded F x0 h_140_2) fun v_156 h_156 => b_Warp_gather_159 F x0 v_156 h_156)
set_option maxRecDepth 100000 in
set_option maxHeartbeats 4000000 in
theorem e_Warp_gather_140 {G : Gl} (hw : gF G) {h0 : Hp} {F : Nat} {h' : Hp}   {x0 : Nat} {s0 : Nat} {s1 : Option Nat} {h : Hp} (hf : b_Warp_gather_140 F x0 s0 s1 h = some h') : Go G mi_Warp_gather h0 (pV h') h 140 [(0, .ref x0)] [va_rf s1, .ref s0] := by
  unfold b_Warp_gather_140 at hf
  obtain ⟨k_140, hf⟩ := gd_s hf
  refine fp_Warp_word hw s1 rfl lf_Warp_77 d_Warp_gather_140 k_140 ?_
  have hf := pw_b hf
  refine g_aload_n d_Warp_gather_143 rfl ?_
  refine g_aload_n d_Warp_gather_144 rfl ?_
  obtain ⟨k_145, hf⟩ := gd_s hf
  obtain ⟨o_145_2, e_145_2, hf⟩ := pw_s hf
  refine fg_Warp_word lf_Warp_77 d_Warp_gather_145 k_145 ?_
  refine Go.vr e_145_2 ?_
  refine g_ifnonnull (r := o_145_2) 155 d_Warp_gather_148 (by decide) (fun a_148 c_148 => ?_) (fun c_148 => ?_)
  · subst c_148
    have hf := nu_s hf
    refine g_aload_n d_Warp_gather_155 rfl ?_
    obtain ⟨v_156, h_156, e_156, hf⟩ := cl_s hf
    refine g_callV (mz := mi_Warp_tickNeeded) (e_Warp_tickNeeded e_156) cw_Warp_gather_Warp_tickNeeded lm_Warp_81 wI_Warp_tickNeeded wV_Warp_tickNeeded (ci := 8) k_145 (by decide) rfl rfl d_Warp_gather_156 rfl rfl (by first | exact Nat.le_of_ble_eq_true rfl | simp [cat_rf, Value.category]) (fun r1 h1 hp hro => ?_)
    obtain ⟨rfl, rfl⟩ := hp
    dsimp only [Option.toList_some, Option.toList_none, List.cons_append, List.nil_append]
    refine Go.locals [] rfl ?_
    have key := e_Warp_gather_159 hw (G := G) (h0 := h0)  hf
    exact key
  · subst c_148
    have hf := nu_n hf
    refine g_iconst 0 d_Warp_gather_151 (by decide) ?_
    refine g_goto 159 d_Warp_gather_152 (by decide) ?_
    refine Go.locals [] rfl ?_
    have key := e_Warp_gather_159 hw (G := G) (h0 := h0)  hf
    exact key
def b_Warp_gather_139 (F : Nat) (x0 : Nat) (s0 : Nat) (h : Hp) : Option Hp := b_Warp_gather_140 F x0 s0 none h
set_option maxRecDepth 100000 in
set_option maxHeartbeats 4000000 in
theorem e_Warp_gather_139 {G : Gl} (hw : gF G) {h0 : Hp} {F : Nat} {h' : Hp}   {x0 : Nat} {s0 : Nat} {h : Hp} (hf : b_Warp_gather_139 F x0 s0 h = some h') : Go G mi_Warp_gather h0 (pV h') h 139 [(0, .ref x0)] [.ref s0] := by
  unfold b_Warp_gather_139 at hf
  refine g_null d_Warp_gather_139 ?_
  have key := e_Warp_gather_140 hw (G := G) (h0 := h0)  hf
  exact key
def b_Warp_gather_31 (F : Nat) : Nat → Nat → Option Nat → Int32 → Int32 → Hp → Option Hp
  | 0 => fun _ _ _ _ _ => none
  | n + 1 => fun x0 x1 x2 x3 h => gd (hK h x0 = 9) <| if (hI h 514 x0) ≤ x3 then (if (hI h 519 x0) < 0 then (b_Warp_gather_139 F x0 x0 h) else (rq h x1 120 fun a_126 => if (nI (hN h a_126)) ≤ (hI h 519 x0) then (b_Warp_gather_139 F x0 x0 h) else (ix (hI h 519 x0) (hN h a_126) fun j_135 => pw (hQ h a_126 j_135) fun o_135_2 => b_Warp_gather_140 F x0 x0 o_135_2 h))) else (cl (f_WM_in F x2 x3 h) fun v_41 h_41 => if v_41 = 0 then (b_Warp_gather_31 F n x0 x1 x2 (x3 + 1) h_41) else (gd (hK h_41 x0 = 9) <| if (hI h_41 518 x0) = 0 then (b_Warp_gather_67 F (b_Warp_gather_31 F n) x0 x1 x2 x3 h_41) else (rq h_41 (hR h_41 524 x0) 100 fun a_55 => ix x3 (hN h_41 a_55) fun j_59 => if (hI h_41 519 x0) ≤ (hA h_41 a_55 j_59) then (b_Warp_gather_82 F (b_Warp_gather_31 F n) x0 x1 x2 x3 h_41) else (b_Warp_gather_67 F (b_Warp_gather_31 F n) x0 x1 x2 x3 h_41))))
set_option maxRecDepth 100000 in
set_option maxHeartbeats 4000000 in
theorem e_Warp_gather_31 {G : Gl} (hw : gF G) {h0 : Hp} {F : Nat} {h' : Hp}   : ∀ (n : Nat) (x0 : Nat) (x1 : Option Nat) (x2 : Int32) (x3 : Int32) (h : Hp), b_Warp_gather_31 F n x0 x1 x2 x3 h = some h' → Go G mi_Warp_gather h0 (pV h') h 31 [(0, .ref x0), (1, va_rf x1), (2, .int x2), (3, .int x3)] [] := by
  intro n
  induction n with
  | zero =>
    intro _ _ _ _ _ hf
    exact nm_s hf
  | succ n ih =>
    intro x0 x1 x2 x3 h hf
    unfold b_Warp_gather_31 at hf
    refine g_iload_n d_Warp_gather_31 rfl ?_
    refine g_aload_n d_Warp_gather_32 rfl ?_
    obtain ⟨k_33, hf⟩ := gd_s hf
    refine fg_Warp_lanes lf_Warp_35 d_Warp_gather_33 k_33 ?_
    refine g_icmp_ge 113 d_Warp_gather_36 (by decide) (fun c_36 => ?_) (fun c_36 => ?_)
    · have hf := ifp hf c_36
      refine g_aload_n d_Warp_gather_113 rfl ?_
      refine g_aload_n d_Warp_gather_114 rfl ?_
      refine fg_Warp_place lf_Warp_70 d_Warp_gather_115 k_33 ?_
      refine g_if_lt 139 d_Warp_gather_118 (by decide) (fun c_118 => ?_) (fun c_118 => ?_)
      · have hf := ifp hf c_118
        refine Go.locals [0] rfl ?_
        have key := e_Warp_gather_139 hw (G := G) (h0 := h0)  hf
        exact key
      · have hf := ifn hf c_118
        refine g_aload_n d_Warp_gather_121 rfl ?_
        refine fg_Warp_place lf_Warp_70 d_Warp_gather_122 k_33 ?_
        refine g_aload_nq (r := x1) d_Warp_gather_125 rfl ?_
        obtain ⟨a_126, rfl, k_126, hf⟩ := rq_s hf
        refine g_alen k_126 (by decide) rfl d_Warp_gather_126 ?_
        refine g_icmp_ge 139 d_Warp_gather_127 (by decide) (fun c_127 => ?_) (fun c_127 => ?_)
        · have hf := ifp hf c_127
          refine Go.locals [0] rfl ?_
          have key := e_Warp_gather_139 hw (G := G) (h0 := h0)  hf
          exact key
        · have hf := ifn hf c_127
          refine g_aload_n d_Warp_gather_130 rfl ?_
          refine g_aload_n d_Warp_gather_131 rfl ?_
          refine fg_Warp_place lf_Warp_70 d_Warp_gather_132 k_33 ?_
          obtain ⟨i_135, hf⟩ := ix_s hf
          refine g_aald k_126 (by decide) rfl rfl i_135 d_Warp_gather_135 ?_
          obtain ⟨o_135_2, e_135_2, hf⟩ := pw_s hf
          refine Go.vr e_135_2 ?_
          refine g_goto 140 d_Warp_gather_136 (by decide) ?_
          refine Go.locals [0] rfl ?_
          have key := e_Warp_gather_140 hw (G := G) (h0 := h0)  hf
          exact key
    · have hf := ifn hf c_36
      refine g_iload_n d_Warp_gather_39 rfl ?_
      refine g_iload_n d_Warp_gather_40 rfl ?_
      obtain ⟨v_41, h_41, e_41, hf⟩ := cl_s hf
      refine g_callSN (mz := mi_WM_in) (e_WM_in e_41) cw_Warp_gather_WM_in (host := "WarpMill") (by decide +kernel) wS_WM_in d_Warp_gather_41 rfl rfl (by first | exact Nat.le_of_ble_eq_true rfl | simp [cat_rf, Value.category]) (fun r1 h1 hp hro => ?_)
      obtain ⟨rfl, rfl⟩ := hp
      dsimp only [Option.toList_some, Option.toList_none, List.cons_append, List.nil_append]
      refine g_if_eq 107 d_Warp_gather_44 (by decide) (fun c_44 => ?_) (fun c_44 => ?_)
      · have hf := ifp hf c_44
        refine g_iinc (_ + 1) d_Warp_gather_107 rfl (by rfl) (by decide) ?_
        show Go _ _ _ _ _ _ [(0, _), (1, _), (2, _), (3, _)] _
        refine g_goto 31 d_Warp_gather_110 (by decide) ?_
        exact ih _ _ _ _ _ hf
      · have hf := ifn hf c_44
        refine g_aload_n d_Warp_gather_47 rfl ?_
        obtain ⟨k_48, hf⟩ := gd_s hf
        refine fg_Warp_group lf_Warp_67 d_Warp_gather_48 k_48 ?_
        refine g_if_eq 67 d_Warp_gather_51 (by decide) (fun c_51 => ?_) (fun c_51 => ?_)
        · have hf := ifp hf c_51
          have key := e_Warp_gather_67 hw (G := G) (h0 := h0) (fun _ _ _ _ _ q => ih _ _ _ _ _ q) hf
          exact key
        · have hf := ifn hf c_51
          refine g_aload_n d_Warp_gather_54 rfl ?_
          obtain ⟨a_55, e_55, k_55, hf⟩ := rq_s hf
          refine fgs_Warp_places lf_Warp_21 d_Warp_gather_55 k_48 e_55 ?_
          refine g_iload_n d_Warp_gather_58 rfl ?_
          obtain ⟨i_59, hf⟩ := ix_s hf
          refine g_iald k_55 i_59 d_Warp_gather_59 ?_
          refine g_aload_n d_Warp_gather_60 rfl ?_
          refine fg_Warp_place lf_Warp_70 d_Warp_gather_61 k_48 ?_
          refine g_icmp_ge 82 d_Warp_gather_64 (by decide) (fun c_64 => ?_) (fun c_64 => ?_)
          · have hf := ifp hf c_64
            have key := e_Warp_gather_82 hw (G := G) (h0 := h0) (fun _ _ _ _ _ q => ih _ _ _ _ _ q) hf
            exact key
          · have hf := ifn hf c_64
            have key := e_Warp_gather_67 hw (G := G) (h0 := h0) (fun _ _ _ _ _ q => ih _ _ _ _ _ q) hf
            exact key
def f_Warp_gather (F : Nat) (x0 : Nat) (x1 : Option Nat) (h : Hp) : Option Hp := gd (hK h x0 = 9) <| pw (sI h 518 x0 (0 : Int32)) fun h_21 => pw (sI h_21 519 x0 (0 : Int32)) fun h_26 => b_Warp_gather_31 F F x0 x1 (((hI h 515 x0) &&& ((hI h 516 x0) ^^^ (-1 : Int32))) &&& ((hI h 517 x0) ^^^ (-1 : Int32))) (0 : Int32) h_26
set_option maxRecDepth 100000 in
set_option maxHeartbeats 4000000 in
theorem e_Warp_gather {G : Gl} (hw : gF G) {F : Nat} {h' : Hp} {x0 : Nat} {x1 : Option Nat} {h : Hp} (hf : f_Warp_gather F x0 x1 h = some h') : Ex G mi_Warp_gather [.ref x0, va_rf x1] h (pV h') := by
  unfold f_Warp_gather at hf
  refine Ex.of nmV (by decide) (by cases x1 <;> exact Nat.le_of_ble_eq_true rfl) ?_
  rw [show lv_args 0 [.ref x0, va_rf x1] = [(0, .ref x0), (1, va_rf x1)] from by cases x1 <;> rfl]
  show Go G mi_Warp_gather h _ h 0 [(0, .ref x0), (1, va_rf x1)] []
  refine g_aload_n d_Warp_gather_0 rfl ?_
  obtain ⟨k_1, hf⟩ := gd_s hf
  refine fg_Warp_present lf_Warp_49 d_Warp_gather_1 k_1 ?_
  refine g_aload_n d_Warp_gather_4 rfl ?_
  refine fg_Warp_ended lf_Warp_52 d_Warp_gather_5 k_1 ?_
  refine g_iconst (-1) d_Warp_gather_8 (by decide) ?_
  refine g_ixor d_Warp_gather_9 ?_
  refine g_iand d_Warp_gather_10 ?_
  refine g_aload_n d_Warp_gather_11 rfl ?_
  refine fg_Warp_waiting lf_Warp_55 d_Warp_gather_12 k_1 ?_
  refine g_iconst (-1) d_Warp_gather_15 (by decide) ?_
  refine g_ixor d_Warp_gather_16 ?_
  refine g_iand d_Warp_gather_17 ?_
  refine g_istore_n d_Warp_gather_18 (by decide) ?_
  simp only [lset1, lset2, List.filter_cons, cat_rf]
  show Go _ _ _ _ _ _ [(0, _), (1, _), (2, _)] _
  refine g_aload_n d_Warp_gather_19 rfl ?_
  refine g_iconst 0 d_Warp_gather_20 (by decide) ?_
  refine fp_Warp_group hw lf_Warp_67 d_Warp_gather_21 k_1 ?_
  have hf := pw_b hf
  refine g_aload_n d_Warp_gather_24 rfl ?_
  refine g_iconst 0 d_Warp_gather_25 (by decide) ?_
  refine fp_Warp_place hw lf_Warp_70 d_Warp_gather_26 (kksI k_1) ?_
  have hf := pw_b hf
  refine g_iconst 0 d_Warp_gather_29 (by decide) ?_
  refine g_istore_n d_Warp_gather_30 (by decide) ?_
  show Go _ _ _ _ _ _ [(0, _), (1, _), (2, _), (3, _)] _
  have key := e_Warp_gather_31 hw (G := G) (h0 := h)  F _ _ _ _ _ hf
  exact key
abbrev mi_Unit_seat : MI := (⟨"WarpMill$Unit", "seat", "(LWarpMill$Block;II[LWarpMill$Word;)V"⟩, prog_9_method_4_code, 7, none, 3, 66)
def it_Unit_seat_0 : List (Nat × ClassFile.Instr × Nat) := [(0, .iconst 0, 1), (1, .istore 5, 2), (3, .iconst 0, 1), (4, .istore 6, 2), (6, .iload 6, 2), (8, .aload_n 0, 1), (9, .getfield 21, 3), (12, .if_icmp .ge (88), 3), (15, .iload 6, 2), (17, .aload_n 0, 1), (18, .getfield 11, 3), (21, .arraylength, 1), (22, .if_icmp .ge (78), 3), (25, .iload 5, 2), (27, .iload_n 2, 1), (28, .if_icmp .ge (72), 3), (31, .aload_n 0, 1), (32, .iload 6, 2), (34, .invokevirtual 44, 3), (37, .ifnonnull (57), 3), (40, .aload_n 0, 1), (41, .getfield 11, 3), (44, .iload 6, 2), (46, .aaload, 1)]
theorem id_Unit_seat_0 : ∀ q ∈ it_Unit_seat_0, decode prog_9_method_4_code q.1 = .ok q.2 := by decide +kernel
theorem d_Unit_seat_0 : decode prog_9_method_4_code 0 = .ok (.iconst 0, 1) := id_Unit_seat_0 (0, .iconst 0, 1) (List.mem_of_getElem? (i := 0) rfl)
theorem d_Unit_seat_1 : decode prog_9_method_4_code 1 = .ok (.istore 5, 2) := id_Unit_seat_0 (1, .istore 5, 2) (List.mem_of_getElem? (i := 1) rfl)
theorem d_Unit_seat_3 : decode prog_9_method_4_code 3 = .ok (.iconst 0, 1) := id_Unit_seat_0 (3, .iconst 0, 1) (List.mem_of_getElem? (i := 2) rfl)
theorem d_Unit_seat_4 : decode prog_9_method_4_code 4 = .ok (.istore 6, 2) := id_Unit_seat_0 (4, .istore 6, 2) (List.mem_of_getElem? (i := 3) rfl)
theorem d_Unit_seat_6 : decode prog_9_method_4_code 6 = .ok (.iload 6, 2) := id_Unit_seat_0 (6, .iload 6, 2) (List.mem_of_getElem? (i := 4) rfl)
theorem d_Unit_seat_8 : decode prog_9_method_4_code 8 = .ok (.aload_n 0, 1) := id_Unit_seat_0 (8, .aload_n 0, 1) (List.mem_of_getElem? (i := 5) rfl)
theorem d_Unit_seat_9 : decode prog_9_method_4_code 9 = .ok (.getfield 21, 3) := id_Unit_seat_0 (9, .getfield 21, 3) (List.mem_of_getElem? (i := 6) rfl)
theorem d_Unit_seat_12 : decode prog_9_method_4_code 12 = .ok (.if_icmp .ge (88), 3) := id_Unit_seat_0 (12, .if_icmp .ge (88), 3) (List.mem_of_getElem? (i := 7) rfl)
theorem d_Unit_seat_15 : decode prog_9_method_4_code 15 = .ok (.iload 6, 2) := id_Unit_seat_0 (15, .iload 6, 2) (List.mem_of_getElem? (i := 8) rfl)
theorem d_Unit_seat_17 : decode prog_9_method_4_code 17 = .ok (.aload_n 0, 1) := id_Unit_seat_0 (17, .aload_n 0, 1) (List.mem_of_getElem? (i := 9) rfl)
theorem d_Unit_seat_18 : decode prog_9_method_4_code 18 = .ok (.getfield 11, 3) := id_Unit_seat_0 (18, .getfield 11, 3) (List.mem_of_getElem? (i := 10) rfl)
theorem d_Unit_seat_21 : decode prog_9_method_4_code 21 = .ok (.arraylength, 1) := id_Unit_seat_0 (21, .arraylength, 1) (List.mem_of_getElem? (i := 11) rfl)
theorem d_Unit_seat_22 : decode prog_9_method_4_code 22 = .ok (.if_icmp .ge (78), 3) := id_Unit_seat_0 (22, .if_icmp .ge (78), 3) (List.mem_of_getElem? (i := 12) rfl)
theorem d_Unit_seat_25 : decode prog_9_method_4_code 25 = .ok (.iload 5, 2) := id_Unit_seat_0 (25, .iload 5, 2) (List.mem_of_getElem? (i := 13) rfl)
theorem d_Unit_seat_27 : decode prog_9_method_4_code 27 = .ok (.iload_n 2, 1) := id_Unit_seat_0 (27, .iload_n 2, 1) (List.mem_of_getElem? (i := 14) rfl)
theorem d_Unit_seat_28 : decode prog_9_method_4_code 28 = .ok (.if_icmp .ge (72), 3) := id_Unit_seat_0 (28, .if_icmp .ge (72), 3) (List.mem_of_getElem? (i := 15) rfl)
theorem d_Unit_seat_31 : decode prog_9_method_4_code 31 = .ok (.aload_n 0, 1) := id_Unit_seat_0 (31, .aload_n 0, 1) (List.mem_of_getElem? (i := 16) rfl)
theorem d_Unit_seat_32 : decode prog_9_method_4_code 32 = .ok (.iload 6, 2) := id_Unit_seat_0 (32, .iload 6, 2) (List.mem_of_getElem? (i := 17) rfl)
theorem d_Unit_seat_34 : decode prog_9_method_4_code 34 = .ok (.invokevirtual 44, 3) := id_Unit_seat_0 (34, .invokevirtual 44, 3) (List.mem_of_getElem? (i := 18) rfl)
theorem d_Unit_seat_37 : decode prog_9_method_4_code 37 = .ok (.ifnonnull (57), 3) := id_Unit_seat_0 (37, .ifnonnull (57), 3) (List.mem_of_getElem? (i := 19) rfl)
theorem d_Unit_seat_40 : decode prog_9_method_4_code 40 = .ok (.aload_n 0, 1) := id_Unit_seat_0 (40, .aload_n 0, 1) (List.mem_of_getElem? (i := 20) rfl)
theorem d_Unit_seat_41 : decode prog_9_method_4_code 41 = .ok (.getfield 11, 3) := id_Unit_seat_0 (41, .getfield 11, 3) (List.mem_of_getElem? (i := 21) rfl)
theorem d_Unit_seat_44 : decode prog_9_method_4_code 44 = .ok (.iload 6, 2) := id_Unit_seat_0 (44, .iload 6, 2) (List.mem_of_getElem? (i := 22) rfl)
theorem d_Unit_seat_46 : decode prog_9_method_4_code 46 = .ok (.aaload, 1) := id_Unit_seat_0 (46, .aaload, 1) (List.mem_of_getElem? (i := 23) rfl)
def it_Unit_seat_1 : List (Nat × ClassFile.Instr × Nat) := [(47, .ifnonnull (18), 3), (50, .aload_n 0, 1), (51, .getfield 11, 3), (54, .iload 6, 2), (56, .new 9, 3), (59, .dup, 1), (60, .iload_n 3, 1), (61, .invokespecial 48, 3), (64, .aastore, 1), (65, .aload_n 0, 1), (66, .getfield 11, 3), (69, .iload 6, 2), (71, .aaload, 1), (72, .aload_n 1, 1), (73, .iload 5, 2), (75, .iload_n 3, 1), (76, .invokevirtual 51, 3), (79, .aload_n 0, 1), (80, .getfield 11, 3), (83, .iload 6, 2), (85, .aaload, 1), (86, .aload 4, 2), (88, .invokevirtual 55, 3), (91, .iinc 5 (1), 3)]
theorem id_Unit_seat_1 : ∀ q ∈ it_Unit_seat_1, decode prog_9_method_4_code q.1 = .ok q.2 := by decide +kernel
theorem d_Unit_seat_47 : decode prog_9_method_4_code 47 = .ok (.ifnonnull (18), 3) := id_Unit_seat_1 (47, .ifnonnull (18), 3) (List.mem_of_getElem? (i := 0) rfl)
theorem d_Unit_seat_50 : decode prog_9_method_4_code 50 = .ok (.aload_n 0, 1) := id_Unit_seat_1 (50, .aload_n 0, 1) (List.mem_of_getElem? (i := 1) rfl)
theorem d_Unit_seat_51 : decode prog_9_method_4_code 51 = .ok (.getfield 11, 3) := id_Unit_seat_1 (51, .getfield 11, 3) (List.mem_of_getElem? (i := 2) rfl)
theorem d_Unit_seat_54 : decode prog_9_method_4_code 54 = .ok (.iload 6, 2) := id_Unit_seat_1 (54, .iload 6, 2) (List.mem_of_getElem? (i := 3) rfl)
theorem d_Unit_seat_56 : decode prog_9_method_4_code 56 = .ok (.new 9, 3) := id_Unit_seat_1 (56, .new 9, 3) (List.mem_of_getElem? (i := 4) rfl)
theorem d_Unit_seat_59 : decode prog_9_method_4_code 59 = .ok (.dup, 1) := id_Unit_seat_1 (59, .dup, 1) (List.mem_of_getElem? (i := 5) rfl)
theorem d_Unit_seat_60 : decode prog_9_method_4_code 60 = .ok (.iload_n 3, 1) := id_Unit_seat_1 (60, .iload_n 3, 1) (List.mem_of_getElem? (i := 6) rfl)
theorem d_Unit_seat_61 : decode prog_9_method_4_code 61 = .ok (.invokespecial 48, 3) := id_Unit_seat_1 (61, .invokespecial 48, 3) (List.mem_of_getElem? (i := 7) rfl)
theorem d_Unit_seat_64 : decode prog_9_method_4_code 64 = .ok (.aastore, 1) := id_Unit_seat_1 (64, .aastore, 1) (List.mem_of_getElem? (i := 8) rfl)
theorem d_Unit_seat_65 : decode prog_9_method_4_code 65 = .ok (.aload_n 0, 1) := id_Unit_seat_1 (65, .aload_n 0, 1) (List.mem_of_getElem? (i := 9) rfl)
theorem d_Unit_seat_66 : decode prog_9_method_4_code 66 = .ok (.getfield 11, 3) := id_Unit_seat_1 (66, .getfield 11, 3) (List.mem_of_getElem? (i := 10) rfl)
theorem d_Unit_seat_69 : decode prog_9_method_4_code 69 = .ok (.iload 6, 2) := id_Unit_seat_1 (69, .iload 6, 2) (List.mem_of_getElem? (i := 11) rfl)
theorem d_Unit_seat_71 : decode prog_9_method_4_code 71 = .ok (.aaload, 1) := id_Unit_seat_1 (71, .aaload, 1) (List.mem_of_getElem? (i := 12) rfl)
theorem d_Unit_seat_72 : decode prog_9_method_4_code 72 = .ok (.aload_n 1, 1) := id_Unit_seat_1 (72, .aload_n 1, 1) (List.mem_of_getElem? (i := 13) rfl)
theorem d_Unit_seat_73 : decode prog_9_method_4_code 73 = .ok (.iload 5, 2) := id_Unit_seat_1 (73, .iload 5, 2) (List.mem_of_getElem? (i := 14) rfl)
theorem d_Unit_seat_75 : decode prog_9_method_4_code 75 = .ok (.iload_n 3, 1) := id_Unit_seat_1 (75, .iload_n 3, 1) (List.mem_of_getElem? (i := 15) rfl)
theorem d_Unit_seat_76 : decode prog_9_method_4_code 76 = .ok (.invokevirtual 51, 3) := id_Unit_seat_1 (76, .invokevirtual 51, 3) (List.mem_of_getElem? (i := 16) rfl)
theorem d_Unit_seat_79 : decode prog_9_method_4_code 79 = .ok (.aload_n 0, 1) := id_Unit_seat_1 (79, .aload_n 0, 1) (List.mem_of_getElem? (i := 17) rfl)
theorem d_Unit_seat_80 : decode prog_9_method_4_code 80 = .ok (.getfield 11, 3) := id_Unit_seat_1 (80, .getfield 11, 3) (List.mem_of_getElem? (i := 18) rfl)
theorem d_Unit_seat_83 : decode prog_9_method_4_code 83 = .ok (.iload 6, 2) := id_Unit_seat_1 (83, .iload 6, 2) (List.mem_of_getElem? (i := 19) rfl)
theorem d_Unit_seat_85 : decode prog_9_method_4_code 85 = .ok (.aaload, 1) := id_Unit_seat_1 (85, .aaload, 1) (List.mem_of_getElem? (i := 20) rfl)
theorem d_Unit_seat_86 : decode prog_9_method_4_code 86 = .ok (.aload 4, 2) := id_Unit_seat_1 (86, .aload 4, 2) (List.mem_of_getElem? (i := 21) rfl)
theorem d_Unit_seat_88 : decode prog_9_method_4_code 88 = .ok (.invokevirtual 55, 3) := id_Unit_seat_1 (88, .invokevirtual 55, 3) (List.mem_of_getElem? (i := 22) rfl)
theorem d_Unit_seat_91 : decode prog_9_method_4_code 91 = .ok (.iinc 5 (1), 3) := id_Unit_seat_1 (91, .iinc 5 (1), 3) (List.mem_of_getElem? (i := 23) rfl)
def it_Unit_seat_2 : List (Nat × ClassFile.Instr × Nat) := [(94, .iinc 6 (1), 3), (97, .goto (-91), 3), (100, .aload_n 0, 1), (101, .dup, 1), (102, .getfield 25, 3), (105, .iload 5, 2), (107, .isub, 1), (108, .putfield 25, 3), (111, .return_, 1)]
theorem id_Unit_seat_2 : ∀ q ∈ it_Unit_seat_2, decode prog_9_method_4_code q.1 = .ok q.2 := by decide +kernel
theorem d_Unit_seat_94 : decode prog_9_method_4_code 94 = .ok (.iinc 6 (1), 3) := id_Unit_seat_2 (94, .iinc 6 (1), 3) (List.mem_of_getElem? (i := 0) rfl)
theorem d_Unit_seat_97 : decode prog_9_method_4_code 97 = .ok (.goto (-91), 3) := id_Unit_seat_2 (97, .goto (-91), 3) (List.mem_of_getElem? (i := 1) rfl)
theorem d_Unit_seat_100 : decode prog_9_method_4_code 100 = .ok (.aload_n 0, 1) := id_Unit_seat_2 (100, .aload_n 0, 1) (List.mem_of_getElem? (i := 2) rfl)
theorem d_Unit_seat_101 : decode prog_9_method_4_code 101 = .ok (.dup, 1) := id_Unit_seat_2 (101, .dup, 1) (List.mem_of_getElem? (i := 3) rfl)
theorem d_Unit_seat_102 : decode prog_9_method_4_code 102 = .ok (.getfield 25, 3) := id_Unit_seat_2 (102, .getfield 25, 3) (List.mem_of_getElem? (i := 4) rfl)
theorem d_Unit_seat_105 : decode prog_9_method_4_code 105 = .ok (.iload 5, 2) := id_Unit_seat_2 (105, .iload 5, 2) (List.mem_of_getElem? (i := 5) rfl)
theorem d_Unit_seat_107 : decode prog_9_method_4_code 107 = .ok (.isub, 1) := id_Unit_seat_2 (107, .isub, 1) (List.mem_of_getElem? (i := 6) rfl)
theorem d_Unit_seat_108 : decode prog_9_method_4_code 108 = .ok (.putfield 25, 3) := id_Unit_seat_2 (108, .putfield 25, 3) (List.mem_of_getElem? (i := 7) rfl)
theorem d_Unit_seat_111 : decode prog_9_method_4_code 111 = .ok (.return_, 1) := id_Unit_seat_2 (111, .return_, 1) (List.mem_of_getElem? (i := 8) rfl)
theorem wC_Unit_seat : Cond.code ⟨"WarpMill$Unit", "seat", "(LWarpMill$Block;II[LWarpMill$Word;)V"⟩ prog_9_method_4_code 7 (none) ∈ lw_tb := mem_tb 726 (by decide +kernel) rfl
theorem cw_Unit_seat_Unit_busy : cW mi_Unit_seat mi_Unit_busy 1 := ⟨wC_Unit_busy, wi_Unit, ⟨by decide, by decide, by decide +kernel⟩, by decide, by decide⟩
theorem cw_Unit_seat_Warp_init : cW mi_Unit_seat mi_Warp_init 1 := ⟨wC_Warp_init, wi_Warp, ⟨by decide, by decide, by decide +kernel⟩, by decide, by decide⟩
theorem cw_Unit_seat_Warp_begin : cW mi_Unit_seat mi_Warp_begin 3 := ⟨wC_Warp_begin, wi_Warp, ⟨by decide, by decide, by decide +kernel⟩, by decide, by decide⟩
theorem cw_Unit_seat_Warp_gather : cW mi_Unit_seat mi_Warp_gather 1 := ⟨wC_Warp_gather, wi_Warp, ⟨by decide, by decide, by decide +kernel⟩, by decide, by decide⟩
def b_Unit_seat_65 (F : Nat) (k6 : Nat → Option Nat → Int32 → Int32 → Option Nat → Int32 → Int32 → Hp → Option Hp) (x0 : Nat) (x1 : Option Nat) (x2 : Int32) (x3 : Int32) (x4 : Option Nat) (x5 : Int32) (x6 : Int32) (h : Hp) : Option Hp := gd (hK h x0 = 7) <| rq h (hR h 384 x0) 123 fun a_66_2 => ix x6 (hN h a_66_2) fun j_71 => rq h (hQ h a_66_2 j_71) 9 fun a_71_2 => clv (f_Warp_begin F a_71_2 x1 x5 x3 h) fun h_76 => gd (hK h_76 x0 = 7) <| rq h_76 (hR h_76 384 x0) 123 fun a_80_2 => ix x6 (hN h_76 a_80_2) fun j_85 => rq h_76 (hQ h_76 a_80_2 j_85) 9 fun a_85_2 => clv (f_Warp_gather F a_85_2 x4 h_76) fun h_88 => k6 x0 x1 x2 x3 x4 (x5 + 1) (x6 + 1) h_88
set_option maxRecDepth 100000 in
set_option maxHeartbeats 4000000 in
theorem e_Unit_seat_65 {G : Gl} (hw : gF G) {h0 : Hp} {F : Nat} {h' : Hp} {k6 : Nat → Option Nat → Int32 → Int32 → Option Nat → Int32 → Int32 → Hp → Option Hp} (hk6 : ∀ (y0 : Nat) (y1 : Option Nat) (y2 : Int32) (y3 : Int32) (y4 : Option Nat) (y5 : Int32) (y6 : Int32) (hh : Hp), k6 y0 y1 y2 y3 y4 y5 y6 hh = some h' → Go G mi_Unit_seat h0 (pV h') hh 6 [(0, .ref y0), (1, va_rf y1), (2, .int y2), (3, .int y3), (4, va_rf y4), (5, .int y5), (6, .int y6)] []) {x0 : Nat} {x1 : Option Nat} {x2 : Int32} {x3 : Int32} {x4 : Option Nat} {x5 : Int32} {x6 : Int32} {h : Hp} (hf : b_Unit_seat_65 F k6 x0 x1 x2 x3 x4 x5 x6 h = some h') : Go G mi_Unit_seat h0 (pV h') h 65 [(0, .ref x0), (1, va_rf x1), (2, .int x2), (3, .int x3), (4, va_rf x4), (5, .int x5), (6, .int x6)] [] := by
  unfold b_Unit_seat_65 at hf
  refine g_aload_n d_Unit_seat_65 rfl ?_
  obtain ⟨k_66, hf⟩ := gd_s hf
  obtain ⟨a_66_2, e_66_2, k_66_2, hf⟩ := rq_s hf
  refine fgs_Unit_warps lf_Unit_11 d_Unit_seat_66 k_66 e_66_2 ?_
  refine g_iload d_Unit_seat_69 rfl ?_
  obtain ⟨i_71, hf⟩ := ix_s hf
  refine g_aald k_66_2 (by decide) rfl rfl i_71 d_Unit_seat_71 ?_
  obtain ⟨a_71_2, e_71_2, k_71_2, hf⟩ := rq_s hf
  refine Go.vs e_71_2 ?_
  refine g_aload_nq (r := x1) d_Unit_seat_72 rfl ?_
  refine g_iload d_Unit_seat_73 rfl ?_
  refine g_iload_n d_Unit_seat_75 rfl ?_
  obtain ⟨h_76, e_76, hf⟩ := clv_s hf
  refine g_callV (mz := mi_Warp_begin) (e_Warp_begin hw e_76) cw_Unit_seat_Warp_begin lm_Unit_51 wI_Warp_begin wV_Warp_begin (ci := 8) k_71_2 (by decide) rfl rfl d_Unit_seat_76 rfl rfl (by first | exact Nat.le_of_ble_eq_true rfl | simp [cat_rf, Value.category]) (fun r1 h1 hp hro => ?_)
  obtain ⟨rfl, rfl⟩ := hp
  dsimp only [Option.toList_some, Option.toList_none, List.cons_append, List.nil_append]
  refine g_aload_n d_Unit_seat_79 rfl ?_
  obtain ⟨k_80, hf⟩ := gd_s hf
  obtain ⟨a_80_2, e_80_2, k_80_2, hf⟩ := rq_s hf
  refine fgs_Unit_warps lf_Unit_11 d_Unit_seat_80 k_80 e_80_2 ?_
  refine g_iload d_Unit_seat_83 rfl ?_
  obtain ⟨i_85, hf⟩ := ix_s hf
  refine g_aald k_80_2 (by decide) rfl rfl i_85 d_Unit_seat_85 ?_
  obtain ⟨a_85_2, e_85_2, k_85_2, hf⟩ := rq_s hf
  refine Go.vs e_85_2 ?_
  refine g_aloadq (r := x4) d_Unit_seat_86 rfl ?_
  obtain ⟨h_88, e_88, hf⟩ := clv_s hf
  refine g_callV (mz := mi_Warp_gather) (e_Warp_gather hw e_88) cw_Unit_seat_Warp_gather lm_Unit_55 wI_Warp_gather wV_Warp_gather (ci := 8) k_85_2 (by decide) rfl rfl d_Unit_seat_88 rfl rfl (by first | exact Nat.le_of_ble_eq_true rfl | simp [cat_rf, Value.category]) (fun r1 h1 hp hro => ?_)
  obtain ⟨rfl, rfl⟩ := hp
  dsimp only [Option.toList_some, Option.toList_none, List.cons_append, List.nil_append]
  refine g_iinc (_ + 1) d_Unit_seat_91 rfl (by rfl) (by decide) ?_
  simp only [lset1, lset2, List.filter_cons, cat_rf]
  show Go _ _ _ _ _ _ [(0, _), (1, _), (2, _), (3, _), (4, _), (5, _), (6, _)] _
  refine g_iinc (_ + 1) d_Unit_seat_94 rfl (by rfl) (by decide) ?_
  show Go _ _ _ _ _ _ [(0, _), (1, _), (2, _), (3, _), (4, _), (5, _), (6, _)] _
  refine g_goto 6 d_Unit_seat_97 (by decide) ?_
  exact hk6 _ _ _ _ _ _ _ _ hf
def b_Unit_seat_100 (F : Nat) (x0 : Nat) (x5 : Int32) (h : Hp) : Option Hp := gd (hK h x0 = 7) <| pw (sI h 387 x0 ((hI h 387 x0) - x5)) fun h_108 => some h_108
set_option maxRecDepth 100000 in
set_option maxHeartbeats 4000000 in
theorem e_Unit_seat_100 {G : Gl} (hw : gF G) {h0 : Hp} {F : Nat} {h' : Hp}   {x0 : Nat} {x5 : Int32} {h : Hp} (hf : b_Unit_seat_100 F x0 x5 h = some h') : Go G mi_Unit_seat h0 (pV h') h 100 [(0, .ref x0), (5, .int x5)] [] := by
  unfold b_Unit_seat_100 at hf
  refine g_aload_n d_Unit_seat_100 rfl ?_
  refine g_dup (by first | rfl | exact cat_rf _) d_Unit_seat_101 ?_
  obtain ⟨k_102, hf⟩ := gd_s hf
  refine fg_Unit_free lf_Unit_25 d_Unit_seat_102 k_102 ?_
  refine g_iload d_Unit_seat_105 rfl ?_
  refine g_isub d_Unit_seat_107 ?_
  refine fp_Unit_free hw lf_Unit_25 d_Unit_seat_108 k_102 ?_
  have hf := pw_b hf
  exact Go.ret none trivial rfl d_Unit_seat_111 (pV_of hf)
def b_Unit_seat_6 (F : Nat) : Nat → Nat → Option Nat → Int32 → Int32 → Option Nat → Int32 → Int32 → Hp → Option Hp
  | 0 => fun _ _ _ _ _ _ _ _ => none
  | n + 1 => fun x0 x1 x2 x3 x4 x5 x6 h => gd (hK h x0 = 7) <| if (hI h 386 x0) ≤ x6 then (b_Unit_seat_100 F x0 x5 h) else (rq h (hR h 384 x0) 123 fun a_18 => if (nI (hN h a_18)) ≤ x6 then (b_Unit_seat_100 F x0 x5 h) else (if x2 ≤ x5 then (b_Unit_seat_100 F x0 x5 h) else (cl (f_Unit_busy F x0 x6 h) fun o_34 h_34 => nu o_34 (gd (hK h_34 x0 = 7) <| rq h_34 (hR h_34 384 x0) 123 fun a_41_2 => ix x6 (hN h_34 a_41_2) fun j_46 => pw (hQ h_34 a_41_2 j_46) fun o_46_2 => nu o_46_2 (pw (hT h_34) fun a_56 => pw (nw h_34 9 0 16) fun h_56_2 => clv (f_Warp_init F a_56 x3 h_56_2) fun h_61 => gd (hK h_61 a_41_2 = 123) <| gd (hK h_61 a_56 = 9) <| ix x6 (hN h_61 a_41_2) fun j_64_3 => pw (sQ h_61 a_41_2 j_64_3 (some a_56)) fun h_64_4 => b_Unit_seat_65 F (b_Unit_seat_6 F n) x0 x1 x2 x3 x4 x5 x6 h_64_4) fun a_47 => (b_Unit_seat_65 F (b_Unit_seat_6 F n) x0 x1 x2 x3 x4 x5 x6 h_34)) fun a_37 => (b_Unit_seat_6 F n x0 x1 x2 x3 x4 x5 (x6 + 1) h_34))))
set_option maxRecDepth 100000 in
set_option maxHeartbeats 4000000 in
theorem e_Unit_seat_6 {G : Gl} (hw : gF G) {h0 : Hp} {F : Nat} {h' : Hp}   : ∀ (n : Nat) (x0 : Nat) (x1 : Option Nat) (x2 : Int32) (x3 : Int32) (x4 : Option Nat) (x5 : Int32) (x6 : Int32) (h : Hp), b_Unit_seat_6 F n x0 x1 x2 x3 x4 x5 x6 h = some h' → Go G mi_Unit_seat h0 (pV h') h 6 [(0, .ref x0), (1, va_rf x1), (2, .int x2), (3, .int x3), (4, va_rf x4), (5, .int x5), (6, .int x6)] [] := by
  intro n
  induction n with
  | zero =>
    intro _ _ _ _ _ _ _ _ hf
    exact nm_s hf
  | succ n ih =>
    intro x0 x1 x2 x3 x4 x5 x6 h hf
    unfold b_Unit_seat_6 at hf
    refine g_iload d_Unit_seat_6 rfl ?_
    refine g_aload_n d_Unit_seat_8 rfl ?_
    obtain ⟨k_9, hf⟩ := gd_s hf
    refine fg_Unit_slots lf_Unit_21 d_Unit_seat_9 k_9 ?_
    refine g_icmp_ge 100 d_Unit_seat_12 (by decide) (fun c_12 => ?_) (fun c_12 => ?_)
    · have hf := ifp hf c_12
      refine Go.locals [0, 5] rfl ?_
      have key := e_Unit_seat_100 hw (G := G) (h0 := h0)  hf
      exact key
    · have hf := ifn hf c_12
      refine g_iload d_Unit_seat_15 rfl ?_
      refine g_aload_n d_Unit_seat_17 rfl ?_
      obtain ⟨a_18, e_18, k_18, hf⟩ := rq_s hf
      refine fgs_Unit_warps lf_Unit_11 d_Unit_seat_18 k_9 e_18 ?_
      refine g_alen k_18 (by decide) rfl d_Unit_seat_21 ?_
      refine g_icmp_ge 100 d_Unit_seat_22 (by decide) (fun c_22 => ?_) (fun c_22 => ?_)
      · have hf := ifp hf c_22
        refine Go.locals [0, 5] rfl ?_
        have key := e_Unit_seat_100 hw (G := G) (h0 := h0)  hf
        exact key
      · have hf := ifn hf c_22
        refine g_iload d_Unit_seat_25 rfl ?_
        refine g_iload_n d_Unit_seat_27 rfl ?_
        refine g_icmp_ge 100 d_Unit_seat_28 (by decide) (fun c_28 => ?_) (fun c_28 => ?_)
        · have hf := ifp hf c_28
          refine Go.locals [0, 5] rfl ?_
          have key := e_Unit_seat_100 hw (G := G) (h0 := h0)  hf
          exact key
        · have hf := ifn hf c_28
          refine g_aload_n d_Unit_seat_31 rfl ?_
          refine g_iload d_Unit_seat_32 rfl ?_
          obtain ⟨o_34, h_34, e_34, hf⟩ := cl_s hf
          refine g_callV (mz := mi_Unit_busy) (e_Unit_busy e_34) cw_Unit_seat_Unit_busy lm_Unit_44 wI_Unit_busy wV_Unit_busy (ci := 6) k_9 (by decide) rfl rfl d_Unit_seat_34 rfl rfl (by first | exact Nat.le_of_ble_eq_true rfl | simp [cat_rf, Value.category]) (fun r1 h1 hp hro => ?_)
          obtain ⟨rfl, rfl⟩ := hp
          dsimp only [Option.toList_some, Option.toList_none, List.cons_append, List.nil_append]
          refine g_ifnonnull (r := o_34) 94 d_Unit_seat_37 (by decide) (fun a_37 c_37 => ?_) (fun c_37 => ?_)
          · subst c_37
            have hf := nu_s hf
            refine g_iinc (_ + 1) d_Unit_seat_94 rfl (by rfl) (by decide) ?_
            show Go _ _ _ _ _ _ [(0, _), (1, _), (2, _), (3, _), (4, _), (5, _), (6, _)] _
            refine g_goto 6 d_Unit_seat_97 (by decide) ?_
            exact ih _ _ _ _ _ _ _ _ hf
          · subst c_37
            have hf := nu_n hf
            refine g_aload_n d_Unit_seat_40 rfl ?_
            obtain ⟨k_41, hf⟩ := gd_s hf
            obtain ⟨a_41_2, e_41_2, k_41_2, hf⟩ := rq_s hf
            refine fgs_Unit_warps lf_Unit_11 d_Unit_seat_41 k_41 e_41_2 ?_
            refine g_iload d_Unit_seat_44 rfl ?_
            obtain ⟨i_46, hf⟩ := ix_s hf
            refine g_aald k_41_2 (by decide) rfl rfl i_46 d_Unit_seat_46 ?_
            obtain ⟨o_46_2, e_46_2, hf⟩ := pw_s hf
            refine Go.vr e_46_2 ?_
            refine g_ifnonnull (r := o_46_2) 65 d_Unit_seat_47 (by decide) (fun a_47 c_47 => ?_) (fun c_47 => ?_)
            · subst c_47
              have hf := nu_s hf
              have key := e_Unit_seat_65 hw (G := G) (h0 := h0) (fun _ _ _ _ _ _ _ _ q => ih _ _ _ _ _ _ _ _ q) hf
              exact key
            · subst c_47
              have hf := nu_n hf
              refine g_aload_n d_Unit_seat_50 rfl ?_
              refine fgs_Unit_warps lf_Unit_11 d_Unit_seat_51 k_41 e_41_2 ?_
              refine g_iload d_Unit_seat_54 rfl ?_
              obtain ⟨a_56, e_56, hf⟩ := pw_s hf
              refine g_newk 8 9 rfl okWarp lc_Unit_9 wn_Warp wi_Warp d_Unit_seat_56 ?_
              refine Go.kn (fun k_56 => ?_)
              rw [← e_56] at k_56 ⊢
              have hf := pw_b hf
              refine g_dup (by first | rfl | exact cat_rf _) d_Unit_seat_59 ?_
              refine g_iload_n d_Unit_seat_60 rfl ?_
              obtain ⟨h_61, e_61, hf⟩ := clv_s hf
              refine g_callI (mz := mi_Warp_init) (e_Warp_init hw e_61) cw_Unit_seat_Warp_init lm_Unit_48 wI_Warp_init rfl rfl d_Unit_seat_61 rfl rfl (by first | exact Nat.le_of_ble_eq_true rfl | simp [cat_rf, Value.category]) (fun r1 h1 hp hro => ?_)
              obtain ⟨rfl, rfl⟩ := hp
              dsimp only [Option.toList_some, Option.toList_none, List.cons_append, List.nil_append]
              obtain ⟨k_64, hf⟩ := gd_s hf
              obtain ⟨k_64_2, hf⟩ := gd_s hf
              obtain ⟨i_64_3, hf⟩ := ix_s hf
              refine g_aast hw (ci := 8) k_64 (by decide) rfl k_64_2 (by decide) rfl i_64_3 d_Unit_seat_64 ?_
              have hf := pw_b hf
              have key := e_Unit_seat_65 hw (G := G) (h0 := h0) (fun _ _ _ _ _ _ _ _ q => ih _ _ _ _ _ _ _ _ q) hf
              exact key
def f_Unit_seat (F : Nat) (x0 : Nat) (x1 : Option Nat) (x2 : Int32) (x3 : Int32) (x4 : Option Nat) (h : Hp) : Option Hp := b_Unit_seat_6 F F x0 x1 x2 x3 x4 (0 : Int32) (0 : Int32) h
set_option maxRecDepth 100000 in
set_option maxHeartbeats 4000000 in
theorem e_Unit_seat {G : Gl} (hw : gF G) {F : Nat} {h' : Hp} {x0 : Nat} {x1 : Option Nat} {x2 : Int32} {x3 : Int32} {x4 : Option Nat} {h : Hp} (hf : f_Unit_seat F x0 x1 x2 x3 x4 h = some h') : Ex G mi_Unit_seat [.ref x0, va_rf x1, .int x2, .int x3, va_rf x4] h (pV h') := by
  unfold f_Unit_seat at hf
  refine Ex.of nmV (by decide) (by cases x1 <;> cases x4 <;> exact Nat.le_of_ble_eq_true rfl) ?_
  rw [show lv_args 0 [.ref x0, va_rf x1, .int x2, .int x3, va_rf x4] = [(0, .ref x0), (1, va_rf x1), (2, .int x2), (3, .int x3), (4, va_rf x4)] from by cases x1 <;> cases x4 <;> rfl]
  show Go G mi_Unit_seat h _ h 0 [(0, .ref x0), (1, va_rf x1), (2, .int x2), (3, .int x3), (4, va_rf x4)] []
  refine g_iconst 0 d_Unit_seat_0 (by decide) ?_
  refine g_istore d_Unit_seat_1 (by decide) ?_
  simp only [lset1, lset2, List.filter_cons, cat_rf]
  show Go _ _ _ _ _ _ [(0, _), (1, _), (2, _), (3, _), (4, _), (5, _)] _
  refine g_iconst 0 d_Unit_seat_3 (by decide) ?_
  refine g_istore d_Unit_seat_4 (by decide) ?_
  show Go _ _ _ _ _ _ [(0, _), (1, _), (2, _), (3, _), (4, _), (5, _), (6, _)] _
  have key := e_Unit_seat_6 hw (G := G) (h0 := h)  F _ _ _ _ _ _ _ _ hf
  exact key
abbrev mi_WM_dispatch : MI := (⟨"WarpMill", "dispatch", "()V"⟩, prog_1_method_19_code, 4, none, 4, 92)
def it_WM_dispatch_0 : List (Nat × ClassFile.Instr × Nat) := [(0, .aload_n 0, 1), (1, .invokevirtual 213, 3), (4, .istore_n 1, 1), (5, .aload_n 0, 1), (6, .getfield 32, 3), (9, .getfield 217, 3), (12, .istore_n 2, 1), (13, .iload_n 2, 1), (14, .aload_n 0, 1), (15, .getfield 32, 3), (18, .getfield 220, 3), (21, .if_icmp .ge (108), 3), (24, .iload_n 2, 1), (25, .aload_n 0, 1), (26, .getfield 44, 3), (29, .arraylength, 1), (30, .if_icmp .ge (99), 3), (33, .aload_n 0, 1), (34, .iload_n 1, 1), (35, .invokevirtual 222, 3), (38, .astore_n 3, 1), (39, .aload_n 3, 1), (40, .ifnonnull (4), 3), (43, .return_, 1)]
theorem id_WM_dispatch_0 : ∀ q ∈ it_WM_dispatch_0, decode prog_1_method_19_code q.1 = .ok q.2 := by decide +kernel
theorem d_WM_dispatch_0 : decode prog_1_method_19_code 0 = .ok (.aload_n 0, 1) := id_WM_dispatch_0 (0, .aload_n 0, 1) (List.mem_of_getElem? (i := 0) rfl)
theorem d_WM_dispatch_1 : decode prog_1_method_19_code 1 = .ok (.invokevirtual 213, 3) := id_WM_dispatch_0 (1, .invokevirtual 213, 3) (List.mem_of_getElem? (i := 1) rfl)
theorem d_WM_dispatch_4 : decode prog_1_method_19_code 4 = .ok (.istore_n 1, 1) := id_WM_dispatch_0 (4, .istore_n 1, 1) (List.mem_of_getElem? (i := 2) rfl)
theorem d_WM_dispatch_5 : decode prog_1_method_19_code 5 = .ok (.aload_n 0, 1) := id_WM_dispatch_0 (5, .aload_n 0, 1) (List.mem_of_getElem? (i := 3) rfl)
theorem d_WM_dispatch_6 : decode prog_1_method_19_code 6 = .ok (.getfield 32, 3) := id_WM_dispatch_0 (6, .getfield 32, 3) (List.mem_of_getElem? (i := 4) rfl)
theorem d_WM_dispatch_9 : decode prog_1_method_19_code 9 = .ok (.getfield 217, 3) := id_WM_dispatch_0 (9, .getfield 217, 3) (List.mem_of_getElem? (i := 5) rfl)
theorem d_WM_dispatch_12 : decode prog_1_method_19_code 12 = .ok (.istore_n 2, 1) := id_WM_dispatch_0 (12, .istore_n 2, 1) (List.mem_of_getElem? (i := 6) rfl)
theorem d_WM_dispatch_13 : decode prog_1_method_19_code 13 = .ok (.iload_n 2, 1) := id_WM_dispatch_0 (13, .iload_n 2, 1) (List.mem_of_getElem? (i := 7) rfl)
theorem d_WM_dispatch_14 : decode prog_1_method_19_code 14 = .ok (.aload_n 0, 1) := id_WM_dispatch_0 (14, .aload_n 0, 1) (List.mem_of_getElem? (i := 8) rfl)
theorem d_WM_dispatch_15 : decode prog_1_method_19_code 15 = .ok (.getfield 32, 3) := id_WM_dispatch_0 (15, .getfield 32, 3) (List.mem_of_getElem? (i := 9) rfl)
theorem d_WM_dispatch_18 : decode prog_1_method_19_code 18 = .ok (.getfield 220, 3) := id_WM_dispatch_0 (18, .getfield 220, 3) (List.mem_of_getElem? (i := 10) rfl)
theorem d_WM_dispatch_21 : decode prog_1_method_19_code 21 = .ok (.if_icmp .ge (108), 3) := id_WM_dispatch_0 (21, .if_icmp .ge (108), 3) (List.mem_of_getElem? (i := 11) rfl)
theorem d_WM_dispatch_24 : decode prog_1_method_19_code 24 = .ok (.iload_n 2, 1) := id_WM_dispatch_0 (24, .iload_n 2, 1) (List.mem_of_getElem? (i := 12) rfl)
theorem d_WM_dispatch_25 : decode prog_1_method_19_code 25 = .ok (.aload_n 0, 1) := id_WM_dispatch_0 (25, .aload_n 0, 1) (List.mem_of_getElem? (i := 13) rfl)
theorem d_WM_dispatch_26 : decode prog_1_method_19_code 26 = .ok (.getfield 44, 3) := id_WM_dispatch_0 (26, .getfield 44, 3) (List.mem_of_getElem? (i := 14) rfl)
theorem d_WM_dispatch_29 : decode prog_1_method_19_code 29 = .ok (.arraylength, 1) := id_WM_dispatch_0 (29, .arraylength, 1) (List.mem_of_getElem? (i := 15) rfl)
theorem d_WM_dispatch_30 : decode prog_1_method_19_code 30 = .ok (.if_icmp .ge (99), 3) := id_WM_dispatch_0 (30, .if_icmp .ge (99), 3) (List.mem_of_getElem? (i := 16) rfl)
theorem d_WM_dispatch_33 : decode prog_1_method_19_code 33 = .ok (.aload_n 0, 1) := id_WM_dispatch_0 (33, .aload_n 0, 1) (List.mem_of_getElem? (i := 17) rfl)
theorem d_WM_dispatch_34 : decode prog_1_method_19_code 34 = .ok (.iload_n 1, 1) := id_WM_dispatch_0 (34, .iload_n 1, 1) (List.mem_of_getElem? (i := 18) rfl)
theorem d_WM_dispatch_35 : decode prog_1_method_19_code 35 = .ok (.invokevirtual 222, 3) := id_WM_dispatch_0 (35, .invokevirtual 222, 3) (List.mem_of_getElem? (i := 19) rfl)
theorem d_WM_dispatch_38 : decode prog_1_method_19_code 38 = .ok (.astore_n 3, 1) := id_WM_dispatch_0 (38, .astore_n 3, 1) (List.mem_of_getElem? (i := 20) rfl)
theorem d_WM_dispatch_39 : decode prog_1_method_19_code 39 = .ok (.aload_n 3, 1) := id_WM_dispatch_0 (39, .aload_n 3, 1) (List.mem_of_getElem? (i := 21) rfl)
theorem d_WM_dispatch_40 : decode prog_1_method_19_code 40 = .ok (.ifnonnull (4), 3) := id_WM_dispatch_0 (40, .ifnonnull (4), 3) (List.mem_of_getElem? (i := 22) rfl)
theorem d_WM_dispatch_43 : decode prog_1_method_19_code 43 = .ok (.return_, 1) := id_WM_dispatch_0 (43, .return_, 1) (List.mem_of_getElem? (i := 23) rfl)
def it_WM_dispatch_1 : List (Nat × ClassFile.Instr × Nat) := [(44, .aload_n 0, 1), (45, .getfield 44, 3), (48, .iload_n 2, 1), (49, .aaload, 1), (50, .ifnonnull (17), 3), (53, .aload_n 0, 1), (54, .getfield 44, 3), (57, .iload_n 2, 1), (58, .new 42, 3), (61, .dup, 1), (62, .iload_n 2, 1), (63, .invokespecial 226, 3), (66, .aastore, 1), (67, .aload_n 0, 1), (68, .getfield 44, 3), (71, .iload_n 2, 1), (72, .aaload, 1), (73, .aload_n 3, 1), (74, .aload_n 0, 1), (75, .getfield 32, 3), (78, .getfield 220, 3), (81, .aload_n 0, 1), (82, .getfield 32, 3), (85, .getfield 227, 3)]
theorem id_WM_dispatch_1 : ∀ q ∈ it_WM_dispatch_1, decode prog_1_method_19_code q.1 = .ok q.2 := by decide +kernel
theorem d_WM_dispatch_44 : decode prog_1_method_19_code 44 = .ok (.aload_n 0, 1) := id_WM_dispatch_1 (44, .aload_n 0, 1) (List.mem_of_getElem? (i := 0) rfl)
theorem d_WM_dispatch_45 : decode prog_1_method_19_code 45 = .ok (.getfield 44, 3) := id_WM_dispatch_1 (45, .getfield 44, 3) (List.mem_of_getElem? (i := 1) rfl)
theorem d_WM_dispatch_48 : decode prog_1_method_19_code 48 = .ok (.iload_n 2, 1) := id_WM_dispatch_1 (48, .iload_n 2, 1) (List.mem_of_getElem? (i := 2) rfl)
theorem d_WM_dispatch_49 : decode prog_1_method_19_code 49 = .ok (.aaload, 1) := id_WM_dispatch_1 (49, .aaload, 1) (List.mem_of_getElem? (i := 3) rfl)
theorem d_WM_dispatch_50 : decode prog_1_method_19_code 50 = .ok (.ifnonnull (17), 3) := id_WM_dispatch_1 (50, .ifnonnull (17), 3) (List.mem_of_getElem? (i := 4) rfl)
theorem d_WM_dispatch_53 : decode prog_1_method_19_code 53 = .ok (.aload_n 0, 1) := id_WM_dispatch_1 (53, .aload_n 0, 1) (List.mem_of_getElem? (i := 5) rfl)
theorem d_WM_dispatch_54 : decode prog_1_method_19_code 54 = .ok (.getfield 44, 3) := id_WM_dispatch_1 (54, .getfield 44, 3) (List.mem_of_getElem? (i := 6) rfl)
theorem d_WM_dispatch_57 : decode prog_1_method_19_code 57 = .ok (.iload_n 2, 1) := id_WM_dispatch_1 (57, .iload_n 2, 1) (List.mem_of_getElem? (i := 7) rfl)
theorem d_WM_dispatch_58 : decode prog_1_method_19_code 58 = .ok (.new 42, 3) := id_WM_dispatch_1 (58, .new 42, 3) (List.mem_of_getElem? (i := 8) rfl)
theorem d_WM_dispatch_61 : decode prog_1_method_19_code 61 = .ok (.dup, 1) := id_WM_dispatch_1 (61, .dup, 1) (List.mem_of_getElem? (i := 9) rfl)
theorem d_WM_dispatch_62 : decode prog_1_method_19_code 62 = .ok (.iload_n 2, 1) := id_WM_dispatch_1 (62, .iload_n 2, 1) (List.mem_of_getElem? (i := 10) rfl)
theorem d_WM_dispatch_63 : decode prog_1_method_19_code 63 = .ok (.invokespecial 226, 3) := id_WM_dispatch_1 (63, .invokespecial 226, 3) (List.mem_of_getElem? (i := 11) rfl)
theorem d_WM_dispatch_66 : decode prog_1_method_19_code 66 = .ok (.aastore, 1) := id_WM_dispatch_1 (66, .aastore, 1) (List.mem_of_getElem? (i := 12) rfl)
theorem d_WM_dispatch_67 : decode prog_1_method_19_code 67 = .ok (.aload_n 0, 1) := id_WM_dispatch_1 (67, .aload_n 0, 1) (List.mem_of_getElem? (i := 13) rfl)
theorem d_WM_dispatch_68 : decode prog_1_method_19_code 68 = .ok (.getfield 44, 3) := id_WM_dispatch_1 (68, .getfield 44, 3) (List.mem_of_getElem? (i := 14) rfl)
theorem d_WM_dispatch_71 : decode prog_1_method_19_code 71 = .ok (.iload_n 2, 1) := id_WM_dispatch_1 (71, .iload_n 2, 1) (List.mem_of_getElem? (i := 15) rfl)
theorem d_WM_dispatch_72 : decode prog_1_method_19_code 72 = .ok (.aaload, 1) := id_WM_dispatch_1 (72, .aaload, 1) (List.mem_of_getElem? (i := 16) rfl)
theorem d_WM_dispatch_73 : decode prog_1_method_19_code 73 = .ok (.aload_n 3, 1) := id_WM_dispatch_1 (73, .aload_n 3, 1) (List.mem_of_getElem? (i := 17) rfl)
theorem d_WM_dispatch_74 : decode prog_1_method_19_code 74 = .ok (.aload_n 0, 1) := id_WM_dispatch_1 (74, .aload_n 0, 1) (List.mem_of_getElem? (i := 18) rfl)
theorem d_WM_dispatch_75 : decode prog_1_method_19_code 75 = .ok (.getfield 32, 3) := id_WM_dispatch_1 (75, .getfield 32, 3) (List.mem_of_getElem? (i := 19) rfl)
theorem d_WM_dispatch_78 : decode prog_1_method_19_code 78 = .ok (.getfield 220, 3) := id_WM_dispatch_1 (78, .getfield 220, 3) (List.mem_of_getElem? (i := 20) rfl)
theorem d_WM_dispatch_81 : decode prog_1_method_19_code 81 = .ok (.aload_n 0, 1) := id_WM_dispatch_1 (81, .aload_n 0, 1) (List.mem_of_getElem? (i := 21) rfl)
theorem d_WM_dispatch_82 : decode prog_1_method_19_code 82 = .ok (.getfield 32, 3) := id_WM_dispatch_1 (82, .getfield 32, 3) (List.mem_of_getElem? (i := 22) rfl)
theorem d_WM_dispatch_85 : decode prog_1_method_19_code 85 = .ok (.getfield 227, 3) := id_WM_dispatch_1 (85, .getfield 227, 3) (List.mem_of_getElem? (i := 23) rfl)
def it_WM_dispatch_2 : List (Nat × ClassFile.Instr × Nat) := [(88, .invokevirtual 230, 3), (91, .aload_n 3, 1), (92, .aload_n 0, 1), (93, .getfield 44, 3), (96, .iload_n 2, 1), (97, .aaload, 1), (98, .iload_n 1, 1), (99, .aload_n 0, 1), (100, .getfield 10, 3), (103, .getfield 93, 3), (106, .aload_n 0, 1), (107, .getfield 18, 3), (110, .invokevirtual 233, 3), (113, .aload_n 0, 1), (114, .getfield 32, 3), (117, .iload_n 2, 1), (118, .iconst 1, 1), (119, .iadd, 1), (120, .putfield 217, 3), (123, .iinc 2 (1), 3), (126, .goto (-113), 3), (129, .return_, 1)]
theorem id_WM_dispatch_2 : ∀ q ∈ it_WM_dispatch_2, decode prog_1_method_19_code q.1 = .ok q.2 := by decide +kernel
theorem d_WM_dispatch_88 : decode prog_1_method_19_code 88 = .ok (.invokevirtual 230, 3) := id_WM_dispatch_2 (88, .invokevirtual 230, 3) (List.mem_of_getElem? (i := 0) rfl)
theorem d_WM_dispatch_91 : decode prog_1_method_19_code 91 = .ok (.aload_n 3, 1) := id_WM_dispatch_2 (91, .aload_n 3, 1) (List.mem_of_getElem? (i := 1) rfl)
theorem d_WM_dispatch_92 : decode prog_1_method_19_code 92 = .ok (.aload_n 0, 1) := id_WM_dispatch_2 (92, .aload_n 0, 1) (List.mem_of_getElem? (i := 2) rfl)
theorem d_WM_dispatch_93 : decode prog_1_method_19_code 93 = .ok (.getfield 44, 3) := id_WM_dispatch_2 (93, .getfield 44, 3) (List.mem_of_getElem? (i := 3) rfl)
theorem d_WM_dispatch_96 : decode prog_1_method_19_code 96 = .ok (.iload_n 2, 1) := id_WM_dispatch_2 (96, .iload_n 2, 1) (List.mem_of_getElem? (i := 4) rfl)
theorem d_WM_dispatch_97 : decode prog_1_method_19_code 97 = .ok (.aaload, 1) := id_WM_dispatch_2 (97, .aaload, 1) (List.mem_of_getElem? (i := 5) rfl)
theorem d_WM_dispatch_98 : decode prog_1_method_19_code 98 = .ok (.iload_n 1, 1) := id_WM_dispatch_2 (98, .iload_n 1, 1) (List.mem_of_getElem? (i := 6) rfl)
theorem d_WM_dispatch_99 : decode prog_1_method_19_code 99 = .ok (.aload_n 0, 1) := id_WM_dispatch_2 (99, .aload_n 0, 1) (List.mem_of_getElem? (i := 7) rfl)
theorem d_WM_dispatch_100 : decode prog_1_method_19_code 100 = .ok (.getfield 10, 3) := id_WM_dispatch_2 (100, .getfield 10, 3) (List.mem_of_getElem? (i := 8) rfl)
theorem d_WM_dispatch_103 : decode prog_1_method_19_code 103 = .ok (.getfield 93, 3) := id_WM_dispatch_2 (103, .getfield 93, 3) (List.mem_of_getElem? (i := 9) rfl)
theorem d_WM_dispatch_106 : decode prog_1_method_19_code 106 = .ok (.aload_n 0, 1) := id_WM_dispatch_2 (106, .aload_n 0, 1) (List.mem_of_getElem? (i := 10) rfl)
theorem d_WM_dispatch_107 : decode prog_1_method_19_code 107 = .ok (.getfield 18, 3) := id_WM_dispatch_2 (107, .getfield 18, 3) (List.mem_of_getElem? (i := 11) rfl)
theorem d_WM_dispatch_110 : decode prog_1_method_19_code 110 = .ok (.invokevirtual 233, 3) := id_WM_dispatch_2 (110, .invokevirtual 233, 3) (List.mem_of_getElem? (i := 12) rfl)
theorem d_WM_dispatch_113 : decode prog_1_method_19_code 113 = .ok (.aload_n 0, 1) := id_WM_dispatch_2 (113, .aload_n 0, 1) (List.mem_of_getElem? (i := 13) rfl)
theorem d_WM_dispatch_114 : decode prog_1_method_19_code 114 = .ok (.getfield 32, 3) := id_WM_dispatch_2 (114, .getfield 32, 3) (List.mem_of_getElem? (i := 14) rfl)
theorem d_WM_dispatch_117 : decode prog_1_method_19_code 117 = .ok (.iload_n 2, 1) := id_WM_dispatch_2 (117, .iload_n 2, 1) (List.mem_of_getElem? (i := 15) rfl)
theorem d_WM_dispatch_118 : decode prog_1_method_19_code 118 = .ok (.iconst 1, 1) := id_WM_dispatch_2 (118, .iconst 1, 1) (List.mem_of_getElem? (i := 16) rfl)
theorem d_WM_dispatch_119 : decode prog_1_method_19_code 119 = .ok (.iadd, 1) := id_WM_dispatch_2 (119, .iadd, 1) (List.mem_of_getElem? (i := 17) rfl)
theorem d_WM_dispatch_120 : decode prog_1_method_19_code 120 = .ok (.putfield 217, 3) := id_WM_dispatch_2 (120, .putfield 217, 3) (List.mem_of_getElem? (i := 18) rfl)
theorem d_WM_dispatch_123 : decode prog_1_method_19_code 123 = .ok (.iinc 2 (1), 3) := id_WM_dispatch_2 (123, .iinc 2 (1), 3) (List.mem_of_getElem? (i := 19) rfl)
theorem d_WM_dispatch_126 : decode prog_1_method_19_code 126 = .ok (.goto (-113), 3) := id_WM_dispatch_2 (126, .goto (-113), 3) (List.mem_of_getElem? (i := 20) rfl)
theorem d_WM_dispatch_129 : decode prog_1_method_19_code 129 = .ok (.return_, 1) := id_WM_dispatch_2 (129, .return_, 1) (List.mem_of_getElem? (i := 21) rfl)
theorem wC_WM_dispatch : Cond.code ⟨"WarpMill", "dispatch", "()V"⟩ prog_1_method_19_code 4 (none) ∈ lw_tb := mem_tb 669 (by decide +kernel) rfl
theorem cw_WM_dispatch_WM_warpsOfABlock : cW mi_WM_dispatch mi_WM_warpsOfABlock 0 := ⟨wC_WM_warpsOfABlock, wi_WM, ⟨by decide, by decide, by decide +kernel⟩, by decide, by decide⟩
theorem cw_WM_dispatch_WM_firstWithRoom : cW mi_WM_dispatch mi_WM_firstWithRoom 1 := ⟨wC_WM_firstWithRoom, wi_WM, ⟨by decide, by decide, by decide +kernel⟩, by decide, by decide⟩
theorem cw_WM_dispatch_Block_init : cW mi_WM_dispatch mi_Block_init 1 := ⟨wC_Block_init, wi_Block, ⟨by decide, by decide, by decide +kernel⟩, by decide, by decide⟩
theorem cw_WM_dispatch_Block_begin : cW mi_WM_dispatch mi_Block_begin 3 := ⟨wC_Block_begin, wi_Block, ⟨by decide, by decide, by decide +kernel⟩, by decide, by decide⟩
theorem cw_WM_dispatch_Unit_seat : cW mi_WM_dispatch mi_Unit_seat 4 := ⟨wC_Unit_seat, wi_Unit, ⟨by decide, by decide, by decide +kernel⟩, by decide, by decide⟩
def b_WM_dispatch_67 (F : Nat) (k13 : Nat → Int32 → Int32 → Hp → Option Hp) (x0 : Nat) (x1 : Int32) (x2 : Int32) (x3 : Nat) (h : Hp) : Option Hp := gd (hK h x0 = 1) <| rq h (hR h 5 x0) 122 fun a_68_2 => ix x2 (hN h a_68_2) fun j_72 => rq h (hQ h a_68_2 j_72) 8 fun a_72_2 => rq h (hR h 3 x0) 6 fun a_75 => clv (f_Block_begin F a_72_2 (some x3) (hI h 321 a_75) (hI h 322 a_75) h) fun h_88 => gd (hK h_88 x0 = 1) <| rq h_88 (hR h_88 5 x0) 122 fun a_93_2 => ix x2 (hN h_88 a_93_2) fun j_97 => pw (hQ h_88 a_93_2 j_97) fun o_97_2 => rq h_88 (hR h_88 0 x0) 2 fun a_100 => rq h_88 (hR h_88 1 x0) 120 fun a_107 => gd (hK h_88 x3 = 7) <| clv (f_Unit_seat F x3 o_97_2 x1 (hI h_88 64 a_100) (some a_107) h_88) fun h_110_2 => gd (hK h_110_2 x0 = 1) <| rq h_110_2 (hR h_110_2 3 x0) 6 fun a_114_2 => pw (sI h_110_2 323 a_114_2 (x2 + (1 : Int32))) fun h_120 => k13 x0 x1 (x2 + 1) h_120
set_option maxRecDepth 100000 in
set_option maxHeartbeats 4000000 in
theorem e_WM_dispatch_67 {G : Gl} (hw : gF G) {h0 : Hp} {F : Nat} {h' : Hp} {k13 : Nat → Int32 → Int32 → Hp → Option Hp} (hk13 : ∀ (y0 : Nat) (y1 : Int32) (y2 : Int32) (hh : Hp), k13 y0 y1 y2 hh = some h' → Go G mi_WM_dispatch h0 (pV h') hh 13 [(0, .ref y0), (1, .int y1), (2, .int y2)] []) {x0 : Nat} {x1 : Int32} {x2 : Int32} {x3 : Nat} {h : Hp} (hf : b_WM_dispatch_67 F k13 x0 x1 x2 x3 h = some h') : Go G mi_WM_dispatch h0 (pV h') h 67 [(0, .ref x0), (1, .int x1), (2, .int x2), (3, .ref x3)] [] := by
  unfold b_WM_dispatch_67 at hf
  refine g_aload_n d_WM_dispatch_67 rfl ?_
  obtain ⟨k_68, hf⟩ := gd_s hf
  obtain ⟨a_68_2, e_68_2, k_68_2, hf⟩ := rq_s hf
  refine fgs_WM_blocks lf_WM_44 d_WM_dispatch_68 k_68 e_68_2 ?_
  refine g_iload_n d_WM_dispatch_71 rfl ?_
  obtain ⟨i_72, hf⟩ := ix_s hf
  refine g_aald k_68_2 (by decide) rfl rfl i_72 d_WM_dispatch_72 ?_
  obtain ⟨a_72_2, e_72_2, k_72_2, hf⟩ := rq_s hf
  refine Go.vs e_72_2 ?_
  refine g_aload_n d_WM_dispatch_73 rfl ?_
  refine g_aload_n d_WM_dispatch_74 rfl ?_
  obtain ⟨a_75, e_75, k_75, hf⟩ := rq_s hf
  refine fgs_WM_tally lf_WM_32 d_WM_dispatch_75 k_68 e_75 ?_
  refine fg_Tally_blocks lf_WM_220 d_WM_dispatch_78 k_75 ?_
  refine g_aload_n d_WM_dispatch_81 rfl ?_
  refine fgs_WM_tally lf_WM_32 d_WM_dispatch_82 k_68 e_75 ?_
  refine fg_Tally_threads lf_WM_227 d_WM_dispatch_85 k_75 ?_
  obtain ⟨h_88, e_88, hf⟩ := clv_s hf
  refine g_callV (mz := mi_Block_begin) (e_Block_begin hw e_88) cw_WM_dispatch_Block_begin lm_WM_230 wI_Block_begin wV_Block_begin (ci := 7) k_72_2 (by decide) rfl rfl d_WM_dispatch_88 rfl rfl (by first | exact Nat.le_of_ble_eq_true rfl | simp [cat_rf, Value.category]) (fun r1 h1 hp hro => ?_)
  obtain ⟨rfl, rfl⟩ := hp
  dsimp only [Option.toList_some, Option.toList_none, List.cons_append, List.nil_append]
  refine g_aload_n d_WM_dispatch_91 rfl ?_
  refine g_aload_n d_WM_dispatch_92 rfl ?_
  obtain ⟨k_93, hf⟩ := gd_s hf
  obtain ⟨a_93_2, e_93_2, k_93_2, hf⟩ := rq_s hf
  refine fgs_WM_blocks lf_WM_44 d_WM_dispatch_93 k_93 e_93_2 ?_
  refine g_iload_n d_WM_dispatch_96 rfl ?_
  obtain ⟨i_97, hf⟩ := ix_s hf
  refine g_aald k_93_2 (by decide) rfl rfl i_97 d_WM_dispatch_97 ?_
  obtain ⟨o_97_2, e_97_2, hf⟩ := pw_s hf
  refine Go.vr e_97_2 ?_
  refine g_iload_n d_WM_dispatch_98 rfl ?_
  refine g_aload_n d_WM_dispatch_99 rfl ?_
  obtain ⟨a_100, e_100, k_100, hf⟩ := rq_s hf
  refine fgs_WM_sizes lf_WM_10 d_WM_dispatch_100 k_93 e_100 ?_
  refine fg_Sizes_lanes lf_WM_93 d_WM_dispatch_103 k_100 ?_
  refine g_aload_n d_WM_dispatch_106 rfl ?_
  obtain ⟨a_107, e_107, k_107, hf⟩ := rq_s hf
  refine fgs_WM_kernel lf_WM_18 d_WM_dispatch_107 k_93 e_107 ?_
  obtain ⟨k_110, hf⟩ := gd_s hf
  obtain ⟨h_110_2, e_110_2, hf⟩ := clv_s hf
  refine g_callV (mz := mi_Unit_seat) (e_Unit_seat hw e_110_2) cw_WM_dispatch_Unit_seat lm_WM_233 wI_Unit_seat wV_Unit_seat (ci := 6) k_110 (by decide) rfl rfl d_WM_dispatch_110 rfl rfl (by first | exact Nat.le_of_ble_eq_true rfl | simp [cat_rf, Value.category]) (fun r1 h1 hp hro => ?_)
  obtain ⟨rfl, rfl⟩ := hp
  dsimp only [Option.toList_some, Option.toList_none, List.cons_append, List.nil_append]
  refine g_aload_n d_WM_dispatch_113 rfl ?_
  obtain ⟨k_114, hf⟩ := gd_s hf
  obtain ⟨a_114_2, e_114_2, k_114_2, hf⟩ := rq_s hf
  refine fgs_WM_tally lf_WM_32 d_WM_dispatch_114 k_114 e_114_2 ?_
  refine g_iload_n d_WM_dispatch_117 rfl ?_
  refine g_iconst 1 d_WM_dispatch_118 (by decide) ?_
  refine g_iadd d_WM_dispatch_119 ?_
  refine fp_Tally_dispatched hw lf_WM_217 d_WM_dispatch_120 k_114_2 ?_
  have hf := pw_b hf
  refine g_iinc (_ + 1) d_WM_dispatch_123 rfl (by rfl) (by decide) ?_
  show Go _ _ _ _ _ _ [(0, _), (1, _), (2, _), (3, _)] _
  refine g_goto 13 d_WM_dispatch_126 (by decide) ?_
  refine Go.locals [0, 1, 2] rfl ?_
  exact hk13 _ _ _ _ hf
def b_WM_dispatch_13 (F : Nat) : Nat → Nat → Int32 → Int32 → Hp → Option Hp
  | 0 => fun _ _ _ _ => none
  | n + 1 => fun x0 x1 x2 h => gd (hK h x0 = 1) <| rq h (hR h 3 x0) 6 fun a_15_2 => if (hI h 321 a_15_2) ≤ x2 then (some h) else (rq h (hR h 5 x0) 122 fun a_26 => if (nI (hN h a_26)) ≤ x2 then (some h) else (cl (f_WM_firstWithRoom F x0 x1 h) fun o_35 h_35 => nu o_35 (some h_35) fun a_40 => (gd (hK h_35 x0 = 1) <| rq h_35 (hR h_35 5 x0) 122 fun a_45_2 => ix x2 (hN h_35 a_45_2) fun j_49 => pw (hQ h_35 a_45_2 j_49) fun o_49_2 => nu o_49_2 (pw (hT h_35) fun a_58 => pw (nw h_35 8 0 7) fun h_58_2 => clv (f_Block_init F a_58 x2 h_58_2) fun h_63 => gd (hK h_63 a_45_2 = 122) <| gd (hK h_63 a_58 = 8) <| ix x2 (hN h_63 a_45_2) fun j_66_3 => pw (sQ h_63 a_45_2 j_66_3 (some a_58)) fun h_66_4 => b_WM_dispatch_67 F (b_WM_dispatch_13 F n) x0 x1 x2 a_40 h_66_4) fun a_50 => (b_WM_dispatch_67 F (b_WM_dispatch_13 F n) x0 x1 x2 a_40 h_35))))
set_option maxRecDepth 100000 in
set_option maxHeartbeats 4000000 in
theorem e_WM_dispatch_13 {G : Gl} (hw : gF G) {h0 : Hp} {F : Nat} {h' : Hp}   : ∀ (n : Nat) (x0 : Nat) (x1 : Int32) (x2 : Int32) (h : Hp), b_WM_dispatch_13 F n x0 x1 x2 h = some h' → Go G mi_WM_dispatch h0 (pV h') h 13 [(0, .ref x0), (1, .int x1), (2, .int x2)] [] := by
  intro n
  induction n with
  | zero =>
    intro _ _ _ _ hf
    exact nm_s hf
  | succ n ih =>
    intro x0 x1 x2 h hf
    unfold b_WM_dispatch_13 at hf
    refine g_iload_n d_WM_dispatch_13 rfl ?_
    refine g_aload_n d_WM_dispatch_14 rfl ?_
    obtain ⟨k_15, hf⟩ := gd_s hf
    obtain ⟨a_15_2, e_15_2, k_15_2, hf⟩ := rq_s hf
    refine fgs_WM_tally lf_WM_32 d_WM_dispatch_15 k_15 e_15_2 ?_
    refine fg_Tally_blocks lf_WM_220 d_WM_dispatch_18 k_15_2 ?_
    refine g_icmp_ge 129 d_WM_dispatch_21 (by decide) (fun c_21 => ?_) (fun c_21 => ?_)
    · have hf := ifp hf c_21
      exact Go.ret none trivial rfl d_WM_dispatch_129 (pV_of hf)
    · have hf := ifn hf c_21
      refine g_iload_n d_WM_dispatch_24 rfl ?_
      refine g_aload_n d_WM_dispatch_25 rfl ?_
      obtain ⟨a_26, e_26, k_26, hf⟩ := rq_s hf
      refine fgs_WM_blocks lf_WM_44 d_WM_dispatch_26 k_15 e_26 ?_
      refine g_alen k_26 (by decide) rfl d_WM_dispatch_29 ?_
      refine g_icmp_ge 129 d_WM_dispatch_30 (by decide) (fun c_30 => ?_) (fun c_30 => ?_)
      · have hf := ifp hf c_30
        exact Go.ret none trivial rfl d_WM_dispatch_129 (pV_of hf)
      · have hf := ifn hf c_30
        refine g_aload_n d_WM_dispatch_33 rfl ?_
        refine g_iload_n d_WM_dispatch_34 rfl ?_
        obtain ⟨o_35, h_35, e_35, hf⟩ := cl_s hf
        refine g_callV (mz := mi_WM_firstWithRoom) (e_WM_firstWithRoom e_35) cw_WM_dispatch_WM_firstWithRoom lm_WM_222 wI_WM_firstWithRoom wV_WM_firstWithRoom (ci := 0) k_15 (by decide) rfl rfl d_WM_dispatch_35 rfl rfl (by first | exact Nat.le_of_ble_eq_true rfl | simp [cat_rf, Value.category]) (fun r1 h1 hp hro => ?_)
        obtain ⟨rfl, rfl⟩ := hp
        dsimp only [Option.toList_some, Option.toList_none, List.cons_append, List.nil_append]
        refine g_astore_nq (r := o_35) d_WM_dispatch_38 (by decide) ?_
        show Go _ _ _ _ _ _ [(0, _), (1, _), (2, _), (3, _)] _
        refine g_aload_nq (r := o_35) d_WM_dispatch_39 rfl ?_
        refine g_ifnonnull (r := o_35) 44 d_WM_dispatch_40 (by decide) (fun a_40 c_40 => ?_) (fun c_40 => ?_)
        · subst c_40
          have hf := nu_s hf
          refine g_aload_n d_WM_dispatch_44 rfl ?_
          obtain ⟨k_45, hf⟩ := gd_s hf
          obtain ⟨a_45_2, e_45_2, k_45_2, hf⟩ := rq_s hf
          refine fgs_WM_blocks lf_WM_44 d_WM_dispatch_45 k_45 e_45_2 ?_
          refine g_iload_n d_WM_dispatch_48 rfl ?_
          obtain ⟨i_49, hf⟩ := ix_s hf
          refine g_aald k_45_2 (by decide) rfl rfl i_49 d_WM_dispatch_49 ?_
          obtain ⟨o_49_2, e_49_2, hf⟩ := pw_s hf
          refine Go.vr e_49_2 ?_
          refine g_ifnonnull (r := o_49_2) 67 d_WM_dispatch_50 (by decide) (fun a_50 c_50 => ?_) (fun c_50 => ?_)
          · subst c_50
            have hf := nu_s hf
            have key := e_WM_dispatch_67 hw (G := G) (h0 := h0) (fun _ _ _ _ q => ih _ _ _ _ q) hf
            exact key
          · subst c_50
            have hf := nu_n hf
            refine g_aload_n d_WM_dispatch_53 rfl ?_
            refine fgs_WM_blocks lf_WM_44 d_WM_dispatch_54 k_45 e_45_2 ?_
            refine g_iload_n d_WM_dispatch_57 rfl ?_
            obtain ⟨a_58, e_58, hf⟩ := pw_s hf
            refine g_newk 7 8 rfl okBlock lc_WM_42 wn_Block wi_Block d_WM_dispatch_58 ?_
            refine Go.kn (fun k_58 => ?_)
            rw [← e_58] at k_58 ⊢
            have hf := pw_b hf
            refine g_dup (by first | rfl | exact cat_rf _) d_WM_dispatch_61 ?_
            refine g_iload_n d_WM_dispatch_62 rfl ?_
            obtain ⟨h_63, e_63, hf⟩ := clv_s hf
            refine g_callI (mz := mi_Block_init) (e_Block_init hw e_63) cw_WM_dispatch_Block_init lm_WM_226 wI_Block_init rfl rfl d_WM_dispatch_63 rfl rfl (by first | exact Nat.le_of_ble_eq_true rfl | simp [cat_rf, Value.category]) (fun r1 h1 hp hro => ?_)
            obtain ⟨rfl, rfl⟩ := hp
            dsimp only [Option.toList_some, Option.toList_none, List.cons_append, List.nil_append]
            obtain ⟨k_66, hf⟩ := gd_s hf
            obtain ⟨k_66_2, hf⟩ := gd_s hf
            obtain ⟨i_66_3, hf⟩ := ix_s hf
            refine g_aast hw (ci := 7) k_66 (by decide) rfl k_66_2 (by decide) rfl i_66_3 d_WM_dispatch_66 ?_
            have hf := pw_b hf
            have key := e_WM_dispatch_67 hw (G := G) (h0 := h0) (fun _ _ _ _ q => ih _ _ _ _ q) hf
            exact key
        · subst c_40
          have hf := nu_n hf
          exact Go.ret none trivial rfl d_WM_dispatch_43 (pV_of hf)
def f_WM_dispatch (F : Nat) (x0 : Nat) (h : Hp) : Option Hp := gd (hK h x0 = 1) <| cl (f_WM_warpsOfABlock F x0 h) fun v_1_2 h_1_2 => gd (hK h_1_2 x0 = 1) <| rq h_1_2 (hR h_1_2 3 x0) 6 fun a_6_2 => b_WM_dispatch_13 F F x0 v_1_2 (hI h_1_2 323 a_6_2) h_1_2
set_option maxRecDepth 100000 in
set_option maxHeartbeats 4000000 in
theorem e_WM_dispatch {G : Gl} (hw : gF G) {F : Nat} {h' : Hp} {x0 : Nat} {h : Hp} (hf : f_WM_dispatch F x0 h = some h') : Ex G mi_WM_dispatch [.ref x0] h (pV h') := by
  unfold f_WM_dispatch at hf
  refine Ex.of nmV (by decide) (Nat.le_of_ble_eq_true rfl) ?_
  show Go G mi_WM_dispatch h _ h 0 [(0, .ref x0)] []
  refine g_aload_n d_WM_dispatch_0 rfl ?_
  obtain ⟨k_1, hf⟩ := gd_s hf
  obtain ⟨v_1_2, h_1_2, e_1_2, hf⟩ := cl_s hf
  refine g_callV (mz := mi_WM_warpsOfABlock) (e_WM_warpsOfABlock e_1_2) cw_WM_dispatch_WM_warpsOfABlock lm_WM_213 wI_WM_warpsOfABlock wV_WM_warpsOfABlock (ci := 0) k_1 (by decide) rfl rfl d_WM_dispatch_1 rfl rfl (by first | exact Nat.le_of_ble_eq_true rfl | simp [cat_rf, Value.category]) (fun r1 h1 hp hro => ?_)
  obtain ⟨rfl, rfl⟩ := hp
  dsimp only [Option.toList_some, Option.toList_none, List.cons_append, List.nil_append]
  refine g_istore_n d_WM_dispatch_4 (by decide) ?_
  show Go _ _ _ _ _ _ [(0, _), (1, _)] _
  refine g_aload_n d_WM_dispatch_5 rfl ?_
  obtain ⟨k_6, hf⟩ := gd_s hf
  obtain ⟨a_6_2, e_6_2, k_6_2, hf⟩ := rq_s hf
  refine fgs_WM_tally lf_WM_32 d_WM_dispatch_6 k_6 e_6_2 ?_
  refine fg_Tally_dispatched lf_WM_217 d_WM_dispatch_9 k_6_2 ?_
  refine g_istore_n d_WM_dispatch_12 (by decide) ?_
  show Go _ _ _ _ _ _ [(0, _), (1, _), (2, _)] _
  have key := e_WM_dispatch_13 hw (G := G) (h0 := h)  F _ _ _ _ hf
  exact key
abbrev mi_Unit_isReady : MI := (⟨"WarpMill$Unit", "isReady", "(LWarpMill$Warp;I)Z"⟩, prog_9_method_8_code, 4, some .boolean, 0, 0)
def it_Unit_isReady_0 : List (Nat × ClassFile.Instr × Nat) := [(0, .aload_n 1, 1), (1, .getfield 72, 3), (4, .ifCond .eq (11), 3), (7, .aload_n 1, 1), (8, .getfield 75, 3), (11, .iload_n 2, 1), (12, .if_icmp .le (5), 3), (15, .iconst 0, 1), (16, .ireturn, 1), (17, .aload_n 1, 1), (18, .getfield 78, 3), (21, .astore_n 3, 1), (22, .aload_n 3, 1), (23, .ifnonnull (5), 3), (26, .iconst 1, 1), (27, .ireturn, 1), (28, .aload_n 3, 1), (29, .getfield 82, 3), (32, .ifCond .eq (11), 3), (35, .aload_n 0, 1), (36, .getfield 34, 3), (39, .iload_n 2, 1), (40, .if_icmp .gt (22), 3), (43, .aload_n 3, 1)]
theorem id_Unit_isReady_0 : ∀ q ∈ it_Unit_isReady_0, decode prog_9_method_8_code q.1 = .ok q.2 := by decide +kernel
theorem d_Unit_isReady_0 : decode prog_9_method_8_code 0 = .ok (.aload_n 1, 1) := id_Unit_isReady_0 (0, .aload_n 1, 1) (List.mem_of_getElem? (i := 0) rfl)
theorem d_Unit_isReady_1 : decode prog_9_method_8_code 1 = .ok (.getfield 72, 3) := id_Unit_isReady_0 (1, .getfield 72, 3) (List.mem_of_getElem? (i := 1) rfl)
theorem d_Unit_isReady_4 : decode prog_9_method_8_code 4 = .ok (.ifCond .eq (11), 3) := id_Unit_isReady_0 (4, .ifCond .eq (11), 3) (List.mem_of_getElem? (i := 2) rfl)
theorem d_Unit_isReady_7 : decode prog_9_method_8_code 7 = .ok (.aload_n 1, 1) := id_Unit_isReady_0 (7, .aload_n 1, 1) (List.mem_of_getElem? (i := 3) rfl)
theorem d_Unit_isReady_8 : decode prog_9_method_8_code 8 = .ok (.getfield 75, 3) := id_Unit_isReady_0 (8, .getfield 75, 3) (List.mem_of_getElem? (i := 4) rfl)
theorem d_Unit_isReady_11 : decode prog_9_method_8_code 11 = .ok (.iload_n 2, 1) := id_Unit_isReady_0 (11, .iload_n 2, 1) (List.mem_of_getElem? (i := 5) rfl)
theorem d_Unit_isReady_12 : decode prog_9_method_8_code 12 = .ok (.if_icmp .le (5), 3) := id_Unit_isReady_0 (12, .if_icmp .le (5), 3) (List.mem_of_getElem? (i := 6) rfl)
theorem d_Unit_isReady_15 : decode prog_9_method_8_code 15 = .ok (.iconst 0, 1) := id_Unit_isReady_0 (15, .iconst 0, 1) (List.mem_of_getElem? (i := 7) rfl)
theorem d_Unit_isReady_16 : decode prog_9_method_8_code 16 = .ok (.ireturn, 1) := id_Unit_isReady_0 (16, .ireturn, 1) (List.mem_of_getElem? (i := 8) rfl)
theorem d_Unit_isReady_17 : decode prog_9_method_8_code 17 = .ok (.aload_n 1, 1) := id_Unit_isReady_0 (17, .aload_n 1, 1) (List.mem_of_getElem? (i := 9) rfl)
theorem d_Unit_isReady_18 : decode prog_9_method_8_code 18 = .ok (.getfield 78, 3) := id_Unit_isReady_0 (18, .getfield 78, 3) (List.mem_of_getElem? (i := 10) rfl)
theorem d_Unit_isReady_21 : decode prog_9_method_8_code 21 = .ok (.astore_n 3, 1) := id_Unit_isReady_0 (21, .astore_n 3, 1) (List.mem_of_getElem? (i := 11) rfl)
theorem d_Unit_isReady_22 : decode prog_9_method_8_code 22 = .ok (.aload_n 3, 1) := id_Unit_isReady_0 (22, .aload_n 3, 1) (List.mem_of_getElem? (i := 12) rfl)
theorem d_Unit_isReady_23 : decode prog_9_method_8_code 23 = .ok (.ifnonnull (5), 3) := id_Unit_isReady_0 (23, .ifnonnull (5), 3) (List.mem_of_getElem? (i := 13) rfl)
theorem d_Unit_isReady_26 : decode prog_9_method_8_code 26 = .ok (.iconst 1, 1) := id_Unit_isReady_0 (26, .iconst 1, 1) (List.mem_of_getElem? (i := 14) rfl)
theorem d_Unit_isReady_27 : decode prog_9_method_8_code 27 = .ok (.ireturn, 1) := id_Unit_isReady_0 (27, .ireturn, 1) (List.mem_of_getElem? (i := 15) rfl)
theorem d_Unit_isReady_28 : decode prog_9_method_8_code 28 = .ok (.aload_n 3, 1) := id_Unit_isReady_0 (28, .aload_n 3, 1) (List.mem_of_getElem? (i := 16) rfl)
theorem d_Unit_isReady_29 : decode prog_9_method_8_code 29 = .ok (.getfield 82, 3) := id_Unit_isReady_0 (29, .getfield 82, 3) (List.mem_of_getElem? (i := 17) rfl)
theorem d_Unit_isReady_32 : decode prog_9_method_8_code 32 = .ok (.ifCond .eq (11), 3) := id_Unit_isReady_0 (32, .ifCond .eq (11), 3) (List.mem_of_getElem? (i := 18) rfl)
theorem d_Unit_isReady_35 : decode prog_9_method_8_code 35 = .ok (.aload_n 0, 1) := id_Unit_isReady_0 (35, .aload_n 0, 1) (List.mem_of_getElem? (i := 19) rfl)
theorem d_Unit_isReady_36 : decode prog_9_method_8_code 36 = .ok (.getfield 34, 3) := id_Unit_isReady_0 (36, .getfield 34, 3) (List.mem_of_getElem? (i := 20) rfl)
theorem d_Unit_isReady_39 : decode prog_9_method_8_code 39 = .ok (.iload_n 2, 1) := id_Unit_isReady_0 (39, .iload_n 2, 1) (List.mem_of_getElem? (i := 21) rfl)
theorem d_Unit_isReady_40 : decode prog_9_method_8_code 40 = .ok (.if_icmp .gt (22), 3) := id_Unit_isReady_0 (40, .if_icmp .gt (22), 3) (List.mem_of_getElem? (i := 22) rfl)
theorem d_Unit_isReady_43 : decode prog_9_method_8_code 43 = .ok (.aload_n 3, 1) := id_Unit_isReady_0 (43, .aload_n 3, 1) (List.mem_of_getElem? (i := 23) rfl)
def it_Unit_isReady_1 : List (Nat × ClassFile.Instr × Nat) := [(44, .getfield 88, 3), (47, .ifCond .eq (11), 3), (50, .aload_n 0, 1), (51, .getfield 37, 3), (54, .iload_n 2, 1), (55, .if_icmp .gt (7), 3), (58, .iconst 1, 1), (59, .goto (4), 3), (62, .iconst 0, 1), (63, .ireturn, 1)]
theorem id_Unit_isReady_1 : ∀ q ∈ it_Unit_isReady_1, decode prog_9_method_8_code q.1 = .ok q.2 := by decide +kernel
theorem d_Unit_isReady_44 : decode prog_9_method_8_code 44 = .ok (.getfield 88, 3) := id_Unit_isReady_1 (44, .getfield 88, 3) (List.mem_of_getElem? (i := 0) rfl)
theorem d_Unit_isReady_47 : decode prog_9_method_8_code 47 = .ok (.ifCond .eq (11), 3) := id_Unit_isReady_1 (47, .ifCond .eq (11), 3) (List.mem_of_getElem? (i := 1) rfl)
theorem d_Unit_isReady_50 : decode prog_9_method_8_code 50 = .ok (.aload_n 0, 1) := id_Unit_isReady_1 (50, .aload_n 0, 1) (List.mem_of_getElem? (i := 2) rfl)
theorem d_Unit_isReady_51 : decode prog_9_method_8_code 51 = .ok (.getfield 37, 3) := id_Unit_isReady_1 (51, .getfield 37, 3) (List.mem_of_getElem? (i := 3) rfl)
theorem d_Unit_isReady_54 : decode prog_9_method_8_code 54 = .ok (.iload_n 2, 1) := id_Unit_isReady_1 (54, .iload_n 2, 1) (List.mem_of_getElem? (i := 4) rfl)
theorem d_Unit_isReady_55 : decode prog_9_method_8_code 55 = .ok (.if_icmp .gt (7), 3) := id_Unit_isReady_1 (55, .if_icmp .gt (7), 3) (List.mem_of_getElem? (i := 5) rfl)
theorem d_Unit_isReady_58 : decode prog_9_method_8_code 58 = .ok (.iconst 1, 1) := id_Unit_isReady_1 (58, .iconst 1, 1) (List.mem_of_getElem? (i := 6) rfl)
theorem d_Unit_isReady_59 : decode prog_9_method_8_code 59 = .ok (.goto (4), 3) := id_Unit_isReady_1 (59, .goto (4), 3) (List.mem_of_getElem? (i := 7) rfl)
theorem d_Unit_isReady_62 : decode prog_9_method_8_code 62 = .ok (.iconst 0, 1) := id_Unit_isReady_1 (62, .iconst 0, 1) (List.mem_of_getElem? (i := 8) rfl)
theorem d_Unit_isReady_63 : decode prog_9_method_8_code 63 = .ok (.ireturn, 1) := id_Unit_isReady_1 (63, .ireturn, 1) (List.mem_of_getElem? (i := 9) rfl)
theorem wC_Unit_isReady : Cond.code ⟨"WarpMill$Unit", "isReady", "(LWarpMill$Warp;I)Z"⟩ prog_9_method_8_code 4 (some .boolean) ∈ lw_tb := mem_tb 828 (by decide +kernel) rfl
def b_Unit_isReady_58 (F : Nat)  (h : Hp) : Option (Int32 × Hp) := some ((1 : Int32), h)
set_option maxRecDepth 100000 in
set_option maxHeartbeats 4000000 in
theorem e_Unit_isReady_58 {G : Gl} {h0 : Hp} {F : Nat} {r : Int32} {h' : Hp}    {h : Hp} (hf : b_Unit_isReady_58 F  h = some (r, h')) : Go G mi_Unit_isReady h0 (pI r h') h 58 [] [] := by
  unfold b_Unit_isReady_58 at hf
  refine g_iconst 1 d_Unit_isReady_58 (by decide) ?_
  refine g_goto 63 d_Unit_isReady_59 (by decide) ?_
  exact Go.ret (some _) rOk_b1 rfl d_Unit_isReady_63 (pI_of hf)
def b_Unit_isReady_43 (F : Nat) (x0 : Nat) (x2 : Int32) (x3 : Nat) (h : Hp) : Option (Int32 × Hp) := gd (hK h x3 = 10) <| if (hI h 586 x3) = 0 then (b_Unit_isReady_58 F h) else (gd (hK h x0 = 7) <| if x2 < (hI h 391 x0) then (some ((0 : Int32), h)) else (b_Unit_isReady_58 F h))
set_option maxRecDepth 100000 in
set_option maxHeartbeats 4000000 in
theorem e_Unit_isReady_43 {G : Gl} {h0 : Hp} {F : Nat} {r : Int32} {h' : Hp}   {x0 : Nat} {x2 : Int32} {x3 : Nat} {h : Hp} (hf : b_Unit_isReady_43 F x0 x2 x3 h = some (r, h')) : Go G mi_Unit_isReady h0 (pI r h') h 43 [(0, .ref x0), (2, .int x2), (3, .ref x3)] [] := by
  unfold b_Unit_isReady_43 at hf
  refine g_aload_n d_Unit_isReady_43 rfl ?_
  obtain ⟨k_44, hf⟩ := gd_s hf
  refine fg_Word_usesShared lf_Unit_88 d_Unit_isReady_44 k_44 ?_
  refine g_if_eq 58 d_Unit_isReady_47 (by decide) (fun c_47 => ?_) (fun c_47 => ?_)
  · have hf := ifp hf c_47
    refine Go.locals [] rfl ?_
    have key := e_Unit_isReady_58 (G := G) (h0 := h0)  hf
    exact key
  · have hf := ifn hf c_47
    refine g_aload_n d_Unit_isReady_50 rfl ?_
    obtain ⟨k_51, hf⟩ := gd_s hf
    refine fg_Unit_sharedTick lf_Unit_37 d_Unit_isReady_51 k_51 ?_
    refine g_iload_n d_Unit_isReady_54 rfl ?_
    refine g_icmp_gt 62 d_Unit_isReady_55 (by decide) (fun c_55 => ?_) (fun c_55 => ?_)
    · have hf := ifp hf c_55
      refine g_iconst 0 d_Unit_isReady_62 (by decide) ?_
      exact Go.ret (some _) rOk_b0 rfl d_Unit_isReady_63 (pI_of hf)
    · have hf := ifn hf c_55
      refine Go.locals [] rfl ?_
      have key := e_Unit_isReady_58 (G := G) (h0 := h0)  hf
      exact key
def f_Unit_isReady (F : Nat) (x0 : Nat) (x1 : Option Nat) (x2 : Int32) (h : Hp) : Option (Int32 × Hp) := rq h x1 9 fun a_1 => if (hI h 518 a_1) = 0 then (some ((0 : Int32), h)) else (if (hI h 521 a_1) ≤ x2 then (pw (hR h 520 a_1) fun o_18 => nu o_18 (some ((1 : Int32), h)) fun a_23 => (gd (hK h a_23 = 10) <| if (hI h 584 a_23) = 0 then (b_Unit_isReady_43 F x0 x2 a_23 h) else (gd (hK h x0 = 7) <| if x2 < (hI h 390 x0) then (some ((0 : Int32), h)) else (b_Unit_isReady_43 F x0 x2 a_23 h)))) else (some ((0 : Int32), h)))
set_option maxRecDepth 100000 in
set_option maxHeartbeats 4000000 in
theorem e_Unit_isReady {G : Gl} {F : Nat} {r : Int32} {h' : Hp} {x0 : Nat} {x1 : Option Nat} {x2 : Int32} {h : Hp} (hf : f_Unit_isReady F x0 x1 x2 h = some (r, h')) : Ex G mi_Unit_isReady [.ref x0, va_rf x1, .int x2] h (pI r h') := by
  unfold f_Unit_isReady at hf
  refine Ex.of nmI (by decide) (by cases x1 <;> exact Nat.le_of_ble_eq_true rfl) ?_
  rw [show lv_args 0 [.ref x0, va_rf x1, .int x2] = [(0, .ref x0), (1, va_rf x1), (2, .int x2)] from by cases x1 <;> rfl]
  show Go G mi_Unit_isReady h _ h 0 [(0, .ref x0), (1, va_rf x1), (2, .int x2)] []
  refine g_aload_nq (r := x1) d_Unit_isReady_0 rfl ?_
  obtain ⟨a_1, rfl, k_1, hf⟩ := rq_s hf
  refine fg_Warp_group lf_Unit_72 d_Unit_isReady_1 k_1 ?_
  refine g_if_eq 15 d_Unit_isReady_4 (by decide) (fun c_4 => ?_) (fun c_4 => ?_)
  · have hf := ifp hf c_4
    refine g_iconst 0 d_Unit_isReady_15 (by decide) ?_
    exact Go.ret (some _) rOk_b0 rfl d_Unit_isReady_16 (pI_of hf)
  · have hf := ifn hf c_4
    refine g_aload_n d_Unit_isReady_7 rfl ?_
    refine fg_Warp_readyTick lf_Unit_75 d_Unit_isReady_8 k_1 ?_
    refine g_iload_n d_Unit_isReady_11 rfl ?_
    refine g_icmp_le 17 d_Unit_isReady_12 (by decide) (fun c_12 => ?_) (fun c_12 => ?_)
    · have hf := ifp hf c_12
      refine g_aload_n d_Unit_isReady_17 rfl ?_
      obtain ⟨o_18, e_18, hf⟩ := pw_s hf
      refine fg_Warp_word lf_Unit_78 d_Unit_isReady_18 k_1 ?_
      refine Go.vr e_18 ?_
      refine g_astore_nq (r := o_18) d_Unit_isReady_21 (by decide) ?_
      show Go _ _ _ _ _ _ [(0, _), (1, _), (2, _), (3, _)] _
      refine g_aload_nq (r := o_18) d_Unit_isReady_22 rfl ?_
      refine g_ifnonnull (r := o_18) 28 d_Unit_isReady_23 (by decide) (fun a_23 c_23 => ?_) (fun c_23 => ?_)
      · subst c_23
        have hf := nu_s hf
        refine g_aload_n d_Unit_isReady_28 rfl ?_
        obtain ⟨k_29, hf⟩ := gd_s hf
        refine fg_Word_divides lf_Unit_82 d_Unit_isReady_29 k_29 ?_
        refine g_if_eq 43 d_Unit_isReady_32 (by decide) (fun c_32 => ?_) (fun c_32 => ?_)
        · have hf := ifp hf c_32
          refine Go.locals [0, 2, 3] rfl ?_
          have key := e_Unit_isReady_43 (G := G) (h0 := h)  hf
          exact key
        · have hf := ifn hf c_32
          refine g_aload_n d_Unit_isReady_35 rfl ?_
          obtain ⟨k_36, hf⟩ := gd_s hf
          refine fg_Unit_dividerTick lf_Unit_34 d_Unit_isReady_36 k_36 ?_
          refine g_iload_n d_Unit_isReady_39 rfl ?_
          refine g_icmp_gt 62 d_Unit_isReady_40 (by decide) (fun c_40 => ?_) (fun c_40 => ?_)
          · have hf := ifp hf c_40
            refine g_iconst 0 d_Unit_isReady_62 (by decide) ?_
            exact Go.ret (some _) rOk_b0 rfl d_Unit_isReady_63 (pI_of hf)
          · have hf := ifn hf c_40
            refine Go.locals [0, 2, 3] rfl ?_
            have key := e_Unit_isReady_43 (G := G) (h0 := h)  hf
            exact key
      · subst c_23
        have hf := nu_n hf
        refine g_iconst 1 d_Unit_isReady_26 (by decide) ?_
        exact Go.ret (some _) rOk_b1 rfl d_Unit_isReady_27 (pI_of hf)
    · have hf := ifn hf c_12
      refine g_iconst 0 d_Unit_isReady_15 (by decide) ?_
      exact Go.ret (some _) rOk_b0 rfl d_Unit_isReady_16 (pI_of hf)
abbrev mi_Unit_choose : MI := (⟨"WarpMill$Unit", "choose", "(I)LWarpMill$Warp;"⟩, prog_9_method_7_code, 5, some (.object "WarpMill$Warp"), 1, 23)
def it_Unit_choose_0 : List (Nat × ClassFile.Instr × Nat) := [(0, .aload_n 0, 1), (1, .getfield 28, 3), (4, .istore_n 2, 1), (5, .iconst 0, 1), (6, .istore_n 3, 1), (7, .iload_n 3, 1), (8, .aload_n 0, 1), (9, .getfield 21, 3), (12, .if_icmp .ge (57), 3), (15, .iload_n 2, 1), (16, .iconst 1, 1), (17, .iadd, 1), (18, .aload_n 0, 1), (19, .getfield 21, 3), (22, .if_icmp .ge (9), 3), (25, .iload_n 2, 1), (26, .iconst 1, 1), (27, .iadd, 1), (28, .goto (4), 3), (31, .iconst 0, 1), (32, .istore_n 2, 1), (33, .aload_n 0, 1), (34, .iload_n 2, 1), (35, .invokevirtual 44, 3)]
theorem id_Unit_choose_0 : ∀ q ∈ it_Unit_choose_0, decode prog_9_method_7_code q.1 = .ok q.2 := by decide +kernel
theorem d_Unit_choose_0 : decode prog_9_method_7_code 0 = .ok (.aload_n 0, 1) := id_Unit_choose_0 (0, .aload_n 0, 1) (List.mem_of_getElem? (i := 0) rfl)
theorem d_Unit_choose_1 : decode prog_9_method_7_code 1 = .ok (.getfield 28, 3) := id_Unit_choose_0 (1, .getfield 28, 3) (List.mem_of_getElem? (i := 1) rfl)
theorem d_Unit_choose_4 : decode prog_9_method_7_code 4 = .ok (.istore_n 2, 1) := id_Unit_choose_0 (4, .istore_n 2, 1) (List.mem_of_getElem? (i := 2) rfl)
theorem d_Unit_choose_5 : decode prog_9_method_7_code 5 = .ok (.iconst 0, 1) := id_Unit_choose_0 (5, .iconst 0, 1) (List.mem_of_getElem? (i := 3) rfl)
theorem d_Unit_choose_6 : decode prog_9_method_7_code 6 = .ok (.istore_n 3, 1) := id_Unit_choose_0 (6, .istore_n 3, 1) (List.mem_of_getElem? (i := 4) rfl)
theorem d_Unit_choose_7 : decode prog_9_method_7_code 7 = .ok (.iload_n 3, 1) := id_Unit_choose_0 (7, .iload_n 3, 1) (List.mem_of_getElem? (i := 5) rfl)
theorem d_Unit_choose_8 : decode prog_9_method_7_code 8 = .ok (.aload_n 0, 1) := id_Unit_choose_0 (8, .aload_n 0, 1) (List.mem_of_getElem? (i := 6) rfl)
theorem d_Unit_choose_9 : decode prog_9_method_7_code 9 = .ok (.getfield 21, 3) := id_Unit_choose_0 (9, .getfield 21, 3) (List.mem_of_getElem? (i := 7) rfl)
theorem d_Unit_choose_12 : decode prog_9_method_7_code 12 = .ok (.if_icmp .ge (57), 3) := id_Unit_choose_0 (12, .if_icmp .ge (57), 3) (List.mem_of_getElem? (i := 8) rfl)
theorem d_Unit_choose_15 : decode prog_9_method_7_code 15 = .ok (.iload_n 2, 1) := id_Unit_choose_0 (15, .iload_n 2, 1) (List.mem_of_getElem? (i := 9) rfl)
theorem d_Unit_choose_16 : decode prog_9_method_7_code 16 = .ok (.iconst 1, 1) := id_Unit_choose_0 (16, .iconst 1, 1) (List.mem_of_getElem? (i := 10) rfl)
theorem d_Unit_choose_17 : decode prog_9_method_7_code 17 = .ok (.iadd, 1) := id_Unit_choose_0 (17, .iadd, 1) (List.mem_of_getElem? (i := 11) rfl)
theorem d_Unit_choose_18 : decode prog_9_method_7_code 18 = .ok (.aload_n 0, 1) := id_Unit_choose_0 (18, .aload_n 0, 1) (List.mem_of_getElem? (i := 12) rfl)
theorem d_Unit_choose_19 : decode prog_9_method_7_code 19 = .ok (.getfield 21, 3) := id_Unit_choose_0 (19, .getfield 21, 3) (List.mem_of_getElem? (i := 13) rfl)
theorem d_Unit_choose_22 : decode prog_9_method_7_code 22 = .ok (.if_icmp .ge (9), 3) := id_Unit_choose_0 (22, .if_icmp .ge (9), 3) (List.mem_of_getElem? (i := 14) rfl)
theorem d_Unit_choose_25 : decode prog_9_method_7_code 25 = .ok (.iload_n 2, 1) := id_Unit_choose_0 (25, .iload_n 2, 1) (List.mem_of_getElem? (i := 15) rfl)
theorem d_Unit_choose_26 : decode prog_9_method_7_code 26 = .ok (.iconst 1, 1) := id_Unit_choose_0 (26, .iconst 1, 1) (List.mem_of_getElem? (i := 16) rfl)
theorem d_Unit_choose_27 : decode prog_9_method_7_code 27 = .ok (.iadd, 1) := id_Unit_choose_0 (27, .iadd, 1) (List.mem_of_getElem? (i := 17) rfl)
theorem d_Unit_choose_28 : decode prog_9_method_7_code 28 = .ok (.goto (4), 3) := id_Unit_choose_0 (28, .goto (4), 3) (List.mem_of_getElem? (i := 18) rfl)
theorem d_Unit_choose_31 : decode prog_9_method_7_code 31 = .ok (.iconst 0, 1) := id_Unit_choose_0 (31, .iconst 0, 1) (List.mem_of_getElem? (i := 19) rfl)
theorem d_Unit_choose_32 : decode prog_9_method_7_code 32 = .ok (.istore_n 2, 1) := id_Unit_choose_0 (32, .istore_n 2, 1) (List.mem_of_getElem? (i := 20) rfl)
theorem d_Unit_choose_33 : decode prog_9_method_7_code 33 = .ok (.aload_n 0, 1) := id_Unit_choose_0 (33, .aload_n 0, 1) (List.mem_of_getElem? (i := 21) rfl)
theorem d_Unit_choose_34 : decode prog_9_method_7_code 34 = .ok (.iload_n 2, 1) := id_Unit_choose_0 (34, .iload_n 2, 1) (List.mem_of_getElem? (i := 22) rfl)
theorem d_Unit_choose_35 : decode prog_9_method_7_code 35 = .ok (.invokevirtual 44, 3) := id_Unit_choose_0 (35, .invokevirtual 44, 3) (List.mem_of_getElem? (i := 23) rfl)
def it_Unit_choose_1 : List (Nat × ClassFile.Instr × Nat) := [(38, .astore 4, 2), (40, .aload 4, 2), (42, .ifnull (21), 3), (45, .aload_n 0, 1), (46, .aload 4, 2), (48, .iload_n 1, 1), (49, .invokevirtual 68, 3), (52, .ifCond .eq (11), 3), (55, .aload_n 0, 1), (56, .iload_n 2, 1), (57, .putfield 28, 3), (60, .aload 4, 2), (62, .areturn, 1), (63, .iinc 3 (1), 3), (66, .goto (-59), 3), (69, .aconst_null, 1), (70, .areturn, 1)]
theorem id_Unit_choose_1 : ∀ q ∈ it_Unit_choose_1, decode prog_9_method_7_code q.1 = .ok q.2 := by decide +kernel
theorem d_Unit_choose_38 : decode prog_9_method_7_code 38 = .ok (.astore 4, 2) := id_Unit_choose_1 (38, .astore 4, 2) (List.mem_of_getElem? (i := 0) rfl)
theorem d_Unit_choose_40 : decode prog_9_method_7_code 40 = .ok (.aload 4, 2) := id_Unit_choose_1 (40, .aload 4, 2) (List.mem_of_getElem? (i := 1) rfl)
theorem d_Unit_choose_42 : decode prog_9_method_7_code 42 = .ok (.ifnull (21), 3) := id_Unit_choose_1 (42, .ifnull (21), 3) (List.mem_of_getElem? (i := 2) rfl)
theorem d_Unit_choose_45 : decode prog_9_method_7_code 45 = .ok (.aload_n 0, 1) := id_Unit_choose_1 (45, .aload_n 0, 1) (List.mem_of_getElem? (i := 3) rfl)
theorem d_Unit_choose_46 : decode prog_9_method_7_code 46 = .ok (.aload 4, 2) := id_Unit_choose_1 (46, .aload 4, 2) (List.mem_of_getElem? (i := 4) rfl)
theorem d_Unit_choose_48 : decode prog_9_method_7_code 48 = .ok (.iload_n 1, 1) := id_Unit_choose_1 (48, .iload_n 1, 1) (List.mem_of_getElem? (i := 5) rfl)
theorem d_Unit_choose_49 : decode prog_9_method_7_code 49 = .ok (.invokevirtual 68, 3) := id_Unit_choose_1 (49, .invokevirtual 68, 3) (List.mem_of_getElem? (i := 6) rfl)
theorem d_Unit_choose_52 : decode prog_9_method_7_code 52 = .ok (.ifCond .eq (11), 3) := id_Unit_choose_1 (52, .ifCond .eq (11), 3) (List.mem_of_getElem? (i := 7) rfl)
theorem d_Unit_choose_55 : decode prog_9_method_7_code 55 = .ok (.aload_n 0, 1) := id_Unit_choose_1 (55, .aload_n 0, 1) (List.mem_of_getElem? (i := 8) rfl)
theorem d_Unit_choose_56 : decode prog_9_method_7_code 56 = .ok (.iload_n 2, 1) := id_Unit_choose_1 (56, .iload_n 2, 1) (List.mem_of_getElem? (i := 9) rfl)
theorem d_Unit_choose_57 : decode prog_9_method_7_code 57 = .ok (.putfield 28, 3) := id_Unit_choose_1 (57, .putfield 28, 3) (List.mem_of_getElem? (i := 10) rfl)
theorem d_Unit_choose_60 : decode prog_9_method_7_code 60 = .ok (.aload 4, 2) := id_Unit_choose_1 (60, .aload 4, 2) (List.mem_of_getElem? (i := 11) rfl)
theorem d_Unit_choose_62 : decode prog_9_method_7_code 62 = .ok (.areturn, 1) := id_Unit_choose_1 (62, .areturn, 1) (List.mem_of_getElem? (i := 12) rfl)
theorem d_Unit_choose_63 : decode prog_9_method_7_code 63 = .ok (.iinc 3 (1), 3) := id_Unit_choose_1 (63, .iinc 3 (1), 3) (List.mem_of_getElem? (i := 13) rfl)
theorem d_Unit_choose_66 : decode prog_9_method_7_code 66 = .ok (.goto (-59), 3) := id_Unit_choose_1 (66, .goto (-59), 3) (List.mem_of_getElem? (i := 14) rfl)
theorem d_Unit_choose_69 : decode prog_9_method_7_code 69 = .ok (.aconst_null, 1) := id_Unit_choose_1 (69, .aconst_null, 1) (List.mem_of_getElem? (i := 15) rfl)
theorem d_Unit_choose_70 : decode prog_9_method_7_code 70 = .ok (.areturn, 1) := id_Unit_choose_1 (70, .areturn, 1) (List.mem_of_getElem? (i := 16) rfl)
theorem wC_Unit_choose : Cond.code ⟨"WarpMill$Unit", "choose", "(I)LWarpMill$Warp;"⟩ prog_9_method_7_code 5 (some (.object "WarpMill$Warp")) ∈ lw_tb := mem_tb 824 (by decide +kernel) rfl
theorem cw_Unit_choose_Unit_busy : cW mi_Unit_choose mi_Unit_busy 1 := ⟨wC_Unit_busy, wi_Unit, ⟨by decide, by decide, by decide +kernel⟩, by decide, by decide⟩
theorem cw_Unit_choose_Unit_isReady : cW mi_Unit_choose mi_Unit_isReady 2 := ⟨wC_Unit_isReady, wi_Unit, ⟨by decide, by decide, by decide +kernel⟩, by decide, by decide⟩
def b_Unit_choose_32 (F : Nat) (k7 : Nat → Int32 → Int32 → Int32 → Hp → Option (Option Nat × Hp)) (x0 : Nat) (x1 : Int32) (x3 : Int32) (s0 : Int32) (h : Hp) : Option (Option Nat × Hp) := gd (hK h x0 = 7) <| cl (f_Unit_busy F x0 s0 h) fun o_35_2 h_35_2 => nu o_35_2 (k7 x0 x1 s0 (x3 + 1) h_35_2) fun a_42 => (gd (hK h_35_2 x0 = 7) <| cl (f_Unit_isReady F x0 (some a_42) x1 h_35_2) fun v_49_2 h_49_2 => if v_49_2 = 0 then (k7 x0 x1 s0 (x3 + 1) h_49_2) else (gd (hK h_49_2 x0 = 7) <| pw (sI h_49_2 388 x0 s0) fun h_57_2 => some ((some a_42), h_57_2)))
set_option maxRecDepth 100000 in
set_option maxHeartbeats 4000000 in
theorem e_Unit_choose_32 {G : Gl} (hw : gF G) {h0 : Hp} {F : Nat} {r : Option Nat} {h' : Hp} {k7 : Nat → Int32 → Int32 → Int32 → Hp → Option (Option Nat × Hp)} (hk7 : ∀ (y0 : Nat) (y1 : Int32) (y2 : Int32) (y3 : Int32) (hh : Hp), k7 y0 y1 y2 y3 hh = some (r, h') → Go G mi_Unit_choose h0 (pR r h') hh 7 [(0, .ref y0), (1, .int y1), (2, .int y2), (3, .int y3)] []) {x0 : Nat} {x1 : Int32} {x3 : Int32} {s0 : Int32} {h : Hp} (hf : b_Unit_choose_32 F k7 x0 x1 x3 s0 h = some (r, h')) : Go G mi_Unit_choose h0 (pR r h') h 32 [(0, .ref x0), (1, .int x1), (3, .int x3)] [.int s0] := by
  unfold b_Unit_choose_32 at hf
  refine g_istore_n d_Unit_choose_32 (by decide) ?_
  show Go _ _ _ _ _ _ [(0, _), (1, _), (2, _), (3, _)] _
  refine g_aload_n d_Unit_choose_33 rfl ?_
  refine g_iload_n d_Unit_choose_34 rfl ?_
  obtain ⟨k_35, hf⟩ := gd_s hf
  obtain ⟨o_35_2, h_35_2, e_35_2, hf⟩ := cl_s hf
  refine g_callV (mz := mi_Unit_busy) (e_Unit_busy e_35_2) cw_Unit_choose_Unit_busy lm_Unit_44 wI_Unit_busy wV_Unit_busy (ci := 6) k_35 (by decide) rfl rfl d_Unit_choose_35 rfl rfl (by first | exact Nat.le_of_ble_eq_true rfl | simp [cat_rf, Value.category]) (fun r1 h1 hp hro => ?_)
  obtain ⟨rfl, rfl⟩ := hp
  dsimp only [Option.toList_some, Option.toList_none, List.cons_append, List.nil_append]
  refine g_astoreq (r := o_35_2) d_Unit_choose_38 (by decide) ?_
  show Go _ _ _ _ _ _ [(0, _), (1, _), (2, _), (3, _), (4, _)] _
  refine g_aloadq (r := o_35_2) d_Unit_choose_40 rfl ?_
  refine g_ifnull (r := o_35_2) 63 d_Unit_choose_42 (by decide) (fun c_42 => ?_) (fun a_42 c_42 => ?_)
  · subst c_42
    have hf := nu_n hf
    refine g_iinc (_ + 1) d_Unit_choose_63 rfl (by rfl) (by decide) ?_
    show Go _ _ _ _ _ _ [(0, _), (1, _), (2, _), (3, _), (4, _)] _
    refine g_goto 7 d_Unit_choose_66 (by decide) ?_
    refine Go.locals [0, 1, 2, 3] rfl ?_
    exact hk7 _ _ _ _ _ hf
  · subst c_42
    have hf := nu_s hf
    refine g_aload_n d_Unit_choose_45 rfl ?_
    refine g_aload d_Unit_choose_46 rfl ?_
    refine g_iload_n d_Unit_choose_48 rfl ?_
    obtain ⟨k_49, hf⟩ := gd_s hf
    obtain ⟨v_49_2, h_49_2, e_49_2, hf⟩ := cl_s hf
    refine g_callV (mz := mi_Unit_isReady) (e_Unit_isReady e_49_2) cw_Unit_choose_Unit_isReady lm_Unit_68 wI_Unit_isReady wV_Unit_isReady (ci := 6) k_49 (by decide) rfl rfl d_Unit_choose_49 rfl rfl (by first | exact Nat.le_of_ble_eq_true rfl | simp [cat_rf, Value.category]) (fun r1 h1 hp hro => ?_)
    obtain ⟨rfl, rfl⟩ := hp
    dsimp only [Option.toList_some, Option.toList_none, List.cons_append, List.nil_append]
    refine g_if_eq 63 d_Unit_choose_52 (by decide) (fun c_52 => ?_) (fun c_52 => ?_)
    · have hf := ifp hf c_52
      refine g_iinc (_ + 1) d_Unit_choose_63 rfl (by rfl) (by decide) ?_
      show Go _ _ _ _ _ _ [(0, _), (1, _), (2, _), (3, _), (4, _)] _
      refine g_goto 7 d_Unit_choose_66 (by decide) ?_
      refine Go.locals [0, 1, 2, 3] rfl ?_
      exact hk7 _ _ _ _ _ hf
    · have hf := ifn hf c_52
      refine g_aload_n d_Unit_choose_55 rfl ?_
      refine g_iload_n d_Unit_choose_56 rfl ?_
      obtain ⟨k_57, hf⟩ := gd_s hf
      refine fp_Unit_last hw lf_Unit_28 d_Unit_choose_57 k_57 ?_
      have hf := pw_b hf
      refine g_aload d_Unit_choose_60 rfl ?_
      exact Go.ret (some (.ref _)) (rOk_r _) rfl d_Unit_choose_62 (pR_of hf)
def b_Unit_choose_7 (F : Nat) : Nat → Nat → Int32 → Int32 → Int32 → Hp → Option (Option Nat × Hp)
  | 0 => fun _ _ _ _ _ => none
  | n + 1 => fun x0 x1 x2 x3 h => gd (hK h x0 = 7) <| if (hI h 386 x0) ≤ x3 then (some (none, h)) else (if (hI h 386 x0) ≤ (x2 + (1 : Int32)) then (b_Unit_choose_32 F (b_Unit_choose_7 F n) x0 x1 x3 (0 : Int32) h) else (b_Unit_choose_32 F (b_Unit_choose_7 F n) x0 x1 x3 (x2 + (1 : Int32)) h))
set_option maxRecDepth 100000 in
set_option maxHeartbeats 4000000 in
theorem e_Unit_choose_7 {G : Gl} (hw : gF G) {h0 : Hp} {F : Nat} {r : Option Nat} {h' : Hp}   : ∀ (n : Nat) (x0 : Nat) (x1 : Int32) (x2 : Int32) (x3 : Int32) (h : Hp), b_Unit_choose_7 F n x0 x1 x2 x3 h = some (r, h') → Go G mi_Unit_choose h0 (pR r h') h 7 [(0, .ref x0), (1, .int x1), (2, .int x2), (3, .int x3)] [] := by
  intro n
  induction n with
  | zero =>
    intro _ _ _ _ _ hf
    exact nm_s hf
  | succ n ih =>
    intro x0 x1 x2 x3 h hf
    unfold b_Unit_choose_7 at hf
    refine g_iload_n d_Unit_choose_7 rfl ?_
    refine g_aload_n d_Unit_choose_8 rfl ?_
    obtain ⟨k_9, hf⟩ := gd_s hf
    refine fg_Unit_slots lf_Unit_21 d_Unit_choose_9 k_9 ?_
    refine g_icmp_ge 69 d_Unit_choose_12 (by decide) (fun c_12 => ?_) (fun c_12 => ?_)
    · have hf := ifp hf c_12
      refine g_null d_Unit_choose_69 ?_
      exact Go.ret (some .null) rOk_n rfl d_Unit_choose_70 (pR_of hf)
    · have hf := ifn hf c_12
      refine g_iload_n d_Unit_choose_15 rfl ?_
      refine g_iconst 1 d_Unit_choose_16 (by decide) ?_
      refine g_iadd d_Unit_choose_17 ?_
      refine g_aload_n d_Unit_choose_18 rfl ?_
      refine fg_Unit_slots lf_Unit_21 d_Unit_choose_19 k_9 ?_
      refine g_icmp_ge 31 d_Unit_choose_22 (by decide) (fun c_22 => ?_) (fun c_22 => ?_)
      · have hf := ifp hf c_22
        refine g_iconst 0 d_Unit_choose_31 (by decide) ?_
        refine Go.locals [0, 1, 3] rfl ?_
        have key := e_Unit_choose_32 hw (G := G) (h0 := h0) (fun _ _ _ _ _ q => ih _ _ _ _ _ q) hf
        exact key
      · have hf := ifn hf c_22
        refine g_iload_n d_Unit_choose_25 rfl ?_
        refine g_iconst 1 d_Unit_choose_26 (by decide) ?_
        refine g_iadd d_Unit_choose_27 ?_
        refine g_goto 32 d_Unit_choose_28 (by decide) ?_
        refine Go.locals [0, 1, 3] rfl ?_
        have key := e_Unit_choose_32 hw (G := G) (h0 := h0) (fun _ _ _ _ _ q => ih _ _ _ _ _ q) hf
        exact key
def f_Unit_choose (F : Nat) (x0 : Nat) (x1 : Int32) (h : Hp) : Option (Option Nat × Hp) := gd (hK h x0 = 7) <| b_Unit_choose_7 F F x0 x1 (hI h 388 x0) (0 : Int32) h
set_option maxRecDepth 100000 in
set_option maxHeartbeats 4000000 in
theorem e_Unit_choose {G : Gl} (hw : gF G) {F : Nat} {r : Option Nat} {h' : Hp} {x0 : Nat} {x1 : Int32} {h : Hp} (hf : f_Unit_choose F x0 x1 h = some (r, h')) : Ex G mi_Unit_choose [.ref x0, .int x1] h (pR r h') := by
  unfold f_Unit_choose at hf
  refine Ex.of nmR (by decide) (Nat.le_of_ble_eq_true rfl) ?_
  show Go G mi_Unit_choose h _ h 0 [(0, .ref x0), (1, .int x1)] []
  refine g_aload_n d_Unit_choose_0 rfl ?_
  obtain ⟨k_1, hf⟩ := gd_s hf
  refine fg_Unit_last lf_Unit_28 d_Unit_choose_1 k_1 ?_
  refine g_istore_n d_Unit_choose_4 (by decide) ?_
  show Go _ _ _ _ _ _ [(0, _), (1, _), (2, _)] _
  refine g_iconst 0 d_Unit_choose_5 (by decide) ?_
  refine g_istore_n d_Unit_choose_6 (by decide) ?_
  show Go _ _ _ _ _ _ [(0, _), (1, _), (2, _), (3, _)] _
  have key := e_Unit_choose_7 hw (G := G) (h0 := h)  F _ _ _ _ _ hf
  exact key
abbrev mi_WM_leastOf : MI := (⟨"WarpMill", "leastOf", "(I)I"⟩, prog_1_method_25_code, 2, some .int, 1, 21)
def it_WM_leastOf_0 : List (Nat × ClassFile.Instr × Nat) := [(0, .iconst 0, 1), (1, .istore_n 1, 1), (2, .iload_n 1, 1), (3, .bipush (32), 2), (5, .if_icmp .ge (19), 3), (8, .iload_n 0, 1), (9, .iload_n 1, 1), (10, .invokestatic 347, 3), (13, .ifCond .eq (5), 3), (16, .iload_n 1, 1), (17, .ireturn, 1), (18, .iinc 1 (1), 3), (21, .goto (-19), 3), (24, .iconst 0, 1), (25, .ireturn, 1)]
theorem id_WM_leastOf_0 : ∀ q ∈ it_WM_leastOf_0, decode prog_1_method_25_code q.1 = .ok q.2 := by decide +kernel
theorem d_WM_leastOf_0 : decode prog_1_method_25_code 0 = .ok (.iconst 0, 1) := id_WM_leastOf_0 (0, .iconst 0, 1) (List.mem_of_getElem? (i := 0) rfl)
theorem d_WM_leastOf_1 : decode prog_1_method_25_code 1 = .ok (.istore_n 1, 1) := id_WM_leastOf_0 (1, .istore_n 1, 1) (List.mem_of_getElem? (i := 1) rfl)
theorem d_WM_leastOf_2 : decode prog_1_method_25_code 2 = .ok (.iload_n 1, 1) := id_WM_leastOf_0 (2, .iload_n 1, 1) (List.mem_of_getElem? (i := 2) rfl)
theorem d_WM_leastOf_3 : decode prog_1_method_25_code 3 = .ok (.bipush (32), 2) := id_WM_leastOf_0 (3, .bipush (32), 2) (List.mem_of_getElem? (i := 3) rfl)
theorem d_WM_leastOf_5 : decode prog_1_method_25_code 5 = .ok (.if_icmp .ge (19), 3) := id_WM_leastOf_0 (5, .if_icmp .ge (19), 3) (List.mem_of_getElem? (i := 4) rfl)
theorem d_WM_leastOf_8 : decode prog_1_method_25_code 8 = .ok (.iload_n 0, 1) := id_WM_leastOf_0 (8, .iload_n 0, 1) (List.mem_of_getElem? (i := 5) rfl)
theorem d_WM_leastOf_9 : decode prog_1_method_25_code 9 = .ok (.iload_n 1, 1) := id_WM_leastOf_0 (9, .iload_n 1, 1) (List.mem_of_getElem? (i := 6) rfl)
theorem d_WM_leastOf_10 : decode prog_1_method_25_code 10 = .ok (.invokestatic 347, 3) := id_WM_leastOf_0 (10, .invokestatic 347, 3) (List.mem_of_getElem? (i := 7) rfl)
theorem d_WM_leastOf_13 : decode prog_1_method_25_code 13 = .ok (.ifCond .eq (5), 3) := id_WM_leastOf_0 (13, .ifCond .eq (5), 3) (List.mem_of_getElem? (i := 8) rfl)
theorem d_WM_leastOf_16 : decode prog_1_method_25_code 16 = .ok (.iload_n 1, 1) := id_WM_leastOf_0 (16, .iload_n 1, 1) (List.mem_of_getElem? (i := 9) rfl)
theorem d_WM_leastOf_17 : decode prog_1_method_25_code 17 = .ok (.ireturn, 1) := id_WM_leastOf_0 (17, .ireturn, 1) (List.mem_of_getElem? (i := 10) rfl)
theorem d_WM_leastOf_18 : decode prog_1_method_25_code 18 = .ok (.iinc 1 (1), 3) := id_WM_leastOf_0 (18, .iinc 1 (1), 3) (List.mem_of_getElem? (i := 11) rfl)
theorem d_WM_leastOf_21 : decode prog_1_method_25_code 21 = .ok (.goto (-19), 3) := id_WM_leastOf_0 (21, .goto (-19), 3) (List.mem_of_getElem? (i := 12) rfl)
theorem d_WM_leastOf_24 : decode prog_1_method_25_code 24 = .ok (.iconst 0, 1) := id_WM_leastOf_0 (24, .iconst 0, 1) (List.mem_of_getElem? (i := 13) rfl)
theorem d_WM_leastOf_25 : decode prog_1_method_25_code 25 = .ok (.ireturn, 1) := id_WM_leastOf_0 (25, .ireturn, 1) (List.mem_of_getElem? (i := 14) rfl)
theorem wC_WM_leastOf : Cond.code ⟨"WarpMill", "leastOf", "(I)I"⟩ prog_1_method_25_code 2 (some .int) ∈ lw_tb := mem_tb 835 (by decide +kernel) rfl
theorem cw_WM_leastOf_WM_in : cW mi_WM_leastOf mi_WM_in 2 := ⟨wC_WM_in, wi_WM, ⟨by decide, by decide, by decide +kernel⟩, by decide, by decide⟩
def b_WM_leastOf_2 (F : Nat) : Nat → Int32 → Int32 → Hp → Option (Int32 × Hp)
  | 0 => fun _ _ _ => none
  | n + 1 => fun x0 x1 h => if (32 : Int32) ≤ x1 then (some ((0 : Int32), h)) else (cl (f_WM_in F x0 x1 h) fun v_10 h_10 => if v_10 = 0 then (b_WM_leastOf_2 F n x0 (x1 + 1) h_10) else (some (x1, h_10)))
set_option maxRecDepth 100000 in
set_option maxHeartbeats 4000000 in
theorem e_WM_leastOf_2 {G : Gl} {h0 : Hp} {F : Nat} {r : Int32} {h' : Hp}   : ∀ (n : Nat) (x0 : Int32) (x1 : Int32) (h : Hp), b_WM_leastOf_2 F n x0 x1 h = some (r, h') → Go G mi_WM_leastOf h0 (pI r h') h 2 [(0, .int x0), (1, .int x1)] [] := by
  intro n
  induction n with
  | zero =>
    intro _ _ _ hf
    exact nm_s hf
  | succ n ih =>
    intro x0 x1 h hf
    unfold b_WM_leastOf_2 at hf
    refine g_iload_n d_WM_leastOf_2 rfl ?_
    refine g_bipush (32) d_WM_leastOf_3 (by decide) ?_
    refine g_icmp_ge 24 d_WM_leastOf_5 (by decide) (fun c_5 => ?_) (fun c_5 => ?_)
    · have hf := ifp hf c_5
      refine g_iconst 0 d_WM_leastOf_24 (by decide) ?_
      exact Go.ret (some _) (rOk_i _) rfl d_WM_leastOf_25 (pI_of hf)
    · have hf := ifn hf c_5
      refine g_iload_n d_WM_leastOf_8 rfl ?_
      refine g_iload_n d_WM_leastOf_9 rfl ?_
      obtain ⟨v_10, h_10, e_10, hf⟩ := cl_s hf
      refine g_callS (mz := mi_WM_in) (e_WM_in e_10) cw_WM_leastOf_WM_in lm_WM_347 wS_WM_in d_WM_leastOf_10 rfl rfl (by first | exact Nat.le_of_ble_eq_true rfl | simp [cat_rf, Value.category]) (fun r1 h1 hp hro => ?_)
      obtain ⟨rfl, rfl⟩ := hp
      dsimp only [Option.toList_some, Option.toList_none, List.cons_append, List.nil_append]
      refine g_if_eq 18 d_WM_leastOf_13 (by decide) (fun c_13 => ?_) (fun c_13 => ?_)
      · have hf := ifp hf c_13
        refine g_iinc (_ + 1) d_WM_leastOf_18 rfl (by rfl) (by decide) ?_
        show Go _ _ _ _ _ _ [(0, _), (1, _)] _
        refine g_goto 2 d_WM_leastOf_21 (by decide) ?_
        exact ih _ _ _ hf
      · have hf := ifn hf c_13
        refine g_iload_n d_WM_leastOf_16 rfl ?_
        exact Go.ret (some _) (rOk_i _) rfl d_WM_leastOf_17 (pI_of hf)
def f_WM_leastOf (F : Nat) (x0 : Int32) (h : Hp) : Option (Int32 × Hp) := b_WM_leastOf_2 F F x0 (0 : Int32) h
set_option maxRecDepth 100000 in
set_option maxHeartbeats 4000000 in
theorem e_WM_leastOf {G : Gl} {F : Nat} {r : Int32} {h' : Hp} {x0 : Int32} {h : Hp} (hf : f_WM_leastOf F x0 h = some (r, h')) : Ex G mi_WM_leastOf [.int x0] h (pI r h') := by
  unfold f_WM_leastOf at hf
  refine Ex.of nmI (by decide) (Nat.le_of_ble_eq_true rfl) ?_
  show Go G mi_WM_leastOf h _ h 0 [(0, .int x0)] []
  refine g_iconst 0 d_WM_leastOf_0 (by decide) ?_
  refine g_istore_n d_WM_leastOf_1 (by decide) ?_
  show Go _ _ _ _ _ _ [(0, _), (1, _)] _
  have key := e_WM_leastOf_2 (G := G) (h0 := h)  F _ _ _ hf
  exact key
abbrev mi_Tally_trap : MI := (⟨"WarpMill$Tally", "trap", "(ILWarpMill$Warp;I)V"⟩, prog_8_method_5_code, 4, none, 0, 0)
def it_Tally_trap_0 : List (Nat × ClassFile.Instr × Nat) := [(0, .aload_n 0, 1), (1, .iload_n 1, 1), (2, .putfield 39, 3), (5, .aload_n 0, 1), (6, .aload_n 2, 1), (7, .getfield 57, 3), (10, .getfield 63, 3), (13, .putfield 42, 3), (16, .aload_n 0, 1), (17, .aload_n 2, 1), (18, .getfield 68, 3), (21, .aload_n 2, 1), (22, .getfield 69, 3), (25, .imul, 1), (26, .iload_n 3, 1), (27, .iadd, 1), (28, .putfield 45, 3), (31, .aload_n 0, 1), (32, .aload_n 2, 1), (33, .getfield 72, 3), (36, .putfield 48, 3), (39, .return_, 1)]
theorem id_Tally_trap_0 : ∀ q ∈ it_Tally_trap_0, decode prog_8_method_5_code q.1 = .ok q.2 := by decide +kernel
theorem d_Tally_trap_0 : decode prog_8_method_5_code 0 = .ok (.aload_n 0, 1) := id_Tally_trap_0 (0, .aload_n 0, 1) (List.mem_of_getElem? (i := 0) rfl)
theorem d_Tally_trap_1 : decode prog_8_method_5_code 1 = .ok (.iload_n 1, 1) := id_Tally_trap_0 (1, .iload_n 1, 1) (List.mem_of_getElem? (i := 1) rfl)
theorem d_Tally_trap_2 : decode prog_8_method_5_code 2 = .ok (.putfield 39, 3) := id_Tally_trap_0 (2, .putfield 39, 3) (List.mem_of_getElem? (i := 2) rfl)
theorem d_Tally_trap_5 : decode prog_8_method_5_code 5 = .ok (.aload_n 0, 1) := id_Tally_trap_0 (5, .aload_n 0, 1) (List.mem_of_getElem? (i := 3) rfl)
theorem d_Tally_trap_6 : decode prog_8_method_5_code 6 = .ok (.aload_n 2, 1) := id_Tally_trap_0 (6, .aload_n 2, 1) (List.mem_of_getElem? (i := 4) rfl)
theorem d_Tally_trap_7 : decode prog_8_method_5_code 7 = .ok (.getfield 57, 3) := id_Tally_trap_0 (7, .getfield 57, 3) (List.mem_of_getElem? (i := 5) rfl)
theorem d_Tally_trap_10 : decode prog_8_method_5_code 10 = .ok (.getfield 63, 3) := id_Tally_trap_0 (10, .getfield 63, 3) (List.mem_of_getElem? (i := 6) rfl)
theorem d_Tally_trap_13 : decode prog_8_method_5_code 13 = .ok (.putfield 42, 3) := id_Tally_trap_0 (13, .putfield 42, 3) (List.mem_of_getElem? (i := 7) rfl)
theorem d_Tally_trap_16 : decode prog_8_method_5_code 16 = .ok (.aload_n 0, 1) := id_Tally_trap_0 (16, .aload_n 0, 1) (List.mem_of_getElem? (i := 8) rfl)
theorem d_Tally_trap_17 : decode prog_8_method_5_code 17 = .ok (.aload_n 2, 1) := id_Tally_trap_0 (17, .aload_n 2, 1) (List.mem_of_getElem? (i := 9) rfl)
theorem d_Tally_trap_18 : decode prog_8_method_5_code 18 = .ok (.getfield 68, 3) := id_Tally_trap_0 (18, .getfield 68, 3) (List.mem_of_getElem? (i := 10) rfl)
theorem d_Tally_trap_21 : decode prog_8_method_5_code 21 = .ok (.aload_n 2, 1) := id_Tally_trap_0 (21, .aload_n 2, 1) (List.mem_of_getElem? (i := 11) rfl)
theorem d_Tally_trap_22 : decode prog_8_method_5_code 22 = .ok (.getfield 69, 3) := id_Tally_trap_0 (22, .getfield 69, 3) (List.mem_of_getElem? (i := 12) rfl)
theorem d_Tally_trap_25 : decode prog_8_method_5_code 25 = .ok (.imul, 1) := id_Tally_trap_0 (25, .imul, 1) (List.mem_of_getElem? (i := 13) rfl)
theorem d_Tally_trap_26 : decode prog_8_method_5_code 26 = .ok (.iload_n 3, 1) := id_Tally_trap_0 (26, .iload_n 3, 1) (List.mem_of_getElem? (i := 14) rfl)
theorem d_Tally_trap_27 : decode prog_8_method_5_code 27 = .ok (.iadd, 1) := id_Tally_trap_0 (27, .iadd, 1) (List.mem_of_getElem? (i := 15) rfl)
theorem d_Tally_trap_28 : decode prog_8_method_5_code 28 = .ok (.putfield 45, 3) := id_Tally_trap_0 (28, .putfield 45, 3) (List.mem_of_getElem? (i := 16) rfl)
theorem d_Tally_trap_31 : decode prog_8_method_5_code 31 = .ok (.aload_n 0, 1) := id_Tally_trap_0 (31, .aload_n 0, 1) (List.mem_of_getElem? (i := 17) rfl)
theorem d_Tally_trap_32 : decode prog_8_method_5_code 32 = .ok (.aload_n 2, 1) := id_Tally_trap_0 (32, .aload_n 2, 1) (List.mem_of_getElem? (i := 18) rfl)
theorem d_Tally_trap_33 : decode prog_8_method_5_code 33 = .ok (.getfield 72, 3) := id_Tally_trap_0 (33, .getfield 72, 3) (List.mem_of_getElem? (i := 19) rfl)
theorem d_Tally_trap_36 : decode prog_8_method_5_code 36 = .ok (.putfield 48, 3) := id_Tally_trap_0 (36, .putfield 48, 3) (List.mem_of_getElem? (i := 20) rfl)
theorem d_Tally_trap_39 : decode prog_8_method_5_code 39 = .ok (.return_, 1) := id_Tally_trap_0 (39, .return_, 1) (List.mem_of_getElem? (i := 21) rfl)
theorem wC_Tally_trap : Cond.code ⟨"WarpMill$Tally", "trap", "(ILWarpMill$Warp;I)V"⟩ prog_8_method_5_code 4 (none) ∈ lw_tb := mem_tb 840 (by decide +kernel) rfl
def f_Tally_trap (F : Nat) (x0 : Nat) (x1 : Int32) (x2 : Option Nat) (x3 : Int32) (h : Hp) : Option Hp := gd (hK h x0 = 6) <| pw (sI h 330 x0 x1) fun h_2_2 => rq h_2_2 x2 9 fun a_7 => rq h_2_2 (hR h_2_2 512 a_7) 8 fun a_7_2 => pw (sI h_2_2 331 x0 (hI h_2_2 448 a_7_2)) fun h_13 => pw (sI h_13 332 x0 (((hI h_13 513 a_7) * (hI h_13 514 a_7)) + x3)) fun h_28 => pw (sI h_28 333 x0 (hI h_28 519 a_7)) fun h_36 => some h_36
set_option maxRecDepth 100000 in
set_option maxHeartbeats 4000000 in
theorem e_Tally_trap {G : Gl} (hw : gF G) {F : Nat} {h' : Hp} {x0 : Nat} {x1 : Int32} {x2 : Option Nat} {x3 : Int32} {h : Hp} (hf : f_Tally_trap F x0 x1 x2 x3 h = some h') : Ex G mi_Tally_trap [.ref x0, .int x1, va_rf x2, .int x3] h (pV h') := by
  unfold f_Tally_trap at hf
  refine Ex.of nmV (by decide) (by cases x2 <;> exact Nat.le_of_ble_eq_true rfl) ?_
  rw [show lv_args 0 [.ref x0, .int x1, va_rf x2, .int x3] = [(0, .ref x0), (1, .int x1), (2, va_rf x2), (3, .int x3)] from by cases x2 <;> rfl]
  show Go G mi_Tally_trap h _ h 0 [(0, .ref x0), (1, .int x1), (2, va_rf x2), (3, .int x3)] []
  refine g_aload_n d_Tally_trap_0 rfl ?_
  refine g_iload_n d_Tally_trap_1 rfl ?_
  obtain ⟨k_2, hf⟩ := gd_s hf
  refine fp_Tally_why hw lf_Tally_39 d_Tally_trap_2 k_2 ?_
  have hf := pw_b hf
  refine g_aload_n d_Tally_trap_5 rfl ?_
  refine g_aload_nq (r := x2) d_Tally_trap_6 rfl ?_
  obtain ⟨a_7, rfl, k_7, hf⟩ := rq_s hf
  obtain ⟨a_7_2, e_7_2, k_7_2, hf⟩ := rq_s hf
  refine fgs_Warp_block lf_Tally_57 d_Tally_trap_7 k_7 e_7_2 ?_
  refine fg_Block_number lf_Tally_63 d_Tally_trap_10 k_7_2 ?_
  refine fp_Tally_trapBlock hw lf_Tally_42 d_Tally_trap_13 (kksI k_2) ?_
  have hf := pw_b hf
  refine g_aload_n d_Tally_trap_16 rfl ?_
  refine g_aload_n d_Tally_trap_17 rfl ?_
  refine fg_Warp_number lf_Tally_68 d_Tally_trap_18 (kksI k_7) ?_
  refine g_aload_n d_Tally_trap_21 rfl ?_
  refine fg_Warp_lanes lf_Tally_69 d_Tally_trap_22 (kksI k_7) ?_
  refine g_imul d_Tally_trap_25 ?_
  refine g_iload_n d_Tally_trap_26 rfl ?_
  refine g_iadd d_Tally_trap_27 ?_
  refine fp_Tally_trapThread hw lf_Tally_45 d_Tally_trap_28 (kksI (kksI k_2)) ?_
  have hf := pw_b hf
  refine g_aload_n d_Tally_trap_31 rfl ?_
  refine g_aload_n d_Tally_trap_32 rfl ?_
  refine fg_Warp_place lf_Tally_72 d_Tally_trap_33 (kksI (kksI k_7)) ?_
  refine fp_Tally_trapPlace hw lf_Tally_48 d_Tally_trap_36 (kksI (kksI (kksI k_2))) ?_
  have hf := pw_b hf
  exact Go.ret none trivial rfl d_Tally_trap_39 (pV_of hf)
abbrev mi_Warp_doing : MI := (⟨"WarpMill$Warp", "doing", "()I"⟩, prog_10_method_5_code, 2, some .int, 0, 0)
def it_Warp_doing_0 : List (Nat × ClassFile.Instr × Nat) := [(0, .aload_n 0, 1), (1, .getfield 77, 3), (4, .getfield 100, 3), (7, .iconst (-1), 1), (8, .if_icmp .ne (8), 3), (11, .aload_n 0, 1), (12, .getfield 67, 3), (15, .ireturn, 1), (16, .aload_n 0, 1), (17, .getfield 9, 3), (20, .aload_n 0, 1), (21, .getfield 77, 3), (24, .getfield 100, 3), (27, .iaload, 1), (28, .istore_n 1, 1), (29, .aload_n 0, 1), (30, .getfield 67, 3), (33, .aload_n 0, 1), (34, .getfield 77, 3), (37, .getfield 103, 3), (40, .ifCond .eq (9), 3), (43, .iload_n 1, 1), (44, .iconst (-1), 1), (45, .ixor, 1)]
theorem id_Warp_doing_0 : ∀ q ∈ it_Warp_doing_0, decode prog_10_method_5_code q.1 = .ok q.2 := by decide +kernel
theorem d_Warp_doing_0 : decode prog_10_method_5_code 0 = .ok (.aload_n 0, 1) := id_Warp_doing_0 (0, .aload_n 0, 1) (List.mem_of_getElem? (i := 0) rfl)
theorem d_Warp_doing_1 : decode prog_10_method_5_code 1 = .ok (.getfield 77, 3) := id_Warp_doing_0 (1, .getfield 77, 3) (List.mem_of_getElem? (i := 1) rfl)
theorem d_Warp_doing_4 : decode prog_10_method_5_code 4 = .ok (.getfield 100, 3) := id_Warp_doing_0 (4, .getfield 100, 3) (List.mem_of_getElem? (i := 2) rfl)
theorem d_Warp_doing_7 : decode prog_10_method_5_code 7 = .ok (.iconst (-1), 1) := id_Warp_doing_0 (7, .iconst (-1), 1) (List.mem_of_getElem? (i := 3) rfl)
theorem d_Warp_doing_8 : decode prog_10_method_5_code 8 = .ok (.if_icmp .ne (8), 3) := id_Warp_doing_0 (8, .if_icmp .ne (8), 3) (List.mem_of_getElem? (i := 4) rfl)
theorem d_Warp_doing_11 : decode prog_10_method_5_code 11 = .ok (.aload_n 0, 1) := id_Warp_doing_0 (11, .aload_n 0, 1) (List.mem_of_getElem? (i := 5) rfl)
theorem d_Warp_doing_12 : decode prog_10_method_5_code 12 = .ok (.getfield 67, 3) := id_Warp_doing_0 (12, .getfield 67, 3) (List.mem_of_getElem? (i := 6) rfl)
theorem d_Warp_doing_15 : decode prog_10_method_5_code 15 = .ok (.ireturn, 1) := id_Warp_doing_0 (15, .ireturn, 1) (List.mem_of_getElem? (i := 7) rfl)
theorem d_Warp_doing_16 : decode prog_10_method_5_code 16 = .ok (.aload_n 0, 1) := id_Warp_doing_0 (16, .aload_n 0, 1) (List.mem_of_getElem? (i := 8) rfl)
theorem d_Warp_doing_17 : decode prog_10_method_5_code 17 = .ok (.getfield 9, 3) := id_Warp_doing_0 (17, .getfield 9, 3) (List.mem_of_getElem? (i := 9) rfl)
theorem d_Warp_doing_20 : decode prog_10_method_5_code 20 = .ok (.aload_n 0, 1) := id_Warp_doing_0 (20, .aload_n 0, 1) (List.mem_of_getElem? (i := 10) rfl)
theorem d_Warp_doing_21 : decode prog_10_method_5_code 21 = .ok (.getfield 77, 3) := id_Warp_doing_0 (21, .getfield 77, 3) (List.mem_of_getElem? (i := 11) rfl)
theorem d_Warp_doing_24 : decode prog_10_method_5_code 24 = .ok (.getfield 100, 3) := id_Warp_doing_0 (24, .getfield 100, 3) (List.mem_of_getElem? (i := 12) rfl)
theorem d_Warp_doing_27 : decode prog_10_method_5_code 27 = .ok (.iaload, 1) := id_Warp_doing_0 (27, .iaload, 1) (List.mem_of_getElem? (i := 13) rfl)
theorem d_Warp_doing_28 : decode prog_10_method_5_code 28 = .ok (.istore_n 1, 1) := id_Warp_doing_0 (28, .istore_n 1, 1) (List.mem_of_getElem? (i := 14) rfl)
theorem d_Warp_doing_29 : decode prog_10_method_5_code 29 = .ok (.aload_n 0, 1) := id_Warp_doing_0 (29, .aload_n 0, 1) (List.mem_of_getElem? (i := 15) rfl)
theorem d_Warp_doing_30 : decode prog_10_method_5_code 30 = .ok (.getfield 67, 3) := id_Warp_doing_0 (30, .getfield 67, 3) (List.mem_of_getElem? (i := 16) rfl)
theorem d_Warp_doing_33 : decode prog_10_method_5_code 33 = .ok (.aload_n 0, 1) := id_Warp_doing_0 (33, .aload_n 0, 1) (List.mem_of_getElem? (i := 17) rfl)
theorem d_Warp_doing_34 : decode prog_10_method_5_code 34 = .ok (.getfield 77, 3) := id_Warp_doing_0 (34, .getfield 77, 3) (List.mem_of_getElem? (i := 18) rfl)
theorem d_Warp_doing_37 : decode prog_10_method_5_code 37 = .ok (.getfield 103, 3) := id_Warp_doing_0 (37, .getfield 103, 3) (List.mem_of_getElem? (i := 19) rfl)
theorem d_Warp_doing_40 : decode prog_10_method_5_code 40 = .ok (.ifCond .eq (9), 3) := id_Warp_doing_0 (40, .ifCond .eq (9), 3) (List.mem_of_getElem? (i := 20) rfl)
theorem d_Warp_doing_43 : decode prog_10_method_5_code 43 = .ok (.iload_n 1, 1) := id_Warp_doing_0 (43, .iload_n 1, 1) (List.mem_of_getElem? (i := 21) rfl)
theorem d_Warp_doing_44 : decode prog_10_method_5_code 44 = .ok (.iconst (-1), 1) := id_Warp_doing_0 (44, .iconst (-1), 1) (List.mem_of_getElem? (i := 22) rfl)
theorem d_Warp_doing_45 : decode prog_10_method_5_code 45 = .ok (.ixor, 1) := id_Warp_doing_0 (45, .ixor, 1) (List.mem_of_getElem? (i := 23) rfl)
def it_Warp_doing_1 : List (Nat × ClassFile.Instr × Nat) := [(46, .goto (4), 3), (49, .iload_n 1, 1), (50, .iand, 1), (51, .ireturn, 1)]
theorem id_Warp_doing_1 : ∀ q ∈ it_Warp_doing_1, decode prog_10_method_5_code q.1 = .ok q.2 := by decide +kernel
theorem d_Warp_doing_46 : decode prog_10_method_5_code 46 = .ok (.goto (4), 3) := id_Warp_doing_1 (46, .goto (4), 3) (List.mem_of_getElem? (i := 0) rfl)
theorem d_Warp_doing_49 : decode prog_10_method_5_code 49 = .ok (.iload_n 1, 1) := id_Warp_doing_1 (49, .iload_n 1, 1) (List.mem_of_getElem? (i := 1) rfl)
theorem d_Warp_doing_50 : decode prog_10_method_5_code 50 = .ok (.iand, 1) := id_Warp_doing_1 (50, .iand, 1) (List.mem_of_getElem? (i := 2) rfl)
theorem d_Warp_doing_51 : decode prog_10_method_5_code 51 = .ok (.ireturn, 1) := id_Warp_doing_1 (51, .ireturn, 1) (List.mem_of_getElem? (i := 3) rfl)
theorem wC_Warp_doing : Cond.code ⟨"WarpMill$Warp", "doing", "()I"⟩ prog_10_method_5_code 2 (some .int) ∈ lw_tb := mem_tb 844 (by decide +kernel) rfl
def f_Warp_doing (F : Nat) (x0 : Nat) (h : Hp) : Option (Int32 × Hp) := gd (hK h x0 = 9) <| rq h (hR h 520 x0) 10 fun a_1_2 => if (hI h 582 a_1_2) = (-1 : Int32) then (some ((hI h 518 x0), h)) else (rq h (hR h 526 x0) 100 fun a_17 => ix (hI h 582 a_1_2) (hN h a_17) fun j_27 => if (hI h 583 a_1_2) = 0 then (some (((hI h 518 x0) &&& (hA h a_17 j_27)), h)) else (some (((hI h 518 x0) &&& ((hA h a_17 j_27) ^^^ (-1 : Int32))), h)))
set_option maxRecDepth 100000 in
set_option maxHeartbeats 4000000 in
theorem e_Warp_doing {G : Gl} {F : Nat} {r : Int32} {h' : Hp} {x0 : Nat} {h : Hp} (hf : f_Warp_doing F x0 h = some (r, h')) : Ex G mi_Warp_doing [.ref x0] h (pI r h') := by
  unfold f_Warp_doing at hf
  refine Ex.of nmI (by decide) (Nat.le_of_ble_eq_true rfl) ?_
  show Go G mi_Warp_doing h _ h 0 [(0, .ref x0)] []
  refine g_aload_n d_Warp_doing_0 rfl ?_
  obtain ⟨k_1, hf⟩ := gd_s hf
  obtain ⟨a_1_2, e_1_2, k_1_2, hf⟩ := rq_s hf
  refine fgs_Warp_word lf_Warp_77 d_Warp_doing_1 k_1 e_1_2 ?_
  refine fg_Word_guard lf_Warp_100 d_Warp_doing_4 k_1_2 ?_
  refine g_iconst (-1) d_Warp_doing_7 (by decide) ?_
  refine g_icmp_ne 16 d_Warp_doing_8 (by decide) (fun c_8 => ?_) (fun c_8 => ?_)
  · have hf := ifn hf c_8
    refine g_aload_n d_Warp_doing_16 rfl ?_
    obtain ⟨a_17, e_17, k_17, hf⟩ := rq_s hf
    refine fgs_Warp_predicates lf_Warp_9 d_Warp_doing_17 k_1 e_17 ?_
    refine g_aload_n d_Warp_doing_20 rfl ?_
    refine fgs_Warp_word lf_Warp_77 d_Warp_doing_21 k_1 e_1_2 ?_
    refine fg_Word_guard lf_Warp_100 d_Warp_doing_24 k_1_2 ?_
    obtain ⟨i_27, hf⟩ := ix_s hf
    refine g_iald k_17 i_27 d_Warp_doing_27 ?_
    refine g_istore_n d_Warp_doing_28 (by decide) ?_
    show Go _ _ _ _ _ _ [(0, _), (1, _)] _
    refine g_aload_n d_Warp_doing_29 rfl ?_
    refine fg_Warp_group lf_Warp_67 d_Warp_doing_30 k_1 ?_
    refine g_aload_n d_Warp_doing_33 rfl ?_
    refine fgs_Warp_word lf_Warp_77 d_Warp_doing_34 k_1 e_1_2 ?_
    refine fg_Word_guardIsFalse lf_Warp_103 d_Warp_doing_37 k_1_2 ?_
    refine g_if_eq 49 d_Warp_doing_40 (by decide) (fun c_40 => ?_) (fun c_40 => ?_)
    · have hf := ifp hf c_40
      refine g_iload_n d_Warp_doing_49 rfl ?_
      refine g_iand d_Warp_doing_50 ?_
      exact Go.ret (some _) (rOk_i _) rfl d_Warp_doing_51 (pI_of hf)
    · have hf := ifn hf c_40
      refine g_iload_n d_Warp_doing_43 rfl ?_
      refine g_iconst (-1) d_Warp_doing_44 (by decide) ?_
      refine g_ixor d_Warp_doing_45 ?_
      refine g_goto 50 d_Warp_doing_46 (by decide) ?_
      refine g_iand d_Warp_doing_50 ?_
      exact Go.ret (some _) (rOk_i _) rfl d_Warp_doing_51 (pI_of hf)
  · have hf := ifp hf c_8
    refine g_aload_n d_Warp_doing_11 rfl ?_
    refine fg_Warp_group lf_Warp_67 d_Warp_doing_12 k_1 ?_
    exact Go.ret (some _) (rOk_i _) rfl d_Warp_doing_15 (pI_of hf)
abbrev mi_Warp_register : MI := (⟨"WarpMill$Warp", "register", "(II)I"⟩, prog_10_method_6_code, 3, some .int, 0, 0)
def it_Warp_register_0 : List (Nat × ClassFile.Instr × Nat) := [(0, .aload_n 0, 1), (1, .getfield 18, 3), (4, .iload_n 1, 1), (5, .bipush (16), 2), (7, .imul, 1), (8, .iload_n 2, 1), (9, .iadd, 1), (10, .iaload, 1), (11, .ireturn, 1)]
theorem id_Warp_register_0 : ∀ q ∈ it_Warp_register_0, decode prog_10_method_6_code q.1 = .ok q.2 := by decide +kernel
theorem d_Warp_register_0 : decode prog_10_method_6_code 0 = .ok (.aload_n 0, 1) := id_Warp_register_0 (0, .aload_n 0, 1) (List.mem_of_getElem? (i := 0) rfl)
theorem d_Warp_register_1 : decode prog_10_method_6_code 1 = .ok (.getfield 18, 3) := id_Warp_register_0 (1, .getfield 18, 3) (List.mem_of_getElem? (i := 1) rfl)
theorem d_Warp_register_4 : decode prog_10_method_6_code 4 = .ok (.iload_n 1, 1) := id_Warp_register_0 (4, .iload_n 1, 1) (List.mem_of_getElem? (i := 2) rfl)
theorem d_Warp_register_5 : decode prog_10_method_6_code 5 = .ok (.bipush (16), 2) := id_Warp_register_0 (5, .bipush (16), 2) (List.mem_of_getElem? (i := 3) rfl)
theorem d_Warp_register_7 : decode prog_10_method_6_code 7 = .ok (.imul, 1) := id_Warp_register_0 (7, .imul, 1) (List.mem_of_getElem? (i := 4) rfl)
theorem d_Warp_register_8 : decode prog_10_method_6_code 8 = .ok (.iload_n 2, 1) := id_Warp_register_0 (8, .iload_n 2, 1) (List.mem_of_getElem? (i := 5) rfl)
theorem d_Warp_register_9 : decode prog_10_method_6_code 9 = .ok (.iadd, 1) := id_Warp_register_0 (9, .iadd, 1) (List.mem_of_getElem? (i := 6) rfl)
theorem d_Warp_register_10 : decode prog_10_method_6_code 10 = .ok (.iaload, 1) := id_Warp_register_0 (10, .iaload, 1) (List.mem_of_getElem? (i := 7) rfl)
theorem d_Warp_register_11 : decode prog_10_method_6_code 11 = .ok (.ireturn, 1) := id_Warp_register_0 (11, .ireturn, 1) (List.mem_of_getElem? (i := 8) rfl)
theorem wC_Warp_register : Cond.code ⟨"WarpMill$Warp", "register", "(II)I"⟩ prog_10_method_6_code 3 (some .int) ∈ lw_tb := mem_tb 856 (by decide +kernel) rfl
def f_Warp_register (F : Nat) (x0 : Nat) (x1 : Int32) (x2 : Int32) (h : Hp) : Option (Int32 × Hp) := gd (hK h x0 = 9) <| rq h (hR h 523 x0) 100 fun a_1_2 => ix ((x1 * (16 : Int32)) + x2) (hN h a_1_2) fun j_10 => some ((hA h a_1_2 j_10), h)
set_option maxRecDepth 100000 in
set_option maxHeartbeats 4000000 in
theorem e_Warp_register {G : Gl} {F : Nat} {r : Int32} {h' : Hp} {x0 : Nat} {x1 : Int32} {x2 : Int32} {h : Hp} (hf : f_Warp_register F x0 x1 x2 h = some (r, h')) : Ex G mi_Warp_register [.ref x0, .int x1, .int x2] h (pI r h') := by
  unfold f_Warp_register at hf
  refine Ex.of nmI (by decide) (Nat.le_of_ble_eq_true rfl) ?_
  show Go G mi_Warp_register h _ h 0 [(0, .ref x0), (1, .int x1), (2, .int x2)] []
  refine g_aload_n d_Warp_register_0 rfl ?_
  obtain ⟨k_1, hf⟩ := gd_s hf
  obtain ⟨a_1_2, e_1_2, k_1_2, hf⟩ := rq_s hf
  refine fgs_Warp_registers lf_Warp_18 d_Warp_register_1 k_1 e_1_2 ?_
  refine g_iload_n d_Warp_register_4 rfl ?_
  refine g_bipush (16) d_Warp_register_5 (by decide) ?_
  refine g_imul d_Warp_register_7 ?_
  refine g_iload_n d_Warp_register_8 rfl ?_
  refine g_iadd d_Warp_register_9 ?_
  obtain ⟨i_10, hf⟩ := ix_s hf
  refine g_iald k_1_2 i_10 d_Warp_register_10 ?_
  exact Go.ret (some _) (rOk_i _) rfl d_Warp_register_11 (pI_of hf)
abbrev mi_Warp_dividingByZero : MI := (⟨"WarpMill$Warp", "dividingByZero", "(I)I"⟩, prog_10_method_8_code, 4, some .int, 1, 22)
def it_Warp_dividingByZero_0 : List (Nat × ClassFile.Instr × Nat) := [(0, .iconst 0, 1), (1, .istore_n 2, 1), (2, .iconst 0, 1), (3, .istore_n 3, 1), (4, .iload_n 3, 1), (5, .aload_n 0, 1), (6, .getfield 35, 3), (9, .if_icmp .ge (38), 3), (12, .iload_n 1, 1), (13, .iload_n 3, 1), (14, .invokestatic 73, 3), (17, .ifCond .eq (24), 3), (20, .aload_n 0, 1), (21, .iload_n 3, 1), (22, .aload_n 0, 1), (23, .getfield 77, 3), (26, .getfield 106, 3), (29, .invokevirtual 109, 3), (32, .ifCond .ne (9), 3), (35, .iload_n 2, 1), (36, .iconst 1, 1), (37, .iload_n 3, 1), (38, .ishl, 1), (39, .ior, 1)]
theorem id_Warp_dividingByZero_0 : ∀ q ∈ it_Warp_dividingByZero_0, decode prog_10_method_8_code q.1 = .ok q.2 := by decide +kernel
theorem d_Warp_dividingByZero_0 : decode prog_10_method_8_code 0 = .ok (.iconst 0, 1) := id_Warp_dividingByZero_0 (0, .iconst 0, 1) (List.mem_of_getElem? (i := 0) rfl)
theorem d_Warp_dividingByZero_1 : decode prog_10_method_8_code 1 = .ok (.istore_n 2, 1) := id_Warp_dividingByZero_0 (1, .istore_n 2, 1) (List.mem_of_getElem? (i := 1) rfl)
theorem d_Warp_dividingByZero_2 : decode prog_10_method_8_code 2 = .ok (.iconst 0, 1) := id_Warp_dividingByZero_0 (2, .iconst 0, 1) (List.mem_of_getElem? (i := 2) rfl)
theorem d_Warp_dividingByZero_3 : decode prog_10_method_8_code 3 = .ok (.istore_n 3, 1) := id_Warp_dividingByZero_0 (3, .istore_n 3, 1) (List.mem_of_getElem? (i := 3) rfl)
theorem d_Warp_dividingByZero_4 : decode prog_10_method_8_code 4 = .ok (.iload_n 3, 1) := id_Warp_dividingByZero_0 (4, .iload_n 3, 1) (List.mem_of_getElem? (i := 4) rfl)
theorem d_Warp_dividingByZero_5 : decode prog_10_method_8_code 5 = .ok (.aload_n 0, 1) := id_Warp_dividingByZero_0 (5, .aload_n 0, 1) (List.mem_of_getElem? (i := 5) rfl)
theorem d_Warp_dividingByZero_6 : decode prog_10_method_8_code 6 = .ok (.getfield 35, 3) := id_Warp_dividingByZero_0 (6, .getfield 35, 3) (List.mem_of_getElem? (i := 6) rfl)
theorem d_Warp_dividingByZero_9 : decode prog_10_method_8_code 9 = .ok (.if_icmp .ge (38), 3) := id_Warp_dividingByZero_0 (9, .if_icmp .ge (38), 3) (List.mem_of_getElem? (i := 7) rfl)
theorem d_Warp_dividingByZero_12 : decode prog_10_method_8_code 12 = .ok (.iload_n 1, 1) := id_Warp_dividingByZero_0 (12, .iload_n 1, 1) (List.mem_of_getElem? (i := 8) rfl)
theorem d_Warp_dividingByZero_13 : decode prog_10_method_8_code 13 = .ok (.iload_n 3, 1) := id_Warp_dividingByZero_0 (13, .iload_n 3, 1) (List.mem_of_getElem? (i := 9) rfl)
theorem d_Warp_dividingByZero_14 : decode prog_10_method_8_code 14 = .ok (.invokestatic 73, 3) := id_Warp_dividingByZero_0 (14, .invokestatic 73, 3) (List.mem_of_getElem? (i := 10) rfl)
theorem d_Warp_dividingByZero_17 : decode prog_10_method_8_code 17 = .ok (.ifCond .eq (24), 3) := id_Warp_dividingByZero_0 (17, .ifCond .eq (24), 3) (List.mem_of_getElem? (i := 11) rfl)
theorem d_Warp_dividingByZero_20 : decode prog_10_method_8_code 20 = .ok (.aload_n 0, 1) := id_Warp_dividingByZero_0 (20, .aload_n 0, 1) (List.mem_of_getElem? (i := 12) rfl)
theorem d_Warp_dividingByZero_21 : decode prog_10_method_8_code 21 = .ok (.iload_n 3, 1) := id_Warp_dividingByZero_0 (21, .iload_n 3, 1) (List.mem_of_getElem? (i := 13) rfl)
theorem d_Warp_dividingByZero_22 : decode prog_10_method_8_code 22 = .ok (.aload_n 0, 1) := id_Warp_dividingByZero_0 (22, .aload_n 0, 1) (List.mem_of_getElem? (i := 14) rfl)
theorem d_Warp_dividingByZero_23 : decode prog_10_method_8_code 23 = .ok (.getfield 77, 3) := id_Warp_dividingByZero_0 (23, .getfield 77, 3) (List.mem_of_getElem? (i := 15) rfl)
theorem d_Warp_dividingByZero_26 : decode prog_10_method_8_code 26 = .ok (.getfield 106, 3) := id_Warp_dividingByZero_0 (26, .getfield 106, 3) (List.mem_of_getElem? (i := 16) rfl)
theorem d_Warp_dividingByZero_29 : decode prog_10_method_8_code 29 = .ok (.invokevirtual 109, 3) := id_Warp_dividingByZero_0 (29, .invokevirtual 109, 3) (List.mem_of_getElem? (i := 17) rfl)
theorem d_Warp_dividingByZero_32 : decode prog_10_method_8_code 32 = .ok (.ifCond .ne (9), 3) := id_Warp_dividingByZero_0 (32, .ifCond .ne (9), 3) (List.mem_of_getElem? (i := 18) rfl)
theorem d_Warp_dividingByZero_35 : decode prog_10_method_8_code 35 = .ok (.iload_n 2, 1) := id_Warp_dividingByZero_0 (35, .iload_n 2, 1) (List.mem_of_getElem? (i := 19) rfl)
theorem d_Warp_dividingByZero_36 : decode prog_10_method_8_code 36 = .ok (.iconst 1, 1) := id_Warp_dividingByZero_0 (36, .iconst 1, 1) (List.mem_of_getElem? (i := 20) rfl)
theorem d_Warp_dividingByZero_37 : decode prog_10_method_8_code 37 = .ok (.iload_n 3, 1) := id_Warp_dividingByZero_0 (37, .iload_n 3, 1) (List.mem_of_getElem? (i := 21) rfl)
theorem d_Warp_dividingByZero_38 : decode prog_10_method_8_code 38 = .ok (.ishl, 1) := id_Warp_dividingByZero_0 (38, .ishl, 1) (List.mem_of_getElem? (i := 22) rfl)
theorem d_Warp_dividingByZero_39 : decode prog_10_method_8_code 39 = .ok (.ior, 1) := id_Warp_dividingByZero_0 (39, .ior, 1) (List.mem_of_getElem? (i := 23) rfl)
def it_Warp_dividingByZero_1 : List (Nat × ClassFile.Instr × Nat) := [(40, .istore_n 2, 1), (41, .iinc 3 (1), 3), (44, .goto (-40), 3), (47, .iload_n 2, 1), (48, .ireturn, 1)]
theorem id_Warp_dividingByZero_1 : ∀ q ∈ it_Warp_dividingByZero_1, decode prog_10_method_8_code q.1 = .ok q.2 := by decide +kernel
theorem d_Warp_dividingByZero_40 : decode prog_10_method_8_code 40 = .ok (.istore_n 2, 1) := id_Warp_dividingByZero_1 (40, .istore_n 2, 1) (List.mem_of_getElem? (i := 0) rfl)
theorem d_Warp_dividingByZero_41 : decode prog_10_method_8_code 41 = .ok (.iinc 3 (1), 3) := id_Warp_dividingByZero_1 (41, .iinc 3 (1), 3) (List.mem_of_getElem? (i := 1) rfl)
theorem d_Warp_dividingByZero_44 : decode prog_10_method_8_code 44 = .ok (.goto (-40), 3) := id_Warp_dividingByZero_1 (44, .goto (-40), 3) (List.mem_of_getElem? (i := 2) rfl)
theorem d_Warp_dividingByZero_47 : decode prog_10_method_8_code 47 = .ok (.iload_n 2, 1) := id_Warp_dividingByZero_1 (47, .iload_n 2, 1) (List.mem_of_getElem? (i := 3) rfl)
theorem d_Warp_dividingByZero_48 : decode prog_10_method_8_code 48 = .ok (.ireturn, 1) := id_Warp_dividingByZero_1 (48, .ireturn, 1) (List.mem_of_getElem? (i := 4) rfl)
theorem wC_Warp_dividingByZero : Cond.code ⟨"WarpMill$Warp", "dividingByZero", "(I)I"⟩ prog_10_method_8_code 4 (some .int) ∈ lw_tb := mem_tb 852 (by decide +kernel) rfl
theorem cw_Warp_dividingByZero_WM_in : cW mi_Warp_dividingByZero mi_WM_in 2 := ⟨wC_WM_in, wi_WM, ⟨by decide, by decide, by decide +kernel⟩, by decide, by decide⟩
theorem cw_Warp_dividingByZero_Warp_register : cW mi_Warp_dividingByZero mi_Warp_register 2 := ⟨wC_Warp_register, wi_Warp, ⟨by decide, by decide, by decide +kernel⟩, by decide, by decide⟩
def b_Warp_dividingByZero_4 (F : Nat) : Nat → Nat → Int32 → Int32 → Int32 → Hp → Option (Int32 × Hp)
  | 0 => fun _ _ _ _ _ => none
  | n + 1 => fun x0 x1 x2 x3 h => gd (hK h x0 = 9) <| if (hI h 514 x0) ≤ x3 then (some (x2, h)) else (cl (f_WM_in F x1 x3 h) fun v_14 h_14 => if v_14 = 0 then (b_Warp_dividingByZero_4 F n x0 x1 x2 (x3 + 1) h_14) else (gd (hK h_14 x0 = 9) <| rq h_14 (hR h_14 520 x0) 10 fun a_23_2 => cl (f_Warp_register F x0 x3 (hI h_14 579 a_23_2) h_14) fun v_29 h_29 => if v_29 = 0 then (b_Warp_dividingByZero_4 F n x0 x1 (x2 ||| ((1 : Int32) <<< (x3 &&& 31))) (x3 + 1) h_29) else (b_Warp_dividingByZero_4 F n x0 x1 x2 (x3 + 1) h_29)))
set_option maxRecDepth 100000 in
set_option maxHeartbeats 4000000 in
theorem e_Warp_dividingByZero_4 {G : Gl} {h0 : Hp} {F : Nat} {r : Int32} {h' : Hp}   : ∀ (n : Nat) (x0 : Nat) (x1 : Int32) (x2 : Int32) (x3 : Int32) (h : Hp), b_Warp_dividingByZero_4 F n x0 x1 x2 x3 h = some (r, h') → Go G mi_Warp_dividingByZero h0 (pI r h') h 4 [(0, .ref x0), (1, .int x1), (2, .int x2), (3, .int x3)] [] := by
  intro n
  induction n with
  | zero =>
    intro _ _ _ _ _ hf
    exact nm_s hf
  | succ n ih =>
    intro x0 x1 x2 x3 h hf
    unfold b_Warp_dividingByZero_4 at hf
    refine g_iload_n d_Warp_dividingByZero_4 rfl ?_
    refine g_aload_n d_Warp_dividingByZero_5 rfl ?_
    obtain ⟨k_6, hf⟩ := gd_s hf
    refine fg_Warp_lanes lf_Warp_35 d_Warp_dividingByZero_6 k_6 ?_
    refine g_icmp_ge 47 d_Warp_dividingByZero_9 (by decide) (fun c_9 => ?_) (fun c_9 => ?_)
    · have hf := ifp hf c_9
      refine g_iload_n d_Warp_dividingByZero_47 rfl ?_
      exact Go.ret (some _) (rOk_i _) rfl d_Warp_dividingByZero_48 (pI_of hf)
    · have hf := ifn hf c_9
      refine g_iload_n d_Warp_dividingByZero_12 rfl ?_
      refine g_iload_n d_Warp_dividingByZero_13 rfl ?_
      obtain ⟨v_14, h_14, e_14, hf⟩ := cl_s hf
      refine g_callSN (mz := mi_WM_in) (e_WM_in e_14) cw_Warp_dividingByZero_WM_in (host := "WarpMill") (by decide +kernel) wS_WM_in d_Warp_dividingByZero_14 rfl rfl (by first | exact Nat.le_of_ble_eq_true rfl | simp [cat_rf, Value.category]) (fun r1 h1 hp hro => ?_)
      obtain ⟨rfl, rfl⟩ := hp
      dsimp only [Option.toList_some, Option.toList_none, List.cons_append, List.nil_append]
      refine g_if_eq 41 d_Warp_dividingByZero_17 (by decide) (fun c_17 => ?_) (fun c_17 => ?_)
      · have hf := ifp hf c_17
        refine g_iinc (_ + 1) d_Warp_dividingByZero_41 rfl (by rfl) (by decide) ?_
        show Go _ _ _ _ _ _ [(0, _), (1, _), (2, _), (3, _)] _
        refine g_goto 4 d_Warp_dividingByZero_44 (by decide) ?_
        exact ih _ _ _ _ _ hf
      · have hf := ifn hf c_17
        refine g_aload_n d_Warp_dividingByZero_20 rfl ?_
        refine g_iload_n d_Warp_dividingByZero_21 rfl ?_
        refine g_aload_n d_Warp_dividingByZero_22 rfl ?_
        obtain ⟨k_23, hf⟩ := gd_s hf
        obtain ⟨a_23_2, e_23_2, k_23_2, hf⟩ := rq_s hf
        refine fgs_Warp_word lf_Warp_77 d_Warp_dividingByZero_23 k_23 e_23_2 ?_
        refine fg_Word_b lf_Warp_106 d_Warp_dividingByZero_26 k_23_2 ?_
        obtain ⟨v_29, h_29, e_29, hf⟩ := cl_s hf
        refine g_callV (mz := mi_Warp_register) (e_Warp_register e_29) cw_Warp_dividingByZero_Warp_register lm_Warp_109 wI_Warp_register wV_Warp_register (ci := 8) k_23 (by decide) rfl rfl d_Warp_dividingByZero_29 rfl rfl (by first | exact Nat.le_of_ble_eq_true rfl | simp [cat_rf, Value.category]) (fun r1 h1 hp hro => ?_)
        obtain ⟨rfl, rfl⟩ := hp
        dsimp only [Option.toList_some, Option.toList_none, List.cons_append, List.nil_append]
        refine g_if_ne 41 d_Warp_dividingByZero_32 (by decide) (fun c_32 => ?_) (fun c_32 => ?_)
        · have hf := ifn hf c_32
          refine g_iinc (_ + 1) d_Warp_dividingByZero_41 rfl (by rfl) (by decide) ?_
          show Go _ _ _ _ _ _ [(0, _), (1, _), (2, _), (3, _)] _
          refine g_goto 4 d_Warp_dividingByZero_44 (by decide) ?_
          exact ih _ _ _ _ _ hf
        · have hf := ifp hf c_32
          refine g_iload_n d_Warp_dividingByZero_35 rfl ?_
          refine g_iconst 1 d_Warp_dividingByZero_36 (by decide) ?_
          refine g_iload_n d_Warp_dividingByZero_37 rfl ?_
          refine g_ishl d_Warp_dividingByZero_38 ?_
          refine g_ior d_Warp_dividingByZero_39 ?_
          refine g_istore_n d_Warp_dividingByZero_40 (by decide) ?_
          show Go _ _ _ _ _ _ [(0, _), (1, _), (2, _), (3, _)] _
          refine g_iinc (_ + 1) d_Warp_dividingByZero_41 rfl (by rfl) (by decide) ?_
          show Go _ _ _ _ _ _ [(0, _), (1, _), (2, _), (3, _)] _
          refine g_goto 4 d_Warp_dividingByZero_44 (by decide) ?_
          exact ih _ _ _ _ _ hf
def f_Warp_dividingByZero (F : Nat) (x0 : Nat) (x1 : Int32) (h : Hp) : Option (Int32 × Hp) := b_Warp_dividingByZero_4 F F x0 x1 (0 : Int32) (0 : Int32) h
set_option maxRecDepth 100000 in
set_option maxHeartbeats 4000000 in
theorem e_Warp_dividingByZero {G : Gl} {F : Nat} {r : Int32} {h' : Hp} {x0 : Nat} {x1 : Int32} {h : Hp} (hf : f_Warp_dividingByZero F x0 x1 h = some (r, h')) : Ex G mi_Warp_dividingByZero [.ref x0, .int x1] h (pI r h') := by
  unfold f_Warp_dividingByZero at hf
  refine Ex.of nmI (by decide) (Nat.le_of_ble_eq_true rfl) ?_
  show Go G mi_Warp_dividingByZero h _ h 0 [(0, .ref x0), (1, .int x1)] []
  refine g_iconst 0 d_Warp_dividingByZero_0 (by decide) ?_
  refine g_istore_n d_Warp_dividingByZero_1 (by decide) ?_
  show Go _ _ _ _ _ _ [(0, _), (1, _), (2, _)] _
  refine g_iconst 0 d_Warp_dividingByZero_2 (by decide) ?_
  refine g_istore_n d_Warp_dividingByZero_3 (by decide) ?_
  show Go _ _ _ _ _ _ [(0, _), (1, _), (2, _), (3, _)] _
  have key := e_Warp_dividingByZero_4 (G := G) (h0 := h)  F _ _ _ _ _ hf
  exact key
