abbrev mi_Mod_together : MI := (⟨"WarpMillModel", "together", "(I)V"⟩, prog_13_method_47_code, 4, none, 1, 22)
def it_Mod_together_0 : List (Nat × ClassFile.Instr × Nat) := [(0, .aload_n 0, 1), (1, .iconst 0, 1), (2, .putfield 325, 3), (5, .iconst 0, 1), (6, .istore_n 2, 1), (7, .iconst 0, 1), (8, .istore_n 3, 1), (9, .iload_n 3, 1), (10, .aload_n 0, 1), (11, .getfield 7, 3), (14, .if_icmp .ge (86), 3), (17, .aload_n 0, 1), (18, .getfield 114, 3), (21, .iload_n 3, 1), (22, .aload_n 0, 1), (23, .iload_n 1, 1), (24, .iload_n 3, 1), (25, .invokevirtual 208, 3), (28, .ifCond .eq (19), 3), (31, .aload_n 0, 1), (32, .iload_n 1, 1), (33, .iload_n 3, 1), (34, .invokestatic 211, 3), (37, .aload_n 0, 1)]
theorem id_Mod_together_0 : ∀ q ∈ it_Mod_together_0, decode prog_13_method_47_code q.1 = .ok q.2 := by decide +kernel
theorem d_Mod_together_0 : decode prog_13_method_47_code 0 = .ok (.aload_n 0, 1) := id_Mod_together_0 (0, .aload_n 0, 1) (List.mem_of_getElem? (i := 0) rfl)
theorem d_Mod_together_1 : decode prog_13_method_47_code 1 = .ok (.iconst 0, 1) := id_Mod_together_0 (1, .iconst 0, 1) (List.mem_of_getElem? (i := 1) rfl)
theorem d_Mod_together_2 : decode prog_13_method_47_code 2 = .ok (.putfield 325, 3) := id_Mod_together_0 (2, .putfield 325, 3) (List.mem_of_getElem? (i := 2) rfl)
theorem d_Mod_together_5 : decode prog_13_method_47_code 5 = .ok (.iconst 0, 1) := id_Mod_together_0 (5, .iconst 0, 1) (List.mem_of_getElem? (i := 3) rfl)
theorem d_Mod_together_6 : decode prog_13_method_47_code 6 = .ok (.istore_n 2, 1) := id_Mod_together_0 (6, .istore_n 2, 1) (List.mem_of_getElem? (i := 4) rfl)
theorem d_Mod_together_7 : decode prog_13_method_47_code 7 = .ok (.iconst 0, 1) := id_Mod_together_0 (7, .iconst 0, 1) (List.mem_of_getElem? (i := 5) rfl)
theorem d_Mod_together_8 : decode prog_13_method_47_code 8 = .ok (.istore_n 3, 1) := id_Mod_together_0 (8, .istore_n 3, 1) (List.mem_of_getElem? (i := 6) rfl)
theorem d_Mod_together_9 : decode prog_13_method_47_code 9 = .ok (.iload_n 3, 1) := id_Mod_together_0 (9, .iload_n 3, 1) (List.mem_of_getElem? (i := 7) rfl)
theorem d_Mod_together_10 : decode prog_13_method_47_code 10 = .ok (.aload_n 0, 1) := id_Mod_together_0 (10, .aload_n 0, 1) (List.mem_of_getElem? (i := 8) rfl)
theorem d_Mod_together_11 : decode prog_13_method_47_code 11 = .ok (.getfield 7, 3) := id_Mod_together_0 (11, .getfield 7, 3) (List.mem_of_getElem? (i := 9) rfl)
theorem d_Mod_together_14 : decode prog_13_method_47_code 14 = .ok (.if_icmp .ge (86), 3) := id_Mod_together_0 (14, .if_icmp .ge (86), 3) (List.mem_of_getElem? (i := 10) rfl)
theorem d_Mod_together_17 : decode prog_13_method_47_code 17 = .ok (.aload_n 0, 1) := id_Mod_together_0 (17, .aload_n 0, 1) (List.mem_of_getElem? (i := 11) rfl)
theorem d_Mod_together_18 : decode prog_13_method_47_code 18 = .ok (.getfield 114, 3) := id_Mod_together_0 (18, .getfield 114, 3) (List.mem_of_getElem? (i := 12) rfl)
theorem d_Mod_together_21 : decode prog_13_method_47_code 21 = .ok (.iload_n 3, 1) := id_Mod_together_0 (21, .iload_n 3, 1) (List.mem_of_getElem? (i := 13) rfl)
theorem d_Mod_together_22 : decode prog_13_method_47_code 22 = .ok (.aload_n 0, 1) := id_Mod_together_0 (22, .aload_n 0, 1) (List.mem_of_getElem? (i := 14) rfl)
theorem d_Mod_together_23 : decode prog_13_method_47_code 23 = .ok (.iload_n 1, 1) := id_Mod_together_0 (23, .iload_n 1, 1) (List.mem_of_getElem? (i := 15) rfl)
theorem d_Mod_together_24 : decode prog_13_method_47_code 24 = .ok (.iload_n 3, 1) := id_Mod_together_0 (24, .iload_n 3, 1) (List.mem_of_getElem? (i := 16) rfl)
theorem d_Mod_together_25 : decode prog_13_method_47_code 25 = .ok (.invokevirtual 208, 3) := id_Mod_together_0 (25, .invokevirtual 208, 3) (List.mem_of_getElem? (i := 17) rfl)
theorem d_Mod_together_28 : decode prog_13_method_47_code 28 = .ok (.ifCond .eq (19), 3) := id_Mod_together_0 (28, .ifCond .eq (19), 3) (List.mem_of_getElem? (i := 18) rfl)
theorem d_Mod_together_31 : decode prog_13_method_47_code 31 = .ok (.aload_n 0, 1) := id_Mod_together_0 (31, .aload_n 0, 1) (List.mem_of_getElem? (i := 19) rfl)
theorem d_Mod_together_32 : decode prog_13_method_47_code 32 = .ok (.iload_n 1, 1) := id_Mod_together_0 (32, .iload_n 1, 1) (List.mem_of_getElem? (i := 20) rfl)
theorem d_Mod_together_33 : decode prog_13_method_47_code 33 = .ok (.iload_n 3, 1) := id_Mod_together_0 (33, .iload_n 3, 1) (List.mem_of_getElem? (i := 21) rfl)
theorem d_Mod_together_34 : decode prog_13_method_47_code 34 = .ok (.invokestatic 211, 3) := id_Mod_together_0 (34, .invokestatic 211, 3) (List.mem_of_getElem? (i := 22) rfl)
theorem d_Mod_together_37 : decode prog_13_method_47_code 37 = .ok (.aload_n 0, 1) := id_Mod_together_0 (37, .aload_n 0, 1) (List.mem_of_getElem? (i := 23) rfl)
def it_Mod_together_1 : List (Nat × ClassFile.Instr × Nat) := [(38, .getfield 228, 3), (41, .invokevirtual 284, 3), (44, .goto (4), 3), (47, .iconst 0, 1), (48, .iastore, 1), (49, .aload_n 0, 1), (50, .getfield 111, 3), (53, .iload_n 3, 1), (54, .baload, 1), (55, .ifCond .ne (6), 3), (58, .goto (36), 3), (61, .iinc 2 (1), 3), (64, .aload_n 0, 1), (65, .dup, 1), (66, .getfield 325, 3), (69, .aload_n 0, 1), (70, .iload_n 1, 1), (71, .iload_n 3, 1), (72, .invokestatic 211, 3), (75, .aload_n 0, 1), (76, .getfield 228, 3), (79, .invokevirtual 291, 3), (82, .ifCond .eq (7), 3), (85, .iconst 1, 1)]
theorem id_Mod_together_1 : ∀ q ∈ it_Mod_together_1, decode prog_13_method_47_code q.1 = .ok q.2 := by decide +kernel
theorem d_Mod_together_38 : decode prog_13_method_47_code 38 = .ok (.getfield 228, 3) := id_Mod_together_1 (38, .getfield 228, 3) (List.mem_of_getElem? (i := 0) rfl)
theorem d_Mod_together_41 : decode prog_13_method_47_code 41 = .ok (.invokevirtual 284, 3) := id_Mod_together_1 (41, .invokevirtual 284, 3) (List.mem_of_getElem? (i := 1) rfl)
theorem d_Mod_together_44 : decode prog_13_method_47_code 44 = .ok (.goto (4), 3) := id_Mod_together_1 (44, .goto (4), 3) (List.mem_of_getElem? (i := 2) rfl)
theorem d_Mod_together_47 : decode prog_13_method_47_code 47 = .ok (.iconst 0, 1) := id_Mod_together_1 (47, .iconst 0, 1) (List.mem_of_getElem? (i := 3) rfl)
theorem d_Mod_together_48 : decode prog_13_method_47_code 48 = .ok (.iastore, 1) := id_Mod_together_1 (48, .iastore, 1) (List.mem_of_getElem? (i := 4) rfl)
theorem d_Mod_together_49 : decode prog_13_method_47_code 49 = .ok (.aload_n 0, 1) := id_Mod_together_1 (49, .aload_n 0, 1) (List.mem_of_getElem? (i := 5) rfl)
theorem d_Mod_together_50 : decode prog_13_method_47_code 50 = .ok (.getfield 111, 3) := id_Mod_together_1 (50, .getfield 111, 3) (List.mem_of_getElem? (i := 6) rfl)
theorem d_Mod_together_53 : decode prog_13_method_47_code 53 = .ok (.iload_n 3, 1) := id_Mod_together_1 (53, .iload_n 3, 1) (List.mem_of_getElem? (i := 7) rfl)
theorem d_Mod_together_54 : decode prog_13_method_47_code 54 = .ok (.baload, 1) := id_Mod_together_1 (54, .baload, 1) (List.mem_of_getElem? (i := 8) rfl)
theorem d_Mod_together_55 : decode prog_13_method_47_code 55 = .ok (.ifCond .ne (6), 3) := id_Mod_together_1 (55, .ifCond .ne (6), 3) (List.mem_of_getElem? (i := 9) rfl)
theorem d_Mod_together_58 : decode prog_13_method_47_code 58 = .ok (.goto (36), 3) := id_Mod_together_1 (58, .goto (36), 3) (List.mem_of_getElem? (i := 10) rfl)
theorem d_Mod_together_61 : decode prog_13_method_47_code 61 = .ok (.iinc 2 (1), 3) := id_Mod_together_1 (61, .iinc 2 (1), 3) (List.mem_of_getElem? (i := 11) rfl)
theorem d_Mod_together_64 : decode prog_13_method_47_code 64 = .ok (.aload_n 0, 1) := id_Mod_together_1 (64, .aload_n 0, 1) (List.mem_of_getElem? (i := 12) rfl)
theorem d_Mod_together_65 : decode prog_13_method_47_code 65 = .ok (.dup, 1) := id_Mod_together_1 (65, .dup, 1) (List.mem_of_getElem? (i := 13) rfl)
theorem d_Mod_together_66 : decode prog_13_method_47_code 66 = .ok (.getfield 325, 3) := id_Mod_together_1 (66, .getfield 325, 3) (List.mem_of_getElem? (i := 14) rfl)
theorem d_Mod_together_69 : decode prog_13_method_47_code 69 = .ok (.aload_n 0, 1) := id_Mod_together_1 (69, .aload_n 0, 1) (List.mem_of_getElem? (i := 15) rfl)
theorem d_Mod_together_70 : decode prog_13_method_47_code 70 = .ok (.iload_n 1, 1) := id_Mod_together_1 (70, .iload_n 1, 1) (List.mem_of_getElem? (i := 16) rfl)
theorem d_Mod_together_71 : decode prog_13_method_47_code 71 = .ok (.iload_n 3, 1) := id_Mod_together_1 (71, .iload_n 3, 1) (List.mem_of_getElem? (i := 17) rfl)
theorem d_Mod_together_72 : decode prog_13_method_47_code 72 = .ok (.invokestatic 211, 3) := id_Mod_together_1 (72, .invokestatic 211, 3) (List.mem_of_getElem? (i := 18) rfl)
theorem d_Mod_together_75 : decode prog_13_method_47_code 75 = .ok (.aload_n 0, 1) := id_Mod_together_1 (75, .aload_n 0, 1) (List.mem_of_getElem? (i := 19) rfl)
theorem d_Mod_together_76 : decode prog_13_method_47_code 76 = .ok (.getfield 228, 3) := id_Mod_together_1 (76, .getfield 228, 3) (List.mem_of_getElem? (i := 20) rfl)
theorem d_Mod_together_79 : decode prog_13_method_47_code 79 = .ok (.invokevirtual 291, 3) := id_Mod_together_1 (79, .invokevirtual 291, 3) (List.mem_of_getElem? (i := 21) rfl)
theorem d_Mod_together_82 : decode prog_13_method_47_code 82 = .ok (.ifCond .eq (7), 3) := id_Mod_together_1 (82, .ifCond .eq (7), 3) (List.mem_of_getElem? (i := 22) rfl)
theorem d_Mod_together_85 : decode prog_13_method_47_code 85 = .ok (.iconst 1, 1) := id_Mod_together_1 (85, .iconst 1, 1) (List.mem_of_getElem? (i := 23) rfl)
def it_Mod_together_2 : List (Nat × ClassFile.Instr × Nat) := [(86, .goto (4), 3), (89, .iconst 0, 1), (90, .iadd, 1), (91, .putfield 325, 3), (94, .iinc 3 (1), 3), (97, .goto (-88), 3), (100, .aload_n 0, 1), (101, .getfield 220, 3), (104, .bipush (70), 2), (106, .if_icmp .ne (19), 3), (109, .aload_n 0, 1), (110, .aload_n 0, 1), (111, .getfield 325, 3), (114, .ifCond .le (7), 3), (117, .iconst 1, 1), (118, .goto (4), 3), (121, .iconst 0, 1), (122, .putfield 325, 3), (125, .aload_n 0, 1), (126, .getfield 220, 3), (129, .bipush (71), 2), (131, .if_icmp .ne (20), 3), (134, .aload_n 0, 1), (135, .aload_n 0, 1)]
theorem id_Mod_together_2 : ∀ q ∈ it_Mod_together_2, decode prog_13_method_47_code q.1 = .ok q.2 := by decide +kernel
theorem d_Mod_together_86 : decode prog_13_method_47_code 86 = .ok (.goto (4), 3) := id_Mod_together_2 (86, .goto (4), 3) (List.mem_of_getElem? (i := 0) rfl)
theorem d_Mod_together_89 : decode prog_13_method_47_code 89 = .ok (.iconst 0, 1) := id_Mod_together_2 (89, .iconst 0, 1) (List.mem_of_getElem? (i := 1) rfl)
theorem d_Mod_together_90 : decode prog_13_method_47_code 90 = .ok (.iadd, 1) := id_Mod_together_2 (90, .iadd, 1) (List.mem_of_getElem? (i := 2) rfl)
theorem d_Mod_together_91 : decode prog_13_method_47_code 91 = .ok (.putfield 325, 3) := id_Mod_together_2 (91, .putfield 325, 3) (List.mem_of_getElem? (i := 3) rfl)
theorem d_Mod_together_94 : decode prog_13_method_47_code 94 = .ok (.iinc 3 (1), 3) := id_Mod_together_2 (94, .iinc 3 (1), 3) (List.mem_of_getElem? (i := 4) rfl)
theorem d_Mod_together_97 : decode prog_13_method_47_code 97 = .ok (.goto (-88), 3) := id_Mod_together_2 (97, .goto (-88), 3) (List.mem_of_getElem? (i := 5) rfl)
theorem d_Mod_together_100 : decode prog_13_method_47_code 100 = .ok (.aload_n 0, 1) := id_Mod_together_2 (100, .aload_n 0, 1) (List.mem_of_getElem? (i := 6) rfl)
theorem d_Mod_together_101 : decode prog_13_method_47_code 101 = .ok (.getfield 220, 3) := id_Mod_together_2 (101, .getfield 220, 3) (List.mem_of_getElem? (i := 7) rfl)
theorem d_Mod_together_104 : decode prog_13_method_47_code 104 = .ok (.bipush (70), 2) := id_Mod_together_2 (104, .bipush (70), 2) (List.mem_of_getElem? (i := 8) rfl)
theorem d_Mod_together_106 : decode prog_13_method_47_code 106 = .ok (.if_icmp .ne (19), 3) := id_Mod_together_2 (106, .if_icmp .ne (19), 3) (List.mem_of_getElem? (i := 9) rfl)
theorem d_Mod_together_109 : decode prog_13_method_47_code 109 = .ok (.aload_n 0, 1) := id_Mod_together_2 (109, .aload_n 0, 1) (List.mem_of_getElem? (i := 10) rfl)
theorem d_Mod_together_110 : decode prog_13_method_47_code 110 = .ok (.aload_n 0, 1) := id_Mod_together_2 (110, .aload_n 0, 1) (List.mem_of_getElem? (i := 11) rfl)
theorem d_Mod_together_111 : decode prog_13_method_47_code 111 = .ok (.getfield 325, 3) := id_Mod_together_2 (111, .getfield 325, 3) (List.mem_of_getElem? (i := 12) rfl)
theorem d_Mod_together_114 : decode prog_13_method_47_code 114 = .ok (.ifCond .le (7), 3) := id_Mod_together_2 (114, .ifCond .le (7), 3) (List.mem_of_getElem? (i := 13) rfl)
theorem d_Mod_together_117 : decode prog_13_method_47_code 117 = .ok (.iconst 1, 1) := id_Mod_together_2 (117, .iconst 1, 1) (List.mem_of_getElem? (i := 14) rfl)
theorem d_Mod_together_118 : decode prog_13_method_47_code 118 = .ok (.goto (4), 3) := id_Mod_together_2 (118, .goto (4), 3) (List.mem_of_getElem? (i := 15) rfl)
theorem d_Mod_together_121 : decode prog_13_method_47_code 121 = .ok (.iconst 0, 1) := id_Mod_together_2 (121, .iconst 0, 1) (List.mem_of_getElem? (i := 16) rfl)
theorem d_Mod_together_122 : decode prog_13_method_47_code 122 = .ok (.putfield 325, 3) := id_Mod_together_2 (122, .putfield 325, 3) (List.mem_of_getElem? (i := 17) rfl)
theorem d_Mod_together_125 : decode prog_13_method_47_code 125 = .ok (.aload_n 0, 1) := id_Mod_together_2 (125, .aload_n 0, 1) (List.mem_of_getElem? (i := 18) rfl)
theorem d_Mod_together_126 : decode prog_13_method_47_code 126 = .ok (.getfield 220, 3) := id_Mod_together_2 (126, .getfield 220, 3) (List.mem_of_getElem? (i := 19) rfl)
theorem d_Mod_together_129 : decode prog_13_method_47_code 129 = .ok (.bipush (71), 2) := id_Mod_together_2 (129, .bipush (71), 2) (List.mem_of_getElem? (i := 20) rfl)
theorem d_Mod_together_131 : decode prog_13_method_47_code 131 = .ok (.if_icmp .ne (20), 3) := id_Mod_together_2 (131, .if_icmp .ne (20), 3) (List.mem_of_getElem? (i := 21) rfl)
theorem d_Mod_together_134 : decode prog_13_method_47_code 134 = .ok (.aload_n 0, 1) := id_Mod_together_2 (134, .aload_n 0, 1) (List.mem_of_getElem? (i := 22) rfl)
theorem d_Mod_together_135 : decode prog_13_method_47_code 135 = .ok (.aload_n 0, 1) := id_Mod_together_2 (135, .aload_n 0, 1) (List.mem_of_getElem? (i := 23) rfl)
def it_Mod_together_3 : List (Nat × ClassFile.Instr × Nat) := [(136, .getfield 325, 3), (139, .iload_n 2, 1), (140, .if_icmp .ne (7), 3), (143, .iconst 1, 1), (144, .goto (4), 3), (147, .iconst 0, 1), (148, .putfield 325, 3), (151, .return_, 1)]
theorem id_Mod_together_3 : ∀ q ∈ it_Mod_together_3, decode prog_13_method_47_code q.1 = .ok q.2 := by decide +kernel
theorem d_Mod_together_136 : decode prog_13_method_47_code 136 = .ok (.getfield 325, 3) := id_Mod_together_3 (136, .getfield 325, 3) (List.mem_of_getElem? (i := 0) rfl)
theorem d_Mod_together_139 : decode prog_13_method_47_code 139 = .ok (.iload_n 2, 1) := id_Mod_together_3 (139, .iload_n 2, 1) (List.mem_of_getElem? (i := 1) rfl)
theorem d_Mod_together_140 : decode prog_13_method_47_code 140 = .ok (.if_icmp .ne (7), 3) := id_Mod_together_3 (140, .if_icmp .ne (7), 3) (List.mem_of_getElem? (i := 2) rfl)
theorem d_Mod_together_143 : decode prog_13_method_47_code 143 = .ok (.iconst 1, 1) := id_Mod_together_3 (143, .iconst 1, 1) (List.mem_of_getElem? (i := 3) rfl)
theorem d_Mod_together_144 : decode prog_13_method_47_code 144 = .ok (.goto (4), 3) := id_Mod_together_3 (144, .goto (4), 3) (List.mem_of_getElem? (i := 4) rfl)
theorem d_Mod_together_147 : decode prog_13_method_47_code 147 = .ok (.iconst 0, 1) := id_Mod_together_3 (147, .iconst 0, 1) (List.mem_of_getElem? (i := 5) rfl)
theorem d_Mod_together_148 : decode prog_13_method_47_code 148 = .ok (.putfield 325, 3) := id_Mod_together_3 (148, .putfield 325, 3) (List.mem_of_getElem? (i := 6) rfl)
theorem d_Mod_together_151 : decode prog_13_method_47_code 151 = .ok (.return_, 1) := id_Mod_together_3 (151, .return_, 1) (List.mem_of_getElem? (i := 7) rfl)
theorem wC_Mod_together : Cond.code ⟨"WarpMillModel", "together", "(I)V"⟩ prog_13_method_47_code 4 (none) ∈ lw_tb := mem_tb 1436 (by decide +kernel) rfl
theorem cw_Mod_together_Mod_isLane : cW mi_Mod_together mi_Mod_isLane 2 := ⟨wC_Mod_isLane, wi_Mod, ⟨by decide, by decide, by decide +kernel⟩, by decide, by decide⟩
theorem cw_Mod_together_Mod_thread : cW mi_Mod_together mi_Mod_thread 2 := ⟨wC_Mod_thread, wi_Mod, ⟨by decide, by decide, by decide +kernel⟩, by decide, by decide⟩
theorem cw_Mod_together_Mod_reg : cW mi_Mod_together mi_Mod_reg 2 := ⟨wC_Mod_reg, wi_Mod, ⟨by decide, by decide, by decide +kernel⟩, by decide, by decide⟩
theorem cw_Mod_together_Mod_has : cW mi_Mod_together mi_Mod_has 2 := ⟨wC_Mod_has, wi_Mod, ⟨by decide, by decide, by decide +kernel⟩, by decide, by decide⟩
def b_Mod_together_90 (F : Nat) (k9 : Nat → Int32 → Int32 → Int32 → Hp → Option Hp) (x0 : Nat) (x1 : Int32) (x2 : Int32) (x3 : Int32) (s0 : Nat) (s1 : Int32) (s2 : Int32) (h : Hp) : Option Hp := gd (hK h s0 = 12) <| pw (sI h 762 s0 (s1 + s2)) fun h_91_2 => k9 x0 x1 x2 (x3 + 1) h_91_2
set_option maxRecDepth 100000 in
set_option maxHeartbeats 4000000 in
theorem e_Mod_together_90 {G : Gl} (hw : gF G) {h0 : Hp} {F : Nat} {h' : Hp} {k9 : Nat → Int32 → Int32 → Int32 → Hp → Option Hp} (hk9 : ∀ (y0 : Nat) (y1 : Int32) (y2 : Int32) (y3 : Int32) (hh : Hp), k9 y0 y1 y2 y3 hh = some h' → Go G mi_Mod_together h0 (pV h') hh 9 [(0, .ref y0), (1, .int y1), (2, .int y2), (3, .int y3)] []) {x0 : Nat} {x1 : Int32} {x2 : Int32} {x3 : Int32} {s0 : Nat} {s1 : Int32} {s2 : Int32} {h : Hp} (hf : b_Mod_together_90 F k9 x0 x1 x2 x3 s0 s1 s2 h = some h') : Go G mi_Mod_together h0 (pV h') h 90 [(0, .ref x0), (1, .int x1), (2, .int x2), (3, .int x3)] [.int s2, .int s1, .ref s0] := by
  unfold b_Mod_together_90 at hf
  refine g_iadd d_Mod_together_90 ?_
  obtain ⟨k_91, hf⟩ := gd_s hf
  refine fp_Mod_votes hw lf_Mod_325 d_Mod_together_91 k_91 ?_
  have hf := pw_b hf
  refine g_iinc (_ + 1) d_Mod_together_94 rfl (by rfl) (by decide) ?_
  show Go _ _ _ _ _ _ [(0, _), (1, _), (2, _), (3, _)] _
  refine g_goto 9 d_Mod_together_97 (by decide) ?_
  exact hk9 _ _ _ _ _ hf
def b_Mod_together_48 (F : Nat) (k9 : Nat → Int32 → Int32 → Int32 → Hp → Option Hp) (x0 : Nat) (x1 : Int32) (x2 : Int32) (x3 : Int32) (s0 : Nat) (s1 : Int32) (s2 : Int32) (h : Hp) : Option Hp := gd (hK h s0 = 100) <| ix s1 (hN h s0) fun j_48_2 => pw (sA h s0 j_48_2 s2) fun h_48_3 => gd (hK h_48_3 x0 = 12) <| rq h_48_3 (hR h_48_3 755 x0) 101 fun a_50_2 => ix x3 (hN h_48_3 a_50_2) fun j_54 => if (hA h_48_3 a_50_2 j_54) = 0 then (k9 x0 x1 x2 (x3 + 1) h_48_3) else (cl (f_Mod_thread F x1 x3 h_48_3) fun v_72 h_72 => gd (hK h_72 x0 = 12) <| cl (f_Mod_has F x0 v_72 (hI h_72 758 x0) h_72) fun v_79 h_79 => if v_79 = 0 then (b_Mod_together_90 F k9 x0 x1 (x2 + 1) x3 x0 (hI h_48_3 762 x0) (0 : Int32) h_79) else (b_Mod_together_90 F k9 x0 x1 (x2 + 1) x3 x0 (hI h_48_3 762 x0) (1 : Int32) h_79))
set_option maxRecDepth 100000 in
set_option maxHeartbeats 4000000 in
theorem e_Mod_together_48 {G : Gl} (hw : gF G) {h0 : Hp} {F : Nat} {h' : Hp} {k9 : Nat → Int32 → Int32 → Int32 → Hp → Option Hp} (hk9 : ∀ (y0 : Nat) (y1 : Int32) (y2 : Int32) (y3 : Int32) (hh : Hp), k9 y0 y1 y2 y3 hh = some h' → Go G mi_Mod_together h0 (pV h') hh 9 [(0, .ref y0), (1, .int y1), (2, .int y2), (3, .int y3)] []) {x0 : Nat} {x1 : Int32} {x2 : Int32} {x3 : Int32} {s0 : Nat} {s1 : Int32} {s2 : Int32} {h : Hp} (hf : b_Mod_together_48 F k9 x0 x1 x2 x3 s0 s1 s2 h = some h') : Go G mi_Mod_together h0 (pV h') h 48 [(0, .ref x0), (1, .int x1), (2, .int x2), (3, .int x3)] [.int s2, .int s1, .ref s0] := by
  unfold b_Mod_together_48 at hf
  obtain ⟨k_48, hf⟩ := gd_s hf
  obtain ⟨i_48_2, hf⟩ := ix_s hf
  refine g_iast hw k_48 i_48_2 d_Mod_together_48 ?_
  have hf := pw_b hf
  refine g_aload_n d_Mod_together_49 rfl ?_
  obtain ⟨k_50, hf⟩ := gd_s hf
  obtain ⟨a_50_2, e_50_2, k_50_2, hf⟩ := rq_s hf
  refine fgs_Mod_does lf_Mod_111 d_Mod_together_50 k_50 e_50_2 ?_
  refine g_iload_n d_Mod_together_53 rfl ?_
  obtain ⟨i_54, hf⟩ := ix_s hf
  refine g_zald k_50_2 i_54 d_Mod_together_54 ?_
  refine g_if_ne 61 d_Mod_together_55 (by decide) (fun c_55 => ?_) (fun c_55 => ?_)
  · have hf := ifn hf c_55
    refine g_iinc (_ + 1) d_Mod_together_61 rfl (by rfl) (by decide) ?_
    show Go _ _ _ _ _ _ [(0, _), (1, _), (2, _), (3, _)] _
    refine g_aload_n d_Mod_together_64 rfl ?_
    refine g_dup (by first | rfl | exact cat_rf _) d_Mod_together_65 ?_
    refine fg_Mod_votes lf_Mod_325 d_Mod_together_66 k_50 ?_
    refine g_aload_n d_Mod_together_69 rfl ?_
    refine g_iload_n d_Mod_together_70 rfl ?_
    refine g_iload_n d_Mod_together_71 rfl ?_
    obtain ⟨v_72, h_72, e_72, hf⟩ := cl_s hf
    refine g_callS (mz := mi_Mod_thread) (e_Mod_thread e_72) cw_Mod_together_Mod_thread lm_Mod_211 wS_Mod_thread d_Mod_together_72 rfl rfl (by first | exact Nat.le_of_ble_eq_true rfl | simp [cat_rf, Value.category]) (fun r1 h1 hp hro => ?_)
    obtain ⟨rfl, rfl⟩ := hp
    dsimp only [Option.toList_some, Option.toList_none, List.cons_append, List.nil_append]
    refine g_aload_n d_Mod_together_75 rfl ?_
    obtain ⟨k_76, hf⟩ := gd_s hf
    refine fg_Mod_a lf_Mod_228 d_Mod_together_76 k_76 ?_
    obtain ⟨v_79, h_79, e_79, hf⟩ := cl_s hf
    refine g_callV (mz := mi_Mod_has) (e_Mod_has e_79) cw_Mod_together_Mod_has lm_Mod_291 wI_Mod_has wV_Mod_has (ci := 11) k_76 (by decide) rfl rfl d_Mod_together_79 rfl rfl (by first | exact Nat.le_of_ble_eq_true rfl | simp [cat_rf, Value.category]) (fun r1 h1 hp hro => ?_)
    obtain ⟨rfl, rfl⟩ := hp
    dsimp only [Option.toList_some, Option.toList_none, List.cons_append, List.nil_append]
    refine g_if_eq 89 d_Mod_together_82 (by decide) (fun c_82 => ?_) (fun c_82 => ?_)
    · have hf := ifp hf c_82
      refine g_iconst 0 d_Mod_together_89 (by decide) ?_
      have key := e_Mod_together_90 hw (G := G) (h0 := h0) hk9 hf
      exact key
    · have hf := ifn hf c_82
      refine g_iconst 1 d_Mod_together_85 (by decide) ?_
      refine g_goto 90 d_Mod_together_86 (by decide) ?_
      have key := e_Mod_together_90 hw (G := G) (h0 := h0) hk9 hf
      exact key
  · have hf := ifp hf c_55
    refine g_goto 94 d_Mod_together_58 (by decide) ?_
    refine g_iinc (_ + 1) d_Mod_together_94 rfl (by rfl) (by decide) ?_
    show Go _ _ _ _ _ _ [(0, _), (1, _), (2, _), (3, _)] _
    refine g_goto 9 d_Mod_together_97 (by decide) ?_
    exact hk9 _ _ _ _ _ hf
def b_Mod_together_148 (F : Nat) (s0 : Nat) (s1 : Int32) (h : Hp) : Option Hp := gd (hK h s0 = 12) <| pw (sI h 762 s0 s1) fun h_148_2 => some h_148_2
set_option maxRecDepth 100000 in
set_option maxHeartbeats 4000000 in
theorem e_Mod_together_148 {G : Gl} (hw : gF G) {h0 : Hp} {F : Nat} {h' : Hp}   {s0 : Nat} {s1 : Int32} {h : Hp} (hf : b_Mod_together_148 F s0 s1 h = some h') : Go G mi_Mod_together h0 (pV h') h 148 [] [.int s1, .ref s0] := by
  unfold b_Mod_together_148 at hf
  obtain ⟨k_148, hf⟩ := gd_s hf
  refine fp_Mod_votes hw lf_Mod_325 d_Mod_together_148 k_148 ?_
  have hf := pw_b hf
  exact Go.ret none trivial rfl d_Mod_together_151 (pV_of hf)
def b_Mod_together_125 (F : Nat) (x0 : Nat) (x2 : Int32) (h : Hp) : Option Hp := gd (hK h x0 = 12) <| if (hI h 756 x0) = (71 : Int32) then (if (hI h 762 x0) = x2 then (b_Mod_together_148 F x0 (1 : Int32) h) else (b_Mod_together_148 F x0 (0 : Int32) h)) else (some h)
set_option maxRecDepth 100000 in
set_option maxHeartbeats 4000000 in
theorem e_Mod_together_125 {G : Gl} (hw : gF G) {h0 : Hp} {F : Nat} {h' : Hp}   {x0 : Nat} {x2 : Int32} {h : Hp} (hf : b_Mod_together_125 F x0 x2 h = some h') : Go G mi_Mod_together h0 (pV h') h 125 [(0, .ref x0), (2, .int x2)] [] := by
  unfold b_Mod_together_125 at hf
  refine g_aload_n d_Mod_together_125 rfl ?_
  obtain ⟨k_126, hf⟩ := gd_s hf
  refine fg_Mod_op lf_Mod_220 d_Mod_together_126 k_126 ?_
  refine g_bipush (71) d_Mod_together_129 (by decide) ?_
  refine g_icmp_ne 151 d_Mod_together_131 (by decide) (fun c_131 => ?_) (fun c_131 => ?_)
  · have hf := ifn hf c_131
    exact Go.ret none trivial rfl d_Mod_together_151 (pV_of hf)
  · have hf := ifp hf c_131
    refine g_aload_n d_Mod_together_134 rfl ?_
    refine g_aload_n d_Mod_together_135 rfl ?_
    refine fg_Mod_votes lf_Mod_325 d_Mod_together_136 k_126 ?_
    refine g_iload_n d_Mod_together_139 rfl ?_
    refine g_icmp_ne 147 d_Mod_together_140 (by decide) (fun c_140 => ?_) (fun c_140 => ?_)
    · have hf := ifn hf c_140
      refine g_iconst 0 d_Mod_together_147 (by decide) ?_
      refine Go.locals [] rfl ?_
      have key := e_Mod_together_148 hw (G := G) (h0 := h0)  hf
      exact key
    · have hf := ifp hf c_140
      refine g_iconst 1 d_Mod_together_143 (by decide) ?_
      refine g_goto 148 d_Mod_together_144 (by decide) ?_
      refine Go.locals [] rfl ?_
      have key := e_Mod_together_148 hw (G := G) (h0 := h0)  hf
      exact key
def b_Mod_together_122 (F : Nat) (x0 : Nat) (x2 : Int32) (s0 : Nat) (s1 : Int32) (h : Hp) : Option Hp := gd (hK h s0 = 12) <| pw (sI h 762 s0 s1) fun h_122_2 => b_Mod_together_125 F x0 x2 h_122_2
set_option maxRecDepth 100000 in
set_option maxHeartbeats 4000000 in
theorem e_Mod_together_122 {G : Gl} (hw : gF G) {h0 : Hp} {F : Nat} {h' : Hp}   {x0 : Nat} {x2 : Int32} {s0 : Nat} {s1 : Int32} {h : Hp} (hf : b_Mod_together_122 F x0 x2 s0 s1 h = some h') : Go G mi_Mod_together h0 (pV h') h 122 [(0, .ref x0), (2, .int x2)] [.int s1, .ref s0] := by
  unfold b_Mod_together_122 at hf
  obtain ⟨k_122, hf⟩ := gd_s hf
  refine fp_Mod_votes hw lf_Mod_325 d_Mod_together_122 k_122 ?_
  have hf := pw_b hf
  have key := e_Mod_together_125 hw (G := G) (h0 := h0)  hf
  exact key
def b_Mod_together_9 (F : Nat) : Nat → Nat → Int32 → Int32 → Int32 → Hp → Option Hp
  | 0 => fun _ _ _ _ _ => none
  | n + 1 => fun x0 x1 x2 x3 h => gd (hK h x0 = 12) <| if (hI h 705 x0) ≤ x3 then (if (hI h 756 x0) = (70 : Int32) then (if (hI h 762 x0) ≤ 0 then (b_Mod_together_122 F x0 x2 x0 (0 : Int32) h) else (b_Mod_together_122 F x0 x2 x0 (1 : Int32) h)) else (b_Mod_together_125 F x0 x2 h)) else (rq h (hR h 763 x0) 100 fun a_18 => cl (f_Mod_isLane F x0 x1 x3 h) fun v_25 h_25 => if v_25 = 0 then (b_Mod_together_48 F (b_Mod_together_9 F n) x0 x1 x2 x3 a_18 x3 (0 : Int32) h_25) else (cl (f_Mod_thread F x1 x3 h_25) fun v_34 h_34 => gd (hK h_34 x0 = 12) <| cl (f_Mod_reg F x0 v_34 (hI h_34 758 x0) h_34) fun v_41 h_41 => b_Mod_together_48 F (b_Mod_together_9 F n) x0 x1 x2 x3 a_18 x3 v_41 h_41))
set_option maxRecDepth 100000 in
set_option maxHeartbeats 4000000 in
theorem e_Mod_together_9 {G : Gl} (hw : gF G) {h0 : Hp} {F : Nat} {h' : Hp}   : ∀ (n : Nat) (x0 : Nat) (x1 : Int32) (x2 : Int32) (x3 : Int32) (h : Hp), b_Mod_together_9 F n x0 x1 x2 x3 h = some h' → Go G mi_Mod_together h0 (pV h') h 9 [(0, .ref x0), (1, .int x1), (2, .int x2), (3, .int x3)] [] := by
  intro n
  induction n with
  | zero =>
    intro _ _ _ _ _ hf
    exact nm_s hf
  | succ n ih =>
    intro x0 x1 x2 x3 h hf
    unfold b_Mod_together_9 at hf
    refine g_iload_n d_Mod_together_9 rfl ?_
    refine g_aload_n d_Mod_together_10 rfl ?_
    obtain ⟨k_11, hf⟩ := gd_s hf
    refine fg_Mod_lanes lf_Mod_7 d_Mod_together_11 k_11 ?_
    refine g_icmp_ge 100 d_Mod_together_14 (by decide) (fun c_14 => ?_) (fun c_14 => ?_)
    · have hf := ifp hf c_14
      refine g_aload_n d_Mod_together_100 rfl ?_
      refine fg_Mod_op lf_Mod_220 d_Mod_together_101 k_11 ?_
      refine g_bipush (70) d_Mod_together_104 (by decide) ?_
      refine g_icmp_ne 125 d_Mod_together_106 (by decide) (fun c_106 => ?_) (fun c_106 => ?_)
      · have hf := ifn hf c_106
        refine Go.locals [0, 2] rfl ?_
        have key := e_Mod_together_125 hw (G := G) (h0 := h0)  hf
        exact key
      · have hf := ifp hf c_106
        refine g_aload_n d_Mod_together_109 rfl ?_
        refine g_aload_n d_Mod_together_110 rfl ?_
        refine fg_Mod_votes lf_Mod_325 d_Mod_together_111 k_11 ?_
        refine g_if_le 121 d_Mod_together_114 (by decide) (fun c_114 => ?_) (fun c_114 => ?_)
        · have hf := ifp hf c_114
          refine g_iconst 0 d_Mod_together_121 (by decide) ?_
          refine Go.locals [0, 2] rfl ?_
          have key := e_Mod_together_122 hw (G := G) (h0 := h0)  hf
          exact key
        · have hf := ifn hf c_114
          refine g_iconst 1 d_Mod_together_117 (by decide) ?_
          refine g_goto 122 d_Mod_together_118 (by decide) ?_
          refine Go.locals [0, 2] rfl ?_
          have key := e_Mod_together_122 hw (G := G) (h0 := h0)  hf
          exact key
    · have hf := ifn hf c_14
      refine g_aload_n d_Mod_together_17 rfl ?_
      obtain ⟨a_18, e_18, k_18, hf⟩ := rq_s hf
      refine fgs_Mod_had lf_Mod_114 d_Mod_together_18 k_11 e_18 ?_
      refine g_iload_n d_Mod_together_21 rfl ?_
      refine g_aload_n d_Mod_together_22 rfl ?_
      refine g_iload_n d_Mod_together_23 rfl ?_
      refine g_iload_n d_Mod_together_24 rfl ?_
      obtain ⟨v_25, h_25, e_25, hf⟩ := cl_s hf
      refine g_callV (mz := mi_Mod_isLane) (e_Mod_isLane e_25) cw_Mod_together_Mod_isLane lm_Mod_208 wI_Mod_isLane wV_Mod_isLane (ci := 11) k_11 (by decide) rfl rfl d_Mod_together_25 rfl rfl (by first | exact Nat.le_of_ble_eq_true rfl | simp [cat_rf, Value.category]) (fun r1 h1 hp hro => ?_)
      obtain ⟨rfl, rfl⟩ := hp
      dsimp only [Option.toList_some, Option.toList_none, List.cons_append, List.nil_append]
      refine g_if_eq 47 d_Mod_together_28 (by decide) (fun c_28 => ?_) (fun c_28 => ?_)
      · have hf := ifp hf c_28
        refine g_iconst 0 d_Mod_together_47 (by decide) ?_
        have key := e_Mod_together_48 hw (G := G) (h0 := h0) (fun _ _ _ _ _ q => ih _ _ _ _ _ q) hf
        exact key
      · have hf := ifn hf c_28
        refine g_aload_n d_Mod_together_31 rfl ?_
        refine g_iload_n d_Mod_together_32 rfl ?_
        refine g_iload_n d_Mod_together_33 rfl ?_
        obtain ⟨v_34, h_34, e_34, hf⟩ := cl_s hf
        refine g_callS (mz := mi_Mod_thread) (e_Mod_thread e_34) cw_Mod_together_Mod_thread lm_Mod_211 wS_Mod_thread d_Mod_together_34 rfl rfl (by first | exact Nat.le_of_ble_eq_true rfl | simp [cat_rf, Value.category]) (fun r1 h1 hp hro => ?_)
        obtain ⟨rfl, rfl⟩ := hp
        dsimp only [Option.toList_some, Option.toList_none, List.cons_append, List.nil_append]
        refine g_aload_n d_Mod_together_37 rfl ?_
        obtain ⟨k_38, hf⟩ := gd_s hf
        refine fg_Mod_a lf_Mod_228 d_Mod_together_38 k_38 ?_
        obtain ⟨v_41, h_41, e_41, hf⟩ := cl_s hf
        refine g_callV (mz := mi_Mod_reg) (e_Mod_reg e_41) cw_Mod_together_Mod_reg lm_Mod_284 wI_Mod_reg wV_Mod_reg (ci := 11) k_38 (by decide) rfl rfl d_Mod_together_41 rfl rfl (by first | exact Nat.le_of_ble_eq_true rfl | simp [cat_rf, Value.category]) (fun r1 h1 hp hro => ?_)
        obtain ⟨rfl, rfl⟩ := hp
        dsimp only [Option.toList_some, Option.toList_none, List.cons_append, List.nil_append]
        refine g_goto 48 d_Mod_together_44 (by decide) ?_
        have key := e_Mod_together_48 hw (G := G) (h0 := h0) (fun _ _ _ _ _ q => ih _ _ _ _ _ q) hf
        exact key
def f_Mod_together (F : Nat) (x0 : Nat) (x1 : Int32) (h : Hp) : Option Hp := gd (hK h x0 = 12) <| pw (sI h 762 x0 (0 : Int32)) fun h_2_2 => b_Mod_together_9 F F x0 x1 (0 : Int32) (0 : Int32) h_2_2
set_option maxRecDepth 100000 in
set_option maxHeartbeats 4000000 in
theorem e_Mod_together {G : Gl} (hw : gF G) {F : Nat} {h' : Hp} {x0 : Nat} {x1 : Int32} {h : Hp} (hf : f_Mod_together F x0 x1 h = some h') : Ex G mi_Mod_together [.ref x0, .int x1] h (pV h') := by
  unfold f_Mod_together at hf
  refine Ex.of nmV (by decide) (Nat.le_of_ble_eq_true rfl) ?_
  show Go G mi_Mod_together h _ h 0 [(0, .ref x0), (1, .int x1)] []
  refine g_aload_n d_Mod_together_0 rfl ?_
  refine g_iconst 0 d_Mod_together_1 (by decide) ?_
  obtain ⟨k_2, hf⟩ := gd_s hf
  refine fp_Mod_votes hw lf_Mod_325 d_Mod_together_2 k_2 ?_
  have hf := pw_b hf
  refine g_iconst 0 d_Mod_together_5 (by decide) ?_
  refine g_istore_n d_Mod_together_6 (by decide) ?_
  show Go _ _ _ _ _ _ [(0, _), (1, _), (2, _)] _
  refine g_iconst 0 d_Mod_together_7 (by decide) ?_
  refine g_istore_n d_Mod_together_8 (by decide) ?_
  show Go _ _ _ _ _ _ [(0, _), (1, _), (2, _), (3, _)] _
  have key := e_Mod_together_9 hw (G := G) (h0 := h)  F _ _ _ _ _ hf
  exact key
abbrev mi_Mod_told : MI := (⟨"WarpMillModel", "told", "(II)I"⟩, prog_13_method_50_code, 3, some .int, 0, 0)
def it_Mod_told_0 : List (Nat × ClassFile.Instr × Nat) := [(0, .aload_n 0, 1), (1, .getfield 237, 3), (4, .tableswitch (80) (0) (5) #[(40), (54), (61), (66), (71), (73)], 40), (44, .aload_n 0, 1), (45, .getfield 7, 3), (48, .aload_n 0, 1), (49, .getfield 57, 3), (52, .iload_n 1, 1), (53, .iaload, 1), (54, .imul, 1), (55, .iload_n 2, 1), (56, .iadd, 1), (57, .ireturn, 1), (58, .aload_n 0, 1), (59, .getfield 54, 3), (62, .iload_n 1, 1), (63, .iaload, 1), (64, .ireturn, 1), (65, .aload_n 0, 1), (66, .getfield 153, 3), (69, .ireturn, 1), (70, .aload_n 0, 1), (71, .getfield 150, 3), (74, .ireturn, 1)]
theorem id_Mod_told_0 : ∀ q ∈ it_Mod_told_0, decode prog_13_method_50_code q.1 = .ok q.2 := by decide +kernel
theorem d_Mod_told_0 : decode prog_13_method_50_code 0 = .ok (.aload_n 0, 1) := id_Mod_told_0 (0, .aload_n 0, 1) (List.mem_of_getElem? (i := 0) rfl)
theorem d_Mod_told_1 : decode prog_13_method_50_code 1 = .ok (.getfield 237, 3) := id_Mod_told_0 (1, .getfield 237, 3) (List.mem_of_getElem? (i := 1) rfl)
theorem d_Mod_told_4 : decode prog_13_method_50_code 4 = .ok (.tableswitch (80) (0) (5) #[(40), (54), (61), (66), (71), (73)], 40) := id_Mod_told_0 (4, .tableswitch (80) (0) (5) #[(40), (54), (61), (66), (71), (73)], 40) (List.mem_of_getElem? (i := 2) rfl)
theorem d_Mod_told_44 : decode prog_13_method_50_code 44 = .ok (.aload_n 0, 1) := id_Mod_told_0 (44, .aload_n 0, 1) (List.mem_of_getElem? (i := 3) rfl)
theorem d_Mod_told_45 : decode prog_13_method_50_code 45 = .ok (.getfield 7, 3) := id_Mod_told_0 (45, .getfield 7, 3) (List.mem_of_getElem? (i := 4) rfl)
theorem d_Mod_told_48 : decode prog_13_method_50_code 48 = .ok (.aload_n 0, 1) := id_Mod_told_0 (48, .aload_n 0, 1) (List.mem_of_getElem? (i := 5) rfl)
theorem d_Mod_told_49 : decode prog_13_method_50_code 49 = .ok (.getfield 57, 3) := id_Mod_told_0 (49, .getfield 57, 3) (List.mem_of_getElem? (i := 6) rfl)
theorem d_Mod_told_52 : decode prog_13_method_50_code 52 = .ok (.iload_n 1, 1) := id_Mod_told_0 (52, .iload_n 1, 1) (List.mem_of_getElem? (i := 7) rfl)
theorem d_Mod_told_53 : decode prog_13_method_50_code 53 = .ok (.iaload, 1) := id_Mod_told_0 (53, .iaload, 1) (List.mem_of_getElem? (i := 8) rfl)
theorem d_Mod_told_54 : decode prog_13_method_50_code 54 = .ok (.imul, 1) := id_Mod_told_0 (54, .imul, 1) (List.mem_of_getElem? (i := 9) rfl)
theorem d_Mod_told_55 : decode prog_13_method_50_code 55 = .ok (.iload_n 2, 1) := id_Mod_told_0 (55, .iload_n 2, 1) (List.mem_of_getElem? (i := 10) rfl)
theorem d_Mod_told_56 : decode prog_13_method_50_code 56 = .ok (.iadd, 1) := id_Mod_told_0 (56, .iadd, 1) (List.mem_of_getElem? (i := 11) rfl)
theorem d_Mod_told_57 : decode prog_13_method_50_code 57 = .ok (.ireturn, 1) := id_Mod_told_0 (57, .ireturn, 1) (List.mem_of_getElem? (i := 12) rfl)
theorem d_Mod_told_58 : decode prog_13_method_50_code 58 = .ok (.aload_n 0, 1) := id_Mod_told_0 (58, .aload_n 0, 1) (List.mem_of_getElem? (i := 13) rfl)
theorem d_Mod_told_59 : decode prog_13_method_50_code 59 = .ok (.getfield 54, 3) := id_Mod_told_0 (59, .getfield 54, 3) (List.mem_of_getElem? (i := 14) rfl)
theorem d_Mod_told_62 : decode prog_13_method_50_code 62 = .ok (.iload_n 1, 1) := id_Mod_told_0 (62, .iload_n 1, 1) (List.mem_of_getElem? (i := 15) rfl)
theorem d_Mod_told_63 : decode prog_13_method_50_code 63 = .ok (.iaload, 1) := id_Mod_told_0 (63, .iaload, 1) (List.mem_of_getElem? (i := 16) rfl)
theorem d_Mod_told_64 : decode prog_13_method_50_code 64 = .ok (.ireturn, 1) := id_Mod_told_0 (64, .ireturn, 1) (List.mem_of_getElem? (i := 17) rfl)
theorem d_Mod_told_65 : decode prog_13_method_50_code 65 = .ok (.aload_n 0, 1) := id_Mod_told_0 (65, .aload_n 0, 1) (List.mem_of_getElem? (i := 18) rfl)
theorem d_Mod_told_66 : decode prog_13_method_50_code 66 = .ok (.getfield 153, 3) := id_Mod_told_0 (66, .getfield 153, 3) (List.mem_of_getElem? (i := 19) rfl)
theorem d_Mod_told_69 : decode prog_13_method_50_code 69 = .ok (.ireturn, 1) := id_Mod_told_0 (69, .ireturn, 1) (List.mem_of_getElem? (i := 20) rfl)
theorem d_Mod_told_70 : decode prog_13_method_50_code 70 = .ok (.aload_n 0, 1) := id_Mod_told_0 (70, .aload_n 0, 1) (List.mem_of_getElem? (i := 21) rfl)
theorem d_Mod_told_71 : decode prog_13_method_50_code 71 = .ok (.getfield 150, 3) := id_Mod_told_0 (71, .getfield 150, 3) (List.mem_of_getElem? (i := 22) rfl)
theorem d_Mod_told_74 : decode prog_13_method_50_code 74 = .ok (.ireturn, 1) := id_Mod_told_0 (74, .ireturn, 1) (List.mem_of_getElem? (i := 23) rfl)
def it_Mod_told_1 : List (Nat × ClassFile.Instr × Nat) := [(75, .iload_n 2, 1), (76, .ireturn, 1), (77, .aload_n 0, 1), (78, .getfield 57, 3), (81, .iload_n 1, 1), (82, .iaload, 1), (83, .ireturn, 1), (84, .aload_n 0, 1), (85, .getfield 7, 3), (88, .ireturn, 1)]
theorem id_Mod_told_1 : ∀ q ∈ it_Mod_told_1, decode prog_13_method_50_code q.1 = .ok q.2 := by decide +kernel
theorem d_Mod_told_75 : decode prog_13_method_50_code 75 = .ok (.iload_n 2, 1) := id_Mod_told_1 (75, .iload_n 2, 1) (List.mem_of_getElem? (i := 0) rfl)
theorem d_Mod_told_76 : decode prog_13_method_50_code 76 = .ok (.ireturn, 1) := id_Mod_told_1 (76, .ireturn, 1) (List.mem_of_getElem? (i := 1) rfl)
theorem d_Mod_told_77 : decode prog_13_method_50_code 77 = .ok (.aload_n 0, 1) := id_Mod_told_1 (77, .aload_n 0, 1) (List.mem_of_getElem? (i := 2) rfl)
theorem d_Mod_told_78 : decode prog_13_method_50_code 78 = .ok (.getfield 57, 3) := id_Mod_told_1 (78, .getfield 57, 3) (List.mem_of_getElem? (i := 3) rfl)
theorem d_Mod_told_81 : decode prog_13_method_50_code 81 = .ok (.iload_n 1, 1) := id_Mod_told_1 (81, .iload_n 1, 1) (List.mem_of_getElem? (i := 4) rfl)
theorem d_Mod_told_82 : decode prog_13_method_50_code 82 = .ok (.iaload, 1) := id_Mod_told_1 (82, .iaload, 1) (List.mem_of_getElem? (i := 5) rfl)
theorem d_Mod_told_83 : decode prog_13_method_50_code 83 = .ok (.ireturn, 1) := id_Mod_told_1 (83, .ireturn, 1) (List.mem_of_getElem? (i := 6) rfl)
theorem d_Mod_told_84 : decode prog_13_method_50_code 84 = .ok (.aload_n 0, 1) := id_Mod_told_1 (84, .aload_n 0, 1) (List.mem_of_getElem? (i := 7) rfl)
theorem d_Mod_told_85 : decode prog_13_method_50_code 85 = .ok (.getfield 7, 3) := id_Mod_told_1 (85, .getfield 7, 3) (List.mem_of_getElem? (i := 8) rfl)
theorem d_Mod_told_88 : decode prog_13_method_50_code 88 = .ok (.ireturn, 1) := id_Mod_told_1 (88, .ireturn, 1) (List.mem_of_getElem? (i := 9) rfl)
theorem wC_Mod_told : Cond.code ⟨"WarpMillModel", "told", "(II)I"⟩ prog_13_method_50_code 3 (some .int) ∈ lw_tb := mem_tb 1444 (by decide +kernel) rfl
def f_Mod_told (F : Nat) (x0 : Nat) (x1 : Int32) (x2 : Int32) (h : Hp) : Option (Int32 × Hp) := gd (hK h x0 = 12) <| if (hI h 761 x0) = 0 then (rq h (hR h 736 x0) 100 fun a_49 => ix x1 (hN h a_49) fun j_53 => some ((((hI h 705 x0) * (hA h a_49 j_53)) + x2), h)) else if (hI h 761 x0) = 1 then (rq h (hR h 735 x0) 100 fun a_59 => ix x1 (hN h a_59) fun j_63 => some ((hA h a_59 j_63), h)) else if (hI h 761 x0) = 2 then (some ((hI h 717 x0), h)) else if (hI h 761 x0) = 3 then (some ((hI h 716 x0), h)) else if (hI h 761 x0) = 4 then (some (x2, h)) else if (hI h 761 x0) = 5 then (rq h (hR h 736 x0) 100 fun a_78 => ix x1 (hN h a_78) fun j_82 => some ((hA h a_78 j_82), h)) else (some ((hI h 705 x0), h))
set_option maxRecDepth 100000 in
set_option maxHeartbeats 4000000 in
theorem e_Mod_told {G : Gl} {F : Nat} {r : Int32} {h' : Hp} {x0 : Nat} {x1 : Int32} {x2 : Int32} {h : Hp} (hf : f_Mod_told F x0 x1 x2 h = some (r, h')) : Ex G mi_Mod_told [.ref x0, .int x1, .int x2] h (pI r h') := by
  unfold f_Mod_told at hf
  refine Ex.of nmI (by decide) (Nat.le_of_ble_eq_true rfl) ?_
  show Go G mi_Mod_told h _ h 0 [(0, .ref x0), (1, .int x1), (2, .int x2)] []
  refine g_aload_n d_Mod_told_0 rfl ?_
  obtain ⟨k_1, hf⟩ := gd_s hf
  refine fg_Mod_n lf_Mod_237 d_Mod_told_1 k_1 ?_
  refine g_sw sw_0_5 (fun hs_4 => ?_)
  rcases hs_4 with hs_4 | hs_4 | hs_4 | hs_4 | hs_4 | hs_4 | hs_4
  · refine g_tableOut 84 d_Mod_told_4 hs_4 (by decide) ?_
    have hf := ifn hf (sw_ne hs_4 0 (by decide) (by decide))
    have hf := ifn hf (sw_ne hs_4 1 (by decide) (by decide))
    have hf := ifn hf (sw_ne hs_4 2 (by decide) (by decide))
    have hf := ifn hf (sw_ne hs_4 3 (by decide) (by decide))
    have hf := ifn hf (sw_ne hs_4 4 (by decide) (by decide))
    have hf := ifn hf (sw_ne hs_4 5 (by decide) (by decide))
    refine g_aload_n d_Mod_told_84 rfl ?_
    refine fg_Mod_lanes lf_Mod_7 d_Mod_told_85 k_1 ?_
    exact Go.ret (some _) (rOk_i _) rfl d_Mod_told_88 (pI_of hf)
  · refine g_tableIn 44 d_Mod_told_4 (by rw [hs_4]; decide) (by rw [hs_4]; decide) (by rw [hs_4]; rfl) (by decide) ?_
    have hf := ifp hf hs_4
    refine g_aload_n d_Mod_told_44 rfl ?_
    refine fg_Mod_lanes lf_Mod_7 d_Mod_told_45 k_1 ?_
    refine g_aload_n d_Mod_told_48 rfl ?_
    obtain ⟨a_49, e_49, k_49, hf⟩ := rq_s hf
    refine fgs_Mod_slotWarp lf_Mod_57 d_Mod_told_49 k_1 e_49 ?_
    refine g_iload_n d_Mod_told_52 rfl ?_
    obtain ⟨i_53, hf⟩ := ix_s hf
    refine g_iald k_49 i_53 d_Mod_told_53 ?_
    refine g_imul d_Mod_told_54 ?_
    refine g_iload_n d_Mod_told_55 rfl ?_
    refine g_iadd d_Mod_told_56 ?_
    exact Go.ret (some _) (rOk_i _) rfl d_Mod_told_57 (pI_of hf)
  · refine g_tableIn 58 d_Mod_told_4 (by rw [hs_4]; decide) (by rw [hs_4]; decide) (by rw [hs_4]; rfl) (by decide) ?_
    have hf := ifn hf (sw_d hs_4 (by decide))
    have hf := ifp hf hs_4
    refine g_aload_n d_Mod_told_58 rfl ?_
    obtain ⟨a_59, e_59, k_59, hf⟩ := rq_s hf
    refine fgs_Mod_slotBlock lf_Mod_54 d_Mod_told_59 k_1 e_59 ?_
    refine g_iload_n d_Mod_told_62 rfl ?_
    obtain ⟨i_63, hf⟩ := ix_s hf
    refine g_iald k_59 i_63 d_Mod_told_63 ?_
    exact Go.ret (some _) (rOk_i _) rfl d_Mod_told_64 (pI_of hf)
  · refine g_tableIn 65 d_Mod_told_4 (by rw [hs_4]; decide) (by rw [hs_4]; decide) (by rw [hs_4]; rfl) (by decide) ?_
    have hf := ifn hf (sw_d hs_4 (by decide))
    have hf := ifn hf (sw_d hs_4 (by decide))
    have hf := ifp hf hs_4
    refine g_aload_n d_Mod_told_65 rfl ?_
    refine fg_Mod_threads lf_Mod_153 d_Mod_told_66 k_1 ?_
    exact Go.ret (some _) (rOk_i _) rfl d_Mod_told_69 (pI_of hf)
  · refine g_tableIn 70 d_Mod_told_4 (by rw [hs_4]; decide) (by rw [hs_4]; decide) (by rw [hs_4]; rfl) (by decide) ?_
    have hf := ifn hf (sw_d hs_4 (by decide))
    have hf := ifn hf (sw_d hs_4 (by decide))
    have hf := ifn hf (sw_d hs_4 (by decide))
    have hf := ifp hf hs_4
    refine g_aload_n d_Mod_told_70 rfl ?_
    refine fg_Mod_blocks lf_Mod_150 d_Mod_told_71 k_1 ?_
    exact Go.ret (some _) (rOk_i _) rfl d_Mod_told_74 (pI_of hf)
  · refine g_tableIn 75 d_Mod_told_4 (by rw [hs_4]; decide) (by rw [hs_4]; decide) (by rw [hs_4]; rfl) (by decide) ?_
    have hf := ifn hf (sw_d hs_4 (by decide))
    have hf := ifn hf (sw_d hs_4 (by decide))
    have hf := ifn hf (sw_d hs_4 (by decide))
    have hf := ifn hf (sw_d hs_4 (by decide))
    have hf := ifp hf hs_4
    refine g_iload_n d_Mod_told_75 rfl ?_
    exact Go.ret (some _) (rOk_i _) rfl d_Mod_told_76 (pI_of hf)
  · refine g_tableIn 77 d_Mod_told_4 (by rw [hs_4]; decide) (by rw [hs_4]; decide) (by rw [hs_4]; rfl) (by decide) ?_
    have hf := ifn hf (sw_d hs_4 (by decide))
    have hf := ifn hf (sw_d hs_4 (by decide))
    have hf := ifn hf (sw_d hs_4 (by decide))
    have hf := ifn hf (sw_d hs_4 (by decide))
    have hf := ifn hf (sw_d hs_4 (by decide))
    have hf := ifp hf hs_4
    refine g_aload_n d_Mod_told_77 rfl ?_
    obtain ⟨a_78, e_78, k_78, hf⟩ := rq_s hf
    refine fgs_Mod_slotWarp lf_Mod_57 d_Mod_told_78 k_1 e_78 ?_
    refine g_iload_n d_Mod_told_81 rfl ?_
    obtain ⟨i_82, hf⟩ := ix_s hf
    refine g_iald k_78 i_82 d_Mod_told_82 ?_
    exact Go.ret (some _) (rOk_i _) rfl d_Mod_told_83 (pI_of hf)
abbrev mi_Mod_reckon : MI := (⟨"WarpMillModel", "reckon", "(III)I"⟩, prog_13_method_49_code, 4, some .int, 1, 22)
def it_Mod_reckon_0 : List (Nat × ClassFile.Instr × Nat) := [(0, .aload_n 0, 1), (1, .getfield 220, 3), (4, .tableswitch (209) (4) (20) #[(84), (88), (92), (96), (110), (123), (127), (131), (135), (142), (149), (156), (167), (178), (188), (195), (202)], 84), (88, .iload_n 1, 1), (89, .iload_n 2, 1), (90, .iadd, 1), (91, .ireturn, 1), (92, .iload_n 1, 1), (93, .iload_n 2, 1), (94, .isub, 1), (95, .ireturn, 1), (96, .iload_n 1, 1), (97, .iload_n 2, 1), (98, .imul, 1), (99, .ireturn, 1), (100, .iload_n 2, 1), (101, .iconst (-1), 1), (102, .if_icmp .ne (8), 3), (105, .iload_n 1, 1), (106, .ineg, 1), (107, .goto (6), 3), (110, .iload_n 1, 1), (111, .iload_n 2, 1), (112, .idiv, 1)]
theorem id_Mod_reckon_0 : ∀ q ∈ it_Mod_reckon_0, decode prog_13_method_49_code q.1 = .ok q.2 := by decide +kernel
theorem d_Mod_reckon_0 : decode prog_13_method_49_code 0 = .ok (.aload_n 0, 1) := id_Mod_reckon_0 (0, .aload_n 0, 1) (List.mem_of_getElem? (i := 0) rfl)
theorem d_Mod_reckon_1 : decode prog_13_method_49_code 1 = .ok (.getfield 220, 3) := id_Mod_reckon_0 (1, .getfield 220, 3) (List.mem_of_getElem? (i := 1) rfl)
theorem d_Mod_reckon_4 : decode prog_13_method_49_code 4 = .ok (.tableswitch (209) (4) (20) #[(84), (88), (92), (96), (110), (123), (127), (131), (135), (142), (149), (156), (167), (178), (188), (195), (202)], 84) := id_Mod_reckon_0 (4, .tableswitch (209) (4) (20) #[(84), (88), (92), (96), (110), (123), (127), (131), (135), (142), (149), (156), (167), (178), (188), (195), (202)], 84) (List.mem_of_getElem? (i := 2) rfl)
theorem d_Mod_reckon_88 : decode prog_13_method_49_code 88 = .ok (.iload_n 1, 1) := id_Mod_reckon_0 (88, .iload_n 1, 1) (List.mem_of_getElem? (i := 3) rfl)
theorem d_Mod_reckon_89 : decode prog_13_method_49_code 89 = .ok (.iload_n 2, 1) := id_Mod_reckon_0 (89, .iload_n 2, 1) (List.mem_of_getElem? (i := 4) rfl)
theorem d_Mod_reckon_90 : decode prog_13_method_49_code 90 = .ok (.iadd, 1) := id_Mod_reckon_0 (90, .iadd, 1) (List.mem_of_getElem? (i := 5) rfl)
theorem d_Mod_reckon_91 : decode prog_13_method_49_code 91 = .ok (.ireturn, 1) := id_Mod_reckon_0 (91, .ireturn, 1) (List.mem_of_getElem? (i := 6) rfl)
theorem d_Mod_reckon_92 : decode prog_13_method_49_code 92 = .ok (.iload_n 1, 1) := id_Mod_reckon_0 (92, .iload_n 1, 1) (List.mem_of_getElem? (i := 7) rfl)
theorem d_Mod_reckon_93 : decode prog_13_method_49_code 93 = .ok (.iload_n 2, 1) := id_Mod_reckon_0 (93, .iload_n 2, 1) (List.mem_of_getElem? (i := 8) rfl)
theorem d_Mod_reckon_94 : decode prog_13_method_49_code 94 = .ok (.isub, 1) := id_Mod_reckon_0 (94, .isub, 1) (List.mem_of_getElem? (i := 9) rfl)
theorem d_Mod_reckon_95 : decode prog_13_method_49_code 95 = .ok (.ireturn, 1) := id_Mod_reckon_0 (95, .ireturn, 1) (List.mem_of_getElem? (i := 10) rfl)
theorem d_Mod_reckon_96 : decode prog_13_method_49_code 96 = .ok (.iload_n 1, 1) := id_Mod_reckon_0 (96, .iload_n 1, 1) (List.mem_of_getElem? (i := 11) rfl)
theorem d_Mod_reckon_97 : decode prog_13_method_49_code 97 = .ok (.iload_n 2, 1) := id_Mod_reckon_0 (97, .iload_n 2, 1) (List.mem_of_getElem? (i := 12) rfl)
theorem d_Mod_reckon_98 : decode prog_13_method_49_code 98 = .ok (.imul, 1) := id_Mod_reckon_0 (98, .imul, 1) (List.mem_of_getElem? (i := 13) rfl)
theorem d_Mod_reckon_99 : decode prog_13_method_49_code 99 = .ok (.ireturn, 1) := id_Mod_reckon_0 (99, .ireturn, 1) (List.mem_of_getElem? (i := 14) rfl)
theorem d_Mod_reckon_100 : decode prog_13_method_49_code 100 = .ok (.iload_n 2, 1) := id_Mod_reckon_0 (100, .iload_n 2, 1) (List.mem_of_getElem? (i := 15) rfl)
theorem d_Mod_reckon_101 : decode prog_13_method_49_code 101 = .ok (.iconst (-1), 1) := id_Mod_reckon_0 (101, .iconst (-1), 1) (List.mem_of_getElem? (i := 16) rfl)
theorem d_Mod_reckon_102 : decode prog_13_method_49_code 102 = .ok (.if_icmp .ne (8), 3) := id_Mod_reckon_0 (102, .if_icmp .ne (8), 3) (List.mem_of_getElem? (i := 17) rfl)
theorem d_Mod_reckon_105 : decode prog_13_method_49_code 105 = .ok (.iload_n 1, 1) := id_Mod_reckon_0 (105, .iload_n 1, 1) (List.mem_of_getElem? (i := 18) rfl)
theorem d_Mod_reckon_106 : decode prog_13_method_49_code 106 = .ok (.ineg, 1) := id_Mod_reckon_0 (106, .ineg, 1) (List.mem_of_getElem? (i := 19) rfl)
theorem d_Mod_reckon_107 : decode prog_13_method_49_code 107 = .ok (.goto (6), 3) := id_Mod_reckon_0 (107, .goto (6), 3) (List.mem_of_getElem? (i := 20) rfl)
theorem d_Mod_reckon_110 : decode prog_13_method_49_code 110 = .ok (.iload_n 1, 1) := id_Mod_reckon_0 (110, .iload_n 1, 1) (List.mem_of_getElem? (i := 21) rfl)
theorem d_Mod_reckon_111 : decode prog_13_method_49_code 111 = .ok (.iload_n 2, 1) := id_Mod_reckon_0 (111, .iload_n 2, 1) (List.mem_of_getElem? (i := 22) rfl)
theorem d_Mod_reckon_112 : decode prog_13_method_49_code 112 = .ok (.idiv, 1) := id_Mod_reckon_0 (112, .idiv, 1) (List.mem_of_getElem? (i := 23) rfl)
def it_Mod_reckon_1 : List (Nat × ClassFile.Instr × Nat) := [(113, .ireturn, 1), (114, .iload_n 2, 1), (115, .iconst (-1), 1), (116, .if_icmp .ne (7), 3), (119, .iconst 0, 1), (120, .goto (6), 3), (123, .iload_n 1, 1), (124, .iload_n 2, 1), (125, .irem, 1), (126, .ireturn, 1), (127, .iload_n 1, 1), (128, .iload_n 2, 1), (129, .iand, 1), (130, .ireturn, 1), (131, .iload_n 1, 1), (132, .iload_n 2, 1), (133, .ior, 1), (134, .ireturn, 1), (135, .iload_n 1, 1), (136, .iload_n 2, 1), (137, .ixor, 1), (138, .ireturn, 1), (139, .iload_n 1, 1), (140, .iload_n 2, 1)]
theorem id_Mod_reckon_1 : ∀ q ∈ it_Mod_reckon_1, decode prog_13_method_49_code q.1 = .ok q.2 := by decide +kernel
theorem d_Mod_reckon_113 : decode prog_13_method_49_code 113 = .ok (.ireturn, 1) := id_Mod_reckon_1 (113, .ireturn, 1) (List.mem_of_getElem? (i := 0) rfl)
theorem d_Mod_reckon_114 : decode prog_13_method_49_code 114 = .ok (.iload_n 2, 1) := id_Mod_reckon_1 (114, .iload_n 2, 1) (List.mem_of_getElem? (i := 1) rfl)
theorem d_Mod_reckon_115 : decode prog_13_method_49_code 115 = .ok (.iconst (-1), 1) := id_Mod_reckon_1 (115, .iconst (-1), 1) (List.mem_of_getElem? (i := 2) rfl)
theorem d_Mod_reckon_116 : decode prog_13_method_49_code 116 = .ok (.if_icmp .ne (7), 3) := id_Mod_reckon_1 (116, .if_icmp .ne (7), 3) (List.mem_of_getElem? (i := 3) rfl)
theorem d_Mod_reckon_119 : decode prog_13_method_49_code 119 = .ok (.iconst 0, 1) := id_Mod_reckon_1 (119, .iconst 0, 1) (List.mem_of_getElem? (i := 4) rfl)
theorem d_Mod_reckon_120 : decode prog_13_method_49_code 120 = .ok (.goto (6), 3) := id_Mod_reckon_1 (120, .goto (6), 3) (List.mem_of_getElem? (i := 5) rfl)
theorem d_Mod_reckon_123 : decode prog_13_method_49_code 123 = .ok (.iload_n 1, 1) := id_Mod_reckon_1 (123, .iload_n 1, 1) (List.mem_of_getElem? (i := 6) rfl)
theorem d_Mod_reckon_124 : decode prog_13_method_49_code 124 = .ok (.iload_n 2, 1) := id_Mod_reckon_1 (124, .iload_n 2, 1) (List.mem_of_getElem? (i := 7) rfl)
theorem d_Mod_reckon_125 : decode prog_13_method_49_code 125 = .ok (.irem, 1) := id_Mod_reckon_1 (125, .irem, 1) (List.mem_of_getElem? (i := 8) rfl)
theorem d_Mod_reckon_126 : decode prog_13_method_49_code 126 = .ok (.ireturn, 1) := id_Mod_reckon_1 (126, .ireturn, 1) (List.mem_of_getElem? (i := 9) rfl)
theorem d_Mod_reckon_127 : decode prog_13_method_49_code 127 = .ok (.iload_n 1, 1) := id_Mod_reckon_1 (127, .iload_n 1, 1) (List.mem_of_getElem? (i := 10) rfl)
theorem d_Mod_reckon_128 : decode prog_13_method_49_code 128 = .ok (.iload_n 2, 1) := id_Mod_reckon_1 (128, .iload_n 2, 1) (List.mem_of_getElem? (i := 11) rfl)
theorem d_Mod_reckon_129 : decode prog_13_method_49_code 129 = .ok (.iand, 1) := id_Mod_reckon_1 (129, .iand, 1) (List.mem_of_getElem? (i := 12) rfl)
theorem d_Mod_reckon_130 : decode prog_13_method_49_code 130 = .ok (.ireturn, 1) := id_Mod_reckon_1 (130, .ireturn, 1) (List.mem_of_getElem? (i := 13) rfl)
theorem d_Mod_reckon_131 : decode prog_13_method_49_code 131 = .ok (.iload_n 1, 1) := id_Mod_reckon_1 (131, .iload_n 1, 1) (List.mem_of_getElem? (i := 14) rfl)
theorem d_Mod_reckon_132 : decode prog_13_method_49_code 132 = .ok (.iload_n 2, 1) := id_Mod_reckon_1 (132, .iload_n 2, 1) (List.mem_of_getElem? (i := 15) rfl)
theorem d_Mod_reckon_133 : decode prog_13_method_49_code 133 = .ok (.ior, 1) := id_Mod_reckon_1 (133, .ior, 1) (List.mem_of_getElem? (i := 16) rfl)
theorem d_Mod_reckon_134 : decode prog_13_method_49_code 134 = .ok (.ireturn, 1) := id_Mod_reckon_1 (134, .ireturn, 1) (List.mem_of_getElem? (i := 17) rfl)
theorem d_Mod_reckon_135 : decode prog_13_method_49_code 135 = .ok (.iload_n 1, 1) := id_Mod_reckon_1 (135, .iload_n 1, 1) (List.mem_of_getElem? (i := 18) rfl)
theorem d_Mod_reckon_136 : decode prog_13_method_49_code 136 = .ok (.iload_n 2, 1) := id_Mod_reckon_1 (136, .iload_n 2, 1) (List.mem_of_getElem? (i := 19) rfl)
theorem d_Mod_reckon_137 : decode prog_13_method_49_code 137 = .ok (.ixor, 1) := id_Mod_reckon_1 (137, .ixor, 1) (List.mem_of_getElem? (i := 20) rfl)
theorem d_Mod_reckon_138 : decode prog_13_method_49_code 138 = .ok (.ireturn, 1) := id_Mod_reckon_1 (138, .ireturn, 1) (List.mem_of_getElem? (i := 21) rfl)
theorem d_Mod_reckon_139 : decode prog_13_method_49_code 139 = .ok (.iload_n 1, 1) := id_Mod_reckon_1 (139, .iload_n 1, 1) (List.mem_of_getElem? (i := 22) rfl)
theorem d_Mod_reckon_140 : decode prog_13_method_49_code 140 = .ok (.iload_n 2, 1) := id_Mod_reckon_1 (140, .iload_n 2, 1) (List.mem_of_getElem? (i := 23) rfl)
def it_Mod_reckon_2 : List (Nat × ClassFile.Instr × Nat) := [(141, .bipush (31), 2), (143, .iand, 1), (144, .ishl, 1), (145, .ireturn, 1), (146, .iload_n 1, 1), (147, .iload_n 2, 1), (148, .bipush (31), 2), (150, .iand, 1), (151, .iushr, 1), (152, .ireturn, 1), (153, .iload_n 1, 1), (154, .iload_n 2, 1), (155, .bipush (31), 2), (157, .iand, 1), (158, .ishr, 1), (159, .ireturn, 1), (160, .iload_n 1, 1), (161, .iload_n 2, 1), (162, .if_icmp .ge (7), 3), (165, .iload_n 1, 1), (166, .goto (4), 3), (169, .iload_n 2, 1), (170, .ireturn, 1), (171, .iload_n 1, 1)]
theorem id_Mod_reckon_2 : ∀ q ∈ it_Mod_reckon_2, decode prog_13_method_49_code q.1 = .ok q.2 := by decide +kernel
theorem d_Mod_reckon_141 : decode prog_13_method_49_code 141 = .ok (.bipush (31), 2) := id_Mod_reckon_2 (141, .bipush (31), 2) (List.mem_of_getElem? (i := 0) rfl)
theorem d_Mod_reckon_143 : decode prog_13_method_49_code 143 = .ok (.iand, 1) := id_Mod_reckon_2 (143, .iand, 1) (List.mem_of_getElem? (i := 1) rfl)
theorem d_Mod_reckon_144 : decode prog_13_method_49_code 144 = .ok (.ishl, 1) := id_Mod_reckon_2 (144, .ishl, 1) (List.mem_of_getElem? (i := 2) rfl)
theorem d_Mod_reckon_145 : decode prog_13_method_49_code 145 = .ok (.ireturn, 1) := id_Mod_reckon_2 (145, .ireturn, 1) (List.mem_of_getElem? (i := 3) rfl)
theorem d_Mod_reckon_146 : decode prog_13_method_49_code 146 = .ok (.iload_n 1, 1) := id_Mod_reckon_2 (146, .iload_n 1, 1) (List.mem_of_getElem? (i := 4) rfl)
theorem d_Mod_reckon_147 : decode prog_13_method_49_code 147 = .ok (.iload_n 2, 1) := id_Mod_reckon_2 (147, .iload_n 2, 1) (List.mem_of_getElem? (i := 5) rfl)
theorem d_Mod_reckon_148 : decode prog_13_method_49_code 148 = .ok (.bipush (31), 2) := id_Mod_reckon_2 (148, .bipush (31), 2) (List.mem_of_getElem? (i := 6) rfl)
theorem d_Mod_reckon_150 : decode prog_13_method_49_code 150 = .ok (.iand, 1) := id_Mod_reckon_2 (150, .iand, 1) (List.mem_of_getElem? (i := 7) rfl)
theorem d_Mod_reckon_151 : decode prog_13_method_49_code 151 = .ok (.iushr, 1) := id_Mod_reckon_2 (151, .iushr, 1) (List.mem_of_getElem? (i := 8) rfl)
theorem d_Mod_reckon_152 : decode prog_13_method_49_code 152 = .ok (.ireturn, 1) := id_Mod_reckon_2 (152, .ireturn, 1) (List.mem_of_getElem? (i := 9) rfl)
theorem d_Mod_reckon_153 : decode prog_13_method_49_code 153 = .ok (.iload_n 1, 1) := id_Mod_reckon_2 (153, .iload_n 1, 1) (List.mem_of_getElem? (i := 10) rfl)
theorem d_Mod_reckon_154 : decode prog_13_method_49_code 154 = .ok (.iload_n 2, 1) := id_Mod_reckon_2 (154, .iload_n 2, 1) (List.mem_of_getElem? (i := 11) rfl)
theorem d_Mod_reckon_155 : decode prog_13_method_49_code 155 = .ok (.bipush (31), 2) := id_Mod_reckon_2 (155, .bipush (31), 2) (List.mem_of_getElem? (i := 12) rfl)
theorem d_Mod_reckon_157 : decode prog_13_method_49_code 157 = .ok (.iand, 1) := id_Mod_reckon_2 (157, .iand, 1) (List.mem_of_getElem? (i := 13) rfl)
theorem d_Mod_reckon_158 : decode prog_13_method_49_code 158 = .ok (.ishr, 1) := id_Mod_reckon_2 (158, .ishr, 1) (List.mem_of_getElem? (i := 14) rfl)
theorem d_Mod_reckon_159 : decode prog_13_method_49_code 159 = .ok (.ireturn, 1) := id_Mod_reckon_2 (159, .ireturn, 1) (List.mem_of_getElem? (i := 15) rfl)
theorem d_Mod_reckon_160 : decode prog_13_method_49_code 160 = .ok (.iload_n 1, 1) := id_Mod_reckon_2 (160, .iload_n 1, 1) (List.mem_of_getElem? (i := 16) rfl)
theorem d_Mod_reckon_161 : decode prog_13_method_49_code 161 = .ok (.iload_n 2, 1) := id_Mod_reckon_2 (161, .iload_n 2, 1) (List.mem_of_getElem? (i := 17) rfl)
theorem d_Mod_reckon_162 : decode prog_13_method_49_code 162 = .ok (.if_icmp .ge (7), 3) := id_Mod_reckon_2 (162, .if_icmp .ge (7), 3) (List.mem_of_getElem? (i := 18) rfl)
theorem d_Mod_reckon_165 : decode prog_13_method_49_code 165 = .ok (.iload_n 1, 1) := id_Mod_reckon_2 (165, .iload_n 1, 1) (List.mem_of_getElem? (i := 19) rfl)
theorem d_Mod_reckon_166 : decode prog_13_method_49_code 166 = .ok (.goto (4), 3) := id_Mod_reckon_2 (166, .goto (4), 3) (List.mem_of_getElem? (i := 20) rfl)
theorem d_Mod_reckon_169 : decode prog_13_method_49_code 169 = .ok (.iload_n 2, 1) := id_Mod_reckon_2 (169, .iload_n 2, 1) (List.mem_of_getElem? (i := 21) rfl)
theorem d_Mod_reckon_170 : decode prog_13_method_49_code 170 = .ok (.ireturn, 1) := id_Mod_reckon_2 (170, .ireturn, 1) (List.mem_of_getElem? (i := 22) rfl)
theorem d_Mod_reckon_171 : decode prog_13_method_49_code 171 = .ok (.iload_n 1, 1) := id_Mod_reckon_2 (171, .iload_n 1, 1) (List.mem_of_getElem? (i := 23) rfl)
def it_Mod_reckon_3 : List (Nat × ClassFile.Instr × Nat) := [(172, .iload_n 2, 1), (173, .if_icmp .le (7), 3), (176, .iload_n 1, 1), (177, .goto (4), 3), (180, .iload_n 2, 1), (181, .ireturn, 1), (182, .iload_n 1, 1), (183, .i2l, 1), (184, .iload_n 2, 1), (185, .i2l, 1), (186, .lmul, 1), (187, .bipush (32), 2), (189, .lshr, 1), (190, .l2i, 1), (191, .ireturn, 1), (192, .iload_n 1, 1), (193, .aload_n 0, 1), (194, .getfield 237, 3), (197, .iadd, 1), (198, .ireturn, 1), (199, .iload_n 1, 1), (200, .aload_n 0, 1), (201, .getfield 237, 3), (204, .imul, 1)]
theorem id_Mod_reckon_3 : ∀ q ∈ it_Mod_reckon_3, decode prog_13_method_49_code q.1 = .ok q.2 := by decide +kernel
theorem d_Mod_reckon_172 : decode prog_13_method_49_code 172 = .ok (.iload_n 2, 1) := id_Mod_reckon_3 (172, .iload_n 2, 1) (List.mem_of_getElem? (i := 0) rfl)
theorem d_Mod_reckon_173 : decode prog_13_method_49_code 173 = .ok (.if_icmp .le (7), 3) := id_Mod_reckon_3 (173, .if_icmp .le (7), 3) (List.mem_of_getElem? (i := 1) rfl)
theorem d_Mod_reckon_176 : decode prog_13_method_49_code 176 = .ok (.iload_n 1, 1) := id_Mod_reckon_3 (176, .iload_n 1, 1) (List.mem_of_getElem? (i := 2) rfl)
theorem d_Mod_reckon_177 : decode prog_13_method_49_code 177 = .ok (.goto (4), 3) := id_Mod_reckon_3 (177, .goto (4), 3) (List.mem_of_getElem? (i := 3) rfl)
theorem d_Mod_reckon_180 : decode prog_13_method_49_code 180 = .ok (.iload_n 2, 1) := id_Mod_reckon_3 (180, .iload_n 2, 1) (List.mem_of_getElem? (i := 4) rfl)
theorem d_Mod_reckon_181 : decode prog_13_method_49_code 181 = .ok (.ireturn, 1) := id_Mod_reckon_3 (181, .ireturn, 1) (List.mem_of_getElem? (i := 5) rfl)
theorem d_Mod_reckon_182 : decode prog_13_method_49_code 182 = .ok (.iload_n 1, 1) := id_Mod_reckon_3 (182, .iload_n 1, 1) (List.mem_of_getElem? (i := 6) rfl)
theorem d_Mod_reckon_183 : decode prog_13_method_49_code 183 = .ok (.i2l, 1) := id_Mod_reckon_3 (183, .i2l, 1) (List.mem_of_getElem? (i := 7) rfl)
theorem d_Mod_reckon_184 : decode prog_13_method_49_code 184 = .ok (.iload_n 2, 1) := id_Mod_reckon_3 (184, .iload_n 2, 1) (List.mem_of_getElem? (i := 8) rfl)
theorem d_Mod_reckon_185 : decode prog_13_method_49_code 185 = .ok (.i2l, 1) := id_Mod_reckon_3 (185, .i2l, 1) (List.mem_of_getElem? (i := 9) rfl)
theorem d_Mod_reckon_186 : decode prog_13_method_49_code 186 = .ok (.lmul, 1) := id_Mod_reckon_3 (186, .lmul, 1) (List.mem_of_getElem? (i := 10) rfl)
theorem d_Mod_reckon_187 : decode prog_13_method_49_code 187 = .ok (.bipush (32), 2) := id_Mod_reckon_3 (187, .bipush (32), 2) (List.mem_of_getElem? (i := 11) rfl)
theorem d_Mod_reckon_189 : decode prog_13_method_49_code 189 = .ok (.lshr, 1) := id_Mod_reckon_3 (189, .lshr, 1) (List.mem_of_getElem? (i := 12) rfl)
theorem d_Mod_reckon_190 : decode prog_13_method_49_code 190 = .ok (.l2i, 1) := id_Mod_reckon_3 (190, .l2i, 1) (List.mem_of_getElem? (i := 13) rfl)
theorem d_Mod_reckon_191 : decode prog_13_method_49_code 191 = .ok (.ireturn, 1) := id_Mod_reckon_3 (191, .ireturn, 1) (List.mem_of_getElem? (i := 14) rfl)
theorem d_Mod_reckon_192 : decode prog_13_method_49_code 192 = .ok (.iload_n 1, 1) := id_Mod_reckon_3 (192, .iload_n 1, 1) (List.mem_of_getElem? (i := 15) rfl)
theorem d_Mod_reckon_193 : decode prog_13_method_49_code 193 = .ok (.aload_n 0, 1) := id_Mod_reckon_3 (193, .aload_n 0, 1) (List.mem_of_getElem? (i := 16) rfl)
theorem d_Mod_reckon_194 : decode prog_13_method_49_code 194 = .ok (.getfield 237, 3) := id_Mod_reckon_3 (194, .getfield 237, 3) (List.mem_of_getElem? (i := 17) rfl)
theorem d_Mod_reckon_197 : decode prog_13_method_49_code 197 = .ok (.iadd, 1) := id_Mod_reckon_3 (197, .iadd, 1) (List.mem_of_getElem? (i := 18) rfl)
theorem d_Mod_reckon_198 : decode prog_13_method_49_code 198 = .ok (.ireturn, 1) := id_Mod_reckon_3 (198, .ireturn, 1) (List.mem_of_getElem? (i := 19) rfl)
theorem d_Mod_reckon_199 : decode prog_13_method_49_code 199 = .ok (.iload_n 1, 1) := id_Mod_reckon_3 (199, .iload_n 1, 1) (List.mem_of_getElem? (i := 20) rfl)
theorem d_Mod_reckon_200 : decode prog_13_method_49_code 200 = .ok (.aload_n 0, 1) := id_Mod_reckon_3 (200, .aload_n 0, 1) (List.mem_of_getElem? (i := 21) rfl)
theorem d_Mod_reckon_201 : decode prog_13_method_49_code 201 = .ok (.getfield 237, 3) := id_Mod_reckon_3 (201, .getfield 237, 3) (List.mem_of_getElem? (i := 22) rfl)
theorem d_Mod_reckon_204 : decode prog_13_method_49_code 204 = .ok (.imul, 1) := id_Mod_reckon_3 (204, .imul, 1) (List.mem_of_getElem? (i := 23) rfl)
def it_Mod_reckon_4 : List (Nat × ClassFile.Instr × Nat) := [(205, .ireturn, 1), (206, .iload_n 1, 1), (207, .aload_n 0, 1), (208, .getfield 237, 3), (211, .iand, 1), (212, .ireturn, 1), (213, .aload_n 0, 1), (214, .iload_n 3, 1), (215, .aload_n 0, 1), (216, .getfield 237, 3), (219, .invokevirtual 291, 3), (222, .ifCond .eq (7), 3), (225, .iload_n 1, 1), (226, .goto (4), 3), (229, .iload_n 2, 1), (230, .ireturn, 1)]
theorem id_Mod_reckon_4 : ∀ q ∈ it_Mod_reckon_4, decode prog_13_method_49_code q.1 = .ok q.2 := by decide +kernel
theorem d_Mod_reckon_205 : decode prog_13_method_49_code 205 = .ok (.ireturn, 1) := id_Mod_reckon_4 (205, .ireturn, 1) (List.mem_of_getElem? (i := 0) rfl)
theorem d_Mod_reckon_206 : decode prog_13_method_49_code 206 = .ok (.iload_n 1, 1) := id_Mod_reckon_4 (206, .iload_n 1, 1) (List.mem_of_getElem? (i := 1) rfl)
theorem d_Mod_reckon_207 : decode prog_13_method_49_code 207 = .ok (.aload_n 0, 1) := id_Mod_reckon_4 (207, .aload_n 0, 1) (List.mem_of_getElem? (i := 2) rfl)
theorem d_Mod_reckon_208 : decode prog_13_method_49_code 208 = .ok (.getfield 237, 3) := id_Mod_reckon_4 (208, .getfield 237, 3) (List.mem_of_getElem? (i := 3) rfl)
theorem d_Mod_reckon_211 : decode prog_13_method_49_code 211 = .ok (.iand, 1) := id_Mod_reckon_4 (211, .iand, 1) (List.mem_of_getElem? (i := 4) rfl)
theorem d_Mod_reckon_212 : decode prog_13_method_49_code 212 = .ok (.ireturn, 1) := id_Mod_reckon_4 (212, .ireturn, 1) (List.mem_of_getElem? (i := 5) rfl)
theorem d_Mod_reckon_213 : decode prog_13_method_49_code 213 = .ok (.aload_n 0, 1) := id_Mod_reckon_4 (213, .aload_n 0, 1) (List.mem_of_getElem? (i := 6) rfl)
theorem d_Mod_reckon_214 : decode prog_13_method_49_code 214 = .ok (.iload_n 3, 1) := id_Mod_reckon_4 (214, .iload_n 3, 1) (List.mem_of_getElem? (i := 7) rfl)
theorem d_Mod_reckon_215 : decode prog_13_method_49_code 215 = .ok (.aload_n 0, 1) := id_Mod_reckon_4 (215, .aload_n 0, 1) (List.mem_of_getElem? (i := 8) rfl)
theorem d_Mod_reckon_216 : decode prog_13_method_49_code 216 = .ok (.getfield 237, 3) := id_Mod_reckon_4 (216, .getfield 237, 3) (List.mem_of_getElem? (i := 9) rfl)
theorem d_Mod_reckon_219 : decode prog_13_method_49_code 219 = .ok (.invokevirtual 291, 3) := id_Mod_reckon_4 (219, .invokevirtual 291, 3) (List.mem_of_getElem? (i := 10) rfl)
theorem d_Mod_reckon_222 : decode prog_13_method_49_code 222 = .ok (.ifCond .eq (7), 3) := id_Mod_reckon_4 (222, .ifCond .eq (7), 3) (List.mem_of_getElem? (i := 11) rfl)
theorem d_Mod_reckon_225 : decode prog_13_method_49_code 225 = .ok (.iload_n 1, 1) := id_Mod_reckon_4 (225, .iload_n 1, 1) (List.mem_of_getElem? (i := 12) rfl)
theorem d_Mod_reckon_226 : decode prog_13_method_49_code 226 = .ok (.goto (4), 3) := id_Mod_reckon_4 (226, .goto (4), 3) (List.mem_of_getElem? (i := 13) rfl)
theorem d_Mod_reckon_229 : decode prog_13_method_49_code 229 = .ok (.iload_n 2, 1) := id_Mod_reckon_4 (229, .iload_n 2, 1) (List.mem_of_getElem? (i := 14) rfl)
theorem d_Mod_reckon_230 : decode prog_13_method_49_code 230 = .ok (.ireturn, 1) := id_Mod_reckon_4 (230, .ireturn, 1) (List.mem_of_getElem? (i := 15) rfl)
theorem wC_Mod_reckon : Cond.code ⟨"WarpMillModel", "reckon", "(III)I"⟩ prog_13_method_49_code 4 (some .int) ∈ lw_tb := mem_tb 1448 (by decide +kernel) rfl
theorem cw_Mod_reckon_Mod_has : cW mi_Mod_reckon mi_Mod_has 2 := ⟨wC_Mod_has, wi_Mod, ⟨by decide, by decide, by decide +kernel⟩, by decide, by decide⟩
def f_Mod_reckon (F : Nat) (x0 : Nat) (x1 : Int32) (x2 : Int32) (x3 : Int32) (h : Hp) : Option (Int32 × Hp) := gd (hK h x0 = 12) <| if (hI h 756 x0) = 4 then (some ((x1 + x2), h)) else if (hI h 756 x0) = 5 then (some ((x1 - x2), h)) else if (hI h 756 x0) = 6 then (some ((x1 * x2), h)) else if (hI h 756 x0) = 7 then (if x2 = (-1 : Int32) then (some ((-x1), h)) else (gd (¬ x2 = 0) <| some ((x1 / x2), h))) else if (hI h 756 x0) = 8 then (if x2 = (-1 : Int32) then (some ((0 : Int32), h)) else (gd (¬ x2 = 0) <| some ((x1 - x1 / x2 * x2), h))) else if (hI h 756 x0) = 9 then (some ((x1 &&& x2), h)) else if (hI h 756 x0) = 10 then (some ((x1 ||| x2), h)) else if (hI h 756 x0) = 11 then (some ((x1 ^^^ x2), h)) else if (hI h 756 x0) = 12 then (some ((x1 <<< ((x2 &&& (31 : Int32)) &&& 31)), h)) else if (hI h 756 x0) = 13 then (some ((ushr x1 (x2 &&& (31 : Int32))), h)) else if (hI h 756 x0) = 14 then (some ((x1 >>> ((x2 &&& (31 : Int32)) &&& 31)), h)) else if (hI h 756 x0) = 15 then (if x2 ≤ x1 then (some (x2, h)) else (some (x1, h))) else if (hI h 756 x0) = 16 then (if x1 ≤ x2 then (some (x2, h)) else (some (x1, h))) else if (hI h 756 x0) = 17 then (some ((Int64.toInt32 (((Int32.toInt64 x1) * (Int32.toInt64 x2)) >>> (Int32.toInt64 (32 : Int32) &&& 63))), h)) else if (hI h 756 x0) = 18 then (some ((x1 + (hI h 761 x0)), h)) else if (hI h 756 x0) = 19 then (some ((x1 * (hI h 761 x0)), h)) else if (hI h 756 x0) = 20 then (some ((x1 &&& (hI h 761 x0)), h)) else (cl (f_Mod_has F x0 x3 (hI h 761 x0) h) fun v_219 h_219 => if v_219 = 0 then (some (x2, h_219)) else (some (x1, h_219)))
set_option maxRecDepth 100000 in
set_option maxHeartbeats 4000000 in
theorem e_Mod_reckon {G : Gl} {F : Nat} {r : Int32} {h' : Hp} {x0 : Nat} {x1 : Int32} {x2 : Int32} {x3 : Int32} {h : Hp} (hf : f_Mod_reckon F x0 x1 x2 x3 h = some (r, h')) : Ex G mi_Mod_reckon [.ref x0, .int x1, .int x2, .int x3] h (pI r h') := by
  unfold f_Mod_reckon at hf
  refine Ex.of nmI (by decide) (Nat.le_of_ble_eq_true rfl) ?_
  show Go G mi_Mod_reckon h _ h 0 [(0, .ref x0), (1, .int x1), (2, .int x2), (3, .int x3)] []
  refine g_aload_n d_Mod_reckon_0 rfl ?_
  obtain ⟨k_1, hf⟩ := gd_s hf
  refine fg_Mod_op lf_Mod_220 d_Mod_reckon_1 k_1 ?_
  refine g_sw sw_4_20 (fun hs_4 => ?_)
  rcases hs_4 with hs_4 | hs_4 | hs_4 | hs_4 | hs_4 | hs_4 | hs_4 | hs_4 | hs_4 | hs_4 | hs_4 | hs_4 | hs_4 | hs_4 | hs_4 | hs_4 | hs_4 | hs_4
  · refine g_tableOut 213 d_Mod_reckon_4 hs_4 (by decide) ?_
    have hf := ifn hf (sw_ne hs_4 4 (by decide) (by decide))
    have hf := ifn hf (sw_ne hs_4 5 (by decide) (by decide))
    have hf := ifn hf (sw_ne hs_4 6 (by decide) (by decide))
    have hf := ifn hf (sw_ne hs_4 7 (by decide) (by decide))
    have hf := ifn hf (sw_ne hs_4 8 (by decide) (by decide))
    have hf := ifn hf (sw_ne hs_4 9 (by decide) (by decide))
    have hf := ifn hf (sw_ne hs_4 10 (by decide) (by decide))
    have hf := ifn hf (sw_ne hs_4 11 (by decide) (by decide))
    have hf := ifn hf (sw_ne hs_4 12 (by decide) (by decide))
    have hf := ifn hf (sw_ne hs_4 13 (by decide) (by decide))
    have hf := ifn hf (sw_ne hs_4 14 (by decide) (by decide))
    have hf := ifn hf (sw_ne hs_4 15 (by decide) (by decide))
    have hf := ifn hf (sw_ne hs_4 16 (by decide) (by decide))
    have hf := ifn hf (sw_ne hs_4 17 (by decide) (by decide))
    have hf := ifn hf (sw_ne hs_4 18 (by decide) (by decide))
    have hf := ifn hf (sw_ne hs_4 19 (by decide) (by decide))
    have hf := ifn hf (sw_ne hs_4 20 (by decide) (by decide))
    refine g_aload_n d_Mod_reckon_213 rfl ?_
    refine g_iload_n d_Mod_reckon_214 rfl ?_
    refine g_aload_n d_Mod_reckon_215 rfl ?_
    refine fg_Mod_n lf_Mod_237 d_Mod_reckon_216 k_1 ?_
    obtain ⟨v_219, h_219, e_219, hf⟩ := cl_s hf
    refine g_callV (mz := mi_Mod_has) (e_Mod_has e_219) cw_Mod_reckon_Mod_has lm_Mod_291 wI_Mod_has wV_Mod_has (ci := 11) k_1 (by decide) rfl rfl d_Mod_reckon_219 rfl rfl (by first | exact Nat.le_of_ble_eq_true rfl | simp [cat_rf, Value.category]) (fun r1 h1 hp hro => ?_)
    obtain ⟨rfl, rfl⟩ := hp
    dsimp only [Option.toList_some, Option.toList_none, List.cons_append, List.nil_append]
    refine g_if_eq 229 d_Mod_reckon_222 (by decide) (fun c_222 => ?_) (fun c_222 => ?_)
    · have hf := ifp hf c_222
      refine g_iload_n d_Mod_reckon_229 rfl ?_
      exact Go.ret (some _) (rOk_i _) rfl d_Mod_reckon_230 (pI_of hf)
    · have hf := ifn hf c_222
      refine g_iload_n d_Mod_reckon_225 rfl ?_
      refine g_goto 230 d_Mod_reckon_226 (by decide) ?_
      exact Go.ret (some _) (rOk_i _) rfl d_Mod_reckon_230 (pI_of hf)
  · refine g_tableIn 88 d_Mod_reckon_4 (by rw [hs_4]; decide) (by rw [hs_4]; decide) (by rw [hs_4]; rfl) (by decide) ?_
    have hf := ifp hf hs_4
    refine g_iload_n d_Mod_reckon_88 rfl ?_
    refine g_iload_n d_Mod_reckon_89 rfl ?_
    refine g_iadd d_Mod_reckon_90 ?_
    exact Go.ret (some _) (rOk_i _) rfl d_Mod_reckon_91 (pI_of hf)
  · refine g_tableIn 92 d_Mod_reckon_4 (by rw [hs_4]; decide) (by rw [hs_4]; decide) (by rw [hs_4]; rfl) (by decide) ?_
    have hf := ifn hf (sw_d hs_4 (by decide))
    have hf := ifp hf hs_4
    refine g_iload_n d_Mod_reckon_92 rfl ?_
    refine g_iload_n d_Mod_reckon_93 rfl ?_
    refine g_isub d_Mod_reckon_94 ?_
    exact Go.ret (some _) (rOk_i _) rfl d_Mod_reckon_95 (pI_of hf)
  · refine g_tableIn 96 d_Mod_reckon_4 (by rw [hs_4]; decide) (by rw [hs_4]; decide) (by rw [hs_4]; rfl) (by decide) ?_
    have hf := ifn hf (sw_d hs_4 (by decide))
    have hf := ifn hf (sw_d hs_4 (by decide))
    have hf := ifp hf hs_4
    refine g_iload_n d_Mod_reckon_96 rfl ?_
    refine g_iload_n d_Mod_reckon_97 rfl ?_
    refine g_imul d_Mod_reckon_98 ?_
    exact Go.ret (some _) (rOk_i _) rfl d_Mod_reckon_99 (pI_of hf)
  · refine g_tableIn 100 d_Mod_reckon_4 (by rw [hs_4]; decide) (by rw [hs_4]; decide) (by rw [hs_4]; rfl) (by decide) ?_
    have hf := ifn hf (sw_d hs_4 (by decide))
    have hf := ifn hf (sw_d hs_4 (by decide))
    have hf := ifn hf (sw_d hs_4 (by decide))
    have hf := ifp hf hs_4
    refine g_iload_n d_Mod_reckon_100 rfl ?_
    refine g_iconst (-1) d_Mod_reckon_101 (by decide) ?_
    refine g_icmp_ne 110 d_Mod_reckon_102 (by decide) (fun c_102 => ?_) (fun c_102 => ?_)
    · have hf := ifn hf c_102
      refine g_iload_n d_Mod_reckon_110 rfl ?_
      refine g_iload_n d_Mod_reckon_111 rfl ?_
      obtain ⟨z_112, hf⟩ := gd_s hf
      refine g_idiv d_Mod_reckon_112 z_112 ?_
      exact Go.ret (some _) (rOk_i _) rfl d_Mod_reckon_113 (pI_of hf)
    · have hf := ifp hf c_102
      refine g_iload_n d_Mod_reckon_105 rfl ?_
      refine g_ineg d_Mod_reckon_106 ?_
      refine g_goto 113 d_Mod_reckon_107 (by decide) ?_
      exact Go.ret (some _) (rOk_i _) rfl d_Mod_reckon_113 (pI_of hf)
  · refine g_tableIn 114 d_Mod_reckon_4 (by rw [hs_4]; decide) (by rw [hs_4]; decide) (by rw [hs_4]; rfl) (by decide) ?_
    have hf := ifn hf (sw_d hs_4 (by decide))
    have hf := ifn hf (sw_d hs_4 (by decide))
    have hf := ifn hf (sw_d hs_4 (by decide))
    have hf := ifn hf (sw_d hs_4 (by decide))
    have hf := ifp hf hs_4
    refine g_iload_n d_Mod_reckon_114 rfl ?_
    refine g_iconst (-1) d_Mod_reckon_115 (by decide) ?_
    refine g_icmp_ne 123 d_Mod_reckon_116 (by decide) (fun c_116 => ?_) (fun c_116 => ?_)
    · have hf := ifn hf c_116
      refine g_iload_n d_Mod_reckon_123 rfl ?_
      refine g_iload_n d_Mod_reckon_124 rfl ?_
      obtain ⟨z_125, hf⟩ := gd_s hf
      refine g_irem d_Mod_reckon_125 z_125 ?_
      exact Go.ret (some _) (rOk_i _) rfl d_Mod_reckon_126 (pI_of hf)
    · have hf := ifp hf c_116
      refine g_iconst 0 d_Mod_reckon_119 (by decide) ?_
      refine g_goto 126 d_Mod_reckon_120 (by decide) ?_
      exact Go.ret (some _) (rOk_i _) rfl d_Mod_reckon_126 (pI_of hf)
  · refine g_tableIn 127 d_Mod_reckon_4 (by rw [hs_4]; decide) (by rw [hs_4]; decide) (by rw [hs_4]; rfl) (by decide) ?_
    have hf := ifn hf (sw_d hs_4 (by decide))
    have hf := ifn hf (sw_d hs_4 (by decide))
    have hf := ifn hf (sw_d hs_4 (by decide))
    have hf := ifn hf (sw_d hs_4 (by decide))
    have hf := ifn hf (sw_d hs_4 (by decide))
    have hf := ifp hf hs_4
    refine g_iload_n d_Mod_reckon_127 rfl ?_
    refine g_iload_n d_Mod_reckon_128 rfl ?_
    refine g_iand d_Mod_reckon_129 ?_
    exact Go.ret (some _) (rOk_i _) rfl d_Mod_reckon_130 (pI_of hf)
  · refine g_tableIn 131 d_Mod_reckon_4 (by rw [hs_4]; decide) (by rw [hs_4]; decide) (by rw [hs_4]; rfl) (by decide) ?_
    have hf := ifn hf (sw_d hs_4 (by decide))
    have hf := ifn hf (sw_d hs_4 (by decide))
    have hf := ifn hf (sw_d hs_4 (by decide))
    have hf := ifn hf (sw_d hs_4 (by decide))
    have hf := ifn hf (sw_d hs_4 (by decide))
    have hf := ifn hf (sw_d hs_4 (by decide))
    have hf := ifp hf hs_4
    refine g_iload_n d_Mod_reckon_131 rfl ?_
    refine g_iload_n d_Mod_reckon_132 rfl ?_
    refine g_ior d_Mod_reckon_133 ?_
    exact Go.ret (some _) (rOk_i _) rfl d_Mod_reckon_134 (pI_of hf)
  · refine g_tableIn 135 d_Mod_reckon_4 (by rw [hs_4]; decide) (by rw [hs_4]; decide) (by rw [hs_4]; rfl) (by decide) ?_
    have hf := ifn hf (sw_d hs_4 (by decide))
    have hf := ifn hf (sw_d hs_4 (by decide))
    have hf := ifn hf (sw_d hs_4 (by decide))
    have hf := ifn hf (sw_d hs_4 (by decide))
    have hf := ifn hf (sw_d hs_4 (by decide))
    have hf := ifn hf (sw_d hs_4 (by decide))
    have hf := ifn hf (sw_d hs_4 (by decide))
    have hf := ifp hf hs_4
    refine g_iload_n d_Mod_reckon_135 rfl ?_
    refine g_iload_n d_Mod_reckon_136 rfl ?_
    refine g_ixor d_Mod_reckon_137 ?_
    exact Go.ret (some _) (rOk_i _) rfl d_Mod_reckon_138 (pI_of hf)
  · refine g_tableIn 139 d_Mod_reckon_4 (by rw [hs_4]; decide) (by rw [hs_4]; decide) (by rw [hs_4]; rfl) (by decide) ?_
    have hf := ifn hf (sw_d hs_4 (by decide))
    have hf := ifn hf (sw_d hs_4 (by decide))
    have hf := ifn hf (sw_d hs_4 (by decide))
    have hf := ifn hf (sw_d hs_4 (by decide))
    have hf := ifn hf (sw_d hs_4 (by decide))
    have hf := ifn hf (sw_d hs_4 (by decide))
    have hf := ifn hf (sw_d hs_4 (by decide))
    have hf := ifn hf (sw_d hs_4 (by decide))
    have hf := ifp hf hs_4
    refine g_iload_n d_Mod_reckon_139 rfl ?_
    refine g_iload_n d_Mod_reckon_140 rfl ?_
    refine g_bipush (31) d_Mod_reckon_141 (by decide) ?_
    refine g_iand d_Mod_reckon_143 ?_
    refine g_ishl d_Mod_reckon_144 ?_
    exact Go.ret (some _) (rOk_i _) rfl d_Mod_reckon_145 (pI_of hf)
  · refine g_tableIn 146 d_Mod_reckon_4 (by rw [hs_4]; decide) (by rw [hs_4]; decide) (by rw [hs_4]; rfl) (by decide) ?_
    have hf := ifn hf (sw_d hs_4 (by decide))
    have hf := ifn hf (sw_d hs_4 (by decide))
    have hf := ifn hf (sw_d hs_4 (by decide))
    have hf := ifn hf (sw_d hs_4 (by decide))
    have hf := ifn hf (sw_d hs_4 (by decide))
    have hf := ifn hf (sw_d hs_4 (by decide))
    have hf := ifn hf (sw_d hs_4 (by decide))
    have hf := ifn hf (sw_d hs_4 (by decide))
    have hf := ifn hf (sw_d hs_4 (by decide))
    have hf := ifp hf hs_4
    refine g_iload_n d_Mod_reckon_146 rfl ?_
    refine g_iload_n d_Mod_reckon_147 rfl ?_
    refine g_bipush (31) d_Mod_reckon_148 (by decide) ?_
    refine g_iand d_Mod_reckon_150 ?_
    refine g_iushr d_Mod_reckon_151 ?_
    exact Go.ret (some _) (rOk_i _) rfl d_Mod_reckon_152 (pI_of hf)
  · refine g_tableIn 153 d_Mod_reckon_4 (by rw [hs_4]; decide) (by rw [hs_4]; decide) (by rw [hs_4]; rfl) (by decide) ?_
    have hf := ifn hf (sw_d hs_4 (by decide))
    have hf := ifn hf (sw_d hs_4 (by decide))
    have hf := ifn hf (sw_d hs_4 (by decide))
    have hf := ifn hf (sw_d hs_4 (by decide))
    have hf := ifn hf (sw_d hs_4 (by decide))
    have hf := ifn hf (sw_d hs_4 (by decide))
    have hf := ifn hf (sw_d hs_4 (by decide))
    have hf := ifn hf (sw_d hs_4 (by decide))
    have hf := ifn hf (sw_d hs_4 (by decide))
    have hf := ifn hf (sw_d hs_4 (by decide))
    have hf := ifp hf hs_4
    refine g_iload_n d_Mod_reckon_153 rfl ?_
    refine g_iload_n d_Mod_reckon_154 rfl ?_
    refine g_bipush (31) d_Mod_reckon_155 (by decide) ?_
    refine g_iand d_Mod_reckon_157 ?_
    refine g_ishr d_Mod_reckon_158 ?_
    exact Go.ret (some _) (rOk_i _) rfl d_Mod_reckon_159 (pI_of hf)
  · refine g_tableIn 160 d_Mod_reckon_4 (by rw [hs_4]; decide) (by rw [hs_4]; decide) (by rw [hs_4]; rfl) (by decide) ?_
    have hf := ifn hf (sw_d hs_4 (by decide))
    have hf := ifn hf (sw_d hs_4 (by decide))
    have hf := ifn hf (sw_d hs_4 (by decide))
    have hf := ifn hf (sw_d hs_4 (by decide))
    have hf := ifn hf (sw_d hs_4 (by decide))
    have hf := ifn hf (sw_d hs_4 (by decide))
    have hf := ifn hf (sw_d hs_4 (by decide))
    have hf := ifn hf (sw_d hs_4 (by decide))
    have hf := ifn hf (sw_d hs_4 (by decide))
    have hf := ifn hf (sw_d hs_4 (by decide))
    have hf := ifn hf (sw_d hs_4 (by decide))
    have hf := ifp hf hs_4
    refine g_iload_n d_Mod_reckon_160 rfl ?_
    refine g_iload_n d_Mod_reckon_161 rfl ?_
    refine g_icmp_ge 169 d_Mod_reckon_162 (by decide) (fun c_162 => ?_) (fun c_162 => ?_)
    · have hf := ifp hf c_162
      refine g_iload_n d_Mod_reckon_169 rfl ?_
      exact Go.ret (some _) (rOk_i _) rfl d_Mod_reckon_170 (pI_of hf)
    · have hf := ifn hf c_162
      refine g_iload_n d_Mod_reckon_165 rfl ?_
      refine g_goto 170 d_Mod_reckon_166 (by decide) ?_
      exact Go.ret (some _) (rOk_i _) rfl d_Mod_reckon_170 (pI_of hf)
  · refine g_tableIn 171 d_Mod_reckon_4 (by rw [hs_4]; decide) (by rw [hs_4]; decide) (by rw [hs_4]; rfl) (by decide) ?_
    have hf := ifn hf (sw_d hs_4 (by decide))
    have hf := ifn hf (sw_d hs_4 (by decide))
    have hf := ifn hf (sw_d hs_4 (by decide))
    have hf := ifn hf (sw_d hs_4 (by decide))
    have hf := ifn hf (sw_d hs_4 (by decide))
    have hf := ifn hf (sw_d hs_4 (by decide))
    have hf := ifn hf (sw_d hs_4 (by decide))
    have hf := ifn hf (sw_d hs_4 (by decide))
    have hf := ifn hf (sw_d hs_4 (by decide))
    have hf := ifn hf (sw_d hs_4 (by decide))
    have hf := ifn hf (sw_d hs_4 (by decide))
    have hf := ifn hf (sw_d hs_4 (by decide))
    have hf := ifp hf hs_4
    refine g_iload_n d_Mod_reckon_171 rfl ?_
    refine g_iload_n d_Mod_reckon_172 rfl ?_
    refine g_icmp_le 180 d_Mod_reckon_173 (by decide) (fun c_173 => ?_) (fun c_173 => ?_)
    · have hf := ifp hf c_173
      refine g_iload_n d_Mod_reckon_180 rfl ?_
      exact Go.ret (some _) (rOk_i _) rfl d_Mod_reckon_181 (pI_of hf)
    · have hf := ifn hf c_173
      refine g_iload_n d_Mod_reckon_176 rfl ?_
      refine g_goto 181 d_Mod_reckon_177 (by decide) ?_
      exact Go.ret (some _) (rOk_i _) rfl d_Mod_reckon_181 (pI_of hf)
  · refine g_tableIn 182 d_Mod_reckon_4 (by rw [hs_4]; decide) (by rw [hs_4]; decide) (by rw [hs_4]; rfl) (by decide) ?_
    have hf := ifn hf (sw_d hs_4 (by decide))
    have hf := ifn hf (sw_d hs_4 (by decide))
    have hf := ifn hf (sw_d hs_4 (by decide))
    have hf := ifn hf (sw_d hs_4 (by decide))
    have hf := ifn hf (sw_d hs_4 (by decide))
    have hf := ifn hf (sw_d hs_4 (by decide))
    have hf := ifn hf (sw_d hs_4 (by decide))
    have hf := ifn hf (sw_d hs_4 (by decide))
    have hf := ifn hf (sw_d hs_4 (by decide))
    have hf := ifn hf (sw_d hs_4 (by decide))
    have hf := ifn hf (sw_d hs_4 (by decide))
    have hf := ifn hf (sw_d hs_4 (by decide))
    have hf := ifn hf (sw_d hs_4 (by decide))
    have hf := ifp hf hs_4
    refine g_iload_n d_Mod_reckon_182 rfl ?_
    refine g_i2l d_Mod_reckon_183 ?_
    refine g_iload_n d_Mod_reckon_184 rfl ?_
    refine g_i2l d_Mod_reckon_185 ?_
    refine g_lmul d_Mod_reckon_186 ?_
    refine g_bipush (32) d_Mod_reckon_187 (by decide) ?_
    refine g_lshr d_Mod_reckon_189 ?_
    refine g_l2i d_Mod_reckon_190 ?_
    exact Go.ret (some _) (rOk_i _) rfl d_Mod_reckon_191 (pI_of hf)
  · refine g_tableIn 192 d_Mod_reckon_4 (by rw [hs_4]; decide) (by rw [hs_4]; decide) (by rw [hs_4]; rfl) (by decide) ?_
    have hf := ifn hf (sw_d hs_4 (by decide))
    have hf := ifn hf (sw_d hs_4 (by decide))
    have hf := ifn hf (sw_d hs_4 (by decide))
    have hf := ifn hf (sw_d hs_4 (by decide))
    have hf := ifn hf (sw_d hs_4 (by decide))
    have hf := ifn hf (sw_d hs_4 (by decide))
    have hf := ifn hf (sw_d hs_4 (by decide))
    have hf := ifn hf (sw_d hs_4 (by decide))
    have hf := ifn hf (sw_d hs_4 (by decide))
    have hf := ifn hf (sw_d hs_4 (by decide))
    have hf := ifn hf (sw_d hs_4 (by decide))
    have hf := ifn hf (sw_d hs_4 (by decide))
    have hf := ifn hf (sw_d hs_4 (by decide))
    have hf := ifn hf (sw_d hs_4 (by decide))
    have hf := ifp hf hs_4
    refine g_iload_n d_Mod_reckon_192 rfl ?_
    refine g_aload_n d_Mod_reckon_193 rfl ?_
    refine fg_Mod_n lf_Mod_237 d_Mod_reckon_194 k_1 ?_
    refine g_iadd d_Mod_reckon_197 ?_
    exact Go.ret (some _) (rOk_i _) rfl d_Mod_reckon_198 (pI_of hf)
  · refine g_tableIn 199 d_Mod_reckon_4 (by rw [hs_4]; decide) (by rw [hs_4]; decide) (by rw [hs_4]; rfl) (by decide) ?_
    have hf := ifn hf (sw_d hs_4 (by decide))
    have hf := ifn hf (sw_d hs_4 (by decide))
    have hf := ifn hf (sw_d hs_4 (by decide))
    have hf := ifn hf (sw_d hs_4 (by decide))
    have hf := ifn hf (sw_d hs_4 (by decide))
    have hf := ifn hf (sw_d hs_4 (by decide))
    have hf := ifn hf (sw_d hs_4 (by decide))
    have hf := ifn hf (sw_d hs_4 (by decide))
    have hf := ifn hf (sw_d hs_4 (by decide))
    have hf := ifn hf (sw_d hs_4 (by decide))
    have hf := ifn hf (sw_d hs_4 (by decide))
    have hf := ifn hf (sw_d hs_4 (by decide))
    have hf := ifn hf (sw_d hs_4 (by decide))
    have hf := ifn hf (sw_d hs_4 (by decide))
    have hf := ifn hf (sw_d hs_4 (by decide))
    have hf := ifp hf hs_4
    refine g_iload_n d_Mod_reckon_199 rfl ?_
    refine g_aload_n d_Mod_reckon_200 rfl ?_
    refine fg_Mod_n lf_Mod_237 d_Mod_reckon_201 k_1 ?_
    refine g_imul d_Mod_reckon_204 ?_
    exact Go.ret (some _) (rOk_i _) rfl d_Mod_reckon_205 (pI_of hf)
  · refine g_tableIn 206 d_Mod_reckon_4 (by rw [hs_4]; decide) (by rw [hs_4]; decide) (by rw [hs_4]; rfl) (by decide) ?_
    have hf := ifn hf (sw_d hs_4 (by decide))
    have hf := ifn hf (sw_d hs_4 (by decide))
    have hf := ifn hf (sw_d hs_4 (by decide))
    have hf := ifn hf (sw_d hs_4 (by decide))
    have hf := ifn hf (sw_d hs_4 (by decide))
    have hf := ifn hf (sw_d hs_4 (by decide))
    have hf := ifn hf (sw_d hs_4 (by decide))
    have hf := ifn hf (sw_d hs_4 (by decide))
    have hf := ifn hf (sw_d hs_4 (by decide))
    have hf := ifn hf (sw_d hs_4 (by decide))
    have hf := ifn hf (sw_d hs_4 (by decide))
    have hf := ifn hf (sw_d hs_4 (by decide))
    have hf := ifn hf (sw_d hs_4 (by decide))
    have hf := ifn hf (sw_d hs_4 (by decide))
    have hf := ifn hf (sw_d hs_4 (by decide))
    have hf := ifn hf (sw_d hs_4 (by decide))
    have hf := ifp hf hs_4
    refine g_iload_n d_Mod_reckon_206 rfl ?_
    refine g_aload_n d_Mod_reckon_207 rfl ?_
    refine fg_Mod_n lf_Mod_237 d_Mod_reckon_208 k_1 ?_
    refine g_iand d_Mod_reckon_211 ?_
    exact Go.ret (some _) (rOk_i _) rfl d_Mod_reckon_212 (pI_of hf)
abbrev mi_Mod_say : MI := (⟨"WarpMillModel", "say", "(IZ)V"⟩, prog_13_method_48_code, 4, none, 0, 0)
def it_Mod_say_0 : List (Nat × ClassFile.Instr × Nat) := [(0, .iconst 1, 1), (1, .aload_n 0, 1), (2, .getfield 225, 3), (5, .iconst 3, 1), (6, .iand, 1), (7, .ishl, 1), (8, .istore_n 3, 1), (9, .aload_n 0, 1), (10, .getfield 70, 3), (13, .iload_n 1, 1), (14, .iload_n 2, 1), (15, .ifCond .eq (14), 3), (18, .aload_n 0, 1), (19, .getfield 70, 3), (22, .iload_n 1, 1), (23, .iaload, 1), (24, .iload_n 3, 1), (25, .ior, 1), (26, .goto (13), 3), (29, .aload_n 0, 1), (30, .getfield 70, 3), (33, .iload_n 1, 1), (34, .iaload, 1), (35, .iload_n 3, 1)]
theorem id_Mod_say_0 : ∀ q ∈ it_Mod_say_0, decode prog_13_method_48_code q.1 = .ok q.2 := by decide +kernel
theorem d_Mod_say_0 : decode prog_13_method_48_code 0 = .ok (.iconst 1, 1) := id_Mod_say_0 (0, .iconst 1, 1) (List.mem_of_getElem? (i := 0) rfl)
theorem d_Mod_say_1 : decode prog_13_method_48_code 1 = .ok (.aload_n 0, 1) := id_Mod_say_0 (1, .aload_n 0, 1) (List.mem_of_getElem? (i := 1) rfl)
theorem d_Mod_say_2 : decode prog_13_method_48_code 2 = .ok (.getfield 225, 3) := id_Mod_say_0 (2, .getfield 225, 3) (List.mem_of_getElem? (i := 2) rfl)
theorem d_Mod_say_5 : decode prog_13_method_48_code 5 = .ok (.iconst 3, 1) := id_Mod_say_0 (5, .iconst 3, 1) (List.mem_of_getElem? (i := 3) rfl)
theorem d_Mod_say_6 : decode prog_13_method_48_code 6 = .ok (.iand, 1) := id_Mod_say_0 (6, .iand, 1) (List.mem_of_getElem? (i := 4) rfl)
theorem d_Mod_say_7 : decode prog_13_method_48_code 7 = .ok (.ishl, 1) := id_Mod_say_0 (7, .ishl, 1) (List.mem_of_getElem? (i := 5) rfl)
theorem d_Mod_say_8 : decode prog_13_method_48_code 8 = .ok (.istore_n 3, 1) := id_Mod_say_0 (8, .istore_n 3, 1) (List.mem_of_getElem? (i := 6) rfl)
theorem d_Mod_say_9 : decode prog_13_method_48_code 9 = .ok (.aload_n 0, 1) := id_Mod_say_0 (9, .aload_n 0, 1) (List.mem_of_getElem? (i := 7) rfl)
theorem d_Mod_say_10 : decode prog_13_method_48_code 10 = .ok (.getfield 70, 3) := id_Mod_say_0 (10, .getfield 70, 3) (List.mem_of_getElem? (i := 8) rfl)
theorem d_Mod_say_13 : decode prog_13_method_48_code 13 = .ok (.iload_n 1, 1) := id_Mod_say_0 (13, .iload_n 1, 1) (List.mem_of_getElem? (i := 9) rfl)
theorem d_Mod_say_14 : decode prog_13_method_48_code 14 = .ok (.iload_n 2, 1) := id_Mod_say_0 (14, .iload_n 2, 1) (List.mem_of_getElem? (i := 10) rfl)
theorem d_Mod_say_15 : decode prog_13_method_48_code 15 = .ok (.ifCond .eq (14), 3) := id_Mod_say_0 (15, .ifCond .eq (14), 3) (List.mem_of_getElem? (i := 11) rfl)
theorem d_Mod_say_18 : decode prog_13_method_48_code 18 = .ok (.aload_n 0, 1) := id_Mod_say_0 (18, .aload_n 0, 1) (List.mem_of_getElem? (i := 12) rfl)
theorem d_Mod_say_19 : decode prog_13_method_48_code 19 = .ok (.getfield 70, 3) := id_Mod_say_0 (19, .getfield 70, 3) (List.mem_of_getElem? (i := 13) rfl)
theorem d_Mod_say_22 : decode prog_13_method_48_code 22 = .ok (.iload_n 1, 1) := id_Mod_say_0 (22, .iload_n 1, 1) (List.mem_of_getElem? (i := 14) rfl)
theorem d_Mod_say_23 : decode prog_13_method_48_code 23 = .ok (.iaload, 1) := id_Mod_say_0 (23, .iaload, 1) (List.mem_of_getElem? (i := 15) rfl)
theorem d_Mod_say_24 : decode prog_13_method_48_code 24 = .ok (.iload_n 3, 1) := id_Mod_say_0 (24, .iload_n 3, 1) (List.mem_of_getElem? (i := 16) rfl)
theorem d_Mod_say_25 : decode prog_13_method_48_code 25 = .ok (.ior, 1) := id_Mod_say_0 (25, .ior, 1) (List.mem_of_getElem? (i := 17) rfl)
theorem d_Mod_say_26 : decode prog_13_method_48_code 26 = .ok (.goto (13), 3) := id_Mod_say_0 (26, .goto (13), 3) (List.mem_of_getElem? (i := 18) rfl)
theorem d_Mod_say_29 : decode prog_13_method_48_code 29 = .ok (.aload_n 0, 1) := id_Mod_say_0 (29, .aload_n 0, 1) (List.mem_of_getElem? (i := 19) rfl)
theorem d_Mod_say_30 : decode prog_13_method_48_code 30 = .ok (.getfield 70, 3) := id_Mod_say_0 (30, .getfield 70, 3) (List.mem_of_getElem? (i := 20) rfl)
theorem d_Mod_say_33 : decode prog_13_method_48_code 33 = .ok (.iload_n 1, 1) := id_Mod_say_0 (33, .iload_n 1, 1) (List.mem_of_getElem? (i := 21) rfl)
theorem d_Mod_say_34 : decode prog_13_method_48_code 34 = .ok (.iaload, 1) := id_Mod_say_0 (34, .iaload, 1) (List.mem_of_getElem? (i := 22) rfl)
theorem d_Mod_say_35 : decode prog_13_method_48_code 35 = .ok (.iload_n 3, 1) := id_Mod_say_0 (35, .iload_n 3, 1) (List.mem_of_getElem? (i := 23) rfl)
def it_Mod_say_1 : List (Nat × ClassFile.Instr × Nat) := [(36, .iconst (-1), 1), (37, .ixor, 1), (38, .iand, 1), (39, .iastore, 1), (40, .return_, 1)]
theorem id_Mod_say_1 : ∀ q ∈ it_Mod_say_1, decode prog_13_method_48_code q.1 = .ok q.2 := by decide +kernel
theorem d_Mod_say_36 : decode prog_13_method_48_code 36 = .ok (.iconst (-1), 1) := id_Mod_say_1 (36, .iconst (-1), 1) (List.mem_of_getElem? (i := 0) rfl)
theorem d_Mod_say_37 : decode prog_13_method_48_code 37 = .ok (.ixor, 1) := id_Mod_say_1 (37, .ixor, 1) (List.mem_of_getElem? (i := 1) rfl)
theorem d_Mod_say_38 : decode prog_13_method_48_code 38 = .ok (.iand, 1) := id_Mod_say_1 (38, .iand, 1) (List.mem_of_getElem? (i := 2) rfl)
theorem d_Mod_say_39 : decode prog_13_method_48_code 39 = .ok (.iastore, 1) := id_Mod_say_1 (39, .iastore, 1) (List.mem_of_getElem? (i := 3) rfl)
theorem d_Mod_say_40 : decode prog_13_method_48_code 40 = .ok (.return_, 1) := id_Mod_say_1 (40, .return_, 1) (List.mem_of_getElem? (i := 4) rfl)
theorem wC_Mod_say : Cond.code ⟨"WarpMillModel", "say", "(IZ)V"⟩ prog_13_method_48_code 4 (none) ∈ lw_tb := mem_tb 1452 (by decide +kernel) rfl
def b_Mod_say_39 (F : Nat) (s0 : Nat) (s1 : Int32) (s2 : Int32) (h : Hp) : Option Hp := gd (hK h s0 = 100) <| ix s1 (hN h s0) fun j_39_2 => pw (sA h s0 j_39_2 s2) fun h_39_3 => some h_39_3
set_option maxRecDepth 100000 in
set_option maxHeartbeats 4000000 in
theorem e_Mod_say_39 {G : Gl} (hw : gF G) {h0 : Hp} {F : Nat} {h' : Hp}   {s0 : Nat} {s1 : Int32} {s2 : Int32} {h : Hp} (hf : b_Mod_say_39 F s0 s1 s2 h = some h') : Go G mi_Mod_say h0 (pV h') h 39 [] [.int s2, .int s1, .ref s0] := by
  unfold b_Mod_say_39 at hf
  obtain ⟨k_39, hf⟩ := gd_s hf
  obtain ⟨i_39_2, hf⟩ := ix_s hf
  refine g_iast hw k_39 i_39_2 d_Mod_say_39 ?_
  have hf := pw_b hf
  exact Go.ret none trivial rfl d_Mod_say_40 (pV_of hf)
def f_Mod_say (F : Nat) (x0 : Nat) (x1 : Int32) (x2 : Int32) (h : Hp) : Option Hp := gd (hK h x0 = 12) <| rq h (hR h 740 x0) 100 fun a_10 => if x2 = 0 then (ix x1 (hN h a_10) fun j_34 => b_Mod_say_39 F a_10 x1 ((hA h a_10 j_34) &&& (((1 : Int32) <<< (((hI h 757 x0) &&& (3 : Int32)) &&& 31)) ^^^ (-1 : Int32))) h) else (ix x1 (hN h a_10) fun j_23 => b_Mod_say_39 F a_10 x1 ((hA h a_10 j_23) ||| ((1 : Int32) <<< (((hI h 757 x0) &&& (3 : Int32)) &&& 31))) h)
set_option maxRecDepth 100000 in
set_option maxHeartbeats 4000000 in
theorem e_Mod_say {G : Gl} (hw : gF G) {F : Nat} {h' : Hp} {x0 : Nat} {x1 : Int32} {x2 : Int32} {h : Hp} (hf : f_Mod_say F x0 x1 x2 h = some h') : Ex G mi_Mod_say [.ref x0, .int x1, .int x2] h (pV h') := by
  unfold f_Mod_say at hf
  refine Ex.of nmV (by decide) (Nat.le_of_ble_eq_true rfl) ?_
  show Go G mi_Mod_say h _ h 0 [(0, .ref x0), (1, .int x1), (2, .int x2)] []
  refine g_iconst 1 d_Mod_say_0 (by decide) ?_
  refine g_aload_n d_Mod_say_1 rfl ?_
  obtain ⟨k_2, hf⟩ := gd_s hf
  refine fg_Mod_d lf_Mod_225 d_Mod_say_2 k_2 ?_
  refine g_iconst 3 d_Mod_say_5 (by decide) ?_
  refine g_iand d_Mod_say_6 ?_
  refine g_ishl d_Mod_say_7 ?_
  refine g_istore_n d_Mod_say_8 (by decide) ?_
  show Go _ _ _ _ _ _ [(0, _), (1, _), (2, _), (3, _)] _
  refine g_aload_n d_Mod_say_9 rfl ?_
  obtain ⟨a_10, e_10, k_10, hf⟩ := rq_s hf
  refine fgs_Mod_predicate lf_Mod_70 d_Mod_say_10 k_2 e_10 ?_
  refine g_iload_n d_Mod_say_13 rfl ?_
  refine g_iload_n d_Mod_say_14 rfl ?_
  refine g_if_eq 29 d_Mod_say_15 (by decide) (fun c_15 => ?_) (fun c_15 => ?_)
  · have hf := ifp hf c_15
    refine g_aload_n d_Mod_say_29 rfl ?_
    refine fgs_Mod_predicate lf_Mod_70 d_Mod_say_30 k_2 e_10 ?_
    refine g_iload_n d_Mod_say_33 rfl ?_
    obtain ⟨i_34, hf⟩ := ix_s hf
    refine g_iald k_10 i_34 d_Mod_say_34 ?_
    refine g_iload_n d_Mod_say_35 rfl ?_
    refine g_iconst (-1) d_Mod_say_36 (by decide) ?_
    refine g_ixor d_Mod_say_37 ?_
    refine g_iand d_Mod_say_38 ?_
    refine Go.locals [] rfl ?_
    have key := e_Mod_say_39 hw (G := G) (h0 := h)  hf
    exact key
  · have hf := ifn hf c_15
    refine g_aload_n d_Mod_say_18 rfl ?_
    refine fgs_Mod_predicate lf_Mod_70 d_Mod_say_19 k_2 e_10 ?_
    refine g_iload_n d_Mod_say_22 rfl ?_
    obtain ⟨i_23, hf⟩ := ix_s hf
    refine g_iald k_10 i_23 d_Mod_say_23 ?_
    refine g_iload_n d_Mod_say_24 rfl ?_
    refine g_ior d_Mod_say_25 ?_
    refine g_goto 39 d_Mod_say_26 (by decide) ?_
    refine Go.locals [] rfl ?_
    have key := e_Mod_say_39 hw (G := G) (h0 := h)  hf
    exact key
abbrev mi_Mod_jump : MI := (⟨"WarpMillModel", "jump", "(IIII)V"⟩, prog_13_method_52_code, 5, none, 0, 0)
def it_Mod_jump_0 : List (Nat × ClassFile.Instr × Nat) := [(0, .aload_n 0, 1), (1, .getfield 73, 3), (4, .iload_n 1, 1), (5, .aload_n 0, 1), (6, .getfield 220, 3), (9, .bipush (42), 2), (11, .if_icmp .ne (7), 3), (14, .iload_n 3, 1), (15, .goto (7), 3), (18, .aload_n 0, 1), (19, .getfield 237, 3), (22, .iastore, 1), (23, .aload_n 0, 1), (24, .getfield 220, 3), (27, .bipush (41), 2), (29, .if_icmp .ne (13), 3), (32, .aload_n 0, 1), (33, .getfield 67, 3), (36, .iload_n 2, 1), (37, .iload 4, 2), (39, .iconst 1, 1), (40, .iadd, 1), (41, .iastore, 1), (42, .return_, 1)]
theorem id_Mod_jump_0 : ∀ q ∈ it_Mod_jump_0, decode prog_13_method_52_code q.1 = .ok q.2 := by decide +kernel
theorem d_Mod_jump_0 : decode prog_13_method_52_code 0 = .ok (.aload_n 0, 1) := id_Mod_jump_0 (0, .aload_n 0, 1) (List.mem_of_getElem? (i := 0) rfl)
theorem d_Mod_jump_1 : decode prog_13_method_52_code 1 = .ok (.getfield 73, 3) := id_Mod_jump_0 (1, .getfield 73, 3) (List.mem_of_getElem? (i := 1) rfl)
theorem d_Mod_jump_4 : decode prog_13_method_52_code 4 = .ok (.iload_n 1, 1) := id_Mod_jump_0 (4, .iload_n 1, 1) (List.mem_of_getElem? (i := 2) rfl)
theorem d_Mod_jump_5 : decode prog_13_method_52_code 5 = .ok (.aload_n 0, 1) := id_Mod_jump_0 (5, .aload_n 0, 1) (List.mem_of_getElem? (i := 3) rfl)
theorem d_Mod_jump_6 : decode prog_13_method_52_code 6 = .ok (.getfield 220, 3) := id_Mod_jump_0 (6, .getfield 220, 3) (List.mem_of_getElem? (i := 4) rfl)
theorem d_Mod_jump_9 : decode prog_13_method_52_code 9 = .ok (.bipush (42), 2) := id_Mod_jump_0 (9, .bipush (42), 2) (List.mem_of_getElem? (i := 5) rfl)
theorem d_Mod_jump_11 : decode prog_13_method_52_code 11 = .ok (.if_icmp .ne (7), 3) := id_Mod_jump_0 (11, .if_icmp .ne (7), 3) (List.mem_of_getElem? (i := 6) rfl)
theorem d_Mod_jump_14 : decode prog_13_method_52_code 14 = .ok (.iload_n 3, 1) := id_Mod_jump_0 (14, .iload_n 3, 1) (List.mem_of_getElem? (i := 7) rfl)
theorem d_Mod_jump_15 : decode prog_13_method_52_code 15 = .ok (.goto (7), 3) := id_Mod_jump_0 (15, .goto (7), 3) (List.mem_of_getElem? (i := 8) rfl)
theorem d_Mod_jump_18 : decode prog_13_method_52_code 18 = .ok (.aload_n 0, 1) := id_Mod_jump_0 (18, .aload_n 0, 1) (List.mem_of_getElem? (i := 9) rfl)
theorem d_Mod_jump_19 : decode prog_13_method_52_code 19 = .ok (.getfield 237, 3) := id_Mod_jump_0 (19, .getfield 237, 3) (List.mem_of_getElem? (i := 10) rfl)
theorem d_Mod_jump_22 : decode prog_13_method_52_code 22 = .ok (.iastore, 1) := id_Mod_jump_0 (22, .iastore, 1) (List.mem_of_getElem? (i := 11) rfl)
theorem d_Mod_jump_23 : decode prog_13_method_52_code 23 = .ok (.aload_n 0, 1) := id_Mod_jump_0 (23, .aload_n 0, 1) (List.mem_of_getElem? (i := 12) rfl)
theorem d_Mod_jump_24 : decode prog_13_method_52_code 24 = .ok (.getfield 220, 3) := id_Mod_jump_0 (24, .getfield 220, 3) (List.mem_of_getElem? (i := 13) rfl)
theorem d_Mod_jump_27 : decode prog_13_method_52_code 27 = .ok (.bipush (41), 2) := id_Mod_jump_0 (27, .bipush (41), 2) (List.mem_of_getElem? (i := 14) rfl)
theorem d_Mod_jump_29 : decode prog_13_method_52_code 29 = .ok (.if_icmp .ne (13), 3) := id_Mod_jump_0 (29, .if_icmp .ne (13), 3) (List.mem_of_getElem? (i := 15) rfl)
theorem d_Mod_jump_32 : decode prog_13_method_52_code 32 = .ok (.aload_n 0, 1) := id_Mod_jump_0 (32, .aload_n 0, 1) (List.mem_of_getElem? (i := 16) rfl)
theorem d_Mod_jump_33 : decode prog_13_method_52_code 33 = .ok (.getfield 67, 3) := id_Mod_jump_0 (33, .getfield 67, 3) (List.mem_of_getElem? (i := 17) rfl)
theorem d_Mod_jump_36 : decode prog_13_method_52_code 36 = .ok (.iload_n 2, 1) := id_Mod_jump_0 (36, .iload_n 2, 1) (List.mem_of_getElem? (i := 18) rfl)
theorem d_Mod_jump_37 : decode prog_13_method_52_code 37 = .ok (.iload 4, 2) := id_Mod_jump_0 (37, .iload 4, 2) (List.mem_of_getElem? (i := 19) rfl)
theorem d_Mod_jump_39 : decode prog_13_method_52_code 39 = .ok (.iconst 1, 1) := id_Mod_jump_0 (39, .iconst 1, 1) (List.mem_of_getElem? (i := 20) rfl)
theorem d_Mod_jump_40 : decode prog_13_method_52_code 40 = .ok (.iadd, 1) := id_Mod_jump_0 (40, .iadd, 1) (List.mem_of_getElem? (i := 21) rfl)
theorem d_Mod_jump_41 : decode prog_13_method_52_code 41 = .ok (.iastore, 1) := id_Mod_jump_0 (41, .iastore, 1) (List.mem_of_getElem? (i := 22) rfl)
theorem d_Mod_jump_42 : decode prog_13_method_52_code 42 = .ok (.return_, 1) := id_Mod_jump_0 (42, .return_, 1) (List.mem_of_getElem? (i := 23) rfl)
theorem wC_Mod_jump : Cond.code ⟨"WarpMillModel", "jump", "(IIII)V"⟩ prog_13_method_52_code 5 (none) ∈ lw_tb := mem_tb 1456 (by decide +kernel) rfl
def b_Mod_jump_22 (F : Nat) (x0 : Nat) (x2 : Int32) (x4 : Int32) (s0 : Nat) (s1 : Int32) (s2 : Int32) (h : Hp) : Option Hp := gd (hK h s0 = 100) <| ix s1 (hN h s0) fun j_22_2 => pw (sA h s0 j_22_2 s2) fun h_22_3 => gd (hK h_22_3 x0 = 12) <| if (hI h_22_3 756 x0) = (41 : Int32) then (rq h_22_3 (hR h_22_3 739 x0) 100 fun a_33 => ix x2 (hN h_22_3 a_33) fun j_41 => pw (sA h_22_3 a_33 j_41 (x4 + (1 : Int32))) fun h_41_2 => some h_41_2) else (some h_22_3)
set_option maxRecDepth 100000 in
set_option maxHeartbeats 4000000 in
theorem e_Mod_jump_22 {G : Gl} (hw : gF G) {h0 : Hp} {F : Nat} {h' : Hp}   {x0 : Nat} {x2 : Int32} {x4 : Int32} {s0 : Nat} {s1 : Int32} {s2 : Int32} {h : Hp} (hf : b_Mod_jump_22 F x0 x2 x4 s0 s1 s2 h = some h') : Go G mi_Mod_jump h0 (pV h') h 22 [(0, .ref x0), (2, .int x2), (4, .int x4)] [.int s2, .int s1, .ref s0] := by
  unfold b_Mod_jump_22 at hf
  obtain ⟨k_22, hf⟩ := gd_s hf
  obtain ⟨i_22_2, hf⟩ := ix_s hf
  refine g_iast hw k_22 i_22_2 d_Mod_jump_22 ?_
  have hf := pw_b hf
  refine g_aload_n d_Mod_jump_23 rfl ?_
  obtain ⟨k_24, hf⟩ := gd_s hf
  refine fg_Mod_op lf_Mod_220 d_Mod_jump_24 k_24 ?_
  refine g_bipush (41) d_Mod_jump_27 (by decide) ?_
  refine g_icmp_ne 42 d_Mod_jump_29 (by decide) (fun c_29 => ?_) (fun c_29 => ?_)
  · have hf := ifn hf c_29
    exact Go.ret none trivial rfl d_Mod_jump_42 (pV_of hf)
  · have hf := ifp hf c_29
    refine g_aload_n d_Mod_jump_32 rfl ?_
    obtain ⟨a_33, e_33, k_33, hf⟩ := rq_s hf
    refine fgs_Mod_register lf_Mod_67 d_Mod_jump_33 k_24 e_33 ?_
    refine g_iload_n d_Mod_jump_36 rfl ?_
    refine g_iload d_Mod_jump_37 rfl ?_
    refine g_iconst 1 d_Mod_jump_39 (by decide) ?_
    refine g_iadd d_Mod_jump_40 ?_
    obtain ⟨i_41, hf⟩ := ix_s hf
    refine g_iast hw k_33 i_41 d_Mod_jump_41 ?_
    have hf := pw_b hf
    exact Go.ret none trivial rfl d_Mod_jump_42 (pV_of hf)
def f_Mod_jump (F : Nat) (x0 : Nat) (x1 : Int32) (x2 : Int32) (x3 : Int32) (x4 : Int32) (h : Hp) : Option Hp := gd (hK h x0 = 12) <| rq h (hR h 741 x0) 100 fun a_1_2 => if (hI h 756 x0) = (42 : Int32) then (b_Mod_jump_22 F x0 x2 x4 a_1_2 x1 x3 h) else (b_Mod_jump_22 F x0 x2 x4 a_1_2 x1 (hI h 761 x0) h)
set_option maxRecDepth 100000 in
set_option maxHeartbeats 4000000 in
theorem e_Mod_jump {G : Gl} (hw : gF G) {F : Nat} {h' : Hp} {x0 : Nat} {x1 : Int32} {x2 : Int32} {x3 : Int32} {x4 : Int32} {h : Hp} (hf : f_Mod_jump F x0 x1 x2 x3 x4 h = some h') : Ex G mi_Mod_jump [.ref x0, .int x1, .int x2, .int x3, .int x4] h (pV h') := by
  unfold f_Mod_jump at hf
  refine Ex.of nmV (by decide) (Nat.le_of_ble_eq_true rfl) ?_
  show Go G mi_Mod_jump h _ h 0 [(0, .ref x0), (1, .int x1), (2, .int x2), (3, .int x3), (4, .int x4)] []
  refine g_aload_n d_Mod_jump_0 rfl ?_
  obtain ⟨k_1, hf⟩ := gd_s hf
  obtain ⟨a_1_2, e_1_2, k_1_2, hf⟩ := rq_s hf
  refine fgs_Mod_place lf_Mod_73 d_Mod_jump_1 k_1 e_1_2 ?_
  refine g_iload_n d_Mod_jump_4 rfl ?_
  refine g_aload_n d_Mod_jump_5 rfl ?_
  refine fg_Mod_op lf_Mod_220 d_Mod_jump_6 k_1 ?_
  refine g_bipush (42) d_Mod_jump_9 (by decide) ?_
  refine g_icmp_ne 18 d_Mod_jump_11 (by decide) (fun c_11 => ?_) (fun c_11 => ?_)
  · have hf := ifn hf c_11
    refine g_aload_n d_Mod_jump_18 rfl ?_
    refine fg_Mod_n lf_Mod_237 d_Mod_jump_19 k_1 ?_
    refine Go.locals [0, 2, 4] rfl ?_
    have key := e_Mod_jump_22 hw (G := G) (h0 := h)  hf
    exact key
  · have hf := ifp hf c_11
    refine g_iload_n d_Mod_jump_14 rfl ?_
    refine g_goto 22 d_Mod_jump_15 (by decide) ?_
    refine Go.locals [0, 2, 4] rfl ?_
    have key := e_Mod_jump_22 hw (G := G) (h0 := h)  hf
    exact key
abbrev mi_Mod_ask : MI := (⟨"WarpMillModel", "ask", "(IIIII)V"⟩, prog_13_method_56_code, 6, none, 0, 0)
def it_Mod_ask_0 : List (Nat × ClassFile.Instr × Nat) := [(0, .aload_n 0, 1), (1, .getfield 87, 3), (4, .aload_n 0, 1), (5, .getfield 129, 3), (8, .aload_n 0, 1), (9, .getfield 105, 3), (12, .iload_n 2, 1), (13, .iaload, 1), (14, .iastore, 1), (15, .aload_n 0, 1), (16, .aload_n 0, 1), (17, .getfield 105, 3), (20, .iload_n 2, 1), (21, .iaload, 1), (22, .aload_n 0, 1), (23, .getfield 133, 3), (26, .if_icmp .ge (12), 3), (29, .aload_n 0, 1), (30, .getfield 105, 3), (33, .iload_n 2, 1), (34, .iaload, 1), (35, .goto (7), 3), (38, .aload_n 0, 1), (39, .getfield 133, 3)]
theorem id_Mod_ask_0 : ∀ q ∈ it_Mod_ask_0, decode prog_13_method_56_code q.1 = .ok q.2 := by decide +kernel
theorem d_Mod_ask_0 : decode prog_13_method_56_code 0 = .ok (.aload_n 0, 1) := id_Mod_ask_0 (0, .aload_n 0, 1) (List.mem_of_getElem? (i := 0) rfl)
theorem d_Mod_ask_1 : decode prog_13_method_56_code 1 = .ok (.getfield 87, 3) := id_Mod_ask_0 (1, .getfield 87, 3) (List.mem_of_getElem? (i := 1) rfl)
theorem d_Mod_ask_4 : decode prog_13_method_56_code 4 = .ok (.aload_n 0, 1) := id_Mod_ask_0 (4, .aload_n 0, 1) (List.mem_of_getElem? (i := 2) rfl)
theorem d_Mod_ask_5 : decode prog_13_method_56_code 5 = .ok (.getfield 129, 3) := id_Mod_ask_0 (5, .getfield 129, 3) (List.mem_of_getElem? (i := 3) rfl)
theorem d_Mod_ask_8 : decode prog_13_method_56_code 8 = .ok (.aload_n 0, 1) := id_Mod_ask_0 (8, .aload_n 0, 1) (List.mem_of_getElem? (i := 4) rfl)
theorem d_Mod_ask_9 : decode prog_13_method_56_code 9 = .ok (.getfield 105, 3) := id_Mod_ask_0 (9, .getfield 105, 3) (List.mem_of_getElem? (i := 5) rfl)
theorem d_Mod_ask_12 : decode prog_13_method_56_code 12 = .ok (.iload_n 2, 1) := id_Mod_ask_0 (12, .iload_n 2, 1) (List.mem_of_getElem? (i := 6) rfl)
theorem d_Mod_ask_13 : decode prog_13_method_56_code 13 = .ok (.iaload, 1) := id_Mod_ask_0 (13, .iaload, 1) (List.mem_of_getElem? (i := 7) rfl)
theorem d_Mod_ask_14 : decode prog_13_method_56_code 14 = .ok (.iastore, 1) := id_Mod_ask_0 (14, .iastore, 1) (List.mem_of_getElem? (i := 8) rfl)
theorem d_Mod_ask_15 : decode prog_13_method_56_code 15 = .ok (.aload_n 0, 1) := id_Mod_ask_0 (15, .aload_n 0, 1) (List.mem_of_getElem? (i := 9) rfl)
theorem d_Mod_ask_16 : decode prog_13_method_56_code 16 = .ok (.aload_n 0, 1) := id_Mod_ask_0 (16, .aload_n 0, 1) (List.mem_of_getElem? (i := 10) rfl)
theorem d_Mod_ask_17 : decode prog_13_method_56_code 17 = .ok (.getfield 105, 3) := id_Mod_ask_0 (17, .getfield 105, 3) (List.mem_of_getElem? (i := 11) rfl)
theorem d_Mod_ask_20 : decode prog_13_method_56_code 20 = .ok (.iload_n 2, 1) := id_Mod_ask_0 (20, .iload_n 2, 1) (List.mem_of_getElem? (i := 12) rfl)
theorem d_Mod_ask_21 : decode prog_13_method_56_code 21 = .ok (.iaload, 1) := id_Mod_ask_0 (21, .iaload, 1) (List.mem_of_getElem? (i := 13) rfl)
theorem d_Mod_ask_22 : decode prog_13_method_56_code 22 = .ok (.aload_n 0, 1) := id_Mod_ask_0 (22, .aload_n 0, 1) (List.mem_of_getElem? (i := 14) rfl)
theorem d_Mod_ask_23 : decode prog_13_method_56_code 23 = .ok (.getfield 133, 3) := id_Mod_ask_0 (23, .getfield 133, 3) (List.mem_of_getElem? (i := 15) rfl)
theorem d_Mod_ask_26 : decode prog_13_method_56_code 26 = .ok (.if_icmp .ge (12), 3) := id_Mod_ask_0 (26, .if_icmp .ge (12), 3) (List.mem_of_getElem? (i := 16) rfl)
theorem d_Mod_ask_29 : decode prog_13_method_56_code 29 = .ok (.aload_n 0, 1) := id_Mod_ask_0 (29, .aload_n 0, 1) (List.mem_of_getElem? (i := 17) rfl)
theorem d_Mod_ask_30 : decode prog_13_method_56_code 30 = .ok (.getfield 105, 3) := id_Mod_ask_0 (30, .getfield 105, 3) (List.mem_of_getElem? (i := 18) rfl)
theorem d_Mod_ask_33 : decode prog_13_method_56_code 33 = .ok (.iload_n 2, 1) := id_Mod_ask_0 (33, .iload_n 2, 1) (List.mem_of_getElem? (i := 19) rfl)
theorem d_Mod_ask_34 : decode prog_13_method_56_code 34 = .ok (.iaload, 1) := id_Mod_ask_0 (34, .iaload, 1) (List.mem_of_getElem? (i := 20) rfl)
theorem d_Mod_ask_35 : decode prog_13_method_56_code 35 = .ok (.goto (7), 3) := id_Mod_ask_0 (35, .goto (7), 3) (List.mem_of_getElem? (i := 21) rfl)
theorem d_Mod_ask_38 : decode prog_13_method_56_code 38 = .ok (.aload_n 0, 1) := id_Mod_ask_0 (38, .aload_n 0, 1) (List.mem_of_getElem? (i := 22) rfl)
theorem d_Mod_ask_39 : decode prog_13_method_56_code 39 = .ok (.getfield 133, 3) := id_Mod_ask_0 (39, .getfield 133, 3) (List.mem_of_getElem? (i := 23) rfl)
def it_Mod_ask_1 : List (Nat × ClassFile.Instr × Nat) := [(42, .putfield 133, 3), (45, .aload_n 0, 1), (46, .getfield 90, 3), (49, .aload_n 0, 1), (50, .getfield 129, 3), (53, .bipush (32), 2), (55, .sipush (128), 3), (58, .aload_n 0, 1), (59, .getfield 54, 3), (62, .iload_n 1, 1), (63, .iaload, 1), (64, .imul, 1), (65, .iload_n 1, 1), (66, .iadd, 1), (67, .imul, 1), (68, .iload_n 2, 1), (69, .iadd, 1), (70, .iastore, 1), (71, .aload_n 0, 1), (72, .getfield 93, 3), (75, .aload_n 0, 1), (76, .getfield 129, 3), (79, .bipush (16), 2), (81, .aload_n 0, 1)]
theorem id_Mod_ask_1 : ∀ q ∈ it_Mod_ask_1, decode prog_13_method_56_code q.1 = .ok q.2 := by decide +kernel
theorem d_Mod_ask_42 : decode prog_13_method_56_code 42 = .ok (.putfield 133, 3) := id_Mod_ask_1 (42, .putfield 133, 3) (List.mem_of_getElem? (i := 0) rfl)
theorem d_Mod_ask_45 : decode prog_13_method_56_code 45 = .ok (.aload_n 0, 1) := id_Mod_ask_1 (45, .aload_n 0, 1) (List.mem_of_getElem? (i := 1) rfl)
theorem d_Mod_ask_46 : decode prog_13_method_56_code 46 = .ok (.getfield 90, 3) := id_Mod_ask_1 (46, .getfield 90, 3) (List.mem_of_getElem? (i := 2) rfl)
theorem d_Mod_ask_49 : decode prog_13_method_56_code 49 = .ok (.aload_n 0, 1) := id_Mod_ask_1 (49, .aload_n 0, 1) (List.mem_of_getElem? (i := 3) rfl)
theorem d_Mod_ask_50 : decode prog_13_method_56_code 50 = .ok (.getfield 129, 3) := id_Mod_ask_1 (50, .getfield 129, 3) (List.mem_of_getElem? (i := 4) rfl)
theorem d_Mod_ask_53 : decode prog_13_method_56_code 53 = .ok (.bipush (32), 2) := id_Mod_ask_1 (53, .bipush (32), 2) (List.mem_of_getElem? (i := 5) rfl)
theorem d_Mod_ask_55 : decode prog_13_method_56_code 55 = .ok (.sipush (128), 3) := id_Mod_ask_1 (55, .sipush (128), 3) (List.mem_of_getElem? (i := 6) rfl)
theorem d_Mod_ask_58 : decode prog_13_method_56_code 58 = .ok (.aload_n 0, 1) := id_Mod_ask_1 (58, .aload_n 0, 1) (List.mem_of_getElem? (i := 7) rfl)
theorem d_Mod_ask_59 : decode prog_13_method_56_code 59 = .ok (.getfield 54, 3) := id_Mod_ask_1 (59, .getfield 54, 3) (List.mem_of_getElem? (i := 8) rfl)
theorem d_Mod_ask_62 : decode prog_13_method_56_code 62 = .ok (.iload_n 1, 1) := id_Mod_ask_1 (62, .iload_n 1, 1) (List.mem_of_getElem? (i := 9) rfl)
theorem d_Mod_ask_63 : decode prog_13_method_56_code 63 = .ok (.iaload, 1) := id_Mod_ask_1 (63, .iaload, 1) (List.mem_of_getElem? (i := 10) rfl)
theorem d_Mod_ask_64 : decode prog_13_method_56_code 64 = .ok (.imul, 1) := id_Mod_ask_1 (64, .imul, 1) (List.mem_of_getElem? (i := 11) rfl)
theorem d_Mod_ask_65 : decode prog_13_method_56_code 65 = .ok (.iload_n 1, 1) := id_Mod_ask_1 (65, .iload_n 1, 1) (List.mem_of_getElem? (i := 12) rfl)
theorem d_Mod_ask_66 : decode prog_13_method_56_code 66 = .ok (.iadd, 1) := id_Mod_ask_1 (66, .iadd, 1) (List.mem_of_getElem? (i := 13) rfl)
theorem d_Mod_ask_67 : decode prog_13_method_56_code 67 = .ok (.imul, 1) := id_Mod_ask_1 (67, .imul, 1) (List.mem_of_getElem? (i := 14) rfl)
theorem d_Mod_ask_68 : decode prog_13_method_56_code 68 = .ok (.iload_n 2, 1) := id_Mod_ask_1 (68, .iload_n 2, 1) (List.mem_of_getElem? (i := 15) rfl)
theorem d_Mod_ask_69 : decode prog_13_method_56_code 69 = .ok (.iadd, 1) := id_Mod_ask_1 (69, .iadd, 1) (List.mem_of_getElem? (i := 16) rfl)
theorem d_Mod_ask_70 : decode prog_13_method_56_code 70 = .ok (.iastore, 1) := id_Mod_ask_1 (70, .iastore, 1) (List.mem_of_getElem? (i := 17) rfl)
theorem d_Mod_ask_71 : decode prog_13_method_56_code 71 = .ok (.aload_n 0, 1) := id_Mod_ask_1 (71, .aload_n 0, 1) (List.mem_of_getElem? (i := 18) rfl)
theorem d_Mod_ask_72 : decode prog_13_method_56_code 72 = .ok (.getfield 93, 3) := id_Mod_ask_1 (72, .getfield 93, 3) (List.mem_of_getElem? (i := 19) rfl)
theorem d_Mod_ask_75 : decode prog_13_method_56_code 75 = .ok (.aload_n 0, 1) := id_Mod_ask_1 (75, .aload_n 0, 1) (List.mem_of_getElem? (i := 20) rfl)
theorem d_Mod_ask_76 : decode prog_13_method_56_code 76 = .ok (.getfield 129, 3) := id_Mod_ask_1 (76, .getfield 129, 3) (List.mem_of_getElem? (i := 21) rfl)
theorem d_Mod_ask_79 : decode prog_13_method_56_code 79 = .ok (.bipush (16), 2) := id_Mod_ask_1 (79, .bipush (16), 2) (List.mem_of_getElem? (i := 22) rfl)
theorem d_Mod_ask_81 : decode prog_13_method_56_code 81 = .ok (.aload_n 0, 1) := id_Mod_ask_1 (81, .aload_n 0, 1) (List.mem_of_getElem? (i := 23) rfl)
def it_Mod_ask_2 : List (Nat × ClassFile.Instr × Nat) := [(82, .getfield 220, 3), (85, .imul, 1), (86, .aload_n 0, 1), (87, .getfield 225, 3), (90, .iadd, 1), (91, .iastore, 1), (92, .aload_n 0, 1), (93, .getfield 96, 3), (96, .aload_n 0, 1), (97, .getfield 129, 3), (100, .iload_n 3, 1), (101, .iastore, 1), (102, .aload_n 0, 1), (103, .getfield 99, 3), (106, .aload_n 0, 1), (107, .getfield 129, 3), (110, .iload 4, 2), (112, .iastore, 1), (113, .aload_n 0, 1), (114, .getfield 102, 3), (117, .aload_n 0, 1), (118, .getfield 129, 3), (121, .iload 5, 2), (123, .iastore, 1)]
theorem id_Mod_ask_2 : ∀ q ∈ it_Mod_ask_2, decode prog_13_method_56_code q.1 = .ok q.2 := by decide +kernel
theorem d_Mod_ask_82 : decode prog_13_method_56_code 82 = .ok (.getfield 220, 3) := id_Mod_ask_2 (82, .getfield 220, 3) (List.mem_of_getElem? (i := 0) rfl)
theorem d_Mod_ask_85 : decode prog_13_method_56_code 85 = .ok (.imul, 1) := id_Mod_ask_2 (85, .imul, 1) (List.mem_of_getElem? (i := 1) rfl)
theorem d_Mod_ask_86 : decode prog_13_method_56_code 86 = .ok (.aload_n 0, 1) := id_Mod_ask_2 (86, .aload_n 0, 1) (List.mem_of_getElem? (i := 2) rfl)
theorem d_Mod_ask_87 : decode prog_13_method_56_code 87 = .ok (.getfield 225, 3) := id_Mod_ask_2 (87, .getfield 225, 3) (List.mem_of_getElem? (i := 3) rfl)
theorem d_Mod_ask_90 : decode prog_13_method_56_code 90 = .ok (.iadd, 1) := id_Mod_ask_2 (90, .iadd, 1) (List.mem_of_getElem? (i := 4) rfl)
theorem d_Mod_ask_91 : decode prog_13_method_56_code 91 = .ok (.iastore, 1) := id_Mod_ask_2 (91, .iastore, 1) (List.mem_of_getElem? (i := 5) rfl)
theorem d_Mod_ask_92 : decode prog_13_method_56_code 92 = .ok (.aload_n 0, 1) := id_Mod_ask_2 (92, .aload_n 0, 1) (List.mem_of_getElem? (i := 6) rfl)
theorem d_Mod_ask_93 : decode prog_13_method_56_code 93 = .ok (.getfield 96, 3) := id_Mod_ask_2 (93, .getfield 96, 3) (List.mem_of_getElem? (i := 7) rfl)
theorem d_Mod_ask_96 : decode prog_13_method_56_code 96 = .ok (.aload_n 0, 1) := id_Mod_ask_2 (96, .aload_n 0, 1) (List.mem_of_getElem? (i := 8) rfl)
theorem d_Mod_ask_97 : decode prog_13_method_56_code 97 = .ok (.getfield 129, 3) := id_Mod_ask_2 (97, .getfield 129, 3) (List.mem_of_getElem? (i := 9) rfl)
theorem d_Mod_ask_100 : decode prog_13_method_56_code 100 = .ok (.iload_n 3, 1) := id_Mod_ask_2 (100, .iload_n 3, 1) (List.mem_of_getElem? (i := 10) rfl)
theorem d_Mod_ask_101 : decode prog_13_method_56_code 101 = .ok (.iastore, 1) := id_Mod_ask_2 (101, .iastore, 1) (List.mem_of_getElem? (i := 11) rfl)
theorem d_Mod_ask_102 : decode prog_13_method_56_code 102 = .ok (.aload_n 0, 1) := id_Mod_ask_2 (102, .aload_n 0, 1) (List.mem_of_getElem? (i := 12) rfl)
theorem d_Mod_ask_103 : decode prog_13_method_56_code 103 = .ok (.getfield 99, 3) := id_Mod_ask_2 (103, .getfield 99, 3) (List.mem_of_getElem? (i := 13) rfl)
theorem d_Mod_ask_106 : decode prog_13_method_56_code 106 = .ok (.aload_n 0, 1) := id_Mod_ask_2 (106, .aload_n 0, 1) (List.mem_of_getElem? (i := 14) rfl)
theorem d_Mod_ask_107 : decode prog_13_method_56_code 107 = .ok (.getfield 129, 3) := id_Mod_ask_2 (107, .getfield 129, 3) (List.mem_of_getElem? (i := 15) rfl)
theorem d_Mod_ask_110 : decode prog_13_method_56_code 110 = .ok (.iload 4, 2) := id_Mod_ask_2 (110, .iload 4, 2) (List.mem_of_getElem? (i := 16) rfl)
theorem d_Mod_ask_112 : decode prog_13_method_56_code 112 = .ok (.iastore, 1) := id_Mod_ask_2 (112, .iastore, 1) (List.mem_of_getElem? (i := 17) rfl)
theorem d_Mod_ask_113 : decode prog_13_method_56_code 113 = .ok (.aload_n 0, 1) := id_Mod_ask_2 (113, .aload_n 0, 1) (List.mem_of_getElem? (i := 18) rfl)
theorem d_Mod_ask_114 : decode prog_13_method_56_code 114 = .ok (.getfield 102, 3) := id_Mod_ask_2 (114, .getfield 102, 3) (List.mem_of_getElem? (i := 19) rfl)
theorem d_Mod_ask_117 : decode prog_13_method_56_code 117 = .ok (.aload_n 0, 1) := id_Mod_ask_2 (117, .aload_n 0, 1) (List.mem_of_getElem? (i := 20) rfl)
theorem d_Mod_ask_118 : decode prog_13_method_56_code 118 = .ok (.getfield 129, 3) := id_Mod_ask_2 (118, .getfield 129, 3) (List.mem_of_getElem? (i := 21) rfl)
theorem d_Mod_ask_121 : decode prog_13_method_56_code 121 = .ok (.iload 5, 2) := id_Mod_ask_2 (121, .iload 5, 2) (List.mem_of_getElem? (i := 22) rfl)
theorem d_Mod_ask_123 : decode prog_13_method_56_code 123 = .ok (.iastore, 1) := id_Mod_ask_2 (123, .iastore, 1) (List.mem_of_getElem? (i := 23) rfl)
def it_Mod_ask_3 : List (Nat × ClassFile.Instr × Nat) := [(124, .aload_n 0, 1), (125, .dup, 1), (126, .getfield 129, 3), (129, .iconst 1, 1), (130, .iadd, 1), (131, .putfield 129, 3), (134, .return_, 1)]
theorem id_Mod_ask_3 : ∀ q ∈ it_Mod_ask_3, decode prog_13_method_56_code q.1 = .ok q.2 := by decide +kernel
theorem d_Mod_ask_124 : decode prog_13_method_56_code 124 = .ok (.aload_n 0, 1) := id_Mod_ask_3 (124, .aload_n 0, 1) (List.mem_of_getElem? (i := 0) rfl)
theorem d_Mod_ask_125 : decode prog_13_method_56_code 125 = .ok (.dup, 1) := id_Mod_ask_3 (125, .dup, 1) (List.mem_of_getElem? (i := 1) rfl)
theorem d_Mod_ask_126 : decode prog_13_method_56_code 126 = .ok (.getfield 129, 3) := id_Mod_ask_3 (126, .getfield 129, 3) (List.mem_of_getElem? (i := 2) rfl)
theorem d_Mod_ask_129 : decode prog_13_method_56_code 129 = .ok (.iconst 1, 1) := id_Mod_ask_3 (129, .iconst 1, 1) (List.mem_of_getElem? (i := 3) rfl)
theorem d_Mod_ask_130 : decode prog_13_method_56_code 130 = .ok (.iadd, 1) := id_Mod_ask_3 (130, .iadd, 1) (List.mem_of_getElem? (i := 4) rfl)
theorem d_Mod_ask_131 : decode prog_13_method_56_code 131 = .ok (.putfield 129, 3) := id_Mod_ask_3 (131, .putfield 129, 3) (List.mem_of_getElem? (i := 5) rfl)
theorem d_Mod_ask_134 : decode prog_13_method_56_code 134 = .ok (.return_, 1) := id_Mod_ask_3 (134, .return_, 1) (List.mem_of_getElem? (i := 6) rfl)
theorem wC_Mod_ask : Cond.code ⟨"WarpMillModel", "ask", "(IIIII)V"⟩ prog_13_method_56_code 6 (none) ∈ lw_tb := mem_tb 1460 (by decide +kernel) rfl
def b_Mod_ask_42 (F : Nat) (x0 : Nat) (x1 : Int32) (x2 : Int32) (x3 : Int32) (x4 : Int32) (x5 : Int32) (s0 : Nat) (s1 : Int32) (h : Hp) : Option Hp := gd (hK h s0 = 12) <| pw (sI h 746 s0 s1) fun h_42_2 => gd (hK h_42_2 x0 = 12) <| rq h_42_2 (hR h_42_2 748 x0) 100 fun a_46_2 => rq h_42_2 (hR h_42_2 735 x0) 100 fun a_59 => ix x1 (hN h_42_2 a_59) fun j_63 => ix (hI h_42_2 745 x0) (hN h_42_2 a_46_2) fun j_70 => pw (sA h_42_2 a_46_2 j_70 (((32 : Int32) * (((128 : Int32) * (hA h_42_2 a_59 j_63)) + x1)) + x2)) fun h_70_2 => rq h_70_2 (hR h_70_2 749 x0) 100 fun a_72 => ix (hI h_70_2 745 x0) (hN h_70_2 a_72) fun j_91 => pw (sA h_70_2 a_72 j_91 (((16 : Int32) * (hI h_70_2 756 x0)) + (hI h_70_2 757 x0))) fun h_91_2 => rq h_91_2 (hR h_91_2 750 x0) 100 fun a_93 => ix (hI h_91_2 745 x0) (hN h_91_2 a_93) fun j_101 => pw (sA h_91_2 a_93 j_101 x3) fun h_101_2 => rq h_101_2 (hR h_101_2 751 x0) 100 fun a_103 => ix (hI h_101_2 745 x0) (hN h_101_2 a_103) fun j_112 => pw (sA h_101_2 a_103 j_112 x4) fun h_112_2 => rq h_112_2 (hR h_112_2 752 x0) 100 fun a_114 => ix (hI h_112_2 745 x0) (hN h_112_2 a_114) fun j_123 => pw (sA h_112_2 a_114 j_123 x5) fun h_123_2 => pw (sI h_123_2 745 x0 ((hI h_123_2 745 x0) + (1 : Int32))) fun h_131 => some h_131
set_option maxRecDepth 100000 in
set_option maxHeartbeats 4000000 in
theorem e_Mod_ask_42 {G : Gl} (hw : gF G) {h0 : Hp} {F : Nat} {h' : Hp}   {x0 : Nat} {x1 : Int32} {x2 : Int32} {x3 : Int32} {x4 : Int32} {x5 : Int32} {s0 : Nat} {s1 : Int32} {h : Hp} (hf : b_Mod_ask_42 F x0 x1 x2 x3 x4 x5 s0 s1 h = some h') : Go G mi_Mod_ask h0 (pV h') h 42 [(0, .ref x0), (1, .int x1), (2, .int x2), (3, .int x3), (4, .int x4), (5, .int x5)] [.int s1, .ref s0] := by
  unfold b_Mod_ask_42 at hf
  obtain ⟨k_42, hf⟩ := gd_s hf
  refine fp_Mod_soonest hw lf_Mod_133 d_Mod_ask_42 k_42 ?_
  have hf := pw_b hf
  refine g_aload_n d_Mod_ask_45 rfl ?_
  obtain ⟨k_46, hf⟩ := gd_s hf
  obtain ⟨a_46_2, e_46_2, k_46_2, hf⟩ := rq_s hf
  refine fgs_Mod_who lf_Mod_90 d_Mod_ask_46 k_46 e_46_2 ?_
  refine g_aload_n d_Mod_ask_49 rfl ?_
  refine fg_Mod_pending lf_Mod_129 d_Mod_ask_50 k_46 ?_
  refine g_bipush (32) d_Mod_ask_53 (by decide) ?_
  refine g_sipush (128) d_Mod_ask_55 (by decide) ?_
  refine g_aload_n d_Mod_ask_58 rfl ?_
  obtain ⟨a_59, e_59, k_59, hf⟩ := rq_s hf
  refine fgs_Mod_slotBlock lf_Mod_54 d_Mod_ask_59 k_46 e_59 ?_
  refine g_iload_n d_Mod_ask_62 rfl ?_
  obtain ⟨i_63, hf⟩ := ix_s hf
  refine g_iald k_59 i_63 d_Mod_ask_63 ?_
  refine g_imul d_Mod_ask_64 ?_
  refine g_iload_n d_Mod_ask_65 rfl ?_
  refine g_iadd d_Mod_ask_66 ?_
  refine g_imul d_Mod_ask_67 ?_
  refine g_iload_n d_Mod_ask_68 rfl ?_
  refine g_iadd d_Mod_ask_69 ?_
  obtain ⟨i_70, hf⟩ := ix_s hf
  refine g_iast hw k_46_2 i_70 d_Mod_ask_70 ?_
  have hf := pw_b hf
  refine g_aload_n d_Mod_ask_71 rfl ?_
  obtain ⟨a_72, e_72, k_72, hf⟩ := rq_s hf
  refine fgs_Mod_what lf_Mod_93 d_Mod_ask_72 (kksA k_46) e_72 ?_
  refine g_aload_n d_Mod_ask_75 rfl ?_
  refine fg_Mod_pending lf_Mod_129 d_Mod_ask_76 (kksA k_46) ?_
  refine g_bipush (16) d_Mod_ask_79 (by decide) ?_
  refine g_aload_n d_Mod_ask_81 rfl ?_
  refine fg_Mod_op lf_Mod_220 d_Mod_ask_82 (kksA k_46) ?_
  refine g_imul d_Mod_ask_85 ?_
  refine g_aload_n d_Mod_ask_86 rfl ?_
  refine fg_Mod_d lf_Mod_225 d_Mod_ask_87 (kksA k_46) ?_
  refine g_iadd d_Mod_ask_90 ?_
  obtain ⟨i_91, hf⟩ := ix_s hf
  refine g_iast hw k_72 i_91 d_Mod_ask_91 ?_
  have hf := pw_b hf
  refine g_aload_n d_Mod_ask_92 rfl ?_
  obtain ⟨a_93, e_93, k_93, hf⟩ := rq_s hf
  refine fgs_Mod_where lf_Mod_96 d_Mod_ask_93 (kksA (kksA k_46)) e_93 ?_
  refine g_aload_n d_Mod_ask_96 rfl ?_
  refine fg_Mod_pending lf_Mod_129 d_Mod_ask_97 (kksA (kksA k_46)) ?_
  refine g_iload_n d_Mod_ask_100 rfl ?_
  obtain ⟨i_101, hf⟩ := ix_s hf
  refine g_iast hw k_93 i_101 d_Mod_ask_101 ?_
  have hf := pw_b hf
  refine g_aload_n d_Mod_ask_102 rfl ?_
  obtain ⟨a_103, e_103, k_103, hf⟩ := rq_s hf
  refine fgs_Mod_with lf_Mod_99 d_Mod_ask_103 (kksA (kksA (kksA k_46))) e_103 ?_
  refine g_aload_n d_Mod_ask_106 rfl ?_
  refine fg_Mod_pending lf_Mod_129 d_Mod_ask_107 (kksA (kksA (kksA k_46))) ?_
  refine g_iload d_Mod_ask_110 rfl ?_
  obtain ⟨i_112, hf⟩ := ix_s hf
  refine g_iast hw k_103 i_112 d_Mod_ask_112 ?_
  have hf := pw_b hf
  refine g_aload_n d_Mod_ask_113 rfl ?_
  obtain ⟨a_114, e_114, k_114, hf⟩ := rq_s hf
  refine fgs_Mod_old lf_Mod_102 d_Mod_ask_114 (kksA (kksA (kksA (kksA k_46)))) e_114 ?_
  refine g_aload_n d_Mod_ask_117 rfl ?_
  refine fg_Mod_pending lf_Mod_129 d_Mod_ask_118 (kksA (kksA (kksA (kksA k_46)))) ?_
  refine g_iload d_Mod_ask_121 rfl ?_
  obtain ⟨i_123, hf⟩ := ix_s hf
  refine g_iast hw k_114 i_123 d_Mod_ask_123 ?_
  have hf := pw_b hf
  refine g_aload_n d_Mod_ask_124 rfl ?_
  refine g_dup (by first | rfl | exact cat_rf _) d_Mod_ask_125 ?_
  refine fg_Mod_pending lf_Mod_129 d_Mod_ask_126 (kksA (kksA (kksA (kksA (kksA k_46))))) ?_
  refine g_iconst 1 d_Mod_ask_129 (by decide) ?_
  refine g_iadd d_Mod_ask_130 ?_
  refine fp_Mod_pending hw lf_Mod_129 d_Mod_ask_131 (kksA (kksA (kksA (kksA (kksA k_46))))) ?_
  have hf := pw_b hf
  exact Go.ret none trivial rfl d_Mod_ask_134 (pV_of hf)
def f_Mod_ask (F : Nat) (x0 : Nat) (x1 : Int32) (x2 : Int32) (x3 : Int32) (x4 : Int32) (x5 : Int32) (h : Hp) : Option Hp := gd (hK h x0 = 12) <| rq h (hR h 747 x0) 100 fun a_1_2 => rq h (hR h 753 x0) 100 fun a_9 => ix x2 (hN h a_9) fun j_13 => ix (hI h 745 x0) (hN h a_1_2) fun j_14 => pw (sA h a_1_2 j_14 (hA h a_9 j_13)) fun h_14_2 => ix x2 (hN h_14_2 a_9) fun j_21 => if (hI h_14_2 746 x0) ≤ (hA h_14_2 a_9 j_21) then (b_Mod_ask_42 F x0 x1 x2 x3 x4 x5 x0 (hI h_14_2 746 x0) h_14_2) else (ix x2 (hN h_14_2 a_9) fun j_34 => b_Mod_ask_42 F x0 x1 x2 x3 x4 x5 x0 (hA h_14_2 a_9 j_34) h_14_2)
set_option maxRecDepth 100000 in
set_option maxHeartbeats 4000000 in
theorem e_Mod_ask {G : Gl} (hw : gF G) {F : Nat} {h' : Hp} {x0 : Nat} {x1 : Int32} {x2 : Int32} {x3 : Int32} {x4 : Int32} {x5 : Int32} {h : Hp} (hf : f_Mod_ask F x0 x1 x2 x3 x4 x5 h = some h') : Ex G mi_Mod_ask [.ref x0, .int x1, .int x2, .int x3, .int x4, .int x5] h (pV h') := by
  unfold f_Mod_ask at hf
  refine Ex.of nmV (by decide) (Nat.le_of_ble_eq_true rfl) ?_
  show Go G mi_Mod_ask h _ h 0 [(0, .ref x0), (1, .int x1), (2, .int x2), (3, .int x3), (4, .int x4), (5, .int x5)] []
  refine g_aload_n d_Mod_ask_0 rfl ?_
  obtain ⟨k_1, hf⟩ := gd_s hf
  obtain ⟨a_1_2, e_1_2, k_1_2, hf⟩ := rq_s hf
  refine fgs_Mod_when lf_Mod_87 d_Mod_ask_1 k_1 e_1_2 ?_
  refine g_aload_n d_Mod_ask_4 rfl ?_
  refine fg_Mod_pending lf_Mod_129 d_Mod_ask_5 k_1 ?_
  refine g_aload_n d_Mod_ask_8 rfl ?_
  obtain ⟨a_9, e_9, k_9, hf⟩ := rq_s hf
  refine fgs_Mod_doneAt lf_Mod_105 d_Mod_ask_9 k_1 e_9 ?_
  refine g_iload_n d_Mod_ask_12 rfl ?_
  obtain ⟨i_13, hf⟩ := ix_s hf
  refine g_iald k_9 i_13 d_Mod_ask_13 ?_
  obtain ⟨i_14, hf⟩ := ix_s hf
  refine g_iast hw k_1_2 i_14 d_Mod_ask_14 ?_
  have hf := pw_b hf
  refine g_aload_n d_Mod_ask_15 rfl ?_
  refine g_aload_n d_Mod_ask_16 rfl ?_
  refine fgs_Mod_doneAt lf_Mod_105 d_Mod_ask_17 (kksA k_1) (krsA e_9) ?_
  refine g_iload_n d_Mod_ask_20 rfl ?_
  obtain ⟨i_21, hf⟩ := ix_s hf
  refine g_iald (kksA k_9) i_21 d_Mod_ask_21 ?_
  refine g_aload_n d_Mod_ask_22 rfl ?_
  refine fg_Mod_soonest lf_Mod_133 d_Mod_ask_23 (kksA k_1) ?_
  refine g_icmp_ge 38 d_Mod_ask_26 (by decide) (fun c_26 => ?_) (fun c_26 => ?_)
  · have hf := ifp hf c_26
    refine g_aload_n d_Mod_ask_38 rfl ?_
    refine fg_Mod_soonest lf_Mod_133 d_Mod_ask_39 (kksA k_1) ?_
    have key := e_Mod_ask_42 hw (G := G) (h0 := h)  hf
    exact key
  · have hf := ifn hf c_26
    refine g_aload_n d_Mod_ask_29 rfl ?_
    refine fgs_Mod_doneAt lf_Mod_105 d_Mod_ask_30 (kksA k_1) (krsA e_9) ?_
    refine g_iload_n d_Mod_ask_33 rfl ?_
    obtain ⟨i_34, hf⟩ := ix_s hf
    refine g_iald (kksA k_9) i_34 d_Mod_ask_34 ?_
    refine g_goto 42 d_Mod_ask_35 (by decide) ?_
    have key := e_Mod_ask_42 hw (G := G) (h0 := h)  hf
    exact key
abbrev mi_Mod_touch : MI := (⟨"WarpMillModel", "touch", "(IIII)V"⟩, prog_13_method_55_code, 7, none, 1, 23)
def it_Mod_touch_0 : List (Nat × ClassFile.Instr × Nat) := [(0, .bipush (64), 2), (2, .aload_n 0, 1), (3, .getfield 54, 3), (6, .iload_n 1, 1), (7, .iaload, 1), (8, .imul, 1), (9, .iload_n 3, 1), (10, .iadd, 1), (11, .istore 5, 2), (13, .aload_n 0, 1), (14, .getfield 83, 3), (17, .iload 5, 2), (19, .iaload, 1), (20, .istore 6, 2), (22, .aload_n 0, 1), (23, .getfield 220, 3), (26, .bipush (53), 2), (28, .if_icmp .eq (11), 3), (31, .aload_n 0, 1), (32, .getfield 67, 3), (35, .iload_n 2, 1), (36, .iload 6, 2), (38, .iastore, 1), (39, .aload_n 0, 1)]
theorem id_Mod_touch_0 : ∀ q ∈ it_Mod_touch_0, decode prog_13_method_55_code q.1 = .ok q.2 := by decide +kernel
theorem d_Mod_touch_0 : decode prog_13_method_55_code 0 = .ok (.bipush (64), 2) := id_Mod_touch_0 (0, .bipush (64), 2) (List.mem_of_getElem? (i := 0) rfl)
theorem d_Mod_touch_2 : decode prog_13_method_55_code 2 = .ok (.aload_n 0, 1) := id_Mod_touch_0 (2, .aload_n 0, 1) (List.mem_of_getElem? (i := 1) rfl)
theorem d_Mod_touch_3 : decode prog_13_method_55_code 3 = .ok (.getfield 54, 3) := id_Mod_touch_0 (3, .getfield 54, 3) (List.mem_of_getElem? (i := 2) rfl)
theorem d_Mod_touch_6 : decode prog_13_method_55_code 6 = .ok (.iload_n 1, 1) := id_Mod_touch_0 (6, .iload_n 1, 1) (List.mem_of_getElem? (i := 3) rfl)
theorem d_Mod_touch_7 : decode prog_13_method_55_code 7 = .ok (.iaload, 1) := id_Mod_touch_0 (7, .iaload, 1) (List.mem_of_getElem? (i := 4) rfl)
theorem d_Mod_touch_8 : decode prog_13_method_55_code 8 = .ok (.imul, 1) := id_Mod_touch_0 (8, .imul, 1) (List.mem_of_getElem? (i := 5) rfl)
theorem d_Mod_touch_9 : decode prog_13_method_55_code 9 = .ok (.iload_n 3, 1) := id_Mod_touch_0 (9, .iload_n 3, 1) (List.mem_of_getElem? (i := 6) rfl)
theorem d_Mod_touch_10 : decode prog_13_method_55_code 10 = .ok (.iadd, 1) := id_Mod_touch_0 (10, .iadd, 1) (List.mem_of_getElem? (i := 7) rfl)
theorem d_Mod_touch_11 : decode prog_13_method_55_code 11 = .ok (.istore 5, 2) := id_Mod_touch_0 (11, .istore 5, 2) (List.mem_of_getElem? (i := 8) rfl)
theorem d_Mod_touch_13 : decode prog_13_method_55_code 13 = .ok (.aload_n 0, 1) := id_Mod_touch_0 (13, .aload_n 0, 1) (List.mem_of_getElem? (i := 9) rfl)
theorem d_Mod_touch_14 : decode prog_13_method_55_code 14 = .ok (.getfield 83, 3) := id_Mod_touch_0 (14, .getfield 83, 3) (List.mem_of_getElem? (i := 10) rfl)
theorem d_Mod_touch_17 : decode prog_13_method_55_code 17 = .ok (.iload 5, 2) := id_Mod_touch_0 (17, .iload 5, 2) (List.mem_of_getElem? (i := 11) rfl)
theorem d_Mod_touch_19 : decode prog_13_method_55_code 19 = .ok (.iaload, 1) := id_Mod_touch_0 (19, .iaload, 1) (List.mem_of_getElem? (i := 12) rfl)
theorem d_Mod_touch_20 : decode prog_13_method_55_code 20 = .ok (.istore 6, 2) := id_Mod_touch_0 (20, .istore 6, 2) (List.mem_of_getElem? (i := 13) rfl)
theorem d_Mod_touch_22 : decode prog_13_method_55_code 22 = .ok (.aload_n 0, 1) := id_Mod_touch_0 (22, .aload_n 0, 1) (List.mem_of_getElem? (i := 14) rfl)
theorem d_Mod_touch_23 : decode prog_13_method_55_code 23 = .ok (.getfield 220, 3) := id_Mod_touch_0 (23, .getfield 220, 3) (List.mem_of_getElem? (i := 15) rfl)
theorem d_Mod_touch_26 : decode prog_13_method_55_code 26 = .ok (.bipush (53), 2) := id_Mod_touch_0 (26, .bipush (53), 2) (List.mem_of_getElem? (i := 16) rfl)
theorem d_Mod_touch_28 : decode prog_13_method_55_code 28 = .ok (.if_icmp .eq (11), 3) := id_Mod_touch_0 (28, .if_icmp .eq (11), 3) (List.mem_of_getElem? (i := 17) rfl)
theorem d_Mod_touch_31 : decode prog_13_method_55_code 31 = .ok (.aload_n 0, 1) := id_Mod_touch_0 (31, .aload_n 0, 1) (List.mem_of_getElem? (i := 18) rfl)
theorem d_Mod_touch_32 : decode prog_13_method_55_code 32 = .ok (.getfield 67, 3) := id_Mod_touch_0 (32, .getfield 67, 3) (List.mem_of_getElem? (i := 19) rfl)
theorem d_Mod_touch_35 : decode prog_13_method_55_code 35 = .ok (.iload_n 2, 1) := id_Mod_touch_0 (35, .iload_n 2, 1) (List.mem_of_getElem? (i := 20) rfl)
theorem d_Mod_touch_36 : decode prog_13_method_55_code 36 = .ok (.iload 6, 2) := id_Mod_touch_0 (36, .iload 6, 2) (List.mem_of_getElem? (i := 21) rfl)
theorem d_Mod_touch_38 : decode prog_13_method_55_code 38 = .ok (.iastore, 1) := id_Mod_touch_0 (38, .iastore, 1) (List.mem_of_getElem? (i := 22) rfl)
theorem d_Mod_touch_39 : decode prog_13_method_55_code 39 = .ok (.aload_n 0, 1) := id_Mod_touch_0 (39, .aload_n 0, 1) (List.mem_of_getElem? (i := 23) rfl)
def it_Mod_touch_1 : List (Nat × ClassFile.Instr × Nat) := [(40, .getfield 83, 3), (43, .iload 5, 2), (45, .aload_n 0, 1), (46, .getfield 220, 3), (49, .iload 6, 2), (51, .iload 4, 2), (53, .iconst 0, 1), (54, .invokestatic 352, 3), (57, .iastore, 1), (58, .return_, 1)]
theorem id_Mod_touch_1 : ∀ q ∈ it_Mod_touch_1, decode prog_13_method_55_code q.1 = .ok q.2 := by decide +kernel
theorem d_Mod_touch_40 : decode prog_13_method_55_code 40 = .ok (.getfield 83, 3) := id_Mod_touch_1 (40, .getfield 83, 3) (List.mem_of_getElem? (i := 0) rfl)
theorem d_Mod_touch_43 : decode prog_13_method_55_code 43 = .ok (.iload 5, 2) := id_Mod_touch_1 (43, .iload 5, 2) (List.mem_of_getElem? (i := 1) rfl)
theorem d_Mod_touch_45 : decode prog_13_method_55_code 45 = .ok (.aload_n 0, 1) := id_Mod_touch_1 (45, .aload_n 0, 1) (List.mem_of_getElem? (i := 2) rfl)
theorem d_Mod_touch_46 : decode prog_13_method_55_code 46 = .ok (.getfield 220, 3) := id_Mod_touch_1 (46, .getfield 220, 3) (List.mem_of_getElem? (i := 3) rfl)
theorem d_Mod_touch_49 : decode prog_13_method_55_code 49 = .ok (.iload 6, 2) := id_Mod_touch_1 (49, .iload 6, 2) (List.mem_of_getElem? (i := 4) rfl)
theorem d_Mod_touch_51 : decode prog_13_method_55_code 51 = .ok (.iload 4, 2) := id_Mod_touch_1 (51, .iload 4, 2) (List.mem_of_getElem? (i := 5) rfl)
theorem d_Mod_touch_53 : decode prog_13_method_55_code 53 = .ok (.iconst 0, 1) := id_Mod_touch_1 (53, .iconst 0, 1) (List.mem_of_getElem? (i := 6) rfl)
theorem d_Mod_touch_54 : decode prog_13_method_55_code 54 = .ok (.invokestatic 352, 3) := id_Mod_touch_1 (54, .invokestatic 352, 3) (List.mem_of_getElem? (i := 7) rfl)
theorem d_Mod_touch_57 : decode prog_13_method_55_code 57 = .ok (.iastore, 1) := id_Mod_touch_1 (57, .iastore, 1) (List.mem_of_getElem? (i := 8) rfl)
theorem d_Mod_touch_58 : decode prog_13_method_55_code 58 = .ok (.return_, 1) := id_Mod_touch_1 (58, .return_, 1) (List.mem_of_getElem? (i := 9) rfl)
theorem wC_Mod_touch : Cond.code ⟨"WarpMillModel", "touch", "(IIII)V"⟩ prog_13_method_55_code 7 (none) ∈ lw_tb := mem_tb 1464 (by decide +kernel) rfl
theorem cw_Mod_touch_Mod_left : cW mi_Mod_touch mi_Mod_left 4 := ⟨wC_Mod_left, wi_Mod, ⟨by decide, by decide, by decide +kernel⟩, by decide, by decide⟩
def b_Mod_touch_39 (F : Nat) (x0 : Nat) (x4 : Int32) (x5 : Int32) (x6 : Int32) (h : Hp) : Option Hp := gd (hK h x0 = 12) <| rq h (hR h 744 x0) 100 fun a_40_2 => cl (f_Mod_left F (hI h 756 x0) x6 x4 (0 : Int32) h) fun v_54 h_54 => gd (hK h_54 a_40_2 = 100) <| ix x5 (hN h_54 a_40_2) fun j_57_2 => pw (sA h_54 a_40_2 j_57_2 v_54) fun h_57_3 => some h_57_3
set_option maxRecDepth 100000 in
set_option maxHeartbeats 4000000 in
theorem e_Mod_touch_39 {G : Gl} (hw : gF G) {h0 : Hp} {F : Nat} {h' : Hp}   {x0 : Nat} {x4 : Int32} {x5 : Int32} {x6 : Int32} {h : Hp} (hf : b_Mod_touch_39 F x0 x4 x5 x6 h = some h') : Go G mi_Mod_touch h0 (pV h') h 39 [(0, .ref x0), (4, .int x4), (5, .int x5), (6, .int x6)] [] := by
  unfold b_Mod_touch_39 at hf
  refine g_aload_n d_Mod_touch_39 rfl ?_
  obtain ⟨k_40, hf⟩ := gd_s hf
  obtain ⟨a_40_2, e_40_2, k_40_2, hf⟩ := rq_s hf
  refine fgs_Mod_shared lf_Mod_83 d_Mod_touch_40 k_40 e_40_2 ?_
  refine g_iload d_Mod_touch_43 rfl ?_
  refine g_aload_n d_Mod_touch_45 rfl ?_
  refine fg_Mod_op lf_Mod_220 d_Mod_touch_46 k_40 ?_
  refine g_iload d_Mod_touch_49 rfl ?_
  refine g_iload d_Mod_touch_51 rfl ?_
  refine g_iconst 0 d_Mod_touch_53 (by decide) ?_
  obtain ⟨v_54, h_54, e_54, hf⟩ := cl_s hf
  refine g_callS (mz := mi_Mod_left) (e_Mod_left e_54) cw_Mod_touch_Mod_left lm_Mod_352 wS_Mod_left d_Mod_touch_54 rfl rfl (by first | exact Nat.le_of_ble_eq_true rfl | simp [cat_rf, Value.category]) (fun r1 h1 hp hro => ?_)
  obtain ⟨rfl, rfl⟩ := hp
  dsimp only [Option.toList_some, Option.toList_none, List.cons_append, List.nil_append]
  obtain ⟨k_57, hf⟩ := gd_s hf
  obtain ⟨i_57_2, hf⟩ := ix_s hf
  refine g_iast hw k_57 i_57_2 d_Mod_touch_57 ?_
  have hf := pw_b hf
  exact Go.ret none trivial rfl d_Mod_touch_58 (pV_of hf)
def f_Mod_touch (F : Nat) (x0 : Nat) (x1 : Int32) (x2 : Int32) (x3 : Int32) (x4 : Int32) (h : Hp) : Option Hp := gd (hK h x0 = 12) <| rq h (hR h 735 x0) 100 fun a_3_2 => ix x1 (hN h a_3_2) fun j_7 => rq h (hR h 744 x0) 100 fun a_14 => ix (((64 : Int32) * (hA h a_3_2 j_7)) + x3) (hN h a_14) fun j_19 => if (hI h 756 x0) = (53 : Int32) then (b_Mod_touch_39 F x0 x4 (((64 : Int32) * (hA h a_3_2 j_7)) + x3) (hA h a_14 j_19) h) else (rq h (hR h 739 x0) 100 fun a_32 => ix x2 (hN h a_32) fun j_38 => pw (sA h a_32 j_38 (hA h a_14 j_19)) fun h_38_2 => b_Mod_touch_39 F x0 x4 (((64 : Int32) * (hA h a_3_2 j_7)) + x3) (hA h a_14 j_19) h_38_2)
set_option maxRecDepth 100000 in
set_option maxHeartbeats 4000000 in
theorem e_Mod_touch {G : Gl} (hw : gF G) {F : Nat} {h' : Hp} {x0 : Nat} {x1 : Int32} {x2 : Int32} {x3 : Int32} {x4 : Int32} {h : Hp} (hf : f_Mod_touch F x0 x1 x2 x3 x4 h = some h') : Ex G mi_Mod_touch [.ref x0, .int x1, .int x2, .int x3, .int x4] h (pV h') := by
  unfold f_Mod_touch at hf
  refine Ex.of nmV (by decide) (Nat.le_of_ble_eq_true rfl) ?_
  show Go G mi_Mod_touch h _ h 0 [(0, .ref x0), (1, .int x1), (2, .int x2), (3, .int x3), (4, .int x4)] []
  refine g_bipush (64) d_Mod_touch_0 (by decide) ?_
  refine g_aload_n d_Mod_touch_2 rfl ?_
  obtain ⟨k_3, hf⟩ := gd_s hf
  obtain ⟨a_3_2, e_3_2, k_3_2, hf⟩ := rq_s hf
  refine fgs_Mod_slotBlock lf_Mod_54 d_Mod_touch_3 k_3 e_3_2 ?_
  refine g_iload_n d_Mod_touch_6 rfl ?_
  obtain ⟨i_7, hf⟩ := ix_s hf
  refine g_iald k_3_2 i_7 d_Mod_touch_7 ?_
  refine g_imul d_Mod_touch_8 ?_
  refine g_iload_n d_Mod_touch_9 rfl ?_
  refine g_iadd d_Mod_touch_10 ?_
  refine g_istore d_Mod_touch_11 (by decide) ?_
  show Go _ _ _ _ _ _ [(0, _), (1, _), (2, _), (3, _), (4, _), (5, _)] _
  refine g_aload_n d_Mod_touch_13 rfl ?_
  obtain ⟨a_14, e_14, k_14, hf⟩ := rq_s hf
  refine fgs_Mod_shared lf_Mod_83 d_Mod_touch_14 k_3 e_14 ?_
  refine g_iload d_Mod_touch_17 rfl ?_
  obtain ⟨i_19, hf⟩ := ix_s hf
  refine g_iald k_14 i_19 d_Mod_touch_19 ?_
  refine g_istore d_Mod_touch_20 (by decide) ?_
  show Go _ _ _ _ _ _ [(0, _), (1, _), (2, _), (3, _), (4, _), (5, _), (6, _)] _
  refine g_aload_n d_Mod_touch_22 rfl ?_
  refine fg_Mod_op lf_Mod_220 d_Mod_touch_23 k_3 ?_
  refine g_bipush (53) d_Mod_touch_26 (by decide) ?_
  refine g_icmp_eq 39 d_Mod_touch_28 (by decide) (fun c_28 => ?_) (fun c_28 => ?_)
  · have hf := ifp hf c_28
    refine Go.locals [0, 4, 5, 6] rfl ?_
    have key := e_Mod_touch_39 hw (G := G) (h0 := h)  hf
    exact key
  · have hf := ifn hf c_28
    refine g_aload_n d_Mod_touch_31 rfl ?_
    obtain ⟨a_32, e_32, k_32, hf⟩ := rq_s hf
    refine fgs_Mod_register lf_Mod_67 d_Mod_touch_32 k_3 e_32 ?_
    refine g_iload_n d_Mod_touch_35 rfl ?_
    refine g_iload d_Mod_touch_36 rfl ?_
    obtain ⟨i_38, hf⟩ := ix_s hf
    refine g_iast hw k_32 i_38 d_Mod_touch_38 ?_
    have hf := pw_b hf
    refine Go.locals [0, 4, 5, 6] rfl ?_
    have key := e_Mod_touch_39 hw (G := G) (h0 := h)  hf
    exact key
abbrev mi_Mod_from : MI := (⟨"WarpMillModel", "from", "(I)I"⟩, prog_13_method_53_code, 3, some .int, 0, 0)
def it_Mod_from_0 : List (Nat × ClassFile.Instr × Nat) := [(0, .iload_n 1, 1), (1, .aload_n 0, 1), (2, .getfield 237, 3), (5, .aload_n 0, 1), (6, .getfield 7, 3), (9, .iconst 1, 1), (10, .isub, 1), (11, .iand, 1), (12, .ixor, 1), (13, .istore_n 2, 1), (14, .aload_n 0, 1), (15, .getfield 111, 3), (18, .iload_n 2, 1), (19, .baload, 1), (20, .ifCond .eq (12), 3), (23, .aload_n 0, 1), (24, .getfield 114, 3), (27, .iload_n 2, 1), (28, .iaload, 1), (29, .goto (9), 3), (32, .aload_n 0, 1), (33, .getfield 114, 3), (36, .iload_n 1, 1), (37, .iaload, 1)]
theorem id_Mod_from_0 : ∀ q ∈ it_Mod_from_0, decode prog_13_method_53_code q.1 = .ok q.2 := by decide +kernel
theorem d_Mod_from_0 : decode prog_13_method_53_code 0 = .ok (.iload_n 1, 1) := id_Mod_from_0 (0, .iload_n 1, 1) (List.mem_of_getElem? (i := 0) rfl)
theorem d_Mod_from_1 : decode prog_13_method_53_code 1 = .ok (.aload_n 0, 1) := id_Mod_from_0 (1, .aload_n 0, 1) (List.mem_of_getElem? (i := 1) rfl)
theorem d_Mod_from_2 : decode prog_13_method_53_code 2 = .ok (.getfield 237, 3) := id_Mod_from_0 (2, .getfield 237, 3) (List.mem_of_getElem? (i := 2) rfl)
theorem d_Mod_from_5 : decode prog_13_method_53_code 5 = .ok (.aload_n 0, 1) := id_Mod_from_0 (5, .aload_n 0, 1) (List.mem_of_getElem? (i := 3) rfl)
theorem d_Mod_from_6 : decode prog_13_method_53_code 6 = .ok (.getfield 7, 3) := id_Mod_from_0 (6, .getfield 7, 3) (List.mem_of_getElem? (i := 4) rfl)
theorem d_Mod_from_9 : decode prog_13_method_53_code 9 = .ok (.iconst 1, 1) := id_Mod_from_0 (9, .iconst 1, 1) (List.mem_of_getElem? (i := 5) rfl)
theorem d_Mod_from_10 : decode prog_13_method_53_code 10 = .ok (.isub, 1) := id_Mod_from_0 (10, .isub, 1) (List.mem_of_getElem? (i := 6) rfl)
theorem d_Mod_from_11 : decode prog_13_method_53_code 11 = .ok (.iand, 1) := id_Mod_from_0 (11, .iand, 1) (List.mem_of_getElem? (i := 7) rfl)
theorem d_Mod_from_12 : decode prog_13_method_53_code 12 = .ok (.ixor, 1) := id_Mod_from_0 (12, .ixor, 1) (List.mem_of_getElem? (i := 8) rfl)
theorem d_Mod_from_13 : decode prog_13_method_53_code 13 = .ok (.istore_n 2, 1) := id_Mod_from_0 (13, .istore_n 2, 1) (List.mem_of_getElem? (i := 9) rfl)
theorem d_Mod_from_14 : decode prog_13_method_53_code 14 = .ok (.aload_n 0, 1) := id_Mod_from_0 (14, .aload_n 0, 1) (List.mem_of_getElem? (i := 10) rfl)
theorem d_Mod_from_15 : decode prog_13_method_53_code 15 = .ok (.getfield 111, 3) := id_Mod_from_0 (15, .getfield 111, 3) (List.mem_of_getElem? (i := 11) rfl)
theorem d_Mod_from_18 : decode prog_13_method_53_code 18 = .ok (.iload_n 2, 1) := id_Mod_from_0 (18, .iload_n 2, 1) (List.mem_of_getElem? (i := 12) rfl)
theorem d_Mod_from_19 : decode prog_13_method_53_code 19 = .ok (.baload, 1) := id_Mod_from_0 (19, .baload, 1) (List.mem_of_getElem? (i := 13) rfl)
theorem d_Mod_from_20 : decode prog_13_method_53_code 20 = .ok (.ifCond .eq (12), 3) := id_Mod_from_0 (20, .ifCond .eq (12), 3) (List.mem_of_getElem? (i := 14) rfl)
theorem d_Mod_from_23 : decode prog_13_method_53_code 23 = .ok (.aload_n 0, 1) := id_Mod_from_0 (23, .aload_n 0, 1) (List.mem_of_getElem? (i := 15) rfl)
theorem d_Mod_from_24 : decode prog_13_method_53_code 24 = .ok (.getfield 114, 3) := id_Mod_from_0 (24, .getfield 114, 3) (List.mem_of_getElem? (i := 16) rfl)
theorem d_Mod_from_27 : decode prog_13_method_53_code 27 = .ok (.iload_n 2, 1) := id_Mod_from_0 (27, .iload_n 2, 1) (List.mem_of_getElem? (i := 17) rfl)
theorem d_Mod_from_28 : decode prog_13_method_53_code 28 = .ok (.iaload, 1) := id_Mod_from_0 (28, .iaload, 1) (List.mem_of_getElem? (i := 18) rfl)
theorem d_Mod_from_29 : decode prog_13_method_53_code 29 = .ok (.goto (9), 3) := id_Mod_from_0 (29, .goto (9), 3) (List.mem_of_getElem? (i := 19) rfl)
theorem d_Mod_from_32 : decode prog_13_method_53_code 32 = .ok (.aload_n 0, 1) := id_Mod_from_0 (32, .aload_n 0, 1) (List.mem_of_getElem? (i := 20) rfl)
theorem d_Mod_from_33 : decode prog_13_method_53_code 33 = .ok (.getfield 114, 3) := id_Mod_from_0 (33, .getfield 114, 3) (List.mem_of_getElem? (i := 21) rfl)
theorem d_Mod_from_36 : decode prog_13_method_53_code 36 = .ok (.iload_n 1, 1) := id_Mod_from_0 (36, .iload_n 1, 1) (List.mem_of_getElem? (i := 22) rfl)
theorem d_Mod_from_37 : decode prog_13_method_53_code 37 = .ok (.iaload, 1) := id_Mod_from_0 (37, .iaload, 1) (List.mem_of_getElem? (i := 23) rfl)
def it_Mod_from_1 : List (Nat × ClassFile.Instr × Nat) := [(38, .ireturn, 1)]
theorem id_Mod_from_1 : ∀ q ∈ it_Mod_from_1, decode prog_13_method_53_code q.1 = .ok q.2 := by decide +kernel
theorem d_Mod_from_38 : decode prog_13_method_53_code 38 = .ok (.ireturn, 1) := id_Mod_from_1 (38, .ireturn, 1) (List.mem_of_getElem? (i := 0) rfl)
theorem wC_Mod_from : Cond.code ⟨"WarpMillModel", "from", "(I)I"⟩ prog_13_method_53_code 3 (some .int) ∈ lw_tb := mem_tb 1468 (by decide +kernel) rfl
def f_Mod_from (F : Nat) (x0 : Nat) (x1 : Int32) (h : Hp) : Option (Int32 × Hp) := gd (hK h x0 = 12) <| rq h (hR h 755 x0) 101 fun a_15 => ix (x1 ^^^ ((hI h 761 x0) &&& ((hI h 705 x0) - (1 : Int32)))) (hN h a_15) fun j_19 => if (hA h a_15 j_19) = 0 then (rq h (hR h 763 x0) 100 fun a_33 => ix x1 (hN h a_33) fun j_37 => some ((hA h a_33 j_37), h)) else (rq h (hR h 763 x0) 100 fun a_24 => ix (x1 ^^^ ((hI h 761 x0) &&& ((hI h 705 x0) - (1 : Int32)))) (hN h a_24) fun j_28 => some ((hA h a_24 j_28), h))
set_option maxRecDepth 100000 in
set_option maxHeartbeats 4000000 in
theorem e_Mod_from {G : Gl} {F : Nat} {r : Int32} {h' : Hp} {x0 : Nat} {x1 : Int32} {h : Hp} (hf : f_Mod_from F x0 x1 h = some (r, h')) : Ex G mi_Mod_from [.ref x0, .int x1] h (pI r h') := by
  unfold f_Mod_from at hf
  refine Ex.of nmI (by decide) (Nat.le_of_ble_eq_true rfl) ?_
  show Go G mi_Mod_from h _ h 0 [(0, .ref x0), (1, .int x1)] []
  refine g_iload_n d_Mod_from_0 rfl ?_
  refine g_aload_n d_Mod_from_1 rfl ?_
  obtain ⟨k_2, hf⟩ := gd_s hf
  refine fg_Mod_n lf_Mod_237 d_Mod_from_2 k_2 ?_
  refine g_aload_n d_Mod_from_5 rfl ?_
  refine fg_Mod_lanes lf_Mod_7 d_Mod_from_6 k_2 ?_
  refine g_iconst 1 d_Mod_from_9 (by decide) ?_
  refine g_isub d_Mod_from_10 ?_
  refine g_iand d_Mod_from_11 ?_
  refine g_ixor d_Mod_from_12 ?_
  refine g_istore_n d_Mod_from_13 (by decide) ?_
  show Go _ _ _ _ _ _ [(0, _), (1, _), (2, _)] _
  refine g_aload_n d_Mod_from_14 rfl ?_
  obtain ⟨a_15, e_15, k_15, hf⟩ := rq_s hf
  refine fgs_Mod_does lf_Mod_111 d_Mod_from_15 k_2 e_15 ?_
  refine g_iload_n d_Mod_from_18 rfl ?_
  obtain ⟨i_19, hf⟩ := ix_s hf
  refine g_zald k_15 i_19 d_Mod_from_19 ?_
  refine g_if_eq 32 d_Mod_from_20 (by decide) (fun c_20 => ?_) (fun c_20 => ?_)
  · have hf := ifp hf c_20
    refine g_aload_n d_Mod_from_32 rfl ?_
    obtain ⟨a_33, e_33, k_33, hf⟩ := rq_s hf
    refine fgs_Mod_had lf_Mod_114 d_Mod_from_33 k_2 e_33 ?_
    refine g_iload_n d_Mod_from_36 rfl ?_
    obtain ⟨i_37, hf⟩ := ix_s hf
    refine g_iald k_33 i_37 d_Mod_from_37 ?_
    exact Go.ret (some _) (rOk_i _) rfl d_Mod_from_38 (pI_of hf)
  · have hf := ifn hf c_20
    refine g_aload_n d_Mod_from_23 rfl ?_
    obtain ⟨a_24, e_24, k_24, hf⟩ := rq_s hf
    refine fgs_Mod_had lf_Mod_114 d_Mod_from_24 k_2 e_24 ?_
    refine g_iload_n d_Mod_from_27 rfl ?_
    obtain ⟨i_28, hf⟩ := ix_s hf
    refine g_iald k_24 i_28 d_Mod_from_28 ?_
    refine g_goto 38 d_Mod_from_29 (by decide) ?_
    exact Go.ret (some _) (rOk_i _) rfl d_Mod_from_38 (pI_of hf)
