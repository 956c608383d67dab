abbrev mi_Mod_timeOfShared : MI := (⟨"WarpMillModel", "timeOfShared", "(II)I"⟩, prog_13_method_44_code, 7, some .int, 3, 67)
def it_Mod_timeOfShared_0 : List (Nat × ClassFile.Instr × Nat) := [(0, .iconst 0, 1), (1, .istore_n 3, 1), (2, .iconst 0, 1), (3, .istore 4, 2), (5, .iload 4, 2), (7, .aload_n 0, 1), (8, .getfield 19, 3), (11, .if_icmp .ge (102), 3), (14, .iconst 0, 1), (15, .istore 5, 2), (17, .iconst 0, 1), (18, .istore 6, 2), (20, .iload 6, 2), (22, .aload_n 0, 1), (23, .getfield 7, 3), (26, .if_icmp .ge (68), 3), (29, .aload_n 0, 1), (30, .getfield 111, 3), (33, .iload 6, 2), (35, .baload, 1), (36, .ifCond .eq (52), 3), (39, .aload_n 0, 1), (40, .iload_n 2, 1), (41, .iload 6, 2)]
theorem id_Mod_timeOfShared_0 : ∀ q ∈ it_Mod_timeOfShared_0, decode prog_13_method_44_code q.1 = .ok q.2 := by decide +kernel
theorem d_Mod_timeOfShared_0 : decode prog_13_method_44_code 0 = .ok (.iconst 0, 1) := id_Mod_timeOfShared_0 (0, .iconst 0, 1) (List.mem_of_getElem? (i := 0) rfl)
theorem d_Mod_timeOfShared_1 : decode prog_13_method_44_code 1 = .ok (.istore_n 3, 1) := id_Mod_timeOfShared_0 (1, .istore_n 3, 1) (List.mem_of_getElem? (i := 1) rfl)
theorem d_Mod_timeOfShared_2 : decode prog_13_method_44_code 2 = .ok (.iconst 0, 1) := id_Mod_timeOfShared_0 (2, .iconst 0, 1) (List.mem_of_getElem? (i := 2) rfl)
theorem d_Mod_timeOfShared_3 : decode prog_13_method_44_code 3 = .ok (.istore 4, 2) := id_Mod_timeOfShared_0 (3, .istore 4, 2) (List.mem_of_getElem? (i := 3) rfl)
theorem d_Mod_timeOfShared_5 : decode prog_13_method_44_code 5 = .ok (.iload 4, 2) := id_Mod_timeOfShared_0 (5, .iload 4, 2) (List.mem_of_getElem? (i := 4) rfl)
theorem d_Mod_timeOfShared_7 : decode prog_13_method_44_code 7 = .ok (.aload_n 0, 1) := id_Mod_timeOfShared_0 (7, .aload_n 0, 1) (List.mem_of_getElem? (i := 5) rfl)
theorem d_Mod_timeOfShared_8 : decode prog_13_method_44_code 8 = .ok (.getfield 19, 3) := id_Mod_timeOfShared_0 (8, .getfield 19, 3) (List.mem_of_getElem? (i := 6) rfl)
theorem d_Mod_timeOfShared_11 : decode prog_13_method_44_code 11 = .ok (.if_icmp .ge (102), 3) := id_Mod_timeOfShared_0 (11, .if_icmp .ge (102), 3) (List.mem_of_getElem? (i := 7) rfl)
theorem d_Mod_timeOfShared_14 : decode prog_13_method_44_code 14 = .ok (.iconst 0, 1) := id_Mod_timeOfShared_0 (14, .iconst 0, 1) (List.mem_of_getElem? (i := 8) rfl)
theorem d_Mod_timeOfShared_15 : decode prog_13_method_44_code 15 = .ok (.istore 5, 2) := id_Mod_timeOfShared_0 (15, .istore 5, 2) (List.mem_of_getElem? (i := 9) rfl)
theorem d_Mod_timeOfShared_17 : decode prog_13_method_44_code 17 = .ok (.iconst 0, 1) := id_Mod_timeOfShared_0 (17, .iconst 0, 1) (List.mem_of_getElem? (i := 10) rfl)
theorem d_Mod_timeOfShared_18 : decode prog_13_method_44_code 18 = .ok (.istore 6, 2) := id_Mod_timeOfShared_0 (18, .istore 6, 2) (List.mem_of_getElem? (i := 11) rfl)
theorem d_Mod_timeOfShared_20 : decode prog_13_method_44_code 20 = .ok (.iload 6, 2) := id_Mod_timeOfShared_0 (20, .iload 6, 2) (List.mem_of_getElem? (i := 12) rfl)
theorem d_Mod_timeOfShared_22 : decode prog_13_method_44_code 22 = .ok (.aload_n 0, 1) := id_Mod_timeOfShared_0 (22, .aload_n 0, 1) (List.mem_of_getElem? (i := 13) rfl)
theorem d_Mod_timeOfShared_23 : decode prog_13_method_44_code 23 = .ok (.getfield 7, 3) := id_Mod_timeOfShared_0 (23, .getfield 7, 3) (List.mem_of_getElem? (i := 14) rfl)
theorem d_Mod_timeOfShared_26 : decode prog_13_method_44_code 26 = .ok (.if_icmp .ge (68), 3) := id_Mod_timeOfShared_0 (26, .if_icmp .ge (68), 3) (List.mem_of_getElem? (i := 15) rfl)
theorem d_Mod_timeOfShared_29 : decode prog_13_method_44_code 29 = .ok (.aload_n 0, 1) := id_Mod_timeOfShared_0 (29, .aload_n 0, 1) (List.mem_of_getElem? (i := 16) rfl)
theorem d_Mod_timeOfShared_30 : decode prog_13_method_44_code 30 = .ok (.getfield 111, 3) := id_Mod_timeOfShared_0 (30, .getfield 111, 3) (List.mem_of_getElem? (i := 17) rfl)
theorem d_Mod_timeOfShared_33 : decode prog_13_method_44_code 33 = .ok (.iload 6, 2) := id_Mod_timeOfShared_0 (33, .iload 6, 2) (List.mem_of_getElem? (i := 18) rfl)
theorem d_Mod_timeOfShared_35 : decode prog_13_method_44_code 35 = .ok (.baload, 1) := id_Mod_timeOfShared_0 (35, .baload, 1) (List.mem_of_getElem? (i := 19) rfl)
theorem d_Mod_timeOfShared_36 : decode prog_13_method_44_code 36 = .ok (.ifCond .eq (52), 3) := id_Mod_timeOfShared_0 (36, .ifCond .eq (52), 3) (List.mem_of_getElem? (i := 20) rfl)
theorem d_Mod_timeOfShared_39 : decode prog_13_method_44_code 39 = .ok (.aload_n 0, 1) := id_Mod_timeOfShared_0 (39, .aload_n 0, 1) (List.mem_of_getElem? (i := 21) rfl)
theorem d_Mod_timeOfShared_40 : decode prog_13_method_44_code 40 = .ok (.iload_n 2, 1) := id_Mod_timeOfShared_0 (40, .iload_n 2, 1) (List.mem_of_getElem? (i := 22) rfl)
theorem d_Mod_timeOfShared_41 : decode prog_13_method_44_code 41 = .ok (.iload 6, 2) := id_Mod_timeOfShared_0 (41, .iload 6, 2) (List.mem_of_getElem? (i := 23) rfl)
def it_Mod_timeOfShared_1 : List (Nat × ClassFile.Instr × Nat) := [(43, .invokevirtual 316, 3), (46, .aload_n 0, 1), (47, .getfield 19, 3), (50, .irem, 1), (51, .iload 4, 2), (53, .if_icmp .eq (6), 3), (56, .goto (32), 3), (59, .iload 5, 2), (61, .aload_n 0, 1), (62, .getfield 220, 3), (65, .bipush (53), 2), (67, .if_icmp .gt (13), 3), (70, .aload_n 0, 1), (71, .iload_n 2, 1), (72, .iload 6, 2), (74, .invokevirtual 319, 3), (77, .ifCond .ne (7), 3), (80, .iconst 1, 1), (81, .goto (4), 3), (84, .iconst 0, 1), (85, .iadd, 1), (86, .istore 5, 2), (88, .iinc 6 (1), 3), (91, .goto (-71), 3)]
theorem id_Mod_timeOfShared_1 : ∀ q ∈ it_Mod_timeOfShared_1, decode prog_13_method_44_code q.1 = .ok q.2 := by decide +kernel
theorem d_Mod_timeOfShared_43 : decode prog_13_method_44_code 43 = .ok (.invokevirtual 316, 3) := id_Mod_timeOfShared_1 (43, .invokevirtual 316, 3) (List.mem_of_getElem? (i := 0) rfl)
theorem d_Mod_timeOfShared_46 : decode prog_13_method_44_code 46 = .ok (.aload_n 0, 1) := id_Mod_timeOfShared_1 (46, .aload_n 0, 1) (List.mem_of_getElem? (i := 1) rfl)
theorem d_Mod_timeOfShared_47 : decode prog_13_method_44_code 47 = .ok (.getfield 19, 3) := id_Mod_timeOfShared_1 (47, .getfield 19, 3) (List.mem_of_getElem? (i := 2) rfl)
theorem d_Mod_timeOfShared_50 : decode prog_13_method_44_code 50 = .ok (.irem, 1) := id_Mod_timeOfShared_1 (50, .irem, 1) (List.mem_of_getElem? (i := 3) rfl)
theorem d_Mod_timeOfShared_51 : decode prog_13_method_44_code 51 = .ok (.iload 4, 2) := id_Mod_timeOfShared_1 (51, .iload 4, 2) (List.mem_of_getElem? (i := 4) rfl)
theorem d_Mod_timeOfShared_53 : decode prog_13_method_44_code 53 = .ok (.if_icmp .eq (6), 3) := id_Mod_timeOfShared_1 (53, .if_icmp .eq (6), 3) (List.mem_of_getElem? (i := 5) rfl)
theorem d_Mod_timeOfShared_56 : decode prog_13_method_44_code 56 = .ok (.goto (32), 3) := id_Mod_timeOfShared_1 (56, .goto (32), 3) (List.mem_of_getElem? (i := 6) rfl)
theorem d_Mod_timeOfShared_59 : decode prog_13_method_44_code 59 = .ok (.iload 5, 2) := id_Mod_timeOfShared_1 (59, .iload 5, 2) (List.mem_of_getElem? (i := 7) rfl)
theorem d_Mod_timeOfShared_61 : decode prog_13_method_44_code 61 = .ok (.aload_n 0, 1) := id_Mod_timeOfShared_1 (61, .aload_n 0, 1) (List.mem_of_getElem? (i := 8) rfl)
theorem d_Mod_timeOfShared_62 : decode prog_13_method_44_code 62 = .ok (.getfield 220, 3) := id_Mod_timeOfShared_1 (62, .getfield 220, 3) (List.mem_of_getElem? (i := 9) rfl)
theorem d_Mod_timeOfShared_65 : decode prog_13_method_44_code 65 = .ok (.bipush (53), 2) := id_Mod_timeOfShared_1 (65, .bipush (53), 2) (List.mem_of_getElem? (i := 10) rfl)
theorem d_Mod_timeOfShared_67 : decode prog_13_method_44_code 67 = .ok (.if_icmp .gt (13), 3) := id_Mod_timeOfShared_1 (67, .if_icmp .gt (13), 3) (List.mem_of_getElem? (i := 11) rfl)
theorem d_Mod_timeOfShared_70 : decode prog_13_method_44_code 70 = .ok (.aload_n 0, 1) := id_Mod_timeOfShared_1 (70, .aload_n 0, 1) (List.mem_of_getElem? (i := 12) rfl)
theorem d_Mod_timeOfShared_71 : decode prog_13_method_44_code 71 = .ok (.iload_n 2, 1) := id_Mod_timeOfShared_1 (71, .iload_n 2, 1) (List.mem_of_getElem? (i := 13) rfl)
theorem d_Mod_timeOfShared_72 : decode prog_13_method_44_code 72 = .ok (.iload 6, 2) := id_Mod_timeOfShared_1 (72, .iload 6, 2) (List.mem_of_getElem? (i := 14) rfl)
theorem d_Mod_timeOfShared_74 : decode prog_13_method_44_code 74 = .ok (.invokevirtual 319, 3) := id_Mod_timeOfShared_1 (74, .invokevirtual 319, 3) (List.mem_of_getElem? (i := 15) rfl)
theorem d_Mod_timeOfShared_77 : decode prog_13_method_44_code 77 = .ok (.ifCond .ne (7), 3) := id_Mod_timeOfShared_1 (77, .ifCond .ne (7), 3) (List.mem_of_getElem? (i := 16) rfl)
theorem d_Mod_timeOfShared_80 : decode prog_13_method_44_code 80 = .ok (.iconst 1, 1) := id_Mod_timeOfShared_1 (80, .iconst 1, 1) (List.mem_of_getElem? (i := 17) rfl)
theorem d_Mod_timeOfShared_81 : decode prog_13_method_44_code 81 = .ok (.goto (4), 3) := id_Mod_timeOfShared_1 (81, .goto (4), 3) (List.mem_of_getElem? (i := 18) rfl)
theorem d_Mod_timeOfShared_84 : decode prog_13_method_44_code 84 = .ok (.iconst 0, 1) := id_Mod_timeOfShared_1 (84, .iconst 0, 1) (List.mem_of_getElem? (i := 19) rfl)
theorem d_Mod_timeOfShared_85 : decode prog_13_method_44_code 85 = .ok (.iadd, 1) := id_Mod_timeOfShared_1 (85, .iadd, 1) (List.mem_of_getElem? (i := 20) rfl)
theorem d_Mod_timeOfShared_86 : decode prog_13_method_44_code 86 = .ok (.istore 5, 2) := id_Mod_timeOfShared_1 (86, .istore 5, 2) (List.mem_of_getElem? (i := 21) rfl)
theorem d_Mod_timeOfShared_88 : decode prog_13_method_44_code 88 = .ok (.iinc 6 (1), 3) := id_Mod_timeOfShared_1 (88, .iinc 6 (1), 3) (List.mem_of_getElem? (i := 22) rfl)
theorem d_Mod_timeOfShared_91 : decode prog_13_method_44_code 91 = .ok (.goto (-71), 3) := id_Mod_timeOfShared_1 (91, .goto (-71), 3) (List.mem_of_getElem? (i := 23) rfl)
def it_Mod_timeOfShared_2 : List (Nat × ClassFile.Instr × Nat) := [(94, .iload 5, 2), (96, .iload_n 3, 1), (97, .if_icmp .le (8), 3), (100, .iload 5, 2), (102, .goto (4), 3), (105, .iload_n 3, 1), (106, .istore_n 3, 1), (107, .iinc 4 (1), 3), (110, .goto (-105), 3), (113, .aload_n 0, 1), (114, .getfield 45, 3), (117, .iload_n 1, 1), (118, .aload_n 0, 1), (119, .getfield 159, 3), (122, .iload_n 3, 1), (123, .ifCond .ne (7), 3), (126, .iconst 1, 1), (127, .goto (4), 3), (130, .iload_n 3, 1), (131, .iadd, 1), (132, .iastore, 1), (133, .iconst 2, 1), (134, .iload_n 3, 1), (135, .iadd, 1)]
theorem id_Mod_timeOfShared_2 : ∀ q ∈ it_Mod_timeOfShared_2, decode prog_13_method_44_code q.1 = .ok q.2 := by decide +kernel
theorem d_Mod_timeOfShared_94 : decode prog_13_method_44_code 94 = .ok (.iload 5, 2) := id_Mod_timeOfShared_2 (94, .iload 5, 2) (List.mem_of_getElem? (i := 0) rfl)
theorem d_Mod_timeOfShared_96 : decode prog_13_method_44_code 96 = .ok (.iload_n 3, 1) := id_Mod_timeOfShared_2 (96, .iload_n 3, 1) (List.mem_of_getElem? (i := 1) rfl)
theorem d_Mod_timeOfShared_97 : decode prog_13_method_44_code 97 = .ok (.if_icmp .le (8), 3) := id_Mod_timeOfShared_2 (97, .if_icmp .le (8), 3) (List.mem_of_getElem? (i := 2) rfl)
theorem d_Mod_timeOfShared_100 : decode prog_13_method_44_code 100 = .ok (.iload 5, 2) := id_Mod_timeOfShared_2 (100, .iload 5, 2) (List.mem_of_getElem? (i := 3) rfl)
theorem d_Mod_timeOfShared_102 : decode prog_13_method_44_code 102 = .ok (.goto (4), 3) := id_Mod_timeOfShared_2 (102, .goto (4), 3) (List.mem_of_getElem? (i := 4) rfl)
theorem d_Mod_timeOfShared_105 : decode prog_13_method_44_code 105 = .ok (.iload_n 3, 1) := id_Mod_timeOfShared_2 (105, .iload_n 3, 1) (List.mem_of_getElem? (i := 5) rfl)
theorem d_Mod_timeOfShared_106 : decode prog_13_method_44_code 106 = .ok (.istore_n 3, 1) := id_Mod_timeOfShared_2 (106, .istore_n 3, 1) (List.mem_of_getElem? (i := 6) rfl)
theorem d_Mod_timeOfShared_107 : decode prog_13_method_44_code 107 = .ok (.iinc 4 (1), 3) := id_Mod_timeOfShared_2 (107, .iinc 4 (1), 3) (List.mem_of_getElem? (i := 7) rfl)
theorem d_Mod_timeOfShared_110 : decode prog_13_method_44_code 110 = .ok (.goto (-105), 3) := id_Mod_timeOfShared_2 (110, .goto (-105), 3) (List.mem_of_getElem? (i := 8) rfl)
theorem d_Mod_timeOfShared_113 : decode prog_13_method_44_code 113 = .ok (.aload_n 0, 1) := id_Mod_timeOfShared_2 (113, .aload_n 0, 1) (List.mem_of_getElem? (i := 9) rfl)
theorem d_Mod_timeOfShared_114 : decode prog_13_method_44_code 114 = .ok (.getfield 45, 3) := id_Mod_timeOfShared_2 (114, .getfield 45, 3) (List.mem_of_getElem? (i := 10) rfl)
theorem d_Mod_timeOfShared_117 : decode prog_13_method_44_code 117 = .ok (.iload_n 1, 1) := id_Mod_timeOfShared_2 (117, .iload_n 1, 1) (List.mem_of_getElem? (i := 11) rfl)
theorem d_Mod_timeOfShared_118 : decode prog_13_method_44_code 118 = .ok (.aload_n 0, 1) := id_Mod_timeOfShared_2 (118, .aload_n 0, 1) (List.mem_of_getElem? (i := 12) rfl)
theorem d_Mod_timeOfShared_119 : decode prog_13_method_44_code 119 = .ok (.getfield 159, 3) := id_Mod_timeOfShared_2 (119, .getfield 159, 3) (List.mem_of_getElem? (i := 13) rfl)
theorem d_Mod_timeOfShared_122 : decode prog_13_method_44_code 122 = .ok (.iload_n 3, 1) := id_Mod_timeOfShared_2 (122, .iload_n 3, 1) (List.mem_of_getElem? (i := 14) rfl)
theorem d_Mod_timeOfShared_123 : decode prog_13_method_44_code 123 = .ok (.ifCond .ne (7), 3) := id_Mod_timeOfShared_2 (123, .ifCond .ne (7), 3) (List.mem_of_getElem? (i := 15) rfl)
theorem d_Mod_timeOfShared_126 : decode prog_13_method_44_code 126 = .ok (.iconst 1, 1) := id_Mod_timeOfShared_2 (126, .iconst 1, 1) (List.mem_of_getElem? (i := 16) rfl)
theorem d_Mod_timeOfShared_127 : decode prog_13_method_44_code 127 = .ok (.goto (4), 3) := id_Mod_timeOfShared_2 (127, .goto (4), 3) (List.mem_of_getElem? (i := 17) rfl)
theorem d_Mod_timeOfShared_130 : decode prog_13_method_44_code 130 = .ok (.iload_n 3, 1) := id_Mod_timeOfShared_2 (130, .iload_n 3, 1) (List.mem_of_getElem? (i := 18) rfl)
theorem d_Mod_timeOfShared_131 : decode prog_13_method_44_code 131 = .ok (.iadd, 1) := id_Mod_timeOfShared_2 (131, .iadd, 1) (List.mem_of_getElem? (i := 19) rfl)
theorem d_Mod_timeOfShared_132 : decode prog_13_method_44_code 132 = .ok (.iastore, 1) := id_Mod_timeOfShared_2 (132, .iastore, 1) (List.mem_of_getElem? (i := 20) rfl)
theorem d_Mod_timeOfShared_133 : decode prog_13_method_44_code 133 = .ok (.iconst 2, 1) := id_Mod_timeOfShared_2 (133, .iconst 2, 1) (List.mem_of_getElem? (i := 21) rfl)
theorem d_Mod_timeOfShared_134 : decode prog_13_method_44_code 134 = .ok (.iload_n 3, 1) := id_Mod_timeOfShared_2 (134, .iload_n 3, 1) (List.mem_of_getElem? (i := 22) rfl)
theorem d_Mod_timeOfShared_135 : decode prog_13_method_44_code 135 = .ok (.iadd, 1) := id_Mod_timeOfShared_2 (135, .iadd, 1) (List.mem_of_getElem? (i := 23) rfl)
def it_Mod_timeOfShared_3 : List (Nat × ClassFile.Instr × Nat) := [(136, .ireturn, 1)]
theorem id_Mod_timeOfShared_3 : ∀ q ∈ it_Mod_timeOfShared_3, decode prog_13_method_44_code q.1 = .ok q.2 := by decide +kernel
theorem d_Mod_timeOfShared_136 : decode prog_13_method_44_code 136 = .ok (.ireturn, 1) := id_Mod_timeOfShared_3 (136, .ireturn, 1) (List.mem_of_getElem? (i := 0) rfl)
theorem wC_Mod_timeOfShared : Cond.code ⟨"WarpMillModel", "timeOfShared", "(II)I"⟩ prog_13_method_44_code 7 (some .int) ∈ lw_tb := mem_tb 1416 (by decide +kernel) rfl
theorem cw_Mod_timeOfShared_Mod_asked : cW mi_Mod_timeOfShared mi_Mod_asked 2 := ⟨wC_Mod_asked, wi_Mod, ⟨by decide, by decide, by decide +kernel⟩, by decide, by decide⟩
theorem cw_Mod_timeOfShared_Mod_isAgain : cW mi_Mod_timeOfShared mi_Mod_isAgain 2 := ⟨wC_Mod_isAgain, wi_Mod, ⟨by decide, by decide, by decide +kernel⟩, by decide, by decide⟩
def b_Mod_timeOfShared_80 (F : Nat) (k5 : Nat → Int32 → Int32 → Int32 → Int32 → Hp → Option (Int32 × Hp)) (k20 : Nat → Int32 → Int32 → Int32 → Int32 → Int32 → Int32 → Hp → Option (Int32 × Hp)) (x0 : Nat) (x1 : Int32) (x2 : Int32) (x3 : Int32) (x4 : Int32) (x6 : Int32) (s0 : Int32) (h : Hp) : Option (Int32 × Hp) := k20 x0 x1 x2 x3 x4 (s0 + (1 : Int32)) (x6 + 1) h
set_option maxRecDepth 100000 in
set_option maxHeartbeats 4000000 in
theorem e_Mod_timeOfShared_80 {G : Gl} (hw : gF G) {h0 : Hp} {F : Nat} {r : Int32} {h' : Hp} {k5 : Nat → Int32 → Int32 → Int32 → Int32 → Hp → Option (Int32 × Hp)} {k20 : Nat → Int32 → Int32 → Int32 → Int32 → Int32 → Int32 → Hp → Option (Int32 × Hp)} (hk5 : ∀ (y0 : Nat) (y1 : Int32) (y2 : Int32) (y3 : Int32) (y4 : Int32) (hh : Hp), k5 y0 y1 y2 y3 y4 hh = some (r, h') → Go G mi_Mod_timeOfShared h0 (pI r h') hh 5 [(0, .ref y0), (1, .int y1), (2, .int y2), (3, .int y3), (4, .int y4)] []) (hk20 : ∀ (y0 : Nat) (y1 : Int32) (y2 : Int32) (y3 : Int32) (y4 : Int32) (y5 : Int32) (y6 : Int32) (hh : Hp), k20 y0 y1 y2 y3 y4 y5 y6 hh = some (r, h') → Go G mi_Mod_timeOfShared h0 (pI r h') hh 20 [(0, .ref y0), (1, .int y1), (2, .int y2), (3, .int y3), (4, .int y4), (5, .int y5), (6, .int y6)] []) {x0 : Nat} {x1 : Int32} {x2 : Int32} {x3 : Int32} {x4 : Int32} {x6 : Int32} {s0 : Int32} {h : Hp} (hf : b_Mod_timeOfShared_80 F k5 k20 x0 x1 x2 x3 x4 x6 s0 h = some (r, h')) : Go G mi_Mod_timeOfShared h0 (pI r h') h 80 [(0, .ref x0), (1, .int x1), (2, .int x2), (3, .int x3), (4, .int x4), (6, .int x6)] [.int s0] := by
  unfold b_Mod_timeOfShared_80 at hf
  refine g_iconst 1 d_Mod_timeOfShared_80 (by decide) ?_
  refine g_goto 85 d_Mod_timeOfShared_81 (by decide) ?_
  refine g_iadd d_Mod_timeOfShared_85 ?_
  refine g_istore d_Mod_timeOfShared_86 (by decide) ?_
  show Go _ _ _ _ _ _ [(0, _), (1, _), (2, _), (3, _), (4, _), (5, _), (6, _)] _
  refine g_iinc (_ + 1) d_Mod_timeOfShared_88 rfl (by rfl) (by decide) ?_
  show Go _ _ _ _ _ _ [(0, _), (1, _), (2, _), (3, _), (4, _), (5, _), (6, _)] _
  refine g_goto 20 d_Mod_timeOfShared_91 (by decide) ?_
  exact hk20 _ _ _ _ _ _ _ _ hf
def b_Mod_timeOfShared_20 (F : Nat) (k5 : Nat → Int32 → Int32 → Int32 → Int32 → Hp → Option (Int32 × Hp)) : Nat → Nat → Int32 → Int32 → Int32 → Int32 → Int32 → Int32 → Hp → Option (Int32 × Hp)
  | 0 => fun _ _ _ _ _ _ _ _ => none
  | n + 1 => fun x0 x1 x2 x3 x4 x5 x6 h => gd (hK h x0 = 12) <| if (hI h 705 x0) ≤ x6 then (if x5 ≤ x3 then (k5 x0 x1 x2 x3 (x4 + 1) h) else (k5 x0 x1 x2 x5 (x4 + 1) h)) else (rq h (hR h 755 x0) 101 fun a_30 => ix x6 (hN h a_30) fun j_35 => if (hA h a_30 j_35) = 0 then (b_Mod_timeOfShared_20 F k5 n x0 x1 x2 x3 x4 x5 (x6 + 1) h) else (cl (f_Mod_asked F x0 x2 x6 h) fun v_43 h_43 => gd (hK h_43 x0 = 12) <| gd (¬ (hI h_43 708 x0) = 0) <| if (v_43 - v_43 / (hI h_43 708 x0) * (hI h_43 708 x0)) = x4 then (if (53 : Int32) < (hI h_43 756 x0) then (b_Mod_timeOfShared_80 F k5 (b_Mod_timeOfShared_20 F k5 n) x0 x1 x2 x3 x4 x6 x5 h_43) else (cl (f_Mod_isAgain F x0 x2 x6 h_43) fun v_74 h_74 => if v_74 = 0 then (b_Mod_timeOfShared_80 F k5 (b_Mod_timeOfShared_20 F k5 n) x0 x1 x2 x3 x4 x6 x5 h_74) else (b_Mod_timeOfShared_20 F k5 n x0 x1 x2 x3 x4 (x5 + (0 : Int32)) (x6 + 1) h_74))) else (b_Mod_timeOfShared_20 F k5 n x0 x1 x2 x3 x4 x5 (x6 + 1) h_43)))
set_option maxRecDepth 100000 in
set_option maxHeartbeats 4000000 in
theorem e_Mod_timeOfShared_20 {G : Gl} (hw : gF G) {h0 : Hp} {F : Nat} {r : Int32} {h' : Hp} {k5 : Nat → Int32 → Int32 → Int32 → Int32 → Hp → Option (Int32 × Hp)} (hk5 : ∀ (y0 : Nat) (y1 : Int32) (y2 : Int32) (y3 : Int32) (y4 : Int32) (hh : Hp), k5 y0 y1 y2 y3 y4 hh = some (r, h') → Go G mi_Mod_timeOfShared h0 (pI r h') hh 5 [(0, .ref y0), (1, .int y1), (2, .int y2), (3, .int y3), (4, .int y4)] []) : ∀ (n : Nat) (x0 : Nat) (x1 : Int32) (x2 : Int32) (x3 : Int32) (x4 : Int32) (x5 : Int32) (x6 : Int32) (h : Hp), b_Mod_timeOfShared_20 F k5 n x0 x1 x2 x3 x4 x5 x6 h = some (r, h') → Go G mi_Mod_timeOfShared h0 (pI r h') h 20 [(0, .ref x0), (1, .int x1), (2, .int x2), (3, .int x3), (4, .int x4), (5, .int x5), (6, .int x6)] [] := by
  intro n
  induction n with
  | zero =>
    intro _ _ _ _ _ _ _ _ hf
    exact nm_s hf
  | succ n ih =>
    intro x0 x1 x2 x3 x4 x5 x6 h hf
    unfold b_Mod_timeOfShared_20 at hf
    refine g_iload d_Mod_timeOfShared_20 rfl ?_
    refine g_aload_n d_Mod_timeOfShared_22 rfl ?_
    obtain ⟨k_23, hf⟩ := gd_s hf
    refine fg_Mod_lanes lf_Mod_7 d_Mod_timeOfShared_23 k_23 ?_
    refine g_icmp_ge 94 d_Mod_timeOfShared_26 (by decide) (fun c_26 => ?_) (fun c_26 => ?_)
    · have hf := ifp hf c_26
      refine g_iload d_Mod_timeOfShared_94 rfl ?_
      refine g_iload_n d_Mod_timeOfShared_96 rfl ?_
      refine g_icmp_le 105 d_Mod_timeOfShared_97 (by decide) (fun c_97 => ?_) (fun c_97 => ?_)
      · have hf := ifp hf c_97
        refine g_iload_n d_Mod_timeOfShared_105 rfl ?_
        refine g_istore_n d_Mod_timeOfShared_106 (by decide) ?_
        show Go _ _ _ _ _ _ [(0, _), (1, _), (2, _), (3, _), (4, _), (5, _), (6, _)] _
        refine g_iinc (_ + 1) d_Mod_timeOfShared_107 rfl (by rfl) (by decide) ?_
        show Go _ _ _ _ _ _ [(0, _), (1, _), (2, _), (3, _), (4, _), (5, _), (6, _)] _
        refine g_goto 5 d_Mod_timeOfShared_110 (by decide) ?_
        refine Go.locals [0, 1, 2, 3, 4] rfl ?_
        exact hk5 _ _ _ _ _ _ hf
      · have hf := ifn hf c_97
        refine g_iload d_Mod_timeOfShared_100 rfl ?_
        refine g_goto 106 d_Mod_timeOfShared_102 (by decide) ?_
        refine g_istore_n d_Mod_timeOfShared_106 (by decide) ?_
        show Go _ _ _ _ _ _ [(0, _), (1, _), (2, _), (3, _), (4, _), (5, _), (6, _)] _
        refine g_iinc (_ + 1) d_Mod_timeOfShared_107 rfl (by rfl) (by decide) ?_
        show Go _ _ _ _ _ _ [(0, _), (1, _), (2, _), (3, _), (4, _), (5, _), (6, _)] _
        refine g_goto 5 d_Mod_timeOfShared_110 (by decide) ?_
        refine Go.locals [0, 1, 2, 3, 4] rfl ?_
        exact hk5 _ _ _ _ _ _ hf
    · have hf := ifn hf c_26
      refine g_aload_n d_Mod_timeOfShared_29 rfl ?_
      obtain ⟨a_30, e_30, k_30, hf⟩ := rq_s hf
      refine fgs_Mod_does lf_Mod_111 d_Mod_timeOfShared_30 k_23 e_30 ?_
      refine g_iload d_Mod_timeOfShared_33 rfl ?_
      obtain ⟨i_35, hf⟩ := ix_s hf
      refine g_zald k_30 i_35 d_Mod_timeOfShared_35 ?_
      refine g_if_eq 88 d_Mod_timeOfShared_36 (by decide) (fun c_36 => ?_) (fun c_36 => ?_)
      · have hf := ifp hf c_36
        refine g_iinc (_ + 1) d_Mod_timeOfShared_88 rfl (by rfl) (by decide) ?_
        show Go _ _ _ _ _ _ [(0, _), (1, _), (2, _), (3, _), (4, _), (5, _), (6, _)] _
        refine g_goto 20 d_Mod_timeOfShared_91 (by decide) ?_
        exact ih _ _ _ _ _ _ _ _ hf
      · have hf := ifn hf c_36
        refine g_aload_n d_Mod_timeOfShared_39 rfl ?_
        refine g_iload_n d_Mod_timeOfShared_40 rfl ?_
        refine g_iload d_Mod_timeOfShared_41 rfl ?_
        obtain ⟨v_43, h_43, e_43, hf⟩ := cl_s hf
        refine g_callV (mz := mi_Mod_asked) (e_Mod_asked e_43) cw_Mod_timeOfShared_Mod_asked lm_Mod_316 wI_Mod_asked wV_Mod_asked (ci := 11) k_23 (by decide) rfl rfl d_Mod_timeOfShared_43 rfl rfl (by first | exact Nat.le_of_ble_eq_true rfl | simp [cat_rf, Value.category]) (fun r1 h1 hp hro => ?_)
        obtain ⟨rfl, rfl⟩ := hp
        dsimp only [Option.toList_some, Option.toList_none, List.cons_append, List.nil_append]
        refine g_aload_n d_Mod_timeOfShared_46 rfl ?_
        obtain ⟨k_47, hf⟩ := gd_s hf
        refine fg_Mod_banks lf_Mod_19 d_Mod_timeOfShared_47 k_47 ?_
        obtain ⟨z_50, hf⟩ := gd_s hf
        refine g_irem d_Mod_timeOfShared_50 z_50 ?_
        refine g_iload d_Mod_timeOfShared_51 rfl ?_
        refine g_icmp_eq 59 d_Mod_timeOfShared_53 (by decide) (fun c_53 => ?_) (fun c_53 => ?_)
        · have hf := ifp hf c_53
          refine g_iload d_Mod_timeOfShared_59 rfl ?_
          refine g_aload_n d_Mod_timeOfShared_61 rfl ?_
          refine fg_Mod_op lf_Mod_220 d_Mod_timeOfShared_62 k_47 ?_
          refine g_bipush (53) d_Mod_timeOfShared_65 (by decide) ?_
          refine g_icmp_gt 80 d_Mod_timeOfShared_67 (by decide) (fun c_67 => ?_) (fun c_67 => ?_)
          · have hf := ifp hf c_67
            refine Go.locals [0, 1, 2, 3, 4, 6] rfl ?_
            have key := e_Mod_timeOfShared_80 hw (G := G) (h0 := h0) hk5 (fun _ _ _ _ _ _ _ _ q => ih _ _ _ _ _ _ _ _ q) hf
            exact key
          · have hf := ifn hf c_67
            refine g_aload_n d_Mod_timeOfShared_70 rfl ?_
            refine g_iload_n d_Mod_timeOfShared_71 rfl ?_
            refine g_iload d_Mod_timeOfShared_72 rfl ?_
            obtain ⟨v_74, h_74, e_74, hf⟩ := cl_s hf
            refine g_callV (mz := mi_Mod_isAgain) (e_Mod_isAgain e_74) cw_Mod_timeOfShared_Mod_isAgain lm_Mod_319 wI_Mod_isAgain wV_Mod_isAgain (ci := 11) k_47 (by decide) rfl rfl d_Mod_timeOfShared_74 rfl rfl (by first | exact Nat.le_of_ble_eq_true rfl | simp [cat_rf, Value.category]) (fun r1 h1 hp hro => ?_)
            obtain ⟨rfl, rfl⟩ := hp
            dsimp only [Option.toList_some, Option.toList_none, List.cons_append, List.nil_append]
            refine g_if_ne 84 d_Mod_timeOfShared_77 (by decide) (fun c_77 => ?_) (fun c_77 => ?_)
            · have hf := ifn hf c_77
              refine g_iconst 0 d_Mod_timeOfShared_84 (by decide) ?_
              refine g_iadd d_Mod_timeOfShared_85 ?_
              refine g_istore d_Mod_timeOfShared_86 (by decide) ?_
              show Go _ _ _ _ _ _ [(0, _), (1, _), (2, _), (3, _), (4, _), (5, _), (6, _)] _
              refine g_iinc (_ + 1) d_Mod_timeOfShared_88 rfl (by rfl) (by decide) ?_
              show Go _ _ _ _ _ _ [(0, _), (1, _), (2, _), (3, _), (4, _), (5, _), (6, _)] _
              refine g_goto 20 d_Mod_timeOfShared_91 (by decide) ?_
              exact ih _ _ _ _ _ _ _ _ hf
            · have hf := ifp hf c_77
              refine Go.locals [0, 1, 2, 3, 4, 6] rfl ?_
              have key := e_Mod_timeOfShared_80 hw (G := G) (h0 := h0) hk5 (fun _ _ _ _ _ _ _ _ q => ih _ _ _ _ _ _ _ _ q) hf
              exact key
        · have hf := ifn hf c_53
          refine g_goto 88 d_Mod_timeOfShared_56 (by decide) ?_
          refine g_iinc (_ + 1) d_Mod_timeOfShared_88 rfl (by rfl) (by decide) ?_
          show Go _ _ _ _ _ _ [(0, _), (1, _), (2, _), (3, _), (4, _), (5, _), (6, _)] _
          refine g_goto 20 d_Mod_timeOfShared_91 (by decide) ?_
          exact ih _ _ _ _ _ _ _ _ hf
def b_Mod_timeOfShared_131 (F : Nat) (x3 : Int32) (s0 : Nat) (s1 : Int32) (s2 : Int32) (s3 : Int32) (h : Hp) : Option (Int32 × Hp) := gd (hK h s0 = 100) <| ix s1 (hN h s0) fun j_132_2 => pw (sA h s0 j_132_2 (s2 + s3)) fun h_132_3 => some (((2 : Int32) + x3), h_132_3)
set_option maxRecDepth 100000 in
set_option maxHeartbeats 4000000 in
theorem e_Mod_timeOfShared_131 {G : Gl} (hw : gF G) {h0 : Hp} {F : Nat} {r : Int32} {h' : Hp}   {x3 : Int32} {s0 : Nat} {s1 : Int32} {s2 : Int32} {s3 : Int32} {h : Hp} (hf : b_Mod_timeOfShared_131 F x3 s0 s1 s2 s3 h = some (r, h')) : Go G mi_Mod_timeOfShared h0 (pI r h') h 131 [(3, .int x3)] [.int s3, .int s2, .int s1, .ref s0] := by
  unfold b_Mod_timeOfShared_131 at hf
  refine g_iadd d_Mod_timeOfShared_131 ?_
  obtain ⟨k_132, hf⟩ := gd_s hf
  obtain ⟨i_132_2, hf⟩ := ix_s hf
  refine g_iast hw k_132 i_132_2 d_Mod_timeOfShared_132 ?_
  have hf := pw_b hf
  refine g_iconst 2 d_Mod_timeOfShared_133 (by decide) ?_
  refine g_iload_n d_Mod_timeOfShared_134 rfl ?_
  refine g_iadd d_Mod_timeOfShared_135 ?_
  exact Go.ret (some _) (rOk_i _) rfl d_Mod_timeOfShared_136 (pI_of hf)
def b_Mod_timeOfShared_5 (F : Nat) : Nat → Nat → Int32 → Int32 → Int32 → Int32 → Hp → Option (Int32 × Hp)
  | 0 => fun _ _ _ _ _ _ => none
  | n + 1 => fun x0 x1 x2 x3 x4 h => gd (hK h x0 = 12) <| if (hI h 708 x0) ≤ x4 then (rq h (hR h 732 x0) 100 fun a_114 => if x3 = 0 then (b_Mod_timeOfShared_131 F x3 a_114 x1 (hI h 719 x0) (1 : Int32) h) else (b_Mod_timeOfShared_131 F x3 a_114 x1 (hI h 719 x0) x3 h)) else (b_Mod_timeOfShared_20 F (b_Mod_timeOfShared_5 F n) F x0 x1 x2 x3 x4 (0 : Int32) (0 : Int32) h)
set_option maxRecDepth 100000 in
set_option maxHeartbeats 4000000 in
theorem e_Mod_timeOfShared_5 {G : Gl} (hw : gF G) {h0 : Hp} {F : Nat} {r : Int32} {h' : Hp}   : ∀ (n : Nat) (x0 : Nat) (x1 : Int32) (x2 : Int32) (x3 : Int32) (x4 : Int32) (h : Hp), b_Mod_timeOfShared_5 F n x0 x1 x2 x3 x4 h = some (r, h') → Go G mi_Mod_timeOfShared h0 (pI r h') h 5 [(0, .ref x0), (1, .int x1), (2, .int x2), (3, .int x3), (4, .int x4)] [] := by
  intro n
  induction n with
  | zero =>
    intro _ _ _ _ _ _ hf
    exact nm_s hf
  | succ n ih =>
    intro x0 x1 x2 x3 x4 h hf
    unfold b_Mod_timeOfShared_5 at hf
    refine g_iload d_Mod_timeOfShared_5 rfl ?_
    refine g_aload_n d_Mod_timeOfShared_7 rfl ?_
    obtain ⟨k_8, hf⟩ := gd_s hf
    refine fg_Mod_banks lf_Mod_19 d_Mod_timeOfShared_8 k_8 ?_
    refine g_icmp_ge 113 d_Mod_timeOfShared_11 (by decide) (fun c_11 => ?_) (fun c_11 => ?_)
    · have hf := ifp hf c_11
      refine g_aload_n d_Mod_timeOfShared_113 rfl ?_
      obtain ⟨a_114, e_114, k_114, hf⟩ := rq_s hf
      refine fgs_Mod_sharedTick lf_Mod_45 d_Mod_timeOfShared_114 k_8 e_114 ?_
      refine g_iload_n d_Mod_timeOfShared_117 rfl ?_
      refine g_aload_n d_Mod_timeOfShared_118 rfl ?_
      refine fg_Mod_cycle lf_Mod_159 d_Mod_timeOfShared_119 k_8 ?_
      refine g_iload_n d_Mod_timeOfShared_122 rfl ?_
      refine g_if_ne 130 d_Mod_timeOfShared_123 (by decide) (fun c_123 => ?_) (fun c_123 => ?_)
      · have hf := ifn hf c_123
        refine g_iload_n d_Mod_timeOfShared_130 rfl ?_
        refine Go.locals [3] rfl ?_
        have key := e_Mod_timeOfShared_131 hw (G := G) (h0 := h0)  hf
        exact key
      · have hf := ifp hf c_123
        refine g_iconst 1 d_Mod_timeOfShared_126 (by decide) ?_
        refine g_goto 131 d_Mod_timeOfShared_127 (by decide) ?_
        refine Go.locals [3] rfl ?_
        have key := e_Mod_timeOfShared_131 hw (G := G) (h0 := h0)  hf
        exact key
    · have hf := ifn hf c_11
      refine g_iconst 0 d_Mod_timeOfShared_14 (by decide) ?_
      refine g_istore d_Mod_timeOfShared_15 (by decide) ?_
      show Go _ _ _ _ _ _ [(0, _), (1, _), (2, _), (3, _), (4, _), (5, _)] _
      refine g_iconst 0 d_Mod_timeOfShared_17 (by decide) ?_
      refine g_istore d_Mod_timeOfShared_18 (by decide) ?_
      show Go _ _ _ _ _ _ [(0, _), (1, _), (2, _), (3, _), (4, _), (5, _), (6, _)] _
      have key := e_Mod_timeOfShared_20 hw (G := G) (h0 := h0) (fun _ _ _ _ _ _ q => ih _ _ _ _ _ _ q) F _ _ _ _ _ _ _ _ hf
      exact key
def f_Mod_timeOfShared (F : Nat) (x0 : Nat) (x1 : Int32) (x2 : Int32) (h : Hp) : Option (Int32 × Hp) := b_Mod_timeOfShared_5 F F x0 x1 x2 (0 : Int32) (0 : Int32) h
set_option maxRecDepth 100000 in
set_option maxHeartbeats 4000000 in
theorem e_Mod_timeOfShared {G : Gl} (hw : gF G) {F : Nat} {r : Int32} {h' : Hp} {x0 : Nat} {x1 : Int32} {x2 : Int32} {h : Hp} (hf : f_Mod_timeOfShared F x0 x1 x2 h = some (r, h')) : Ex G mi_Mod_timeOfShared [.ref x0, .int x1, .int x2] h (pI r h') := by
  unfold f_Mod_timeOfShared at hf
  refine Ex.of nmI (by decide) (Nat.le_of_ble_eq_true rfl) ?_
  show Go G mi_Mod_timeOfShared h _ h 0 [(0, .ref x0), (1, .int x1), (2, .int x2)] []
  refine g_iconst 0 d_Mod_timeOfShared_0 (by decide) ?_
  refine g_istore_n d_Mod_timeOfShared_1 (by decide) ?_
  show Go _ _ _ _ _ _ [(0, _), (1, _), (2, _), (3, _)] _
  refine g_iconst 0 d_Mod_timeOfShared_2 (by decide) ?_
  refine g_istore d_Mod_timeOfShared_3 (by decide) ?_
  show Go _ _ _ _ _ _ [(0, _), (1, _), (2, _), (3, _), (4, _)] _
  have key := e_Mod_timeOfShared_5 hw (G := G) (h0 := h)  F _ _ _ _ _ _ hf
  exact key
abbrev mi_Mod_isLineAgain : MI := (⟨"WarpMillModel", "isLineAgain", "(II)Z"⟩, prog_13_method_45_code, 4, some .boolean, 2, 44)
def it_Mod_isLineAgain_0 : List (Nat × ClassFile.Instr × Nat) := [(0, .iconst 0, 1), (1, .istore_n 3, 1), (2, .iload_n 3, 1), (3, .iload_n 2, 1), (4, .if_icmp .ge (41), 3), (7, .aload_n 0, 1), (8, .getfield 111, 3), (11, .iload_n 3, 1), (12, .baload, 1), (13, .ifCond .eq (26), 3), (16, .aload_n 0, 1), (17, .iload_n 1, 1), (18, .iload_n 3, 1), (19, .invokevirtual 316, 3), (22, .bipush (8), 2), (24, .idiv, 1), (25, .aload_n 0, 1), (26, .iload_n 1, 1), (27, .iload_n 2, 1), (28, .invokevirtual 316, 3), (31, .bipush (8), 2), (33, .idiv, 1), (34, .if_icmp .ne (5), 3), (37, .iconst 1, 1)]
theorem id_Mod_isLineAgain_0 : ∀ q ∈ it_Mod_isLineAgain_0, decode prog_13_method_45_code q.1 = .ok q.2 := by decide +kernel
theorem d_Mod_isLineAgain_0 : decode prog_13_method_45_code 0 = .ok (.iconst 0, 1) := id_Mod_isLineAgain_0 (0, .iconst 0, 1) (List.mem_of_getElem? (i := 0) rfl)
theorem d_Mod_isLineAgain_1 : decode prog_13_method_45_code 1 = .ok (.istore_n 3, 1) := id_Mod_isLineAgain_0 (1, .istore_n 3, 1) (List.mem_of_getElem? (i := 1) rfl)
theorem d_Mod_isLineAgain_2 : decode prog_13_method_45_code 2 = .ok (.iload_n 3, 1) := id_Mod_isLineAgain_0 (2, .iload_n 3, 1) (List.mem_of_getElem? (i := 2) rfl)
theorem d_Mod_isLineAgain_3 : decode prog_13_method_45_code 3 = .ok (.iload_n 2, 1) := id_Mod_isLineAgain_0 (3, .iload_n 2, 1) (List.mem_of_getElem? (i := 3) rfl)
theorem d_Mod_isLineAgain_4 : decode prog_13_method_45_code 4 = .ok (.if_icmp .ge (41), 3) := id_Mod_isLineAgain_0 (4, .if_icmp .ge (41), 3) (List.mem_of_getElem? (i := 4) rfl)
theorem d_Mod_isLineAgain_7 : decode prog_13_method_45_code 7 = .ok (.aload_n 0, 1) := id_Mod_isLineAgain_0 (7, .aload_n 0, 1) (List.mem_of_getElem? (i := 5) rfl)
theorem d_Mod_isLineAgain_8 : decode prog_13_method_45_code 8 = .ok (.getfield 111, 3) := id_Mod_isLineAgain_0 (8, .getfield 111, 3) (List.mem_of_getElem? (i := 6) rfl)
theorem d_Mod_isLineAgain_11 : decode prog_13_method_45_code 11 = .ok (.iload_n 3, 1) := id_Mod_isLineAgain_0 (11, .iload_n 3, 1) (List.mem_of_getElem? (i := 7) rfl)
theorem d_Mod_isLineAgain_12 : decode prog_13_method_45_code 12 = .ok (.baload, 1) := id_Mod_isLineAgain_0 (12, .baload, 1) (List.mem_of_getElem? (i := 8) rfl)
theorem d_Mod_isLineAgain_13 : decode prog_13_method_45_code 13 = .ok (.ifCond .eq (26), 3) := id_Mod_isLineAgain_0 (13, .ifCond .eq (26), 3) (List.mem_of_getElem? (i := 9) rfl)
theorem d_Mod_isLineAgain_16 : decode prog_13_method_45_code 16 = .ok (.aload_n 0, 1) := id_Mod_isLineAgain_0 (16, .aload_n 0, 1) (List.mem_of_getElem? (i := 10) rfl)
theorem d_Mod_isLineAgain_17 : decode prog_13_method_45_code 17 = .ok (.iload_n 1, 1) := id_Mod_isLineAgain_0 (17, .iload_n 1, 1) (List.mem_of_getElem? (i := 11) rfl)
theorem d_Mod_isLineAgain_18 : decode prog_13_method_45_code 18 = .ok (.iload_n 3, 1) := id_Mod_isLineAgain_0 (18, .iload_n 3, 1) (List.mem_of_getElem? (i := 12) rfl)
theorem d_Mod_isLineAgain_19 : decode prog_13_method_45_code 19 = .ok (.invokevirtual 316, 3) := id_Mod_isLineAgain_0 (19, .invokevirtual 316, 3) (List.mem_of_getElem? (i := 13) rfl)
theorem d_Mod_isLineAgain_22 : decode prog_13_method_45_code 22 = .ok (.bipush (8), 2) := id_Mod_isLineAgain_0 (22, .bipush (8), 2) (List.mem_of_getElem? (i := 14) rfl)
theorem d_Mod_isLineAgain_24 : decode prog_13_method_45_code 24 = .ok (.idiv, 1) := id_Mod_isLineAgain_0 (24, .idiv, 1) (List.mem_of_getElem? (i := 15) rfl)
theorem d_Mod_isLineAgain_25 : decode prog_13_method_45_code 25 = .ok (.aload_n 0, 1) := id_Mod_isLineAgain_0 (25, .aload_n 0, 1) (List.mem_of_getElem? (i := 16) rfl)
theorem d_Mod_isLineAgain_26 : decode prog_13_method_45_code 26 = .ok (.iload_n 1, 1) := id_Mod_isLineAgain_0 (26, .iload_n 1, 1) (List.mem_of_getElem? (i := 17) rfl)
theorem d_Mod_isLineAgain_27 : decode prog_13_method_45_code 27 = .ok (.iload_n 2, 1) := id_Mod_isLineAgain_0 (27, .iload_n 2, 1) (List.mem_of_getElem? (i := 18) rfl)
theorem d_Mod_isLineAgain_28 : decode prog_13_method_45_code 28 = .ok (.invokevirtual 316, 3) := id_Mod_isLineAgain_0 (28, .invokevirtual 316, 3) (List.mem_of_getElem? (i := 19) rfl)
theorem d_Mod_isLineAgain_31 : decode prog_13_method_45_code 31 = .ok (.bipush (8), 2) := id_Mod_isLineAgain_0 (31, .bipush (8), 2) (List.mem_of_getElem? (i := 20) rfl)
theorem d_Mod_isLineAgain_33 : decode prog_13_method_45_code 33 = .ok (.idiv, 1) := id_Mod_isLineAgain_0 (33, .idiv, 1) (List.mem_of_getElem? (i := 21) rfl)
theorem d_Mod_isLineAgain_34 : decode prog_13_method_45_code 34 = .ok (.if_icmp .ne (5), 3) := id_Mod_isLineAgain_0 (34, .if_icmp .ne (5), 3) (List.mem_of_getElem? (i := 22) rfl)
theorem d_Mod_isLineAgain_37 : decode prog_13_method_45_code 37 = .ok (.iconst 1, 1) := id_Mod_isLineAgain_0 (37, .iconst 1, 1) (List.mem_of_getElem? (i := 23) rfl)
def it_Mod_isLineAgain_1 : List (Nat × ClassFile.Instr × Nat) := [(38, .ireturn, 1), (39, .iinc 3 (1), 3), (42, .goto (-40), 3), (45, .iconst 0, 1), (46, .ireturn, 1)]
theorem id_Mod_isLineAgain_1 : ∀ q ∈ it_Mod_isLineAgain_1, decode prog_13_method_45_code q.1 = .ok q.2 := by decide +kernel
theorem d_Mod_isLineAgain_38 : decode prog_13_method_45_code 38 = .ok (.ireturn, 1) := id_Mod_isLineAgain_1 (38, .ireturn, 1) (List.mem_of_getElem? (i := 0) rfl)
theorem d_Mod_isLineAgain_39 : decode prog_13_method_45_code 39 = .ok (.iinc 3 (1), 3) := id_Mod_isLineAgain_1 (39, .iinc 3 (1), 3) (List.mem_of_getElem? (i := 1) rfl)
theorem d_Mod_isLineAgain_42 : decode prog_13_method_45_code 42 = .ok (.goto (-40), 3) := id_Mod_isLineAgain_1 (42, .goto (-40), 3) (List.mem_of_getElem? (i := 2) rfl)
theorem d_Mod_isLineAgain_45 : decode prog_13_method_45_code 45 = .ok (.iconst 0, 1) := id_Mod_isLineAgain_1 (45, .iconst 0, 1) (List.mem_of_getElem? (i := 3) rfl)
theorem d_Mod_isLineAgain_46 : decode prog_13_method_45_code 46 = .ok (.ireturn, 1) := id_Mod_isLineAgain_1 (46, .ireturn, 1) (List.mem_of_getElem? (i := 4) rfl)
theorem wC_Mod_isLineAgain : Cond.code ⟨"WarpMillModel", "isLineAgain", "(II)Z"⟩ prog_13_method_45_code 4 (some .boolean) ∈ lw_tb := mem_tb 1432 (by decide +kernel) rfl
theorem cw_Mod_isLineAgain_Mod_asked : cW mi_Mod_isLineAgain mi_Mod_asked 2 := ⟨wC_Mod_asked, wi_Mod, ⟨by decide, by decide, by decide +kernel⟩, by decide, by decide⟩
def b_Mod_isLineAgain_2 (F : Nat) : Nat → Nat → Int32 → Int32 → Int32 → Hp → Option (Int32 × Hp)
  | 0 => fun _ _ _ _ _ => none
  | n + 1 => fun x0 x1 x2 x3 h => if x2 ≤ x3 then (some ((0 : Int32), h)) else (gd (hK h x0 = 12) <| rq h (hR h 755 x0) 101 fun a_8_2 => ix x3 (hN h a_8_2) fun j_12 => if (hA h a_8_2 j_12) = 0 then (b_Mod_isLineAgain_2 F n x0 x1 x2 (x3 + 1) h) else (cl (f_Mod_asked F x0 x1 x3 h) fun v_19 h_19 => gd (¬ (8 : Int32) = 0) <| gd (hK h_19 x0 = 12) <| cl (f_Mod_asked F x0 x1 x2 h_19) fun v_28_2 h_28_2 => gd (¬ (8 : Int32) = 0) <| if (v_19 / (8 : Int32)) = (v_28_2 / (8 : Int32)) then (some ((1 : Int32), h_28_2)) else (b_Mod_isLineAgain_2 F n x0 x1 x2 (x3 + 1) h_28_2)))
set_option maxRecDepth 100000 in
set_option maxHeartbeats 4000000 in
theorem e_Mod_isLineAgain_2 {G : Gl} {h0 : Hp} {F : Nat} {r : Int32} {h' : Hp}   : ∀ (n : Nat) (x0 : Nat) (x1 : Int32) (x2 : Int32) (x3 : Int32) (h : Hp), b_Mod_isLineAgain_2 F n x0 x1 x2 x3 h = some (r, h') → Go G mi_Mod_isLineAgain h0 (pI r h') h 2 [(0, .ref x0), (1, .int x1), (2, .int x2), (3, .int x3)] [] := by
  intro n
  induction n with
  | zero =>
    intro _ _ _ _ _ hf
    exact nm_s hf
  | succ n ih =>
    intro x0 x1 x2 x3 h hf
    unfold b_Mod_isLineAgain_2 at hf
    refine g_iload_n d_Mod_isLineAgain_2 rfl ?_
    refine g_iload_n d_Mod_isLineAgain_3 rfl ?_
    refine g_icmp_ge 45 d_Mod_isLineAgain_4 (by decide) (fun c_4 => ?_) (fun c_4 => ?_)
    · have hf := ifp hf c_4
      refine g_iconst 0 d_Mod_isLineAgain_45 (by decide) ?_
      exact Go.ret (some _) rOk_b0 rfl d_Mod_isLineAgain_46 (pI_of hf)
    · have hf := ifn hf c_4
      refine g_aload_n d_Mod_isLineAgain_7 rfl ?_
      obtain ⟨k_8, hf⟩ := gd_s hf
      obtain ⟨a_8_2, e_8_2, k_8_2, hf⟩ := rq_s hf
      refine fgs_Mod_does lf_Mod_111 d_Mod_isLineAgain_8 k_8 e_8_2 ?_
      refine g_iload_n d_Mod_isLineAgain_11 rfl ?_
      obtain ⟨i_12, hf⟩ := ix_s hf
      refine g_zald k_8_2 i_12 d_Mod_isLineAgain_12 ?_
      refine g_if_eq 39 d_Mod_isLineAgain_13 (by decide) (fun c_13 => ?_) (fun c_13 => ?_)
      · have hf := ifp hf c_13
        refine g_iinc (_ + 1) d_Mod_isLineAgain_39 rfl (by rfl) (by decide) ?_
        show Go _ _ _ _ _ _ [(0, _), (1, _), (2, _), (3, _)] _
        refine g_goto 2 d_Mod_isLineAgain_42 (by decide) ?_
        exact ih _ _ _ _ _ hf
      · have hf := ifn hf c_13
        refine g_aload_n d_Mod_isLineAgain_16 rfl ?_
        refine g_iload_n d_Mod_isLineAgain_17 rfl ?_
        refine g_iload_n d_Mod_isLineAgain_18 rfl ?_
        obtain ⟨v_19, h_19, e_19, hf⟩ := cl_s hf
        refine g_callV (mz := mi_Mod_asked) (e_Mod_asked e_19) cw_Mod_isLineAgain_Mod_asked lm_Mod_316 wI_Mod_asked wV_Mod_asked (ci := 11) k_8 (by decide) rfl rfl d_Mod_isLineAgain_19 rfl rfl (by first | exact Nat.le_of_ble_eq_true rfl | simp [cat_rf, Value.category]) (fun r1 h1 hp hro => ?_)
        obtain ⟨rfl, rfl⟩ := hp
        dsimp only [Option.toList_some, Option.toList_none, List.cons_append, List.nil_append]
        refine g_bipush (8) d_Mod_isLineAgain_22 (by decide) ?_
        obtain ⟨z_24, hf⟩ := gd_s hf
        refine g_idiv d_Mod_isLineAgain_24 z_24 ?_
        refine g_aload_n d_Mod_isLineAgain_25 rfl ?_
        refine g_iload_n d_Mod_isLineAgain_26 rfl ?_
        refine g_iload_n d_Mod_isLineAgain_27 rfl ?_
        obtain ⟨k_28, hf⟩ := gd_s hf
        obtain ⟨v_28_2, h_28_2, e_28_2, hf⟩ := cl_s hf
        refine g_callV (mz := mi_Mod_asked) (e_Mod_asked e_28_2) cw_Mod_isLineAgain_Mod_asked lm_Mod_316 wI_Mod_asked wV_Mod_asked (ci := 11) k_28 (by decide) rfl rfl d_Mod_isLineAgain_28 rfl rfl (by first | exact Nat.le_of_ble_eq_true rfl | simp [cat_rf, Value.category]) (fun r1 h1 hp hro => ?_)
        obtain ⟨rfl, rfl⟩ := hp
        dsimp only [Option.toList_some, Option.toList_none, List.cons_append, List.nil_append]
        refine g_bipush (8) d_Mod_isLineAgain_31 (by decide) ?_
        obtain ⟨z_33, hf⟩ := gd_s hf
        refine g_idiv d_Mod_isLineAgain_33 z_33 ?_
        refine g_icmp_ne 39 d_Mod_isLineAgain_34 (by decide) (fun c_34 => ?_) (fun c_34 => ?_)
        · have hf := ifn hf c_34
          refine g_iinc (_ + 1) d_Mod_isLineAgain_39 rfl (by rfl) (by decide) ?_
          show Go _ _ _ _ _ _ [(0, _), (1, _), (2, _), (3, _)] _
          refine g_goto 2 d_Mod_isLineAgain_42 (by decide) ?_
          exact ih _ _ _ _ _ hf
        · have hf := ifp hf c_34
          refine g_iconst 1 d_Mod_isLineAgain_37 (by decide) ?_
          exact Go.ret (some _) rOk_b1 rfl d_Mod_isLineAgain_38 (pI_of hf)
def f_Mod_isLineAgain (F : Nat) (x0 : Nat) (x1 : Int32) (x2 : Int32) (h : Hp) : Option (Int32 × Hp) := b_Mod_isLineAgain_2 F F x0 x1 x2 (0 : Int32) h
set_option maxRecDepth 100000 in
set_option maxHeartbeats 4000000 in
theorem e_Mod_isLineAgain {G : Gl} {F : Nat} {r : Int32} {h' : Hp} {x0 : Nat} {x1 : Int32} {x2 : Int32} {h : Hp} (hf : f_Mod_isLineAgain F x0 x1 x2 h = some (r, h')) : Ex G mi_Mod_isLineAgain [.ref x0, .int x1, .int x2] h (pI r h') := by
  unfold f_Mod_isLineAgain at hf
  refine Ex.of nmI (by decide) (Nat.le_of_ble_eq_true rfl) ?_
  show Go G mi_Mod_isLineAgain h _ h 0 [(0, .ref x0), (1, .int x1), (2, .int x2)] []
  refine g_iconst 0 d_Mod_isLineAgain_0 (by decide) ?_
  refine g_istore_n d_Mod_isLineAgain_1 (by decide) ?_
  show Go _ _ _ _ _ _ [(0, _), (1, _), (2, _), (3, _)] _
  have key := e_Mod_isLineAgain_2 (G := G) (h0 := h)  F _ _ _ _ _ hf
  exact key
abbrev mi_Mod_timeOfGlobal : MI := (⟨"WarpMillModel", "timeOfGlobal", "(I)I"⟩, prog_13_method_46_code, 10, some .int, 3, 67)
def it_Mod_timeOfGlobal_0 : List (Nat × ClassFile.Instr × Nat) := [(0, .aload_n 0, 1), (1, .getfield 159, 3), (4, .iconst 1, 1), (5, .iadd, 1), (6, .istore_n 2, 1), (7, .iconst 0, 1), (8, .istore_n 3, 1), (9, .iconst 0, 1), (10, .istore 4, 2), (12, .iload 4, 2), (14, .aload_n 0, 1), (15, .getfield 7, 3), (18, .if_icmp .ge (324), 3), (21, .aload_n 0, 1), (22, .getfield 111, 3), (25, .iload 4, 2), (27, .baload, 1), (28, .ifCond .ne (6), 3), (31, .goto (305), 3), (34, .iload_n 3, 1), (35, .aload_n 0, 1), (36, .getfield 220, 3), (39, .bipush (53), 2), (41, .if_icmp .le (17), 3)]
theorem id_Mod_timeOfGlobal_0 : ∀ q ∈ it_Mod_timeOfGlobal_0, decode prog_13_method_46_code q.1 = .ok q.2 := by decide +kernel
theorem d_Mod_timeOfGlobal_0 : decode prog_13_method_46_code 0 = .ok (.aload_n 0, 1) := id_Mod_timeOfGlobal_0 (0, .aload_n 0, 1) (List.mem_of_getElem? (i := 0) rfl)
theorem d_Mod_timeOfGlobal_1 : decode prog_13_method_46_code 1 = .ok (.getfield 159, 3) := id_Mod_timeOfGlobal_0 (1, .getfield 159, 3) (List.mem_of_getElem? (i := 1) rfl)
theorem d_Mod_timeOfGlobal_4 : decode prog_13_method_46_code 4 = .ok (.iconst 1, 1) := id_Mod_timeOfGlobal_0 (4, .iconst 1, 1) (List.mem_of_getElem? (i := 2) rfl)
theorem d_Mod_timeOfGlobal_5 : decode prog_13_method_46_code 5 = .ok (.iadd, 1) := id_Mod_timeOfGlobal_0 (5, .iadd, 1) (List.mem_of_getElem? (i := 3) rfl)
theorem d_Mod_timeOfGlobal_6 : decode prog_13_method_46_code 6 = .ok (.istore_n 2, 1) := id_Mod_timeOfGlobal_0 (6, .istore_n 2, 1) (List.mem_of_getElem? (i := 4) rfl)
theorem d_Mod_timeOfGlobal_7 : decode prog_13_method_46_code 7 = .ok (.iconst 0, 1) := id_Mod_timeOfGlobal_0 (7, .iconst 0, 1) (List.mem_of_getElem? (i := 5) rfl)
theorem d_Mod_timeOfGlobal_8 : decode prog_13_method_46_code 8 = .ok (.istore_n 3, 1) := id_Mod_timeOfGlobal_0 (8, .istore_n 3, 1) (List.mem_of_getElem? (i := 6) rfl)
theorem d_Mod_timeOfGlobal_9 : decode prog_13_method_46_code 9 = .ok (.iconst 0, 1) := id_Mod_timeOfGlobal_0 (9, .iconst 0, 1) (List.mem_of_getElem? (i := 7) rfl)
theorem d_Mod_timeOfGlobal_10 : decode prog_13_method_46_code 10 = .ok (.istore 4, 2) := id_Mod_timeOfGlobal_0 (10, .istore 4, 2) (List.mem_of_getElem? (i := 8) rfl)
theorem d_Mod_timeOfGlobal_12 : decode prog_13_method_46_code 12 = .ok (.iload 4, 2) := id_Mod_timeOfGlobal_0 (12, .iload 4, 2) (List.mem_of_getElem? (i := 9) rfl)
theorem d_Mod_timeOfGlobal_14 : decode prog_13_method_46_code 14 = .ok (.aload_n 0, 1) := id_Mod_timeOfGlobal_0 (14, .aload_n 0, 1) (List.mem_of_getElem? (i := 10) rfl)
theorem d_Mod_timeOfGlobal_15 : decode prog_13_method_46_code 15 = .ok (.getfield 7, 3) := id_Mod_timeOfGlobal_0 (15, .getfield 7, 3) (List.mem_of_getElem? (i := 11) rfl)
theorem d_Mod_timeOfGlobal_18 : decode prog_13_method_46_code 18 = .ok (.if_icmp .ge (324), 3) := id_Mod_timeOfGlobal_0 (18, .if_icmp .ge (324), 3) (List.mem_of_getElem? (i := 12) rfl)
theorem d_Mod_timeOfGlobal_21 : decode prog_13_method_46_code 21 = .ok (.aload_n 0, 1) := id_Mod_timeOfGlobal_0 (21, .aload_n 0, 1) (List.mem_of_getElem? (i := 13) rfl)
theorem d_Mod_timeOfGlobal_22 : decode prog_13_method_46_code 22 = .ok (.getfield 111, 3) := id_Mod_timeOfGlobal_0 (22, .getfield 111, 3) (List.mem_of_getElem? (i := 14) rfl)
theorem d_Mod_timeOfGlobal_25 : decode prog_13_method_46_code 25 = .ok (.iload 4, 2) := id_Mod_timeOfGlobal_0 (25, .iload 4, 2) (List.mem_of_getElem? (i := 15) rfl)
theorem d_Mod_timeOfGlobal_27 : decode prog_13_method_46_code 27 = .ok (.baload, 1) := id_Mod_timeOfGlobal_0 (27, .baload, 1) (List.mem_of_getElem? (i := 16) rfl)
theorem d_Mod_timeOfGlobal_28 : decode prog_13_method_46_code 28 = .ok (.ifCond .ne (6), 3) := id_Mod_timeOfGlobal_0 (28, .ifCond .ne (6), 3) (List.mem_of_getElem? (i := 17) rfl)
theorem d_Mod_timeOfGlobal_31 : decode prog_13_method_46_code 31 = .ok (.goto (305), 3) := id_Mod_timeOfGlobal_0 (31, .goto (305), 3) (List.mem_of_getElem? (i := 18) rfl)
theorem d_Mod_timeOfGlobal_34 : decode prog_13_method_46_code 34 = .ok (.iload_n 3, 1) := id_Mod_timeOfGlobal_0 (34, .iload_n 3, 1) (List.mem_of_getElem? (i := 19) rfl)
theorem d_Mod_timeOfGlobal_35 : decode prog_13_method_46_code 35 = .ok (.aload_n 0, 1) := id_Mod_timeOfGlobal_0 (35, .aload_n 0, 1) (List.mem_of_getElem? (i := 20) rfl)
theorem d_Mod_timeOfGlobal_36 : decode prog_13_method_46_code 36 = .ok (.getfield 220, 3) := id_Mod_timeOfGlobal_0 (36, .getfield 220, 3) (List.mem_of_getElem? (i := 21) rfl)
theorem d_Mod_timeOfGlobal_39 : decode prog_13_method_46_code 39 = .ok (.bipush (53), 2) := id_Mod_timeOfGlobal_0 (39, .bipush (53), 2) (List.mem_of_getElem? (i := 22) rfl)
theorem d_Mod_timeOfGlobal_41 : decode prog_13_method_46_code 41 = .ok (.if_icmp .le (17), 3) := id_Mod_timeOfGlobal_0 (41, .if_icmp .le (17), 3) (List.mem_of_getElem? (i := 23) rfl)
def it_Mod_timeOfGlobal_1 : List (Nat × ClassFile.Instr × Nat) := [(44, .aload_n 0, 1), (45, .iload_n 1, 1), (46, .iload 4, 2), (48, .invokevirtual 319, 3), (51, .ifCond .eq (7), 3), (54, .iconst 1, 1), (55, .goto (4), 3), (58, .iconst 0, 1), (59, .iadd, 1), (60, .istore_n 3, 1), (61, .aload_n 0, 1), (62, .iload_n 1, 1), (63, .iload 4, 2), (65, .invokevirtual 316, 3), (68, .bipush (8), 2), (70, .idiv, 1), (71, .istore 5, 2), (73, .aload_n 0, 1), (74, .iload_n 1, 1), (75, .iload 4, 2), (77, .invokevirtual 322, 3), (80, .ifCond .eq (71), 3), (83, .iconst 0, 1), (84, .istore 6, 2)]
theorem id_Mod_timeOfGlobal_1 : ∀ q ∈ it_Mod_timeOfGlobal_1, decode prog_13_method_46_code q.1 = .ok q.2 := by decide +kernel
theorem d_Mod_timeOfGlobal_44 : decode prog_13_method_46_code 44 = .ok (.aload_n 0, 1) := id_Mod_timeOfGlobal_1 (44, .aload_n 0, 1) (List.mem_of_getElem? (i := 0) rfl)
theorem d_Mod_timeOfGlobal_45 : decode prog_13_method_46_code 45 = .ok (.iload_n 1, 1) := id_Mod_timeOfGlobal_1 (45, .iload_n 1, 1) (List.mem_of_getElem? (i := 1) rfl)
theorem d_Mod_timeOfGlobal_46 : decode prog_13_method_46_code 46 = .ok (.iload 4, 2) := id_Mod_timeOfGlobal_1 (46, .iload 4, 2) (List.mem_of_getElem? (i := 2) rfl)
theorem d_Mod_timeOfGlobal_48 : decode prog_13_method_46_code 48 = .ok (.invokevirtual 319, 3) := id_Mod_timeOfGlobal_1 (48, .invokevirtual 319, 3) (List.mem_of_getElem? (i := 3) rfl)
theorem d_Mod_timeOfGlobal_51 : decode prog_13_method_46_code 51 = .ok (.ifCond .eq (7), 3) := id_Mod_timeOfGlobal_1 (51, .ifCond .eq (7), 3) (List.mem_of_getElem? (i := 4) rfl)
theorem d_Mod_timeOfGlobal_54 : decode prog_13_method_46_code 54 = .ok (.iconst 1, 1) := id_Mod_timeOfGlobal_1 (54, .iconst 1, 1) (List.mem_of_getElem? (i := 5) rfl)
theorem d_Mod_timeOfGlobal_55 : decode prog_13_method_46_code 55 = .ok (.goto (4), 3) := id_Mod_timeOfGlobal_1 (55, .goto (4), 3) (List.mem_of_getElem? (i := 6) rfl)
theorem d_Mod_timeOfGlobal_58 : decode prog_13_method_46_code 58 = .ok (.iconst 0, 1) := id_Mod_timeOfGlobal_1 (58, .iconst 0, 1) (List.mem_of_getElem? (i := 7) rfl)
theorem d_Mod_timeOfGlobal_59 : decode prog_13_method_46_code 59 = .ok (.iadd, 1) := id_Mod_timeOfGlobal_1 (59, .iadd, 1) (List.mem_of_getElem? (i := 8) rfl)
theorem d_Mod_timeOfGlobal_60 : decode prog_13_method_46_code 60 = .ok (.istore_n 3, 1) := id_Mod_timeOfGlobal_1 (60, .istore_n 3, 1) (List.mem_of_getElem? (i := 9) rfl)
theorem d_Mod_timeOfGlobal_61 : decode prog_13_method_46_code 61 = .ok (.aload_n 0, 1) := id_Mod_timeOfGlobal_1 (61, .aload_n 0, 1) (List.mem_of_getElem? (i := 10) rfl)
theorem d_Mod_timeOfGlobal_62 : decode prog_13_method_46_code 62 = .ok (.iload_n 1, 1) := id_Mod_timeOfGlobal_1 (62, .iload_n 1, 1) (List.mem_of_getElem? (i := 11) rfl)
theorem d_Mod_timeOfGlobal_63 : decode prog_13_method_46_code 63 = .ok (.iload 4, 2) := id_Mod_timeOfGlobal_1 (63, .iload 4, 2) (List.mem_of_getElem? (i := 12) rfl)
theorem d_Mod_timeOfGlobal_65 : decode prog_13_method_46_code 65 = .ok (.invokevirtual 316, 3) := id_Mod_timeOfGlobal_1 (65, .invokevirtual 316, 3) (List.mem_of_getElem? (i := 13) rfl)
theorem d_Mod_timeOfGlobal_68 : decode prog_13_method_46_code 68 = .ok (.bipush (8), 2) := id_Mod_timeOfGlobal_1 (68, .bipush (8), 2) (List.mem_of_getElem? (i := 14) rfl)
theorem d_Mod_timeOfGlobal_70 : decode prog_13_method_46_code 70 = .ok (.idiv, 1) := id_Mod_timeOfGlobal_1 (70, .idiv, 1) (List.mem_of_getElem? (i := 15) rfl)
theorem d_Mod_timeOfGlobal_71 : decode prog_13_method_46_code 71 = .ok (.istore 5, 2) := id_Mod_timeOfGlobal_1 (71, .istore 5, 2) (List.mem_of_getElem? (i := 16) rfl)
theorem d_Mod_timeOfGlobal_73 : decode prog_13_method_46_code 73 = .ok (.aload_n 0, 1) := id_Mod_timeOfGlobal_1 (73, .aload_n 0, 1) (List.mem_of_getElem? (i := 17) rfl)
theorem d_Mod_timeOfGlobal_74 : decode prog_13_method_46_code 74 = .ok (.iload_n 1, 1) := id_Mod_timeOfGlobal_1 (74, .iload_n 1, 1) (List.mem_of_getElem? (i := 18) rfl)
theorem d_Mod_timeOfGlobal_75 : decode prog_13_method_46_code 75 = .ok (.iload 4, 2) := id_Mod_timeOfGlobal_1 (75, .iload 4, 2) (List.mem_of_getElem? (i := 19) rfl)
theorem d_Mod_timeOfGlobal_77 : decode prog_13_method_46_code 77 = .ok (.invokevirtual 322, 3) := id_Mod_timeOfGlobal_1 (77, .invokevirtual 322, 3) (List.mem_of_getElem? (i := 20) rfl)
theorem d_Mod_timeOfGlobal_80 : decode prog_13_method_46_code 80 = .ok (.ifCond .eq (71), 3) := id_Mod_timeOfGlobal_1 (80, .ifCond .eq (71), 3) (List.mem_of_getElem? (i := 21) rfl)
theorem d_Mod_timeOfGlobal_83 : decode prog_13_method_46_code 83 = .ok (.iconst 0, 1) := id_Mod_timeOfGlobal_1 (83, .iconst 0, 1) (List.mem_of_getElem? (i := 22) rfl)
theorem d_Mod_timeOfGlobal_84 : decode prog_13_method_46_code 84 = .ok (.istore 6, 2) := id_Mod_timeOfGlobal_1 (84, .istore 6, 2) (List.mem_of_getElem? (i := 23) rfl)
def it_Mod_timeOfGlobal_2 : List (Nat × ClassFile.Instr × Nat) := [(86, .iload 6, 2), (88, .iload 4, 2), (90, .if_icmp .ge (58), 3), (93, .aload_n 0, 1), (94, .getfield 105, 3), (97, .iload 4, 2), (99, .aload_n 0, 1), (100, .getfield 111, 3), (103, .iload 6, 2), (105, .baload, 1), (106, .ifCond .eq (28), 3), (109, .aload_n 0, 1), (110, .iload_n 1, 1), (111, .iload 6, 2), (113, .invokevirtual 316, 3), (116, .bipush (8), 2), (118, .idiv, 1), (119, .iload 5, 2), (121, .if_icmp .ne (13), 3), (124, .aload_n 0, 1), (125, .getfield 105, 3), (128, .iload 6, 2), (130, .iaload, 1), (131, .goto (10), 3)]
theorem id_Mod_timeOfGlobal_2 : ∀ q ∈ it_Mod_timeOfGlobal_2, decode prog_13_method_46_code q.1 = .ok q.2 := by decide +kernel
theorem d_Mod_timeOfGlobal_86 : decode prog_13_method_46_code 86 = .ok (.iload 6, 2) := id_Mod_timeOfGlobal_2 (86, .iload 6, 2) (List.mem_of_getElem? (i := 0) rfl)
theorem d_Mod_timeOfGlobal_88 : decode prog_13_method_46_code 88 = .ok (.iload 4, 2) := id_Mod_timeOfGlobal_2 (88, .iload 4, 2) (List.mem_of_getElem? (i := 1) rfl)
theorem d_Mod_timeOfGlobal_90 : decode prog_13_method_46_code 90 = .ok (.if_icmp .ge (58), 3) := id_Mod_timeOfGlobal_2 (90, .if_icmp .ge (58), 3) (List.mem_of_getElem? (i := 2) rfl)
theorem d_Mod_timeOfGlobal_93 : decode prog_13_method_46_code 93 = .ok (.aload_n 0, 1) := id_Mod_timeOfGlobal_2 (93, .aload_n 0, 1) (List.mem_of_getElem? (i := 3) rfl)
theorem d_Mod_timeOfGlobal_94 : decode prog_13_method_46_code 94 = .ok (.getfield 105, 3) := id_Mod_timeOfGlobal_2 (94, .getfield 105, 3) (List.mem_of_getElem? (i := 4) rfl)
theorem d_Mod_timeOfGlobal_97 : decode prog_13_method_46_code 97 = .ok (.iload 4, 2) := id_Mod_timeOfGlobal_2 (97, .iload 4, 2) (List.mem_of_getElem? (i := 5) rfl)
theorem d_Mod_timeOfGlobal_99 : decode prog_13_method_46_code 99 = .ok (.aload_n 0, 1) := id_Mod_timeOfGlobal_2 (99, .aload_n 0, 1) (List.mem_of_getElem? (i := 6) rfl)
theorem d_Mod_timeOfGlobal_100 : decode prog_13_method_46_code 100 = .ok (.getfield 111, 3) := id_Mod_timeOfGlobal_2 (100, .getfield 111, 3) (List.mem_of_getElem? (i := 7) rfl)
theorem d_Mod_timeOfGlobal_103 : decode prog_13_method_46_code 103 = .ok (.iload 6, 2) := id_Mod_timeOfGlobal_2 (103, .iload 6, 2) (List.mem_of_getElem? (i := 8) rfl)
theorem d_Mod_timeOfGlobal_105 : decode prog_13_method_46_code 105 = .ok (.baload, 1) := id_Mod_timeOfGlobal_2 (105, .baload, 1) (List.mem_of_getElem? (i := 9) rfl)
theorem d_Mod_timeOfGlobal_106 : decode prog_13_method_46_code 106 = .ok (.ifCond .eq (28), 3) := id_Mod_timeOfGlobal_2 (106, .ifCond .eq (28), 3) (List.mem_of_getElem? (i := 10) rfl)
theorem d_Mod_timeOfGlobal_109 : decode prog_13_method_46_code 109 = .ok (.aload_n 0, 1) := id_Mod_timeOfGlobal_2 (109, .aload_n 0, 1) (List.mem_of_getElem? (i := 11) rfl)
theorem d_Mod_timeOfGlobal_110 : decode prog_13_method_46_code 110 = .ok (.iload_n 1, 1) := id_Mod_timeOfGlobal_2 (110, .iload_n 1, 1) (List.mem_of_getElem? (i := 12) rfl)
theorem d_Mod_timeOfGlobal_111 : decode prog_13_method_46_code 111 = .ok (.iload 6, 2) := id_Mod_timeOfGlobal_2 (111, .iload 6, 2) (List.mem_of_getElem? (i := 13) rfl)
theorem d_Mod_timeOfGlobal_113 : decode prog_13_method_46_code 113 = .ok (.invokevirtual 316, 3) := id_Mod_timeOfGlobal_2 (113, .invokevirtual 316, 3) (List.mem_of_getElem? (i := 14) rfl)
theorem d_Mod_timeOfGlobal_116 : decode prog_13_method_46_code 116 = .ok (.bipush (8), 2) := id_Mod_timeOfGlobal_2 (116, .bipush (8), 2) (List.mem_of_getElem? (i := 15) rfl)
theorem d_Mod_timeOfGlobal_118 : decode prog_13_method_46_code 118 = .ok (.idiv, 1) := id_Mod_timeOfGlobal_2 (118, .idiv, 1) (List.mem_of_getElem? (i := 16) rfl)
theorem d_Mod_timeOfGlobal_119 : decode prog_13_method_46_code 119 = .ok (.iload 5, 2) := id_Mod_timeOfGlobal_2 (119, .iload 5, 2) (List.mem_of_getElem? (i := 17) rfl)
theorem d_Mod_timeOfGlobal_121 : decode prog_13_method_46_code 121 = .ok (.if_icmp .ne (13), 3) := id_Mod_timeOfGlobal_2 (121, .if_icmp .ne (13), 3) (List.mem_of_getElem? (i := 18) rfl)
theorem d_Mod_timeOfGlobal_124 : decode prog_13_method_46_code 124 = .ok (.aload_n 0, 1) := id_Mod_timeOfGlobal_2 (124, .aload_n 0, 1) (List.mem_of_getElem? (i := 19) rfl)
theorem d_Mod_timeOfGlobal_125 : decode prog_13_method_46_code 125 = .ok (.getfield 105, 3) := id_Mod_timeOfGlobal_2 (125, .getfield 105, 3) (List.mem_of_getElem? (i := 20) rfl)
theorem d_Mod_timeOfGlobal_128 : decode prog_13_method_46_code 128 = .ok (.iload 6, 2) := id_Mod_timeOfGlobal_2 (128, .iload 6, 2) (List.mem_of_getElem? (i := 21) rfl)
theorem d_Mod_timeOfGlobal_130 : decode prog_13_method_46_code 130 = .ok (.iaload, 1) := id_Mod_timeOfGlobal_2 (130, .iaload, 1) (List.mem_of_getElem? (i := 22) rfl)
theorem d_Mod_timeOfGlobal_131 : decode prog_13_method_46_code 131 = .ok (.goto (10), 3) := id_Mod_timeOfGlobal_2 (131, .goto (10), 3) (List.mem_of_getElem? (i := 23) rfl)
def it_Mod_timeOfGlobal_3 : List (Nat × ClassFile.Instr × Nat) := [(134, .aload_n 0, 1), (135, .getfield 105, 3), (138, .iload 4, 2), (140, .iaload, 1), (141, .iastore, 1), (142, .iinc 6 (1), 3), (145, .goto (-59), 3), (148, .goto (188), 3), (151, .iload 5, 2), (153, .aload_n 0, 1), (154, .getfield 22, 3), (157, .irem, 1), (158, .istore 6, 2), (160, .iconst 4, 1), (161, .iload 6, 2), (163, .imul, 1), (164, .iload 5, 2), (166, .aload_n 0, 1), (167, .getfield 22, 3), (170, .idiv, 1), (171, .iconst 4, 1), (172, .irem, 1), (173, .iadd, 1), (174, .istore 7, 2)]
theorem id_Mod_timeOfGlobal_3 : ∀ q ∈ it_Mod_timeOfGlobal_3, decode prog_13_method_46_code q.1 = .ok q.2 := by decide +kernel
theorem d_Mod_timeOfGlobal_134 : decode prog_13_method_46_code 134 = .ok (.aload_n 0, 1) := id_Mod_timeOfGlobal_3 (134, .aload_n 0, 1) (List.mem_of_getElem? (i := 0) rfl)
theorem d_Mod_timeOfGlobal_135 : decode prog_13_method_46_code 135 = .ok (.getfield 105, 3) := id_Mod_timeOfGlobal_3 (135, .getfield 105, 3) (List.mem_of_getElem? (i := 1) rfl)
theorem d_Mod_timeOfGlobal_138 : decode prog_13_method_46_code 138 = .ok (.iload 4, 2) := id_Mod_timeOfGlobal_3 (138, .iload 4, 2) (List.mem_of_getElem? (i := 2) rfl)
theorem d_Mod_timeOfGlobal_140 : decode prog_13_method_46_code 140 = .ok (.iaload, 1) := id_Mod_timeOfGlobal_3 (140, .iaload, 1) (List.mem_of_getElem? (i := 3) rfl)
theorem d_Mod_timeOfGlobal_141 : decode prog_13_method_46_code 141 = .ok (.iastore, 1) := id_Mod_timeOfGlobal_3 (141, .iastore, 1) (List.mem_of_getElem? (i := 4) rfl)
theorem d_Mod_timeOfGlobal_142 : decode prog_13_method_46_code 142 = .ok (.iinc 6 (1), 3) := id_Mod_timeOfGlobal_3 (142, .iinc 6 (1), 3) (List.mem_of_getElem? (i := 5) rfl)
theorem d_Mod_timeOfGlobal_145 : decode prog_13_method_46_code 145 = .ok (.goto (-59), 3) := id_Mod_timeOfGlobal_3 (145, .goto (-59), 3) (List.mem_of_getElem? (i := 6) rfl)
theorem d_Mod_timeOfGlobal_148 : decode prog_13_method_46_code 148 = .ok (.goto (188), 3) := id_Mod_timeOfGlobal_3 (148, .goto (188), 3) (List.mem_of_getElem? (i := 7) rfl)
theorem d_Mod_timeOfGlobal_151 : decode prog_13_method_46_code 151 = .ok (.iload 5, 2) := id_Mod_timeOfGlobal_3 (151, .iload 5, 2) (List.mem_of_getElem? (i := 8) rfl)
theorem d_Mod_timeOfGlobal_153 : decode prog_13_method_46_code 153 = .ok (.aload_n 0, 1) := id_Mod_timeOfGlobal_3 (153, .aload_n 0, 1) (List.mem_of_getElem? (i := 9) rfl)
theorem d_Mod_timeOfGlobal_154 : decode prog_13_method_46_code 154 = .ok (.getfield 22, 3) := id_Mod_timeOfGlobal_3 (154, .getfield 22, 3) (List.mem_of_getElem? (i := 10) rfl)
theorem d_Mod_timeOfGlobal_157 : decode prog_13_method_46_code 157 = .ok (.irem, 1) := id_Mod_timeOfGlobal_3 (157, .irem, 1) (List.mem_of_getElem? (i := 11) rfl)
theorem d_Mod_timeOfGlobal_158 : decode prog_13_method_46_code 158 = .ok (.istore 6, 2) := id_Mod_timeOfGlobal_3 (158, .istore 6, 2) (List.mem_of_getElem? (i := 12) rfl)
theorem d_Mod_timeOfGlobal_160 : decode prog_13_method_46_code 160 = .ok (.iconst 4, 1) := id_Mod_timeOfGlobal_3 (160, .iconst 4, 1) (List.mem_of_getElem? (i := 13) rfl)
theorem d_Mod_timeOfGlobal_161 : decode prog_13_method_46_code 161 = .ok (.iload 6, 2) := id_Mod_timeOfGlobal_3 (161, .iload 6, 2) (List.mem_of_getElem? (i := 14) rfl)
theorem d_Mod_timeOfGlobal_163 : decode prog_13_method_46_code 163 = .ok (.imul, 1) := id_Mod_timeOfGlobal_3 (163, .imul, 1) (List.mem_of_getElem? (i := 15) rfl)
theorem d_Mod_timeOfGlobal_164 : decode prog_13_method_46_code 164 = .ok (.iload 5, 2) := id_Mod_timeOfGlobal_3 (164, .iload 5, 2) (List.mem_of_getElem? (i := 16) rfl)
theorem d_Mod_timeOfGlobal_166 : decode prog_13_method_46_code 166 = .ok (.aload_n 0, 1) := id_Mod_timeOfGlobal_3 (166, .aload_n 0, 1) (List.mem_of_getElem? (i := 17) rfl)
theorem d_Mod_timeOfGlobal_167 : decode prog_13_method_46_code 167 = .ok (.getfield 22, 3) := id_Mod_timeOfGlobal_3 (167, .getfield 22, 3) (List.mem_of_getElem? (i := 18) rfl)
theorem d_Mod_timeOfGlobal_170 : decode prog_13_method_46_code 170 = .ok (.idiv, 1) := id_Mod_timeOfGlobal_3 (170, .idiv, 1) (List.mem_of_getElem? (i := 19) rfl)
theorem d_Mod_timeOfGlobal_171 : decode prog_13_method_46_code 171 = .ok (.iconst 4, 1) := id_Mod_timeOfGlobal_3 (171, .iconst 4, 1) (List.mem_of_getElem? (i := 20) rfl)
theorem d_Mod_timeOfGlobal_172 : decode prog_13_method_46_code 172 = .ok (.irem, 1) := id_Mod_timeOfGlobal_3 (172, .irem, 1) (List.mem_of_getElem? (i := 21) rfl)
theorem d_Mod_timeOfGlobal_173 : decode prog_13_method_46_code 173 = .ok (.iadd, 1) := id_Mod_timeOfGlobal_3 (173, .iadd, 1) (List.mem_of_getElem? (i := 22) rfl)
theorem d_Mod_timeOfGlobal_174 : decode prog_13_method_46_code 174 = .ok (.istore 7, 2) := id_Mod_timeOfGlobal_3 (174, .istore 7, 2) (List.mem_of_getElem? (i := 23) rfl)
def it_Mod_timeOfGlobal_4 : List (Nat × ClassFile.Instr × Nat) := [(176, .aload_n 0, 1), (177, .getfield 39, 3), (180, .iload 6, 2), (182, .iaload, 1), (183, .aload_n 0, 1), (184, .getfield 159, 3), (187, .if_icmp .le (13), 3), (190, .aload_n 0, 1), (191, .getfield 39, 3), (194, .iload 6, 2), (196, .iaload, 1), (197, .goto (7), 3), (200, .aload_n 0, 1), (201, .getfield 159, 3), (204, .istore 8, 2), (206, .aload_n 0, 1), (207, .getfield 36, 3), (210, .iload 7, 2), (212, .iaload, 1), (213, .iload 5, 2), (215, .if_icmp .ne (7), 3), (218, .iconst 1, 1), (219, .goto (4), 3), (222, .iconst 0, 1)]
theorem id_Mod_timeOfGlobal_4 : ∀ q ∈ it_Mod_timeOfGlobal_4, decode prog_13_method_46_code q.1 = .ok q.2 := by decide +kernel
theorem d_Mod_timeOfGlobal_176 : decode prog_13_method_46_code 176 = .ok (.aload_n 0, 1) := id_Mod_timeOfGlobal_4 (176, .aload_n 0, 1) (List.mem_of_getElem? (i := 0) rfl)
theorem d_Mod_timeOfGlobal_177 : decode prog_13_method_46_code 177 = .ok (.getfield 39, 3) := id_Mod_timeOfGlobal_4 (177, .getfield 39, 3) (List.mem_of_getElem? (i := 1) rfl)
theorem d_Mod_timeOfGlobal_180 : decode prog_13_method_46_code 180 = .ok (.iload 6, 2) := id_Mod_timeOfGlobal_4 (180, .iload 6, 2) (List.mem_of_getElem? (i := 2) rfl)
theorem d_Mod_timeOfGlobal_182 : decode prog_13_method_46_code 182 = .ok (.iaload, 1) := id_Mod_timeOfGlobal_4 (182, .iaload, 1) (List.mem_of_getElem? (i := 3) rfl)
theorem d_Mod_timeOfGlobal_183 : decode prog_13_method_46_code 183 = .ok (.aload_n 0, 1) := id_Mod_timeOfGlobal_4 (183, .aload_n 0, 1) (List.mem_of_getElem? (i := 4) rfl)
theorem d_Mod_timeOfGlobal_184 : decode prog_13_method_46_code 184 = .ok (.getfield 159, 3) := id_Mod_timeOfGlobal_4 (184, .getfield 159, 3) (List.mem_of_getElem? (i := 5) rfl)
theorem d_Mod_timeOfGlobal_187 : decode prog_13_method_46_code 187 = .ok (.if_icmp .le (13), 3) := id_Mod_timeOfGlobal_4 (187, .if_icmp .le (13), 3) (List.mem_of_getElem? (i := 6) rfl)
theorem d_Mod_timeOfGlobal_190 : decode prog_13_method_46_code 190 = .ok (.aload_n 0, 1) := id_Mod_timeOfGlobal_4 (190, .aload_n 0, 1) (List.mem_of_getElem? (i := 7) rfl)
theorem d_Mod_timeOfGlobal_191 : decode prog_13_method_46_code 191 = .ok (.getfield 39, 3) := id_Mod_timeOfGlobal_4 (191, .getfield 39, 3) (List.mem_of_getElem? (i := 8) rfl)
theorem d_Mod_timeOfGlobal_194 : decode prog_13_method_46_code 194 = .ok (.iload 6, 2) := id_Mod_timeOfGlobal_4 (194, .iload 6, 2) (List.mem_of_getElem? (i := 9) rfl)
theorem d_Mod_timeOfGlobal_196 : decode prog_13_method_46_code 196 = .ok (.iaload, 1) := id_Mod_timeOfGlobal_4 (196, .iaload, 1) (List.mem_of_getElem? (i := 10) rfl)
theorem d_Mod_timeOfGlobal_197 : decode prog_13_method_46_code 197 = .ok (.goto (7), 3) := id_Mod_timeOfGlobal_4 (197, .goto (7), 3) (List.mem_of_getElem? (i := 11) rfl)
theorem d_Mod_timeOfGlobal_200 : decode prog_13_method_46_code 200 = .ok (.aload_n 0, 1) := id_Mod_timeOfGlobal_4 (200, .aload_n 0, 1) (List.mem_of_getElem? (i := 12) rfl)
theorem d_Mod_timeOfGlobal_201 : decode prog_13_method_46_code 201 = .ok (.getfield 159, 3) := id_Mod_timeOfGlobal_4 (201, .getfield 159, 3) (List.mem_of_getElem? (i := 13) rfl)
theorem d_Mod_timeOfGlobal_204 : decode prog_13_method_46_code 204 = .ok (.istore 8, 2) := id_Mod_timeOfGlobal_4 (204, .istore 8, 2) (List.mem_of_getElem? (i := 14) rfl)
theorem d_Mod_timeOfGlobal_206 : decode prog_13_method_46_code 206 = .ok (.aload_n 0, 1) := id_Mod_timeOfGlobal_4 (206, .aload_n 0, 1) (List.mem_of_getElem? (i := 15) rfl)
theorem d_Mod_timeOfGlobal_207 : decode prog_13_method_46_code 207 = .ok (.getfield 36, 3) := id_Mod_timeOfGlobal_4 (207, .getfield 36, 3) (List.mem_of_getElem? (i := 16) rfl)
theorem d_Mod_timeOfGlobal_210 : decode prog_13_method_46_code 210 = .ok (.iload 7, 2) := id_Mod_timeOfGlobal_4 (210, .iload 7, 2) (List.mem_of_getElem? (i := 17) rfl)
theorem d_Mod_timeOfGlobal_212 : decode prog_13_method_46_code 212 = .ok (.iaload, 1) := id_Mod_timeOfGlobal_4 (212, .iaload, 1) (List.mem_of_getElem? (i := 18) rfl)
theorem d_Mod_timeOfGlobal_213 : decode prog_13_method_46_code 213 = .ok (.iload 5, 2) := id_Mod_timeOfGlobal_4 (213, .iload 5, 2) (List.mem_of_getElem? (i := 19) rfl)
theorem d_Mod_timeOfGlobal_215 : decode prog_13_method_46_code 215 = .ok (.if_icmp .ne (7), 3) := id_Mod_timeOfGlobal_4 (215, .if_icmp .ne (7), 3) (List.mem_of_getElem? (i := 20) rfl)
theorem d_Mod_timeOfGlobal_218 : decode prog_13_method_46_code 218 = .ok (.iconst 1, 1) := id_Mod_timeOfGlobal_4 (218, .iconst 1, 1) (List.mem_of_getElem? (i := 21) rfl)
theorem d_Mod_timeOfGlobal_219 : decode prog_13_method_46_code 219 = .ok (.goto (4), 3) := id_Mod_timeOfGlobal_4 (219, .goto (4), 3) (List.mem_of_getElem? (i := 22) rfl)
theorem d_Mod_timeOfGlobal_222 : decode prog_13_method_46_code 222 = .ok (.iconst 0, 1) := id_Mod_timeOfGlobal_4 (222, .iconst 0, 1) (List.mem_of_getElem? (i := 23) rfl)
def it_Mod_timeOfGlobal_5 : List (Nat × ClassFile.Instr × Nat) := [(223, .istore 9, 2), (225, .aload_n 0, 1), (226, .getfield 36, 3), (229, .iload 7, 2), (231, .iload 5, 2), (233, .iastore, 1), (234, .aload_n 0, 1), (235, .dup, 1), (236, .getfield 171, 3), (239, .iload 9, 2), (241, .ifCond .eq (7), 3), (244, .iconst 1, 1), (245, .goto (4), 3), (248, .iconst 0, 1), (249, .iadd, 1), (250, .putfield 171, 3), (253, .aload_n 0, 1), (254, .dup, 1), (255, .getfield 174, 3), (258, .iload 9, 2), (260, .ifCond .eq (7), 3), (263, .iconst 0, 1), (264, .goto (4), 3), (267, .iconst 1, 1)]
theorem id_Mod_timeOfGlobal_5 : ∀ q ∈ it_Mod_timeOfGlobal_5, decode prog_13_method_46_code q.1 = .ok q.2 := by decide +kernel
theorem d_Mod_timeOfGlobal_223 : decode prog_13_method_46_code 223 = .ok (.istore 9, 2) := id_Mod_timeOfGlobal_5 (223, .istore 9, 2) (List.mem_of_getElem? (i := 0) rfl)
theorem d_Mod_timeOfGlobal_225 : decode prog_13_method_46_code 225 = .ok (.aload_n 0, 1) := id_Mod_timeOfGlobal_5 (225, .aload_n 0, 1) (List.mem_of_getElem? (i := 1) rfl)
theorem d_Mod_timeOfGlobal_226 : decode prog_13_method_46_code 226 = .ok (.getfield 36, 3) := id_Mod_timeOfGlobal_5 (226, .getfield 36, 3) (List.mem_of_getElem? (i := 2) rfl)
theorem d_Mod_timeOfGlobal_229 : decode prog_13_method_46_code 229 = .ok (.iload 7, 2) := id_Mod_timeOfGlobal_5 (229, .iload 7, 2) (List.mem_of_getElem? (i := 3) rfl)
theorem d_Mod_timeOfGlobal_231 : decode prog_13_method_46_code 231 = .ok (.iload 5, 2) := id_Mod_timeOfGlobal_5 (231, .iload 5, 2) (List.mem_of_getElem? (i := 4) rfl)
theorem d_Mod_timeOfGlobal_233 : decode prog_13_method_46_code 233 = .ok (.iastore, 1) := id_Mod_timeOfGlobal_5 (233, .iastore, 1) (List.mem_of_getElem? (i := 5) rfl)
theorem d_Mod_timeOfGlobal_234 : decode prog_13_method_46_code 234 = .ok (.aload_n 0, 1) := id_Mod_timeOfGlobal_5 (234, .aload_n 0, 1) (List.mem_of_getElem? (i := 6) rfl)
theorem d_Mod_timeOfGlobal_235 : decode prog_13_method_46_code 235 = .ok (.dup, 1) := id_Mod_timeOfGlobal_5 (235, .dup, 1) (List.mem_of_getElem? (i := 7) rfl)
theorem d_Mod_timeOfGlobal_236 : decode prog_13_method_46_code 236 = .ok (.getfield 171, 3) := id_Mod_timeOfGlobal_5 (236, .getfield 171, 3) (List.mem_of_getElem? (i := 8) rfl)
theorem d_Mod_timeOfGlobal_239 : decode prog_13_method_46_code 239 = .ok (.iload 9, 2) := id_Mod_timeOfGlobal_5 (239, .iload 9, 2) (List.mem_of_getElem? (i := 9) rfl)
theorem d_Mod_timeOfGlobal_241 : decode prog_13_method_46_code 241 = .ok (.ifCond .eq (7), 3) := id_Mod_timeOfGlobal_5 (241, .ifCond .eq (7), 3) (List.mem_of_getElem? (i := 10) rfl)
theorem d_Mod_timeOfGlobal_244 : decode prog_13_method_46_code 244 = .ok (.iconst 1, 1) := id_Mod_timeOfGlobal_5 (244, .iconst 1, 1) (List.mem_of_getElem? (i := 11) rfl)
theorem d_Mod_timeOfGlobal_245 : decode prog_13_method_46_code 245 = .ok (.goto (4), 3) := id_Mod_timeOfGlobal_5 (245, .goto (4), 3) (List.mem_of_getElem? (i := 12) rfl)
theorem d_Mod_timeOfGlobal_248 : decode prog_13_method_46_code 248 = .ok (.iconst 0, 1) := id_Mod_timeOfGlobal_5 (248, .iconst 0, 1) (List.mem_of_getElem? (i := 13) rfl)
theorem d_Mod_timeOfGlobal_249 : decode prog_13_method_46_code 249 = .ok (.iadd, 1) := id_Mod_timeOfGlobal_5 (249, .iadd, 1) (List.mem_of_getElem? (i := 14) rfl)
theorem d_Mod_timeOfGlobal_250 : decode prog_13_method_46_code 250 = .ok (.putfield 171, 3) := id_Mod_timeOfGlobal_5 (250, .putfield 171, 3) (List.mem_of_getElem? (i := 15) rfl)
theorem d_Mod_timeOfGlobal_253 : decode prog_13_method_46_code 253 = .ok (.aload_n 0, 1) := id_Mod_timeOfGlobal_5 (253, .aload_n 0, 1) (List.mem_of_getElem? (i := 16) rfl)
theorem d_Mod_timeOfGlobal_254 : decode prog_13_method_46_code 254 = .ok (.dup, 1) := id_Mod_timeOfGlobal_5 (254, .dup, 1) (List.mem_of_getElem? (i := 17) rfl)
theorem d_Mod_timeOfGlobal_255 : decode prog_13_method_46_code 255 = .ok (.getfield 174, 3) := id_Mod_timeOfGlobal_5 (255, .getfield 174, 3) (List.mem_of_getElem? (i := 18) rfl)
theorem d_Mod_timeOfGlobal_258 : decode prog_13_method_46_code 258 = .ok (.iload 9, 2) := id_Mod_timeOfGlobal_5 (258, .iload 9, 2) (List.mem_of_getElem? (i := 19) rfl)
theorem d_Mod_timeOfGlobal_260 : decode prog_13_method_46_code 260 = .ok (.ifCond .eq (7), 3) := id_Mod_timeOfGlobal_5 (260, .ifCond .eq (7), 3) (List.mem_of_getElem? (i := 20) rfl)
theorem d_Mod_timeOfGlobal_263 : decode prog_13_method_46_code 263 = .ok (.iconst 0, 1) := id_Mod_timeOfGlobal_5 (263, .iconst 0, 1) (List.mem_of_getElem? (i := 21) rfl)
theorem d_Mod_timeOfGlobal_264 : decode prog_13_method_46_code 264 = .ok (.goto (4), 3) := id_Mod_timeOfGlobal_5 (264, .goto (4), 3) (List.mem_of_getElem? (i := 22) rfl)
theorem d_Mod_timeOfGlobal_267 : decode prog_13_method_46_code 267 = .ok (.iconst 1, 1) := id_Mod_timeOfGlobal_5 (267, .iconst 1, 1) (List.mem_of_getElem? (i := 23) rfl)
def it_Mod_timeOfGlobal_6 : List (Nat × ClassFile.Instr × Nat) := [(268, .iadd, 1), (269, .putfield 174, 3), (272, .aload_n 0, 1), (273, .getfield 39, 3), (276, .iload 6, 2), (278, .iload 8, 2), (280, .iload 9, 2), (282, .ifCond .eq (7), 3), (285, .iconst 1, 1), (286, .goto (4), 3), (289, .iconst 5, 1), (290, .iadd, 1), (291, .iastore, 1), (292, .aload_n 0, 1), (293, .getfield 105, 3), (296, .iload 4, 2), (298, .iload 8, 2), (300, .iload 9, 2), (302, .ifCond .eq (7), 3), (305, .iconst 4, 1), (306, .goto (5), 3), (309, .bipush (12), 2), (311, .iadd, 1), (312, .iastore, 1)]
theorem id_Mod_timeOfGlobal_6 : ∀ q ∈ it_Mod_timeOfGlobal_6, decode prog_13_method_46_code q.1 = .ok q.2 := by decide +kernel
theorem d_Mod_timeOfGlobal_268 : decode prog_13_method_46_code 268 = .ok (.iadd, 1) := id_Mod_timeOfGlobal_6 (268, .iadd, 1) (List.mem_of_getElem? (i := 0) rfl)
theorem d_Mod_timeOfGlobal_269 : decode prog_13_method_46_code 269 = .ok (.putfield 174, 3) := id_Mod_timeOfGlobal_6 (269, .putfield 174, 3) (List.mem_of_getElem? (i := 1) rfl)
theorem d_Mod_timeOfGlobal_272 : decode prog_13_method_46_code 272 = .ok (.aload_n 0, 1) := id_Mod_timeOfGlobal_6 (272, .aload_n 0, 1) (List.mem_of_getElem? (i := 2) rfl)
theorem d_Mod_timeOfGlobal_273 : decode prog_13_method_46_code 273 = .ok (.getfield 39, 3) := id_Mod_timeOfGlobal_6 (273, .getfield 39, 3) (List.mem_of_getElem? (i := 3) rfl)
theorem d_Mod_timeOfGlobal_276 : decode prog_13_method_46_code 276 = .ok (.iload 6, 2) := id_Mod_timeOfGlobal_6 (276, .iload 6, 2) (List.mem_of_getElem? (i := 4) rfl)
theorem d_Mod_timeOfGlobal_278 : decode prog_13_method_46_code 278 = .ok (.iload 8, 2) := id_Mod_timeOfGlobal_6 (278, .iload 8, 2) (List.mem_of_getElem? (i := 5) rfl)
theorem d_Mod_timeOfGlobal_280 : decode prog_13_method_46_code 280 = .ok (.iload 9, 2) := id_Mod_timeOfGlobal_6 (280, .iload 9, 2) (List.mem_of_getElem? (i := 6) rfl)
theorem d_Mod_timeOfGlobal_282 : decode prog_13_method_46_code 282 = .ok (.ifCond .eq (7), 3) := id_Mod_timeOfGlobal_6 (282, .ifCond .eq (7), 3) (List.mem_of_getElem? (i := 7) rfl)
theorem d_Mod_timeOfGlobal_285 : decode prog_13_method_46_code 285 = .ok (.iconst 1, 1) := id_Mod_timeOfGlobal_6 (285, .iconst 1, 1) (List.mem_of_getElem? (i := 8) rfl)
theorem d_Mod_timeOfGlobal_286 : decode prog_13_method_46_code 286 = .ok (.goto (4), 3) := id_Mod_timeOfGlobal_6 (286, .goto (4), 3) (List.mem_of_getElem? (i := 9) rfl)
theorem d_Mod_timeOfGlobal_289 : decode prog_13_method_46_code 289 = .ok (.iconst 5, 1) := id_Mod_timeOfGlobal_6 (289, .iconst 5, 1) (List.mem_of_getElem? (i := 10) rfl)
theorem d_Mod_timeOfGlobal_290 : decode prog_13_method_46_code 290 = .ok (.iadd, 1) := id_Mod_timeOfGlobal_6 (290, .iadd, 1) (List.mem_of_getElem? (i := 11) rfl)
theorem d_Mod_timeOfGlobal_291 : decode prog_13_method_46_code 291 = .ok (.iastore, 1) := id_Mod_timeOfGlobal_6 (291, .iastore, 1) (List.mem_of_getElem? (i := 12) rfl)
theorem d_Mod_timeOfGlobal_292 : decode prog_13_method_46_code 292 = .ok (.aload_n 0, 1) := id_Mod_timeOfGlobal_6 (292, .aload_n 0, 1) (List.mem_of_getElem? (i := 13) rfl)
theorem d_Mod_timeOfGlobal_293 : decode prog_13_method_46_code 293 = .ok (.getfield 105, 3) := id_Mod_timeOfGlobal_6 (293, .getfield 105, 3) (List.mem_of_getElem? (i := 14) rfl)
theorem d_Mod_timeOfGlobal_296 : decode prog_13_method_46_code 296 = .ok (.iload 4, 2) := id_Mod_timeOfGlobal_6 (296, .iload 4, 2) (List.mem_of_getElem? (i := 15) rfl)
theorem d_Mod_timeOfGlobal_298 : decode prog_13_method_46_code 298 = .ok (.iload 8, 2) := id_Mod_timeOfGlobal_6 (298, .iload 8, 2) (List.mem_of_getElem? (i := 16) rfl)
theorem d_Mod_timeOfGlobal_300 : decode prog_13_method_46_code 300 = .ok (.iload 9, 2) := id_Mod_timeOfGlobal_6 (300, .iload 9, 2) (List.mem_of_getElem? (i := 17) rfl)
theorem d_Mod_timeOfGlobal_302 : decode prog_13_method_46_code 302 = .ok (.ifCond .eq (7), 3) := id_Mod_timeOfGlobal_6 (302, .ifCond .eq (7), 3) (List.mem_of_getElem? (i := 18) rfl)
theorem d_Mod_timeOfGlobal_305 : decode prog_13_method_46_code 305 = .ok (.iconst 4, 1) := id_Mod_timeOfGlobal_6 (305, .iconst 4, 1) (List.mem_of_getElem? (i := 19) rfl)
theorem d_Mod_timeOfGlobal_306 : decode prog_13_method_46_code 306 = .ok (.goto (5), 3) := id_Mod_timeOfGlobal_6 (306, .goto (5), 3) (List.mem_of_getElem? (i := 20) rfl)
theorem d_Mod_timeOfGlobal_309 : decode prog_13_method_46_code 309 = .ok (.bipush (12), 2) := id_Mod_timeOfGlobal_6 (309, .bipush (12), 2) (List.mem_of_getElem? (i := 21) rfl)
theorem d_Mod_timeOfGlobal_311 : decode prog_13_method_46_code 311 = .ok (.iadd, 1) := id_Mod_timeOfGlobal_6 (311, .iadd, 1) (List.mem_of_getElem? (i := 22) rfl)
theorem d_Mod_timeOfGlobal_312 : decode prog_13_method_46_code 312 = .ok (.iastore, 1) := id_Mod_timeOfGlobal_6 (312, .iastore, 1) (List.mem_of_getElem? (i := 23) rfl)
def it_Mod_timeOfGlobal_7 : List (Nat × ClassFile.Instr × Nat) := [(313, .aload_n 0, 1), (314, .getfield 105, 3), (317, .iload 4, 2), (319, .iaload, 1), (320, .iload_n 2, 1), (321, .if_icmp .le (13), 3), (324, .aload_n 0, 1), (325, .getfield 105, 3), (328, .iload 4, 2), (330, .iaload, 1), (331, .goto (4), 3), (334, .iload_n 2, 1), (335, .istore_n 2, 1), (336, .iinc 4 (1), 3), (339, .goto (-327), 3), (342, .iload_n 2, 1), (343, .aload_n 0, 1), (344, .getfield 159, 3), (347, .isub, 1), (348, .iload_n 3, 1), (349, .iadd, 1), (350, .ireturn, 1)]
theorem id_Mod_timeOfGlobal_7 : ∀ q ∈ it_Mod_timeOfGlobal_7, decode prog_13_method_46_code q.1 = .ok q.2 := by decide +kernel
theorem d_Mod_timeOfGlobal_313 : decode prog_13_method_46_code 313 = .ok (.aload_n 0, 1) := id_Mod_timeOfGlobal_7 (313, .aload_n 0, 1) (List.mem_of_getElem? (i := 0) rfl)
theorem d_Mod_timeOfGlobal_314 : decode prog_13_method_46_code 314 = .ok (.getfield 105, 3) := id_Mod_timeOfGlobal_7 (314, .getfield 105, 3) (List.mem_of_getElem? (i := 1) rfl)
theorem d_Mod_timeOfGlobal_317 : decode prog_13_method_46_code 317 = .ok (.iload 4, 2) := id_Mod_timeOfGlobal_7 (317, .iload 4, 2) (List.mem_of_getElem? (i := 2) rfl)
theorem d_Mod_timeOfGlobal_319 : decode prog_13_method_46_code 319 = .ok (.iaload, 1) := id_Mod_timeOfGlobal_7 (319, .iaload, 1) (List.mem_of_getElem? (i := 3) rfl)
theorem d_Mod_timeOfGlobal_320 : decode prog_13_method_46_code 320 = .ok (.iload_n 2, 1) := id_Mod_timeOfGlobal_7 (320, .iload_n 2, 1) (List.mem_of_getElem? (i := 4) rfl)
theorem d_Mod_timeOfGlobal_321 : decode prog_13_method_46_code 321 = .ok (.if_icmp .le (13), 3) := id_Mod_timeOfGlobal_7 (321, .if_icmp .le (13), 3) (List.mem_of_getElem? (i := 5) rfl)
theorem d_Mod_timeOfGlobal_324 : decode prog_13_method_46_code 324 = .ok (.aload_n 0, 1) := id_Mod_timeOfGlobal_7 (324, .aload_n 0, 1) (List.mem_of_getElem? (i := 6) rfl)
theorem d_Mod_timeOfGlobal_325 : decode prog_13_method_46_code 325 = .ok (.getfield 105, 3) := id_Mod_timeOfGlobal_7 (325, .getfield 105, 3) (List.mem_of_getElem? (i := 7) rfl)
theorem d_Mod_timeOfGlobal_328 : decode prog_13_method_46_code 328 = .ok (.iload 4, 2) := id_Mod_timeOfGlobal_7 (328, .iload 4, 2) (List.mem_of_getElem? (i := 8) rfl)
theorem d_Mod_timeOfGlobal_330 : decode prog_13_method_46_code 330 = .ok (.iaload, 1) := id_Mod_timeOfGlobal_7 (330, .iaload, 1) (List.mem_of_getElem? (i := 9) rfl)
theorem d_Mod_timeOfGlobal_331 : decode prog_13_method_46_code 331 = .ok (.goto (4), 3) := id_Mod_timeOfGlobal_7 (331, .goto (4), 3) (List.mem_of_getElem? (i := 10) rfl)
theorem d_Mod_timeOfGlobal_334 : decode prog_13_method_46_code 334 = .ok (.iload_n 2, 1) := id_Mod_timeOfGlobal_7 (334, .iload_n 2, 1) (List.mem_of_getElem? (i := 11) rfl)
theorem d_Mod_timeOfGlobal_335 : decode prog_13_method_46_code 335 = .ok (.istore_n 2, 1) := id_Mod_timeOfGlobal_7 (335, .istore_n 2, 1) (List.mem_of_getElem? (i := 12) rfl)
theorem d_Mod_timeOfGlobal_336 : decode prog_13_method_46_code 336 = .ok (.iinc 4 (1), 3) := id_Mod_timeOfGlobal_7 (336, .iinc 4 (1), 3) (List.mem_of_getElem? (i := 13) rfl)
theorem d_Mod_timeOfGlobal_339 : decode prog_13_method_46_code 339 = .ok (.goto (-327), 3) := id_Mod_timeOfGlobal_7 (339, .goto (-327), 3) (List.mem_of_getElem? (i := 14) rfl)
theorem d_Mod_timeOfGlobal_342 : decode prog_13_method_46_code 342 = .ok (.iload_n 2, 1) := id_Mod_timeOfGlobal_7 (342, .iload_n 2, 1) (List.mem_of_getElem? (i := 15) rfl)
theorem d_Mod_timeOfGlobal_343 : decode prog_13_method_46_code 343 = .ok (.aload_n 0, 1) := id_Mod_timeOfGlobal_7 (343, .aload_n 0, 1) (List.mem_of_getElem? (i := 16) rfl)
theorem d_Mod_timeOfGlobal_344 : decode prog_13_method_46_code 344 = .ok (.getfield 159, 3) := id_Mod_timeOfGlobal_7 (344, .getfield 159, 3) (List.mem_of_getElem? (i := 17) rfl)
theorem d_Mod_timeOfGlobal_347 : decode prog_13_method_46_code 347 = .ok (.isub, 1) := id_Mod_timeOfGlobal_7 (347, .isub, 1) (List.mem_of_getElem? (i := 18) rfl)
theorem d_Mod_timeOfGlobal_348 : decode prog_13_method_46_code 348 = .ok (.iload_n 3, 1) := id_Mod_timeOfGlobal_7 (348, .iload_n 3, 1) (List.mem_of_getElem? (i := 19) rfl)
theorem d_Mod_timeOfGlobal_349 : decode prog_13_method_46_code 349 = .ok (.iadd, 1) := id_Mod_timeOfGlobal_7 (349, .iadd, 1) (List.mem_of_getElem? (i := 20) rfl)
theorem d_Mod_timeOfGlobal_350 : decode prog_13_method_46_code 350 = .ok (.ireturn, 1) := id_Mod_timeOfGlobal_7 (350, .ireturn, 1) (List.mem_of_getElem? (i := 21) rfl)
theorem wC_Mod_timeOfGlobal : Cond.code ⟨"WarpMillModel", "timeOfGlobal", "(I)I"⟩ prog_13_method_46_code 10 (some .int) ∈ lw_tb := mem_tb 1428 (by decide +kernel) rfl
theorem cw_Mod_timeOfGlobal_Mod_isAgain : cW mi_Mod_timeOfGlobal mi_Mod_isAgain 2 := ⟨wC_Mod_isAgain, wi_Mod, ⟨by decide, by decide, by decide +kernel⟩, by decide, by decide⟩
theorem cw_Mod_timeOfGlobal_Mod_asked : cW mi_Mod_timeOfGlobal mi_Mod_asked 2 := ⟨wC_Mod_asked, wi_Mod, ⟨by decide, by decide, by decide +kernel⟩, by decide, by decide⟩
theorem cw_Mod_timeOfGlobal_Mod_isLineAgain : cW mi_Mod_timeOfGlobal mi_Mod_isLineAgain 2 := ⟨wC_Mod_isLineAgain, wi_Mod, ⟨by decide, by decide, by decide +kernel⟩, by decide, by decide⟩
def b_Mod_timeOfGlobal_141 (F : Nat) (k12 : Nat → Int32 → Int32 → Int32 → Int32 → Hp → Option (Int32 × Hp)) (k86 : Nat → Int32 → Int32 → Int32 → Int32 → Int32 → Int32 → Hp → Option (Int32 × Hp)) (x0 : Nat) (x1 : Int32) (x2 : Int32) (x3 : Int32) (x4 : Int32) (x5 : Int32) (x6 : Int32) (s0 : Nat) (s1 : Int32) (s2 : Int32) (h : Hp) : Option (Int32 × Hp) := gd (hK h s0 = 100) <| ix s1 (hN h s0) fun j_141_2 => pw (sA h s0 j_141_2 s2) fun h_141_3 => k86 x0 x1 x2 x3 x4 x5 (x6 + 1) h_141_3
set_option maxRecDepth 100000 in
set_option maxHeartbeats 4000000 in
theorem e_Mod_timeOfGlobal_141 {G : Gl} (hw : gF G) {h0 : Hp} {F : Nat} {r : Int32} {h' : Hp} {k12 : Nat → Int32 → Int32 → Int32 → Int32 → Hp → Option (Int32 × Hp)} {k86 : Nat → Int32 → Int32 → Int32 → Int32 → Int32 → Int32 → Hp → Option (Int32 × Hp)} (hk12 : ∀ (y0 : Nat) (y1 : Int32) (y2 : Int32) (y3 : Int32) (y4 : Int32) (hh : Hp), k12 y0 y1 y2 y3 y4 hh = some (r, h') → Go G mi_Mod_timeOfGlobal h0 (pI r h') hh 12 [(0, .ref y0), (1, .int y1), (2, .int y2), (3, .int y3), (4, .int y4)] []) (hk86 : ∀ (y0 : Nat) (y1 : Int32) (y2 : Int32) (y3 : Int32) (y4 : Int32) (y5 : Int32) (y6 : Int32) (hh : Hp), k86 y0 y1 y2 y3 y4 y5 y6 hh = some (r, h') → Go G mi_Mod_timeOfGlobal h0 (pI r h') hh 86 [(0, .ref y0), (1, .int y1), (2, .int y2), (3, .int y3), (4, .int y4), (5, .int y5), (6, .int y6)] []) {x0 : Nat} {x1 : Int32} {x2 : Int32} {x3 : Int32} {x4 : Int32} {x5 : Int32} {x6 : Int32} {s0 : Nat} {s1 : Int32} {s2 : Int32} {h : Hp} (hf : b_Mod_timeOfGlobal_141 F k12 k86 x0 x1 x2 x3 x4 x5 x6 s0 s1 s2 h = some (r, h')) : Go G mi_Mod_timeOfGlobal h0 (pI r h') h 141 [(0, .ref x0), (1, .int x1), (2, .int x2), (3, .int x3), (4, .int x4), (5, .int x5), (6, .int x6)] [.int s2, .int s1, .ref s0] := by
  unfold b_Mod_timeOfGlobal_141 at hf
  obtain ⟨k_141, hf⟩ := gd_s hf
  obtain ⟨i_141_2, hf⟩ := ix_s hf
  refine g_iast hw k_141 i_141_2 d_Mod_timeOfGlobal_141 ?_
  have hf := pw_b hf
  refine g_iinc (_ + 1) d_Mod_timeOfGlobal_142 rfl (by rfl) (by decide) ?_
  show Go _ _ _ _ _ _ [(0, _), (1, _), (2, _), (3, _), (4, _), (5, _), (6, _)] _
  refine g_goto 86 d_Mod_timeOfGlobal_145 (by decide) ?_
  exact hk86 _ _ _ _ _ _ _ _ hf
def b_Mod_timeOfGlobal_134 (F : Nat) (k12 : Nat → Int32 → Int32 → Int32 → Int32 → Hp → Option (Int32 × Hp)) (k86 : Nat → Int32 → Int32 → Int32 → Int32 → Int32 → Int32 → Hp → Option (Int32 × Hp)) (x0 : Nat) (x1 : Int32) (x2 : Int32) (x3 : Int32) (x4 : Int32) (x5 : Int32) (x6 : Int32) (s0 : Nat) (s1 : Int32) (h : Hp) : Option (Int32 × Hp) := gd (hK h x0 = 12) <| rq h (hR h 753 x0) 100 fun a_135_2 => ix x4 (hN h a_135_2) fun j_140 => b_Mod_timeOfGlobal_141 F k12 k86 x0 x1 x2 x3 x4 x5 x6 s0 s1 (hA h a_135_2 j_140) h
set_option maxRecDepth 100000 in
set_option maxHeartbeats 4000000 in
theorem e_Mod_timeOfGlobal_134 {G : Gl} (hw : gF G) {h0 : Hp} {F : Nat} {r : Int32} {h' : Hp} {k12 : Nat → Int32 → Int32 → Int32 → Int32 → Hp → Option (Int32 × Hp)} {k86 : Nat → Int32 → Int32 → Int32 → Int32 → Int32 → Int32 → Hp → Option (Int32 × Hp)} (hk12 : ∀ (y0 : Nat) (y1 : Int32) (y2 : Int32) (y3 : Int32) (y4 : Int32) (hh : Hp), k12 y0 y1 y2 y3 y4 hh = some (r, h') → Go G mi_Mod_timeOfGlobal h0 (pI r h') hh 12 [(0, .ref y0), (1, .int y1), (2, .int y2), (3, .int y3), (4, .int y4)] []) (hk86 : ∀ (y0 : Nat) (y1 : Int32) (y2 : Int32) (y3 : Int32) (y4 : Int32) (y5 : Int32) (y6 : Int32) (hh : Hp), k86 y0 y1 y2 y3 y4 y5 y6 hh = some (r, h') → Go G mi_Mod_timeOfGlobal h0 (pI r h') hh 86 [(0, .ref y0), (1, .int y1), (2, .int y2), (3, .int y3), (4, .int y4), (5, .int y5), (6, .int y6)] []) {x0 : Nat} {x1 : Int32} {x2 : Int32} {x3 : Int32} {x4 : Int32} {x5 : Int32} {x6 : Int32} {s0 : Nat} {s1 : Int32} {h : Hp} (hf : b_Mod_timeOfGlobal_134 F k12 k86 x0 x1 x2 x3 x4 x5 x6 s0 s1 h = some (r, h')) : Go G mi_Mod_timeOfGlobal h0 (pI r h') h 134 [(0, .ref x0), (1, .int x1), (2, .int x2), (3, .int x3), (4, .int x4), (5, .int x5), (6, .int x6)] [.int s1, .ref s0] := by
  unfold b_Mod_timeOfGlobal_134 at hf
  refine g_aload_n d_Mod_timeOfGlobal_134 rfl ?_
  obtain ⟨k_135, hf⟩ := gd_s hf
  obtain ⟨a_135_2, e_135_2, k_135_2, hf⟩ := rq_s hf
  refine fgs_Mod_doneAt lf_Mod_105 d_Mod_timeOfGlobal_135 k_135 e_135_2 ?_
  refine g_iload d_Mod_timeOfGlobal_138 rfl ?_
  obtain ⟨i_140, hf⟩ := ix_s hf
  refine g_iald k_135_2 i_140 d_Mod_timeOfGlobal_140 ?_
  have key := e_Mod_timeOfGlobal_141 hw (G := G) (h0 := h0) hk12 hk86 hf
  exact key
def b_Mod_timeOfGlobal_86 (F : Nat) (k12 : Nat → Int32 → Int32 → Int32 → Int32 → Hp → Option (Int32 × Hp)) : Nat → Nat → Int32 → Int32 → Int32 → Int32 → Int32 → Int32 → Hp → Option (Int32 × Hp)
  | 0 => fun _ _ _ _ _ _ _ _ => none
  | n + 1 => fun x0 x1 x2 x3 x4 x5 x6 h => if x4 ≤ x6 then (k12 x0 x1 x2 x3 (x4 + 1) h) else (gd (hK h x0 = 12) <| rq h (hR h 753 x0) 100 fun a_94_2 => rq h (hR h 755 x0) 101 fun a_100 => ix x6 (hN h a_100) fun j_105 => if (hA h a_100 j_105) = 0 then (b_Mod_timeOfGlobal_134 F k12 (b_Mod_timeOfGlobal_86 F k12 n) x0 x1 x2 x3 x4 x5 x6 a_94_2 x4 h) else (cl (f_Mod_asked F x0 x1 x6 h) fun v_113 h_113 => gd (¬ (8 : Int32) = 0) <| if (v_113 / (8 : Int32)) = x5 then (gd (hK h_113 x0 = 12) <| rq h_113 (hR h_113 753 x0) 100 fun a_125_2 => ix x6 (hN h_113 a_125_2) fun j_130 => b_Mod_timeOfGlobal_141 F k12 (b_Mod_timeOfGlobal_86 F k12 n) x0 x1 x2 x3 x4 x5 x6 a_94_2 x4 (hA h_113 a_125_2 j_130) h_113) else (b_Mod_timeOfGlobal_134 F k12 (b_Mod_timeOfGlobal_86 F k12 n) x0 x1 x2 x3 x4 x5 x6 a_94_2 x4 h_113)))
set_option maxRecDepth 100000 in
set_option maxHeartbeats 4000000 in
theorem e_Mod_timeOfGlobal_86 {G : Gl} (hw : gF G) {h0 : Hp} {F : Nat} {r : Int32} {h' : Hp} {k12 : Nat → Int32 → Int32 → Int32 → Int32 → Hp → Option (Int32 × Hp)} (hk12 : ∀ (y0 : Nat) (y1 : Int32) (y2 : Int32) (y3 : Int32) (y4 : Int32) (hh : Hp), k12 y0 y1 y2 y3 y4 hh = some (r, h') → Go G mi_Mod_timeOfGlobal h0 (pI r h') hh 12 [(0, .ref y0), (1, .int y1), (2, .int y2), (3, .int y3), (4, .int y4)] []) : ∀ (n : Nat) (x0 : Nat) (x1 : Int32) (x2 : Int32) (x3 : Int32) (x4 : Int32) (x5 : Int32) (x6 : Int32) (h : Hp), b_Mod_timeOfGlobal_86 F k12 n x0 x1 x2 x3 x4 x5 x6 h = some (r, h') → Go G mi_Mod_timeOfGlobal h0 (pI r h') h 86 [(0, .ref x0), (1, .int x1), (2, .int x2), (3, .int x3), (4, .int x4), (5, .int x5), (6, .int x6)] [] := by
  intro n
  induction n with
  | zero =>
    intro _ _ _ _ _ _ _ _ hf
    exact nm_s hf
  | succ n ih =>
    intro x0 x1 x2 x3 x4 x5 x6 h hf
    unfold b_Mod_timeOfGlobal_86 at hf
    refine g_iload d_Mod_timeOfGlobal_86 rfl ?_
    refine g_iload d_Mod_timeOfGlobal_88 rfl ?_
    refine g_icmp_ge 148 d_Mod_timeOfGlobal_90 (by decide) (fun c_90 => ?_) (fun c_90 => ?_)
    · have hf := ifp hf c_90
      refine g_goto 336 d_Mod_timeOfGlobal_148 (by decide) ?_
      refine g_iinc (_ + 1) d_Mod_timeOfGlobal_336 rfl (by rfl) (by decide) ?_
      show Go _ _ _ _ _ _ [(0, _), (1, _), (2, _), (3, _), (4, _), (5, _), (6, _)] _
      refine g_goto 12 d_Mod_timeOfGlobal_339 (by decide) ?_
      refine Go.locals [0, 1, 2, 3, 4] rfl ?_
      exact hk12 _ _ _ _ _ _ hf
    · have hf := ifn hf c_90
      refine g_aload_n d_Mod_timeOfGlobal_93 rfl ?_
      obtain ⟨k_94, hf⟩ := gd_s hf
      obtain ⟨a_94_2, e_94_2, k_94_2, hf⟩ := rq_s hf
      refine fgs_Mod_doneAt lf_Mod_105 d_Mod_timeOfGlobal_94 k_94 e_94_2 ?_
      refine g_iload d_Mod_timeOfGlobal_97 rfl ?_
      refine g_aload_n d_Mod_timeOfGlobal_99 rfl ?_
      obtain ⟨a_100, e_100, k_100, hf⟩ := rq_s hf
      refine fgs_Mod_does lf_Mod_111 d_Mod_timeOfGlobal_100 k_94 e_100 ?_
      refine g_iload d_Mod_timeOfGlobal_103 rfl ?_
      obtain ⟨i_105, hf⟩ := ix_s hf
      refine g_zald k_100 i_105 d_Mod_timeOfGlobal_105 ?_
      refine g_if_eq 134 d_Mod_timeOfGlobal_106 (by decide) (fun c_106 => ?_) (fun c_106 => ?_)
      · have hf := ifp hf c_106
        have key := e_Mod_timeOfGlobal_134 hw (G := G) (h0 := h0) hk12 (fun _ _ _ _ _ _ _ _ q => ih _ _ _ _ _ _ _ _ q) hf
        exact key
      · have hf := ifn hf c_106
        refine g_aload_n d_Mod_timeOfGlobal_109 rfl ?_
        refine g_iload_n d_Mod_timeOfGlobal_110 rfl ?_
        refine g_iload d_Mod_timeOfGlobal_111 rfl ?_
        obtain ⟨v_113, h_113, e_113, hf⟩ := cl_s hf
        refine g_callV (mz := mi_Mod_asked) (e_Mod_asked e_113) cw_Mod_timeOfGlobal_Mod_asked lm_Mod_316 wI_Mod_asked wV_Mod_asked (ci := 11) k_94 (by decide) rfl rfl d_Mod_timeOfGlobal_113 rfl rfl (by first | exact Nat.le_of_ble_eq_true rfl | simp [cat_rf, Value.category]) (fun r1 h1 hp hro => ?_)
        obtain ⟨rfl, rfl⟩ := hp
        dsimp only [Option.toList_some, Option.toList_none, List.cons_append, List.nil_append]
        refine g_bipush (8) d_Mod_timeOfGlobal_116 (by decide) ?_
        obtain ⟨z_118, hf⟩ := gd_s hf
        refine g_idiv d_Mod_timeOfGlobal_118 z_118 ?_
        refine g_iload d_Mod_timeOfGlobal_119 rfl ?_
        refine g_icmp_ne 134 d_Mod_timeOfGlobal_121 (by decide) (fun c_121 => ?_) (fun c_121 => ?_)
        · have hf := ifn hf c_121
          have key := e_Mod_timeOfGlobal_134 hw (G := G) (h0 := h0) hk12 (fun _ _ _ _ _ _ _ _ q => ih _ _ _ _ _ _ _ _ q) hf
          exact key
        · have hf := ifp hf c_121
          refine g_aload_n d_Mod_timeOfGlobal_124 rfl ?_
          obtain ⟨k_125, hf⟩ := gd_s hf
          obtain ⟨a_125_2, e_125_2, k_125_2, hf⟩ := rq_s hf
          refine fgs_Mod_doneAt lf_Mod_105 d_Mod_timeOfGlobal_125 k_125 e_125_2 ?_
          refine g_iload d_Mod_timeOfGlobal_128 rfl ?_
          obtain ⟨i_130, hf⟩ := ix_s hf
          refine g_iald k_125_2 i_130 d_Mod_timeOfGlobal_130 ?_
          refine g_goto 141 d_Mod_timeOfGlobal_131 (by decide) ?_
          have key := e_Mod_timeOfGlobal_141 hw (G := G) (h0 := h0) hk12 (fun _ _ _ _ _ _ _ _ q => ih _ _ _ _ _ _ _ _ q) hf
          exact key
def b_Mod_timeOfGlobal_311 (F : Nat) (k12 : Nat → Int32 → Int32 → Int32 → Int32 → Hp → Option (Int32 × Hp)) (x0 : Nat) (x1 : Int32) (x2 : Int32) (x3 : Int32) (x4 : Int32) (s0 : Nat) (s1 : Int32) (s2 : Int32) (s3 : Int32) (h : Hp) : Option (Int32 × Hp) := gd (hK h s0 = 100) <| ix s1 (hN h s0) fun j_312_2 => pw (sA h s0 j_312_2 (s2 + s3)) fun h_312_3 => gd (hK h_312_3 x0 = 12) <| rq h_312_3 (hR h_312_3 753 x0) 100 fun a_314_2 => ix x4 (hN h_312_3 a_314_2) fun j_319 => if (hA h_312_3 a_314_2 j_319) ≤ x2 then (k12 x0 x1 x2 x3 (x4 + 1) h_312_3) else (ix x4 (hN h_312_3 a_314_2) fun j_330 => k12 x0 x1 (hA h_312_3 a_314_2 j_330) x3 (x4 + 1) h_312_3)
set_option maxRecDepth 100000 in
set_option maxHeartbeats 4000000 in
theorem e_Mod_timeOfGlobal_311 {G : Gl} (hw : gF G) {h0 : Hp} {F : Nat} {r : Int32} {h' : Hp} {k12 : Nat → Int32 → Int32 → Int32 → Int32 → Hp → Option (Int32 × Hp)} (hk12 : ∀ (y0 : Nat) (y1 : Int32) (y2 : Int32) (y3 : Int32) (y4 : Int32) (hh : Hp), k12 y0 y1 y2 y3 y4 hh = some (r, h') → Go G mi_Mod_timeOfGlobal h0 (pI r h') hh 12 [(0, .ref y0), (1, .int y1), (2, .int y2), (3, .int y3), (4, .int y4)] []) {x0 : Nat} {x1 : Int32} {x2 : Int32} {x3 : Int32} {x4 : Int32} {s0 : Nat} {s1 : Int32} {s2 : Int32} {s3 : Int32} {h : Hp} (hf : b_Mod_timeOfGlobal_311 F k12 x0 x1 x2 x3 x4 s0 s1 s2 s3 h = some (r, h')) : Go G mi_Mod_timeOfGlobal h0 (pI r h') h 311 [(0, .ref x0), (1, .int x1), (2, .int x2), (3, .int x3), (4, .int x4)] [.int s3, .int s2, .int s1, .ref s0] := by
  unfold b_Mod_timeOfGlobal_311 at hf
  refine g_iadd d_Mod_timeOfGlobal_311 ?_
  obtain ⟨k_312, hf⟩ := gd_s hf
  obtain ⟨i_312_2, hf⟩ := ix_s hf
  refine g_iast hw k_312 i_312_2 d_Mod_timeOfGlobal_312 ?_
  have hf := pw_b hf
  refine g_aload_n d_Mod_timeOfGlobal_313 rfl ?_
  obtain ⟨k_314, hf⟩ := gd_s hf
  obtain ⟨a_314_2, e_314_2, k_314_2, hf⟩ := rq_s hf
  refine fgs_Mod_doneAt lf_Mod_105 d_Mod_timeOfGlobal_314 k_314 e_314_2 ?_
  refine g_iload d_Mod_timeOfGlobal_317 rfl ?_
  obtain ⟨i_319, hf⟩ := ix_s hf
  refine g_iald k_314_2 i_319 d_Mod_timeOfGlobal_319 ?_
  refine g_iload_n d_Mod_timeOfGlobal_320 rfl ?_
  refine g_icmp_le 334 d_Mod_timeOfGlobal_321 (by decide) (fun c_321 => ?_) (fun c_321 => ?_)
  · have hf := ifp hf c_321
    refine g_iload_n d_Mod_timeOfGlobal_334 rfl ?_
    refine g_istore_n d_Mod_timeOfGlobal_335 (by decide) ?_
    show Go _ _ _ _ _ _ [(0, _), (1, _), (2, _), (3, _), (4, _)] _
    refine g_iinc (_ + 1) d_Mod_timeOfGlobal_336 rfl (by rfl) (by decide) ?_
    show Go _ _ _ _ _ _ [(0, _), (1, _), (2, _), (3, _), (4, _)] _
    refine g_goto 12 d_Mod_timeOfGlobal_339 (by decide) ?_
    exact hk12 _ _ _ _ _ _ hf
  · have hf := ifn hf c_321
    refine g_aload_n d_Mod_timeOfGlobal_324 rfl ?_
    refine fgs_Mod_doneAt lf_Mod_105 d_Mod_timeOfGlobal_325 k_314 e_314_2 ?_
    refine g_iload d_Mod_timeOfGlobal_328 rfl ?_
    obtain ⟨i_330, hf⟩ := ix_s hf
    refine g_iald k_314_2 i_330 d_Mod_timeOfGlobal_330 ?_
    refine g_goto 335 d_Mod_timeOfGlobal_331 (by decide) ?_
    refine g_istore_n d_Mod_timeOfGlobal_335 (by decide) ?_
    show Go _ _ _ _ _ _ [(0, _), (1, _), (2, _), (3, _), (4, _)] _
    refine g_iinc (_ + 1) d_Mod_timeOfGlobal_336 rfl (by rfl) (by decide) ?_
    show Go _ _ _ _ _ _ [(0, _), (1, _), (2, _), (3, _), (4, _)] _
    refine g_goto 12 d_Mod_timeOfGlobal_339 (by decide) ?_
    exact hk12 _ _ _ _ _ _ hf
def b_Mod_timeOfGlobal_290 (F : Nat) (k12 : Nat → Int32 → Int32 → Int32 → Int32 → Hp → Option (Int32 × Hp)) (x0 : Nat) (x1 : Int32) (x2 : Int32) (x3 : Int32) (x4 : Int32) (x8 : Int32) (x9 : Int32) (s0 : Nat) (s1 : Int32) (s2 : Int32) (s3 : Int32) (h : Hp) : Option (Int32 × Hp) := gd (hK h s0 = 100) <| ix s1 (hN h s0) fun j_291_2 => pw (sA h s0 j_291_2 (s2 + s3)) fun h_291_3 => gd (hK h_291_3 x0 = 12) <| rq h_291_3 (hR h_291_3 753 x0) 100 fun a_293_2 => if x9 = 0 then (b_Mod_timeOfGlobal_311 F k12 x0 x1 x2 x3 x4 a_293_2 x4 x8 (12 : Int32) h_291_3) else (b_Mod_timeOfGlobal_311 F k12 x0 x1 x2 x3 x4 a_293_2 x4 x8 (4 : Int32) h_291_3)
set_option maxRecDepth 100000 in
set_option maxHeartbeats 4000000 in
theorem e_Mod_timeOfGlobal_290 {G : Gl} (hw : gF G) {h0 : Hp} {F : Nat} {r : Int32} {h' : Hp} {k12 : Nat → Int32 → Int32 → Int32 → Int32 → Hp → Option (Int32 × Hp)} (hk12 : ∀ (y0 : Nat) (y1 : Int32) (y2 : Int32) (y3 : Int32) (y4 : Int32) (hh : Hp), k12 y0 y1 y2 y3 y4 hh = some (r, h') → Go G mi_Mod_timeOfGlobal h0 (pI r h') hh 12 [(0, .ref y0), (1, .int y1), (2, .int y2), (3, .int y3), (4, .int y4)] []) {x0 : Nat} {x1 : Int32} {x2 : Int32} {x3 : Int32} {x4 : Int32} {x8 : Int32} {x9 : Int32} {s0 : Nat} {s1 : Int32} {s2 : Int32} {s3 : Int32} {h : Hp} (hf : b_Mod_timeOfGlobal_290 F k12 x0 x1 x2 x3 x4 x8 x9 s0 s1 s2 s3 h = some (r, h')) : Go G mi_Mod_timeOfGlobal h0 (pI r h') h 290 [(0, .ref x0), (1, .int x1), (2, .int x2), (3, .int x3), (4, .int x4), (8, .int x8), (9, .int x9)] [.int s3, .int s2, .int s1, .ref s0] := by
  unfold b_Mod_timeOfGlobal_290 at hf
  refine g_iadd d_Mod_timeOfGlobal_290 ?_
  obtain ⟨k_291, hf⟩ := gd_s hf
  obtain ⟨i_291_2, hf⟩ := ix_s hf
  refine g_iast hw k_291 i_291_2 d_Mod_timeOfGlobal_291 ?_
  have hf := pw_b hf
  refine g_aload_n d_Mod_timeOfGlobal_292 rfl ?_
  obtain ⟨k_293, hf⟩ := gd_s hf
  obtain ⟨a_293_2, e_293_2, k_293_2, hf⟩ := rq_s hf
  refine fgs_Mod_doneAt lf_Mod_105 d_Mod_timeOfGlobal_293 k_293 e_293_2 ?_
  refine g_iload d_Mod_timeOfGlobal_296 rfl ?_
  refine g_iload d_Mod_timeOfGlobal_298 rfl ?_
  refine g_iload d_Mod_timeOfGlobal_300 rfl ?_
  refine g_if_eq 309 d_Mod_timeOfGlobal_302 (by decide) (fun c_302 => ?_) (fun c_302 => ?_)
  · have hf := ifp hf c_302
    refine g_bipush (12) d_Mod_timeOfGlobal_309 (by decide) ?_
    refine Go.locals [0, 1, 2, 3, 4] rfl ?_
    have key := e_Mod_timeOfGlobal_311 hw (G := G) (h0 := h0) hk12 hf
    exact key
  · have hf := ifn hf c_302
    refine g_iconst 4 d_Mod_timeOfGlobal_305 (by decide) ?_
    refine g_goto 311 d_Mod_timeOfGlobal_306 (by decide) ?_
    refine Go.locals [0, 1, 2, 3, 4] rfl ?_
    have key := e_Mod_timeOfGlobal_311 hw (G := G) (h0 := h0) hk12 hf
    exact key
def b_Mod_timeOfGlobal_268 (F : Nat) (k12 : Nat → Int32 → Int32 → Int32 → Int32 → Hp → Option (Int32 × Hp)) (x0 : Nat) (x1 : Int32) (x2 : Int32) (x3 : Int32) (x4 : Int32) (x6 : Int32) (x8 : Int32) (x9 : Int32) (s0 : Nat) (s1 : Int32) (s2 : Int32) (h : Hp) : Option (Int32 × Hp) := gd (hK h s0 = 12) <| pw (sI h 724 s0 (s1 + s2)) fun h_269_2 => gd (hK h_269_2 x0 = 12) <| rq h_269_2 (hR h_269_2 714 x0) 100 fun a_273_2 => if x9 = 0 then (b_Mod_timeOfGlobal_290 F k12 x0 x1 x2 x3 x4 x8 x9 a_273_2 x6 x8 (5 : Int32) h_269_2) else (b_Mod_timeOfGlobal_290 F k12 x0 x1 x2 x3 x4 x8 x9 a_273_2 x6 x8 (1 : Int32) h_269_2)
set_option maxRecDepth 100000 in
set_option maxHeartbeats 4000000 in
theorem e_Mod_timeOfGlobal_268 {G : Gl} (hw : gF G) {h0 : Hp} {F : Nat} {r : Int32} {h' : Hp} {k12 : Nat → Int32 → Int32 → Int32 → Int32 → Hp → Option (Int32 × Hp)} (hk12 : ∀ (y0 : Nat) (y1 : Int32) (y2 : Int32) (y3 : Int32) (y4 : Int32) (hh : Hp), k12 y0 y1 y2 y3 y4 hh = some (r, h') → Go G mi_Mod_timeOfGlobal h0 (pI r h') hh 12 [(0, .ref y0), (1, .int y1), (2, .int y2), (3, .int y3), (4, .int y4)] []) {x0 : Nat} {x1 : Int32} {x2 : Int32} {x3 : Int32} {x4 : Int32} {x6 : Int32} {x8 : Int32} {x9 : Int32} {s0 : Nat} {s1 : Int32} {s2 : Int32} {h : Hp} (hf : b_Mod_timeOfGlobal_268 F k12 x0 x1 x2 x3 x4 x6 x8 x9 s0 s1 s2 h = some (r, h')) : Go G mi_Mod_timeOfGlobal h0 (pI r h') h 268 [(0, .ref x0), (1, .int x1), (2, .int x2), (3, .int x3), (4, .int x4), (6, .int x6), (8, .int x8), (9, .int x9)] [.int s2, .int s1, .ref s0] := by
  unfold b_Mod_timeOfGlobal_268 at hf
  refine g_iadd d_Mod_timeOfGlobal_268 ?_
  obtain ⟨k_269, hf⟩ := gd_s hf
  refine fp_Mod_others hw lf_Mod_174 d_Mod_timeOfGlobal_269 k_269 ?_
  have hf := pw_b hf
  refine g_aload_n d_Mod_timeOfGlobal_272 rfl ?_
  obtain ⟨k_273, hf⟩ := gd_s hf
  obtain ⟨a_273_2, e_273_2, k_273_2, hf⟩ := rq_s hf
  refine fgs_Mod_gateTick lf_Mod_39 d_Mod_timeOfGlobal_273 k_273 e_273_2 ?_
  refine g_iload d_Mod_timeOfGlobal_276 rfl ?_
  refine g_iload d_Mod_timeOfGlobal_278 rfl ?_
  refine g_iload d_Mod_timeOfGlobal_280 rfl ?_
  refine g_if_eq 289 d_Mod_timeOfGlobal_282 (by decide) (fun c_282 => ?_) (fun c_282 => ?_)
  · have hf := ifp hf c_282
    refine g_iconst 5 d_Mod_timeOfGlobal_289 (by decide) ?_
    refine Go.locals [0, 1, 2, 3, 4, 6, 7] rfl ?_
    have key := e_Mod_timeOfGlobal_290 hw (G := G) (h0 := h0) hk12 hf
    exact key
  · have hf := ifn hf c_282
    refine g_iconst 1 d_Mod_timeOfGlobal_285 (by decide) ?_
    refine g_goto 290 d_Mod_timeOfGlobal_286 (by decide) ?_
    refine Go.locals [0, 1, 2, 3, 4, 6, 7] rfl ?_
    have key := e_Mod_timeOfGlobal_290 hw (G := G) (h0 := h0) hk12 hf
    exact key
def b_Mod_timeOfGlobal_249 (F : Nat) (k12 : Nat → Int32 → Int32 → Int32 → Int32 → Hp → Option (Int32 × Hp)) (x0 : Nat) (x1 : Int32) (x2 : Int32) (x3 : Int32) (x4 : Int32) (x6 : Int32) (x8 : Int32) (x9 : Int32) (s0 : Nat) (s1 : Int32) (s2 : Int32) (h : Hp) : Option (Int32 × Hp) := gd (hK h s0 = 12) <| pw (sI h 723 s0 (s1 + s2)) fun h_250_2 => gd (hK h_250_2 x0 = 12) <| if x9 = 0 then (b_Mod_timeOfGlobal_268 F k12 x0 x1 x2 x3 x4 x6 x8 x9 x0 (hI h_250_2 724 x0) (1 : Int32) h_250_2) else (b_Mod_timeOfGlobal_268 F k12 x0 x1 x2 x3 x4 x6 x8 x9 x0 (hI h_250_2 724 x0) (0 : Int32) h_250_2)
set_option maxRecDepth 100000 in
set_option maxHeartbeats 4000000 in
theorem e_Mod_timeOfGlobal_249 {G : Gl} (hw : gF G) {h0 : Hp} {F : Nat} {r : Int32} {h' : Hp} {k12 : Nat → Int32 → Int32 → Int32 → Int32 → Hp → Option (Int32 × Hp)} (hk12 : ∀ (y0 : Nat) (y1 : Int32) (y2 : Int32) (y3 : Int32) (y4 : Int32) (hh : Hp), k12 y0 y1 y2 y3 y4 hh = some (r, h') → Go G mi_Mod_timeOfGlobal h0 (pI r h') hh 12 [(0, .ref y0), (1, .int y1), (2, .int y2), (3, .int y3), (4, .int y4)] []) {x0 : Nat} {x1 : Int32} {x2 : Int32} {x3 : Int32} {x4 : Int32} {x6 : Int32} {x8 : Int32} {x9 : Int32} {s0 : Nat} {s1 : Int32} {s2 : Int32} {h : Hp} (hf : b_Mod_timeOfGlobal_249 F k12 x0 x1 x2 x3 x4 x6 x8 x9 s0 s1 s2 h = some (r, h')) : Go G mi_Mod_timeOfGlobal h0 (pI r h') h 249 [(0, .ref x0), (1, .int x1), (2, .int x2), (3, .int x3), (4, .int x4), (6, .int x6), (8, .int x8), (9, .int x9)] [.int s2, .int s1, .ref s0] := by
  unfold b_Mod_timeOfGlobal_249 at hf
  refine g_iadd d_Mod_timeOfGlobal_249 ?_
  obtain ⟨k_250, hf⟩ := gd_s hf
  refine fp_Mod_hits hw lf_Mod_171 d_Mod_timeOfGlobal_250 k_250 ?_
  have hf := pw_b hf
  refine g_aload_n d_Mod_timeOfGlobal_253 rfl ?_
  refine g_dup (by first | rfl | exact cat_rf _) d_Mod_timeOfGlobal_254 ?_
  obtain ⟨k_255, hf⟩ := gd_s hf
  refine fg_Mod_others lf_Mod_174 d_Mod_timeOfGlobal_255 k_255 ?_
  refine g_iload d_Mod_timeOfGlobal_258 rfl ?_
  refine g_if_eq 267 d_Mod_timeOfGlobal_260 (by decide) (fun c_260 => ?_) (fun c_260 => ?_)
  · have hf := ifp hf c_260
    refine g_iconst 1 d_Mod_timeOfGlobal_267 (by decide) ?_
    have key := e_Mod_timeOfGlobal_268 hw (G := G) (h0 := h0) hk12 hf
    exact key
  · have hf := ifn hf c_260
    refine g_iconst 0 d_Mod_timeOfGlobal_263 (by decide) ?_
    refine g_goto 268 d_Mod_timeOfGlobal_264 (by decide) ?_
    have key := e_Mod_timeOfGlobal_268 hw (G := G) (h0 := h0) hk12 hf
    exact key
def b_Mod_timeOfGlobal_223 (F : Nat) (k12 : Nat → Int32 → Int32 → Int32 → Int32 → Hp → Option (Int32 × Hp)) (x0 : Nat) (x1 : Int32) (x2 : Int32) (x3 : Int32) (x4 : Int32) (x5 : Int32) (x6 : Int32) (x7 : Int32) (x8 : Int32) (s0 : Int32) (h : Hp) : Option (Int32 × Hp) := gd (hK h x0 = 12) <| rq h (hR h 713 x0) 100 fun a_226_2 => ix x7 (hN h a_226_2) fun j_233 => pw (sA h a_226_2 j_233 x5) fun h_233_2 => if s0 = 0 then (b_Mod_timeOfGlobal_249 F k12 x0 x1 x2 x3 x4 x6 x8 s0 x0 (hI h_233_2 723 x0) (0 : Int32) h_233_2) else (b_Mod_timeOfGlobal_249 F k12 x0 x1 x2 x3 x4 x6 x8 s0 x0 (hI h_233_2 723 x0) (1 : Int32) h_233_2)
set_option maxRecDepth 100000 in
set_option maxHeartbeats 4000000 in
theorem e_Mod_timeOfGlobal_223 {G : Gl} (hw : gF G) {h0 : Hp} {F : Nat} {r : Int32} {h' : Hp} {k12 : Nat → Int32 → Int32 → Int32 → Int32 → Hp → Option (Int32 × Hp)} (hk12 : ∀ (y0 : Nat) (y1 : Int32) (y2 : Int32) (y3 : Int32) (y4 : Int32) (hh : Hp), k12 y0 y1 y2 y3 y4 hh = some (r, h') → Go G mi_Mod_timeOfGlobal h0 (pI r h') hh 12 [(0, .ref y0), (1, .int y1), (2, .int y2), (3, .int y3), (4, .int y4)] []) {x0 : Nat} {x1 : Int32} {x2 : Int32} {x3 : Int32} {x4 : Int32} {x5 : Int32} {x6 : Int32} {x7 : Int32} {x8 : Int32} {s0 : Int32} {h : Hp} (hf : b_Mod_timeOfGlobal_223 F k12 x0 x1 x2 x3 x4 x5 x6 x7 x8 s0 h = some (r, h')) : Go G mi_Mod_timeOfGlobal h0 (pI r h') h 223 [(0, .ref x0), (1, .int x1), (2, .int x2), (3, .int x3), (4, .int x4), (5, .int x5), (6, .int x6), (7, .int x7), (8, .int x8)] [.int s0] := by
  unfold b_Mod_timeOfGlobal_223 at hf
  refine g_istore d_Mod_timeOfGlobal_223 (by decide) ?_
  show Go _ _ _ _ _ _ [(0, _), (1, _), (2, _), (3, _), (4, _), (5, _), (6, _), (7, _), (8, _), (9, _)] _
  refine g_aload_n d_Mod_timeOfGlobal_225 rfl ?_
  obtain ⟨k_226, hf⟩ := gd_s hf
  obtain ⟨a_226_2, e_226_2, k_226_2, hf⟩ := rq_s hf
  refine fgs_Mod_cache lf_Mod_36 d_Mod_timeOfGlobal_226 k_226 e_226_2 ?_
  refine g_iload d_Mod_timeOfGlobal_229 rfl ?_
  refine g_iload d_Mod_timeOfGlobal_231 rfl ?_
  obtain ⟨i_233, hf⟩ := ix_s hf
  refine g_iast hw k_226_2 i_233 d_Mod_timeOfGlobal_233 ?_
  have hf := pw_b hf
  refine g_aload_n d_Mod_timeOfGlobal_234 rfl ?_
  refine g_dup (by first | rfl | exact cat_rf _) d_Mod_timeOfGlobal_235 ?_
  refine fg_Mod_hits lf_Mod_171 d_Mod_timeOfGlobal_236 (kksA k_226) ?_
  refine g_iload d_Mod_timeOfGlobal_239 rfl ?_
  refine g_if_eq 248 d_Mod_timeOfGlobal_241 (by decide) (fun c_241 => ?_) (fun c_241 => ?_)
  · have hf := ifp hf c_241
    refine g_iconst 0 d_Mod_timeOfGlobal_248 (by decide) ?_
    refine Go.locals [0, 1, 2, 3, 4, 6, 8, 9] rfl ?_
    have key := e_Mod_timeOfGlobal_249 hw (G := G) (h0 := h0) hk12 hf
    exact key
  · have hf := ifn hf c_241
    refine g_iconst 1 d_Mod_timeOfGlobal_244 (by decide) ?_
    refine g_goto 249 d_Mod_timeOfGlobal_245 (by decide) ?_
    refine Go.locals [0, 1, 2, 3, 4, 6, 8, 9] rfl ?_
    have key := e_Mod_timeOfGlobal_249 hw (G := G) (h0 := h0) hk12 hf
    exact key
def b_Mod_timeOfGlobal_204 (F : Nat) (k12 : Nat → Int32 → Int32 → Int32 → Int32 → Hp → Option (Int32 × Hp)) (x0 : Nat) (x1 : Int32) (x2 : Int32) (x3 : Int32) (x4 : Int32) (x5 : Int32) (x6 : Int32) (x7 : Int32) (s0 : Int32) (h : Hp) : Option (Int32 × Hp) := gd (hK h x0 = 12) <| rq h (hR h 713 x0) 100 fun a_207_2 => ix x7 (hN h a_207_2) fun j_212 => if (hA h a_207_2 j_212) = x5 then (b_Mod_timeOfGlobal_223 F k12 x0 x1 x2 x3 x4 x5 x6 x7 s0 (1 : Int32) h) else (b_Mod_timeOfGlobal_223 F k12 x0 x1 x2 x3 x4 x5 x6 x7 s0 (0 : Int32) h)
set_option maxRecDepth 100000 in
set_option maxHeartbeats 4000000 in
theorem e_Mod_timeOfGlobal_204 {G : Gl} (hw : gF G) {h0 : Hp} {F : Nat} {r : Int32} {h' : Hp} {k12 : Nat → Int32 → Int32 → Int32 → Int32 → Hp → Option (Int32 × Hp)} (hk12 : ∀ (y0 : Nat) (y1 : Int32) (y2 : Int32) (y3 : Int32) (y4 : Int32) (hh : Hp), k12 y0 y1 y2 y3 y4 hh = some (r, h') → Go G mi_Mod_timeOfGlobal h0 (pI r h') hh 12 [(0, .ref y0), (1, .int y1), (2, .int y2), (3, .int y3), (4, .int y4)] []) {x0 : Nat} {x1 : Int32} {x2 : Int32} {x3 : Int32} {x4 : Int32} {x5 : Int32} {x6 : Int32} {x7 : Int32} {s0 : Int32} {h : Hp} (hf : b_Mod_timeOfGlobal_204 F k12 x0 x1 x2 x3 x4 x5 x6 x7 s0 h = some (r, h')) : Go G mi_Mod_timeOfGlobal h0 (pI r h') h 204 [(0, .ref x0), (1, .int x1), (2, .int x2), (3, .int x3), (4, .int x4), (5, .int x5), (6, .int x6), (7, .int x7)] [.int s0] := by
  unfold b_Mod_timeOfGlobal_204 at hf
  refine g_istore d_Mod_timeOfGlobal_204 (by decide) ?_
  show Go _ _ _ _ _ _ [(0, _), (1, _), (2, _), (3, _), (4, _), (5, _), (6, _), (7, _), (8, _)] _
  refine g_aload_n d_Mod_timeOfGlobal_206 rfl ?_
  obtain ⟨k_207, hf⟩ := gd_s hf
  obtain ⟨a_207_2, e_207_2, k_207_2, hf⟩ := rq_s hf
  refine fgs_Mod_cache lf_Mod_36 d_Mod_timeOfGlobal_207 k_207 e_207_2 ?_
  refine g_iload d_Mod_timeOfGlobal_210 rfl ?_
  obtain ⟨i_212, hf⟩ := ix_s hf
  refine g_iald k_207_2 i_212 d_Mod_timeOfGlobal_212 ?_
  refine g_iload d_Mod_timeOfGlobal_213 rfl ?_
  refine g_icmp_ne 222 d_Mod_timeOfGlobal_215 (by decide) (fun c_215 => ?_) (fun c_215 => ?_)
  · have hf := ifn hf c_215
    refine g_iconst 0 d_Mod_timeOfGlobal_222 (by decide) ?_
    have key := e_Mod_timeOfGlobal_223 hw (G := G) (h0 := h0) hk12 hf
    exact key
  · have hf := ifp hf c_215
    refine g_iconst 1 d_Mod_timeOfGlobal_218 (by decide) ?_
    refine g_goto 223 d_Mod_timeOfGlobal_219 (by decide) ?_
    have key := e_Mod_timeOfGlobal_223 hw (G := G) (h0 := h0) hk12 hf
    exact key
def b_Mod_timeOfGlobal_59 (F : Nat) (k12 : Nat → Int32 → Int32 → Int32 → Int32 → Hp → Option (Int32 × Hp)) (x0 : Nat) (x1 : Int32) (x2 : Int32) (x4 : Int32) (s0 : Int32) (s1 : Int32) (h : Hp) : Option (Int32 × Hp) := gd (hK h x0 = 12) <| cl (f_Mod_asked F x0 x1 x4 h) fun v_65_2 h_65_2 => gd (¬ (8 : Int32) = 0) <| gd (hK h_65_2 x0 = 12) <| cl (f_Mod_isLineAgain F x0 x1 x4 h_65_2) fun v_77_2 h_77_2 => if v_77_2 = 0 then (gd (hK h_77_2 x0 = 12) <| gd (¬ (hI h_77_2 709 x0) = 0) <| gd (¬ (hI h_77_2 709 x0) = 0) <| gd (¬ (4 : Int32) = 0) <| rq h_77_2 (hR h_77_2 714 x0) 100 fun a_177 => ix ((v_65_2 / (8 : Int32)) - (v_65_2 / (8 : Int32)) / (hI h_77_2 709 x0) * (hI h_77_2 709 x0)) (hN h_77_2 a_177) fun j_182 => if (hA h_77_2 a_177 j_182) ≤ (hI h_77_2 719 x0) then (b_Mod_timeOfGlobal_204 F k12 x0 x1 x2 (s0 + s1) x4 (v_65_2 / (8 : Int32)) ((v_65_2 / (8 : Int32)) - (v_65_2 / (8 : Int32)) / (hI h_77_2 709 x0) * (hI h_77_2 709 x0)) (((4 : Int32) * ((v_65_2 / (8 : Int32)) - (v_65_2 / (8 : Int32)) / (hI h_77_2 709 x0) * (hI h_77_2 709 x0))) + (((v_65_2 / (8 : Int32)) / (hI h_77_2 709 x0)) - ((v_65_2 / (8 : Int32)) / (hI h_77_2 709 x0)) / (4 : Int32) * (4 : Int32))) (hI h_77_2 719 x0) h_77_2) else (ix ((v_65_2 / (8 : Int32)) - (v_65_2 / (8 : Int32)) / (hI h_77_2 709 x0) * (hI h_77_2 709 x0)) (hN h_77_2 a_177) fun j_196 => b_Mod_timeOfGlobal_204 F k12 x0 x1 x2 (s0 + s1) x4 (v_65_2 / (8 : Int32)) ((v_65_2 / (8 : Int32)) - (v_65_2 / (8 : Int32)) / (hI h_77_2 709 x0) * (hI h_77_2 709 x0)) (((4 : Int32) * ((v_65_2 / (8 : Int32)) - (v_65_2 / (8 : Int32)) / (hI h_77_2 709 x0) * (hI h_77_2 709 x0))) + (((v_65_2 / (8 : Int32)) / (hI h_77_2 709 x0)) - ((v_65_2 / (8 : Int32)) / (hI h_77_2 709 x0)) / (4 : Int32) * (4 : Int32))) (hA h_77_2 a_177 j_196) h_77_2)) else (b_Mod_timeOfGlobal_86 F k12 F x0 x1 x2 (s0 + s1) x4 (v_65_2 / (8 : Int32)) (0 : Int32) h_77_2)
set_option maxRecDepth 100000 in
set_option maxHeartbeats 4000000 in
theorem e_Mod_timeOfGlobal_59 {G : Gl} (hw : gF G) {h0 : Hp} {F : Nat} {r : Int32} {h' : Hp} {k12 : Nat → Int32 → Int32 → Int32 → Int32 → Hp → Option (Int32 × Hp)} (hk12 : ∀ (y0 : Nat) (y1 : Int32) (y2 : Int32) (y3 : Int32) (y4 : Int32) (hh : Hp), k12 y0 y1 y2 y3 y4 hh = some (r, h') → Go G mi_Mod_timeOfGlobal h0 (pI r h') hh 12 [(0, .ref y0), (1, .int y1), (2, .int y2), (3, .int y3), (4, .int y4)] []) {x0 : Nat} {x1 : Int32} {x2 : Int32} {x4 : Int32} {s0 : Int32} {s1 : Int32} {h : Hp} (hf : b_Mod_timeOfGlobal_59 F k12 x0 x1 x2 x4 s0 s1 h = some (r, h')) : Go G mi_Mod_timeOfGlobal h0 (pI r h') h 59 [(0, .ref x0), (1, .int x1), (2, .int x2), (4, .int x4)] [.int s1, .int s0] := by
  unfold b_Mod_timeOfGlobal_59 at hf
  refine g_iadd d_Mod_timeOfGlobal_59 ?_
  refine g_istore_n d_Mod_timeOfGlobal_60 (by decide) ?_
  show Go _ _ _ _ _ _ [(0, _), (1, _), (2, _), (3, _), (4, _)] _
  refine g_aload_n d_Mod_timeOfGlobal_61 rfl ?_
  refine g_iload_n d_Mod_timeOfGlobal_62 rfl ?_
  refine g_iload d_Mod_timeOfGlobal_63 rfl ?_
  obtain ⟨k_65, hf⟩ := gd_s hf
  obtain ⟨v_65_2, h_65_2, e_65_2, hf⟩ := cl_s hf
  refine g_callV (mz := mi_Mod_asked) (e_Mod_asked e_65_2) cw_Mod_timeOfGlobal_Mod_asked lm_Mod_316 wI_Mod_asked wV_Mod_asked (ci := 11) k_65 (by decide) rfl rfl d_Mod_timeOfGlobal_65 rfl rfl (by first | exact Nat.le_of_ble_eq_true rfl | simp [cat_rf, Value.category]) (fun r1 h1 hp hro => ?_)
  obtain ⟨rfl, rfl⟩ := hp
  dsimp only [Option.toList_some, Option.toList_none, List.cons_append, List.nil_append]
  refine g_bipush (8) d_Mod_timeOfGlobal_68 (by decide) ?_
  obtain ⟨z_70, hf⟩ := gd_s hf
  refine g_idiv d_Mod_timeOfGlobal_70 z_70 ?_
  refine g_istore d_Mod_timeOfGlobal_71 (by decide) ?_
  show Go _ _ _ _ _ _ [(0, _), (1, _), (2, _), (3, _), (4, _), (5, _)] _
  refine g_aload_n d_Mod_timeOfGlobal_73 rfl ?_
  refine g_iload_n d_Mod_timeOfGlobal_74 rfl ?_
  refine g_iload d_Mod_timeOfGlobal_75 rfl ?_
  obtain ⟨k_77, hf⟩ := gd_s hf
  obtain ⟨v_77_2, h_77_2, e_77_2, hf⟩ := cl_s hf
  refine g_callV (mz := mi_Mod_isLineAgain) (e_Mod_isLineAgain e_77_2) cw_Mod_timeOfGlobal_Mod_isLineAgain lm_Mod_322 wI_Mod_isLineAgain wV_Mod_isLineAgain (ci := 11) k_77 (by decide) rfl rfl d_Mod_timeOfGlobal_77 rfl rfl (by first | exact Nat.le_of_ble_eq_true rfl | simp [cat_rf, Value.category]) (fun r1 h1 hp hro => ?_)
  obtain ⟨rfl, rfl⟩ := hp
  dsimp only [Option.toList_some, Option.toList_none, List.cons_append, List.nil_append]
  refine g_if_eq 151 d_Mod_timeOfGlobal_80 (by decide) (fun c_80 => ?_) (fun c_80 => ?_)
  · have hf := ifp hf c_80
    refine g_iload d_Mod_timeOfGlobal_151 rfl ?_
    refine g_aload_n d_Mod_timeOfGlobal_153 rfl ?_
    obtain ⟨k_154, hf⟩ := gd_s hf
    refine fg_Mod_gates lf_Mod_22 d_Mod_timeOfGlobal_154 k_154 ?_
    obtain ⟨z_157, hf⟩ := gd_s hf
    refine g_irem d_Mod_timeOfGlobal_157 z_157 ?_
    refine g_istore d_Mod_timeOfGlobal_158 (by decide) ?_
    show Go _ _ _ _ _ _ [(0, _), (1, _), (2, _), (3, _), (4, _), (5, _), (6, _)] _
    refine g_iconst 4 d_Mod_timeOfGlobal_160 (by decide) ?_
    refine g_iload d_Mod_timeOfGlobal_161 rfl ?_
    refine g_imul d_Mod_timeOfGlobal_163 ?_
    refine g_iload d_Mod_timeOfGlobal_164 rfl ?_
    refine g_aload_n d_Mod_timeOfGlobal_166 rfl ?_
    refine fg_Mod_gates lf_Mod_22 d_Mod_timeOfGlobal_167 k_154 ?_
    obtain ⟨z_170, hf⟩ := gd_s hf
    refine g_idiv d_Mod_timeOfGlobal_170 z_170 ?_
    refine g_iconst 4 d_Mod_timeOfGlobal_171 (by decide) ?_
    obtain ⟨z_172, hf⟩ := gd_s hf
    refine g_irem d_Mod_timeOfGlobal_172 z_172 ?_
    refine g_iadd d_Mod_timeOfGlobal_173 ?_
    refine g_istore d_Mod_timeOfGlobal_174 (by decide) ?_
    show Go _ _ _ _ _ _ [(0, _), (1, _), (2, _), (3, _), (4, _), (5, _), (6, _), (7, _)] _
    refine g_aload_n d_Mod_timeOfGlobal_176 rfl ?_
    obtain ⟨a_177, e_177, k_177, hf⟩ := rq_s hf
    refine fgs_Mod_gateTick lf_Mod_39 d_Mod_timeOfGlobal_177 k_154 e_177 ?_
    refine g_iload d_Mod_timeOfGlobal_180 rfl ?_
    obtain ⟨i_182, hf⟩ := ix_s hf
    refine g_iald k_177 i_182 d_Mod_timeOfGlobal_182 ?_
    refine g_aload_n d_Mod_timeOfGlobal_183 rfl ?_
    refine fg_Mod_cycle lf_Mod_159 d_Mod_timeOfGlobal_184 k_154 ?_
    refine g_icmp_le 200 d_Mod_timeOfGlobal_187 (by decide) (fun c_187 => ?_) (fun c_187 => ?_)
    · have hf := ifp hf c_187
      refine g_aload_n d_Mod_timeOfGlobal_200 rfl ?_
      refine fg_Mod_cycle lf_Mod_159 d_Mod_timeOfGlobal_201 k_154 ?_
      have key := e_Mod_timeOfGlobal_204 hw (G := G) (h0 := h0) hk12 hf
      exact key
    · have hf := ifn hf c_187
      refine g_aload_n d_Mod_timeOfGlobal_190 rfl ?_
      refine fgs_Mod_gateTick lf_Mod_39 d_Mod_timeOfGlobal_191 k_154 e_177 ?_
      refine g_iload d_Mod_timeOfGlobal_194 rfl ?_
      obtain ⟨i_196, hf⟩ := ix_s hf
      refine g_iald k_177 i_196 d_Mod_timeOfGlobal_196 ?_
      refine g_goto 204 d_Mod_timeOfGlobal_197 (by decide) ?_
      have key := e_Mod_timeOfGlobal_204 hw (G := G) (h0 := h0) hk12 hf
      exact key
  · have hf := ifn hf c_80
    refine g_iconst 0 d_Mod_timeOfGlobal_83 (by decide) ?_
    refine g_istore d_Mod_timeOfGlobal_84 (by decide) ?_
    show Go _ _ _ _ _ _ [(0, _), (1, _), (2, _), (3, _), (4, _), (5, _), (6, _)] _
    have key := e_Mod_timeOfGlobal_86 hw (G := G) (h0 := h0) hk12 F _ _ _ _ _ _ _ _ hf
    exact key
def b_Mod_timeOfGlobal_58 (F : Nat) (k12 : Nat → Int32 → Int32 → Int32 → Int32 → Hp → Option (Int32 × Hp)) (x0 : Nat) (x1 : Int32) (x2 : Int32) (x4 : Int32) (s0 : Int32) (h : Hp) : Option (Int32 × Hp) := b_Mod_timeOfGlobal_59 F k12 x0 x1 x2 x4 s0 (0 : Int32) h
set_option maxRecDepth 100000 in
set_option maxHeartbeats 4000000 in
theorem e_Mod_timeOfGlobal_58 {G : Gl} (hw : gF G) {h0 : Hp} {F : Nat} {r : Int32} {h' : Hp} {k12 : Nat → Int32 → Int32 → Int32 → Int32 → Hp → Option (Int32 × Hp)} (hk12 : ∀ (y0 : Nat) (y1 : Int32) (y2 : Int32) (y3 : Int32) (y4 : Int32) (hh : Hp), k12 y0 y1 y2 y3 y4 hh = some (r, h') → Go G mi_Mod_timeOfGlobal h0 (pI r h') hh 12 [(0, .ref y0), (1, .int y1), (2, .int y2), (3, .int y3), (4, .int y4)] []) {x0 : Nat} {x1 : Int32} {x2 : Int32} {x4 : Int32} {s0 : Int32} {h : Hp} (hf : b_Mod_timeOfGlobal_58 F k12 x0 x1 x2 x4 s0 h = some (r, h')) : Go G mi_Mod_timeOfGlobal h0 (pI r h') h 58 [(0, .ref x0), (1, .int x1), (2, .int x2), (4, .int x4)] [.int s0] := by
  unfold b_Mod_timeOfGlobal_58 at hf
  refine g_iconst 0 d_Mod_timeOfGlobal_58 (by decide) ?_
  have key := e_Mod_timeOfGlobal_59 hw (G := G) (h0 := h0) hk12 hf
  exact key
def b_Mod_timeOfGlobal_12 (F : Nat) : Nat → Nat → Int32 → Int32 → Int32 → Int32 → Hp → Option (Int32 × Hp)
  | 0 => fun _ _ _ _ _ _ => none
  | n + 1 => fun x0 x1 x2 x3 x4 h => gd (hK h x0 = 12) <| if (hI h 705 x0) ≤ x4 then (some (((x2 - (hI h 719 x0)) + x3), h)) else (rq h (hR h 755 x0) 101 fun a_22 => ix x4 (hN h a_22) fun j_27 => if (hA h a_22 j_27) = 0 then (b_Mod_timeOfGlobal_12 F n x0 x1 x2 x3 (x4 + 1) h) else (if (hI h 756 x0) ≤ (53 : Int32) then (b_Mod_timeOfGlobal_58 F (b_Mod_timeOfGlobal_12 F n) x0 x1 x2 x4 x3 h) else (cl (f_Mod_isAgain F x0 x1 x4 h) fun v_48 h_48 => if v_48 = 0 then (b_Mod_timeOfGlobal_58 F (b_Mod_timeOfGlobal_12 F n) x0 x1 x2 x4 x3 h_48) else (b_Mod_timeOfGlobal_59 F (b_Mod_timeOfGlobal_12 F n) x0 x1 x2 x4 x3 (1 : Int32) h_48))))
set_option maxRecDepth 100000 in
set_option maxHeartbeats 4000000 in
theorem e_Mod_timeOfGlobal_12 {G : Gl} (hw : gF G) {h0 : Hp} {F : Nat} {r : Int32} {h' : Hp}   : ∀ (n : Nat) (x0 : Nat) (x1 : Int32) (x2 : Int32) (x3 : Int32) (x4 : Int32) (h : Hp), b_Mod_timeOfGlobal_12 F n x0 x1 x2 x3 x4 h = some (r, h') → Go G mi_Mod_timeOfGlobal h0 (pI r h') h 12 [(0, .ref x0), (1, .int x1), (2, .int x2), (3, .int x3), (4, .int x4)] [] := by
  intro n
  induction n with
  | zero =>
    intro _ _ _ _ _ _ hf
    exact nm_s hf
  | succ n ih =>
    intro x0 x1 x2 x3 x4 h hf
    unfold b_Mod_timeOfGlobal_12 at hf
    refine g_iload d_Mod_timeOfGlobal_12 rfl ?_
    refine g_aload_n d_Mod_timeOfGlobal_14 rfl ?_
    obtain ⟨k_15, hf⟩ := gd_s hf
    refine fg_Mod_lanes lf_Mod_7 d_Mod_timeOfGlobal_15 k_15 ?_
    refine g_icmp_ge 342 d_Mod_timeOfGlobal_18 (by decide) (fun c_18 => ?_) (fun c_18 => ?_)
    · have hf := ifp hf c_18
      refine g_iload_n d_Mod_timeOfGlobal_342 rfl ?_
      refine g_aload_n d_Mod_timeOfGlobal_343 rfl ?_
      refine fg_Mod_cycle lf_Mod_159 d_Mod_timeOfGlobal_344 k_15 ?_
      refine g_isub d_Mod_timeOfGlobal_347 ?_
      refine g_iload_n d_Mod_timeOfGlobal_348 rfl ?_
      refine g_iadd d_Mod_timeOfGlobal_349 ?_
      exact Go.ret (some _) (rOk_i _) rfl d_Mod_timeOfGlobal_350 (pI_of hf)
    · have hf := ifn hf c_18
      refine g_aload_n d_Mod_timeOfGlobal_21 rfl ?_
      obtain ⟨a_22, e_22, k_22, hf⟩ := rq_s hf
      refine fgs_Mod_does lf_Mod_111 d_Mod_timeOfGlobal_22 k_15 e_22 ?_
      refine g_iload d_Mod_timeOfGlobal_25 rfl ?_
      obtain ⟨i_27, hf⟩ := ix_s hf
      refine g_zald k_22 i_27 d_Mod_timeOfGlobal_27 ?_
      refine g_if_ne 34 d_Mod_timeOfGlobal_28 (by decide) (fun c_28 => ?_) (fun c_28 => ?_)
      · have hf := ifn hf c_28
        refine g_iload_n d_Mod_timeOfGlobal_34 rfl ?_
        refine g_aload_n d_Mod_timeOfGlobal_35 rfl ?_
        refine fg_Mod_op lf_Mod_220 d_Mod_timeOfGlobal_36 k_15 ?_
        refine g_bipush (53) d_Mod_timeOfGlobal_39 (by decide) ?_
        refine g_icmp_le 58 d_Mod_timeOfGlobal_41 (by decide) (fun c_41 => ?_) (fun c_41 => ?_)
        · have hf := ifp hf c_41
          refine Go.locals [0, 1, 2, 4] rfl ?_
          have key := e_Mod_timeOfGlobal_58 hw (G := G) (h0 := h0) (fun _ _ _ _ _ _ q => ih _ _ _ _ _ _ q) hf
          exact key
        · have hf := ifn hf c_41
          refine g_aload_n d_Mod_timeOfGlobal_44 rfl ?_
          refine g_iload_n d_Mod_timeOfGlobal_45 rfl ?_
          refine g_iload d_Mod_timeOfGlobal_46 rfl ?_
          obtain ⟨v_48, h_48, e_48, hf⟩ := cl_s hf
          refine g_callV (mz := mi_Mod_isAgain) (e_Mod_isAgain e_48) cw_Mod_timeOfGlobal_Mod_isAgain lm_Mod_319 wI_Mod_isAgain wV_Mod_isAgain (ci := 11) k_15 (by decide) rfl rfl d_Mod_timeOfGlobal_48 rfl rfl (by first | exact Nat.le_of_ble_eq_true rfl | simp [cat_rf, Value.category]) (fun r1 h1 hp hro => ?_)
          obtain ⟨rfl, rfl⟩ := hp
          dsimp only [Option.toList_some, Option.toList_none, List.cons_append, List.nil_append]
          refine g_if_eq 58 d_Mod_timeOfGlobal_51 (by decide) (fun c_51 => ?_) (fun c_51 => ?_)
          · have hf := ifp hf c_51
            refine Go.locals [0, 1, 2, 4] rfl ?_
            have key := e_Mod_timeOfGlobal_58 hw (G := G) (h0 := h0) (fun _ _ _ _ _ _ q => ih _ _ _ _ _ _ q) hf
            exact key
          · have hf := ifn hf c_51
            refine g_iconst 1 d_Mod_timeOfGlobal_54 (by decide) ?_
            refine g_goto 59 d_Mod_timeOfGlobal_55 (by decide) ?_
            refine Go.locals [0, 1, 2, 4] rfl ?_
            have key := e_Mod_timeOfGlobal_59 hw (G := G) (h0 := h0) (fun _ _ _ _ _ _ q => ih _ _ _ _ _ _ q) hf
            exact key
      · have hf := ifp hf c_28
        refine g_goto 336 d_Mod_timeOfGlobal_31 (by decide) ?_
        refine g_iinc (_ + 1) d_Mod_timeOfGlobal_336 rfl (by rfl) (by decide) ?_
        show Go _ _ _ _ _ _ [(0, _), (1, _), (2, _), (3, _), (4, _)] _
        refine g_goto 12 d_Mod_timeOfGlobal_339 (by decide) ?_
        exact ih _ _ _ _ _ _ hf
def f_Mod_timeOfGlobal (F : Nat) (x0 : Nat) (x1 : Int32) (h : Hp) : Option (Int32 × Hp) := gd (hK h x0 = 12) <| b_Mod_timeOfGlobal_12 F F x0 x1 ((hI h 719 x0) + (1 : Int32)) (0 : Int32) (0 : Int32) h
set_option maxRecDepth 100000 in
set_option maxHeartbeats 4000000 in
theorem e_Mod_timeOfGlobal {G : Gl} (hw : gF G) {F : Nat} {r : Int32} {h' : Hp} {x0 : Nat} {x1 : Int32} {h : Hp} (hf : f_Mod_timeOfGlobal F x0 x1 h = some (r, h')) : Ex G mi_Mod_timeOfGlobal [.ref x0, .int x1] h (pI r h') := by
  unfold f_Mod_timeOfGlobal at hf
  refine Ex.of nmI (by decide) (Nat.le_of_ble_eq_true rfl) ?_
  show Go G mi_Mod_timeOfGlobal h _ h 0 [(0, .ref x0), (1, .int x1)] []
  refine g_aload_n d_Mod_timeOfGlobal_0 rfl ?_
  obtain ⟨k_1, hf⟩ := gd_s hf
  refine fg_Mod_cycle lf_Mod_159 d_Mod_timeOfGlobal_1 k_1 ?_
  refine g_iconst 1 d_Mod_timeOfGlobal_4 (by decide) ?_
  refine g_iadd d_Mod_timeOfGlobal_5 ?_
  refine g_istore_n d_Mod_timeOfGlobal_6 (by decide) ?_
  show Go _ _ _ _ _ _ [(0, _), (1, _), (2, _)] _
  refine g_iconst 0 d_Mod_timeOfGlobal_7 (by decide) ?_
  refine g_istore_n d_Mod_timeOfGlobal_8 (by decide) ?_
  show Go _ _ _ _ _ _ [(0, _), (1, _), (2, _), (3, _)] _
  refine g_iconst 0 d_Mod_timeOfGlobal_9 (by decide) ?_
  refine g_istore d_Mod_timeOfGlobal_10 (by decide) ?_
  show Go _ _ _ _ _ _ [(0, _), (1, _), (2, _), (3, _), (4, _)] _
  have key := e_Mod_timeOfGlobal_12 hw (G := G) (h0 := h)  F _ _ _ _ _ _ hf
  exact key
abbrev mi_Mod_time : MI := (⟨"WarpMillModel", "time", "(II)I"⟩, prog_13_method_41_code, 3, some .int, 4, 96)
def it_Mod_time_0 : List (Nat × ClassFile.Instr × Nat) := [(0, .aload_n 0, 1), (1, .invokevirtual 240, 3), (4, .ifCond .eq (25), 3), (7, .aload_n 0, 1), (8, .invokevirtual 275, 3), (11, .ifCond .eq (12), 3), (14, .aload_n 0, 1), (15, .iload_n 1, 1), (16, .iload_n 2, 1), (17, .invokevirtual 310, 3), (20, .goto (8), 3), (23, .aload_n 0, 1), (24, .iload_n 2, 1), (25, .invokevirtual 313, 3), (28, .ireturn, 1), (29, .aload_n 0, 1), (30, .getfield 220, 3), (33, .bipush (70), 2), (35, .if_icmp .lt (5), 3), (38, .iconst 2, 1), (39, .ireturn, 1), (40, .aload_n 0, 1), (41, .getfield 220, 3), (44, .bipush (7), 2)]
theorem id_Mod_time_0 : ∀ q ∈ it_Mod_time_0, decode prog_13_method_41_code q.1 = .ok q.2 := by decide +kernel
theorem d_Mod_time_0 : decode prog_13_method_41_code 0 = .ok (.aload_n 0, 1) := id_Mod_time_0 (0, .aload_n 0, 1) (List.mem_of_getElem? (i := 0) rfl)
theorem d_Mod_time_1 : decode prog_13_method_41_code 1 = .ok (.invokevirtual 240, 3) := id_Mod_time_0 (1, .invokevirtual 240, 3) (List.mem_of_getElem? (i := 1) rfl)
theorem d_Mod_time_4 : decode prog_13_method_41_code 4 = .ok (.ifCond .eq (25), 3) := id_Mod_time_0 (4, .ifCond .eq (25), 3) (List.mem_of_getElem? (i := 2) rfl)
theorem d_Mod_time_7 : decode prog_13_method_41_code 7 = .ok (.aload_n 0, 1) := id_Mod_time_0 (7, .aload_n 0, 1) (List.mem_of_getElem? (i := 3) rfl)
theorem d_Mod_time_8 : decode prog_13_method_41_code 8 = .ok (.invokevirtual 275, 3) := id_Mod_time_0 (8, .invokevirtual 275, 3) (List.mem_of_getElem? (i := 4) rfl)
theorem d_Mod_time_11 : decode prog_13_method_41_code 11 = .ok (.ifCond .eq (12), 3) := id_Mod_time_0 (11, .ifCond .eq (12), 3) (List.mem_of_getElem? (i := 5) rfl)
theorem d_Mod_time_14 : decode prog_13_method_41_code 14 = .ok (.aload_n 0, 1) := id_Mod_time_0 (14, .aload_n 0, 1) (List.mem_of_getElem? (i := 6) rfl)
theorem d_Mod_time_15 : decode prog_13_method_41_code 15 = .ok (.iload_n 1, 1) := id_Mod_time_0 (15, .iload_n 1, 1) (List.mem_of_getElem? (i := 7) rfl)
theorem d_Mod_time_16 : decode prog_13_method_41_code 16 = .ok (.iload_n 2, 1) := id_Mod_time_0 (16, .iload_n 2, 1) (List.mem_of_getElem? (i := 8) rfl)
theorem d_Mod_time_17 : decode prog_13_method_41_code 17 = .ok (.invokevirtual 310, 3) := id_Mod_time_0 (17, .invokevirtual 310, 3) (List.mem_of_getElem? (i := 9) rfl)
theorem d_Mod_time_20 : decode prog_13_method_41_code 20 = .ok (.goto (8), 3) := id_Mod_time_0 (20, .goto (8), 3) (List.mem_of_getElem? (i := 10) rfl)
theorem d_Mod_time_23 : decode prog_13_method_41_code 23 = .ok (.aload_n 0, 1) := id_Mod_time_0 (23, .aload_n 0, 1) (List.mem_of_getElem? (i := 11) rfl)
theorem d_Mod_time_24 : decode prog_13_method_41_code 24 = .ok (.iload_n 2, 1) := id_Mod_time_0 (24, .iload_n 2, 1) (List.mem_of_getElem? (i := 12) rfl)
theorem d_Mod_time_25 : decode prog_13_method_41_code 25 = .ok (.invokevirtual 313, 3) := id_Mod_time_0 (25, .invokevirtual 313, 3) (List.mem_of_getElem? (i := 13) rfl)
theorem d_Mod_time_28 : decode prog_13_method_41_code 28 = .ok (.ireturn, 1) := id_Mod_time_0 (28, .ireturn, 1) (List.mem_of_getElem? (i := 14) rfl)
theorem d_Mod_time_29 : decode prog_13_method_41_code 29 = .ok (.aload_n 0, 1) := id_Mod_time_0 (29, .aload_n 0, 1) (List.mem_of_getElem? (i := 15) rfl)
theorem d_Mod_time_30 : decode prog_13_method_41_code 30 = .ok (.getfield 220, 3) := id_Mod_time_0 (30, .getfield 220, 3) (List.mem_of_getElem? (i := 16) rfl)
theorem d_Mod_time_33 : decode prog_13_method_41_code 33 = .ok (.bipush (70), 2) := id_Mod_time_0 (33, .bipush (70), 2) (List.mem_of_getElem? (i := 17) rfl)
theorem d_Mod_time_35 : decode prog_13_method_41_code 35 = .ok (.if_icmp .lt (5), 3) := id_Mod_time_0 (35, .if_icmp .lt (5), 3) (List.mem_of_getElem? (i := 18) rfl)
theorem d_Mod_time_38 : decode prog_13_method_41_code 38 = .ok (.iconst 2, 1) := id_Mod_time_0 (38, .iconst 2, 1) (List.mem_of_getElem? (i := 19) rfl)
theorem d_Mod_time_39 : decode prog_13_method_41_code 39 = .ok (.ireturn, 1) := id_Mod_time_0 (39, .ireturn, 1) (List.mem_of_getElem? (i := 20) rfl)
theorem d_Mod_time_40 : decode prog_13_method_41_code 40 = .ok (.aload_n 0, 1) := id_Mod_time_0 (40, .aload_n 0, 1) (List.mem_of_getElem? (i := 21) rfl)
theorem d_Mod_time_41 : decode prog_13_method_41_code 41 = .ok (.getfield 220, 3) := id_Mod_time_0 (41, .getfield 220, 3) (List.mem_of_getElem? (i := 22) rfl)
theorem d_Mod_time_44 : decode prog_13_method_41_code 44 = .ok (.bipush (7), 2) := id_Mod_time_0 (44, .bipush (7), 2) (List.mem_of_getElem? (i := 23) rfl)
def it_Mod_time_1 : List (Nat × ClassFile.Instr × Nat) := [(46, .if_icmp .eq (12), 3), (49, .aload_n 0, 1), (50, .getfield 220, 3), (53, .bipush (8), 2), (55, .if_icmp .ne (19), 3), (58, .aload_n 0, 1), (59, .getfield 42, 3), (62, .iload_n 1, 1), (63, .aload_n 0, 1), (64, .getfield 159, 3), (67, .bipush (8), 2), (69, .iadd, 1), (70, .iastore, 1), (71, .bipush (8), 2), (73, .ireturn, 1), (74, .aload_n 0, 1), (75, .getfield 220, 3), (78, .bipush (6), 2), (80, .if_icmp .eq (21), 3), (83, .aload_n 0, 1), (84, .getfield 220, 3), (87, .bipush (17), 2), (89, .if_icmp .eq (12), 3), (92, .aload_n 0, 1)]
theorem id_Mod_time_1 : ∀ q ∈ it_Mod_time_1, decode prog_13_method_41_code q.1 = .ok q.2 := by decide +kernel
theorem d_Mod_time_46 : decode prog_13_method_41_code 46 = .ok (.if_icmp .eq (12), 3) := id_Mod_time_1 (46, .if_icmp .eq (12), 3) (List.mem_of_getElem? (i := 0) rfl)
theorem d_Mod_time_49 : decode prog_13_method_41_code 49 = .ok (.aload_n 0, 1) := id_Mod_time_1 (49, .aload_n 0, 1) (List.mem_of_getElem? (i := 1) rfl)
theorem d_Mod_time_50 : decode prog_13_method_41_code 50 = .ok (.getfield 220, 3) := id_Mod_time_1 (50, .getfield 220, 3) (List.mem_of_getElem? (i := 2) rfl)
theorem d_Mod_time_53 : decode prog_13_method_41_code 53 = .ok (.bipush (8), 2) := id_Mod_time_1 (53, .bipush (8), 2) (List.mem_of_getElem? (i := 3) rfl)
theorem d_Mod_time_55 : decode prog_13_method_41_code 55 = .ok (.if_icmp .ne (19), 3) := id_Mod_time_1 (55, .if_icmp .ne (19), 3) (List.mem_of_getElem? (i := 4) rfl)
theorem d_Mod_time_58 : decode prog_13_method_41_code 58 = .ok (.aload_n 0, 1) := id_Mod_time_1 (58, .aload_n 0, 1) (List.mem_of_getElem? (i := 5) rfl)
theorem d_Mod_time_59 : decode prog_13_method_41_code 59 = .ok (.getfield 42, 3) := id_Mod_time_1 (59, .getfield 42, 3) (List.mem_of_getElem? (i := 6) rfl)
theorem d_Mod_time_62 : decode prog_13_method_41_code 62 = .ok (.iload_n 1, 1) := id_Mod_time_1 (62, .iload_n 1, 1) (List.mem_of_getElem? (i := 7) rfl)
theorem d_Mod_time_63 : decode prog_13_method_41_code 63 = .ok (.aload_n 0, 1) := id_Mod_time_1 (63, .aload_n 0, 1) (List.mem_of_getElem? (i := 8) rfl)
theorem d_Mod_time_64 : decode prog_13_method_41_code 64 = .ok (.getfield 159, 3) := id_Mod_time_1 (64, .getfield 159, 3) (List.mem_of_getElem? (i := 9) rfl)
theorem d_Mod_time_67 : decode prog_13_method_41_code 67 = .ok (.bipush (8), 2) := id_Mod_time_1 (67, .bipush (8), 2) (List.mem_of_getElem? (i := 10) rfl)
theorem d_Mod_time_69 : decode prog_13_method_41_code 69 = .ok (.iadd, 1) := id_Mod_time_1 (69, .iadd, 1) (List.mem_of_getElem? (i := 11) rfl)
theorem d_Mod_time_70 : decode prog_13_method_41_code 70 = .ok (.iastore, 1) := id_Mod_time_1 (70, .iastore, 1) (List.mem_of_getElem? (i := 12) rfl)
theorem d_Mod_time_71 : decode prog_13_method_41_code 71 = .ok (.bipush (8), 2) := id_Mod_time_1 (71, .bipush (8), 2) (List.mem_of_getElem? (i := 13) rfl)
theorem d_Mod_time_73 : decode prog_13_method_41_code 73 = .ok (.ireturn, 1) := id_Mod_time_1 (73, .ireturn, 1) (List.mem_of_getElem? (i := 14) rfl)
theorem d_Mod_time_74 : decode prog_13_method_41_code 74 = .ok (.aload_n 0, 1) := id_Mod_time_1 (74, .aload_n 0, 1) (List.mem_of_getElem? (i := 15) rfl)
theorem d_Mod_time_75 : decode prog_13_method_41_code 75 = .ok (.getfield 220, 3) := id_Mod_time_1 (75, .getfield 220, 3) (List.mem_of_getElem? (i := 16) rfl)
theorem d_Mod_time_78 : decode prog_13_method_41_code 78 = .ok (.bipush (6), 2) := id_Mod_time_1 (78, .bipush (6), 2) (List.mem_of_getElem? (i := 17) rfl)
theorem d_Mod_time_80 : decode prog_13_method_41_code 80 = .ok (.if_icmp .eq (21), 3) := id_Mod_time_1 (80, .if_icmp .eq (21), 3) (List.mem_of_getElem? (i := 18) rfl)
theorem d_Mod_time_83 : decode prog_13_method_41_code 83 = .ok (.aload_n 0, 1) := id_Mod_time_1 (83, .aload_n 0, 1) (List.mem_of_getElem? (i := 19) rfl)
theorem d_Mod_time_84 : decode prog_13_method_41_code 84 = .ok (.getfield 220, 3) := id_Mod_time_1 (84, .getfield 220, 3) (List.mem_of_getElem? (i := 20) rfl)
theorem d_Mod_time_87 : decode prog_13_method_41_code 87 = .ok (.bipush (17), 2) := id_Mod_time_1 (87, .bipush (17), 2) (List.mem_of_getElem? (i := 21) rfl)
theorem d_Mod_time_89 : decode prog_13_method_41_code 89 = .ok (.if_icmp .eq (12), 3) := id_Mod_time_1 (89, .if_icmp .eq (12), 3) (List.mem_of_getElem? (i := 22) rfl)
theorem d_Mod_time_92 : decode prog_13_method_41_code 92 = .ok (.aload_n 0, 1) := id_Mod_time_1 (92, .aload_n 0, 1) (List.mem_of_getElem? (i := 23) rfl)
def it_Mod_time_2 : List (Nat × ClassFile.Instr × Nat) := [(93, .getfield 220, 3), (96, .bipush (19), 2), (98, .if_icmp .ne (7), 3), (101, .iconst 3, 1), (102, .goto (4), 3), (105, .iconst 1, 1), (106, .ireturn, 1)]
theorem id_Mod_time_2 : ∀ q ∈ it_Mod_time_2, decode prog_13_method_41_code q.1 = .ok q.2 := by decide +kernel
theorem d_Mod_time_93 : decode prog_13_method_41_code 93 = .ok (.getfield 220, 3) := id_Mod_time_2 (93, .getfield 220, 3) (List.mem_of_getElem? (i := 0) rfl)
theorem d_Mod_time_96 : decode prog_13_method_41_code 96 = .ok (.bipush (19), 2) := id_Mod_time_2 (96, .bipush (19), 2) (List.mem_of_getElem? (i := 1) rfl)
theorem d_Mod_time_98 : decode prog_13_method_41_code 98 = .ok (.if_icmp .ne (7), 3) := id_Mod_time_2 (98, .if_icmp .ne (7), 3) (List.mem_of_getElem? (i := 2) rfl)
theorem d_Mod_time_101 : decode prog_13_method_41_code 101 = .ok (.iconst 3, 1) := id_Mod_time_2 (101, .iconst 3, 1) (List.mem_of_getElem? (i := 3) rfl)
theorem d_Mod_time_102 : decode prog_13_method_41_code 102 = .ok (.goto (4), 3) := id_Mod_time_2 (102, .goto (4), 3) (List.mem_of_getElem? (i := 4) rfl)
theorem d_Mod_time_105 : decode prog_13_method_41_code 105 = .ok (.iconst 1, 1) := id_Mod_time_2 (105, .iconst 1, 1) (List.mem_of_getElem? (i := 5) rfl)
theorem d_Mod_time_106 : decode prog_13_method_41_code 106 = .ok (.ireturn, 1) := id_Mod_time_2 (106, .ireturn, 1) (List.mem_of_getElem? (i := 6) rfl)
theorem wC_Mod_time : Cond.code ⟨"WarpMillModel", "time", "(II)I"⟩ prog_13_method_41_code 3 (some .int) ∈ lw_tb := mem_tb 1412 (by decide +kernel) rfl
theorem cw_Mod_time_Mod_isMemory : cW mi_Mod_time mi_Mod_isMemory 0 := ⟨wC_Mod_isMemory, wi_Mod, ⟨by decide, by decide, by decide +kernel⟩, by decide, by decide⟩
theorem cw_Mod_time_Mod_isShared : cW mi_Mod_time mi_Mod_isShared 0 := ⟨wC_Mod_isShared, wi_Mod, ⟨by decide, by decide, by decide +kernel⟩, by decide, by decide⟩
theorem cw_Mod_time_Mod_timeOfShared : cW mi_Mod_time mi_Mod_timeOfShared 2 := ⟨wC_Mod_timeOfShared, wi_Mod, ⟨by decide, by decide, by decide +kernel⟩, by decide, by decide⟩
theorem cw_Mod_time_Mod_timeOfGlobal : cW mi_Mod_time mi_Mod_timeOfGlobal 1 := ⟨wC_Mod_timeOfGlobal, wi_Mod, ⟨by decide, by decide, by decide +kernel⟩, by decide, by decide⟩
def b_Mod_time_58 (F : Nat) (x0 : Nat) (x1 : Int32) (h : Hp) : Option (Int32 × Hp) := gd (hK h x0 = 12) <| rq h (hR h 731 x0) 100 fun a_59_2 => ix x1 (hN h a_59_2) fun j_70 => pw (sA h a_59_2 j_70 ((hI h 719 x0) + (8 : Int32))) fun h_70_2 => some ((8 : Int32), h_70_2)
set_option maxRecDepth 100000 in
set_option maxHeartbeats 4000000 in
theorem e_Mod_time_58 {G : Gl} (hw : gF G) {h0 : Hp} {F : Nat} {r : Int32} {h' : Hp}   {x0 : Nat} {x1 : Int32} {h : Hp} (hf : b_Mod_time_58 F x0 x1 h = some (r, h')) : Go G mi_Mod_time h0 (pI r h') h 58 [(0, .ref x0), (1, .int x1)] [] := by
  unfold b_Mod_time_58 at hf
  refine g_aload_n d_Mod_time_58 rfl ?_
  obtain ⟨k_59, hf⟩ := gd_s hf
  obtain ⟨a_59_2, e_59_2, k_59_2, hf⟩ := rq_s hf
  refine fgs_Mod_divider lf_Mod_42 d_Mod_time_59 k_59 e_59_2 ?_
  refine g_iload_n d_Mod_time_62 rfl ?_
  refine g_aload_n d_Mod_time_63 rfl ?_
  refine fg_Mod_cycle lf_Mod_159 d_Mod_time_64 k_59 ?_
  refine g_bipush (8) d_Mod_time_67 (by decide) ?_
  refine g_iadd d_Mod_time_69 ?_
  obtain ⟨i_70, hf⟩ := ix_s hf
  refine g_iast hw k_59_2 i_70 d_Mod_time_70 ?_
  have hf := pw_b hf
  refine g_bipush (8) d_Mod_time_71 (by decide) ?_
  exact Go.ret (some _) (rOk_i _) rfl d_Mod_time_73 (pI_of hf)
def b_Mod_time_101 (F : Nat)  (h : Hp) : Option (Int32 × Hp) := some ((3 : Int32), h)
set_option maxRecDepth 100000 in
set_option maxHeartbeats 4000000 in
theorem e_Mod_time_101 {G : Gl} (hw : gF G) {h0 : Hp} {F : Nat} {r : Int32} {h' : Hp}    {h : Hp} (hf : b_Mod_time_101 F  h = some (r, h')) : Go G mi_Mod_time h0 (pI r h') h 101 [] [] := by
  unfold b_Mod_time_101 at hf
  refine g_iconst 3 d_Mod_time_101 (by decide) ?_
  refine g_goto 106 d_Mod_time_102 (by decide) ?_
  exact Go.ret (some _) (rOk_i _) rfl d_Mod_time_106 (pI_of hf)
def f_Mod_time (F : Nat) (x0 : Nat) (x1 : Int32) (x2 : Int32) (h : Hp) : Option (Int32 × Hp) := gd (hK h x0 = 12) <| cl (f_Mod_isMemory F x0 h) fun v_1_2 h_1_2 => if v_1_2 = 0 then (gd (hK h_1_2 x0 = 12) <| if (hI h_1_2 756 x0) < (70 : Int32) then (if (hI h_1_2 756 x0) = (7 : Int32) then (b_Mod_time_58 F x0 x1 h_1_2) else (if (hI h_1_2 756 x0) = (8 : Int32) then (b_Mod_time_58 F x0 x1 h_1_2) else (if (hI h_1_2 756 x0) = (6 : Int32) then (b_Mod_time_101 F h_1_2) else (if (hI h_1_2 756 x0) = (17 : Int32) then (b_Mod_time_101 F h_1_2) else (if (hI h_1_2 756 x0) = (19 : Int32) then (b_Mod_time_101 F h_1_2) else (some ((1 : Int32), h_1_2))))))) else (some ((2 : Int32), h_1_2))) else (gd (hK h_1_2 x0 = 12) <| cl (f_Mod_isShared F x0 h_1_2) fun v_8_2 h_8_2 => if v_8_2 = 0 then (gd (hK h_8_2 x0 = 12) <| cl (f_Mod_timeOfGlobal F x0 x2 h_8_2) fun v_25_2 h_25_2 => some (v_25_2, h_25_2)) else (gd (hK h_8_2 x0 = 12) <| cl (f_Mod_timeOfShared F x0 x1 x2 h_8_2) fun v_17_2 h_17_2 => some (v_17_2, h_17_2)))
set_option maxRecDepth 100000 in
set_option maxHeartbeats 4000000 in
theorem e_Mod_time {G : Gl} (hw : gF G) {F : Nat} {r : Int32} {h' : Hp} {x0 : Nat} {x1 : Int32} {x2 : Int32} {h : Hp} (hf : f_Mod_time F x0 x1 x2 h = some (r, h')) : Ex G mi_Mod_time [.ref x0, .int x1, .int x2] h (pI r h') := by
  unfold f_Mod_time at hf
  refine Ex.of nmI (by decide) (Nat.le_of_ble_eq_true rfl) ?_
  show Go G mi_Mod_time h _ h 0 [(0, .ref x0), (1, .int x1), (2, .int x2)] []
  refine g_aload_n d_Mod_time_0 rfl ?_
  obtain ⟨k_1, hf⟩ := gd_s hf
  obtain ⟨v_1_2, h_1_2, e_1_2, hf⟩ := cl_s hf
  refine g_callV (mz := mi_Mod_isMemory) (e_Mod_isMemory e_1_2) cw_Mod_time_Mod_isMemory lm_Mod_240 wI_Mod_isMemory wV_Mod_isMemory (ci := 11) k_1 (by decide) rfl rfl d_Mod_time_1 rfl rfl (by first | exact Nat.le_of_ble_eq_true rfl | simp [cat_rf, Value.category]) (fun r1 h1 hp hro => ?_)
  obtain ⟨rfl, rfl⟩ := hp
  dsimp only [Option.toList_some, Option.toList_none, List.cons_append, List.nil_append]
  refine g_if_eq 29 d_Mod_time_4 (by decide) (fun c_4 => ?_) (fun c_4 => ?_)
  · have hf := ifp hf c_4
    refine g_aload_n d_Mod_time_29 rfl ?_
    obtain ⟨k_30, hf⟩ := gd_s hf
    refine fg_Mod_op lf_Mod_220 d_Mod_time_30 k_30 ?_
    refine g_bipush (70) d_Mod_time_33 (by decide) ?_
    refine g_icmp_lt 40 d_Mod_time_35 (by decide) (fun c_35 => ?_) (fun c_35 => ?_)
    · have hf := ifp hf c_35
      refine g_aload_n d_Mod_time_40 rfl ?_
      refine fg_Mod_op lf_Mod_220 d_Mod_time_41 k_30 ?_
      refine g_bipush (7) d_Mod_time_44 (by decide) ?_
      refine g_icmp_eq 58 d_Mod_time_46 (by decide) (fun c_46 => ?_) (fun c_46 => ?_)
      · have hf := ifp hf c_46
        refine Go.locals [0, 1] rfl ?_
        have key := e_Mod_time_58 hw (G := G) (h0 := h)  hf
        exact key
      · have hf := ifn hf c_46
        refine g_aload_n d_Mod_time_49 rfl ?_
        refine fg_Mod_op lf_Mod_220 d_Mod_time_50 k_30 ?_
        refine g_bipush (8) d_Mod_time_53 (by decide) ?_
        refine g_icmp_ne 74 d_Mod_time_55 (by decide) (fun c_55 => ?_) (fun c_55 => ?_)
        · have hf := ifn hf c_55
          refine g_aload_n d_Mod_time_74 rfl ?_
          refine fg_Mod_op lf_Mod_220 d_Mod_time_75 k_30 ?_
          refine g_bipush (6) d_Mod_time_78 (by decide) ?_
          refine g_icmp_eq 101 d_Mod_time_80 (by decide) (fun c_80 => ?_) (fun c_80 => ?_)
          · have hf := ifp hf c_80
            refine Go.locals [] rfl ?_
            have key := e_Mod_time_101 hw (G := G) (h0 := h)  hf
            exact key
          · have hf := ifn hf c_80
            refine g_aload_n d_Mod_time_83 rfl ?_
            refine fg_Mod_op lf_Mod_220 d_Mod_time_84 k_30 ?_
            refine g_bipush (17) d_Mod_time_87 (by decide) ?_
            refine g_icmp_eq 101 d_Mod_time_89 (by decide) (fun c_89 => ?_) (fun c_89 => ?_)
            · have hf := ifp hf c_89
              refine Go.locals [] rfl ?_
              have key := e_Mod_time_101 hw (G := G) (h0 := h)  hf
              exact key
            · have hf := ifn hf c_89
              refine g_aload_n d_Mod_time_92 rfl ?_
              refine fg_Mod_op lf_Mod_220 d_Mod_time_93 k_30 ?_
              refine g_bipush (19) d_Mod_time_96 (by decide) ?_
              refine g_icmp_ne 105 d_Mod_time_98 (by decide) (fun c_98 => ?_) (fun c_98 => ?_)
              · have hf := ifn hf c_98
                refine g_iconst 1 d_Mod_time_105 (by decide) ?_
                exact Go.ret (some _) (rOk_i _) rfl d_Mod_time_106 (pI_of hf)
              · have hf := ifp hf c_98
                refine Go.locals [] rfl ?_
                have key := e_Mod_time_101 hw (G := G) (h0 := h)  hf
                exact key
        · have hf := ifp hf c_55
          refine Go.locals [0, 1] rfl ?_
          have key := e_Mod_time_58 hw (G := G) (h0 := h)  hf
          exact key
    · have hf := ifn hf c_35
      refine g_iconst 2 d_Mod_time_38 (by decide) ?_
      exact Go.ret (some _) (rOk_i _) rfl d_Mod_time_39 (pI_of hf)
  · have hf := ifn hf c_4
    refine g_aload_n d_Mod_time_7 rfl ?_
    obtain ⟨k_8, hf⟩ := gd_s hf
    obtain ⟨v_8_2, h_8_2, e_8_2, hf⟩ := cl_s hf
    refine g_callV (mz := mi_Mod_isShared) (e_Mod_isShared e_8_2) cw_Mod_time_Mod_isShared lm_Mod_275 wI_Mod_isShared wV_Mod_isShared (ci := 11) k_8 (by decide) rfl rfl d_Mod_time_8 rfl rfl (by first | exact Nat.le_of_ble_eq_true rfl | simp [cat_rf, Value.category]) (fun r1 h1 hp hro => ?_)
    obtain ⟨rfl, rfl⟩ := hp
    dsimp only [Option.toList_some, Option.toList_none, List.cons_append, List.nil_append]
    refine g_if_eq 23 d_Mod_time_11 (by decide) (fun c_11 => ?_) (fun c_11 => ?_)
    · have hf := ifp hf c_11
      refine g_aload_n d_Mod_time_23 rfl ?_
      refine g_iload_n d_Mod_time_24 rfl ?_
      obtain ⟨k_25, hf⟩ := gd_s hf
      obtain ⟨v_25_2, h_25_2, e_25_2, hf⟩ := cl_s hf
      refine g_callV (mz := mi_Mod_timeOfGlobal) (e_Mod_timeOfGlobal hw e_25_2) cw_Mod_time_Mod_timeOfGlobal lm_Mod_313 wI_Mod_timeOfGlobal wV_Mod_timeOfGlobal (ci := 11) k_25 (by decide) rfl rfl d_Mod_time_25 rfl rfl (by first | exact Nat.le_of_ble_eq_true rfl | simp [cat_rf, Value.category]) (fun r1 h1 hp hro => ?_)
      obtain ⟨rfl, rfl⟩ := hp
      dsimp only [Option.toList_some, Option.toList_none, List.cons_append, List.nil_append]
      exact Go.ret (some _) (rOk_i _) rfl d_Mod_time_28 (pI_of hf)
    · have hf := ifn hf c_11
      refine g_aload_n d_Mod_time_14 rfl ?_
      refine g_iload_n d_Mod_time_15 rfl ?_
      refine g_iload_n d_Mod_time_16 rfl ?_
      obtain ⟨k_17, hf⟩ := gd_s hf
      obtain ⟨v_17_2, h_17_2, e_17_2, hf⟩ := cl_s hf
      refine g_callV (mz := mi_Mod_timeOfShared) (e_Mod_timeOfShared hw e_17_2) cw_Mod_time_Mod_timeOfShared lm_Mod_310 wI_Mod_timeOfShared wV_Mod_timeOfShared (ci := 11) k_17 (by decide) rfl rfl d_Mod_time_17 rfl rfl (by first | exact Nat.le_of_ble_eq_true rfl | simp [cat_rf, Value.category]) (fun r1 h1 hp hro => ?_)
      obtain ⟨rfl, rfl⟩ := hp
      dsimp only [Option.toList_some, Option.toList_none, List.cons_append, List.nil_append]
      refine g_goto 28 d_Mod_time_20 (by decide) ?_
      exact Go.ret (some _) (rOk_i _) rfl d_Mod_time_28 (pI_of hf)
