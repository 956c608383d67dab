abbrev mi_Law_law : MI := (⟨"WarpMillLaw", "law", "([I)Z"⟩, code, 7, ret, 9, 221)
def it_Law_law_0 : List (Nat × ClassFile.Instr × Nat) := [(0, .new 8, 3), (3, .dup, 1), (4, .invokespecial 30, 3), (7, .astore_n 1, 1), (8, .new 31, 3), (11, .dup, 1), (12, .invokespecial 33, 3), (15, .astore_n 2, 1), (16, .iconst 1, 1), (17, .newarray .long, 2), (19, .astore_n 3, 1), (20, .iconst 0, 1), (21, .istore 4, 2), (23, .iload 4, 2), (25, .aload_n 0, 1), (26, .arraylength, 1), (27, .bipush (7), 2), (29, .isub, 1), (30, .if_icmp .gt (747), 3), (33, .aload_n 0, 1), (34, .iload 4, 2), (36, .iaload, 1), (37, .bipush (15), 2), (39, .iand, 1)]
theorem id_Law_law_0 : ∀ q ∈ it_Law_law_0, decode code q.1 = .ok q.2 := by decide +kernel
theorem d_Law_law_0 : decode code 0 = .ok (.new 8, 3) := id_Law_law_0 (0, .new 8, 3) (List.mem_of_getElem? (i := 0) rfl)
theorem d_Law_law_3 : decode code 3 = .ok (.dup, 1) := id_Law_law_0 (3, .dup, 1) (List.mem_of_getElem? (i := 1) rfl)
theorem d_Law_law_4 : decode code 4 = .ok (.invokespecial 30, 3) := id_Law_law_0 (4, .invokespecial 30, 3) (List.mem_of_getElem? (i := 2) rfl)
theorem d_Law_law_7 : decode code 7 = .ok (.astore_n 1, 1) := id_Law_law_0 (7, .astore_n 1, 1) (List.mem_of_getElem? (i := 3) rfl)
theorem d_Law_law_8 : decode code 8 = .ok (.new 31, 3) := id_Law_law_0 (8, .new 31, 3) (List.mem_of_getElem? (i := 4) rfl)
theorem d_Law_law_11 : decode code 11 = .ok (.dup, 1) := id_Law_law_0 (11, .dup, 1) (List.mem_of_getElem? (i := 5) rfl)
theorem d_Law_law_12 : decode code 12 = .ok (.invokespecial 33, 3) := id_Law_law_0 (12, .invokespecial 33, 3) (List.mem_of_getElem? (i := 6) rfl)
theorem d_Law_law_15 : decode code 15 = .ok (.astore_n 2, 1) := id_Law_law_0 (15, .astore_n 2, 1) (List.mem_of_getElem? (i := 7) rfl)
theorem d_Law_law_16 : decode code 16 = .ok (.iconst 1, 1) := id_Law_law_0 (16, .iconst 1, 1) (List.mem_of_getElem? (i := 8) rfl)
theorem d_Law_law_17 : decode code 17 = .ok (.newarray .long, 2) := id_Law_law_0 (17, .newarray .long, 2) (List.mem_of_getElem? (i := 9) rfl)
theorem d_Law_law_19 : decode code 19 = .ok (.astore_n 3, 1) := id_Law_law_0 (19, .astore_n 3, 1) (List.mem_of_getElem? (i := 10) rfl)
theorem d_Law_law_20 : decode code 20 = .ok (.iconst 0, 1) := id_Law_law_0 (20, .iconst 0, 1) (List.mem_of_getElem? (i := 11) rfl)
theorem d_Law_law_21 : decode code 21 = .ok (.istore 4, 2) := id_Law_law_0 (21, .istore 4, 2) (List.mem_of_getElem? (i := 12) rfl)
theorem d_Law_law_23 : decode code 23 = .ok (.iload 4, 2) := id_Law_law_0 (23, .iload 4, 2) (List.mem_of_getElem? (i := 13) rfl)
theorem d_Law_law_25 : decode code 25 = .ok (.aload_n 0, 1) := id_Law_law_0 (25, .aload_n 0, 1) (List.mem_of_getElem? (i := 14) rfl)
theorem d_Law_law_26 : decode code 26 = .ok (.arraylength, 1) := id_Law_law_0 (26, .arraylength, 1) (List.mem_of_getElem? (i := 15) rfl)
theorem d_Law_law_27 : decode code 27 = .ok (.bipush (7), 2) := id_Law_law_0 (27, .bipush (7), 2) (List.mem_of_getElem? (i := 16) rfl)
theorem d_Law_law_29 : decode code 29 = .ok (.isub, 1) := id_Law_law_0 (29, .isub, 1) (List.mem_of_getElem? (i := 17) rfl)
theorem d_Law_law_30 : decode code 30 = .ok (.if_icmp .gt (747), 3) := id_Law_law_0 (30, .if_icmp .gt (747), 3) (List.mem_of_getElem? (i := 18) rfl)
theorem d_Law_law_33 : decode code 33 = .ok (.aload_n 0, 1) := id_Law_law_0 (33, .aload_n 0, 1) (List.mem_of_getElem? (i := 19) rfl)
theorem d_Law_law_34 : decode code 34 = .ok (.iload 4, 2) := id_Law_law_0 (34, .iload 4, 2) (List.mem_of_getElem? (i := 20) rfl)
theorem d_Law_law_36 : decode code 36 = .ok (.iaload, 1) := id_Law_law_0 (36, .iaload, 1) (List.mem_of_getElem? (i := 21) rfl)
theorem d_Law_law_37 : decode code 37 = .ok (.bipush (15), 2) := id_Law_law_0 (37, .bipush (15), 2) (List.mem_of_getElem? (i := 22) rfl)
theorem d_Law_law_39 : decode code 39 = .ok (.iand, 1) := id_Law_law_0 (39, .iand, 1) (List.mem_of_getElem? (i := 23) rfl)
def it_Law_law_1 : List (Nat × ClassFile.Instr × Nat) := [(40, .tableswitch (731) (0) (12) #[(68), (155), (224), (261), (298), (354), (367), (423), (448), (485), (522), (571), (663)], 68), (108, .aload_n 1, 1), (109, .aload_n 0, 1), (110, .iload 4, 2), (112, .iconst 1, 1), (113, .iadd, 1), (114, .iaload, 1), (115, .aload_n 0, 1), (116, .iload 4, 2), (118, .iconst 2, 1), (119, .iadd, 1), (120, .iaload, 1), (121, .aload_n 0, 1), (122, .iload 4, 2), (124, .iconst 3, 1), (125, .iadd, 1), (126, .iaload, 1), (127, .aload_n 0, 1), (128, .iload 4, 2), (130, .iconst 4, 1), (131, .iadd, 1), (132, .iaload, 1), (133, .aload_n 0, 1), (134, .iload 4, 2)]
theorem id_Law_law_1 : ∀ q ∈ it_Law_law_1, decode code q.1 = .ok q.2 := by decide +kernel
theorem d_Law_law_40 : decode code 40 = .ok (.tableswitch (731) (0) (12) #[(68), (155), (224), (261), (298), (354), (367), (423), (448), (485), (522), (571), (663)], 68) := id_Law_law_1 (40, .tableswitch (731) (0) (12) #[(68), (155), (224), (261), (298), (354), (367), (423), (448), (485), (522), (571), (663)], 68) (List.mem_of_getElem? (i := 0) rfl)
theorem d_Law_law_108 : decode code 108 = .ok (.aload_n 1, 1) := id_Law_law_1 (108, .aload_n 1, 1) (List.mem_of_getElem? (i := 1) rfl)
theorem d_Law_law_109 : decode code 109 = .ok (.aload_n 0, 1) := id_Law_law_1 (109, .aload_n 0, 1) (List.mem_of_getElem? (i := 2) rfl)
theorem d_Law_law_110 : decode code 110 = .ok (.iload 4, 2) := id_Law_law_1 (110, .iload 4, 2) (List.mem_of_getElem? (i := 3) rfl)
theorem d_Law_law_112 : decode code 112 = .ok (.iconst 1, 1) := id_Law_law_1 (112, .iconst 1, 1) (List.mem_of_getElem? (i := 4) rfl)
theorem d_Law_law_113 : decode code 113 = .ok (.iadd, 1) := id_Law_law_1 (113, .iadd, 1) (List.mem_of_getElem? (i := 5) rfl)
theorem d_Law_law_114 : decode code 114 = .ok (.iaload, 1) := id_Law_law_1 (114, .iaload, 1) (List.mem_of_getElem? (i := 6) rfl)
theorem d_Law_law_115 : decode code 115 = .ok (.aload_n 0, 1) := id_Law_law_1 (115, .aload_n 0, 1) (List.mem_of_getElem? (i := 7) rfl)
theorem d_Law_law_116 : decode code 116 = .ok (.iload 4, 2) := id_Law_law_1 (116, .iload 4, 2) (List.mem_of_getElem? (i := 8) rfl)
theorem d_Law_law_118 : decode code 118 = .ok (.iconst 2, 1) := id_Law_law_1 (118, .iconst 2, 1) (List.mem_of_getElem? (i := 9) rfl)
theorem d_Law_law_119 : decode code 119 = .ok (.iadd, 1) := id_Law_law_1 (119, .iadd, 1) (List.mem_of_getElem? (i := 10) rfl)
theorem d_Law_law_120 : decode code 120 = .ok (.iaload, 1) := id_Law_law_1 (120, .iaload, 1) (List.mem_of_getElem? (i := 11) rfl)
theorem d_Law_law_121 : decode code 121 = .ok (.aload_n 0, 1) := id_Law_law_1 (121, .aload_n 0, 1) (List.mem_of_getElem? (i := 12) rfl)
theorem d_Law_law_122 : decode code 122 = .ok (.iload 4, 2) := id_Law_law_1 (122, .iload 4, 2) (List.mem_of_getElem? (i := 13) rfl)
theorem d_Law_law_124 : decode code 124 = .ok (.iconst 3, 1) := id_Law_law_1 (124, .iconst 3, 1) (List.mem_of_getElem? (i := 14) rfl)
theorem d_Law_law_125 : decode code 125 = .ok (.iadd, 1) := id_Law_law_1 (125, .iadd, 1) (List.mem_of_getElem? (i := 15) rfl)
theorem d_Law_law_126 : decode code 126 = .ok (.iaload, 1) := id_Law_law_1 (126, .iaload, 1) (List.mem_of_getElem? (i := 16) rfl)
theorem d_Law_law_127 : decode code 127 = .ok (.aload_n 0, 1) := id_Law_law_1 (127, .aload_n 0, 1) (List.mem_of_getElem? (i := 17) rfl)
theorem d_Law_law_128 : decode code 128 = .ok (.iload 4, 2) := id_Law_law_1 (128, .iload 4, 2) (List.mem_of_getElem? (i := 18) rfl)
theorem d_Law_law_130 : decode code 130 = .ok (.iconst 4, 1) := id_Law_law_1 (130, .iconst 4, 1) (List.mem_of_getElem? (i := 19) rfl)
theorem d_Law_law_131 : decode code 131 = .ok (.iadd, 1) := id_Law_law_1 (131, .iadd, 1) (List.mem_of_getElem? (i := 20) rfl)
theorem d_Law_law_132 : decode code 132 = .ok (.iaload, 1) := id_Law_law_1 (132, .iaload, 1) (List.mem_of_getElem? (i := 21) rfl)
theorem d_Law_law_133 : decode code 133 = .ok (.aload_n 0, 1) := id_Law_law_1 (133, .aload_n 0, 1) (List.mem_of_getElem? (i := 22) rfl)
theorem d_Law_law_134 : decode code 134 = .ok (.iload 4, 2) := id_Law_law_1 (134, .iload 4, 2) (List.mem_of_getElem? (i := 23) rfl)
def it_Law_law_2 : List (Nat × ClassFile.Instr × Nat) := [(136, .iconst 5, 1), (137, .iadd, 1), (138, .iaload, 1), (139, .aload_n 0, 1), (140, .iload 4, 2), (142, .bipush (6), 2), (144, .iadd, 1), (145, .iaload, 1), (146, .invokevirtual 34, 3), (149, .aload_n 2, 1), (150, .aload_n 0, 1), (151, .iload 4, 2), (153, .iconst 1, 1), (154, .iadd, 1), (155, .iaload, 1), (156, .aload_n 0, 1), (157, .iload 4, 2), (159, .iconst 2, 1), (160, .iadd, 1), (161, .iaload, 1), (162, .aload_n 0, 1), (163, .iload 4, 2), (165, .iconst 3, 1), (166, .iadd, 1)]
theorem id_Law_law_2 : ∀ q ∈ it_Law_law_2, decode code q.1 = .ok q.2 := by decide +kernel
theorem d_Law_law_136 : decode code 136 = .ok (.iconst 5, 1) := id_Law_law_2 (136, .iconst 5, 1) (List.mem_of_getElem? (i := 0) rfl)
theorem d_Law_law_137 : decode code 137 = .ok (.iadd, 1) := id_Law_law_2 (137, .iadd, 1) (List.mem_of_getElem? (i := 1) rfl)
theorem d_Law_law_138 : decode code 138 = .ok (.iaload, 1) := id_Law_law_2 (138, .iaload, 1) (List.mem_of_getElem? (i := 2) rfl)
theorem d_Law_law_139 : decode code 139 = .ok (.aload_n 0, 1) := id_Law_law_2 (139, .aload_n 0, 1) (List.mem_of_getElem? (i := 3) rfl)
theorem d_Law_law_140 : decode code 140 = .ok (.iload 4, 2) := id_Law_law_2 (140, .iload 4, 2) (List.mem_of_getElem? (i := 4) rfl)
theorem d_Law_law_142 : decode code 142 = .ok (.bipush (6), 2) := id_Law_law_2 (142, .bipush (6), 2) (List.mem_of_getElem? (i := 5) rfl)
theorem d_Law_law_144 : decode code 144 = .ok (.iadd, 1) := id_Law_law_2 (144, .iadd, 1) (List.mem_of_getElem? (i := 6) rfl)
theorem d_Law_law_145 : decode code 145 = .ok (.iaload, 1) := id_Law_law_2 (145, .iaload, 1) (List.mem_of_getElem? (i := 7) rfl)
theorem d_Law_law_146 : decode code 146 = .ok (.invokevirtual 34, 3) := id_Law_law_2 (146, .invokevirtual 34, 3) (List.mem_of_getElem? (i := 8) rfl)
theorem d_Law_law_149 : decode code 149 = .ok (.aload_n 2, 1) := id_Law_law_2 (149, .aload_n 2, 1) (List.mem_of_getElem? (i := 9) rfl)
theorem d_Law_law_150 : decode code 150 = .ok (.aload_n 0, 1) := id_Law_law_2 (150, .aload_n 0, 1) (List.mem_of_getElem? (i := 10) rfl)
theorem d_Law_law_151 : decode code 151 = .ok (.iload 4, 2) := id_Law_law_2 (151, .iload 4, 2) (List.mem_of_getElem? (i := 11) rfl)
theorem d_Law_law_153 : decode code 153 = .ok (.iconst 1, 1) := id_Law_law_2 (153, .iconst 1, 1) (List.mem_of_getElem? (i := 12) rfl)
theorem d_Law_law_154 : decode code 154 = .ok (.iadd, 1) := id_Law_law_2 (154, .iadd, 1) (List.mem_of_getElem? (i := 13) rfl)
theorem d_Law_law_155 : decode code 155 = .ok (.iaload, 1) := id_Law_law_2 (155, .iaload, 1) (List.mem_of_getElem? (i := 14) rfl)
theorem d_Law_law_156 : decode code 156 = .ok (.aload_n 0, 1) := id_Law_law_2 (156, .aload_n 0, 1) (List.mem_of_getElem? (i := 15) rfl)
theorem d_Law_law_157 : decode code 157 = .ok (.iload 4, 2) := id_Law_law_2 (157, .iload 4, 2) (List.mem_of_getElem? (i := 16) rfl)
theorem d_Law_law_159 : decode code 159 = .ok (.iconst 2, 1) := id_Law_law_2 (159, .iconst 2, 1) (List.mem_of_getElem? (i := 17) rfl)
theorem d_Law_law_160 : decode code 160 = .ok (.iadd, 1) := id_Law_law_2 (160, .iadd, 1) (List.mem_of_getElem? (i := 18) rfl)
theorem d_Law_law_161 : decode code 161 = .ok (.iaload, 1) := id_Law_law_2 (161, .iaload, 1) (List.mem_of_getElem? (i := 19) rfl)
theorem d_Law_law_162 : decode code 162 = .ok (.aload_n 0, 1) := id_Law_law_2 (162, .aload_n 0, 1) (List.mem_of_getElem? (i := 20) rfl)
theorem d_Law_law_163 : decode code 163 = .ok (.iload 4, 2) := id_Law_law_2 (163, .iload 4, 2) (List.mem_of_getElem? (i := 21) rfl)
theorem d_Law_law_165 : decode code 165 = .ok (.iconst 3, 1) := id_Law_law_2 (165, .iconst 3, 1) (List.mem_of_getElem? (i := 22) rfl)
theorem d_Law_law_166 : decode code 166 = .ok (.iadd, 1) := id_Law_law_2 (166, .iadd, 1) (List.mem_of_getElem? (i := 23) rfl)
def it_Law_law_3 : List (Nat × ClassFile.Instr × Nat) := [(167, .iaload, 1), (168, .aload_n 0, 1), (169, .iload 4, 2), (171, .iconst 4, 1), (172, .iadd, 1), (173, .iaload, 1), (174, .aload_n 0, 1), (175, .iload 4, 2), (177, .iconst 5, 1), (178, .iadd, 1), (179, .iaload, 1), (180, .aload_n 0, 1), (181, .iload 4, 2), (183, .bipush (6), 2), (185, .iadd, 1), (186, .iaload, 1), (187, .invokevirtual 38, 3), (190, .if_icmp .eq (581), 3), (193, .iconst 0, 1), (194, .ireturn, 1), (195, .aload_n 1, 1), (196, .aload_n 0, 1), (197, .iload 4, 2), (199, .iconst 1, 1)]
theorem id_Law_law_3 : ∀ q ∈ it_Law_law_3, decode code q.1 = .ok q.2 := by decide +kernel
theorem d_Law_law_167 : decode code 167 = .ok (.iaload, 1) := id_Law_law_3 (167, .iaload, 1) (List.mem_of_getElem? (i := 0) rfl)
theorem d_Law_law_168 : decode code 168 = .ok (.aload_n 0, 1) := id_Law_law_3 (168, .aload_n 0, 1) (List.mem_of_getElem? (i := 1) rfl)
theorem d_Law_law_169 : decode code 169 = .ok (.iload 4, 2) := id_Law_law_3 (169, .iload 4, 2) (List.mem_of_getElem? (i := 2) rfl)
theorem d_Law_law_171 : decode code 171 = .ok (.iconst 4, 1) := id_Law_law_3 (171, .iconst 4, 1) (List.mem_of_getElem? (i := 3) rfl)
theorem d_Law_law_172 : decode code 172 = .ok (.iadd, 1) := id_Law_law_3 (172, .iadd, 1) (List.mem_of_getElem? (i := 4) rfl)
theorem d_Law_law_173 : decode code 173 = .ok (.iaload, 1) := id_Law_law_3 (173, .iaload, 1) (List.mem_of_getElem? (i := 5) rfl)
theorem d_Law_law_174 : decode code 174 = .ok (.aload_n 0, 1) := id_Law_law_3 (174, .aload_n 0, 1) (List.mem_of_getElem? (i := 6) rfl)
theorem d_Law_law_175 : decode code 175 = .ok (.iload 4, 2) := id_Law_law_3 (175, .iload 4, 2) (List.mem_of_getElem? (i := 7) rfl)
theorem d_Law_law_177 : decode code 177 = .ok (.iconst 5, 1) := id_Law_law_3 (177, .iconst 5, 1) (List.mem_of_getElem? (i := 8) rfl)
theorem d_Law_law_178 : decode code 178 = .ok (.iadd, 1) := id_Law_law_3 (178, .iadd, 1) (List.mem_of_getElem? (i := 9) rfl)
theorem d_Law_law_179 : decode code 179 = .ok (.iaload, 1) := id_Law_law_3 (179, .iaload, 1) (List.mem_of_getElem? (i := 10) rfl)
theorem d_Law_law_180 : decode code 180 = .ok (.aload_n 0, 1) := id_Law_law_3 (180, .aload_n 0, 1) (List.mem_of_getElem? (i := 11) rfl)
theorem d_Law_law_181 : decode code 181 = .ok (.iload 4, 2) := id_Law_law_3 (181, .iload 4, 2) (List.mem_of_getElem? (i := 12) rfl)
theorem d_Law_law_183 : decode code 183 = .ok (.bipush (6), 2) := id_Law_law_3 (183, .bipush (6), 2) (List.mem_of_getElem? (i := 13) rfl)
theorem d_Law_law_185 : decode code 185 = .ok (.iadd, 1) := id_Law_law_3 (185, .iadd, 1) (List.mem_of_getElem? (i := 14) rfl)
theorem d_Law_law_186 : decode code 186 = .ok (.iaload, 1) := id_Law_law_3 (186, .iaload, 1) (List.mem_of_getElem? (i := 15) rfl)
theorem d_Law_law_187 : decode code 187 = .ok (.invokevirtual 38, 3) := id_Law_law_3 (187, .invokevirtual 38, 3) (List.mem_of_getElem? (i := 16) rfl)
theorem d_Law_law_190 : decode code 190 = .ok (.if_icmp .eq (581), 3) := id_Law_law_3 (190, .if_icmp .eq (581), 3) (List.mem_of_getElem? (i := 17) rfl)
theorem d_Law_law_193 : decode code 193 = .ok (.iconst 0, 1) := id_Law_law_3 (193, .iconst 0, 1) (List.mem_of_getElem? (i := 18) rfl)
theorem d_Law_law_194 : decode code 194 = .ok (.ireturn, 1) := id_Law_law_3 (194, .ireturn, 1) (List.mem_of_getElem? (i := 19) rfl)
theorem d_Law_law_195 : decode code 195 = .ok (.aload_n 1, 1) := id_Law_law_3 (195, .aload_n 1, 1) (List.mem_of_getElem? (i := 20) rfl)
theorem d_Law_law_196 : decode code 196 = .ok (.aload_n 0, 1) := id_Law_law_3 (196, .aload_n 0, 1) (List.mem_of_getElem? (i := 21) rfl)
theorem d_Law_law_197 : decode code 197 = .ok (.iload 4, 2) := id_Law_law_3 (197, .iload 4, 2) (List.mem_of_getElem? (i := 22) rfl)
theorem d_Law_law_199 : decode code 199 = .ok (.iconst 1, 1) := id_Law_law_3 (199, .iconst 1, 1) (List.mem_of_getElem? (i := 23) rfl)
def it_Law_law_4 : List (Nat × ClassFile.Instr × Nat) := [(200, .iadd, 1), (201, .iaload, 1), (202, .aload_n 0, 1), (203, .iload 4, 2), (205, .iconst 2, 1), (206, .iadd, 1), (207, .iaload, 1), (208, .i2l, 1), (209, .bipush (32), 2), (211, .lshl, 1), (212, .aload_n 0, 1), (213, .iload 4, 2), (215, .iconst 3, 1), (216, .iadd, 1), (217, .iaload, 1), (218, .i2l, 1), (219, .ldc2_w 39, 3), (222, .land, 1), (223, .lor, 1), (224, .invokevirtual 41, 3), (227, .aload_n 2, 1), (228, .aload_n 0, 1), (229, .iload 4, 2), (231, .iconst 1, 1)]
theorem id_Law_law_4 : ∀ q ∈ it_Law_law_4, decode code q.1 = .ok q.2 := by decide +kernel
theorem d_Law_law_200 : decode code 200 = .ok (.iadd, 1) := id_Law_law_4 (200, .iadd, 1) (List.mem_of_getElem? (i := 0) rfl)
theorem d_Law_law_201 : decode code 201 = .ok (.iaload, 1) := id_Law_law_4 (201, .iaload, 1) (List.mem_of_getElem? (i := 1) rfl)
theorem d_Law_law_202 : decode code 202 = .ok (.aload_n 0, 1) := id_Law_law_4 (202, .aload_n 0, 1) (List.mem_of_getElem? (i := 2) rfl)
theorem d_Law_law_203 : decode code 203 = .ok (.iload 4, 2) := id_Law_law_4 (203, .iload 4, 2) (List.mem_of_getElem? (i := 3) rfl)
theorem d_Law_law_205 : decode code 205 = .ok (.iconst 2, 1) := id_Law_law_4 (205, .iconst 2, 1) (List.mem_of_getElem? (i := 4) rfl)
theorem d_Law_law_206 : decode code 206 = .ok (.iadd, 1) := id_Law_law_4 (206, .iadd, 1) (List.mem_of_getElem? (i := 5) rfl)
theorem d_Law_law_207 : decode code 207 = .ok (.iaload, 1) := id_Law_law_4 (207, .iaload, 1) (List.mem_of_getElem? (i := 6) rfl)
theorem d_Law_law_208 : decode code 208 = .ok (.i2l, 1) := id_Law_law_4 (208, .i2l, 1) (List.mem_of_getElem? (i := 7) rfl)
theorem d_Law_law_209 : decode code 209 = .ok (.bipush (32), 2) := id_Law_law_4 (209, .bipush (32), 2) (List.mem_of_getElem? (i := 8) rfl)
theorem d_Law_law_211 : decode code 211 = .ok (.lshl, 1) := id_Law_law_4 (211, .lshl, 1) (List.mem_of_getElem? (i := 9) rfl)
theorem d_Law_law_212 : decode code 212 = .ok (.aload_n 0, 1) := id_Law_law_4 (212, .aload_n 0, 1) (List.mem_of_getElem? (i := 10) rfl)
theorem d_Law_law_213 : decode code 213 = .ok (.iload 4, 2) := id_Law_law_4 (213, .iload 4, 2) (List.mem_of_getElem? (i := 11) rfl)
theorem d_Law_law_215 : decode code 215 = .ok (.iconst 3, 1) := id_Law_law_4 (215, .iconst 3, 1) (List.mem_of_getElem? (i := 12) rfl)
theorem d_Law_law_216 : decode code 216 = .ok (.iadd, 1) := id_Law_law_4 (216, .iadd, 1) (List.mem_of_getElem? (i := 13) rfl)
theorem d_Law_law_217 : decode code 217 = .ok (.iaload, 1) := id_Law_law_4 (217, .iaload, 1) (List.mem_of_getElem? (i := 14) rfl)
theorem d_Law_law_218 : decode code 218 = .ok (.i2l, 1) := id_Law_law_4 (218, .i2l, 1) (List.mem_of_getElem? (i := 15) rfl)
theorem d_Law_law_219 : decode code 219 = .ok (.ldc2_w 39, 3) := id_Law_law_4 (219, .ldc2_w 39, 3) (List.mem_of_getElem? (i := 16) rfl)
theorem d_Law_law_222 : decode code 222 = .ok (.land, 1) := id_Law_law_4 (222, .land, 1) (List.mem_of_getElem? (i := 17) rfl)
theorem d_Law_law_223 : decode code 223 = .ok (.lor, 1) := id_Law_law_4 (223, .lor, 1) (List.mem_of_getElem? (i := 18) rfl)
theorem d_Law_law_224 : decode code 224 = .ok (.invokevirtual 41, 3) := id_Law_law_4 (224, .invokevirtual 41, 3) (List.mem_of_getElem? (i := 19) rfl)
theorem d_Law_law_227 : decode code 227 = .ok (.aload_n 2, 1) := id_Law_law_4 (227, .aload_n 2, 1) (List.mem_of_getElem? (i := 20) rfl)
theorem d_Law_law_228 : decode code 228 = .ok (.aload_n 0, 1) := id_Law_law_4 (228, .aload_n 0, 1) (List.mem_of_getElem? (i := 21) rfl)
theorem d_Law_law_229 : decode code 229 = .ok (.iload 4, 2) := id_Law_law_4 (229, .iload 4, 2) (List.mem_of_getElem? (i := 22) rfl)
theorem d_Law_law_231 : decode code 231 = .ok (.iconst 1, 1) := id_Law_law_4 (231, .iconst 1, 1) (List.mem_of_getElem? (i := 23) rfl)
def it_Law_law_5 : List (Nat × ClassFile.Instr × Nat) := [(232, .iadd, 1), (233, .iaload, 1), (234, .aload_n 0, 1), (235, .iload 4, 2), (237, .iconst 2, 1), (238, .iadd, 1), (239, .iaload, 1), (240, .i2l, 1), (241, .bipush (32), 2), (243, .lshl, 1), (244, .aload_n 0, 1), (245, .iload 4, 2), (247, .iconst 3, 1), (248, .iadd, 1), (249, .iaload, 1), (250, .i2l, 1), (251, .ldc2_w 39, 3), (254, .land, 1), (255, .lor, 1), (256, .invokevirtual 45, 3), (259, .if_icmp .eq (512), 3), (262, .iconst 0, 1), (263, .ireturn, 1), (264, .aload_n 1, 1)]
theorem id_Law_law_5 : ∀ q ∈ it_Law_law_5, decode code q.1 = .ok q.2 := by decide +kernel
theorem d_Law_law_232 : decode code 232 = .ok (.iadd, 1) := id_Law_law_5 (232, .iadd, 1) (List.mem_of_getElem? (i := 0) rfl)
theorem d_Law_law_233 : decode code 233 = .ok (.iaload, 1) := id_Law_law_5 (233, .iaload, 1) (List.mem_of_getElem? (i := 1) rfl)
theorem d_Law_law_234 : decode code 234 = .ok (.aload_n 0, 1) := id_Law_law_5 (234, .aload_n 0, 1) (List.mem_of_getElem? (i := 2) rfl)
theorem d_Law_law_235 : decode code 235 = .ok (.iload 4, 2) := id_Law_law_5 (235, .iload 4, 2) (List.mem_of_getElem? (i := 3) rfl)
theorem d_Law_law_237 : decode code 237 = .ok (.iconst 2, 1) := id_Law_law_5 (237, .iconst 2, 1) (List.mem_of_getElem? (i := 4) rfl)
theorem d_Law_law_238 : decode code 238 = .ok (.iadd, 1) := id_Law_law_5 (238, .iadd, 1) (List.mem_of_getElem? (i := 5) rfl)
theorem d_Law_law_239 : decode code 239 = .ok (.iaload, 1) := id_Law_law_5 (239, .iaload, 1) (List.mem_of_getElem? (i := 6) rfl)
theorem d_Law_law_240 : decode code 240 = .ok (.i2l, 1) := id_Law_law_5 (240, .i2l, 1) (List.mem_of_getElem? (i := 7) rfl)
theorem d_Law_law_241 : decode code 241 = .ok (.bipush (32), 2) := id_Law_law_5 (241, .bipush (32), 2) (List.mem_of_getElem? (i := 8) rfl)
theorem d_Law_law_243 : decode code 243 = .ok (.lshl, 1) := id_Law_law_5 (243, .lshl, 1) (List.mem_of_getElem? (i := 9) rfl)
theorem d_Law_law_244 : decode code 244 = .ok (.aload_n 0, 1) := id_Law_law_5 (244, .aload_n 0, 1) (List.mem_of_getElem? (i := 10) rfl)
theorem d_Law_law_245 : decode code 245 = .ok (.iload 4, 2) := id_Law_law_5 (245, .iload 4, 2) (List.mem_of_getElem? (i := 11) rfl)
theorem d_Law_law_247 : decode code 247 = .ok (.iconst 3, 1) := id_Law_law_5 (247, .iconst 3, 1) (List.mem_of_getElem? (i := 12) rfl)
theorem d_Law_law_248 : decode code 248 = .ok (.iadd, 1) := id_Law_law_5 (248, .iadd, 1) (List.mem_of_getElem? (i := 13) rfl)
theorem d_Law_law_249 : decode code 249 = .ok (.iaload, 1) := id_Law_law_5 (249, .iaload, 1) (List.mem_of_getElem? (i := 14) rfl)
theorem d_Law_law_250 : decode code 250 = .ok (.i2l, 1) := id_Law_law_5 (250, .i2l, 1) (List.mem_of_getElem? (i := 15) rfl)
theorem d_Law_law_251 : decode code 251 = .ok (.ldc2_w 39, 3) := id_Law_law_5 (251, .ldc2_w 39, 3) (List.mem_of_getElem? (i := 16) rfl)
theorem d_Law_law_254 : decode code 254 = .ok (.land, 1) := id_Law_law_5 (254, .land, 1) (List.mem_of_getElem? (i := 17) rfl)
theorem d_Law_law_255 : decode code 255 = .ok (.lor, 1) := id_Law_law_5 (255, .lor, 1) (List.mem_of_getElem? (i := 18) rfl)
theorem d_Law_law_256 : decode code 256 = .ok (.invokevirtual 45, 3) := id_Law_law_5 (256, .invokevirtual 45, 3) (List.mem_of_getElem? (i := 19) rfl)
theorem d_Law_law_259 : decode code 259 = .ok (.if_icmp .eq (512), 3) := id_Law_law_5 (259, .if_icmp .eq (512), 3) (List.mem_of_getElem? (i := 20) rfl)
theorem d_Law_law_262 : decode code 262 = .ok (.iconst 0, 1) := id_Law_law_5 (262, .iconst 0, 1) (List.mem_of_getElem? (i := 21) rfl)
theorem d_Law_law_263 : decode code 263 = .ok (.ireturn, 1) := id_Law_law_5 (263, .ireturn, 1) (List.mem_of_getElem? (i := 22) rfl)
theorem d_Law_law_264 : decode code 264 = .ok (.aload_n 1, 1) := id_Law_law_5 (264, .aload_n 1, 1) (List.mem_of_getElem? (i := 23) rfl)
def it_Law_law_6 : List (Nat × ClassFile.Instr × Nat) := [(265, .aload_n 0, 1), (266, .iload 4, 2), (268, .iconst 1, 1), (269, .iadd, 1), (270, .iaload, 1), (271, .aload_n 0, 1), (272, .iload 4, 2), (274, .iconst 2, 1), (275, .iadd, 1), (276, .iaload, 1), (277, .invokevirtual 46, 3), (280, .aload_n 2, 1), (281, .aload_n 0, 1), (282, .iload 4, 2), (284, .iconst 1, 1), (285, .iadd, 1), (286, .iaload, 1), (287, .aload_n 0, 1), (288, .iload 4, 2), (290, .iconst 2, 1), (291, .iadd, 1), (292, .iaload, 1), (293, .invokevirtual 50, 3), (296, .if_icmp .eq (475), 3)]
theorem id_Law_law_6 : ∀ q ∈ it_Law_law_6, decode code q.1 = .ok q.2 := by decide +kernel
theorem d_Law_law_265 : decode code 265 = .ok (.aload_n 0, 1) := id_Law_law_6 (265, .aload_n 0, 1) (List.mem_of_getElem? (i := 0) rfl)
theorem d_Law_law_266 : decode code 266 = .ok (.iload 4, 2) := id_Law_law_6 (266, .iload 4, 2) (List.mem_of_getElem? (i := 1) rfl)
theorem d_Law_law_268 : decode code 268 = .ok (.iconst 1, 1) := id_Law_law_6 (268, .iconst 1, 1) (List.mem_of_getElem? (i := 2) rfl)
theorem d_Law_law_269 : decode code 269 = .ok (.iadd, 1) := id_Law_law_6 (269, .iadd, 1) (List.mem_of_getElem? (i := 3) rfl)
theorem d_Law_law_270 : decode code 270 = .ok (.iaload, 1) := id_Law_law_6 (270, .iaload, 1) (List.mem_of_getElem? (i := 4) rfl)
theorem d_Law_law_271 : decode code 271 = .ok (.aload_n 0, 1) := id_Law_law_6 (271, .aload_n 0, 1) (List.mem_of_getElem? (i := 5) rfl)
theorem d_Law_law_272 : decode code 272 = .ok (.iload 4, 2) := id_Law_law_6 (272, .iload 4, 2) (List.mem_of_getElem? (i := 6) rfl)
theorem d_Law_law_274 : decode code 274 = .ok (.iconst 2, 1) := id_Law_law_6 (274, .iconst 2, 1) (List.mem_of_getElem? (i := 7) rfl)
theorem d_Law_law_275 : decode code 275 = .ok (.iadd, 1) := id_Law_law_6 (275, .iadd, 1) (List.mem_of_getElem? (i := 8) rfl)
theorem d_Law_law_276 : decode code 276 = .ok (.iaload, 1) := id_Law_law_6 (276, .iaload, 1) (List.mem_of_getElem? (i := 9) rfl)
theorem d_Law_law_277 : decode code 277 = .ok (.invokevirtual 46, 3) := id_Law_law_6 (277, .invokevirtual 46, 3) (List.mem_of_getElem? (i := 10) rfl)
theorem d_Law_law_280 : decode code 280 = .ok (.aload_n 2, 1) := id_Law_law_6 (280, .aload_n 2, 1) (List.mem_of_getElem? (i := 11) rfl)
theorem d_Law_law_281 : decode code 281 = .ok (.aload_n 0, 1) := id_Law_law_6 (281, .aload_n 0, 1) (List.mem_of_getElem? (i := 12) rfl)
theorem d_Law_law_282 : decode code 282 = .ok (.iload 4, 2) := id_Law_law_6 (282, .iload 4, 2) (List.mem_of_getElem? (i := 13) rfl)
theorem d_Law_law_284 : decode code 284 = .ok (.iconst 1, 1) := id_Law_law_6 (284, .iconst 1, 1) (List.mem_of_getElem? (i := 14) rfl)
theorem d_Law_law_285 : decode code 285 = .ok (.iadd, 1) := id_Law_law_6 (285, .iadd, 1) (List.mem_of_getElem? (i := 15) rfl)
theorem d_Law_law_286 : decode code 286 = .ok (.iaload, 1) := id_Law_law_6 (286, .iaload, 1) (List.mem_of_getElem? (i := 16) rfl)
theorem d_Law_law_287 : decode code 287 = .ok (.aload_n 0, 1) := id_Law_law_6 (287, .aload_n 0, 1) (List.mem_of_getElem? (i := 17) rfl)
theorem d_Law_law_288 : decode code 288 = .ok (.iload 4, 2) := id_Law_law_6 (288, .iload 4, 2) (List.mem_of_getElem? (i := 18) rfl)
theorem d_Law_law_290 : decode code 290 = .ok (.iconst 2, 1) := id_Law_law_6 (290, .iconst 2, 1) (List.mem_of_getElem? (i := 19) rfl)
theorem d_Law_law_291 : decode code 291 = .ok (.iadd, 1) := id_Law_law_6 (291, .iadd, 1) (List.mem_of_getElem? (i := 20) rfl)
theorem d_Law_law_292 : decode code 292 = .ok (.iaload, 1) := id_Law_law_6 (292, .iaload, 1) (List.mem_of_getElem? (i := 21) rfl)
theorem d_Law_law_293 : decode code 293 = .ok (.invokevirtual 50, 3) := id_Law_law_6 (293, .invokevirtual 50, 3) (List.mem_of_getElem? (i := 22) rfl)
theorem d_Law_law_296 : decode code 296 = .ok (.if_icmp .eq (475), 3) := id_Law_law_6 (296, .if_icmp .eq (475), 3) (List.mem_of_getElem? (i := 23) rfl)
def it_Law_law_7 : List (Nat × ClassFile.Instr × Nat) := [(299, .iconst 0, 1), (300, .ireturn, 1), (301, .aload_n 1, 1), (302, .aload_n 0, 1), (303, .iload 4, 2), (305, .iconst 1, 1), (306, .iadd, 1), (307, .iaload, 1), (308, .aload_n 0, 1), (309, .iload 4, 2), (311, .iconst 2, 1), (312, .iadd, 1), (313, .iaload, 1), (314, .invokevirtual 51, 3), (317, .aload_n 2, 1), (318, .aload_n 0, 1), (319, .iload 4, 2), (321, .iconst 1, 1), (322, .iadd, 1), (323, .iaload, 1), (324, .aload_n 0, 1), (325, .iload 4, 2), (327, .iconst 2, 1), (328, .iadd, 1)]
theorem id_Law_law_7 : ∀ q ∈ it_Law_law_7, decode code q.1 = .ok q.2 := by decide +kernel
theorem d_Law_law_299 : decode code 299 = .ok (.iconst 0, 1) := id_Law_law_7 (299, .iconst 0, 1) (List.mem_of_getElem? (i := 0) rfl)
theorem d_Law_law_300 : decode code 300 = .ok (.ireturn, 1) := id_Law_law_7 (300, .ireturn, 1) (List.mem_of_getElem? (i := 1) rfl)
theorem d_Law_law_301 : decode code 301 = .ok (.aload_n 1, 1) := id_Law_law_7 (301, .aload_n 1, 1) (List.mem_of_getElem? (i := 2) rfl)
theorem d_Law_law_302 : decode code 302 = .ok (.aload_n 0, 1) := id_Law_law_7 (302, .aload_n 0, 1) (List.mem_of_getElem? (i := 3) rfl)
theorem d_Law_law_303 : decode code 303 = .ok (.iload 4, 2) := id_Law_law_7 (303, .iload 4, 2) (List.mem_of_getElem? (i := 4) rfl)
theorem d_Law_law_305 : decode code 305 = .ok (.iconst 1, 1) := id_Law_law_7 (305, .iconst 1, 1) (List.mem_of_getElem? (i := 5) rfl)
theorem d_Law_law_306 : decode code 306 = .ok (.iadd, 1) := id_Law_law_7 (306, .iadd, 1) (List.mem_of_getElem? (i := 6) rfl)
theorem d_Law_law_307 : decode code 307 = .ok (.iaload, 1) := id_Law_law_7 (307, .iaload, 1) (List.mem_of_getElem? (i := 7) rfl)
theorem d_Law_law_308 : decode code 308 = .ok (.aload_n 0, 1) := id_Law_law_7 (308, .aload_n 0, 1) (List.mem_of_getElem? (i := 8) rfl)
theorem d_Law_law_309 : decode code 309 = .ok (.iload 4, 2) := id_Law_law_7 (309, .iload 4, 2) (List.mem_of_getElem? (i := 9) rfl)
theorem d_Law_law_311 : decode code 311 = .ok (.iconst 2, 1) := id_Law_law_7 (311, .iconst 2, 1) (List.mem_of_getElem? (i := 10) rfl)
theorem d_Law_law_312 : decode code 312 = .ok (.iadd, 1) := id_Law_law_7 (312, .iadd, 1) (List.mem_of_getElem? (i := 11) rfl)
theorem d_Law_law_313 : decode code 313 = .ok (.iaload, 1) := id_Law_law_7 (313, .iaload, 1) (List.mem_of_getElem? (i := 12) rfl)
theorem d_Law_law_314 : decode code 314 = .ok (.invokevirtual 51, 3) := id_Law_law_7 (314, .invokevirtual 51, 3) (List.mem_of_getElem? (i := 13) rfl)
theorem d_Law_law_317 : decode code 317 = .ok (.aload_n 2, 1) := id_Law_law_7 (317, .aload_n 2, 1) (List.mem_of_getElem? (i := 14) rfl)
theorem d_Law_law_318 : decode code 318 = .ok (.aload_n 0, 1) := id_Law_law_7 (318, .aload_n 0, 1) (List.mem_of_getElem? (i := 15) rfl)
theorem d_Law_law_319 : decode code 319 = .ok (.iload 4, 2) := id_Law_law_7 (319, .iload 4, 2) (List.mem_of_getElem? (i := 16) rfl)
theorem d_Law_law_321 : decode code 321 = .ok (.iconst 1, 1) := id_Law_law_7 (321, .iconst 1, 1) (List.mem_of_getElem? (i := 17) rfl)
theorem d_Law_law_322 : decode code 322 = .ok (.iadd, 1) := id_Law_law_7 (322, .iadd, 1) (List.mem_of_getElem? (i := 18) rfl)
theorem d_Law_law_323 : decode code 323 = .ok (.iaload, 1) := id_Law_law_7 (323, .iaload, 1) (List.mem_of_getElem? (i := 19) rfl)
theorem d_Law_law_324 : decode code 324 = .ok (.aload_n 0, 1) := id_Law_law_7 (324, .aload_n 0, 1) (List.mem_of_getElem? (i := 20) rfl)
theorem d_Law_law_325 : decode code 325 = .ok (.iload 4, 2) := id_Law_law_7 (325, .iload 4, 2) (List.mem_of_getElem? (i := 21) rfl)
theorem d_Law_law_327 : decode code 327 = .ok (.iconst 2, 1) := id_Law_law_7 (327, .iconst 2, 1) (List.mem_of_getElem? (i := 22) rfl)
theorem d_Law_law_328 : decode code 328 = .ok (.iadd, 1) := id_Law_law_7 (328, .iadd, 1) (List.mem_of_getElem? (i := 23) rfl)
def it_Law_law_8 : List (Nat × ClassFile.Instr × Nat) := [(329, .iaload, 1), (330, .invokevirtual 54, 3), (333, .if_icmp .eq (438), 3), (336, .iconst 0, 1), (337, .ireturn, 1), (338, .aload_n 1, 1), (339, .aload_n 0, 1), (340, .iload 4, 2), (342, .iconst 1, 1), (343, .iadd, 1), (344, .iaload, 1), (345, .aload_n 3, 1), (346, .invokestatic 55, 3), (349, .istore 5, 2), (351, .aload_n 2, 1), (352, .aload_n 0, 1), (353, .iload 4, 2), (355, .iconst 1, 1), (356, .iadd, 1), (357, .iaload, 1), (358, .invokevirtual 60, 3), (361, .istore 6, 2), (363, .aload_n 2, 1), (364, .invokevirtual 61, 3)]
theorem id_Law_law_8 : ∀ q ∈ it_Law_law_8, decode code q.1 = .ok q.2 := by decide +kernel
theorem d_Law_law_329 : decode code 329 = .ok (.iaload, 1) := id_Law_law_8 (329, .iaload, 1) (List.mem_of_getElem? (i := 0) rfl)
theorem d_Law_law_330 : decode code 330 = .ok (.invokevirtual 54, 3) := id_Law_law_8 (330, .invokevirtual 54, 3) (List.mem_of_getElem? (i := 1) rfl)
theorem d_Law_law_333 : decode code 333 = .ok (.if_icmp .eq (438), 3) := id_Law_law_8 (333, .if_icmp .eq (438), 3) (List.mem_of_getElem? (i := 2) rfl)
theorem d_Law_law_336 : decode code 336 = .ok (.iconst 0, 1) := id_Law_law_8 (336, .iconst 0, 1) (List.mem_of_getElem? (i := 3) rfl)
theorem d_Law_law_337 : decode code 337 = .ok (.ireturn, 1) := id_Law_law_8 (337, .ireturn, 1) (List.mem_of_getElem? (i := 4) rfl)
theorem d_Law_law_338 : decode code 338 = .ok (.aload_n 1, 1) := id_Law_law_8 (338, .aload_n 1, 1) (List.mem_of_getElem? (i := 5) rfl)
theorem d_Law_law_339 : decode code 339 = .ok (.aload_n 0, 1) := id_Law_law_8 (339, .aload_n 0, 1) (List.mem_of_getElem? (i := 6) rfl)
theorem d_Law_law_340 : decode code 340 = .ok (.iload 4, 2) := id_Law_law_8 (340, .iload 4, 2) (List.mem_of_getElem? (i := 7) rfl)
theorem d_Law_law_342 : decode code 342 = .ok (.iconst 1, 1) := id_Law_law_8 (342, .iconst 1, 1) (List.mem_of_getElem? (i := 8) rfl)
theorem d_Law_law_343 : decode code 343 = .ok (.iadd, 1) := id_Law_law_8 (343, .iadd, 1) (List.mem_of_getElem? (i := 9) rfl)
theorem d_Law_law_344 : decode code 344 = .ok (.iaload, 1) := id_Law_law_8 (344, .iaload, 1) (List.mem_of_getElem? (i := 10) rfl)
theorem d_Law_law_345 : decode code 345 = .ok (.aload_n 3, 1) := id_Law_law_8 (345, .aload_n 3, 1) (List.mem_of_getElem? (i := 11) rfl)
theorem d_Law_law_346 : decode code 346 = .ok (.invokestatic 55, 3) := id_Law_law_8 (346, .invokestatic 55, 3) (List.mem_of_getElem? (i := 12) rfl)
theorem d_Law_law_349 : decode code 349 = .ok (.istore 5, 2) := id_Law_law_8 (349, .istore 5, 2) (List.mem_of_getElem? (i := 13) rfl)
theorem d_Law_law_351 : decode code 351 = .ok (.aload_n 2, 1) := id_Law_law_8 (351, .aload_n 2, 1) (List.mem_of_getElem? (i := 14) rfl)
theorem d_Law_law_352 : decode code 352 = .ok (.aload_n 0, 1) := id_Law_law_8 (352, .aload_n 0, 1) (List.mem_of_getElem? (i := 15) rfl)
theorem d_Law_law_353 : decode code 353 = .ok (.iload 4, 2) := id_Law_law_8 (353, .iload 4, 2) (List.mem_of_getElem? (i := 16) rfl)
theorem d_Law_law_355 : decode code 355 = .ok (.iconst 1, 1) := id_Law_law_8 (355, .iconst 1, 1) (List.mem_of_getElem? (i := 17) rfl)
theorem d_Law_law_356 : decode code 356 = .ok (.iadd, 1) := id_Law_law_8 (356, .iadd, 1) (List.mem_of_getElem? (i := 18) rfl)
theorem d_Law_law_357 : decode code 357 = .ok (.iaload, 1) := id_Law_law_8 (357, .iaload, 1) (List.mem_of_getElem? (i := 19) rfl)
theorem d_Law_law_358 : decode code 358 = .ok (.invokevirtual 60, 3) := id_Law_law_8 (358, .invokevirtual 60, 3) (List.mem_of_getElem? (i := 20) rfl)
theorem d_Law_law_361 : decode code 361 = .ok (.istore 6, 2) := id_Law_law_8 (361, .istore 6, 2) (List.mem_of_getElem? (i := 21) rfl)
theorem d_Law_law_363 : decode code 363 = .ok (.aload_n 2, 1) := id_Law_law_8 (363, .aload_n 2, 1) (List.mem_of_getElem? (i := 22) rfl)
theorem d_Law_law_364 : decode code 364 = .ok (.invokevirtual 61, 3) := id_Law_law_8 (364, .invokevirtual 61, 3) (List.mem_of_getElem? (i := 23) rfl)
def it_Law_law_9 : List (Nat × ClassFile.Instr × Nat) := [(367, .iload 5, 2), (369, .if_icmp .eq (5), 3), (372, .iconst 0, 1), (373, .ireturn, 1), (374, .iload 5, 2), (376, .ifCond .ne (15), 3), (379, .aload_n 3, 1), (380, .iconst 0, 1), (381, .laload, 1), (382, .iload 6, 2), (384, .i2l, 1), (385, .lcmp, 1), (386, .ifCond .eq (5), 3), (389, .iconst 0, 1), (390, .ireturn, 1), (391, .goto (380), 3), (394, .aload_n 1, 1), (395, .invokevirtual 65, 3), (398, .aload_n 2, 1), (399, .invokevirtual 69, 3), (402, .if_icmp .eq (369), 3), (405, .iconst 0, 1), (406, .ireturn, 1), (407, .aload_n 1, 1)]
theorem id_Law_law_9 : ∀ q ∈ it_Law_law_9, decode code q.1 = .ok q.2 := by decide +kernel
theorem d_Law_law_367 : decode code 367 = .ok (.iload 5, 2) := id_Law_law_9 (367, .iload 5, 2) (List.mem_of_getElem? (i := 0) rfl)
theorem d_Law_law_369 : decode code 369 = .ok (.if_icmp .eq (5), 3) := id_Law_law_9 (369, .if_icmp .eq (5), 3) (List.mem_of_getElem? (i := 1) rfl)
theorem d_Law_law_372 : decode code 372 = .ok (.iconst 0, 1) := id_Law_law_9 (372, .iconst 0, 1) (List.mem_of_getElem? (i := 2) rfl)
theorem d_Law_law_373 : decode code 373 = .ok (.ireturn, 1) := id_Law_law_9 (373, .ireturn, 1) (List.mem_of_getElem? (i := 3) rfl)
theorem d_Law_law_374 : decode code 374 = .ok (.iload 5, 2) := id_Law_law_9 (374, .iload 5, 2) (List.mem_of_getElem? (i := 4) rfl)
theorem d_Law_law_376 : decode code 376 = .ok (.ifCond .ne (15), 3) := id_Law_law_9 (376, .ifCond .ne (15), 3) (List.mem_of_getElem? (i := 5) rfl)
theorem d_Law_law_379 : decode code 379 = .ok (.aload_n 3, 1) := id_Law_law_9 (379, .aload_n 3, 1) (List.mem_of_getElem? (i := 6) rfl)
theorem d_Law_law_380 : decode code 380 = .ok (.iconst 0, 1) := id_Law_law_9 (380, .iconst 0, 1) (List.mem_of_getElem? (i := 7) rfl)
theorem d_Law_law_381 : decode code 381 = .ok (.laload, 1) := id_Law_law_9 (381, .laload, 1) (List.mem_of_getElem? (i := 8) rfl)
theorem d_Law_law_382 : decode code 382 = .ok (.iload 6, 2) := id_Law_law_9 (382, .iload 6, 2) (List.mem_of_getElem? (i := 9) rfl)
theorem d_Law_law_384 : decode code 384 = .ok (.i2l, 1) := id_Law_law_9 (384, .i2l, 1) (List.mem_of_getElem? (i := 10) rfl)
theorem d_Law_law_385 : decode code 385 = .ok (.lcmp, 1) := id_Law_law_9 (385, .lcmp, 1) (List.mem_of_getElem? (i := 11) rfl)
theorem d_Law_law_386 : decode code 386 = .ok (.ifCond .eq (5), 3) := id_Law_law_9 (386, .ifCond .eq (5), 3) (List.mem_of_getElem? (i := 12) rfl)
theorem d_Law_law_389 : decode code 389 = .ok (.iconst 0, 1) := id_Law_law_9 (389, .iconst 0, 1) (List.mem_of_getElem? (i := 13) rfl)
theorem d_Law_law_390 : decode code 390 = .ok (.ireturn, 1) := id_Law_law_9 (390, .ireturn, 1) (List.mem_of_getElem? (i := 14) rfl)
theorem d_Law_law_391 : decode code 391 = .ok (.goto (380), 3) := id_Law_law_9 (391, .goto (380), 3) (List.mem_of_getElem? (i := 15) rfl)
theorem d_Law_law_394 : decode code 394 = .ok (.aload_n 1, 1) := id_Law_law_9 (394, .aload_n 1, 1) (List.mem_of_getElem? (i := 16) rfl)
theorem d_Law_law_395 : decode code 395 = .ok (.invokevirtual 65, 3) := id_Law_law_9 (395, .invokevirtual 65, 3) (List.mem_of_getElem? (i := 17) rfl)
theorem d_Law_law_398 : decode code 398 = .ok (.aload_n 2, 1) := id_Law_law_9 (398, .aload_n 2, 1) (List.mem_of_getElem? (i := 18) rfl)
theorem d_Law_law_399 : decode code 399 = .ok (.invokevirtual 69, 3) := id_Law_law_9 (399, .invokevirtual 69, 3) (List.mem_of_getElem? (i := 19) rfl)
theorem d_Law_law_402 : decode code 402 = .ok (.if_icmp .eq (369), 3) := id_Law_law_9 (402, .if_icmp .eq (369), 3) (List.mem_of_getElem? (i := 20) rfl)
theorem d_Law_law_405 : decode code 405 = .ok (.iconst 0, 1) := id_Law_law_9 (405, .iconst 0, 1) (List.mem_of_getElem? (i := 21) rfl)
theorem d_Law_law_406 : decode code 406 = .ok (.ireturn, 1) := id_Law_law_9 (406, .ireturn, 1) (List.mem_of_getElem? (i := 22) rfl)
theorem d_Law_law_407 : decode code 407 = .ok (.aload_n 1, 1) := id_Law_law_9 (407, .aload_n 1, 1) (List.mem_of_getElem? (i := 23) rfl)
def it_Law_law_10 : List (Nat × ClassFile.Instr × Nat) := [(408, .aload_n 0, 1), (409, .iload 4, 2), (411, .iconst 1, 1), (412, .iadd, 1), (413, .iaload, 1), (414, .aload_n 3, 1), (415, .invokestatic 70, 3), (418, .istore 5, 2), (420, .aload_n 2, 1), (421, .aload_n 0, 1), (422, .iload 4, 2), (424, .iconst 1, 1), (425, .iadd, 1), (426, .iaload, 1), (427, .invokevirtual 72, 3), (430, .istore 6, 2), (432, .aload_n 2, 1), (433, .invokevirtual 61, 3), (436, .iload 5, 2), (438, .if_icmp .eq (5), 3), (441, .iconst 0, 1), (442, .ireturn, 1), (443, .iload 5, 2), (445, .ifCond .ne (15), 3)]
theorem id_Law_law_10 : ∀ q ∈ it_Law_law_10, decode code q.1 = .ok q.2 := by decide +kernel
theorem d_Law_law_408 : decode code 408 = .ok (.aload_n 0, 1) := id_Law_law_10 (408, .aload_n 0, 1) (List.mem_of_getElem? (i := 0) rfl)
theorem d_Law_law_409 : decode code 409 = .ok (.iload 4, 2) := id_Law_law_10 (409, .iload 4, 2) (List.mem_of_getElem? (i := 1) rfl)
theorem d_Law_law_411 : decode code 411 = .ok (.iconst 1, 1) := id_Law_law_10 (411, .iconst 1, 1) (List.mem_of_getElem? (i := 2) rfl)
theorem d_Law_law_412 : decode code 412 = .ok (.iadd, 1) := id_Law_law_10 (412, .iadd, 1) (List.mem_of_getElem? (i := 3) rfl)
theorem d_Law_law_413 : decode code 413 = .ok (.iaload, 1) := id_Law_law_10 (413, .iaload, 1) (List.mem_of_getElem? (i := 4) rfl)
theorem d_Law_law_414 : decode code 414 = .ok (.aload_n 3, 1) := id_Law_law_10 (414, .aload_n 3, 1) (List.mem_of_getElem? (i := 5) rfl)
theorem d_Law_law_415 : decode code 415 = .ok (.invokestatic 70, 3) := id_Law_law_10 (415, .invokestatic 70, 3) (List.mem_of_getElem? (i := 6) rfl)
theorem d_Law_law_418 : decode code 418 = .ok (.istore 5, 2) := id_Law_law_10 (418, .istore 5, 2) (List.mem_of_getElem? (i := 7) rfl)
theorem d_Law_law_420 : decode code 420 = .ok (.aload_n 2, 1) := id_Law_law_10 (420, .aload_n 2, 1) (List.mem_of_getElem? (i := 8) rfl)
theorem d_Law_law_421 : decode code 421 = .ok (.aload_n 0, 1) := id_Law_law_10 (421, .aload_n 0, 1) (List.mem_of_getElem? (i := 9) rfl)
theorem d_Law_law_422 : decode code 422 = .ok (.iload 4, 2) := id_Law_law_10 (422, .iload 4, 2) (List.mem_of_getElem? (i := 10) rfl)
theorem d_Law_law_424 : decode code 424 = .ok (.iconst 1, 1) := id_Law_law_10 (424, .iconst 1, 1) (List.mem_of_getElem? (i := 11) rfl)
theorem d_Law_law_425 : decode code 425 = .ok (.iadd, 1) := id_Law_law_10 (425, .iadd, 1) (List.mem_of_getElem? (i := 12) rfl)
theorem d_Law_law_426 : decode code 426 = .ok (.iaload, 1) := id_Law_law_10 (426, .iaload, 1) (List.mem_of_getElem? (i := 13) rfl)
theorem d_Law_law_427 : decode code 427 = .ok (.invokevirtual 72, 3) := id_Law_law_10 (427, .invokevirtual 72, 3) (List.mem_of_getElem? (i := 14) rfl)
theorem d_Law_law_430 : decode code 430 = .ok (.istore 6, 2) := id_Law_law_10 (430, .istore 6, 2) (List.mem_of_getElem? (i := 15) rfl)
theorem d_Law_law_432 : decode code 432 = .ok (.aload_n 2, 1) := id_Law_law_10 (432, .aload_n 2, 1) (List.mem_of_getElem? (i := 16) rfl)
theorem d_Law_law_433 : decode code 433 = .ok (.invokevirtual 61, 3) := id_Law_law_10 (433, .invokevirtual 61, 3) (List.mem_of_getElem? (i := 17) rfl)
theorem d_Law_law_436 : decode code 436 = .ok (.iload 5, 2) := id_Law_law_10 (436, .iload 5, 2) (List.mem_of_getElem? (i := 18) rfl)
theorem d_Law_law_438 : decode code 438 = .ok (.if_icmp .eq (5), 3) := id_Law_law_10 (438, .if_icmp .eq (5), 3) (List.mem_of_getElem? (i := 19) rfl)
theorem d_Law_law_441 : decode code 441 = .ok (.iconst 0, 1) := id_Law_law_10 (441, .iconst 0, 1) (List.mem_of_getElem? (i := 20) rfl)
theorem d_Law_law_442 : decode code 442 = .ok (.ireturn, 1) := id_Law_law_10 (442, .ireturn, 1) (List.mem_of_getElem? (i := 21) rfl)
theorem d_Law_law_443 : decode code 443 = .ok (.iload 5, 2) := id_Law_law_10 (443, .iload 5, 2) (List.mem_of_getElem? (i := 22) rfl)
theorem d_Law_law_445 : decode code 445 = .ok (.ifCond .ne (15), 3) := id_Law_law_10 (445, .ifCond .ne (15), 3) (List.mem_of_getElem? (i := 23) rfl)
def it_Law_law_11 : List (Nat × ClassFile.Instr × Nat) := [(448, .aload_n 3, 1), (449, .iconst 0, 1), (450, .laload, 1), (451, .iload 6, 2), (453, .i2l, 1), (454, .lcmp, 1), (455, .ifCond .eq (5), 3), (458, .iconst 0, 1), (459, .ireturn, 1), (460, .goto (311), 3), (463, .aload_n 1, 1), (464, .aload_n 0, 1), (465, .iload 4, 2), (467, .iconst 1, 1), (468, .iadd, 1), (469, .iaload, 1), (470, .invokevirtual 73, 3), (473, .aload_n 2, 1), (474, .aload_n 0, 1), (475, .iload 4, 2), (477, .iconst 1, 1), (478, .iadd, 1), (479, .iaload, 1), (480, .invokevirtual 76, 3)]
theorem id_Law_law_11 : ∀ q ∈ it_Law_law_11, decode code q.1 = .ok q.2 := by decide +kernel
theorem d_Law_law_448 : decode code 448 = .ok (.aload_n 3, 1) := id_Law_law_11 (448, .aload_n 3, 1) (List.mem_of_getElem? (i := 0) rfl)
theorem d_Law_law_449 : decode code 449 = .ok (.iconst 0, 1) := id_Law_law_11 (449, .iconst 0, 1) (List.mem_of_getElem? (i := 1) rfl)
theorem d_Law_law_450 : decode code 450 = .ok (.laload, 1) := id_Law_law_11 (450, .laload, 1) (List.mem_of_getElem? (i := 2) rfl)
theorem d_Law_law_451 : decode code 451 = .ok (.iload 6, 2) := id_Law_law_11 (451, .iload 6, 2) (List.mem_of_getElem? (i := 3) rfl)
theorem d_Law_law_453 : decode code 453 = .ok (.i2l, 1) := id_Law_law_11 (453, .i2l, 1) (List.mem_of_getElem? (i := 4) rfl)
theorem d_Law_law_454 : decode code 454 = .ok (.lcmp, 1) := id_Law_law_11 (454, .lcmp, 1) (List.mem_of_getElem? (i := 5) rfl)
theorem d_Law_law_455 : decode code 455 = .ok (.ifCond .eq (5), 3) := id_Law_law_11 (455, .ifCond .eq (5), 3) (List.mem_of_getElem? (i := 6) rfl)
theorem d_Law_law_458 : decode code 458 = .ok (.iconst 0, 1) := id_Law_law_11 (458, .iconst 0, 1) (List.mem_of_getElem? (i := 7) rfl)
theorem d_Law_law_459 : decode code 459 = .ok (.ireturn, 1) := id_Law_law_11 (459, .ireturn, 1) (List.mem_of_getElem? (i := 8) rfl)
theorem d_Law_law_460 : decode code 460 = .ok (.goto (311), 3) := id_Law_law_11 (460, .goto (311), 3) (List.mem_of_getElem? (i := 9) rfl)
theorem d_Law_law_463 : decode code 463 = .ok (.aload_n 1, 1) := id_Law_law_11 (463, .aload_n 1, 1) (List.mem_of_getElem? (i := 10) rfl)
theorem d_Law_law_464 : decode code 464 = .ok (.aload_n 0, 1) := id_Law_law_11 (464, .aload_n 0, 1) (List.mem_of_getElem? (i := 11) rfl)
theorem d_Law_law_465 : decode code 465 = .ok (.iload 4, 2) := id_Law_law_11 (465, .iload 4, 2) (List.mem_of_getElem? (i := 12) rfl)
theorem d_Law_law_467 : decode code 467 = .ok (.iconst 1, 1) := id_Law_law_11 (467, .iconst 1, 1) (List.mem_of_getElem? (i := 13) rfl)
theorem d_Law_law_468 : decode code 468 = .ok (.iadd, 1) := id_Law_law_11 (468, .iadd, 1) (List.mem_of_getElem? (i := 14) rfl)
theorem d_Law_law_469 : decode code 469 = .ok (.iaload, 1) := id_Law_law_11 (469, .iaload, 1) (List.mem_of_getElem? (i := 15) rfl)
theorem d_Law_law_470 : decode code 470 = .ok (.invokevirtual 73, 3) := id_Law_law_11 (470, .invokevirtual 73, 3) (List.mem_of_getElem? (i := 16) rfl)
theorem d_Law_law_473 : decode code 473 = .ok (.aload_n 2, 1) := id_Law_law_11 (473, .aload_n 2, 1) (List.mem_of_getElem? (i := 17) rfl)
theorem d_Law_law_474 : decode code 474 = .ok (.aload_n 0, 1) := id_Law_law_11 (474, .aload_n 0, 1) (List.mem_of_getElem? (i := 18) rfl)
theorem d_Law_law_475 : decode code 475 = .ok (.iload 4, 2) := id_Law_law_11 (475, .iload 4, 2) (List.mem_of_getElem? (i := 19) rfl)
theorem d_Law_law_477 : decode code 477 = .ok (.iconst 1, 1) := id_Law_law_11 (477, .iconst 1, 1) (List.mem_of_getElem? (i := 20) rfl)
theorem d_Law_law_478 : decode code 478 = .ok (.iadd, 1) := id_Law_law_11 (478, .iadd, 1) (List.mem_of_getElem? (i := 21) rfl)
theorem d_Law_law_479 : decode code 479 = .ok (.iaload, 1) := id_Law_law_11 (479, .iaload, 1) (List.mem_of_getElem? (i := 22) rfl)
theorem d_Law_law_480 : decode code 480 = .ok (.invokevirtual 76, 3) := id_Law_law_11 (480, .invokevirtual 76, 3) (List.mem_of_getElem? (i := 23) rfl)
def it_Law_law_12 : List (Nat × ClassFile.Instr × Nat) := [(483, .if_icmp .eq (288), 3), (486, .iconst 0, 1), (487, .ireturn, 1), (488, .aload_n 1, 1), (489, .aload_n 0, 1), (490, .iload 4, 2), (492, .iconst 1, 1), (493, .iadd, 1), (494, .iaload, 1), (495, .aload_n 0, 1), (496, .iload 4, 2), (498, .iconst 2, 1), (499, .iadd, 1), (500, .iaload, 1), (501, .invokevirtual 77, 3), (504, .aload_n 2, 1), (505, .aload_n 0, 1), (506, .iload 4, 2), (508, .iconst 1, 1), (509, .iadd, 1), (510, .iaload, 1), (511, .aload_n 0, 1), (512, .iload 4, 2), (514, .iconst 2, 1)]
theorem id_Law_law_12 : ∀ q ∈ it_Law_law_12, decode code q.1 = .ok q.2 := by decide +kernel
theorem d_Law_law_483 : decode code 483 = .ok (.if_icmp .eq (288), 3) := id_Law_law_12 (483, .if_icmp .eq (288), 3) (List.mem_of_getElem? (i := 0) rfl)
theorem d_Law_law_486 : decode code 486 = .ok (.iconst 0, 1) := id_Law_law_12 (486, .iconst 0, 1) (List.mem_of_getElem? (i := 1) rfl)
theorem d_Law_law_487 : decode code 487 = .ok (.ireturn, 1) := id_Law_law_12 (487, .ireturn, 1) (List.mem_of_getElem? (i := 2) rfl)
theorem d_Law_law_488 : decode code 488 = .ok (.aload_n 1, 1) := id_Law_law_12 (488, .aload_n 1, 1) (List.mem_of_getElem? (i := 3) rfl)
theorem d_Law_law_489 : decode code 489 = .ok (.aload_n 0, 1) := id_Law_law_12 (489, .aload_n 0, 1) (List.mem_of_getElem? (i := 4) rfl)
theorem d_Law_law_490 : decode code 490 = .ok (.iload 4, 2) := id_Law_law_12 (490, .iload 4, 2) (List.mem_of_getElem? (i := 5) rfl)
theorem d_Law_law_492 : decode code 492 = .ok (.iconst 1, 1) := id_Law_law_12 (492, .iconst 1, 1) (List.mem_of_getElem? (i := 6) rfl)
theorem d_Law_law_493 : decode code 493 = .ok (.iadd, 1) := id_Law_law_12 (493, .iadd, 1) (List.mem_of_getElem? (i := 7) rfl)
theorem d_Law_law_494 : decode code 494 = .ok (.iaload, 1) := id_Law_law_12 (494, .iaload, 1) (List.mem_of_getElem? (i := 8) rfl)
theorem d_Law_law_495 : decode code 495 = .ok (.aload_n 0, 1) := id_Law_law_12 (495, .aload_n 0, 1) (List.mem_of_getElem? (i := 9) rfl)
theorem d_Law_law_496 : decode code 496 = .ok (.iload 4, 2) := id_Law_law_12 (496, .iload 4, 2) (List.mem_of_getElem? (i := 10) rfl)
theorem d_Law_law_498 : decode code 498 = .ok (.iconst 2, 1) := id_Law_law_12 (498, .iconst 2, 1) (List.mem_of_getElem? (i := 11) rfl)
theorem d_Law_law_499 : decode code 499 = .ok (.iadd, 1) := id_Law_law_12 (499, .iadd, 1) (List.mem_of_getElem? (i := 12) rfl)
theorem d_Law_law_500 : decode code 500 = .ok (.iaload, 1) := id_Law_law_12 (500, .iaload, 1) (List.mem_of_getElem? (i := 13) rfl)
theorem d_Law_law_501 : decode code 501 = .ok (.invokevirtual 77, 3) := id_Law_law_12 (501, .invokevirtual 77, 3) (List.mem_of_getElem? (i := 14) rfl)
theorem d_Law_law_504 : decode code 504 = .ok (.aload_n 2, 1) := id_Law_law_12 (504, .aload_n 2, 1) (List.mem_of_getElem? (i := 15) rfl)
theorem d_Law_law_505 : decode code 505 = .ok (.aload_n 0, 1) := id_Law_law_12 (505, .aload_n 0, 1) (List.mem_of_getElem? (i := 16) rfl)
theorem d_Law_law_506 : decode code 506 = .ok (.iload 4, 2) := id_Law_law_12 (506, .iload 4, 2) (List.mem_of_getElem? (i := 17) rfl)
theorem d_Law_law_508 : decode code 508 = .ok (.iconst 1, 1) := id_Law_law_12 (508, .iconst 1, 1) (List.mem_of_getElem? (i := 18) rfl)
theorem d_Law_law_509 : decode code 509 = .ok (.iadd, 1) := id_Law_law_12 (509, .iadd, 1) (List.mem_of_getElem? (i := 19) rfl)
theorem d_Law_law_510 : decode code 510 = .ok (.iaload, 1) := id_Law_law_12 (510, .iaload, 1) (List.mem_of_getElem? (i := 20) rfl)
theorem d_Law_law_511 : decode code 511 = .ok (.aload_n 0, 1) := id_Law_law_12 (511, .aload_n 0, 1) (List.mem_of_getElem? (i := 21) rfl)
theorem d_Law_law_512 : decode code 512 = .ok (.iload 4, 2) := id_Law_law_12 (512, .iload 4, 2) (List.mem_of_getElem? (i := 22) rfl)
theorem d_Law_law_514 : decode code 514 = .ok (.iconst 2, 1) := id_Law_law_12 (514, .iconst 2, 1) (List.mem_of_getElem? (i := 23) rfl)
def it_Law_law_13 : List (Nat × ClassFile.Instr × Nat) := [(515, .iadd, 1), (516, .iaload, 1), (517, .invokevirtual 80, 3), (520, .if_icmp .eq (251), 3), (523, .iconst 0, 1), (524, .ireturn, 1), (525, .aload_n 1, 1), (526, .aload_n 0, 1), (527, .iload 4, 2), (529, .iconst 1, 1), (530, .iadd, 1), (531, .iaload, 1), (532, .aload_n 0, 1), (533, .iload 4, 2), (535, .iconst 2, 1), (536, .iadd, 1), (537, .iaload, 1), (538, .invokevirtual 81, 3), (541, .aload_n 2, 1), (542, .aload_n 0, 1), (543, .iload 4, 2), (545, .iconst 1, 1), (546, .iadd, 1), (547, .iaload, 1)]
theorem id_Law_law_13 : ∀ q ∈ it_Law_law_13, decode code q.1 = .ok q.2 := by decide +kernel
theorem d_Law_law_515 : decode code 515 = .ok (.iadd, 1) := id_Law_law_13 (515, .iadd, 1) (List.mem_of_getElem? (i := 0) rfl)
theorem d_Law_law_516 : decode code 516 = .ok (.iaload, 1) := id_Law_law_13 (516, .iaload, 1) (List.mem_of_getElem? (i := 1) rfl)
theorem d_Law_law_517 : decode code 517 = .ok (.invokevirtual 80, 3) := id_Law_law_13 (517, .invokevirtual 80, 3) (List.mem_of_getElem? (i := 2) rfl)
theorem d_Law_law_520 : decode code 520 = .ok (.if_icmp .eq (251), 3) := id_Law_law_13 (520, .if_icmp .eq (251), 3) (List.mem_of_getElem? (i := 3) rfl)
theorem d_Law_law_523 : decode code 523 = .ok (.iconst 0, 1) := id_Law_law_13 (523, .iconst 0, 1) (List.mem_of_getElem? (i := 4) rfl)
theorem d_Law_law_524 : decode code 524 = .ok (.ireturn, 1) := id_Law_law_13 (524, .ireturn, 1) (List.mem_of_getElem? (i := 5) rfl)
theorem d_Law_law_525 : decode code 525 = .ok (.aload_n 1, 1) := id_Law_law_13 (525, .aload_n 1, 1) (List.mem_of_getElem? (i := 6) rfl)
theorem d_Law_law_526 : decode code 526 = .ok (.aload_n 0, 1) := id_Law_law_13 (526, .aload_n 0, 1) (List.mem_of_getElem? (i := 7) rfl)
theorem d_Law_law_527 : decode code 527 = .ok (.iload 4, 2) := id_Law_law_13 (527, .iload 4, 2) (List.mem_of_getElem? (i := 8) rfl)
theorem d_Law_law_529 : decode code 529 = .ok (.iconst 1, 1) := id_Law_law_13 (529, .iconst 1, 1) (List.mem_of_getElem? (i := 9) rfl)
theorem d_Law_law_530 : decode code 530 = .ok (.iadd, 1) := id_Law_law_13 (530, .iadd, 1) (List.mem_of_getElem? (i := 10) rfl)
theorem d_Law_law_531 : decode code 531 = .ok (.iaload, 1) := id_Law_law_13 (531, .iaload, 1) (List.mem_of_getElem? (i := 11) rfl)
theorem d_Law_law_532 : decode code 532 = .ok (.aload_n 0, 1) := id_Law_law_13 (532, .aload_n 0, 1) (List.mem_of_getElem? (i := 12) rfl)
theorem d_Law_law_533 : decode code 533 = .ok (.iload 4, 2) := id_Law_law_13 (533, .iload 4, 2) (List.mem_of_getElem? (i := 13) rfl)
theorem d_Law_law_535 : decode code 535 = .ok (.iconst 2, 1) := id_Law_law_13 (535, .iconst 2, 1) (List.mem_of_getElem? (i := 14) rfl)
theorem d_Law_law_536 : decode code 536 = .ok (.iadd, 1) := id_Law_law_13 (536, .iadd, 1) (List.mem_of_getElem? (i := 15) rfl)
theorem d_Law_law_537 : decode code 537 = .ok (.iaload, 1) := id_Law_law_13 (537, .iaload, 1) (List.mem_of_getElem? (i := 16) rfl)
theorem d_Law_law_538 : decode code 538 = .ok (.invokevirtual 81, 3) := id_Law_law_13 (538, .invokevirtual 81, 3) (List.mem_of_getElem? (i := 17) rfl)
theorem d_Law_law_541 : decode code 541 = .ok (.aload_n 2, 1) := id_Law_law_13 (541, .aload_n 2, 1) (List.mem_of_getElem? (i := 18) rfl)
theorem d_Law_law_542 : decode code 542 = .ok (.aload_n 0, 1) := id_Law_law_13 (542, .aload_n 0, 1) (List.mem_of_getElem? (i := 19) rfl)
theorem d_Law_law_543 : decode code 543 = .ok (.iload 4, 2) := id_Law_law_13 (543, .iload 4, 2) (List.mem_of_getElem? (i := 20) rfl)
theorem d_Law_law_545 : decode code 545 = .ok (.iconst 1, 1) := id_Law_law_13 (545, .iconst 1, 1) (List.mem_of_getElem? (i := 21) rfl)
theorem d_Law_law_546 : decode code 546 = .ok (.iadd, 1) := id_Law_law_13 (546, .iadd, 1) (List.mem_of_getElem? (i := 22) rfl)
theorem d_Law_law_547 : decode code 547 = .ok (.iaload, 1) := id_Law_law_13 (547, .iaload, 1) (List.mem_of_getElem? (i := 23) rfl)
def it_Law_law_14 : List (Nat × ClassFile.Instr × Nat) := [(548, .aload_n 0, 1), (549, .iload 4, 2), (551, .iconst 2, 1), (552, .iadd, 1), (553, .iaload, 1), (554, .invokevirtual 84, 3), (557, .if_icmp .eq (214), 3), (560, .iconst 0, 1), (561, .ireturn, 1), (562, .aload_n 1, 1), (563, .aload_n 0, 1), (564, .iload 4, 2), (566, .iconst 1, 1), (567, .iadd, 1), (568, .iaload, 1), (569, .aload_n 0, 1), (570, .iload 4, 2), (572, .iconst 2, 1), (573, .iadd, 1), (574, .iaload, 1), (575, .aload_n 0, 1), (576, .iload 4, 2), (578, .iconst 3, 1), (579, .iadd, 1)]
theorem id_Law_law_14 : ∀ q ∈ it_Law_law_14, decode code q.1 = .ok q.2 := by decide +kernel
theorem d_Law_law_548 : decode code 548 = .ok (.aload_n 0, 1) := id_Law_law_14 (548, .aload_n 0, 1) (List.mem_of_getElem? (i := 0) rfl)
theorem d_Law_law_549 : decode code 549 = .ok (.iload 4, 2) := id_Law_law_14 (549, .iload 4, 2) (List.mem_of_getElem? (i := 1) rfl)
theorem d_Law_law_551 : decode code 551 = .ok (.iconst 2, 1) := id_Law_law_14 (551, .iconst 2, 1) (List.mem_of_getElem? (i := 2) rfl)
theorem d_Law_law_552 : decode code 552 = .ok (.iadd, 1) := id_Law_law_14 (552, .iadd, 1) (List.mem_of_getElem? (i := 3) rfl)
theorem d_Law_law_553 : decode code 553 = .ok (.iaload, 1) := id_Law_law_14 (553, .iaload, 1) (List.mem_of_getElem? (i := 4) rfl)
theorem d_Law_law_554 : decode code 554 = .ok (.invokevirtual 84, 3) := id_Law_law_14 (554, .invokevirtual 84, 3) (List.mem_of_getElem? (i := 5) rfl)
theorem d_Law_law_557 : decode code 557 = .ok (.if_icmp .eq (214), 3) := id_Law_law_14 (557, .if_icmp .eq (214), 3) (List.mem_of_getElem? (i := 6) rfl)
theorem d_Law_law_560 : decode code 560 = .ok (.iconst 0, 1) := id_Law_law_14 (560, .iconst 0, 1) (List.mem_of_getElem? (i := 7) rfl)
theorem d_Law_law_561 : decode code 561 = .ok (.ireturn, 1) := id_Law_law_14 (561, .ireturn, 1) (List.mem_of_getElem? (i := 8) rfl)
theorem d_Law_law_562 : decode code 562 = .ok (.aload_n 1, 1) := id_Law_law_14 (562, .aload_n 1, 1) (List.mem_of_getElem? (i := 9) rfl)
theorem d_Law_law_563 : decode code 563 = .ok (.aload_n 0, 1) := id_Law_law_14 (563, .aload_n 0, 1) (List.mem_of_getElem? (i := 10) rfl)
theorem d_Law_law_564 : decode code 564 = .ok (.iload 4, 2) := id_Law_law_14 (564, .iload 4, 2) (List.mem_of_getElem? (i := 11) rfl)
theorem d_Law_law_566 : decode code 566 = .ok (.iconst 1, 1) := id_Law_law_14 (566, .iconst 1, 1) (List.mem_of_getElem? (i := 12) rfl)
theorem d_Law_law_567 : decode code 567 = .ok (.iadd, 1) := id_Law_law_14 (567, .iadd, 1) (List.mem_of_getElem? (i := 13) rfl)
theorem d_Law_law_568 : decode code 568 = .ok (.iaload, 1) := id_Law_law_14 (568, .iaload, 1) (List.mem_of_getElem? (i := 14) rfl)
theorem d_Law_law_569 : decode code 569 = .ok (.aload_n 0, 1) := id_Law_law_14 (569, .aload_n 0, 1) (List.mem_of_getElem? (i := 15) rfl)
theorem d_Law_law_570 : decode code 570 = .ok (.iload 4, 2) := id_Law_law_14 (570, .iload 4, 2) (List.mem_of_getElem? (i := 16) rfl)
theorem d_Law_law_572 : decode code 572 = .ok (.iconst 2, 1) := id_Law_law_14 (572, .iconst 2, 1) (List.mem_of_getElem? (i := 17) rfl)
theorem d_Law_law_573 : decode code 573 = .ok (.iadd, 1) := id_Law_law_14 (573, .iadd, 1) (List.mem_of_getElem? (i := 18) rfl)
theorem d_Law_law_574 : decode code 574 = .ok (.iaload, 1) := id_Law_law_14 (574, .iaload, 1) (List.mem_of_getElem? (i := 19) rfl)
theorem d_Law_law_575 : decode code 575 = .ok (.aload_n 0, 1) := id_Law_law_14 (575, .aload_n 0, 1) (List.mem_of_getElem? (i := 20) rfl)
theorem d_Law_law_576 : decode code 576 = .ok (.iload 4, 2) := id_Law_law_14 (576, .iload 4, 2) (List.mem_of_getElem? (i := 21) rfl)
theorem d_Law_law_578 : decode code 578 = .ok (.iconst 3, 1) := id_Law_law_14 (578, .iconst 3, 1) (List.mem_of_getElem? (i := 22) rfl)
theorem d_Law_law_579 : decode code 579 = .ok (.iadd, 1) := id_Law_law_14 (579, .iadd, 1) (List.mem_of_getElem? (i := 23) rfl)
def it_Law_law_15 : List (Nat × ClassFile.Instr × Nat) := [(580, .iaload, 1), (581, .invokevirtual 85, 3), (584, .aload_n 2, 1), (585, .aload_n 0, 1), (586, .iload 4, 2), (588, .iconst 1, 1), (589, .iadd, 1), (590, .iaload, 1), (591, .aload_n 0, 1), (592, .iload 4, 2), (594, .iconst 2, 1), (595, .iadd, 1), (596, .iaload, 1), (597, .aload_n 0, 1), (598, .iload 4, 2), (600, .iconst 3, 1), (601, .iadd, 1), (602, .iaload, 1), (603, .invokevirtual 89, 3), (606, .if_icmp .eq (165), 3), (609, .iconst 0, 1), (610, .ireturn, 1), (611, .aload_n 1, 1), (612, .aload_n 0, 1)]
theorem id_Law_law_15 : ∀ q ∈ it_Law_law_15, decode code q.1 = .ok q.2 := by decide +kernel
theorem d_Law_law_580 : decode code 580 = .ok (.iaload, 1) := id_Law_law_15 (580, .iaload, 1) (List.mem_of_getElem? (i := 0) rfl)
theorem d_Law_law_581 : decode code 581 = .ok (.invokevirtual 85, 3) := id_Law_law_15 (581, .invokevirtual 85, 3) (List.mem_of_getElem? (i := 1) rfl)
theorem d_Law_law_584 : decode code 584 = .ok (.aload_n 2, 1) := id_Law_law_15 (584, .aload_n 2, 1) (List.mem_of_getElem? (i := 2) rfl)
theorem d_Law_law_585 : decode code 585 = .ok (.aload_n 0, 1) := id_Law_law_15 (585, .aload_n 0, 1) (List.mem_of_getElem? (i := 3) rfl)
theorem d_Law_law_586 : decode code 586 = .ok (.iload 4, 2) := id_Law_law_15 (586, .iload 4, 2) (List.mem_of_getElem? (i := 4) rfl)
theorem d_Law_law_588 : decode code 588 = .ok (.iconst 1, 1) := id_Law_law_15 (588, .iconst 1, 1) (List.mem_of_getElem? (i := 5) rfl)
theorem d_Law_law_589 : decode code 589 = .ok (.iadd, 1) := id_Law_law_15 (589, .iadd, 1) (List.mem_of_getElem? (i := 6) rfl)
theorem d_Law_law_590 : decode code 590 = .ok (.iaload, 1) := id_Law_law_15 (590, .iaload, 1) (List.mem_of_getElem? (i := 7) rfl)
theorem d_Law_law_591 : decode code 591 = .ok (.aload_n 0, 1) := id_Law_law_15 (591, .aload_n 0, 1) (List.mem_of_getElem? (i := 8) rfl)
theorem d_Law_law_592 : decode code 592 = .ok (.iload 4, 2) := id_Law_law_15 (592, .iload 4, 2) (List.mem_of_getElem? (i := 9) rfl)
theorem d_Law_law_594 : decode code 594 = .ok (.iconst 2, 1) := id_Law_law_15 (594, .iconst 2, 1) (List.mem_of_getElem? (i := 10) rfl)
theorem d_Law_law_595 : decode code 595 = .ok (.iadd, 1) := id_Law_law_15 (595, .iadd, 1) (List.mem_of_getElem? (i := 11) rfl)
theorem d_Law_law_596 : decode code 596 = .ok (.iaload, 1) := id_Law_law_15 (596, .iaload, 1) (List.mem_of_getElem? (i := 12) rfl)
theorem d_Law_law_597 : decode code 597 = .ok (.aload_n 0, 1) := id_Law_law_15 (597, .aload_n 0, 1) (List.mem_of_getElem? (i := 13) rfl)
theorem d_Law_law_598 : decode code 598 = .ok (.iload 4, 2) := id_Law_law_15 (598, .iload 4, 2) (List.mem_of_getElem? (i := 14) rfl)
theorem d_Law_law_600 : decode code 600 = .ok (.iconst 3, 1) := id_Law_law_15 (600, .iconst 3, 1) (List.mem_of_getElem? (i := 15) rfl)
theorem d_Law_law_601 : decode code 601 = .ok (.iadd, 1) := id_Law_law_15 (601, .iadd, 1) (List.mem_of_getElem? (i := 16) rfl)
theorem d_Law_law_602 : decode code 602 = .ok (.iaload, 1) := id_Law_law_15 (602, .iaload, 1) (List.mem_of_getElem? (i := 17) rfl)
theorem d_Law_law_603 : decode code 603 = .ok (.invokevirtual 89, 3) := id_Law_law_15 (603, .invokevirtual 89, 3) (List.mem_of_getElem? (i := 18) rfl)
theorem d_Law_law_606 : decode code 606 = .ok (.if_icmp .eq (165), 3) := id_Law_law_15 (606, .if_icmp .eq (165), 3) (List.mem_of_getElem? (i := 19) rfl)
theorem d_Law_law_609 : decode code 609 = .ok (.iconst 0, 1) := id_Law_law_15 (609, .iconst 0, 1) (List.mem_of_getElem? (i := 20) rfl)
theorem d_Law_law_610 : decode code 610 = .ok (.ireturn, 1) := id_Law_law_15 (610, .ireturn, 1) (List.mem_of_getElem? (i := 21) rfl)
theorem d_Law_law_611 : decode code 611 = .ok (.aload_n 1, 1) := id_Law_law_15 (611, .aload_n 1, 1) (List.mem_of_getElem? (i := 22) rfl)
theorem d_Law_law_612 : decode code 612 = .ok (.aload_n 0, 1) := id_Law_law_15 (612, .aload_n 0, 1) (List.mem_of_getElem? (i := 23) rfl)
def it_Law_law_16 : List (Nat × ClassFile.Instr × Nat) := [(613, .iload 4, 2), (615, .iconst 1, 1), (616, .iadd, 1), (617, .iaload, 1), (618, .aload_n 0, 1), (619, .iload 4, 2), (621, .iconst 2, 1), (622, .iadd, 1), (623, .iaload, 1), (624, .aload_n 0, 1), (625, .iload 4, 2), (627, .iconst 3, 1), (628, .iadd, 1), (629, .iaload, 1), (630, .aload_n 0, 1), (631, .iload 4, 2), (633, .iconst 4, 1), (634, .iadd, 1), (635, .iaload, 1), (636, .aload_n 3, 1), (637, .invokestatic 90, 3), (640, .istore 5, 2), (642, .aload_n 2, 1), (643, .aload_n 0, 1)]
theorem id_Law_law_16 : ∀ q ∈ it_Law_law_16, decode code q.1 = .ok q.2 := by decide +kernel
theorem d_Law_law_613 : decode code 613 = .ok (.iload 4, 2) := id_Law_law_16 (613, .iload 4, 2) (List.mem_of_getElem? (i := 0) rfl)
theorem d_Law_law_615 : decode code 615 = .ok (.iconst 1, 1) := id_Law_law_16 (615, .iconst 1, 1) (List.mem_of_getElem? (i := 1) rfl)
theorem d_Law_law_616 : decode code 616 = .ok (.iadd, 1) := id_Law_law_16 (616, .iadd, 1) (List.mem_of_getElem? (i := 2) rfl)
theorem d_Law_law_617 : decode code 617 = .ok (.iaload, 1) := id_Law_law_16 (617, .iaload, 1) (List.mem_of_getElem? (i := 3) rfl)
theorem d_Law_law_618 : decode code 618 = .ok (.aload_n 0, 1) := id_Law_law_16 (618, .aload_n 0, 1) (List.mem_of_getElem? (i := 4) rfl)
theorem d_Law_law_619 : decode code 619 = .ok (.iload 4, 2) := id_Law_law_16 (619, .iload 4, 2) (List.mem_of_getElem? (i := 5) rfl)
theorem d_Law_law_621 : decode code 621 = .ok (.iconst 2, 1) := id_Law_law_16 (621, .iconst 2, 1) (List.mem_of_getElem? (i := 6) rfl)
theorem d_Law_law_622 : decode code 622 = .ok (.iadd, 1) := id_Law_law_16 (622, .iadd, 1) (List.mem_of_getElem? (i := 7) rfl)
theorem d_Law_law_623 : decode code 623 = .ok (.iaload, 1) := id_Law_law_16 (623, .iaload, 1) (List.mem_of_getElem? (i := 8) rfl)
theorem d_Law_law_624 : decode code 624 = .ok (.aload_n 0, 1) := id_Law_law_16 (624, .aload_n 0, 1) (List.mem_of_getElem? (i := 9) rfl)
theorem d_Law_law_625 : decode code 625 = .ok (.iload 4, 2) := id_Law_law_16 (625, .iload 4, 2) (List.mem_of_getElem? (i := 10) rfl)
theorem d_Law_law_627 : decode code 627 = .ok (.iconst 3, 1) := id_Law_law_16 (627, .iconst 3, 1) (List.mem_of_getElem? (i := 11) rfl)
theorem d_Law_law_628 : decode code 628 = .ok (.iadd, 1) := id_Law_law_16 (628, .iadd, 1) (List.mem_of_getElem? (i := 12) rfl)
theorem d_Law_law_629 : decode code 629 = .ok (.iaload, 1) := id_Law_law_16 (629, .iaload, 1) (List.mem_of_getElem? (i := 13) rfl)
theorem d_Law_law_630 : decode code 630 = .ok (.aload_n 0, 1) := id_Law_law_16 (630, .aload_n 0, 1) (List.mem_of_getElem? (i := 14) rfl)
theorem d_Law_law_631 : decode code 631 = .ok (.iload 4, 2) := id_Law_law_16 (631, .iload 4, 2) (List.mem_of_getElem? (i := 15) rfl)
theorem d_Law_law_633 : decode code 633 = .ok (.iconst 4, 1) := id_Law_law_16 (633, .iconst 4, 1) (List.mem_of_getElem? (i := 16) rfl)
theorem d_Law_law_634 : decode code 634 = .ok (.iadd, 1) := id_Law_law_16 (634, .iadd, 1) (List.mem_of_getElem? (i := 17) rfl)
theorem d_Law_law_635 : decode code 635 = .ok (.iaload, 1) := id_Law_law_16 (635, .iaload, 1) (List.mem_of_getElem? (i := 18) rfl)
theorem d_Law_law_636 : decode code 636 = .ok (.aload_n 3, 1) := id_Law_law_16 (636, .aload_n 3, 1) (List.mem_of_getElem? (i := 19) rfl)
theorem d_Law_law_637 : decode code 637 = .ok (.invokestatic 90, 3) := id_Law_law_16 (637, .invokestatic 90, 3) (List.mem_of_getElem? (i := 20) rfl)
theorem d_Law_law_640 : decode code 640 = .ok (.istore 5, 2) := id_Law_law_16 (640, .istore 5, 2) (List.mem_of_getElem? (i := 21) rfl)
theorem d_Law_law_642 : decode code 642 = .ok (.aload_n 2, 1) := id_Law_law_16 (642, .aload_n 2, 1) (List.mem_of_getElem? (i := 22) rfl)
theorem d_Law_law_643 : decode code 643 = .ok (.aload_n 0, 1) := id_Law_law_16 (643, .aload_n 0, 1) (List.mem_of_getElem? (i := 23) rfl)
def it_Law_law_17 : List (Nat × ClassFile.Instr × Nat) := [(644, .iload 4, 2), (646, .iconst 1, 1), (647, .iadd, 1), (648, .iaload, 1), (649, .aload_n 0, 1), (650, .iload 4, 2), (652, .iconst 2, 1), (653, .iadd, 1), (654, .iaload, 1), (655, .aload_n 0, 1), (656, .iload 4, 2), (658, .iconst 3, 1), (659, .iadd, 1), (660, .iaload, 1), (661, .aload_n 0, 1), (662, .iload 4, 2), (664, .iconst 4, 1), (665, .iadd, 1), (666, .iaload, 1), (667, .invokevirtual 93, 3), (670, .istore 6, 2), (672, .aload_n 2, 1), (673, .invokevirtual 61, 3), (676, .iload 5, 2)]
theorem id_Law_law_17 : ∀ q ∈ it_Law_law_17, decode code q.1 = .ok q.2 := by decide +kernel
theorem d_Law_law_644 : decode code 644 = .ok (.iload 4, 2) := id_Law_law_17 (644, .iload 4, 2) (List.mem_of_getElem? (i := 0) rfl)
theorem d_Law_law_646 : decode code 646 = .ok (.iconst 1, 1) := id_Law_law_17 (646, .iconst 1, 1) (List.mem_of_getElem? (i := 1) rfl)
theorem d_Law_law_647 : decode code 647 = .ok (.iadd, 1) := id_Law_law_17 (647, .iadd, 1) (List.mem_of_getElem? (i := 2) rfl)
theorem d_Law_law_648 : decode code 648 = .ok (.iaload, 1) := id_Law_law_17 (648, .iaload, 1) (List.mem_of_getElem? (i := 3) rfl)
theorem d_Law_law_649 : decode code 649 = .ok (.aload_n 0, 1) := id_Law_law_17 (649, .aload_n 0, 1) (List.mem_of_getElem? (i := 4) rfl)
theorem d_Law_law_650 : decode code 650 = .ok (.iload 4, 2) := id_Law_law_17 (650, .iload 4, 2) (List.mem_of_getElem? (i := 5) rfl)
theorem d_Law_law_652 : decode code 652 = .ok (.iconst 2, 1) := id_Law_law_17 (652, .iconst 2, 1) (List.mem_of_getElem? (i := 6) rfl)
theorem d_Law_law_653 : decode code 653 = .ok (.iadd, 1) := id_Law_law_17 (653, .iadd, 1) (List.mem_of_getElem? (i := 7) rfl)
theorem d_Law_law_654 : decode code 654 = .ok (.iaload, 1) := id_Law_law_17 (654, .iaload, 1) (List.mem_of_getElem? (i := 8) rfl)
theorem d_Law_law_655 : decode code 655 = .ok (.aload_n 0, 1) := id_Law_law_17 (655, .aload_n 0, 1) (List.mem_of_getElem? (i := 9) rfl)
theorem d_Law_law_656 : decode code 656 = .ok (.iload 4, 2) := id_Law_law_17 (656, .iload 4, 2) (List.mem_of_getElem? (i := 10) rfl)
theorem d_Law_law_658 : decode code 658 = .ok (.iconst 3, 1) := id_Law_law_17 (658, .iconst 3, 1) (List.mem_of_getElem? (i := 11) rfl)
theorem d_Law_law_659 : decode code 659 = .ok (.iadd, 1) := id_Law_law_17 (659, .iadd, 1) (List.mem_of_getElem? (i := 12) rfl)
theorem d_Law_law_660 : decode code 660 = .ok (.iaload, 1) := id_Law_law_17 (660, .iaload, 1) (List.mem_of_getElem? (i := 13) rfl)
theorem d_Law_law_661 : decode code 661 = .ok (.aload_n 0, 1) := id_Law_law_17 (661, .aload_n 0, 1) (List.mem_of_getElem? (i := 14) rfl)
theorem d_Law_law_662 : decode code 662 = .ok (.iload 4, 2) := id_Law_law_17 (662, .iload 4, 2) (List.mem_of_getElem? (i := 15) rfl)
theorem d_Law_law_664 : decode code 664 = .ok (.iconst 4, 1) := id_Law_law_17 (664, .iconst 4, 1) (List.mem_of_getElem? (i := 16) rfl)
theorem d_Law_law_665 : decode code 665 = .ok (.iadd, 1) := id_Law_law_17 (665, .iadd, 1) (List.mem_of_getElem? (i := 17) rfl)
theorem d_Law_law_666 : decode code 666 = .ok (.iaload, 1) := id_Law_law_17 (666, .iaload, 1) (List.mem_of_getElem? (i := 18) rfl)
theorem d_Law_law_667 : decode code 667 = .ok (.invokevirtual 93, 3) := id_Law_law_17 (667, .invokevirtual 93, 3) (List.mem_of_getElem? (i := 19) rfl)
theorem d_Law_law_670 : decode code 670 = .ok (.istore 6, 2) := id_Law_law_17 (670, .istore 6, 2) (List.mem_of_getElem? (i := 20) rfl)
theorem d_Law_law_672 : decode code 672 = .ok (.aload_n 2, 1) := id_Law_law_17 (672, .aload_n 2, 1) (List.mem_of_getElem? (i := 21) rfl)
theorem d_Law_law_673 : decode code 673 = .ok (.invokevirtual 61, 3) := id_Law_law_17 (673, .invokevirtual 61, 3) (List.mem_of_getElem? (i := 22) rfl)
theorem d_Law_law_676 : decode code 676 = .ok (.iload 5, 2) := id_Law_law_17 (676, .iload 5, 2) (List.mem_of_getElem? (i := 23) rfl)
def it_Law_law_18 : List (Nat × ClassFile.Instr × Nat) := [(678, .if_icmp .eq (5), 3), (681, .iconst 0, 1), (682, .ireturn, 1), (683, .iload 5, 2), (685, .ifCond .ne (15), 3), (688, .aload_n 3, 1), (689, .iconst 0, 1), (690, .laload, 1), (691, .iload 6, 2), (693, .i2l, 1), (694, .lcmp, 1), (695, .ifCond .eq (5), 3), (698, .iconst 0, 1), (699, .ireturn, 1), (700, .goto (71), 3), (703, .aload_n 1, 1), (704, .aload_n 0, 1), (705, .iload 4, 2), (707, .iconst 1, 1), (708, .iadd, 1), (709, .iaload, 1), (710, .aload_n 0, 1), (711, .iload 4, 2), (713, .iconst 2, 1)]
theorem id_Law_law_18 : ∀ q ∈ it_Law_law_18, decode code q.1 = .ok q.2 := by decide +kernel
theorem d_Law_law_678 : decode code 678 = .ok (.if_icmp .eq (5), 3) := id_Law_law_18 (678, .if_icmp .eq (5), 3) (List.mem_of_getElem? (i := 0) rfl)
theorem d_Law_law_681 : decode code 681 = .ok (.iconst 0, 1) := id_Law_law_18 (681, .iconst 0, 1) (List.mem_of_getElem? (i := 1) rfl)
theorem d_Law_law_682 : decode code 682 = .ok (.ireturn, 1) := id_Law_law_18 (682, .ireturn, 1) (List.mem_of_getElem? (i := 2) rfl)
theorem d_Law_law_683 : decode code 683 = .ok (.iload 5, 2) := id_Law_law_18 (683, .iload 5, 2) (List.mem_of_getElem? (i := 3) rfl)
theorem d_Law_law_685 : decode code 685 = .ok (.ifCond .ne (15), 3) := id_Law_law_18 (685, .ifCond .ne (15), 3) (List.mem_of_getElem? (i := 4) rfl)
theorem d_Law_law_688 : decode code 688 = .ok (.aload_n 3, 1) := id_Law_law_18 (688, .aload_n 3, 1) (List.mem_of_getElem? (i := 5) rfl)
theorem d_Law_law_689 : decode code 689 = .ok (.iconst 0, 1) := id_Law_law_18 (689, .iconst 0, 1) (List.mem_of_getElem? (i := 6) rfl)
theorem d_Law_law_690 : decode code 690 = .ok (.laload, 1) := id_Law_law_18 (690, .laload, 1) (List.mem_of_getElem? (i := 7) rfl)
theorem d_Law_law_691 : decode code 691 = .ok (.iload 6, 2) := id_Law_law_18 (691, .iload 6, 2) (List.mem_of_getElem? (i := 8) rfl)
theorem d_Law_law_693 : decode code 693 = .ok (.i2l, 1) := id_Law_law_18 (693, .i2l, 1) (List.mem_of_getElem? (i := 9) rfl)
theorem d_Law_law_694 : decode code 694 = .ok (.lcmp, 1) := id_Law_law_18 (694, .lcmp, 1) (List.mem_of_getElem? (i := 10) rfl)
theorem d_Law_law_695 : decode code 695 = .ok (.ifCond .eq (5), 3) := id_Law_law_18 (695, .ifCond .eq (5), 3) (List.mem_of_getElem? (i := 11) rfl)
theorem d_Law_law_698 : decode code 698 = .ok (.iconst 0, 1) := id_Law_law_18 (698, .iconst 0, 1) (List.mem_of_getElem? (i := 12) rfl)
theorem d_Law_law_699 : decode code 699 = .ok (.ireturn, 1) := id_Law_law_18 (699, .ireturn, 1) (List.mem_of_getElem? (i := 13) rfl)
theorem d_Law_law_700 : decode code 700 = .ok (.goto (71), 3) := id_Law_law_18 (700, .goto (71), 3) (List.mem_of_getElem? (i := 14) rfl)
theorem d_Law_law_703 : decode code 703 = .ok (.aload_n 1, 1) := id_Law_law_18 (703, .aload_n 1, 1) (List.mem_of_getElem? (i := 15) rfl)
theorem d_Law_law_704 : decode code 704 = .ok (.aload_n 0, 1) := id_Law_law_18 (704, .aload_n 0, 1) (List.mem_of_getElem? (i := 16) rfl)
theorem d_Law_law_705 : decode code 705 = .ok (.iload 4, 2) := id_Law_law_18 (705, .iload 4, 2) (List.mem_of_getElem? (i := 17) rfl)
theorem d_Law_law_707 : decode code 707 = .ok (.iconst 1, 1) := id_Law_law_18 (707, .iconst 1, 1) (List.mem_of_getElem? (i := 18) rfl)
theorem d_Law_law_708 : decode code 708 = .ok (.iadd, 1) := id_Law_law_18 (708, .iadd, 1) (List.mem_of_getElem? (i := 19) rfl)
theorem d_Law_law_709 : decode code 709 = .ok (.iaload, 1) := id_Law_law_18 (709, .iaload, 1) (List.mem_of_getElem? (i := 20) rfl)
theorem d_Law_law_710 : decode code 710 = .ok (.aload_n 0, 1) := id_Law_law_18 (710, .aload_n 0, 1) (List.mem_of_getElem? (i := 21) rfl)
theorem d_Law_law_711 : decode code 711 = .ok (.iload 4, 2) := id_Law_law_18 (711, .iload 4, 2) (List.mem_of_getElem? (i := 22) rfl)
theorem d_Law_law_713 : decode code 713 = .ok (.iconst 2, 1) := id_Law_law_18 (713, .iconst 2, 1) (List.mem_of_getElem? (i := 23) rfl)
def it_Law_law_19 : List (Nat × ClassFile.Instr × Nat) := [(714, .iadd, 1), (715, .iaload, 1), (716, .aload_n 3, 1), (717, .invokestatic 94, 3), (720, .istore 5, 2), (722, .aload_n 2, 1), (723, .aload_n 0, 1), (724, .iload 4, 2), (726, .iconst 1, 1), (727, .iadd, 1), (728, .iaload, 1), (729, .aload_n 0, 1), (730, .iload 4, 2), (732, .iconst 2, 1), (733, .iadd, 1), (734, .iaload, 1), (735, .invokevirtual 97, 3), (738, .istore 6, 2), (740, .aload_n 2, 1), (741, .invokevirtual 61, 3), (744, .iload 5, 2), (746, .if_icmp .eq (5), 3), (749, .iconst 0, 1), (750, .ireturn, 1)]
theorem id_Law_law_19 : ∀ q ∈ it_Law_law_19, decode code q.1 = .ok q.2 := by decide +kernel
theorem d_Law_law_714 : decode code 714 = .ok (.iadd, 1) := id_Law_law_19 (714, .iadd, 1) (List.mem_of_getElem? (i := 0) rfl)
theorem d_Law_law_715 : decode code 715 = .ok (.iaload, 1) := id_Law_law_19 (715, .iaload, 1) (List.mem_of_getElem? (i := 1) rfl)
theorem d_Law_law_716 : decode code 716 = .ok (.aload_n 3, 1) := id_Law_law_19 (716, .aload_n 3, 1) (List.mem_of_getElem? (i := 2) rfl)
theorem d_Law_law_717 : decode code 717 = .ok (.invokestatic 94, 3) := id_Law_law_19 (717, .invokestatic 94, 3) (List.mem_of_getElem? (i := 3) rfl)
theorem d_Law_law_720 : decode code 720 = .ok (.istore 5, 2) := id_Law_law_19 (720, .istore 5, 2) (List.mem_of_getElem? (i := 4) rfl)
theorem d_Law_law_722 : decode code 722 = .ok (.aload_n 2, 1) := id_Law_law_19 (722, .aload_n 2, 1) (List.mem_of_getElem? (i := 5) rfl)
theorem d_Law_law_723 : decode code 723 = .ok (.aload_n 0, 1) := id_Law_law_19 (723, .aload_n 0, 1) (List.mem_of_getElem? (i := 6) rfl)
theorem d_Law_law_724 : decode code 724 = .ok (.iload 4, 2) := id_Law_law_19 (724, .iload 4, 2) (List.mem_of_getElem? (i := 7) rfl)
theorem d_Law_law_726 : decode code 726 = .ok (.iconst 1, 1) := id_Law_law_19 (726, .iconst 1, 1) (List.mem_of_getElem? (i := 8) rfl)
theorem d_Law_law_727 : decode code 727 = .ok (.iadd, 1) := id_Law_law_19 (727, .iadd, 1) (List.mem_of_getElem? (i := 9) rfl)
theorem d_Law_law_728 : decode code 728 = .ok (.iaload, 1) := id_Law_law_19 (728, .iaload, 1) (List.mem_of_getElem? (i := 10) rfl)
theorem d_Law_law_729 : decode code 729 = .ok (.aload_n 0, 1) := id_Law_law_19 (729, .aload_n 0, 1) (List.mem_of_getElem? (i := 11) rfl)
theorem d_Law_law_730 : decode code 730 = .ok (.iload 4, 2) := id_Law_law_19 (730, .iload 4, 2) (List.mem_of_getElem? (i := 12) rfl)
theorem d_Law_law_732 : decode code 732 = .ok (.iconst 2, 1) := id_Law_law_19 (732, .iconst 2, 1) (List.mem_of_getElem? (i := 13) rfl)
theorem d_Law_law_733 : decode code 733 = .ok (.iadd, 1) := id_Law_law_19 (733, .iadd, 1) (List.mem_of_getElem? (i := 14) rfl)
theorem d_Law_law_734 : decode code 734 = .ok (.iaload, 1) := id_Law_law_19 (734, .iaload, 1) (List.mem_of_getElem? (i := 15) rfl)
theorem d_Law_law_735 : decode code 735 = .ok (.invokevirtual 97, 3) := id_Law_law_19 (735, .invokevirtual 97, 3) (List.mem_of_getElem? (i := 16) rfl)
theorem d_Law_law_738 : decode code 738 = .ok (.istore 6, 2) := id_Law_law_19 (738, .istore 6, 2) (List.mem_of_getElem? (i := 17) rfl)
theorem d_Law_law_740 : decode code 740 = .ok (.aload_n 2, 1) := id_Law_law_19 (740, .aload_n 2, 1) (List.mem_of_getElem? (i := 18) rfl)
theorem d_Law_law_741 : decode code 741 = .ok (.invokevirtual 61, 3) := id_Law_law_19 (741, .invokevirtual 61, 3) (List.mem_of_getElem? (i := 19) rfl)
theorem d_Law_law_744 : decode code 744 = .ok (.iload 5, 2) := id_Law_law_19 (744, .iload 5, 2) (List.mem_of_getElem? (i := 20) rfl)
theorem d_Law_law_746 : decode code 746 = .ok (.if_icmp .eq (5), 3) := id_Law_law_19 (746, .if_icmp .eq (5), 3) (List.mem_of_getElem? (i := 21) rfl)
theorem d_Law_law_749 : decode code 749 = .ok (.iconst 0, 1) := id_Law_law_19 (749, .iconst 0, 1) (List.mem_of_getElem? (i := 22) rfl)
theorem d_Law_law_750 : decode code 750 = .ok (.ireturn, 1) := id_Law_law_19 (750, .ireturn, 1) (List.mem_of_getElem? (i := 23) rfl)
def it_Law_law_20 : List (Nat × ClassFile.Instr × Nat) := [(751, .iload 5, 2), (753, .ifCond .ne (15), 3), (756, .aload_n 3, 1), (757, .iconst 0, 1), (758, .laload, 1), (759, .iload 6, 2), (761, .i2l, 1), (762, .lcmp, 1), (763, .ifCond .eq (5), 3), (766, .iconst 0, 1), (767, .ireturn, 1), (768, .goto (3), 3), (771, .iinc 4 (7), 3), (774, .goto (-751), 3), (777, .iconst 1, 1), (778, .ireturn, 1)]
theorem id_Law_law_20 : ∀ q ∈ it_Law_law_20, decode code q.1 = .ok q.2 := by decide +kernel
theorem d_Law_law_751 : decode code 751 = .ok (.iload 5, 2) := id_Law_law_20 (751, .iload 5, 2) (List.mem_of_getElem? (i := 0) rfl)
theorem d_Law_law_753 : decode code 753 = .ok (.ifCond .ne (15), 3) := id_Law_law_20 (753, .ifCond .ne (15), 3) (List.mem_of_getElem? (i := 1) rfl)
theorem d_Law_law_756 : decode code 756 = .ok (.aload_n 3, 1) := id_Law_law_20 (756, .aload_n 3, 1) (List.mem_of_getElem? (i := 2) rfl)
theorem d_Law_law_757 : decode code 757 = .ok (.iconst 0, 1) := id_Law_law_20 (757, .iconst 0, 1) (List.mem_of_getElem? (i := 3) rfl)
theorem d_Law_law_758 : decode code 758 = .ok (.laload, 1) := id_Law_law_20 (758, .laload, 1) (List.mem_of_getElem? (i := 4) rfl)
theorem d_Law_law_759 : decode code 759 = .ok (.iload 6, 2) := id_Law_law_20 (759, .iload 6, 2) (List.mem_of_getElem? (i := 5) rfl)
theorem d_Law_law_761 : decode code 761 = .ok (.i2l, 1) := id_Law_law_20 (761, .i2l, 1) (List.mem_of_getElem? (i := 6) rfl)
theorem d_Law_law_762 : decode code 762 = .ok (.lcmp, 1) := id_Law_law_20 (762, .lcmp, 1) (List.mem_of_getElem? (i := 7) rfl)
theorem d_Law_law_763 : decode code 763 = .ok (.ifCond .eq (5), 3) := id_Law_law_20 (763, .ifCond .eq (5), 3) (List.mem_of_getElem? (i := 8) rfl)
theorem d_Law_law_766 : decode code 766 = .ok (.iconst 0, 1) := id_Law_law_20 (766, .iconst 0, 1) (List.mem_of_getElem? (i := 9) rfl)
theorem d_Law_law_767 : decode code 767 = .ok (.ireturn, 1) := id_Law_law_20 (767, .ireturn, 1) (List.mem_of_getElem? (i := 10) rfl)
theorem d_Law_law_768 : decode code 768 = .ok (.goto (3), 3) := id_Law_law_20 (768, .goto (3), 3) (List.mem_of_getElem? (i := 11) rfl)
theorem d_Law_law_771 : decode code 771 = .ok (.iinc 4 (7), 3) := id_Law_law_20 (771, .iinc 4 (7), 3) (List.mem_of_getElem? (i := 12) rfl)
theorem d_Law_law_774 : decode code 774 = .ok (.goto (-751), 3) := id_Law_law_20 (774, .goto (-751), 3) (List.mem_of_getElem? (i := 13) rfl)
theorem d_Law_law_777 : decode code 777 = .ok (.iconst 1, 1) := id_Law_law_20 (777, .iconst 1, 1) (List.mem_of_getElem? (i := 14) rfl)
theorem d_Law_law_778 : decode code 778 = .ok (.ireturn, 1) := id_Law_law_20 (778, .ireturn, 1) (List.mem_of_getElem? (i := 15) rfl)
theorem cw_Law_law_WM_init : cW mi_Law_law mi_WM_init 0 := ⟨wC_WM_init, wi_WM, ⟨by decide, by decide, by decide +kernel⟩, by decide, by decide⟩
theorem cw_Law_law_Mod_init : cW mi_Law_law mi_Mod_init 0 := ⟨wC_Mod_init, wi_Mod, ⟨by decide, by decide, by decide +kernel⟩, by decide, by decide⟩
theorem cw_Law_law_WM_sizes : cW mi_Law_law mi_WM_sizes 6 := ⟨wC_WM_sizes, wi_WM, ⟨by decide, by decide, by decide +kernel⟩, by decide, by decide⟩
theorem cw_Law_law_Mod_sizes : cW mi_Law_law mi_Mod_sizes 6 := ⟨wC_Mod_sizes, wi_Mod, ⟨by decide, by decide, by decide +kernel⟩, by decide, by decide⟩
theorem cw_Law_law_WM_word : cW mi_Law_law mi_WM_word 2 := ⟨wC_WM_word, wi_WM, ⟨by decide, by decide, by decide +kernel⟩, by decide, by decide⟩
theorem cw_Law_law_Mod_word : cW mi_Law_law mi_Mod_word 2 := ⟨wC_Mod_word, wi_Mod, ⟨by decide, by decide, by decide +kernel⟩, by decide, by decide⟩
theorem cw_Law_law_WM_set : cW mi_Law_law mi_WM_set 2 := ⟨wC_WM_set, wi_WM, ⟨by decide, by decide, by decide +kernel⟩, by decide, by decide⟩
theorem cw_Law_law_Mod_set : cW mi_Law_law mi_Mod_set 2 := ⟨wC_Mod_set, wi_Mod, ⟨by decide, by decide, by decide +kernel⟩, by decide, by decide⟩
theorem cw_Law_law_WM_launch : cW mi_Law_law mi_WM_launch 2 := ⟨wC_WM_launch, wi_WM, ⟨by decide, by decide, by decide +kernel⟩, by decide, by decide⟩
theorem cw_Law_law_Mod_launch : cW mi_Law_law mi_Mod_launch 2 := ⟨wC_Mod_launch, wi_Mod, ⟨by decide, by decide, by decide +kernel⟩, by decide, by decide⟩
theorem cw_Law_law_Mod_run : cW mi_Law_law mi_Mod_run 1 := ⟨wC_Mod_run, wi_Mod, ⟨by decide, by decide, by decide +kernel⟩, by decide, by decide⟩
theorem cw_Law_law_Mod_thrown : cW mi_Law_law mi_Mod_thrown 0 := ⟨wC_Mod_thrown, wi_Mod, ⟨by decide, by decide, by decide +kernel⟩, by decide, by decide⟩
theorem cw_Law_law_WM_stop : cW mi_Law_law mi_WM_stop 0 := ⟨wC_WM_stop, wi_WM, ⟨by decide, by decide, by decide +kernel⟩, by decide, by decide⟩
theorem cw_Law_law_Mod_stop : cW mi_Law_law mi_Mod_stop 0 := ⟨wC_Mod_stop, wi_Mod, ⟨by decide, by decide, by decide +kernel⟩, by decide, by decide⟩
theorem cw_Law_law_Mod_global : cW mi_Law_law mi_Mod_global 1 := ⟨wC_Mod_global, wi_Mod, ⟨by decide, by decide, by decide +kernel⟩, by decide, by decide⟩
theorem cw_Law_law_WM_state : cW mi_Law_law mi_WM_state 1 := ⟨wC_WM_state, wi_WM, ⟨by decide, by decide, by decide +kernel⟩, by decide, by decide⟩
theorem cw_Law_law_Mod_state : cW mi_Law_law mi_Mod_state 1 := ⟨wC_Mod_state, wi_Mod, ⟨by decide, by decide, by decide +kernel⟩, by decide, by decide⟩
theorem cw_Law_law_WM_unit : cW mi_Law_law mi_WM_unit 2 := ⟨wC_WM_unit, wi_WM, ⟨by decide, by decide, by decide +kernel⟩, by decide, by decide⟩
theorem cw_Law_law_Mod_unit : cW mi_Law_law mi_Mod_unit 2 := ⟨wC_Mod_unit, wi_Mod, ⟨by decide, by decide, by decide +kernel⟩, by decide, by decide⟩
theorem cw_Law_law_WM_cached : cW mi_Law_law mi_WM_cached 2 := ⟨wC_WM_cached, wi_WM, ⟨by decide, by decide, by decide +kernel⟩, by decide, by decide⟩
theorem cw_Law_law_Mod_cached : cW mi_Law_law mi_Mod_cached 2 := ⟨wC_Mod_cached, wi_Mod, ⟨by decide, by decide, by decide +kernel⟩, by decide, by decide⟩
theorem cw_Law_law_WM_slot : cW mi_Law_law mi_WM_slot 3 := ⟨wC_WM_slot, wi_WM, ⟨by decide, by decide, by decide +kernel⟩, by decide, by decide⟩
theorem cw_Law_law_Mod_slot : cW mi_Law_law mi_Mod_slot 3 := ⟨wC_Mod_slot, wi_Mod, ⟨by decide, by decide, by decide +kernel⟩, by decide, by decide⟩
theorem cw_Law_law_Mod_lane : cW mi_Law_law mi_Mod_lane 4 := ⟨wC_Mod_lane, wi_Mod, ⟨by decide, by decide, by decide +kernel⟩, by decide, by decide⟩
theorem cw_Law_law_Mod_shared : cW mi_Law_law mi_Mod_shared 2 := ⟨wC_Mod_shared, wi_Mod, ⟨by decide, by decide, by decide +kernel⟩, by decide, by decide⟩
def b_Law_law_391 (F sl : Nat) (sx : Nat → Int32) (k23 : Nat → Nat → Nat → Int32 → Hp → Option (Int32 × Hp)) (x1 : Nat) (x2 : Nat) (x3 : Nat) (x4 : Int32) (h : Hp) : Option (Int32 × Hp) := k23 x1 x2 x3 (x4 + 7) h
set_option maxRecDepth 100000 in
set_option maxHeartbeats 4000000 in
theorem e_Law_law_391 {G : Gl} (hw : gF G) {h0 : Hp} {F : Nat} {r : Int32} {h' : Hp} {k23 : Nat → Nat → Nat → Int32 → Hp → Option (Int32 × Hp)} (hk23 : ∀ (y1 : Nat) (y2 : Nat) (y3 : Nat) (y4 : Int32) (hh : Hp), k23 y1 y2 y3 y4 hh = some (r, h') → Go G mi_Law_law h0 (pI r h') hh 23 [(0, .ref (gB G)), (1, .ref y1), (2, .ref y2), (3, .ref y3), (4, .int y4)] []) {x1 : Nat} {x2 : Nat} {x3 : Nat} {x4 : Int32} {h : Hp} (hf : b_Law_law_391 F (gL G) (gX G) k23 x1 x2 x3 x4 h = some (r, h')) : Go G mi_Law_law h0 (pI r h') h 391 [(0, .ref (gB G)), (1, .ref x1), (2, .ref x2), (3, .ref x3), (4, .int x4)] [] := by
  unfold b_Law_law_391 at hf
  refine g_goto 771 d_Law_law_391 (by decide) ?_
  refine g_iinc (_ + 7) d_Law_law_771 rfl (by rfl) (by decide) ?_
  show Go _ _ _ _ _ _ [(0, _), (1, _), (2, _), (3, _), (4, _)] _
  refine g_goto 23 d_Law_law_774 (by decide) ?_
  exact hk23 _ _ _ _ _ hf
def b_Law_law_460 (F sl : Nat) (sx : Nat → Int32) (k23 : Nat → Nat → Nat → Int32 → Hp → Option (Int32 × Hp)) (x1 : Nat) (x2 : Nat) (x3 : Nat) (x4 : Int32) (h : Hp) : Option (Int32 × Hp) := k23 x1 x2 x3 (x4 + 7) h
set_option maxRecDepth 100000 in
set_option maxHeartbeats 4000000 in
theorem e_Law_law_460 {G : Gl} (hw : gF G) {h0 : Hp} {F : Nat} {r : Int32} {h' : Hp} {k23 : Nat → Nat → Nat → Int32 → Hp → Option (Int32 × Hp)} (hk23 : ∀ (y1 : Nat) (y2 : Nat) (y3 : Nat) (y4 : Int32) (hh : Hp), k23 y1 y2 y3 y4 hh = some (r, h') → Go G mi_Law_law h0 (pI r h') hh 23 [(0, .ref (gB G)), (1, .ref y1), (2, .ref y2), (3, .ref y3), (4, .int y4)] []) {x1 : Nat} {x2 : Nat} {x3 : Nat} {x4 : Int32} {h : Hp} (hf : b_Law_law_460 F (gL G) (gX G) k23 x1 x2 x3 x4 h = some (r, h')) : Go G mi_Law_law h0 (pI r h') h 460 [(0, .ref (gB G)), (1, .ref x1), (2, .ref x2), (3, .ref x3), (4, .int x4)] [] := by
  unfold b_Law_law_460 at hf
  refine g_goto 771 d_Law_law_460 (by decide) ?_
  refine g_iinc (_ + 7) d_Law_law_771 rfl (by rfl) (by decide) ?_
  show Go _ _ _ _ _ _ [(0, _), (1, _), (2, _), (3, _), (4, _)] _
  refine g_goto 23 d_Law_law_774 (by decide) ?_
  exact hk23 _ _ _ _ _ hf
def b_Law_law_700 (F sl : Nat) (sx : Nat → Int32) (k23 : Nat → Nat → Nat → Int32 → Hp → Option (Int32 × Hp)) (x1 : Nat) (x2 : Nat) (x3 : Nat) (x4 : Int32) (h : Hp) : Option (Int32 × Hp) := k23 x1 x2 x3 (x4 + 7) h
set_option maxRecDepth 100000 in
set_option maxHeartbeats 4000000 in
theorem e_Law_law_700 {G : Gl} (hw : gF G) {h0 : Hp} {F : Nat} {r : Int32} {h' : Hp} {k23 : Nat → Nat → Nat → Int32 → Hp → Option (Int32 × Hp)} (hk23 : ∀ (y1 : Nat) (y2 : Nat) (y3 : Nat) (y4 : Int32) (hh : Hp), k23 y1 y2 y3 y4 hh = some (r, h') → Go G mi_Law_law h0 (pI r h') hh 23 [(0, .ref (gB G)), (1, .ref y1), (2, .ref y2), (3, .ref y3), (4, .int y4)] []) {x1 : Nat} {x2 : Nat} {x3 : Nat} {x4 : Int32} {h : Hp} (hf : b_Law_law_700 F (gL G) (gX G) k23 x1 x2 x3 x4 h = some (r, h')) : Go G mi_Law_law h0 (pI r h') h 700 [(0, .ref (gB G)), (1, .ref x1), (2, .ref x2), (3, .ref x3), (4, .int x4)] [] := by
  unfold b_Law_law_700 at hf
  refine g_goto 771 d_Law_law_700 (by decide) ?_
  refine g_iinc (_ + 7) d_Law_law_771 rfl (by rfl) (by decide) ?_
  show Go _ _ _ _ _ _ [(0, _), (1, _), (2, _), (3, _), (4, _)] _
  refine g_goto 23 d_Law_law_774 (by decide) ?_
  exact hk23 _ _ _ _ _ hf
def b_Law_law_768 (F sl : Nat) (sx : Nat → Int32) (k23 : Nat → Nat → Nat → Int32 → Hp → Option (Int32 × Hp)) (x1 : Nat) (x2 : Nat) (x3 : Nat) (x4 : Int32) (h : Hp) : Option (Int32 × Hp) := k23 x1 x2 x3 (x4 + 7) h
set_option maxRecDepth 100000 in
set_option maxHeartbeats 4000000 in
theorem e_Law_law_768 {G : Gl} (hw : gF G) {h0 : Hp} {F : Nat} {r : Int32} {h' : Hp} {k23 : Nat → Nat → Nat → Int32 → Hp → Option (Int32 × Hp)} (hk23 : ∀ (y1 : Nat) (y2 : Nat) (y3 : Nat) (y4 : Int32) (hh : Hp), k23 y1 y2 y3 y4 hh = some (r, h') → Go G mi_Law_law h0 (pI r h') hh 23 [(0, .ref (gB G)), (1, .ref y1), (2, .ref y2), (3, .ref y3), (4, .int y4)] []) {x1 : Nat} {x2 : Nat} {x3 : Nat} {x4 : Int32} {h : Hp} (hf : b_Law_law_768 F (gL G) (gX G) k23 x1 x2 x3 x4 h = some (r, h')) : Go G mi_Law_law h0 (pI r h') h 768 [(0, .ref (gB G)), (1, .ref x1), (2, .ref x2), (3, .ref x3), (4, .int x4)] [] := by
  unfold b_Law_law_768 at hf
  refine g_goto 771 d_Law_law_768 (by decide) ?_
  refine g_iinc (_ + 7) d_Law_law_771 rfl (by rfl) (by decide) ?_
  show Go _ _ _ _ _ _ [(0, _), (1, _), (2, _), (3, _), (4, _)] _
  refine g_goto 23 d_Law_law_774 (by decide) ?_
  exact hk23 _ _ _ _ _ hf
def b_Law_law_23 (F sl : Nat) (sx : Nat → Int32) : Nat → Nat → Nat → Nat → Int32 → Hp → Option (Int32 × Hp)
  | 0 => fun _ _ _ _ _ => none
  | n + 1 => fun x1 x2 x3 x4 h => if ((nI sl) - (7 : Int32)) < x4 then (some ((1 : Int32), h)) else (ix x4 sl fun j_36 => if ((sx j_36) &&& (15 : Int32)) = 0 then (ix (x4 + (1 : Int32)) sl fun j_114 => ix (x4 + (2 : Int32)) sl fun j_120 => ix (x4 + (3 : Int32)) sl fun j_126 => ix (x4 + (4 : Int32)) sl fun j_132 => ix (x4 + (5 : Int32)) sl fun j_138 => ix (x4 + (6 : Int32)) sl fun j_145 => gd (hK h x1 = 1) <| cl (f_WM_sizes F x1 (sx j_114) (sx j_120) (sx j_126) (sx j_132) (sx j_138) (sx j_145) h) fun v_146_2 h_146_2 => ix (x4 + (1 : Int32)) sl fun j_155 => ix (x4 + (2 : Int32)) sl fun j_161 => ix (x4 + (3 : Int32)) sl fun j_167 => ix (x4 + (4 : Int32)) sl fun j_173 => ix (x4 + (5 : Int32)) sl fun j_179 => ix (x4 + (6 : Int32)) sl fun j_186 => gd (hK h_146_2 x2 = 12) <| cl (f_Mod_sizes F x2 (sx j_155) (sx j_161) (sx j_167) (sx j_173) (sx j_179) (sx j_186) h_146_2) fun v_187_2 h_187_2 => if v_146_2 = v_187_2 then (b_Law_law_23 F sl sx n x1 x2 x3 (x4 + 7) h_187_2) else (some ((0 : Int32), h_187_2))) else if ((sx j_36) &&& (15 : Int32)) = 1 then (ix (x4 + (1 : Int32)) sl fun j_201 => ix (x4 + (2 : Int32)) sl fun j_207 => ix (x4 + (3 : Int32)) sl fun j_217 => gd (hK h x1 = 1) <| cl (f_WM_word F x1 (sx j_201) (((Int32.toInt64 (sx j_207)) <<< (Int32.toInt64 (32 : Int32) &&& 63)) ||| ((Int32.toInt64 (sx j_217)) &&& (4294967295 : Int64))) h) fun v_224_2 h_224_2 => ix (x4 + (1 : Int32)) sl fun j_233 => ix (x4 + (2 : Int32)) sl fun j_239 => ix (x4 + (3 : Int32)) sl fun j_249 => gd (hK h_224_2 x2 = 12) <| cl (f_Mod_word F x2 (sx j_233) (((Int32.toInt64 (sx j_239)) <<< (Int32.toInt64 (32 : Int32) &&& 63)) ||| ((Int32.toInt64 (sx j_249)) &&& (4294967295 : Int64))) h_224_2) fun v_256_2 h_256_2 => if v_224_2 = v_256_2 then (b_Law_law_23 F sl sx n x1 x2 x3 (x4 + 7) h_256_2) else (some ((0 : Int32), h_256_2))) else if ((sx j_36) &&& (15 : Int32)) = 2 then (ix (x4 + (1 : Int32)) sl fun j_270 => ix (x4 + (2 : Int32)) sl fun j_276 => gd (hK h x1 = 1) <| cl (f_WM_set F x1 (sx j_270) (sx j_276) h) fun v_277_2 h_277_2 => ix (x4 + (1 : Int32)) sl fun j_286 => ix (x4 + (2 : Int32)) sl fun j_292 => gd (hK h_277_2 x2 = 12) <| cl (f_Mod_set F x2 (sx j_286) (sx j_292) h_277_2) fun v_293_2 h_293_2 => if v_277_2 = v_293_2 then (b_Law_law_23 F sl sx n x1 x2 x3 (x4 + 7) h_293_2) else (some ((0 : Int32), h_293_2))) else if ((sx j_36) &&& (15 : Int32)) = 3 then (ix (x4 + (1 : Int32)) sl fun j_307 => ix (x4 + (2 : Int32)) sl fun j_313 => gd (hK h x1 = 1) <| cl (f_WM_launch F x1 (sx j_307) (sx j_313) h) fun v_314_2 h_314_2 => ix (x4 + (1 : Int32)) sl fun j_323 => ix (x4 + (2 : Int32)) sl fun j_329 => gd (hK h_314_2 x2 = 12) <| cl (f_Mod_launch F x2 (sx j_323) (sx j_329) h_314_2) fun v_330_2 h_330_2 => if v_314_2 = v_330_2 then (b_Law_law_23 F sl sx n x1 x2 x3 (x4 + 7) h_330_2) else (some ((0 : Int32), h_330_2))) else if ((sx j_36) &&& (15 : Int32)) = 4 then (ix (x4 + (1 : Int32)) sl fun j_344 => cl (f_Law_run F (some x1) (sx j_344) (some x3) h) fun v_346 h_346 => ix (x4 + (1 : Int32)) sl fun j_357 => gd (hK h_346 x2 = 12) <| cl (f_Mod_run F x2 (sx j_357) h_346) fun v_358_2 h_358_2 => gd (hK h_358_2 x2 = 12) <| cl (f_Mod_thrown F x2 h_358_2) fun v_364_2 h_364_2 => if v_364_2 = v_346 then (if v_346 = 0 then (gd (hK h_364_2 x3 = 110) <| ix (0 : Int32) (hN h_364_2 x3) fun j_381_2 => if (lg_cmp (hL h_364_2 x3 j_381_2) (Int32.toInt64 v_358_2)) = 0 then (b_Law_law_391 F sl sx (b_Law_law_23 F sl sx n) x1 x2 x3 x4 h_364_2) else (some ((0 : Int32), h_364_2))) else (b_Law_law_391 F sl sx (b_Law_law_23 F sl sx n) x1 x2 x3 x4 h_364_2)) else (some ((0 : Int32), h_364_2))) else if ((sx j_36) &&& (15 : Int32)) = 5 then (gd (hK h x1 = 1) <| cl (f_WM_stop F x1 h) fun v_395_2 h_395_2 => gd (hK h_395_2 x2 = 12) <| cl (f_Mod_stop F x2 h_395_2) fun v_399_2 h_399_2 => if v_395_2 = v_399_2 then (b_Law_law_23 F sl sx n x1 x2 x3 (x4 + 7) h_399_2) else (some ((0 : Int32), h_399_2))) else if ((sx j_36) &&& (15 : Int32)) = 6 then (ix (x4 + (1 : Int32)) sl fun j_413 => cl (f_Law_global F (some x1) (sx j_413) (some x3) h) fun v_415 h_415 => ix (x4 + (1 : Int32)) sl fun j_426 => gd (hK h_415 x2 = 12) <| cl (f_Mod_global F x2 (sx j_426) h_415) fun v_427_2 h_427_2 => gd (hK h_427_2 x2 = 12) <| cl (f_Mod_thrown F x2 h_427_2) fun v_433_2 h_433_2 => if v_433_2 = v_415 then (if v_415 = 0 then (gd (hK h_433_2 x3 = 110) <| ix (0 : Int32) (hN h_433_2 x3) fun j_450_2 => if (lg_cmp (hL h_433_2 x3 j_450_2) (Int32.toInt64 v_427_2)) = 0 then (b_Law_law_460 F sl sx (b_Law_law_23 F sl sx n) x1 x2 x3 x4 h_433_2) else (some ((0 : Int32), h_433_2))) else (b_Law_law_460 F sl sx (b_Law_law_23 F sl sx n) x1 x2 x3 x4 h_433_2)) else (some ((0 : Int32), h_433_2))) else if ((sx j_36) &&& (15 : Int32)) = 7 then (ix (x4 + (1 : Int32)) sl fun j_469 => gd (hK h x1 = 1) <| cl (f_WM_state F x1 (sx j_469) h) fun v_470_2 h_470_2 => ix (x4 + (1 : Int32)) sl fun j_479 => gd (hK h_470_2 x2 = 12) <| cl (f_Mod_state F x2 (sx j_479) h_470_2) fun v_480_2 h_480_2 => if v_470_2 = v_480_2 then (b_Law_law_23 F sl sx n x1 x2 x3 (x4 + 7) h_480_2) else (some ((0 : Int32), h_480_2))) else if ((sx j_36) &&& (15 : Int32)) = 8 then (ix (x4 + (1 : Int32)) sl fun j_494 => ix (x4 + (2 : Int32)) sl fun j_500 => gd (hK h x1 = 1) <| cl (f_WM_unit F x1 (sx j_494) (sx j_500) h) fun v_501_2 h_501_2 => ix (x4 + (1 : Int32)) sl fun j_510 => ix (x4 + (2 : Int32)) sl fun j_516 => gd (hK h_501_2 x2 = 12) <| cl (f_Mod_unit F x2 (sx j_510) (sx j_516) h_501_2) fun v_517_2 h_517_2 => if v_501_2 = v_517_2 then (b_Law_law_23 F sl sx n x1 x2 x3 (x4 + 7) h_517_2) else (some ((0 : Int32), h_517_2))) else if ((sx j_36) &&& (15 : Int32)) = 9 then (ix (x4 + (1 : Int32)) sl fun j_531 => ix (x4 + (2 : Int32)) sl fun j_537 => gd (hK h x1 = 1) <| cl (f_WM_cached F x1 (sx j_531) (sx j_537) h) fun v_538_2 h_538_2 => ix (x4 + (1 : Int32)) sl fun j_547 => ix (x4 + (2 : Int32)) sl fun j_553 => gd (hK h_538_2 x2 = 12) <| cl (f_Mod_cached F x2 (sx j_547) (sx j_553) h_538_2) fun v_554_2 h_554_2 => if v_538_2 = v_554_2 then (b_Law_law_23 F sl sx n x1 x2 x3 (x4 + 7) h_554_2) else (some ((0 : Int32), h_554_2))) else if ((sx j_36) &&& (15 : Int32)) = 10 then (ix (x4 + (1 : Int32)) sl fun j_568 => ix (x4 + (2 : Int32)) sl fun j_574 => ix (x4 + (3 : Int32)) sl fun j_580 => gd (hK h x1 = 1) <| cl (f_WM_slot F x1 (sx j_568) (sx j_574) (sx j_580) h) fun v_581_2 h_581_2 => ix (x4 + (1 : Int32)) sl fun j_590 => ix (x4 + (2 : Int32)) sl fun j_596 => ix (x4 + (3 : Int32)) sl fun j_602 => gd (hK h_581_2 x2 = 12) <| cl (f_Mod_slot F x2 (sx j_590) (sx j_596) (sx j_602) h_581_2) fun v_603_2 h_603_2 => if v_581_2 = v_603_2 then (b_Law_law_23 F sl sx n x1 x2 x3 (x4 + 7) h_603_2) else (some ((0 : Int32), h_603_2))) else if ((sx j_36) &&& (15 : Int32)) = 11 then (ix (x4 + (1 : Int32)) sl fun j_617 => ix (x4 + (2 : Int32)) sl fun j_623 => ix (x4 + (3 : Int32)) sl fun j_629 => ix (x4 + (4 : Int32)) sl fun j_635 => cl (f_Law_lane F (some x1) (sx j_617) (sx j_623) (sx j_629) (sx j_635) (some x3) h) fun v_637 h_637 => ix (x4 + (1 : Int32)) sl fun j_648 => ix (x4 + (2 : Int32)) sl fun j_654 => ix (x4 + (3 : Int32)) sl fun j_660 => ix (x4 + (4 : Int32)) sl fun j_666 => gd (hK h_637 x2 = 12) <| cl (f_Mod_lane F x2 (sx j_648) (sx j_654) (sx j_660) (sx j_666) h_637) fun v_667_2 h_667_2 => gd (hK h_667_2 x2 = 12) <| cl (f_Mod_thrown F x2 h_667_2) fun v_673_2 h_673_2 => if v_673_2 = v_637 then (if v_637 = 0 then (gd (hK h_673_2 x3 = 110) <| ix (0 : Int32) (hN h_673_2 x3) fun j_690_2 => if (lg_cmp (hL h_673_2 x3 j_690_2) (Int32.toInt64 v_667_2)) = 0 then (b_Law_law_700 F sl sx (b_Law_law_23 F sl sx n) x1 x2 x3 x4 h_673_2) else (some ((0 : Int32), h_673_2))) else (b_Law_law_700 F sl sx (b_Law_law_23 F sl sx n) x1 x2 x3 x4 h_673_2)) else (some ((0 : Int32), h_673_2))) else if ((sx j_36) &&& (15 : Int32)) = 12 then (ix (x4 + (1 : Int32)) sl fun j_709 => ix (x4 + (2 : Int32)) sl fun j_715 => cl (f_Law_shared F (some x1) (sx j_709) (sx j_715) (some x3) h) fun v_717 h_717 => ix (x4 + (1 : Int32)) sl fun j_728 => ix (x4 + (2 : Int32)) sl fun j_734 => gd (hK h_717 x2 = 12) <| cl (f_Mod_shared F x2 (sx j_728) (sx j_734) h_717) fun v_735_2 h_735_2 => gd (hK h_735_2 x2 = 12) <| cl (f_Mod_thrown F x2 h_735_2) fun v_741_2 h_741_2 => if v_741_2 = v_717 then (if v_717 = 0 then (gd (hK h_741_2 x3 = 110) <| ix (0 : Int32) (hN h_741_2 x3) fun j_758_2 => if (lg_cmp (hL h_741_2 x3 j_758_2) (Int32.toInt64 v_735_2)) = 0 then (b_Law_law_768 F sl sx (b_Law_law_23 F sl sx n) x1 x2 x3 x4 h_741_2) else (some ((0 : Int32), h_741_2))) else (b_Law_law_768 F sl sx (b_Law_law_23 F sl sx n) x1 x2 x3 x4 h_741_2)) else (some ((0 : Int32), h_741_2))) else (b_Law_law_23 F sl sx n x1 x2 x3 (x4 + 7) h))
set_option maxRecDepth 100000 in
set_option maxHeartbeats 4000000 in
theorem e_Law_law_23 {G : Gl} (hw : gF G) {h0 : Hp} {F : Nat} {r : Int32} {h' : Hp}   : ∀ (n : Nat) (x1 : Nat) (x2 : Nat) (x3 : Nat) (x4 : Int32) (h : Hp), b_Law_law_23 F (gL G) (gX G) n x1 x2 x3 x4 h = some (r, h') → Go G mi_Law_law h0 (pI r h') h 23 [(0, .ref (gB G)), (1, .ref x1), (2, .ref x2), (3, .ref x3), (4, .int x4)] [] := by
  intro n
  induction n with
  | zero =>
    intro _ _ _ _ _ hf
    exact nm_s hf
  | succ n ih =>
    intro x1 x2 x3 x4 h hf
    unfold b_Law_law_23 at hf
    refine g_iload d_Law_law_23 rfl ?_
    refine g_aload_n d_Law_law_25 rfl ?_
    refine g_slen d_Law_law_26 ?_
    refine g_bipush (7) d_Law_law_27 (by decide) ?_
    refine g_isub d_Law_law_29 ?_
    refine g_icmp_gt 777 d_Law_law_30 (by decide) (fun c_30 => ?_) (fun c_30 => ?_)
    · have hf := ifp hf c_30
      refine g_iconst 1 d_Law_law_777 (by decide) ?_
      exact Go.ret (some _) rOk_b1 rfl d_Law_law_778 (pI_of hf)
    · have hf := ifn hf c_30
      refine g_aload_n d_Law_law_33 rfl ?_
      refine g_iload d_Law_law_34 rfl ?_
      obtain ⟨i_36, hf⟩ := ix_s hf
      refine g_sld i_36 d_Law_law_36 ?_
      refine g_bipush (15) d_Law_law_37 (by decide) ?_
      refine g_iand d_Law_law_39 ?_
      refine g_sw sw_0_12 (fun hs_40 => ?_)
      rcases hs_40 with hs_40 | hs_40 | hs_40 | hs_40 | hs_40 | hs_40 | hs_40 | hs_40 | hs_40 | hs_40 | hs_40 | hs_40 | hs_40 | hs_40
      · refine g_tableOut 771 d_Law_law_40 hs_40 (by decide) ?_
        have hf := ifn hf (sw_ne hs_40 0 (by decide) (by decide))
        have hf := ifn hf (sw_ne hs_40 1 (by decide) (by decide))
        have hf := ifn hf (sw_ne hs_40 2 (by decide) (by decide))
        have hf := ifn hf (sw_ne hs_40 3 (by decide) (by decide))
        have hf := ifn hf (sw_ne hs_40 4 (by decide) (by decide))
        have hf := ifn hf (sw_ne hs_40 5 (by decide) (by decide))
        have hf := ifn hf (sw_ne hs_40 6 (by decide) (by decide))
        have hf := ifn hf (sw_ne hs_40 7 (by decide) (by decide))
        have hf := ifn hf (sw_ne hs_40 8 (by decide) (by decide))
        have hf := ifn hf (sw_ne hs_40 9 (by decide) (by decide))
        have hf := ifn hf (sw_ne hs_40 10 (by decide) (by decide))
        have hf := ifn hf (sw_ne hs_40 11 (by decide) (by decide))
        have hf := ifn hf (sw_ne hs_40 12 (by decide) (by decide))
        refine g_iinc (_ + 7) d_Law_law_771 rfl (by rfl) (by decide) ?_
        show Go _ _ _ _ _ _ [(0, _), (1, _), (2, _), (3, _), (4, _)] _
        refine g_goto 23 d_Law_law_774 (by decide) ?_
        exact ih _ _ _ _ _ hf
      · refine g_tableIn 108 d_Law_law_40 (by rw [hs_40]; decide) (by rw [hs_40]; decide) (by rw [hs_40]; rfl) (by decide) ?_
        have hf := ifp hf hs_40
        refine g_aload_n d_Law_law_108 rfl ?_
        refine g_aload_n d_Law_law_109 rfl ?_
        refine g_iload d_Law_law_110 rfl ?_
        refine g_iconst 1 d_Law_law_112 (by decide) ?_
        refine g_iadd d_Law_law_113 ?_
        obtain ⟨i_114, hf⟩ := ix_s hf
        refine g_sld i_114 d_Law_law_114 ?_
        refine g_aload_n d_Law_law_115 rfl ?_
        refine g_iload d_Law_law_116 rfl ?_
        refine g_iconst 2 d_Law_law_118 (by decide) ?_
        refine g_iadd d_Law_law_119 ?_
        obtain ⟨i_120, hf⟩ := ix_s hf
        refine g_sld i_120 d_Law_law_120 ?_
        refine g_aload_n d_Law_law_121 rfl ?_
        refine g_iload d_Law_law_122 rfl ?_
        refine g_iconst 3 d_Law_law_124 (by decide) ?_
        refine g_iadd d_Law_law_125 ?_
        obtain ⟨i_126, hf⟩ := ix_s hf
        refine g_sld i_126 d_Law_law_126 ?_
        refine g_aload_n d_Law_law_127 rfl ?_
        refine g_iload d_Law_law_128 rfl ?_
        refine g_iconst 4 d_Law_law_130 (by decide) ?_
        refine g_iadd d_Law_law_131 ?_
        obtain ⟨i_132, hf⟩ := ix_s hf
        refine g_sld i_132 d_Law_law_132 ?_
        refine g_aload_n d_Law_law_133 rfl ?_
        refine g_iload d_Law_law_134 rfl ?_
        refine g_iconst 5 d_Law_law_136 (by decide) ?_
        refine g_iadd d_Law_law_137 ?_
        obtain ⟨i_138, hf⟩ := ix_s hf
        refine g_sld i_138 d_Law_law_138 ?_
        refine g_aload_n d_Law_law_139 rfl ?_
        refine g_iload d_Law_law_140 rfl ?_
        refine g_bipush (6) d_Law_law_142 (by decide) ?_
        refine g_iadd d_Law_law_144 ?_
        obtain ⟨i_145, hf⟩ := ix_s hf
        refine g_sld i_145 d_Law_law_145 ?_
        obtain ⟨k_146, hf⟩ := gd_s hf
        obtain ⟨v_146_2, h_146_2, e_146_2, hf⟩ := cl_s hf
        refine g_callV (mz := mi_WM_sizes) (e_WM_sizes hw e_146_2) cw_Law_law_WM_sizes lm_Law_34 wI_WM_sizes wV_WM_sizes (ci := 0) k_146 (by decide) rfl rfl d_Law_law_146 rfl rfl (by first | exact Nat.le_of_ble_eq_true rfl | simp [cat_rf, Value.category]) (fun r1 h1 hp hro => ?_)
        obtain ⟨rfl, rfl⟩ := hp
        dsimp only [Option.toList_some, Option.toList_none, List.cons_append, List.nil_append]
        refine g_aload_n d_Law_law_149 rfl ?_
        refine g_aload_n d_Law_law_150 rfl ?_
        refine g_iload d_Law_law_151 rfl ?_
        refine g_iconst 1 d_Law_law_153 (by decide) ?_
        refine g_iadd d_Law_law_154 ?_
        obtain ⟨i_155, hf⟩ := ix_s hf
        refine g_sld i_155 d_Law_law_155 ?_
        refine g_aload_n d_Law_law_156 rfl ?_
        refine g_iload d_Law_law_157 rfl ?_
        refine g_iconst 2 d_Law_law_159 (by decide) ?_
        refine g_iadd d_Law_law_160 ?_
        obtain ⟨i_161, hf⟩ := ix_s hf
        refine g_sld i_161 d_Law_law_161 ?_
        refine g_aload_n d_Law_law_162 rfl ?_
        refine g_iload d_Law_law_163 rfl ?_
        refine g_iconst 3 d_Law_law_165 (by decide) ?_
        refine g_iadd d_Law_law_166 ?_
        obtain ⟨i_167, hf⟩ := ix_s hf
        refine g_sld i_167 d_Law_law_167 ?_
        refine g_aload_n d_Law_law_168 rfl ?_
        refine g_iload d_Law_law_169 rfl ?_
        refine g_iconst 4 d_Law_law_171 (by decide) ?_
        refine g_iadd d_Law_law_172 ?_
        obtain ⟨i_173, hf⟩ := ix_s hf
        refine g_sld i_173 d_Law_law_173 ?_
        refine g_aload_n d_Law_law_174 rfl ?_
        refine g_iload d_Law_law_175 rfl ?_
        refine g_iconst 5 d_Law_law_177 (by decide) ?_
        refine g_iadd d_Law_law_178 ?_
        obtain ⟨i_179, hf⟩ := ix_s hf
        refine g_sld i_179 d_Law_law_179 ?_
        refine g_aload_n d_Law_law_180 rfl ?_
        refine g_iload d_Law_law_181 rfl ?_
        refine g_bipush (6) d_Law_law_183 (by decide) ?_
        refine g_iadd d_Law_law_185 ?_
        obtain ⟨i_186, hf⟩ := ix_s hf
        refine g_sld i_186 d_Law_law_186 ?_
        obtain ⟨k_187, hf⟩ := gd_s hf
        obtain ⟨v_187_2, h_187_2, e_187_2, hf⟩ := cl_s hf
        refine g_callV (mz := mi_Mod_sizes) (e_Mod_sizes hw e_187_2) cw_Law_law_Mod_sizes lm_Law_38 wI_Mod_sizes wV_Mod_sizes (ci := 11) k_187 (by decide) rfl rfl d_Law_law_187 rfl rfl (by first | exact Nat.le_of_ble_eq_true rfl | simp [cat_rf, Value.category]) (fun r1 h1 hp hro => ?_)
        obtain ⟨rfl, rfl⟩ := hp
        dsimp only [Option.toList_some, Option.toList_none, List.cons_append, List.nil_append]
        refine g_icmp_eq 771 d_Law_law_190 (by decide) (fun c_190 => ?_) (fun c_190 => ?_)
        · have hf := ifp hf c_190
          refine g_iinc (_ + 7) d_Law_law_771 rfl (by rfl) (by decide) ?_
          show Go _ _ _ _ _ _ [(0, _), (1, _), (2, _), (3, _), (4, _)] _
          refine g_goto 23 d_Law_law_774 (by decide) ?_
          exact ih _ _ _ _ _ hf
        · have hf := ifn hf c_190
          refine g_iconst 0 d_Law_law_193 (by decide) ?_
          exact Go.ret (some _) rOk_b0 rfl d_Law_law_194 (pI_of hf)
      · refine g_tableIn 195 d_Law_law_40 (by rw [hs_40]; decide) (by rw [hs_40]; decide) (by rw [hs_40]; rfl) (by decide) ?_
        have hf := ifn hf (sw_d hs_40 (by decide))
        have hf := ifp hf hs_40
        refine g_aload_n d_Law_law_195 rfl ?_
        refine g_aload_n d_Law_law_196 rfl ?_
        refine g_iload d_Law_law_197 rfl ?_
        refine g_iconst 1 d_Law_law_199 (by decide) ?_
        refine g_iadd d_Law_law_200 ?_
        obtain ⟨i_201, hf⟩ := ix_s hf
        refine g_sld i_201 d_Law_law_201 ?_
        refine g_aload_n d_Law_law_202 rfl ?_
        refine g_iload d_Law_law_203 rfl ?_
        refine g_iconst 2 d_Law_law_205 (by decide) ?_
        refine g_iadd d_Law_law_206 ?_
        obtain ⟨i_207, hf⟩ := ix_s hf
        refine g_sld i_207 d_Law_law_207 ?_
        refine g_i2l d_Law_law_208 ?_
        refine g_bipush (32) d_Law_law_209 (by decide) ?_
        refine g_lshl d_Law_law_211 ?_
        refine g_aload_n d_Law_law_212 rfl ?_
        refine g_iload d_Law_law_213 rfl ?_
        refine g_iconst 3 d_Law_law_215 (by decide) ?_
        refine g_iadd d_Law_law_216 ?_
        obtain ⟨i_217, hf⟩ := ix_s hf
        refine g_sld i_217 d_Law_law_217 ?_
        refine g_i2l d_Law_law_218 ?_
        refine g_ldc2 lk_Law_39 d_Law_law_219 ?_
        refine g_land d_Law_law_222 ?_
        refine g_lor d_Law_law_223 ?_
        obtain ⟨k_224, hf⟩ := gd_s hf
        obtain ⟨v_224_2, h_224_2, e_224_2, hf⟩ := cl_s hf
        refine g_callV (mz := mi_WM_word) (e_WM_word hw e_224_2) cw_Law_law_WM_word lm_Law_41 wI_WM_word wV_WM_word (ci := 0) k_224 (by decide) rfl rfl d_Law_law_224 rfl rfl (by first | exact Nat.le_of_ble_eq_true rfl | simp [cat_rf, Value.category]) (fun r1 h1 hp hro => ?_)
        obtain ⟨rfl, rfl⟩ := hp
        dsimp only [Option.toList_some, Option.toList_none, List.cons_append, List.nil_append]
        refine g_aload_n d_Law_law_227 rfl ?_
        refine g_aload_n d_Law_law_228 rfl ?_
        refine g_iload d_Law_law_229 rfl ?_
        refine g_iconst 1 d_Law_law_231 (by decide) ?_
        refine g_iadd d_Law_law_232 ?_
        obtain ⟨i_233, hf⟩ := ix_s hf
        refine g_sld i_233 d_Law_law_233 ?_
        refine g_aload_n d_Law_law_234 rfl ?_
        refine g_iload d_Law_law_235 rfl ?_
        refine g_iconst 2 d_Law_law_237 (by decide) ?_
        refine g_iadd d_Law_law_238 ?_
        obtain ⟨i_239, hf⟩ := ix_s hf
        refine g_sld i_239 d_Law_law_239 ?_
        refine g_i2l d_Law_law_240 ?_
        refine g_bipush (32) d_Law_law_241 (by decide) ?_
        refine g_lshl d_Law_law_243 ?_
        refine g_aload_n d_Law_law_244 rfl ?_
        refine g_iload d_Law_law_245 rfl ?_
        refine g_iconst 3 d_Law_law_247 (by decide) ?_
        refine g_iadd d_Law_law_248 ?_
        obtain ⟨i_249, hf⟩ := ix_s hf
        refine g_sld i_249 d_Law_law_249 ?_
        refine g_i2l d_Law_law_250 ?_
        refine g_ldc2 lk_Law_39 d_Law_law_251 ?_
        refine g_land d_Law_law_254 ?_
        refine g_lor d_Law_law_255 ?_
        obtain ⟨k_256, hf⟩ := gd_s hf
        obtain ⟨v_256_2, h_256_2, e_256_2, hf⟩ := cl_s hf
        refine g_callV (mz := mi_Mod_word) (e_Mod_word hw e_256_2) cw_Law_law_Mod_word lm_Law_45 wI_Mod_word wV_Mod_word (ci := 11) k_256 (by decide) rfl rfl d_Law_law_256 rfl rfl (by first | exact Nat.le_of_ble_eq_true rfl | simp [cat_rf, Value.category]) (fun r1 h1 hp hro => ?_)
        obtain ⟨rfl, rfl⟩ := hp
        dsimp only [Option.toList_some, Option.toList_none, List.cons_append, List.nil_append]
        refine g_icmp_eq 771 d_Law_law_259 (by decide) (fun c_259 => ?_) (fun c_259 => ?_)
        · have hf := ifp hf c_259
          refine g_iinc (_ + 7) d_Law_law_771 rfl (by rfl) (by decide) ?_
          show Go _ _ _ _ _ _ [(0, _), (1, _), (2, _), (3, _), (4, _)] _
          refine g_goto 23 d_Law_law_774 (by decide) ?_
          exact ih _ _ _ _ _ hf
        · have hf := ifn hf c_259
          refine g_iconst 0 d_Law_law_262 (by decide) ?_
          exact Go.ret (some _) rOk_b0 rfl d_Law_law_263 (pI_of hf)
      · refine g_tableIn 264 d_Law_law_40 (by rw [hs_40]; decide) (by rw [hs_40]; decide) (by rw [hs_40]; rfl) (by decide) ?_
        have hf := ifn hf (sw_d hs_40 (by decide))
        have hf := ifn hf (sw_d hs_40 (by decide))
        have hf := ifp hf hs_40
        refine g_aload_n d_Law_law_264 rfl ?_
        refine g_aload_n d_Law_law_265 rfl ?_
        refine g_iload d_Law_law_266 rfl ?_
        refine g_iconst 1 d_Law_law_268 (by decide) ?_
        refine g_iadd d_Law_law_269 ?_
        obtain ⟨i_270, hf⟩ := ix_s hf
        refine g_sld i_270 d_Law_law_270 ?_
        refine g_aload_n d_Law_law_271 rfl ?_
        refine g_iload d_Law_law_272 rfl ?_
        refine g_iconst 2 d_Law_law_274 (by decide) ?_
        refine g_iadd d_Law_law_275 ?_
        obtain ⟨i_276, hf⟩ := ix_s hf
        refine g_sld i_276 d_Law_law_276 ?_
        obtain ⟨k_277, hf⟩ := gd_s hf
        obtain ⟨v_277_2, h_277_2, e_277_2, hf⟩ := cl_s hf
        refine g_callV (mz := mi_WM_set) (e_WM_set hw e_277_2) cw_Law_law_WM_set lm_Law_46 wI_WM_set wV_WM_set (ci := 0) k_277 (by decide) rfl rfl d_Law_law_277 rfl rfl (by first | exact Nat.le_of_ble_eq_true rfl | simp [cat_rf, Value.category]) (fun r1 h1 hp hro => ?_)
        obtain ⟨rfl, rfl⟩ := hp
        dsimp only [Option.toList_some, Option.toList_none, List.cons_append, List.nil_append]
        refine g_aload_n d_Law_law_280 rfl ?_
        refine g_aload_n d_Law_law_281 rfl ?_
        refine g_iload d_Law_law_282 rfl ?_
        refine g_iconst 1 d_Law_law_284 (by decide) ?_
        refine g_iadd d_Law_law_285 ?_
        obtain ⟨i_286, hf⟩ := ix_s hf
        refine g_sld i_286 d_Law_law_286 ?_
        refine g_aload_n d_Law_law_287 rfl ?_
        refine g_iload d_Law_law_288 rfl ?_
        refine g_iconst 2 d_Law_law_290 (by decide) ?_
        refine g_iadd d_Law_law_291 ?_
        obtain ⟨i_292, hf⟩ := ix_s hf
        refine g_sld i_292 d_Law_law_292 ?_
        obtain ⟨k_293, hf⟩ := gd_s hf
        obtain ⟨v_293_2, h_293_2, e_293_2, hf⟩ := cl_s hf
        refine g_callV (mz := mi_Mod_set) (e_Mod_set hw e_293_2) cw_Law_law_Mod_set lm_Law_50 wI_Mod_set wV_Mod_set (ci := 11) k_293 (by decide) rfl rfl d_Law_law_293 rfl rfl (by first | exact Nat.le_of_ble_eq_true rfl | simp [cat_rf, Value.category]) (fun r1 h1 hp hro => ?_)
        obtain ⟨rfl, rfl⟩ := hp
        dsimp only [Option.toList_some, Option.toList_none, List.cons_append, List.nil_append]
        refine g_icmp_eq 771 d_Law_law_296 (by decide) (fun c_296 => ?_) (fun c_296 => ?_)
        · have hf := ifp hf c_296
          refine g_iinc (_ + 7) d_Law_law_771 rfl (by rfl) (by decide) ?_
          show Go _ _ _ _ _ _ [(0, _), (1, _), (2, _), (3, _), (4, _)] _
          refine g_goto 23 d_Law_law_774 (by decide) ?_
          exact ih _ _ _ _ _ hf
        · have hf := ifn hf c_296
          refine g_iconst 0 d_Law_law_299 (by decide) ?_
          exact Go.ret (some _) rOk_b0 rfl d_Law_law_300 (pI_of hf)
      · refine g_tableIn 301 d_Law_law_40 (by rw [hs_40]; decide) (by rw [hs_40]; decide) (by rw [hs_40]; rfl) (by decide) ?_
        have hf := ifn hf (sw_d hs_40 (by decide))
        have hf := ifn hf (sw_d hs_40 (by decide))
        have hf := ifn hf (sw_d hs_40 (by decide))
        have hf := ifp hf hs_40
        refine g_aload_n d_Law_law_301 rfl ?_
        refine g_aload_n d_Law_law_302 rfl ?_
        refine g_iload d_Law_law_303 rfl ?_
        refine g_iconst 1 d_Law_law_305 (by decide) ?_
        refine g_iadd d_Law_law_306 ?_
        obtain ⟨i_307, hf⟩ := ix_s hf
        refine g_sld i_307 d_Law_law_307 ?_
        refine g_aload_n d_Law_law_308 rfl ?_
        refine g_iload d_Law_law_309 rfl ?_
        refine g_iconst 2 d_Law_law_311 (by decide) ?_
        refine g_iadd d_Law_law_312 ?_
        obtain ⟨i_313, hf⟩ := ix_s hf
        refine g_sld i_313 d_Law_law_313 ?_
        obtain ⟨k_314, hf⟩ := gd_s hf
        obtain ⟨v_314_2, h_314_2, e_314_2, hf⟩ := cl_s hf
        refine g_callV (mz := mi_WM_launch) (e_WM_launch hw e_314_2) cw_Law_law_WM_launch lm_Law_51 wI_WM_launch wV_WM_launch (ci := 0) k_314 (by decide) rfl rfl d_Law_law_314 rfl rfl (by first | exact Nat.le_of_ble_eq_true rfl | simp [cat_rf, Value.category]) (fun r1 h1 hp hro => ?_)
        obtain ⟨rfl, rfl⟩ := hp
        dsimp only [Option.toList_some, Option.toList_none, List.cons_append, List.nil_append]
        refine g_aload_n d_Law_law_317 rfl ?_
        refine g_aload_n d_Law_law_318 rfl ?_
        refine g_iload d_Law_law_319 rfl ?_
        refine g_iconst 1 d_Law_law_321 (by decide) ?_
        refine g_iadd d_Law_law_322 ?_
        obtain ⟨i_323, hf⟩ := ix_s hf
        refine g_sld i_323 d_Law_law_323 ?_
        refine g_aload_n d_Law_law_324 rfl ?_
        refine g_iload d_Law_law_325 rfl ?_
        refine g_iconst 2 d_Law_law_327 (by decide) ?_
        refine g_iadd d_Law_law_328 ?_
        obtain ⟨i_329, hf⟩ := ix_s hf
        refine g_sld i_329 d_Law_law_329 ?_
        obtain ⟨k_330, hf⟩ := gd_s hf
        obtain ⟨v_330_2, h_330_2, e_330_2, hf⟩ := cl_s hf
        refine g_callV (mz := mi_Mod_launch) (e_Mod_launch hw e_330_2) cw_Law_law_Mod_launch lm_Law_54 wI_Mod_launch wV_Mod_launch (ci := 11) k_330 (by decide) rfl rfl d_Law_law_330 rfl rfl (by first | exact Nat.le_of_ble_eq_true rfl | simp [cat_rf, Value.category]) (fun r1 h1 hp hro => ?_)
        obtain ⟨rfl, rfl⟩ := hp
        dsimp only [Option.toList_some, Option.toList_none, List.cons_append, List.nil_append]
        refine g_icmp_eq 771 d_Law_law_333 (by decide) (fun c_333 => ?_) (fun c_333 => ?_)
        · have hf := ifp hf c_333
          refine g_iinc (_ + 7) d_Law_law_771 rfl (by rfl) (by decide) ?_
          show Go _ _ _ _ _ _ [(0, _), (1, _), (2, _), (3, _), (4, _)] _
          refine g_goto 23 d_Law_law_774 (by decide) ?_
          exact ih _ _ _ _ _ hf
        · have hf := ifn hf c_333
          refine g_iconst 0 d_Law_law_336 (by decide) ?_
          exact Go.ret (some _) rOk_b0 rfl d_Law_law_337 (pI_of hf)
      · refine g_tableIn 338 d_Law_law_40 (by rw [hs_40]; decide) (by rw [hs_40]; decide) (by rw [hs_40]; rfl) (by decide) ?_
        have hf := ifn hf (sw_d hs_40 (by decide))
        have hf := ifn hf (sw_d hs_40 (by decide))
        have hf := ifn hf (sw_d hs_40 (by decide))
        have hf := ifn hf (sw_d hs_40 (by decide))
        have hf := ifp hf hs_40
        refine g_aload_n d_Law_law_338 rfl ?_
        refine g_aload_n d_Law_law_339 rfl ?_
        refine g_iload d_Law_law_340 rfl ?_
        refine g_iconst 1 d_Law_law_342 (by decide) ?_
        refine g_iadd d_Law_law_343 ?_
        obtain ⟨i_344, hf⟩ := ix_s hf
        refine g_sld i_344 d_Law_law_344 ?_
        refine g_aload_n d_Law_law_345 rfl ?_
        obtain ⟨v_346, h_346, e_346, hf⟩ := cl_s hf
        refine g_callW (mz := mi_Law_run) (n := 3) (hs := hs_Law_run) (e_Law_run hw e_346) wCW_Law_run wi_Law ⟨by decide, by decide⟩ (by decide +kernel) (by decide) (by decide) lm_Law_55 wS_Law_run d_Law_law_346 rfl rfl (by first | exact Nat.le_of_ble_eq_true rfl | simp [cat_rf, Value.category]) (fun r1 h1 hp hro => ?_)
        obtain ⟨rfl, rfl⟩ := hp
        dsimp only [Option.toList_some, Option.toList_none, List.cons_append, List.nil_append]
        refine g_istore d_Law_law_349 (by decide) ?_
        show Go _ _ _ _ _ _ [(0, _), (1, _), (2, _), (3, _), (4, _), (5, _)] _
        refine g_aload_n d_Law_law_351 rfl ?_
        refine g_aload_n d_Law_law_352 rfl ?_
        refine g_iload d_Law_law_353 rfl ?_
        refine g_iconst 1 d_Law_law_355 (by decide) ?_
        refine g_iadd d_Law_law_356 ?_
        obtain ⟨i_357, hf⟩ := ix_s hf
        refine g_sld i_357 d_Law_law_357 ?_
        obtain ⟨k_358, hf⟩ := gd_s hf
        obtain ⟨v_358_2, h_358_2, e_358_2, hf⟩ := cl_s hf
        refine g_callV (mz := mi_Mod_run) (e_Mod_run hw e_358_2) cw_Law_law_Mod_run lm_Law_60 wI_Mod_run wV_Mod_run (ci := 11) k_358 (by decide) rfl rfl d_Law_law_358 rfl rfl (by first | exact Nat.le_of_ble_eq_true rfl | simp [cat_rf, Value.category]) (fun r1 h1 hp hro => ?_)
        obtain ⟨rfl, rfl⟩ := hp
        dsimp only [Option.toList_some, Option.toList_none, List.cons_append, List.nil_append]
        refine g_istore d_Law_law_361 (by decide) ?_
        show Go _ _ _ _ _ _ [(0, _), (1, _), (2, _), (3, _), (4, _), (5, _), (6, _)] _
        refine g_aload_n d_Law_law_363 rfl ?_
        obtain ⟨k_364, hf⟩ := gd_s hf
        obtain ⟨v_364_2, h_364_2, e_364_2, hf⟩ := cl_s hf
        refine g_callV (mz := mi_Mod_thrown) (e_Mod_thrown e_364_2) cw_Law_law_Mod_thrown lm_Law_61 wI_Mod_thrown wV_Mod_thrown (ci := 11) k_364 (by decide) rfl rfl d_Law_law_364 rfl rfl (by first | exact Nat.le_of_ble_eq_true rfl | simp [cat_rf, Value.category]) (fun r1 h1 hp hro => ?_)
        obtain ⟨rfl, rfl⟩ := hp
        dsimp only [Option.toList_some, Option.toList_none, List.cons_append, List.nil_append]
        refine g_iload d_Law_law_367 rfl ?_
        refine g_icmp_eq 374 d_Law_law_369 (by decide) (fun c_369 => ?_) (fun c_369 => ?_)
        · have hf := ifp hf c_369
          refine g_iload d_Law_law_374 rfl ?_
          refine g_if_ne 391 d_Law_law_376 (by decide) (fun c_376 => ?_) (fun c_376 => ?_)
          · have hf := ifn hf c_376
            refine Go.locals [0, 1, 2, 3, 4] rfl ?_
            have key := e_Law_law_391 hw (G := G) (h0 := h0) (fun _ _ _ _ _ q => ih _ _ _ _ _ q) hf
            exact key
          · have hf := ifp hf c_376
            refine g_aload_n d_Law_law_379 rfl ?_
            refine g_iconst 0 d_Law_law_380 (by decide) ?_
            obtain ⟨k_381, hf⟩ := gd_s hf
            obtain ⟨i_381_2, hf⟩ := ix_s hf
            refine g_lald k_381 i_381_2 d_Law_law_381 ?_
            refine g_iload d_Law_law_382 rfl ?_
            refine g_i2l d_Law_law_384 ?_
            refine g_lcmp d_Law_law_385 ?_
            refine g_if_eq 391 d_Law_law_386 (by decide) (fun c_386 => ?_) (fun c_386 => ?_)
            · have hf := ifp hf c_386
              refine Go.locals [0, 1, 2, 3, 4] rfl ?_
              have key := e_Law_law_391 hw (G := G) (h0 := h0) (fun _ _ _ _ _ q => ih _ _ _ _ _ q) hf
              exact key
            · have hf := ifn hf c_386
              refine g_iconst 0 d_Law_law_389 (by decide) ?_
              exact Go.ret (some _) rOk_b0 rfl d_Law_law_390 (pI_of hf)
        · have hf := ifn hf c_369
          refine g_iconst 0 d_Law_law_372 (by decide) ?_
          exact Go.ret (some _) rOk_b0 rfl d_Law_law_373 (pI_of hf)
      · refine g_tableIn 394 d_Law_law_40 (by rw [hs_40]; decide) (by rw [hs_40]; decide) (by rw [hs_40]; rfl) (by decide) ?_
        have hf := ifn hf (sw_d hs_40 (by decide))
        have hf := ifn hf (sw_d hs_40 (by decide))
        have hf := ifn hf (sw_d hs_40 (by decide))
        have hf := ifn hf (sw_d hs_40 (by decide))
        have hf := ifn hf (sw_d hs_40 (by decide))
        have hf := ifp hf hs_40
        refine g_aload_n d_Law_law_394 rfl ?_
        obtain ⟨k_395, hf⟩ := gd_s hf
        obtain ⟨v_395_2, h_395_2, e_395_2, hf⟩ := cl_s hf
        refine g_callV (mz := mi_WM_stop) (e_WM_stop hw e_395_2) cw_Law_law_WM_stop lm_Law_65 wI_WM_stop wV_WM_stop (ci := 0) k_395 (by decide) rfl rfl d_Law_law_395 rfl rfl (by first | exact Nat.le_of_ble_eq_true rfl | simp [cat_rf, Value.category]) (fun r1 h1 hp hro => ?_)
        obtain ⟨rfl, rfl⟩ := hp
        dsimp only [Option.toList_some, Option.toList_none, List.cons_append, List.nil_append]
        refine g_aload_n d_Law_law_398 rfl ?_
        obtain ⟨k_399, hf⟩ := gd_s hf
        obtain ⟨v_399_2, h_399_2, e_399_2, hf⟩ := cl_s hf
        refine g_callV (mz := mi_Mod_stop) (e_Mod_stop hw e_399_2) cw_Law_law_Mod_stop lm_Law_69 wI_Mod_stop wV_Mod_stop (ci := 11) k_399 (by decide) rfl rfl d_Law_law_399 rfl rfl (by first | exact Nat.le_of_ble_eq_true rfl | simp [cat_rf, Value.category]) (fun r1 h1 hp hro => ?_)
        obtain ⟨rfl, rfl⟩ := hp
        dsimp only [Option.toList_some, Option.toList_none, List.cons_append, List.nil_append]
        refine g_icmp_eq 771 d_Law_law_402 (by decide) (fun c_402 => ?_) (fun c_402 => ?_)
        · have hf := ifp hf c_402
          refine g_iinc (_ + 7) d_Law_law_771 rfl (by rfl) (by decide) ?_
          show Go _ _ _ _ _ _ [(0, _), (1, _), (2, _), (3, _), (4, _)] _
          refine g_goto 23 d_Law_law_774 (by decide) ?_
          exact ih _ _ _ _ _ hf
        · have hf := ifn hf c_402
          refine g_iconst 0 d_Law_law_405 (by decide) ?_
          exact Go.ret (some _) rOk_b0 rfl d_Law_law_406 (pI_of hf)
      · refine g_tableIn 407 d_Law_law_40 (by rw [hs_40]; decide) (by rw [hs_40]; decide) (by rw [hs_40]; rfl) (by decide) ?_
        have hf := ifn hf (sw_d hs_40 (by decide))
        have hf := ifn hf (sw_d hs_40 (by decide))
        have hf := ifn hf (sw_d hs_40 (by decide))
        have hf := ifn hf (sw_d hs_40 (by decide))
        have hf := ifn hf (sw_d hs_40 (by decide))
        have hf := ifn hf (sw_d hs_40 (by decide))
        have hf := ifp hf hs_40
        refine g_aload_n d_Law_law_407 rfl ?_
        refine g_aload_n d_Law_law_408 rfl ?_
        refine g_iload d_Law_law_409 rfl ?_
        refine g_iconst 1 d_Law_law_411 (by decide) ?_
        refine g_iadd d_Law_law_412 ?_
        obtain ⟨i_413, hf⟩ := ix_s hf
        refine g_sld i_413 d_Law_law_413 ?_
        refine g_aload_n d_Law_law_414 rfl ?_
        obtain ⟨v_415, h_415, e_415, hf⟩ := cl_s hf
        refine g_callW (mz := mi_Law_global) (n := 3) (hs := hs_Law_global) (e_Law_global hw e_415) wCW_Law_global wi_Law ⟨by decide, by decide⟩ (by decide +kernel) (by decide) (by decide) lm_Law_70 wS_Law_global d_Law_law_415 rfl rfl (by first | exact Nat.le_of_ble_eq_true rfl | simp [cat_rf, Value.category]) (fun r1 h1 hp hro => ?_)
        obtain ⟨rfl, rfl⟩ := hp
        dsimp only [Option.toList_some, Option.toList_none, List.cons_append, List.nil_append]
        refine g_istore d_Law_law_418 (by decide) ?_
        show Go _ _ _ _ _ _ [(0, _), (1, _), (2, _), (3, _), (4, _), (5, _)] _
        refine g_aload_n d_Law_law_420 rfl ?_
        refine g_aload_n d_Law_law_421 rfl ?_
        refine g_iload d_Law_law_422 rfl ?_
        refine g_iconst 1 d_Law_law_424 (by decide) ?_
        refine g_iadd d_Law_law_425 ?_
        obtain ⟨i_426, hf⟩ := ix_s hf
        refine g_sld i_426 d_Law_law_426 ?_
        obtain ⟨k_427, hf⟩ := gd_s hf
        obtain ⟨v_427_2, h_427_2, e_427_2, hf⟩ := cl_s hf
        refine g_callV (mz := mi_Mod_global) (e_Mod_global hw e_427_2) cw_Law_law_Mod_global lm_Law_72 wI_Mod_global wV_Mod_global (ci := 11) k_427 (by decide) rfl rfl d_Law_law_427 rfl rfl (by first | exact Nat.le_of_ble_eq_true rfl | simp [cat_rf, Value.category]) (fun r1 h1 hp hro => ?_)
        obtain ⟨rfl, rfl⟩ := hp
        dsimp only [Option.toList_some, Option.toList_none, List.cons_append, List.nil_append]
        refine g_istore d_Law_law_430 (by decide) ?_
        show Go _ _ _ _ _ _ [(0, _), (1, _), (2, _), (3, _), (4, _), (5, _), (6, _)] _
        refine g_aload_n d_Law_law_432 rfl ?_
        obtain ⟨k_433, hf⟩ := gd_s hf
        obtain ⟨v_433_2, h_433_2, e_433_2, hf⟩ := cl_s hf
        refine g_callV (mz := mi_Mod_thrown) (e_Mod_thrown e_433_2) cw_Law_law_Mod_thrown lm_Law_61 wI_Mod_thrown wV_Mod_thrown (ci := 11) k_433 (by decide) rfl rfl d_Law_law_433 rfl rfl (by first | exact Nat.le_of_ble_eq_true rfl | simp [cat_rf, Value.category]) (fun r1 h1 hp hro => ?_)
        obtain ⟨rfl, rfl⟩ := hp
        dsimp only [Option.toList_some, Option.toList_none, List.cons_append, List.nil_append]
        refine g_iload d_Law_law_436 rfl ?_
        refine g_icmp_eq 443 d_Law_law_438 (by decide) (fun c_438 => ?_) (fun c_438 => ?_)
        · have hf := ifp hf c_438
          refine g_iload d_Law_law_443 rfl ?_
          refine g_if_ne 460 d_Law_law_445 (by decide) (fun c_445 => ?_) (fun c_445 => ?_)
          · have hf := ifn hf c_445
            refine Go.locals [0, 1, 2, 3, 4] rfl ?_
            have key := e_Law_law_460 hw (G := G) (h0 := h0) (fun _ _ _ _ _ q => ih _ _ _ _ _ q) hf
            exact key
          · have hf := ifp hf c_445
            refine g_aload_n d_Law_law_448 rfl ?_
            refine g_iconst 0 d_Law_law_449 (by decide) ?_
            obtain ⟨k_450, hf⟩ := gd_s hf
            obtain ⟨i_450_2, hf⟩ := ix_s hf
            refine g_lald k_450 i_450_2 d_Law_law_450 ?_
            refine g_iload d_Law_law_451 rfl ?_
            refine g_i2l d_Law_law_453 ?_
            refine g_lcmp d_Law_law_454 ?_
            refine g_if_eq 460 d_Law_law_455 (by decide) (fun c_455 => ?_) (fun c_455 => ?_)
            · have hf := ifp hf c_455
              refine Go.locals [0, 1, 2, 3, 4] rfl ?_
              have key := e_Law_law_460 hw (G := G) (h0 := h0) (fun _ _ _ _ _ q => ih _ _ _ _ _ q) hf
              exact key
            · have hf := ifn hf c_455
              refine g_iconst 0 d_Law_law_458 (by decide) ?_
              exact Go.ret (some _) rOk_b0 rfl d_Law_law_459 (pI_of hf)
        · have hf := ifn hf c_438
          refine g_iconst 0 d_Law_law_441 (by decide) ?_
          exact Go.ret (some _) rOk_b0 rfl d_Law_law_442 (pI_of hf)
      · refine g_tableIn 463 d_Law_law_40 (by rw [hs_40]; decide) (by rw [hs_40]; decide) (by rw [hs_40]; rfl) (by decide) ?_
        have hf := ifn hf (sw_d hs_40 (by decide))
        have hf := ifn hf (sw_d hs_40 (by decide))
        have hf := ifn hf (sw_d hs_40 (by decide))
        have hf := ifn hf (sw_d hs_40 (by decide))
        have hf := ifn hf (sw_d hs_40 (by decide))
        have hf := ifn hf (sw_d hs_40 (by decide))
        have hf := ifn hf (sw_d hs_40 (by decide))
        have hf := ifp hf hs_40
        refine g_aload_n d_Law_law_463 rfl ?_
        refine g_aload_n d_Law_law_464 rfl ?_
        refine g_iload d_Law_law_465 rfl ?_
        refine g_iconst 1 d_Law_law_467 (by decide) ?_
        refine g_iadd d_Law_law_468 ?_
        obtain ⟨i_469, hf⟩ := ix_s hf
        refine g_sld i_469 d_Law_law_469 ?_
        obtain ⟨k_470, hf⟩ := gd_s hf
        obtain ⟨v_470_2, h_470_2, e_470_2, hf⟩ := cl_s hf
        refine g_callV (mz := mi_WM_state) (e_WM_state e_470_2) cw_Law_law_WM_state lm_Law_73 wI_WM_state wV_WM_state (ci := 0) k_470 (by decide) rfl rfl d_Law_law_470 rfl rfl (by first | exact Nat.le_of_ble_eq_true rfl | simp [cat_rf, Value.category]) (fun r1 h1 hp hro => ?_)
        obtain ⟨rfl, rfl⟩ := hp
        dsimp only [Option.toList_some, Option.toList_none, List.cons_append, List.nil_append]
        refine g_aload_n d_Law_law_473 rfl ?_
        refine g_aload_n d_Law_law_474 rfl ?_
        refine g_iload d_Law_law_475 rfl ?_
        refine g_iconst 1 d_Law_law_477 (by decide) ?_
        refine g_iadd d_Law_law_478 ?_
        obtain ⟨i_479, hf⟩ := ix_s hf
        refine g_sld i_479 d_Law_law_479 ?_
        obtain ⟨k_480, hf⟩ := gd_s hf
        obtain ⟨v_480_2, h_480_2, e_480_2, hf⟩ := cl_s hf
        refine g_callV (mz := mi_Mod_state) (e_Mod_state hw e_480_2) cw_Law_law_Mod_state lm_Law_76 wI_Mod_state wV_Mod_state (ci := 11) k_480 (by decide) rfl rfl d_Law_law_480 rfl rfl (by first | exact Nat.le_of_ble_eq_true rfl | simp [cat_rf, Value.category]) (fun r1 h1 hp hro => ?_)
        obtain ⟨rfl, rfl⟩ := hp
        dsimp only [Option.toList_some, Option.toList_none, List.cons_append, List.nil_append]
        refine g_icmp_eq 771 d_Law_law_483 (by decide) (fun c_483 => ?_) (fun c_483 => ?_)
        · have hf := ifp hf c_483
          refine g_iinc (_ + 7) d_Law_law_771 rfl (by rfl) (by decide) ?_
          show Go _ _ _ _ _ _ [(0, _), (1, _), (2, _), (3, _), (4, _)] _
          refine g_goto 23 d_Law_law_774 (by decide) ?_
          exact ih _ _ _ _ _ hf
        · have hf := ifn hf c_483
          refine g_iconst 0 d_Law_law_486 (by decide) ?_
          exact Go.ret (some _) rOk_b0 rfl d_Law_law_487 (pI_of hf)
      · refine g_tableIn 488 d_Law_law_40 (by rw [hs_40]; decide) (by rw [hs_40]; decide) (by rw [hs_40]; rfl) (by decide) ?_
        have hf := ifn hf (sw_d hs_40 (by decide))
        have hf := ifn hf (sw_d hs_40 (by decide))
        have hf := ifn hf (sw_d hs_40 (by decide))
        have hf := ifn hf (sw_d hs_40 (by decide))
        have hf := ifn hf (sw_d hs_40 (by decide))
        have hf := ifn hf (sw_d hs_40 (by decide))
        have hf := ifn hf (sw_d hs_40 (by decide))
        have hf := ifn hf (sw_d hs_40 (by decide))
        have hf := ifp hf hs_40
        refine g_aload_n d_Law_law_488 rfl ?_
        refine g_aload_n d_Law_law_489 rfl ?_
        refine g_iload d_Law_law_490 rfl ?_
        refine g_iconst 1 d_Law_law_492 (by decide) ?_
        refine g_iadd d_Law_law_493 ?_
        obtain ⟨i_494, hf⟩ := ix_s hf
        refine g_sld i_494 d_Law_law_494 ?_
        refine g_aload_n d_Law_law_495 rfl ?_
        refine g_iload d_Law_law_496 rfl ?_
        refine g_iconst 2 d_Law_law_498 (by decide) ?_
        refine g_iadd d_Law_law_499 ?_
        obtain ⟨i_500, hf⟩ := ix_s hf
        refine g_sld i_500 d_Law_law_500 ?_
        obtain ⟨k_501, hf⟩ := gd_s hf
        obtain ⟨v_501_2, h_501_2, e_501_2, hf⟩ := cl_s hf
        refine g_callV (mz := mi_WM_unit) (e_WM_unit e_501_2) cw_Law_law_WM_unit lm_Law_77 wI_WM_unit wV_WM_unit (ci := 0) k_501 (by decide) rfl rfl d_Law_law_501 rfl rfl (by first | exact Nat.le_of_ble_eq_true rfl | simp [cat_rf, Value.category]) (fun r1 h1 hp hro => ?_)
        obtain ⟨rfl, rfl⟩ := hp
        dsimp only [Option.toList_some, Option.toList_none, List.cons_append, List.nil_append]
        refine g_aload_n d_Law_law_504 rfl ?_
        refine g_aload_n d_Law_law_505 rfl ?_
        refine g_iload d_Law_law_506 rfl ?_
        refine g_iconst 1 d_Law_law_508 (by decide) ?_
        refine g_iadd d_Law_law_509 ?_
        obtain ⟨i_510, hf⟩ := ix_s hf
        refine g_sld i_510 d_Law_law_510 ?_
        refine g_aload_n d_Law_law_511 rfl ?_
        refine g_iload d_Law_law_512 rfl ?_
        refine g_iconst 2 d_Law_law_514 (by decide) ?_
        refine g_iadd d_Law_law_515 ?_
        obtain ⟨i_516, hf⟩ := ix_s hf
        refine g_sld i_516 d_Law_law_516 ?_
        obtain ⟨k_517, hf⟩ := gd_s hf
        obtain ⟨v_517_2, h_517_2, e_517_2, hf⟩ := cl_s hf
        refine g_callV (mz := mi_Mod_unit) (e_Mod_unit hw e_517_2) cw_Law_law_Mod_unit lm_Law_80 wI_Mod_unit wV_Mod_unit (ci := 11) k_517 (by decide) rfl rfl d_Law_law_517 rfl rfl (by first | exact Nat.le_of_ble_eq_true rfl | simp [cat_rf, Value.category]) (fun r1 h1 hp hro => ?_)
        obtain ⟨rfl, rfl⟩ := hp
        dsimp only [Option.toList_some, Option.toList_none, List.cons_append, List.nil_append]
        refine g_icmp_eq 771 d_Law_law_520 (by decide) (fun c_520 => ?_) (fun c_520 => ?_)
        · have hf := ifp hf c_520
          refine g_iinc (_ + 7) d_Law_law_771 rfl (by rfl) (by decide) ?_
          show Go _ _ _ _ _ _ [(0, _), (1, _), (2, _), (3, _), (4, _)] _
          refine g_goto 23 d_Law_law_774 (by decide) ?_
          exact ih _ _ _ _ _ hf
        · have hf := ifn hf c_520
          refine g_iconst 0 d_Law_law_523 (by decide) ?_
          exact Go.ret (some _) rOk_b0 rfl d_Law_law_524 (pI_of hf)
      · refine g_tableIn 525 d_Law_law_40 (by rw [hs_40]; decide) (by rw [hs_40]; decide) (by rw [hs_40]; rfl) (by decide) ?_
        have hf := ifn hf (sw_d hs_40 (by decide))
        have hf := ifn hf (sw_d hs_40 (by decide))
        have hf := ifn hf (sw_d hs_40 (by decide))
        have hf := ifn hf (sw_d hs_40 (by decide))
        have hf := ifn hf (sw_d hs_40 (by decide))
        have hf := ifn hf (sw_d hs_40 (by decide))
        have hf := ifn hf (sw_d hs_40 (by decide))
        have hf := ifn hf (sw_d hs_40 (by decide))
        have hf := ifn hf (sw_d hs_40 (by decide))
        have hf := ifp hf hs_40
        refine g_aload_n d_Law_law_525 rfl ?_
        refine g_aload_n d_Law_law_526 rfl ?_
        refine g_iload d_Law_law_527 rfl ?_
        refine g_iconst 1 d_Law_law_529 (by decide) ?_
        refine g_iadd d_Law_law_530 ?_
        obtain ⟨i_531, hf⟩ := ix_s hf
        refine g_sld i_531 d_Law_law_531 ?_
        refine g_aload_n d_Law_law_532 rfl ?_
        refine g_iload d_Law_law_533 rfl ?_
        refine g_iconst 2 d_Law_law_535 (by decide) ?_
        refine g_iadd d_Law_law_536 ?_
        obtain ⟨i_537, hf⟩ := ix_s hf
        refine g_sld i_537 d_Law_law_537 ?_
        obtain ⟨k_538, hf⟩ := gd_s hf
        obtain ⟨v_538_2, h_538_2, e_538_2, hf⟩ := cl_s hf
        refine g_callV (mz := mi_WM_cached) (e_WM_cached e_538_2) cw_Law_law_WM_cached lm_Law_81 wI_WM_cached wV_WM_cached (ci := 0) k_538 (by decide) rfl rfl d_Law_law_538 rfl rfl (by first | exact Nat.le_of_ble_eq_true rfl | simp [cat_rf, Value.category]) (fun r1 h1 hp hro => ?_)
        obtain ⟨rfl, rfl⟩ := hp
        dsimp only [Option.toList_some, Option.toList_none, List.cons_append, List.nil_append]
        refine g_aload_n d_Law_law_541 rfl ?_
        refine g_aload_n d_Law_law_542 rfl ?_
        refine g_iload d_Law_law_543 rfl ?_
        refine g_iconst 1 d_Law_law_545 (by decide) ?_
        refine g_iadd d_Law_law_546 ?_
        obtain ⟨i_547, hf⟩ := ix_s hf
        refine g_sld i_547 d_Law_law_547 ?_
        refine g_aload_n d_Law_law_548 rfl ?_
        refine g_iload d_Law_law_549 rfl ?_
        refine g_iconst 2 d_Law_law_551 (by decide) ?_
        refine g_iadd d_Law_law_552 ?_
        obtain ⟨i_553, hf⟩ := ix_s hf
        refine g_sld i_553 d_Law_law_553 ?_
        obtain ⟨k_554, hf⟩ := gd_s hf
        obtain ⟨v_554_2, h_554_2, e_554_2, hf⟩ := cl_s hf
        refine g_callV (mz := mi_Mod_cached) (e_Mod_cached hw e_554_2) cw_Law_law_Mod_cached lm_Law_84 wI_Mod_cached wV_Mod_cached (ci := 11) k_554 (by decide) rfl rfl d_Law_law_554 rfl rfl (by first | exact Nat.le_of_ble_eq_true rfl | simp [cat_rf, Value.category]) (fun r1 h1 hp hro => ?_)
        obtain ⟨rfl, rfl⟩ := hp
        dsimp only [Option.toList_some, Option.toList_none, List.cons_append, List.nil_append]
        refine g_icmp_eq 771 d_Law_law_557 (by decide) (fun c_557 => ?_) (fun c_557 => ?_)
        · have hf := ifp hf c_557
          refine g_iinc (_ + 7) d_Law_law_771 rfl (by rfl) (by decide) ?_
          show Go _ _ _ _ _ _ [(0, _), (1, _), (2, _), (3, _), (4, _)] _
          refine g_goto 23 d_Law_law_774 (by decide) ?_
          exact ih _ _ _ _ _ hf
        · have hf := ifn hf c_557
          refine g_iconst 0 d_Law_law_560 (by decide) ?_
          exact Go.ret (some _) rOk_b0 rfl d_Law_law_561 (pI_of hf)
      · refine g_tableIn 562 d_Law_law_40 (by rw [hs_40]; decide) (by rw [hs_40]; decide) (by rw [hs_40]; rfl) (by decide) ?_
        have hf := ifn hf (sw_d hs_40 (by decide))
        have hf := ifn hf (sw_d hs_40 (by decide))
        have hf := ifn hf (sw_d hs_40 (by decide))
        have hf := ifn hf (sw_d hs_40 (by decide))
        have hf := ifn hf (sw_d hs_40 (by decide))
        have hf := ifn hf (sw_d hs_40 (by decide))
        have hf := ifn hf (sw_d hs_40 (by decide))
        have hf := ifn hf (sw_d hs_40 (by decide))
        have hf := ifn hf (sw_d hs_40 (by decide))
        have hf := ifn hf (sw_d hs_40 (by decide))
        have hf := ifp hf hs_40
        refine g_aload_n d_Law_law_562 rfl ?_
        refine g_aload_n d_Law_law_563 rfl ?_
        refine g_iload d_Law_law_564 rfl ?_
        refine g_iconst 1 d_Law_law_566 (by decide) ?_
        refine g_iadd d_Law_law_567 ?_
        obtain ⟨i_568, hf⟩ := ix_s hf
        refine g_sld i_568 d_Law_law_568 ?_
        refine g_aload_n d_Law_law_569 rfl ?_
        refine g_iload d_Law_law_570 rfl ?_
        refine g_iconst 2 d_Law_law_572 (by decide) ?_
        refine g_iadd d_Law_law_573 ?_
        obtain ⟨i_574, hf⟩ := ix_s hf
        refine g_sld i_574 d_Law_law_574 ?_
        refine g_aload_n d_Law_law_575 rfl ?_
        refine g_iload d_Law_law_576 rfl ?_
        refine g_iconst 3 d_Law_law_578 (by decide) ?_
        refine g_iadd d_Law_law_579 ?_
        obtain ⟨i_580, hf⟩ := ix_s hf
        refine g_sld i_580 d_Law_law_580 ?_
        obtain ⟨k_581, hf⟩ := gd_s hf
        obtain ⟨v_581_2, h_581_2, e_581_2, hf⟩ := cl_s hf
        refine g_callV (mz := mi_WM_slot) (e_WM_slot e_581_2) cw_Law_law_WM_slot lm_Law_85 wI_WM_slot wV_WM_slot (ci := 0) k_581 (by decide) rfl rfl d_Law_law_581 rfl rfl (by first | exact Nat.le_of_ble_eq_true rfl | simp [cat_rf, Value.category]) (fun r1 h1 hp hro => ?_)
        obtain ⟨rfl, rfl⟩ := hp
        dsimp only [Option.toList_some, Option.toList_none, List.cons_append, List.nil_append]
        refine g_aload_n d_Law_law_584 rfl ?_
        refine g_aload_n d_Law_law_585 rfl ?_
        refine g_iload d_Law_law_586 rfl ?_
        refine g_iconst 1 d_Law_law_588 (by decide) ?_
        refine g_iadd d_Law_law_589 ?_
        obtain ⟨i_590, hf⟩ := ix_s hf
        refine g_sld i_590 d_Law_law_590 ?_
        refine g_aload_n d_Law_law_591 rfl ?_
        refine g_iload d_Law_law_592 rfl ?_
        refine g_iconst 2 d_Law_law_594 (by decide) ?_
        refine g_iadd d_Law_law_595 ?_
        obtain ⟨i_596, hf⟩ := ix_s hf
        refine g_sld i_596 d_Law_law_596 ?_
        refine g_aload_n d_Law_law_597 rfl ?_
        refine g_iload d_Law_law_598 rfl ?_
        refine g_iconst 3 d_Law_law_600 (by decide) ?_
        refine g_iadd d_Law_law_601 ?_
        obtain ⟨i_602, hf⟩ := ix_s hf
        refine g_sld i_602 d_Law_law_602 ?_
        obtain ⟨k_603, hf⟩ := gd_s hf
        obtain ⟨v_603_2, h_603_2, e_603_2, hf⟩ := cl_s hf
        refine g_callV (mz := mi_Mod_slot) (e_Mod_slot hw e_603_2) cw_Law_law_Mod_slot lm_Law_89 wI_Mod_slot wV_Mod_slot (ci := 11) k_603 (by decide) rfl rfl d_Law_law_603 rfl rfl (by first | exact Nat.le_of_ble_eq_true rfl | simp [cat_rf, Value.category]) (fun r1 h1 hp hro => ?_)
        obtain ⟨rfl, rfl⟩ := hp
        dsimp only [Option.toList_some, Option.toList_none, List.cons_append, List.nil_append]
        refine g_icmp_eq 771 d_Law_law_606 (by decide) (fun c_606 => ?_) (fun c_606 => ?_)
        · have hf := ifp hf c_606
          refine g_iinc (_ + 7) d_Law_law_771 rfl (by rfl) (by decide) ?_
          show Go _ _ _ _ _ _ [(0, _), (1, _), (2, _), (3, _), (4, _)] _
          refine g_goto 23 d_Law_law_774 (by decide) ?_
          exact ih _ _ _ _ _ hf
        · have hf := ifn hf c_606
          refine g_iconst 0 d_Law_law_609 (by decide) ?_
          exact Go.ret (some _) rOk_b0 rfl d_Law_law_610 (pI_of hf)
      · refine g_tableIn 611 d_Law_law_40 (by rw [hs_40]; decide) (by rw [hs_40]; decide) (by rw [hs_40]; rfl) (by decide) ?_
        have hf := ifn hf (sw_d hs_40 (by decide))
        have hf := ifn hf (sw_d hs_40 (by decide))
        have hf := ifn hf (sw_d hs_40 (by decide))
        have hf := ifn hf (sw_d hs_40 (by decide))
        have hf := ifn hf (sw_d hs_40 (by decide))
        have hf := ifn hf (sw_d hs_40 (by decide))
        have hf := ifn hf (sw_d hs_40 (by decide))
        have hf := ifn hf (sw_d hs_40 (by decide))
        have hf := ifn hf (sw_d hs_40 (by decide))
        have hf := ifn hf (sw_d hs_40 (by decide))
        have hf := ifn hf (sw_d hs_40 (by decide))
        have hf := ifp hf hs_40
        refine g_aload_n d_Law_law_611 rfl ?_
        refine g_aload_n d_Law_law_612 rfl ?_
        refine g_iload d_Law_law_613 rfl ?_
        refine g_iconst 1 d_Law_law_615 (by decide) ?_
        refine g_iadd d_Law_law_616 ?_
        obtain ⟨i_617, hf⟩ := ix_s hf
        refine g_sld i_617 d_Law_law_617 ?_
        refine g_aload_n d_Law_law_618 rfl ?_
        refine g_iload d_Law_law_619 rfl ?_
        refine g_iconst 2 d_Law_law_621 (by decide) ?_
        refine g_iadd d_Law_law_622 ?_
        obtain ⟨i_623, hf⟩ := ix_s hf
        refine g_sld i_623 d_Law_law_623 ?_
        refine g_aload_n d_Law_law_624 rfl ?_
        refine g_iload d_Law_law_625 rfl ?_
        refine g_iconst 3 d_Law_law_627 (by decide) ?_
        refine g_iadd d_Law_law_628 ?_
        obtain ⟨i_629, hf⟩ := ix_s hf
        refine g_sld i_629 d_Law_law_629 ?_
        refine g_aload_n d_Law_law_630 rfl ?_
        refine g_iload d_Law_law_631 rfl ?_
        refine g_iconst 4 d_Law_law_633 (by decide) ?_
        refine g_iadd d_Law_law_634 ?_
        obtain ⟨i_635, hf⟩ := ix_s hf
        refine g_sld i_635 d_Law_law_635 ?_
        refine g_aload_n d_Law_law_636 rfl ?_
        obtain ⟨v_637, h_637, e_637, hf⟩ := cl_s hf
        refine g_callW (mz := mi_Law_lane) (n := 6) (hs := hs_Law_lane) (e_Law_lane hw e_637) wCW_Law_lane wi_Law ⟨by decide, by decide⟩ (by decide +kernel) (by decide) (by decide) lm_Law_90 wS_Law_lane d_Law_law_637 rfl rfl (by first | exact Nat.le_of_ble_eq_true rfl | simp [cat_rf, Value.category]) (fun r1 h1 hp hro => ?_)
        obtain ⟨rfl, rfl⟩ := hp
        dsimp only [Option.toList_some, Option.toList_none, List.cons_append, List.nil_append]
        refine g_istore d_Law_law_640 (by decide) ?_
        show Go _ _ _ _ _ _ [(0, _), (1, _), (2, _), (3, _), (4, _), (5, _)] _
        refine g_aload_n d_Law_law_642 rfl ?_
        refine g_aload_n d_Law_law_643 rfl ?_
        refine g_iload d_Law_law_644 rfl ?_
        refine g_iconst 1 d_Law_law_646 (by decide) ?_
        refine g_iadd d_Law_law_647 ?_
        obtain ⟨i_648, hf⟩ := ix_s hf
        refine g_sld i_648 d_Law_law_648 ?_
        refine g_aload_n d_Law_law_649 rfl ?_
        refine g_iload d_Law_law_650 rfl ?_
        refine g_iconst 2 d_Law_law_652 (by decide) ?_
        refine g_iadd d_Law_law_653 ?_
        obtain ⟨i_654, hf⟩ := ix_s hf
        refine g_sld i_654 d_Law_law_654 ?_
        refine g_aload_n d_Law_law_655 rfl ?_
        refine g_iload d_Law_law_656 rfl ?_
        refine g_iconst 3 d_Law_law_658 (by decide) ?_
        refine g_iadd d_Law_law_659 ?_
        obtain ⟨i_660, hf⟩ := ix_s hf
        refine g_sld i_660 d_Law_law_660 ?_
        refine g_aload_n d_Law_law_661 rfl ?_
        refine g_iload d_Law_law_662 rfl ?_
        refine g_iconst 4 d_Law_law_664 (by decide) ?_
        refine g_iadd d_Law_law_665 ?_
        obtain ⟨i_666, hf⟩ := ix_s hf
        refine g_sld i_666 d_Law_law_666 ?_
        obtain ⟨k_667, hf⟩ := gd_s hf
        obtain ⟨v_667_2, h_667_2, e_667_2, hf⟩ := cl_s hf
        refine g_callV (mz := mi_Mod_lane) (e_Mod_lane hw e_667_2) cw_Law_law_Mod_lane lm_Law_93 wI_Mod_lane wV_Mod_lane (ci := 11) k_667 (by decide) rfl rfl d_Law_law_667 rfl rfl (by first | exact Nat.le_of_ble_eq_true rfl | simp [cat_rf, Value.category]) (fun r1 h1 hp hro => ?_)
        obtain ⟨rfl, rfl⟩ := hp
        dsimp only [Option.toList_some, Option.toList_none, List.cons_append, List.nil_append]
        refine g_istore d_Law_law_670 (by decide) ?_
        show Go _ _ _ _ _ _ [(0, _), (1, _), (2, _), (3, _), (4, _), (5, _), (6, _)] _
        refine g_aload_n d_Law_law_672 rfl ?_
        obtain ⟨k_673, hf⟩ := gd_s hf
        obtain ⟨v_673_2, h_673_2, e_673_2, hf⟩ := cl_s hf
        refine g_callV (mz := mi_Mod_thrown) (e_Mod_thrown e_673_2) cw_Law_law_Mod_thrown lm_Law_61 wI_Mod_thrown wV_Mod_thrown (ci := 11) k_673 (by decide) rfl rfl d_Law_law_673 rfl rfl (by first | exact Nat.le_of_ble_eq_true rfl | simp [cat_rf, Value.category]) (fun r1 h1 hp hro => ?_)
        obtain ⟨rfl, rfl⟩ := hp
        dsimp only [Option.toList_some, Option.toList_none, List.cons_append, List.nil_append]
        refine g_iload d_Law_law_676 rfl ?_
        refine g_icmp_eq 683 d_Law_law_678 (by decide) (fun c_678 => ?_) (fun c_678 => ?_)
        · have hf := ifp hf c_678
          refine g_iload d_Law_law_683 rfl ?_
          refine g_if_ne 700 d_Law_law_685 (by decide) (fun c_685 => ?_) (fun c_685 => ?_)
          · have hf := ifn hf c_685
            refine Go.locals [0, 1, 2, 3, 4] rfl ?_
            have key := e_Law_law_700 hw (G := G) (h0 := h0) (fun _ _ _ _ _ q => ih _ _ _ _ _ q) hf
            exact key
          · have hf := ifp hf c_685
            refine g_aload_n d_Law_law_688 rfl ?_
            refine g_iconst 0 d_Law_law_689 (by decide) ?_
            obtain ⟨k_690, hf⟩ := gd_s hf
            obtain ⟨i_690_2, hf⟩ := ix_s hf
            refine g_lald k_690 i_690_2 d_Law_law_690 ?_
            refine g_iload d_Law_law_691 rfl ?_
            refine g_i2l d_Law_law_693 ?_
            refine g_lcmp d_Law_law_694 ?_
            refine g_if_eq 700 d_Law_law_695 (by decide) (fun c_695 => ?_) (fun c_695 => ?_)
            · have hf := ifp hf c_695
              refine Go.locals [0, 1, 2, 3, 4] rfl ?_
              have key := e_Law_law_700 hw (G := G) (h0 := h0) (fun _ _ _ _ _ q => ih _ _ _ _ _ q) hf
              exact key
            · have hf := ifn hf c_695
              refine g_iconst 0 d_Law_law_698 (by decide) ?_
              exact Go.ret (some _) rOk_b0 rfl d_Law_law_699 (pI_of hf)
        · have hf := ifn hf c_678
          refine g_iconst 0 d_Law_law_681 (by decide) ?_
          exact Go.ret (some _) rOk_b0 rfl d_Law_law_682 (pI_of hf)
      · refine g_tableIn 703 d_Law_law_40 (by rw [hs_40]; decide) (by rw [hs_40]; decide) (by rw [hs_40]; rfl) (by decide) ?_
        have hf := ifn hf (sw_d hs_40 (by decide))
        have hf := ifn hf (sw_d hs_40 (by decide))
        have hf := ifn hf (sw_d hs_40 (by decide))
        have hf := ifn hf (sw_d hs_40 (by decide))
        have hf := ifn hf (sw_d hs_40 (by decide))
        have hf := ifn hf (sw_d hs_40 (by decide))
        have hf := ifn hf (sw_d hs_40 (by decide))
        have hf := ifn hf (sw_d hs_40 (by decide))
        have hf := ifn hf (sw_d hs_40 (by decide))
        have hf := ifn hf (sw_d hs_40 (by decide))
        have hf := ifn hf (sw_d hs_40 (by decide))
        have hf := ifn hf (sw_d hs_40 (by decide))
        have hf := ifp hf hs_40
        refine g_aload_n d_Law_law_703 rfl ?_
        refine g_aload_n d_Law_law_704 rfl ?_
        refine g_iload d_Law_law_705 rfl ?_
        refine g_iconst 1 d_Law_law_707 (by decide) ?_
        refine g_iadd d_Law_law_708 ?_
        obtain ⟨i_709, hf⟩ := ix_s hf
        refine g_sld i_709 d_Law_law_709 ?_
        refine g_aload_n d_Law_law_710 rfl ?_
        refine g_iload d_Law_law_711 rfl ?_
        refine g_iconst 2 d_Law_law_713 (by decide) ?_
        refine g_iadd d_Law_law_714 ?_
        obtain ⟨i_715, hf⟩ := ix_s hf
        refine g_sld i_715 d_Law_law_715 ?_
        refine g_aload_n d_Law_law_716 rfl ?_
        obtain ⟨v_717, h_717, e_717, hf⟩ := cl_s hf
        refine g_callW (mz := mi_Law_shared) (n := 4) (hs := hs_Law_shared) (e_Law_shared hw e_717) wCW_Law_shared wi_Law ⟨by decide, by decide⟩ (by decide +kernel) (by decide) (by decide) lm_Law_94 wS_Law_shared d_Law_law_717 rfl rfl (by first | exact Nat.le_of_ble_eq_true rfl | simp [cat_rf, Value.category]) (fun r1 h1 hp hro => ?_)
        obtain ⟨rfl, rfl⟩ := hp
        dsimp only [Option.toList_some, Option.toList_none, List.cons_append, List.nil_append]
        refine g_istore d_Law_law_720 (by decide) ?_
        show Go _ _ _ _ _ _ [(0, _), (1, _), (2, _), (3, _), (4, _), (5, _)] _
        refine g_aload_n d_Law_law_722 rfl ?_
        refine g_aload_n d_Law_law_723 rfl ?_
        refine g_iload d_Law_law_724 rfl ?_
        refine g_iconst 1 d_Law_law_726 (by decide) ?_
        refine g_iadd d_Law_law_727 ?_
        obtain ⟨i_728, hf⟩ := ix_s hf
        refine g_sld i_728 d_Law_law_728 ?_
        refine g_aload_n d_Law_law_729 rfl ?_
        refine g_iload d_Law_law_730 rfl ?_
        refine g_iconst 2 d_Law_law_732 (by decide) ?_
        refine g_iadd d_Law_law_733 ?_
        obtain ⟨i_734, hf⟩ := ix_s hf
        refine g_sld i_734 d_Law_law_734 ?_
        obtain ⟨k_735, hf⟩ := gd_s hf
        obtain ⟨v_735_2, h_735_2, e_735_2, hf⟩ := cl_s hf
        refine g_callV (mz := mi_Mod_shared) (e_Mod_shared hw e_735_2) cw_Law_law_Mod_shared lm_Law_97 wI_Mod_shared wV_Mod_shared (ci := 11) k_735 (by decide) rfl rfl d_Law_law_735 rfl rfl (by first | exact Nat.le_of_ble_eq_true rfl | simp [cat_rf, Value.category]) (fun r1 h1 hp hro => ?_)
        obtain ⟨rfl, rfl⟩ := hp
        dsimp only [Option.toList_some, Option.toList_none, List.cons_append, List.nil_append]
        refine g_istore d_Law_law_738 (by decide) ?_
        show Go _ _ _ _ _ _ [(0, _), (1, _), (2, _), (3, _), (4, _), (5, _), (6, _)] _
        refine g_aload_n d_Law_law_740 rfl ?_
        obtain ⟨k_741, hf⟩ := gd_s hf
        obtain ⟨v_741_2, h_741_2, e_741_2, hf⟩ := cl_s hf
        refine g_callV (mz := mi_Mod_thrown) (e_Mod_thrown e_741_2) cw_Law_law_Mod_thrown lm_Law_61 wI_Mod_thrown wV_Mod_thrown (ci := 11) k_741 (by decide) rfl rfl d_Law_law_741 rfl rfl (by first | exact Nat.le_of_ble_eq_true rfl | simp [cat_rf, Value.category]) (fun r1 h1 hp hro => ?_)
        obtain ⟨rfl, rfl⟩ := hp
        dsimp only [Option.toList_some, Option.toList_none, List.cons_append, List.nil_append]
        refine g_iload d_Law_law_744 rfl ?_
        refine g_icmp_eq 751 d_Law_law_746 (by decide) (fun c_746 => ?_) (fun c_746 => ?_)
        · have hf := ifp hf c_746
          refine g_iload d_Law_law_751 rfl ?_
          refine g_if_ne 768 d_Law_law_753 (by decide) (fun c_753 => ?_) (fun c_753 => ?_)
          · have hf := ifn hf c_753
            refine Go.locals [0, 1, 2, 3, 4] rfl ?_
            have key := e_Law_law_768 hw (G := G) (h0 := h0) (fun _ _ _ _ _ q => ih _ _ _ _ _ q) hf
            exact key
          · have hf := ifp hf c_753
            refine g_aload_n d_Law_law_756 rfl ?_
            refine g_iconst 0 d_Law_law_757 (by decide) ?_
            obtain ⟨k_758, hf⟩ := gd_s hf
            obtain ⟨i_758_2, hf⟩ := ix_s hf
            refine g_lald k_758 i_758_2 d_Law_law_758 ?_
            refine g_iload d_Law_law_759 rfl ?_
            refine g_i2l d_Law_law_761 ?_
            refine g_lcmp d_Law_law_762 ?_
            refine g_if_eq 768 d_Law_law_763 (by decide) (fun c_763 => ?_) (fun c_763 => ?_)
            · have hf := ifp hf c_763
              refine Go.locals [0, 1, 2, 3, 4] rfl ?_
              have key := e_Law_law_768 hw (G := G) (h0 := h0) (fun _ _ _ _ _ q => ih _ _ _ _ _ q) hf
              exact key
            · have hf := ifn hf c_763
              refine g_iconst 0 d_Law_law_766 (by decide) ?_
              exact Go.ret (some _) rOk_b0 rfl d_Law_law_767 (pI_of hf)
        · have hf := ifn hf c_746
          refine g_iconst 0 d_Law_law_749 (by decide) ?_
          exact Go.ret (some _) rOk_b0 rfl d_Law_law_750 (pI_of hf)
def f_Law_law (F sl : Nat) (sx : Nat → Int32)  (h : Hp) : Option (Int32 × Hp) := pw (hT h) fun a_0 => pw (nw h 1 0 6) fun h_0_2 => clv (f_WM_init F a_0 h_0_2) fun h_4 => pw (hT h_4) fun a_8 => pw (nw h_4 12 0 60) fun h_8_2 => clv (f_Mod_init F a_8 h_8_2) fun h_12 => pw (hT h_12) fun a_17 => pw (nw h_12 110 1 1) fun h_17_2 => b_Law_law_23 F sl sx F a_0 a_8 a_17 (0 : Int32) h_17_2
set_option maxRecDepth 100000 in
set_option maxHeartbeats 4000000 in
theorem e_Law_law {G : Gl} (hw : gF G) {F : Nat} {r : Int32} {h' : Hp}  {h : Hp} (hf : f_Law_law F (gL G) (gX G)  h = some (r, h')) : Go G mi_Law_law h (pI r h') h 0 [(0, .ref (gB G))] [] := by
  unfold f_Law_law at hf
  show Go G mi_Law_law h _ h 0 [(0, .ref (gB G))] []
  obtain ⟨a_0, e_0, hf⟩ := pw_s hf
  refine g_newk 0 1 rfl okWM lc_Law_8 wn_WM wi_WM d_Law_law_0 ?_
  refine Go.kn (fun k_0 => ?_)
  rw [← e_0] at k_0 ⊢
  have hf := pw_b hf
  refine g_dup (by first | rfl | exact cat_rf _) d_Law_law_3 ?_
  obtain ⟨h_4, e_4, hf⟩ := clv_s hf
  refine g_callI (mz := mi_WM_init) (e_WM_init hw e_4) cw_Law_law_WM_init lm_Law_30 wI_WM_init rfl rfl d_Law_law_4 rfl rfl (by first | exact Nat.le_of_ble_eq_true rfl | simp [cat_rf, Value.category]) (fun r1 h1 hp hro => ?_)
  obtain ⟨rfl, rfl⟩ := hp
  dsimp only [Option.toList_some, Option.toList_none, List.cons_append, List.nil_append]
  refine g_astore_n d_Law_law_7 (by decide) ?_
  simp only [lset1, lset2, List.filter_cons, cat_rf]
  show Go _ _ _ _ _ _ [(0, _), (1, _)] _
  obtain ⟨a_8, e_8, hf⟩ := pw_s hf
  refine g_newk 11 12 rfl okMod lc_Law_31 wn_Mod wi_Mod d_Law_law_8 ?_
  refine Go.kn (fun k_8 => ?_)
  rw [← e_8] at k_8 ⊢
  have hf := pw_b hf
  refine g_dup (by first | rfl | exact cat_rf _) d_Law_law_11 ?_
  obtain ⟨h_12, e_12, hf⟩ := clv_s hf
  refine g_callI (mz := mi_Mod_init) (e_Mod_init hw e_12) cw_Law_law_Mod_init lm_Law_33 wI_Mod_init rfl rfl d_Law_law_12 rfl rfl (by first | exact Nat.le_of_ble_eq_true rfl | simp [cat_rf, Value.category]) (fun r1 h1 hp hro => ?_)
  obtain ⟨rfl, rfl⟩ := hp
  dsimp only [Option.toList_some, Option.toList_none, List.cons_append, List.nil_append]
  refine g_astore_n d_Law_law_15 (by decide) ?_
  show Go _ _ _ _ _ _ [(0, _), (1, _), (2, _)] _
  refine g_iconst 1 d_Law_law_16 (by decide) ?_
  obtain ⟨a_17, e_17, hf⟩ := pw_s hf
  refine g_newal 1 (by decide) (by decide) (by decide) wA_long d_Law_law_17 ?_
  refine Go.kn (fun k_17 => ?_)
  rw [← e_17] at k_17 ⊢
  have hf := pw_b hf
  refine g_astore_n d_Law_law_19 (by decide) ?_
  show Go _ _ _ _ _ _ [(0, _), (1, _), (2, _), (3, _)] _
  refine g_iconst 0 d_Law_law_20 (by decide) ?_
  refine g_istore d_Law_law_21 (by decide) ?_
  show Go _ _ _ _ _ _ [(0, _), (1, _), (2, _), (3, _), (4, _)] _
  have key := e_Law_law_23 hw (G := G) (h0 := h)  F _ _ _ _ _ hf
  exact key
