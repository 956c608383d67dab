def moTell (h : Hp) (x : Nat) (k : Int32) : Int32 := if k = 0 then hI h 715 x else if k = 1 then hI h 719 x else if k = 2 then hI h 720 x else if k = 3 then hI h 721 x else if k = 4 then hI h 723 x else if k = 5 then hI h 724 x else if k = 6 then hI h 725 x else if k = 7 then hI h 726 x else if k = 8 then hI h 727 x else if k = 9 then hI h 728 x else if k = 10 then hI h 729 x else if k = 11 then hI h 730 x else if k = 12 then hI h 722 x else if k = 13 then hI h 705 x else if k = 14 then hI h 706 x else if k = 15 then hI h 707 x else if k = 16 then hI h 708 x else if k = 17 then hI h 709 x else if k = 18 then hI h 710 x else if k = 19 then hI h 745 x else -1
abbrev mi_Mod_state : MI := (⟨"WarpMillModel", "state", "(I)I"⟩, prog_13_method_64_code, 2, some .int, 0, 0)
def it_Mod_state_0 : List (Nat × ClassFile.Instr × Nat) := [(0, .aload_n 0, 1), (1, .iconst 0, 1), (2, .putfield 120, 3), (5, .iload_n 1, 1), (6, .tableswitch (194) (0) (19) #[(94), (99), (104), (109), (114), (119), (124), (129), (134), (139), (144), (149), (154), (159), (164), (169), (174), (179), (184), (189)], 94), (100, .aload_n 0, 1), (101, .getfield 136, 3), (104, .ireturn, 1), (105, .aload_n 0, 1), (106, .getfield 159, 3), (109, .ireturn, 1), (110, .aload_n 0, 1), (111, .getfield 162, 3), (114, .ireturn, 1), (115, .aload_n 0, 1), (116, .getfield 165, 3), (119, .ireturn, 1), (120, .aload_n 0, 1), (121, .getfield 171, 3), (124, .ireturn, 1), (125, .aload_n 0, 1), (126, .getfield 174, 3), (129, .ireturn, 1), (130, .aload_n 0, 1)]
theorem id_Mod_state_0 : ∀ q ∈ it_Mod_state_0, decode prog_13_method_64_code q.1 = .ok q.2 := by decide +kernel
theorem d_Mod_state_0 : decode prog_13_method_64_code 0 = .ok (.aload_n 0, 1) := id_Mod_state_0 (0, .aload_n 0, 1) (List.mem_of_getElem? (i := 0) rfl)
theorem d_Mod_state_1 : decode prog_13_method_64_code 1 = .ok (.iconst 0, 1) := id_Mod_state_0 (1, .iconst 0, 1) (List.mem_of_getElem? (i := 1) rfl)
theorem d_Mod_state_2 : decode prog_13_method_64_code 2 = .ok (.putfield 120, 3) := id_Mod_state_0 (2, .putfield 120, 3) (List.mem_of_getElem? (i := 2) rfl)
theorem d_Mod_state_5 : decode prog_13_method_64_code 5 = .ok (.iload_n 1, 1) := id_Mod_state_0 (5, .iload_n 1, 1) (List.mem_of_getElem? (i := 3) rfl)
theorem d_Mod_state_6 : decode prog_13_method_64_code 6 = .ok (.tableswitch (194) (0) (19) #[(94), (99), (104), (109), (114), (119), (124), (129), (134), (139), (144), (149), (154), (159), (164), (169), (174), (179), (184), (189)], 94) := id_Mod_state_0 (6, .tableswitch (194) (0) (19) #[(94), (99), (104), (109), (114), (119), (124), (129), (134), (139), (144), (149), (154), (159), (164), (169), (174), (179), (184), (189)], 94) (List.mem_of_getElem? (i := 4) rfl)
theorem d_Mod_state_100 : decode prog_13_method_64_code 100 = .ok (.aload_n 0, 1) := id_Mod_state_0 (100, .aload_n 0, 1) (List.mem_of_getElem? (i := 5) rfl)
theorem d_Mod_state_101 : decode prog_13_method_64_code 101 = .ok (.getfield 136, 3) := id_Mod_state_0 (101, .getfield 136, 3) (List.mem_of_getElem? (i := 6) rfl)
theorem d_Mod_state_104 : decode prog_13_method_64_code 104 = .ok (.ireturn, 1) := id_Mod_state_0 (104, .ireturn, 1) (List.mem_of_getElem? (i := 7) rfl)
theorem d_Mod_state_105 : decode prog_13_method_64_code 105 = .ok (.aload_n 0, 1) := id_Mod_state_0 (105, .aload_n 0, 1) (List.mem_of_getElem? (i := 8) rfl)
theorem d_Mod_state_106 : decode prog_13_method_64_code 106 = .ok (.getfield 159, 3) := id_Mod_state_0 (106, .getfield 159, 3) (List.mem_of_getElem? (i := 9) rfl)
theorem d_Mod_state_109 : decode prog_13_method_64_code 109 = .ok (.ireturn, 1) := id_Mod_state_0 (109, .ireturn, 1) (List.mem_of_getElem? (i := 10) rfl)
theorem d_Mod_state_110 : decode prog_13_method_64_code 110 = .ok (.aload_n 0, 1) := id_Mod_state_0 (110, .aload_n 0, 1) (List.mem_of_getElem? (i := 11) rfl)
theorem d_Mod_state_111 : decode prog_13_method_64_code 111 = .ok (.getfield 162, 3) := id_Mod_state_0 (111, .getfield 162, 3) (List.mem_of_getElem? (i := 12) rfl)
theorem d_Mod_state_114 : decode prog_13_method_64_code 114 = .ok (.ireturn, 1) := id_Mod_state_0 (114, .ireturn, 1) (List.mem_of_getElem? (i := 13) rfl)
theorem d_Mod_state_115 : decode prog_13_method_64_code 115 = .ok (.aload_n 0, 1) := id_Mod_state_0 (115, .aload_n 0, 1) (List.mem_of_getElem? (i := 14) rfl)
theorem d_Mod_state_116 : decode prog_13_method_64_code 116 = .ok (.getfield 165, 3) := id_Mod_state_0 (116, .getfield 165, 3) (List.mem_of_getElem? (i := 15) rfl)
theorem d_Mod_state_119 : decode prog_13_method_64_code 119 = .ok (.ireturn, 1) := id_Mod_state_0 (119, .ireturn, 1) (List.mem_of_getElem? (i := 16) rfl)
theorem d_Mod_state_120 : decode prog_13_method_64_code 120 = .ok (.aload_n 0, 1) := id_Mod_state_0 (120, .aload_n 0, 1) (List.mem_of_getElem? (i := 17) rfl)
theorem d_Mod_state_121 : decode prog_13_method_64_code 121 = .ok (.getfield 171, 3) := id_Mod_state_0 (121, .getfield 171, 3) (List.mem_of_getElem? (i := 18) rfl)
theorem d_Mod_state_124 : decode prog_13_method_64_code 124 = .ok (.ireturn, 1) := id_Mod_state_0 (124, .ireturn, 1) (List.mem_of_getElem? (i := 19) rfl)
theorem d_Mod_state_125 : decode prog_13_method_64_code 125 = .ok (.aload_n 0, 1) := id_Mod_state_0 (125, .aload_n 0, 1) (List.mem_of_getElem? (i := 20) rfl)
theorem d_Mod_state_126 : decode prog_13_method_64_code 126 = .ok (.getfield 174, 3) := id_Mod_state_0 (126, .getfield 174, 3) (List.mem_of_getElem? (i := 21) rfl)
theorem d_Mod_state_129 : decode prog_13_method_64_code 129 = .ok (.ireturn, 1) := id_Mod_state_0 (129, .ireturn, 1) (List.mem_of_getElem? (i := 22) rfl)
theorem d_Mod_state_130 : decode prog_13_method_64_code 130 = .ok (.aload_n 0, 1) := id_Mod_state_0 (130, .aload_n 0, 1) (List.mem_of_getElem? (i := 23) rfl)
def it_Mod_state_1 : List (Nat × ClassFile.Instr × Nat) := [(131, .getfield 177, 3), (134, .ireturn, 1), (135, .aload_n 0, 1), (136, .getfield 368, 3), (139, .ireturn, 1), (140, .aload_n 0, 1), (141, .getfield 180, 3), (144, .ireturn, 1), (145, .aload_n 0, 1), (146, .getfield 183, 3), (149, .ireturn, 1), (150, .aload_n 0, 1), (151, .getfield 186, 3), (154, .ireturn, 1), (155, .aload_n 0, 1), (156, .getfield 189, 3), (159, .ireturn, 1), (160, .aload_n 0, 1), (161, .getfield 168, 3), (164, .ireturn, 1), (165, .aload_n 0, 1), (166, .getfield 7, 3), (169, .ireturn, 1), (170, .aload_n 0, 1)]
theorem id_Mod_state_1 : ∀ q ∈ it_Mod_state_1, decode prog_13_method_64_code q.1 = .ok q.2 := by decide +kernel
theorem d_Mod_state_131 : decode prog_13_method_64_code 131 = .ok (.getfield 177, 3) := id_Mod_state_1 (131, .getfield 177, 3) (List.mem_of_getElem? (i := 0) rfl)
theorem d_Mod_state_134 : decode prog_13_method_64_code 134 = .ok (.ireturn, 1) := id_Mod_state_1 (134, .ireturn, 1) (List.mem_of_getElem? (i := 1) rfl)
theorem d_Mod_state_135 : decode prog_13_method_64_code 135 = .ok (.aload_n 0, 1) := id_Mod_state_1 (135, .aload_n 0, 1) (List.mem_of_getElem? (i := 2) rfl)
theorem d_Mod_state_136 : decode prog_13_method_64_code 136 = .ok (.getfield 368, 3) := id_Mod_state_1 (136, .getfield 368, 3) (List.mem_of_getElem? (i := 3) rfl)
theorem d_Mod_state_139 : decode prog_13_method_64_code 139 = .ok (.ireturn, 1) := id_Mod_state_1 (139, .ireturn, 1) (List.mem_of_getElem? (i := 4) rfl)
theorem d_Mod_state_140 : decode prog_13_method_64_code 140 = .ok (.aload_n 0, 1) := id_Mod_state_1 (140, .aload_n 0, 1) (List.mem_of_getElem? (i := 5) rfl)
theorem d_Mod_state_141 : decode prog_13_method_64_code 141 = .ok (.getfield 180, 3) := id_Mod_state_1 (141, .getfield 180, 3) (List.mem_of_getElem? (i := 6) rfl)
theorem d_Mod_state_144 : decode prog_13_method_64_code 144 = .ok (.ireturn, 1) := id_Mod_state_1 (144, .ireturn, 1) (List.mem_of_getElem? (i := 7) rfl)
theorem d_Mod_state_145 : decode prog_13_method_64_code 145 = .ok (.aload_n 0, 1) := id_Mod_state_1 (145, .aload_n 0, 1) (List.mem_of_getElem? (i := 8) rfl)
theorem d_Mod_state_146 : decode prog_13_method_64_code 146 = .ok (.getfield 183, 3) := id_Mod_state_1 (146, .getfield 183, 3) (List.mem_of_getElem? (i := 9) rfl)
theorem d_Mod_state_149 : decode prog_13_method_64_code 149 = .ok (.ireturn, 1) := id_Mod_state_1 (149, .ireturn, 1) (List.mem_of_getElem? (i := 10) rfl)
theorem d_Mod_state_150 : decode prog_13_method_64_code 150 = .ok (.aload_n 0, 1) := id_Mod_state_1 (150, .aload_n 0, 1) (List.mem_of_getElem? (i := 11) rfl)
theorem d_Mod_state_151 : decode prog_13_method_64_code 151 = .ok (.getfield 186, 3) := id_Mod_state_1 (151, .getfield 186, 3) (List.mem_of_getElem? (i := 12) rfl)
theorem d_Mod_state_154 : decode prog_13_method_64_code 154 = .ok (.ireturn, 1) := id_Mod_state_1 (154, .ireturn, 1) (List.mem_of_getElem? (i := 13) rfl)
theorem d_Mod_state_155 : decode prog_13_method_64_code 155 = .ok (.aload_n 0, 1) := id_Mod_state_1 (155, .aload_n 0, 1) (List.mem_of_getElem? (i := 14) rfl)
theorem d_Mod_state_156 : decode prog_13_method_64_code 156 = .ok (.getfield 189, 3) := id_Mod_state_1 (156, .getfield 189, 3) (List.mem_of_getElem? (i := 15) rfl)
theorem d_Mod_state_159 : decode prog_13_method_64_code 159 = .ok (.ireturn, 1) := id_Mod_state_1 (159, .ireturn, 1) (List.mem_of_getElem? (i := 16) rfl)
theorem d_Mod_state_160 : decode prog_13_method_64_code 160 = .ok (.aload_n 0, 1) := id_Mod_state_1 (160, .aload_n 0, 1) (List.mem_of_getElem? (i := 17) rfl)
theorem d_Mod_state_161 : decode prog_13_method_64_code 161 = .ok (.getfield 168, 3) := id_Mod_state_1 (161, .getfield 168, 3) (List.mem_of_getElem? (i := 18) rfl)
theorem d_Mod_state_164 : decode prog_13_method_64_code 164 = .ok (.ireturn, 1) := id_Mod_state_1 (164, .ireturn, 1) (List.mem_of_getElem? (i := 19) rfl)
theorem d_Mod_state_165 : decode prog_13_method_64_code 165 = .ok (.aload_n 0, 1) := id_Mod_state_1 (165, .aload_n 0, 1) (List.mem_of_getElem? (i := 20) rfl)
theorem d_Mod_state_166 : decode prog_13_method_64_code 166 = .ok (.getfield 7, 3) := id_Mod_state_1 (166, .getfield 7, 3) (List.mem_of_getElem? (i := 21) rfl)
theorem d_Mod_state_169 : decode prog_13_method_64_code 169 = .ok (.ireturn, 1) := id_Mod_state_1 (169, .ireturn, 1) (List.mem_of_getElem? (i := 22) rfl)
theorem d_Mod_state_170 : decode prog_13_method_64_code 170 = .ok (.aload_n 0, 1) := id_Mod_state_1 (170, .aload_n 0, 1) (List.mem_of_getElem? (i := 23) rfl)
def it_Mod_state_2 : List (Nat × ClassFile.Instr × Nat) := [(171, .getfield 13, 3), (174, .ireturn, 1), (175, .aload_n 0, 1), (176, .getfield 16, 3), (179, .ireturn, 1), (180, .aload_n 0, 1), (181, .getfield 19, 3), (184, .ireturn, 1), (185, .aload_n 0, 1), (186, .getfield 22, 3), (189, .ireturn, 1), (190, .aload_n 0, 1), (191, .getfield 25, 3), (194, .ireturn, 1), (195, .aload_n 0, 1), (196, .getfield 129, 3), (199, .ireturn, 1), (200, .iconst (-1), 1), (201, .ireturn, 1)]
theorem id_Mod_state_2 : ∀ q ∈ it_Mod_state_2, decode prog_13_method_64_code q.1 = .ok q.2 := by decide +kernel
theorem d_Mod_state_171 : decode prog_13_method_64_code 171 = .ok (.getfield 13, 3) := id_Mod_state_2 (171, .getfield 13, 3) (List.mem_of_getElem? (i := 0) rfl)
theorem d_Mod_state_174 : decode prog_13_method_64_code 174 = .ok (.ireturn, 1) := id_Mod_state_2 (174, .ireturn, 1) (List.mem_of_getElem? (i := 1) rfl)
theorem d_Mod_state_175 : decode prog_13_method_64_code 175 = .ok (.aload_n 0, 1) := id_Mod_state_2 (175, .aload_n 0, 1) (List.mem_of_getElem? (i := 2) rfl)
theorem d_Mod_state_176 : decode prog_13_method_64_code 176 = .ok (.getfield 16, 3) := id_Mod_state_2 (176, .getfield 16, 3) (List.mem_of_getElem? (i := 3) rfl)
theorem d_Mod_state_179 : decode prog_13_method_64_code 179 = .ok (.ireturn, 1) := id_Mod_state_2 (179, .ireturn, 1) (List.mem_of_getElem? (i := 4) rfl)
theorem d_Mod_state_180 : decode prog_13_method_64_code 180 = .ok (.aload_n 0, 1) := id_Mod_state_2 (180, .aload_n 0, 1) (List.mem_of_getElem? (i := 5) rfl)
theorem d_Mod_state_181 : decode prog_13_method_64_code 181 = .ok (.getfield 19, 3) := id_Mod_state_2 (181, .getfield 19, 3) (List.mem_of_getElem? (i := 6) rfl)
theorem d_Mod_state_184 : decode prog_13_method_64_code 184 = .ok (.ireturn, 1) := id_Mod_state_2 (184, .ireturn, 1) (List.mem_of_getElem? (i := 7) rfl)
theorem d_Mod_state_185 : decode prog_13_method_64_code 185 = .ok (.aload_n 0, 1) := id_Mod_state_2 (185, .aload_n 0, 1) (List.mem_of_getElem? (i := 8) rfl)
theorem d_Mod_state_186 : decode prog_13_method_64_code 186 = .ok (.getfield 22, 3) := id_Mod_state_2 (186, .getfield 22, 3) (List.mem_of_getElem? (i := 9) rfl)
theorem d_Mod_state_189 : decode prog_13_method_64_code 189 = .ok (.ireturn, 1) := id_Mod_state_2 (189, .ireturn, 1) (List.mem_of_getElem? (i := 10) rfl)
theorem d_Mod_state_190 : decode prog_13_method_64_code 190 = .ok (.aload_n 0, 1) := id_Mod_state_2 (190, .aload_n 0, 1) (List.mem_of_getElem? (i := 11) rfl)
theorem d_Mod_state_191 : decode prog_13_method_64_code 191 = .ok (.getfield 25, 3) := id_Mod_state_2 (191, .getfield 25, 3) (List.mem_of_getElem? (i := 12) rfl)
theorem d_Mod_state_194 : decode prog_13_method_64_code 194 = .ok (.ireturn, 1) := id_Mod_state_2 (194, .ireturn, 1) (List.mem_of_getElem? (i := 13) rfl)
theorem d_Mod_state_195 : decode prog_13_method_64_code 195 = .ok (.aload_n 0, 1) := id_Mod_state_2 (195, .aload_n 0, 1) (List.mem_of_getElem? (i := 14) rfl)
theorem d_Mod_state_196 : decode prog_13_method_64_code 196 = .ok (.getfield 129, 3) := id_Mod_state_2 (196, .getfield 129, 3) (List.mem_of_getElem? (i := 15) rfl)
theorem d_Mod_state_199 : decode prog_13_method_64_code 199 = .ok (.ireturn, 1) := id_Mod_state_2 (199, .ireturn, 1) (List.mem_of_getElem? (i := 16) rfl)
theorem d_Mod_state_200 : decode prog_13_method_64_code 200 = .ok (.iconst (-1), 1) := id_Mod_state_2 (200, .iconst (-1), 1) (List.mem_of_getElem? (i := 17) rfl)
theorem d_Mod_state_201 : decode prog_13_method_64_code 201 = .ok (.ireturn, 1) := id_Mod_state_2 (201, .ireturn, 1) (List.mem_of_getElem? (i := 18) rfl)
theorem wC_Mod_state : Cond.code ⟨"WarpMillModel", "state", "(I)I"⟩ prog_13_method_64_code 2 (some .int) ∈ lw_tb := mem_tb 1478 (by decide +kernel) rfl
set_option maxRecDepth 100000 in
set_option maxHeartbeats 4000000 in
theorem sp_Mod_state {G : Gl} {h : Hp} (x : Nat) (k : Int32) (hx : hK h x = 12) : Ex G mi_Mod_state [.ref x, .int k] h (fun r h' => r = some (.int (moTell h x k)) ∧ h' = sI h 704 x 0) := by
  refine Ex.of (by decide) (Nat.le_of_ble_eq_true rfl) ?_
  show Go G mi_Mod_state h _ h 0 [(0, .ref x), (1, .int k)] []
  first | refine g_aload_n d_Mod_state_0 rfl ?_ | refine g_aload_nq d_Mod_state_0 rfl ?_
  refine g_iconst 0 d_Mod_state_1 (by decide) ?_
  refine fp_Mod_thrown lf_Mod_120 d_Mod_state_2 (by first | (simp only [hK_sI, hK_sR, hK_sA, hK_sQ, hK_sL, hK_fillA]; assumption) | assumption) ?_
  refine g_iload_n d_Mod_state_5 rfl ?_
  refine g_sw sw_0_19 (fun hs_6 => ?_)
  rcases hs_6 with hs_6 | hs_6 | hs_6 | hs_6 | hs_6 | hs_6 | hs_6 | hs_6 | hs_6 | hs_6 | hs_6 | hs_6 | hs_6 | hs_6 | hs_6 | hs_6 | hs_6 | hs_6 | hs_6 | hs_6 | hs_6
  · refine g_tableOut 200 d_Mod_state_6 hs_6 (by decide) ?_
    refine g_iconst (-1) d_Mod_state_200 (by decide) ?_
    refine Go.ret (some _) (rOk_i _) rfl d_Mod_state_201 ?_
    refine ⟨?_, rfl⟩
    first
      | (subst hs_6; rfl)
      | (have n0 := sw_ne hs_6 0 (by decide) (by decide); have n1 := sw_ne hs_6 1 (by decide) (by decide); have n2 := sw_ne hs_6 2 (by decide) (by decide); have n3 := sw_ne hs_6 3 (by decide) (by decide); have n4 := sw_ne hs_6 4 (by decide) (by decide); have n5 := sw_ne hs_6 5 (by decide) (by decide); have n6 := sw_ne hs_6 6 (by decide) (by decide); have n7 := sw_ne hs_6 7 (by decide) (by decide); have n8 := sw_ne hs_6 8 (by decide) (by decide); have n9 := sw_ne hs_6 9 (by decide) (by decide); have n10 := sw_ne hs_6 10 (by decide) (by decide); have n11 := sw_ne hs_6 11 (by decide) (by decide); have n12 := sw_ne hs_6 12 (by decide) (by decide); have n13 := sw_ne hs_6 13 (by decide) (by decide); have n14 := sw_ne hs_6 14 (by decide) (by decide); have n15 := sw_ne hs_6 15 (by decide) (by decide); have n16 := sw_ne hs_6 16 (by decide) (by decide); have n17 := sw_ne hs_6 17 (by decide) (by decide); have n18 := sw_ne hs_6 18 (by decide) (by decide); have n19 := sw_ne hs_6 19 (by decide) (by decide); simp [moTell, n0, n1, n2, n3, n4, n5, n6, n7, n8, n9, n10, n11, n12, n13, n14, n15, n16, n17, n18, n19])
  · refine g_tableIn 100 d_Mod_state_6 (by rw [hs_6]; decide) (by rw [hs_6]; decide) (by rw [hs_6]; rfl) (by decide) ?_
    first | refine g_aload_n d_Mod_state_100 rfl ?_ | refine g_aload_nq d_Mod_state_100 rfl ?_
    refine fg_Mod_status lf_Mod_136 d_Mod_state_101 (by first | (simp only [hK_sI, hK_sR, hK_sA, hK_sQ, hK_sL, hK_fillA]; assumption) | assumption) ?_
    refine Go.ret (some _) (rOk_i _) rfl d_Mod_state_104 ?_
    refine ⟨?_, rfl⟩
    first
      | (subst hs_6; rfl)
      | (have n0 := sw_ne hs_6 0 (by decide) (by decide); have n1 := sw_ne hs_6 1 (by decide) (by decide); have n2 := sw_ne hs_6 2 (by decide) (by decide); have n3 := sw_ne hs_6 3 (by decide) (by decide); have n4 := sw_ne hs_6 4 (by decide) (by decide); have n5 := sw_ne hs_6 5 (by decide) (by decide); have n6 := sw_ne hs_6 6 (by decide) (by decide); have n7 := sw_ne hs_6 7 (by decide) (by decide); have n8 := sw_ne hs_6 8 (by decide) (by decide); have n9 := sw_ne hs_6 9 (by decide) (by decide); have n10 := sw_ne hs_6 10 (by decide) (by decide); have n11 := sw_ne hs_6 11 (by decide) (by decide); have n12 := sw_ne hs_6 12 (by decide) (by decide); have n13 := sw_ne hs_6 13 (by decide) (by decide); have n14 := sw_ne hs_6 14 (by decide) (by decide); have n15 := sw_ne hs_6 15 (by decide) (by decide); have n16 := sw_ne hs_6 16 (by decide) (by decide); have n17 := sw_ne hs_6 17 (by decide) (by decide); have n18 := sw_ne hs_6 18 (by decide) (by decide); have n19 := sw_ne hs_6 19 (by decide) (by decide); simp [moTell, n0, n1, n2, n3, n4, n5, n6, n7, n8, n9, n10, n11, n12, n13, n14, n15, n16, n17, n18, n19])
  · refine g_tableIn 105 d_Mod_state_6 (by rw [hs_6]; decide) (by rw [hs_6]; decide) (by rw [hs_6]; rfl) (by decide) ?_
    first | refine g_aload_n d_Mod_state_105 rfl ?_ | refine g_aload_nq d_Mod_state_105 rfl ?_
    refine fg_Mod_cycle lf_Mod_159 d_Mod_state_106 (by first | (simp only [hK_sI, hK_sR, hK_sA, hK_sQ, hK_sL, hK_fillA]; assumption) | assumption) ?_
    refine Go.ret (some _) (rOk_i _) rfl d_Mod_state_109 ?_
    refine ⟨?_, rfl⟩
    first
      | (subst hs_6; rfl)
      | (have n0 := sw_ne hs_6 0 (by decide) (by decide); have n1 := sw_ne hs_6 1 (by decide) (by decide); have n2 := sw_ne hs_6 2 (by decide) (by decide); have n3 := sw_ne hs_6 3 (by decide) (by decide); have n4 := sw_ne hs_6 4 (by decide) (by decide); have n5 := sw_ne hs_6 5 (by decide) (by decide); have n6 := sw_ne hs_6 6 (by decide) (by decide); have n7 := sw_ne hs_6 7 (by decide) (by decide); have n8 := sw_ne hs_6 8 (by decide) (by decide); have n9 := sw_ne hs_6 9 (by decide) (by decide); have n10 := sw_ne hs_6 10 (by decide) (by decide); have n11 := sw_ne hs_6 11 (by decide) (by decide); have n12 := sw_ne hs_6 12 (by decide) (by decide); have n13 := sw_ne hs_6 13 (by decide) (by decide); have n14 := sw_ne hs_6 14 (by decide) (by decide); have n15 := sw_ne hs_6 15 (by decide) (by decide); have n16 := sw_ne hs_6 16 (by decide) (by decide); have n17 := sw_ne hs_6 17 (by decide) (by decide); have n18 := sw_ne hs_6 18 (by decide) (by decide); have n19 := sw_ne hs_6 19 (by decide) (by decide); simp [moTell, n0, n1, n2, n3, n4, n5, n6, n7, n8, n9, n10, n11, n12, n13, n14, n15, n16, n17, n18, n19])
  · refine g_tableIn 110 d_Mod_state_6 (by rw [hs_6]; decide) (by rw [hs_6]; decide) (by rw [hs_6]; rfl) (by decide) ?_
    first | refine g_aload_n d_Mod_state_110 rfl ?_ | refine g_aload_nq d_Mod_state_110 rfl ?_
    refine fg_Mod_went lf_Mod_162 d_Mod_state_111 (by first | (simp only [hK_sI, hK_sR, hK_sA, hK_sQ, hK_sL, hK_fillA]; assumption) | assumption) ?_
    refine Go.ret (some _) (rOk_i _) rfl d_Mod_state_114 ?_
    refine ⟨?_, rfl⟩
    first
      | (subst hs_6; rfl)
      | (have n0 := sw_ne hs_6 0 (by decide) (by decide); have n1 := sw_ne hs_6 1 (by decide) (by decide); have n2 := sw_ne hs_6 2 (by decide) (by decide); have n3 := sw_ne hs_6 3 (by decide) (by decide); have n4 := sw_ne hs_6 4 (by decide) (by decide); have n5 := sw_ne hs_6 5 (by decide) (by decide); have n6 := sw_ne hs_6 6 (by decide) (by decide); have n7 := sw_ne hs_6 7 (by decide) (by decide); have n8 := sw_ne hs_6 8 (by decide) (by decide); have n9 := sw_ne hs_6 9 (by decide) (by decide); have n10 := sw_ne hs_6 10 (by decide) (by decide); have n11 := sw_ne hs_6 11 (by decide) (by decide); have n12 := sw_ne hs_6 12 (by decide) (by decide); have n13 := sw_ne hs_6 13 (by decide) (by decide); have n14 := sw_ne hs_6 14 (by decide) (by decide); have n15 := sw_ne hs_6 15 (by decide) (by decide); have n16 := sw_ne hs_6 16 (by decide) (by decide); have n17 := sw_ne hs_6 17 (by decide) (by decide); have n18 := sw_ne hs_6 18 (by decide) (by decide); have n19 := sw_ne hs_6 19 (by decide) (by decide); simp [moTell, n0, n1, n2, n3, n4, n5, n6, n7, n8, n9, n10, n11, n12, n13, n14, n15, n16, n17, n18, n19])
  · refine g_tableIn 115 d_Mod_state_6 (by rw [hs_6]; decide) (by rw [hs_6]; decide) (by rw [hs_6]; rfl) (by decide) ?_
    first | refine g_aload_n d_Mod_state_115 rfl ?_ | refine g_aload_nq d_Mod_state_115 rfl ?_
    refine fg_Mod_did lf_Mod_165 d_Mod_state_116 (by first | (simp only [hK_sI, hK_sR, hK_sA, hK_sQ, hK_sL, hK_fillA]; assumption) | assumption) ?_
    refine Go.ret (some _) (rOk_i _) rfl d_Mod_state_119 ?_
    refine ⟨?_, rfl⟩
    first
      | (subst hs_6; rfl)
      | (have n0 := sw_ne hs_6 0 (by decide) (by decide); have n1 := sw_ne hs_6 1 (by decide) (by decide); have n2 := sw_ne hs_6 2 (by decide) (by decide); have n3 := sw_ne hs_6 3 (by decide) (by decide); have n4 := sw_ne hs_6 4 (by decide) (by decide); have n5 := sw_ne hs_6 5 (by decide) (by decide); have n6 := sw_ne hs_6 6 (by decide) (by decide); have n7 := sw_ne hs_6 7 (by decide) (by decide); have n8 := sw_ne hs_6 8 (by decide) (by decide); have n9 := sw_ne hs_6 9 (by decide) (by decide); have n10 := sw_ne hs_6 10 (by decide) (by decide); have n11 := sw_ne hs_6 11 (by decide) (by decide); have n12 := sw_ne hs_6 12 (by decide) (by decide); have n13 := sw_ne hs_6 13 (by decide) (by decide); have n14 := sw_ne hs_6 14 (by decide) (by decide); have n15 := sw_ne hs_6 15 (by decide) (by decide); have n16 := sw_ne hs_6 16 (by decide) (by decide); have n17 := sw_ne hs_6 17 (by decide) (by decide); have n18 := sw_ne hs_6 18 (by decide) (by decide); have n19 := sw_ne hs_6 19 (by decide) (by decide); simp [moTell, n0, n1, n2, n3, n4, n5, n6, n7, n8, n9, n10, n11, n12, n13, n14, n15, n16, n17, n18, n19])
  · refine g_tableIn 120 d_Mod_state_6 (by rw [hs_6]; decide) (by rw [hs_6]; decide) (by rw [hs_6]; rfl) (by decide) ?_
    first | refine g_aload_n d_Mod_state_120 rfl ?_ | refine g_aload_nq d_Mod_state_120 rfl ?_
    refine fg_Mod_hits lf_Mod_171 d_Mod_state_121 (by first | (simp only [hK_sI, hK_sR, hK_sA, hK_sQ, hK_sL, hK_fillA]; assumption) | assumption) ?_
    refine Go.ret (some _) (rOk_i _) rfl d_Mod_state_124 ?_
    refine ⟨?_, rfl⟩
    first
      | (subst hs_6; rfl)
      | (have n0 := sw_ne hs_6 0 (by decide) (by decide); have n1 := sw_ne hs_6 1 (by decide) (by decide); have n2 := sw_ne hs_6 2 (by decide) (by decide); have n3 := sw_ne hs_6 3 (by decide) (by decide); have n4 := sw_ne hs_6 4 (by decide) (by decide); have n5 := sw_ne hs_6 5 (by decide) (by decide); have n6 := sw_ne hs_6 6 (by decide) (by decide); have n7 := sw_ne hs_6 7 (by decide) (by decide); have n8 := sw_ne hs_6 8 (by decide) (by decide); have n9 := sw_ne hs_6 9 (by decide) (by decide); have n10 := sw_ne hs_6 10 (by decide) (by decide); have n11 := sw_ne hs_6 11 (by decide) (by decide); have n12 := sw_ne hs_6 12 (by decide) (by decide); have n13 := sw_ne hs_6 13 (by decide) (by decide); have n14 := sw_ne hs_6 14 (by decide) (by decide); have n15 := sw_ne hs_6 15 (by decide) (by decide); have n16 := sw_ne hs_6 16 (by decide) (by decide); have n17 := sw_ne hs_6 17 (by decide) (by decide); have n18 := sw_ne hs_6 18 (by decide) (by decide); have n19 := sw_ne hs_6 19 (by decide) (by decide); simp [moTell, n0, n1, n2, n3, n4, n5, n6, n7, n8, n9, n10, n11, n12, n13, n14, n15, n16, n17, n18, n19])
  · refine g_tableIn 125 d_Mod_state_6 (by rw [hs_6]; decide) (by rw [hs_6]; decide) (by rw [hs_6]; rfl) (by decide) ?_
    first | refine g_aload_n d_Mod_state_125 rfl ?_ | refine g_aload_nq d_Mod_state_125 rfl ?_
    refine fg_Mod_others lf_Mod_174 d_Mod_state_126 (by first | (simp only [hK_sI, hK_sR, hK_sA, hK_sQ, hK_sL, hK_fillA]; assumption) | assumption) ?_
    refine Go.ret (some _) (rOk_i _) rfl d_Mod_state_129 ?_
    refine ⟨?_, rfl⟩
    first
      | (subst hs_6; rfl)
      | (have n0 := sw_ne hs_6 0 (by decide) (by decide); have n1 := sw_ne hs_6 1 (by decide) (by decide); have n2 := sw_ne hs_6 2 (by decide) (by decide); have n3 := sw_ne hs_6 3 (by decide) (by decide); have n4 := sw_ne hs_6 4 (by decide) (by decide); have n5 := sw_ne hs_6 5 (by decide) (by decide); have n6 := sw_ne hs_6 6 (by decide) (by decide); have n7 := sw_ne hs_6 7 (by decide) (by decide); have n8 := sw_ne hs_6 8 (by decide) (by decide); have n9 := sw_ne hs_6 9 (by decide) (by decide); have n10 := sw_ne hs_6 10 (by decide) (by decide); have n11 := sw_ne hs_6 11 (by decide) (by decide); have n12 := sw_ne hs_6 12 (by decide) (by decide); have n13 := sw_ne hs_6 13 (by decide) (by decide); have n14 := sw_ne hs_6 14 (by decide) (by decide); have n15 := sw_ne hs_6 15 (by decide) (by decide); have n16 := sw_ne hs_6 16 (by decide) (by decide); have n17 := sw_ne hs_6 17 (by decide) (by decide); have n18 := sw_ne hs_6 18 (by decide) (by decide); have n19 := sw_ne hs_6 19 (by decide) (by decide); simp [moTell, n0, n1, n2, n3, n4, n5, n6, n7, n8, n9, n10, n11, n12, n13, n14, n15, n16, n17, n18, n19])
  · refine g_tableIn 130 d_Mod_state_6 (by rw [hs_6]; decide) (by rw [hs_6]; decide) (by rw [hs_6]; rfl) (by decide) ?_
    first | refine g_aload_n d_Mod_state_130 rfl ?_ | refine g_aload_nq d_Mod_state_130 rfl ?_
    refine fg_Mod_ended lf_Mod_177 d_Mod_state_131 (by first | (simp only [hK_sI, hK_sR, hK_sA, hK_sQ, hK_sL, hK_fillA]; assumption) | assumption) ?_
    refine Go.ret (some _) (rOk_i _) rfl d_Mod_state_134 ?_
    refine ⟨?_, rfl⟩
    first
      | (subst hs_6; rfl)
      | (have n0 := sw_ne hs_6 0 (by decide) (by decide); have n1 := sw_ne hs_6 1 (by decide) (by decide); have n2 := sw_ne hs_6 2 (by decide) (by decide); have n3 := sw_ne hs_6 3 (by decide) (by decide); have n4 := sw_ne hs_6 4 (by decide) (by decide); have n5 := sw_ne hs_6 5 (by decide) (by decide); have n6 := sw_ne hs_6 6 (by decide) (by decide); have n7 := sw_ne hs_6 7 (by decide) (by decide); have n8 := sw_ne hs_6 8 (by decide) (by decide); have n9 := sw_ne hs_6 9 (by decide) (by decide); have n10 := sw_ne hs_6 10 (by decide) (by decide); have n11 := sw_ne hs_6 11 (by decide) (by decide); have n12 := sw_ne hs_6 12 (by decide) (by decide); have n13 := sw_ne hs_6 13 (by decide) (by decide); have n14 := sw_ne hs_6 14 (by decide) (by decide); have n15 := sw_ne hs_6 15 (by decide) (by decide); have n16 := sw_ne hs_6 16 (by decide) (by decide); have n17 := sw_ne hs_6 17 (by decide) (by decide); have n18 := sw_ne hs_6 18 (by decide) (by decide); have n19 := sw_ne hs_6 19 (by decide) (by decide); simp [moTell, n0, n1, n2, n3, n4, n5, n6, n7, n8, n9, n10, n11, n12, n13, n14, n15, n16, n17, n18, n19])
  · refine g_tableIn 135 d_Mod_state_6 (by rw [hs_6]; decide) (by rw [hs_6]; decide) (by rw [hs_6]; rfl) (by decide) ?_
    first | refine g_aload_n d_Mod_state_135 rfl ?_ | refine g_aload_nq d_Mod_state_135 rfl ?_
    refine fg_Mod_inAll lf_Mod_368 d_Mod_state_136 (by first | (simp only [hK_sI, hK_sR, hK_sA, hK_sQ, hK_sL, hK_fillA]; assumption) | assumption) ?_
    refine Go.ret (some _) (rOk_i _) rfl d_Mod_state_139 ?_
    refine ⟨?_, rfl⟩
    first
      | (subst hs_6; rfl)
      | (have n0 := sw_ne hs_6 0 (by decide) (by decide); have n1 := sw_ne hs_6 1 (by decide) (by decide); have n2 := sw_ne hs_6 2 (by decide) (by decide); have n3 := sw_ne hs_6 3 (by decide) (by decide); have n4 := sw_ne hs_6 4 (by decide) (by decide); have n5 := sw_ne hs_6 5 (by decide) (by decide); have n6 := sw_ne hs_6 6 (by decide) (by decide); have n7 := sw_ne hs_6 7 (by decide) (by decide); have n8 := sw_ne hs_6 8 (by decide) (by decide); have n9 := sw_ne hs_6 9 (by decide) (by decide); have n10 := sw_ne hs_6 10 (by decide) (by decide); have n11 := sw_ne hs_6 11 (by decide) (by decide); have n12 := sw_ne hs_6 12 (by decide) (by decide); have n13 := sw_ne hs_6 13 (by decide) (by decide); have n14 := sw_ne hs_6 14 (by decide) (by decide); have n15 := sw_ne hs_6 15 (by decide) (by decide); have n16 := sw_ne hs_6 16 (by decide) (by decide); have n17 := sw_ne hs_6 17 (by decide) (by decide); have n18 := sw_ne hs_6 18 (by decide) (by decide); have n19 := sw_ne hs_6 19 (by decide) (by decide); simp [moTell, n0, n1, n2, n3, n4, n5, n6, n7, n8, n9, n10, n11, n12, n13, n14, n15, n16, n17, n18, n19])
  · refine g_tableIn 140 d_Mod_state_6 (by rw [hs_6]; decide) (by rw [hs_6]; decide) (by rw [hs_6]; rfl) (by decide) ?_
    first | refine g_aload_n d_Mod_state_140 rfl ?_ | refine g_aload_nq d_Mod_state_140 rfl ?_
    refine fg_Mod_why lf_Mod_180 d_Mod_state_141 (by first | (simp only [hK_sI, hK_sR, hK_sA, hK_sQ, hK_sL, hK_fillA]; assumption) | assumption) ?_
    refine Go.ret (some _) (rOk_i _) rfl d_Mod_state_144 ?_
    refine ⟨?_, rfl⟩
    first
      | (subst hs_6; rfl)
      | (have n0 := sw_ne hs_6 0 (by decide) (by decide); have n1 := sw_ne hs_6 1 (by decide) (by decide); have n2 := sw_ne hs_6 2 (by decide) (by decide); have n3 := sw_ne hs_6 3 (by decide) (by decide); have n4 := sw_ne hs_6 4 (by decide) (by decide); have n5 := sw_ne hs_6 5 (by decide) (by decide); have n6 := sw_ne hs_6 6 (by decide) (by decide); have n7 := sw_ne hs_6 7 (by decide) (by decide); have n8 := sw_ne hs_6 8 (by decide) (by decide); have n9 := sw_ne hs_6 9 (by decide) (by decide); have n10 := sw_ne hs_6 10 (by decide) (by decide); have n11 := sw_ne hs_6 11 (by decide) (by decide); have n12 := sw_ne hs_6 12 (by decide) (by decide); have n13 := sw_ne hs_6 13 (by decide) (by decide); have n14 := sw_ne hs_6 14 (by decide) (by decide); have n15 := sw_ne hs_6 15 (by decide) (by decide); have n16 := sw_ne hs_6 16 (by decide) (by decide); have n17 := sw_ne hs_6 17 (by decide) (by decide); have n18 := sw_ne hs_6 18 (by decide) (by decide); have n19 := sw_ne hs_6 19 (by decide) (by decide); simp [moTell, n0, n1, n2, n3, n4, n5, n6, n7, n8, n9, n10, n11, n12, n13, n14, n15, n16, n17, n18, n19])
  · refine g_tableIn 145 d_Mod_state_6 (by rw [hs_6]; decide) (by rw [hs_6]; decide) (by rw [hs_6]; rfl) (by decide) ?_
    first | refine g_aload_n d_Mod_state_145 rfl ?_ | refine g_aload_nq d_Mod_state_145 rfl ?_
    refine fg_Mod_whyBlock lf_Mod_183 d_Mod_state_146 (by first | (simp only [hK_sI, hK_sR, hK_sA, hK_sQ, hK_sL, hK_fillA]; assumption) | assumption) ?_
    refine Go.ret (some _) (rOk_i _) rfl d_Mod_state_149 ?_
    refine ⟨?_, rfl⟩
    first
      | (subst hs_6; rfl)
      | (have n0 := sw_ne hs_6 0 (by decide) (by decide); have n1 := sw_ne hs_6 1 (by decide) (by decide); have n2 := sw_ne hs_6 2 (by decide) (by decide); have n3 := sw_ne hs_6 3 (by decide) (by decide); have n4 := sw_ne hs_6 4 (by decide) (by decide); have n5 := sw_ne hs_6 5 (by decide) (by decide); have n6 := sw_ne hs_6 6 (by decide) (by decide); have n7 := sw_ne hs_6 7 (by decide) (by decide); have n8 := sw_ne hs_6 8 (by decide) (by decide); have n9 := sw_ne hs_6 9 (by decide) (by decide); have n10 := sw_ne hs_6 10 (by decide) (by decide); have n11 := sw_ne hs_6 11 (by decide) (by decide); have n12 := sw_ne hs_6 12 (by decide) (by decide); have n13 := sw_ne hs_6 13 (by decide) (by decide); have n14 := sw_ne hs_6 14 (by decide) (by decide); have n15 := sw_ne hs_6 15 (by decide) (by decide); have n16 := sw_ne hs_6 16 (by decide) (by decide); have n17 := sw_ne hs_6 17 (by decide) (by decide); have n18 := sw_ne hs_6 18 (by decide) (by decide); have n19 := sw_ne hs_6 19 (by decide) (by decide); simp [moTell, n0, n1, n2, n3, n4, n5, n6, n7, n8, n9, n10, n11, n12, n13, n14, n15, n16, n17, n18, n19])
  · refine g_tableIn 150 d_Mod_state_6 (by rw [hs_6]; decide) (by rw [hs_6]; decide) (by rw [hs_6]; rfl) (by decide) ?_
    first | refine g_aload_n d_Mod_state_150 rfl ?_ | refine g_aload_nq d_Mod_state_150 rfl ?_
    refine fg_Mod_whyThread lf_Mod_186 d_Mod_state_151 (by first | (simp only [hK_sI, hK_sR, hK_sA, hK_sQ, hK_sL, hK_fillA]; assumption) | assumption) ?_
    refine Go.ret (some _) (rOk_i _) rfl d_Mod_state_154 ?_
    refine ⟨?_, rfl⟩
    first
      | (subst hs_6; rfl)
      | (have n0 := sw_ne hs_6 0 (by decide) (by decide); have n1 := sw_ne hs_6 1 (by decide) (by decide); have n2 := sw_ne hs_6 2 (by decide) (by decide); have n3 := sw_ne hs_6 3 (by decide) (by decide); have n4 := sw_ne hs_6 4 (by decide) (by decide); have n5 := sw_ne hs_6 5 (by decide) (by decide); have n6 := sw_ne hs_6 6 (by decide) (by decide); have n7 := sw_ne hs_6 7 (by decide) (by decide); have n8 := sw_ne hs_6 8 (by decide) (by decide); have n9 := sw_ne hs_6 9 (by decide) (by decide); have n10 := sw_ne hs_6 10 (by decide) (by decide); have n11 := sw_ne hs_6 11 (by decide) (by decide); have n12 := sw_ne hs_6 12 (by decide) (by decide); have n13 := sw_ne hs_6 13 (by decide) (by decide); have n14 := sw_ne hs_6 14 (by decide) (by decide); have n15 := sw_ne hs_6 15 (by decide) (by decide); have n16 := sw_ne hs_6 16 (by decide) (by decide); have n17 := sw_ne hs_6 17 (by decide) (by decide); have n18 := sw_ne hs_6 18 (by decide) (by decide); have n19 := sw_ne hs_6 19 (by decide) (by decide); simp [moTell, n0, n1, n2, n3, n4, n5, n6, n7, n8, n9, n10, n11, n12, n13, n14, n15, n16, n17, n18, n19])
  · refine g_tableIn 155 d_Mod_state_6 (by rw [hs_6]; decide) (by rw [hs_6]; decide) (by rw [hs_6]; rfl) (by decide) ?_
    first | refine g_aload_n d_Mod_state_155 rfl ?_ | refine g_aload_nq d_Mod_state_155 rfl ?_
    refine fg_Mod_whyPlace lf_Mod_189 d_Mod_state_156 (by first | (simp only [hK_sI, hK_sR, hK_sA, hK_sQ, hK_sL, hK_fillA]; assumption) | assumption) ?_
    refine Go.ret (some _) (rOk_i _) rfl d_Mod_state_159 ?_
    refine ⟨?_, rfl⟩
    first
      | (subst hs_6; rfl)
      | (have n0 := sw_ne hs_6 0 (by decide) (by decide); have n1 := sw_ne hs_6 1 (by decide) (by decide); have n2 := sw_ne hs_6 2 (by decide) (by decide); have n3 := sw_ne hs_6 3 (by decide) (by decide); have n4 := sw_ne hs_6 4 (by decide) (by decide); have n5 := sw_ne hs_6 5 (by decide) (by decide); have n6 := sw_ne hs_6 6 (by decide) (by decide); have n7 := sw_ne hs_6 7 (by decide) (by decide); have n8 := sw_ne hs_6 8 (by decide) (by decide); have n9 := sw_ne hs_6 9 (by decide) (by decide); have n10 := sw_ne hs_6 10 (by decide) (by decide); have n11 := sw_ne hs_6 11 (by decide) (by decide); have n12 := sw_ne hs_6 12 (by decide) (by decide); have n13 := sw_ne hs_6 13 (by decide) (by decide); have n14 := sw_ne hs_6 14 (by decide) (by decide); have n15 := sw_ne hs_6 15 (by decide) (by decide); have n16 := sw_ne hs_6 16 (by decide) (by decide); have n17 := sw_ne hs_6 17 (by decide) (by decide); have n18 := sw_ne hs_6 18 (by decide) (by decide); have n19 := sw_ne hs_6 19 (by decide) (by decide); simp [moTell, n0, n1, n2, n3, n4, n5, n6, n7, n8, n9, n10, n11, n12, n13, n14, n15, n16, n17, n18, n19])
  · refine g_tableIn 160 d_Mod_state_6 (by rw [hs_6]; decide) (by rw [hs_6]; decide) (by rw [hs_6]; rfl) (by decide) ?_
    first | refine g_aload_n d_Mod_state_160 rfl ?_ | refine g_aload_nq d_Mod_state_160 rfl ?_
    refine fg_Mod_partly lf_Mod_168 d_Mod_state_161 (by first | (simp only [hK_sI, hK_sR, hK_sA, hK_sQ, hK_sL, hK_fillA]; assumption) | assumption) ?_
    refine Go.ret (some _) (rOk_i _) rfl d_Mod_state_164 ?_
    refine ⟨?_, rfl⟩
    first
      | (subst hs_6; rfl)
      | (have n0 := sw_ne hs_6 0 (by decide) (by decide); have n1 := sw_ne hs_6 1 (by decide) (by decide); have n2 := sw_ne hs_6 2 (by decide) (by decide); have n3 := sw_ne hs_6 3 (by decide) (by decide); have n4 := sw_ne hs_6 4 (by decide) (by decide); have n5 := sw_ne hs_6 5 (by decide) (by decide); have n6 := sw_ne hs_6 6 (by decide) (by decide); have n7 := sw_ne hs_6 7 (by decide) (by decide); have n8 := sw_ne hs_6 8 (by decide) (by decide); have n9 := sw_ne hs_6 9 (by decide) (by decide); have n10 := sw_ne hs_6 10 (by decide) (by decide); have n11 := sw_ne hs_6 11 (by decide) (by decide); have n12 := sw_ne hs_6 12 (by decide) (by decide); have n13 := sw_ne hs_6 13 (by decide) (by decide); have n14 := sw_ne hs_6 14 (by decide) (by decide); have n15 := sw_ne hs_6 15 (by decide) (by decide); have n16 := sw_ne hs_6 16 (by decide) (by decide); have n17 := sw_ne hs_6 17 (by decide) (by decide); have n18 := sw_ne hs_6 18 (by decide) (by decide); have n19 := sw_ne hs_6 19 (by decide) (by decide); simp [moTell, n0, n1, n2, n3, n4, n5, n6, n7, n8, n9, n10, n11, n12, n13, n14, n15, n16, n17, n18, n19])
  · refine g_tableIn 165 d_Mod_state_6 (by rw [hs_6]; decide) (by rw [hs_6]; decide) (by rw [hs_6]; rfl) (by decide) ?_
    first | refine g_aload_n d_Mod_state_165 rfl ?_ | refine g_aload_nq d_Mod_state_165 rfl ?_
    refine fg_Mod_lanes lf_Mod_7 d_Mod_state_166 (by first | (simp only [hK_sI, hK_sR, hK_sA, hK_sQ, hK_sL, hK_fillA]; assumption) | assumption) ?_
    refine Go.ret (some _) (rOk_i _) rfl d_Mod_state_169 ?_
    refine ⟨?_, rfl⟩
    first
      | (subst hs_6; rfl)
      | (have n0 := sw_ne hs_6 0 (by decide) (by decide); have n1 := sw_ne hs_6 1 (by decide) (by decide); have n2 := sw_ne hs_6 2 (by decide) (by decide); have n3 := sw_ne hs_6 3 (by decide) (by decide); have n4 := sw_ne hs_6 4 (by decide) (by decide); have n5 := sw_ne hs_6 5 (by decide) (by decide); have n6 := sw_ne hs_6 6 (by decide) (by decide); have n7 := sw_ne hs_6 7 (by decide) (by decide); have n8 := sw_ne hs_6 8 (by decide) (by decide); have n9 := sw_ne hs_6 9 (by decide) (by decide); have n10 := sw_ne hs_6 10 (by decide) (by decide); have n11 := sw_ne hs_6 11 (by decide) (by decide); have n12 := sw_ne hs_6 12 (by decide) (by decide); have n13 := sw_ne hs_6 13 (by decide) (by decide); have n14 := sw_ne hs_6 14 (by decide) (by decide); have n15 := sw_ne hs_6 15 (by decide) (by decide); have n16 := sw_ne hs_6 16 (by decide) (by decide); have n17 := sw_ne hs_6 17 (by decide) (by decide); have n18 := sw_ne hs_6 18 (by decide) (by decide); have n19 := sw_ne hs_6 19 (by decide) (by decide); simp [moTell, n0, n1, n2, n3, n4, n5, n6, n7, n8, n9, n10, n11, n12, n13, n14, n15, n16, n17, n18, n19])
  · refine g_tableIn 170 d_Mod_state_6 (by rw [hs_6]; decide) (by rw [hs_6]; decide) (by rw [hs_6]; rfl) (by decide) ?_
    first | refine g_aload_n d_Mod_state_170 rfl ?_ | refine g_aload_nq d_Mod_state_170 rfl ?_
    refine fg_Mod_slots lf_Mod_13 d_Mod_state_171 (by first | (simp only [hK_sI, hK_sR, hK_sA, hK_sQ, hK_sL, hK_fillA]; assumption) | assumption) ?_
    refine Go.ret (some _) (rOk_i _) rfl d_Mod_state_174 ?_
    refine ⟨?_, rfl⟩
    first
      | (subst hs_6; rfl)
      | (have n0 := sw_ne hs_6 0 (by decide) (by decide); have n1 := sw_ne hs_6 1 (by decide) (by decide); have n2 := sw_ne hs_6 2 (by decide) (by decide); have n3 := sw_ne hs_6 3 (by decide) (by decide); have n4 := sw_ne hs_6 4 (by decide) (by decide); have n5 := sw_ne hs_6 5 (by decide) (by decide); have n6 := sw_ne hs_6 6 (by decide) (by decide); have n7 := sw_ne hs_6 7 (by decide) (by decide); have n8 := sw_ne hs_6 8 (by decide) (by decide); have n9 := sw_ne hs_6 9 (by decide) (by decide); have n10 := sw_ne hs_6 10 (by decide) (by decide); have n11 := sw_ne hs_6 11 (by decide) (by decide); have n12 := sw_ne hs_6 12 (by decide) (by decide); have n13 := sw_ne hs_6 13 (by decide) (by decide); have n14 := sw_ne hs_6 14 (by decide) (by decide); have n15 := sw_ne hs_6 15 (by decide) (by decide); have n16 := sw_ne hs_6 16 (by decide) (by decide); have n17 := sw_ne hs_6 17 (by decide) (by decide); have n18 := sw_ne hs_6 18 (by decide) (by decide); have n19 := sw_ne hs_6 19 (by decide) (by decide); simp [moTell, n0, n1, n2, n3, n4, n5, n6, n7, n8, n9, n10, n11, n12, n13, n14, n15, n16, n17, n18, n19])
  · refine g_tableIn 175 d_Mod_state_6 (by rw [hs_6]; decide) (by rw [hs_6]; decide) (by rw [hs_6]; rfl) (by decide) ?_
    first | refine g_aload_n d_Mod_state_175 rfl ?_ | refine g_aload_nq d_Mod_state_175 rfl ?_
    refine fg_Mod_units lf_Mod_16 d_Mod_state_176 (by first | (simp only [hK_sI, hK_sR, hK_sA, hK_sQ, hK_sL, hK_fillA]; assumption) | assumption) ?_
    refine Go.ret (some _) (rOk_i _) rfl d_Mod_state_179 ?_
    refine ⟨?_, rfl⟩
    first
      | (subst hs_6; rfl)
      | (have n0 := sw_ne hs_6 0 (by decide) (by decide); have n1 := sw_ne hs_6 1 (by decide) (by decide); have n2 := sw_ne hs_6 2 (by decide) (by decide); have n3 := sw_ne hs_6 3 (by decide) (by decide); have n4 := sw_ne hs_6 4 (by decide) (by decide); have n5 := sw_ne hs_6 5 (by decide) (by decide); have n6 := sw_ne hs_6 6 (by decide) (by decide); have n7 := sw_ne hs_6 7 (by decide) (by decide); have n8 := sw_ne hs_6 8 (by decide) (by decide); have n9 := sw_ne hs_6 9 (by decide) (by decide); have n10 := sw_ne hs_6 10 (by decide) (by decide); have n11 := sw_ne hs_6 11 (by decide) (by decide); have n12 := sw_ne hs_6 12 (by decide) (by decide); have n13 := sw_ne hs_6 13 (by decide) (by decide); have n14 := sw_ne hs_6 14 (by decide) (by decide); have n15 := sw_ne hs_6 15 (by decide) (by decide); have n16 := sw_ne hs_6 16 (by decide) (by decide); have n17 := sw_ne hs_6 17 (by decide) (by decide); have n18 := sw_ne hs_6 18 (by decide) (by decide); have n19 := sw_ne hs_6 19 (by decide) (by decide); simp [moTell, n0, n1, n2, n3, n4, n5, n6, n7, n8, n9, n10, n11, n12, n13, n14, n15, n16, n17, n18, n19])
  · refine g_tableIn 180 d_Mod_state_6 (by rw [hs_6]; decide) (by rw [hs_6]; decide) (by rw [hs_6]; rfl) (by decide) ?_
    first | refine g_aload_n d_Mod_state_180 rfl ?_ | refine g_aload_nq d_Mod_state_180 rfl ?_
    refine fg_Mod_banks lf_Mod_19 d_Mod_state_181 (by first | (simp only [hK_sI, hK_sR, hK_sA, hK_sQ, hK_sL, hK_fillA]; assumption) | assumption) ?_
    refine Go.ret (some _) (rOk_i _) rfl d_Mod_state_184 ?_
    refine ⟨?_, rfl⟩
    first
      | (subst hs_6; rfl)
      | (have n0 := sw_ne hs_6 0 (by decide) (by decide); have n1 := sw_ne hs_6 1 (by decide) (by decide); have n2 := sw_ne hs_6 2 (by decide) (by decide); have n3 := sw_ne hs_6 3 (by decide) (by decide); have n4 := sw_ne hs_6 4 (by decide) (by decide); have n5 := sw_ne hs_6 5 (by decide) (by decide); have n6 := sw_ne hs_6 6 (by decide) (by decide); have n7 := sw_ne hs_6 7 (by decide) (by decide); have n8 := sw_ne hs_6 8 (by decide) (by decide); have n9 := sw_ne hs_6 9 (by decide) (by decide); have n10 := sw_ne hs_6 10 (by decide) (by decide); have n11 := sw_ne hs_6 11 (by decide) (by decide); have n12 := sw_ne hs_6 12 (by decide) (by decide); have n13 := sw_ne hs_6 13 (by decide) (by decide); have n14 := sw_ne hs_6 14 (by decide) (by decide); have n15 := sw_ne hs_6 15 (by decide) (by decide); have n16 := sw_ne hs_6 16 (by decide) (by decide); have n17 := sw_ne hs_6 17 (by decide) (by decide); have n18 := sw_ne hs_6 18 (by decide) (by decide); have n19 := sw_ne hs_6 19 (by decide) (by decide); simp [moTell, n0, n1, n2, n3, n4, n5, n6, n7, n8, n9, n10, n11, n12, n13, n14, n15, n16, n17, n18, n19])
  · refine g_tableIn 185 d_Mod_state_6 (by rw [hs_6]; decide) (by rw [hs_6]; decide) (by rw [hs_6]; rfl) (by decide) ?_
    first | refine g_aload_n d_Mod_state_185 rfl ?_ | refine g_aload_nq d_Mod_state_185 rfl ?_
    refine fg_Mod_gates lf_Mod_22 d_Mod_state_186 (by first | (simp only [hK_sI, hK_sR, hK_sA, hK_sQ, hK_sL, hK_fillA]; assumption) | assumption) ?_
    refine Go.ret (some _) (rOk_i _) rfl d_Mod_state_189 ?_
    refine ⟨?_, rfl⟩
    first
      | (subst hs_6; rfl)
      | (have n0 := sw_ne hs_6 0 (by decide) (by decide); have n1 := sw_ne hs_6 1 (by decide) (by decide); have n2 := sw_ne hs_6 2 (by decide) (by decide); have n3 := sw_ne hs_6 3 (by decide) (by decide); have n4 := sw_ne hs_6 4 (by decide) (by decide); have n5 := sw_ne hs_6 5 (by decide) (by decide); have n6 := sw_ne hs_6 6 (by decide) (by decide); have n7 := sw_ne hs_6 7 (by decide) (by decide); have n8 := sw_ne hs_6 8 (by decide) (by decide); have n9 := sw_ne hs_6 9 (by decide) (by decide); have n10 := sw_ne hs_6 10 (by decide) (by decide); have n11 := sw_ne hs_6 11 (by decide) (by decide); have n12 := sw_ne hs_6 12 (by decide) (by decide); have n13 := sw_ne hs_6 13 (by decide) (by decide); have n14 := sw_ne hs_6 14 (by decide) (by decide); have n15 := sw_ne hs_6 15 (by decide) (by decide); have n16 := sw_ne hs_6 16 (by decide) (by decide); have n17 := sw_ne hs_6 17 (by decide) (by decide); have n18 := sw_ne hs_6 18 (by decide) (by decide); have n19 := sw_ne hs_6 19 (by decide) (by decide); simp [moTell, n0, n1, n2, n3, n4, n5, n6, n7, n8, n9, n10, n11, n12, n13, n14, n15, n16, n17, n18, n19])
  · refine g_tableIn 190 d_Mod_state_6 (by rw [hs_6]; decide) (by rw [hs_6]; decide) (by rw [hs_6]; rfl) (by decide) ?_
    first | refine g_aload_n d_Mod_state_190 rfl ?_ | refine g_aload_nq d_Mod_state_190 rfl ?_
    refine fg_Mod_ints lf_Mod_25 d_Mod_state_191 (by first | (simp only [hK_sI, hK_sR, hK_sA, hK_sQ, hK_sL, hK_fillA]; assumption) | assumption) ?_
    refine Go.ret (some _) (rOk_i _) rfl d_Mod_state_194 ?_
    refine ⟨?_, rfl⟩
    first
      | (subst hs_6; rfl)
      | (have n0 := sw_ne hs_6 0 (by decide) (by decide); have n1 := sw_ne hs_6 1 (by decide) (by decide); have n2 := sw_ne hs_6 2 (by decide) (by decide); have n3 := sw_ne hs_6 3 (by decide) (by decide); have n4 := sw_ne hs_6 4 (by decide) (by decide); have n5 := sw_ne hs_6 5 (by decide) (by decide); have n6 := sw_ne hs_6 6 (by decide) (by decide); have n7 := sw_ne hs_6 7 (by decide) (by decide); have n8 := sw_ne hs_6 8 (by decide) (by decide); have n9 := sw_ne hs_6 9 (by decide) (by decide); have n10 := sw_ne hs_6 10 (by decide) (by decide); have n11 := sw_ne hs_6 11 (by decide) (by decide); have n12 := sw_ne hs_6 12 (by decide) (by decide); have n13 := sw_ne hs_6 13 (by decide) (by decide); have n14 := sw_ne hs_6 14 (by decide) (by decide); have n15 := sw_ne hs_6 15 (by decide) (by decide); have n16 := sw_ne hs_6 16 (by decide) (by decide); have n17 := sw_ne hs_6 17 (by decide) (by decide); have n18 := sw_ne hs_6 18 (by decide) (by decide); have n19 := sw_ne hs_6 19 (by decide) (by decide); simp [moTell, n0, n1, n2, n3, n4, n5, n6, n7, n8, n9, n10, n11, n12, n13, n14, n15, n16, n17, n18, n19])
  · refine g_tableIn 195 d_Mod_state_6 (by rw [hs_6]; decide) (by rw [hs_6]; decide) (by rw [hs_6]; rfl) (by decide) ?_
    first | refine g_aload_n d_Mod_state_195 rfl ?_ | refine g_aload_nq d_Mod_state_195 rfl ?_
    refine fg_Mod_pending lf_Mod_129 d_Mod_state_196 (by first | (simp only [hK_sI, hK_sR, hK_sA, hK_sQ, hK_sL, hK_fillA]; assumption) | assumption) ?_
    refine Go.ret (some _) (rOk_i _) rfl d_Mod_state_199 ?_
    refine ⟨?_, rfl⟩
    first
      | (subst hs_6; rfl)
      | (have n0 := sw_ne hs_6 0 (by decide) (by decide); have n1 := sw_ne hs_6 1 (by decide) (by decide); have n2 := sw_ne hs_6 2 (by decide) (by decide); have n3 := sw_ne hs_6 3 (by decide) (by decide); have n4 := sw_ne hs_6 4 (by decide) (by decide); have n5 := sw_ne hs_6 5 (by decide) (by decide); have n6 := sw_ne hs_6 6 (by decide) (by decide); have n7 := sw_ne hs_6 7 (by decide) (by decide); have n8 := sw_ne hs_6 8 (by decide) (by decide); have n9 := sw_ne hs_6 9 (by decide) (by decide); have n10 := sw_ne hs_6 10 (by decide) (by decide); have n11 := sw_ne hs_6 11 (by decide) (by decide); have n12 := sw_ne hs_6 12 (by decide) (by decide); have n13 := sw_ne hs_6 13 (by decide) (by decide); have n14 := sw_ne hs_6 14 (by decide) (by decide); have n15 := sw_ne hs_6 15 (by decide) (by decide); have n16 := sw_ne hs_6 16 (by decide) (by decide); have n17 := sw_ne hs_6 17 (by decide) (by decide); have n18 := sw_ne hs_6 18 (by decide) (by decide); have n19 := sw_ne hs_6 19 (by decide) (by decide); simp [moTell, n0, n1, n2, n3, n4, n5, n6, n7, n8, n9, n10, n11, n12, n13, n14, n15, n16, n17, n18, n19])
