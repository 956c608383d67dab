abbrev mi_Mod_group : MI := (⟨"WarpMillModel", "group", "(I)Z"⟩, prog_13_method_22_code, 6, some .boolean, 2, 44)
def it_Mod_group_0 : List (Nat × ClassFile.Instr × Nat) := [(0, .iconst 0, 1), (1, .istore_n 2, 1), (2, .iconst 0, 1), (3, .istore_n 3, 1), (4, .iconst 0, 1), (5, .istore 4, 2), (7, .iload 4, 2), (9, .aload_n 0, 1), (10, .getfield 7, 3), (13, .if_icmp .ge (54), 3), (16, .aload_n 0, 1), (17, .iload_n 1, 1), (18, .iload 4, 2), (20, .invokevirtual 215, 3), (23, .ifCond .ne (6), 3), (26, .goto (35), 3), (29, .aload_n 0, 1), (30, .getfield 73, 3), (33, .iload_n 1, 1), (34, .iload 4, 2), (36, .invokestatic 211, 3), (39, .iaload, 1), (40, .istore 5, 2), (42, .iload_n 2, 1)]
theorem id_Mod_group_0 : ∀ q ∈ it_Mod_group_0, decode prog_13_method_22_code q.1 = .ok q.2 := by decide +kernel
theorem d_Mod_group_0 : decode prog_13_method_22_code 0 = .ok (.iconst 0, 1) := id_Mod_group_0 (0, .iconst 0, 1) (List.mem_of_getElem? (i := 0) rfl)
theorem d_Mod_group_1 : decode prog_13_method_22_code 1 = .ok (.istore_n 2, 1) := id_Mod_group_0 (1, .istore_n 2, 1) (List.mem_of_getElem? (i := 1) rfl)
theorem d_Mod_group_2 : decode prog_13_method_22_code 2 = .ok (.iconst 0, 1) := id_Mod_group_0 (2, .iconst 0, 1) (List.mem_of_getElem? (i := 2) rfl)
theorem d_Mod_group_3 : decode prog_13_method_22_code 3 = .ok (.istore_n 3, 1) := id_Mod_group_0 (3, .istore_n 3, 1) (List.mem_of_getElem? (i := 3) rfl)
theorem d_Mod_group_4 : decode prog_13_method_22_code 4 = .ok (.iconst 0, 1) := id_Mod_group_0 (4, .iconst 0, 1) (List.mem_of_getElem? (i := 4) rfl)
theorem d_Mod_group_5 : decode prog_13_method_22_code 5 = .ok (.istore 4, 2) := id_Mod_group_0 (5, .istore 4, 2) (List.mem_of_getElem? (i := 5) rfl)
theorem d_Mod_group_7 : decode prog_13_method_22_code 7 = .ok (.iload 4, 2) := id_Mod_group_0 (7, .iload 4, 2) (List.mem_of_getElem? (i := 6) rfl)
theorem d_Mod_group_9 : decode prog_13_method_22_code 9 = .ok (.aload_n 0, 1) := id_Mod_group_0 (9, .aload_n 0, 1) (List.mem_of_getElem? (i := 7) rfl)
theorem d_Mod_group_10 : decode prog_13_method_22_code 10 = .ok (.getfield 7, 3) := id_Mod_group_0 (10, .getfield 7, 3) (List.mem_of_getElem? (i := 8) rfl)
theorem d_Mod_group_13 : decode prog_13_method_22_code 13 = .ok (.if_icmp .ge (54), 3) := id_Mod_group_0 (13, .if_icmp .ge (54), 3) (List.mem_of_getElem? (i := 9) rfl)
theorem d_Mod_group_16 : decode prog_13_method_22_code 16 = .ok (.aload_n 0, 1) := id_Mod_group_0 (16, .aload_n 0, 1) (List.mem_of_getElem? (i := 10) rfl)
theorem d_Mod_group_17 : decode prog_13_method_22_code 17 = .ok (.iload_n 1, 1) := id_Mod_group_0 (17, .iload_n 1, 1) (List.mem_of_getElem? (i := 11) rfl)
theorem d_Mod_group_18 : decode prog_13_method_22_code 18 = .ok (.iload 4, 2) := id_Mod_group_0 (18, .iload 4, 2) (List.mem_of_getElem? (i := 12) rfl)
theorem d_Mod_group_20 : decode prog_13_method_22_code 20 = .ok (.invokevirtual 215, 3) := id_Mod_group_0 (20, .invokevirtual 215, 3) (List.mem_of_getElem? (i := 13) rfl)
theorem d_Mod_group_23 : decode prog_13_method_22_code 23 = .ok (.ifCond .ne (6), 3) := id_Mod_group_0 (23, .ifCond .ne (6), 3) (List.mem_of_getElem? (i := 14) rfl)
theorem d_Mod_group_26 : decode prog_13_method_22_code 26 = .ok (.goto (35), 3) := id_Mod_group_0 (26, .goto (35), 3) (List.mem_of_getElem? (i := 15) rfl)
theorem d_Mod_group_29 : decode prog_13_method_22_code 29 = .ok (.aload_n 0, 1) := id_Mod_group_0 (29, .aload_n 0, 1) (List.mem_of_getElem? (i := 16) rfl)
theorem d_Mod_group_30 : decode prog_13_method_22_code 30 = .ok (.getfield 73, 3) := id_Mod_group_0 (30, .getfield 73, 3) (List.mem_of_getElem? (i := 17) rfl)
theorem d_Mod_group_33 : decode prog_13_method_22_code 33 = .ok (.iload_n 1, 1) := id_Mod_group_0 (33, .iload_n 1, 1) (List.mem_of_getElem? (i := 18) rfl)
theorem d_Mod_group_34 : decode prog_13_method_22_code 34 = .ok (.iload 4, 2) := id_Mod_group_0 (34, .iload 4, 2) (List.mem_of_getElem? (i := 19) rfl)
theorem d_Mod_group_36 : decode prog_13_method_22_code 36 = .ok (.invokestatic 211, 3) := id_Mod_group_0 (36, .invokestatic 211, 3) (List.mem_of_getElem? (i := 20) rfl)
theorem d_Mod_group_39 : decode prog_13_method_22_code 39 = .ok (.iaload, 1) := id_Mod_group_0 (39, .iaload, 1) (List.mem_of_getElem? (i := 21) rfl)
theorem d_Mod_group_40 : decode prog_13_method_22_code 40 = .ok (.istore 5, 2) := id_Mod_group_0 (40, .istore 5, 2) (List.mem_of_getElem? (i := 22) rfl)
theorem d_Mod_group_42 : decode prog_13_method_22_code 42 = .ok (.iload_n 2, 1) := id_Mod_group_0 (42, .iload_n 2, 1) (List.mem_of_getElem? (i := 23) rfl)
def it_Mod_group_1 : List (Nat × ClassFile.Instr × Nat) := [(43, .ifCond .eq (13), 3), (46, .iload_n 3, 1), (47, .iload 5, 2), (49, .if_icmp .gt (7), 3), (52, .iload_n 3, 1), (53, .goto (5), 3), (56, .iload 5, 2), (58, .istore_n 3, 1), (59, .iconst 1, 1), (60, .istore_n 2, 1), (61, .iinc 4 (1), 3), (64, .goto (-57), 3), (67, .iconst 0, 1), (68, .istore 4, 2), (70, .iload 4, 2), (72, .bipush (32), 2), (74, .if_icmp .ge (50), 3), (77, .aload_n 0, 1), (78, .getfield 108, 3), (81, .iload 4, 2), (83, .iload_n 2, 1), (84, .ifCond .eq (32), 3), (87, .aload_n 0, 1), (88, .iload_n 1, 1)]
theorem id_Mod_group_1 : ∀ q ∈ it_Mod_group_1, decode prog_13_method_22_code q.1 = .ok q.2 := by decide +kernel
theorem d_Mod_group_43 : decode prog_13_method_22_code 43 = .ok (.ifCond .eq (13), 3) := id_Mod_group_1 (43, .ifCond .eq (13), 3) (List.mem_of_getElem? (i := 0) rfl)
theorem d_Mod_group_46 : decode prog_13_method_22_code 46 = .ok (.iload_n 3, 1) := id_Mod_group_1 (46, .iload_n 3, 1) (List.mem_of_getElem? (i := 1) rfl)
theorem d_Mod_group_47 : decode prog_13_method_22_code 47 = .ok (.iload 5, 2) := id_Mod_group_1 (47, .iload 5, 2) (List.mem_of_getElem? (i := 2) rfl)
theorem d_Mod_group_49 : decode prog_13_method_22_code 49 = .ok (.if_icmp .gt (7), 3) := id_Mod_group_1 (49, .if_icmp .gt (7), 3) (List.mem_of_getElem? (i := 3) rfl)
theorem d_Mod_group_52 : decode prog_13_method_22_code 52 = .ok (.iload_n 3, 1) := id_Mod_group_1 (52, .iload_n 3, 1) (List.mem_of_getElem? (i := 4) rfl)
theorem d_Mod_group_53 : decode prog_13_method_22_code 53 = .ok (.goto (5), 3) := id_Mod_group_1 (53, .goto (5), 3) (List.mem_of_getElem? (i := 5) rfl)
theorem d_Mod_group_56 : decode prog_13_method_22_code 56 = .ok (.iload 5, 2) := id_Mod_group_1 (56, .iload 5, 2) (List.mem_of_getElem? (i := 6) rfl)
theorem d_Mod_group_58 : decode prog_13_method_22_code 58 = .ok (.istore_n 3, 1) := id_Mod_group_1 (58, .istore_n 3, 1) (List.mem_of_getElem? (i := 7) rfl)
theorem d_Mod_group_59 : decode prog_13_method_22_code 59 = .ok (.iconst 1, 1) := id_Mod_group_1 (59, .iconst 1, 1) (List.mem_of_getElem? (i := 8) rfl)
theorem d_Mod_group_60 : decode prog_13_method_22_code 60 = .ok (.istore_n 2, 1) := id_Mod_group_1 (60, .istore_n 2, 1) (List.mem_of_getElem? (i := 9) rfl)
theorem d_Mod_group_61 : decode prog_13_method_22_code 61 = .ok (.iinc 4 (1), 3) := id_Mod_group_1 (61, .iinc 4 (1), 3) (List.mem_of_getElem? (i := 10) rfl)
theorem d_Mod_group_64 : decode prog_13_method_22_code 64 = .ok (.goto (-57), 3) := id_Mod_group_1 (64, .goto (-57), 3) (List.mem_of_getElem? (i := 11) rfl)
theorem d_Mod_group_67 : decode prog_13_method_22_code 67 = .ok (.iconst 0, 1) := id_Mod_group_1 (67, .iconst 0, 1) (List.mem_of_getElem? (i := 12) rfl)
theorem d_Mod_group_68 : decode prog_13_method_22_code 68 = .ok (.istore 4, 2) := id_Mod_group_1 (68, .istore 4, 2) (List.mem_of_getElem? (i := 13) rfl)
theorem d_Mod_group_70 : decode prog_13_method_22_code 70 = .ok (.iload 4, 2) := id_Mod_group_1 (70, .iload 4, 2) (List.mem_of_getElem? (i := 14) rfl)
theorem d_Mod_group_72 : decode prog_13_method_22_code 72 = .ok (.bipush (32), 2) := id_Mod_group_1 (72, .bipush (32), 2) (List.mem_of_getElem? (i := 15) rfl)
theorem d_Mod_group_74 : decode prog_13_method_22_code 74 = .ok (.if_icmp .ge (50), 3) := id_Mod_group_1 (74, .if_icmp .ge (50), 3) (List.mem_of_getElem? (i := 16) rfl)
theorem d_Mod_group_77 : decode prog_13_method_22_code 77 = .ok (.aload_n 0, 1) := id_Mod_group_1 (77, .aload_n 0, 1) (List.mem_of_getElem? (i := 17) rfl)
theorem d_Mod_group_78 : decode prog_13_method_22_code 78 = .ok (.getfield 108, 3) := id_Mod_group_1 (78, .getfield 108, 3) (List.mem_of_getElem? (i := 18) rfl)
theorem d_Mod_group_81 : decode prog_13_method_22_code 81 = .ok (.iload 4, 2) := id_Mod_group_1 (81, .iload 4, 2) (List.mem_of_getElem? (i := 19) rfl)
theorem d_Mod_group_83 : decode prog_13_method_22_code 83 = .ok (.iload_n 2, 1) := id_Mod_group_1 (83, .iload_n 2, 1) (List.mem_of_getElem? (i := 20) rfl)
theorem d_Mod_group_84 : decode prog_13_method_22_code 84 = .ok (.ifCond .eq (32), 3) := id_Mod_group_1 (84, .ifCond .eq (32), 3) (List.mem_of_getElem? (i := 21) rfl)
theorem d_Mod_group_87 : decode prog_13_method_22_code 87 = .ok (.aload_n 0, 1) := id_Mod_group_1 (87, .aload_n 0, 1) (List.mem_of_getElem? (i := 22) rfl)
theorem d_Mod_group_88 : decode prog_13_method_22_code 88 = .ok (.iload_n 1, 1) := id_Mod_group_1 (88, .iload_n 1, 1) (List.mem_of_getElem? (i := 23) rfl)
def it_Mod_group_2 : List (Nat × ClassFile.Instr × Nat) := [(89, .iload 4, 2), (91, .invokevirtual 215, 3), (94, .ifCond .eq (22), 3), (97, .aload_n 0, 1), (98, .getfield 73, 3), (101, .iload_n 1, 1), (102, .iload 4, 2), (104, .invokestatic 211, 3), (107, .iaload, 1), (108, .iload_n 3, 1), (109, .if_icmp .ne (7), 3), (112, .iconst 1, 1), (113, .goto (4), 3), (116, .iconst 0, 1), (117, .bastore, 1), (118, .iinc 4 (1), 3), (121, .goto (-51), 3), (124, .iload_n 2, 1), (125, .ireturn, 1)]
theorem id_Mod_group_2 : ∀ q ∈ it_Mod_group_2, decode prog_13_method_22_code q.1 = .ok q.2 := by decide +kernel
theorem d_Mod_group_89 : decode prog_13_method_22_code 89 = .ok (.iload 4, 2) := id_Mod_group_2 (89, .iload 4, 2) (List.mem_of_getElem? (i := 0) rfl)
theorem d_Mod_group_91 : decode prog_13_method_22_code 91 = .ok (.invokevirtual 215, 3) := id_Mod_group_2 (91, .invokevirtual 215, 3) (List.mem_of_getElem? (i := 1) rfl)
theorem d_Mod_group_94 : decode prog_13_method_22_code 94 = .ok (.ifCond .eq (22), 3) := id_Mod_group_2 (94, .ifCond .eq (22), 3) (List.mem_of_getElem? (i := 2) rfl)
theorem d_Mod_group_97 : decode prog_13_method_22_code 97 = .ok (.aload_n 0, 1) := id_Mod_group_2 (97, .aload_n 0, 1) (List.mem_of_getElem? (i := 3) rfl)
theorem d_Mod_group_98 : decode prog_13_method_22_code 98 = .ok (.getfield 73, 3) := id_Mod_group_2 (98, .getfield 73, 3) (List.mem_of_getElem? (i := 4) rfl)
theorem d_Mod_group_101 : decode prog_13_method_22_code 101 = .ok (.iload_n 1, 1) := id_Mod_group_2 (101, .iload_n 1, 1) (List.mem_of_getElem? (i := 5) rfl)
theorem d_Mod_group_102 : decode prog_13_method_22_code 102 = .ok (.iload 4, 2) := id_Mod_group_2 (102, .iload 4, 2) (List.mem_of_getElem? (i := 6) rfl)
theorem d_Mod_group_104 : decode prog_13_method_22_code 104 = .ok (.invokestatic 211, 3) := id_Mod_group_2 (104, .invokestatic 211, 3) (List.mem_of_getElem? (i := 7) rfl)
theorem d_Mod_group_107 : decode prog_13_method_22_code 107 = .ok (.iaload, 1) := id_Mod_group_2 (107, .iaload, 1) (List.mem_of_getElem? (i := 8) rfl)
theorem d_Mod_group_108 : decode prog_13_method_22_code 108 = .ok (.iload_n 3, 1) := id_Mod_group_2 (108, .iload_n 3, 1) (List.mem_of_getElem? (i := 9) rfl)
theorem d_Mod_group_109 : decode prog_13_method_22_code 109 = .ok (.if_icmp .ne (7), 3) := id_Mod_group_2 (109, .if_icmp .ne (7), 3) (List.mem_of_getElem? (i := 10) rfl)
theorem d_Mod_group_112 : decode prog_13_method_22_code 112 = .ok (.iconst 1, 1) := id_Mod_group_2 (112, .iconst 1, 1) (List.mem_of_getElem? (i := 11) rfl)
theorem d_Mod_group_113 : decode prog_13_method_22_code 113 = .ok (.goto (4), 3) := id_Mod_group_2 (113, .goto (4), 3) (List.mem_of_getElem? (i := 12) rfl)
theorem d_Mod_group_116 : decode prog_13_method_22_code 116 = .ok (.iconst 0, 1) := id_Mod_group_2 (116, .iconst 0, 1) (List.mem_of_getElem? (i := 13) rfl)
theorem d_Mod_group_117 : decode prog_13_method_22_code 117 = .ok (.bastore, 1) := id_Mod_group_2 (117, .bastore, 1) (List.mem_of_getElem? (i := 14) rfl)
theorem d_Mod_group_118 : decode prog_13_method_22_code 118 = .ok (.iinc 4 (1), 3) := id_Mod_group_2 (118, .iinc 4 (1), 3) (List.mem_of_getElem? (i := 15) rfl)
theorem d_Mod_group_121 : decode prog_13_method_22_code 121 = .ok (.goto (-51), 3) := id_Mod_group_2 (121, .goto (-51), 3) (List.mem_of_getElem? (i := 16) rfl)
theorem d_Mod_group_124 : decode prog_13_method_22_code 124 = .ok (.iload_n 2, 1) := id_Mod_group_2 (124, .iload_n 2, 1) (List.mem_of_getElem? (i := 17) rfl)
theorem d_Mod_group_125 : decode prog_13_method_22_code 125 = .ok (.ireturn, 1) := id_Mod_group_2 (125, .ireturn, 1) (List.mem_of_getElem? (i := 18) rfl)
theorem wC_Mod_group : Cond.code ⟨"WarpMillModel", "group", "(I)Z"⟩ prog_13_method_22_code 6 (some .boolean) ∈ lw_tb := mem_tb 1334 (by decide +kernel) rfl
theorem cw_Mod_group_Mod_isAwake : cW mi_Mod_group mi_Mod_isAwake 2 := ⟨wC_Mod_isAwake, wi_Mod, ⟨by decide, by decide, by decide +kernel⟩, by decide, by decide⟩
theorem cw_Mod_group_Mod_thread : cW mi_Mod_group mi_Mod_thread 2 := ⟨wC_Mod_thread, wi_Mod, ⟨by decide, by decide, by decide +kernel⟩, by decide, by decide⟩
def b_Mod_group_117 (F : Nat) (k70 : Nat → Int32 → Int32 → Int32 → Int32 → Hp → Option (Int32 × Hp)) (x0 : Nat) (x1 : Int32) (x2 : Int32) (x3 : Int32) (x4 : Int32) (s0 : Nat) (s1 : Int32) (s2 : Int32) (h : Hp) : Option (Int32 × Hp) := gd (hK h s0 = 101) <| ix s1 (hN h s0) fun j_117_2 => gd (s2 = 0 ∨ s2 = 1) <| pw (sA h s0 j_117_2 s2) fun h_117_4 => k70 x0 x1 x2 x3 (x4 + 1) h_117_4
set_option maxRecDepth 100000 in
set_option maxHeartbeats 4000000 in
theorem e_Mod_group_117 {G : Gl} (hw : gF G) {h0 : Hp} {F : Nat} {r : Int32} {h' : Hp} {k70 : Nat → Int32 → Int32 → Int32 → Int32 → Hp → Option (Int32 × Hp)} (hk70 : ∀ (y0 : Nat) (y1 : Int32) (y2 : Int32) (y3 : Int32) (y4 : Int32) (hh : Hp), k70 y0 y1 y2 y3 y4 hh = some (r, h') → Go G mi_Mod_group h0 (pI r h') hh 70 [(0, .ref y0), (1, .int y1), (2, .int y2), (3, .int y3), (4, .int y4)] []) {x0 : Nat} {x1 : Int32} {x2 : Int32} {x3 : Int32} {x4 : Int32} {s0 : Nat} {s1 : Int32} {s2 : Int32} {h : Hp} (hf : b_Mod_group_117 F k70 x0 x1 x2 x3 x4 s0 s1 s2 h = some (r, h')) : Go G mi_Mod_group h0 (pI r h') h 117 [(0, .ref x0), (1, .int x1), (2, .int x2), (3, .int x3), (4, .int x4)] [.int s2, .int s1, .ref s0] := by
  unfold b_Mod_group_117 at hf
  obtain ⟨k_117, hf⟩ := gd_s hf
  obtain ⟨i_117_2, hf⟩ := ix_s hf
  obtain ⟨b_117_3, hf⟩ := gd_s hf
  refine g_zast hw (zok b_117_3) k_117 i_117_2 d_Mod_group_117 ?_
  have hf := pw_b hf
  refine g_iinc (_ + 1) d_Mod_group_118 rfl (by rfl) (by decide) ?_
  show Go _ _ _ _ _ _ [(0, _), (1, _), (2, _), (3, _), (4, _)] _
  refine g_goto 70 d_Mod_group_121 (by decide) ?_
  exact hk70 _ _ _ _ _ _ hf
def b_Mod_group_116 (F : Nat) (k70 : Nat → Int32 → Int32 → Int32 → Int32 → Hp → Option (Int32 × Hp)) (x0 : Nat) (x1 : Int32) (x2 : Int32) (x3 : Int32) (x4 : Int32) (s0 : Nat) (s1 : Int32) (h : Hp) : Option (Int32 × Hp) := b_Mod_group_117 F k70 x0 x1 x2 x3 x4 s0 s1 (0 : Int32) h
set_option maxRecDepth 100000 in
set_option maxHeartbeats 4000000 in
theorem e_Mod_group_116 {G : Gl} (hw : gF G) {h0 : Hp} {F : Nat} {r : Int32} {h' : Hp} {k70 : Nat → Int32 → Int32 → Int32 → Int32 → Hp → Option (Int32 × Hp)} (hk70 : ∀ (y0 : Nat) (y1 : Int32) (y2 : Int32) (y3 : Int32) (y4 : Int32) (hh : Hp), k70 y0 y1 y2 y3 y4 hh = some (r, h') → Go G mi_Mod_group h0 (pI r h') hh 70 [(0, .ref y0), (1, .int y1), (2, .int y2), (3, .int y3), (4, .int y4)] []) {x0 : Nat} {x1 : Int32} {x2 : Int32} {x3 : Int32} {x4 : Int32} {s0 : Nat} {s1 : Int32} {h : Hp} (hf : b_Mod_group_116 F k70 x0 x1 x2 x3 x4 s0 s1 h = some (r, h')) : Go G mi_Mod_group h0 (pI r h') h 116 [(0, .ref x0), (1, .int x1), (2, .int x2), (3, .int x3), (4, .int x4)] [.int s1, .ref s0] := by
  unfold b_Mod_group_116 at hf
  refine g_iconst 0 d_Mod_group_116 (by decide) ?_
  have key := e_Mod_group_117 hw (G := G) (h0 := h0) hk70 hf
  exact key
def b_Mod_group_70 (F : Nat) : Nat → Nat → Int32 → Int32 → Int32 → Int32 → Hp → Option (Int32 × Hp)
  | 0 => fun _ _ _ _ _ _ => none
  | n + 1 => fun x0 x1 x2 x3 x4 h => if (32 : Int32) ≤ x4 then (gd (x2 = 0 ∨ x2 = 1) <| some (x2, h)) else (gd (hK h x0 = 12) <| rq h (hR h 754 x0) 101 fun a_78_2 => if x2 = 0 then (b_Mod_group_116 F (b_Mod_group_70 F n) x0 x1 x2 x3 x4 a_78_2 x4 h) else (cl (f_Mod_isAwake F x0 x1 x4 h) fun v_91 h_91 => if v_91 = 0 then (b_Mod_group_116 F (b_Mod_group_70 F n) x0 x1 x2 x3 x4 a_78_2 x4 h_91) else (gd (hK h_91 x0 = 12) <| rq h_91 (hR h_91 741 x0) 100 fun a_98_2 => cl (f_Mod_thread F x1 x4 h_91) fun v_104 h_104 => gd (hK h_104 a_98_2 = 100) <| ix v_104 (hN h_104 a_98_2) fun j_107_2 => if (hA h_104 a_98_2 j_107_2) = x3 then (b_Mod_group_117 F (b_Mod_group_70 F n) x0 x1 x2 x3 x4 a_78_2 x4 (1 : Int32) h_104) else (b_Mod_group_116 F (b_Mod_group_70 F n) x0 x1 x2 x3 x4 a_78_2 x4 h_104))))
set_option maxRecDepth 100000 in
set_option maxHeartbeats 4000000 in
theorem e_Mod_group_70 {G : Gl} (hw : gF G) {h0 : Hp} {F : Nat} {r : Int32} {h' : Hp}   : ∀ (n : Nat) (x0 : Nat) (x1 : Int32) (x2 : Int32) (x3 : Int32) (x4 : Int32) (h : Hp), b_Mod_group_70 F n x0 x1 x2 x3 x4 h = some (r, h') → Go G mi_Mod_group h0 (pI r h') h 70 [(0, .ref x0), (1, .int x1), (2, .int x2), (3, .int x3), (4, .int x4)] [] := by
  intro n
  induction n with
  | zero =>
    intro _ _ _ _ _ _ hf
    exact nm_s hf
  | succ n ih =>
    intro x0 x1 x2 x3 x4 h hf
    unfold b_Mod_group_70 at hf
    refine g_iload d_Mod_group_70 rfl ?_
    refine g_bipush (32) d_Mod_group_72 (by decide) ?_
    refine g_icmp_ge 124 d_Mod_group_74 (by decide) (fun c_74 => ?_) (fun c_74 => ?_)
    · have hf := ifp hf c_74
      refine g_iload_n d_Mod_group_124 rfl ?_
      obtain ⟨b_125, hf⟩ := gd_s hf
      exact Go.ret (some _) (rOk_z b_125) rfl d_Mod_group_125 (pI_of hf)
    · have hf := ifn hf c_74
      refine g_aload_n d_Mod_group_77 rfl ?_
      obtain ⟨k_78, hf⟩ := gd_s hf
      obtain ⟨a_78_2, e_78_2, k_78_2, hf⟩ := rq_s hf
      refine fgs_Mod_inGroup lf_Mod_108 d_Mod_group_78 k_78 e_78_2 ?_
      refine g_iload d_Mod_group_81 rfl ?_
      refine g_iload_n d_Mod_group_83 rfl ?_
      refine g_if_eq 116 d_Mod_group_84 (by decide) (fun c_84 => ?_) (fun c_84 => ?_)
      · have hf := ifp hf c_84
        have key := e_Mod_group_116 hw (G := G) (h0 := h0) (fun _ _ _ _ _ _ q => ih _ _ _ _ _ _ q) hf
        exact key
      · have hf := ifn hf c_84
        refine g_aload_n d_Mod_group_87 rfl ?_
        refine g_iload_n d_Mod_group_88 rfl ?_
        refine g_iload d_Mod_group_89 rfl ?_
        obtain ⟨v_91, h_91, e_91, hf⟩ := cl_s hf
        refine g_callV (mz := mi_Mod_isAwake) (e_Mod_isAwake e_91) cw_Mod_group_Mod_isAwake lm_Mod_215 wI_Mod_isAwake wV_Mod_isAwake (ci := 11) k_78 (by decide) rfl rfl d_Mod_group_91 rfl rfl (by first | exact Nat.le_of_ble_eq_true rfl | simp [cat_rf, Value.category]) (fun r1 h1 hp hro => ?_)
        obtain ⟨rfl, rfl⟩ := hp
        dsimp only [Option.toList_some, Option.toList_none, List.cons_append, List.nil_append]
        refine g_if_eq 116 d_Mod_group_94 (by decide) (fun c_94 => ?_) (fun c_94 => ?_)
        · have hf := ifp hf c_94
          have key := e_Mod_group_116 hw (G := G) (h0 := h0) (fun _ _ _ _ _ _ q => ih _ _ _ _ _ _ q) hf
          exact key
        · have hf := ifn hf c_94
          refine g_aload_n d_Mod_group_97 rfl ?_
          obtain ⟨k_98, hf⟩ := gd_s hf
          obtain ⟨a_98_2, e_98_2, k_98_2, hf⟩ := rq_s hf
          refine fgs_Mod_place lf_Mod_73 d_Mod_group_98 k_98 e_98_2 ?_
          refine g_iload_n d_Mod_group_101 rfl ?_
          refine g_iload d_Mod_group_102 rfl ?_
          obtain ⟨v_104, h_104, e_104, hf⟩ := cl_s hf
          refine g_callS (mz := mi_Mod_thread) (e_Mod_thread e_104) cw_Mod_group_Mod_thread lm_Mod_211 wS_Mod_thread d_Mod_group_104 rfl rfl (by first | exact Nat.le_of_ble_eq_true rfl | simp [cat_rf, Value.category]) (fun r1 h1 hp hro => ?_)
          obtain ⟨rfl, rfl⟩ := hp
          dsimp only [Option.toList_some, Option.toList_none, List.cons_append, List.nil_append]
          obtain ⟨k_107, hf⟩ := gd_s hf
          obtain ⟨i_107_2, hf⟩ := ix_s hf
          refine g_iald k_107 i_107_2 d_Mod_group_107 ?_
          refine g_iload_n d_Mod_group_108 rfl ?_
          refine g_icmp_ne 116 d_Mod_group_109 (by decide) (fun c_109 => ?_) (fun c_109 => ?_)
          · have hf := ifn hf c_109
            have key := e_Mod_group_116 hw (G := G) (h0 := h0) (fun _ _ _ _ _ _ q => ih _ _ _ _ _ _ q) hf
            exact key
          · have hf := ifp hf c_109
            refine g_iconst 1 d_Mod_group_112 (by decide) ?_
            refine g_goto 117 d_Mod_group_113 (by decide) ?_
            have key := e_Mod_group_117 hw (G := G) (h0 := h0) (fun _ _ _ _ _ _ q => ih _ _ _ _ _ _ q) hf
            exact key
def b_Mod_group_7 (F : Nat) : Nat → Nat → Int32 → Int32 → Int32 → Int32 → Hp → Option (Int32 × Hp)
  | 0 => fun _ _ _ _ _ _ => none
  | n + 1 => fun x0 x1 x2 x3 x4 h => gd (hK h x0 = 12) <| if (hI h 705 x0) ≤ x4 then (b_Mod_group_70 F F x0 x1 x2 x3 (0 : Int32) h) else (cl (f_Mod_isAwake F x0 x1 x4 h) fun v_20 h_20 => if v_20 = 0 then (b_Mod_group_7 F n x0 x1 x2 x3 (x4 + 1) h_20) else (gd (hK h_20 x0 = 12) <| rq h_20 (hR h_20 741 x0) 100 fun a_30_2 => cl (f_Mod_thread F x1 x4 h_20) fun v_36 h_36 => gd (hK h_36 a_30_2 = 100) <| ix v_36 (hN h_36 a_30_2) fun j_39_2 => if x2 = 0 then (b_Mod_group_7 F n x0 x1 (1 : Int32) (hA h_36 a_30_2 j_39_2) (x4 + 1) h_36) else (if (hA h_36 a_30_2 j_39_2) < x3 then (b_Mod_group_7 F n x0 x1 (1 : Int32) (hA h_36 a_30_2 j_39_2) (x4 + 1) h_36) else (b_Mod_group_7 F n x0 x1 (1 : Int32) x3 (x4 + 1) h_36))))
set_option maxRecDepth 100000 in
set_option maxHeartbeats 4000000 in
theorem e_Mod_group_7 {G : Gl} (hw : gF G) {h0 : Hp} {F : Nat} {r : Int32} {h' : Hp}   : ∀ (n : Nat) (x0 : Nat) (x1 : Int32) (x2 : Int32) (x3 : Int32) (x4 : Int32) (h : Hp), b_Mod_group_7 F n x0 x1 x2 x3 x4 h = some (r, h') → Go G mi_Mod_group h0 (pI r h') h 7 [(0, .ref x0), (1, .int x1), (2, .int x2), (3, .int x3), (4, .int x4)] [] := by
  intro n
  induction n with
  | zero =>
    intro _ _ _ _ _ _ hf
    exact nm_s hf
  | succ n ih =>
    intro x0 x1 x2 x3 x4 h hf
    unfold b_Mod_group_7 at hf
    refine g_iload d_Mod_group_7 rfl ?_
    refine g_aload_n d_Mod_group_9 rfl ?_
    obtain ⟨k_10, hf⟩ := gd_s hf
    refine fg_Mod_lanes lf_Mod_7 d_Mod_group_10 k_10 ?_
    refine g_icmp_ge 67 d_Mod_group_13 (by decide) (fun c_13 => ?_) (fun c_13 => ?_)
    · have hf := ifp hf c_13
      refine g_iconst 0 d_Mod_group_67 (by decide) ?_
      refine g_istore d_Mod_group_68 (by decide) ?_
      show Go _ _ _ _ _ _ [(0, _), (1, _), (2, _), (3, _), (4, _)] _
      have key := e_Mod_group_70 hw (G := G) (h0 := h0)  F _ _ _ _ _ _ hf
      exact key
    · have hf := ifn hf c_13
      refine g_aload_n d_Mod_group_16 rfl ?_
      refine g_iload_n d_Mod_group_17 rfl ?_
      refine g_iload d_Mod_group_18 rfl ?_
      obtain ⟨v_20, h_20, e_20, hf⟩ := cl_s hf
      refine g_callV (mz := mi_Mod_isAwake) (e_Mod_isAwake e_20) cw_Mod_group_Mod_isAwake lm_Mod_215 wI_Mod_isAwake wV_Mod_isAwake (ci := 11) k_10 (by decide) rfl rfl d_Mod_group_20 rfl rfl (by first | exact Nat.le_of_ble_eq_true rfl | simp [cat_rf, Value.category]) (fun r1 h1 hp hro => ?_)
      obtain ⟨rfl, rfl⟩ := hp
      dsimp only [Option.toList_some, Option.toList_none, List.cons_append, List.nil_append]
      refine g_if_ne 29 d_Mod_group_23 (by decide) (fun c_23 => ?_) (fun c_23 => ?_)
      · have hf := ifn hf c_23
        refine g_aload_n d_Mod_group_29 rfl ?_
        obtain ⟨k_30, hf⟩ := gd_s hf
        obtain ⟨a_30_2, e_30_2, k_30_2, hf⟩ := rq_s hf
        refine fgs_Mod_place lf_Mod_73 d_Mod_group_30 k_30 e_30_2 ?_
        refine g_iload_n d_Mod_group_33 rfl ?_
        refine g_iload d_Mod_group_34 rfl ?_
        obtain ⟨v_36, h_36, e_36, hf⟩ := cl_s hf
        refine g_callS (mz := mi_Mod_thread) (e_Mod_thread e_36) cw_Mod_group_Mod_thread lm_Mod_211 wS_Mod_thread d_Mod_group_36 rfl rfl (by first | exact Nat.le_of_ble_eq_true rfl | simp [cat_rf, Value.category]) (fun r1 h1 hp hro => ?_)
        obtain ⟨rfl, rfl⟩ := hp
        dsimp only [Option.toList_some, Option.toList_none, List.cons_append, List.nil_append]
        obtain ⟨k_39, hf⟩ := gd_s hf
        obtain ⟨i_39_2, hf⟩ := ix_s hf
        refine g_iald k_39 i_39_2 d_Mod_group_39 ?_
        refine g_istore d_Mod_group_40 (by decide) ?_
        show Go _ _ _ _ _ _ [(0, _), (1, _), (2, _), (3, _), (4, _), (5, _)] _
        refine g_iload_n d_Mod_group_42 rfl ?_
        refine g_if_eq 56 d_Mod_group_43 (by decide) (fun c_43 => ?_) (fun c_43 => ?_)
        · have hf := ifp hf c_43
          refine g_iload d_Mod_group_56 rfl ?_
          refine g_istore_n d_Mod_group_58 (by decide) ?_
          show Go _ _ _ _ _ _ [(0, _), (1, _), (2, _), (3, _), (4, _), (5, _)] _
          refine g_iconst 1 d_Mod_group_59 (by decide) ?_
          refine g_istore_n d_Mod_group_60 (by decide) ?_
          show Go _ _ _ _ _ _ [(0, _), (1, _), (2, _), (3, _), (4, _), (5, _)] _
          refine g_iinc (_ + 1) d_Mod_group_61 rfl (by rfl) (by decide) ?_
          show Go _ _ _ _ _ _ [(0, _), (1, _), (2, _), (3, _), (4, _), (5, _)] _
          refine g_goto 7 d_Mod_group_64 (by decide) ?_
          refine Go.locals [0, 1, 2, 3, 4] rfl ?_
          exact ih _ _ _ _ _ _ hf
        · have hf := ifn hf c_43
          refine g_iload_n d_Mod_group_46 rfl ?_
          refine g_iload d_Mod_group_47 rfl ?_
          refine g_icmp_gt 56 d_Mod_group_49 (by decide) (fun c_49 => ?_) (fun c_49 => ?_)
          · have hf := ifp hf c_49
            refine g_iload d_Mod_group_56 rfl ?_
            refine g_istore_n d_Mod_group_58 (by decide) ?_
            show Go _ _ _ _ _ _ [(0, _), (1, _), (2, _), (3, _), (4, _), (5, _)] _
            refine g_iconst 1 d_Mod_group_59 (by decide) ?_
            refine g_istore_n d_Mod_group_60 (by decide) ?_
            show Go _ _ _ _ _ _ [(0, _), (1, _), (2, _), (3, _), (4, _), (5, _)] _
            refine g_iinc (_ + 1) d_Mod_group_61 rfl (by rfl) (by decide) ?_
            show Go _ _ _ _ _ _ [(0, _), (1, _), (2, _), (3, _), (4, _), (5, _)] _
            refine g_goto 7 d_Mod_group_64 (by decide) ?_
            refine Go.locals [0, 1, 2, 3, 4] rfl ?_
            exact ih _ _ _ _ _ _ hf
          · have hf := ifn hf c_49
            refine g_iload_n d_Mod_group_52 rfl ?_
            refine g_goto 58 d_Mod_group_53 (by decide) ?_
            refine g_istore_n d_Mod_group_58 (by decide) ?_
            show Go _ _ _ _ _ _ [(0, _), (1, _), (2, _), (3, _), (4, _), (5, _)] _
            refine g_iconst 1 d_Mod_group_59 (by decide) ?_
            refine g_istore_n d_Mod_group_60 (by decide) ?_
            show Go _ _ _ _ _ _ [(0, _), (1, _), (2, _), (3, _), (4, _), (5, _)] _
            refine g_iinc (_ + 1) d_Mod_group_61 rfl (by rfl) (by decide) ?_
            show Go _ _ _ _ _ _ [(0, _), (1, _), (2, _), (3, _), (4, _), (5, _)] _
            refine g_goto 7 d_Mod_group_64 (by decide) ?_
            refine Go.locals [0, 1, 2, 3, 4] rfl ?_
            exact ih _ _ _ _ _ _ hf
      · have hf := ifp hf c_23
        refine g_goto 61 d_Mod_group_26 (by decide) ?_
        refine g_iinc (_ + 1) d_Mod_group_61 rfl (by rfl) (by decide) ?_
        show Go _ _ _ _ _ _ [(0, _), (1, _), (2, _), (3, _), (4, _)] _
        refine g_goto 7 d_Mod_group_64 (by decide) ?_
        exact ih _ _ _ _ _ _ hf
def f_Mod_group (F : Nat) (x0 : Nat) (x1 : Int32) (h : Hp) : Option (Int32 × Hp) := b_Mod_group_7 F F x0 x1 (0 : Int32) (0 : Int32) (0 : Int32) h
set_option maxRecDepth 100000 in
set_option maxHeartbeats 4000000 in
theorem e_Mod_group {G : Gl} (hw : gF G) {F : Nat} {r : Int32} {h' : Hp} {x0 : Nat} {x1 : Int32} {h : Hp} (hf : f_Mod_group F x0 x1 h = some (r, h')) : Ex G mi_Mod_group [.ref x0, .int x1] h (pI r h') := by
  unfold f_Mod_group at hf
  refine Ex.of nmI (by decide) (Nat.le_of_ble_eq_true rfl) ?_
  show Go G mi_Mod_group h _ h 0 [(0, .ref x0), (1, .int x1)] []
  refine g_iconst 0 d_Mod_group_0 (by decide) ?_
  refine g_istore_n d_Mod_group_1 (by decide) ?_
  show Go _ _ _ _ _ _ [(0, _), (1, _), (2, _)] _
  refine g_iconst 0 d_Mod_group_2 (by decide) ?_
  refine g_istore_n d_Mod_group_3 (by decide) ?_
  show Go _ _ _ _ _ _ [(0, _), (1, _), (2, _), (3, _)] _
  refine g_iconst 0 d_Mod_group_4 (by decide) ?_
  refine g_istore d_Mod_group_5 (by decide) ?_
  show Go _ _ _ _ _ _ [(0, _), (1, _), (2, _), (3, _), (4, _)] _
  have key := e_Mod_group_7 hw (G := G) (h0 := h)  F _ _ _ _ _ _ hf
  exact key
abbrev mi_Mod_firstOfGroup : MI := (⟨"WarpMillModel", "firstOfGroup", "()I"⟩, prog_13_method_23_code, 2, some .int, 0, 0)
def it_Mod_firstOfGroup_0 : List (Nat × ClassFile.Instr × Nat) := [(0, .iconst 0, 1), (1, .istore_n 1, 1), (2, .aload_n 0, 1), (3, .getfield 108, 3), (6, .iload_n 1, 1), (7, .baload, 1), (8, .ifCond .ne (9), 3), (11, .iinc 1 (1), 3), (14, .goto (-12), 3), (17, .iload_n 1, 1), (18, .ireturn, 1)]
theorem id_Mod_firstOfGroup_0 : ∀ q ∈ it_Mod_firstOfGroup_0, decode prog_13_method_23_code q.1 = .ok q.2 := by decide +kernel
theorem d_Mod_firstOfGroup_0 : decode prog_13_method_23_code 0 = .ok (.iconst 0, 1) := id_Mod_firstOfGroup_0 (0, .iconst 0, 1) (List.mem_of_getElem? (i := 0) rfl)
theorem d_Mod_firstOfGroup_1 : decode prog_13_method_23_code 1 = .ok (.istore_n 1, 1) := id_Mod_firstOfGroup_0 (1, .istore_n 1, 1) (List.mem_of_getElem? (i := 1) rfl)
theorem d_Mod_firstOfGroup_2 : decode prog_13_method_23_code 2 = .ok (.aload_n 0, 1) := id_Mod_firstOfGroup_0 (2, .aload_n 0, 1) (List.mem_of_getElem? (i := 2) rfl)
theorem d_Mod_firstOfGroup_3 : decode prog_13_method_23_code 3 = .ok (.getfield 108, 3) := id_Mod_firstOfGroup_0 (3, .getfield 108, 3) (List.mem_of_getElem? (i := 3) rfl)
theorem d_Mod_firstOfGroup_6 : decode prog_13_method_23_code 6 = .ok (.iload_n 1, 1) := id_Mod_firstOfGroup_0 (6, .iload_n 1, 1) (List.mem_of_getElem? (i := 4) rfl)
theorem d_Mod_firstOfGroup_7 : decode prog_13_method_23_code 7 = .ok (.baload, 1) := id_Mod_firstOfGroup_0 (7, .baload, 1) (List.mem_of_getElem? (i := 5) rfl)
theorem d_Mod_firstOfGroup_8 : decode prog_13_method_23_code 8 = .ok (.ifCond .ne (9), 3) := id_Mod_firstOfGroup_0 (8, .ifCond .ne (9), 3) (List.mem_of_getElem? (i := 6) rfl)
theorem d_Mod_firstOfGroup_11 : decode prog_13_method_23_code 11 = .ok (.iinc 1 (1), 3) := id_Mod_firstOfGroup_0 (11, .iinc 1 (1), 3) (List.mem_of_getElem? (i := 7) rfl)
theorem d_Mod_firstOfGroup_14 : decode prog_13_method_23_code 14 = .ok (.goto (-12), 3) := id_Mod_firstOfGroup_0 (14, .goto (-12), 3) (List.mem_of_getElem? (i := 8) rfl)
theorem d_Mod_firstOfGroup_17 : decode prog_13_method_23_code 17 = .ok (.iload_n 1, 1) := id_Mod_firstOfGroup_0 (17, .iload_n 1, 1) (List.mem_of_getElem? (i := 9) rfl)
theorem d_Mod_firstOfGroup_18 : decode prog_13_method_23_code 18 = .ok (.ireturn, 1) := id_Mod_firstOfGroup_0 (18, .ireturn, 1) (List.mem_of_getElem? (i := 10) rfl)
theorem wC_Mod_firstOfGroup : Cond.code ⟨"WarpMillModel", "firstOfGroup", "()I"⟩ prog_13_method_23_code 2 (some .int) ∈ lw_tb := mem_tb 1346 (by decide +kernel) rfl
def b_Mod_firstOfGroup_2 (F : Nat) : Nat → Nat → Int32 → Hp → Option (Int32 × Hp)
  | 0 => fun _ _ _ => none
  | n + 1 => fun x0 x1 h => gd (hK h x0 = 12) <| rq h (hR h 754 x0) 101 fun a_3_2 => ix x1 (hN h a_3_2) fun j_7 => if (hA h a_3_2 j_7) = 0 then (b_Mod_firstOfGroup_2 F n x0 (x1 + 1) h) else (some (x1, h))
set_option maxRecDepth 100000 in
set_option maxHeartbeats 4000000 in
theorem e_Mod_firstOfGroup_2 {G : Gl} {h0 : Hp} {F : Nat} {r : Int32} {h' : Hp}   : ∀ (n : Nat) (x0 : Nat) (x1 : Int32) (h : Hp), b_Mod_firstOfGroup_2 F n x0 x1 h = some (r, h') → Go G mi_Mod_firstOfGroup h0 (pI r h') h 2 [(0, .ref x0), (1, .int x1)] [] := by
  intro n
  induction n with
  | zero =>
    intro _ _ _ hf
    exact nm_s hf
  | succ n ih =>
    intro x0 x1 h hf
    unfold b_Mod_firstOfGroup_2 at hf
    refine g_aload_n d_Mod_firstOfGroup_2 rfl ?_
    obtain ⟨k_3, hf⟩ := gd_s hf
    obtain ⟨a_3_2, e_3_2, k_3_2, hf⟩ := rq_s hf
    refine fgs_Mod_inGroup lf_Mod_108 d_Mod_firstOfGroup_3 k_3 e_3_2 ?_
    refine g_iload_n d_Mod_firstOfGroup_6 rfl ?_
    obtain ⟨i_7, hf⟩ := ix_s hf
    refine g_zald k_3_2 i_7 d_Mod_firstOfGroup_7 ?_
    refine g_if_ne 17 d_Mod_firstOfGroup_8 (by decide) (fun c_8 => ?_) (fun c_8 => ?_)
    · have hf := ifn hf c_8
      refine g_iload_n d_Mod_firstOfGroup_17 rfl ?_
      exact Go.ret (some _) (rOk_i _) rfl d_Mod_firstOfGroup_18 (pI_of hf)
    · have hf := ifp hf c_8
      refine g_iinc (_ + 1) d_Mod_firstOfGroup_11 rfl (by rfl) (by decide) ?_
      show Go _ _ _ _ _ _ [(0, _), (1, _)] _
      refine g_goto 2 d_Mod_firstOfGroup_14 (by decide) ?_
      exact ih _ _ _ hf
def f_Mod_firstOfGroup (F : Nat) (x0 : Nat) (h : Hp) : Option (Int32 × Hp) := b_Mod_firstOfGroup_2 F F x0 (0 : Int32) h
set_option maxRecDepth 100000 in
set_option maxHeartbeats 4000000 in
theorem e_Mod_firstOfGroup {G : Gl} {F : Nat} {r : Int32} {h' : Hp} {x0 : Nat} {h : Hp} (hf : f_Mod_firstOfGroup F x0 h = some (r, h')) : Ex G mi_Mod_firstOfGroup [.ref x0] h (pI r h') := by
  unfold f_Mod_firstOfGroup at hf
  refine Ex.of nmI (by decide) (Nat.le_of_ble_eq_true rfl) ?_
  show Go G mi_Mod_firstOfGroup h _ h 0 [(0, .ref x0)] []
  refine g_iconst 0 d_Mod_firstOfGroup_0 (by decide) ?_
  refine g_istore_n d_Mod_firstOfGroup_1 (by decide) ?_
  show Go _ _ _ _ _ _ [(0, _), (1, _)] _
  have key := e_Mod_firstOfGroup_2 (G := G) (h0 := h)  F _ _ _ hf
  exact key
abbrev mi_Mod_take : MI := (⟨"WarpMillModel", "take", "(J)V"⟩, prog_13_method_24_code, 3, none, 0, 0)
def it_Mod_take_0 : List (Nat × ClassFile.Instr × Nat) := [(0, .aload_n 0, 1), (1, .lload_n 1, 1), (2, .ldc2_w 218, 3), (5, .land, 1), (6, .l2i, 1), (7, .putfield 220, 3), (10, .aload_n 0, 1), (11, .lload_n 1, 1), (12, .bipush (8), 2), (14, .lshr, 1), (15, .ldc2_w 223, 3), (18, .land, 1), (19, .l2i, 1), (20, .putfield 225, 3), (23, .aload_n 0, 1), (24, .lload_n 1, 1), (25, .bipush (12), 2), (27, .lshr, 1), (28, .ldc2_w 223, 3), (31, .land, 1), (32, .l2i, 1), (33, .putfield 228, 3), (36, .aload_n 0, 1), (37, .lload_n 1, 1)]
theorem id_Mod_take_0 : ∀ q ∈ it_Mod_take_0, decode prog_13_method_24_code q.1 = .ok q.2 := by decide +kernel
theorem d_Mod_take_0 : decode prog_13_method_24_code 0 = .ok (.aload_n 0, 1) := id_Mod_take_0 (0, .aload_n 0, 1) (List.mem_of_getElem? (i := 0) rfl)
theorem d_Mod_take_1 : decode prog_13_method_24_code 1 = .ok (.lload_n 1, 1) := id_Mod_take_0 (1, .lload_n 1, 1) (List.mem_of_getElem? (i := 1) rfl)
theorem d_Mod_take_2 : decode prog_13_method_24_code 2 = .ok (.ldc2_w 218, 3) := id_Mod_take_0 (2, .ldc2_w 218, 3) (List.mem_of_getElem? (i := 2) rfl)
theorem d_Mod_take_5 : decode prog_13_method_24_code 5 = .ok (.land, 1) := id_Mod_take_0 (5, .land, 1) (List.mem_of_getElem? (i := 3) rfl)
theorem d_Mod_take_6 : decode prog_13_method_24_code 6 = .ok (.l2i, 1) := id_Mod_take_0 (6, .l2i, 1) (List.mem_of_getElem? (i := 4) rfl)
theorem d_Mod_take_7 : decode prog_13_method_24_code 7 = .ok (.putfield 220, 3) := id_Mod_take_0 (7, .putfield 220, 3) (List.mem_of_getElem? (i := 5) rfl)
theorem d_Mod_take_10 : decode prog_13_method_24_code 10 = .ok (.aload_n 0, 1) := id_Mod_take_0 (10, .aload_n 0, 1) (List.mem_of_getElem? (i := 6) rfl)
theorem d_Mod_take_11 : decode prog_13_method_24_code 11 = .ok (.lload_n 1, 1) := id_Mod_take_0 (11, .lload_n 1, 1) (List.mem_of_getElem? (i := 7) rfl)
theorem d_Mod_take_12 : decode prog_13_method_24_code 12 = .ok (.bipush (8), 2) := id_Mod_take_0 (12, .bipush (8), 2) (List.mem_of_getElem? (i := 8) rfl)
theorem d_Mod_take_14 : decode prog_13_method_24_code 14 = .ok (.lshr, 1) := id_Mod_take_0 (14, .lshr, 1) (List.mem_of_getElem? (i := 9) rfl)
theorem d_Mod_take_15 : decode prog_13_method_24_code 15 = .ok (.ldc2_w 223, 3) := id_Mod_take_0 (15, .ldc2_w 223, 3) (List.mem_of_getElem? (i := 10) rfl)
theorem d_Mod_take_18 : decode prog_13_method_24_code 18 = .ok (.land, 1) := id_Mod_take_0 (18, .land, 1) (List.mem_of_getElem? (i := 11) rfl)
theorem d_Mod_take_19 : decode prog_13_method_24_code 19 = .ok (.l2i, 1) := id_Mod_take_0 (19, .l2i, 1) (List.mem_of_getElem? (i := 12) rfl)
theorem d_Mod_take_20 : decode prog_13_method_24_code 20 = .ok (.putfield 225, 3) := id_Mod_take_0 (20, .putfield 225, 3) (List.mem_of_getElem? (i := 13) rfl)
theorem d_Mod_take_23 : decode prog_13_method_24_code 23 = .ok (.aload_n 0, 1) := id_Mod_take_0 (23, .aload_n 0, 1) (List.mem_of_getElem? (i := 14) rfl)
theorem d_Mod_take_24 : decode prog_13_method_24_code 24 = .ok (.lload_n 1, 1) := id_Mod_take_0 (24, .lload_n 1, 1) (List.mem_of_getElem? (i := 15) rfl)
theorem d_Mod_take_25 : decode prog_13_method_24_code 25 = .ok (.bipush (12), 2) := id_Mod_take_0 (25, .bipush (12), 2) (List.mem_of_getElem? (i := 16) rfl)
theorem d_Mod_take_27 : decode prog_13_method_24_code 27 = .ok (.lshr, 1) := id_Mod_take_0 (27, .lshr, 1) (List.mem_of_getElem? (i := 17) rfl)
theorem d_Mod_take_28 : decode prog_13_method_24_code 28 = .ok (.ldc2_w 223, 3) := id_Mod_take_0 (28, .ldc2_w 223, 3) (List.mem_of_getElem? (i := 18) rfl)
theorem d_Mod_take_31 : decode prog_13_method_24_code 31 = .ok (.land, 1) := id_Mod_take_0 (31, .land, 1) (List.mem_of_getElem? (i := 19) rfl)
theorem d_Mod_take_32 : decode prog_13_method_24_code 32 = .ok (.l2i, 1) := id_Mod_take_0 (32, .l2i, 1) (List.mem_of_getElem? (i := 20) rfl)
theorem d_Mod_take_33 : decode prog_13_method_24_code 33 = .ok (.putfield 228, 3) := id_Mod_take_0 (33, .putfield 228, 3) (List.mem_of_getElem? (i := 21) rfl)
theorem d_Mod_take_36 : decode prog_13_method_24_code 36 = .ok (.aload_n 0, 1) := id_Mod_take_0 (36, .aload_n 0, 1) (List.mem_of_getElem? (i := 22) rfl)
theorem d_Mod_take_37 : decode prog_13_method_24_code 37 = .ok (.lload_n 1, 1) := id_Mod_take_0 (37, .lload_n 1, 1) (List.mem_of_getElem? (i := 23) rfl)
def it_Mod_take_1 : List (Nat × ClassFile.Instr × Nat) := [(38, .bipush (16), 2), (40, .lshr, 1), (41, .ldc2_w 223, 3), (44, .land, 1), (45, .l2i, 1), (46, .putfield 231, 3), (49, .aload_n 0, 1), (50, .lload_n 1, 1), (51, .bipush (20), 2), (53, .lshr, 1), (54, .ldc2_w 223, 3), (57, .land, 1), (58, .l2i, 1), (59, .putfield 234, 3), (62, .aload_n 0, 1), (63, .lload_n 1, 1), (64, .bipush (32), 2), (66, .lshr, 1), (67, .l2i, 1), (68, .putfield 237, 3), (71, .return_, 1)]
theorem id_Mod_take_1 : ∀ q ∈ it_Mod_take_1, decode prog_13_method_24_code q.1 = .ok q.2 := by decide +kernel
theorem d_Mod_take_38 : decode prog_13_method_24_code 38 = .ok (.bipush (16), 2) := id_Mod_take_1 (38, .bipush (16), 2) (List.mem_of_getElem? (i := 0) rfl)
theorem d_Mod_take_40 : decode prog_13_method_24_code 40 = .ok (.lshr, 1) := id_Mod_take_1 (40, .lshr, 1) (List.mem_of_getElem? (i := 1) rfl)
theorem d_Mod_take_41 : decode prog_13_method_24_code 41 = .ok (.ldc2_w 223, 3) := id_Mod_take_1 (41, .ldc2_w 223, 3) (List.mem_of_getElem? (i := 2) rfl)
theorem d_Mod_take_44 : decode prog_13_method_24_code 44 = .ok (.land, 1) := id_Mod_take_1 (44, .land, 1) (List.mem_of_getElem? (i := 3) rfl)
theorem d_Mod_take_45 : decode prog_13_method_24_code 45 = .ok (.l2i, 1) := id_Mod_take_1 (45, .l2i, 1) (List.mem_of_getElem? (i := 4) rfl)
theorem d_Mod_take_46 : decode prog_13_method_24_code 46 = .ok (.putfield 231, 3) := id_Mod_take_1 (46, .putfield 231, 3) (List.mem_of_getElem? (i := 5) rfl)
theorem d_Mod_take_49 : decode prog_13_method_24_code 49 = .ok (.aload_n 0, 1) := id_Mod_take_1 (49, .aload_n 0, 1) (List.mem_of_getElem? (i := 6) rfl)
theorem d_Mod_take_50 : decode prog_13_method_24_code 50 = .ok (.lload_n 1, 1) := id_Mod_take_1 (50, .lload_n 1, 1) (List.mem_of_getElem? (i := 7) rfl)
theorem d_Mod_take_51 : decode prog_13_method_24_code 51 = .ok (.bipush (20), 2) := id_Mod_take_1 (51, .bipush (20), 2) (List.mem_of_getElem? (i := 8) rfl)
theorem d_Mod_take_53 : decode prog_13_method_24_code 53 = .ok (.lshr, 1) := id_Mod_take_1 (53, .lshr, 1) (List.mem_of_getElem? (i := 9) rfl)
theorem d_Mod_take_54 : decode prog_13_method_24_code 54 = .ok (.ldc2_w 223, 3) := id_Mod_take_1 (54, .ldc2_w 223, 3) (List.mem_of_getElem? (i := 10) rfl)
theorem d_Mod_take_57 : decode prog_13_method_24_code 57 = .ok (.land, 1) := id_Mod_take_1 (57, .land, 1) (List.mem_of_getElem? (i := 11) rfl)
theorem d_Mod_take_58 : decode prog_13_method_24_code 58 = .ok (.l2i, 1) := id_Mod_take_1 (58, .l2i, 1) (List.mem_of_getElem? (i := 12) rfl)
theorem d_Mod_take_59 : decode prog_13_method_24_code 59 = .ok (.putfield 234, 3) := id_Mod_take_1 (59, .putfield 234, 3) (List.mem_of_getElem? (i := 13) rfl)
theorem d_Mod_take_62 : decode prog_13_method_24_code 62 = .ok (.aload_n 0, 1) := id_Mod_take_1 (62, .aload_n 0, 1) (List.mem_of_getElem? (i := 14) rfl)
theorem d_Mod_take_63 : decode prog_13_method_24_code 63 = .ok (.lload_n 1, 1) := id_Mod_take_1 (63, .lload_n 1, 1) (List.mem_of_getElem? (i := 15) rfl)
theorem d_Mod_take_64 : decode prog_13_method_24_code 64 = .ok (.bipush (32), 2) := id_Mod_take_1 (64, .bipush (32), 2) (List.mem_of_getElem? (i := 16) rfl)
theorem d_Mod_take_66 : decode prog_13_method_24_code 66 = .ok (.lshr, 1) := id_Mod_take_1 (66, .lshr, 1) (List.mem_of_getElem? (i := 17) rfl)
theorem d_Mod_take_67 : decode prog_13_method_24_code 67 = .ok (.l2i, 1) := id_Mod_take_1 (67, .l2i, 1) (List.mem_of_getElem? (i := 18) rfl)
theorem d_Mod_take_68 : decode prog_13_method_24_code 68 = .ok (.putfield 237, 3) := id_Mod_take_1 (68, .putfield 237, 3) (List.mem_of_getElem? (i := 19) rfl)
theorem d_Mod_take_71 : decode prog_13_method_24_code 71 = .ok (.return_, 1) := id_Mod_take_1 (71, .return_, 1) (List.mem_of_getElem? (i := 20) rfl)
theorem wC_Mod_take : Cond.code ⟨"WarpMillModel", "take", "(J)V"⟩ prog_13_method_24_code 3 (none) ∈ lw_tb := mem_tb 1350 (by decide +kernel) rfl
def f_Mod_take (F : Nat) (x0 : Nat) (x1 : Int64) (h : Hp) : Option Hp := gd (hK h x0 = 12) <| pw (sI h 756 x0 (Int64.toInt32 (x1 &&& (255 : Int64)))) fun h_7_2 => pw (sI h_7_2 757 x0 (Int64.toInt32 ((x1 >>> (Int32.toInt64 (8 : Int32) &&& 63)) &&& (15 : Int64)))) fun h_20 => pw (sI h_20 758 x0 (Int64.toInt32 ((x1 >>> (Int32.toInt64 (12 : Int32) &&& 63)) &&& (15 : Int64)))) fun h_33 => pw (sI h_33 759 x0 (Int64.toInt32 ((x1 >>> (Int32.toInt64 (16 : Int32) &&& 63)) &&& (15 : Int64)))) fun h_46 => pw (sI h_46 760 x0 (Int64.toInt32 ((x1 >>> (Int32.toInt64 (20 : Int32) &&& 63)) &&& (15 : Int64)))) fun h_59 => pw (sI h_59 761 x0 (Int64.toInt32 (x1 >>> (Int32.toInt64 (32 : Int32) &&& 63)))) fun h_68 => some h_68
set_option maxRecDepth 100000 in
set_option maxHeartbeats 4000000 in
theorem e_Mod_take {G : Gl} (hw : gF G) {F : Nat} {h' : Hp} {x0 : Nat} {x1 : Int64} {h : Hp} (hf : f_Mod_take F x0 x1 h = some h') : Ex G mi_Mod_take [.ref x0, .long x1] h (pV h') := by
  unfold f_Mod_take at hf
  refine Ex.of nmV (by decide) (Nat.le_of_ble_eq_true rfl) ?_
  show Go G mi_Mod_take h _ h 0 [(0, .ref x0), (1, .long x1)] []
  refine g_aload_n d_Mod_take_0 rfl ?_
  refine g_lload_n d_Mod_take_1 rfl ?_
  refine g_ldc2 lk_Mod_218 d_Mod_take_2 ?_
  refine g_land d_Mod_take_5 ?_
  refine g_l2i d_Mod_take_6 ?_
  obtain ⟨k_7, hf⟩ := gd_s hf
  refine fp_Mod_op hw lf_Mod_220 d_Mod_take_7 k_7 ?_
  have hf := pw_b hf
  refine g_aload_n d_Mod_take_10 rfl ?_
  refine g_lload_n d_Mod_take_11 rfl ?_
  refine g_bipush (8) d_Mod_take_12 (by decide) ?_
  refine g_lshr d_Mod_take_14 ?_
  refine g_ldc2 lk_Mod_223 d_Mod_take_15 ?_
  refine g_land d_Mod_take_18 ?_
  refine g_l2i d_Mod_take_19 ?_
  refine fp_Mod_d hw lf_Mod_225 d_Mod_take_20 (kksI k_7) ?_
  have hf := pw_b hf
  refine g_aload_n d_Mod_take_23 rfl ?_
  refine g_lload_n d_Mod_take_24 rfl ?_
  refine g_bipush (12) d_Mod_take_25 (by decide) ?_
  refine g_lshr d_Mod_take_27 ?_
  refine g_ldc2 lk_Mod_223 d_Mod_take_28 ?_
  refine g_land d_Mod_take_31 ?_
  refine g_l2i d_Mod_take_32 ?_
  refine fp_Mod_a hw lf_Mod_228 d_Mod_take_33 (kksI (kksI k_7)) ?_
  have hf := pw_b hf
  refine g_aload_n d_Mod_take_36 rfl ?_
  refine g_lload_n d_Mod_take_37 rfl ?_
  refine g_bipush (16) d_Mod_take_38 (by decide) ?_
  refine g_lshr d_Mod_take_40 ?_
  refine g_ldc2 lk_Mod_223 d_Mod_take_41 ?_
  refine g_land d_Mod_take_44 ?_
  refine g_l2i d_Mod_take_45 ?_
  refine fp_Mod_b hw lf_Mod_231 d_Mod_take_46 (kksI (kksI (kksI k_7))) ?_
  have hf := pw_b hf
  refine g_aload_n d_Mod_take_49 rfl ?_
  refine g_lload_n d_Mod_take_50 rfl ?_
  refine g_bipush (20) d_Mod_take_51 (by decide) ?_
  refine g_lshr d_Mod_take_53 ?_
  refine g_ldc2 lk_Mod_223 d_Mod_take_54 ?_
  refine g_land d_Mod_take_57 ?_
  refine g_l2i d_Mod_take_58 ?_
  refine fp_Mod_g hw lf_Mod_234 d_Mod_take_59 (kksI (kksI (kksI (kksI k_7)))) ?_
  have hf := pw_b hf
  refine g_aload_n d_Mod_take_62 rfl ?_
  refine g_lload_n d_Mod_take_63 rfl ?_
  refine g_bipush (32) d_Mod_take_64 (by decide) ?_
  refine g_lshr d_Mod_take_66 ?_
  refine g_l2i d_Mod_take_67 ?_
  refine fp_Mod_n hw lf_Mod_237 d_Mod_take_68 (kksI (kksI (kksI (kksI (kksI k_7))))) ?_
  have hf := pw_b hf
  exact Go.ret none trivial rfl d_Mod_take_71 (pV_of hf)
abbrev mi_Mod_isWord : MI := (⟨"WarpMillModel", "isWord", "()Z"⟩, prog_13_method_25_code, 1, some .boolean, 0, 0)
def it_Mod_isWord_0 : List (Nat × ClassFile.Instr × Nat) := [(0, .aload_n 0, 1), (1, .getfield 220, 3), (4, .bipush (21), 2), (6, .if_icmp .gt (27), 3), (9, .aload_n 0, 1), (10, .getfield 220, 3), (13, .iconst 3, 1), (14, .if_icmp .ne (91), 3), (17, .aload_n 0, 1), (18, .getfield 237, 3), (21, .ifCond .lt (12), 3), (24, .aload_n 0, 1), (25, .getfield 237, 3), (28, .bipush (6), 2), (30, .if_icmp .le (75), 3), (33, .aload_n 0, 1), (34, .getfield 220, 3), (37, .bipush (30), 2), (39, .if_icmp .lt (12), 3), (42, .aload_n 0, 1), (43, .getfield 220, 3), (46, .bipush (36), 2), (48, .if_icmp .le (57), 3), (51, .aload_n 0, 1)]
theorem id_Mod_isWord_0 : ∀ q ∈ it_Mod_isWord_0, decode prog_13_method_25_code q.1 = .ok q.2 := by decide +kernel
theorem d_Mod_isWord_0 : decode prog_13_method_25_code 0 = .ok (.aload_n 0, 1) := id_Mod_isWord_0 (0, .aload_n 0, 1) (List.mem_of_getElem? (i := 0) rfl)
theorem d_Mod_isWord_1 : decode prog_13_method_25_code 1 = .ok (.getfield 220, 3) := id_Mod_isWord_0 (1, .getfield 220, 3) (List.mem_of_getElem? (i := 1) rfl)
theorem d_Mod_isWord_4 : decode prog_13_method_25_code 4 = .ok (.bipush (21), 2) := id_Mod_isWord_0 (4, .bipush (21), 2) (List.mem_of_getElem? (i := 2) rfl)
theorem d_Mod_isWord_6 : decode prog_13_method_25_code 6 = .ok (.if_icmp .gt (27), 3) := id_Mod_isWord_0 (6, .if_icmp .gt (27), 3) (List.mem_of_getElem? (i := 3) rfl)
theorem d_Mod_isWord_9 : decode prog_13_method_25_code 9 = .ok (.aload_n 0, 1) := id_Mod_isWord_0 (9, .aload_n 0, 1) (List.mem_of_getElem? (i := 4) rfl)
theorem d_Mod_isWord_10 : decode prog_13_method_25_code 10 = .ok (.getfield 220, 3) := id_Mod_isWord_0 (10, .getfield 220, 3) (List.mem_of_getElem? (i := 5) rfl)
theorem d_Mod_isWord_13 : decode prog_13_method_25_code 13 = .ok (.iconst 3, 1) := id_Mod_isWord_0 (13, .iconst 3, 1) (List.mem_of_getElem? (i := 6) rfl)
theorem d_Mod_isWord_14 : decode prog_13_method_25_code 14 = .ok (.if_icmp .ne (91), 3) := id_Mod_isWord_0 (14, .if_icmp .ne (91), 3) (List.mem_of_getElem? (i := 7) rfl)
theorem d_Mod_isWord_17 : decode prog_13_method_25_code 17 = .ok (.aload_n 0, 1) := id_Mod_isWord_0 (17, .aload_n 0, 1) (List.mem_of_getElem? (i := 8) rfl)
theorem d_Mod_isWord_18 : decode prog_13_method_25_code 18 = .ok (.getfield 237, 3) := id_Mod_isWord_0 (18, .getfield 237, 3) (List.mem_of_getElem? (i := 9) rfl)
theorem d_Mod_isWord_21 : decode prog_13_method_25_code 21 = .ok (.ifCond .lt (12), 3) := id_Mod_isWord_0 (21, .ifCond .lt (12), 3) (List.mem_of_getElem? (i := 10) rfl)
theorem d_Mod_isWord_24 : decode prog_13_method_25_code 24 = .ok (.aload_n 0, 1) := id_Mod_isWord_0 (24, .aload_n 0, 1) (List.mem_of_getElem? (i := 11) rfl)
theorem d_Mod_isWord_25 : decode prog_13_method_25_code 25 = .ok (.getfield 237, 3) := id_Mod_isWord_0 (25, .getfield 237, 3) (List.mem_of_getElem? (i := 12) rfl)
theorem d_Mod_isWord_28 : decode prog_13_method_25_code 28 = .ok (.bipush (6), 2) := id_Mod_isWord_0 (28, .bipush (6), 2) (List.mem_of_getElem? (i := 13) rfl)
theorem d_Mod_isWord_30 : decode prog_13_method_25_code 30 = .ok (.if_icmp .le (75), 3) := id_Mod_isWord_0 (30, .if_icmp .le (75), 3) (List.mem_of_getElem? (i := 14) rfl)
theorem d_Mod_isWord_33 : decode prog_13_method_25_code 33 = .ok (.aload_n 0, 1) := id_Mod_isWord_0 (33, .aload_n 0, 1) (List.mem_of_getElem? (i := 15) rfl)
theorem d_Mod_isWord_34 : decode prog_13_method_25_code 34 = .ok (.getfield 220, 3) := id_Mod_isWord_0 (34, .getfield 220, 3) (List.mem_of_getElem? (i := 16) rfl)
theorem d_Mod_isWord_37 : decode prog_13_method_25_code 37 = .ok (.bipush (30), 2) := id_Mod_isWord_0 (37, .bipush (30), 2) (List.mem_of_getElem? (i := 17) rfl)
theorem d_Mod_isWord_39 : decode prog_13_method_25_code 39 = .ok (.if_icmp .lt (12), 3) := id_Mod_isWord_0 (39, .if_icmp .lt (12), 3) (List.mem_of_getElem? (i := 18) rfl)
theorem d_Mod_isWord_42 : decode prog_13_method_25_code 42 = .ok (.aload_n 0, 1) := id_Mod_isWord_0 (42, .aload_n 0, 1) (List.mem_of_getElem? (i := 19) rfl)
theorem d_Mod_isWord_43 : decode prog_13_method_25_code 43 = .ok (.getfield 220, 3) := id_Mod_isWord_0 (43, .getfield 220, 3) (List.mem_of_getElem? (i := 20) rfl)
theorem d_Mod_isWord_46 : decode prog_13_method_25_code 46 = .ok (.bipush (36), 2) := id_Mod_isWord_0 (46, .bipush (36), 2) (List.mem_of_getElem? (i := 21) rfl)
theorem d_Mod_isWord_48 : decode prog_13_method_25_code 48 = .ok (.if_icmp .le (57), 3) := id_Mod_isWord_0 (48, .if_icmp .le (57), 3) (List.mem_of_getElem? (i := 22) rfl)
theorem d_Mod_isWord_51 : decode prog_13_method_25_code 51 = .ok (.aload_n 0, 1) := id_Mod_isWord_0 (51, .aload_n 0, 1) (List.mem_of_getElem? (i := 23) rfl)
def it_Mod_isWord_1 : List (Nat × ClassFile.Instr × Nat) := [(52, .getfield 220, 3), (55, .bipush (40), 2), (57, .if_icmp .lt (12), 3), (60, .aload_n 0, 1), (61, .getfield 220, 3), (64, .bipush (42), 2), (66, .if_icmp .le (39), 3), (69, .aload_n 0, 1), (70, .getfield 220, 3), (73, .bipush (50), 2), (75, .if_icmp .lt (12), 3), (78, .aload_n 0, 1), (79, .getfield 220, 3), (82, .bipush (59), 2), (84, .if_icmp .le (21), 3), (87, .aload_n 0, 1), (88, .getfield 220, 3), (91, .bipush (70), 2), (93, .if_icmp .lt (16), 3), (96, .aload_n 0, 1), (97, .getfield 220, 3), (100, .bipush (73), 2), (102, .if_icmp .gt (7), 3), (105, .iconst 1, 1)]
theorem id_Mod_isWord_1 : ∀ q ∈ it_Mod_isWord_1, decode prog_13_method_25_code q.1 = .ok q.2 := by decide +kernel
theorem d_Mod_isWord_52 : decode prog_13_method_25_code 52 = .ok (.getfield 220, 3) := id_Mod_isWord_1 (52, .getfield 220, 3) (List.mem_of_getElem? (i := 0) rfl)
theorem d_Mod_isWord_55 : decode prog_13_method_25_code 55 = .ok (.bipush (40), 2) := id_Mod_isWord_1 (55, .bipush (40), 2) (List.mem_of_getElem? (i := 1) rfl)
theorem d_Mod_isWord_57 : decode prog_13_method_25_code 57 = .ok (.if_icmp .lt (12), 3) := id_Mod_isWord_1 (57, .if_icmp .lt (12), 3) (List.mem_of_getElem? (i := 2) rfl)
theorem d_Mod_isWord_60 : decode prog_13_method_25_code 60 = .ok (.aload_n 0, 1) := id_Mod_isWord_1 (60, .aload_n 0, 1) (List.mem_of_getElem? (i := 3) rfl)
theorem d_Mod_isWord_61 : decode prog_13_method_25_code 61 = .ok (.getfield 220, 3) := id_Mod_isWord_1 (61, .getfield 220, 3) (List.mem_of_getElem? (i := 4) rfl)
theorem d_Mod_isWord_64 : decode prog_13_method_25_code 64 = .ok (.bipush (42), 2) := id_Mod_isWord_1 (64, .bipush (42), 2) (List.mem_of_getElem? (i := 5) rfl)
theorem d_Mod_isWord_66 : decode prog_13_method_25_code 66 = .ok (.if_icmp .le (39), 3) := id_Mod_isWord_1 (66, .if_icmp .le (39), 3) (List.mem_of_getElem? (i := 6) rfl)
theorem d_Mod_isWord_69 : decode prog_13_method_25_code 69 = .ok (.aload_n 0, 1) := id_Mod_isWord_1 (69, .aload_n 0, 1) (List.mem_of_getElem? (i := 7) rfl)
theorem d_Mod_isWord_70 : decode prog_13_method_25_code 70 = .ok (.getfield 220, 3) := id_Mod_isWord_1 (70, .getfield 220, 3) (List.mem_of_getElem? (i := 8) rfl)
theorem d_Mod_isWord_73 : decode prog_13_method_25_code 73 = .ok (.bipush (50), 2) := id_Mod_isWord_1 (73, .bipush (50), 2) (List.mem_of_getElem? (i := 9) rfl)
theorem d_Mod_isWord_75 : decode prog_13_method_25_code 75 = .ok (.if_icmp .lt (12), 3) := id_Mod_isWord_1 (75, .if_icmp .lt (12), 3) (List.mem_of_getElem? (i := 10) rfl)
theorem d_Mod_isWord_78 : decode prog_13_method_25_code 78 = .ok (.aload_n 0, 1) := id_Mod_isWord_1 (78, .aload_n 0, 1) (List.mem_of_getElem? (i := 11) rfl)
theorem d_Mod_isWord_79 : decode prog_13_method_25_code 79 = .ok (.getfield 220, 3) := id_Mod_isWord_1 (79, .getfield 220, 3) (List.mem_of_getElem? (i := 12) rfl)
theorem d_Mod_isWord_82 : decode prog_13_method_25_code 82 = .ok (.bipush (59), 2) := id_Mod_isWord_1 (82, .bipush (59), 2) (List.mem_of_getElem? (i := 13) rfl)
theorem d_Mod_isWord_84 : decode prog_13_method_25_code 84 = .ok (.if_icmp .le (21), 3) := id_Mod_isWord_1 (84, .if_icmp .le (21), 3) (List.mem_of_getElem? (i := 14) rfl)
theorem d_Mod_isWord_87 : decode prog_13_method_25_code 87 = .ok (.aload_n 0, 1) := id_Mod_isWord_1 (87, .aload_n 0, 1) (List.mem_of_getElem? (i := 15) rfl)
theorem d_Mod_isWord_88 : decode prog_13_method_25_code 88 = .ok (.getfield 220, 3) := id_Mod_isWord_1 (88, .getfield 220, 3) (List.mem_of_getElem? (i := 16) rfl)
theorem d_Mod_isWord_91 : decode prog_13_method_25_code 91 = .ok (.bipush (70), 2) := id_Mod_isWord_1 (91, .bipush (70), 2) (List.mem_of_getElem? (i := 17) rfl)
theorem d_Mod_isWord_93 : decode prog_13_method_25_code 93 = .ok (.if_icmp .lt (16), 3) := id_Mod_isWord_1 (93, .if_icmp .lt (16), 3) (List.mem_of_getElem? (i := 18) rfl)
theorem d_Mod_isWord_96 : decode prog_13_method_25_code 96 = .ok (.aload_n 0, 1) := id_Mod_isWord_1 (96, .aload_n 0, 1) (List.mem_of_getElem? (i := 19) rfl)
theorem d_Mod_isWord_97 : decode prog_13_method_25_code 97 = .ok (.getfield 220, 3) := id_Mod_isWord_1 (97, .getfield 220, 3) (List.mem_of_getElem? (i := 20) rfl)
theorem d_Mod_isWord_100 : decode prog_13_method_25_code 100 = .ok (.bipush (73), 2) := id_Mod_isWord_1 (100, .bipush (73), 2) (List.mem_of_getElem? (i := 21) rfl)
theorem d_Mod_isWord_102 : decode prog_13_method_25_code 102 = .ok (.if_icmp .gt (7), 3) := id_Mod_isWord_1 (102, .if_icmp .gt (7), 3) (List.mem_of_getElem? (i := 22) rfl)
theorem d_Mod_isWord_105 : decode prog_13_method_25_code 105 = .ok (.iconst 1, 1) := id_Mod_isWord_1 (105, .iconst 1, 1) (List.mem_of_getElem? (i := 23) rfl)
def it_Mod_isWord_2 : List (Nat × ClassFile.Instr × Nat) := [(106, .goto (4), 3), (109, .iconst 0, 1), (110, .ireturn, 1)]
theorem id_Mod_isWord_2 : ∀ q ∈ it_Mod_isWord_2, decode prog_13_method_25_code q.1 = .ok q.2 := by decide +kernel
theorem d_Mod_isWord_106 : decode prog_13_method_25_code 106 = .ok (.goto (4), 3) := id_Mod_isWord_2 (106, .goto (4), 3) (List.mem_of_getElem? (i := 0) rfl)
theorem d_Mod_isWord_109 : decode prog_13_method_25_code 109 = .ok (.iconst 0, 1) := id_Mod_isWord_2 (109, .iconst 0, 1) (List.mem_of_getElem? (i := 1) rfl)
theorem d_Mod_isWord_110 : decode prog_13_method_25_code 110 = .ok (.ireturn, 1) := id_Mod_isWord_2 (110, .ireturn, 1) (List.mem_of_getElem? (i := 2) rfl)
theorem wC_Mod_isWord : Cond.code ⟨"WarpMillModel", "isWord", "()Z"⟩ prog_13_method_25_code 1 (some .boolean) ∈ lw_tb := mem_tb 1356 (by decide +kernel) rfl
def b_Mod_isWord_105 (F : Nat)  (h : Hp) : Option (Int32 × Hp) := some ((1 : Int32), h)
set_option maxRecDepth 100000 in
set_option maxHeartbeats 4000000 in
theorem e_Mod_isWord_105 {G : Gl} {h0 : Hp} {F : Nat} {r : Int32} {h' : Hp}    {h : Hp} (hf : b_Mod_isWord_105 F  h = some (r, h')) : Go G mi_Mod_isWord h0 (pI r h') h 105 [] [] := by
  unfold b_Mod_isWord_105 at hf
  refine g_iconst 1 d_Mod_isWord_105 (by decide) ?_
  refine g_goto 110 d_Mod_isWord_106 (by decide) ?_
  exact Go.ret (some _) rOk_b1 rfl d_Mod_isWord_110 (pI_of hf)
def b_Mod_isWord_87 (F : Nat) (x0 : Nat) (h : Hp) : Option (Int32 × Hp) := gd (hK h x0 = 12) <| if (hI h 756 x0) < (70 : Int32) then (some ((0 : Int32), h)) else (if (73 : Int32) < (hI h 756 x0) then (some ((0 : Int32), h)) else (b_Mod_isWord_105 F h))
set_option maxRecDepth 100000 in
set_option maxHeartbeats 4000000 in
theorem e_Mod_isWord_87 {G : Gl} {h0 : Hp} {F : Nat} {r : Int32} {h' : Hp}   {x0 : Nat} {h : Hp} (hf : b_Mod_isWord_87 F x0 h = some (r, h')) : Go G mi_Mod_isWord h0 (pI r h') h 87 [(0, .ref x0)] [] := by
  unfold b_Mod_isWord_87 at hf
  refine g_aload_n d_Mod_isWord_87 rfl ?_
  obtain ⟨k_88, hf⟩ := gd_s hf
  refine fg_Mod_op lf_Mod_220 d_Mod_isWord_88 k_88 ?_
  refine g_bipush (70) d_Mod_isWord_91 (by decide) ?_
  refine g_icmp_lt 109 d_Mod_isWord_93 (by decide) (fun c_93 => ?_) (fun c_93 => ?_)
  · have hf := ifp hf c_93
    refine g_iconst 0 d_Mod_isWord_109 (by decide) ?_
    exact Go.ret (some _) rOk_b0 rfl d_Mod_isWord_110 (pI_of hf)
  · have hf := ifn hf c_93
    refine g_aload_n d_Mod_isWord_96 rfl ?_
    refine fg_Mod_op lf_Mod_220 d_Mod_isWord_97 k_88 ?_
    refine g_bipush (73) d_Mod_isWord_100 (by decide) ?_
    refine g_icmp_gt 109 d_Mod_isWord_102 (by decide) (fun c_102 => ?_) (fun c_102 => ?_)
    · have hf := ifp hf c_102
      refine g_iconst 0 d_Mod_isWord_109 (by decide) ?_
      exact Go.ret (some _) rOk_b0 rfl d_Mod_isWord_110 (pI_of hf)
    · have hf := ifn hf c_102
      refine Go.locals [] rfl ?_
      have key := e_Mod_isWord_105 (G := G) (h0 := h0)  hf
      exact key
def b_Mod_isWord_69 (F : Nat) (x0 : Nat) (h : Hp) : Option (Int32 × Hp) := gd (hK h x0 = 12) <| if (hI h 756 x0) < (50 : Int32) then (b_Mod_isWord_87 F x0 h) else (if (hI h 756 x0) ≤ (59 : Int32) then (b_Mod_isWord_105 F h) else (b_Mod_isWord_87 F x0 h))
set_option maxRecDepth 100000 in
set_option maxHeartbeats 4000000 in
theorem e_Mod_isWord_69 {G : Gl} {h0 : Hp} {F : Nat} {r : Int32} {h' : Hp}   {x0 : Nat} {h : Hp} (hf : b_Mod_isWord_69 F x0 h = some (r, h')) : Go G mi_Mod_isWord h0 (pI r h') h 69 [(0, .ref x0)] [] := by
  unfold b_Mod_isWord_69 at hf
  refine g_aload_n d_Mod_isWord_69 rfl ?_
  obtain ⟨k_70, hf⟩ := gd_s hf
  refine fg_Mod_op lf_Mod_220 d_Mod_isWord_70 k_70 ?_
  refine g_bipush (50) d_Mod_isWord_73 (by decide) ?_
  refine g_icmp_lt 87 d_Mod_isWord_75 (by decide) (fun c_75 => ?_) (fun c_75 => ?_)
  · have hf := ifp hf c_75
    have key := e_Mod_isWord_87 (G := G) (h0 := h0)  hf
    exact key
  · have hf := ifn hf c_75
    refine g_aload_n d_Mod_isWord_78 rfl ?_
    refine fg_Mod_op lf_Mod_220 d_Mod_isWord_79 k_70 ?_
    refine g_bipush (59) d_Mod_isWord_82 (by decide) ?_
    refine g_icmp_le 105 d_Mod_isWord_84 (by decide) (fun c_84 => ?_) (fun c_84 => ?_)
    · have hf := ifp hf c_84
      refine Go.locals [] rfl ?_
      have key := e_Mod_isWord_105 (G := G) (h0 := h0)  hf
      exact key
    · have hf := ifn hf c_84
      have key := e_Mod_isWord_87 (G := G) (h0 := h0)  hf
      exact key
def b_Mod_isWord_51 (F : Nat) (x0 : Nat) (h : Hp) : Option (Int32 × Hp) := gd (hK h x0 = 12) <| if (hI h 756 x0) < (40 : Int32) then (b_Mod_isWord_69 F x0 h) else (if (hI h 756 x0) ≤ (42 : Int32) then (b_Mod_isWord_105 F h) else (b_Mod_isWord_69 F x0 h))
set_option maxRecDepth 100000 in
set_option maxHeartbeats 4000000 in
theorem e_Mod_isWord_51 {G : Gl} {h0 : Hp} {F : Nat} {r : Int32} {h' : Hp}   {x0 : Nat} {h : Hp} (hf : b_Mod_isWord_51 F x0 h = some (r, h')) : Go G mi_Mod_isWord h0 (pI r h') h 51 [(0, .ref x0)] [] := by
  unfold b_Mod_isWord_51 at hf
  refine g_aload_n d_Mod_isWord_51 rfl ?_
  obtain ⟨k_52, hf⟩ := gd_s hf
  refine fg_Mod_op lf_Mod_220 d_Mod_isWord_52 k_52 ?_
  refine g_bipush (40) d_Mod_isWord_55 (by decide) ?_
  refine g_icmp_lt 69 d_Mod_isWord_57 (by decide) (fun c_57 => ?_) (fun c_57 => ?_)
  · have hf := ifp hf c_57
    have key := e_Mod_isWord_69 (G := G) (h0 := h0)  hf
    exact key
  · have hf := ifn hf c_57
    refine g_aload_n d_Mod_isWord_60 rfl ?_
    refine fg_Mod_op lf_Mod_220 d_Mod_isWord_61 k_52 ?_
    refine g_bipush (42) d_Mod_isWord_64 (by decide) ?_
    refine g_icmp_le 105 d_Mod_isWord_66 (by decide) (fun c_66 => ?_) (fun c_66 => ?_)
    · have hf := ifp hf c_66
      refine Go.locals [] rfl ?_
      have key := e_Mod_isWord_105 (G := G) (h0 := h0)  hf
      exact key
    · have hf := ifn hf c_66
      have key := e_Mod_isWord_69 (G := G) (h0 := h0)  hf
      exact key
def b_Mod_isWord_33 (F : Nat) (x0 : Nat) (h : Hp) : Option (Int32 × Hp) := gd (hK h x0 = 12) <| if (hI h 756 x0) < (30 : Int32) then (b_Mod_isWord_51 F x0 h) else (if (hI h 756 x0) ≤ (36 : Int32) then (b_Mod_isWord_105 F h) else (b_Mod_isWord_51 F x0 h))
set_option maxRecDepth 100000 in
set_option maxHeartbeats 4000000 in
theorem e_Mod_isWord_33 {G : Gl} {h0 : Hp} {F : Nat} {r : Int32} {h' : Hp}   {x0 : Nat} {h : Hp} (hf : b_Mod_isWord_33 F x0 h = some (r, h')) : Go G mi_Mod_isWord h0 (pI r h') h 33 [(0, .ref x0)] [] := by
  unfold b_Mod_isWord_33 at hf
  refine g_aload_n d_Mod_isWord_33 rfl ?_
  obtain ⟨k_34, hf⟩ := gd_s hf
  refine fg_Mod_op lf_Mod_220 d_Mod_isWord_34 k_34 ?_
  refine g_bipush (30) d_Mod_isWord_37 (by decide) ?_
  refine g_icmp_lt 51 d_Mod_isWord_39 (by decide) (fun c_39 => ?_) (fun c_39 => ?_)
  · have hf := ifp hf c_39
    have key := e_Mod_isWord_51 (G := G) (h0 := h0)  hf
    exact key
  · have hf := ifn hf c_39
    refine g_aload_n d_Mod_isWord_42 rfl ?_
    refine fg_Mod_op lf_Mod_220 d_Mod_isWord_43 k_34 ?_
    refine g_bipush (36) d_Mod_isWord_46 (by decide) ?_
    refine g_icmp_le 105 d_Mod_isWord_48 (by decide) (fun c_48 => ?_) (fun c_48 => ?_)
    · have hf := ifp hf c_48
      refine Go.locals [] rfl ?_
      have key := e_Mod_isWord_105 (G := G) (h0 := h0)  hf
      exact key
    · have hf := ifn hf c_48
      have key := e_Mod_isWord_51 (G := G) (h0 := h0)  hf
      exact key
def f_Mod_isWord (F : Nat) (x0 : Nat) (h : Hp) : Option (Int32 × Hp) := gd (hK h x0 = 12) <| if (21 : Int32) < (hI h 756 x0) then (b_Mod_isWord_33 F x0 h) else (if (hI h 756 x0) = (3 : Int32) then (if (hI h 761 x0) < 0 then (b_Mod_isWord_33 F x0 h) else (if (hI h 761 x0) ≤ (6 : Int32) then (b_Mod_isWord_105 F h) else (b_Mod_isWord_33 F x0 h))) else (b_Mod_isWord_105 F h))
set_option maxRecDepth 100000 in
set_option maxHeartbeats 4000000 in
theorem e_Mod_isWord {G : Gl} {F : Nat} {r : Int32} {h' : Hp} {x0 : Nat} {h : Hp} (hf : f_Mod_isWord F x0 h = some (r, h')) : Ex G mi_Mod_isWord [.ref x0] h (pI r h') := by
  unfold f_Mod_isWord at hf
  refine Ex.of nmI (by decide) (Nat.le_of_ble_eq_true rfl) ?_
  show Go G mi_Mod_isWord h _ h 0 [(0, .ref x0)] []
  refine g_aload_n d_Mod_isWord_0 rfl ?_
  obtain ⟨k_1, hf⟩ := gd_s hf
  refine fg_Mod_op lf_Mod_220 d_Mod_isWord_1 k_1 ?_
  refine g_bipush (21) d_Mod_isWord_4 (by decide) ?_
  refine g_icmp_gt 33 d_Mod_isWord_6 (by decide) (fun c_6 => ?_) (fun c_6 => ?_)
  · have hf := ifp hf c_6
    have key := e_Mod_isWord_33 (G := G) (h0 := h)  hf
    exact key
  · have hf := ifn hf c_6
    refine g_aload_n d_Mod_isWord_9 rfl ?_
    refine fg_Mod_op lf_Mod_220 d_Mod_isWord_10 k_1 ?_
    refine g_iconst 3 d_Mod_isWord_13 (by decide) ?_
    refine g_icmp_ne 105 d_Mod_isWord_14 (by decide) (fun c_14 => ?_) (fun c_14 => ?_)
    · have hf := ifn hf c_14
      refine Go.locals [] rfl ?_
      have key := e_Mod_isWord_105 (G := G) (h0 := h)  hf
      exact key
    · have hf := ifp hf c_14
      refine g_aload_n d_Mod_isWord_17 rfl ?_
      refine fg_Mod_n lf_Mod_237 d_Mod_isWord_18 k_1 ?_
      refine g_if_lt 33 d_Mod_isWord_21 (by decide) (fun c_21 => ?_) (fun c_21 => ?_)
      · have hf := ifp hf c_21
        have key := e_Mod_isWord_33 (G := G) (h0 := h)  hf
        exact key
      · have hf := ifn hf c_21
        refine g_aload_n d_Mod_isWord_24 rfl ?_
        refine fg_Mod_n lf_Mod_237 d_Mod_isWord_25 k_1 ?_
        refine g_bipush (6) d_Mod_isWord_28 (by decide) ?_
        refine g_icmp_le 105 d_Mod_isWord_30 (by decide) (fun c_30 => ?_) (fun c_30 => ?_)
        · have hf := ifp hf c_30
          refine Go.locals [] rfl ?_
          have key := e_Mod_isWord_105 (G := G) (h0 := h)  hf
          exact key
        · have hf := ifn hf c_30
          have key := e_Mod_isWord_33 (G := G) (h0 := h)  hf
          exact key
abbrev mi_Mod_isThere : MI := (⟨"WarpMillModel", "isThere", "(II)Z"⟩, prog_13_method_32_code, 3, some .boolean, 0, 0)
def it_Mod_isThere_0 : List (Nat × ClassFile.Instr × Nat) := [(0, .aload_n 0, 1), (1, .getfield 63, 3), (4, .bipush (20), 2), (6, .iload_n 1, 1), (7, .imul, 1), (8, .iload_n 2, 1), (9, .iadd, 1), (10, .iaload, 1), (11, .aload_n 0, 1), (12, .getfield 159, 3), (15, .if_icmp .gt (7), 3), (18, .iconst 1, 1), (19, .goto (4), 3), (22, .iconst 0, 1), (23, .ireturn, 1)]
theorem id_Mod_isThere_0 : ∀ q ∈ it_Mod_isThere_0, decode prog_13_method_32_code q.1 = .ok q.2 := by decide +kernel
theorem d_Mod_isThere_0 : decode prog_13_method_32_code 0 = .ok (.aload_n 0, 1) := id_Mod_isThere_0 (0, .aload_n 0, 1) (List.mem_of_getElem? (i := 0) rfl)
theorem d_Mod_isThere_1 : decode prog_13_method_32_code 1 = .ok (.getfield 63, 3) := id_Mod_isThere_0 (1, .getfield 63, 3) (List.mem_of_getElem? (i := 1) rfl)
theorem d_Mod_isThere_4 : decode prog_13_method_32_code 4 = .ok (.bipush (20), 2) := id_Mod_isThere_0 (4, .bipush (20), 2) (List.mem_of_getElem? (i := 2) rfl)
theorem d_Mod_isThere_6 : decode prog_13_method_32_code 6 = .ok (.iload_n 1, 1) := id_Mod_isThere_0 (6, .iload_n 1, 1) (List.mem_of_getElem? (i := 3) rfl)
theorem d_Mod_isThere_7 : decode prog_13_method_32_code 7 = .ok (.imul, 1) := id_Mod_isThere_0 (7, .imul, 1) (List.mem_of_getElem? (i := 4) rfl)
theorem d_Mod_isThere_8 : decode prog_13_method_32_code 8 = .ok (.iload_n 2, 1) := id_Mod_isThere_0 (8, .iload_n 2, 1) (List.mem_of_getElem? (i := 5) rfl)
theorem d_Mod_isThere_9 : decode prog_13_method_32_code 9 = .ok (.iadd, 1) := id_Mod_isThere_0 (9, .iadd, 1) (List.mem_of_getElem? (i := 6) rfl)
theorem d_Mod_isThere_10 : decode prog_13_method_32_code 10 = .ok (.iaload, 1) := id_Mod_isThere_0 (10, .iaload, 1) (List.mem_of_getElem? (i := 7) rfl)
theorem d_Mod_isThere_11 : decode prog_13_method_32_code 11 = .ok (.aload_n 0, 1) := id_Mod_isThere_0 (11, .aload_n 0, 1) (List.mem_of_getElem? (i := 8) rfl)
theorem d_Mod_isThere_12 : decode prog_13_method_32_code 12 = .ok (.getfield 159, 3) := id_Mod_isThere_0 (12, .getfield 159, 3) (List.mem_of_getElem? (i := 9) rfl)
theorem d_Mod_isThere_15 : decode prog_13_method_32_code 15 = .ok (.if_icmp .gt (7), 3) := id_Mod_isThere_0 (15, .if_icmp .gt (7), 3) (List.mem_of_getElem? (i := 10) rfl)
theorem d_Mod_isThere_18 : decode prog_13_method_32_code 18 = .ok (.iconst 1, 1) := id_Mod_isThere_0 (18, .iconst 1, 1) (List.mem_of_getElem? (i := 11) rfl)
theorem d_Mod_isThere_19 : decode prog_13_method_32_code 19 = .ok (.goto (4), 3) := id_Mod_isThere_0 (19, .goto (4), 3) (List.mem_of_getElem? (i := 12) rfl)
theorem d_Mod_isThere_22 : decode prog_13_method_32_code 22 = .ok (.iconst 0, 1) := id_Mod_isThere_0 (22, .iconst 0, 1) (List.mem_of_getElem? (i := 13) rfl)
theorem d_Mod_isThere_23 : decode prog_13_method_32_code 23 = .ok (.ireturn, 1) := id_Mod_isThere_0 (23, .ireturn, 1) (List.mem_of_getElem? (i := 14) rfl)
theorem wC_Mod_isThere : Cond.code ⟨"WarpMillModel", "isThere", "(II)Z"⟩ prog_13_method_32_code 3 (some .boolean) ∈ lw_tb := mem_tb 1364 (by decide +kernel) rfl
def f_Mod_isThere (F : Nat) (x0 : Nat) (x1 : Int32) (x2 : Int32) (h : Hp) : Option (Int32 × Hp) := gd (hK h x0 = 12) <| rq h (hR h 738 x0) 100 fun a_1_2 => ix (((20 : Int32) * x1) + x2) (hN h a_1_2) fun j_10 => if (hI h 719 x0) < (hA h a_1_2 j_10) then (some ((0 : Int32), h)) else (some ((1 : Int32), h))
set_option maxRecDepth 100000 in
set_option maxHeartbeats 4000000 in
theorem e_Mod_isThere {G : Gl} {F : Nat} {r : Int32} {h' : Hp} {x0 : Nat} {x1 : Int32} {x2 : Int32} {h : Hp} (hf : f_Mod_isThere F x0 x1 x2 h = some (r, h')) : Ex G mi_Mod_isThere [.ref x0, .int x1, .int x2] h (pI r h') := by
  unfold f_Mod_isThere at hf
  refine Ex.of nmI (by decide) (Nat.le_of_ble_eq_true rfl) ?_
  show Go G mi_Mod_isThere h _ h 0 [(0, .ref x0), (1, .int x1), (2, .int x2)] []
  refine g_aload_n d_Mod_isThere_0 rfl ?_
  obtain ⟨k_1, hf⟩ := gd_s hf
  obtain ⟨a_1_2, e_1_2, k_1_2, hf⟩ := rq_s hf
  refine fgs_Mod_ticks lf_Mod_63 d_Mod_isThere_1 k_1 e_1_2 ?_
  refine g_bipush (20) d_Mod_isThere_4 (by decide) ?_
  refine g_iload_n d_Mod_isThere_6 rfl ?_
  refine g_imul d_Mod_isThere_7 ?_
  refine g_iload_n d_Mod_isThere_8 rfl ?_
  refine g_iadd d_Mod_isThere_9 ?_
  obtain ⟨i_10, hf⟩ := ix_s hf
  refine g_iald k_1_2 i_10 d_Mod_isThere_10 ?_
  refine g_aload_n d_Mod_isThere_11 rfl ?_
  refine fg_Mod_cycle lf_Mod_159 d_Mod_isThere_12 k_1 ?_
  refine g_icmp_gt 22 d_Mod_isThere_15 (by decide) (fun c_15 => ?_) (fun c_15 => ?_)
  · have hf := ifp hf c_15
    refine g_iconst 0 d_Mod_isThere_22 (by decide) ?_
    exact Go.ret (some _) rOk_b0 rfl d_Mod_isThere_23 (pI_of hf)
  · have hf := ifn hf c_15
    refine g_iconst 1 d_Mod_isThere_18 (by decide) ?_
    refine g_goto 23 d_Mod_isThere_19 (by decide) ?_
    exact Go.ret (some _) rOk_b1 rfl d_Mod_isThere_23 (pI_of hf)
abbrev mi_Mod_isPredicateThere : MI := (⟨"WarpMillModel", "isPredicateThere", "(II)Z"⟩, prog_13_method_33_code, 3, some .boolean, 1, 22)
def it_Mod_isPredicateThere_0 : List (Nat × ClassFile.Instr × Nat) := [(0, .aload_n 0, 1), (1, .iload_n 1, 1), (2, .bipush (16), 2), (4, .iload_n 2, 1), (5, .iconst 3, 1), (6, .iand, 1), (7, .iadd, 1), (8, .invokevirtual 243, 3), (11, .ireturn, 1)]
theorem id_Mod_isPredicateThere_0 : ∀ q ∈ it_Mod_isPredicateThere_0, decode prog_13_method_33_code q.1 = .ok q.2 := by decide +kernel
theorem d_Mod_isPredicateThere_0 : decode prog_13_method_33_code 0 = .ok (.aload_n 0, 1) := id_Mod_isPredicateThere_0 (0, .aload_n 0, 1) (List.mem_of_getElem? (i := 0) rfl)
theorem d_Mod_isPredicateThere_1 : decode prog_13_method_33_code 1 = .ok (.iload_n 1, 1) := id_Mod_isPredicateThere_0 (1, .iload_n 1, 1) (List.mem_of_getElem? (i := 1) rfl)
theorem d_Mod_isPredicateThere_2 : decode prog_13_method_33_code 2 = .ok (.bipush (16), 2) := id_Mod_isPredicateThere_0 (2, .bipush (16), 2) (List.mem_of_getElem? (i := 2) rfl)
theorem d_Mod_isPredicateThere_4 : decode prog_13_method_33_code 4 = .ok (.iload_n 2, 1) := id_Mod_isPredicateThere_0 (4, .iload_n 2, 1) (List.mem_of_getElem? (i := 3) rfl)
theorem d_Mod_isPredicateThere_5 : decode prog_13_method_33_code 5 = .ok (.iconst 3, 1) := id_Mod_isPredicateThere_0 (5, .iconst 3, 1) (List.mem_of_getElem? (i := 4) rfl)
theorem d_Mod_isPredicateThere_6 : decode prog_13_method_33_code 6 = .ok (.iand, 1) := id_Mod_isPredicateThere_0 (6, .iand, 1) (List.mem_of_getElem? (i := 5) rfl)
theorem d_Mod_isPredicateThere_7 : decode prog_13_method_33_code 7 = .ok (.iadd, 1) := id_Mod_isPredicateThere_0 (7, .iadd, 1) (List.mem_of_getElem? (i := 6) rfl)
theorem d_Mod_isPredicateThere_8 : decode prog_13_method_33_code 8 = .ok (.invokevirtual 243, 3) := id_Mod_isPredicateThere_0 (8, .invokevirtual 243, 3) (List.mem_of_getElem? (i := 7) rfl)
theorem d_Mod_isPredicateThere_11 : decode prog_13_method_33_code 11 = .ok (.ireturn, 1) := id_Mod_isPredicateThere_0 (11, .ireturn, 1) (List.mem_of_getElem? (i := 8) rfl)
theorem wC_Mod_isPredicateThere : Cond.code ⟨"WarpMillModel", "isPredicateThere", "(II)Z"⟩ prog_13_method_33_code 3 (some .boolean) ∈ lw_tb := mem_tb 1360 (by decide +kernel) rfl
theorem cw_Mod_isPredicateThere_Mod_isThere : cW mi_Mod_isPredicateThere mi_Mod_isThere 2 := ⟨wC_Mod_isThere, wi_Mod, ⟨by decide, by decide, by decide +kernel⟩, by decide, by decide⟩
def f_Mod_isPredicateThere (F : Nat) (x0 : Nat) (x1 : Int32) (x2 : Int32) (h : Hp) : Option (Int32 × Hp) := gd (hK h x0 = 12) <| cl (f_Mod_isThere F x0 x1 ((16 : Int32) + (x2 &&& (3 : Int32))) h) fun v_8_2 h_8_2 => gd (v_8_2 = 0 ∨ v_8_2 = 1) <| some (v_8_2, h_8_2)
set_option maxRecDepth 100000 in
set_option maxHeartbeats 4000000 in
theorem e_Mod_isPredicateThere {G : Gl} {F : Nat} {r : Int32} {h' : Hp} {x0 : Nat} {x1 : Int32} {x2 : Int32} {h : Hp} (hf : f_Mod_isPredicateThere F x0 x1 x2 h = some (r, h')) : Ex G mi_Mod_isPredicateThere [.ref x0, .int x1, .int x2] h (pI r h') := by
  unfold f_Mod_isPredicateThere at hf
  refine Ex.of nmI (by decide) (Nat.le_of_ble_eq_true rfl) ?_
  show Go G mi_Mod_isPredicateThere h _ h 0 [(0, .ref x0), (1, .int x1), (2, .int x2)] []
  refine g_aload_n d_Mod_isPredicateThere_0 rfl ?_
  refine g_iload_n d_Mod_isPredicateThere_1 rfl ?_
  refine g_bipush (16) d_Mod_isPredicateThere_2 (by decide) ?_
  refine g_iload_n d_Mod_isPredicateThere_4 rfl ?_
  refine g_iconst 3 d_Mod_isPredicateThere_5 (by decide) ?_
  refine g_iand d_Mod_isPredicateThere_6 ?_
  refine g_iadd d_Mod_isPredicateThere_7 ?_
  obtain ⟨k_8, hf⟩ := gd_s hf
  obtain ⟨v_8_2, h_8_2, e_8_2, hf⟩ := cl_s hf
  refine g_callV (mz := mi_Mod_isThere) (e_Mod_isThere e_8_2) cw_Mod_isPredicateThere_Mod_isThere lm_Mod_243 wI_Mod_isThere wV_Mod_isThere (ci := 11) k_8 (by decide) rfl rfl d_Mod_isPredicateThere_8 rfl rfl (by first | exact Nat.le_of_ble_eq_true rfl | simp [cat_rf, Value.category]) (fun r1 h1 hp hro => ?_)
  obtain ⟨rfl, rfl⟩ := hp
  dsimp only [Option.toList_some, Option.toList_none, List.cons_append, List.nil_append]
  obtain ⟨b_11, hf⟩ := gd_s hf
  exact Go.ret (some _) (rOk_z b_11) rfl d_Mod_isPredicateThere_11 (pI_of hf)
abbrev mi_Mod_isMemory : MI := (⟨"WarpMillModel", "isMemory", "()Z"⟩, prog_13_method_26_code, 1, some .boolean, 0, 0)
def it_Mod_isMemory_0 : List (Nat × ClassFile.Instr × Nat) := [(0, .aload_n 0, 1), (1, .getfield 220, 3), (4, .bipush (50), 2), (6, .if_icmp .lt (16), 3), (9, .aload_n 0, 1), (10, .getfield 220, 3), (13, .bipush (59), 2), (15, .if_icmp .gt (7), 3), (18, .iconst 1, 1), (19, .goto (4), 3), (22, .iconst 0, 1), (23, .ireturn, 1)]
theorem id_Mod_isMemory_0 : ∀ q ∈ it_Mod_isMemory_0, decode prog_13_method_26_code q.1 = .ok q.2 := by decide +kernel
theorem d_Mod_isMemory_0 : decode prog_13_method_26_code 0 = .ok (.aload_n 0, 1) := id_Mod_isMemory_0 (0, .aload_n 0, 1) (List.mem_of_getElem? (i := 0) rfl)
theorem d_Mod_isMemory_1 : decode prog_13_method_26_code 1 = .ok (.getfield 220, 3) := id_Mod_isMemory_0 (1, .getfield 220, 3) (List.mem_of_getElem? (i := 1) rfl)
theorem d_Mod_isMemory_4 : decode prog_13_method_26_code 4 = .ok (.bipush (50), 2) := id_Mod_isMemory_0 (4, .bipush (50), 2) (List.mem_of_getElem? (i := 2) rfl)
theorem d_Mod_isMemory_6 : decode prog_13_method_26_code 6 = .ok (.if_icmp .lt (16), 3) := id_Mod_isMemory_0 (6, .if_icmp .lt (16), 3) (List.mem_of_getElem? (i := 3) rfl)
theorem d_Mod_isMemory_9 : decode prog_13_method_26_code 9 = .ok (.aload_n 0, 1) := id_Mod_isMemory_0 (9, .aload_n 0, 1) (List.mem_of_getElem? (i := 4) rfl)
theorem d_Mod_isMemory_10 : decode prog_13_method_26_code 10 = .ok (.getfield 220, 3) := id_Mod_isMemory_0 (10, .getfield 220, 3) (List.mem_of_getElem? (i := 5) rfl)
theorem d_Mod_isMemory_13 : decode prog_13_method_26_code 13 = .ok (.bipush (59), 2) := id_Mod_isMemory_0 (13, .bipush (59), 2) (List.mem_of_getElem? (i := 6) rfl)
theorem d_Mod_isMemory_15 : decode prog_13_method_26_code 15 = .ok (.if_icmp .gt (7), 3) := id_Mod_isMemory_0 (15, .if_icmp .gt (7), 3) (List.mem_of_getElem? (i := 7) rfl)
theorem d_Mod_isMemory_18 : decode prog_13_method_26_code 18 = .ok (.iconst 1, 1) := id_Mod_isMemory_0 (18, .iconst 1, 1) (List.mem_of_getElem? (i := 8) rfl)
theorem d_Mod_isMemory_19 : decode prog_13_method_26_code 19 = .ok (.goto (4), 3) := id_Mod_isMemory_0 (19, .goto (4), 3) (List.mem_of_getElem? (i := 9) rfl)
theorem d_Mod_isMemory_22 : decode prog_13_method_26_code 22 = .ok (.iconst 0, 1) := id_Mod_isMemory_0 (22, .iconst 0, 1) (List.mem_of_getElem? (i := 10) rfl)
theorem d_Mod_isMemory_23 : decode prog_13_method_26_code 23 = .ok (.ireturn, 1) := id_Mod_isMemory_0 (23, .ireturn, 1) (List.mem_of_getElem? (i := 11) rfl)
theorem wC_Mod_isMemory : Cond.code ⟨"WarpMillModel", "isMemory", "()Z"⟩ prog_13_method_26_code 1 (some .boolean) ∈ lw_tb := mem_tb 1372 (by decide +kernel) rfl
def f_Mod_isMemory (F : Nat) (x0 : Nat) (h : Hp) : Option (Int32 × Hp) := gd (hK h x0 = 12) <| if (hI h 756 x0) < (50 : Int32) then (some ((0 : Int32), h)) else (if (59 : Int32) < (hI h 756 x0) then (some ((0 : Int32), h)) else (some ((1 : Int32), h)))
set_option maxRecDepth 100000 in
set_option maxHeartbeats 4000000 in
theorem e_Mod_isMemory {G : Gl} {F : Nat} {r : Int32} {h' : Hp} {x0 : Nat} {h : Hp} (hf : f_Mod_isMemory F x0 h = some (r, h')) : Ex G mi_Mod_isMemory [.ref x0] h (pI r h') := by
  unfold f_Mod_isMemory at hf
  refine Ex.of nmI (by decide) (Nat.le_of_ble_eq_true rfl) ?_
  show Go G mi_Mod_isMemory h _ h 0 [(0, .ref x0)] []
  refine g_aload_n d_Mod_isMemory_0 rfl ?_
  obtain ⟨k_1, hf⟩ := gd_s hf
  refine fg_Mod_op lf_Mod_220 d_Mod_isMemory_1 k_1 ?_
  refine g_bipush (50) d_Mod_isMemory_4 (by decide) ?_
  refine g_icmp_lt 22 d_Mod_isMemory_6 (by decide) (fun c_6 => ?_) (fun c_6 => ?_)
  · have hf := ifp hf c_6
    refine g_iconst 0 d_Mod_isMemory_22 (by decide) ?_
    exact Go.ret (some _) rOk_b0 rfl d_Mod_isMemory_23 (pI_of hf)
  · have hf := ifn hf c_6
    refine g_aload_n d_Mod_isMemory_9 rfl ?_
    refine fg_Mod_op lf_Mod_220 d_Mod_isMemory_10 k_1 ?_
    refine g_bipush (59) d_Mod_isMemory_13 (by decide) ?_
    refine g_icmp_gt 22 d_Mod_isMemory_15 (by decide) (fun c_15 => ?_) (fun c_15 => ?_)
    · have hf := ifp hf c_15
      refine g_iconst 0 d_Mod_isMemory_22 (by decide) ?_
      exact Go.ret (some _) rOk_b0 rfl d_Mod_isMemory_23 (pI_of hf)
    · have hf := ifn hf c_15
      refine g_iconst 1 d_Mod_isMemory_18 (by decide) ?_
      refine g_goto 23 d_Mod_isMemory_19 (by decide) ?_
      exact Go.ret (some _) rOk_b1 rfl d_Mod_isMemory_23 (pI_of hf)
abbrev mi_Mod_readsA : MI := (⟨"WarpMillModel", "readsA", "()Z"⟩, prog_13_method_28_code, 1, some .boolean, 1, 20)
def it_Mod_readsA_0 : List (Nat × ClassFile.Instr × Nat) := [(0, .aload_n 0, 1), (1, .getfield 220, 3), (4, .iconst 4, 1), (5, .if_icmp .lt (12), 3), (8, .aload_n 0, 1), (9, .getfield 220, 3), (12, .bipush (21), 2), (14, .if_icmp .le (46), 3), (17, .aload_n 0, 1), (18, .getfield 220, 3), (21, .bipush (30), 2), (23, .if_icmp .lt (12), 3), (26, .aload_n 0, 1), (27, .getfield 220, 3), (30, .bipush (33), 2), (32, .if_icmp .le (28), 3), (35, .aload_n 0, 1), (36, .getfield 220, 3), (39, .bipush (42), 2), (41, .if_icmp .eq (19), 3), (44, .aload_n 0, 1), (45, .invokevirtual 240, 3), (48, .ifCond .ne (12), 3), (51, .aload_n 0, 1)]
theorem id_Mod_readsA_0 : ∀ q ∈ it_Mod_readsA_0, decode prog_13_method_28_code q.1 = .ok q.2 := by decide +kernel
theorem d_Mod_readsA_0 : decode prog_13_method_28_code 0 = .ok (.aload_n 0, 1) := id_Mod_readsA_0 (0, .aload_n 0, 1) (List.mem_of_getElem? (i := 0) rfl)
theorem d_Mod_readsA_1 : decode prog_13_method_28_code 1 = .ok (.getfield 220, 3) := id_Mod_readsA_0 (1, .getfield 220, 3) (List.mem_of_getElem? (i := 1) rfl)
theorem d_Mod_readsA_4 : decode prog_13_method_28_code 4 = .ok (.iconst 4, 1) := id_Mod_readsA_0 (4, .iconst 4, 1) (List.mem_of_getElem? (i := 2) rfl)
theorem d_Mod_readsA_5 : decode prog_13_method_28_code 5 = .ok (.if_icmp .lt (12), 3) := id_Mod_readsA_0 (5, .if_icmp .lt (12), 3) (List.mem_of_getElem? (i := 3) rfl)
theorem d_Mod_readsA_8 : decode prog_13_method_28_code 8 = .ok (.aload_n 0, 1) := id_Mod_readsA_0 (8, .aload_n 0, 1) (List.mem_of_getElem? (i := 4) rfl)
theorem d_Mod_readsA_9 : decode prog_13_method_28_code 9 = .ok (.getfield 220, 3) := id_Mod_readsA_0 (9, .getfield 220, 3) (List.mem_of_getElem? (i := 5) rfl)
theorem d_Mod_readsA_12 : decode prog_13_method_28_code 12 = .ok (.bipush (21), 2) := id_Mod_readsA_0 (12, .bipush (21), 2) (List.mem_of_getElem? (i := 6) rfl)
theorem d_Mod_readsA_14 : decode prog_13_method_28_code 14 = .ok (.if_icmp .le (46), 3) := id_Mod_readsA_0 (14, .if_icmp .le (46), 3) (List.mem_of_getElem? (i := 7) rfl)
theorem d_Mod_readsA_17 : decode prog_13_method_28_code 17 = .ok (.aload_n 0, 1) := id_Mod_readsA_0 (17, .aload_n 0, 1) (List.mem_of_getElem? (i := 8) rfl)
theorem d_Mod_readsA_18 : decode prog_13_method_28_code 18 = .ok (.getfield 220, 3) := id_Mod_readsA_0 (18, .getfield 220, 3) (List.mem_of_getElem? (i := 9) rfl)
theorem d_Mod_readsA_21 : decode prog_13_method_28_code 21 = .ok (.bipush (30), 2) := id_Mod_readsA_0 (21, .bipush (30), 2) (List.mem_of_getElem? (i := 10) rfl)
theorem d_Mod_readsA_23 : decode prog_13_method_28_code 23 = .ok (.if_icmp .lt (12), 3) := id_Mod_readsA_0 (23, .if_icmp .lt (12), 3) (List.mem_of_getElem? (i := 11) rfl)
theorem d_Mod_readsA_26 : decode prog_13_method_28_code 26 = .ok (.aload_n 0, 1) := id_Mod_readsA_0 (26, .aload_n 0, 1) (List.mem_of_getElem? (i := 12) rfl)
theorem d_Mod_readsA_27 : decode prog_13_method_28_code 27 = .ok (.getfield 220, 3) := id_Mod_readsA_0 (27, .getfield 220, 3) (List.mem_of_getElem? (i := 13) rfl)
theorem d_Mod_readsA_30 : decode prog_13_method_28_code 30 = .ok (.bipush (33), 2) := id_Mod_readsA_0 (30, .bipush (33), 2) (List.mem_of_getElem? (i := 14) rfl)
theorem d_Mod_readsA_32 : decode prog_13_method_28_code 32 = .ok (.if_icmp .le (28), 3) := id_Mod_readsA_0 (32, .if_icmp .le (28), 3) (List.mem_of_getElem? (i := 15) rfl)
theorem d_Mod_readsA_35 : decode prog_13_method_28_code 35 = .ok (.aload_n 0, 1) := id_Mod_readsA_0 (35, .aload_n 0, 1) (List.mem_of_getElem? (i := 16) rfl)
theorem d_Mod_readsA_36 : decode prog_13_method_28_code 36 = .ok (.getfield 220, 3) := id_Mod_readsA_0 (36, .getfield 220, 3) (List.mem_of_getElem? (i := 17) rfl)
theorem d_Mod_readsA_39 : decode prog_13_method_28_code 39 = .ok (.bipush (42), 2) := id_Mod_readsA_0 (39, .bipush (42), 2) (List.mem_of_getElem? (i := 18) rfl)
theorem d_Mod_readsA_41 : decode prog_13_method_28_code 41 = .ok (.if_icmp .eq (19), 3) := id_Mod_readsA_0 (41, .if_icmp .eq (19), 3) (List.mem_of_getElem? (i := 19) rfl)
theorem d_Mod_readsA_44 : decode prog_13_method_28_code 44 = .ok (.aload_n 0, 1) := id_Mod_readsA_0 (44, .aload_n 0, 1) (List.mem_of_getElem? (i := 20) rfl)
theorem d_Mod_readsA_45 : decode prog_13_method_28_code 45 = .ok (.invokevirtual 240, 3) := id_Mod_readsA_0 (45, .invokevirtual 240, 3) (List.mem_of_getElem? (i := 21) rfl)
theorem d_Mod_readsA_48 : decode prog_13_method_28_code 48 = .ok (.ifCond .ne (12), 3) := id_Mod_readsA_0 (48, .ifCond .ne (12), 3) (List.mem_of_getElem? (i := 22) rfl)
theorem d_Mod_readsA_51 : decode prog_13_method_28_code 51 = .ok (.aload_n 0, 1) := id_Mod_readsA_0 (51, .aload_n 0, 1) (List.mem_of_getElem? (i := 23) rfl)
def it_Mod_readsA_1 : List (Nat × ClassFile.Instr × Nat) := [(52, .getfield 220, 3), (55, .bipush (73), 2), (57, .if_icmp .ne (7), 3), (60, .iconst 1, 1), (61, .goto (4), 3), (64, .iconst 0, 1), (65, .ireturn, 1)]
theorem id_Mod_readsA_1 : ∀ q ∈ it_Mod_readsA_1, decode prog_13_method_28_code q.1 = .ok q.2 := by decide +kernel
theorem d_Mod_readsA_52 : decode prog_13_method_28_code 52 = .ok (.getfield 220, 3) := id_Mod_readsA_1 (52, .getfield 220, 3) (List.mem_of_getElem? (i := 0) rfl)
theorem d_Mod_readsA_55 : decode prog_13_method_28_code 55 = .ok (.bipush (73), 2) := id_Mod_readsA_1 (55, .bipush (73), 2) (List.mem_of_getElem? (i := 1) rfl)
theorem d_Mod_readsA_57 : decode prog_13_method_28_code 57 = .ok (.if_icmp .ne (7), 3) := id_Mod_readsA_1 (57, .if_icmp .ne (7), 3) (List.mem_of_getElem? (i := 2) rfl)
theorem d_Mod_readsA_60 : decode prog_13_method_28_code 60 = .ok (.iconst 1, 1) := id_Mod_readsA_1 (60, .iconst 1, 1) (List.mem_of_getElem? (i := 3) rfl)
theorem d_Mod_readsA_61 : decode prog_13_method_28_code 61 = .ok (.goto (4), 3) := id_Mod_readsA_1 (61, .goto (4), 3) (List.mem_of_getElem? (i := 4) rfl)
theorem d_Mod_readsA_64 : decode prog_13_method_28_code 64 = .ok (.iconst 0, 1) := id_Mod_readsA_1 (64, .iconst 0, 1) (List.mem_of_getElem? (i := 5) rfl)
theorem d_Mod_readsA_65 : decode prog_13_method_28_code 65 = .ok (.ireturn, 1) := id_Mod_readsA_1 (65, .ireturn, 1) (List.mem_of_getElem? (i := 6) rfl)
theorem wC_Mod_readsA : Cond.code ⟨"WarpMillModel", "readsA", "()Z"⟩ prog_13_method_28_code 1 (some .boolean) ∈ lw_tb := mem_tb 1368 (by decide +kernel) rfl
theorem cw_Mod_readsA_Mod_isMemory : cW mi_Mod_readsA mi_Mod_isMemory 0 := ⟨wC_Mod_isMemory, wi_Mod, ⟨by decide, by decide, by decide +kernel⟩, by decide, by decide⟩
def b_Mod_readsA_60 (F : Nat)  (h : Hp) : Option (Int32 × Hp) := some ((1 : Int32), h)
set_option maxRecDepth 100000 in
set_option maxHeartbeats 4000000 in
theorem e_Mod_readsA_60 {G : Gl} {h0 : Hp} {F : Nat} {r : Int32} {h' : Hp}    {h : Hp} (hf : b_Mod_readsA_60 F  h = some (r, h')) : Go G mi_Mod_readsA h0 (pI r h') h 60 [] [] := by
  unfold b_Mod_readsA_60 at hf
  refine g_iconst 1 d_Mod_readsA_60 (by decide) ?_
  refine g_goto 65 d_Mod_readsA_61 (by decide) ?_
  exact Go.ret (some _) rOk_b1 rfl d_Mod_readsA_65 (pI_of hf)
def b_Mod_readsA_35 (F : Nat) (x0 : Nat) (h : Hp) : Option (Int32 × Hp) := gd (hK h x0 = 12) <| if (hI h 756 x0) = (42 : Int32) then (b_Mod_readsA_60 F h) else (cl (f_Mod_isMemory F x0 h) fun v_45 h_45 => if v_45 = 0 then (gd (hK h_45 x0 = 12) <| if (hI h_45 756 x0) = (73 : Int32) then (b_Mod_readsA_60 F h_45) else (some ((0 : Int32), h_45))) else (b_Mod_readsA_60 F h_45))
set_option maxRecDepth 100000 in
set_option maxHeartbeats 4000000 in
theorem e_Mod_readsA_35 {G : Gl} {h0 : Hp} {F : Nat} {r : Int32} {h' : Hp}   {x0 : Nat} {h : Hp} (hf : b_Mod_readsA_35 F x0 h = some (r, h')) : Go G mi_Mod_readsA h0 (pI r h') h 35 [(0, .ref x0)] [] := by
  unfold b_Mod_readsA_35 at hf
  refine g_aload_n d_Mod_readsA_35 rfl ?_
  obtain ⟨k_36, hf⟩ := gd_s hf
  refine fg_Mod_op lf_Mod_220 d_Mod_readsA_36 k_36 ?_
  refine g_bipush (42) d_Mod_readsA_39 (by decide) ?_
  refine g_icmp_eq 60 d_Mod_readsA_41 (by decide) (fun c_41 => ?_) (fun c_41 => ?_)
  · have hf := ifp hf c_41
    refine Go.locals [] rfl ?_
    have key := e_Mod_readsA_60 (G := G) (h0 := h0)  hf
    exact key
  · have hf := ifn hf c_41
    refine g_aload_n d_Mod_readsA_44 rfl ?_
    obtain ⟨v_45, h_45, e_45, hf⟩ := cl_s hf
    refine g_callV (mz := mi_Mod_isMemory) (e_Mod_isMemory e_45) cw_Mod_readsA_Mod_isMemory lm_Mod_240 wI_Mod_isMemory wV_Mod_isMemory (ci := 11) k_36 (by decide) rfl rfl d_Mod_readsA_45 rfl rfl (by first | exact Nat.le_of_ble_eq_true rfl | simp [cat_rf, Value.category]) (fun r1 h1 hp hro => ?_)
    obtain ⟨rfl, rfl⟩ := hp
    dsimp only [Option.toList_some, Option.toList_none, List.cons_append, List.nil_append]
    refine g_if_ne 60 d_Mod_readsA_48 (by decide) (fun c_48 => ?_) (fun c_48 => ?_)
    · have hf := ifn hf c_48
      refine Go.locals [] rfl ?_
      have key := e_Mod_readsA_60 (G := G) (h0 := h0)  hf
      exact key
    · have hf := ifp hf c_48
      refine g_aload_n d_Mod_readsA_51 rfl ?_
      obtain ⟨k_52, hf⟩ := gd_s hf
      refine fg_Mod_op lf_Mod_220 d_Mod_readsA_52 k_52 ?_
      refine g_bipush (73) d_Mod_readsA_55 (by decide) ?_
      refine g_icmp_ne 64 d_Mod_readsA_57 (by decide) (fun c_57 => ?_) (fun c_57 => ?_)
      · have hf := ifn hf c_57
        refine g_iconst 0 d_Mod_readsA_64 (by decide) ?_
        exact Go.ret (some _) rOk_b0 rfl d_Mod_readsA_65 (pI_of hf)
      · have hf := ifp hf c_57
        refine Go.locals [] rfl ?_
        have key := e_Mod_readsA_60 (G := G) (h0 := h0)  hf
        exact key
def b_Mod_readsA_17 (F : Nat) (x0 : Nat) (h : Hp) : Option (Int32 × Hp) := gd (hK h x0 = 12) <| if (hI h 756 x0) < (30 : Int32) then (b_Mod_readsA_35 F x0 h) else (if (hI h 756 x0) ≤ (33 : Int32) then (b_Mod_readsA_60 F h) else (b_Mod_readsA_35 F x0 h))
set_option maxRecDepth 100000 in
set_option maxHeartbeats 4000000 in
theorem e_Mod_readsA_17 {G : Gl} {h0 : Hp} {F : Nat} {r : Int32} {h' : Hp}   {x0 : Nat} {h : Hp} (hf : b_Mod_readsA_17 F x0 h = some (r, h')) : Go G mi_Mod_readsA h0 (pI r h') h 17 [(0, .ref x0)] [] := by
  unfold b_Mod_readsA_17 at hf
  refine g_aload_n d_Mod_readsA_17 rfl ?_
  obtain ⟨k_18, hf⟩ := gd_s hf
  refine fg_Mod_op lf_Mod_220 d_Mod_readsA_18 k_18 ?_
  refine g_bipush (30) d_Mod_readsA_21 (by decide) ?_
  refine g_icmp_lt 35 d_Mod_readsA_23 (by decide) (fun c_23 => ?_) (fun c_23 => ?_)
  · have hf := ifp hf c_23
    have key := e_Mod_readsA_35 (G := G) (h0 := h0)  hf
    exact key
  · have hf := ifn hf c_23
    refine g_aload_n d_Mod_readsA_26 rfl ?_
    refine fg_Mod_op lf_Mod_220 d_Mod_readsA_27 k_18 ?_
    refine g_bipush (33) d_Mod_readsA_30 (by decide) ?_
    refine g_icmp_le 60 d_Mod_readsA_32 (by decide) (fun c_32 => ?_) (fun c_32 => ?_)
    · have hf := ifp hf c_32
      refine Go.locals [] rfl ?_
      have key := e_Mod_readsA_60 (G := G) (h0 := h0)  hf
      exact key
    · have hf := ifn hf c_32
      have key := e_Mod_readsA_35 (G := G) (h0 := h0)  hf
      exact key
def f_Mod_readsA (F : Nat) (x0 : Nat) (h : Hp) : Option (Int32 × Hp) := gd (hK h x0 = 12) <| if (hI h 756 x0) < (4 : Int32) then (b_Mod_readsA_17 F x0 h) else (if (hI h 756 x0) ≤ (21 : Int32) then (b_Mod_readsA_60 F h) else (b_Mod_readsA_17 F x0 h))
set_option maxRecDepth 100000 in
set_option maxHeartbeats 4000000 in
theorem e_Mod_readsA {G : Gl} {F : Nat} {r : Int32} {h' : Hp} {x0 : Nat} {h : Hp} (hf : f_Mod_readsA F x0 h = some (r, h')) : Ex G mi_Mod_readsA [.ref x0] h (pI r h') := by
  unfold f_Mod_readsA at hf
  refine Ex.of nmI (by decide) (Nat.le_of_ble_eq_true rfl) ?_
  show Go G mi_Mod_readsA h _ h 0 [(0, .ref x0)] []
  refine g_aload_n d_Mod_readsA_0 rfl ?_
  obtain ⟨k_1, hf⟩ := gd_s hf
  refine fg_Mod_op lf_Mod_220 d_Mod_readsA_1 k_1 ?_
  refine g_iconst 4 d_Mod_readsA_4 (by decide) ?_
  refine g_icmp_lt 17 d_Mod_readsA_5 (by decide) (fun c_5 => ?_) (fun c_5 => ?_)
  · have hf := ifp hf c_5
    have key := e_Mod_readsA_17 (G := G) (h0 := h)  hf
    exact key
  · have hf := ifn hf c_5
    refine g_aload_n d_Mod_readsA_8 rfl ?_
    refine fg_Mod_op lf_Mod_220 d_Mod_readsA_9 k_1 ?_
    refine g_bipush (21) d_Mod_readsA_12 (by decide) ?_
    refine g_icmp_le 60 d_Mod_readsA_14 (by decide) (fun c_14 => ?_) (fun c_14 => ?_)
    · have hf := ifp hf c_14
      refine Go.locals [] rfl ?_
      have key := e_Mod_readsA_60 (G := G) (h0 := h)  hf
      exact key
    · have hf := ifn hf c_14
      have key := e_Mod_readsA_17 (G := G) (h0 := h)  hf
      exact key
abbrev mi_Mod_readsB : MI := (⟨"WarpMillModel", "readsB", "()Z"⟩, prog_13_method_29_code, 1, some .boolean, 0, 0)
def it_Mod_readsB_0 : List (Nat × ClassFile.Instr × Nat) := [(0, .aload_n 0, 1), (1, .getfield 220, 3), (4, .iconst 4, 1), (5, .if_icmp .lt (12), 3), (8, .aload_n 0, 1), (9, .getfield 220, 3), (12, .bipush (17), 2), (14, .if_icmp .le (57), 3), (17, .aload_n 0, 1), (18, .getfield 220, 3), (21, .bipush (21), 2), (23, .if_icmp .eq (48), 3), (26, .aload_n 0, 1), (27, .getfield 220, 3), (30, .bipush (30), 2), (32, .if_icmp .eq (39), 3), (35, .aload_n 0, 1), (36, .getfield 220, 3), (39, .bipush (31), 2), (41, .if_icmp .eq (30), 3), (44, .aload_n 0, 1), (45, .getfield 220, 3), (48, .bipush (51), 2), (50, .if_icmp .eq (21), 3)]
theorem id_Mod_readsB_0 : ∀ q ∈ it_Mod_readsB_0, decode prog_13_method_29_code q.1 = .ok q.2 := by decide +kernel
theorem d_Mod_readsB_0 : decode prog_13_method_29_code 0 = .ok (.aload_n 0, 1) := id_Mod_readsB_0 (0, .aload_n 0, 1) (List.mem_of_getElem? (i := 0) rfl)
theorem d_Mod_readsB_1 : decode prog_13_method_29_code 1 = .ok (.getfield 220, 3) := id_Mod_readsB_0 (1, .getfield 220, 3) (List.mem_of_getElem? (i := 1) rfl)
theorem d_Mod_readsB_4 : decode prog_13_method_29_code 4 = .ok (.iconst 4, 1) := id_Mod_readsB_0 (4, .iconst 4, 1) (List.mem_of_getElem? (i := 2) rfl)
theorem d_Mod_readsB_5 : decode prog_13_method_29_code 5 = .ok (.if_icmp .lt (12), 3) := id_Mod_readsB_0 (5, .if_icmp .lt (12), 3) (List.mem_of_getElem? (i := 3) rfl)
theorem d_Mod_readsB_8 : decode prog_13_method_29_code 8 = .ok (.aload_n 0, 1) := id_Mod_readsB_0 (8, .aload_n 0, 1) (List.mem_of_getElem? (i := 4) rfl)
theorem d_Mod_readsB_9 : decode prog_13_method_29_code 9 = .ok (.getfield 220, 3) := id_Mod_readsB_0 (9, .getfield 220, 3) (List.mem_of_getElem? (i := 5) rfl)
theorem d_Mod_readsB_12 : decode prog_13_method_29_code 12 = .ok (.bipush (17), 2) := id_Mod_readsB_0 (12, .bipush (17), 2) (List.mem_of_getElem? (i := 6) rfl)
theorem d_Mod_readsB_14 : decode prog_13_method_29_code 14 = .ok (.if_icmp .le (57), 3) := id_Mod_readsB_0 (14, .if_icmp .le (57), 3) (List.mem_of_getElem? (i := 7) rfl)
theorem d_Mod_readsB_17 : decode prog_13_method_29_code 17 = .ok (.aload_n 0, 1) := id_Mod_readsB_0 (17, .aload_n 0, 1) (List.mem_of_getElem? (i := 8) rfl)
theorem d_Mod_readsB_18 : decode prog_13_method_29_code 18 = .ok (.getfield 220, 3) := id_Mod_readsB_0 (18, .getfield 220, 3) (List.mem_of_getElem? (i := 9) rfl)
theorem d_Mod_readsB_21 : decode prog_13_method_29_code 21 = .ok (.bipush (21), 2) := id_Mod_readsB_0 (21, .bipush (21), 2) (List.mem_of_getElem? (i := 10) rfl)
theorem d_Mod_readsB_23 : decode prog_13_method_29_code 23 = .ok (.if_icmp .eq (48), 3) := id_Mod_readsB_0 (23, .if_icmp .eq (48), 3) (List.mem_of_getElem? (i := 11) rfl)
theorem d_Mod_readsB_26 : decode prog_13_method_29_code 26 = .ok (.aload_n 0, 1) := id_Mod_readsB_0 (26, .aload_n 0, 1) (List.mem_of_getElem? (i := 12) rfl)
theorem d_Mod_readsB_27 : decode prog_13_method_29_code 27 = .ok (.getfield 220, 3) := id_Mod_readsB_0 (27, .getfield 220, 3) (List.mem_of_getElem? (i := 13) rfl)
theorem d_Mod_readsB_30 : decode prog_13_method_29_code 30 = .ok (.bipush (30), 2) := id_Mod_readsB_0 (30, .bipush (30), 2) (List.mem_of_getElem? (i := 14) rfl)
theorem d_Mod_readsB_32 : decode prog_13_method_29_code 32 = .ok (.if_icmp .eq (39), 3) := id_Mod_readsB_0 (32, .if_icmp .eq (39), 3) (List.mem_of_getElem? (i := 15) rfl)
theorem d_Mod_readsB_35 : decode prog_13_method_29_code 35 = .ok (.aload_n 0, 1) := id_Mod_readsB_0 (35, .aload_n 0, 1) (List.mem_of_getElem? (i := 16) rfl)
theorem d_Mod_readsB_36 : decode prog_13_method_29_code 36 = .ok (.getfield 220, 3) := id_Mod_readsB_0 (36, .getfield 220, 3) (List.mem_of_getElem? (i := 17) rfl)
theorem d_Mod_readsB_39 : decode prog_13_method_29_code 39 = .ok (.bipush (31), 2) := id_Mod_readsB_0 (39, .bipush (31), 2) (List.mem_of_getElem? (i := 18) rfl)
theorem d_Mod_readsB_41 : decode prog_13_method_29_code 41 = .ok (.if_icmp .eq (30), 3) := id_Mod_readsB_0 (41, .if_icmp .eq (30), 3) (List.mem_of_getElem? (i := 19) rfl)
theorem d_Mod_readsB_44 : decode prog_13_method_29_code 44 = .ok (.aload_n 0, 1) := id_Mod_readsB_0 (44, .aload_n 0, 1) (List.mem_of_getElem? (i := 20) rfl)
theorem d_Mod_readsB_45 : decode prog_13_method_29_code 45 = .ok (.getfield 220, 3) := id_Mod_readsB_0 (45, .getfield 220, 3) (List.mem_of_getElem? (i := 21) rfl)
theorem d_Mod_readsB_48 : decode prog_13_method_29_code 48 = .ok (.bipush (51), 2) := id_Mod_readsB_0 (48, .bipush (51), 2) (List.mem_of_getElem? (i := 22) rfl)
theorem d_Mod_readsB_50 : decode prog_13_method_29_code 50 = .ok (.if_icmp .eq (21), 3) := id_Mod_readsB_0 (50, .if_icmp .eq (21), 3) (List.mem_of_getElem? (i := 23) rfl)
def it_Mod_readsB_1 : List (Nat × ClassFile.Instr × Nat) := [(53, .aload_n 0, 1), (54, .getfield 220, 3), (57, .bipush (53), 2), (59, .if_icmp .lt (16), 3), (62, .aload_n 0, 1), (63, .getfield 220, 3), (66, .bipush (59), 2), (68, .if_icmp .gt (7), 3), (71, .iconst 1, 1), (72, .goto (4), 3), (75, .iconst 0, 1), (76, .ireturn, 1)]
theorem id_Mod_readsB_1 : ∀ q ∈ it_Mod_readsB_1, decode prog_13_method_29_code q.1 = .ok q.2 := by decide +kernel
theorem d_Mod_readsB_53 : decode prog_13_method_29_code 53 = .ok (.aload_n 0, 1) := id_Mod_readsB_1 (53, .aload_n 0, 1) (List.mem_of_getElem? (i := 0) rfl)
theorem d_Mod_readsB_54 : decode prog_13_method_29_code 54 = .ok (.getfield 220, 3) := id_Mod_readsB_1 (54, .getfield 220, 3) (List.mem_of_getElem? (i := 1) rfl)
theorem d_Mod_readsB_57 : decode prog_13_method_29_code 57 = .ok (.bipush (53), 2) := id_Mod_readsB_1 (57, .bipush (53), 2) (List.mem_of_getElem? (i := 2) rfl)
theorem d_Mod_readsB_59 : decode prog_13_method_29_code 59 = .ok (.if_icmp .lt (16), 3) := id_Mod_readsB_1 (59, .if_icmp .lt (16), 3) (List.mem_of_getElem? (i := 3) rfl)
theorem d_Mod_readsB_62 : decode prog_13_method_29_code 62 = .ok (.aload_n 0, 1) := id_Mod_readsB_1 (62, .aload_n 0, 1) (List.mem_of_getElem? (i := 4) rfl)
theorem d_Mod_readsB_63 : decode prog_13_method_29_code 63 = .ok (.getfield 220, 3) := id_Mod_readsB_1 (63, .getfield 220, 3) (List.mem_of_getElem? (i := 5) rfl)
theorem d_Mod_readsB_66 : decode prog_13_method_29_code 66 = .ok (.bipush (59), 2) := id_Mod_readsB_1 (66, .bipush (59), 2) (List.mem_of_getElem? (i := 6) rfl)
theorem d_Mod_readsB_68 : decode prog_13_method_29_code 68 = .ok (.if_icmp .gt (7), 3) := id_Mod_readsB_1 (68, .if_icmp .gt (7), 3) (List.mem_of_getElem? (i := 7) rfl)
theorem d_Mod_readsB_71 : decode prog_13_method_29_code 71 = .ok (.iconst 1, 1) := id_Mod_readsB_1 (71, .iconst 1, 1) (List.mem_of_getElem? (i := 8) rfl)
theorem d_Mod_readsB_72 : decode prog_13_method_29_code 72 = .ok (.goto (4), 3) := id_Mod_readsB_1 (72, .goto (4), 3) (List.mem_of_getElem? (i := 9) rfl)
theorem d_Mod_readsB_75 : decode prog_13_method_29_code 75 = .ok (.iconst 0, 1) := id_Mod_readsB_1 (75, .iconst 0, 1) (List.mem_of_getElem? (i := 10) rfl)
theorem d_Mod_readsB_76 : decode prog_13_method_29_code 76 = .ok (.ireturn, 1) := id_Mod_readsB_1 (76, .ireturn, 1) (List.mem_of_getElem? (i := 11) rfl)
theorem wC_Mod_readsB : Cond.code ⟨"WarpMillModel", "readsB", "()Z"⟩ prog_13_method_29_code 1 (some .boolean) ∈ lw_tb := mem_tb 1376 (by decide +kernel) rfl
def b_Mod_readsB_71 (F : Nat)  (h : Hp) : Option (Int32 × Hp) := some ((1 : Int32), h)
set_option maxRecDepth 100000 in
set_option maxHeartbeats 4000000 in
theorem e_Mod_readsB_71 {G : Gl} {h0 : Hp} {F : Nat} {r : Int32} {h' : Hp}    {h : Hp} (hf : b_Mod_readsB_71 F  h = some (r, h')) : Go G mi_Mod_readsB h0 (pI r h') h 71 [] [] := by
  unfold b_Mod_readsB_71 at hf
  refine g_iconst 1 d_Mod_readsB_71 (by decide) ?_
  refine g_goto 76 d_Mod_readsB_72 (by decide) ?_
  exact Go.ret (some _) rOk_b1 rfl d_Mod_readsB_76 (pI_of hf)
def b_Mod_readsB_17 (F : Nat) (x0 : Nat) (h : Hp) : Option (Int32 × Hp) := gd (hK h x0 = 12) <| if (hI h 756 x0) = (21 : Int32) then (b_Mod_readsB_71 F h) else (if (hI h 756 x0) = (30 : Int32) then (b_Mod_readsB_71 F h) else (if (hI h 756 x0) = (31 : Int32) then (b_Mod_readsB_71 F h) else (if (hI h 756 x0) = (51 : Int32) then (b_Mod_readsB_71 F h) else (if (hI h 756 x0) < (53 : Int32) then (some ((0 : Int32), h)) else (if (59 : Int32) < (hI h 756 x0) then (some ((0 : Int32), h)) else (b_Mod_readsB_71 F h))))))
set_option maxRecDepth 100000 in
set_option maxHeartbeats 4000000 in
theorem e_Mod_readsB_17 {G : Gl} {h0 : Hp} {F : Nat} {r : Int32} {h' : Hp}   {x0 : Nat} {h : Hp} (hf : b_Mod_readsB_17 F x0 h = some (r, h')) : Go G mi_Mod_readsB h0 (pI r h') h 17 [(0, .ref x0)] [] := by
  unfold b_Mod_readsB_17 at hf
  refine g_aload_n d_Mod_readsB_17 rfl ?_
  obtain ⟨k_18, hf⟩ := gd_s hf
  refine fg_Mod_op lf_Mod_220 d_Mod_readsB_18 k_18 ?_
  refine g_bipush (21) d_Mod_readsB_21 (by decide) ?_
  refine g_icmp_eq 71 d_Mod_readsB_23 (by decide) (fun c_23 => ?_) (fun c_23 => ?_)
  · have hf := ifp hf c_23
    refine Go.locals [] rfl ?_
    have key := e_Mod_readsB_71 (G := G) (h0 := h0)  hf
    exact key
  · have hf := ifn hf c_23
    refine g_aload_n d_Mod_readsB_26 rfl ?_
    refine fg_Mod_op lf_Mod_220 d_Mod_readsB_27 k_18 ?_
    refine g_bipush (30) d_Mod_readsB_30 (by decide) ?_
    refine g_icmp_eq 71 d_Mod_readsB_32 (by decide) (fun c_32 => ?_) (fun c_32 => ?_)
    · have hf := ifp hf c_32
      refine Go.locals [] rfl ?_
      have key := e_Mod_readsB_71 (G := G) (h0 := h0)  hf
      exact key
    · have hf := ifn hf c_32
      refine g_aload_n d_Mod_readsB_35 rfl ?_
      refine fg_Mod_op lf_Mod_220 d_Mod_readsB_36 k_18 ?_
      refine g_bipush (31) d_Mod_readsB_39 (by decide) ?_
      refine g_icmp_eq 71 d_Mod_readsB_41 (by decide) (fun c_41 => ?_) (fun c_41 => ?_)
      · have hf := ifp hf c_41
        refine Go.locals [] rfl ?_
        have key := e_Mod_readsB_71 (G := G) (h0 := h0)  hf
        exact key
      · have hf := ifn hf c_41
        refine g_aload_n d_Mod_readsB_44 rfl ?_
        refine fg_Mod_op lf_Mod_220 d_Mod_readsB_45 k_18 ?_
        refine g_bipush (51) d_Mod_readsB_48 (by decide) ?_
        refine g_icmp_eq 71 d_Mod_readsB_50 (by decide) (fun c_50 => ?_) (fun c_50 => ?_)
        · have hf := ifp hf c_50
          refine Go.locals [] rfl ?_
          have key := e_Mod_readsB_71 (G := G) (h0 := h0)  hf
          exact key
        · have hf := ifn hf c_50
          refine g_aload_n d_Mod_readsB_53 rfl ?_
          refine fg_Mod_op lf_Mod_220 d_Mod_readsB_54 k_18 ?_
          refine g_bipush (53) d_Mod_readsB_57 (by decide) ?_
          refine g_icmp_lt 75 d_Mod_readsB_59 (by decide) (fun c_59 => ?_) (fun c_59 => ?_)
          · have hf := ifp hf c_59
            refine g_iconst 0 d_Mod_readsB_75 (by decide) ?_
            exact Go.ret (some _) rOk_b0 rfl d_Mod_readsB_76 (pI_of hf)
          · have hf := ifn hf c_59
            refine g_aload_n d_Mod_readsB_62 rfl ?_
            refine fg_Mod_op lf_Mod_220 d_Mod_readsB_63 k_18 ?_
            refine g_bipush (59) d_Mod_readsB_66 (by decide) ?_
            refine g_icmp_gt 75 d_Mod_readsB_68 (by decide) (fun c_68 => ?_) (fun c_68 => ?_)
            · have hf := ifp hf c_68
              refine g_iconst 0 d_Mod_readsB_75 (by decide) ?_
              exact Go.ret (some _) rOk_b0 rfl d_Mod_readsB_76 (pI_of hf)
            · have hf := ifn hf c_68
              refine Go.locals [] rfl ?_
              have key := e_Mod_readsB_71 (G := G) (h0 := h0)  hf
              exact key
def f_Mod_readsB (F : Nat) (x0 : Nat) (h : Hp) : Option (Int32 × Hp) := gd (hK h x0 = 12) <| if (hI h 756 x0) < (4 : Int32) then (b_Mod_readsB_17 F x0 h) else (if (hI h 756 x0) ≤ (17 : Int32) then (b_Mod_readsB_71 F h) else (b_Mod_readsB_17 F x0 h))
set_option maxRecDepth 100000 in
set_option maxHeartbeats 4000000 in
theorem e_Mod_readsB {G : Gl} {F : Nat} {r : Int32} {h' : Hp} {x0 : Nat} {h : Hp} (hf : f_Mod_readsB F x0 h = some (r, h')) : Ex G mi_Mod_readsB [.ref x0] h (pI r h') := by
  unfold f_Mod_readsB at hf
  refine Ex.of nmI (by decide) (Nat.le_of_ble_eq_true rfl) ?_
  show Go G mi_Mod_readsB h _ h 0 [(0, .ref x0)] []
  refine g_aload_n d_Mod_readsB_0 rfl ?_
  obtain ⟨k_1, hf⟩ := gd_s hf
  refine fg_Mod_op lf_Mod_220 d_Mod_readsB_1 k_1 ?_
  refine g_iconst 4 d_Mod_readsB_4 (by decide) ?_
  refine g_icmp_lt 17 d_Mod_readsB_5 (by decide) (fun c_5 => ?_) (fun c_5 => ?_)
  · have hf := ifp hf c_5
    have key := e_Mod_readsB_17 (G := G) (h0 := h)  hf
    exact key
  · have hf := ifn hf c_5
    refine g_aload_n d_Mod_readsB_8 rfl ?_
    refine fg_Mod_op lf_Mod_220 d_Mod_readsB_9 k_1 ?_
    refine g_bipush (17) d_Mod_readsB_12 (by decide) ?_
    refine g_icmp_le 71 d_Mod_readsB_14 (by decide) (fun c_14 => ?_) (fun c_14 => ?_)
    · have hf := ifp hf c_14
      refine Go.locals [] rfl ?_
      have key := e_Mod_readsB_71 (G := G) (h0 := h)  hf
      exact key
    · have hf := ifn hf c_14
      have key := e_Mod_readsB_17 (G := G) (h0 := h)  hf
      exact key
abbrev mi_Mod_writesD : MI := (⟨"WarpMillModel", "writesD", "()Z"⟩, prog_13_method_30_code, 1, some .boolean, 0, 0)
def it_Mod_writesD_0 : List (Nat × ClassFile.Instr × Nat) := [(0, .aload_n 0, 1), (1, .getfield 220, 3), (4, .iconst 2, 1), (5, .if_icmp .lt (12), 3), (8, .aload_n 0, 1), (9, .getfield 220, 3), (12, .bipush (21), 2), (14, .if_icmp .le (66), 3), (17, .aload_n 0, 1), (18, .getfield 220, 3), (21, .bipush (41), 2), (23, .if_icmp .eq (57), 3), (26, .aload_n 0, 1), (27, .getfield 220, 3), (30, .bipush (50), 2), (32, .if_icmp .eq (48), 3), (35, .aload_n 0, 1), (36, .getfield 220, 3), (39, .bipush (52), 2), (41, .if_icmp .eq (39), 3), (44, .aload_n 0, 1), (45, .getfield 220, 3), (48, .bipush (54), 2), (50, .if_icmp .lt (12), 3)]
theorem id_Mod_writesD_0 : ∀ q ∈ it_Mod_writesD_0, decode prog_13_method_30_code q.1 = .ok q.2 := by decide +kernel
theorem d_Mod_writesD_0 : decode prog_13_method_30_code 0 = .ok (.aload_n 0, 1) := id_Mod_writesD_0 (0, .aload_n 0, 1) (List.mem_of_getElem? (i := 0) rfl)
theorem d_Mod_writesD_1 : decode prog_13_method_30_code 1 = .ok (.getfield 220, 3) := id_Mod_writesD_0 (1, .getfield 220, 3) (List.mem_of_getElem? (i := 1) rfl)
theorem d_Mod_writesD_4 : decode prog_13_method_30_code 4 = .ok (.iconst 2, 1) := id_Mod_writesD_0 (4, .iconst 2, 1) (List.mem_of_getElem? (i := 2) rfl)
theorem d_Mod_writesD_5 : decode prog_13_method_30_code 5 = .ok (.if_icmp .lt (12), 3) := id_Mod_writesD_0 (5, .if_icmp .lt (12), 3) (List.mem_of_getElem? (i := 3) rfl)
theorem d_Mod_writesD_8 : decode prog_13_method_30_code 8 = .ok (.aload_n 0, 1) := id_Mod_writesD_0 (8, .aload_n 0, 1) (List.mem_of_getElem? (i := 4) rfl)
theorem d_Mod_writesD_9 : decode prog_13_method_30_code 9 = .ok (.getfield 220, 3) := id_Mod_writesD_0 (9, .getfield 220, 3) (List.mem_of_getElem? (i := 5) rfl)
theorem d_Mod_writesD_12 : decode prog_13_method_30_code 12 = .ok (.bipush (21), 2) := id_Mod_writesD_0 (12, .bipush (21), 2) (List.mem_of_getElem? (i := 6) rfl)
theorem d_Mod_writesD_14 : decode prog_13_method_30_code 14 = .ok (.if_icmp .le (66), 3) := id_Mod_writesD_0 (14, .if_icmp .le (66), 3) (List.mem_of_getElem? (i := 7) rfl)
theorem d_Mod_writesD_17 : decode prog_13_method_30_code 17 = .ok (.aload_n 0, 1) := id_Mod_writesD_0 (17, .aload_n 0, 1) (List.mem_of_getElem? (i := 8) rfl)
theorem d_Mod_writesD_18 : decode prog_13_method_30_code 18 = .ok (.getfield 220, 3) := id_Mod_writesD_0 (18, .getfield 220, 3) (List.mem_of_getElem? (i := 9) rfl)
theorem d_Mod_writesD_21 : decode prog_13_method_30_code 21 = .ok (.bipush (41), 2) := id_Mod_writesD_0 (21, .bipush (41), 2) (List.mem_of_getElem? (i := 10) rfl)
theorem d_Mod_writesD_23 : decode prog_13_method_30_code 23 = .ok (.if_icmp .eq (57), 3) := id_Mod_writesD_0 (23, .if_icmp .eq (57), 3) (List.mem_of_getElem? (i := 11) rfl)
theorem d_Mod_writesD_26 : decode prog_13_method_30_code 26 = .ok (.aload_n 0, 1) := id_Mod_writesD_0 (26, .aload_n 0, 1) (List.mem_of_getElem? (i := 12) rfl)
theorem d_Mod_writesD_27 : decode prog_13_method_30_code 27 = .ok (.getfield 220, 3) := id_Mod_writesD_0 (27, .getfield 220, 3) (List.mem_of_getElem? (i := 13) rfl)
theorem d_Mod_writesD_30 : decode prog_13_method_30_code 30 = .ok (.bipush (50), 2) := id_Mod_writesD_0 (30, .bipush (50), 2) (List.mem_of_getElem? (i := 14) rfl)
theorem d_Mod_writesD_32 : decode prog_13_method_30_code 32 = .ok (.if_icmp .eq (48), 3) := id_Mod_writesD_0 (32, .if_icmp .eq (48), 3) (List.mem_of_getElem? (i := 15) rfl)
theorem d_Mod_writesD_35 : decode prog_13_method_30_code 35 = .ok (.aload_n 0, 1) := id_Mod_writesD_0 (35, .aload_n 0, 1) (List.mem_of_getElem? (i := 16) rfl)
theorem d_Mod_writesD_36 : decode prog_13_method_30_code 36 = .ok (.getfield 220, 3) := id_Mod_writesD_0 (36, .getfield 220, 3) (List.mem_of_getElem? (i := 17) rfl)
theorem d_Mod_writesD_39 : decode prog_13_method_30_code 39 = .ok (.bipush (52), 2) := id_Mod_writesD_0 (39, .bipush (52), 2) (List.mem_of_getElem? (i := 18) rfl)
theorem d_Mod_writesD_41 : decode prog_13_method_30_code 41 = .ok (.if_icmp .eq (39), 3) := id_Mod_writesD_0 (41, .if_icmp .eq (39), 3) (List.mem_of_getElem? (i := 19) rfl)
theorem d_Mod_writesD_44 : decode prog_13_method_30_code 44 = .ok (.aload_n 0, 1) := id_Mod_writesD_0 (44, .aload_n 0, 1) (List.mem_of_getElem? (i := 20) rfl)
theorem d_Mod_writesD_45 : decode prog_13_method_30_code 45 = .ok (.getfield 220, 3) := id_Mod_writesD_0 (45, .getfield 220, 3) (List.mem_of_getElem? (i := 21) rfl)
theorem d_Mod_writesD_48 : decode prog_13_method_30_code 48 = .ok (.bipush (54), 2) := id_Mod_writesD_0 (48, .bipush (54), 2) (List.mem_of_getElem? (i := 22) rfl)
theorem d_Mod_writesD_50 : decode prog_13_method_30_code 50 = .ok (.if_icmp .lt (12), 3) := id_Mod_writesD_0 (50, .if_icmp .lt (12), 3) (List.mem_of_getElem? (i := 23) rfl)
def it_Mod_writesD_1 : List (Nat × ClassFile.Instr × Nat) := [(53, .aload_n 0, 1), (54, .getfield 220, 3), (57, .bipush (59), 2), (59, .if_icmp .le (21), 3), (62, .aload_n 0, 1), (63, .getfield 220, 3), (66, .bipush (72), 2), (68, .if_icmp .eq (12), 3), (71, .aload_n 0, 1), (72, .getfield 220, 3), (75, .bipush (73), 2), (77, .if_icmp .ne (7), 3), (80, .iconst 1, 1), (81, .goto (4), 3), (84, .iconst 0, 1), (85, .ireturn, 1)]
theorem id_Mod_writesD_1 : ∀ q ∈ it_Mod_writesD_1, decode prog_13_method_30_code q.1 = .ok q.2 := by decide +kernel
theorem d_Mod_writesD_53 : decode prog_13_method_30_code 53 = .ok (.aload_n 0, 1) := id_Mod_writesD_1 (53, .aload_n 0, 1) (List.mem_of_getElem? (i := 0) rfl)
theorem d_Mod_writesD_54 : decode prog_13_method_30_code 54 = .ok (.getfield 220, 3) := id_Mod_writesD_1 (54, .getfield 220, 3) (List.mem_of_getElem? (i := 1) rfl)
theorem d_Mod_writesD_57 : decode prog_13_method_30_code 57 = .ok (.bipush (59), 2) := id_Mod_writesD_1 (57, .bipush (59), 2) (List.mem_of_getElem? (i := 2) rfl)
theorem d_Mod_writesD_59 : decode prog_13_method_30_code 59 = .ok (.if_icmp .le (21), 3) := id_Mod_writesD_1 (59, .if_icmp .le (21), 3) (List.mem_of_getElem? (i := 3) rfl)
theorem d_Mod_writesD_62 : decode prog_13_method_30_code 62 = .ok (.aload_n 0, 1) := id_Mod_writesD_1 (62, .aload_n 0, 1) (List.mem_of_getElem? (i := 4) rfl)
theorem d_Mod_writesD_63 : decode prog_13_method_30_code 63 = .ok (.getfield 220, 3) := id_Mod_writesD_1 (63, .getfield 220, 3) (List.mem_of_getElem? (i := 5) rfl)
theorem d_Mod_writesD_66 : decode prog_13_method_30_code 66 = .ok (.bipush (72), 2) := id_Mod_writesD_1 (66, .bipush (72), 2) (List.mem_of_getElem? (i := 6) rfl)
theorem d_Mod_writesD_68 : decode prog_13_method_30_code 68 = .ok (.if_icmp .eq (12), 3) := id_Mod_writesD_1 (68, .if_icmp .eq (12), 3) (List.mem_of_getElem? (i := 7) rfl)
theorem d_Mod_writesD_71 : decode prog_13_method_30_code 71 = .ok (.aload_n 0, 1) := id_Mod_writesD_1 (71, .aload_n 0, 1) (List.mem_of_getElem? (i := 8) rfl)
theorem d_Mod_writesD_72 : decode prog_13_method_30_code 72 = .ok (.getfield 220, 3) := id_Mod_writesD_1 (72, .getfield 220, 3) (List.mem_of_getElem? (i := 9) rfl)
theorem d_Mod_writesD_75 : decode prog_13_method_30_code 75 = .ok (.bipush (73), 2) := id_Mod_writesD_1 (75, .bipush (73), 2) (List.mem_of_getElem? (i := 10) rfl)
theorem d_Mod_writesD_77 : decode prog_13_method_30_code 77 = .ok (.if_icmp .ne (7), 3) := id_Mod_writesD_1 (77, .if_icmp .ne (7), 3) (List.mem_of_getElem? (i := 11) rfl)
theorem d_Mod_writesD_80 : decode prog_13_method_30_code 80 = .ok (.iconst 1, 1) := id_Mod_writesD_1 (80, .iconst 1, 1) (List.mem_of_getElem? (i := 12) rfl)
theorem d_Mod_writesD_81 : decode prog_13_method_30_code 81 = .ok (.goto (4), 3) := id_Mod_writesD_1 (81, .goto (4), 3) (List.mem_of_getElem? (i := 13) rfl)
theorem d_Mod_writesD_84 : decode prog_13_method_30_code 84 = .ok (.iconst 0, 1) := id_Mod_writesD_1 (84, .iconst 0, 1) (List.mem_of_getElem? (i := 14) rfl)
theorem d_Mod_writesD_85 : decode prog_13_method_30_code 85 = .ok (.ireturn, 1) := id_Mod_writesD_1 (85, .ireturn, 1) (List.mem_of_getElem? (i := 15) rfl)
theorem wC_Mod_writesD : Cond.code ⟨"WarpMillModel", "writesD", "()Z"⟩ prog_13_method_30_code 1 (some .boolean) ∈ lw_tb := mem_tb 1380 (by decide +kernel) rfl
def b_Mod_writesD_80 (F : Nat)  (h : Hp) : Option (Int32 × Hp) := some ((1 : Int32), h)
set_option maxRecDepth 100000 in
set_option maxHeartbeats 4000000 in
theorem e_Mod_writesD_80 {G : Gl} {h0 : Hp} {F : Nat} {r : Int32} {h' : Hp}    {h : Hp} (hf : b_Mod_writesD_80 F  h = some (r, h')) : Go G mi_Mod_writesD h0 (pI r h') h 80 [] [] := by
  unfold b_Mod_writesD_80 at hf
  refine g_iconst 1 d_Mod_writesD_80 (by decide) ?_
  refine g_goto 85 d_Mod_writesD_81 (by decide) ?_
  exact Go.ret (some _) rOk_b1 rfl d_Mod_writesD_85 (pI_of hf)
def b_Mod_writesD_62 (F : Nat) (x0 : Nat) (h : Hp) : Option (Int32 × Hp) := gd (hK h x0 = 12) <| if (hI h 756 x0) = (72 : Int32) then (b_Mod_writesD_80 F h) else (if (hI h 756 x0) = (73 : Int32) then (b_Mod_writesD_80 F h) else (some ((0 : Int32), h)))
set_option maxRecDepth 100000 in
set_option maxHeartbeats 4000000 in
theorem e_Mod_writesD_62 {G : Gl} {h0 : Hp} {F : Nat} {r : Int32} {h' : Hp}   {x0 : Nat} {h : Hp} (hf : b_Mod_writesD_62 F x0 h = some (r, h')) : Go G mi_Mod_writesD h0 (pI r h') h 62 [(0, .ref x0)] [] := by
  unfold b_Mod_writesD_62 at hf
  refine g_aload_n d_Mod_writesD_62 rfl ?_
  obtain ⟨k_63, hf⟩ := gd_s hf
  refine fg_Mod_op lf_Mod_220 d_Mod_writesD_63 k_63 ?_
  refine g_bipush (72) d_Mod_writesD_66 (by decide) ?_
  refine g_icmp_eq 80 d_Mod_writesD_68 (by decide) (fun c_68 => ?_) (fun c_68 => ?_)
  · have hf := ifp hf c_68
    refine Go.locals [] rfl ?_
    have key := e_Mod_writesD_80 (G := G) (h0 := h0)  hf
    exact key
  · have hf := ifn hf c_68
    refine g_aload_n d_Mod_writesD_71 rfl ?_
    refine fg_Mod_op lf_Mod_220 d_Mod_writesD_72 k_63 ?_
    refine g_bipush (73) d_Mod_writesD_75 (by decide) ?_
    refine g_icmp_ne 84 d_Mod_writesD_77 (by decide) (fun c_77 => ?_) (fun c_77 => ?_)
    · have hf := ifn hf c_77
      refine g_iconst 0 d_Mod_writesD_84 (by decide) ?_
      exact Go.ret (some _) rOk_b0 rfl d_Mod_writesD_85 (pI_of hf)
    · have hf := ifp hf c_77
      refine Go.locals [] rfl ?_
      have key := e_Mod_writesD_80 (G := G) (h0 := h0)  hf
      exact key
def b_Mod_writesD_17 (F : Nat) (x0 : Nat) (h : Hp) : Option (Int32 × Hp) := gd (hK h x0 = 12) <| if (hI h 756 x0) = (41 : Int32) then (b_Mod_writesD_80 F h) else (if (hI h 756 x0) = (50 : Int32) then (b_Mod_writesD_80 F h) else (if (hI h 756 x0) = (52 : Int32) then (b_Mod_writesD_80 F h) else (if (hI h 756 x0) < (54 : Int32) then (b_Mod_writesD_62 F x0 h) else (if (hI h 756 x0) ≤ (59 : Int32) then (b_Mod_writesD_80 F h) else (b_Mod_writesD_62 F x0 h)))))
set_option maxRecDepth 100000 in
set_option maxHeartbeats 4000000 in
theorem e_Mod_writesD_17 {G : Gl} {h0 : Hp} {F : Nat} {r : Int32} {h' : Hp}   {x0 : Nat} {h : Hp} (hf : b_Mod_writesD_17 F x0 h = some (r, h')) : Go G mi_Mod_writesD h0 (pI r h') h 17 [(0, .ref x0)] [] := by
  unfold b_Mod_writesD_17 at hf
  refine g_aload_n d_Mod_writesD_17 rfl ?_
  obtain ⟨k_18, hf⟩ := gd_s hf
  refine fg_Mod_op lf_Mod_220 d_Mod_writesD_18 k_18 ?_
  refine g_bipush (41) d_Mod_writesD_21 (by decide) ?_
  refine g_icmp_eq 80 d_Mod_writesD_23 (by decide) (fun c_23 => ?_) (fun c_23 => ?_)
  · have hf := ifp hf c_23
    refine Go.locals [] rfl ?_
    have key := e_Mod_writesD_80 (G := G) (h0 := h0)  hf
    exact key
  · have hf := ifn hf c_23
    refine g_aload_n d_Mod_writesD_26 rfl ?_
    refine fg_Mod_op lf_Mod_220 d_Mod_writesD_27 k_18 ?_
    refine g_bipush (50) d_Mod_writesD_30 (by decide) ?_
    refine g_icmp_eq 80 d_Mod_writesD_32 (by decide) (fun c_32 => ?_) (fun c_32 => ?_)
    · have hf := ifp hf c_32
      refine Go.locals [] rfl ?_
      have key := e_Mod_writesD_80 (G := G) (h0 := h0)  hf
      exact key
    · have hf := ifn hf c_32
      refine g_aload_n d_Mod_writesD_35 rfl ?_
      refine fg_Mod_op lf_Mod_220 d_Mod_writesD_36 k_18 ?_
      refine g_bipush (52) d_Mod_writesD_39 (by decide) ?_
      refine g_icmp_eq 80 d_Mod_writesD_41 (by decide) (fun c_41 => ?_) (fun c_41 => ?_)
      · have hf := ifp hf c_41
        refine Go.locals [] rfl ?_
        have key := e_Mod_writesD_80 (G := G) (h0 := h0)  hf
        exact key
      · have hf := ifn hf c_41
        refine g_aload_n d_Mod_writesD_44 rfl ?_
        refine fg_Mod_op lf_Mod_220 d_Mod_writesD_45 k_18 ?_
        refine g_bipush (54) d_Mod_writesD_48 (by decide) ?_
        refine g_icmp_lt 62 d_Mod_writesD_50 (by decide) (fun c_50 => ?_) (fun c_50 => ?_)
        · have hf := ifp hf c_50
          have key := e_Mod_writesD_62 (G := G) (h0 := h0)  hf
          exact key
        · have hf := ifn hf c_50
          refine g_aload_n d_Mod_writesD_53 rfl ?_
          refine fg_Mod_op lf_Mod_220 d_Mod_writesD_54 k_18 ?_
          refine g_bipush (59) d_Mod_writesD_57 (by decide) ?_
          refine g_icmp_le 80 d_Mod_writesD_59 (by decide) (fun c_59 => ?_) (fun c_59 => ?_)
          · have hf := ifp hf c_59
            refine Go.locals [] rfl ?_
            have key := e_Mod_writesD_80 (G := G) (h0 := h0)  hf
            exact key
          · have hf := ifn hf c_59
            have key := e_Mod_writesD_62 (G := G) (h0 := h0)  hf
            exact key
def f_Mod_writesD (F : Nat) (x0 : Nat) (h : Hp) : Option (Int32 × Hp) := gd (hK h x0 = 12) <| if (hI h 756 x0) < (2 : Int32) then (b_Mod_writesD_17 F x0 h) else (if (hI h 756 x0) ≤ (21 : Int32) then (b_Mod_writesD_80 F h) else (b_Mod_writesD_17 F x0 h))
set_option maxRecDepth 100000 in
set_option maxHeartbeats 4000000 in
theorem e_Mod_writesD {G : Gl} {F : Nat} {r : Int32} {h' : Hp} {x0 : Nat} {h : Hp} (hf : f_Mod_writesD F x0 h = some (r, h')) : Ex G mi_Mod_writesD [.ref x0] h (pI r h') := by
  unfold f_Mod_writesD at hf
  refine Ex.of nmI (by decide) (Nat.le_of_ble_eq_true rfl) ?_
  show Go G mi_Mod_writesD h _ h 0 [(0, .ref x0)] []
  refine g_aload_n d_Mod_writesD_0 rfl ?_
  obtain ⟨k_1, hf⟩ := gd_s hf
  refine fg_Mod_op lf_Mod_220 d_Mod_writesD_1 k_1 ?_
  refine g_iconst 2 d_Mod_writesD_4 (by decide) ?_
  refine g_icmp_lt 17 d_Mod_writesD_5 (by decide) (fun c_5 => ?_) (fun c_5 => ?_)
  · have hf := ifp hf c_5
    have key := e_Mod_writesD_17 (G := G) (h0 := h)  hf
    exact key
  · have hf := ifn hf c_5
    refine g_aload_n d_Mod_writesD_8 rfl ?_
    refine fg_Mod_op lf_Mod_220 d_Mod_writesD_9 k_1 ?_
    refine g_bipush (21) d_Mod_writesD_12 (by decide) ?_
    refine g_icmp_le 80 d_Mod_writesD_14 (by decide) (fun c_14 => ?_) (fun c_14 => ?_)
    · have hf := ifp hf c_14
      refine Go.locals [] rfl ?_
      have key := e_Mod_writesD_80 (G := G) (h0 := h)  hf
      exact key
    · have hf := ifn hf c_14
      have key := e_Mod_writesD_17 (G := G) (h0 := h)  hf
      exact key
abbrev mi_Mod_writesPredicate : MI := (⟨"WarpMillModel", "writesPredicate", "()Z"⟩, prog_13_method_31_code, 1, some .boolean, 0, 0)
def it_Mod_writesPredicate_0 : List (Nat × ClassFile.Instr × Nat) := [(0, .aload_n 0, 1), (1, .getfield 220, 3), (4, .bipush (30), 2), (6, .if_icmp .lt (12), 3), (9, .aload_n 0, 1), (10, .getfield 220, 3), (13, .bipush (36), 2), (15, .if_icmp .le (21), 3), (18, .aload_n 0, 1), (19, .getfield 220, 3), (22, .bipush (70), 2), (24, .if_icmp .eq (12), 3), (27, .aload_n 0, 1), (28, .getfield 220, 3), (31, .bipush (71), 2), (33, .if_icmp .ne (7), 3), (36, .iconst 1, 1), (37, .goto (4), 3), (40, .iconst 0, 1), (41, .ireturn, 1)]
theorem id_Mod_writesPredicate_0 : ∀ q ∈ it_Mod_writesPredicate_0, decode prog_13_method_31_code q.1 = .ok q.2 := by decide +kernel
theorem d_Mod_writesPredicate_0 : decode prog_13_method_31_code 0 = .ok (.aload_n 0, 1) := id_Mod_writesPredicate_0 (0, .aload_n 0, 1) (List.mem_of_getElem? (i := 0) rfl)
theorem d_Mod_writesPredicate_1 : decode prog_13_method_31_code 1 = .ok (.getfield 220, 3) := id_Mod_writesPredicate_0 (1, .getfield 220, 3) (List.mem_of_getElem? (i := 1) rfl)
theorem d_Mod_writesPredicate_4 : decode prog_13_method_31_code 4 = .ok (.bipush (30), 2) := id_Mod_writesPredicate_0 (4, .bipush (30), 2) (List.mem_of_getElem? (i := 2) rfl)
theorem d_Mod_writesPredicate_6 : decode prog_13_method_31_code 6 = .ok (.if_icmp .lt (12), 3) := id_Mod_writesPredicate_0 (6, .if_icmp .lt (12), 3) (List.mem_of_getElem? (i := 3) rfl)
theorem d_Mod_writesPredicate_9 : decode prog_13_method_31_code 9 = .ok (.aload_n 0, 1) := id_Mod_writesPredicate_0 (9, .aload_n 0, 1) (List.mem_of_getElem? (i := 4) rfl)
theorem d_Mod_writesPredicate_10 : decode prog_13_method_31_code 10 = .ok (.getfield 220, 3) := id_Mod_writesPredicate_0 (10, .getfield 220, 3) (List.mem_of_getElem? (i := 5) rfl)
theorem d_Mod_writesPredicate_13 : decode prog_13_method_31_code 13 = .ok (.bipush (36), 2) := id_Mod_writesPredicate_0 (13, .bipush (36), 2) (List.mem_of_getElem? (i := 6) rfl)
theorem d_Mod_writesPredicate_15 : decode prog_13_method_31_code 15 = .ok (.if_icmp .le (21), 3) := id_Mod_writesPredicate_0 (15, .if_icmp .le (21), 3) (List.mem_of_getElem? (i := 7) rfl)
theorem d_Mod_writesPredicate_18 : decode prog_13_method_31_code 18 = .ok (.aload_n 0, 1) := id_Mod_writesPredicate_0 (18, .aload_n 0, 1) (List.mem_of_getElem? (i := 8) rfl)
theorem d_Mod_writesPredicate_19 : decode prog_13_method_31_code 19 = .ok (.getfield 220, 3) := id_Mod_writesPredicate_0 (19, .getfield 220, 3) (List.mem_of_getElem? (i := 9) rfl)
theorem d_Mod_writesPredicate_22 : decode prog_13_method_31_code 22 = .ok (.bipush (70), 2) := id_Mod_writesPredicate_0 (22, .bipush (70), 2) (List.mem_of_getElem? (i := 10) rfl)
theorem d_Mod_writesPredicate_24 : decode prog_13_method_31_code 24 = .ok (.if_icmp .eq (12), 3) := id_Mod_writesPredicate_0 (24, .if_icmp .eq (12), 3) (List.mem_of_getElem? (i := 11) rfl)
theorem d_Mod_writesPredicate_27 : decode prog_13_method_31_code 27 = .ok (.aload_n 0, 1) := id_Mod_writesPredicate_0 (27, .aload_n 0, 1) (List.mem_of_getElem? (i := 12) rfl)
theorem d_Mod_writesPredicate_28 : decode prog_13_method_31_code 28 = .ok (.getfield 220, 3) := id_Mod_writesPredicate_0 (28, .getfield 220, 3) (List.mem_of_getElem? (i := 13) rfl)
theorem d_Mod_writesPredicate_31 : decode prog_13_method_31_code 31 = .ok (.bipush (71), 2) := id_Mod_writesPredicate_0 (31, .bipush (71), 2) (List.mem_of_getElem? (i := 14) rfl)
theorem d_Mod_writesPredicate_33 : decode prog_13_method_31_code 33 = .ok (.if_icmp .ne (7), 3) := id_Mod_writesPredicate_0 (33, .if_icmp .ne (7), 3) (List.mem_of_getElem? (i := 15) rfl)
theorem d_Mod_writesPredicate_36 : decode prog_13_method_31_code 36 = .ok (.iconst 1, 1) := id_Mod_writesPredicate_0 (36, .iconst 1, 1) (List.mem_of_getElem? (i := 16) rfl)
theorem d_Mod_writesPredicate_37 : decode prog_13_method_31_code 37 = .ok (.goto (4), 3) := id_Mod_writesPredicate_0 (37, .goto (4), 3) (List.mem_of_getElem? (i := 17) rfl)
theorem d_Mod_writesPredicate_40 : decode prog_13_method_31_code 40 = .ok (.iconst 0, 1) := id_Mod_writesPredicate_0 (40, .iconst 0, 1) (List.mem_of_getElem? (i := 18) rfl)
theorem d_Mod_writesPredicate_41 : decode prog_13_method_31_code 41 = .ok (.ireturn, 1) := id_Mod_writesPredicate_0 (41, .ireturn, 1) (List.mem_of_getElem? (i := 19) rfl)
theorem wC_Mod_writesPredicate : Cond.code ⟨"WarpMillModel", "writesPredicate", "()Z"⟩ prog_13_method_31_code 1 (some .boolean) ∈ lw_tb := mem_tb 1384 (by decide +kernel) rfl
def b_Mod_writesPredicate_36 (F : Nat)  (h : Hp) : Option (Int32 × Hp) := some ((1 : Int32), h)
set_option maxRecDepth 100000 in
set_option maxHeartbeats 4000000 in
theorem e_Mod_writesPredicate_36 {G : Gl} {h0 : Hp} {F : Nat} {r : Int32} {h' : Hp}    {h : Hp} (hf : b_Mod_writesPredicate_36 F  h = some (r, h')) : Go G mi_Mod_writesPredicate h0 (pI r h') h 36 [] [] := by
  unfold b_Mod_writesPredicate_36 at hf
  refine g_iconst 1 d_Mod_writesPredicate_36 (by decide) ?_
  refine g_goto 41 d_Mod_writesPredicate_37 (by decide) ?_
  exact Go.ret (some _) rOk_b1 rfl d_Mod_writesPredicate_41 (pI_of hf)
def b_Mod_writesPredicate_18 (F : Nat) (x0 : Nat) (h : Hp) : Option (Int32 × Hp) := gd (hK h x0 = 12) <| if (hI h 756 x0) = (70 : Int32) then (b_Mod_writesPredicate_36 F h) else (if (hI h 756 x0) = (71 : Int32) then (b_Mod_writesPredicate_36 F h) else (some ((0 : Int32), h)))
set_option maxRecDepth 100000 in
set_option maxHeartbeats 4000000 in
theorem e_Mod_writesPredicate_18 {G : Gl} {h0 : Hp} {F : Nat} {r : Int32} {h' : Hp}   {x0 : Nat} {h : Hp} (hf : b_Mod_writesPredicate_18 F x0 h = some (r, h')) : Go G mi_Mod_writesPredicate h0 (pI r h') h 18 [(0, .ref x0)] [] := by
  unfold b_Mod_writesPredicate_18 at hf
  refine g_aload_n d_Mod_writesPredicate_18 rfl ?_
  obtain ⟨k_19, hf⟩ := gd_s hf
  refine fg_Mod_op lf_Mod_220 d_Mod_writesPredicate_19 k_19 ?_
  refine g_bipush (70) d_Mod_writesPredicate_22 (by decide) ?_
  refine g_icmp_eq 36 d_Mod_writesPredicate_24 (by decide) (fun c_24 => ?_) (fun c_24 => ?_)
  · have hf := ifp hf c_24
    refine Go.locals [] rfl ?_
    have key := e_Mod_writesPredicate_36 (G := G) (h0 := h0)  hf
    exact key
  · have hf := ifn hf c_24
    refine g_aload_n d_Mod_writesPredicate_27 rfl ?_
    refine fg_Mod_op lf_Mod_220 d_Mod_writesPredicate_28 k_19 ?_
    refine g_bipush (71) d_Mod_writesPredicate_31 (by decide) ?_
    refine g_icmp_ne 40 d_Mod_writesPredicate_33 (by decide) (fun c_33 => ?_) (fun c_33 => ?_)
    · have hf := ifn hf c_33
      refine g_iconst 0 d_Mod_writesPredicate_40 (by decide) ?_
      exact Go.ret (some _) rOk_b0 rfl d_Mod_writesPredicate_41 (pI_of hf)
    · have hf := ifp hf c_33
      refine Go.locals [] rfl ?_
      have key := e_Mod_writesPredicate_36 (G := G) (h0 := h0)  hf
      exact key
def f_Mod_writesPredicate (F : Nat) (x0 : Nat) (h : Hp) : Option (Int32 × Hp) := gd (hK h x0 = 12) <| if (hI h 756 x0) < (30 : Int32) then (b_Mod_writesPredicate_18 F x0 h) else (if (hI h 756 x0) ≤ (36 : Int32) then (b_Mod_writesPredicate_36 F h) else (b_Mod_writesPredicate_18 F x0 h))
set_option maxRecDepth 100000 in
set_option maxHeartbeats 4000000 in
theorem e_Mod_writesPredicate {G : Gl} {F : Nat} {r : Int32} {h' : Hp} {x0 : Nat} {h : Hp} (hf : f_Mod_writesPredicate F x0 h = some (r, h')) : Ex G mi_Mod_writesPredicate [.ref x0] h (pI r h') := by
  unfold f_Mod_writesPredicate at hf
  refine Ex.of nmI (by decide) (Nat.le_of_ble_eq_true rfl) ?_
  show Go G mi_Mod_writesPredicate h _ h 0 [(0, .ref x0)] []
  refine g_aload_n d_Mod_writesPredicate_0 rfl ?_
  obtain ⟨k_1, hf⟩ := gd_s hf
  refine fg_Mod_op lf_Mod_220 d_Mod_writesPredicate_1 k_1 ?_
  refine g_bipush (30) d_Mod_writesPredicate_4 (by decide) ?_
  refine g_icmp_lt 18 d_Mod_writesPredicate_6 (by decide) (fun c_6 => ?_) (fun c_6 => ?_)
  · have hf := ifp hf c_6
    have key := e_Mod_writesPredicate_18 (G := G) (h0 := h)  hf
    exact key
  · have hf := ifn hf c_6
    refine g_aload_n d_Mod_writesPredicate_9 rfl ?_
    refine fg_Mod_op lf_Mod_220 d_Mod_writesPredicate_10 k_1 ?_
    refine g_bipush (36) d_Mod_writesPredicate_13 (by decide) ?_
    refine g_icmp_le 36 d_Mod_writesPredicate_15 (by decide) (fun c_15 => ?_) (fun c_15 => ?_)
    · have hf := ifp hf c_15
      refine Go.locals [] rfl ?_
      have key := e_Mod_writesPredicate_36 (G := G) (h0 := h)  hf
      exact key
    · have hf := ifn hf c_15
      have key := e_Mod_writesPredicate_18 (G := G) (h0 := h)  hf
      exact key
abbrev mi_Mod_isShared : MI := (⟨"WarpMillModel", "isShared", "()Z"⟩, prog_13_method_27_code, 1, some .boolean, 0, 0)
def it_Mod_isShared_0 : List (Nat × ClassFile.Instr × Nat) := [(0, .aload_n 0, 1), (1, .getfield 220, 3), (4, .bipush (52), 2), (6, .if_icmp .eq (30), 3), (9, .aload_n 0, 1), (10, .getfield 220, 3), (13, .bipush (53), 2), (15, .if_icmp .eq (21), 3), (18, .aload_n 0, 1), (19, .getfield 220, 3), (22, .bipush (58), 2), (24, .if_icmp .eq (12), 3), (27, .aload_n 0, 1), (28, .getfield 220, 3), (31, .bipush (59), 2), (33, .if_icmp .ne (7), 3), (36, .iconst 1, 1), (37, .goto (4), 3), (40, .iconst 0, 1), (41, .ireturn, 1)]
theorem id_Mod_isShared_0 : ∀ q ∈ it_Mod_isShared_0, decode prog_13_method_27_code q.1 = .ok q.2 := by decide +kernel
theorem d_Mod_isShared_0 : decode prog_13_method_27_code 0 = .ok (.aload_n 0, 1) := id_Mod_isShared_0 (0, .aload_n 0, 1) (List.mem_of_getElem? (i := 0) rfl)
theorem d_Mod_isShared_1 : decode prog_13_method_27_code 1 = .ok (.getfield 220, 3) := id_Mod_isShared_0 (1, .getfield 220, 3) (List.mem_of_getElem? (i := 1) rfl)
theorem d_Mod_isShared_4 : decode prog_13_method_27_code 4 = .ok (.bipush (52), 2) := id_Mod_isShared_0 (4, .bipush (52), 2) (List.mem_of_getElem? (i := 2) rfl)
theorem d_Mod_isShared_6 : decode prog_13_method_27_code 6 = .ok (.if_icmp .eq (30), 3) := id_Mod_isShared_0 (6, .if_icmp .eq (30), 3) (List.mem_of_getElem? (i := 3) rfl)
theorem d_Mod_isShared_9 : decode prog_13_method_27_code 9 = .ok (.aload_n 0, 1) := id_Mod_isShared_0 (9, .aload_n 0, 1) (List.mem_of_getElem? (i := 4) rfl)
theorem d_Mod_isShared_10 : decode prog_13_method_27_code 10 = .ok (.getfield 220, 3) := id_Mod_isShared_0 (10, .getfield 220, 3) (List.mem_of_getElem? (i := 5) rfl)
theorem d_Mod_isShared_13 : decode prog_13_method_27_code 13 = .ok (.bipush (53), 2) := id_Mod_isShared_0 (13, .bipush (53), 2) (List.mem_of_getElem? (i := 6) rfl)
theorem d_Mod_isShared_15 : decode prog_13_method_27_code 15 = .ok (.if_icmp .eq (21), 3) := id_Mod_isShared_0 (15, .if_icmp .eq (21), 3) (List.mem_of_getElem? (i := 7) rfl)
theorem d_Mod_isShared_18 : decode prog_13_method_27_code 18 = .ok (.aload_n 0, 1) := id_Mod_isShared_0 (18, .aload_n 0, 1) (List.mem_of_getElem? (i := 8) rfl)
theorem d_Mod_isShared_19 : decode prog_13_method_27_code 19 = .ok (.getfield 220, 3) := id_Mod_isShared_0 (19, .getfield 220, 3) (List.mem_of_getElem? (i := 9) rfl)
theorem d_Mod_isShared_22 : decode prog_13_method_27_code 22 = .ok (.bipush (58), 2) := id_Mod_isShared_0 (22, .bipush (58), 2) (List.mem_of_getElem? (i := 10) rfl)
theorem d_Mod_isShared_24 : decode prog_13_method_27_code 24 = .ok (.if_icmp .eq (12), 3) := id_Mod_isShared_0 (24, .if_icmp .eq (12), 3) (List.mem_of_getElem? (i := 11) rfl)
theorem d_Mod_isShared_27 : decode prog_13_method_27_code 27 = .ok (.aload_n 0, 1) := id_Mod_isShared_0 (27, .aload_n 0, 1) (List.mem_of_getElem? (i := 12) rfl)
theorem d_Mod_isShared_28 : decode prog_13_method_27_code 28 = .ok (.getfield 220, 3) := id_Mod_isShared_0 (28, .getfield 220, 3) (List.mem_of_getElem? (i := 13) rfl)
theorem d_Mod_isShared_31 : decode prog_13_method_27_code 31 = .ok (.bipush (59), 2) := id_Mod_isShared_0 (31, .bipush (59), 2) (List.mem_of_getElem? (i := 14) rfl)
theorem d_Mod_isShared_33 : decode prog_13_method_27_code 33 = .ok (.if_icmp .ne (7), 3) := id_Mod_isShared_0 (33, .if_icmp .ne (7), 3) (List.mem_of_getElem? (i := 15) rfl)
theorem d_Mod_isShared_36 : decode prog_13_method_27_code 36 = .ok (.iconst 1, 1) := id_Mod_isShared_0 (36, .iconst 1, 1) (List.mem_of_getElem? (i := 16) rfl)
theorem d_Mod_isShared_37 : decode prog_13_method_27_code 37 = .ok (.goto (4), 3) := id_Mod_isShared_0 (37, .goto (4), 3) (List.mem_of_getElem? (i := 17) rfl)
theorem d_Mod_isShared_40 : decode prog_13_method_27_code 40 = .ok (.iconst 0, 1) := id_Mod_isShared_0 (40, .iconst 0, 1) (List.mem_of_getElem? (i := 18) rfl)
theorem d_Mod_isShared_41 : decode prog_13_method_27_code 41 = .ok (.ireturn, 1) := id_Mod_isShared_0 (41, .ireturn, 1) (List.mem_of_getElem? (i := 19) rfl)
theorem wC_Mod_isShared : Cond.code ⟨"WarpMillModel", "isShared", "()Z"⟩ prog_13_method_27_code 1 (some .boolean) ∈ lw_tb := mem_tb 1388 (by decide +kernel) rfl
def b_Mod_isShared_36 (F : Nat)  (h : Hp) : Option (Int32 × Hp) := some ((1 : Int32), h)
set_option maxRecDepth 100000 in
set_option maxHeartbeats 4000000 in
theorem e_Mod_isShared_36 {G : Gl} {h0 : Hp} {F : Nat} {r : Int32} {h' : Hp}    {h : Hp} (hf : b_Mod_isShared_36 F  h = some (r, h')) : Go G mi_Mod_isShared h0 (pI r h') h 36 [] [] := by
  unfold b_Mod_isShared_36 at hf
  refine g_iconst 1 d_Mod_isShared_36 (by decide) ?_
  refine g_goto 41 d_Mod_isShared_37 (by decide) ?_
  exact Go.ret (some _) rOk_b1 rfl d_Mod_isShared_41 (pI_of hf)
def f_Mod_isShared (F : Nat) (x0 : Nat) (h : Hp) : Option (Int32 × Hp) := gd (hK h x0 = 12) <| if (hI h 756 x0) = (52 : Int32) then (b_Mod_isShared_36 F h) else (if (hI h 756 x0) = (53 : Int32) then (b_Mod_isShared_36 F h) else (if (hI h 756 x0) = (58 : Int32) then (b_Mod_isShared_36 F h) else (if (hI h 756 x0) = (59 : Int32) then (b_Mod_isShared_36 F h) else (some ((0 : Int32), h)))))
set_option maxRecDepth 100000 in
set_option maxHeartbeats 4000000 in
theorem e_Mod_isShared {G : Gl} {F : Nat} {r : Int32} {h' : Hp} {x0 : Nat} {h : Hp} (hf : f_Mod_isShared F x0 h = some (r, h')) : Ex G mi_Mod_isShared [.ref x0] h (pI r h') := by
  unfold f_Mod_isShared at hf
  refine Ex.of nmI (by decide) (Nat.le_of_ble_eq_true rfl) ?_
  show Go G mi_Mod_isShared h _ h 0 [(0, .ref x0)] []
  refine g_aload_n d_Mod_isShared_0 rfl ?_
  obtain ⟨k_1, hf⟩ := gd_s hf
  refine fg_Mod_op lf_Mod_220 d_Mod_isShared_1 k_1 ?_
  refine g_bipush (52) d_Mod_isShared_4 (by decide) ?_
  refine g_icmp_eq 36 d_Mod_isShared_6 (by decide) (fun c_6 => ?_) (fun c_6 => ?_)
  · have hf := ifp hf c_6
    refine Go.locals [] rfl ?_
    have key := e_Mod_isShared_36 (G := G) (h0 := h)  hf
    exact key
  · have hf := ifn hf c_6
    refine g_aload_n d_Mod_isShared_9 rfl ?_
    refine fg_Mod_op lf_Mod_220 d_Mod_isShared_10 k_1 ?_
    refine g_bipush (53) d_Mod_isShared_13 (by decide) ?_
    refine g_icmp_eq 36 d_Mod_isShared_15 (by decide) (fun c_15 => ?_) (fun c_15 => ?_)
    · have hf := ifp hf c_15
      refine Go.locals [] rfl ?_
      have key := e_Mod_isShared_36 (G := G) (h0 := h)  hf
      exact key
    · have hf := ifn hf c_15
      refine g_aload_n d_Mod_isShared_18 rfl ?_
      refine fg_Mod_op lf_Mod_220 d_Mod_isShared_19 k_1 ?_
      refine g_bipush (58) d_Mod_isShared_22 (by decide) ?_
      refine g_icmp_eq 36 d_Mod_isShared_24 (by decide) (fun c_24 => ?_) (fun c_24 => ?_)
      · have hf := ifp hf c_24
        refine Go.locals [] rfl ?_
        have key := e_Mod_isShared_36 (G := G) (h0 := h)  hf
        exact key
      · have hf := ifn hf c_24
        refine g_aload_n d_Mod_isShared_27 rfl ?_
        refine fg_Mod_op lf_Mod_220 d_Mod_isShared_28 k_1 ?_
        refine g_bipush (59) d_Mod_isShared_31 (by decide) ?_
        refine g_icmp_ne 40 d_Mod_isShared_33 (by decide) (fun c_33 => ?_) (fun c_33 => ?_)
        · have hf := ifn hf c_33
          refine g_iconst 0 d_Mod_isShared_40 (by decide) ?_
          exact Go.ret (some _) rOk_b0 rfl d_Mod_isShared_41 (pI_of hf)
        · have hf := ifp hf c_33
          refine Go.locals [] rfl ?_
          have key := e_Mod_isShared_36 (G := G) (h0 := h)  hf
          exact key
