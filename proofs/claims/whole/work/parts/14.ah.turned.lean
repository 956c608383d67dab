abbrev mi_Cache_fetch : MI := (⟨"WarpMill$Cache", "fetch", "(III)I"⟩, prog_4_method_4_code, 7, some .int, 1, 21)
def it_Cache_fetch_0 : List (Nat × ClassFile.Instr × Nat) := [(0, .iload_n 1, 1), (1, .ifCond .lt (14), 3), (4, .iload_n 2, 1), (5, .iconst 1, 1), (6, .if_icmp .lt (9), 3), (9, .iload_n 2, 1), (10, .bipush (8), 2), (12, .if_icmp .le (5), 3), (15, .iload_n 3, 1), (16, .ireturn, 1), (17, .iload_n 1, 1), (18, .iload_n 2, 1), (19, .irem, 1), (20, .istore 4, 2), (22, .iload 4, 2), (24, .iconst 4, 1), (25, .imul, 1), (26, .iload_n 1, 1), (27, .iload_n 2, 1), (28, .idiv, 1), (29, .iconst 4, 1), (30, .irem, 1), (31, .iadd, 1), (32, .istore 5, 2)]
theorem id_Cache_fetch_0 : ∀ q ∈ it_Cache_fetch_0, decode prog_4_method_4_code q.1 = .ok q.2 := by decide +kernel
theorem d_Cache_fetch_0 : decode prog_4_method_4_code 0 = .ok (.iload_n 1, 1) := id_Cache_fetch_0 (0, .iload_n 1, 1) (List.mem_of_getElem? (i := 0) rfl)
theorem d_Cache_fetch_1 : decode prog_4_method_4_code 1 = .ok (.ifCond .lt (14), 3) := id_Cache_fetch_0 (1, .ifCond .lt (14), 3) (List.mem_of_getElem? (i := 1) rfl)
theorem d_Cache_fetch_4 : decode prog_4_method_4_code 4 = .ok (.iload_n 2, 1) := id_Cache_fetch_0 (4, .iload_n 2, 1) (List.mem_of_getElem? (i := 2) rfl)
theorem d_Cache_fetch_5 : decode prog_4_method_4_code 5 = .ok (.iconst 1, 1) := id_Cache_fetch_0 (5, .iconst 1, 1) (List.mem_of_getElem? (i := 3) rfl)
theorem d_Cache_fetch_6 : decode prog_4_method_4_code 6 = .ok (.if_icmp .lt (9), 3) := id_Cache_fetch_0 (6, .if_icmp .lt (9), 3) (List.mem_of_getElem? (i := 4) rfl)
theorem d_Cache_fetch_9 : decode prog_4_method_4_code 9 = .ok (.iload_n 2, 1) := id_Cache_fetch_0 (9, .iload_n 2, 1) (List.mem_of_getElem? (i := 5) rfl)
theorem d_Cache_fetch_10 : decode prog_4_method_4_code 10 = .ok (.bipush (8), 2) := id_Cache_fetch_0 (10, .bipush (8), 2) (List.mem_of_getElem? (i := 6) rfl)
theorem d_Cache_fetch_12 : decode prog_4_method_4_code 12 = .ok (.if_icmp .le (5), 3) := id_Cache_fetch_0 (12, .if_icmp .le (5), 3) (List.mem_of_getElem? (i := 7) rfl)
theorem d_Cache_fetch_15 : decode prog_4_method_4_code 15 = .ok (.iload_n 3, 1) := id_Cache_fetch_0 (15, .iload_n 3, 1) (List.mem_of_getElem? (i := 8) rfl)
theorem d_Cache_fetch_16 : decode prog_4_method_4_code 16 = .ok (.ireturn, 1) := id_Cache_fetch_0 (16, .ireturn, 1) (List.mem_of_getElem? (i := 9) rfl)
theorem d_Cache_fetch_17 : decode prog_4_method_4_code 17 = .ok (.iload_n 1, 1) := id_Cache_fetch_0 (17, .iload_n 1, 1) (List.mem_of_getElem? (i := 10) rfl)
theorem d_Cache_fetch_18 : decode prog_4_method_4_code 18 = .ok (.iload_n 2, 1) := id_Cache_fetch_0 (18, .iload_n 2, 1) (List.mem_of_getElem? (i := 11) rfl)
theorem d_Cache_fetch_19 : decode prog_4_method_4_code 19 = .ok (.irem, 1) := id_Cache_fetch_0 (19, .irem, 1) (List.mem_of_getElem? (i := 12) rfl)
theorem d_Cache_fetch_20 : decode prog_4_method_4_code 20 = .ok (.istore 4, 2) := id_Cache_fetch_0 (20, .istore 4, 2) (List.mem_of_getElem? (i := 13) rfl)
theorem d_Cache_fetch_22 : decode prog_4_method_4_code 22 = .ok (.iload 4, 2) := id_Cache_fetch_0 (22, .iload 4, 2) (List.mem_of_getElem? (i := 14) rfl)
theorem d_Cache_fetch_24 : decode prog_4_method_4_code 24 = .ok (.iconst 4, 1) := id_Cache_fetch_0 (24, .iconst 4, 1) (List.mem_of_getElem? (i := 15) rfl)
theorem d_Cache_fetch_25 : decode prog_4_method_4_code 25 = .ok (.imul, 1) := id_Cache_fetch_0 (25, .imul, 1) (List.mem_of_getElem? (i := 16) rfl)
theorem d_Cache_fetch_26 : decode prog_4_method_4_code 26 = .ok (.iload_n 1, 1) := id_Cache_fetch_0 (26, .iload_n 1, 1) (List.mem_of_getElem? (i := 17) rfl)
theorem d_Cache_fetch_27 : decode prog_4_method_4_code 27 = .ok (.iload_n 2, 1) := id_Cache_fetch_0 (27, .iload_n 2, 1) (List.mem_of_getElem? (i := 18) rfl)
theorem d_Cache_fetch_28 : decode prog_4_method_4_code 28 = .ok (.idiv, 1) := id_Cache_fetch_0 (28, .idiv, 1) (List.mem_of_getElem? (i := 19) rfl)
theorem d_Cache_fetch_29 : decode prog_4_method_4_code 29 = .ok (.iconst 4, 1) := id_Cache_fetch_0 (29, .iconst 4, 1) (List.mem_of_getElem? (i := 20) rfl)
theorem d_Cache_fetch_30 : decode prog_4_method_4_code 30 = .ok (.irem, 1) := id_Cache_fetch_0 (30, .irem, 1) (List.mem_of_getElem? (i := 21) rfl)
theorem d_Cache_fetch_31 : decode prog_4_method_4_code 31 = .ok (.iadd, 1) := id_Cache_fetch_0 (31, .iadd, 1) (List.mem_of_getElem? (i := 22) rfl)
theorem d_Cache_fetch_32 : decode prog_4_method_4_code 32 = .ok (.istore 5, 2) := id_Cache_fetch_0 (32, .istore 5, 2) (List.mem_of_getElem? (i := 23) rfl)
def it_Cache_fetch_1 : List (Nat × ClassFile.Instr × Nat) := [(34, .iload_n 3, 1), (35, .aload_n 0, 1), (36, .getfield 15, 3), (39, .iload 4, 2), (41, .iaload, 1), (42, .invokestatic 31, 3), (45, .istore 6, 2), (47, .aload_n 0, 1), (48, .getfield 9, 3), (51, .iload 5, 2), (53, .iaload, 1), (54, .iload_n 1, 1), (55, .if_icmp .ne (29), 3), (58, .aload_n 0, 1), (59, .dup, 1), (60, .getfield 24, 3), (63, .iconst 1, 1), (64, .iadd, 1), (65, .putfield 24, 3), (68, .aload_n 0, 1), (69, .getfield 15, 3), (72, .iload 4, 2), (74, .iload 6, 2), (76, .iconst 1, 1)]
theorem id_Cache_fetch_1 : ∀ q ∈ it_Cache_fetch_1, decode prog_4_method_4_code q.1 = .ok q.2 := by decide +kernel
theorem d_Cache_fetch_34 : decode prog_4_method_4_code 34 = .ok (.iload_n 3, 1) := id_Cache_fetch_1 (34, .iload_n 3, 1) (List.mem_of_getElem? (i := 0) rfl)
theorem d_Cache_fetch_35 : decode prog_4_method_4_code 35 = .ok (.aload_n 0, 1) := id_Cache_fetch_1 (35, .aload_n 0, 1) (List.mem_of_getElem? (i := 1) rfl)
theorem d_Cache_fetch_36 : decode prog_4_method_4_code 36 = .ok (.getfield 15, 3) := id_Cache_fetch_1 (36, .getfield 15, 3) (List.mem_of_getElem? (i := 2) rfl)
theorem d_Cache_fetch_39 : decode prog_4_method_4_code 39 = .ok (.iload 4, 2) := id_Cache_fetch_1 (39, .iload 4, 2) (List.mem_of_getElem? (i := 3) rfl)
theorem d_Cache_fetch_41 : decode prog_4_method_4_code 41 = .ok (.iaload, 1) := id_Cache_fetch_1 (41, .iaload, 1) (List.mem_of_getElem? (i := 4) rfl)
theorem d_Cache_fetch_42 : decode prog_4_method_4_code 42 = .ok (.invokestatic 31, 3) := id_Cache_fetch_1 (42, .invokestatic 31, 3) (List.mem_of_getElem? (i := 5) rfl)
theorem d_Cache_fetch_45 : decode prog_4_method_4_code 45 = .ok (.istore 6, 2) := id_Cache_fetch_1 (45, .istore 6, 2) (List.mem_of_getElem? (i := 6) rfl)
theorem d_Cache_fetch_47 : decode prog_4_method_4_code 47 = .ok (.aload_n 0, 1) := id_Cache_fetch_1 (47, .aload_n 0, 1) (List.mem_of_getElem? (i := 7) rfl)
theorem d_Cache_fetch_48 : decode prog_4_method_4_code 48 = .ok (.getfield 9, 3) := id_Cache_fetch_1 (48, .getfield 9, 3) (List.mem_of_getElem? (i := 8) rfl)
theorem d_Cache_fetch_51 : decode prog_4_method_4_code 51 = .ok (.iload 5, 2) := id_Cache_fetch_1 (51, .iload 5, 2) (List.mem_of_getElem? (i := 9) rfl)
theorem d_Cache_fetch_53 : decode prog_4_method_4_code 53 = .ok (.iaload, 1) := id_Cache_fetch_1 (53, .iaload, 1) (List.mem_of_getElem? (i := 10) rfl)
theorem d_Cache_fetch_54 : decode prog_4_method_4_code 54 = .ok (.iload_n 1, 1) := id_Cache_fetch_1 (54, .iload_n 1, 1) (List.mem_of_getElem? (i := 11) rfl)
theorem d_Cache_fetch_55 : decode prog_4_method_4_code 55 = .ok (.if_icmp .ne (29), 3) := id_Cache_fetch_1 (55, .if_icmp .ne (29), 3) (List.mem_of_getElem? (i := 12) rfl)
theorem d_Cache_fetch_58 : decode prog_4_method_4_code 58 = .ok (.aload_n 0, 1) := id_Cache_fetch_1 (58, .aload_n 0, 1) (List.mem_of_getElem? (i := 13) rfl)
theorem d_Cache_fetch_59 : decode prog_4_method_4_code 59 = .ok (.dup, 1) := id_Cache_fetch_1 (59, .dup, 1) (List.mem_of_getElem? (i := 14) rfl)
theorem d_Cache_fetch_60 : decode prog_4_method_4_code 60 = .ok (.getfield 24, 3) := id_Cache_fetch_1 (60, .getfield 24, 3) (List.mem_of_getElem? (i := 15) rfl)
theorem d_Cache_fetch_63 : decode prog_4_method_4_code 63 = .ok (.iconst 1, 1) := id_Cache_fetch_1 (63, .iconst 1, 1) (List.mem_of_getElem? (i := 16) rfl)
theorem d_Cache_fetch_64 : decode prog_4_method_4_code 64 = .ok (.iadd, 1) := id_Cache_fetch_1 (64, .iadd, 1) (List.mem_of_getElem? (i := 17) rfl)
theorem d_Cache_fetch_65 : decode prog_4_method_4_code 65 = .ok (.putfield 24, 3) := id_Cache_fetch_1 (65, .putfield 24, 3) (List.mem_of_getElem? (i := 18) rfl)
theorem d_Cache_fetch_68 : decode prog_4_method_4_code 68 = .ok (.aload_n 0, 1) := id_Cache_fetch_1 (68, .aload_n 0, 1) (List.mem_of_getElem? (i := 19) rfl)
theorem d_Cache_fetch_69 : decode prog_4_method_4_code 69 = .ok (.getfield 15, 3) := id_Cache_fetch_1 (69, .getfield 15, 3) (List.mem_of_getElem? (i := 20) rfl)
theorem d_Cache_fetch_72 : decode prog_4_method_4_code 72 = .ok (.iload 4, 2) := id_Cache_fetch_1 (72, .iload 4, 2) (List.mem_of_getElem? (i := 21) rfl)
theorem d_Cache_fetch_74 : decode prog_4_method_4_code 74 = .ok (.iload 6, 2) := id_Cache_fetch_1 (74, .iload 6, 2) (List.mem_of_getElem? (i := 22) rfl)
theorem d_Cache_fetch_76 : decode prog_4_method_4_code 76 = .ok (.iconst 1, 1) := id_Cache_fetch_1 (76, .iconst 1, 1) (List.mem_of_getElem? (i := 23) rfl)
def it_Cache_fetch_2 : List (Nat × ClassFile.Instr × Nat) := [(77, .iadd, 1), (78, .iastore, 1), (79, .iload 6, 2), (81, .iconst 4, 1), (82, .iadd, 1), (83, .ireturn, 1), (84, .aload_n 0, 1), (85, .dup, 1), (86, .getfield 28, 3), (89, .iconst 1, 1), (90, .iadd, 1), (91, .putfield 28, 3), (94, .aload_n 0, 1), (95, .getfield 9, 3), (98, .iload 5, 2), (100, .iload_n 1, 1), (101, .iastore, 1), (102, .aload_n 0, 1), (103, .getfield 15, 3), (106, .iload 4, 2), (108, .iload 6, 2), (110, .iconst 5, 1), (111, .iadd, 1), (112, .iastore, 1)]
theorem id_Cache_fetch_2 : ∀ q ∈ it_Cache_fetch_2, decode prog_4_method_4_code q.1 = .ok q.2 := by decide +kernel
theorem d_Cache_fetch_77 : decode prog_4_method_4_code 77 = .ok (.iadd, 1) := id_Cache_fetch_2 (77, .iadd, 1) (List.mem_of_getElem? (i := 0) rfl)
theorem d_Cache_fetch_78 : decode prog_4_method_4_code 78 = .ok (.iastore, 1) := id_Cache_fetch_2 (78, .iastore, 1) (List.mem_of_getElem? (i := 1) rfl)
theorem d_Cache_fetch_79 : decode prog_4_method_4_code 79 = .ok (.iload 6, 2) := id_Cache_fetch_2 (79, .iload 6, 2) (List.mem_of_getElem? (i := 2) rfl)
theorem d_Cache_fetch_81 : decode prog_4_method_4_code 81 = .ok (.iconst 4, 1) := id_Cache_fetch_2 (81, .iconst 4, 1) (List.mem_of_getElem? (i := 3) rfl)
theorem d_Cache_fetch_82 : decode prog_4_method_4_code 82 = .ok (.iadd, 1) := id_Cache_fetch_2 (82, .iadd, 1) (List.mem_of_getElem? (i := 4) rfl)
theorem d_Cache_fetch_83 : decode prog_4_method_4_code 83 = .ok (.ireturn, 1) := id_Cache_fetch_2 (83, .ireturn, 1) (List.mem_of_getElem? (i := 5) rfl)
theorem d_Cache_fetch_84 : decode prog_4_method_4_code 84 = .ok (.aload_n 0, 1) := id_Cache_fetch_2 (84, .aload_n 0, 1) (List.mem_of_getElem? (i := 6) rfl)
theorem d_Cache_fetch_85 : decode prog_4_method_4_code 85 = .ok (.dup, 1) := id_Cache_fetch_2 (85, .dup, 1) (List.mem_of_getElem? (i := 7) rfl)
theorem d_Cache_fetch_86 : decode prog_4_method_4_code 86 = .ok (.getfield 28, 3) := id_Cache_fetch_2 (86, .getfield 28, 3) (List.mem_of_getElem? (i := 8) rfl)
theorem d_Cache_fetch_89 : decode prog_4_method_4_code 89 = .ok (.iconst 1, 1) := id_Cache_fetch_2 (89, .iconst 1, 1) (List.mem_of_getElem? (i := 9) rfl)
theorem d_Cache_fetch_90 : decode prog_4_method_4_code 90 = .ok (.iadd, 1) := id_Cache_fetch_2 (90, .iadd, 1) (List.mem_of_getElem? (i := 10) rfl)
theorem d_Cache_fetch_91 : decode prog_4_method_4_code 91 = .ok (.putfield 28, 3) := id_Cache_fetch_2 (91, .putfield 28, 3) (List.mem_of_getElem? (i := 11) rfl)
theorem d_Cache_fetch_94 : decode prog_4_method_4_code 94 = .ok (.aload_n 0, 1) := id_Cache_fetch_2 (94, .aload_n 0, 1) (List.mem_of_getElem? (i := 12) rfl)
theorem d_Cache_fetch_95 : decode prog_4_method_4_code 95 = .ok (.getfield 9, 3) := id_Cache_fetch_2 (95, .getfield 9, 3) (List.mem_of_getElem? (i := 13) rfl)
theorem d_Cache_fetch_98 : decode prog_4_method_4_code 98 = .ok (.iload 5, 2) := id_Cache_fetch_2 (98, .iload 5, 2) (List.mem_of_getElem? (i := 14) rfl)
theorem d_Cache_fetch_100 : decode prog_4_method_4_code 100 = .ok (.iload_n 1, 1) := id_Cache_fetch_2 (100, .iload_n 1, 1) (List.mem_of_getElem? (i := 15) rfl)
theorem d_Cache_fetch_101 : decode prog_4_method_4_code 101 = .ok (.iastore, 1) := id_Cache_fetch_2 (101, .iastore, 1) (List.mem_of_getElem? (i := 16) rfl)
theorem d_Cache_fetch_102 : decode prog_4_method_4_code 102 = .ok (.aload_n 0, 1) := id_Cache_fetch_2 (102, .aload_n 0, 1) (List.mem_of_getElem? (i := 17) rfl)
theorem d_Cache_fetch_103 : decode prog_4_method_4_code 103 = .ok (.getfield 15, 3) := id_Cache_fetch_2 (103, .getfield 15, 3) (List.mem_of_getElem? (i := 18) rfl)
theorem d_Cache_fetch_106 : decode prog_4_method_4_code 106 = .ok (.iload 4, 2) := id_Cache_fetch_2 (106, .iload 4, 2) (List.mem_of_getElem? (i := 19) rfl)
theorem d_Cache_fetch_108 : decode prog_4_method_4_code 108 = .ok (.iload 6, 2) := id_Cache_fetch_2 (108, .iload 6, 2) (List.mem_of_getElem? (i := 20) rfl)
theorem d_Cache_fetch_110 : decode prog_4_method_4_code 110 = .ok (.iconst 5, 1) := id_Cache_fetch_2 (110, .iconst 5, 1) (List.mem_of_getElem? (i := 21) rfl)
theorem d_Cache_fetch_111 : decode prog_4_method_4_code 111 = .ok (.iadd, 1) := id_Cache_fetch_2 (111, .iadd, 1) (List.mem_of_getElem? (i := 22) rfl)
theorem d_Cache_fetch_112 : decode prog_4_method_4_code 112 = .ok (.iastore, 1) := id_Cache_fetch_2 (112, .iastore, 1) (List.mem_of_getElem? (i := 23) rfl)
def it_Cache_fetch_3 : List (Nat × ClassFile.Instr × Nat) := [(113, .iload 6, 2), (115, .bipush (12), 2), (117, .iadd, 1), (118, .ireturn, 1)]
theorem id_Cache_fetch_3 : ∀ q ∈ it_Cache_fetch_3, decode prog_4_method_4_code q.1 = .ok q.2 := by decide +kernel
theorem d_Cache_fetch_113 : decode prog_4_method_4_code 113 = .ok (.iload 6, 2) := id_Cache_fetch_3 (113, .iload 6, 2) (List.mem_of_getElem? (i := 0) rfl)
theorem d_Cache_fetch_115 : decode prog_4_method_4_code 115 = .ok (.bipush (12), 2) := id_Cache_fetch_3 (115, .bipush (12), 2) (List.mem_of_getElem? (i := 1) rfl)
theorem d_Cache_fetch_117 : decode prog_4_method_4_code 117 = .ok (.iadd, 1) := id_Cache_fetch_3 (117, .iadd, 1) (List.mem_of_getElem? (i := 2) rfl)
theorem d_Cache_fetch_118 : decode prog_4_method_4_code 118 = .ok (.ireturn, 1) := id_Cache_fetch_3 (118, .ireturn, 1) (List.mem_of_getElem? (i := 3) rfl)
theorem wC_Cache_fetch : Cond.code ⟨"WarpMill$Cache", "fetch", "(III)I"⟩ prog_4_method_4_code 7 (some .int) ∈ lw_tb := mem_tb 897 (by decide +kernel) rfl
def f_Cache_fetch (F : Nat) (x0 : Nat) (x1 : Int32) (x2 : Int32) (x3 : Int32) (h : Hp) : Option (Int32 × Hp) := if x1 < 0 then (some (x3, h)) else (if x2 < (1 : Int32) then (some (x3, h)) else (if x2 ≤ (8 : Int32) then (gd (¬ x2 = 0) <| gd (¬ x2 = 0) <| gd (¬ (4 : Int32) = 0) <| gd (hK h x0 = 4) <| rq h (hR h 193 x0) 100 fun a_36_2 => ix (x1 - x1 / x2 * x2) (hN h a_36_2) fun j_41 => rq h (hR h 192 x0) 100 fun a_48 => ix (((x1 - x1 / x2 * x2) * (4 : Int32)) + ((x1 / x2) - (x1 / x2) / (4 : Int32) * (4 : Int32))) (hN h a_48) fun j_53 => if (hA h a_48 j_53) = x1 then (pw (sI h 194 x0 ((hI h 194 x0) + (1 : Int32))) fun h_65 => ix (x1 - x1 / x2 * x2) (hN h_65 a_36_2) fun j_78 => pw (sA h_65 a_36_2 j_78 ((if x3 < (hA h a_36_2 j_41) then (hA h a_36_2 j_41) else x3) + (1 : Int32))) fun h_78_2 => some (((if x3 < (hA h a_36_2 j_41) then (hA h a_36_2 j_41) else x3) + (4 : Int32)), h_78_2)) else (pw (sI h 195 x0 ((hI h 195 x0) + (1 : Int32))) fun h_91 => ix (((x1 - x1 / x2 * x2) * (4 : Int32)) + ((x1 / x2) - (x1 / x2) / (4 : Int32) * (4 : Int32))) (hN h_91 a_48) fun j_101 => pw (sA h_91 a_48 j_101 x1) fun h_101_2 => ix (x1 - x1 / x2 * x2) (hN h_101_2 a_36_2) fun j_112 => pw (sA h_101_2 a_36_2 j_112 ((if x3 < (hA h a_36_2 j_41) then (hA h a_36_2 j_41) else x3) + (5 : Int32))) fun h_112_2 => some (((if x3 < (hA h a_36_2 j_41) then (hA h a_36_2 j_41) else x3) + (12 : Int32)), h_112_2))) else (some (x3, h))))
set_option maxRecDepth 100000 in
set_option maxHeartbeats 4000000 in
theorem e_Cache_fetch {G : Gl} (hw : gF G) {F : Nat} {r : Int32} {h' : Hp} {x0 : Nat} {x1 : Int32} {x2 : Int32} {x3 : Int32} {h : Hp} (hf : f_Cache_fetch F x0 x1 x2 x3 h = some (r, h')) : Ex G mi_Cache_fetch [.ref x0, .int x1, .int x2, .int x3] h (pI r h') := by
  unfold f_Cache_fetch at hf
  refine Ex.of nmI (by decide) (Nat.le_of_ble_eq_true rfl) ?_
  show Go G mi_Cache_fetch h _ h 0 [(0, .ref x0), (1, .int x1), (2, .int x2), (3, .int x3)] []
  refine g_iload_n d_Cache_fetch_0 rfl ?_
  refine g_if_lt 15 d_Cache_fetch_1 (by decide) (fun c_1 => ?_) (fun c_1 => ?_)
  · have hf := ifp hf c_1
    refine g_iload_n d_Cache_fetch_15 rfl ?_
    exact Go.ret (some _) (rOk_i _) rfl d_Cache_fetch_16 (pI_of hf)
  · have hf := ifn hf c_1
    refine g_iload_n d_Cache_fetch_4 rfl ?_
    refine g_iconst 1 d_Cache_fetch_5 (by decide) ?_
    refine g_icmp_lt 15 d_Cache_fetch_6 (by decide) (fun c_6 => ?_) (fun c_6 => ?_)
    · have hf := ifp hf c_6
      refine g_iload_n d_Cache_fetch_15 rfl ?_
      exact Go.ret (some _) (rOk_i _) rfl d_Cache_fetch_16 (pI_of hf)
    · have hf := ifn hf c_6
      refine g_iload_n d_Cache_fetch_9 rfl ?_
      refine g_bipush (8) d_Cache_fetch_10 (by decide) ?_
      refine g_icmp_le 17 d_Cache_fetch_12 (by decide) (fun c_12 => ?_) (fun c_12 => ?_)
      · have hf := ifp hf c_12
        refine g_iload_n d_Cache_fetch_17 rfl ?_
        refine g_iload_n d_Cache_fetch_18 rfl ?_
        obtain ⟨z_19, hf⟩ := gd_s hf
        refine g_irem d_Cache_fetch_19 z_19 ?_
        refine g_istore d_Cache_fetch_20 (by decide) ?_
        show Go _ _ _ _ _ _ [(0, _), (1, _), (2, _), (3, _), (4, _)] _
        refine g_iload d_Cache_fetch_22 rfl ?_
        refine g_iconst 4 d_Cache_fetch_24 (by decide) ?_
        refine g_imul d_Cache_fetch_25 ?_
        refine g_iload_n d_Cache_fetch_26 rfl ?_
        refine g_iload_n d_Cache_fetch_27 rfl ?_
        obtain ⟨z_28, hf⟩ := gd_s hf
        refine g_idiv d_Cache_fetch_28 z_28 ?_
        refine g_iconst 4 d_Cache_fetch_29 (by decide) ?_
        obtain ⟨z_30, hf⟩ := gd_s hf
        refine g_irem d_Cache_fetch_30 z_30 ?_
        refine g_iadd d_Cache_fetch_31 ?_
        refine g_istore d_Cache_fetch_32 (by decide) ?_
        show Go _ _ _ _ _ _ [(0, _), (1, _), (2, _), (3, _), (4, _), (5, _)] _
        refine g_iload_n d_Cache_fetch_34 rfl ?_
        refine g_aload_n d_Cache_fetch_35 rfl ?_
        obtain ⟨k_36, hf⟩ := gd_s hf
        obtain ⟨a_36_2, e_36_2, k_36_2, hf⟩ := rq_s hf
        refine fgs_Cache_ticks lf_Cache_15 d_Cache_fetch_36 k_36 e_36_2 ?_
        refine g_iload d_Cache_fetch_39 rfl ?_
        obtain ⟨i_41, hf⟩ := ix_s hf
        refine g_iald k_36_2 i_41 d_Cache_fetch_41 ?_
        refine g_mmax lm_Cache_31 wS_Math_max wi_Math wC_Math_max (Nat.le_of_ble_eq_true rfl) (Nat.le_of_ble_eq_true rfl) d_Cache_fetch_42 ?_
        refine g_istore d_Cache_fetch_45 (by decide) ?_
        show Go _ _ _ _ _ _ [(0, _), (1, _), (2, _), (3, _), (4, _), (5, _), (6, _)] _
        refine g_aload_n d_Cache_fetch_47 rfl ?_
        obtain ⟨a_48, e_48, k_48, hf⟩ := rq_s hf
        refine fgs_Cache_lines lf_Cache_9 d_Cache_fetch_48 k_36 e_48 ?_
        refine g_iload d_Cache_fetch_51 rfl ?_
        obtain ⟨i_53, hf⟩ := ix_s hf
        refine g_iald k_48 i_53 d_Cache_fetch_53 ?_
        refine g_iload_n d_Cache_fetch_54 rfl ?_
        refine g_icmp_ne 84 d_Cache_fetch_55 (by decide) (fun c_55 => ?_) (fun c_55 => ?_)
        · have hf := ifn hf c_55
          refine g_aload_n d_Cache_fetch_84 rfl ?_
          refine g_dup (by first | rfl | exact cat_rf _) d_Cache_fetch_85 ?_
          refine fg_Cache_misses lf_Cache_28 d_Cache_fetch_86 k_36 ?_
          refine g_iconst 1 d_Cache_fetch_89 (by decide) ?_
          refine g_iadd d_Cache_fetch_90 ?_
          refine fp_Cache_misses hw lf_Cache_28 d_Cache_fetch_91 k_36 ?_
          have hf := pw_b hf
          refine g_aload_n d_Cache_fetch_94 rfl ?_
          refine fgs_Cache_lines lf_Cache_9 d_Cache_fetch_95 (kksI k_36) (krsI e_48) ?_
          refine g_iload d_Cache_fetch_98 rfl ?_
          refine g_iload_n d_Cache_fetch_100 rfl ?_
          obtain ⟨i_101, hf⟩ := ix_s hf
          refine g_iast hw (kksI k_48) i_101 d_Cache_fetch_101 ?_
          have hf := pw_b hf
          refine g_aload_n d_Cache_fetch_102 rfl ?_
          refine fgs_Cache_ticks lf_Cache_15 d_Cache_fetch_103 (kksA (kksI k_36)) (krsA (krsI e_36_2)) ?_
          refine g_iload d_Cache_fetch_106 rfl ?_
          refine g_iload d_Cache_fetch_108 rfl ?_
          refine g_iconst 5 d_Cache_fetch_110 (by decide) ?_
          refine g_iadd d_Cache_fetch_111 ?_
          obtain ⟨i_112, hf⟩ := ix_s hf
          refine g_iast hw (kksA (kksI k_36_2)) i_112 d_Cache_fetch_112 ?_
          have hf := pw_b hf
          refine g_iload d_Cache_fetch_113 rfl ?_
          refine g_bipush (12) d_Cache_fetch_115 (by decide) ?_
          refine g_iadd d_Cache_fetch_117 ?_
          exact Go.ret (some _) (rOk_i _) rfl d_Cache_fetch_118 (pI_of hf)
        · have hf := ifp hf c_55
          refine g_aload_n d_Cache_fetch_58 rfl ?_
          refine g_dup (by first | rfl | exact cat_rf _) d_Cache_fetch_59 ?_
          refine fg_Cache_hits lf_Cache_24 d_Cache_fetch_60 k_36 ?_
          refine g_iconst 1 d_Cache_fetch_63 (by decide) ?_
          refine g_iadd d_Cache_fetch_64 ?_
          refine fp_Cache_hits hw lf_Cache_24 d_Cache_fetch_65 k_36 ?_
          have hf := pw_b hf
          refine g_aload_n d_Cache_fetch_68 rfl ?_
          refine fgs_Cache_ticks lf_Cache_15 d_Cache_fetch_69 (kksI k_36) (krsI e_36_2) ?_
          refine g_iload d_Cache_fetch_72 rfl ?_
          refine g_iload d_Cache_fetch_74 rfl ?_
          refine g_iconst 1 d_Cache_fetch_76 (by decide) ?_
          refine g_iadd d_Cache_fetch_77 ?_
          obtain ⟨i_78, hf⟩ := ix_s hf
          refine g_iast hw (kksI k_36_2) i_78 d_Cache_fetch_78 ?_
          have hf := pw_b hf
          refine g_iload d_Cache_fetch_79 rfl ?_
          refine g_iconst 4 d_Cache_fetch_81 (by decide) ?_
          refine g_iadd d_Cache_fetch_82 ?_
          exact Go.ret (some _) (rOk_i _) rfl d_Cache_fetch_83 (pI_of hf)
      · have hf := ifn hf c_12
        refine g_iload_n d_Cache_fetch_15 rfl ?_
        exact Go.ret (some _) (rOk_i _) rfl d_Cache_fetch_16 (pI_of hf)
abbrev mi_Ask_init : MI := (⟨"WarpMill$Ask", "<init>", "()V"⟩, prog_2_method_1_code, 1, none, 1, 21)
def it_Ask_init_0 : List (Nat × ClassFile.Instr × Nat) := [(0, .aload_n 0, 1), (1, .invokespecial 1, 3), (4, .return_, 1)]
theorem id_Ask_init_0 : ∀ q ∈ it_Ask_init_0, decode prog_2_method_1_code q.1 = .ok q.2 := by decide +kernel
theorem d_Ask_init_0 : decode prog_2_method_1_code 0 = .ok (.aload_n 0, 1) := id_Ask_init_0 (0, .aload_n 0, 1) (List.mem_of_getElem? (i := 0) rfl)
theorem d_Ask_init_1 : decode prog_2_method_1_code 1 = .ok (.invokespecial 1, 3) := id_Ask_init_0 (1, .invokespecial 1, 3) (List.mem_of_getElem? (i := 1) rfl)
theorem d_Ask_init_4 : decode prog_2_method_1_code 4 = .ok (.return_, 1) := id_Ask_init_0 (4, .return_, 1) (List.mem_of_getElem? (i := 2) rfl)
theorem wC_Ask_init : Cond.code ⟨"WarpMill$Ask", "<init>", "()V"⟩ prog_2_method_1_code 1 (none) ∈ lw_tb := mem_tb 910 (by decide +kernel) rfl
def f_Ask_init (F : Nat) (x0 : Nat) (h : Hp) : Option Hp := some h
set_option maxRecDepth 100000 in
set_option maxHeartbeats 4000000 in
theorem e_Ask_init {G : Gl} {F : Nat} {h' : Hp} {x0 : Nat} {h : Hp} (hf : f_Ask_init F x0 h = some h') : Ex G mi_Ask_init [.ref x0] h (pV h') := by
  unfold f_Ask_init at hf
  refine Ex.of nmV (by decide) (Nat.le_of_ble_eq_true rfl) ?_
  show Go G mi_Ask_init h _ h 0 [(0, .ref x0)] []
  refine g_aload_n d_Ask_init_0 rfl ?_
  refine g_objInit lm_Ask_1 wI_Object_init wC_obj (Nat.le_of_ble_eq_true rfl) (Nat.le_of_ble_eq_true rfl) d_Ask_init_1 ?_
  exact Go.ret none trivial rfl d_Ask_init_4 (pV_of hf)
abbrev mi_Ask_become : MI := (⟨"WarpMill$Ask", "become", "(LWarpMill$Warp;II)V"⟩, prog_2_method_2_code, 4, none, 1, 22)
def it_Ask_become_0 : List (Nat × ClassFile.Instr × Nat) := [(0, .aload_n 0, 1), (1, .aconst_null, 1), (2, .putfield 7, 3), (5, .aload_n 0, 1), (6, .aload_n 1, 1), (7, .putfield 13, 3), (10, .aload_n 0, 1), (11, .aload_n 1, 1), (12, .getfield 17, 3), (15, .putfield 23, 3), (18, .aload_n 0, 1), (19, .aload_n 1, 1), (20, .getfield 24, 3), (23, .putfield 28, 3), (26, .aload_n 0, 1), (27, .iload_n 2, 1), (28, .putfield 29, 3), (31, .aload_n 0, 1), (32, .aload_n 1, 1), (33, .getfield 33, 3), (36, .iload_n 2, 1), (37, .iaload, 1), (38, .putfield 37, 3), (41, .aload_n 0, 1)]
theorem id_Ask_become_0 : ∀ q ∈ it_Ask_become_0, decode prog_2_method_2_code q.1 = .ok q.2 := by decide +kernel
theorem d_Ask_become_0 : decode prog_2_method_2_code 0 = .ok (.aload_n 0, 1) := id_Ask_become_0 (0, .aload_n 0, 1) (List.mem_of_getElem? (i := 0) rfl)
theorem d_Ask_become_1 : decode prog_2_method_2_code 1 = .ok (.aconst_null, 1) := id_Ask_become_0 (1, .aconst_null, 1) (List.mem_of_getElem? (i := 1) rfl)
theorem d_Ask_become_2 : decode prog_2_method_2_code 2 = .ok (.putfield 7, 3) := id_Ask_become_0 (2, .putfield 7, 3) (List.mem_of_getElem? (i := 2) rfl)
theorem d_Ask_become_5 : decode prog_2_method_2_code 5 = .ok (.aload_n 0, 1) := id_Ask_become_0 (5, .aload_n 0, 1) (List.mem_of_getElem? (i := 3) rfl)
theorem d_Ask_become_6 : decode prog_2_method_2_code 6 = .ok (.aload_n 1, 1) := id_Ask_become_0 (6, .aload_n 1, 1) (List.mem_of_getElem? (i := 4) rfl)
theorem d_Ask_become_7 : decode prog_2_method_2_code 7 = .ok (.putfield 13, 3) := id_Ask_become_0 (7, .putfield 13, 3) (List.mem_of_getElem? (i := 5) rfl)
theorem d_Ask_become_10 : decode prog_2_method_2_code 10 = .ok (.aload_n 0, 1) := id_Ask_become_0 (10, .aload_n 0, 1) (List.mem_of_getElem? (i := 6) rfl)
theorem d_Ask_become_11 : decode prog_2_method_2_code 11 = .ok (.aload_n 1, 1) := id_Ask_become_0 (11, .aload_n 1, 1) (List.mem_of_getElem? (i := 7) rfl)
theorem d_Ask_become_12 : decode prog_2_method_2_code 12 = .ok (.getfield 17, 3) := id_Ask_become_0 (12, .getfield 17, 3) (List.mem_of_getElem? (i := 8) rfl)
theorem d_Ask_become_15 : decode prog_2_method_2_code 15 = .ok (.putfield 23, 3) := id_Ask_become_0 (15, .putfield 23, 3) (List.mem_of_getElem? (i := 9) rfl)
theorem d_Ask_become_18 : decode prog_2_method_2_code 18 = .ok (.aload_n 0, 1) := id_Ask_become_0 (18, .aload_n 0, 1) (List.mem_of_getElem? (i := 10) rfl)
theorem d_Ask_become_19 : decode prog_2_method_2_code 19 = .ok (.aload_n 1, 1) := id_Ask_become_0 (19, .aload_n 1, 1) (List.mem_of_getElem? (i := 11) rfl)
theorem d_Ask_become_20 : decode prog_2_method_2_code 20 = .ok (.getfield 24, 3) := id_Ask_become_0 (20, .getfield 24, 3) (List.mem_of_getElem? (i := 12) rfl)
theorem d_Ask_become_23 : decode prog_2_method_2_code 23 = .ok (.putfield 28, 3) := id_Ask_become_0 (23, .putfield 28, 3) (List.mem_of_getElem? (i := 13) rfl)
theorem d_Ask_become_26 : decode prog_2_method_2_code 26 = .ok (.aload_n 0, 1) := id_Ask_become_0 (26, .aload_n 0, 1) (List.mem_of_getElem? (i := 14) rfl)
theorem d_Ask_become_27 : decode prog_2_method_2_code 27 = .ok (.iload_n 2, 1) := id_Ask_become_0 (27, .iload_n 2, 1) (List.mem_of_getElem? (i := 15) rfl)
theorem d_Ask_become_28 : decode prog_2_method_2_code 28 = .ok (.putfield 29, 3) := id_Ask_become_0 (28, .putfield 29, 3) (List.mem_of_getElem? (i := 16) rfl)
theorem d_Ask_become_31 : decode prog_2_method_2_code 31 = .ok (.aload_n 0, 1) := id_Ask_become_0 (31, .aload_n 0, 1) (List.mem_of_getElem? (i := 17) rfl)
theorem d_Ask_become_32 : decode prog_2_method_2_code 32 = .ok (.aload_n 1, 1) := id_Ask_become_0 (32, .aload_n 1, 1) (List.mem_of_getElem? (i := 18) rfl)
theorem d_Ask_become_33 : decode prog_2_method_2_code 33 = .ok (.getfield 33, 3) := id_Ask_become_0 (33, .getfield 33, 3) (List.mem_of_getElem? (i := 19) rfl)
theorem d_Ask_become_36 : decode prog_2_method_2_code 36 = .ok (.iload_n 2, 1) := id_Ask_become_0 (36, .iload_n 2, 1) (List.mem_of_getElem? (i := 20) rfl)
theorem d_Ask_become_37 : decode prog_2_method_2_code 37 = .ok (.iaload, 1) := id_Ask_become_0 (37, .iaload, 1) (List.mem_of_getElem? (i := 21) rfl)
theorem d_Ask_become_38 : decode prog_2_method_2_code 38 = .ok (.putfield 37, 3) := id_Ask_become_0 (38, .putfield 37, 3) (List.mem_of_getElem? (i := 22) rfl)
theorem d_Ask_become_41 : decode prog_2_method_2_code 41 = .ok (.aload_n 0, 1) := id_Ask_become_0 (41, .aload_n 0, 1) (List.mem_of_getElem? (i := 23) rfl)
def it_Ask_become_1 : List (Nat × ClassFile.Instr × Nat) := [(42, .aload_n 1, 1), (43, .iload_n 2, 1), (44, .aload_n 0, 1), (45, .getfield 28, 3), (48, .getfield 40, 3), (51, .invokevirtual 45, 3), (54, .putfield 49, 3), (57, .aload_n 0, 1), (58, .aload_n 1, 1), (59, .iload_n 2, 1), (60, .aload_n 0, 1), (61, .getfield 28, 3), (64, .getfield 50, 3), (67, .invokevirtual 45, 3), (70, .putfield 53, 3), (73, .aload_n 0, 1), (74, .iload_n 3, 1), (75, .putfield 54, 3), (78, .return_, 1)]
theorem id_Ask_become_1 : ∀ q ∈ it_Ask_become_1, decode prog_2_method_2_code q.1 = .ok q.2 := by decide +kernel
theorem d_Ask_become_42 : decode prog_2_method_2_code 42 = .ok (.aload_n 1, 1) := id_Ask_become_1 (42, .aload_n 1, 1) (List.mem_of_getElem? (i := 0) rfl)
theorem d_Ask_become_43 : decode prog_2_method_2_code 43 = .ok (.iload_n 2, 1) := id_Ask_become_1 (43, .iload_n 2, 1) (List.mem_of_getElem? (i := 1) rfl)
theorem d_Ask_become_44 : decode prog_2_method_2_code 44 = .ok (.aload_n 0, 1) := id_Ask_become_1 (44, .aload_n 0, 1) (List.mem_of_getElem? (i := 2) rfl)
theorem d_Ask_become_45 : decode prog_2_method_2_code 45 = .ok (.getfield 28, 3) := id_Ask_become_1 (45, .getfield 28, 3) (List.mem_of_getElem? (i := 3) rfl)
theorem d_Ask_become_48 : decode prog_2_method_2_code 48 = .ok (.getfield 40, 3) := id_Ask_become_1 (48, .getfield 40, 3) (List.mem_of_getElem? (i := 4) rfl)
theorem d_Ask_become_51 : decode prog_2_method_2_code 51 = .ok (.invokevirtual 45, 3) := id_Ask_become_1 (51, .invokevirtual 45, 3) (List.mem_of_getElem? (i := 5) rfl)
theorem d_Ask_become_54 : decode prog_2_method_2_code 54 = .ok (.putfield 49, 3) := id_Ask_become_1 (54, .putfield 49, 3) (List.mem_of_getElem? (i := 6) rfl)
theorem d_Ask_become_57 : decode prog_2_method_2_code 57 = .ok (.aload_n 0, 1) := id_Ask_become_1 (57, .aload_n 0, 1) (List.mem_of_getElem? (i := 7) rfl)
theorem d_Ask_become_58 : decode prog_2_method_2_code 58 = .ok (.aload_n 1, 1) := id_Ask_become_1 (58, .aload_n 1, 1) (List.mem_of_getElem? (i := 8) rfl)
theorem d_Ask_become_59 : decode prog_2_method_2_code 59 = .ok (.iload_n 2, 1) := id_Ask_become_1 (59, .iload_n 2, 1) (List.mem_of_getElem? (i := 9) rfl)
theorem d_Ask_become_60 : decode prog_2_method_2_code 60 = .ok (.aload_n 0, 1) := id_Ask_become_1 (60, .aload_n 0, 1) (List.mem_of_getElem? (i := 10) rfl)
theorem d_Ask_become_61 : decode prog_2_method_2_code 61 = .ok (.getfield 28, 3) := id_Ask_become_1 (61, .getfield 28, 3) (List.mem_of_getElem? (i := 11) rfl)
theorem d_Ask_become_64 : decode prog_2_method_2_code 64 = .ok (.getfield 50, 3) := id_Ask_become_1 (64, .getfield 50, 3) (List.mem_of_getElem? (i := 12) rfl)
theorem d_Ask_become_67 : decode prog_2_method_2_code 67 = .ok (.invokevirtual 45, 3) := id_Ask_become_1 (67, .invokevirtual 45, 3) (List.mem_of_getElem? (i := 13) rfl)
theorem d_Ask_become_70 : decode prog_2_method_2_code 70 = .ok (.putfield 53, 3) := id_Ask_become_1 (70, .putfield 53, 3) (List.mem_of_getElem? (i := 14) rfl)
theorem d_Ask_become_73 : decode prog_2_method_2_code 73 = .ok (.aload_n 0, 1) := id_Ask_become_1 (73, .aload_n 0, 1) (List.mem_of_getElem? (i := 15) rfl)
theorem d_Ask_become_74 : decode prog_2_method_2_code 74 = .ok (.iload_n 3, 1) := id_Ask_become_1 (74, .iload_n 3, 1) (List.mem_of_getElem? (i := 16) rfl)
theorem d_Ask_become_75 : decode prog_2_method_2_code 75 = .ok (.putfield 54, 3) := id_Ask_become_1 (75, .putfield 54, 3) (List.mem_of_getElem? (i := 17) rfl)
theorem d_Ask_become_78 : decode prog_2_method_2_code 78 = .ok (.return_, 1) := id_Ask_become_1 (78, .return_, 1) (List.mem_of_getElem? (i := 18) rfl)
theorem wC_Ask_become : Cond.code ⟨"WarpMill$Ask", "become", "(LWarpMill$Warp;II)V"⟩ prog_2_method_2_code 4 (none) ∈ lw_tb := mem_tb 946 (by decide +kernel) rfl
theorem cw_Ask_become_Warp_register : cW mi_Ask_become mi_Warp_register 2 := ⟨wC_Warp_register, wi_Warp, ⟨by decide, by decide, by decide +kernel⟩, by decide, by decide⟩
def f_Ask_become (F : Nat) (x0 : Nat) (x1 : Option Nat) (x2 : Int32) (x3 : Int32) (h : Hp) : Option Hp := gd (hK h x0 = 11) <| pw (sR h 640 x0 none) fun h_2_2 => pw (sR h_2_2 641 x0 x1) fun h_7 => rq h_7 x1 9 fun a_12 => pw (hR h_7 512 a_12) fun o_12_2 => pw (sR h_7 642 x0 o_12_2) fun h_15 => pw (hR h_15 520 a_12) fun o_20 => pw (sR h_15 643 x0 o_20) fun h_23 => pw (sI h_23 644 x0 x2) fun h_28 => rq h_28 (hR h_28 525 a_12) 100 fun a_33 => ix x2 (hN h_28 a_33) fun j_37 => pw (sI h_28 645 x0 (hA h_28 a_33 j_37)) fun h_38 => rq h_38 (hR h_38 643 x0) 10 fun a_45 => cl (f_Warp_register F a_12 x2 (hI h_38 579 a_45) h_38) fun v_51 h_51 => gd (hK h_51 x0 = 11) <| pw (sI h_51 646 x0 v_51) fun h_54_2 => rq h_54_2 (hR h_54_2 643 x0) 10 fun a_61 => gd (hK h_54_2 a_12 = 9) <| cl (f_Warp_register F a_12 x2 (hI h_54_2 577 a_61) h_54_2) fun v_67_2 h_67_2 => gd (hK h_67_2 x0 = 11) <| pw (sI h_67_2 647 x0 v_67_2) fun h_70_2 => pw (sI h_70_2 648 x0 x3) fun h_75 => some h_75
set_option maxRecDepth 100000 in
set_option maxHeartbeats 4000000 in
theorem e_Ask_become {G : Gl} (hw : gF G) {F : Nat} {h' : Hp} {x0 : Nat} {x1 : Option Nat} {x2 : Int32} {x3 : Int32} {h : Hp} (hf : f_Ask_become F x0 x1 x2 x3 h = some h') : Ex G mi_Ask_become [.ref x0, va_rf x1, .int x2, .int x3] h (pV h') := by
  unfold f_Ask_become at hf
  refine Ex.of nmV (by decide) (by cases x1 <;> exact Nat.le_of_ble_eq_true rfl) ?_
  rw [show lv_args 0 [.ref x0, va_rf x1, .int x2, .int x3] = [(0, .ref x0), (1, va_rf x1), (2, .int x2), (3, .int x3)] from by cases x1 <;> rfl]
  show Go G mi_Ask_become h _ h 0 [(0, .ref x0), (1, va_rf x1), (2, .int x2), (3, .int x3)] []
  refine g_aload_n d_Ask_become_0 rfl ?_
  refine g_null d_Ask_become_1 ?_
  obtain ⟨k_2, hf⟩ := gd_s hf
  refine fp_Ask_next hw none rfl lf_Ask_7 d_Ask_become_2 k_2 ?_
  have hf := pw_b hf
  refine g_aload_n d_Ask_become_5 rfl ?_
  refine g_aload_nq (r := x1) d_Ask_become_6 rfl ?_
  refine fp_Ask_warp hw x1 rfl lf_Ask_13 d_Ask_become_7 (kksR k_2) ?_
  have hf := pw_b hf
  refine g_aload_n d_Ask_become_10 rfl ?_
  refine g_aload_nq (r := x1) d_Ask_become_11 rfl ?_
  obtain ⟨a_12, rfl, k_12, hf⟩ := rq_s hf
  obtain ⟨o_12_2, e_12_2, hf⟩ := pw_s hf
  refine fg_Warp_block lf_Ask_17 d_Ask_become_12 k_12 ?_
  refine Go.vr e_12_2 ?_
  refine fp_Ask_block hw o_12_2 rfl lf_Ask_23 d_Ask_become_15 (kksR (kksR k_2)) ?_
  have hf := pw_b hf
  refine g_aload_n d_Ask_become_18 rfl ?_
  refine g_aload_n d_Ask_become_19 rfl ?_
  obtain ⟨o_20, e_20, hf⟩ := pw_s hf
  refine fg_Warp_word lf_Ask_24 d_Ask_become_20 (kksR k_12) ?_
  refine Go.vr e_20 ?_
  refine fp_Ask_word hw o_20 rfl lf_Ask_28 d_Ask_become_23 (kksR (kksR (kksR k_2))) ?_
  have hf := pw_b hf
  refine g_aload_n d_Ask_become_26 rfl ?_
  refine g_iload_n d_Ask_become_27 rfl ?_
  refine fp_Ask_lane hw lf_Ask_29 d_Ask_become_28 (kksR (kksR (kksR (kksR k_2)))) ?_
  have hf := pw_b hf
  refine g_aload_n d_Ask_become_31 rfl ?_
  refine g_aload_n d_Ask_become_32 rfl ?_
  obtain ⟨a_33, e_33, k_33, hf⟩ := rq_s hf
  refine fgs_Warp_row lf_Ask_33 d_Ask_become_33 (kksI (kksR (kksR k_12))) e_33 ?_
  refine g_iload_n d_Ask_become_36 rfl ?_
  obtain ⟨i_37, hf⟩ := ix_s hf
  refine g_iald k_33 i_37 d_Ask_become_37 ?_
  refine fp_Ask_address hw lf_Ask_37 d_Ask_become_38 (kksI (kksR (kksR (kksR (kksR k_2))))) ?_
  have hf := pw_b hf
  refine g_aload_n d_Ask_become_41 rfl ?_
  refine g_aload_n d_Ask_become_42 rfl ?_
  refine g_iload_n d_Ask_become_43 rfl ?_
  refine g_aload_n d_Ask_become_44 rfl ?_
  obtain ⟨a_45, e_45, k_45, hf⟩ := rq_s hf
  refine fgs_Ask_word lf_Ask_28 d_Ask_become_45 (kksI (kksI (kksR (kksR (kksR (kksR k_2)))))) e_45 ?_
  refine fg_Word_b lf_Ask_40 d_Ask_become_48 k_45 ?_
  obtain ⟨v_51, h_51, e_51, hf⟩ := cl_s hf
  refine g_callV (mz := mi_Warp_register) (e_Warp_register e_51) cw_Ask_become_Warp_register lm_Ask_45 wI_Warp_register wV_Warp_register (ci := 8) (kksI (kksI (kksR (kksR k_12)))) (by decide) rfl rfl d_Ask_become_51 rfl rfl (by first | exact Nat.le_of_ble_eq_true rfl | simp [cat_rf, Value.category]) (fun r1 h1 hp hro => ?_)
  obtain ⟨rfl, rfl⟩ := hp
  dsimp only [Option.toList_some, Option.toList_none, List.cons_append, List.nil_append]
  obtain ⟨k_54, hf⟩ := gd_s hf
  refine fp_Ask_b hw lf_Ask_49 d_Ask_become_54 k_54 ?_
  have hf := pw_b hf
  refine g_aload_n d_Ask_become_57 rfl ?_
  refine g_aload_n d_Ask_become_58 rfl ?_
  refine g_iload_n d_Ask_become_59 rfl ?_
  refine g_aload_n d_Ask_become_60 rfl ?_
  obtain ⟨a_61, e_61, k_61, hf⟩ := rq_s hf
  refine fgs_Ask_word lf_Ask_28 d_Ask_become_61 (kksI k_54) e_61 ?_
  refine fg_Word_d lf_Ask_50 d_Ask_become_64 k_61 ?_
  obtain ⟨k_67, hf⟩ := gd_s hf
  obtain ⟨v_67_2, h_67_2, e_67_2, hf⟩ := cl_s hf
  refine g_callV (mz := mi_Warp_register) (e_Warp_register e_67_2) cw_Ask_become_Warp_register lm_Ask_45 wI_Warp_register wV_Warp_register (ci := 8) k_67 (by decide) rfl rfl d_Ask_become_67 rfl rfl (by first | exact Nat.le_of_ble_eq_true rfl | simp [cat_rf, Value.category]) (fun r1 h1 hp hro => ?_)
  obtain ⟨rfl, rfl⟩ := hp
  dsimp only [Option.toList_some, Option.toList_none, List.cons_append, List.nil_append]
  obtain ⟨k_70, hf⟩ := gd_s hf
  refine fp_Ask_d hw lf_Ask_53 d_Ask_become_70 k_70 ?_
  have hf := pw_b hf
  refine g_aload_n d_Ask_become_73 rfl ?_
  refine g_iload_n d_Ask_become_74 rfl ?_
  refine fp_Ask_done hw lf_Ask_54 d_Ask_become_75 (kksI k_70) ?_
  have hf := pw_b hf
  exact Go.ret none trivial rfl d_Ask_become_78 (pV_of hf)
abbrev mi_Pending_add : MI := (⟨"WarpMill$Pending", "add", "(LWarpMill$Warp;II)V"⟩, prog_6_method_2_code, 6, none, 2, 45)
def it_Pending_add_0 : List (Nat × ClassFile.Instr × Nat) := [(0, .aload_n 0, 1), (1, .getfield 18, 3), (4, .astore 4, 2), (6, .aload 4, 2), (8, .ifnonnull (15), 3), (11, .new 9, 3), (14, .dup, 1), (15, .invokespecial 22, 3), (18, .astore 4, 2), (20, .goto (12), 3), (23, .aload_n 0, 1), (24, .aload 4, 2), (26, .getfield 23, 3), (29, .putfield 18, 3), (32, .aload 4, 2), (34, .aload_n 1, 1), (35, .iload_n 2, 1), (36, .iload_n 3, 1), (37, .invokevirtual 26, 3), (40, .iload_n 3, 1), (41, .bipush (63), 2), (43, .iand, 1), (44, .istore 5, 2), (46, .aload_n 0, 1)]
theorem id_Pending_add_0 : ∀ q ∈ it_Pending_add_0, decode prog_6_method_2_code q.1 = .ok q.2 := by decide +kernel
theorem d_Pending_add_0 : decode prog_6_method_2_code 0 = .ok (.aload_n 0, 1) := id_Pending_add_0 (0, .aload_n 0, 1) (List.mem_of_getElem? (i := 0) rfl)
theorem d_Pending_add_1 : decode prog_6_method_2_code 1 = .ok (.getfield 18, 3) := id_Pending_add_0 (1, .getfield 18, 3) (List.mem_of_getElem? (i := 1) rfl)
theorem d_Pending_add_4 : decode prog_6_method_2_code 4 = .ok (.astore 4, 2) := id_Pending_add_0 (4, .astore 4, 2) (List.mem_of_getElem? (i := 2) rfl)
theorem d_Pending_add_6 : decode prog_6_method_2_code 6 = .ok (.aload 4, 2) := id_Pending_add_0 (6, .aload 4, 2) (List.mem_of_getElem? (i := 3) rfl)
theorem d_Pending_add_8 : decode prog_6_method_2_code 8 = .ok (.ifnonnull (15), 3) := id_Pending_add_0 (8, .ifnonnull (15), 3) (List.mem_of_getElem? (i := 4) rfl)
theorem d_Pending_add_11 : decode prog_6_method_2_code 11 = .ok (.new 9, 3) := id_Pending_add_0 (11, .new 9, 3) (List.mem_of_getElem? (i := 5) rfl)
theorem d_Pending_add_14 : decode prog_6_method_2_code 14 = .ok (.dup, 1) := id_Pending_add_0 (14, .dup, 1) (List.mem_of_getElem? (i := 6) rfl)
theorem d_Pending_add_15 : decode prog_6_method_2_code 15 = .ok (.invokespecial 22, 3) := id_Pending_add_0 (15, .invokespecial 22, 3) (List.mem_of_getElem? (i := 7) rfl)
theorem d_Pending_add_18 : decode prog_6_method_2_code 18 = .ok (.astore 4, 2) := id_Pending_add_0 (18, .astore 4, 2) (List.mem_of_getElem? (i := 8) rfl)
theorem d_Pending_add_20 : decode prog_6_method_2_code 20 = .ok (.goto (12), 3) := id_Pending_add_0 (20, .goto (12), 3) (List.mem_of_getElem? (i := 9) rfl)
theorem d_Pending_add_23 : decode prog_6_method_2_code 23 = .ok (.aload_n 0, 1) := id_Pending_add_0 (23, .aload_n 0, 1) (List.mem_of_getElem? (i := 10) rfl)
theorem d_Pending_add_24 : decode prog_6_method_2_code 24 = .ok (.aload 4, 2) := id_Pending_add_0 (24, .aload 4, 2) (List.mem_of_getElem? (i := 11) rfl)
theorem d_Pending_add_26 : decode prog_6_method_2_code 26 = .ok (.getfield 23, 3) := id_Pending_add_0 (26, .getfield 23, 3) (List.mem_of_getElem? (i := 12) rfl)
theorem d_Pending_add_29 : decode prog_6_method_2_code 29 = .ok (.putfield 18, 3) := id_Pending_add_0 (29, .putfield 18, 3) (List.mem_of_getElem? (i := 13) rfl)
theorem d_Pending_add_32 : decode prog_6_method_2_code 32 = .ok (.aload 4, 2) := id_Pending_add_0 (32, .aload 4, 2) (List.mem_of_getElem? (i := 14) rfl)
theorem d_Pending_add_34 : decode prog_6_method_2_code 34 = .ok (.aload_n 1, 1) := id_Pending_add_0 (34, .aload_n 1, 1) (List.mem_of_getElem? (i := 15) rfl)
theorem d_Pending_add_35 : decode prog_6_method_2_code 35 = .ok (.iload_n 2, 1) := id_Pending_add_0 (35, .iload_n 2, 1) (List.mem_of_getElem? (i := 16) rfl)
theorem d_Pending_add_36 : decode prog_6_method_2_code 36 = .ok (.iload_n 3, 1) := id_Pending_add_0 (36, .iload_n 3, 1) (List.mem_of_getElem? (i := 17) rfl)
theorem d_Pending_add_37 : decode prog_6_method_2_code 37 = .ok (.invokevirtual 26, 3) := id_Pending_add_0 (37, .invokevirtual 26, 3) (List.mem_of_getElem? (i := 18) rfl)
theorem d_Pending_add_40 : decode prog_6_method_2_code 40 = .ok (.iload_n 3, 1) := id_Pending_add_0 (40, .iload_n 3, 1) (List.mem_of_getElem? (i := 19) rfl)
theorem d_Pending_add_41 : decode prog_6_method_2_code 41 = .ok (.bipush (63), 2) := id_Pending_add_0 (41, .bipush (63), 2) (List.mem_of_getElem? (i := 20) rfl)
theorem d_Pending_add_43 : decode prog_6_method_2_code 43 = .ok (.iand, 1) := id_Pending_add_0 (43, .iand, 1) (List.mem_of_getElem? (i := 21) rfl)
theorem d_Pending_add_44 : decode prog_6_method_2_code 44 = .ok (.istore 5, 2) := id_Pending_add_0 (44, .istore 5, 2) (List.mem_of_getElem? (i := 22) rfl)
theorem d_Pending_add_46 : decode prog_6_method_2_code 46 = .ok (.aload_n 0, 1) := id_Pending_add_0 (46, .aload_n 0, 1) (List.mem_of_getElem? (i := 23) rfl)
def it_Pending_add_1 : List (Nat × ClassFile.Instr × Nat) := [(47, .getfield 15, 3), (50, .iload 5, 2), (52, .aaload, 1), (53, .ifnonnull (15), 3), (56, .aload_n 0, 1), (57, .getfield 11, 3), (60, .iload 5, 2), (62, .aload 4, 2), (64, .aastore, 1), (65, .goto (15), 3), (68, .aload_n 0, 1), (69, .getfield 15, 3), (72, .iload 5, 2), (74, .aaload, 1), (75, .aload 4, 2), (77, .putfield 23, 3), (80, .aload_n 0, 1), (81, .getfield 15, 3), (84, .iload 5, 2), (86, .aload 4, 2), (88, .aastore, 1), (89, .aload_n 0, 1), (90, .dup, 1), (91, .getfield 30, 3)]
theorem id_Pending_add_1 : ∀ q ∈ it_Pending_add_1, decode prog_6_method_2_code q.1 = .ok q.2 := by decide +kernel
theorem d_Pending_add_47 : decode prog_6_method_2_code 47 = .ok (.getfield 15, 3) := id_Pending_add_1 (47, .getfield 15, 3) (List.mem_of_getElem? (i := 0) rfl)
theorem d_Pending_add_50 : decode prog_6_method_2_code 50 = .ok (.iload 5, 2) := id_Pending_add_1 (50, .iload 5, 2) (List.mem_of_getElem? (i := 1) rfl)
theorem d_Pending_add_52 : decode prog_6_method_2_code 52 = .ok (.aaload, 1) := id_Pending_add_1 (52, .aaload, 1) (List.mem_of_getElem? (i := 2) rfl)
theorem d_Pending_add_53 : decode prog_6_method_2_code 53 = .ok (.ifnonnull (15), 3) := id_Pending_add_1 (53, .ifnonnull (15), 3) (List.mem_of_getElem? (i := 3) rfl)
theorem d_Pending_add_56 : decode prog_6_method_2_code 56 = .ok (.aload_n 0, 1) := id_Pending_add_1 (56, .aload_n 0, 1) (List.mem_of_getElem? (i := 4) rfl)
theorem d_Pending_add_57 : decode prog_6_method_2_code 57 = .ok (.getfield 11, 3) := id_Pending_add_1 (57, .getfield 11, 3) (List.mem_of_getElem? (i := 5) rfl)
theorem d_Pending_add_60 : decode prog_6_method_2_code 60 = .ok (.iload 5, 2) := id_Pending_add_1 (60, .iload 5, 2) (List.mem_of_getElem? (i := 6) rfl)
theorem d_Pending_add_62 : decode prog_6_method_2_code 62 = .ok (.aload 4, 2) := id_Pending_add_1 (62, .aload 4, 2) (List.mem_of_getElem? (i := 7) rfl)
theorem d_Pending_add_64 : decode prog_6_method_2_code 64 = .ok (.aastore, 1) := id_Pending_add_1 (64, .aastore, 1) (List.mem_of_getElem? (i := 8) rfl)
theorem d_Pending_add_65 : decode prog_6_method_2_code 65 = .ok (.goto (15), 3) := id_Pending_add_1 (65, .goto (15), 3) (List.mem_of_getElem? (i := 9) rfl)
theorem d_Pending_add_68 : decode prog_6_method_2_code 68 = .ok (.aload_n 0, 1) := id_Pending_add_1 (68, .aload_n 0, 1) (List.mem_of_getElem? (i := 10) rfl)
theorem d_Pending_add_69 : decode prog_6_method_2_code 69 = .ok (.getfield 15, 3) := id_Pending_add_1 (69, .getfield 15, 3) (List.mem_of_getElem? (i := 11) rfl)
theorem d_Pending_add_72 : decode prog_6_method_2_code 72 = .ok (.iload 5, 2) := id_Pending_add_1 (72, .iload 5, 2) (List.mem_of_getElem? (i := 12) rfl)
theorem d_Pending_add_74 : decode prog_6_method_2_code 74 = .ok (.aaload, 1) := id_Pending_add_1 (74, .aaload, 1) (List.mem_of_getElem? (i := 13) rfl)
theorem d_Pending_add_75 : decode prog_6_method_2_code 75 = .ok (.aload 4, 2) := id_Pending_add_1 (75, .aload 4, 2) (List.mem_of_getElem? (i := 14) rfl)
theorem d_Pending_add_77 : decode prog_6_method_2_code 77 = .ok (.putfield 23, 3) := id_Pending_add_1 (77, .putfield 23, 3) (List.mem_of_getElem? (i := 15) rfl)
theorem d_Pending_add_80 : decode prog_6_method_2_code 80 = .ok (.aload_n 0, 1) := id_Pending_add_1 (80, .aload_n 0, 1) (List.mem_of_getElem? (i := 16) rfl)
theorem d_Pending_add_81 : decode prog_6_method_2_code 81 = .ok (.getfield 15, 3) := id_Pending_add_1 (81, .getfield 15, 3) (List.mem_of_getElem? (i := 17) rfl)
theorem d_Pending_add_84 : decode prog_6_method_2_code 84 = .ok (.iload 5, 2) := id_Pending_add_1 (84, .iload 5, 2) (List.mem_of_getElem? (i := 18) rfl)
theorem d_Pending_add_86 : decode prog_6_method_2_code 86 = .ok (.aload 4, 2) := id_Pending_add_1 (86, .aload 4, 2) (List.mem_of_getElem? (i := 19) rfl)
theorem d_Pending_add_88 : decode prog_6_method_2_code 88 = .ok (.aastore, 1) := id_Pending_add_1 (88, .aastore, 1) (List.mem_of_getElem? (i := 20) rfl)
theorem d_Pending_add_89 : decode prog_6_method_2_code 89 = .ok (.aload_n 0, 1) := id_Pending_add_1 (89, .aload_n 0, 1) (List.mem_of_getElem? (i := 21) rfl)
theorem d_Pending_add_90 : decode prog_6_method_2_code 90 = .ok (.dup, 1) := id_Pending_add_1 (90, .dup, 1) (List.mem_of_getElem? (i := 22) rfl)
theorem d_Pending_add_91 : decode prog_6_method_2_code 91 = .ok (.getfield 30, 3) := id_Pending_add_1 (91, .getfield 30, 3) (List.mem_of_getElem? (i := 23) rfl)
def it_Pending_add_2 : List (Nat × ClassFile.Instr × Nat) := [(94, .iconst 1, 1), (95, .iadd, 1), (96, .putfield 30, 3), (99, .return_, 1)]
theorem id_Pending_add_2 : ∀ q ∈ it_Pending_add_2, decode prog_6_method_2_code q.1 = .ok q.2 := by decide +kernel
theorem d_Pending_add_94 : decode prog_6_method_2_code 94 = .ok (.iconst 1, 1) := id_Pending_add_2 (94, .iconst 1, 1) (List.mem_of_getElem? (i := 0) rfl)
theorem d_Pending_add_95 : decode prog_6_method_2_code 95 = .ok (.iadd, 1) := id_Pending_add_2 (95, .iadd, 1) (List.mem_of_getElem? (i := 1) rfl)
theorem d_Pending_add_96 : decode prog_6_method_2_code 96 = .ok (.putfield 30, 3) := id_Pending_add_2 (96, .putfield 30, 3) (List.mem_of_getElem? (i := 2) rfl)
theorem d_Pending_add_99 : decode prog_6_method_2_code 99 = .ok (.return_, 1) := id_Pending_add_2 (99, .return_, 1) (List.mem_of_getElem? (i := 3) rfl)
theorem wC_Pending_add : Cond.code ⟨"WarpMill$Pending", "add", "(LWarpMill$Warp;II)V"⟩ prog_6_method_2_code 6 (none) ∈ lw_tb := mem_tb 906 (by decide +kernel) rfl
theorem cw_Pending_add_Ask_init : cW mi_Pending_add mi_Ask_init 0 := ⟨wC_Ask_init, wi_Ask, ⟨by decide, by decide, by decide +kernel⟩, by decide, by decide⟩
theorem cw_Pending_add_Ask_become : cW mi_Pending_add mi_Ask_become 3 := ⟨wC_Ask_become, wi_Ask, ⟨by decide, by decide, by decide +kernel⟩, by decide, by decide⟩
def b_Pending_add_80 (F : Nat) (x0 : Nat) (x4 : Nat) (x5 : Int32) (h : Hp) : Option Hp := gd (hK h x0 = 5) <| rq h (hR h 257 x0) 124 fun a_81_2 => gd (hK h x4 = 11) <| ix x5 (hN h a_81_2) fun j_88_2 => pw (sQ h a_81_2 j_88_2 (some x4)) fun h_88_3 => pw (sI h_88_3 259 x0 ((hI h_88_3 259 x0) + (1 : Int32))) fun h_96 => some h_96
set_option maxRecDepth 100000 in
set_option maxHeartbeats 4000000 in
theorem e_Pending_add_80 {G : Gl} (hw : gF G) {h0 : Hp} {F : Nat} {h' : Hp}   {x0 : Nat} {x4 : Nat} {x5 : Int32} {h : Hp} (hf : b_Pending_add_80 F x0 x4 x5 h = some h') : Go G mi_Pending_add h0 (pV h') h 80 [(0, .ref x0), (4, .ref x4), (5, .int x5)] [] := by
  unfold b_Pending_add_80 at hf
  refine g_aload_n d_Pending_add_80 rfl ?_
  obtain ⟨k_81, hf⟩ := gd_s hf
  obtain ⟨a_81_2, e_81_2, k_81_2, hf⟩ := rq_s hf
  refine fgs_Pending_last lf_Pending_15 d_Pending_add_81 k_81 e_81_2 ?_
  refine g_iload d_Pending_add_84 rfl ?_
  refine g_aload d_Pending_add_86 rfl ?_
  obtain ⟨k_88, hf⟩ := gd_s hf
  obtain ⟨i_88_2, hf⟩ := ix_s hf
  refine g_aast hw (ci := 10) k_81_2 (by decide) rfl k_88 (by decide) rfl i_88_2 d_Pending_add_88 ?_
  have hf := pw_b hf
  refine g_aload_n d_Pending_add_89 rfl ?_
  refine g_dup (by first | rfl | exact cat_rf _) d_Pending_add_90 ?_
  refine fg_Pending_count lf_Pending_30 d_Pending_add_91 (kksQ k_81) ?_
  refine g_iconst 1 d_Pending_add_94 (by decide) ?_
  refine g_iadd d_Pending_add_95 ?_
  refine fp_Pending_count hw lf_Pending_30 d_Pending_add_96 (kksQ k_81) ?_
  have hf := pw_b hf
  exact Go.ret none trivial rfl d_Pending_add_99 (pV_of hf)
def b_Pending_add_32 (F : Nat) (x0 : Nat) (x1 : Option Nat) (x2 : Int32) (x3 : Int32) (x4 : Nat) (h : Hp) : Option Hp := gd (hK h x4 = 11) <| clv (f_Ask_become F x4 x1 x2 x3 h) fun h_37_2 => gd (hK h_37_2 x0 = 5) <| rq h_37_2 (hR h_37_2 257 x0) 124 fun a_47_2 => ix (x3 &&& (63 : Int32)) (hN h_37_2 a_47_2) fun j_52 => pw (hQ h_37_2 a_47_2 j_52) fun o_52_2 => nu o_52_2 (rq h_37_2 (hR h_37_2 256 x0) 124 fun a_57 => gd (hK h_37_2 x4 = 11) <| ix (x3 &&& (63 : Int32)) (hN h_37_2 a_57) fun j_64_2 => pw (sQ h_37_2 a_57 j_64_2 (some x4)) fun h_64_3 => b_Pending_add_80 F x0 x4 (x3 &&& (63 : Int32)) h_64_3) fun a_53 => (ix (x3 &&& (63 : Int32)) (hN h_37_2 a_47_2) fun j_74 => rq h_37_2 (hQ h_37_2 a_47_2 j_74) 11 fun a_74_2 => pw (sR h_37_2 640 a_74_2 (some x4)) fun h_77 => b_Pending_add_80 F x0 x4 (x3 &&& (63 : Int32)) h_77)
set_option maxRecDepth 100000 in
set_option maxHeartbeats 4000000 in
theorem e_Pending_add_32 {G : Gl} (hw : gF G) {h0 : Hp} {F : Nat} {h' : Hp}   {x0 : Nat} {x1 : Option Nat} {x2 : Int32} {x3 : Int32} {x4 : Nat} {h : Hp} (hf : b_Pending_add_32 F x0 x1 x2 x3 x4 h = some h') : Go G mi_Pending_add h0 (pV h') h 32 [(0, .ref x0), (1, va_rf x1), (2, .int x2), (3, .int x3), (4, .ref x4)] [] := by
  unfold b_Pending_add_32 at hf
  refine g_aload d_Pending_add_32 rfl ?_
  refine g_aload_nq (r := x1) d_Pending_add_34 rfl ?_
  refine g_iload_n d_Pending_add_35 rfl ?_
  refine g_iload_n d_Pending_add_36 rfl ?_
  obtain ⟨k_37, hf⟩ := gd_s hf
  obtain ⟨h_37_2, e_37_2, hf⟩ := clv_s hf
  refine g_callV (mz := mi_Ask_become) (e_Ask_become hw e_37_2) cw_Pending_add_Ask_become lm_Pending_26 wI_Ask_become wV_Ask_become (ci := 10) k_37 (by decide) rfl rfl d_Pending_add_37 rfl rfl (by first | exact Nat.le_of_ble_eq_true rfl | simp [cat_rf, Value.category]) (fun r1 h1 hp hro => ?_)
  obtain ⟨rfl, rfl⟩ := hp
  dsimp only [Option.toList_some, Option.toList_none, List.cons_append, List.nil_append]
  refine g_iload_n d_Pending_add_40 rfl ?_
  refine g_bipush (63) d_Pending_add_41 (by decide) ?_
  refine g_iand d_Pending_add_43 ?_
  refine g_istore d_Pending_add_44 (by decide) ?_
  show Go _ _ _ _ _ _ [(0, _), (1, _), (2, _), (3, _), (4, _), (5, _)] _
  refine g_aload_n d_Pending_add_46 rfl ?_
  obtain ⟨k_47, hf⟩ := gd_s hf
  obtain ⟨a_47_2, e_47_2, k_47_2, hf⟩ := rq_s hf
  refine fgs_Pending_last lf_Pending_15 d_Pending_add_47 k_47 e_47_2 ?_
  refine g_iload d_Pending_add_50 rfl ?_
  obtain ⟨i_52, hf⟩ := ix_s hf
  refine g_aald k_47_2 (by decide) rfl rfl i_52 d_Pending_add_52 ?_
  obtain ⟨o_52_2, e_52_2, hf⟩ := pw_s hf
  refine Go.vr e_52_2 ?_
  refine g_ifnonnull (r := o_52_2) 68 d_Pending_add_53 (by decide) (fun a_53 c_53 => ?_) (fun c_53 => ?_)
  · subst c_53
    have hf := nu_s hf
    refine g_aload_n d_Pending_add_68 rfl ?_
    refine fgs_Pending_last lf_Pending_15 d_Pending_add_69 k_47 e_47_2 ?_
    refine g_iload d_Pending_add_72 rfl ?_
    obtain ⟨i_74, hf⟩ := ix_s hf
    refine g_aald k_47_2 (by decide) rfl rfl i_74 d_Pending_add_74 ?_
    obtain ⟨a_74_2, e_74_2, k_74_2, hf⟩ := rq_s hf
    refine Go.vs e_74_2 ?_
    refine g_aload d_Pending_add_75 rfl ?_
    refine fp_Ask_next hw (some x4) rfl lf_Pending_23 d_Pending_add_77 k_74_2 ?_
    have hf := pw_b hf
    refine Go.locals [0, 4, 5] rfl ?_
    have key := e_Pending_add_80 hw (G := G) (h0 := h0)  hf
    exact key
  · subst c_53
    have hf := nu_n hf
    refine g_aload_n d_Pending_add_56 rfl ?_
    obtain ⟨a_57, e_57, k_57, hf⟩ := rq_s hf
    refine fgs_Pending_first lf_Pending_11 d_Pending_add_57 k_47 e_57 ?_
    refine g_iload d_Pending_add_60 rfl ?_
    refine g_aload d_Pending_add_62 rfl ?_
    obtain ⟨k_64, hf⟩ := gd_s hf
    obtain ⟨i_64_2, hf⟩ := ix_s hf
    refine g_aast hw (ci := 10) k_57 (by decide) rfl k_64 (by decide) rfl i_64_2 d_Pending_add_64 ?_
    have hf := pw_b hf
    refine g_goto 80 d_Pending_add_65 (by decide) ?_
    refine Go.locals [0, 4, 5] rfl ?_
    have key := e_Pending_add_80 hw (G := G) (h0 := h0)  hf
    exact key
def f_Pending_add (F : Nat) (x0 : Nat) (x1 : Option Nat) (x2 : Int32) (x3 : Int32) (h : Hp) : Option Hp := gd (hK h x0 = 5) <| pw (hR h 258 x0) fun o_1_2 => nu o_1_2 (pw (hT h) fun a_11 => pw (nw h 11 0 9) fun h_11_2 => clv (f_Ask_init F a_11 h_11_2) fun h_15 => b_Pending_add_32 F x0 x1 x2 x3 a_11 h_15) fun a_8 => (gd (hK h a_8 = 11) <| pw (hR h 640 a_8) fun o_26_2 => pw (sR h 258 x0 o_26_2) fun h_29 => b_Pending_add_32 F x0 x1 x2 x3 a_8 h_29)
set_option maxRecDepth 100000 in
set_option maxHeartbeats 4000000 in
theorem e_Pending_add {G : Gl} (hw : gF G) {F : Nat} {h' : Hp} {x0 : Nat} {x1 : Option Nat} {x2 : Int32} {x3 : Int32} {h : Hp} (hf : f_Pending_add F x0 x1 x2 x3 h = some h') : Ex G mi_Pending_add [.ref x0, va_rf x1, .int x2, .int x3] h (pV h') := by
  unfold f_Pending_add at hf
  refine Ex.of nmV (by decide) (by cases x1 <;> exact Nat.le_of_ble_eq_true rfl) ?_
  rw [show lv_args 0 [.ref x0, va_rf x1, .int x2, .int x3] = [(0, .ref x0), (1, va_rf x1), (2, .int x2), (3, .int x3)] from by cases x1 <;> rfl]
  show Go G mi_Pending_add h _ h 0 [(0, .ref x0), (1, va_rf x1), (2, .int x2), (3, .int x3)] []
  refine g_aload_n d_Pending_add_0 rfl ?_
  obtain ⟨k_1, hf⟩ := gd_s hf
  obtain ⟨o_1_2, e_1_2, hf⟩ := pw_s hf
  refine fg_Pending_spare lf_Pending_18 d_Pending_add_1 k_1 ?_
  refine Go.vr e_1_2 ?_
  refine g_astoreq (r := o_1_2) d_Pending_add_4 (by decide) ?_
  show Go _ _ _ _ _ _ [(0, _), (1, _), (2, _), (3, _), (4, _)] _
  refine g_aloadq (r := o_1_2) d_Pending_add_6 rfl ?_
  refine g_ifnonnull (r := o_1_2) 23 d_Pending_add_8 (by decide) (fun a_8 c_8 => ?_) (fun c_8 => ?_)
  · subst c_8
    have hf := nu_s hf
    refine g_aload_n d_Pending_add_23 rfl ?_
    refine g_aload d_Pending_add_24 rfl ?_
    obtain ⟨k_26, hf⟩ := gd_s hf
    obtain ⟨o_26_2, e_26_2, hf⟩ := pw_s hf
    refine fg_Ask_next lf_Pending_23 d_Pending_add_26 k_26 ?_
    refine Go.vr e_26_2 ?_
    refine fp_Pending_spare hw o_26_2 rfl lf_Pending_18 d_Pending_add_29 k_1 ?_
    have hf := pw_b hf
    have key := e_Pending_add_32 hw (G := G) (h0 := h)  hf
    exact key
  · subst c_8
    have hf := nu_n hf
    obtain ⟨a_11, e_11, hf⟩ := pw_s hf
    refine g_newk 10 11 rfl okAsk lc_Pending_9 wn_Ask wi_Ask d_Pending_add_11 ?_
    refine Go.kn (fun k_11 => ?_)
    rw [← e_11] at k_11 ⊢
    have hf := pw_b hf
    refine g_dup (by first | rfl | exact cat_rf _) d_Pending_add_14 ?_
    obtain ⟨h_15, e_15, hf⟩ := clv_s hf
    refine g_callIN (mz := mi_Ask_init) (e_Ask_init e_15) cw_Pending_add_Ask_init (host := "WarpMill") (by decide +kernel) wI_Ask_init rfl rfl d_Pending_add_15 rfl rfl (by first | exact Nat.le_of_ble_eq_true rfl | simp [cat_rf, Value.category]) (fun r1 h1 hp hro => ?_)
    obtain ⟨rfl, rfl⟩ := hp
    dsimp only [Option.toList_some, Option.toList_none, List.cons_append, List.nil_append]
    refine g_astore d_Pending_add_18 (by decide) ?_
    show Go _ _ _ _ _ _ [(0, _), (1, _), (2, _), (3, _), (4, _)] _
    refine g_goto 32 d_Pending_add_20 (by decide) ?_
    have key := e_Pending_add_32 hw (G := G) (h0 := h)  hf
    exact key
abbrev mi_Memory_askTogether : MI := (⟨"WarpMill$Memory", "askTogether", "(LWarpMill$Warp;II)I"⟩, prog_5_method_6_code, 6, some .int, 3, 70)
def it_Memory_askTogether_0 : List (Nat × ClassFile.Instr × Nat) := [(0, .iconst 0, 1), (1, .istore 4, 2), (3, .iconst 0, 1), (4, .istore 5, 2), (6, .iload 5, 2), (8, .aload_n 1, 1), (9, .getfield 33, 3), (12, .if_icmp .ge (46), 3), (15, .iload_n 2, 1), (16, .iload 5, 2), (18, .invokestatic 38, 3), (21, .ifCond .eq (31), 3), (24, .aload_n 0, 1), (25, .getfield 25, 3), (28, .aload_n 1, 1), (29, .iload 5, 2), (31, .iload_n 3, 1), (32, .invokevirtual 71, 3), (35, .iload 4, 2), (37, .iconst 1, 1), (38, .aload_n 1, 1), (39, .getfield 42, 3), (42, .iload 5, 2), (44, .iaload, 1)]
theorem id_Memory_askTogether_0 : ∀ q ∈ it_Memory_askTogether_0, decode prog_5_method_6_code q.1 = .ok q.2 := by decide +kernel
theorem d_Memory_askTogether_0 : decode prog_5_method_6_code 0 = .ok (.iconst 0, 1) := id_Memory_askTogether_0 (0, .iconst 0, 1) (List.mem_of_getElem? (i := 0) rfl)
theorem d_Memory_askTogether_1 : decode prog_5_method_6_code 1 = .ok (.istore 4, 2) := id_Memory_askTogether_0 (1, .istore 4, 2) (List.mem_of_getElem? (i := 1) rfl)
theorem d_Memory_askTogether_3 : decode prog_5_method_6_code 3 = .ok (.iconst 0, 1) := id_Memory_askTogether_0 (3, .iconst 0, 1) (List.mem_of_getElem? (i := 2) rfl)
theorem d_Memory_askTogether_4 : decode prog_5_method_6_code 4 = .ok (.istore 5, 2) := id_Memory_askTogether_0 (4, .istore 5, 2) (List.mem_of_getElem? (i := 3) rfl)
theorem d_Memory_askTogether_6 : decode prog_5_method_6_code 6 = .ok (.iload 5, 2) := id_Memory_askTogether_0 (6, .iload 5, 2) (List.mem_of_getElem? (i := 4) rfl)
theorem d_Memory_askTogether_8 : decode prog_5_method_6_code 8 = .ok (.aload_n 1, 1) := id_Memory_askTogether_0 (8, .aload_n 1, 1) (List.mem_of_getElem? (i := 5) rfl)
theorem d_Memory_askTogether_9 : decode prog_5_method_6_code 9 = .ok (.getfield 33, 3) := id_Memory_askTogether_0 (9, .getfield 33, 3) (List.mem_of_getElem? (i := 6) rfl)
theorem d_Memory_askTogether_12 : decode prog_5_method_6_code 12 = .ok (.if_icmp .ge (46), 3) := id_Memory_askTogether_0 (12, .if_icmp .ge (46), 3) (List.mem_of_getElem? (i := 7) rfl)
theorem d_Memory_askTogether_15 : decode prog_5_method_6_code 15 = .ok (.iload_n 2, 1) := id_Memory_askTogether_0 (15, .iload_n 2, 1) (List.mem_of_getElem? (i := 8) rfl)
theorem d_Memory_askTogether_16 : decode prog_5_method_6_code 16 = .ok (.iload 5, 2) := id_Memory_askTogether_0 (16, .iload 5, 2) (List.mem_of_getElem? (i := 9) rfl)
theorem d_Memory_askTogether_18 : decode prog_5_method_6_code 18 = .ok (.invokestatic 38, 3) := id_Memory_askTogether_0 (18, .invokestatic 38, 3) (List.mem_of_getElem? (i := 10) rfl)
theorem d_Memory_askTogether_21 : decode prog_5_method_6_code 21 = .ok (.ifCond .eq (31), 3) := id_Memory_askTogether_0 (21, .ifCond .eq (31), 3) (List.mem_of_getElem? (i := 11) rfl)
theorem d_Memory_askTogether_24 : decode prog_5_method_6_code 24 = .ok (.aload_n 0, 1) := id_Memory_askTogether_0 (24, .aload_n 0, 1) (List.mem_of_getElem? (i := 12) rfl)
theorem d_Memory_askTogether_25 : decode prog_5_method_6_code 25 = .ok (.getfield 25, 3) := id_Memory_askTogether_0 (25, .getfield 25, 3) (List.mem_of_getElem? (i := 13) rfl)
theorem d_Memory_askTogether_28 : decode prog_5_method_6_code 28 = .ok (.aload_n 1, 1) := id_Memory_askTogether_0 (28, .aload_n 1, 1) (List.mem_of_getElem? (i := 14) rfl)
theorem d_Memory_askTogether_29 : decode prog_5_method_6_code 29 = .ok (.iload 5, 2) := id_Memory_askTogether_0 (29, .iload 5, 2) (List.mem_of_getElem? (i := 15) rfl)
theorem d_Memory_askTogether_31 : decode prog_5_method_6_code 31 = .ok (.iload_n 3, 1) := id_Memory_askTogether_0 (31, .iload_n 3, 1) (List.mem_of_getElem? (i := 16) rfl)
theorem d_Memory_askTogether_32 : decode prog_5_method_6_code 32 = .ok (.invokevirtual 71, 3) := id_Memory_askTogether_0 (32, .invokevirtual 71, 3) (List.mem_of_getElem? (i := 17) rfl)
theorem d_Memory_askTogether_35 : decode prog_5_method_6_code 35 = .ok (.iload 4, 2) := id_Memory_askTogether_0 (35, .iload 4, 2) (List.mem_of_getElem? (i := 18) rfl)
theorem d_Memory_askTogether_37 : decode prog_5_method_6_code 37 = .ok (.iconst 1, 1) := id_Memory_askTogether_0 (37, .iconst 1, 1) (List.mem_of_getElem? (i := 19) rfl)
theorem d_Memory_askTogether_38 : decode prog_5_method_6_code 38 = .ok (.aload_n 1, 1) := id_Memory_askTogether_0 (38, .aload_n 1, 1) (List.mem_of_getElem? (i := 20) rfl)
theorem d_Memory_askTogether_39 : decode prog_5_method_6_code 39 = .ok (.getfield 42, 3) := id_Memory_askTogether_0 (39, .getfield 42, 3) (List.mem_of_getElem? (i := 21) rfl)
theorem d_Memory_askTogether_42 : decode prog_5_method_6_code 42 = .ok (.iload 5, 2) := id_Memory_askTogether_0 (42, .iload 5, 2) (List.mem_of_getElem? (i := 22) rfl)
theorem d_Memory_askTogether_44 : decode prog_5_method_6_code 44 = .ok (.iaload, 1) := id_Memory_askTogether_0 (44, .iaload, 1) (List.mem_of_getElem? (i := 23) rfl)
def it_Memory_askTogether_1 : List (Nat × ClassFile.Instr × Nat) := [(45, .bipush (7), 2), (47, .iand, 1), (48, .ishl, 1), (49, .ior, 1), (50, .istore 4, 2), (52, .iinc 5 (1), 3), (55, .goto (-49), 3), (58, .iload_n 2, 1), (59, .invokestatic 75, 3), (62, .iload 4, 2), (64, .invokestatic 75, 3), (67, .isub, 1), (68, .ireturn, 1)]
theorem id_Memory_askTogether_1 : ∀ q ∈ it_Memory_askTogether_1, decode prog_5_method_6_code q.1 = .ok q.2 := by decide +kernel
theorem d_Memory_askTogether_45 : decode prog_5_method_6_code 45 = .ok (.bipush (7), 2) := id_Memory_askTogether_1 (45, .bipush (7), 2) (List.mem_of_getElem? (i := 0) rfl)
theorem d_Memory_askTogether_47 : decode prog_5_method_6_code 47 = .ok (.iand, 1) := id_Memory_askTogether_1 (47, .iand, 1) (List.mem_of_getElem? (i := 1) rfl)
theorem d_Memory_askTogether_48 : decode prog_5_method_6_code 48 = .ok (.ishl, 1) := id_Memory_askTogether_1 (48, .ishl, 1) (List.mem_of_getElem? (i := 2) rfl)
theorem d_Memory_askTogether_49 : decode prog_5_method_6_code 49 = .ok (.ior, 1) := id_Memory_askTogether_1 (49, .ior, 1) (List.mem_of_getElem? (i := 3) rfl)
theorem d_Memory_askTogether_50 : decode prog_5_method_6_code 50 = .ok (.istore 4, 2) := id_Memory_askTogether_1 (50, .istore 4, 2) (List.mem_of_getElem? (i := 4) rfl)
theorem d_Memory_askTogether_52 : decode prog_5_method_6_code 52 = .ok (.iinc 5 (1), 3) := id_Memory_askTogether_1 (52, .iinc 5 (1), 3) (List.mem_of_getElem? (i := 5) rfl)
theorem d_Memory_askTogether_55 : decode prog_5_method_6_code 55 = .ok (.goto (-49), 3) := id_Memory_askTogether_1 (55, .goto (-49), 3) (List.mem_of_getElem? (i := 6) rfl)
theorem d_Memory_askTogether_58 : decode prog_5_method_6_code 58 = .ok (.iload_n 2, 1) := id_Memory_askTogether_1 (58, .iload_n 2, 1) (List.mem_of_getElem? (i := 7) rfl)
theorem d_Memory_askTogether_59 : decode prog_5_method_6_code 59 = .ok (.invokestatic 75, 3) := id_Memory_askTogether_1 (59, .invokestatic 75, 3) (List.mem_of_getElem? (i := 8) rfl)
theorem d_Memory_askTogether_62 : decode prog_5_method_6_code 62 = .ok (.iload 4, 2) := id_Memory_askTogether_1 (62, .iload 4, 2) (List.mem_of_getElem? (i := 9) rfl)
theorem d_Memory_askTogether_64 : decode prog_5_method_6_code 64 = .ok (.invokestatic 75, 3) := id_Memory_askTogether_1 (64, .invokestatic 75, 3) (List.mem_of_getElem? (i := 10) rfl)
theorem d_Memory_askTogether_67 : decode prog_5_method_6_code 67 = .ok (.isub, 1) := id_Memory_askTogether_1 (67, .isub, 1) (List.mem_of_getElem? (i := 11) rfl)
theorem d_Memory_askTogether_68 : decode prog_5_method_6_code 68 = .ok (.ireturn, 1) := id_Memory_askTogether_1 (68, .ireturn, 1) (List.mem_of_getElem? (i := 12) rfl)
theorem wC_Memory_askTogether : Cond.code ⟨"WarpMill$Memory", "askTogether", "(LWarpMill$Warp;II)I"⟩ prog_5_method_6_code 6 (some .int) ∈ lw_tb := mem_tb 902 (by decide +kernel) rfl
theorem cw_Memory_askTogether_WM_in : cW mi_Memory_askTogether mi_WM_in 2 := ⟨wC_WM_in, wi_WM, ⟨by decide, by decide, by decide +kernel⟩, by decide, by decide⟩
theorem cw_Memory_askTogether_Pending_add : cW mi_Memory_askTogether mi_Pending_add 3 := ⟨wC_Pending_add, wi_Pending, ⟨by decide, by decide, by decide +kernel⟩, by decide, by decide⟩
theorem cw_Memory_askTogether_Integer_bitCount : cW mi_Memory_askTogether mi_Integer_bitCount 1 := ⟨wC_Integer_bitCount, wi_Integer, ⟨by decide, by decide, by decide +kernel⟩, by decide, by decide⟩
def b_Memory_askTogether_6 (F : Nat) : Nat → Nat → Option Nat → Int32 → Int32 → Int32 → Int32 → Hp → Option (Int32 × Hp)
  | 0 => fun _ _ _ _ _ _ _ => none
  | n + 1 => fun x0 x1 x2 x3 x4 x5 h => rq h x1 9 fun a_9 => if (hI h 514 a_9) ≤ x5 then (cl (f_Integer_bitCount F x2 h) fun v_59 h_59 => cl (f_Integer_bitCount F x4 h_59) fun v_64 h_64 => some ((v_59 - v_64), h_64)) else (cl (f_WM_in F x2 x5 h) fun v_18 h_18 => if v_18 = 0 then (b_Memory_askTogether_6 F n x0 (some a_9) x2 x3 x4 (x5 + 1) h_18) else (gd (hK h_18 x0 = 3) <| rq h_18 (hR h_18 130 x0) 5 fun a_25_2 => clv (f_Pending_add F a_25_2 (some a_9) x5 x3 h_18) fun h_32 => gd (hK h_32 a_9 = 9) <| rq h_32 (hR h_32 525 a_9) 100 fun a_39_2 => ix x5 (hN h_32 a_39_2) fun j_44 => b_Memory_askTogether_6 F n x0 (some a_9) x2 x3 (x4 ||| ((1 : Int32) <<< (((hA h_32 a_39_2 j_44) &&& (7 : Int32)) &&& 31))) (x5 + 1) h_32))
set_option maxRecDepth 100000 in
set_option maxHeartbeats 4000000 in
theorem e_Memory_askTogether_6 {G : Gl} (hw : gF G) {h0 : Hp} {F : Nat} {r : Int32} {h' : Hp}   : ∀ (n : Nat) (x0 : Nat) (x1 : Option Nat) (x2 : Int32) (x3 : Int32) (x4 : Int32) (x5 : Int32) (h : Hp), b_Memory_askTogether_6 F n x0 x1 x2 x3 x4 x5 h = some (r, h') → Go G mi_Memory_askTogether h0 (pI r h') h 6 [(0, .ref x0), (1, va_rf x1), (2, .int x2), (3, .int x3), (4, .int x4), (5, .int x5)] [] := by
  intro n
  induction n with
  | zero =>
    intro _ _ _ _ _ _ _ hf
    exact nm_s hf
  | succ n ih =>
    intro x0 x1 x2 x3 x4 x5 h hf
    unfold b_Memory_askTogether_6 at hf
    refine g_iload d_Memory_askTogether_6 rfl ?_
    refine g_aload_nq (r := x1) d_Memory_askTogether_8 rfl ?_
    obtain ⟨a_9, rfl, k_9, hf⟩ := rq_s hf
    refine fg_Warp_lanes lf_Memory_33 d_Memory_askTogether_9 k_9 ?_
    refine g_icmp_ge 58 d_Memory_askTogether_12 (by decide) (fun c_12 => ?_) (fun c_12 => ?_)
    · have hf := ifp hf c_12
      refine g_iload_n d_Memory_askTogether_58 rfl ?_
      obtain ⟨v_59, h_59, e_59, hf⟩ := cl_s hf
      refine g_callS (mz := mi_Integer_bitCount) (e_Integer_bitCount e_59) cw_Memory_askTogether_Integer_bitCount lm_Memory_75 wS_Integer_bitCount d_Memory_askTogether_59 rfl rfl (by first | exact Nat.le_of_ble_eq_true rfl | simp [cat_rf, Value.category]) (fun r1 h1 hp hro => ?_)
      obtain ⟨rfl, rfl⟩ := hp
      dsimp only [Option.toList_some, Option.toList_none, List.cons_append, List.nil_append]
      refine g_iload d_Memory_askTogether_62 rfl ?_
      obtain ⟨v_64, h_64, e_64, hf⟩ := cl_s hf
      refine g_callS (mz := mi_Integer_bitCount) (e_Integer_bitCount e_64) cw_Memory_askTogether_Integer_bitCount lm_Memory_75 wS_Integer_bitCount d_Memory_askTogether_64 rfl rfl (by first | exact Nat.le_of_ble_eq_true rfl | simp [cat_rf, Value.category]) (fun r1 h1 hp hro => ?_)
      obtain ⟨rfl, rfl⟩ := hp
      dsimp only [Option.toList_some, Option.toList_none, List.cons_append, List.nil_append]
      refine g_isub d_Memory_askTogether_67 ?_
      exact Go.ret (some _) (rOk_i _) rfl d_Memory_askTogether_68 (pI_of hf)
    · have hf := ifn hf c_12
      refine g_iload_n d_Memory_askTogether_15 rfl ?_
      refine g_iload d_Memory_askTogether_16 rfl ?_
      obtain ⟨v_18, h_18, e_18, hf⟩ := cl_s hf
      refine g_callSN (mz := mi_WM_in) (e_WM_in e_18) cw_Memory_askTogether_WM_in (host := "WarpMill") (by decide +kernel) wS_WM_in d_Memory_askTogether_18 rfl rfl (by first | exact Nat.le_of_ble_eq_true rfl | simp [cat_rf, Value.category]) (fun r1 h1 hp hro => ?_)
      obtain ⟨rfl, rfl⟩ := hp
      dsimp only [Option.toList_some, Option.toList_none, List.cons_append, List.nil_append]
      refine g_if_eq 52 d_Memory_askTogether_21 (by decide) (fun c_21 => ?_) (fun c_21 => ?_)
      · have hf := ifp hf c_21
        refine g_iinc (_ + 1) d_Memory_askTogether_52 rfl (by rfl) (by decide) ?_
        show Go _ _ _ _ _ _ [(0, _), (1, _), (2, _), (3, _), (4, _), (5, _)] _
        refine g_goto 6 d_Memory_askTogether_55 (by decide) ?_
        exact ih _ _ _ _ _ _ _ hf
      · have hf := ifn hf c_21
        refine g_aload_n d_Memory_askTogether_24 rfl ?_
        obtain ⟨k_25, hf⟩ := gd_s hf
        obtain ⟨a_25_2, e_25_2, k_25_2, hf⟩ := rq_s hf
        refine fgs_Memory_pending lf_Memory_25 d_Memory_askTogether_25 k_25 e_25_2 ?_
        refine g_aload_n d_Memory_askTogether_28 rfl ?_
        refine g_iload d_Memory_askTogether_29 rfl ?_
        refine g_iload_n d_Memory_askTogether_31 rfl ?_
        obtain ⟨h_32, e_32, hf⟩ := clv_s hf
        refine g_callV (mz := mi_Pending_add) (e_Pending_add hw e_32) cw_Memory_askTogether_Pending_add lm_Memory_71 wI_Pending_add wV_Pending_add (ci := 4) k_25_2 (by decide) rfl rfl d_Memory_askTogether_32 rfl rfl (by first | exact Nat.le_of_ble_eq_true rfl | simp [cat_rf, Value.category]) (fun r1 h1 hp hro => ?_)
        obtain ⟨rfl, rfl⟩ := hp
        dsimp only [Option.toList_some, Option.toList_none, List.cons_append, List.nil_append]
        refine g_iload d_Memory_askTogether_35 rfl ?_
        refine g_iconst 1 d_Memory_askTogether_37 (by decide) ?_
        refine g_aload_n d_Memory_askTogether_38 rfl ?_
        obtain ⟨k_39, hf⟩ := gd_s hf
        obtain ⟨a_39_2, e_39_2, k_39_2, hf⟩ := rq_s hf
        refine fgs_Warp_row lf_Memory_42 d_Memory_askTogether_39 k_39 e_39_2 ?_
        refine g_iload d_Memory_askTogether_42 rfl ?_
        obtain ⟨i_44, hf⟩ := ix_s hf
        refine g_iald k_39_2 i_44 d_Memory_askTogether_44 ?_
        refine g_bipush (7) d_Memory_askTogether_45 (by decide) ?_
        refine g_iand d_Memory_askTogether_47 ?_
        refine g_ishl d_Memory_askTogether_48 ?_
        refine g_ior d_Memory_askTogether_49 ?_
        refine g_istore d_Memory_askTogether_50 (by decide) ?_
        show Go _ _ _ _ _ _ [(0, _), (1, _), (2, _), (3, _), (4, _), (5, _)] _
        refine g_iinc (_ + 1) d_Memory_askTogether_52 rfl (by rfl) (by decide) ?_
        show Go _ _ _ _ _ _ [(0, _), (1, _), (2, _), (3, _), (4, _), (5, _)] _
        refine g_goto 6 d_Memory_askTogether_55 (by decide) ?_
        exact ih _ _ _ _ _ _ _ hf
def f_Memory_askTogether (F : Nat) (x0 : Nat) (x1 : Option Nat) (x2 : Int32) (x3 : Int32) (h : Hp) : Option (Int32 × Hp) := b_Memory_askTogether_6 F F x0 x1 x2 x3 (0 : Int32) (0 : Int32) h
set_option maxRecDepth 100000 in
set_option maxHeartbeats 4000000 in
theorem e_Memory_askTogether {G : Gl} (hw : gF G) {F : Nat} {r : Int32} {h' : Hp} {x0 : Nat} {x1 : Option Nat} {x2 : Int32} {x3 : Int32} {h : Hp} (hf : f_Memory_askTogether F x0 x1 x2 x3 h = some (r, h')) : Ex G mi_Memory_askTogether [.ref x0, va_rf x1, .int x2, .int x3] h (pI r h') := by
  unfold f_Memory_askTogether at hf
  refine Ex.of nmI (by decide) (by cases x1 <;> exact Nat.le_of_ble_eq_true rfl) ?_
  rw [show lv_args 0 [.ref x0, va_rf x1, .int x2, .int x3] = [(0, .ref x0), (1, va_rf x1), (2, .int x2), (3, .int x3)] from by cases x1 <;> rfl]
  show Go G mi_Memory_askTogether h _ h 0 [(0, .ref x0), (1, va_rf x1), (2, .int x2), (3, .int x3)] []
  refine g_iconst 0 d_Memory_askTogether_0 (by decide) ?_
  refine g_istore d_Memory_askTogether_1 (by decide) ?_
  show Go _ _ _ _ _ _ [(0, _), (1, _), (2, _), (3, _), (4, _)] _
  refine g_iconst 0 d_Memory_askTogether_3 (by decide) ?_
  refine g_istore d_Memory_askTogether_4 (by decide) ?_
  show Go _ _ _ _ _ _ [(0, _), (1, _), (2, _), (3, _), (4, _), (5, _)] _
  have key := e_Memory_askTogether_6 hw (G := G) (h0 := h)  F _ _ _ _ _ _ _ hf
  exact key
abbrev mi_Memory_ask : MI := (⟨"WarpMill$Memory", "ask", "(LWarpMill$Warp;III)I"⟩, prog_5_method_4_code, 12, some .int, 4, 95)
def it_Memory_ask_0 : List (Nat × ClassFile.Instr × Nat) := [(0, .iload_n 3, 1), (1, .iconst 1, 1), (2, .iadd, 1), (3, .istore 5, 2), (5, .iconst 0, 1), (6, .istore 6, 2), (8, .iload_n 2, 1), (9, .istore 7, 2), (11, .iconst 0, 1), (12, .istore 8, 2), (14, .iload 8, 2), (16, .aload_n 1, 1), (17, .getfield 33, 3), (20, .if_icmp .ge (86), 3), (23, .iload 7, 2), (25, .iload 8, 2), (27, .invokestatic 38, 3), (30, .ifCond .eq (70), 3), (33, .aload_n 1, 1), (34, .getfield 42, 3), (37, .iload 8, 2), (39, .iaload, 1), (40, .iconst 3, 1), (41, .ishr, 1)]
theorem id_Memory_ask_0 : ∀ q ∈ it_Memory_ask_0, decode prog_5_method_4_code q.1 = .ok q.2 := by decide +kernel
theorem d_Memory_ask_0 : decode prog_5_method_4_code 0 = .ok (.iload_n 3, 1) := id_Memory_ask_0 (0, .iload_n 3, 1) (List.mem_of_getElem? (i := 0) rfl)
theorem d_Memory_ask_1 : decode prog_5_method_4_code 1 = .ok (.iconst 1, 1) := id_Memory_ask_0 (1, .iconst 1, 1) (List.mem_of_getElem? (i := 1) rfl)
theorem d_Memory_ask_2 : decode prog_5_method_4_code 2 = .ok (.iadd, 1) := id_Memory_ask_0 (2, .iadd, 1) (List.mem_of_getElem? (i := 2) rfl)
theorem d_Memory_ask_3 : decode prog_5_method_4_code 3 = .ok (.istore 5, 2) := id_Memory_ask_0 (3, .istore 5, 2) (List.mem_of_getElem? (i := 3) rfl)
theorem d_Memory_ask_5 : decode prog_5_method_4_code 5 = .ok (.iconst 0, 1) := id_Memory_ask_0 (5, .iconst 0, 1) (List.mem_of_getElem? (i := 4) rfl)
theorem d_Memory_ask_6 : decode prog_5_method_4_code 6 = .ok (.istore 6, 2) := id_Memory_ask_0 (6, .istore 6, 2) (List.mem_of_getElem? (i := 5) rfl)
theorem d_Memory_ask_8 : decode prog_5_method_4_code 8 = .ok (.iload_n 2, 1) := id_Memory_ask_0 (8, .iload_n 2, 1) (List.mem_of_getElem? (i := 6) rfl)
theorem d_Memory_ask_9 : decode prog_5_method_4_code 9 = .ok (.istore 7, 2) := id_Memory_ask_0 (9, .istore 7, 2) (List.mem_of_getElem? (i := 7) rfl)
theorem d_Memory_ask_11 : decode prog_5_method_4_code 11 = .ok (.iconst 0, 1) := id_Memory_ask_0 (11, .iconst 0, 1) (List.mem_of_getElem? (i := 8) rfl)
theorem d_Memory_ask_12 : decode prog_5_method_4_code 12 = .ok (.istore 8, 2) := id_Memory_ask_0 (12, .istore 8, 2) (List.mem_of_getElem? (i := 9) rfl)
theorem d_Memory_ask_14 : decode prog_5_method_4_code 14 = .ok (.iload 8, 2) := id_Memory_ask_0 (14, .iload 8, 2) (List.mem_of_getElem? (i := 10) rfl)
theorem d_Memory_ask_16 : decode prog_5_method_4_code 16 = .ok (.aload_n 1, 1) := id_Memory_ask_0 (16, .aload_n 1, 1) (List.mem_of_getElem? (i := 11) rfl)
theorem d_Memory_ask_17 : decode prog_5_method_4_code 17 = .ok (.getfield 33, 3) := id_Memory_ask_0 (17, .getfield 33, 3) (List.mem_of_getElem? (i := 12) rfl)
theorem d_Memory_ask_20 : decode prog_5_method_4_code 20 = .ok (.if_icmp .ge (86), 3) := id_Memory_ask_0 (20, .if_icmp .ge (86), 3) (List.mem_of_getElem? (i := 13) rfl)
theorem d_Memory_ask_23 : decode prog_5_method_4_code 23 = .ok (.iload 7, 2) := id_Memory_ask_0 (23, .iload 7, 2) (List.mem_of_getElem? (i := 14) rfl)
theorem d_Memory_ask_25 : decode prog_5_method_4_code 25 = .ok (.iload 8, 2) := id_Memory_ask_0 (25, .iload 8, 2) (List.mem_of_getElem? (i := 15) rfl)
theorem d_Memory_ask_27 : decode prog_5_method_4_code 27 = .ok (.invokestatic 38, 3) := id_Memory_ask_0 (27, .invokestatic 38, 3) (List.mem_of_getElem? (i := 16) rfl)
theorem d_Memory_ask_30 : decode prog_5_method_4_code 30 = .ok (.ifCond .eq (70), 3) := id_Memory_ask_0 (30, .ifCond .eq (70), 3) (List.mem_of_getElem? (i := 17) rfl)
theorem d_Memory_ask_33 : decode prog_5_method_4_code 33 = .ok (.aload_n 1, 1) := id_Memory_ask_0 (33, .aload_n 1, 1) (List.mem_of_getElem? (i := 18) rfl)
theorem d_Memory_ask_34 : decode prog_5_method_4_code 34 = .ok (.getfield 42, 3) := id_Memory_ask_0 (34, .getfield 42, 3) (List.mem_of_getElem? (i := 19) rfl)
theorem d_Memory_ask_37 : decode prog_5_method_4_code 37 = .ok (.iload 8, 2) := id_Memory_ask_0 (37, .iload 8, 2) (List.mem_of_getElem? (i := 20) rfl)
theorem d_Memory_ask_39 : decode prog_5_method_4_code 39 = .ok (.iaload, 1) := id_Memory_ask_0 (39, .iaload, 1) (List.mem_of_getElem? (i := 21) rfl)
theorem d_Memory_ask_40 : decode prog_5_method_4_code 40 = .ok (.iconst 3, 1) := id_Memory_ask_0 (40, .iconst 3, 1) (List.mem_of_getElem? (i := 22) rfl)
theorem d_Memory_ask_41 : decode prog_5_method_4_code 41 = .ok (.ishr, 1) := id_Memory_ask_0 (41, .ishr, 1) (List.mem_of_getElem? (i := 23) rfl)
def it_Memory_ask_1 : List (Nat × ClassFile.Instr × Nat) := [(42, .istore 9, 2), (44, .aload_n 1, 1), (45, .iload 7, 2), (47, .iload 9, 2), (49, .invokestatic 45, 3), (52, .istore 10, 2), (54, .aload_n 0, 1), (55, .getfield 18, 3), (58, .iload 9, 2), (60, .iload 4, 2), (62, .iload_n 3, 1), (63, .invokevirtual 49, 3), (66, .istore 11, 2), (68, .iload 6, 2), (70, .aload_n 0, 1), (71, .aload_n 1, 1), (72, .iload 10, 2), (74, .iload 11, 2), (76, .invokevirtual 53, 3), (79, .iadd, 1), (80, .istore 6, 2), (82, .iload 5, 2), (84, .iload 11, 2), (86, .invokestatic 56, 3)]
theorem id_Memory_ask_1 : ∀ q ∈ it_Memory_ask_1, decode prog_5_method_4_code q.1 = .ok q.2 := by decide +kernel
theorem d_Memory_ask_42 : decode prog_5_method_4_code 42 = .ok (.istore 9, 2) := id_Memory_ask_1 (42, .istore 9, 2) (List.mem_of_getElem? (i := 0) rfl)
theorem d_Memory_ask_44 : decode prog_5_method_4_code 44 = .ok (.aload_n 1, 1) := id_Memory_ask_1 (44, .aload_n 1, 1) (List.mem_of_getElem? (i := 1) rfl)
theorem d_Memory_ask_45 : decode prog_5_method_4_code 45 = .ok (.iload 7, 2) := id_Memory_ask_1 (45, .iload 7, 2) (List.mem_of_getElem? (i := 2) rfl)
theorem d_Memory_ask_47 : decode prog_5_method_4_code 47 = .ok (.iload 9, 2) := id_Memory_ask_1 (47, .iload 9, 2) (List.mem_of_getElem? (i := 3) rfl)
theorem d_Memory_ask_49 : decode prog_5_method_4_code 49 = .ok (.invokestatic 45, 3) := id_Memory_ask_1 (49, .invokestatic 45, 3) (List.mem_of_getElem? (i := 4) rfl)
theorem d_Memory_ask_52 : decode prog_5_method_4_code 52 = .ok (.istore 10, 2) := id_Memory_ask_1 (52, .istore 10, 2) (List.mem_of_getElem? (i := 5) rfl)
theorem d_Memory_ask_54 : decode prog_5_method_4_code 54 = .ok (.aload_n 0, 1) := id_Memory_ask_1 (54, .aload_n 0, 1) (List.mem_of_getElem? (i := 6) rfl)
theorem d_Memory_ask_55 : decode prog_5_method_4_code 55 = .ok (.getfield 18, 3) := id_Memory_ask_1 (55, .getfield 18, 3) (List.mem_of_getElem? (i := 7) rfl)
theorem d_Memory_ask_58 : decode prog_5_method_4_code 58 = .ok (.iload 9, 2) := id_Memory_ask_1 (58, .iload 9, 2) (List.mem_of_getElem? (i := 8) rfl)
theorem d_Memory_ask_60 : decode prog_5_method_4_code 60 = .ok (.iload 4, 2) := id_Memory_ask_1 (60, .iload 4, 2) (List.mem_of_getElem? (i := 9) rfl)
theorem d_Memory_ask_62 : decode prog_5_method_4_code 62 = .ok (.iload_n 3, 1) := id_Memory_ask_1 (62, .iload_n 3, 1) (List.mem_of_getElem? (i := 10) rfl)
theorem d_Memory_ask_63 : decode prog_5_method_4_code 63 = .ok (.invokevirtual 49, 3) := id_Memory_ask_1 (63, .invokevirtual 49, 3) (List.mem_of_getElem? (i := 11) rfl)
theorem d_Memory_ask_66 : decode prog_5_method_4_code 66 = .ok (.istore 11, 2) := id_Memory_ask_1 (66, .istore 11, 2) (List.mem_of_getElem? (i := 12) rfl)
theorem d_Memory_ask_68 : decode prog_5_method_4_code 68 = .ok (.iload 6, 2) := id_Memory_ask_1 (68, .iload 6, 2) (List.mem_of_getElem? (i := 13) rfl)
theorem d_Memory_ask_70 : decode prog_5_method_4_code 70 = .ok (.aload_n 0, 1) := id_Memory_ask_1 (70, .aload_n 0, 1) (List.mem_of_getElem? (i := 14) rfl)
theorem d_Memory_ask_71 : decode prog_5_method_4_code 71 = .ok (.aload_n 1, 1) := id_Memory_ask_1 (71, .aload_n 1, 1) (List.mem_of_getElem? (i := 15) rfl)
theorem d_Memory_ask_72 : decode prog_5_method_4_code 72 = .ok (.iload 10, 2) := id_Memory_ask_1 (72, .iload 10, 2) (List.mem_of_getElem? (i := 16) rfl)
theorem d_Memory_ask_74 : decode prog_5_method_4_code 74 = .ok (.iload 11, 2) := id_Memory_ask_1 (74, .iload 11, 2) (List.mem_of_getElem? (i := 17) rfl)
theorem d_Memory_ask_76 : decode prog_5_method_4_code 76 = .ok (.invokevirtual 53, 3) := id_Memory_ask_1 (76, .invokevirtual 53, 3) (List.mem_of_getElem? (i := 18) rfl)
theorem d_Memory_ask_79 : decode prog_5_method_4_code 79 = .ok (.iadd, 1) := id_Memory_ask_1 (79, .iadd, 1) (List.mem_of_getElem? (i := 19) rfl)
theorem d_Memory_ask_80 : decode prog_5_method_4_code 80 = .ok (.istore 6, 2) := id_Memory_ask_1 (80, .istore 6, 2) (List.mem_of_getElem? (i := 20) rfl)
theorem d_Memory_ask_82 : decode prog_5_method_4_code 82 = .ok (.iload 5, 2) := id_Memory_ask_1 (82, .iload 5, 2) (List.mem_of_getElem? (i := 21) rfl)
theorem d_Memory_ask_84 : decode prog_5_method_4_code 84 = .ok (.iload 11, 2) := id_Memory_ask_1 (84, .iload 11, 2) (List.mem_of_getElem? (i := 22) rfl)
theorem d_Memory_ask_86 : decode prog_5_method_4_code 86 = .ok (.invokestatic 56, 3) := id_Memory_ask_1 (86, .invokestatic 56, 3) (List.mem_of_getElem? (i := 23) rfl)
def it_Memory_ask_2 : List (Nat × ClassFile.Instr × Nat) := [(89, .istore 5, 2), (91, .iload 7, 2), (93, .iload 10, 2), (95, .iconst (-1), 1), (96, .ixor, 1), (97, .iand, 1), (98, .istore 7, 2), (100, .iinc 8 (1), 3), (103, .goto (-89), 3), (106, .iload 5, 2), (108, .iload_n 3, 1), (109, .isub, 1), (110, .aload_n 1, 1), (111, .getfield 62, 3), (114, .getfield 66, 3), (117, .bipush (54), 2), (119, .if_icmp .lt (8), 3), (122, .iload 6, 2), (124, .goto (4), 3), (127, .iconst 0, 1), (128, .iadd, 1), (129, .ireturn, 1)]
theorem id_Memory_ask_2 : ∀ q ∈ it_Memory_ask_2, decode prog_5_method_4_code q.1 = .ok q.2 := by decide +kernel
theorem d_Memory_ask_89 : decode prog_5_method_4_code 89 = .ok (.istore 5, 2) := id_Memory_ask_2 (89, .istore 5, 2) (List.mem_of_getElem? (i := 0) rfl)
theorem d_Memory_ask_91 : decode prog_5_method_4_code 91 = .ok (.iload 7, 2) := id_Memory_ask_2 (91, .iload 7, 2) (List.mem_of_getElem? (i := 1) rfl)
theorem d_Memory_ask_93 : decode prog_5_method_4_code 93 = .ok (.iload 10, 2) := id_Memory_ask_2 (93, .iload 10, 2) (List.mem_of_getElem? (i := 2) rfl)
theorem d_Memory_ask_95 : decode prog_5_method_4_code 95 = .ok (.iconst (-1), 1) := id_Memory_ask_2 (95, .iconst (-1), 1) (List.mem_of_getElem? (i := 3) rfl)
theorem d_Memory_ask_96 : decode prog_5_method_4_code 96 = .ok (.ixor, 1) := id_Memory_ask_2 (96, .ixor, 1) (List.mem_of_getElem? (i := 4) rfl)
theorem d_Memory_ask_97 : decode prog_5_method_4_code 97 = .ok (.iand, 1) := id_Memory_ask_2 (97, .iand, 1) (List.mem_of_getElem? (i := 5) rfl)
theorem d_Memory_ask_98 : decode prog_5_method_4_code 98 = .ok (.istore 7, 2) := id_Memory_ask_2 (98, .istore 7, 2) (List.mem_of_getElem? (i := 6) rfl)
theorem d_Memory_ask_100 : decode prog_5_method_4_code 100 = .ok (.iinc 8 (1), 3) := id_Memory_ask_2 (100, .iinc 8 (1), 3) (List.mem_of_getElem? (i := 7) rfl)
theorem d_Memory_ask_103 : decode prog_5_method_4_code 103 = .ok (.goto (-89), 3) := id_Memory_ask_2 (103, .goto (-89), 3) (List.mem_of_getElem? (i := 8) rfl)
theorem d_Memory_ask_106 : decode prog_5_method_4_code 106 = .ok (.iload 5, 2) := id_Memory_ask_2 (106, .iload 5, 2) (List.mem_of_getElem? (i := 9) rfl)
theorem d_Memory_ask_108 : decode prog_5_method_4_code 108 = .ok (.iload_n 3, 1) := id_Memory_ask_2 (108, .iload_n 3, 1) (List.mem_of_getElem? (i := 10) rfl)
theorem d_Memory_ask_109 : decode prog_5_method_4_code 109 = .ok (.isub, 1) := id_Memory_ask_2 (109, .isub, 1) (List.mem_of_getElem? (i := 11) rfl)
theorem d_Memory_ask_110 : decode prog_5_method_4_code 110 = .ok (.aload_n 1, 1) := id_Memory_ask_2 (110, .aload_n 1, 1) (List.mem_of_getElem? (i := 12) rfl)
theorem d_Memory_ask_111 : decode prog_5_method_4_code 111 = .ok (.getfield 62, 3) := id_Memory_ask_2 (111, .getfield 62, 3) (List.mem_of_getElem? (i := 13) rfl)
theorem d_Memory_ask_114 : decode prog_5_method_4_code 114 = .ok (.getfield 66, 3) := id_Memory_ask_2 (114, .getfield 66, 3) (List.mem_of_getElem? (i := 14) rfl)
theorem d_Memory_ask_117 : decode prog_5_method_4_code 117 = .ok (.bipush (54), 2) := id_Memory_ask_2 (117, .bipush (54), 2) (List.mem_of_getElem? (i := 15) rfl)
theorem d_Memory_ask_119 : decode prog_5_method_4_code 119 = .ok (.if_icmp .lt (8), 3) := id_Memory_ask_2 (119, .if_icmp .lt (8), 3) (List.mem_of_getElem? (i := 16) rfl)
theorem d_Memory_ask_122 : decode prog_5_method_4_code 122 = .ok (.iload 6, 2) := id_Memory_ask_2 (122, .iload 6, 2) (List.mem_of_getElem? (i := 17) rfl)
theorem d_Memory_ask_124 : decode prog_5_method_4_code 124 = .ok (.goto (4), 3) := id_Memory_ask_2 (124, .goto (4), 3) (List.mem_of_getElem? (i := 18) rfl)
theorem d_Memory_ask_127 : decode prog_5_method_4_code 127 = .ok (.iconst 0, 1) := id_Memory_ask_2 (127, .iconst 0, 1) (List.mem_of_getElem? (i := 19) rfl)
theorem d_Memory_ask_128 : decode prog_5_method_4_code 128 = .ok (.iadd, 1) := id_Memory_ask_2 (128, .iadd, 1) (List.mem_of_getElem? (i := 20) rfl)
theorem d_Memory_ask_129 : decode prog_5_method_4_code 129 = .ok (.ireturn, 1) := id_Memory_ask_2 (129, .ireturn, 1) (List.mem_of_getElem? (i := 21) rfl)
theorem wC_Memory_ask : Cond.code ⟨"WarpMill$Memory", "ask", "(LWarpMill$Warp;III)I"⟩ prog_5_method_4_code 12 (some .int) ∈ lw_tb := mem_tb 889 (by decide +kernel) rfl
theorem cw_Memory_ask_WM_in : cW mi_Memory_ask mi_WM_in 2 := ⟨wC_WM_in, wi_WM, ⟨by decide, by decide, by decide +kernel⟩, by decide, by decide⟩
theorem cw_Memory_ask_Memory_lanesOf : cW mi_Memory_ask mi_Memory_lanesOf 3 := ⟨wC_Memory_lanesOf, wi_Memory, ⟨by decide, by decide, by decide +kernel⟩, by decide, by decide⟩
theorem cw_Memory_ask_Cache_fetch : cW mi_Memory_ask mi_Cache_fetch 3 := ⟨wC_Cache_fetch, wi_Cache, ⟨by decide, by decide, by decide +kernel⟩, by decide, by decide⟩
theorem cw_Memory_ask_Memory_askTogether : cW mi_Memory_ask mi_Memory_askTogether 3 := ⟨wC_Memory_askTogether, wi_Memory, ⟨by decide, by decide, by decide +kernel⟩, by decide, by decide⟩
def b_Memory_ask_14 (F : Nat) : Nat → Nat → Option Nat → Int32 → Int32 → Int32 → Int32 → Int32 → Int32 → Hp → Option (Int32 × Hp)
  | 0 => fun _ _ _ _ _ _ _ _ _ => none
  | n + 1 => fun x0 x1 x3 x4 x5 x6 x7 x8 h => rq h x1 9 fun a_17 => if (hI h 514 a_17) ≤ x8 then (rq h (hR h 520 a_17) 10 fun a_111 => if (hI h 576 a_111) < (54 : Int32) then (some (((x5 - x3) + (0 : Int32)), h)) else (some (((x5 - x3) + x6), h))) else (cl (f_WM_in F x7 x8 h) fun v_27 h_27 => if v_27 = 0 then (b_Memory_ask_14 F n x0 (some a_17) x3 x4 x5 x6 x7 (x8 + 1) h_27) else (gd (hK h_27 a_17 = 9) <| rq h_27 (hR h_27 525 a_17) 100 fun a_34_2 => ix x8 (hN h_27 a_34_2) fun j_39 => cl (f_Memory_lanesOf F (some a_17) x7 ((hA h_27 a_34_2 j_39) >>> ((3 : Int32) &&& 31)) h_27) fun v_49 h_49 => gd (hK h_49 x0 = 3) <| rq h_49 (hR h_49 129 x0) 4 fun a_55_2 => cl (f_Cache_fetch F a_55_2 ((hA h_27 a_34_2 j_39) >>> ((3 : Int32) &&& 31)) x4 x3 h_49) fun v_63 h_63 => gd (hK h_63 x0 = 3) <| cl (f_Memory_askTogether F x0 (some a_17) v_49 v_63 h_63) fun v_76_2 h_76_2 => b_Memory_ask_14 F n x0 (some a_17) x3 x4 (if x5 < v_63 then v_63 else x5) (x6 + v_76_2) (x7 &&& (v_49 ^^^ (-1 : Int32))) (x8 + 1) h_76_2))
set_option maxRecDepth 100000 in
set_option maxHeartbeats 4000000 in
theorem e_Memory_ask_14 {G : Gl} (hw : gF G) {h0 : Hp} {F : Nat} {r : Int32} {h' : Hp}   : ∀ (n : Nat) (x0 : Nat) (x1 : Option Nat) (x3 : Int32) (x4 : Int32) (x5 : Int32) (x6 : Int32) (x7 : Int32) (x8 : Int32) (h : Hp), b_Memory_ask_14 F n x0 x1 x3 x4 x5 x6 x7 x8 h = some (r, h') → Go G mi_Memory_ask h0 (pI r h') h 14 [(0, .ref x0), (1, va_rf x1), (3, .int x3), (4, .int x4), (5, .int x5), (6, .int x6), (7, .int x7), (8, .int x8)] [] := by
  intro n
  induction n with
  | zero =>
    intro _ _ _ _ _ _ _ _ _ hf
    exact nm_s hf
  | succ n ih =>
    intro x0 x1 x3 x4 x5 x6 x7 x8 h hf
    unfold b_Memory_ask_14 at hf
    refine g_iload d_Memory_ask_14 rfl ?_
    refine g_aload_nq (r := x1) d_Memory_ask_16 rfl ?_
    obtain ⟨a_17, rfl, k_17, hf⟩ := rq_s hf
    refine fg_Warp_lanes lf_Memory_33 d_Memory_ask_17 k_17 ?_
    refine g_icmp_ge 106 d_Memory_ask_20 (by decide) (fun c_20 => ?_) (fun c_20 => ?_)
    · have hf := ifp hf c_20
      refine g_iload d_Memory_ask_106 rfl ?_
      refine g_iload_n d_Memory_ask_108 rfl ?_
      refine g_isub d_Memory_ask_109 ?_
      refine g_aload_n d_Memory_ask_110 rfl ?_
      obtain ⟨a_111, e_111, k_111, hf⟩ := rq_s hf
      refine fgs_Warp_word lf_Memory_62 d_Memory_ask_111 k_17 e_111 ?_
      refine fg_Word_op lf_Memory_66 d_Memory_ask_114 k_111 ?_
      refine g_bipush (54) d_Memory_ask_117 (by decide) ?_
      refine g_icmp_lt 127 d_Memory_ask_119 (by decide) (fun c_119 => ?_) (fun c_119 => ?_)
      · have hf := ifp hf c_119
        refine g_iconst 0 d_Memory_ask_127 (by decide) ?_
        refine g_iadd d_Memory_ask_128 ?_
        exact Go.ret (some _) (rOk_i _) rfl d_Memory_ask_129 (pI_of hf)
      · have hf := ifn hf c_119
        refine g_iload d_Memory_ask_122 rfl ?_
        refine g_goto 128 d_Memory_ask_124 (by decide) ?_
        refine g_iadd d_Memory_ask_128 ?_
        exact Go.ret (some _) (rOk_i _) rfl d_Memory_ask_129 (pI_of hf)
    · have hf := ifn hf c_20
      refine g_iload d_Memory_ask_23 rfl ?_
      refine g_iload d_Memory_ask_25 rfl ?_
      obtain ⟨v_27, h_27, e_27, hf⟩ := cl_s hf
      refine g_callSN (mz := mi_WM_in) (e_WM_in e_27) cw_Memory_ask_WM_in (host := "WarpMill") (by decide +kernel) wS_WM_in d_Memory_ask_27 rfl rfl (by first | exact Nat.le_of_ble_eq_true rfl | simp [cat_rf, Value.category]) (fun r1 h1 hp hro => ?_)
      obtain ⟨rfl, rfl⟩ := hp
      dsimp only [Option.toList_some, Option.toList_none, List.cons_append, List.nil_append]
      refine g_if_eq 100 d_Memory_ask_30 (by decide) (fun c_30 => ?_) (fun c_30 => ?_)
      · have hf := ifp hf c_30
        refine g_iinc (_ + 1) d_Memory_ask_100 rfl (by rfl) (by decide) ?_
        show Go _ _ _ _ _ _ [(0, _), (1, _), (3, _), (4, _), (5, _), (6, _), (7, _), (8, _)] _
        refine g_goto 14 d_Memory_ask_103 (by decide) ?_
        exact ih _ _ _ _ _ _ _ _ _ hf
      · have hf := ifn hf c_30
        refine g_aload_n d_Memory_ask_33 rfl ?_
        obtain ⟨k_34, hf⟩ := gd_s hf
        obtain ⟨a_34_2, e_34_2, k_34_2, hf⟩ := rq_s hf
        refine fgs_Warp_row lf_Memory_42 d_Memory_ask_34 k_34 e_34_2 ?_
        refine g_iload d_Memory_ask_37 rfl ?_
        obtain ⟨i_39, hf⟩ := ix_s hf
        refine g_iald k_34_2 i_39 d_Memory_ask_39 ?_
        refine g_iconst 3 d_Memory_ask_40 (by decide) ?_
        refine g_ishr d_Memory_ask_41 ?_
        refine g_istore d_Memory_ask_42 (by decide) ?_
        show Go _ _ _ _ _ _ [(0, _), (1, _), (3, _), (4, _), (5, _), (6, _), (7, _), (8, _), (9, _)] _
        refine g_aload_n d_Memory_ask_44 rfl ?_
        refine g_iload d_Memory_ask_45 rfl ?_
        refine g_iload d_Memory_ask_47 rfl ?_
        obtain ⟨v_49, h_49, e_49, hf⟩ := cl_s hf
        refine g_callS (mz := mi_Memory_lanesOf) (e_Memory_lanesOf e_49) cw_Memory_ask_Memory_lanesOf lm_Memory_45 wS_Memory_lanesOf d_Memory_ask_49 rfl rfl (by first | exact Nat.le_of_ble_eq_true rfl | simp [cat_rf, Value.category]) (fun r1 h1 hp hro => ?_)
        obtain ⟨rfl, rfl⟩ := hp
        dsimp only [Option.toList_some, Option.toList_none, List.cons_append, List.nil_append]
        refine g_istore d_Memory_ask_52 (by decide) ?_
        show Go _ _ _ _ _ _ [(0, _), (1, _), (3, _), (4, _), (5, _), (6, _), (7, _), (8, _), (9, _), (10, _)] _
        refine g_aload_n d_Memory_ask_54 rfl ?_
        obtain ⟨k_55, hf⟩ := gd_s hf
        obtain ⟨a_55_2, e_55_2, k_55_2, hf⟩ := rq_s hf
        refine fgs_Memory_cache lf_Memory_18 d_Memory_ask_55 k_55 e_55_2 ?_
        refine g_iload d_Memory_ask_58 rfl ?_
        refine g_iload d_Memory_ask_60 rfl ?_
        refine g_iload_n d_Memory_ask_62 rfl ?_
        obtain ⟨v_63, h_63, e_63, hf⟩ := cl_s hf
        refine g_callV (mz := mi_Cache_fetch) (e_Cache_fetch hw e_63) cw_Memory_ask_Cache_fetch lm_Memory_49 wI_Cache_fetch wV_Cache_fetch (ci := 3) k_55_2 (by decide) rfl rfl d_Memory_ask_63 rfl rfl (by first | exact Nat.le_of_ble_eq_true rfl | simp [cat_rf, Value.category]) (fun r1 h1 hp hro => ?_)
        obtain ⟨rfl, rfl⟩ := hp
        dsimp only [Option.toList_some, Option.toList_none, List.cons_append, List.nil_append]
        refine g_istore d_Memory_ask_66 (by decide) ?_
        show Go _ _ _ _ _ _ [(0, _), (1, _), (3, _), (4, _), (5, _), (6, _), (7, _), (8, _), (9, _), (10, _), (11, _)] _
        refine g_iload d_Memory_ask_68 rfl ?_
        refine g_aload_n d_Memory_ask_70 rfl ?_
        refine g_aload_n d_Memory_ask_71 rfl ?_
        refine g_iload d_Memory_ask_72 rfl ?_
        refine g_iload d_Memory_ask_74 rfl ?_
        obtain ⟨k_76, hf⟩ := gd_s hf
        obtain ⟨v_76_2, h_76_2, e_76_2, hf⟩ := cl_s hf
        refine g_callV (mz := mi_Memory_askTogether) (e_Memory_askTogether hw e_76_2) cw_Memory_ask_Memory_askTogether lm_Memory_53 wI_Memory_askTogether wV_Memory_askTogether (ci := 2) k_76 (by decide) rfl rfl d_Memory_ask_76 rfl rfl (by first | exact Nat.le_of_ble_eq_true rfl | simp [cat_rf, Value.category]) (fun r1 h1 hp hro => ?_)
        obtain ⟨rfl, rfl⟩ := hp
        dsimp only [Option.toList_some, Option.toList_none, List.cons_append, List.nil_append]
        refine g_iadd d_Memory_ask_79 ?_
        refine g_istore d_Memory_ask_80 (by decide) ?_
        show Go _ _ _ _ _ _ [(0, _), (1, _), (3, _), (4, _), (5, _), (6, _), (7, _), (8, _), (9, _), (10, _), (11, _)] _
        refine g_iload d_Memory_ask_82 rfl ?_
        refine g_iload d_Memory_ask_84 rfl ?_
        refine g_mmax lm_Memory_56 wS_Math_max wi_Math wC_Math_max (Nat.le_of_ble_eq_true rfl) (Nat.le_of_ble_eq_true rfl) d_Memory_ask_86 ?_
        refine g_istore d_Memory_ask_89 (by decide) ?_
        show Go _ _ _ _ _ _ [(0, _), (1, _), (3, _), (4, _), (5, _), (6, _), (7, _), (8, _), (9, _), (10, _), (11, _)] _
        refine g_iload d_Memory_ask_91 rfl ?_
        refine g_iload d_Memory_ask_93 rfl ?_
        refine g_iconst (-1) d_Memory_ask_95 (by decide) ?_
        refine g_ixor d_Memory_ask_96 ?_
        refine g_iand d_Memory_ask_97 ?_
        refine g_istore d_Memory_ask_98 (by decide) ?_
        show Go _ _ _ _ _ _ [(0, _), (1, _), (3, _), (4, _), (5, _), (6, _), (7, _), (8, _), (9, _), (10, _), (11, _)] _
        refine g_iinc (_ + 1) d_Memory_ask_100 rfl (by rfl) (by decide) ?_
        show Go _ _ _ _ _ _ [(0, _), (1, _), (3, _), (4, _), (5, _), (6, _), (7, _), (8, _), (9, _), (10, _), (11, _)] _
        refine g_goto 14 d_Memory_ask_103 (by decide) ?_
        refine Go.locals [0, 1, 2, 3, 4, 5, 6, 7] rfl ?_
        exact ih _ _ _ _ _ _ _ _ _ hf
def f_Memory_ask (F : Nat) (x0 : Nat) (x1 : Option Nat) (x2 : Int32) (x3 : Int32) (x4 : Int32) (h : Hp) : Option (Int32 × Hp) := b_Memory_ask_14 F F x0 x1 x3 x4 (x3 + (1 : Int32)) (0 : Int32) x2 (0 : Int32) h
set_option maxRecDepth 100000 in
set_option maxHeartbeats 4000000 in
theorem e_Memory_ask {G : Gl} (hw : gF G) {F : Nat} {r : Int32} {h' : Hp} {x0 : Nat} {x1 : Option Nat} {x2 : Int32} {x3 : Int32} {x4 : Int32} {h : Hp} (hf : f_Memory_ask F x0 x1 x2 x3 x4 h = some (r, h')) : Ex G mi_Memory_ask [.ref x0, va_rf x1, .int x2, .int x3, .int x4] h (pI r h') := by
  unfold f_Memory_ask at hf
  refine Ex.of nmI (by decide) (by cases x1 <;> exact Nat.le_of_ble_eq_true rfl) ?_
  rw [show lv_args 0 [.ref x0, va_rf x1, .int x2, .int x3, .int x4] = [(0, .ref x0), (1, va_rf x1), (2, .int x2), (3, .int x3), (4, .int x4)] from by cases x1 <;> rfl]
  show Go G mi_Memory_ask h _ h 0 [(0, .ref x0), (1, va_rf x1), (2, .int x2), (3, .int x3), (4, .int x4)] []
  refine g_iload_n d_Memory_ask_0 rfl ?_
  refine g_iconst 1 d_Memory_ask_1 (by decide) ?_
  refine g_iadd d_Memory_ask_2 ?_
  refine g_istore d_Memory_ask_3 (by decide) ?_
  show Go _ _ _ _ _ _ [(0, _), (1, _), (2, _), (3, _), (4, _), (5, _)] _
  refine g_iconst 0 d_Memory_ask_5 (by decide) ?_
  refine g_istore d_Memory_ask_6 (by decide) ?_
  show Go _ _ _ _ _ _ [(0, _), (1, _), (2, _), (3, _), (4, _), (5, _), (6, _)] _
  refine g_iload_n d_Memory_ask_8 rfl ?_
  refine g_istore d_Memory_ask_9 (by decide) ?_
  show Go _ _ _ _ _ _ [(0, _), (1, _), (2, _), (3, _), (4, _), (5, _), (6, _), (7, _)] _
  refine g_iconst 0 d_Memory_ask_11 (by decide) ?_
  refine g_istore d_Memory_ask_12 (by decide) ?_
  show Go _ _ _ _ _ _ [(0, _), (1, _), (2, _), (3, _), (4, _), (5, _), (6, _), (7, _), (8, _)] _
  refine Go.locals [0, 1, 3, 4, 5, 6, 7, 8] rfl ?_
  have key := e_Memory_ask_14 hw (G := G) (h0 := h)  F _ _ _ _ _ _ _ _ _ hf
  exact key
abbrev mi_Warp_exchange : MI := (⟨"WarpMill$Warp", "exchange", "(I)V"⟩, prog_10_method_14_code, 5, none, 1, 23)
def it_Warp_exchange_0 : List (Nat × ClassFile.Instr × Nat) := [(0, .iconst 0, 1), (1, .istore_n 2, 1), (2, .iload_n 2, 1), (3, .aload_n 0, 1), (4, .getfield 35, 3), (7, .if_icmp .ge (27), 3), (10, .aload_n 0, 1), (11, .getfield 24, 3), (14, .iload_n 2, 1), (15, .aload_n 0, 1), (16, .iload_n 2, 1), (17, .aload_n 0, 1), (18, .getfield 77, 3), (21, .getfield 112, 3), (24, .invokevirtual 109, 3), (27, .iastore, 1), (28, .iinc 2 (1), 3), (31, .goto (-29), 3), (34, .iconst 0, 1), (35, .istore_n 2, 1), (36, .iload_n 2, 1), (37, .aload_n 0, 1), (38, .getfield 35, 3), (41, .if_icmp .ge (88), 3)]
theorem id_Warp_exchange_0 : ∀ q ∈ it_Warp_exchange_0, decode prog_10_method_14_code q.1 = .ok q.2 := by decide +kernel
theorem d_Warp_exchange_0 : decode prog_10_method_14_code 0 = .ok (.iconst 0, 1) := id_Warp_exchange_0 (0, .iconst 0, 1) (List.mem_of_getElem? (i := 0) rfl)
theorem d_Warp_exchange_1 : decode prog_10_method_14_code 1 = .ok (.istore_n 2, 1) := id_Warp_exchange_0 (1, .istore_n 2, 1) (List.mem_of_getElem? (i := 1) rfl)
theorem d_Warp_exchange_2 : decode prog_10_method_14_code 2 = .ok (.iload_n 2, 1) := id_Warp_exchange_0 (2, .iload_n 2, 1) (List.mem_of_getElem? (i := 2) rfl)
theorem d_Warp_exchange_3 : decode prog_10_method_14_code 3 = .ok (.aload_n 0, 1) := id_Warp_exchange_0 (3, .aload_n 0, 1) (List.mem_of_getElem? (i := 3) rfl)
theorem d_Warp_exchange_4 : decode prog_10_method_14_code 4 = .ok (.getfield 35, 3) := id_Warp_exchange_0 (4, .getfield 35, 3) (List.mem_of_getElem? (i := 4) rfl)
theorem d_Warp_exchange_7 : decode prog_10_method_14_code 7 = .ok (.if_icmp .ge (27), 3) := id_Warp_exchange_0 (7, .if_icmp .ge (27), 3) (List.mem_of_getElem? (i := 5) rfl)
theorem d_Warp_exchange_10 : decode prog_10_method_14_code 10 = .ok (.aload_n 0, 1) := id_Warp_exchange_0 (10, .aload_n 0, 1) (List.mem_of_getElem? (i := 6) rfl)
theorem d_Warp_exchange_11 : decode prog_10_method_14_code 11 = .ok (.getfield 24, 3) := id_Warp_exchange_0 (11, .getfield 24, 3) (List.mem_of_getElem? (i := 7) rfl)
theorem d_Warp_exchange_14 : decode prog_10_method_14_code 14 = .ok (.iload_n 2, 1) := id_Warp_exchange_0 (14, .iload_n 2, 1) (List.mem_of_getElem? (i := 8) rfl)
theorem d_Warp_exchange_15 : decode prog_10_method_14_code 15 = .ok (.aload_n 0, 1) := id_Warp_exchange_0 (15, .aload_n 0, 1) (List.mem_of_getElem? (i := 9) rfl)
theorem d_Warp_exchange_16 : decode prog_10_method_14_code 16 = .ok (.iload_n 2, 1) := id_Warp_exchange_0 (16, .iload_n 2, 1) (List.mem_of_getElem? (i := 10) rfl)
theorem d_Warp_exchange_17 : decode prog_10_method_14_code 17 = .ok (.aload_n 0, 1) := id_Warp_exchange_0 (17, .aload_n 0, 1) (List.mem_of_getElem? (i := 11) rfl)
theorem d_Warp_exchange_18 : decode prog_10_method_14_code 18 = .ok (.getfield 77, 3) := id_Warp_exchange_0 (18, .getfield 77, 3) (List.mem_of_getElem? (i := 12) rfl)
theorem d_Warp_exchange_21 : decode prog_10_method_14_code 21 = .ok (.getfield 112, 3) := id_Warp_exchange_0 (21, .getfield 112, 3) (List.mem_of_getElem? (i := 13) rfl)
theorem d_Warp_exchange_24 : decode prog_10_method_14_code 24 = .ok (.invokevirtual 109, 3) := id_Warp_exchange_0 (24, .invokevirtual 109, 3) (List.mem_of_getElem? (i := 14) rfl)
theorem d_Warp_exchange_27 : decode prog_10_method_14_code 27 = .ok (.iastore, 1) := id_Warp_exchange_0 (27, .iastore, 1) (List.mem_of_getElem? (i := 15) rfl)
theorem d_Warp_exchange_28 : decode prog_10_method_14_code 28 = .ok (.iinc 2 (1), 3) := id_Warp_exchange_0 (28, .iinc 2 (1), 3) (List.mem_of_getElem? (i := 16) rfl)
theorem d_Warp_exchange_31 : decode prog_10_method_14_code 31 = .ok (.goto (-29), 3) := id_Warp_exchange_0 (31, .goto (-29), 3) (List.mem_of_getElem? (i := 17) rfl)
theorem d_Warp_exchange_34 : decode prog_10_method_14_code 34 = .ok (.iconst 0, 1) := id_Warp_exchange_0 (34, .iconst 0, 1) (List.mem_of_getElem? (i := 18) rfl)
theorem d_Warp_exchange_35 : decode prog_10_method_14_code 35 = .ok (.istore_n 2, 1) := id_Warp_exchange_0 (35, .istore_n 2, 1) (List.mem_of_getElem? (i := 19) rfl)
theorem d_Warp_exchange_36 : decode prog_10_method_14_code 36 = .ok (.iload_n 2, 1) := id_Warp_exchange_0 (36, .iload_n 2, 1) (List.mem_of_getElem? (i := 20) rfl)
theorem d_Warp_exchange_37 : decode prog_10_method_14_code 37 = .ok (.aload_n 0, 1) := id_Warp_exchange_0 (37, .aload_n 0, 1) (List.mem_of_getElem? (i := 21) rfl)
theorem d_Warp_exchange_38 : decode prog_10_method_14_code 38 = .ok (.getfield 35, 3) := id_Warp_exchange_0 (38, .getfield 35, 3) (List.mem_of_getElem? (i := 22) rfl)
theorem d_Warp_exchange_41 : decode prog_10_method_14_code 41 = .ok (.if_icmp .ge (88), 3) := id_Warp_exchange_0 (41, .if_icmp .ge (88), 3) (List.mem_of_getElem? (i := 23) rfl)
def it_Warp_exchange_1 : List (Nat × ClassFile.Instr × Nat) := [(44, .iload_n 1, 1), (45, .iload_n 2, 1), (46, .invokestatic 73, 3), (49, .ifCond .eq (74), 3), (52, .iload_n 2, 1), (53, .aload_n 0, 1), (54, .getfield 77, 3), (57, .getfield 115, 3), (60, .aload_n 0, 1), (61, .getfield 35, 3), (64, .iconst 1, 1), (65, .isub, 1), (66, .iand, 1), (67, .ixor, 1), (68, .istore_n 3, 1), (69, .iload_n 3, 1), (70, .ifCond .lt (23), 3), (73, .iload_n 3, 1), (74, .aload_n 0, 1), (75, .getfield 35, 3), (78, .if_icmp .ge (15), 3), (81, .iload_n 1, 1), (82, .iload_n 3, 1), (83, .invokestatic 73, 3)]
theorem id_Warp_exchange_1 : ∀ q ∈ it_Warp_exchange_1, decode prog_10_method_14_code q.1 = .ok q.2 := by decide +kernel
theorem d_Warp_exchange_44 : decode prog_10_method_14_code 44 = .ok (.iload_n 1, 1) := id_Warp_exchange_1 (44, .iload_n 1, 1) (List.mem_of_getElem? (i := 0) rfl)
theorem d_Warp_exchange_45 : decode prog_10_method_14_code 45 = .ok (.iload_n 2, 1) := id_Warp_exchange_1 (45, .iload_n 2, 1) (List.mem_of_getElem? (i := 1) rfl)
theorem d_Warp_exchange_46 : decode prog_10_method_14_code 46 = .ok (.invokestatic 73, 3) := id_Warp_exchange_1 (46, .invokestatic 73, 3) (List.mem_of_getElem? (i := 2) rfl)
theorem d_Warp_exchange_49 : decode prog_10_method_14_code 49 = .ok (.ifCond .eq (74), 3) := id_Warp_exchange_1 (49, .ifCond .eq (74), 3) (List.mem_of_getElem? (i := 3) rfl)
theorem d_Warp_exchange_52 : decode prog_10_method_14_code 52 = .ok (.iload_n 2, 1) := id_Warp_exchange_1 (52, .iload_n 2, 1) (List.mem_of_getElem? (i := 4) rfl)
theorem d_Warp_exchange_53 : decode prog_10_method_14_code 53 = .ok (.aload_n 0, 1) := id_Warp_exchange_1 (53, .aload_n 0, 1) (List.mem_of_getElem? (i := 5) rfl)
theorem d_Warp_exchange_54 : decode prog_10_method_14_code 54 = .ok (.getfield 77, 3) := id_Warp_exchange_1 (54, .getfield 77, 3) (List.mem_of_getElem? (i := 6) rfl)
theorem d_Warp_exchange_57 : decode prog_10_method_14_code 57 = .ok (.getfield 115, 3) := id_Warp_exchange_1 (57, .getfield 115, 3) (List.mem_of_getElem? (i := 7) rfl)
theorem d_Warp_exchange_60 : decode prog_10_method_14_code 60 = .ok (.aload_n 0, 1) := id_Warp_exchange_1 (60, .aload_n 0, 1) (List.mem_of_getElem? (i := 8) rfl)
theorem d_Warp_exchange_61 : decode prog_10_method_14_code 61 = .ok (.getfield 35, 3) := id_Warp_exchange_1 (61, .getfield 35, 3) (List.mem_of_getElem? (i := 9) rfl)
theorem d_Warp_exchange_64 : decode prog_10_method_14_code 64 = .ok (.iconst 1, 1) := id_Warp_exchange_1 (64, .iconst 1, 1) (List.mem_of_getElem? (i := 10) rfl)
theorem d_Warp_exchange_65 : decode prog_10_method_14_code 65 = .ok (.isub, 1) := id_Warp_exchange_1 (65, .isub, 1) (List.mem_of_getElem? (i := 11) rfl)
theorem d_Warp_exchange_66 : decode prog_10_method_14_code 66 = .ok (.iand, 1) := id_Warp_exchange_1 (66, .iand, 1) (List.mem_of_getElem? (i := 12) rfl)
theorem d_Warp_exchange_67 : decode prog_10_method_14_code 67 = .ok (.ixor, 1) := id_Warp_exchange_1 (67, .ixor, 1) (List.mem_of_getElem? (i := 13) rfl)
theorem d_Warp_exchange_68 : decode prog_10_method_14_code 68 = .ok (.istore_n 3, 1) := id_Warp_exchange_1 (68, .istore_n 3, 1) (List.mem_of_getElem? (i := 14) rfl)
theorem d_Warp_exchange_69 : decode prog_10_method_14_code 69 = .ok (.iload_n 3, 1) := id_Warp_exchange_1 (69, .iload_n 3, 1) (List.mem_of_getElem? (i := 15) rfl)
theorem d_Warp_exchange_70 : decode prog_10_method_14_code 70 = .ok (.ifCond .lt (23), 3) := id_Warp_exchange_1 (70, .ifCond .lt (23), 3) (List.mem_of_getElem? (i := 16) rfl)
theorem d_Warp_exchange_73 : decode prog_10_method_14_code 73 = .ok (.iload_n 3, 1) := id_Warp_exchange_1 (73, .iload_n 3, 1) (List.mem_of_getElem? (i := 17) rfl)
theorem d_Warp_exchange_74 : decode prog_10_method_14_code 74 = .ok (.aload_n 0, 1) := id_Warp_exchange_1 (74, .aload_n 0, 1) (List.mem_of_getElem? (i := 18) rfl)
theorem d_Warp_exchange_75 : decode prog_10_method_14_code 75 = .ok (.getfield 35, 3) := id_Warp_exchange_1 (75, .getfield 35, 3) (List.mem_of_getElem? (i := 19) rfl)
theorem d_Warp_exchange_78 : decode prog_10_method_14_code 78 = .ok (.if_icmp .ge (15), 3) := id_Warp_exchange_1 (78, .if_icmp .ge (15), 3) (List.mem_of_getElem? (i := 20) rfl)
theorem d_Warp_exchange_81 : decode prog_10_method_14_code 81 = .ok (.iload_n 1, 1) := id_Warp_exchange_1 (81, .iload_n 1, 1) (List.mem_of_getElem? (i := 21) rfl)
theorem d_Warp_exchange_82 : decode prog_10_method_14_code 82 = .ok (.iload_n 3, 1) := id_Warp_exchange_1 (82, .iload_n 3, 1) (List.mem_of_getElem? (i := 22) rfl)
theorem d_Warp_exchange_83 : decode prog_10_method_14_code 83 = .ok (.invokestatic 73, 3) := id_Warp_exchange_1 (83, .invokestatic 73, 3) (List.mem_of_getElem? (i := 23) rfl)
def it_Warp_exchange_2 : List (Nat × ClassFile.Instr × Nat) := [(86, .ifCond .eq (7), 3), (89, .iconst 1, 1), (90, .goto (4), 3), (93, .iconst 0, 1), (94, .istore 4, 2), (96, .aload_n 0, 1), (97, .iload_n 2, 1), (98, .aload_n 0, 1), (99, .getfield 77, 3), (102, .getfield 141, 3), (105, .aload_n 0, 1), (106, .getfield 24, 3), (109, .iload 4, 2), (111, .ifCond .eq (7), 3), (114, .iload_n 3, 1), (115, .goto (4), 3), (118, .iload_n 2, 1), (119, .iaload, 1), (120, .invokevirtual 150, 3), (123, .iinc 2 (1), 3), (126, .goto (-90), 3), (129, .return_, 1)]
theorem id_Warp_exchange_2 : ∀ q ∈ it_Warp_exchange_2, decode prog_10_method_14_code q.1 = .ok q.2 := by decide +kernel
theorem d_Warp_exchange_86 : decode prog_10_method_14_code 86 = .ok (.ifCond .eq (7), 3) := id_Warp_exchange_2 (86, .ifCond .eq (7), 3) (List.mem_of_getElem? (i := 0) rfl)
theorem d_Warp_exchange_89 : decode prog_10_method_14_code 89 = .ok (.iconst 1, 1) := id_Warp_exchange_2 (89, .iconst 1, 1) (List.mem_of_getElem? (i := 1) rfl)
theorem d_Warp_exchange_90 : decode prog_10_method_14_code 90 = .ok (.goto (4), 3) := id_Warp_exchange_2 (90, .goto (4), 3) (List.mem_of_getElem? (i := 2) rfl)
theorem d_Warp_exchange_93 : decode prog_10_method_14_code 93 = .ok (.iconst 0, 1) := id_Warp_exchange_2 (93, .iconst 0, 1) (List.mem_of_getElem? (i := 3) rfl)
theorem d_Warp_exchange_94 : decode prog_10_method_14_code 94 = .ok (.istore 4, 2) := id_Warp_exchange_2 (94, .istore 4, 2) (List.mem_of_getElem? (i := 4) rfl)
theorem d_Warp_exchange_96 : decode prog_10_method_14_code 96 = .ok (.aload_n 0, 1) := id_Warp_exchange_2 (96, .aload_n 0, 1) (List.mem_of_getElem? (i := 5) rfl)
theorem d_Warp_exchange_97 : decode prog_10_method_14_code 97 = .ok (.iload_n 2, 1) := id_Warp_exchange_2 (97, .iload_n 2, 1) (List.mem_of_getElem? (i := 6) rfl)
theorem d_Warp_exchange_98 : decode prog_10_method_14_code 98 = .ok (.aload_n 0, 1) := id_Warp_exchange_2 (98, .aload_n 0, 1) (List.mem_of_getElem? (i := 7) rfl)
theorem d_Warp_exchange_99 : decode prog_10_method_14_code 99 = .ok (.getfield 77, 3) := id_Warp_exchange_2 (99, .getfield 77, 3) (List.mem_of_getElem? (i := 8) rfl)
theorem d_Warp_exchange_102 : decode prog_10_method_14_code 102 = .ok (.getfield 141, 3) := id_Warp_exchange_2 (102, .getfield 141, 3) (List.mem_of_getElem? (i := 9) rfl)
theorem d_Warp_exchange_105 : decode prog_10_method_14_code 105 = .ok (.aload_n 0, 1) := id_Warp_exchange_2 (105, .aload_n 0, 1) (List.mem_of_getElem? (i := 10) rfl)
theorem d_Warp_exchange_106 : decode prog_10_method_14_code 106 = .ok (.getfield 24, 3) := id_Warp_exchange_2 (106, .getfield 24, 3) (List.mem_of_getElem? (i := 11) rfl)
theorem d_Warp_exchange_109 : decode prog_10_method_14_code 109 = .ok (.iload 4, 2) := id_Warp_exchange_2 (109, .iload 4, 2) (List.mem_of_getElem? (i := 12) rfl)
theorem d_Warp_exchange_111 : decode prog_10_method_14_code 111 = .ok (.ifCond .eq (7), 3) := id_Warp_exchange_2 (111, .ifCond .eq (7), 3) (List.mem_of_getElem? (i := 13) rfl)
theorem d_Warp_exchange_114 : decode prog_10_method_14_code 114 = .ok (.iload_n 3, 1) := id_Warp_exchange_2 (114, .iload_n 3, 1) (List.mem_of_getElem? (i := 14) rfl)
theorem d_Warp_exchange_115 : decode prog_10_method_14_code 115 = .ok (.goto (4), 3) := id_Warp_exchange_2 (115, .goto (4), 3) (List.mem_of_getElem? (i := 15) rfl)
theorem d_Warp_exchange_118 : decode prog_10_method_14_code 118 = .ok (.iload_n 2, 1) := id_Warp_exchange_2 (118, .iload_n 2, 1) (List.mem_of_getElem? (i := 16) rfl)
theorem d_Warp_exchange_119 : decode prog_10_method_14_code 119 = .ok (.iaload, 1) := id_Warp_exchange_2 (119, .iaload, 1) (List.mem_of_getElem? (i := 17) rfl)
theorem d_Warp_exchange_120 : decode prog_10_method_14_code 120 = .ok (.invokevirtual 150, 3) := id_Warp_exchange_2 (120, .invokevirtual 150, 3) (List.mem_of_getElem? (i := 18) rfl)
theorem d_Warp_exchange_123 : decode prog_10_method_14_code 123 = .ok (.iinc 2 (1), 3) := id_Warp_exchange_2 (123, .iinc 2 (1), 3) (List.mem_of_getElem? (i := 19) rfl)
theorem d_Warp_exchange_126 : decode prog_10_method_14_code 126 = .ok (.goto (-90), 3) := id_Warp_exchange_2 (126, .goto (-90), 3) (List.mem_of_getElem? (i := 20) rfl)
theorem d_Warp_exchange_129 : decode prog_10_method_14_code 129 = .ok (.return_, 1) := id_Warp_exchange_2 (129, .return_, 1) (List.mem_of_getElem? (i := 21) rfl)
theorem wC_Warp_exchange : Cond.code ⟨"WarpMill$Warp", "exchange", "(I)V"⟩ prog_10_method_14_code 5 (none) ∈ lw_tb := mem_tb 957 (by decide +kernel) rfl
theorem cw_Warp_exchange_Warp_register : cW mi_Warp_exchange mi_Warp_register 2 := ⟨wC_Warp_register, wi_Warp, ⟨by decide, by decide, by decide +kernel⟩, by decide, by decide⟩
theorem cw_Warp_exchange_WM_in : cW mi_Warp_exchange mi_WM_in 2 := ⟨wC_WM_in, wi_WM, ⟨by decide, by decide, by decide +kernel⟩, by decide, by decide⟩
theorem cw_Warp_exchange_Warp_put : cW mi_Warp_exchange mi_Warp_put 3 := ⟨wC_Warp_put, wi_Warp, ⟨by decide, by decide, by decide +kernel⟩, by decide, by decide⟩
def b_Warp_exchange_119 (F : Nat) (k36 : Nat → Int32 → Int32 → Hp → Option Hp) (x0 : Nat) (x1 : Int32) (x2 : Int32) (s0 : Nat) (s1 : Int32) (s2 : Int32) (s3 : Nat) (s4 : Int32) (h : Hp) : Option Hp := gd (hK h s3 = 100) <| ix s4 (hN h s3) fun j_119_2 => gd (hK h s0 = 9) <| clv (f_Warp_put F s0 s1 s2 (hA h s3 j_119_2) h) fun h_120_2 => k36 x0 x1 (x2 + 1) h_120_2
set_option maxRecDepth 100000 in
set_option maxHeartbeats 4000000 in
theorem e_Warp_exchange_119 {G : Gl} (hw : gF G) {h0 : Hp} {F : Nat} {h' : Hp} {k36 : Nat → Int32 → Int32 → Hp → Option Hp} (hk36 : ∀ (y0 : Nat) (y1 : Int32) (y2 : Int32) (hh : Hp), k36 y0 y1 y2 hh = some h' → Go G mi_Warp_exchange h0 (pV h') hh 36 [(0, .ref y0), (1, .int y1), (2, .int y2)] []) {x0 : Nat} {x1 : Int32} {x2 : Int32} {s0 : Nat} {s1 : Int32} {s2 : Int32} {s3 : Nat} {s4 : Int32} {h : Hp} (hf : b_Warp_exchange_119 F k36 x0 x1 x2 s0 s1 s2 s3 s4 h = some h') : Go G mi_Warp_exchange h0 (pV h') h 119 [(0, .ref x0), (1, .int x1), (2, .int x2)] [.int s4, .ref s3, .int s2, .int s1, .ref s0] := by
  unfold b_Warp_exchange_119 at hf
  obtain ⟨k_119, hf⟩ := gd_s hf
  obtain ⟨i_119_2, hf⟩ := ix_s hf
  refine g_iald k_119 i_119_2 d_Warp_exchange_119 ?_
  obtain ⟨k_120, hf⟩ := gd_s hf
  obtain ⟨h_120_2, e_120_2, hf⟩ := clv_s hf
  refine g_callV (mz := mi_Warp_put) (e_Warp_put hw e_120_2) cw_Warp_exchange_Warp_put lm_Warp_150 wI_Warp_put wV_Warp_put (ci := 8) k_120 (by decide) rfl rfl d_Warp_exchange_120 rfl rfl (by first | exact Nat.le_of_ble_eq_true rfl | simp [cat_rf, Value.category]) (fun r1 h1 hp hro => ?_)
  obtain ⟨rfl, rfl⟩ := hp
  dsimp only [Option.toList_some, Option.toList_none, List.cons_append, List.nil_append]
  refine g_iinc (_ + 1) d_Warp_exchange_123 rfl (by rfl) (by decide) ?_
  show Go _ _ _ _ _ _ [(0, _), (1, _), (2, _)] _
  refine g_goto 36 d_Warp_exchange_126 (by decide) ?_
  exact hk36 _ _ _ _ hf
def b_Warp_exchange_94 (F : Nat) (k36 : Nat → Int32 → Int32 → Hp → Option Hp) (x0 : Nat) (x1 : Int32) (x2 : Int32) (x3 : Int32) (s0 : Int32) (h : Hp) : Option Hp := gd (hK h x0 = 9) <| rq h (hR h 520 x0) 10 fun a_99_2 => rq h (hR h 525 x0) 100 fun a_106 => if s0 = 0 then (b_Warp_exchange_119 F k36 x0 x1 x2 x0 x2 (hI h 577 a_99_2) a_106 x2 h) else (b_Warp_exchange_119 F k36 x0 x1 x2 x0 x2 (hI h 577 a_99_2) a_106 x3 h)
set_option maxRecDepth 100000 in
set_option maxHeartbeats 4000000 in
theorem e_Warp_exchange_94 {G : Gl} (hw : gF G) {h0 : Hp} {F : Nat} {h' : Hp} {k36 : Nat → Int32 → Int32 → Hp → Option Hp} (hk36 : ∀ (y0 : Nat) (y1 : Int32) (y2 : Int32) (hh : Hp), k36 y0 y1 y2 hh = some h' → Go G mi_Warp_exchange h0 (pV h') hh 36 [(0, .ref y0), (1, .int y1), (2, .int y2)] []) {x0 : Nat} {x1 : Int32} {x2 : Int32} {x3 : Int32} {s0 : Int32} {h : Hp} (hf : b_Warp_exchange_94 F k36 x0 x1 x2 x3 s0 h = some h') : Go G mi_Warp_exchange h0 (pV h') h 94 [(0, .ref x0), (1, .int x1), (2, .int x2), (3, .int x3)] [.int s0] := by
  unfold b_Warp_exchange_94 at hf
  refine g_istore d_Warp_exchange_94 (by decide) ?_
  show Go _ _ _ _ _ _ [(0, _), (1, _), (2, _), (3, _), (4, _)] _
  refine g_aload_n d_Warp_exchange_96 rfl ?_
  refine g_iload_n d_Warp_exchange_97 rfl ?_
  refine g_aload_n d_Warp_exchange_98 rfl ?_
  obtain ⟨k_99, hf⟩ := gd_s hf
  obtain ⟨a_99_2, e_99_2, k_99_2, hf⟩ := rq_s hf
  refine fgs_Warp_word lf_Warp_77 d_Warp_exchange_99 k_99 e_99_2 ?_
  refine fg_Word_d lf_Warp_141 d_Warp_exchange_102 k_99_2 ?_
  refine g_aload_n d_Warp_exchange_105 rfl ?_
  obtain ⟨a_106, e_106, k_106, hf⟩ := rq_s hf
  refine fgs_Warp_row lf_Warp_24 d_Warp_exchange_106 k_99 e_106 ?_
  refine g_iload d_Warp_exchange_109 rfl ?_
  refine g_if_eq 118 d_Warp_exchange_111 (by decide) (fun c_111 => ?_) (fun c_111 => ?_)
  · have hf := ifp hf c_111
    refine g_iload_n d_Warp_exchange_118 rfl ?_
    refine Go.locals [0, 1, 2] rfl ?_
    have key := e_Warp_exchange_119 hw (G := G) (h0 := h0) hk36 hf
    exact key
  · have hf := ifn hf c_111
    refine g_iload_n d_Warp_exchange_114 rfl ?_
    refine g_goto 119 d_Warp_exchange_115 (by decide) ?_
    refine Go.locals [0, 1, 2] rfl ?_
    have key := e_Warp_exchange_119 hw (G := G) (h0 := h0) hk36 hf
    exact key
def b_Warp_exchange_93 (F : Nat) (k36 : Nat → Int32 → Int32 → Hp → Option Hp) (x0 : Nat) (x1 : Int32) (x2 : Int32) (x3 : Int32) (h : Hp) : Option Hp := b_Warp_exchange_94 F k36 x0 x1 x2 x3 (0 : Int32) h
set_option maxRecDepth 100000 in
set_option maxHeartbeats 4000000 in
theorem e_Warp_exchange_93 {G : Gl} (hw : gF G) {h0 : Hp} {F : Nat} {h' : Hp} {k36 : Nat → Int32 → Int32 → Hp → Option Hp} (hk36 : ∀ (y0 : Nat) (y1 : Int32) (y2 : Int32) (hh : Hp), k36 y0 y1 y2 hh = some h' → Go G mi_Warp_exchange h0 (pV h') hh 36 [(0, .ref y0), (1, .int y1), (2, .int y2)] []) {x0 : Nat} {x1 : Int32} {x2 : Int32} {x3 : Int32} {h : Hp} (hf : b_Warp_exchange_93 F k36 x0 x1 x2 x3 h = some h') : Go G mi_Warp_exchange h0 (pV h') h 93 [(0, .ref x0), (1, .int x1), (2, .int x2), (3, .int x3)] [] := by
  unfold b_Warp_exchange_93 at hf
  refine g_iconst 0 d_Warp_exchange_93 (by decide) ?_
  have key := e_Warp_exchange_94 hw (G := G) (h0 := h0) hk36 hf
  exact key
def b_Warp_exchange_36 (F : Nat) : Nat → Nat → Int32 → Int32 → Hp → Option Hp
  | 0 => fun _ _ _ _ => none
  | n + 1 => fun x0 x1 x2 h => gd (hK h x0 = 9) <| if (hI h 514 x0) ≤ x2 then (some h) else (cl (f_WM_in F x1 x2 h) fun v_46 h_46 => if v_46 = 0 then (b_Warp_exchange_36 F n x0 x1 (x2 + 1) h_46) else (gd (hK h_46 x0 = 9) <| rq h_46 (hR h_46 520 x0) 10 fun a_54_2 => if (x2 ^^^ ((hI h_46 580 a_54_2) &&& ((hI h_46 514 x0) - (1 : Int32)))) < 0 then (b_Warp_exchange_93 F (b_Warp_exchange_36 F n) x0 x1 x2 (x2 ^^^ ((hI h_46 580 a_54_2) &&& ((hI h_46 514 x0) - (1 : Int32)))) h_46) else (if (hI h_46 514 x0) ≤ (x2 ^^^ ((hI h_46 580 a_54_2) &&& ((hI h_46 514 x0) - (1 : Int32)))) then (b_Warp_exchange_93 F (b_Warp_exchange_36 F n) x0 x1 x2 (x2 ^^^ ((hI h_46 580 a_54_2) &&& ((hI h_46 514 x0) - (1 : Int32)))) h_46) else (cl (f_WM_in F x1 (x2 ^^^ ((hI h_46 580 a_54_2) &&& ((hI h_46 514 x0) - (1 : Int32)))) h_46) fun v_83 h_83 => if v_83 = 0 then (b_Warp_exchange_93 F (b_Warp_exchange_36 F n) x0 x1 x2 (x2 ^^^ ((hI h_46 580 a_54_2) &&& ((hI h_46 514 x0) - (1 : Int32)))) h_83) else (b_Warp_exchange_94 F (b_Warp_exchange_36 F n) x0 x1 x2 (x2 ^^^ ((hI h_46 580 a_54_2) &&& ((hI h_46 514 x0) - (1 : Int32)))) (1 : Int32) h_83)))))
set_option maxRecDepth 100000 in
set_option maxHeartbeats 4000000 in
theorem e_Warp_exchange_36 {G : Gl} (hw : gF G) {h0 : Hp} {F : Nat} {h' : Hp}   : ∀ (n : Nat) (x0 : Nat) (x1 : Int32) (x2 : Int32) (h : Hp), b_Warp_exchange_36 F n x0 x1 x2 h = some h' → Go G mi_Warp_exchange h0 (pV h') h 36 [(0, .ref x0), (1, .int x1), (2, .int x2)] [] := by
  intro n
  induction n with
  | zero =>
    intro _ _ _ _ hf
    exact nm_s hf
  | succ n ih =>
    intro x0 x1 x2 h hf
    unfold b_Warp_exchange_36 at hf
    refine g_iload_n d_Warp_exchange_36 rfl ?_
    refine g_aload_n d_Warp_exchange_37 rfl ?_
    obtain ⟨k_38, hf⟩ := gd_s hf
    refine fg_Warp_lanes lf_Warp_35 d_Warp_exchange_38 k_38 ?_
    refine g_icmp_ge 129 d_Warp_exchange_41 (by decide) (fun c_41 => ?_) (fun c_41 => ?_)
    · have hf := ifp hf c_41
      exact Go.ret none trivial rfl d_Warp_exchange_129 (pV_of hf)
    · have hf := ifn hf c_41
      refine g_iload_n d_Warp_exchange_44 rfl ?_
      refine g_iload_n d_Warp_exchange_45 rfl ?_
      obtain ⟨v_46, h_46, e_46, hf⟩ := cl_s hf
      refine g_callSN (mz := mi_WM_in) (e_WM_in e_46) cw_Warp_exchange_WM_in (host := "WarpMill") (by decide +kernel) wS_WM_in d_Warp_exchange_46 rfl rfl (by first | exact Nat.le_of_ble_eq_true rfl | simp [cat_rf, Value.category]) (fun r1 h1 hp hro => ?_)
      obtain ⟨rfl, rfl⟩ := hp
      dsimp only [Option.toList_some, Option.toList_none, List.cons_append, List.nil_append]
      refine g_if_eq 123 d_Warp_exchange_49 (by decide) (fun c_49 => ?_) (fun c_49 => ?_)
      · have hf := ifp hf c_49
        refine g_iinc (_ + 1) d_Warp_exchange_123 rfl (by rfl) (by decide) ?_
        show Go _ _ _ _ _ _ [(0, _), (1, _), (2, _)] _
        refine g_goto 36 d_Warp_exchange_126 (by decide) ?_
        exact ih _ _ _ _ hf
      · have hf := ifn hf c_49
        refine g_iload_n d_Warp_exchange_52 rfl ?_
        refine g_aload_n d_Warp_exchange_53 rfl ?_
        obtain ⟨k_54, hf⟩ := gd_s hf
        obtain ⟨a_54_2, e_54_2, k_54_2, hf⟩ := rq_s hf
        refine fgs_Warp_word lf_Warp_77 d_Warp_exchange_54 k_54 e_54_2 ?_
        refine fg_Word_n lf_Warp_115 d_Warp_exchange_57 k_54_2 ?_
        refine g_aload_n d_Warp_exchange_60 rfl ?_
        refine fg_Warp_lanes lf_Warp_35 d_Warp_exchange_61 k_54 ?_
        refine g_iconst 1 d_Warp_exchange_64 (by decide) ?_
        refine g_isub d_Warp_exchange_65 ?_
        refine g_iand d_Warp_exchange_66 ?_
        refine g_ixor d_Warp_exchange_67 ?_
        refine g_istore_n d_Warp_exchange_68 (by decide) ?_
        show Go _ _ _ _ _ _ [(0, _), (1, _), (2, _), (3, _)] _
        refine g_iload_n d_Warp_exchange_69 rfl ?_
        refine g_if_lt 93 d_Warp_exchange_70 (by decide) (fun c_70 => ?_) (fun c_70 => ?_)
        · have hf := ifp hf c_70
          have key := e_Warp_exchange_93 hw (G := G) (h0 := h0) (fun _ _ _ _ q => ih _ _ _ _ q) hf
          exact key
        · have hf := ifn hf c_70
          refine g_iload_n d_Warp_exchange_73 rfl ?_
          refine g_aload_n d_Warp_exchange_74 rfl ?_
          refine fg_Warp_lanes lf_Warp_35 d_Warp_exchange_75 k_54 ?_
          refine g_icmp_ge 93 d_Warp_exchange_78 (by decide) (fun c_78 => ?_) (fun c_78 => ?_)
          · have hf := ifp hf c_78
            have key := e_Warp_exchange_93 hw (G := G) (h0 := h0) (fun _ _ _ _ q => ih _ _ _ _ q) hf
            exact key
          · have hf := ifn hf c_78
            refine g_iload_n d_Warp_exchange_81 rfl ?_
            refine g_iload_n d_Warp_exchange_82 rfl ?_
            obtain ⟨v_83, h_83, e_83, hf⟩ := cl_s hf
            refine g_callSN (mz := mi_WM_in) (e_WM_in e_83) cw_Warp_exchange_WM_in (host := "WarpMill") (by decide +kernel) wS_WM_in d_Warp_exchange_83 rfl rfl (by first | exact Nat.le_of_ble_eq_true rfl | simp [cat_rf, Value.category]) (fun r1 h1 hp hro => ?_)
            obtain ⟨rfl, rfl⟩ := hp
            dsimp only [Option.toList_some, Option.toList_none, List.cons_append, List.nil_append]
            refine g_if_eq 93 d_Warp_exchange_86 (by decide) (fun c_86 => ?_) (fun c_86 => ?_)
            · have hf := ifp hf c_86
              have key := e_Warp_exchange_93 hw (G := G) (h0 := h0) (fun _ _ _ _ q => ih _ _ _ _ q) hf
              exact key
            · have hf := ifn hf c_86
              refine g_iconst 1 d_Warp_exchange_89 (by decide) ?_
              refine g_goto 94 d_Warp_exchange_90 (by decide) ?_
              have key := e_Warp_exchange_94 hw (G := G) (h0 := h0) (fun _ _ _ _ q => ih _ _ _ _ q) hf
              exact key
def b_Warp_exchange_2 (F : Nat) : Nat → Nat → Int32 → Int32 → Hp → Option Hp
  | 0 => fun _ _ _ _ => none
  | n + 1 => fun x0 x1 x2 h => gd (hK h x0 = 9) <| if (hI h 514 x0) ≤ x2 then (b_Warp_exchange_36 F F x0 x1 (0 : Int32) h) else (rq h (hR h 525 x0) 100 fun a_11 => rq h (hR h 520 x0) 10 fun a_18 => cl (f_Warp_register F x0 x2 (hI h 578 a_18) h) fun v_24 h_24 => gd (hK h_24 a_11 = 100) <| ix x2 (hN h_24 a_11) fun j_27_2 => pw (sA h_24 a_11 j_27_2 v_24) fun h_27_3 => b_Warp_exchange_2 F n x0 x1 (x2 + 1) h_27_3)
set_option maxRecDepth 100000 in
set_option maxHeartbeats 4000000 in
theorem e_Warp_exchange_2 {G : Gl} (hw : gF G) {h0 : Hp} {F : Nat} {h' : Hp}   : ∀ (n : Nat) (x0 : Nat) (x1 : Int32) (x2 : Int32) (h : Hp), b_Warp_exchange_2 F n x0 x1 x2 h = some h' → Go G mi_Warp_exchange h0 (pV h') h 2 [(0, .ref x0), (1, .int x1), (2, .int x2)] [] := by
  intro n
  induction n with
  | zero =>
    intro _ _ _ _ hf
    exact nm_s hf
  | succ n ih =>
    intro x0 x1 x2 h hf
    unfold b_Warp_exchange_2 at hf
    refine g_iload_n d_Warp_exchange_2 rfl ?_
    refine g_aload_n d_Warp_exchange_3 rfl ?_
    obtain ⟨k_4, hf⟩ := gd_s hf
    refine fg_Warp_lanes lf_Warp_35 d_Warp_exchange_4 k_4 ?_
    refine g_icmp_ge 34 d_Warp_exchange_7 (by decide) (fun c_7 => ?_) (fun c_7 => ?_)
    · have hf := ifp hf c_7
      refine g_iconst 0 d_Warp_exchange_34 (by decide) ?_
      refine g_istore_n d_Warp_exchange_35 (by decide) ?_
      show Go _ _ _ _ _ _ [(0, _), (1, _), (2, _)] _
      have key := e_Warp_exchange_36 hw (G := G) (h0 := h0)  F _ _ _ _ hf
      exact key
    · have hf := ifn hf c_7
      refine g_aload_n d_Warp_exchange_10 rfl ?_
      obtain ⟨a_11, e_11, k_11, hf⟩ := rq_s hf
      refine fgs_Warp_row lf_Warp_24 d_Warp_exchange_11 k_4 e_11 ?_
      refine g_iload_n d_Warp_exchange_14 rfl ?_
      refine g_aload_n d_Warp_exchange_15 rfl ?_
      refine g_iload_n d_Warp_exchange_16 rfl ?_
      refine g_aload_n d_Warp_exchange_17 rfl ?_
      obtain ⟨a_18, e_18, k_18, hf⟩ := rq_s hf
      refine fgs_Warp_word lf_Warp_77 d_Warp_exchange_18 k_4 e_18 ?_
      refine fg_Word_a lf_Warp_112 d_Warp_exchange_21 k_18 ?_
      obtain ⟨v_24, h_24, e_24, hf⟩ := cl_s hf
      refine g_callV (mz := mi_Warp_register) (e_Warp_register e_24) cw_Warp_exchange_Warp_register lm_Warp_109 wI_Warp_register wV_Warp_register (ci := 8) k_4 (by decide) rfl rfl d_Warp_exchange_24 rfl rfl (by first | exact Nat.le_of_ble_eq_true rfl | simp [cat_rf, Value.category]) (fun r1 h1 hp hro => ?_)
      obtain ⟨rfl, rfl⟩ := hp
      dsimp only [Option.toList_some, Option.toList_none, List.cons_append, List.nil_append]
      obtain ⟨k_27, hf⟩ := gd_s hf
      obtain ⟨i_27_2, hf⟩ := ix_s hf
      refine g_iast hw k_27 i_27_2 d_Warp_exchange_27 ?_
      have hf := pw_b hf
      refine g_iinc (_ + 1) d_Warp_exchange_28 rfl (by rfl) (by decide) ?_
      show Go _ _ _ _ _ _ [(0, _), (1, _), (2, _)] _
      refine g_goto 2 d_Warp_exchange_31 (by decide) ?_
      exact ih _ _ _ _ hf
def f_Warp_exchange (F : Nat) (x0 : Nat) (x1 : Int32) (h : Hp) : Option Hp := b_Warp_exchange_2 F F x0 x1 (0 : Int32) h
set_option maxRecDepth 100000 in
set_option maxHeartbeats 4000000 in
theorem e_Warp_exchange {G : Gl} (hw : gF G) {F : Nat} {h' : Hp} {x0 : Nat} {x1 : Int32} {h : Hp} (hf : f_Warp_exchange F x0 x1 h = some h') : Ex G mi_Warp_exchange [.ref x0, .int x1] h (pV h') := by
  unfold f_Warp_exchange at hf
  refine Ex.of nmV (by decide) (Nat.le_of_ble_eq_true rfl) ?_
  show Go G mi_Warp_exchange h _ h 0 [(0, .ref x0), (1, .int x1)] []
  refine g_iconst 0 d_Warp_exchange_0 (by decide) ?_
  refine g_istore_n d_Warp_exchange_1 (by decide) ?_
  show Go _ _ _ _ _ _ [(0, _), (1, _), (2, _)] _
  have key := e_Warp_exchange_2 hw (G := G) (h0 := h)  F _ _ _ _ hf
  exact key
abbrev mi_Warp_compared : MI := (⟨"WarpMill$Warp", "compared", "(I)I"⟩, prog_10_method_16_code, 7, some .int, 1, 22)
def it_Warp_compared_0 : List (Nat × ClassFile.Instr × Nat) := [(0, .iconst 0, 1), (1, .istore_n 2, 1), (2, .iconst 0, 1), (3, .istore_n 3, 1), (4, .iload_n 3, 1), (5, .aload_n 0, 1), (6, .getfield 35, 3), (9, .if_icmp .ge (126), 3), (12, .iload_n 1, 1), (13, .iload_n 3, 1), (14, .invokestatic 73, 3), (17, .ifCond .eq (112), 3), (20, .aload_n 0, 1), (21, .iload_n 3, 1), (22, .aload_n 0, 1), (23, .getfield 77, 3), (26, .getfield 112, 3), (29, .invokevirtual 109, 3), (32, .istore 4, 2), (34, .aload_n 0, 1), (35, .getfield 77, 3), (38, .getfield 118, 3), (41, .bipush (32), 2), (43, .if_icmp .lt (13), 3)]
theorem id_Warp_compared_0 : ∀ q ∈ it_Warp_compared_0, decode prog_10_method_16_code q.1 = .ok q.2 := by decide +kernel
theorem d_Warp_compared_0 : decode prog_10_method_16_code 0 = .ok (.iconst 0, 1) := id_Warp_compared_0 (0, .iconst 0, 1) (List.mem_of_getElem? (i := 0) rfl)
theorem d_Warp_compared_1 : decode prog_10_method_16_code 1 = .ok (.istore_n 2, 1) := id_Warp_compared_0 (1, .istore_n 2, 1) (List.mem_of_getElem? (i := 1) rfl)
theorem d_Warp_compared_2 : decode prog_10_method_16_code 2 = .ok (.iconst 0, 1) := id_Warp_compared_0 (2, .iconst 0, 1) (List.mem_of_getElem? (i := 2) rfl)
theorem d_Warp_compared_3 : decode prog_10_method_16_code 3 = .ok (.istore_n 3, 1) := id_Warp_compared_0 (3, .istore_n 3, 1) (List.mem_of_getElem? (i := 3) rfl)
theorem d_Warp_compared_4 : decode prog_10_method_16_code 4 = .ok (.iload_n 3, 1) := id_Warp_compared_0 (4, .iload_n 3, 1) (List.mem_of_getElem? (i := 4) rfl)
theorem d_Warp_compared_5 : decode prog_10_method_16_code 5 = .ok (.aload_n 0, 1) := id_Warp_compared_0 (5, .aload_n 0, 1) (List.mem_of_getElem? (i := 5) rfl)
theorem d_Warp_compared_6 : decode prog_10_method_16_code 6 = .ok (.getfield 35, 3) := id_Warp_compared_0 (6, .getfield 35, 3) (List.mem_of_getElem? (i := 6) rfl)
theorem d_Warp_compared_9 : decode prog_10_method_16_code 9 = .ok (.if_icmp .ge (126), 3) := id_Warp_compared_0 (9, .if_icmp .ge (126), 3) (List.mem_of_getElem? (i := 7) rfl)
theorem d_Warp_compared_12 : decode prog_10_method_16_code 12 = .ok (.iload_n 1, 1) := id_Warp_compared_0 (12, .iload_n 1, 1) (List.mem_of_getElem? (i := 8) rfl)
theorem d_Warp_compared_13 : decode prog_10_method_16_code 13 = .ok (.iload_n 3, 1) := id_Warp_compared_0 (13, .iload_n 3, 1) (List.mem_of_getElem? (i := 9) rfl)
theorem d_Warp_compared_14 : decode prog_10_method_16_code 14 = .ok (.invokestatic 73, 3) := id_Warp_compared_0 (14, .invokestatic 73, 3) (List.mem_of_getElem? (i := 10) rfl)
theorem d_Warp_compared_17 : decode prog_10_method_16_code 17 = .ok (.ifCond .eq (112), 3) := id_Warp_compared_0 (17, .ifCond .eq (112), 3) (List.mem_of_getElem? (i := 11) rfl)
theorem d_Warp_compared_20 : decode prog_10_method_16_code 20 = .ok (.aload_n 0, 1) := id_Warp_compared_0 (20, .aload_n 0, 1) (List.mem_of_getElem? (i := 12) rfl)
theorem d_Warp_compared_21 : decode prog_10_method_16_code 21 = .ok (.iload_n 3, 1) := id_Warp_compared_0 (21, .iload_n 3, 1) (List.mem_of_getElem? (i := 13) rfl)
theorem d_Warp_compared_22 : decode prog_10_method_16_code 22 = .ok (.aload_n 0, 1) := id_Warp_compared_0 (22, .aload_n 0, 1) (List.mem_of_getElem? (i := 14) rfl)
theorem d_Warp_compared_23 : decode prog_10_method_16_code 23 = .ok (.getfield 77, 3) := id_Warp_compared_0 (23, .getfield 77, 3) (List.mem_of_getElem? (i := 15) rfl)
theorem d_Warp_compared_26 : decode prog_10_method_16_code 26 = .ok (.getfield 112, 3) := id_Warp_compared_0 (26, .getfield 112, 3) (List.mem_of_getElem? (i := 16) rfl)
theorem d_Warp_compared_29 : decode prog_10_method_16_code 29 = .ok (.invokevirtual 109, 3) := id_Warp_compared_0 (29, .invokevirtual 109, 3) (List.mem_of_getElem? (i := 17) rfl)
theorem d_Warp_compared_32 : decode prog_10_method_16_code 32 = .ok (.istore 4, 2) := id_Warp_compared_0 (32, .istore 4, 2) (List.mem_of_getElem? (i := 18) rfl)
theorem d_Warp_compared_34 : decode prog_10_method_16_code 34 = .ok (.aload_n 0, 1) := id_Warp_compared_0 (34, .aload_n 0, 1) (List.mem_of_getElem? (i := 19) rfl)
theorem d_Warp_compared_35 : decode prog_10_method_16_code 35 = .ok (.getfield 77, 3) := id_Warp_compared_0 (35, .getfield 77, 3) (List.mem_of_getElem? (i := 20) rfl)
theorem d_Warp_compared_38 : decode prog_10_method_16_code 38 = .ok (.getfield 118, 3) := id_Warp_compared_0 (38, .getfield 118, 3) (List.mem_of_getElem? (i := 21) rfl)
theorem d_Warp_compared_41 : decode prog_10_method_16_code 41 = .ok (.bipush (32), 2) := id_Warp_compared_0 (41, .bipush (32), 2) (List.mem_of_getElem? (i := 22) rfl)
theorem d_Warp_compared_43 : decode prog_10_method_16_code 43 = .ok (.if_icmp .lt (13), 3) := id_Warp_compared_0 (43, .if_icmp .lt (13), 3) (List.mem_of_getElem? (i := 23) rfl)
def it_Warp_compared_1 : List (Nat × ClassFile.Instr × Nat) := [(46, .aload_n 0, 1), (47, .getfield 77, 3), (50, .getfield 115, 3), (53, .goto (15), 3), (56, .aload_n 0, 1), (57, .iload_n 3, 1), (58, .aload_n 0, 1), (59, .getfield 77, 3), (62, .getfield 106, 3), (65, .invokevirtual 109, 3), (68, .istore 5, 2), (70, .aload_n 0, 1), (71, .getfield 77, 3), (74, .getfield 118, 3), (77, .bipush (30), 2), (79, .if_icmp .eq (15), 3), (82, .aload_n 0, 1), (83, .getfield 77, 3), (86, .getfield 118, 3), (89, .bipush (32), 2), (91, .if_icmp .ne (7), 3), (94, .iconst 1, 1), (95, .goto (4), 3), (98, .iconst 0, 1)]
theorem id_Warp_compared_1 : ∀ q ∈ it_Warp_compared_1, decode prog_10_method_16_code q.1 = .ok q.2 := by decide +kernel
theorem d_Warp_compared_46 : decode prog_10_method_16_code 46 = .ok (.aload_n 0, 1) := id_Warp_compared_1 (46, .aload_n 0, 1) (List.mem_of_getElem? (i := 0) rfl)
theorem d_Warp_compared_47 : decode prog_10_method_16_code 47 = .ok (.getfield 77, 3) := id_Warp_compared_1 (47, .getfield 77, 3) (List.mem_of_getElem? (i := 1) rfl)
theorem d_Warp_compared_50 : decode prog_10_method_16_code 50 = .ok (.getfield 115, 3) := id_Warp_compared_1 (50, .getfield 115, 3) (List.mem_of_getElem? (i := 2) rfl)
theorem d_Warp_compared_53 : decode prog_10_method_16_code 53 = .ok (.goto (15), 3) := id_Warp_compared_1 (53, .goto (15), 3) (List.mem_of_getElem? (i := 3) rfl)
theorem d_Warp_compared_56 : decode prog_10_method_16_code 56 = .ok (.aload_n 0, 1) := id_Warp_compared_1 (56, .aload_n 0, 1) (List.mem_of_getElem? (i := 4) rfl)
theorem d_Warp_compared_57 : decode prog_10_method_16_code 57 = .ok (.iload_n 3, 1) := id_Warp_compared_1 (57, .iload_n 3, 1) (List.mem_of_getElem? (i := 5) rfl)
theorem d_Warp_compared_58 : decode prog_10_method_16_code 58 = .ok (.aload_n 0, 1) := id_Warp_compared_1 (58, .aload_n 0, 1) (List.mem_of_getElem? (i := 6) rfl)
theorem d_Warp_compared_59 : decode prog_10_method_16_code 59 = .ok (.getfield 77, 3) := id_Warp_compared_1 (59, .getfield 77, 3) (List.mem_of_getElem? (i := 7) rfl)
theorem d_Warp_compared_62 : decode prog_10_method_16_code 62 = .ok (.getfield 106, 3) := id_Warp_compared_1 (62, .getfield 106, 3) (List.mem_of_getElem? (i := 8) rfl)
theorem d_Warp_compared_65 : decode prog_10_method_16_code 65 = .ok (.invokevirtual 109, 3) := id_Warp_compared_1 (65, .invokevirtual 109, 3) (List.mem_of_getElem? (i := 9) rfl)
theorem d_Warp_compared_68 : decode prog_10_method_16_code 68 = .ok (.istore 5, 2) := id_Warp_compared_1 (68, .istore 5, 2) (List.mem_of_getElem? (i := 10) rfl)
theorem d_Warp_compared_70 : decode prog_10_method_16_code 70 = .ok (.aload_n 0, 1) := id_Warp_compared_1 (70, .aload_n 0, 1) (List.mem_of_getElem? (i := 11) rfl)
theorem d_Warp_compared_71 : decode prog_10_method_16_code 71 = .ok (.getfield 77, 3) := id_Warp_compared_1 (71, .getfield 77, 3) (List.mem_of_getElem? (i := 12) rfl)
theorem d_Warp_compared_74 : decode prog_10_method_16_code 74 = .ok (.getfield 118, 3) := id_Warp_compared_1 (74, .getfield 118, 3) (List.mem_of_getElem? (i := 13) rfl)
theorem d_Warp_compared_77 : decode prog_10_method_16_code 77 = .ok (.bipush (30), 2) := id_Warp_compared_1 (77, .bipush (30), 2) (List.mem_of_getElem? (i := 14) rfl)
theorem d_Warp_compared_79 : decode prog_10_method_16_code 79 = .ok (.if_icmp .eq (15), 3) := id_Warp_compared_1 (79, .if_icmp .eq (15), 3) (List.mem_of_getElem? (i := 15) rfl)
theorem d_Warp_compared_82 : decode prog_10_method_16_code 82 = .ok (.aload_n 0, 1) := id_Warp_compared_1 (82, .aload_n 0, 1) (List.mem_of_getElem? (i := 16) rfl)
theorem d_Warp_compared_83 : decode prog_10_method_16_code 83 = .ok (.getfield 77, 3) := id_Warp_compared_1 (83, .getfield 77, 3) (List.mem_of_getElem? (i := 17) rfl)
theorem d_Warp_compared_86 : decode prog_10_method_16_code 86 = .ok (.getfield 118, 3) := id_Warp_compared_1 (86, .getfield 118, 3) (List.mem_of_getElem? (i := 18) rfl)
theorem d_Warp_compared_89 : decode prog_10_method_16_code 89 = .ok (.bipush (32), 2) := id_Warp_compared_1 (89, .bipush (32), 2) (List.mem_of_getElem? (i := 19) rfl)
theorem d_Warp_compared_91 : decode prog_10_method_16_code 91 = .ok (.if_icmp .ne (7), 3) := id_Warp_compared_1 (91, .if_icmp .ne (7), 3) (List.mem_of_getElem? (i := 20) rfl)
theorem d_Warp_compared_94 : decode prog_10_method_16_code 94 = .ok (.iconst 1, 1) := id_Warp_compared_1 (94, .iconst 1, 1) (List.mem_of_getElem? (i := 21) rfl)
theorem d_Warp_compared_95 : decode prog_10_method_16_code 95 = .ok (.goto (4), 3) := id_Warp_compared_1 (95, .goto (4), 3) (List.mem_of_getElem? (i := 22) rfl)
theorem d_Warp_compared_98 : decode prog_10_method_16_code 98 = .ok (.iconst 0, 1) := id_Warp_compared_1 (98, .iconst 0, 1) (List.mem_of_getElem? (i := 23) rfl)
def it_Warp_compared_2 : List (Nat × ClassFile.Instr × Nat) := [(99, .istore 6, 2), (101, .iload 6, 2), (103, .ifCond .eq (13), 3), (106, .iload 4, 2), (108, .iload 5, 2), (110, .if_icmp .ge (19), 3), (113, .goto (10), 3), (116, .iload 4, 2), (118, .iload 5, 2), (120, .if_icmp .ne (9), 3), (123, .iload_n 2, 1), (124, .iconst 1, 1), (125, .iload_n 3, 1), (126, .ishl, 1), (127, .ior, 1), (128, .istore_n 2, 1), (129, .iinc 3 (1), 3), (132, .goto (-128), 3), (135, .iload_n 2, 1), (136, .ireturn, 1)]
theorem id_Warp_compared_2 : ∀ q ∈ it_Warp_compared_2, decode prog_10_method_16_code q.1 = .ok q.2 := by decide +kernel
theorem d_Warp_compared_99 : decode prog_10_method_16_code 99 = .ok (.istore 6, 2) := id_Warp_compared_2 (99, .istore 6, 2) (List.mem_of_getElem? (i := 0) rfl)
theorem d_Warp_compared_101 : decode prog_10_method_16_code 101 = .ok (.iload 6, 2) := id_Warp_compared_2 (101, .iload 6, 2) (List.mem_of_getElem? (i := 1) rfl)
theorem d_Warp_compared_103 : decode prog_10_method_16_code 103 = .ok (.ifCond .eq (13), 3) := id_Warp_compared_2 (103, .ifCond .eq (13), 3) (List.mem_of_getElem? (i := 2) rfl)
theorem d_Warp_compared_106 : decode prog_10_method_16_code 106 = .ok (.iload 4, 2) := id_Warp_compared_2 (106, .iload 4, 2) (List.mem_of_getElem? (i := 3) rfl)
theorem d_Warp_compared_108 : decode prog_10_method_16_code 108 = .ok (.iload 5, 2) := id_Warp_compared_2 (108, .iload 5, 2) (List.mem_of_getElem? (i := 4) rfl)
theorem d_Warp_compared_110 : decode prog_10_method_16_code 110 = .ok (.if_icmp .ge (19), 3) := id_Warp_compared_2 (110, .if_icmp .ge (19), 3) (List.mem_of_getElem? (i := 5) rfl)
theorem d_Warp_compared_113 : decode prog_10_method_16_code 113 = .ok (.goto (10), 3) := id_Warp_compared_2 (113, .goto (10), 3) (List.mem_of_getElem? (i := 6) rfl)
theorem d_Warp_compared_116 : decode prog_10_method_16_code 116 = .ok (.iload 4, 2) := id_Warp_compared_2 (116, .iload 4, 2) (List.mem_of_getElem? (i := 7) rfl)
theorem d_Warp_compared_118 : decode prog_10_method_16_code 118 = .ok (.iload 5, 2) := id_Warp_compared_2 (118, .iload 5, 2) (List.mem_of_getElem? (i := 8) rfl)
theorem d_Warp_compared_120 : decode prog_10_method_16_code 120 = .ok (.if_icmp .ne (9), 3) := id_Warp_compared_2 (120, .if_icmp .ne (9), 3) (List.mem_of_getElem? (i := 9) rfl)
theorem d_Warp_compared_123 : decode prog_10_method_16_code 123 = .ok (.iload_n 2, 1) := id_Warp_compared_2 (123, .iload_n 2, 1) (List.mem_of_getElem? (i := 10) rfl)
theorem d_Warp_compared_124 : decode prog_10_method_16_code 124 = .ok (.iconst 1, 1) := id_Warp_compared_2 (124, .iconst 1, 1) (List.mem_of_getElem? (i := 11) rfl)
theorem d_Warp_compared_125 : decode prog_10_method_16_code 125 = .ok (.iload_n 3, 1) := id_Warp_compared_2 (125, .iload_n 3, 1) (List.mem_of_getElem? (i := 12) rfl)
theorem d_Warp_compared_126 : decode prog_10_method_16_code 126 = .ok (.ishl, 1) := id_Warp_compared_2 (126, .ishl, 1) (List.mem_of_getElem? (i := 13) rfl)
theorem d_Warp_compared_127 : decode prog_10_method_16_code 127 = .ok (.ior, 1) := id_Warp_compared_2 (127, .ior, 1) (List.mem_of_getElem? (i := 14) rfl)
theorem d_Warp_compared_128 : decode prog_10_method_16_code 128 = .ok (.istore_n 2, 1) := id_Warp_compared_2 (128, .istore_n 2, 1) (List.mem_of_getElem? (i := 15) rfl)
theorem d_Warp_compared_129 : decode prog_10_method_16_code 129 = .ok (.iinc 3 (1), 3) := id_Warp_compared_2 (129, .iinc 3 (1), 3) (List.mem_of_getElem? (i := 16) rfl)
theorem d_Warp_compared_132 : decode prog_10_method_16_code 132 = .ok (.goto (-128), 3) := id_Warp_compared_2 (132, .goto (-128), 3) (List.mem_of_getElem? (i := 17) rfl)
theorem d_Warp_compared_135 : decode prog_10_method_16_code 135 = .ok (.iload_n 2, 1) := id_Warp_compared_2 (135, .iload_n 2, 1) (List.mem_of_getElem? (i := 18) rfl)
theorem d_Warp_compared_136 : decode prog_10_method_16_code 136 = .ok (.ireturn, 1) := id_Warp_compared_2 (136, .ireturn, 1) (List.mem_of_getElem? (i := 19) rfl)
theorem wC_Warp_compared : Cond.code ⟨"WarpMill$Warp", "compared", "(I)I"⟩ prog_10_method_16_code 7 (some .int) ∈ lw_tb := mem_tb 965 (by decide +kernel) rfl
theorem cw_Warp_compared_WM_in : cW mi_Warp_compared mi_WM_in 2 := ⟨wC_WM_in, wi_WM, ⟨by decide, by decide, by decide +kernel⟩, by decide, by decide⟩
theorem cw_Warp_compared_Warp_register : cW mi_Warp_compared mi_Warp_register 2 := ⟨wC_Warp_register, wi_Warp, ⟨by decide, by decide, by decide +kernel⟩, by decide, by decide⟩
def b_Warp_compared_123 (F : Nat) (k4 : Nat → Int32 → Int32 → Int32 → Hp → Option (Int32 × Hp)) (x0 : Nat) (x1 : Int32) (x2 : Int32) (x3 : Int32) (h : Hp) : Option (Int32 × Hp) := k4 x0 x1 (x2 ||| ((1 : Int32) <<< (x3 &&& 31))) (x3 + 1) h
set_option maxRecDepth 100000 in
set_option maxHeartbeats 4000000 in
theorem e_Warp_compared_123 {G : Gl} {h0 : Hp} {F : Nat} {r : Int32} {h' : Hp} {k4 : Nat → Int32 → Int32 → Int32 → Hp → Option (Int32 × Hp)} (hk4 : ∀ (y0 : Nat) (y1 : Int32) (y2 : Int32) (y3 : Int32) (hh : Hp), k4 y0 y1 y2 y3 hh = some (r, h') → Go G mi_Warp_compared h0 (pI r h') hh 4 [(0, .ref y0), (1, .int y1), (2, .int y2), (3, .int y3)] []) {x0 : Nat} {x1 : Int32} {x2 : Int32} {x3 : Int32} {h : Hp} (hf : b_Warp_compared_123 F k4 x0 x1 x2 x3 h = some (r, h')) : Go G mi_Warp_compared h0 (pI r h') h 123 [(0, .ref x0), (1, .int x1), (2, .int x2), (3, .int x3)] [] := by
  unfold b_Warp_compared_123 at hf
  refine g_iload_n d_Warp_compared_123 rfl ?_
  refine g_iconst 1 d_Warp_compared_124 (by decide) ?_
  refine g_iload_n d_Warp_compared_125 rfl ?_
  refine g_ishl d_Warp_compared_126 ?_
  refine g_ior d_Warp_compared_127 ?_
  refine g_istore_n d_Warp_compared_128 (by decide) ?_
  show Go _ _ _ _ _ _ [(0, _), (1, _), (2, _), (3, _)] _
  refine g_iinc (_ + 1) d_Warp_compared_129 rfl (by rfl) (by decide) ?_
  show Go _ _ _ _ _ _ [(0, _), (1, _), (2, _), (3, _)] _
  refine g_goto 4 d_Warp_compared_132 (by decide) ?_
  exact hk4 _ _ _ _ _ hf
def b_Warp_compared_99 (F : Nat) (k4 : Nat → Int32 → Int32 → Int32 → Hp → Option (Int32 × Hp)) (x0 : Nat) (x1 : Int32) (x2 : Int32) (x3 : Int32) (x4 : Int32) (x5 : Int32) (s0 : Int32) (h : Hp) : Option (Int32 × Hp) := if s0 = 0 then (if x4 = x5 then (b_Warp_compared_123 F k4 x0 x1 x2 x3 h) else (k4 x0 x1 x2 (x3 + 1) h)) else (if x5 ≤ x4 then (k4 x0 x1 x2 (x3 + 1) h) else (b_Warp_compared_123 F k4 x0 x1 x2 x3 h))
set_option maxRecDepth 100000 in
set_option maxHeartbeats 4000000 in
theorem e_Warp_compared_99 {G : Gl} {h0 : Hp} {F : Nat} {r : Int32} {h' : Hp} {k4 : Nat → Int32 → Int32 → Int32 → Hp → Option (Int32 × Hp)} (hk4 : ∀ (y0 : Nat) (y1 : Int32) (y2 : Int32) (y3 : Int32) (hh : Hp), k4 y0 y1 y2 y3 hh = some (r, h') → Go G mi_Warp_compared h0 (pI r h') hh 4 [(0, .ref y0), (1, .int y1), (2, .int y2), (3, .int y3)] []) {x0 : Nat} {x1 : Int32} {x2 : Int32} {x3 : Int32} {x4 : Int32} {x5 : Int32} {s0 : Int32} {h : Hp} (hf : b_Warp_compared_99 F k4 x0 x1 x2 x3 x4 x5 s0 h = some (r, h')) : Go G mi_Warp_compared h0 (pI r h') h 99 [(0, .ref x0), (1, .int x1), (2, .int x2), (3, .int x3), (4, .int x4), (5, .int x5)] [.int s0] := by
  unfold b_Warp_compared_99 at hf
  refine g_istore d_Warp_compared_99 (by decide) ?_
  show Go _ _ _ _ _ _ [(0, _), (1, _), (2, _), (3, _), (4, _), (5, _), (6, _)] _
  refine g_iload d_Warp_compared_101 rfl ?_
  refine g_if_eq 116 d_Warp_compared_103 (by decide) (fun c_103 => ?_) (fun c_103 => ?_)
  · have hf := ifp hf c_103
    refine g_iload d_Warp_compared_116 rfl ?_
    refine g_iload d_Warp_compared_118 rfl ?_
    refine g_icmp_ne 129 d_Warp_compared_120 (by decide) (fun c_120 => ?_) (fun c_120 => ?_)
    · have hf := ifn hf c_120
      refine g_iinc (_ + 1) d_Warp_compared_129 rfl (by rfl) (by decide) ?_
      show Go _ _ _ _ _ _ [(0, _), (1, _), (2, _), (3, _), (4, _), (5, _), (6, _)] _
      refine g_goto 4 d_Warp_compared_132 (by decide) ?_
      refine Go.locals [0, 1, 2, 3] rfl ?_
      exact hk4 _ _ _ _ _ hf
    · have hf := ifp hf c_120
      refine Go.locals [0, 1, 2, 3] rfl ?_
      have key := e_Warp_compared_123 (G := G) (h0 := h0) hk4 hf
      exact key
  · have hf := ifn hf c_103
    refine g_iload d_Warp_compared_106 rfl ?_
    refine g_iload d_Warp_compared_108 rfl ?_
    refine g_icmp_ge 129 d_Warp_compared_110 (by decide) (fun c_110 => ?_) (fun c_110 => ?_)
    · have hf := ifp hf c_110
      refine g_iinc (_ + 1) d_Warp_compared_129 rfl (by rfl) (by decide) ?_
      show Go _ _ _ _ _ _ [(0, _), (1, _), (2, _), (3, _), (4, _), (5, _), (6, _)] _
      refine g_goto 4 d_Warp_compared_132 (by decide) ?_
      refine Go.locals [0, 1, 2, 3] rfl ?_
      exact hk4 _ _ _ _ _ hf
    · have hf := ifn hf c_110
      refine g_goto 123 d_Warp_compared_113 (by decide) ?_
      refine Go.locals [0, 1, 2, 3] rfl ?_
      have key := e_Warp_compared_123 (G := G) (h0 := h0) hk4 hf
      exact key
def b_Warp_compared_94 (F : Nat) (k4 : Nat → Int32 → Int32 → Int32 → Hp → Option (Int32 × Hp)) (x0 : Nat) (x1 : Int32) (x2 : Int32) (x3 : Int32) (x4 : Int32) (x5 : Int32) (h : Hp) : Option (Int32 × Hp) := b_Warp_compared_99 F k4 x0 x1 x2 x3 x4 x5 (1 : Int32) h
set_option maxRecDepth 100000 in
set_option maxHeartbeats 4000000 in
theorem e_Warp_compared_94 {G : Gl} {h0 : Hp} {F : Nat} {r : Int32} {h' : Hp} {k4 : Nat → Int32 → Int32 → Int32 → Hp → Option (Int32 × Hp)} (hk4 : ∀ (y0 : Nat) (y1 : Int32) (y2 : Int32) (y3 : Int32) (hh : Hp), k4 y0 y1 y2 y3 hh = some (r, h') → Go G mi_Warp_compared h0 (pI r h') hh 4 [(0, .ref y0), (1, .int y1), (2, .int y2), (3, .int y3)] []) {x0 : Nat} {x1 : Int32} {x2 : Int32} {x3 : Int32} {x4 : Int32} {x5 : Int32} {h : Hp} (hf : b_Warp_compared_94 F k4 x0 x1 x2 x3 x4 x5 h = some (r, h')) : Go G mi_Warp_compared h0 (pI r h') h 94 [(0, .ref x0), (1, .int x1), (2, .int x2), (3, .int x3), (4, .int x4), (5, .int x5)] [] := by
  unfold b_Warp_compared_94 at hf
  refine g_iconst 1 d_Warp_compared_94 (by decide) ?_
  refine g_goto 99 d_Warp_compared_95 (by decide) ?_
  have key := e_Warp_compared_99 (G := G) (h0 := h0) hk4 hf
  exact key
def b_Warp_compared_68 (F : Nat) (k4 : Nat → Int32 → Int32 → Int32 → Hp → Option (Int32 × Hp)) (x0 : Nat) (x1 : Int32) (x2 : Int32) (x3 : Int32) (x4 : Int32) (s0 : Int32) (h : Hp) : Option (Int32 × Hp) := gd (hK h x0 = 9) <| rq h (hR h 520 x0) 10 fun a_71_2 => if (hI h 576 a_71_2) = (30 : Int32) then (b_Warp_compared_94 F k4 x0 x1 x2 x3 x4 s0 h) else (if (hI h 576 a_71_2) = (32 : Int32) then (b_Warp_compared_94 F k4 x0 x1 x2 x3 x4 s0 h) else (b_Warp_compared_99 F k4 x0 x1 x2 x3 x4 s0 (0 : Int32) h))
set_option maxRecDepth 100000 in
set_option maxHeartbeats 4000000 in
theorem e_Warp_compared_68 {G : Gl} {h0 : Hp} {F : Nat} {r : Int32} {h' : Hp} {k4 : Nat → Int32 → Int32 → Int32 → Hp → Option (Int32 × Hp)} (hk4 : ∀ (y0 : Nat) (y1 : Int32) (y2 : Int32) (y3 : Int32) (hh : Hp), k4 y0 y1 y2 y3 hh = some (r, h') → Go G mi_Warp_compared h0 (pI r h') hh 4 [(0, .ref y0), (1, .int y1), (2, .int y2), (3, .int y3)] []) {x0 : Nat} {x1 : Int32} {x2 : Int32} {x3 : Int32} {x4 : Int32} {s0 : Int32} {h : Hp} (hf : b_Warp_compared_68 F k4 x0 x1 x2 x3 x4 s0 h = some (r, h')) : Go G mi_Warp_compared h0 (pI r h') h 68 [(0, .ref x0), (1, .int x1), (2, .int x2), (3, .int x3), (4, .int x4)] [.int s0] := by
  unfold b_Warp_compared_68 at hf
  refine g_istore d_Warp_compared_68 (by decide) ?_
  show Go _ _ _ _ _ _ [(0, _), (1, _), (2, _), (3, _), (4, _), (5, _)] _
  refine g_aload_n d_Warp_compared_70 rfl ?_
  obtain ⟨k_71, hf⟩ := gd_s hf
  obtain ⟨a_71_2, e_71_2, k_71_2, hf⟩ := rq_s hf
  refine fgs_Warp_word lf_Warp_77 d_Warp_compared_71 k_71 e_71_2 ?_
  refine fg_Word_op lf_Warp_118 d_Warp_compared_74 k_71_2 ?_
  refine g_bipush (30) d_Warp_compared_77 (by decide) ?_
  refine g_icmp_eq 94 d_Warp_compared_79 (by decide) (fun c_79 => ?_) (fun c_79 => ?_)
  · have hf := ifp hf c_79
    have key := e_Warp_compared_94 (G := G) (h0 := h0) hk4 hf
    exact key
  · have hf := ifn hf c_79
    refine g_aload_n d_Warp_compared_82 rfl ?_
    refine fgs_Warp_word lf_Warp_77 d_Warp_compared_83 k_71 e_71_2 ?_
    refine fg_Word_op lf_Warp_118 d_Warp_compared_86 k_71_2 ?_
    refine g_bipush (32) d_Warp_compared_89 (by decide) ?_
    refine g_icmp_ne 98 d_Warp_compared_91 (by decide) (fun c_91 => ?_) (fun c_91 => ?_)
    · have hf := ifn hf c_91
      refine g_iconst 0 d_Warp_compared_98 (by decide) ?_
      have key := e_Warp_compared_99 (G := G) (h0 := h0) hk4 hf
      exact key
    · have hf := ifp hf c_91
      have key := e_Warp_compared_94 (G := G) (h0 := h0) hk4 hf
      exact key
def b_Warp_compared_4 (F : Nat) : Nat → Nat → Int32 → Int32 → Int32 → Hp → Option (Int32 × Hp)
  | 0 => fun _ _ _ _ _ => none
  | n + 1 => fun x0 x1 x2 x3 h => gd (hK h x0 = 9) <| if (hI h 514 x0) ≤ x3 then (some (x2, h)) else (cl (f_WM_in F x1 x3 h) fun v_14 h_14 => if v_14 = 0 then (b_Warp_compared_4 F n x0 x1 x2 (x3 + 1) h_14) else (gd (hK h_14 x0 = 9) <| rq h_14 (hR h_14 520 x0) 10 fun a_23_2 => cl (f_Warp_register F x0 x3 (hI h_14 578 a_23_2) h_14) fun v_29 h_29 => gd (hK h_29 x0 = 9) <| rq h_29 (hR h_29 520 x0) 10 fun a_35_2 => if (hI h_29 576 a_35_2) < (32 : Int32) then (cl (f_Warp_register F x0 x3 (hI h_29 579 a_35_2) h_29) fun v_65 h_65 => b_Warp_compared_68 F (b_Warp_compared_4 F n) x0 x1 x2 x3 v_29 v_65 h_65) else (b_Warp_compared_68 F (b_Warp_compared_4 F n) x0 x1 x2 x3 v_29 (hI h_29 580 a_35_2) h_29)))
set_option maxRecDepth 100000 in
set_option maxHeartbeats 4000000 in
theorem e_Warp_compared_4 {G : Gl} {h0 : Hp} {F : Nat} {r : Int32} {h' : Hp}   : ∀ (n : Nat) (x0 : Nat) (x1 : Int32) (x2 : Int32) (x3 : Int32) (h : Hp), b_Warp_compared_4 F n x0 x1 x2 x3 h = some (r, h') → Go G mi_Warp_compared h0 (pI r h') h 4 [(0, .ref x0), (1, .int x1), (2, .int x2), (3, .int x3)] [] := by
  intro n
  induction n with
  | zero =>
    intro _ _ _ _ _ hf
    exact nm_s hf
  | succ n ih =>
    intro x0 x1 x2 x3 h hf
    unfold b_Warp_compared_4 at hf
    refine g_iload_n d_Warp_compared_4 rfl ?_
    refine g_aload_n d_Warp_compared_5 rfl ?_
    obtain ⟨k_6, hf⟩ := gd_s hf
    refine fg_Warp_lanes lf_Warp_35 d_Warp_compared_6 k_6 ?_
    refine g_icmp_ge 135 d_Warp_compared_9 (by decide) (fun c_9 => ?_) (fun c_9 => ?_)
    · have hf := ifp hf c_9
      refine g_iload_n d_Warp_compared_135 rfl ?_
      exact Go.ret (some _) (rOk_i _) rfl d_Warp_compared_136 (pI_of hf)
    · have hf := ifn hf c_9
      refine g_iload_n d_Warp_compared_12 rfl ?_
      refine g_iload_n d_Warp_compared_13 rfl ?_
      obtain ⟨v_14, h_14, e_14, hf⟩ := cl_s hf
      refine g_callSN (mz := mi_WM_in) (e_WM_in e_14) cw_Warp_compared_WM_in (host := "WarpMill") (by decide +kernel) wS_WM_in d_Warp_compared_14 rfl rfl (by first | exact Nat.le_of_ble_eq_true rfl | simp [cat_rf, Value.category]) (fun r1 h1 hp hro => ?_)
      obtain ⟨rfl, rfl⟩ := hp
      dsimp only [Option.toList_some, Option.toList_none, List.cons_append, List.nil_append]
      refine g_if_eq 129 d_Warp_compared_17 (by decide) (fun c_17 => ?_) (fun c_17 => ?_)
      · have hf := ifp hf c_17
        refine g_iinc (_ + 1) d_Warp_compared_129 rfl (by rfl) (by decide) ?_
        show Go _ _ _ _ _ _ [(0, _), (1, _), (2, _), (3, _)] _
        refine g_goto 4 d_Warp_compared_132 (by decide) ?_
        exact ih _ _ _ _ _ hf
      · have hf := ifn hf c_17
        refine g_aload_n d_Warp_compared_20 rfl ?_
        refine g_iload_n d_Warp_compared_21 rfl ?_
        refine g_aload_n d_Warp_compared_22 rfl ?_
        obtain ⟨k_23, hf⟩ := gd_s hf
        obtain ⟨a_23_2, e_23_2, k_23_2, hf⟩ := rq_s hf
        refine fgs_Warp_word lf_Warp_77 d_Warp_compared_23 k_23 e_23_2 ?_
        refine fg_Word_a lf_Warp_112 d_Warp_compared_26 k_23_2 ?_
        obtain ⟨v_29, h_29, e_29, hf⟩ := cl_s hf
        refine g_callV (mz := mi_Warp_register) (e_Warp_register e_29) cw_Warp_compared_Warp_register lm_Warp_109 wI_Warp_register wV_Warp_register (ci := 8) k_23 (by decide) rfl rfl d_Warp_compared_29 rfl rfl (by first | exact Nat.le_of_ble_eq_true rfl | simp [cat_rf, Value.category]) (fun r1 h1 hp hro => ?_)
        obtain ⟨rfl, rfl⟩ := hp
        dsimp only [Option.toList_some, Option.toList_none, List.cons_append, List.nil_append]
        refine g_istore d_Warp_compared_32 (by decide) ?_
        show Go _ _ _ _ _ _ [(0, _), (1, _), (2, _), (3, _), (4, _)] _
        refine g_aload_n d_Warp_compared_34 rfl ?_
        obtain ⟨k_35, hf⟩ := gd_s hf
        obtain ⟨a_35_2, e_35_2, k_35_2, hf⟩ := rq_s hf
        refine fgs_Warp_word lf_Warp_77 d_Warp_compared_35 k_35 e_35_2 ?_
        refine fg_Word_op lf_Warp_118 d_Warp_compared_38 k_35_2 ?_
        refine g_bipush (32) d_Warp_compared_41 (by decide) ?_
        refine g_icmp_lt 56 d_Warp_compared_43 (by decide) (fun c_43 => ?_) (fun c_43 => ?_)
        · have hf := ifp hf c_43
          refine g_aload_n d_Warp_compared_56 rfl ?_
          refine g_iload_n d_Warp_compared_57 rfl ?_
          refine g_aload_n d_Warp_compared_58 rfl ?_
          refine fgs_Warp_word lf_Warp_77 d_Warp_compared_59 k_35 e_35_2 ?_
          refine fg_Word_b lf_Warp_106 d_Warp_compared_62 k_35_2 ?_
          obtain ⟨v_65, h_65, e_65, hf⟩ := cl_s hf
          refine g_callV (mz := mi_Warp_register) (e_Warp_register e_65) cw_Warp_compared_Warp_register lm_Warp_109 wI_Warp_register wV_Warp_register (ci := 8) k_35 (by decide) rfl rfl d_Warp_compared_65 rfl rfl (by first | exact Nat.le_of_ble_eq_true rfl | simp [cat_rf, Value.category]) (fun r1 h1 hp hro => ?_)
          obtain ⟨rfl, rfl⟩ := hp
          dsimp only [Option.toList_some, Option.toList_none, List.cons_append, List.nil_append]
          have key := e_Warp_compared_68 (G := G) (h0 := h0) (fun _ _ _ _ _ q => ih _ _ _ _ _ q) hf
          exact key
        · have hf := ifn hf c_43
          refine g_aload_n d_Warp_compared_46 rfl ?_
          refine fgs_Warp_word lf_Warp_77 d_Warp_compared_47 k_35 e_35_2 ?_
          refine fg_Word_n lf_Warp_115 d_Warp_compared_50 k_35_2 ?_
          refine g_goto 68 d_Warp_compared_53 (by decide) ?_
          have key := e_Warp_compared_68 (G := G) (h0 := h0) (fun _ _ _ _ _ q => ih _ _ _ _ _ q) hf
          exact key
def f_Warp_compared (F : Nat) (x0 : Nat) (x1 : Int32) (h : Hp) : Option (Int32 × Hp) := b_Warp_compared_4 F F x0 x1 (0 : Int32) (0 : Int32) h
set_option maxRecDepth 100000 in
set_option maxHeartbeats 4000000 in
theorem e_Warp_compared {G : Gl} {F : Nat} {r : Int32} {h' : Hp} {x0 : Nat} {x1 : Int32} {h : Hp} (hf : f_Warp_compared F x0 x1 h = some (r, h')) : Ex G mi_Warp_compared [.ref x0, .int x1] h (pI r h') := by
  unfold f_Warp_compared at hf
  refine Ex.of nmI (by decide) (Nat.le_of_ble_eq_true rfl) ?_
  show Go G mi_Warp_compared h _ h 0 [(0, .ref x0), (1, .int x1)] []
  refine g_iconst 0 d_Warp_compared_0 (by decide) ?_
  refine g_istore_n d_Warp_compared_1 (by decide) ?_
  show Go _ _ _ _ _ _ [(0, _), (1, _), (2, _)] _
  refine g_iconst 0 d_Warp_compared_2 (by decide) ?_
  refine g_istore_n d_Warp_compared_3 (by decide) ?_
  show Go _ _ _ _ _ _ [(0, _), (1, _), (2, _), (3, _)] _
  have key := e_Warp_compared_4 (G := G) (h0 := h)  F _ _ _ _ _ hf
  exact key
