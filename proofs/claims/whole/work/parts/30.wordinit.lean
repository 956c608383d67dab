theorem bI_n0 {p : Prop} [Decidable p] (h : bI p = 0) : ¬ p := fun q => by rw [bI_t q] at h; exact absurd h (by decide)
theorem bI_p0 {p : Prop} [Decidable p] (h : ¬ bI p = 0) : p := Decidable.byContradiction fun q => h (bI_f q)
def kGu (w : Int64) : Int32 := if wG w < 8 then -1 else wG w &&& 3
abbrev kMem (op : Int32) : Prop := 50 ≤ op ∧ op ≤ 59
abbrev kSh (op : Int32) : Prop := op = 52 ∨ op = 53 ∨ op = 58 ∨ op = 59
abbrev kWM (op : Int32) : Prop := op = 0 ∨ op = 1 ∨ kMem op
def kNeed (w : Int64) : Int32 := if kKnown (wOp w) (wN w) then (((kPr (wOp w) (wA w) (wB w) (wN w) ||| (if kRA (wOp w) then (1 : Int32) <<< (wA w &&& 31) else 0)) ||| (if kRB (wOp w) then (1 : Int32) <<< (wB w &&& 31) else 0)) ||| (if kWr (wOp w) (wD w) = -1 then (0 : Int32) else 1 <<< (kWr (wOp w) (wD w) &&& 31))) ||| (if kGu w = -1 then 0 else tk (kGu w)) else 0
/-- the cell of a word -/
def wSet (h : Hp) (x : Nat) (w : Int64) : Hp := sI (sI (sI (sI (sI (sI (sI (sI (sI (sI (sI (sI (sI (sI (sI h 576 x (wOp w)) 577 x (wD w)) 578 x (wA w)) 579 x (wB w)) 580 x (wN w)) 581 x (bI (kKnown (wOp w) (wN w)))) 582 x (kGu w)) 583 x (bI (¬ (wG w &&& 4) = 0))) 584 x (bI (wOp w = 7 ∨ wOp w = 8))) 585 x (bI (kMem (wOp w)))) 586 x (bI (kSh (wOp w)))) 587 x (bI (kWM (wOp w)))) 588 x (kWr (wOp w) (wD w))) 589 x (kNeed w)) 590 x (kWait (wOp w))
abbrev mi_Word_init : MI := (⟨"WarpMill$Word", "<init>", "(J)V"⟩, prog_11_method_1_code, 5, none, 2, 43)
def it_Word_init_0 : List (Nat × ClassFile.Instr × Nat) := [(0, .aload_n 0, 1), (1, .invokespecial 3, 3), (4, .aload_n 0, 1), (5, .lload_n 1, 1), (6, .l2i, 1), (7, .sipush (255), 3), (10, .iand, 1), (11, .putfield 9, 3), (14, .aload_n 0, 1), (15, .lload_n 1, 1), (16, .bipush (8), 2), (18, .lshr, 1), (19, .l2i, 1), (20, .bipush (15), 2), (22, .iand, 1), (23, .putfield 15, 3), (26, .aload_n 0, 1), (27, .lload_n 1, 1), (28, .bipush (12), 2), (30, .lshr, 1), (31, .l2i, 1), (32, .bipush (15), 2), (34, .iand, 1), (35, .putfield 18, 3)]
theorem id_Word_init_0 : ∀ q ∈ it_Word_init_0, decode prog_11_method_1_code q.1 = .ok q.2 := by decide +kernel
theorem d_Word_init_0 : decode prog_11_method_1_code 0 = .ok (.aload_n 0, 1) := id_Word_init_0 (0, .aload_n 0, 1) (List.mem_of_getElem? (i := 0) rfl)
theorem d_Word_init_1 : decode prog_11_method_1_code 1 = .ok (.invokespecial 3, 3) := id_Word_init_0 (1, .invokespecial 3, 3) (List.mem_of_getElem? (i := 1) rfl)
theorem d_Word_init_4 : decode prog_11_method_1_code 4 = .ok (.aload_n 0, 1) := id_Word_init_0 (4, .aload_n 0, 1) (List.mem_of_getElem? (i := 2) rfl)
theorem d_Word_init_5 : decode prog_11_method_1_code 5 = .ok (.lload_n 1, 1) := id_Word_init_0 (5, .lload_n 1, 1) (List.mem_of_getElem? (i := 3) rfl)
theorem d_Word_init_6 : decode prog_11_method_1_code 6 = .ok (.l2i, 1) := id_Word_init_0 (6, .l2i, 1) (List.mem_of_getElem? (i := 4) rfl)
theorem d_Word_init_7 : decode prog_11_method_1_code 7 = .ok (.sipush (255), 3) := id_Word_init_0 (7, .sipush (255), 3) (List.mem_of_getElem? (i := 5) rfl)
theorem d_Word_init_10 : decode prog_11_method_1_code 10 = .ok (.iand, 1) := id_Word_init_0 (10, .iand, 1) (List.mem_of_getElem? (i := 6) rfl)
theorem d_Word_init_11 : decode prog_11_method_1_code 11 = .ok (.putfield 9, 3) := id_Word_init_0 (11, .putfield 9, 3) (List.mem_of_getElem? (i := 7) rfl)
theorem d_Word_init_14 : decode prog_11_method_1_code 14 = .ok (.aload_n 0, 1) := id_Word_init_0 (14, .aload_n 0, 1) (List.mem_of_getElem? (i := 8) rfl)
theorem d_Word_init_15 : decode prog_11_method_1_code 15 = .ok (.lload_n 1, 1) := id_Word_init_0 (15, .lload_n 1, 1) (List.mem_of_getElem? (i := 9) rfl)
theorem d_Word_init_16 : decode prog_11_method_1_code 16 = .ok (.bipush (8), 2) := id_Word_init_0 (16, .bipush (8), 2) (List.mem_of_getElem? (i := 10) rfl)
theorem d_Word_init_18 : decode prog_11_method_1_code 18 = .ok (.lshr, 1) := id_Word_init_0 (18, .lshr, 1) (List.mem_of_getElem? (i := 11) rfl)
theorem d_Word_init_19 : decode prog_11_method_1_code 19 = .ok (.l2i, 1) := id_Word_init_0 (19, .l2i, 1) (List.mem_of_getElem? (i := 12) rfl)
theorem d_Word_init_20 : decode prog_11_method_1_code 20 = .ok (.bipush (15), 2) := id_Word_init_0 (20, .bipush (15), 2) (List.mem_of_getElem? (i := 13) rfl)
theorem d_Word_init_22 : decode prog_11_method_1_code 22 = .ok (.iand, 1) := id_Word_init_0 (22, .iand, 1) (List.mem_of_getElem? (i := 14) rfl)
theorem d_Word_init_23 : decode prog_11_method_1_code 23 = .ok (.putfield 15, 3) := id_Word_init_0 (23, .putfield 15, 3) (List.mem_of_getElem? (i := 15) rfl)
theorem d_Word_init_26 : decode prog_11_method_1_code 26 = .ok (.aload_n 0, 1) := id_Word_init_0 (26, .aload_n 0, 1) (List.mem_of_getElem? (i := 16) rfl)
theorem d_Word_init_27 : decode prog_11_method_1_code 27 = .ok (.lload_n 1, 1) := id_Word_init_0 (27, .lload_n 1, 1) (List.mem_of_getElem? (i := 17) rfl)
theorem d_Word_init_28 : decode prog_11_method_1_code 28 = .ok (.bipush (12), 2) := id_Word_init_0 (28, .bipush (12), 2) (List.mem_of_getElem? (i := 18) rfl)
theorem d_Word_init_30 : decode prog_11_method_1_code 30 = .ok (.lshr, 1) := id_Word_init_0 (30, .lshr, 1) (List.mem_of_getElem? (i := 19) rfl)
theorem d_Word_init_31 : decode prog_11_method_1_code 31 = .ok (.l2i, 1) := id_Word_init_0 (31, .l2i, 1) (List.mem_of_getElem? (i := 20) rfl)
theorem d_Word_init_32 : decode prog_11_method_1_code 32 = .ok (.bipush (15), 2) := id_Word_init_0 (32, .bipush (15), 2) (List.mem_of_getElem? (i := 21) rfl)
theorem d_Word_init_34 : decode prog_11_method_1_code 34 = .ok (.iand, 1) := id_Word_init_0 (34, .iand, 1) (List.mem_of_getElem? (i := 22) rfl)
theorem d_Word_init_35 : decode prog_11_method_1_code 35 = .ok (.putfield 18, 3) := id_Word_init_0 (35, .putfield 18, 3) (List.mem_of_getElem? (i := 23) rfl)
def it_Word_init_1 : List (Nat × ClassFile.Instr × Nat) := [(38, .aload_n 0, 1), (39, .lload_n 1, 1), (40, .bipush (16), 2), (42, .lshr, 1), (43, .l2i, 1), (44, .bipush (15), 2), (46, .iand, 1), (47, .putfield 21, 3), (50, .aload_n 0, 1), (51, .lload_n 1, 1), (52, .bipush (32), 2), (54, .lshr, 1), (55, .l2i, 1), (56, .putfield 24, 3), (59, .lload_n 1, 1), (60, .bipush (20), 2), (62, .lshr, 1), (63, .l2i, 1), (64, .bipush (15), 2), (66, .iand, 1), (67, .istore_n 3, 1), (68, .aload_n 0, 1), (69, .aload_n 0, 1), (70, .getfield 9, 3)]
theorem id_Word_init_1 : ∀ q ∈ it_Word_init_1, decode prog_11_method_1_code q.1 = .ok q.2 := by decide +kernel
theorem d_Word_init_38 : decode prog_11_method_1_code 38 = .ok (.aload_n 0, 1) := id_Word_init_1 (38, .aload_n 0, 1) (List.mem_of_getElem? (i := 0) rfl)
theorem d_Word_init_39 : decode prog_11_method_1_code 39 = .ok (.lload_n 1, 1) := id_Word_init_1 (39, .lload_n 1, 1) (List.mem_of_getElem? (i := 1) rfl)
theorem d_Word_init_40 : decode prog_11_method_1_code 40 = .ok (.bipush (16), 2) := id_Word_init_1 (40, .bipush (16), 2) (List.mem_of_getElem? (i := 2) rfl)
theorem d_Word_init_42 : decode prog_11_method_1_code 42 = .ok (.lshr, 1) := id_Word_init_1 (42, .lshr, 1) (List.mem_of_getElem? (i := 3) rfl)
theorem d_Word_init_43 : decode prog_11_method_1_code 43 = .ok (.l2i, 1) := id_Word_init_1 (43, .l2i, 1) (List.mem_of_getElem? (i := 4) rfl)
theorem d_Word_init_44 : decode prog_11_method_1_code 44 = .ok (.bipush (15), 2) := id_Word_init_1 (44, .bipush (15), 2) (List.mem_of_getElem? (i := 5) rfl)
theorem d_Word_init_46 : decode prog_11_method_1_code 46 = .ok (.iand, 1) := id_Word_init_1 (46, .iand, 1) (List.mem_of_getElem? (i := 6) rfl)
theorem d_Word_init_47 : decode prog_11_method_1_code 47 = .ok (.putfield 21, 3) := id_Word_init_1 (47, .putfield 21, 3) (List.mem_of_getElem? (i := 7) rfl)
theorem d_Word_init_50 : decode prog_11_method_1_code 50 = .ok (.aload_n 0, 1) := id_Word_init_1 (50, .aload_n 0, 1) (List.mem_of_getElem? (i := 8) rfl)
theorem d_Word_init_51 : decode prog_11_method_1_code 51 = .ok (.lload_n 1, 1) := id_Word_init_1 (51, .lload_n 1, 1) (List.mem_of_getElem? (i := 9) rfl)
theorem d_Word_init_52 : decode prog_11_method_1_code 52 = .ok (.bipush (32), 2) := id_Word_init_1 (52, .bipush (32), 2) (List.mem_of_getElem? (i := 10) rfl)
theorem d_Word_init_54 : decode prog_11_method_1_code 54 = .ok (.lshr, 1) := id_Word_init_1 (54, .lshr, 1) (List.mem_of_getElem? (i := 11) rfl)
theorem d_Word_init_55 : decode prog_11_method_1_code 55 = .ok (.l2i, 1) := id_Word_init_1 (55, .l2i, 1) (List.mem_of_getElem? (i := 12) rfl)
theorem d_Word_init_56 : decode prog_11_method_1_code 56 = .ok (.putfield 24, 3) := id_Word_init_1 (56, .putfield 24, 3) (List.mem_of_getElem? (i := 13) rfl)
theorem d_Word_init_59 : decode prog_11_method_1_code 59 = .ok (.lload_n 1, 1) := id_Word_init_1 (59, .lload_n 1, 1) (List.mem_of_getElem? (i := 14) rfl)
theorem d_Word_init_60 : decode prog_11_method_1_code 60 = .ok (.bipush (20), 2) := id_Word_init_1 (60, .bipush (20), 2) (List.mem_of_getElem? (i := 15) rfl)
theorem d_Word_init_62 : decode prog_11_method_1_code 62 = .ok (.lshr, 1) := id_Word_init_1 (62, .lshr, 1) (List.mem_of_getElem? (i := 16) rfl)
theorem d_Word_init_63 : decode prog_11_method_1_code 63 = .ok (.l2i, 1) := id_Word_init_1 (63, .l2i, 1) (List.mem_of_getElem? (i := 17) rfl)
theorem d_Word_init_64 : decode prog_11_method_1_code 64 = .ok (.bipush (15), 2) := id_Word_init_1 (64, .bipush (15), 2) (List.mem_of_getElem? (i := 18) rfl)
theorem d_Word_init_66 : decode prog_11_method_1_code 66 = .ok (.iand, 1) := id_Word_init_1 (66, .iand, 1) (List.mem_of_getElem? (i := 19) rfl)
theorem d_Word_init_67 : decode prog_11_method_1_code 67 = .ok (.istore_n 3, 1) := id_Word_init_1 (67, .istore_n 3, 1) (List.mem_of_getElem? (i := 20) rfl)
theorem d_Word_init_68 : decode prog_11_method_1_code 68 = .ok (.aload_n 0, 1) := id_Word_init_1 (68, .aload_n 0, 1) (List.mem_of_getElem? (i := 21) rfl)
theorem d_Word_init_69 : decode prog_11_method_1_code 69 = .ok (.aload_n 0, 1) := id_Word_init_1 (69, .aload_n 0, 1) (List.mem_of_getElem? (i := 22) rfl)
theorem d_Word_init_70 : decode prog_11_method_1_code 70 = .ok (.getfield 9, 3) := id_Word_init_1 (70, .getfield 9, 3) (List.mem_of_getElem? (i := 23) rfl)
def it_Word_init_2 : List (Nat × ClassFile.Instr × Nat) := [(73, .aload_n 0, 1), (74, .getfield 24, 3), (77, .invokestatic 27, 3), (80, .putfield 31, 3), (83, .aload_n 0, 1), (84, .iload_n 3, 1), (85, .bipush (8), 2), (87, .if_icmp .lt (9), 3), (90, .iload_n 3, 1), (91, .iconst 3, 1), (92, .iand, 1), (93, .goto (4), 3), (96, .iconst (-1), 1), (97, .putfield 35, 3), (100, .aload_n 0, 1), (101, .iload_n 3, 1), (102, .iconst 4, 1), (103, .iand, 1), (104, .ifCond .eq (7), 3), (107, .iconst 1, 1), (108, .goto (4), 3), (111, .iconst 0, 1), (112, .putfield 38, 3), (115, .aload_n 0, 1)]
theorem id_Word_init_2 : ∀ q ∈ it_Word_init_2, decode prog_11_method_1_code q.1 = .ok q.2 := by decide +kernel
theorem d_Word_init_73 : decode prog_11_method_1_code 73 = .ok (.aload_n 0, 1) := id_Word_init_2 (73, .aload_n 0, 1) (List.mem_of_getElem? (i := 0) rfl)
theorem d_Word_init_74 : decode prog_11_method_1_code 74 = .ok (.getfield 24, 3) := id_Word_init_2 (74, .getfield 24, 3) (List.mem_of_getElem? (i := 1) rfl)
theorem d_Word_init_77 : decode prog_11_method_1_code 77 = .ok (.invokestatic 27, 3) := id_Word_init_2 (77, .invokestatic 27, 3) (List.mem_of_getElem? (i := 2) rfl)
theorem d_Word_init_80 : decode prog_11_method_1_code 80 = .ok (.putfield 31, 3) := id_Word_init_2 (80, .putfield 31, 3) (List.mem_of_getElem? (i := 3) rfl)
theorem d_Word_init_83 : decode prog_11_method_1_code 83 = .ok (.aload_n 0, 1) := id_Word_init_2 (83, .aload_n 0, 1) (List.mem_of_getElem? (i := 4) rfl)
theorem d_Word_init_84 : decode prog_11_method_1_code 84 = .ok (.iload_n 3, 1) := id_Word_init_2 (84, .iload_n 3, 1) (List.mem_of_getElem? (i := 5) rfl)
theorem d_Word_init_85 : decode prog_11_method_1_code 85 = .ok (.bipush (8), 2) := id_Word_init_2 (85, .bipush (8), 2) (List.mem_of_getElem? (i := 6) rfl)
theorem d_Word_init_87 : decode prog_11_method_1_code 87 = .ok (.if_icmp .lt (9), 3) := id_Word_init_2 (87, .if_icmp .lt (9), 3) (List.mem_of_getElem? (i := 7) rfl)
theorem d_Word_init_90 : decode prog_11_method_1_code 90 = .ok (.iload_n 3, 1) := id_Word_init_2 (90, .iload_n 3, 1) (List.mem_of_getElem? (i := 8) rfl)
theorem d_Word_init_91 : decode prog_11_method_1_code 91 = .ok (.iconst 3, 1) := id_Word_init_2 (91, .iconst 3, 1) (List.mem_of_getElem? (i := 9) rfl)
theorem d_Word_init_92 : decode prog_11_method_1_code 92 = .ok (.iand, 1) := id_Word_init_2 (92, .iand, 1) (List.mem_of_getElem? (i := 10) rfl)
theorem d_Word_init_93 : decode prog_11_method_1_code 93 = .ok (.goto (4), 3) := id_Word_init_2 (93, .goto (4), 3) (List.mem_of_getElem? (i := 11) rfl)
theorem d_Word_init_96 : decode prog_11_method_1_code 96 = .ok (.iconst (-1), 1) := id_Word_init_2 (96, .iconst (-1), 1) (List.mem_of_getElem? (i := 12) rfl)
theorem d_Word_init_97 : decode prog_11_method_1_code 97 = .ok (.putfield 35, 3) := id_Word_init_2 (97, .putfield 35, 3) (List.mem_of_getElem? (i := 13) rfl)
theorem d_Word_init_100 : decode prog_11_method_1_code 100 = .ok (.aload_n 0, 1) := id_Word_init_2 (100, .aload_n 0, 1) (List.mem_of_getElem? (i := 14) rfl)
theorem d_Word_init_101 : decode prog_11_method_1_code 101 = .ok (.iload_n 3, 1) := id_Word_init_2 (101, .iload_n 3, 1) (List.mem_of_getElem? (i := 15) rfl)
theorem d_Word_init_102 : decode prog_11_method_1_code 102 = .ok (.iconst 4, 1) := id_Word_init_2 (102, .iconst 4, 1) (List.mem_of_getElem? (i := 16) rfl)
theorem d_Word_init_103 : decode prog_11_method_1_code 103 = .ok (.iand, 1) := id_Word_init_2 (103, .iand, 1) (List.mem_of_getElem? (i := 17) rfl)
theorem d_Word_init_104 : decode prog_11_method_1_code 104 = .ok (.ifCond .eq (7), 3) := id_Word_init_2 (104, .ifCond .eq (7), 3) (List.mem_of_getElem? (i := 18) rfl)
theorem d_Word_init_107 : decode prog_11_method_1_code 107 = .ok (.iconst 1, 1) := id_Word_init_2 (107, .iconst 1, 1) (List.mem_of_getElem? (i := 19) rfl)
theorem d_Word_init_108 : decode prog_11_method_1_code 108 = .ok (.goto (4), 3) := id_Word_init_2 (108, .goto (4), 3) (List.mem_of_getElem? (i := 20) rfl)
theorem d_Word_init_111 : decode prog_11_method_1_code 111 = .ok (.iconst 0, 1) := id_Word_init_2 (111, .iconst 0, 1) (List.mem_of_getElem? (i := 21) rfl)
theorem d_Word_init_112 : decode prog_11_method_1_code 112 = .ok (.putfield 38, 3) := id_Word_init_2 (112, .putfield 38, 3) (List.mem_of_getElem? (i := 22) rfl)
theorem d_Word_init_115 : decode prog_11_method_1_code 115 = .ok (.aload_n 0, 1) := id_Word_init_2 (115, .aload_n 0, 1) (List.mem_of_getElem? (i := 23) rfl)
def it_Word_init_3 : List (Nat × ClassFile.Instr × Nat) := [(116, .aload_n 0, 1), (117, .getfield 9, 3), (120, .bipush (7), 2), (122, .if_icmp .eq (12), 3), (125, .aload_n 0, 1), (126, .getfield 9, 3), (129, .bipush (8), 2), (131, .if_icmp .ne (7), 3), (134, .iconst 1, 1), (135, .goto (4), 3), (138, .iconst 0, 1), (139, .putfield 41, 3), (142, .aload_n 0, 1), (143, .aload_n 0, 1), (144, .getfield 9, 3), (147, .bipush (50), 2), (149, .if_icmp .lt (16), 3), (152, .aload_n 0, 1), (153, .getfield 9, 3), (156, .bipush (59), 2), (158, .if_icmp .gt (7), 3), (161, .iconst 1, 1), (162, .goto (4), 3), (165, .iconst 0, 1)]
theorem id_Word_init_3 : ∀ q ∈ it_Word_init_3, decode prog_11_method_1_code q.1 = .ok q.2 := by decide +kernel
theorem d_Word_init_116 : decode prog_11_method_1_code 116 = .ok (.aload_n 0, 1) := id_Word_init_3 (116, .aload_n 0, 1) (List.mem_of_getElem? (i := 0) rfl)
theorem d_Word_init_117 : decode prog_11_method_1_code 117 = .ok (.getfield 9, 3) := id_Word_init_3 (117, .getfield 9, 3) (List.mem_of_getElem? (i := 1) rfl)
theorem d_Word_init_120 : decode prog_11_method_1_code 120 = .ok (.bipush (7), 2) := id_Word_init_3 (120, .bipush (7), 2) (List.mem_of_getElem? (i := 2) rfl)
theorem d_Word_init_122 : decode prog_11_method_1_code 122 = .ok (.if_icmp .eq (12), 3) := id_Word_init_3 (122, .if_icmp .eq (12), 3) (List.mem_of_getElem? (i := 3) rfl)
theorem d_Word_init_125 : decode prog_11_method_1_code 125 = .ok (.aload_n 0, 1) := id_Word_init_3 (125, .aload_n 0, 1) (List.mem_of_getElem? (i := 4) rfl)
theorem d_Word_init_126 : decode prog_11_method_1_code 126 = .ok (.getfield 9, 3) := id_Word_init_3 (126, .getfield 9, 3) (List.mem_of_getElem? (i := 5) rfl)
theorem d_Word_init_129 : decode prog_11_method_1_code 129 = .ok (.bipush (8), 2) := id_Word_init_3 (129, .bipush (8), 2) (List.mem_of_getElem? (i := 6) rfl)
theorem d_Word_init_131 : decode prog_11_method_1_code 131 = .ok (.if_icmp .ne (7), 3) := id_Word_init_3 (131, .if_icmp .ne (7), 3) (List.mem_of_getElem? (i := 7) rfl)
theorem d_Word_init_134 : decode prog_11_method_1_code 134 = .ok (.iconst 1, 1) := id_Word_init_3 (134, .iconst 1, 1) (List.mem_of_getElem? (i := 8) rfl)
theorem d_Word_init_135 : decode prog_11_method_1_code 135 = .ok (.goto (4), 3) := id_Word_init_3 (135, .goto (4), 3) (List.mem_of_getElem? (i := 9) rfl)
theorem d_Word_init_138 : decode prog_11_method_1_code 138 = .ok (.iconst 0, 1) := id_Word_init_3 (138, .iconst 0, 1) (List.mem_of_getElem? (i := 10) rfl)
theorem d_Word_init_139 : decode prog_11_method_1_code 139 = .ok (.putfield 41, 3) := id_Word_init_3 (139, .putfield 41, 3) (List.mem_of_getElem? (i := 11) rfl)
theorem d_Word_init_142 : decode prog_11_method_1_code 142 = .ok (.aload_n 0, 1) := id_Word_init_3 (142, .aload_n 0, 1) (List.mem_of_getElem? (i := 12) rfl)
theorem d_Word_init_143 : decode prog_11_method_1_code 143 = .ok (.aload_n 0, 1) := id_Word_init_3 (143, .aload_n 0, 1) (List.mem_of_getElem? (i := 13) rfl)
theorem d_Word_init_144 : decode prog_11_method_1_code 144 = .ok (.getfield 9, 3) := id_Word_init_3 (144, .getfield 9, 3) (List.mem_of_getElem? (i := 14) rfl)
theorem d_Word_init_147 : decode prog_11_method_1_code 147 = .ok (.bipush (50), 2) := id_Word_init_3 (147, .bipush (50), 2) (List.mem_of_getElem? (i := 15) rfl)
theorem d_Word_init_149 : decode prog_11_method_1_code 149 = .ok (.if_icmp .lt (16), 3) := id_Word_init_3 (149, .if_icmp .lt (16), 3) (List.mem_of_getElem? (i := 16) rfl)
theorem d_Word_init_152 : decode prog_11_method_1_code 152 = .ok (.aload_n 0, 1) := id_Word_init_3 (152, .aload_n 0, 1) (List.mem_of_getElem? (i := 17) rfl)
theorem d_Word_init_153 : decode prog_11_method_1_code 153 = .ok (.getfield 9, 3) := id_Word_init_3 (153, .getfield 9, 3) (List.mem_of_getElem? (i := 18) rfl)
theorem d_Word_init_156 : decode prog_11_method_1_code 156 = .ok (.bipush (59), 2) := id_Word_init_3 (156, .bipush (59), 2) (List.mem_of_getElem? (i := 19) rfl)
theorem d_Word_init_158 : decode prog_11_method_1_code 158 = .ok (.if_icmp .gt (7), 3) := id_Word_init_3 (158, .if_icmp .gt (7), 3) (List.mem_of_getElem? (i := 20) rfl)
theorem d_Word_init_161 : decode prog_11_method_1_code 161 = .ok (.iconst 1, 1) := id_Word_init_3 (161, .iconst 1, 1) (List.mem_of_getElem? (i := 21) rfl)
theorem d_Word_init_162 : decode prog_11_method_1_code 162 = .ok (.goto (4), 3) := id_Word_init_3 (162, .goto (4), 3) (List.mem_of_getElem? (i := 22) rfl)
theorem d_Word_init_165 : decode prog_11_method_1_code 165 = .ok (.iconst 0, 1) := id_Word_init_3 (165, .iconst 0, 1) (List.mem_of_getElem? (i := 23) rfl)
def it_Word_init_4 : List (Nat × ClassFile.Instr × Nat) := [(166, .putfield 44, 3), (169, .aload_n 0, 1), (170, .aload_n 0, 1), (171, .getfield 9, 3), (174, .bipush (52), 2), (176, .if_icmp .eq (30), 3), (179, .aload_n 0, 1), (180, .getfield 9, 3), (183, .bipush (53), 2), (185, .if_icmp .eq (21), 3), (188, .aload_n 0, 1), (189, .getfield 9, 3), (192, .bipush (58), 2), (194, .if_icmp .eq (12), 3), (197, .aload_n 0, 1), (198, .getfield 9, 3), (201, .bipush (59), 2), (203, .if_icmp .ne (7), 3), (206, .iconst 1, 1), (207, .goto (4), 3), (210, .iconst 0, 1), (211, .putfield 47, 3), (214, .aload_n 0, 1), (215, .aload_n 0, 1)]
theorem id_Word_init_4 : ∀ q ∈ it_Word_init_4, decode prog_11_method_1_code q.1 = .ok q.2 := by decide +kernel
theorem d_Word_init_166 : decode prog_11_method_1_code 166 = .ok (.putfield 44, 3) := id_Word_init_4 (166, .putfield 44, 3) (List.mem_of_getElem? (i := 0) rfl)
theorem d_Word_init_169 : decode prog_11_method_1_code 169 = .ok (.aload_n 0, 1) := id_Word_init_4 (169, .aload_n 0, 1) (List.mem_of_getElem? (i := 1) rfl)
theorem d_Word_init_170 : decode prog_11_method_1_code 170 = .ok (.aload_n 0, 1) := id_Word_init_4 (170, .aload_n 0, 1) (List.mem_of_getElem? (i := 2) rfl)
theorem d_Word_init_171 : decode prog_11_method_1_code 171 = .ok (.getfield 9, 3) := id_Word_init_4 (171, .getfield 9, 3) (List.mem_of_getElem? (i := 3) rfl)
theorem d_Word_init_174 : decode prog_11_method_1_code 174 = .ok (.bipush (52), 2) := id_Word_init_4 (174, .bipush (52), 2) (List.mem_of_getElem? (i := 4) rfl)
theorem d_Word_init_176 : decode prog_11_method_1_code 176 = .ok (.if_icmp .eq (30), 3) := id_Word_init_4 (176, .if_icmp .eq (30), 3) (List.mem_of_getElem? (i := 5) rfl)
theorem d_Word_init_179 : decode prog_11_method_1_code 179 = .ok (.aload_n 0, 1) := id_Word_init_4 (179, .aload_n 0, 1) (List.mem_of_getElem? (i := 6) rfl)
theorem d_Word_init_180 : decode prog_11_method_1_code 180 = .ok (.getfield 9, 3) := id_Word_init_4 (180, .getfield 9, 3) (List.mem_of_getElem? (i := 7) rfl)
theorem d_Word_init_183 : decode prog_11_method_1_code 183 = .ok (.bipush (53), 2) := id_Word_init_4 (183, .bipush (53), 2) (List.mem_of_getElem? (i := 8) rfl)
theorem d_Word_init_185 : decode prog_11_method_1_code 185 = .ok (.if_icmp .eq (21), 3) := id_Word_init_4 (185, .if_icmp .eq (21), 3) (List.mem_of_getElem? (i := 9) rfl)
theorem d_Word_init_188 : decode prog_11_method_1_code 188 = .ok (.aload_n 0, 1) := id_Word_init_4 (188, .aload_n 0, 1) (List.mem_of_getElem? (i := 10) rfl)
theorem d_Word_init_189 : decode prog_11_method_1_code 189 = .ok (.getfield 9, 3) := id_Word_init_4 (189, .getfield 9, 3) (List.mem_of_getElem? (i := 11) rfl)
theorem d_Word_init_192 : decode prog_11_method_1_code 192 = .ok (.bipush (58), 2) := id_Word_init_4 (192, .bipush (58), 2) (List.mem_of_getElem? (i := 12) rfl)
theorem d_Word_init_194 : decode prog_11_method_1_code 194 = .ok (.if_icmp .eq (12), 3) := id_Word_init_4 (194, .if_icmp .eq (12), 3) (List.mem_of_getElem? (i := 13) rfl)
theorem d_Word_init_197 : decode prog_11_method_1_code 197 = .ok (.aload_n 0, 1) := id_Word_init_4 (197, .aload_n 0, 1) (List.mem_of_getElem? (i := 14) rfl)
theorem d_Word_init_198 : decode prog_11_method_1_code 198 = .ok (.getfield 9, 3) := id_Word_init_4 (198, .getfield 9, 3) (List.mem_of_getElem? (i := 15) rfl)
theorem d_Word_init_201 : decode prog_11_method_1_code 201 = .ok (.bipush (59), 2) := id_Word_init_4 (201, .bipush (59), 2) (List.mem_of_getElem? (i := 16) rfl)
theorem d_Word_init_203 : decode prog_11_method_1_code 203 = .ok (.if_icmp .ne (7), 3) := id_Word_init_4 (203, .if_icmp .ne (7), 3) (List.mem_of_getElem? (i := 17) rfl)
theorem d_Word_init_206 : decode prog_11_method_1_code 206 = .ok (.iconst 1, 1) := id_Word_init_4 (206, .iconst 1, 1) (List.mem_of_getElem? (i := 18) rfl)
theorem d_Word_init_207 : decode prog_11_method_1_code 207 = .ok (.goto (4), 3) := id_Word_init_4 (207, .goto (4), 3) (List.mem_of_getElem? (i := 19) rfl)
theorem d_Word_init_210 : decode prog_11_method_1_code 210 = .ok (.iconst 0, 1) := id_Word_init_4 (210, .iconst 0, 1) (List.mem_of_getElem? (i := 20) rfl)
theorem d_Word_init_211 : decode prog_11_method_1_code 211 = .ok (.putfield 47, 3) := id_Word_init_4 (211, .putfield 47, 3) (List.mem_of_getElem? (i := 21) rfl)
theorem d_Word_init_214 : decode prog_11_method_1_code 214 = .ok (.aload_n 0, 1) := id_Word_init_4 (214, .aload_n 0, 1) (List.mem_of_getElem? (i := 22) rfl)
theorem d_Word_init_215 : decode prog_11_method_1_code 215 = .ok (.aload_n 0, 1) := id_Word_init_4 (215, .aload_n 0, 1) (List.mem_of_getElem? (i := 23) rfl)
def it_Word_init_5 : List (Nat × ClassFile.Instr × Nat) := [(216, .getfield 9, 3), (219, .ifCond .eq (18), 3), (222, .aload_n 0, 1), (223, .getfield 9, 3), (226, .iconst 1, 1), (227, .if_icmp .eq (10), 3), (230, .aload_n 0, 1), (231, .getfield 44, 3), (234, .ifCond .eq (7), 3), (237, .iconst 1, 1), (238, .goto (4), 3), (241, .iconst 0, 1), (242, .putfield 50, 3), (245, .aload_n 0, 1), (246, .aload_n 0, 1), (247, .getfield 9, 3), (250, .aload_n 0, 1), (251, .getfield 15, 3), (254, .invokestatic 53, 3), (257, .putfield 57, 3), (260, .aload_n 0, 1), (261, .getfield 9, 3), (264, .aload_n 0, 1), (265, .getfield 18, 3)]
theorem id_Word_init_5 : ∀ q ∈ it_Word_init_5, decode prog_11_method_1_code q.1 = .ok q.2 := by decide +kernel
theorem d_Word_init_216 : decode prog_11_method_1_code 216 = .ok (.getfield 9, 3) := id_Word_init_5 (216, .getfield 9, 3) (List.mem_of_getElem? (i := 0) rfl)
theorem d_Word_init_219 : decode prog_11_method_1_code 219 = .ok (.ifCond .eq (18), 3) := id_Word_init_5 (219, .ifCond .eq (18), 3) (List.mem_of_getElem? (i := 1) rfl)
theorem d_Word_init_222 : decode prog_11_method_1_code 222 = .ok (.aload_n 0, 1) := id_Word_init_5 (222, .aload_n 0, 1) (List.mem_of_getElem? (i := 2) rfl)
theorem d_Word_init_223 : decode prog_11_method_1_code 223 = .ok (.getfield 9, 3) := id_Word_init_5 (223, .getfield 9, 3) (List.mem_of_getElem? (i := 3) rfl)
theorem d_Word_init_226 : decode prog_11_method_1_code 226 = .ok (.iconst 1, 1) := id_Word_init_5 (226, .iconst 1, 1) (List.mem_of_getElem? (i := 4) rfl)
theorem d_Word_init_227 : decode prog_11_method_1_code 227 = .ok (.if_icmp .eq (10), 3) := id_Word_init_5 (227, .if_icmp .eq (10), 3) (List.mem_of_getElem? (i := 5) rfl)
theorem d_Word_init_230 : decode prog_11_method_1_code 230 = .ok (.aload_n 0, 1) := id_Word_init_5 (230, .aload_n 0, 1) (List.mem_of_getElem? (i := 6) rfl)
theorem d_Word_init_231 : decode prog_11_method_1_code 231 = .ok (.getfield 44, 3) := id_Word_init_5 (231, .getfield 44, 3) (List.mem_of_getElem? (i := 7) rfl)
theorem d_Word_init_234 : decode prog_11_method_1_code 234 = .ok (.ifCond .eq (7), 3) := id_Word_init_5 (234, .ifCond .eq (7), 3) (List.mem_of_getElem? (i := 8) rfl)
theorem d_Word_init_237 : decode prog_11_method_1_code 237 = .ok (.iconst 1, 1) := id_Word_init_5 (237, .iconst 1, 1) (List.mem_of_getElem? (i := 9) rfl)
theorem d_Word_init_238 : decode prog_11_method_1_code 238 = .ok (.goto (4), 3) := id_Word_init_5 (238, .goto (4), 3) (List.mem_of_getElem? (i := 10) rfl)
theorem d_Word_init_241 : decode prog_11_method_1_code 241 = .ok (.iconst 0, 1) := id_Word_init_5 (241, .iconst 0, 1) (List.mem_of_getElem? (i := 11) rfl)
theorem d_Word_init_242 : decode prog_11_method_1_code 242 = .ok (.putfield 50, 3) := id_Word_init_5 (242, .putfield 50, 3) (List.mem_of_getElem? (i := 12) rfl)
theorem d_Word_init_245 : decode prog_11_method_1_code 245 = .ok (.aload_n 0, 1) := id_Word_init_5 (245, .aload_n 0, 1) (List.mem_of_getElem? (i := 13) rfl)
theorem d_Word_init_246 : decode prog_11_method_1_code 246 = .ok (.aload_n 0, 1) := id_Word_init_5 (246, .aload_n 0, 1) (List.mem_of_getElem? (i := 14) rfl)
theorem d_Word_init_247 : decode prog_11_method_1_code 247 = .ok (.getfield 9, 3) := id_Word_init_5 (247, .getfield 9, 3) (List.mem_of_getElem? (i := 15) rfl)
theorem d_Word_init_250 : decode prog_11_method_1_code 250 = .ok (.aload_n 0, 1) := id_Word_init_5 (250, .aload_n 0, 1) (List.mem_of_getElem? (i := 16) rfl)
theorem d_Word_init_251 : decode prog_11_method_1_code 251 = .ok (.getfield 15, 3) := id_Word_init_5 (251, .getfield 15, 3) (List.mem_of_getElem? (i := 17) rfl)
theorem d_Word_init_254 : decode prog_11_method_1_code 254 = .ok (.invokestatic 53, 3) := id_Word_init_5 (254, .invokestatic 53, 3) (List.mem_of_getElem? (i := 18) rfl)
theorem d_Word_init_257 : decode prog_11_method_1_code 257 = .ok (.putfield 57, 3) := id_Word_init_5 (257, .putfield 57, 3) (List.mem_of_getElem? (i := 19) rfl)
theorem d_Word_init_260 : decode prog_11_method_1_code 260 = .ok (.aload_n 0, 1) := id_Word_init_5 (260, .aload_n 0, 1) (List.mem_of_getElem? (i := 20) rfl)
theorem d_Word_init_261 : decode prog_11_method_1_code 261 = .ok (.getfield 9, 3) := id_Word_init_5 (261, .getfield 9, 3) (List.mem_of_getElem? (i := 21) rfl)
theorem d_Word_init_264 : decode prog_11_method_1_code 264 = .ok (.aload_n 0, 1) := id_Word_init_5 (264, .aload_n 0, 1) (List.mem_of_getElem? (i := 22) rfl)
theorem d_Word_init_265 : decode prog_11_method_1_code 265 = .ok (.getfield 18, 3) := id_Word_init_5 (265, .getfield 18, 3) (List.mem_of_getElem? (i := 23) rfl)
def it_Word_init_6 : List (Nat × ClassFile.Instr × Nat) := [(268, .aload_n 0, 1), (269, .getfield 21, 3), (272, .aload_n 0, 1), (273, .getfield 24, 3), (276, .invokestatic 60, 3), (279, .istore 4, 2), (281, .iload 4, 2), (283, .aload_n 0, 1), (284, .getfield 9, 3), (287, .invokestatic 64, 3), (290, .ifCond .eq (12), 3), (293, .iconst 1, 1), (294, .aload_n 0, 1), (295, .getfield 18, 3), (298, .ishl, 1), (299, .goto (4), 3), (302, .iconst 0, 1), (303, .ior, 1), (304, .istore 4, 2), (306, .iload 4, 2), (308, .aload_n 0, 1), (309, .getfield 9, 3), (312, .invokestatic 68, 3), (315, .ifCond .eq (12), 3)]
theorem id_Word_init_6 : ∀ q ∈ it_Word_init_6, decode prog_11_method_1_code q.1 = .ok q.2 := by decide +kernel
theorem d_Word_init_268 : decode prog_11_method_1_code 268 = .ok (.aload_n 0, 1) := id_Word_init_6 (268, .aload_n 0, 1) (List.mem_of_getElem? (i := 0) rfl)
theorem d_Word_init_269 : decode prog_11_method_1_code 269 = .ok (.getfield 21, 3) := id_Word_init_6 (269, .getfield 21, 3) (List.mem_of_getElem? (i := 1) rfl)
theorem d_Word_init_272 : decode prog_11_method_1_code 272 = .ok (.aload_n 0, 1) := id_Word_init_6 (272, .aload_n 0, 1) (List.mem_of_getElem? (i := 2) rfl)
theorem d_Word_init_273 : decode prog_11_method_1_code 273 = .ok (.getfield 24, 3) := id_Word_init_6 (273, .getfield 24, 3) (List.mem_of_getElem? (i := 3) rfl)
theorem d_Word_init_276 : decode prog_11_method_1_code 276 = .ok (.invokestatic 60, 3) := id_Word_init_6 (276, .invokestatic 60, 3) (List.mem_of_getElem? (i := 4) rfl)
theorem d_Word_init_279 : decode prog_11_method_1_code 279 = .ok (.istore 4, 2) := id_Word_init_6 (279, .istore 4, 2) (List.mem_of_getElem? (i := 5) rfl)
theorem d_Word_init_281 : decode prog_11_method_1_code 281 = .ok (.iload 4, 2) := id_Word_init_6 (281, .iload 4, 2) (List.mem_of_getElem? (i := 6) rfl)
theorem d_Word_init_283 : decode prog_11_method_1_code 283 = .ok (.aload_n 0, 1) := id_Word_init_6 (283, .aload_n 0, 1) (List.mem_of_getElem? (i := 7) rfl)
theorem d_Word_init_284 : decode prog_11_method_1_code 284 = .ok (.getfield 9, 3) := id_Word_init_6 (284, .getfield 9, 3) (List.mem_of_getElem? (i := 8) rfl)
theorem d_Word_init_287 : decode prog_11_method_1_code 287 = .ok (.invokestatic 64, 3) := id_Word_init_6 (287, .invokestatic 64, 3) (List.mem_of_getElem? (i := 9) rfl)
theorem d_Word_init_290 : decode prog_11_method_1_code 290 = .ok (.ifCond .eq (12), 3) := id_Word_init_6 (290, .ifCond .eq (12), 3) (List.mem_of_getElem? (i := 10) rfl)
theorem d_Word_init_293 : decode prog_11_method_1_code 293 = .ok (.iconst 1, 1) := id_Word_init_6 (293, .iconst 1, 1) (List.mem_of_getElem? (i := 11) rfl)
theorem d_Word_init_294 : decode prog_11_method_1_code 294 = .ok (.aload_n 0, 1) := id_Word_init_6 (294, .aload_n 0, 1) (List.mem_of_getElem? (i := 12) rfl)
theorem d_Word_init_295 : decode prog_11_method_1_code 295 = .ok (.getfield 18, 3) := id_Word_init_6 (295, .getfield 18, 3) (List.mem_of_getElem? (i := 13) rfl)
theorem d_Word_init_298 : decode prog_11_method_1_code 298 = .ok (.ishl, 1) := id_Word_init_6 (298, .ishl, 1) (List.mem_of_getElem? (i := 14) rfl)
theorem d_Word_init_299 : decode prog_11_method_1_code 299 = .ok (.goto (4), 3) := id_Word_init_6 (299, .goto (4), 3) (List.mem_of_getElem? (i := 15) rfl)
theorem d_Word_init_302 : decode prog_11_method_1_code 302 = .ok (.iconst 0, 1) := id_Word_init_6 (302, .iconst 0, 1) (List.mem_of_getElem? (i := 16) rfl)
theorem d_Word_init_303 : decode prog_11_method_1_code 303 = .ok (.ior, 1) := id_Word_init_6 (303, .ior, 1) (List.mem_of_getElem? (i := 17) rfl)
theorem d_Word_init_304 : decode prog_11_method_1_code 304 = .ok (.istore 4, 2) := id_Word_init_6 (304, .istore 4, 2) (List.mem_of_getElem? (i := 18) rfl)
theorem d_Word_init_306 : decode prog_11_method_1_code 306 = .ok (.iload 4, 2) := id_Word_init_6 (306, .iload 4, 2) (List.mem_of_getElem? (i := 19) rfl)
theorem d_Word_init_308 : decode prog_11_method_1_code 308 = .ok (.aload_n 0, 1) := id_Word_init_6 (308, .aload_n 0, 1) (List.mem_of_getElem? (i := 20) rfl)
theorem d_Word_init_309 : decode prog_11_method_1_code 309 = .ok (.getfield 9, 3) := id_Word_init_6 (309, .getfield 9, 3) (List.mem_of_getElem? (i := 21) rfl)
theorem d_Word_init_312 : decode prog_11_method_1_code 312 = .ok (.invokestatic 68, 3) := id_Word_init_6 (312, .invokestatic 68, 3) (List.mem_of_getElem? (i := 22) rfl)
theorem d_Word_init_315 : decode prog_11_method_1_code 315 = .ok (.ifCond .eq (12), 3) := id_Word_init_6 (315, .ifCond .eq (12), 3) (List.mem_of_getElem? (i := 23) rfl)
def it_Word_init_7 : List (Nat × ClassFile.Instr × Nat) := [(318, .iconst 1, 1), (319, .aload_n 0, 1), (320, .getfield 21, 3), (323, .ishl, 1), (324, .goto (4), 3), (327, .iconst 0, 1), (328, .ior, 1), (329, .istore 4, 2), (331, .iload 4, 2), (333, .aload_n 0, 1), (334, .getfield 57, 3), (337, .iconst (-1), 1), (338, .if_icmp .eq (12), 3), (341, .iconst 1, 1), (342, .aload_n 0, 1), (343, .getfield 57, 3), (346, .ishl, 1), (347, .goto (4), 3), (350, .iconst 0, 1), (351, .ior, 1), (352, .istore 4, 2), (354, .iload 4, 2), (356, .aload_n 0, 1), (357, .getfield 35, 3)]
theorem id_Word_init_7 : ∀ q ∈ it_Word_init_7, decode prog_11_method_1_code q.1 = .ok q.2 := by decide +kernel
theorem d_Word_init_318 : decode prog_11_method_1_code 318 = .ok (.iconst 1, 1) := id_Word_init_7 (318, .iconst 1, 1) (List.mem_of_getElem? (i := 0) rfl)
theorem d_Word_init_319 : decode prog_11_method_1_code 319 = .ok (.aload_n 0, 1) := id_Word_init_7 (319, .aload_n 0, 1) (List.mem_of_getElem? (i := 1) rfl)
theorem d_Word_init_320 : decode prog_11_method_1_code 320 = .ok (.getfield 21, 3) := id_Word_init_7 (320, .getfield 21, 3) (List.mem_of_getElem? (i := 2) rfl)
theorem d_Word_init_323 : decode prog_11_method_1_code 323 = .ok (.ishl, 1) := id_Word_init_7 (323, .ishl, 1) (List.mem_of_getElem? (i := 3) rfl)
theorem d_Word_init_324 : decode prog_11_method_1_code 324 = .ok (.goto (4), 3) := id_Word_init_7 (324, .goto (4), 3) (List.mem_of_getElem? (i := 4) rfl)
theorem d_Word_init_327 : decode prog_11_method_1_code 327 = .ok (.iconst 0, 1) := id_Word_init_7 (327, .iconst 0, 1) (List.mem_of_getElem? (i := 5) rfl)
theorem d_Word_init_328 : decode prog_11_method_1_code 328 = .ok (.ior, 1) := id_Word_init_7 (328, .ior, 1) (List.mem_of_getElem? (i := 6) rfl)
theorem d_Word_init_329 : decode prog_11_method_1_code 329 = .ok (.istore 4, 2) := id_Word_init_7 (329, .istore 4, 2) (List.mem_of_getElem? (i := 7) rfl)
theorem d_Word_init_331 : decode prog_11_method_1_code 331 = .ok (.iload 4, 2) := id_Word_init_7 (331, .iload 4, 2) (List.mem_of_getElem? (i := 8) rfl)
theorem d_Word_init_333 : decode prog_11_method_1_code 333 = .ok (.aload_n 0, 1) := id_Word_init_7 (333, .aload_n 0, 1) (List.mem_of_getElem? (i := 9) rfl)
theorem d_Word_init_334 : decode prog_11_method_1_code 334 = .ok (.getfield 57, 3) := id_Word_init_7 (334, .getfield 57, 3) (List.mem_of_getElem? (i := 10) rfl)
theorem d_Word_init_337 : decode prog_11_method_1_code 337 = .ok (.iconst (-1), 1) := id_Word_init_7 (337, .iconst (-1), 1) (List.mem_of_getElem? (i := 11) rfl)
theorem d_Word_init_338 : decode prog_11_method_1_code 338 = .ok (.if_icmp .eq (12), 3) := id_Word_init_7 (338, .if_icmp .eq (12), 3) (List.mem_of_getElem? (i := 12) rfl)
theorem d_Word_init_341 : decode prog_11_method_1_code 341 = .ok (.iconst 1, 1) := id_Word_init_7 (341, .iconst 1, 1) (List.mem_of_getElem? (i := 13) rfl)
theorem d_Word_init_342 : decode prog_11_method_1_code 342 = .ok (.aload_n 0, 1) := id_Word_init_7 (342, .aload_n 0, 1) (List.mem_of_getElem? (i := 14) rfl)
theorem d_Word_init_343 : decode prog_11_method_1_code 343 = .ok (.getfield 57, 3) := id_Word_init_7 (343, .getfield 57, 3) (List.mem_of_getElem? (i := 15) rfl)
theorem d_Word_init_346 : decode prog_11_method_1_code 346 = .ok (.ishl, 1) := id_Word_init_7 (346, .ishl, 1) (List.mem_of_getElem? (i := 16) rfl)
theorem d_Word_init_347 : decode prog_11_method_1_code 347 = .ok (.goto (4), 3) := id_Word_init_7 (347, .goto (4), 3) (List.mem_of_getElem? (i := 17) rfl)
theorem d_Word_init_350 : decode prog_11_method_1_code 350 = .ok (.iconst 0, 1) := id_Word_init_7 (350, .iconst 0, 1) (List.mem_of_getElem? (i := 18) rfl)
theorem d_Word_init_351 : decode prog_11_method_1_code 351 = .ok (.ior, 1) := id_Word_init_7 (351, .ior, 1) (List.mem_of_getElem? (i := 19) rfl)
theorem d_Word_init_352 : decode prog_11_method_1_code 352 = .ok (.istore 4, 2) := id_Word_init_7 (352, .istore 4, 2) (List.mem_of_getElem? (i := 20) rfl)
theorem d_Word_init_354 : decode prog_11_method_1_code 354 = .ok (.iload 4, 2) := id_Word_init_7 (354, .iload 4, 2) (List.mem_of_getElem? (i := 21) rfl)
theorem d_Word_init_356 : decode prog_11_method_1_code 356 = .ok (.aload_n 0, 1) := id_Word_init_7 (356, .aload_n 0, 1) (List.mem_of_getElem? (i := 22) rfl)
theorem d_Word_init_357 : decode prog_11_method_1_code 357 = .ok (.getfield 35, 3) := id_Word_init_7 (357, .getfield 35, 3) (List.mem_of_getElem? (i := 23) rfl)
def it_Word_init_8 : List (Nat × ClassFile.Instr × Nat) := [(360, .iconst (-1), 1), (361, .if_icmp .eq (13), 3), (364, .aload_n 0, 1), (365, .getfield 35, 3), (368, .invokestatic 71, 3), (371, .goto (4), 3), (374, .iconst 0, 1), (375, .ior, 1), (376, .istore 4, 2), (378, .aload_n 0, 1), (379, .aload_n 0, 1), (380, .getfield 31, 3), (383, .ifCond .eq (8), 3), (386, .iload 4, 2), (388, .goto (4), 3), (391, .iconst 0, 1), (392, .putfield 75, 3), (395, .aload_n 0, 1), (396, .aload_n 0, 1), (397, .getfield 9, 3), (400, .invokestatic 78, 3), (403, .putfield 81, 3), (406, .return_, 1)]
theorem id_Word_init_8 : ∀ q ∈ it_Word_init_8, decode prog_11_method_1_code q.1 = .ok q.2 := by decide +kernel
theorem d_Word_init_360 : decode prog_11_method_1_code 360 = .ok (.iconst (-1), 1) := id_Word_init_8 (360, .iconst (-1), 1) (List.mem_of_getElem? (i := 0) rfl)
theorem d_Word_init_361 : decode prog_11_method_1_code 361 = .ok (.if_icmp .eq (13), 3) := id_Word_init_8 (361, .if_icmp .eq (13), 3) (List.mem_of_getElem? (i := 1) rfl)
theorem d_Word_init_364 : decode prog_11_method_1_code 364 = .ok (.aload_n 0, 1) := id_Word_init_8 (364, .aload_n 0, 1) (List.mem_of_getElem? (i := 2) rfl)
theorem d_Word_init_365 : decode prog_11_method_1_code 365 = .ok (.getfield 35, 3) := id_Word_init_8 (365, .getfield 35, 3) (List.mem_of_getElem? (i := 3) rfl)
theorem d_Word_init_368 : decode prog_11_method_1_code 368 = .ok (.invokestatic 71, 3) := id_Word_init_8 (368, .invokestatic 71, 3) (List.mem_of_getElem? (i := 4) rfl)
theorem d_Word_init_371 : decode prog_11_method_1_code 371 = .ok (.goto (4), 3) := id_Word_init_8 (371, .goto (4), 3) (List.mem_of_getElem? (i := 5) rfl)
theorem d_Word_init_374 : decode prog_11_method_1_code 374 = .ok (.iconst 0, 1) := id_Word_init_8 (374, .iconst 0, 1) (List.mem_of_getElem? (i := 6) rfl)
theorem d_Word_init_375 : decode prog_11_method_1_code 375 = .ok (.ior, 1) := id_Word_init_8 (375, .ior, 1) (List.mem_of_getElem? (i := 7) rfl)
theorem d_Word_init_376 : decode prog_11_method_1_code 376 = .ok (.istore 4, 2) := id_Word_init_8 (376, .istore 4, 2) (List.mem_of_getElem? (i := 8) rfl)
theorem d_Word_init_378 : decode prog_11_method_1_code 378 = .ok (.aload_n 0, 1) := id_Word_init_8 (378, .aload_n 0, 1) (List.mem_of_getElem? (i := 9) rfl)
theorem d_Word_init_379 : decode prog_11_method_1_code 379 = .ok (.aload_n 0, 1) := id_Word_init_8 (379, .aload_n 0, 1) (List.mem_of_getElem? (i := 10) rfl)
theorem d_Word_init_380 : decode prog_11_method_1_code 380 = .ok (.getfield 31, 3) := id_Word_init_8 (380, .getfield 31, 3) (List.mem_of_getElem? (i := 11) rfl)
theorem d_Word_init_383 : decode prog_11_method_1_code 383 = .ok (.ifCond .eq (8), 3) := id_Word_init_8 (383, .ifCond .eq (8), 3) (List.mem_of_getElem? (i := 12) rfl)
theorem d_Word_init_386 : decode prog_11_method_1_code 386 = .ok (.iload 4, 2) := id_Word_init_8 (386, .iload 4, 2) (List.mem_of_getElem? (i := 13) rfl)
theorem d_Word_init_388 : decode prog_11_method_1_code 388 = .ok (.goto (4), 3) := id_Word_init_8 (388, .goto (4), 3) (List.mem_of_getElem? (i := 14) rfl)
theorem d_Word_init_391 : decode prog_11_method_1_code 391 = .ok (.iconst 0, 1) := id_Word_init_8 (391, .iconst 0, 1) (List.mem_of_getElem? (i := 15) rfl)
theorem d_Word_init_392 : decode prog_11_method_1_code 392 = .ok (.putfield 75, 3) := id_Word_init_8 (392, .putfield 75, 3) (List.mem_of_getElem? (i := 16) rfl)
theorem d_Word_init_395 : decode prog_11_method_1_code 395 = .ok (.aload_n 0, 1) := id_Word_init_8 (395, .aload_n 0, 1) (List.mem_of_getElem? (i := 17) rfl)
theorem d_Word_init_396 : decode prog_11_method_1_code 396 = .ok (.aload_n 0, 1) := id_Word_init_8 (396, .aload_n 0, 1) (List.mem_of_getElem? (i := 18) rfl)
theorem d_Word_init_397 : decode prog_11_method_1_code 397 = .ok (.getfield 9, 3) := id_Word_init_8 (397, .getfield 9, 3) (List.mem_of_getElem? (i := 19) rfl)
theorem d_Word_init_400 : decode prog_11_method_1_code 400 = .ok (.invokestatic 78, 3) := id_Word_init_8 (400, .invokestatic 78, 3) (List.mem_of_getElem? (i := 20) rfl)
theorem d_Word_init_403 : decode prog_11_method_1_code 403 = .ok (.putfield 81, 3) := id_Word_init_8 (403, .putfield 81, 3) (List.mem_of_getElem? (i := 21) rfl)
theorem d_Word_init_406 : decode prog_11_method_1_code 406 = .ok (.return_, 1) := id_Word_init_8 (406, .return_, 1) (List.mem_of_getElem? (i := 22) rfl)
theorem wC_Word_init : Cond.code ⟨"WarpMill$Word", "<init>", "(J)V"⟩ prog_11_method_1_code 5 (none) ∈ lw_tb := mem_tb 268 (by decide +kernel) rfl
theorem cw_Word_init_Word_isKnown : cW mi_Word_init mi_Word_isKnown 2 := ⟨wC_Word_isKnown, wi_Word, ⟨by decide, by decide, by decide +kernel⟩, by decide, by decide⟩
theorem cw_Word_init_Word_writtenBy : cW mi_Word_init mi_Word_writtenBy 2 := ⟨wC_Word_writtenBy, wi_Word, ⟨by decide, by decide, by decide +kernel⟩, by decide, by decide⟩
theorem cw_Word_init_Word_predicatesReadBy : cW mi_Word_init mi_Word_predicatesReadBy 4 := ⟨wC_Word_predicatesReadBy, wi_Word, ⟨by decide, by decide, by decide +kernel⟩, by decide, by decide⟩
theorem cw_Word_init_Word_readsA : cW mi_Word_init mi_Word_readsA 1 := ⟨wC_Word_readsA, wi_Word, ⟨by decide, by decide, by decide +kernel⟩, by decide, by decide⟩
theorem cw_Word_init_Word_readsB : cW mi_Word_init mi_Word_readsB 1 := ⟨wC_Word_readsB, wi_Word, ⟨by decide, by decide, by decide +kernel⟩, by decide, by decide⟩
theorem cw_Word_init_Word_tickOf : cW mi_Word_init mi_Word_tickOf 1 := ⟨wC_Word_tickOf, wi_Word, ⟨by decide, by decide, by decide +kernel⟩, by decide, by decide⟩
theorem cw_Word_init_Word_waitOf : cW mi_Word_init mi_Word_waitOf 1 := ⟨wC_Word_waitOf, wi_Word, ⟨by decide, by decide, by decide +kernel⟩, by decide, by decide⟩
set_option maxRecDepth 100000 in
set_option maxHeartbeats 4000000 in
theorem tl_Word_init {G : Gl} {h0 h : Hp} {Pq : Option Value → Hp → Prop} (x : Nat) (w : Int64) (hx : hK h x = 10) (r1 : hI h 576 x = wOp w) (r2 : hI h 577 x = wD w) (r3 : hI h 578 x = wA w) (r4 : hI h 579 x = wB w) (r5 : hI h 580 x = wN w) (r6 : hI h 581 x = bI (kKnown (wOp w) (wN w))) (r7 : hI h 582 x = kGu w) (kp : Pq none (sI (sI (sI h 588 x (kWr (wOp w) (wD w))) 589 x (kNeed w)) 590 x (kWait (wOp w)))) : Go G mi_Word_init h0 Pq h 245 [(0, .ref x), (1, .long w), (3, .int (wG w))] [] := by
  first | refine g_aload_n d_Word_init_245 rfl ?_ | refine g_aload_nq d_Word_init_245 rfl ?_
  first | refine g_aload_n d_Word_init_246 rfl ?_ | refine g_aload_nq d_Word_init_246 rfl ?_
  refine fgv_Word_op (wOp w) lf_Word_9 d_Word_init_247 (by first | (simp only [hK_sI, hK_sR, hK_sA, hK_sQ, hK_sL, hK_fillA]; assumption) | assumption) (by simp [hI_sI, r1, r2, r3, r4, r5, r6, r7]) ?_
  first | refine g_aload_n d_Word_init_250 rfl ?_ | refine g_aload_nq d_Word_init_250 rfl ?_
  refine fgv_Word_d (wD w) lf_Word_15 d_Word_init_251 (by first | (simp only [hK_sI, hK_sR, hK_sA, hK_sQ, hK_sL, hK_fillA]; assumption) | assumption) (by simp [hI_sI, r1, r2, r3, r4, r5, r6, r7]) ?_
  refine g_callS (mz := mi_Word_writtenBy) (sp_Word_writtenBy (wOp w) (wD w)) cw_Word_init_Word_writtenBy lm_Word_53 wS_Word_writtenBy d_Word_init_254 rfl rfl (Nat.le_of_ble_eq_true rfl) (fun r_254 h_254 hp_254 hro_254 => ?_)
  obtain ⟨rfl, rfl⟩ := hp_254
  clear hro_254
  dsimp only [Option.toList_some, Option.toList_none, List.cons_append, List.nil_append]
  refine fp_Word_written lf_Word_57 d_Word_init_257 rfl rfl (by first | (simp only [hK_sI, hK_sR, hK_sA, hK_sQ, hK_sL, hK_fillA]; assumption) | assumption) ?_
  first | refine g_aload_n d_Word_init_260 rfl ?_ | refine g_aload_nq d_Word_init_260 rfl ?_
  refine fgv_Word_op (wOp w) lf_Word_9 d_Word_init_261 (by first | (simp only [hK_sI, hK_sR, hK_sA, hK_sQ, hK_sL, hK_fillA]; assumption) | assumption) (by simp [hI_sI, r1, r2, r3, r4, r5, r6, r7]) ?_
  first | refine g_aload_n d_Word_init_264 rfl ?_ | refine g_aload_nq d_Word_init_264 rfl ?_
  refine fgv_Word_a (wA w) lf_Word_18 d_Word_init_265 (by first | (simp only [hK_sI, hK_sR, hK_sA, hK_sQ, hK_sL, hK_fillA]; assumption) | assumption) (by simp [hI_sI, r1, r2, r3, r4, r5, r6, r7]) ?_
  first | refine g_aload_n d_Word_init_268 rfl ?_ | refine g_aload_nq d_Word_init_268 rfl ?_
  refine fgv_Word_b (wB w) lf_Word_21 d_Word_init_269 (by first | (simp only [hK_sI, hK_sR, hK_sA, hK_sQ, hK_sL, hK_fillA]; assumption) | assumption) (by simp [hI_sI, r1, r2, r3, r4, r5, r6, r7]) ?_
  first | refine g_aload_n d_Word_init_272 rfl ?_ | refine g_aload_nq d_Word_init_272 rfl ?_
  refine fgv_Word_n (wN w) lf_Word_24 d_Word_init_273 (by first | (simp only [hK_sI, hK_sR, hK_sA, hK_sQ, hK_sL, hK_fillA]; assumption) | assumption) (by simp [hI_sI, r1, r2, r3, r4, r5, r6, r7]) ?_
  refine g_callS (mz := mi_Word_predicatesReadBy) (sp_Word_predicatesReadBy (wOp w) (wA w) (wB w) (wN w)) cw_Word_init_Word_predicatesReadBy lm_Word_60 wS_Word_predicatesReadBy d_Word_init_276 rfl rfl (Nat.le_of_ble_eq_true rfl) (fun r_276 h_276 hp_276 hro_276 => ?_)
  obtain ⟨rfl, rfl⟩ := hp_276
  clear hro_276
  dsimp only [Option.toList_some, Option.toList_none, List.cons_append, List.nil_append]
  refine g_istore d_Word_init_279 (by decide) ?_
  show Go _ _ _ _ _ _ [(0, _), (1, _), (3, _), (4, _)] _
  refine g_iload d_Word_init_281 rfl ?_
  refine Go.join 303 (if kRA (wOp w) then 1 <<< (wA w &&& 31) else 0) (fun kJ_303 => ?_) (fun x_303 e_303 => ?_)
  · first | refine g_aload_n d_Word_init_283 rfl ?_ | refine g_aload_nq d_Word_init_283 rfl ?_
    refine fgv_Word_op (wOp w) lf_Word_9 d_Word_init_284 (by first | (simp only [hK_sI, hK_sR, hK_sA, hK_sQ, hK_sL, hK_fillA]; assumption) | assumption) (by simp [hI_sI, r1, r2, r3, r4, r5, r6, r7]) ?_
    refine g_callS (mz := mi_Word_readsA) (sp_Word_readsA (wOp w)) cw_Word_init_Word_readsA lm_Word_64 wS_Word_readsA d_Word_init_287 rfl rfl (Nat.le_of_ble_eq_true rfl) (fun r_287 h_287 hp_287 hro_287 => ?_)
    obtain ⟨rfl, rfl⟩ := hp_287
    clear hro_287
    dsimp only [Option.toList_some, Option.toList_none, List.cons_append, List.nil_append]
    refine g_if_eq 302 d_Word_init_290 (by decide) (fun c_290 => ?_) (fun c_290 => ?_)
    · refine g_iconst 0 d_Word_init_302 (by decide) ?_
      exact kJ_303 _ (by clear kJ_303; first | exact (if_neg (bI_n0 c_290)).symm | exact (if_pos (bI_p0 c_290)).symm)
    · refine g_iconst 1 d_Word_init_293 (by decide) ?_
      first | refine g_aload_n d_Word_init_294 rfl ?_ | refine g_aload_nq d_Word_init_294 rfl ?_
      refine fgv_Word_a (wA w) lf_Word_18 d_Word_init_295 (by first | (simp only [hK_sI, hK_sR, hK_sA, hK_sQ, hK_sL, hK_fillA]; assumption) | assumption) (by simp [hI_sI, r1, r2, r3, r4, r5, r6, r7]) ?_
      refine g_ishl d_Word_init_298 ?_
      refine g_goto 303 d_Word_init_299 (by decide) ?_
      exact kJ_303 _ (by clear kJ_303; first | exact (if_neg (bI_n0 c_290)).symm | exact (if_pos (bI_p0 c_290)).symm)
  · subst e_303
    refine g_ior d_Word_init_303 ?_
    refine g_istore d_Word_init_304 (by decide) ?_
    show Go _ _ _ _ _ _ [(0, _), (1, _), (3, _), (4, _)] _
    refine g_iload d_Word_init_306 rfl ?_
    refine Go.join 328 (if kRB (wOp w) then 1 <<< (wB w &&& 31) else 0) (fun kJ_328 => ?_) (fun x_328 e_328 => ?_)
    · first | refine g_aload_n d_Word_init_308 rfl ?_ | refine g_aload_nq d_Word_init_308 rfl ?_
      refine fgv_Word_op (wOp w) lf_Word_9 d_Word_init_309 (by first | (simp only [hK_sI, hK_sR, hK_sA, hK_sQ, hK_sL, hK_fillA]; assumption) | assumption) (by simp [hI_sI, r1, r2, r3, r4, r5, r6, r7]) ?_
      refine g_callS (mz := mi_Word_readsB) (sp_Word_readsB (wOp w)) cw_Word_init_Word_readsB lm_Word_68 wS_Word_readsB d_Word_init_312 rfl rfl (Nat.le_of_ble_eq_true rfl) (fun r_312 h_312 hp_312 hro_312 => ?_)
      obtain ⟨rfl, rfl⟩ := hp_312
      clear hro_312
      dsimp only [Option.toList_some, Option.toList_none, List.cons_append, List.nil_append]
      refine g_if_eq 327 d_Word_init_315 (by decide) (fun c_315 => ?_) (fun c_315 => ?_)
      · refine g_iconst 0 d_Word_init_327 (by decide) ?_
        exact kJ_328 _ (by clear kJ_328; first | exact (if_neg (bI_n0 c_315)).symm | exact (if_pos (bI_p0 c_315)).symm)
      · refine g_iconst 1 d_Word_init_318 (by decide) ?_
        first | refine g_aload_n d_Word_init_319 rfl ?_ | refine g_aload_nq d_Word_init_319 rfl ?_
        refine fgv_Word_b (wB w) lf_Word_21 d_Word_init_320 (by first | (simp only [hK_sI, hK_sR, hK_sA, hK_sQ, hK_sL, hK_fillA]; assumption) | assumption) (by simp [hI_sI, r1, r2, r3, r4, r5, r6, r7]) ?_
        refine g_ishl d_Word_init_323 ?_
        refine g_goto 328 d_Word_init_324 (by decide) ?_
        exact kJ_328 _ (by clear kJ_328; first | exact (if_neg (bI_n0 c_315)).symm | exact (if_pos (bI_p0 c_315)).symm)
    · subst e_328
      refine g_ior d_Word_init_328 ?_
      refine g_istore d_Word_init_329 (by decide) ?_
      show Go _ _ _ _ _ _ [(0, _), (1, _), (3, _), (4, _)] _
      refine g_iload d_Word_init_331 rfl ?_
      refine Go.join 351 (if kWr (wOp w) (wD w) = -1 then 0 else 1 <<< (kWr (wOp w) (wD w) &&& 31)) (fun kJ_351 => ?_) (fun x_351 e_351 => ?_)
      · first | refine g_aload_n d_Word_init_333 rfl ?_ | refine g_aload_nq d_Word_init_333 rfl ?_
        refine fgv_Word_written (kWr (wOp w) (wD w)) lf_Word_57 d_Word_init_334 (by first | (simp only [hK_sI, hK_sR, hK_sA, hK_sQ, hK_sL, hK_fillA]; assumption) | assumption) (by simp [hI_sI, r1, r2, r3, r4, r5, r6, r7]) ?_
        refine g_iconst (-1) d_Word_init_337 (by decide) ?_
        refine g_icmp_eq 350 d_Word_init_338 (by decide) (fun c_338 => ?_) (fun c_338 => ?_)
        · refine g_iconst 0 d_Word_init_350 (by decide) ?_
          exact kJ_351 _ (by clear kJ_351; first | exact (if_pos c_338).symm | exact (if_neg c_338).symm)
        · refine g_iconst 1 d_Word_init_341 (by decide) ?_
          first | refine g_aload_n d_Word_init_342 rfl ?_ | refine g_aload_nq d_Word_init_342 rfl ?_
          refine fgv_Word_written (kWr (wOp w) (wD w)) lf_Word_57 d_Word_init_343 (by first | (simp only [hK_sI, hK_sR, hK_sA, hK_sQ, hK_sL, hK_fillA]; assumption) | assumption) (by simp [hI_sI, r1, r2, r3, r4, r5, r6, r7]) ?_
          refine g_ishl d_Word_init_346 ?_
          refine g_goto 351 d_Word_init_347 (by decide) ?_
          exact kJ_351 _ (by clear kJ_351; first | exact (if_pos c_338).symm | exact (if_neg c_338).symm)
      · subst e_351
        refine g_ior d_Word_init_351 ?_
        refine g_istore d_Word_init_352 (by decide) ?_
        show Go _ _ _ _ _ _ [(0, _), (1, _), (3, _), (4, _)] _
        refine g_iload d_Word_init_354 rfl ?_
        refine Go.join 375 (if kGu w = -1 then 0 else tk (kGu w)) (fun kJ_375 => ?_) (fun x_375 e_375 => ?_)
        · first | refine g_aload_n d_Word_init_356 rfl ?_ | refine g_aload_nq d_Word_init_356 rfl ?_
          refine fgv_Word_guard (kGu w) lf_Word_35 d_Word_init_357 (by first | (simp only [hK_sI, hK_sR, hK_sA, hK_sQ, hK_sL, hK_fillA]; assumption) | assumption) (by simp [hI_sI, r1, r2, r3, r4, r5, r6, r7]) ?_
          refine g_iconst (-1) d_Word_init_360 (by decide) ?_
          refine g_icmp_eq 374 d_Word_init_361 (by decide) (fun c_361 => ?_) (fun c_361 => ?_)
          · refine g_iconst 0 d_Word_init_374 (by decide) ?_
            exact kJ_375 _ (by clear kJ_375; first | exact (if_pos c_361).symm | exact (if_neg c_361).symm)
          · first | refine g_aload_n d_Word_init_364 rfl ?_ | refine g_aload_nq d_Word_init_364 rfl ?_
            refine fgv_Word_guard (kGu w) lf_Word_35 d_Word_init_365 (by first | (simp only [hK_sI, hK_sR, hK_sA, hK_sQ, hK_sL, hK_fillA]; assumption) | assumption) (by simp [hI_sI, r1, r2, r3, r4, r5, r6, r7]) ?_
            refine g_callS (mz := mi_Word_tickOf) (sp_Word_tickOf (kGu w)) cw_Word_init_Word_tickOf lm_Word_71 wS_Word_tickOf d_Word_init_368 rfl rfl (Nat.le_of_ble_eq_true rfl) (fun r_368 h_368 hp_368 hro_368 => ?_)
            obtain ⟨rfl, rfl⟩ := hp_368
            clear hro_368
            dsimp only [Option.toList_some, Option.toList_none, List.cons_append, List.nil_append]
            refine g_goto 375 d_Word_init_371 (by decide) ?_
            exact kJ_375 _ (by clear kJ_375; first | exact (if_pos c_361).symm | exact (if_neg c_361).symm)
        · subst e_375
          refine g_ior d_Word_init_375 ?_
          refine g_istore d_Word_init_376 (by decide) ?_
          show Go _ _ _ _ _ _ [(0, _), (1, _), (3, _), (4, _)] _
          first | refine g_aload_n d_Word_init_378 rfl ?_ | refine g_aload_nq d_Word_init_378 rfl ?_
          refine Go.join 392 (kNeed w) (fun kJ_392 => ?_) (fun x_392 e_392 => ?_)
          · first | refine g_aload_n d_Word_init_379 rfl ?_ | refine g_aload_nq d_Word_init_379 rfl ?_
            refine fgv_Word_known (bI (kKnown (wOp w) (wN w))) lf_Word_31 d_Word_init_380 (by first | (simp only [hK_sI, hK_sR, hK_sA, hK_sQ, hK_sL, hK_fillA]; assumption) | assumption) (by simp [hI_sI, r1, r2, r3, r4, r5, r6, r7]) ?_
            refine g_if_eq 391 d_Word_init_383 (by decide) (fun c_383 => ?_) (fun c_383 => ?_)
            · refine g_iconst 0 d_Word_init_391 (by decide) ?_
              exact kJ_392 _ (by clear kJ_392; first | exact (if_neg (bI_n0 c_383)).symm | exact (if_pos (bI_p0 c_383)).symm)
            · refine g_iload d_Word_init_386 rfl ?_
              refine g_goto 392 d_Word_init_388 (by decide) ?_
              exact kJ_392 _ (by clear kJ_392; first | exact (if_neg (bI_n0 c_383)).symm | exact (if_pos (bI_p0 c_383)).symm)
          · subst e_392
            refine fp_Word_needed lf_Word_75 d_Word_init_392 rfl rfl (by first | (simp only [hK_sI, hK_sR, hK_sA, hK_sQ, hK_sL, hK_fillA]; assumption) | assumption) ?_
            first | refine g_aload_n d_Word_init_395 rfl ?_ | refine g_aload_nq d_Word_init_395 rfl ?_
            first | refine g_aload_n d_Word_init_396 rfl ?_ | refine g_aload_nq d_Word_init_396 rfl ?_
            refine fgv_Word_op (wOp w) lf_Word_9 d_Word_init_397 (by first | (simp only [hK_sI, hK_sR, hK_sA, hK_sQ, hK_sL, hK_fillA]; assumption) | assumption) (by simp [hI_sI, r1, r2, r3, r4, r5, r6, r7]) ?_
            refine g_callS (mz := mi_Word_waitOf) (sp_Word_waitOf (wOp w)) cw_Word_init_Word_waitOf lm_Word_78 wS_Word_waitOf d_Word_init_400 rfl rfl (Nat.le_of_ble_eq_true rfl) (fun r_400 h_400 hp_400 hro_400 => ?_)
            obtain ⟨rfl, rfl⟩ := hp_400
            clear hro_400
            dsimp only [Option.toList_some, Option.toList_none, List.cons_append, List.nil_append]
            refine fp_Word_wait lf_Word_81 d_Word_init_403 rfl rfl (by first | (simp only [hK_sI, hK_sR, hK_sA, hK_sQ, hK_sL, hK_fillA]; assumption) | assumption) ?_
            refine Go.ret none trivial rfl d_Word_init_406 ?_
            exact kp
set_option maxRecDepth 100000 in
set_option maxHeartbeats 4000000 in
theorem sp_Word_init {G : Gl} {h : Hp} (x : Nat) (w : Int64) (hx : hK h x = 10) : Ex G mi_Word_init [.ref x, .long w] h (fun r h' => r = none ∧ h' = wSet h x w) := by
  refine Ex.of (by decide) (Nat.le_of_ble_eq_true rfl) ?_
  show Go G mi_Word_init h _ h 0 [(0, .ref x), (1, .long w)] []
  first | refine g_aload_n d_Word_init_0 rfl ?_ | refine g_aload_nq d_Word_init_0 rfl ?_
  refine g_objInit lm_Word_3 wI_Object_init wC_obj (Nat.le_of_ble_eq_true rfl) (Nat.le_of_ble_eq_true rfl) d_Word_init_1 ?_
  first | refine g_aload_n d_Word_init_4 rfl ?_ | refine g_aload_nq d_Word_init_4 rfl ?_
  refine g_lload_n d_Word_init_5 rfl ?_
  refine g_l2i d_Word_init_6 ?_
  refine g_sipush (255) d_Word_init_7 (by decide) ?_
  refine g_iand d_Word_init_10 ?_
  refine fp_Word_op (x := wOp w) lf_Word_9 d_Word_init_11 rfl rfl (by first | (simp only [hK_sI, hK_sR, hK_sA, hK_sQ, hK_sL, hK_fillA]; assumption) | assumption) ?_
  first | refine g_aload_n d_Word_init_14 rfl ?_ | refine g_aload_nq d_Word_init_14 rfl ?_
  refine g_lload_n d_Word_init_15 rfl ?_
  refine g_bipush (8) d_Word_init_16 (by decide) ?_
  refine g_lshr d_Word_init_18 ?_
  refine g_l2i d_Word_init_19 ?_
  refine g_bipush (15) d_Word_init_20 (by decide) ?_
  refine g_iand d_Word_init_22 ?_
  refine fp_Word_d (x := wD w) lf_Word_15 d_Word_init_23 rfl rfl (by first | (simp only [hK_sI, hK_sR, hK_sA, hK_sQ, hK_sL, hK_fillA]; assumption) | assumption) ?_
  first | refine g_aload_n d_Word_init_26 rfl ?_ | refine g_aload_nq d_Word_init_26 rfl ?_
  refine g_lload_n d_Word_init_27 rfl ?_
  refine g_bipush (12) d_Word_init_28 (by decide) ?_
  refine g_lshr d_Word_init_30 ?_
  refine g_l2i d_Word_init_31 ?_
  refine g_bipush (15) d_Word_init_32 (by decide) ?_
  refine g_iand d_Word_init_34 ?_
  refine fp_Word_a (x := wA w) lf_Word_18 d_Word_init_35 rfl rfl (by first | (simp only [hK_sI, hK_sR, hK_sA, hK_sQ, hK_sL, hK_fillA]; assumption) | assumption) ?_
  first | refine g_aload_n d_Word_init_38 rfl ?_ | refine g_aload_nq d_Word_init_38 rfl ?_
  refine g_lload_n d_Word_init_39 rfl ?_
  refine g_bipush (16) d_Word_init_40 (by decide) ?_
  refine g_lshr d_Word_init_42 ?_
  refine g_l2i d_Word_init_43 ?_
  refine g_bipush (15) d_Word_init_44 (by decide) ?_
  refine g_iand d_Word_init_46 ?_
  refine fp_Word_b (x := wB w) lf_Word_21 d_Word_init_47 rfl rfl (by first | (simp only [hK_sI, hK_sR, hK_sA, hK_sQ, hK_sL, hK_fillA]; assumption) | assumption) ?_
  first | refine g_aload_n d_Word_init_50 rfl ?_ | refine g_aload_nq d_Word_init_50 rfl ?_
  refine g_lload_n d_Word_init_51 rfl ?_
  refine g_bipush (32) d_Word_init_52 (by decide) ?_
  refine g_lshr d_Word_init_54 ?_
  refine g_l2i d_Word_init_55 ?_
  refine fp_Word_n (x := wN w) lf_Word_24 d_Word_init_56 rfl rfl (by first | (simp only [hK_sI, hK_sR, hK_sA, hK_sQ, hK_sL, hK_fillA]; assumption) | assumption) ?_
  refine g_lload_n d_Word_init_59 rfl ?_
  refine g_bipush (20) d_Word_init_60 (by decide) ?_
  refine g_lshr d_Word_init_62 ?_
  refine g_l2i d_Word_init_63 ?_
  refine g_bipush (15) d_Word_init_64 (by decide) ?_
  refine g_iand d_Word_init_66 ?_
  refine g_istore_n (x := wG w) d_Word_init_67 (by decide) ?_
  show Go _ _ _ _ _ _ [(0, _), (1, _), (3, _)] _
  first | refine g_aload_n d_Word_init_68 rfl ?_ | refine g_aload_nq d_Word_init_68 rfl ?_
  first | refine g_aload_n d_Word_init_69 rfl ?_ | refine g_aload_nq d_Word_init_69 rfl ?_
  refine fgv_Word_op (wOp w) lf_Word_9 d_Word_init_70 (by first | (simp only [hK_sI, hK_sR, hK_sA, hK_sQ, hK_sL, hK_fillA]; assumption) | assumption) (by simp [hI_sI]) ?_
  first | refine g_aload_n d_Word_init_73 rfl ?_ | refine g_aload_nq d_Word_init_73 rfl ?_
  refine fgv_Word_n (wN w) lf_Word_24 d_Word_init_74 (by first | (simp only [hK_sI, hK_sR, hK_sA, hK_sQ, hK_sL, hK_fillA]; assumption) | assumption) (by simp [hI_sI]) ?_
  refine g_callS (mz := mi_Word_isKnown) (sp_Word_isKnown (wOp w) (wN w)) cw_Word_init_Word_isKnown lm_Word_27 wS_Word_isKnown d_Word_init_77 rfl rfl (Nat.le_of_ble_eq_true rfl) (fun r_77 h_77 hp_77 hro_77 => ?_)
  obtain ⟨rfl, rfl⟩ := hp_77
  clear hro_77
  dsimp only [Option.toList_some, Option.toList_none, List.cons_append, List.nil_append]
  refine fp_Word_known (by first | exact bI_01 _ | assumption | exact Or.inl rfl | exact Or.inr rfl) lf_Word_31 d_Word_init_80 rfl rfl (by first | (simp only [hK_sI, hK_sR, hK_sA, hK_sQ, hK_sL, hK_fillA]; assumption) | assumption) ?_
  first | refine g_aload_n d_Word_init_83 rfl ?_ | refine g_aload_nq d_Word_init_83 rfl ?_
  refine Go.join 97 (kGu w) (fun kJ_97 => ?_) (fun x_97 e_97 => ?_)
  · refine g_iload_n d_Word_init_84 rfl ?_
    refine g_bipush (8) d_Word_init_85 (by decide) ?_
    refine g_icmp_lt 96 d_Word_init_87 (by decide) (fun c_87 => ?_) (fun c_87 => ?_)
    · refine g_iconst (-1) d_Word_init_96 (by decide) ?_
      exact kJ_97 _ (by clear kJ_97; simp_all [kGu, wG, bI, kMem, kSh, kWM, kRA, kRB, -Int32.not_lt, -Int32.not_le, ← Int32.not_lt])
    · refine g_iload_n d_Word_init_90 rfl ?_
      refine g_iconst 3 d_Word_init_91 (by decide) ?_
      refine g_iand d_Word_init_92 ?_
      refine g_goto 97 d_Word_init_93 (by decide) ?_
      exact kJ_97 _ (by clear kJ_97; simp_all [kGu, wG, bI, kMem, kSh, kWM, kRA, kRB, -Int32.not_lt, -Int32.not_le, ← Int32.not_lt])
  · subst e_97
    refine fp_Word_guard lf_Word_35 d_Word_init_97 rfl rfl (by first | (simp only [hK_sI, hK_sR, hK_sA, hK_sQ, hK_sL, hK_fillA]; assumption) | assumption) ?_
    first | refine g_aload_n d_Word_init_100 rfl ?_ | refine g_aload_nq d_Word_init_100 rfl ?_
    refine Go.join 112 (bI (¬ (wG w &&& 4) = 0)) (fun kJ_112 => ?_) (fun x_112 e_112 => ?_)
    · refine g_iload_n d_Word_init_101 rfl ?_
      refine g_iconst 4 d_Word_init_102 (by decide) ?_
      refine g_iand d_Word_init_103 ?_
      refine g_if_eq 111 d_Word_init_104 (by decide) (fun c_104 => ?_) (fun c_104 => ?_)
      · refine g_iconst 0 d_Word_init_111 (by decide) ?_
        exact kJ_112 _ (by clear kJ_112; simp_all [kGu, wG, bI, kMem, kSh, kWM, kRA, kRB, -Int32.not_lt, -Int32.not_le, ← Int32.not_lt])
      · refine g_iconst 1 d_Word_init_107 (by decide) ?_
        refine g_goto 112 d_Word_init_108 (by decide) ?_
        exact kJ_112 _ (by clear kJ_112; simp_all [kGu, wG, bI, kMem, kSh, kWM, kRA, kRB, -Int32.not_lt, -Int32.not_le, ← Int32.not_lt])
    · subst e_112
      refine fp_Word_guardIsFalse (by first | exact bI_01 _ | assumption | exact Or.inl rfl | exact Or.inr rfl) lf_Word_38 d_Word_init_112 rfl rfl (by first | (simp only [hK_sI, hK_sR, hK_sA, hK_sQ, hK_sL, hK_fillA]; assumption) | assumption) ?_
      first | refine g_aload_n d_Word_init_115 rfl ?_ | refine g_aload_nq d_Word_init_115 rfl ?_
      refine Go.join 139 (bI (wOp w = 7 ∨ wOp w = 8)) (fun kJ_139 => ?_) (fun x_139 e_139 => ?_)
      · first | refine g_aload_n d_Word_init_116 rfl ?_ | refine g_aload_nq d_Word_init_116 rfl ?_
        refine fgv_Word_op (wOp w) lf_Word_9 d_Word_init_117 (by first | (simp only [hK_sI, hK_sR, hK_sA, hK_sQ, hK_sL, hK_fillA]; assumption) | assumption) (by simp [hI_sI]) ?_
        refine g_bipush (7) d_Word_init_120 (by decide) ?_
        refine g_icmp_eq 134 d_Word_init_122 (by decide) (fun c_122 => ?_) (fun c_122 => ?_)
        · refine g_iconst 1 d_Word_init_134 (by decide) ?_
          refine g_goto 139 d_Word_init_135 (by decide) ?_
          exact kJ_139 _ (by clear kJ_139; simp_all [kGu, wG, bI, kMem, kSh, kWM, kRA, kRB, -Int32.not_lt, -Int32.not_le, ← Int32.not_lt])
        · first | refine g_aload_n d_Word_init_125 rfl ?_ | refine g_aload_nq d_Word_init_125 rfl ?_
          refine fgv_Word_op (wOp w) lf_Word_9 d_Word_init_126 (by first | (simp only [hK_sI, hK_sR, hK_sA, hK_sQ, hK_sL, hK_fillA]; assumption) | assumption) (by simp [hI_sI]) ?_
          refine g_bipush (8) d_Word_init_129 (by decide) ?_
          refine g_icmp_ne 138 d_Word_init_131 (by decide) (fun c_131 => ?_) (fun c_131 => ?_)
          · refine g_iconst 0 d_Word_init_138 (by decide) ?_
            exact kJ_139 _ (by clear kJ_139; simp_all [kGu, wG, bI, kMem, kSh, kWM, kRA, kRB, -Int32.not_lt, -Int32.not_le, ← Int32.not_lt])
          · refine g_iconst 1 d_Word_init_134 (by decide) ?_
            refine g_goto 139 d_Word_init_135 (by decide) ?_
            exact kJ_139 _ (by clear kJ_139; simp_all [kGu, wG, bI, kMem, kSh, kWM, kRA, kRB, -Int32.not_lt, -Int32.not_le, ← Int32.not_lt])
      · subst e_139
        refine fp_Word_divides (by first | exact bI_01 _ | assumption | exact Or.inl rfl | exact Or.inr rfl) lf_Word_41 d_Word_init_139 rfl rfl (by first | (simp only [hK_sI, hK_sR, hK_sA, hK_sQ, hK_sL, hK_fillA]; assumption) | assumption) ?_
        first | refine g_aload_n d_Word_init_142 rfl ?_ | refine g_aload_nq d_Word_init_142 rfl ?_
        refine Go.join 166 (bI (kMem (wOp w))) (fun kJ_166 => ?_) (fun x_166 e_166 => ?_)
        · first | refine g_aload_n d_Word_init_143 rfl ?_ | refine g_aload_nq d_Word_init_143 rfl ?_
          refine fgv_Word_op (wOp w) lf_Word_9 d_Word_init_144 (by first | (simp only [hK_sI, hK_sR, hK_sA, hK_sQ, hK_sL, hK_fillA]; assumption) | assumption) (by simp [hI_sI]) ?_
          refine g_bipush (50) d_Word_init_147 (by decide) ?_
          refine g_icmp_lt 165 d_Word_init_149 (by decide) (fun c_149 => ?_) (fun c_149 => ?_)
          · refine g_iconst 0 d_Word_init_165 (by decide) ?_
            exact kJ_166 _ (by clear kJ_166; simp_all [kGu, wG, bI, kMem, kSh, kWM, kRA, kRB, -Int32.not_lt, -Int32.not_le, ← Int32.not_lt])
          · first | refine g_aload_n d_Word_init_152 rfl ?_ | refine g_aload_nq d_Word_init_152 rfl ?_
            refine fgv_Word_op (wOp w) lf_Word_9 d_Word_init_153 (by first | (simp only [hK_sI, hK_sR, hK_sA, hK_sQ, hK_sL, hK_fillA]; assumption) | assumption) (by simp [hI_sI]) ?_
            refine g_bipush (59) d_Word_init_156 (by decide) ?_
            refine g_icmp_gt 165 d_Word_init_158 (by decide) (fun c_158 => ?_) (fun c_158 => ?_)
            · refine g_iconst 0 d_Word_init_165 (by decide) ?_
              exact kJ_166 _ (by clear kJ_166; simp_all [kGu, wG, bI, kMem, kSh, kWM, kRA, kRB, -Int32.not_lt, -Int32.not_le, ← Int32.not_lt])
            · refine g_iconst 1 d_Word_init_161 (by decide) ?_
              refine g_goto 166 d_Word_init_162 (by decide) ?_
              exact kJ_166 _ (by clear kJ_166; simp_all [kGu, wG, bI, kMem, kSh, kWM, kRA, kRB, -Int32.not_lt, -Int32.not_le, ← Int32.not_lt])
        · subst e_166
          refine fp_Word_usesMemory (by first | exact bI_01 _ | assumption | exact Or.inl rfl | exact Or.inr rfl) lf_Word_44 d_Word_init_166 rfl rfl (by first | (simp only [hK_sI, hK_sR, hK_sA, hK_sQ, hK_sL, hK_fillA]; assumption) | assumption) ?_
          first | refine g_aload_n d_Word_init_169 rfl ?_ | refine g_aload_nq d_Word_init_169 rfl ?_
          refine Go.join 211 (bI (kSh (wOp w))) (fun kJ_211 => ?_) (fun x_211 e_211 => ?_)
          · first | refine g_aload_n d_Word_init_170 rfl ?_ | refine g_aload_nq d_Word_init_170 rfl ?_
            refine fgv_Word_op (wOp w) lf_Word_9 d_Word_init_171 (by first | (simp only [hK_sI, hK_sR, hK_sA, hK_sQ, hK_sL, hK_fillA]; assumption) | assumption) (by simp [hI_sI]) ?_
            refine g_bipush (52) d_Word_init_174 (by decide) ?_
            refine g_icmp_eq 206 d_Word_init_176 (by decide) (fun c_176 => ?_) (fun c_176 => ?_)
            · refine g_iconst 1 d_Word_init_206 (by decide) ?_
              refine g_goto 211 d_Word_init_207 (by decide) ?_
              exact kJ_211 _ (by clear kJ_211; simp_all [kGu, wG, bI, kMem, kSh, kWM, kRA, kRB, -Int32.not_lt, -Int32.not_le, ← Int32.not_lt])
            · first | refine g_aload_n d_Word_init_179 rfl ?_ | refine g_aload_nq d_Word_init_179 rfl ?_
              refine fgv_Word_op (wOp w) lf_Word_9 d_Word_init_180 (by first | (simp only [hK_sI, hK_sR, hK_sA, hK_sQ, hK_sL, hK_fillA]; assumption) | assumption) (by simp [hI_sI]) ?_
              refine g_bipush (53) d_Word_init_183 (by decide) ?_
              refine g_icmp_eq 206 d_Word_init_185 (by decide) (fun c_185 => ?_) (fun c_185 => ?_)
              · refine g_iconst 1 d_Word_init_206 (by decide) ?_
                refine g_goto 211 d_Word_init_207 (by decide) ?_
                exact kJ_211 _ (by clear kJ_211; simp_all [kGu, wG, bI, kMem, kSh, kWM, kRA, kRB, -Int32.not_lt, -Int32.not_le, ← Int32.not_lt])
              · first | refine g_aload_n d_Word_init_188 rfl ?_ | refine g_aload_nq d_Word_init_188 rfl ?_
                refine fgv_Word_op (wOp w) lf_Word_9 d_Word_init_189 (by first | (simp only [hK_sI, hK_sR, hK_sA, hK_sQ, hK_sL, hK_fillA]; assumption) | assumption) (by simp [hI_sI]) ?_
                refine g_bipush (58) d_Word_init_192 (by decide) ?_
                refine g_icmp_eq 206 d_Word_init_194 (by decide) (fun c_194 => ?_) (fun c_194 => ?_)
                · refine g_iconst 1 d_Word_init_206 (by decide) ?_
                  refine g_goto 211 d_Word_init_207 (by decide) ?_
                  exact kJ_211 _ (by clear kJ_211; simp_all [kGu, wG, bI, kMem, kSh, kWM, kRA, kRB, -Int32.not_lt, -Int32.not_le, ← Int32.not_lt])
                · first | refine g_aload_n d_Word_init_197 rfl ?_ | refine g_aload_nq d_Word_init_197 rfl ?_
                  refine fgv_Word_op (wOp w) lf_Word_9 d_Word_init_198 (by first | (simp only [hK_sI, hK_sR, hK_sA, hK_sQ, hK_sL, hK_fillA]; assumption) | assumption) (by simp [hI_sI]) ?_
                  refine g_bipush (59) d_Word_init_201 (by decide) ?_
                  refine g_icmp_ne 210 d_Word_init_203 (by decide) (fun c_203 => ?_) (fun c_203 => ?_)
                  · refine g_iconst 0 d_Word_init_210 (by decide) ?_
                    exact kJ_211 _ (by clear kJ_211; simp_all [kGu, wG, bI, kMem, kSh, kWM, kRA, kRB, -Int32.not_lt, -Int32.not_le, ← Int32.not_lt])
                  · refine g_iconst 1 d_Word_init_206 (by decide) ?_
                    refine g_goto 211 d_Word_init_207 (by decide) ?_
                    exact kJ_211 _ (by clear kJ_211; simp_all [kGu, wG, bI, kMem, kSh, kWM, kRA, kRB, -Int32.not_lt, -Int32.not_le, ← Int32.not_lt])
          · subst e_211
            refine fp_Word_usesShared (by first | exact bI_01 _ | assumption | exact Or.inl rfl | exact Or.inr rfl) lf_Word_47 d_Word_init_211 rfl rfl (by first | (simp only [hK_sI, hK_sR, hK_sA, hK_sQ, hK_sL, hK_fillA]; assumption) | assumption) ?_
            first | refine g_aload_n d_Word_init_214 rfl ?_ | refine g_aload_nq d_Word_init_214 rfl ?_
            refine Go.join 242 (bI (kWM (wOp w))) (fun kJ_242 => ?_) (fun x_242 e_242 => ?_)
            · first | refine g_aload_n d_Word_init_215 rfl ?_ | refine g_aload_nq d_Word_init_215 rfl ?_
              refine fgv_Word_op (wOp w) lf_Word_9 d_Word_init_216 (by first | (simp only [hK_sI, hK_sR, hK_sA, hK_sQ, hK_sL, hK_fillA]; assumption) | assumption) (by simp [hI_sI]) ?_
              refine g_if_eq 237 d_Word_init_219 (by decide) (fun c_219 => ?_) (fun c_219 => ?_)
              · refine g_iconst 1 d_Word_init_237 (by decide) ?_
                refine g_goto 242 d_Word_init_238 (by decide) ?_
                exact kJ_242 _ (by clear kJ_242; simp_all [kGu, wG, bI, kMem, kSh, kWM, kRA, kRB, -Int32.not_lt, -Int32.not_le, ← Int32.not_lt])
              · first | refine g_aload_n d_Word_init_222 rfl ?_ | refine g_aload_nq d_Word_init_222 rfl ?_
                refine fgv_Word_op (wOp w) lf_Word_9 d_Word_init_223 (by first | (simp only [hK_sI, hK_sR, hK_sA, hK_sQ, hK_sL, hK_fillA]; assumption) | assumption) (by simp [hI_sI]) ?_
                refine g_iconst 1 d_Word_init_226 (by decide) ?_
                refine g_icmp_eq 237 d_Word_init_227 (by decide) (fun c_227 => ?_) (fun c_227 => ?_)
                · refine g_iconst 1 d_Word_init_237 (by decide) ?_
                  refine g_goto 242 d_Word_init_238 (by decide) ?_
                  exact kJ_242 _ (by clear kJ_242; simp_all [kGu, wG, bI, kMem, kSh, kWM, kRA, kRB, -Int32.not_lt, -Int32.not_le, ← Int32.not_lt])
                · first | refine g_aload_n d_Word_init_230 rfl ?_ | refine g_aload_nq d_Word_init_230 rfl ?_
                  refine fgv_Word_usesMemory (bI (kMem (wOp w))) lf_Word_44 d_Word_init_231 (by first | (simp only [hK_sI, hK_sR, hK_sA, hK_sQ, hK_sL, hK_fillA]; assumption) | assumption) (by simp [hI_sI]) ?_
                  refine g_if_eq 241 d_Word_init_234 (by decide) (fun c_234 => ?_) (fun c_234 => ?_)
                  · refine g_iconst 0 d_Word_init_241 (by decide) ?_
                    exact kJ_242 _ (by clear kJ_242; simp_all [kGu, wG, bI, kMem, kSh, kWM, kRA, kRB, -Int32.not_lt, -Int32.not_le, ← Int32.not_lt])
                  · refine g_iconst 1 d_Word_init_237 (by decide) ?_
                    refine g_goto 242 d_Word_init_238 (by decide) ?_
                    exact kJ_242 _ (by clear kJ_242; simp_all [kGu, wG, bI, kMem, kSh, kWM, kRA, kRB, -Int32.not_lt, -Int32.not_le, ← Int32.not_lt])
            · subst e_242
              refine fp_Word_waitsForMemory (by first | exact bI_01 _ | assumption | exact Or.inl rfl | exact Or.inr rfl) lf_Word_50 d_Word_init_242 rfl rfl (by first | (simp only [hK_sI, hK_sR, hK_sA, hK_sQ, hK_sL, hK_fillA]; assumption) | assumption) ?_
              exact tl_Word_init x w (by simp only [hK_sI]; exact hx) (by simp [hI_sI]) (by simp [hI_sI]) (by simp [hI_sI]) (by simp [hI_sI]) (by simp [hI_sI]) (by simp [hI_sI]) (by simp [hI_sI]) ⟨rfl, rfl⟩
