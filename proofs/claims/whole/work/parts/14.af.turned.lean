abbrev mi_Unit_seat : MI := (⟨"WarpMill$Unit", "seat", "(LWarpMill$Block;II[LWarpMill$Word;)V"⟩, prog_9_method_4_code, 7, none, 3, 66)
def it_Unit_seat_0 : List (Nat × ClassFile.Instr × Nat) := [(0, .iconst 0, 1), (1, .istore 5, 2), (3, .iconst 0, 1), (4, .istore 6, 2), (6, .iload 6, 2), (8, .aload_n 0, 1), (9, .getfield 21, 3), (12, .if_icmp .ge (88), 3), (15, .iload 6, 2), (17, .aload_n 0, 1), (18, .getfield 11, 3), (21, .arraylength, 1), (22, .if_icmp .ge (78), 3), (25, .iload 5, 2), (27, .iload_n 2, 1), (28, .if_icmp .ge (72), 3), (31, .aload_n 0, 1), (32, .iload 6, 2), (34, .invokevirtual 44, 3), (37, .ifnonnull (57), 3), (40, .aload_n 0, 1), (41, .getfield 11, 3), (44, .iload 6, 2), (46, .aaload, 1)]
theorem id_Unit_seat_0 : ∀ q ∈ it_Unit_seat_0, decode prog_9_method_4_code q.1 = .ok q.2 := by decide +kernel
theorem d_Unit_seat_0 : decode prog_9_method_4_code 0 = .ok (.iconst 0, 1) := id_Unit_seat_0 (0, .iconst 0, 1) (List.mem_of_getElem? (i := 0) rfl)
theorem d_Unit_seat_1 : decode prog_9_method_4_code 1 = .ok (.istore 5, 2) := id_Unit_seat_0 (1, .istore 5, 2) (List.mem_of_getElem? (i := 1) rfl)
theorem d_Unit_seat_3 : decode prog_9_method_4_code 3 = .ok (.iconst 0, 1) := id_Unit_seat_0 (3, .iconst 0, 1) (List.mem_of_getElem? (i := 2) rfl)
theorem d_Unit_seat_4 : decode prog_9_method_4_code 4 = .ok (.istore 6, 2) := id_Unit_seat_0 (4, .istore 6, 2) (List.mem_of_getElem? (i := 3) rfl)
theorem d_Unit_seat_6 : decode prog_9_method_4_code 6 = .ok (.iload 6, 2) := id_Unit_seat_0 (6, .iload 6, 2) (List.mem_of_getElem? (i := 4) rfl)
theorem d_Unit_seat_8 : decode prog_9_method_4_code 8 = .ok (.aload_n 0, 1) := id_Unit_seat_0 (8, .aload_n 0, 1) (List.mem_of_getElem? (i := 5) rfl)
theorem d_Unit_seat_9 : decode prog_9_method_4_code 9 = .ok (.getfield 21, 3) := id_Unit_seat_0 (9, .getfield 21, 3) (List.mem_of_getElem? (i := 6) rfl)
theorem d_Unit_seat_12 : decode prog_9_method_4_code 12 = .ok (.if_icmp .ge (88), 3) := id_Unit_seat_0 (12, .if_icmp .ge (88), 3) (List.mem_of_getElem? (i := 7) rfl)
theorem d_Unit_seat_15 : decode prog_9_method_4_code 15 = .ok (.iload 6, 2) := id_Unit_seat_0 (15, .iload 6, 2) (List.mem_of_getElem? (i := 8) rfl)
theorem d_Unit_seat_17 : decode prog_9_method_4_code 17 = .ok (.aload_n 0, 1) := id_Unit_seat_0 (17, .aload_n 0, 1) (List.mem_of_getElem? (i := 9) rfl)
theorem d_Unit_seat_18 : decode prog_9_method_4_code 18 = .ok (.getfield 11, 3) := id_Unit_seat_0 (18, .getfield 11, 3) (List.mem_of_getElem? (i := 10) rfl)
theorem d_Unit_seat_21 : decode prog_9_method_4_code 21 = .ok (.arraylength, 1) := id_Unit_seat_0 (21, .arraylength, 1) (List.mem_of_getElem? (i := 11) rfl)
theorem d_Unit_seat_22 : decode prog_9_method_4_code 22 = .ok (.if_icmp .ge (78), 3) := id_Unit_seat_0 (22, .if_icmp .ge (78), 3) (List.mem_of_getElem? (i := 12) rfl)
theorem d_Unit_seat_25 : decode prog_9_method_4_code 25 = .ok (.iload 5, 2) := id_Unit_seat_0 (25, .iload 5, 2) (List.mem_of_getElem? (i := 13) rfl)
theorem d_Unit_seat_27 : decode prog_9_method_4_code 27 = .ok (.iload_n 2, 1) := id_Unit_seat_0 (27, .iload_n 2, 1) (List.mem_of_getElem? (i := 14) rfl)
theorem d_Unit_seat_28 : decode prog_9_method_4_code 28 = .ok (.if_icmp .ge (72), 3) := id_Unit_seat_0 (28, .if_icmp .ge (72), 3) (List.mem_of_getElem? (i := 15) rfl)
theorem d_Unit_seat_31 : decode prog_9_method_4_code 31 = .ok (.aload_n 0, 1) := id_Unit_seat_0 (31, .aload_n 0, 1) (List.mem_of_getElem? (i := 16) rfl)
theorem d_Unit_seat_32 : decode prog_9_method_4_code 32 = .ok (.iload 6, 2) := id_Unit_seat_0 (32, .iload 6, 2) (List.mem_of_getElem? (i := 17) rfl)
theorem d_Unit_seat_34 : decode prog_9_method_4_code 34 = .ok (.invokevirtual 44, 3) := id_Unit_seat_0 (34, .invokevirtual 44, 3) (List.mem_of_getElem? (i := 18) rfl)
theorem d_Unit_seat_37 : decode prog_9_method_4_code 37 = .ok (.ifnonnull (57), 3) := id_Unit_seat_0 (37, .ifnonnull (57), 3) (List.mem_of_getElem? (i := 19) rfl)
theorem d_Unit_seat_40 : decode prog_9_method_4_code 40 = .ok (.aload_n 0, 1) := id_Unit_seat_0 (40, .aload_n 0, 1) (List.mem_of_getElem? (i := 20) rfl)
theorem d_Unit_seat_41 : decode prog_9_method_4_code 41 = .ok (.getfield 11, 3) := id_Unit_seat_0 (41, .getfield 11, 3) (List.mem_of_getElem? (i := 21) rfl)
theorem d_Unit_seat_44 : decode prog_9_method_4_code 44 = .ok (.iload 6, 2) := id_Unit_seat_0 (44, .iload 6, 2) (List.mem_of_getElem? (i := 22) rfl)
theorem d_Unit_seat_46 : decode prog_9_method_4_code 46 = .ok (.aaload, 1) := id_Unit_seat_0 (46, .aaload, 1) (List.mem_of_getElem? (i := 23) rfl)
def it_Unit_seat_1 : List (Nat × ClassFile.Instr × Nat) := [(47, .ifnonnull (18), 3), (50, .aload_n 0, 1), (51, .getfield 11, 3), (54, .iload 6, 2), (56, .new 9, 3), (59, .dup, 1), (60, .iload_n 3, 1), (61, .invokespecial 48, 3), (64, .aastore, 1), (65, .aload_n 0, 1), (66, .getfield 11, 3), (69, .iload 6, 2), (71, .aaload, 1), (72, .aload_n 1, 1), (73, .iload 5, 2), (75, .iload_n 3, 1), (76, .invokevirtual 51, 3), (79, .aload_n 0, 1), (80, .getfield 11, 3), (83, .iload 6, 2), (85, .aaload, 1), (86, .aload 4, 2), (88, .invokevirtual 55, 3), (91, .iinc 5 (1), 3)]
theorem id_Unit_seat_1 : ∀ q ∈ it_Unit_seat_1, decode prog_9_method_4_code q.1 = .ok q.2 := by decide +kernel
theorem d_Unit_seat_47 : decode prog_9_method_4_code 47 = .ok (.ifnonnull (18), 3) := id_Unit_seat_1 (47, .ifnonnull (18), 3) (List.mem_of_getElem? (i := 0) rfl)
theorem d_Unit_seat_50 : decode prog_9_method_4_code 50 = .ok (.aload_n 0, 1) := id_Unit_seat_1 (50, .aload_n 0, 1) (List.mem_of_getElem? (i := 1) rfl)
theorem d_Unit_seat_51 : decode prog_9_method_4_code 51 = .ok (.getfield 11, 3) := id_Unit_seat_1 (51, .getfield 11, 3) (List.mem_of_getElem? (i := 2) rfl)
theorem d_Unit_seat_54 : decode prog_9_method_4_code 54 = .ok (.iload 6, 2) := id_Unit_seat_1 (54, .iload 6, 2) (List.mem_of_getElem? (i := 3) rfl)
theorem d_Unit_seat_56 : decode prog_9_method_4_code 56 = .ok (.new 9, 3) := id_Unit_seat_1 (56, .new 9, 3) (List.mem_of_getElem? (i := 4) rfl)
theorem d_Unit_seat_59 : decode prog_9_method_4_code 59 = .ok (.dup, 1) := id_Unit_seat_1 (59, .dup, 1) (List.mem_of_getElem? (i := 5) rfl)
theorem d_Unit_seat_60 : decode prog_9_method_4_code 60 = .ok (.iload_n 3, 1) := id_Unit_seat_1 (60, .iload_n 3, 1) (List.mem_of_getElem? (i := 6) rfl)
theorem d_Unit_seat_61 : decode prog_9_method_4_code 61 = .ok (.invokespecial 48, 3) := id_Unit_seat_1 (61, .invokespecial 48, 3) (List.mem_of_getElem? (i := 7) rfl)
theorem d_Unit_seat_64 : decode prog_9_method_4_code 64 = .ok (.aastore, 1) := id_Unit_seat_1 (64, .aastore, 1) (List.mem_of_getElem? (i := 8) rfl)
theorem d_Unit_seat_65 : decode prog_9_method_4_code 65 = .ok (.aload_n 0, 1) := id_Unit_seat_1 (65, .aload_n 0, 1) (List.mem_of_getElem? (i := 9) rfl)
theorem d_Unit_seat_66 : decode prog_9_method_4_code 66 = .ok (.getfield 11, 3) := id_Unit_seat_1 (66, .getfield 11, 3) (List.mem_of_getElem? (i := 10) rfl)
theorem d_Unit_seat_69 : decode prog_9_method_4_code 69 = .ok (.iload 6, 2) := id_Unit_seat_1 (69, .iload 6, 2) (List.mem_of_getElem? (i := 11) rfl)
theorem d_Unit_seat_71 : decode prog_9_method_4_code 71 = .ok (.aaload, 1) := id_Unit_seat_1 (71, .aaload, 1) (List.mem_of_getElem? (i := 12) rfl)
theorem d_Unit_seat_72 : decode prog_9_method_4_code 72 = .ok (.aload_n 1, 1) := id_Unit_seat_1 (72, .aload_n 1, 1) (List.mem_of_getElem? (i := 13) rfl)
theorem d_Unit_seat_73 : decode prog_9_method_4_code 73 = .ok (.iload 5, 2) := id_Unit_seat_1 (73, .iload 5, 2) (List.mem_of_getElem? (i := 14) rfl)
theorem d_Unit_seat_75 : decode prog_9_method_4_code 75 = .ok (.iload_n 3, 1) := id_Unit_seat_1 (75, .iload_n 3, 1) (List.mem_of_getElem? (i := 15) rfl)
theorem d_Unit_seat_76 : decode prog_9_method_4_code 76 = .ok (.invokevirtual 51, 3) := id_Unit_seat_1 (76, .invokevirtual 51, 3) (List.mem_of_getElem? (i := 16) rfl)
theorem d_Unit_seat_79 : decode prog_9_method_4_code 79 = .ok (.aload_n 0, 1) := id_Unit_seat_1 (79, .aload_n 0, 1) (List.mem_of_getElem? (i := 17) rfl)
theorem d_Unit_seat_80 : decode prog_9_method_4_code 80 = .ok (.getfield 11, 3) := id_Unit_seat_1 (80, .getfield 11, 3) (List.mem_of_getElem? (i := 18) rfl)
theorem d_Unit_seat_83 : decode prog_9_method_4_code 83 = .ok (.iload 6, 2) := id_Unit_seat_1 (83, .iload 6, 2) (List.mem_of_getElem? (i := 19) rfl)
theorem d_Unit_seat_85 : decode prog_9_method_4_code 85 = .ok (.aaload, 1) := id_Unit_seat_1 (85, .aaload, 1) (List.mem_of_getElem? (i := 20) rfl)
theorem d_Unit_seat_86 : decode prog_9_method_4_code 86 = .ok (.aload 4, 2) := id_Unit_seat_1 (86, .aload 4, 2) (List.mem_of_getElem? (i := 21) rfl)
theorem d_Unit_seat_88 : decode prog_9_method_4_code 88 = .ok (.invokevirtual 55, 3) := id_Unit_seat_1 (88, .invokevirtual 55, 3) (List.mem_of_getElem? (i := 22) rfl)
theorem d_Unit_seat_91 : decode prog_9_method_4_code 91 = .ok (.iinc 5 (1), 3) := id_Unit_seat_1 (91, .iinc 5 (1), 3) (List.mem_of_getElem? (i := 23) rfl)
def it_Unit_seat_2 : List (Nat × ClassFile.Instr × Nat) := [(94, .iinc 6 (1), 3), (97, .goto (-91), 3), (100, .aload_n 0, 1), (101, .dup, 1), (102, .getfield 25, 3), (105, .iload 5, 2), (107, .isub, 1), (108, .putfield 25, 3), (111, .return_, 1)]
theorem id_Unit_seat_2 : ∀ q ∈ it_Unit_seat_2, decode prog_9_method_4_code q.1 = .ok q.2 := by decide +kernel
theorem d_Unit_seat_94 : decode prog_9_method_4_code 94 = .ok (.iinc 6 (1), 3) := id_Unit_seat_2 (94, .iinc 6 (1), 3) (List.mem_of_getElem? (i := 0) rfl)
theorem d_Unit_seat_97 : decode prog_9_method_4_code 97 = .ok (.goto (-91), 3) := id_Unit_seat_2 (97, .goto (-91), 3) (List.mem_of_getElem? (i := 1) rfl)
theorem d_Unit_seat_100 : decode prog_9_method_4_code 100 = .ok (.aload_n 0, 1) := id_Unit_seat_2 (100, .aload_n 0, 1) (List.mem_of_getElem? (i := 2) rfl)
theorem d_Unit_seat_101 : decode prog_9_method_4_code 101 = .ok (.dup, 1) := id_Unit_seat_2 (101, .dup, 1) (List.mem_of_getElem? (i := 3) rfl)
theorem d_Unit_seat_102 : decode prog_9_method_4_code 102 = .ok (.getfield 25, 3) := id_Unit_seat_2 (102, .getfield 25, 3) (List.mem_of_getElem? (i := 4) rfl)
theorem d_Unit_seat_105 : decode prog_9_method_4_code 105 = .ok (.iload 5, 2) := id_Unit_seat_2 (105, .iload 5, 2) (List.mem_of_getElem? (i := 5) rfl)
theorem d_Unit_seat_107 : decode prog_9_method_4_code 107 = .ok (.isub, 1) := id_Unit_seat_2 (107, .isub, 1) (List.mem_of_getElem? (i := 6) rfl)
theorem d_Unit_seat_108 : decode prog_9_method_4_code 108 = .ok (.putfield 25, 3) := id_Unit_seat_2 (108, .putfield 25, 3) (List.mem_of_getElem? (i := 7) rfl)
theorem d_Unit_seat_111 : decode prog_9_method_4_code 111 = .ok (.return_, 1) := id_Unit_seat_2 (111, .return_, 1) (List.mem_of_getElem? (i := 8) rfl)
theorem wC_Unit_seat : Cond.code ⟨"WarpMill$Unit", "seat", "(LWarpMill$Block;II[LWarpMill$Word;)V"⟩ prog_9_method_4_code 7 (none) ∈ lw_tb := mem_tb 720 (by decide +kernel) rfl
theorem cw_Unit_seat_Unit_busy : cW mi_Unit_seat mi_Unit_busy 1 := ⟨wC_Unit_busy, wi_Unit, ⟨by decide, by decide, by decide +kernel⟩, by decide, by decide⟩
theorem cw_Unit_seat_Warp_init : cW mi_Unit_seat mi_Warp_init 1 := ⟨wC_Warp_init, wi_Warp, ⟨by decide, by decide, by decide +kernel⟩, by decide, by decide⟩
theorem cw_Unit_seat_Warp_begin : cW mi_Unit_seat mi_Warp_begin 3 := ⟨wC_Warp_begin, wi_Warp, ⟨by decide, by decide, by decide +kernel⟩, by decide, by decide⟩
theorem cw_Unit_seat_Warp_gather : cW mi_Unit_seat mi_Warp_gather 1 := ⟨wC_Warp_gather, wi_Warp, ⟨by decide, by decide, by decide +kernel⟩, by decide, by decide⟩
def b_Unit_seat_65 (F : Nat) (k6 : Nat → Option Nat → Int32 → Int32 → Option Nat → Int32 → Int32 → Hp → Option Hp) (x0 : Nat) (x1 : Option Nat) (x2 : Int32) (x3 : Int32) (x4 : Option Nat) (x5 : Int32) (x6 : Int32) (h : Hp) : Option Hp := gd (hK h x0 = 7) <| rq h (hR h 384 x0) 123 fun a_66_2 => ix x6 (hN h a_66_2) fun j_71 => rq h (hQ h a_66_2 j_71) 9 fun a_71_2 => clv (f_Warp_begin F a_71_2 x1 x5 x3 h) fun h_76 => gd (hK h_76 x0 = 7) <| rq h_76 (hR h_76 384 x0) 123 fun a_80_2 => ix x6 (hN h_76 a_80_2) fun j_85 => rq h_76 (hQ h_76 a_80_2 j_85) 9 fun a_85_2 => clv (f_Warp_gather F a_85_2 x4 h_76) fun h_88 => k6 x0 x1 x2 x3 x4 (x5 + 1) (x6 + 1) h_88
set_option maxRecDepth 100000 in
set_option maxHeartbeats 4000000 in
theorem e_Unit_seat_65 {G : Gl} (hw : gF G) {h0 : Hp} {F : Nat} {h' : Hp} {k6 : Nat → Option Nat → Int32 → Int32 → Option Nat → Int32 → Int32 → Hp → Option Hp} (hk6 : ∀ (y0 : Nat) (y1 : Option Nat) (y2 : Int32) (y3 : Int32) (y4 : Option Nat) (y5 : Int32) (y6 : Int32) (hh : Hp), k6 y0 y1 y2 y3 y4 y5 y6 hh = some h' → Go G mi_Unit_seat h0 (pV h') hh 6 [(0, .ref y0), (1, va_rf y1), (2, .int y2), (3, .int y3), (4, va_rf y4), (5, .int y5), (6, .int y6)] []) {x0 : Nat} {x1 : Option Nat} {x2 : Int32} {x3 : Int32} {x4 : Option Nat} {x5 : Int32} {x6 : Int32} {h : Hp} (hf : b_Unit_seat_65 F k6 x0 x1 x2 x3 x4 x5 x6 h = some h') : Go G mi_Unit_seat h0 (pV h') h 65 [(0, .ref x0), (1, va_rf x1), (2, .int x2), (3, .int x3), (4, va_rf x4), (5, .int x5), (6, .int x6)] [] := by
  unfold b_Unit_seat_65 at hf
  refine g_aload_n d_Unit_seat_65 rfl ?_
  obtain ⟨k_66, hf⟩ := gd_s hf
  obtain ⟨a_66_2, e_66_2, k_66_2, hf⟩ := rq_s hf
  refine fgs_Unit_warps lf_Unit_11 d_Unit_seat_66 k_66 e_66_2 ?_
  refine g_iload d_Unit_seat_69 rfl ?_
  obtain ⟨i_71, hf⟩ := ix_s hf
  refine g_aald k_66_2 (by decide) rfl rfl i_71 d_Unit_seat_71 ?_
  obtain ⟨a_71_2, e_71_2, k_71_2, hf⟩ := rq_s hf
  refine Go.vs e_71_2 ?_
  refine g_aload_nq (r := x1) d_Unit_seat_72 rfl ?_
  refine g_iload d_Unit_seat_73 rfl ?_
  refine g_iload_n d_Unit_seat_75 rfl ?_
  obtain ⟨h_76, e_76, hf⟩ := clv_s hf
  refine g_callV (mz := mi_Warp_begin) (e_Warp_begin hw e_76) cw_Unit_seat_Warp_begin lm_Unit_51 wI_Warp_begin wV_Warp_begin (ci := 8) k_71_2 (by decide) rfl rfl d_Unit_seat_76 rfl rfl (by first | exact Nat.le_of_ble_eq_true rfl | simp [cat_rf, Value.category]) (fun r1 h1 hp hro => ?_)
  obtain ⟨rfl, rfl⟩ := hp
  dsimp only [Option.toList_some, Option.toList_none, List.cons_append, List.nil_append]
  refine g_aload_n d_Unit_seat_79 rfl ?_
  obtain ⟨k_80, hf⟩ := gd_s hf
  obtain ⟨a_80_2, e_80_2, k_80_2, hf⟩ := rq_s hf
  refine fgs_Unit_warps lf_Unit_11 d_Unit_seat_80 k_80 e_80_2 ?_
  refine g_iload d_Unit_seat_83 rfl ?_
  obtain ⟨i_85, hf⟩ := ix_s hf
  refine g_aald k_80_2 (by decide) rfl rfl i_85 d_Unit_seat_85 ?_
  obtain ⟨a_85_2, e_85_2, k_85_2, hf⟩ := rq_s hf
  refine Go.vs e_85_2 ?_
  refine g_aloadq (r := x4) d_Unit_seat_86 rfl ?_
  obtain ⟨h_88, e_88, hf⟩ := clv_s hf
  refine g_callV (mz := mi_Warp_gather) (e_Warp_gather hw e_88) cw_Unit_seat_Warp_gather lm_Unit_55 wI_Warp_gather wV_Warp_gather (ci := 8) k_85_2 (by decide) rfl rfl d_Unit_seat_88 rfl rfl (by first | exact Nat.le_of_ble_eq_true rfl | simp [cat_rf, Value.category]) (fun r1 h1 hp hro => ?_)
  obtain ⟨rfl, rfl⟩ := hp
  dsimp only [Option.toList_some, Option.toList_none, List.cons_append, List.nil_append]
  refine g_iinc (_ + 1) d_Unit_seat_91 rfl (by rfl) (by decide) ?_
  simp only [lset1, lset2, List.filter_cons, cat_rf]
  show Go _ _ _ _ _ _ [(0, _), (1, _), (2, _), (3, _), (4, _), (5, _), (6, _)] _
  refine g_iinc (_ + 1) d_Unit_seat_94 rfl (by rfl) (by decide) ?_
  show Go _ _ _ _ _ _ [(0, _), (1, _), (2, _), (3, _), (4, _), (5, _), (6, _)] _
  refine g_goto 6 d_Unit_seat_97 (by decide) ?_
  exact hk6 _ _ _ _ _ _ _ _ hf
def b_Unit_seat_100 (F : Nat) (x0 : Nat) (x5 : Int32) (h : Hp) : Option Hp := gd (hK h x0 = 7) <| pw (sI h 387 x0 ((hI h 387 x0) - x5)) fun h_108 => some h_108
set_option maxRecDepth 100000 in
set_option maxHeartbeats 4000000 in
theorem e_Unit_seat_100 {G : Gl} (hw : gF G) {h0 : Hp} {F : Nat} {h' : Hp}   {x0 : Nat} {x5 : Int32} {h : Hp} (hf : b_Unit_seat_100 F x0 x5 h = some h') : Go G mi_Unit_seat h0 (pV h') h 100 [(0, .ref x0), (5, .int x5)] [] := by
  unfold b_Unit_seat_100 at hf
  refine g_aload_n d_Unit_seat_100 rfl ?_
  refine g_dup (by first | rfl | exact cat_rf _) d_Unit_seat_101 ?_
  obtain ⟨k_102, hf⟩ := gd_s hf
  refine fg_Unit_free lf_Unit_25 d_Unit_seat_102 k_102 ?_
  refine g_iload d_Unit_seat_105 rfl ?_
  refine g_isub d_Unit_seat_107 ?_
  refine fp_Unit_free hw lf_Unit_25 d_Unit_seat_108 k_102 ?_
  have hf := pw_b hf
  exact Go.ret none trivial rfl d_Unit_seat_111 (pV_of hf)
def b_Unit_seat_6 (F : Nat) : Nat → Nat → Option Nat → Int32 → Int32 → Option Nat → Int32 → Int32 → Hp → Option Hp
  | 0 => fun _ _ _ _ _ _ _ _ => none
  | n + 1 => fun x0 x1 x2 x3 x4 x5 x6 h => gd (hK h x0 = 7) <| if (hI h 386 x0) ≤ x6 then (b_Unit_seat_100 F x0 x5 h) else (rq h (hR h 384 x0) 123 fun a_18 => if (nI (hN h a_18)) ≤ x6 then (b_Unit_seat_100 F x0 x5 h) else (if x2 ≤ x5 then (b_Unit_seat_100 F x0 x5 h) else (cl (f_Unit_busy F x0 x6 h) fun o_34 h_34 => nu o_34 (gd (hK h_34 x0 = 7) <| rq h_34 (hR h_34 384 x0) 123 fun a_41_2 => ix x6 (hN h_34 a_41_2) fun j_46 => pw (hQ h_34 a_41_2 j_46) fun o_46_2 => nu o_46_2 (pw (hT h_34) fun a_56 => pw (nw h_34 9 0 16) fun h_56_2 => clv (f_Warp_init F a_56 x3 h_56_2) fun h_61 => gd (hK h_61 a_41_2 = 123) <| gd (hK h_61 a_56 = 9) <| ix x6 (hN h_61 a_41_2) fun j_64_3 => pw (sQ h_61 a_41_2 j_64_3 (some a_56)) fun h_64_4 => b_Unit_seat_65 F (b_Unit_seat_6 F n) x0 x1 x2 x3 x4 x5 x6 h_64_4) fun a_47 => (b_Unit_seat_65 F (b_Unit_seat_6 F n) x0 x1 x2 x3 x4 x5 x6 h_34)) fun a_37 => (b_Unit_seat_6 F n x0 x1 x2 x3 x4 x5 (x6 + 1) h_34))))
set_option maxRecDepth 100000 in
set_option maxHeartbeats 4000000 in
theorem e_Unit_seat_6 {G : Gl} (hw : gF G) {h0 : Hp} {F : Nat} {h' : Hp}   : ∀ (n : Nat) (x0 : Nat) (x1 : Option Nat) (x2 : Int32) (x3 : Int32) (x4 : Option Nat) (x5 : Int32) (x6 : Int32) (h : Hp), b_Unit_seat_6 F n x0 x1 x2 x3 x4 x5 x6 h = some h' → Go G mi_Unit_seat h0 (pV h') h 6 [(0, .ref x0), (1, va_rf x1), (2, .int x2), (3, .int x3), (4, va_rf x4), (5, .int x5), (6, .int x6)] [] := by
  intro n
  induction n with
  | zero =>
    intro _ _ _ _ _ _ _ _ hf
    exact nm_s hf
  | succ n ih =>
    intro x0 x1 x2 x3 x4 x5 x6 h hf
    unfold b_Unit_seat_6 at hf
    refine g_iload d_Unit_seat_6 rfl ?_
    refine g_aload_n d_Unit_seat_8 rfl ?_
    obtain ⟨k_9, hf⟩ := gd_s hf
    refine fg_Unit_slots lf_Unit_21 d_Unit_seat_9 k_9 ?_
    refine g_icmp_ge 100 d_Unit_seat_12 (by decide) (fun c_12 => ?_) (fun c_12 => ?_)
    · have hf := ifp hf c_12
      refine Go.locals [0, 5] rfl ?_
      have key := e_Unit_seat_100 hw (G := G) (h0 := h0)  hf
      exact key
    · have hf := ifn hf c_12
      refine g_iload d_Unit_seat_15 rfl ?_
      refine g_aload_n d_Unit_seat_17 rfl ?_
      obtain ⟨a_18, e_18, k_18, hf⟩ := rq_s hf
      refine fgs_Unit_warps lf_Unit_11 d_Unit_seat_18 k_9 e_18 ?_
      refine g_alen k_18 (by decide) rfl d_Unit_seat_21 ?_
      refine g_icmp_ge 100 d_Unit_seat_22 (by decide) (fun c_22 => ?_) (fun c_22 => ?_)
      · have hf := ifp hf c_22
        refine Go.locals [0, 5] rfl ?_
        have key := e_Unit_seat_100 hw (G := G) (h0 := h0)  hf
        exact key
      · have hf := ifn hf c_22
        refine g_iload d_Unit_seat_25 rfl ?_
        refine g_iload_n d_Unit_seat_27 rfl ?_
        refine g_icmp_ge 100 d_Unit_seat_28 (by decide) (fun c_28 => ?_) (fun c_28 => ?_)
        · have hf := ifp hf c_28
          refine Go.locals [0, 5] rfl ?_
          have key := e_Unit_seat_100 hw (G := G) (h0 := h0)  hf
          exact key
        · have hf := ifn hf c_28
          refine g_aload_n d_Unit_seat_31 rfl ?_
          refine g_iload d_Unit_seat_32 rfl ?_
          obtain ⟨o_34, h_34, e_34, hf⟩ := cl_s hf
          refine g_callV (mz := mi_Unit_busy) (e_Unit_busy e_34) cw_Unit_seat_Unit_busy lm_Unit_44 wI_Unit_busy wV_Unit_busy (ci := 6) k_9 (by decide) rfl rfl d_Unit_seat_34 rfl rfl (by first | exact Nat.le_of_ble_eq_true rfl | simp [cat_rf, Value.category]) (fun r1 h1 hp hro => ?_)
          obtain ⟨rfl, rfl⟩ := hp
          dsimp only [Option.toList_some, Option.toList_none, List.cons_append, List.nil_append]
          refine g_ifnonnull (r := o_34) 94 d_Unit_seat_37 (by decide) (fun a_37 c_37 => ?_) (fun c_37 => ?_)
          · subst c_37
            have hf := nu_s hf
            refine g_iinc (_ + 1) d_Unit_seat_94 rfl (by rfl) (by decide) ?_
            show Go _ _ _ _ _ _ [(0, _), (1, _), (2, _), (3, _), (4, _), (5, _), (6, _)] _
            refine g_goto 6 d_Unit_seat_97 (by decide) ?_
            exact ih _ _ _ _ _ _ _ _ hf
          · subst c_37
            have hf := nu_n hf
            refine g_aload_n d_Unit_seat_40 rfl ?_
            obtain ⟨k_41, hf⟩ := gd_s hf
            obtain ⟨a_41_2, e_41_2, k_41_2, hf⟩ := rq_s hf
            refine fgs_Unit_warps lf_Unit_11 d_Unit_seat_41 k_41 e_41_2 ?_
            refine g_iload d_Unit_seat_44 rfl ?_
            obtain ⟨i_46, hf⟩ := ix_s hf
            refine g_aald k_41_2 (by decide) rfl rfl i_46 d_Unit_seat_46 ?_
            obtain ⟨o_46_2, e_46_2, hf⟩ := pw_s hf
            refine Go.vr e_46_2 ?_
            refine g_ifnonnull (r := o_46_2) 65 d_Unit_seat_47 (by decide) (fun a_47 c_47 => ?_) (fun c_47 => ?_)
            · subst c_47
              have hf := nu_s hf
              have key := e_Unit_seat_65 hw (G := G) (h0 := h0) (fun _ _ _ _ _ _ _ _ q => ih _ _ _ _ _ _ _ _ q) hf
              exact key
            · subst c_47
              have hf := nu_n hf
              refine g_aload_n d_Unit_seat_50 rfl ?_
              refine fgs_Unit_warps lf_Unit_11 d_Unit_seat_51 k_41 e_41_2 ?_
              refine g_iload d_Unit_seat_54 rfl ?_
              obtain ⟨a_56, e_56, hf⟩ := pw_s hf
              refine g_newk 8 9 rfl okWarp lc_Unit_9 wn_Warp wi_Warp d_Unit_seat_56 ?_
              refine Go.kn (fun k_56 => ?_)
              rw [← e_56] at k_56 ⊢
              have hf := pw_b hf
              refine g_dup (by first | rfl | exact cat_rf _) d_Unit_seat_59 ?_
              refine g_iload_n d_Unit_seat_60 rfl ?_
              obtain ⟨h_61, e_61, hf⟩ := clv_s hf
              refine g_callI (mz := mi_Warp_init) (e_Warp_init hw e_61) cw_Unit_seat_Warp_init lm_Unit_48 wI_Warp_init rfl rfl d_Unit_seat_61 rfl rfl (by first | exact Nat.le_of_ble_eq_true rfl | simp [cat_rf, Value.category]) (fun r1 h1 hp hro => ?_)
              obtain ⟨rfl, rfl⟩ := hp
              dsimp only [Option.toList_some, Option.toList_none, List.cons_append, List.nil_append]
              obtain ⟨k_64, hf⟩ := gd_s hf
              obtain ⟨k_64_2, hf⟩ := gd_s hf
              obtain ⟨i_64_3, hf⟩ := ix_s hf
              refine g_aast hw (ci := 8) k_64 (by decide) rfl k_64_2 (by decide) rfl i_64_3 d_Unit_seat_64 ?_
              have hf := pw_b hf
              have key := e_Unit_seat_65 hw (G := G) (h0 := h0) (fun _ _ _ _ _ _ _ _ q => ih _ _ _ _ _ _ _ _ q) hf
              exact key
def f_Unit_seat (F : Nat) (x0 : Nat) (x1 : Option Nat) (x2 : Int32) (x3 : Int32) (x4 : Option Nat) (h : Hp) : Option Hp := b_Unit_seat_6 F F x0 x1 x2 x3 x4 (0 : Int32) (0 : Int32) h
set_option maxRecDepth 100000 in
set_option maxHeartbeats 4000000 in
theorem e_Unit_seat {G : Gl} (hw : gF G) {F : Nat} {h' : Hp} {x0 : Nat} {x1 : Option Nat} {x2 : Int32} {x3 : Int32} {x4 : Option Nat} {h : Hp} (hf : f_Unit_seat F x0 x1 x2 x3 x4 h = some h') : Ex G mi_Unit_seat [.ref x0, va_rf x1, .int x2, .int x3, va_rf x4] h (pV h') := by
  unfold f_Unit_seat at hf
  refine Ex.of nmV (by decide) (by cases x1 <;> cases x4 <;> exact Nat.le_of_ble_eq_true rfl) ?_
  rw [show lv_args 0 [.ref x0, va_rf x1, .int x2, .int x3, va_rf x4] = [(0, .ref x0), (1, va_rf x1), (2, .int x2), (3, .int x3), (4, va_rf x4)] from by cases x1 <;> cases x4 <;> rfl]
  show Go G mi_Unit_seat h _ h 0 [(0, .ref x0), (1, va_rf x1), (2, .int x2), (3, .int x3), (4, va_rf x4)] []
  refine g_iconst 0 d_Unit_seat_0 (by decide) ?_
  refine g_istore d_Unit_seat_1 (by decide) ?_
  simp only [lset1, lset2, List.filter_cons, cat_rf]
  show Go _ _ _ _ _ _ [(0, _), (1, _), (2, _), (3, _), (4, _), (5, _)] _
  refine g_iconst 0 d_Unit_seat_3 (by decide) ?_
  refine g_istore d_Unit_seat_4 (by decide) ?_
  show Go _ _ _ _ _ _ [(0, _), (1, _), (2, _), (3, _), (4, _), (5, _), (6, _)] _
  have key := e_Unit_seat_6 hw (G := G) (h0 := h)  F _ _ _ _ _ _ _ _ hf
  exact key
abbrev mi_WM_dispatch : MI := (⟨"WarpMill", "dispatch", "()V"⟩, prog_1_method_19_code, 4, none, 4, 92)
def it_WM_dispatch_0 : List (Nat × ClassFile.Instr × Nat) := [(0, .aload_n 0, 1), (1, .getfield 32, 3), (4, .getfield 213, 3), (7, .aload_n 0, 1), (8, .getfield 10, 3), (11, .getfield 93, 3), (14, .iadd, 1), (15, .iconst 1, 1), (16, .isub, 1), (17, .aload_n 0, 1), (18, .getfield 10, 3), (21, .getfield 93, 3), (24, .idiv, 1), (25, .istore_n 1, 1), (26, .aload_n 0, 1), (27, .getfield 32, 3), (30, .getfield 216, 3), (33, .istore_n 2, 1), (34, .iload_n 2, 1), (35, .aload_n 0, 1), (36, .getfield 32, 3), (39, .getfield 219, 3), (42, .if_icmp .ge (108), 3), (45, .iload_n 2, 1)]
theorem id_WM_dispatch_0 : ∀ q ∈ it_WM_dispatch_0, decode prog_1_method_19_code q.1 = .ok q.2 := by decide +kernel
theorem d_WM_dispatch_0 : decode prog_1_method_19_code 0 = .ok (.aload_n 0, 1) := id_WM_dispatch_0 (0, .aload_n 0, 1) (List.mem_of_getElem? (i := 0) rfl)
theorem d_WM_dispatch_1 : decode prog_1_method_19_code 1 = .ok (.getfield 32, 3) := id_WM_dispatch_0 (1, .getfield 32, 3) (List.mem_of_getElem? (i := 1) rfl)
theorem d_WM_dispatch_4 : decode prog_1_method_19_code 4 = .ok (.getfield 213, 3) := id_WM_dispatch_0 (4, .getfield 213, 3) (List.mem_of_getElem? (i := 2) rfl)
theorem d_WM_dispatch_7 : decode prog_1_method_19_code 7 = .ok (.aload_n 0, 1) := id_WM_dispatch_0 (7, .aload_n 0, 1) (List.mem_of_getElem? (i := 3) rfl)
theorem d_WM_dispatch_8 : decode prog_1_method_19_code 8 = .ok (.getfield 10, 3) := id_WM_dispatch_0 (8, .getfield 10, 3) (List.mem_of_getElem? (i := 4) rfl)
theorem d_WM_dispatch_11 : decode prog_1_method_19_code 11 = .ok (.getfield 93, 3) := id_WM_dispatch_0 (11, .getfield 93, 3) (List.mem_of_getElem? (i := 5) rfl)
theorem d_WM_dispatch_14 : decode prog_1_method_19_code 14 = .ok (.iadd, 1) := id_WM_dispatch_0 (14, .iadd, 1) (List.mem_of_getElem? (i := 6) rfl)
theorem d_WM_dispatch_15 : decode prog_1_method_19_code 15 = .ok (.iconst 1, 1) := id_WM_dispatch_0 (15, .iconst 1, 1) (List.mem_of_getElem? (i := 7) rfl)
theorem d_WM_dispatch_16 : decode prog_1_method_19_code 16 = .ok (.isub, 1) := id_WM_dispatch_0 (16, .isub, 1) (List.mem_of_getElem? (i := 8) rfl)
theorem d_WM_dispatch_17 : decode prog_1_method_19_code 17 = .ok (.aload_n 0, 1) := id_WM_dispatch_0 (17, .aload_n 0, 1) (List.mem_of_getElem? (i := 9) rfl)
theorem d_WM_dispatch_18 : decode prog_1_method_19_code 18 = .ok (.getfield 10, 3) := id_WM_dispatch_0 (18, .getfield 10, 3) (List.mem_of_getElem? (i := 10) rfl)
theorem d_WM_dispatch_21 : decode prog_1_method_19_code 21 = .ok (.getfield 93, 3) := id_WM_dispatch_0 (21, .getfield 93, 3) (List.mem_of_getElem? (i := 11) rfl)
theorem d_WM_dispatch_24 : decode prog_1_method_19_code 24 = .ok (.idiv, 1) := id_WM_dispatch_0 (24, .idiv, 1) (List.mem_of_getElem? (i := 12) rfl)
theorem d_WM_dispatch_25 : decode prog_1_method_19_code 25 = .ok (.istore_n 1, 1) := id_WM_dispatch_0 (25, .istore_n 1, 1) (List.mem_of_getElem? (i := 13) rfl)
theorem d_WM_dispatch_26 : decode prog_1_method_19_code 26 = .ok (.aload_n 0, 1) := id_WM_dispatch_0 (26, .aload_n 0, 1) (List.mem_of_getElem? (i := 14) rfl)
theorem d_WM_dispatch_27 : decode prog_1_method_19_code 27 = .ok (.getfield 32, 3) := id_WM_dispatch_0 (27, .getfield 32, 3) (List.mem_of_getElem? (i := 15) rfl)
theorem d_WM_dispatch_30 : decode prog_1_method_19_code 30 = .ok (.getfield 216, 3) := id_WM_dispatch_0 (30, .getfield 216, 3) (List.mem_of_getElem? (i := 16) rfl)
theorem d_WM_dispatch_33 : decode prog_1_method_19_code 33 = .ok (.istore_n 2, 1) := id_WM_dispatch_0 (33, .istore_n 2, 1) (List.mem_of_getElem? (i := 17) rfl)
theorem d_WM_dispatch_34 : decode prog_1_method_19_code 34 = .ok (.iload_n 2, 1) := id_WM_dispatch_0 (34, .iload_n 2, 1) (List.mem_of_getElem? (i := 18) rfl)
theorem d_WM_dispatch_35 : decode prog_1_method_19_code 35 = .ok (.aload_n 0, 1) := id_WM_dispatch_0 (35, .aload_n 0, 1) (List.mem_of_getElem? (i := 19) rfl)
theorem d_WM_dispatch_36 : decode prog_1_method_19_code 36 = .ok (.getfield 32, 3) := id_WM_dispatch_0 (36, .getfield 32, 3) (List.mem_of_getElem? (i := 20) rfl)
theorem d_WM_dispatch_39 : decode prog_1_method_19_code 39 = .ok (.getfield 219, 3) := id_WM_dispatch_0 (39, .getfield 219, 3) (List.mem_of_getElem? (i := 21) rfl)
theorem d_WM_dispatch_42 : decode prog_1_method_19_code 42 = .ok (.if_icmp .ge (108), 3) := id_WM_dispatch_0 (42, .if_icmp .ge (108), 3) (List.mem_of_getElem? (i := 22) rfl)
theorem d_WM_dispatch_45 : decode prog_1_method_19_code 45 = .ok (.iload_n 2, 1) := id_WM_dispatch_0 (45, .iload_n 2, 1) (List.mem_of_getElem? (i := 23) rfl)
def it_WM_dispatch_1 : List (Nat × ClassFile.Instr × Nat) := [(46, .aload_n 0, 1), (47, .getfield 44, 3), (50, .arraylength, 1), (51, .if_icmp .ge (99), 3), (54, .aload_n 0, 1), (55, .iload_n 1, 1), (56, .invokevirtual 221, 3), (59, .astore_n 3, 1), (60, .aload_n 3, 1), (61, .ifnonnull (4), 3), (64, .return_, 1), (65, .aload_n 0, 1), (66, .getfield 44, 3), (69, .iload_n 2, 1), (70, .aaload, 1), (71, .ifnonnull (17), 3), (74, .aload_n 0, 1), (75, .getfield 44, 3), (78, .iload_n 2, 1), (79, .new 42, 3), (82, .dup, 1), (83, .iload_n 2, 1), (84, .invokespecial 225, 3), (87, .aastore, 1)]
theorem id_WM_dispatch_1 : ∀ q ∈ it_WM_dispatch_1, decode prog_1_method_19_code q.1 = .ok q.2 := by decide +kernel
theorem d_WM_dispatch_46 : decode prog_1_method_19_code 46 = .ok (.aload_n 0, 1) := id_WM_dispatch_1 (46, .aload_n 0, 1) (List.mem_of_getElem? (i := 0) rfl)
theorem d_WM_dispatch_47 : decode prog_1_method_19_code 47 = .ok (.getfield 44, 3) := id_WM_dispatch_1 (47, .getfield 44, 3) (List.mem_of_getElem? (i := 1) rfl)
theorem d_WM_dispatch_50 : decode prog_1_method_19_code 50 = .ok (.arraylength, 1) := id_WM_dispatch_1 (50, .arraylength, 1) (List.mem_of_getElem? (i := 2) rfl)
theorem d_WM_dispatch_51 : decode prog_1_method_19_code 51 = .ok (.if_icmp .ge (99), 3) := id_WM_dispatch_1 (51, .if_icmp .ge (99), 3) (List.mem_of_getElem? (i := 3) rfl)
theorem d_WM_dispatch_54 : decode prog_1_method_19_code 54 = .ok (.aload_n 0, 1) := id_WM_dispatch_1 (54, .aload_n 0, 1) (List.mem_of_getElem? (i := 4) rfl)
theorem d_WM_dispatch_55 : decode prog_1_method_19_code 55 = .ok (.iload_n 1, 1) := id_WM_dispatch_1 (55, .iload_n 1, 1) (List.mem_of_getElem? (i := 5) rfl)
theorem d_WM_dispatch_56 : decode prog_1_method_19_code 56 = .ok (.invokevirtual 221, 3) := id_WM_dispatch_1 (56, .invokevirtual 221, 3) (List.mem_of_getElem? (i := 6) rfl)
theorem d_WM_dispatch_59 : decode prog_1_method_19_code 59 = .ok (.astore_n 3, 1) := id_WM_dispatch_1 (59, .astore_n 3, 1) (List.mem_of_getElem? (i := 7) rfl)
theorem d_WM_dispatch_60 : decode prog_1_method_19_code 60 = .ok (.aload_n 3, 1) := id_WM_dispatch_1 (60, .aload_n 3, 1) (List.mem_of_getElem? (i := 8) rfl)
theorem d_WM_dispatch_61 : decode prog_1_method_19_code 61 = .ok (.ifnonnull (4), 3) := id_WM_dispatch_1 (61, .ifnonnull (4), 3) (List.mem_of_getElem? (i := 9) rfl)
theorem d_WM_dispatch_64 : decode prog_1_method_19_code 64 = .ok (.return_, 1) := id_WM_dispatch_1 (64, .return_, 1) (List.mem_of_getElem? (i := 10) rfl)
theorem d_WM_dispatch_65 : decode prog_1_method_19_code 65 = .ok (.aload_n 0, 1) := id_WM_dispatch_1 (65, .aload_n 0, 1) (List.mem_of_getElem? (i := 11) rfl)
theorem d_WM_dispatch_66 : decode prog_1_method_19_code 66 = .ok (.getfield 44, 3) := id_WM_dispatch_1 (66, .getfield 44, 3) (List.mem_of_getElem? (i := 12) rfl)
theorem d_WM_dispatch_69 : decode prog_1_method_19_code 69 = .ok (.iload_n 2, 1) := id_WM_dispatch_1 (69, .iload_n 2, 1) (List.mem_of_getElem? (i := 13) rfl)
theorem d_WM_dispatch_70 : decode prog_1_method_19_code 70 = .ok (.aaload, 1) := id_WM_dispatch_1 (70, .aaload, 1) (List.mem_of_getElem? (i := 14) rfl)
theorem d_WM_dispatch_71 : decode prog_1_method_19_code 71 = .ok (.ifnonnull (17), 3) := id_WM_dispatch_1 (71, .ifnonnull (17), 3) (List.mem_of_getElem? (i := 15) rfl)
theorem d_WM_dispatch_74 : decode prog_1_method_19_code 74 = .ok (.aload_n 0, 1) := id_WM_dispatch_1 (74, .aload_n 0, 1) (List.mem_of_getElem? (i := 16) rfl)
theorem d_WM_dispatch_75 : decode prog_1_method_19_code 75 = .ok (.getfield 44, 3) := id_WM_dispatch_1 (75, .getfield 44, 3) (List.mem_of_getElem? (i := 17) rfl)
theorem d_WM_dispatch_78 : decode prog_1_method_19_code 78 = .ok (.iload_n 2, 1) := id_WM_dispatch_1 (78, .iload_n 2, 1) (List.mem_of_getElem? (i := 18) rfl)
theorem d_WM_dispatch_79 : decode prog_1_method_19_code 79 = .ok (.new 42, 3) := id_WM_dispatch_1 (79, .new 42, 3) (List.mem_of_getElem? (i := 19) rfl)
theorem d_WM_dispatch_82 : decode prog_1_method_19_code 82 = .ok (.dup, 1) := id_WM_dispatch_1 (82, .dup, 1) (List.mem_of_getElem? (i := 20) rfl)
theorem d_WM_dispatch_83 : decode prog_1_method_19_code 83 = .ok (.iload_n 2, 1) := id_WM_dispatch_1 (83, .iload_n 2, 1) (List.mem_of_getElem? (i := 21) rfl)
theorem d_WM_dispatch_84 : decode prog_1_method_19_code 84 = .ok (.invokespecial 225, 3) := id_WM_dispatch_1 (84, .invokespecial 225, 3) (List.mem_of_getElem? (i := 22) rfl)
theorem d_WM_dispatch_87 : decode prog_1_method_19_code 87 = .ok (.aastore, 1) := id_WM_dispatch_1 (87, .aastore, 1) (List.mem_of_getElem? (i := 23) rfl)
def it_WM_dispatch_2 : List (Nat × ClassFile.Instr × Nat) := [(88, .aload_n 0, 1), (89, .getfield 44, 3), (92, .iload_n 2, 1), (93, .aaload, 1), (94, .aload_n 3, 1), (95, .aload_n 0, 1), (96, .getfield 32, 3), (99, .getfield 219, 3), (102, .aload_n 0, 1), (103, .getfield 32, 3), (106, .getfield 213, 3), (109, .invokevirtual 226, 3), (112, .aload_n 3, 1), (113, .aload_n 0, 1), (114, .getfield 44, 3), (117, .iload_n 2, 1), (118, .aaload, 1), (119, .iload_n 1, 1), (120, .aload_n 0, 1), (121, .getfield 10, 3), (124, .getfield 93, 3), (127, .aload_n 0, 1), (128, .getfield 18, 3), (131, .invokevirtual 229, 3)]
theorem id_WM_dispatch_2 : ∀ q ∈ it_WM_dispatch_2, decode prog_1_method_19_code q.1 = .ok q.2 := by decide +kernel
theorem d_WM_dispatch_88 : decode prog_1_method_19_code 88 = .ok (.aload_n 0, 1) := id_WM_dispatch_2 (88, .aload_n 0, 1) (List.mem_of_getElem? (i := 0) rfl)
theorem d_WM_dispatch_89 : decode prog_1_method_19_code 89 = .ok (.getfield 44, 3) := id_WM_dispatch_2 (89, .getfield 44, 3) (List.mem_of_getElem? (i := 1) rfl)
theorem d_WM_dispatch_92 : decode prog_1_method_19_code 92 = .ok (.iload_n 2, 1) := id_WM_dispatch_2 (92, .iload_n 2, 1) (List.mem_of_getElem? (i := 2) rfl)
theorem d_WM_dispatch_93 : decode prog_1_method_19_code 93 = .ok (.aaload, 1) := id_WM_dispatch_2 (93, .aaload, 1) (List.mem_of_getElem? (i := 3) rfl)
theorem d_WM_dispatch_94 : decode prog_1_method_19_code 94 = .ok (.aload_n 3, 1) := id_WM_dispatch_2 (94, .aload_n 3, 1) (List.mem_of_getElem? (i := 4) rfl)
theorem d_WM_dispatch_95 : decode prog_1_method_19_code 95 = .ok (.aload_n 0, 1) := id_WM_dispatch_2 (95, .aload_n 0, 1) (List.mem_of_getElem? (i := 5) rfl)
theorem d_WM_dispatch_96 : decode prog_1_method_19_code 96 = .ok (.getfield 32, 3) := id_WM_dispatch_2 (96, .getfield 32, 3) (List.mem_of_getElem? (i := 6) rfl)
theorem d_WM_dispatch_99 : decode prog_1_method_19_code 99 = .ok (.getfield 219, 3) := id_WM_dispatch_2 (99, .getfield 219, 3) (List.mem_of_getElem? (i := 7) rfl)
theorem d_WM_dispatch_102 : decode prog_1_method_19_code 102 = .ok (.aload_n 0, 1) := id_WM_dispatch_2 (102, .aload_n 0, 1) (List.mem_of_getElem? (i := 8) rfl)
theorem d_WM_dispatch_103 : decode prog_1_method_19_code 103 = .ok (.getfield 32, 3) := id_WM_dispatch_2 (103, .getfield 32, 3) (List.mem_of_getElem? (i := 9) rfl)
theorem d_WM_dispatch_106 : decode prog_1_method_19_code 106 = .ok (.getfield 213, 3) := id_WM_dispatch_2 (106, .getfield 213, 3) (List.mem_of_getElem? (i := 10) rfl)
theorem d_WM_dispatch_109 : decode prog_1_method_19_code 109 = .ok (.invokevirtual 226, 3) := id_WM_dispatch_2 (109, .invokevirtual 226, 3) (List.mem_of_getElem? (i := 11) rfl)
theorem d_WM_dispatch_112 : decode prog_1_method_19_code 112 = .ok (.aload_n 3, 1) := id_WM_dispatch_2 (112, .aload_n 3, 1) (List.mem_of_getElem? (i := 12) rfl)
theorem d_WM_dispatch_113 : decode prog_1_method_19_code 113 = .ok (.aload_n 0, 1) := id_WM_dispatch_2 (113, .aload_n 0, 1) (List.mem_of_getElem? (i := 13) rfl)
theorem d_WM_dispatch_114 : decode prog_1_method_19_code 114 = .ok (.getfield 44, 3) := id_WM_dispatch_2 (114, .getfield 44, 3) (List.mem_of_getElem? (i := 14) rfl)
theorem d_WM_dispatch_117 : decode prog_1_method_19_code 117 = .ok (.iload_n 2, 1) := id_WM_dispatch_2 (117, .iload_n 2, 1) (List.mem_of_getElem? (i := 15) rfl)
theorem d_WM_dispatch_118 : decode prog_1_method_19_code 118 = .ok (.aaload, 1) := id_WM_dispatch_2 (118, .aaload, 1) (List.mem_of_getElem? (i := 16) rfl)
theorem d_WM_dispatch_119 : decode prog_1_method_19_code 119 = .ok (.iload_n 1, 1) := id_WM_dispatch_2 (119, .iload_n 1, 1) (List.mem_of_getElem? (i := 17) rfl)
theorem d_WM_dispatch_120 : decode prog_1_method_19_code 120 = .ok (.aload_n 0, 1) := id_WM_dispatch_2 (120, .aload_n 0, 1) (List.mem_of_getElem? (i := 18) rfl)
theorem d_WM_dispatch_121 : decode prog_1_method_19_code 121 = .ok (.getfield 10, 3) := id_WM_dispatch_2 (121, .getfield 10, 3) (List.mem_of_getElem? (i := 19) rfl)
theorem d_WM_dispatch_124 : decode prog_1_method_19_code 124 = .ok (.getfield 93, 3) := id_WM_dispatch_2 (124, .getfield 93, 3) (List.mem_of_getElem? (i := 20) rfl)
theorem d_WM_dispatch_127 : decode prog_1_method_19_code 127 = .ok (.aload_n 0, 1) := id_WM_dispatch_2 (127, .aload_n 0, 1) (List.mem_of_getElem? (i := 21) rfl)
theorem d_WM_dispatch_128 : decode prog_1_method_19_code 128 = .ok (.getfield 18, 3) := id_WM_dispatch_2 (128, .getfield 18, 3) (List.mem_of_getElem? (i := 22) rfl)
theorem d_WM_dispatch_131 : decode prog_1_method_19_code 131 = .ok (.invokevirtual 229, 3) := id_WM_dispatch_2 (131, .invokevirtual 229, 3) (List.mem_of_getElem? (i := 23) rfl)
def it_WM_dispatch_3 : List (Nat × ClassFile.Instr × Nat) := [(134, .aload_n 0, 1), (135, .getfield 32, 3), (138, .iload_n 2, 1), (139, .iconst 1, 1), (140, .iadd, 1), (141, .putfield 216, 3), (144, .iinc 2 (1), 3), (147, .goto (-113), 3), (150, .return_, 1)]
theorem id_WM_dispatch_3 : ∀ q ∈ it_WM_dispatch_3, decode prog_1_method_19_code q.1 = .ok q.2 := by decide +kernel
theorem d_WM_dispatch_134 : decode prog_1_method_19_code 134 = .ok (.aload_n 0, 1) := id_WM_dispatch_3 (134, .aload_n 0, 1) (List.mem_of_getElem? (i := 0) rfl)
theorem d_WM_dispatch_135 : decode prog_1_method_19_code 135 = .ok (.getfield 32, 3) := id_WM_dispatch_3 (135, .getfield 32, 3) (List.mem_of_getElem? (i := 1) rfl)
theorem d_WM_dispatch_138 : decode prog_1_method_19_code 138 = .ok (.iload_n 2, 1) := id_WM_dispatch_3 (138, .iload_n 2, 1) (List.mem_of_getElem? (i := 2) rfl)
theorem d_WM_dispatch_139 : decode prog_1_method_19_code 139 = .ok (.iconst 1, 1) := id_WM_dispatch_3 (139, .iconst 1, 1) (List.mem_of_getElem? (i := 3) rfl)
theorem d_WM_dispatch_140 : decode prog_1_method_19_code 140 = .ok (.iadd, 1) := id_WM_dispatch_3 (140, .iadd, 1) (List.mem_of_getElem? (i := 4) rfl)
theorem d_WM_dispatch_141 : decode prog_1_method_19_code 141 = .ok (.putfield 216, 3) := id_WM_dispatch_3 (141, .putfield 216, 3) (List.mem_of_getElem? (i := 5) rfl)
theorem d_WM_dispatch_144 : decode prog_1_method_19_code 144 = .ok (.iinc 2 (1), 3) := id_WM_dispatch_3 (144, .iinc 2 (1), 3) (List.mem_of_getElem? (i := 6) rfl)
theorem d_WM_dispatch_147 : decode prog_1_method_19_code 147 = .ok (.goto (-113), 3) := id_WM_dispatch_3 (147, .goto (-113), 3) (List.mem_of_getElem? (i := 7) rfl)
theorem d_WM_dispatch_150 : decode prog_1_method_19_code 150 = .ok (.return_, 1) := id_WM_dispatch_3 (150, .return_, 1) (List.mem_of_getElem? (i := 8) rfl)
theorem wC_WM_dispatch : Cond.code ⟨"WarpMill", "dispatch", "()V"⟩ prog_1_method_19_code 4 (none) ∈ lw_tb := mem_tb 668 (by decide +kernel) rfl
theorem cw_WM_dispatch_WM_firstWithRoom : cW mi_WM_dispatch mi_WM_firstWithRoom 1 := ⟨wC_WM_firstWithRoom, wi_WM, ⟨by decide, by decide, by decide +kernel⟩, by decide, by decide⟩
theorem cw_WM_dispatch_Block_init : cW mi_WM_dispatch mi_Block_init 1 := ⟨wC_Block_init, wi_Block, ⟨by decide, by decide, by decide +kernel⟩, by decide, by decide⟩
theorem cw_WM_dispatch_Block_begin : cW mi_WM_dispatch mi_Block_begin 3 := ⟨wC_Block_begin, wi_Block, ⟨by decide, by decide, by decide +kernel⟩, by decide, by decide⟩
theorem cw_WM_dispatch_Unit_seat : cW mi_WM_dispatch mi_Unit_seat 4 := ⟨wC_Unit_seat, wi_Unit, ⟨by decide, by decide, by decide +kernel⟩, by decide, by decide⟩
def b_WM_dispatch_88 (F : Nat) (k34 : Nat → Int32 → Int32 → Hp → Option Hp) (x0 : Nat) (x1 : Int32) (x2 : Int32) (x3 : Nat) (h : Hp) : Option Hp := gd (hK h x0 = 1) <| rq h (hR h 5 x0) 122 fun a_89_2 => ix x2 (hN h a_89_2) fun j_93 => rq h (hQ h a_89_2 j_93) 8 fun a_93_2 => rq h (hR h 3 x0) 6 fun a_96 => clv (f_Block_begin F a_93_2 (some x3) (hI h 321 a_96) (hI h 322 a_96) h) fun h_109 => gd (hK h_109 x0 = 1) <| rq h_109 (hR h_109 5 x0) 122 fun a_114_2 => ix x2 (hN h_109 a_114_2) fun j_118 => pw (hQ h_109 a_114_2 j_118) fun o_118_2 => rq h_109 (hR h_109 0 x0) 2 fun a_121 => rq h_109 (hR h_109 1 x0) 120 fun a_128 => gd (hK h_109 x3 = 7) <| clv (f_Unit_seat F x3 o_118_2 x1 (hI h_109 64 a_121) (some a_128) h_109) fun h_131_2 => gd (hK h_131_2 x0 = 1) <| rq h_131_2 (hR h_131_2 3 x0) 6 fun a_135_2 => pw (sI h_131_2 323 a_135_2 (x2 + (1 : Int32))) fun h_141 => k34 x0 x1 (x2 + 1) h_141
set_option maxRecDepth 100000 in
set_option maxHeartbeats 4000000 in
theorem e_WM_dispatch_88 {G : Gl} (hw : gF G) {h0 : Hp} {F : Nat} {h' : Hp} {k34 : Nat → Int32 → Int32 → Hp → Option Hp} (hk34 : ∀ (y0 : Nat) (y1 : Int32) (y2 : Int32) (hh : Hp), k34 y0 y1 y2 hh = some h' → Go G mi_WM_dispatch h0 (pV h') hh 34 [(0, .ref y0), (1, .int y1), (2, .int y2)] []) {x0 : Nat} {x1 : Int32} {x2 : Int32} {x3 : Nat} {h : Hp} (hf : b_WM_dispatch_88 F k34 x0 x1 x2 x3 h = some h') : Go G mi_WM_dispatch h0 (pV h') h 88 [(0, .ref x0), (1, .int x1), (2, .int x2), (3, .ref x3)] [] := by
  unfold b_WM_dispatch_88 at hf
  refine g_aload_n d_WM_dispatch_88 rfl ?_
  obtain ⟨k_89, hf⟩ := gd_s hf
  obtain ⟨a_89_2, e_89_2, k_89_2, hf⟩ := rq_s hf
  refine fgs_WM_blocks lf_WM_44 d_WM_dispatch_89 k_89 e_89_2 ?_
  refine g_iload_n d_WM_dispatch_92 rfl ?_
  obtain ⟨i_93, hf⟩ := ix_s hf
  refine g_aald k_89_2 (by decide) rfl rfl i_93 d_WM_dispatch_93 ?_
  obtain ⟨a_93_2, e_93_2, k_93_2, hf⟩ := rq_s hf
  refine Go.vs e_93_2 ?_
  refine g_aload_n d_WM_dispatch_94 rfl ?_
  refine g_aload_n d_WM_dispatch_95 rfl ?_
  obtain ⟨a_96, e_96, k_96, hf⟩ := rq_s hf
  refine fgs_WM_tally lf_WM_32 d_WM_dispatch_96 k_89 e_96 ?_
  refine fg_Tally_blocks lf_WM_219 d_WM_dispatch_99 k_96 ?_
  refine g_aload_n d_WM_dispatch_102 rfl ?_
  refine fgs_WM_tally lf_WM_32 d_WM_dispatch_103 k_89 e_96 ?_
  refine fg_Tally_threads lf_WM_213 d_WM_dispatch_106 k_96 ?_
  obtain ⟨h_109, e_109, hf⟩ := clv_s hf
  refine g_callV (mz := mi_Block_begin) (e_Block_begin hw e_109) cw_WM_dispatch_Block_begin lm_WM_226 wI_Block_begin wV_Block_begin (ci := 7) k_93_2 (by decide) rfl rfl d_WM_dispatch_109 rfl rfl (by first | exact Nat.le_of_ble_eq_true rfl | simp [cat_rf, Value.category]) (fun r1 h1 hp hro => ?_)
  obtain ⟨rfl, rfl⟩ := hp
  dsimp only [Option.toList_some, Option.toList_none, List.cons_append, List.nil_append]
  refine g_aload_n d_WM_dispatch_112 rfl ?_
  refine g_aload_n d_WM_dispatch_113 rfl ?_
  obtain ⟨k_114, hf⟩ := gd_s hf
  obtain ⟨a_114_2, e_114_2, k_114_2, hf⟩ := rq_s hf
  refine fgs_WM_blocks lf_WM_44 d_WM_dispatch_114 k_114 e_114_2 ?_
  refine g_iload_n d_WM_dispatch_117 rfl ?_
  obtain ⟨i_118, hf⟩ := ix_s hf
  refine g_aald k_114_2 (by decide) rfl rfl i_118 d_WM_dispatch_118 ?_
  obtain ⟨o_118_2, e_118_2, hf⟩ := pw_s hf
  refine Go.vr e_118_2 ?_
  refine g_iload_n d_WM_dispatch_119 rfl ?_
  refine g_aload_n d_WM_dispatch_120 rfl ?_
  obtain ⟨a_121, e_121, k_121, hf⟩ := rq_s hf
  refine fgs_WM_sizes lf_WM_10 d_WM_dispatch_121 k_114 e_121 ?_
  refine fg_Sizes_lanes lf_WM_93 d_WM_dispatch_124 k_121 ?_
  refine g_aload_n d_WM_dispatch_127 rfl ?_
  obtain ⟨a_128, e_128, k_128, hf⟩ := rq_s hf
  refine fgs_WM_kernel lf_WM_18 d_WM_dispatch_128 k_114 e_128 ?_
  obtain ⟨k_131, hf⟩ := gd_s hf
  obtain ⟨h_131_2, e_131_2, hf⟩ := clv_s hf
  refine g_callV (mz := mi_Unit_seat) (e_Unit_seat hw e_131_2) cw_WM_dispatch_Unit_seat lm_WM_229 wI_Unit_seat wV_Unit_seat (ci := 6) k_131 (by decide) rfl rfl d_WM_dispatch_131 rfl rfl (by first | exact Nat.le_of_ble_eq_true rfl | simp [cat_rf, Value.category]) (fun r1 h1 hp hro => ?_)
  obtain ⟨rfl, rfl⟩ := hp
  dsimp only [Option.toList_some, Option.toList_none, List.cons_append, List.nil_append]
  refine g_aload_n d_WM_dispatch_134 rfl ?_
  obtain ⟨k_135, hf⟩ := gd_s hf
  obtain ⟨a_135_2, e_135_2, k_135_2, hf⟩ := rq_s hf
  refine fgs_WM_tally lf_WM_32 d_WM_dispatch_135 k_135 e_135_2 ?_
  refine g_iload_n d_WM_dispatch_138 rfl ?_
  refine g_iconst 1 d_WM_dispatch_139 (by decide) ?_
  refine g_iadd d_WM_dispatch_140 ?_
  refine fp_Tally_dispatched hw lf_WM_216 d_WM_dispatch_141 k_135_2 ?_
  have hf := pw_b hf
  refine g_iinc (_ + 1) d_WM_dispatch_144 rfl (by rfl) (by decide) ?_
  show Go _ _ _ _ _ _ [(0, _), (1, _), (2, _), (3, _)] _
  refine g_goto 34 d_WM_dispatch_147 (by decide) ?_
  refine Go.locals [0, 1, 2] rfl ?_
  exact hk34 _ _ _ _ hf
def b_WM_dispatch_34 (F : Nat) : Nat → Nat → Int32 → Int32 → Hp → Option Hp
  | 0 => fun _ _ _ _ => none
  | n + 1 => fun x0 x1 x2 h => gd (hK h x0 = 1) <| rq h (hR h 3 x0) 6 fun a_36_2 => if (hI h 321 a_36_2) ≤ x2 then (some h) else (rq h (hR h 5 x0) 122 fun a_47 => if (nI (hN h a_47)) ≤ x2 then (some h) else (cl (f_WM_firstWithRoom F x0 x1 h) fun o_56 h_56 => nu o_56 (some h_56) fun a_61 => (gd (hK h_56 x0 = 1) <| rq h_56 (hR h_56 5 x0) 122 fun a_66_2 => ix x2 (hN h_56 a_66_2) fun j_70 => pw (hQ h_56 a_66_2 j_70) fun o_70_2 => nu o_70_2 (pw (hT h_56) fun a_79 => pw (nw h_56 8 0 7) fun h_79_2 => clv (f_Block_init F a_79 x2 h_79_2) fun h_84 => gd (hK h_84 a_66_2 = 122) <| gd (hK h_84 a_79 = 8) <| ix x2 (hN h_84 a_66_2) fun j_87_3 => pw (sQ h_84 a_66_2 j_87_3 (some a_79)) fun h_87_4 => b_WM_dispatch_88 F (b_WM_dispatch_34 F n) x0 x1 x2 a_61 h_87_4) fun a_71 => (b_WM_dispatch_88 F (b_WM_dispatch_34 F n) x0 x1 x2 a_61 h_56))))
set_option maxRecDepth 100000 in
set_option maxHeartbeats 4000000 in
theorem e_WM_dispatch_34 {G : Gl} (hw : gF G) {h0 : Hp} {F : Nat} {h' : Hp}   : ∀ (n : Nat) (x0 : Nat) (x1 : Int32) (x2 : Int32) (h : Hp), b_WM_dispatch_34 F n x0 x1 x2 h = some h' → Go G mi_WM_dispatch h0 (pV h') h 34 [(0, .ref x0), (1, .int x1), (2, .int x2)] [] := by
  intro n
  induction n with
  | zero =>
    intro _ _ _ _ hf
    exact nm_s hf
  | succ n ih =>
    intro x0 x1 x2 h hf
    unfold b_WM_dispatch_34 at hf
    refine g_iload_n d_WM_dispatch_34 rfl ?_
    refine g_aload_n d_WM_dispatch_35 rfl ?_
    obtain ⟨k_36, hf⟩ := gd_s hf
    obtain ⟨a_36_2, e_36_2, k_36_2, hf⟩ := rq_s hf
    refine fgs_WM_tally lf_WM_32 d_WM_dispatch_36 k_36 e_36_2 ?_
    refine fg_Tally_blocks lf_WM_219 d_WM_dispatch_39 k_36_2 ?_
    refine g_icmp_ge 150 d_WM_dispatch_42 (by decide) (fun c_42 => ?_) (fun c_42 => ?_)
    · have hf := ifp hf c_42
      exact Go.ret none trivial rfl d_WM_dispatch_150 (pV_of hf)
    · have hf := ifn hf c_42
      refine g_iload_n d_WM_dispatch_45 rfl ?_
      refine g_aload_n d_WM_dispatch_46 rfl ?_
      obtain ⟨a_47, e_47, k_47, hf⟩ := rq_s hf
      refine fgs_WM_blocks lf_WM_44 d_WM_dispatch_47 k_36 e_47 ?_
      refine g_alen k_47 (by decide) rfl d_WM_dispatch_50 ?_
      refine g_icmp_ge 150 d_WM_dispatch_51 (by decide) (fun c_51 => ?_) (fun c_51 => ?_)
      · have hf := ifp hf c_51
        exact Go.ret none trivial rfl d_WM_dispatch_150 (pV_of hf)
      · have hf := ifn hf c_51
        refine g_aload_n d_WM_dispatch_54 rfl ?_
        refine g_iload_n d_WM_dispatch_55 rfl ?_
        obtain ⟨o_56, h_56, e_56, hf⟩ := cl_s hf
        refine g_callV (mz := mi_WM_firstWithRoom) (e_WM_firstWithRoom e_56) cw_WM_dispatch_WM_firstWithRoom lm_WM_221 wI_WM_firstWithRoom wV_WM_firstWithRoom (ci := 0) k_36 (by decide) rfl rfl d_WM_dispatch_56 rfl rfl (by first | exact Nat.le_of_ble_eq_true rfl | simp [cat_rf, Value.category]) (fun r1 h1 hp hro => ?_)
        obtain ⟨rfl, rfl⟩ := hp
        dsimp only [Option.toList_some, Option.toList_none, List.cons_append, List.nil_append]
        refine g_astore_nq (r := o_56) d_WM_dispatch_59 (by decide) ?_
        show Go _ _ _ _ _ _ [(0, _), (1, _), (2, _), (3, _)] _
        refine g_aload_nq (r := o_56) d_WM_dispatch_60 rfl ?_
        refine g_ifnonnull (r := o_56) 65 d_WM_dispatch_61 (by decide) (fun a_61 c_61 => ?_) (fun c_61 => ?_)
        · subst c_61
          have hf := nu_s hf
          refine g_aload_n d_WM_dispatch_65 rfl ?_
          obtain ⟨k_66, hf⟩ := gd_s hf
          obtain ⟨a_66_2, e_66_2, k_66_2, hf⟩ := rq_s hf
          refine fgs_WM_blocks lf_WM_44 d_WM_dispatch_66 k_66 e_66_2 ?_
          refine g_iload_n d_WM_dispatch_69 rfl ?_
          obtain ⟨i_70, hf⟩ := ix_s hf
          refine g_aald k_66_2 (by decide) rfl rfl i_70 d_WM_dispatch_70 ?_
          obtain ⟨o_70_2, e_70_2, hf⟩ := pw_s hf
          refine Go.vr e_70_2 ?_
          refine g_ifnonnull (r := o_70_2) 88 d_WM_dispatch_71 (by decide) (fun a_71 c_71 => ?_) (fun c_71 => ?_)
          · subst c_71
            have hf := nu_s hf
            have key := e_WM_dispatch_88 hw (G := G) (h0 := h0) (fun _ _ _ _ q => ih _ _ _ _ q) hf
            exact key
          · subst c_71
            have hf := nu_n hf
            refine g_aload_n d_WM_dispatch_74 rfl ?_
            refine fgs_WM_blocks lf_WM_44 d_WM_dispatch_75 k_66 e_66_2 ?_
            refine g_iload_n d_WM_dispatch_78 rfl ?_
            obtain ⟨a_79, e_79, hf⟩ := pw_s hf
            refine g_newk 7 8 rfl okBlock lc_WM_42 wn_Block wi_Block d_WM_dispatch_79 ?_
            refine Go.kn (fun k_79 => ?_)
            rw [← e_79] at k_79 ⊢
            have hf := pw_b hf
            refine g_dup (by first | rfl | exact cat_rf _) d_WM_dispatch_82 ?_
            refine g_iload_n d_WM_dispatch_83 rfl ?_
            obtain ⟨h_84, e_84, hf⟩ := clv_s hf
            refine g_callI (mz := mi_Block_init) (e_Block_init hw e_84) cw_WM_dispatch_Block_init lm_WM_225 wI_Block_init rfl rfl d_WM_dispatch_84 rfl rfl (by first | exact Nat.le_of_ble_eq_true rfl | simp [cat_rf, Value.category]) (fun r1 h1 hp hro => ?_)
            obtain ⟨rfl, rfl⟩ := hp
            dsimp only [Option.toList_some, Option.toList_none, List.cons_append, List.nil_append]
            obtain ⟨k_87, hf⟩ := gd_s hf
            obtain ⟨k_87_2, hf⟩ := gd_s hf
            obtain ⟨i_87_3, hf⟩ := ix_s hf
            refine g_aast hw (ci := 7) k_87 (by decide) rfl k_87_2 (by decide) rfl i_87_3 d_WM_dispatch_87 ?_
            have hf := pw_b hf
            have key := e_WM_dispatch_88 hw (G := G) (h0 := h0) (fun _ _ _ _ q => ih _ _ _ _ q) hf
            exact key
        · subst c_61
          have hf := nu_n hf
          exact Go.ret none trivial rfl d_WM_dispatch_64 (pV_of hf)
def f_WM_dispatch (F : Nat) (x0 : Nat) (h : Hp) : Option Hp := gd (hK h x0 = 1) <| rq h (hR h 3 x0) 6 fun a_1_2 => rq h (hR h 0 x0) 2 fun a_8 => gd (¬ (hI h 64 a_8) = 0) <| b_WM_dispatch_34 F F x0 ((((hI h 322 a_1_2) + (hI h 64 a_8)) - (1 : Int32)) / (hI h 64 a_8)) (hI h 323 a_1_2) h
set_option maxRecDepth 100000 in
set_option maxHeartbeats 4000000 in
theorem e_WM_dispatch {G : Gl} (hw : gF G) {F : Nat} {h' : Hp} {x0 : Nat} {h : Hp} (hf : f_WM_dispatch F x0 h = some h') : Ex G mi_WM_dispatch [.ref x0] h (pV h') := by
  unfold f_WM_dispatch at hf
  refine Ex.of nmV (by decide) (Nat.le_of_ble_eq_true rfl) ?_
  show Go G mi_WM_dispatch h _ h 0 [(0, .ref x0)] []
  refine g_aload_n d_WM_dispatch_0 rfl ?_
  obtain ⟨k_1, hf⟩ := gd_s hf
  obtain ⟨a_1_2, e_1_2, k_1_2, hf⟩ := rq_s hf
  refine fgs_WM_tally lf_WM_32 d_WM_dispatch_1 k_1 e_1_2 ?_
  refine fg_Tally_threads lf_WM_213 d_WM_dispatch_4 k_1_2 ?_
  refine g_aload_n d_WM_dispatch_7 rfl ?_
  obtain ⟨a_8, e_8, k_8, hf⟩ := rq_s hf
  refine fgs_WM_sizes lf_WM_10 d_WM_dispatch_8 k_1 e_8 ?_
  refine fg_Sizes_lanes lf_WM_93 d_WM_dispatch_11 k_8 ?_
  refine g_iadd d_WM_dispatch_14 ?_
  refine g_iconst 1 d_WM_dispatch_15 (by decide) ?_
  refine g_isub d_WM_dispatch_16 ?_
  refine g_aload_n d_WM_dispatch_17 rfl ?_
  refine fgs_WM_sizes lf_WM_10 d_WM_dispatch_18 k_1 e_8 ?_
  refine fg_Sizes_lanes lf_WM_93 d_WM_dispatch_21 k_8 ?_
  obtain ⟨z_24, hf⟩ := gd_s hf
  refine g_idiv d_WM_dispatch_24 z_24 ?_
  refine g_istore_n d_WM_dispatch_25 (by decide) ?_
  show Go _ _ _ _ _ _ [(0, _), (1, _)] _
  refine g_aload_n d_WM_dispatch_26 rfl ?_
  refine fgs_WM_tally lf_WM_32 d_WM_dispatch_27 k_1 e_1_2 ?_
  refine fg_Tally_dispatched lf_WM_216 d_WM_dispatch_30 k_1_2 ?_
  refine g_istore_n d_WM_dispatch_33 (by decide) ?_
  show Go _ _ _ _ _ _ [(0, _), (1, _), (2, _)] _
  have key := e_WM_dispatch_34 hw (G := G) (h0 := h)  F _ _ _ _ hf
  exact key
abbrev mi_Unit_isReady : MI := (⟨"WarpMill$Unit", "isReady", "(LWarpMill$Warp;I)Z"⟩, prog_9_method_8_code, 4, some .boolean, 0, 0)
def it_Unit_isReady_0 : List (Nat × ClassFile.Instr × Nat) := [(0, .aload_n 1, 1), (1, .getfield 72, 3), (4, .ifCond .eq (11), 3), (7, .aload_n 1, 1), (8, .getfield 75, 3), (11, .iload_n 2, 1), (12, .if_icmp .le (5), 3), (15, .iconst 0, 1), (16, .ireturn, 1), (17, .aload_n 1, 1), (18, .getfield 78, 3), (21, .astore_n 3, 1), (22, .aload_n 3, 1), (23, .ifnonnull (5), 3), (26, .iconst 1, 1), (27, .ireturn, 1), (28, .aload_n 3, 1), (29, .getfield 82, 3), (32, .ifCond .eq (11), 3), (35, .aload_n 0, 1), (36, .getfield 34, 3), (39, .iload_n 2, 1), (40, .if_icmp .gt (22), 3), (43, .aload_n 3, 1)]
theorem id_Unit_isReady_0 : ∀ q ∈ it_Unit_isReady_0, decode prog_9_method_8_code q.1 = .ok q.2 := by decide +kernel
theorem d_Unit_isReady_0 : decode prog_9_method_8_code 0 = .ok (.aload_n 1, 1) := id_Unit_isReady_0 (0, .aload_n 1, 1) (List.mem_of_getElem? (i := 0) rfl)
theorem d_Unit_isReady_1 : decode prog_9_method_8_code 1 = .ok (.getfield 72, 3) := id_Unit_isReady_0 (1, .getfield 72, 3) (List.mem_of_getElem? (i := 1) rfl)
theorem d_Unit_isReady_4 : decode prog_9_method_8_code 4 = .ok (.ifCond .eq (11), 3) := id_Unit_isReady_0 (4, .ifCond .eq (11), 3) (List.mem_of_getElem? (i := 2) rfl)
theorem d_Unit_isReady_7 : decode prog_9_method_8_code 7 = .ok (.aload_n 1, 1) := id_Unit_isReady_0 (7, .aload_n 1, 1) (List.mem_of_getElem? (i := 3) rfl)
theorem d_Unit_isReady_8 : decode prog_9_method_8_code 8 = .ok (.getfield 75, 3) := id_Unit_isReady_0 (8, .getfield 75, 3) (List.mem_of_getElem? (i := 4) rfl)
theorem d_Unit_isReady_11 : decode prog_9_method_8_code 11 = .ok (.iload_n 2, 1) := id_Unit_isReady_0 (11, .iload_n 2, 1) (List.mem_of_getElem? (i := 5) rfl)
theorem d_Unit_isReady_12 : decode prog_9_method_8_code 12 = .ok (.if_icmp .le (5), 3) := id_Unit_isReady_0 (12, .if_icmp .le (5), 3) (List.mem_of_getElem? (i := 6) rfl)
theorem d_Unit_isReady_15 : decode prog_9_method_8_code 15 = .ok (.iconst 0, 1) := id_Unit_isReady_0 (15, .iconst 0, 1) (List.mem_of_getElem? (i := 7) rfl)
theorem d_Unit_isReady_16 : decode prog_9_method_8_code 16 = .ok (.ireturn, 1) := id_Unit_isReady_0 (16, .ireturn, 1) (List.mem_of_getElem? (i := 8) rfl)
theorem d_Unit_isReady_17 : decode prog_9_method_8_code 17 = .ok (.aload_n 1, 1) := id_Unit_isReady_0 (17, .aload_n 1, 1) (List.mem_of_getElem? (i := 9) rfl)
theorem d_Unit_isReady_18 : decode prog_9_method_8_code 18 = .ok (.getfield 78, 3) := id_Unit_isReady_0 (18, .getfield 78, 3) (List.mem_of_getElem? (i := 10) rfl)
theorem d_Unit_isReady_21 : decode prog_9_method_8_code 21 = .ok (.astore_n 3, 1) := id_Unit_isReady_0 (21, .astore_n 3, 1) (List.mem_of_getElem? (i := 11) rfl)
theorem d_Unit_isReady_22 : decode prog_9_method_8_code 22 = .ok (.aload_n 3, 1) := id_Unit_isReady_0 (22, .aload_n 3, 1) (List.mem_of_getElem? (i := 12) rfl)
theorem d_Unit_isReady_23 : decode prog_9_method_8_code 23 = .ok (.ifnonnull (5), 3) := id_Unit_isReady_0 (23, .ifnonnull (5), 3) (List.mem_of_getElem? (i := 13) rfl)
theorem d_Unit_isReady_26 : decode prog_9_method_8_code 26 = .ok (.iconst 1, 1) := id_Unit_isReady_0 (26, .iconst 1, 1) (List.mem_of_getElem? (i := 14) rfl)
theorem d_Unit_isReady_27 : decode prog_9_method_8_code 27 = .ok (.ireturn, 1) := id_Unit_isReady_0 (27, .ireturn, 1) (List.mem_of_getElem? (i := 15) rfl)
theorem d_Unit_isReady_28 : decode prog_9_method_8_code 28 = .ok (.aload_n 3, 1) := id_Unit_isReady_0 (28, .aload_n 3, 1) (List.mem_of_getElem? (i := 16) rfl)
theorem d_Unit_isReady_29 : decode prog_9_method_8_code 29 = .ok (.getfield 82, 3) := id_Unit_isReady_0 (29, .getfield 82, 3) (List.mem_of_getElem? (i := 17) rfl)
theorem d_Unit_isReady_32 : decode prog_9_method_8_code 32 = .ok (.ifCond .eq (11), 3) := id_Unit_isReady_0 (32, .ifCond .eq (11), 3) (List.mem_of_getElem? (i := 18) rfl)
theorem d_Unit_isReady_35 : decode prog_9_method_8_code 35 = .ok (.aload_n 0, 1) := id_Unit_isReady_0 (35, .aload_n 0, 1) (List.mem_of_getElem? (i := 19) rfl)
theorem d_Unit_isReady_36 : decode prog_9_method_8_code 36 = .ok (.getfield 34, 3) := id_Unit_isReady_0 (36, .getfield 34, 3) (List.mem_of_getElem? (i := 20) rfl)
theorem d_Unit_isReady_39 : decode prog_9_method_8_code 39 = .ok (.iload_n 2, 1) := id_Unit_isReady_0 (39, .iload_n 2, 1) (List.mem_of_getElem? (i := 21) rfl)
theorem d_Unit_isReady_40 : decode prog_9_method_8_code 40 = .ok (.if_icmp .gt (22), 3) := id_Unit_isReady_0 (40, .if_icmp .gt (22), 3) (List.mem_of_getElem? (i := 22) rfl)
theorem d_Unit_isReady_43 : decode prog_9_method_8_code 43 = .ok (.aload_n 3, 1) := id_Unit_isReady_0 (43, .aload_n 3, 1) (List.mem_of_getElem? (i := 23) rfl)
def it_Unit_isReady_1 : List (Nat × ClassFile.Instr × Nat) := [(44, .getfield 88, 3), (47, .ifCond .eq (11), 3), (50, .aload_n 0, 1), (51, .getfield 37, 3), (54, .iload_n 2, 1), (55, .if_icmp .gt (7), 3), (58, .iconst 1, 1), (59, .goto (4), 3), (62, .iconst 0, 1), (63, .ireturn, 1)]
theorem id_Unit_isReady_1 : ∀ q ∈ it_Unit_isReady_1, decode prog_9_method_8_code q.1 = .ok q.2 := by decide +kernel
theorem d_Unit_isReady_44 : decode prog_9_method_8_code 44 = .ok (.getfield 88, 3) := id_Unit_isReady_1 (44, .getfield 88, 3) (List.mem_of_getElem? (i := 0) rfl)
theorem d_Unit_isReady_47 : decode prog_9_method_8_code 47 = .ok (.ifCond .eq (11), 3) := id_Unit_isReady_1 (47, .ifCond .eq (11), 3) (List.mem_of_getElem? (i := 1) rfl)
theorem d_Unit_isReady_50 : decode prog_9_method_8_code 50 = .ok (.aload_n 0, 1) := id_Unit_isReady_1 (50, .aload_n 0, 1) (List.mem_of_getElem? (i := 2) rfl)
theorem d_Unit_isReady_51 : decode prog_9_method_8_code 51 = .ok (.getfield 37, 3) := id_Unit_isReady_1 (51, .getfield 37, 3) (List.mem_of_getElem? (i := 3) rfl)
theorem d_Unit_isReady_54 : decode prog_9_method_8_code 54 = .ok (.iload_n 2, 1) := id_Unit_isReady_1 (54, .iload_n 2, 1) (List.mem_of_getElem? (i := 4) rfl)
theorem d_Unit_isReady_55 : decode prog_9_method_8_code 55 = .ok (.if_icmp .gt (7), 3) := id_Unit_isReady_1 (55, .if_icmp .gt (7), 3) (List.mem_of_getElem? (i := 5) rfl)
theorem d_Unit_isReady_58 : decode prog_9_method_8_code 58 = .ok (.iconst 1, 1) := id_Unit_isReady_1 (58, .iconst 1, 1) (List.mem_of_getElem? (i := 6) rfl)
theorem d_Unit_isReady_59 : decode prog_9_method_8_code 59 = .ok (.goto (4), 3) := id_Unit_isReady_1 (59, .goto (4), 3) (List.mem_of_getElem? (i := 7) rfl)
theorem d_Unit_isReady_62 : decode prog_9_method_8_code 62 = .ok (.iconst 0, 1) := id_Unit_isReady_1 (62, .iconst 0, 1) (List.mem_of_getElem? (i := 8) rfl)
theorem d_Unit_isReady_63 : decode prog_9_method_8_code 63 = .ok (.ireturn, 1) := id_Unit_isReady_1 (63, .ireturn, 1) (List.mem_of_getElem? (i := 9) rfl)
theorem wC_Unit_isReady : Cond.code ⟨"WarpMill$Unit", "isReady", "(LWarpMill$Warp;I)Z"⟩ prog_9_method_8_code 4 (some .boolean) ∈ lw_tb := mem_tb 822 (by decide +kernel) rfl
def b_Unit_isReady_58 (F : Nat)  (h : Hp) : Option (Int32 × Hp) := some ((1 : Int32), h)
set_option maxRecDepth 100000 in
set_option maxHeartbeats 4000000 in
theorem e_Unit_isReady_58 {G : Gl} {h0 : Hp} {F : Nat} {r : Int32} {h' : Hp}    {h : Hp} (hf : b_Unit_isReady_58 F  h = some (r, h')) : Go G mi_Unit_isReady h0 (pI r h') h 58 [] [] := by
  unfold b_Unit_isReady_58 at hf
  refine g_iconst 1 d_Unit_isReady_58 (by decide) ?_
  refine g_goto 63 d_Unit_isReady_59 (by decide) ?_
  exact Go.ret (some _) rOk_b1 rfl d_Unit_isReady_63 (pI_of hf)
def b_Unit_isReady_43 (F : Nat) (x0 : Nat) (x2 : Int32) (x3 : Nat) (h : Hp) : Option (Int32 × Hp) := gd (hK h x3 = 10) <| if (hI h 586 x3) = 0 then (b_Unit_isReady_58 F h) else (gd (hK h x0 = 7) <| if x2 < (hI h 391 x0) then (some ((0 : Int32), h)) else (b_Unit_isReady_58 F h))
set_option maxRecDepth 100000 in
set_option maxHeartbeats 4000000 in
theorem e_Unit_isReady_43 {G : Gl} {h0 : Hp} {F : Nat} {r : Int32} {h' : Hp}   {x0 : Nat} {x2 : Int32} {x3 : Nat} {h : Hp} (hf : b_Unit_isReady_43 F x0 x2 x3 h = some (r, h')) : Go G mi_Unit_isReady h0 (pI r h') h 43 [(0, .ref x0), (2, .int x2), (3, .ref x3)] [] := by
  unfold b_Unit_isReady_43 at hf
  refine g_aload_n d_Unit_isReady_43 rfl ?_
  obtain ⟨k_44, hf⟩ := gd_s hf
  refine fg_Word_usesShared lf_Unit_88 d_Unit_isReady_44 k_44 ?_
  refine g_if_eq 58 d_Unit_isReady_47 (by decide) (fun c_47 => ?_) (fun c_47 => ?_)
  · have hf := ifp hf c_47
    refine Go.locals [] rfl ?_
    have key := e_Unit_isReady_58 (G := G) (h0 := h0)  hf
    exact key
  · have hf := ifn hf c_47
    refine g_aload_n d_Unit_isReady_50 rfl ?_
    obtain ⟨k_51, hf⟩ := gd_s hf
    refine fg_Unit_sharedTick lf_Unit_37 d_Unit_isReady_51 k_51 ?_
    refine g_iload_n d_Unit_isReady_54 rfl ?_
    refine g_icmp_gt 62 d_Unit_isReady_55 (by decide) (fun c_55 => ?_) (fun c_55 => ?_)
    · have hf := ifp hf c_55
      refine g_iconst 0 d_Unit_isReady_62 (by decide) ?_
      exact Go.ret (some _) rOk_b0 rfl d_Unit_isReady_63 (pI_of hf)
    · have hf := ifn hf c_55
      refine Go.locals [] rfl ?_
      have key := e_Unit_isReady_58 (G := G) (h0 := h0)  hf
      exact key
def f_Unit_isReady (F : Nat) (x0 : Nat) (x1 : Option Nat) (x2 : Int32) (h : Hp) : Option (Int32 × Hp) := rq h x1 9 fun a_1 => if (hI h 518 a_1) = 0 then (some ((0 : Int32), h)) else (if (hI h 521 a_1) ≤ x2 then (pw (hR h 520 a_1) fun o_18 => nu o_18 (some ((1 : Int32), h)) fun a_23 => (gd (hK h a_23 = 10) <| if (hI h 584 a_23) = 0 then (b_Unit_isReady_43 F x0 x2 a_23 h) else (gd (hK h x0 = 7) <| if x2 < (hI h 390 x0) then (some ((0 : Int32), h)) else (b_Unit_isReady_43 F x0 x2 a_23 h)))) else (some ((0 : Int32), h)))
set_option maxRecDepth 100000 in
set_option maxHeartbeats 4000000 in
theorem e_Unit_isReady {G : Gl} {F : Nat} {r : Int32} {h' : Hp} {x0 : Nat} {x1 : Option Nat} {x2 : Int32} {h : Hp} (hf : f_Unit_isReady F x0 x1 x2 h = some (r, h')) : Ex G mi_Unit_isReady [.ref x0, va_rf x1, .int x2] h (pI r h') := by
  unfold f_Unit_isReady at hf
  refine Ex.of nmI (by decide) (by cases x1 <;> exact Nat.le_of_ble_eq_true rfl) ?_
  rw [show lv_args 0 [.ref x0, va_rf x1, .int x2] = [(0, .ref x0), (1, va_rf x1), (2, .int x2)] from by cases x1 <;> rfl]
  show Go G mi_Unit_isReady h _ h 0 [(0, .ref x0), (1, va_rf x1), (2, .int x2)] []
  refine g_aload_nq (r := x1) d_Unit_isReady_0 rfl ?_
  obtain ⟨a_1, rfl, k_1, hf⟩ := rq_s hf
  refine fg_Warp_group lf_Unit_72 d_Unit_isReady_1 k_1 ?_
  refine g_if_eq 15 d_Unit_isReady_4 (by decide) (fun c_4 => ?_) (fun c_4 => ?_)
  · have hf := ifp hf c_4
    refine g_iconst 0 d_Unit_isReady_15 (by decide) ?_
    exact Go.ret (some _) rOk_b0 rfl d_Unit_isReady_16 (pI_of hf)
  · have hf := ifn hf c_4
    refine g_aload_n d_Unit_isReady_7 rfl ?_
    refine fg_Warp_readyTick lf_Unit_75 d_Unit_isReady_8 k_1 ?_
    refine g_iload_n d_Unit_isReady_11 rfl ?_
    refine g_icmp_le 17 d_Unit_isReady_12 (by decide) (fun c_12 => ?_) (fun c_12 => ?_)
    · have hf := ifp hf c_12
      refine g_aload_n d_Unit_isReady_17 rfl ?_
      obtain ⟨o_18, e_18, hf⟩ := pw_s hf
      refine fg_Warp_word lf_Unit_78 d_Unit_isReady_18 k_1 ?_
      refine Go.vr e_18 ?_
      refine g_astore_nq (r := o_18) d_Unit_isReady_21 (by decide) ?_
      show Go _ _ _ _ _ _ [(0, _), (1, _), (2, _), (3, _)] _
      refine g_aload_nq (r := o_18) d_Unit_isReady_22 rfl ?_
      refine g_ifnonnull (r := o_18) 28 d_Unit_isReady_23 (by decide) (fun a_23 c_23 => ?_) (fun c_23 => ?_)
      · subst c_23
        have hf := nu_s hf
        refine g_aload_n d_Unit_isReady_28 rfl ?_
        obtain ⟨k_29, hf⟩ := gd_s hf
        refine fg_Word_divides lf_Unit_82 d_Unit_isReady_29 k_29 ?_
        refine g_if_eq 43 d_Unit_isReady_32 (by decide) (fun c_32 => ?_) (fun c_32 => ?_)
        · have hf := ifp hf c_32
          refine Go.locals [0, 2, 3] rfl ?_
          have key := e_Unit_isReady_43 (G := G) (h0 := h)  hf
          exact key
        · have hf := ifn hf c_32
          refine g_aload_n d_Unit_isReady_35 rfl ?_
          obtain ⟨k_36, hf⟩ := gd_s hf
          refine fg_Unit_dividerTick lf_Unit_34 d_Unit_isReady_36 k_36 ?_
          refine g_iload_n d_Unit_isReady_39 rfl ?_
          refine g_icmp_gt 62 d_Unit_isReady_40 (by decide) (fun c_40 => ?_) (fun c_40 => ?_)
          · have hf := ifp hf c_40
            refine g_iconst 0 d_Unit_isReady_62 (by decide) ?_
            exact Go.ret (some _) rOk_b0 rfl d_Unit_isReady_63 (pI_of hf)
          · have hf := ifn hf c_40
            refine Go.locals [0, 2, 3] rfl ?_
            have key := e_Unit_isReady_43 (G := G) (h0 := h)  hf
            exact key
      · subst c_23
        have hf := nu_n hf
        refine g_iconst 1 d_Unit_isReady_26 (by decide) ?_
        exact Go.ret (some _) rOk_b1 rfl d_Unit_isReady_27 (pI_of hf)
    · have hf := ifn hf c_12
      refine g_iconst 0 d_Unit_isReady_15 (by decide) ?_
      exact Go.ret (some _) rOk_b0 rfl d_Unit_isReady_16 (pI_of hf)
abbrev mi_Unit_choose : MI := (⟨"WarpMill$Unit", "choose", "(I)LWarpMill$Warp;"⟩, prog_9_method_7_code, 5, some (.object "WarpMill$Warp"), 1, 23)
def it_Unit_choose_0 : List (Nat × ClassFile.Instr × Nat) := [(0, .aload_n 0, 1), (1, .getfield 28, 3), (4, .istore_n 2, 1), (5, .iconst 0, 1), (6, .istore_n 3, 1), (7, .iload_n 3, 1), (8, .aload_n 0, 1), (9, .getfield 21, 3), (12, .if_icmp .ge (57), 3), (15, .iload_n 2, 1), (16, .iconst 1, 1), (17, .iadd, 1), (18, .aload_n 0, 1), (19, .getfield 21, 3), (22, .if_icmp .ge (9), 3), (25, .iload_n 2, 1), (26, .iconst 1, 1), (27, .iadd, 1), (28, .goto (4), 3), (31, .iconst 0, 1), (32, .istore_n 2, 1), (33, .aload_n 0, 1), (34, .iload_n 2, 1), (35, .invokevirtual 44, 3)]
theorem id_Unit_choose_0 : ∀ q ∈ it_Unit_choose_0, decode prog_9_method_7_code q.1 = .ok q.2 := by decide +kernel
theorem d_Unit_choose_0 : decode prog_9_method_7_code 0 = .ok (.aload_n 0, 1) := id_Unit_choose_0 (0, .aload_n 0, 1) (List.mem_of_getElem? (i := 0) rfl)
theorem d_Unit_choose_1 : decode prog_9_method_7_code 1 = .ok (.getfield 28, 3) := id_Unit_choose_0 (1, .getfield 28, 3) (List.mem_of_getElem? (i := 1) rfl)
theorem d_Unit_choose_4 : decode prog_9_method_7_code 4 = .ok (.istore_n 2, 1) := id_Unit_choose_0 (4, .istore_n 2, 1) (List.mem_of_getElem? (i := 2) rfl)
theorem d_Unit_choose_5 : decode prog_9_method_7_code 5 = .ok (.iconst 0, 1) := id_Unit_choose_0 (5, .iconst 0, 1) (List.mem_of_getElem? (i := 3) rfl)
theorem d_Unit_choose_6 : decode prog_9_method_7_code 6 = .ok (.istore_n 3, 1) := id_Unit_choose_0 (6, .istore_n 3, 1) (List.mem_of_getElem? (i := 4) rfl)
theorem d_Unit_choose_7 : decode prog_9_method_7_code 7 = .ok (.iload_n 3, 1) := id_Unit_choose_0 (7, .iload_n 3, 1) (List.mem_of_getElem? (i := 5) rfl)
theorem d_Unit_choose_8 : decode prog_9_method_7_code 8 = .ok (.aload_n 0, 1) := id_Unit_choose_0 (8, .aload_n 0, 1) (List.mem_of_getElem? (i := 6) rfl)
theorem d_Unit_choose_9 : decode prog_9_method_7_code 9 = .ok (.getfield 21, 3) := id_Unit_choose_0 (9, .getfield 21, 3) (List.mem_of_getElem? (i := 7) rfl)
theorem d_Unit_choose_12 : decode prog_9_method_7_code 12 = .ok (.if_icmp .ge (57), 3) := id_Unit_choose_0 (12, .if_icmp .ge (57), 3) (List.mem_of_getElem? (i := 8) rfl)
theorem d_Unit_choose_15 : decode prog_9_method_7_code 15 = .ok (.iload_n 2, 1) := id_Unit_choose_0 (15, .iload_n 2, 1) (List.mem_of_getElem? (i := 9) rfl)
theorem d_Unit_choose_16 : decode prog_9_method_7_code 16 = .ok (.iconst 1, 1) := id_Unit_choose_0 (16, .iconst 1, 1) (List.mem_of_getElem? (i := 10) rfl)
theorem d_Unit_choose_17 : decode prog_9_method_7_code 17 = .ok (.iadd, 1) := id_Unit_choose_0 (17, .iadd, 1) (List.mem_of_getElem? (i := 11) rfl)
theorem d_Unit_choose_18 : decode prog_9_method_7_code 18 = .ok (.aload_n 0, 1) := id_Unit_choose_0 (18, .aload_n 0, 1) (List.mem_of_getElem? (i := 12) rfl)
theorem d_Unit_choose_19 : decode prog_9_method_7_code 19 = .ok (.getfield 21, 3) := id_Unit_choose_0 (19, .getfield 21, 3) (List.mem_of_getElem? (i := 13) rfl)
theorem d_Unit_choose_22 : decode prog_9_method_7_code 22 = .ok (.if_icmp .ge (9), 3) := id_Unit_choose_0 (22, .if_icmp .ge (9), 3) (List.mem_of_getElem? (i := 14) rfl)
theorem d_Unit_choose_25 : decode prog_9_method_7_code 25 = .ok (.iload_n 2, 1) := id_Unit_choose_0 (25, .iload_n 2, 1) (List.mem_of_getElem? (i := 15) rfl)
theorem d_Unit_choose_26 : decode prog_9_method_7_code 26 = .ok (.iconst 1, 1) := id_Unit_choose_0 (26, .iconst 1, 1) (List.mem_of_getElem? (i := 16) rfl)
theorem d_Unit_choose_27 : decode prog_9_method_7_code 27 = .ok (.iadd, 1) := id_Unit_choose_0 (27, .iadd, 1) (List.mem_of_getElem? (i := 17) rfl)
theorem d_Unit_choose_28 : decode prog_9_method_7_code 28 = .ok (.goto (4), 3) := id_Unit_choose_0 (28, .goto (4), 3) (List.mem_of_getElem? (i := 18) rfl)
theorem d_Unit_choose_31 : decode prog_9_method_7_code 31 = .ok (.iconst 0, 1) := id_Unit_choose_0 (31, .iconst 0, 1) (List.mem_of_getElem? (i := 19) rfl)
theorem d_Unit_choose_32 : decode prog_9_method_7_code 32 = .ok (.istore_n 2, 1) := id_Unit_choose_0 (32, .istore_n 2, 1) (List.mem_of_getElem? (i := 20) rfl)
theorem d_Unit_choose_33 : decode prog_9_method_7_code 33 = .ok (.aload_n 0, 1) := id_Unit_choose_0 (33, .aload_n 0, 1) (List.mem_of_getElem? (i := 21) rfl)
theorem d_Unit_choose_34 : decode prog_9_method_7_code 34 = .ok (.iload_n 2, 1) := id_Unit_choose_0 (34, .iload_n 2, 1) (List.mem_of_getElem? (i := 22) rfl)
theorem d_Unit_choose_35 : decode prog_9_method_7_code 35 = .ok (.invokevirtual 44, 3) := id_Unit_choose_0 (35, .invokevirtual 44, 3) (List.mem_of_getElem? (i := 23) rfl)
def it_Unit_choose_1 : List (Nat × ClassFile.Instr × Nat) := [(38, .astore 4, 2), (40, .aload 4, 2), (42, .ifnull (21), 3), (45, .aload_n 0, 1), (46, .aload 4, 2), (48, .iload_n 1, 1), (49, .invokevirtual 68, 3), (52, .ifCond .eq (11), 3), (55, .aload_n 0, 1), (56, .iload_n 2, 1), (57, .putfield 28, 3), (60, .aload 4, 2), (62, .areturn, 1), (63, .iinc 3 (1), 3), (66, .goto (-59), 3), (69, .aconst_null, 1), (70, .areturn, 1)]
theorem id_Unit_choose_1 : ∀ q ∈ it_Unit_choose_1, decode prog_9_method_7_code q.1 = .ok q.2 := by decide +kernel
theorem d_Unit_choose_38 : decode prog_9_method_7_code 38 = .ok (.astore 4, 2) := id_Unit_choose_1 (38, .astore 4, 2) (List.mem_of_getElem? (i := 0) rfl)
theorem d_Unit_choose_40 : decode prog_9_method_7_code 40 = .ok (.aload 4, 2) := id_Unit_choose_1 (40, .aload 4, 2) (List.mem_of_getElem? (i := 1) rfl)
theorem d_Unit_choose_42 : decode prog_9_method_7_code 42 = .ok (.ifnull (21), 3) := id_Unit_choose_1 (42, .ifnull (21), 3) (List.mem_of_getElem? (i := 2) rfl)
theorem d_Unit_choose_45 : decode prog_9_method_7_code 45 = .ok (.aload_n 0, 1) := id_Unit_choose_1 (45, .aload_n 0, 1) (List.mem_of_getElem? (i := 3) rfl)
theorem d_Unit_choose_46 : decode prog_9_method_7_code 46 = .ok (.aload 4, 2) := id_Unit_choose_1 (46, .aload 4, 2) (List.mem_of_getElem? (i := 4) rfl)
theorem d_Unit_choose_48 : decode prog_9_method_7_code 48 = .ok (.iload_n 1, 1) := id_Unit_choose_1 (48, .iload_n 1, 1) (List.mem_of_getElem? (i := 5) rfl)
theorem d_Unit_choose_49 : decode prog_9_method_7_code 49 = .ok (.invokevirtual 68, 3) := id_Unit_choose_1 (49, .invokevirtual 68, 3) (List.mem_of_getElem? (i := 6) rfl)
theorem d_Unit_choose_52 : decode prog_9_method_7_code 52 = .ok (.ifCond .eq (11), 3) := id_Unit_choose_1 (52, .ifCond .eq (11), 3) (List.mem_of_getElem? (i := 7) rfl)
theorem d_Unit_choose_55 : decode prog_9_method_7_code 55 = .ok (.aload_n 0, 1) := id_Unit_choose_1 (55, .aload_n 0, 1) (List.mem_of_getElem? (i := 8) rfl)
theorem d_Unit_choose_56 : decode prog_9_method_7_code 56 = .ok (.iload_n 2, 1) := id_Unit_choose_1 (56, .iload_n 2, 1) (List.mem_of_getElem? (i := 9) rfl)
theorem d_Unit_choose_57 : decode prog_9_method_7_code 57 = .ok (.putfield 28, 3) := id_Unit_choose_1 (57, .putfield 28, 3) (List.mem_of_getElem? (i := 10) rfl)
theorem d_Unit_choose_60 : decode prog_9_method_7_code 60 = .ok (.aload 4, 2) := id_Unit_choose_1 (60, .aload 4, 2) (List.mem_of_getElem? (i := 11) rfl)
theorem d_Unit_choose_62 : decode prog_9_method_7_code 62 = .ok (.areturn, 1) := id_Unit_choose_1 (62, .areturn, 1) (List.mem_of_getElem? (i := 12) rfl)
theorem d_Unit_choose_63 : decode prog_9_method_7_code 63 = .ok (.iinc 3 (1), 3) := id_Unit_choose_1 (63, .iinc 3 (1), 3) (List.mem_of_getElem? (i := 13) rfl)
theorem d_Unit_choose_66 : decode prog_9_method_7_code 66 = .ok (.goto (-59), 3) := id_Unit_choose_1 (66, .goto (-59), 3) (List.mem_of_getElem? (i := 14) rfl)
theorem d_Unit_choose_69 : decode prog_9_method_7_code 69 = .ok (.aconst_null, 1) := id_Unit_choose_1 (69, .aconst_null, 1) (List.mem_of_getElem? (i := 15) rfl)
theorem d_Unit_choose_70 : decode prog_9_method_7_code 70 = .ok (.areturn, 1) := id_Unit_choose_1 (70, .areturn, 1) (List.mem_of_getElem? (i := 16) rfl)
theorem wC_Unit_choose : Cond.code ⟨"WarpMill$Unit", "choose", "(I)LWarpMill$Warp;"⟩ prog_9_method_7_code 5 (some (.object "WarpMill$Warp")) ∈ lw_tb := mem_tb 818 (by decide +kernel) rfl
theorem cw_Unit_choose_Unit_busy : cW mi_Unit_choose mi_Unit_busy 1 := ⟨wC_Unit_busy, wi_Unit, ⟨by decide, by decide, by decide +kernel⟩, by decide, by decide⟩
theorem cw_Unit_choose_Unit_isReady : cW mi_Unit_choose mi_Unit_isReady 2 := ⟨wC_Unit_isReady, wi_Unit, ⟨by decide, by decide, by decide +kernel⟩, by decide, by decide⟩
def b_Unit_choose_32 (F : Nat) (k7 : Nat → Int32 → Int32 → Int32 → Hp → Option (Option Nat × Hp)) (x0 : Nat) (x1 : Int32) (x3 : Int32) (s0 : Int32) (h : Hp) : Option (Option Nat × Hp) := gd (hK h x0 = 7) <| cl (f_Unit_busy F x0 s0 h) fun o_35_2 h_35_2 => nu o_35_2 (k7 x0 x1 s0 (x3 + 1) h_35_2) fun a_42 => (gd (hK h_35_2 x0 = 7) <| cl (f_Unit_isReady F x0 (some a_42) x1 h_35_2) fun v_49_2 h_49_2 => if v_49_2 = 0 then (k7 x0 x1 s0 (x3 + 1) h_49_2) else (gd (hK h_49_2 x0 = 7) <| pw (sI h_49_2 388 x0 s0) fun h_57_2 => some ((some a_42), h_57_2)))
set_option maxRecDepth 100000 in
set_option maxHeartbeats 4000000 in
theorem e_Unit_choose_32 {G : Gl} (hw : gF G) {h0 : Hp} {F : Nat} {r : Option Nat} {h' : Hp} {k7 : Nat → Int32 → Int32 → Int32 → Hp → Option (Option Nat × Hp)} (hk7 : ∀ (y0 : Nat) (y1 : Int32) (y2 : Int32) (y3 : Int32) (hh : Hp), k7 y0 y1 y2 y3 hh = some (r, h') → Go G mi_Unit_choose h0 (pR r h') hh 7 [(0, .ref y0), (1, .int y1), (2, .int y2), (3, .int y3)] []) {x0 : Nat} {x1 : Int32} {x3 : Int32} {s0 : Int32} {h : Hp} (hf : b_Unit_choose_32 F k7 x0 x1 x3 s0 h = some (r, h')) : Go G mi_Unit_choose h0 (pR r h') h 32 [(0, .ref x0), (1, .int x1), (3, .int x3)] [.int s0] := by
  unfold b_Unit_choose_32 at hf
  refine g_istore_n d_Unit_choose_32 (by decide) ?_
  show Go _ _ _ _ _ _ [(0, _), (1, _), (2, _), (3, _)] _
  refine g_aload_n d_Unit_choose_33 rfl ?_
  refine g_iload_n d_Unit_choose_34 rfl ?_
  obtain ⟨k_35, hf⟩ := gd_s hf
  obtain ⟨o_35_2, h_35_2, e_35_2, hf⟩ := cl_s hf
  refine g_callV (mz := mi_Unit_busy) (e_Unit_busy e_35_2) cw_Unit_choose_Unit_busy lm_Unit_44 wI_Unit_busy wV_Unit_busy (ci := 6) k_35 (by decide) rfl rfl d_Unit_choose_35 rfl rfl (by first | exact Nat.le_of_ble_eq_true rfl | simp [cat_rf, Value.category]) (fun r1 h1 hp hro => ?_)
  obtain ⟨rfl, rfl⟩ := hp
  dsimp only [Option.toList_some, Option.toList_none, List.cons_append, List.nil_append]
  refine g_astoreq (r := o_35_2) d_Unit_choose_38 (by decide) ?_
  show Go _ _ _ _ _ _ [(0, _), (1, _), (2, _), (3, _), (4, _)] _
  refine g_aloadq (r := o_35_2) d_Unit_choose_40 rfl ?_
  refine g_ifnull (r := o_35_2) 63 d_Unit_choose_42 (by decide) (fun c_42 => ?_) (fun a_42 c_42 => ?_)
  · subst c_42
    have hf := nu_n hf
    refine g_iinc (_ + 1) d_Unit_choose_63 rfl (by rfl) (by decide) ?_
    show Go _ _ _ _ _ _ [(0, _), (1, _), (2, _), (3, _), (4, _)] _
    refine g_goto 7 d_Unit_choose_66 (by decide) ?_
    refine Go.locals [0, 1, 2, 3] rfl ?_
    exact hk7 _ _ _ _ _ hf
  · subst c_42
    have hf := nu_s hf
    refine g_aload_n d_Unit_choose_45 rfl ?_
    refine g_aload d_Unit_choose_46 rfl ?_
    refine g_iload_n d_Unit_choose_48 rfl ?_
    obtain ⟨k_49, hf⟩ := gd_s hf
    obtain ⟨v_49_2, h_49_2, e_49_2, hf⟩ := cl_s hf
    refine g_callV (mz := mi_Unit_isReady) (e_Unit_isReady e_49_2) cw_Unit_choose_Unit_isReady lm_Unit_68 wI_Unit_isReady wV_Unit_isReady (ci := 6) k_49 (by decide) rfl rfl d_Unit_choose_49 rfl rfl (by first | exact Nat.le_of_ble_eq_true rfl | simp [cat_rf, Value.category]) (fun r1 h1 hp hro => ?_)
    obtain ⟨rfl, rfl⟩ := hp
    dsimp only [Option.toList_some, Option.toList_none, List.cons_append, List.nil_append]
    refine g_if_eq 63 d_Unit_choose_52 (by decide) (fun c_52 => ?_) (fun c_52 => ?_)
    · have hf := ifp hf c_52
      refine g_iinc (_ + 1) d_Unit_choose_63 rfl (by rfl) (by decide) ?_
      show Go _ _ _ _ _ _ [(0, _), (1, _), (2, _), (3, _), (4, _)] _
      refine g_goto 7 d_Unit_choose_66 (by decide) ?_
      refine Go.locals [0, 1, 2, 3] rfl ?_
      exact hk7 _ _ _ _ _ hf
    · have hf := ifn hf c_52
      refine g_aload_n d_Unit_choose_55 rfl ?_
      refine g_iload_n d_Unit_choose_56 rfl ?_
      obtain ⟨k_57, hf⟩ := gd_s hf
      refine fp_Unit_last hw lf_Unit_28 d_Unit_choose_57 k_57 ?_
      have hf := pw_b hf
      refine g_aload d_Unit_choose_60 rfl ?_
      exact Go.ret (some (.ref _)) (rOk_r _) rfl d_Unit_choose_62 (pR_of hf)
def b_Unit_choose_7 (F : Nat) : Nat → Nat → Int32 → Int32 → Int32 → Hp → Option (Option Nat × Hp)
  | 0 => fun _ _ _ _ _ => none
  | n + 1 => fun x0 x1 x2 x3 h => gd (hK h x0 = 7) <| if (hI h 386 x0) ≤ x3 then (some (none, h)) else (if (hI h 386 x0) ≤ (x2 + (1 : Int32)) then (b_Unit_choose_32 F (b_Unit_choose_7 F n) x0 x1 x3 (0 : Int32) h) else (b_Unit_choose_32 F (b_Unit_choose_7 F n) x0 x1 x3 (x2 + (1 : Int32)) h))
set_option maxRecDepth 100000 in
set_option maxHeartbeats 4000000 in
theorem e_Unit_choose_7 {G : Gl} (hw : gF G) {h0 : Hp} {F : Nat} {r : Option Nat} {h' : Hp}   : ∀ (n : Nat) (x0 : Nat) (x1 : Int32) (x2 : Int32) (x3 : Int32) (h : Hp), b_Unit_choose_7 F n x0 x1 x2 x3 h = some (r, h') → Go G mi_Unit_choose h0 (pR r h') h 7 [(0, .ref x0), (1, .int x1), (2, .int x2), (3, .int x3)] [] := by
  intro n
  induction n with
  | zero =>
    intro _ _ _ _ _ hf
    exact nm_s hf
  | succ n ih =>
    intro x0 x1 x2 x3 h hf
    unfold b_Unit_choose_7 at hf
    refine g_iload_n d_Unit_choose_7 rfl ?_
    refine g_aload_n d_Unit_choose_8 rfl ?_
    obtain ⟨k_9, hf⟩ := gd_s hf
    refine fg_Unit_slots lf_Unit_21 d_Unit_choose_9 k_9 ?_
    refine g_icmp_ge 69 d_Unit_choose_12 (by decide) (fun c_12 => ?_) (fun c_12 => ?_)
    · have hf := ifp hf c_12
      refine g_null d_Unit_choose_69 ?_
      exact Go.ret (some .null) rOk_n rfl d_Unit_choose_70 (pR_of hf)
    · have hf := ifn hf c_12
      refine g_iload_n d_Unit_choose_15 rfl ?_
      refine g_iconst 1 d_Unit_choose_16 (by decide) ?_
      refine g_iadd d_Unit_choose_17 ?_
      refine g_aload_n d_Unit_choose_18 rfl ?_
      refine fg_Unit_slots lf_Unit_21 d_Unit_choose_19 k_9 ?_
      refine g_icmp_ge 31 d_Unit_choose_22 (by decide) (fun c_22 => ?_) (fun c_22 => ?_)
      · have hf := ifp hf c_22
        refine g_iconst 0 d_Unit_choose_31 (by decide) ?_
        refine Go.locals [0, 1, 3] rfl ?_
        have key := e_Unit_choose_32 hw (G := G) (h0 := h0) (fun _ _ _ _ _ q => ih _ _ _ _ _ q) hf
        exact key
      · have hf := ifn hf c_22
        refine g_iload_n d_Unit_choose_25 rfl ?_
        refine g_iconst 1 d_Unit_choose_26 (by decide) ?_
        refine g_iadd d_Unit_choose_27 ?_
        refine g_goto 32 d_Unit_choose_28 (by decide) ?_
        refine Go.locals [0, 1, 3] rfl ?_
        have key := e_Unit_choose_32 hw (G := G) (h0 := h0) (fun _ _ _ _ _ q => ih _ _ _ _ _ q) hf
        exact key
def f_Unit_choose (F : Nat) (x0 : Nat) (x1 : Int32) (h : Hp) : Option (Option Nat × Hp) := gd (hK h x0 = 7) <| b_Unit_choose_7 F F x0 x1 (hI h 388 x0) (0 : Int32) h
set_option maxRecDepth 100000 in
set_option maxHeartbeats 4000000 in
theorem e_Unit_choose {G : Gl} (hw : gF G) {F : Nat} {r : Option Nat} {h' : Hp} {x0 : Nat} {x1 : Int32} {h : Hp} (hf : f_Unit_choose F x0 x1 h = some (r, h')) : Ex G mi_Unit_choose [.ref x0, .int x1] h (pR r h') := by
  unfold f_Unit_choose at hf
  refine Ex.of nmR (by decide) (Nat.le_of_ble_eq_true rfl) ?_
  show Go G mi_Unit_choose h _ h 0 [(0, .ref x0), (1, .int x1)] []
  refine g_aload_n d_Unit_choose_0 rfl ?_
  obtain ⟨k_1, hf⟩ := gd_s hf
  refine fg_Unit_last lf_Unit_28 d_Unit_choose_1 k_1 ?_
  refine g_istore_n d_Unit_choose_4 (by decide) ?_
  show Go _ _ _ _ _ _ [(0, _), (1, _), (2, _)] _
  refine g_iconst 0 d_Unit_choose_5 (by decide) ?_
  refine g_istore_n d_Unit_choose_6 (by decide) ?_
  show Go _ _ _ _ _ _ [(0, _), (1, _), (2, _), (3, _)] _
  have key := e_Unit_choose_7 hw (G := G) (h0 := h)  F _ _ _ _ _ hf
  exact key
abbrev mi_WM_leastOf : MI := (⟨"WarpMill", "leastOf", "(I)I"⟩, prog_1_method_24_code, 2, some .int, 1, 21)
def it_WM_leastOf_0 : List (Nat × ClassFile.Instr × Nat) := [(0, .iconst 0, 1), (1, .istore_n 1, 1), (2, .iload_n 1, 1), (3, .bipush (32), 2), (5, .if_icmp .ge (19), 3), (8, .iload_n 0, 1), (9, .iload_n 1, 1), (10, .invokestatic 339, 3), (13, .ifCond .eq (5), 3), (16, .iload_n 1, 1), (17, .ireturn, 1), (18, .iinc 1 (1), 3), (21, .goto (-19), 3), (24, .iconst 0, 1), (25, .ireturn, 1)]
theorem id_WM_leastOf_0 : ∀ q ∈ it_WM_leastOf_0, decode prog_1_method_24_code q.1 = .ok q.2 := by decide +kernel
theorem d_WM_leastOf_0 : decode prog_1_method_24_code 0 = .ok (.iconst 0, 1) := id_WM_leastOf_0 (0, .iconst 0, 1) (List.mem_of_getElem? (i := 0) rfl)
theorem d_WM_leastOf_1 : decode prog_1_method_24_code 1 = .ok (.istore_n 1, 1) := id_WM_leastOf_0 (1, .istore_n 1, 1) (List.mem_of_getElem? (i := 1) rfl)
theorem d_WM_leastOf_2 : decode prog_1_method_24_code 2 = .ok (.iload_n 1, 1) := id_WM_leastOf_0 (2, .iload_n 1, 1) (List.mem_of_getElem? (i := 2) rfl)
theorem d_WM_leastOf_3 : decode prog_1_method_24_code 3 = .ok (.bipush (32), 2) := id_WM_leastOf_0 (3, .bipush (32), 2) (List.mem_of_getElem? (i := 3) rfl)
theorem d_WM_leastOf_5 : decode prog_1_method_24_code 5 = .ok (.if_icmp .ge (19), 3) := id_WM_leastOf_0 (5, .if_icmp .ge (19), 3) (List.mem_of_getElem? (i := 4) rfl)
theorem d_WM_leastOf_8 : decode prog_1_method_24_code 8 = .ok (.iload_n 0, 1) := id_WM_leastOf_0 (8, .iload_n 0, 1) (List.mem_of_getElem? (i := 5) rfl)
theorem d_WM_leastOf_9 : decode prog_1_method_24_code 9 = .ok (.iload_n 1, 1) := id_WM_leastOf_0 (9, .iload_n 1, 1) (List.mem_of_getElem? (i := 6) rfl)
theorem d_WM_leastOf_10 : decode prog_1_method_24_code 10 = .ok (.invokestatic 339, 3) := id_WM_leastOf_0 (10, .invokestatic 339, 3) (List.mem_of_getElem? (i := 7) rfl)
theorem d_WM_leastOf_13 : decode prog_1_method_24_code 13 = .ok (.ifCond .eq (5), 3) := id_WM_leastOf_0 (13, .ifCond .eq (5), 3) (List.mem_of_getElem? (i := 8) rfl)
theorem d_WM_leastOf_16 : decode prog_1_method_24_code 16 = .ok (.iload_n 1, 1) := id_WM_leastOf_0 (16, .iload_n 1, 1) (List.mem_of_getElem? (i := 9) rfl)
theorem d_WM_leastOf_17 : decode prog_1_method_24_code 17 = .ok (.ireturn, 1) := id_WM_leastOf_0 (17, .ireturn, 1) (List.mem_of_getElem? (i := 10) rfl)
theorem d_WM_leastOf_18 : decode prog_1_method_24_code 18 = .ok (.iinc 1 (1), 3) := id_WM_leastOf_0 (18, .iinc 1 (1), 3) (List.mem_of_getElem? (i := 11) rfl)
theorem d_WM_leastOf_21 : decode prog_1_method_24_code 21 = .ok (.goto (-19), 3) := id_WM_leastOf_0 (21, .goto (-19), 3) (List.mem_of_getElem? (i := 12) rfl)
theorem d_WM_leastOf_24 : decode prog_1_method_24_code 24 = .ok (.iconst 0, 1) := id_WM_leastOf_0 (24, .iconst 0, 1) (List.mem_of_getElem? (i := 13) rfl)
theorem d_WM_leastOf_25 : decode prog_1_method_24_code 25 = .ok (.ireturn, 1) := id_WM_leastOf_0 (25, .ireturn, 1) (List.mem_of_getElem? (i := 14) rfl)
theorem wC_WM_leastOf : Cond.code ⟨"WarpMill", "leastOf", "(I)I"⟩ prog_1_method_24_code 2 (some .int) ∈ lw_tb := mem_tb 829 (by decide +kernel) rfl
theorem cw_WM_leastOf_WM_in : cW mi_WM_leastOf mi_WM_in 2 := ⟨wC_WM_in, wi_WM, ⟨by decide, by decide, by decide +kernel⟩, by decide, by decide⟩
def b_WM_leastOf_2 (F : Nat) : Nat → Int32 → Int32 → Hp → Option (Int32 × Hp)
  | 0 => fun _ _ _ => none
  | n + 1 => fun x0 x1 h => if (32 : Int32) ≤ x1 then (some ((0 : Int32), h)) else (cl (f_WM_in F x0 x1 h) fun v_10 h_10 => if v_10 = 0 then (b_WM_leastOf_2 F n x0 (x1 + 1) h_10) else (some (x1, h_10)))
set_option maxRecDepth 100000 in
set_option maxHeartbeats 4000000 in
theorem e_WM_leastOf_2 {G : Gl} {h0 : Hp} {F : Nat} {r : Int32} {h' : Hp}   : ∀ (n : Nat) (x0 : Int32) (x1 : Int32) (h : Hp), b_WM_leastOf_2 F n x0 x1 h = some (r, h') → Go G mi_WM_leastOf h0 (pI r h') h 2 [(0, .int x0), (1, .int x1)] [] := by
  intro n
  induction n with
  | zero =>
    intro _ _ _ hf
    exact nm_s hf
  | succ n ih =>
    intro x0 x1 h hf
    unfold b_WM_leastOf_2 at hf
    refine g_iload_n d_WM_leastOf_2 rfl ?_
    refine g_bipush (32) d_WM_leastOf_3 (by decide) ?_
    refine g_icmp_ge 24 d_WM_leastOf_5 (by decide) (fun c_5 => ?_) (fun c_5 => ?_)
    · have hf := ifp hf c_5
      refine g_iconst 0 d_WM_leastOf_24 (by decide) ?_
      exact Go.ret (some _) (rOk_i _) rfl d_WM_leastOf_25 (pI_of hf)
    · have hf := ifn hf c_5
      refine g_iload_n d_WM_leastOf_8 rfl ?_
      refine g_iload_n d_WM_leastOf_9 rfl ?_
      obtain ⟨v_10, h_10, e_10, hf⟩ := cl_s hf
      refine g_callS (mz := mi_WM_in) (e_WM_in e_10) cw_WM_leastOf_WM_in lm_WM_339 wS_WM_in d_WM_leastOf_10 rfl rfl (by first | exact Nat.le_of_ble_eq_true rfl | simp [cat_rf, Value.category]) (fun r1 h1 hp hro => ?_)
      obtain ⟨rfl, rfl⟩ := hp
      dsimp only [Option.toList_some, Option.toList_none, List.cons_append, List.nil_append]
      refine g_if_eq 18 d_WM_leastOf_13 (by decide) (fun c_13 => ?_) (fun c_13 => ?_)
      · have hf := ifp hf c_13
        refine g_iinc (_ + 1) d_WM_leastOf_18 rfl (by rfl) (by decide) ?_
        show Go _ _ _ _ _ _ [(0, _), (1, _)] _
        refine g_goto 2 d_WM_leastOf_21 (by decide) ?_
        exact ih _ _ _ hf
      · have hf := ifn hf c_13
        refine g_iload_n d_WM_leastOf_16 rfl ?_
        exact Go.ret (some _) (rOk_i _) rfl d_WM_leastOf_17 (pI_of hf)
def f_WM_leastOf (F : Nat) (x0 : Int32) (h : Hp) : Option (Int32 × Hp) := b_WM_leastOf_2 F F x0 (0 : Int32) h
set_option maxRecDepth 100000 in
set_option maxHeartbeats 4000000 in
theorem e_WM_leastOf {G : Gl} {F : Nat} {r : Int32} {h' : Hp} {x0 : Int32} {h : Hp} (hf : f_WM_leastOf F x0 h = some (r, h')) : Ex G mi_WM_leastOf [.int x0] h (pI r h') := by
  unfold f_WM_leastOf at hf
  refine Ex.of nmI (by decide) (Nat.le_of_ble_eq_true rfl) ?_
  show Go G mi_WM_leastOf h _ h 0 [(0, .int x0)] []
  refine g_iconst 0 d_WM_leastOf_0 (by decide) ?_
  refine g_istore_n d_WM_leastOf_1 (by decide) ?_
  show Go _ _ _ _ _ _ [(0, _), (1, _)] _
  have key := e_WM_leastOf_2 (G := G) (h0 := h)  F _ _ _ hf
  exact key
abbrev mi_Tally_trap : MI := (⟨"WarpMill$Tally", "trap", "(ILWarpMill$Warp;I)V"⟩, prog_8_method_5_code, 4, none, 0, 0)
def it_Tally_trap_0 : List (Nat × ClassFile.Instr × Nat) := [(0, .aload_n 0, 1), (1, .iload_n 1, 1), (2, .putfield 39, 3), (5, .aload_n 0, 1), (6, .aload_n 2, 1), (7, .getfield 57, 3), (10, .getfield 63, 3), (13, .putfield 42, 3), (16, .aload_n 0, 1), (17, .aload_n 2, 1), (18, .getfield 68, 3), (21, .aload_n 2, 1), (22, .getfield 69, 3), (25, .imul, 1), (26, .iload_n 3, 1), (27, .iadd, 1), (28, .putfield 45, 3), (31, .aload_n 0, 1), (32, .aload_n 2, 1), (33, .getfield 72, 3), (36, .putfield 48, 3), (39, .return_, 1)]
theorem id_Tally_trap_0 : ∀ q ∈ it_Tally_trap_0, decode prog_8_method_5_code q.1 = .ok q.2 := by decide +kernel
theorem d_Tally_trap_0 : decode prog_8_method_5_code 0 = .ok (.aload_n 0, 1) := id_Tally_trap_0 (0, .aload_n 0, 1) (List.mem_of_getElem? (i := 0) rfl)
theorem d_Tally_trap_1 : decode prog_8_method_5_code 1 = .ok (.iload_n 1, 1) := id_Tally_trap_0 (1, .iload_n 1, 1) (List.mem_of_getElem? (i := 1) rfl)
theorem d_Tally_trap_2 : decode prog_8_method_5_code 2 = .ok (.putfield 39, 3) := id_Tally_trap_0 (2, .putfield 39, 3) (List.mem_of_getElem? (i := 2) rfl)
theorem d_Tally_trap_5 : decode prog_8_method_5_code 5 = .ok (.aload_n 0, 1) := id_Tally_trap_0 (5, .aload_n 0, 1) (List.mem_of_getElem? (i := 3) rfl)
theorem d_Tally_trap_6 : decode prog_8_method_5_code 6 = .ok (.aload_n 2, 1) := id_Tally_trap_0 (6, .aload_n 2, 1) (List.mem_of_getElem? (i := 4) rfl)
theorem d_Tally_trap_7 : decode prog_8_method_5_code 7 = .ok (.getfield 57, 3) := id_Tally_trap_0 (7, .getfield 57, 3) (List.mem_of_getElem? (i := 5) rfl)
theorem d_Tally_trap_10 : decode prog_8_method_5_code 10 = .ok (.getfield 63, 3) := id_Tally_trap_0 (10, .getfield 63, 3) (List.mem_of_getElem? (i := 6) rfl)
theorem d_Tally_trap_13 : decode prog_8_method_5_code 13 = .ok (.putfield 42, 3) := id_Tally_trap_0 (13, .putfield 42, 3) (List.mem_of_getElem? (i := 7) rfl)
theorem d_Tally_trap_16 : decode prog_8_method_5_code 16 = .ok (.aload_n 0, 1) := id_Tally_trap_0 (16, .aload_n 0, 1) (List.mem_of_getElem? (i := 8) rfl)
theorem d_Tally_trap_17 : decode prog_8_method_5_code 17 = .ok (.aload_n 2, 1) := id_Tally_trap_0 (17, .aload_n 2, 1) (List.mem_of_getElem? (i := 9) rfl)
theorem d_Tally_trap_18 : decode prog_8_method_5_code 18 = .ok (.getfield 68, 3) := id_Tally_trap_0 (18, .getfield 68, 3) (List.mem_of_getElem? (i := 10) rfl)
theorem d_Tally_trap_21 : decode prog_8_method_5_code 21 = .ok (.aload_n 2, 1) := id_Tally_trap_0 (21, .aload_n 2, 1) (List.mem_of_getElem? (i := 11) rfl)
theorem d_Tally_trap_22 : decode prog_8_method_5_code 22 = .ok (.getfield 69, 3) := id_Tally_trap_0 (22, .getfield 69, 3) (List.mem_of_getElem? (i := 12) rfl)
theorem d_Tally_trap_25 : decode prog_8_method_5_code 25 = .ok (.imul, 1) := id_Tally_trap_0 (25, .imul, 1) (List.mem_of_getElem? (i := 13) rfl)
theorem d_Tally_trap_26 : decode prog_8_method_5_code 26 = .ok (.iload_n 3, 1) := id_Tally_trap_0 (26, .iload_n 3, 1) (List.mem_of_getElem? (i := 14) rfl)
theorem d_Tally_trap_27 : decode prog_8_method_5_code 27 = .ok (.iadd, 1) := id_Tally_trap_0 (27, .iadd, 1) (List.mem_of_getElem? (i := 15) rfl)
theorem d_Tally_trap_28 : decode prog_8_method_5_code 28 = .ok (.putfield 45, 3) := id_Tally_trap_0 (28, .putfield 45, 3) (List.mem_of_getElem? (i := 16) rfl)
theorem d_Tally_trap_31 : decode prog_8_method_5_code 31 = .ok (.aload_n 0, 1) := id_Tally_trap_0 (31, .aload_n 0, 1) (List.mem_of_getElem? (i := 17) rfl)
theorem d_Tally_trap_32 : decode prog_8_method_5_code 32 = .ok (.aload_n 2, 1) := id_Tally_trap_0 (32, .aload_n 2, 1) (List.mem_of_getElem? (i := 18) rfl)
theorem d_Tally_trap_33 : decode prog_8_method_5_code 33 = .ok (.getfield 72, 3) := id_Tally_trap_0 (33, .getfield 72, 3) (List.mem_of_getElem? (i := 19) rfl)
theorem d_Tally_trap_36 : decode prog_8_method_5_code 36 = .ok (.putfield 48, 3) := id_Tally_trap_0 (36, .putfield 48, 3) (List.mem_of_getElem? (i := 20) rfl)
theorem d_Tally_trap_39 : decode prog_8_method_5_code 39 = .ok (.return_, 1) := id_Tally_trap_0 (39, .return_, 1) (List.mem_of_getElem? (i := 21) rfl)
theorem wC_Tally_trap : Cond.code ⟨"WarpMill$Tally", "trap", "(ILWarpMill$Warp;I)V"⟩ prog_8_method_5_code 4 (none) ∈ lw_tb := mem_tb 834 (by decide +kernel) rfl
def f_Tally_trap (F : Nat) (x0 : Nat) (x1 : Int32) (x2 : Option Nat) (x3 : Int32) (h : Hp) : Option Hp := gd (hK h x0 = 6) <| pw (sI h 330 x0 x1) fun h_2_2 => rq h_2_2 x2 9 fun a_7 => rq h_2_2 (hR h_2_2 512 a_7) 8 fun a_7_2 => pw (sI h_2_2 331 x0 (hI h_2_2 448 a_7_2)) fun h_13 => pw (sI h_13 332 x0 (((hI h_13 513 a_7) * (hI h_13 514 a_7)) + x3)) fun h_28 => pw (sI h_28 333 x0 (hI h_28 519 a_7)) fun h_36 => some h_36
set_option maxRecDepth 100000 in
set_option maxHeartbeats 4000000 in
theorem e_Tally_trap {G : Gl} (hw : gF G) {F : Nat} {h' : Hp} {x0 : Nat} {x1 : Int32} {x2 : Option Nat} {x3 : Int32} {h : Hp} (hf : f_Tally_trap F x0 x1 x2 x3 h = some h') : Ex G mi_Tally_trap [.ref x0, .int x1, va_rf x2, .int x3] h (pV h') := by
  unfold f_Tally_trap at hf
  refine Ex.of nmV (by decide) (by cases x2 <;> exact Nat.le_of_ble_eq_true rfl) ?_
  rw [show lv_args 0 [.ref x0, .int x1, va_rf x2, .int x3] = [(0, .ref x0), (1, .int x1), (2, va_rf x2), (3, .int x3)] from by cases x2 <;> rfl]
  show Go G mi_Tally_trap h _ h 0 [(0, .ref x0), (1, .int x1), (2, va_rf x2), (3, .int x3)] []
  refine g_aload_n d_Tally_trap_0 rfl ?_
  refine g_iload_n d_Tally_trap_1 rfl ?_
  obtain ⟨k_2, hf⟩ := gd_s hf
  refine fp_Tally_why hw lf_Tally_39 d_Tally_trap_2 k_2 ?_
  have hf := pw_b hf
  refine g_aload_n d_Tally_trap_5 rfl ?_
  refine g_aload_nq (r := x2) d_Tally_trap_6 rfl ?_
  obtain ⟨a_7, rfl, k_7, hf⟩ := rq_s hf
  obtain ⟨a_7_2, e_7_2, k_7_2, hf⟩ := rq_s hf
  refine fgs_Warp_block lf_Tally_57 d_Tally_trap_7 k_7 e_7_2 ?_
  refine fg_Block_number lf_Tally_63 d_Tally_trap_10 k_7_2 ?_
  refine fp_Tally_trapBlock hw lf_Tally_42 d_Tally_trap_13 (kksI k_2) ?_
  have hf := pw_b hf
  refine g_aload_n d_Tally_trap_16 rfl ?_
  refine g_aload_n d_Tally_trap_17 rfl ?_
  refine fg_Warp_number lf_Tally_68 d_Tally_trap_18 (kksI k_7) ?_
  refine g_aload_n d_Tally_trap_21 rfl ?_
  refine fg_Warp_lanes lf_Tally_69 d_Tally_trap_22 (kksI k_7) ?_
  refine g_imul d_Tally_trap_25 ?_
  refine g_iload_n d_Tally_trap_26 rfl ?_
  refine g_iadd d_Tally_trap_27 ?_
  refine fp_Tally_trapThread hw lf_Tally_45 d_Tally_trap_28 (kksI (kksI k_2)) ?_
  have hf := pw_b hf
  refine g_aload_n d_Tally_trap_31 rfl ?_
  refine g_aload_n d_Tally_trap_32 rfl ?_
  refine fg_Warp_place lf_Tally_72 d_Tally_trap_33 (kksI (kksI k_7)) ?_
  refine fp_Tally_trapPlace hw lf_Tally_48 d_Tally_trap_36 (kksI (kksI (kksI k_2))) ?_
  have hf := pw_b hf
  exact Go.ret none trivial rfl d_Tally_trap_39 (pV_of hf)
abbrev mi_Warp_doing : MI := (⟨"WarpMill$Warp", "doing", "()I"⟩, prog_10_method_5_code, 2, some .int, 0, 0)
def it_Warp_doing_0 : List (Nat × ClassFile.Instr × Nat) := [(0, .aload_n 0, 1), (1, .getfield 77, 3), (4, .getfield 100, 3), (7, .iconst (-1), 1), (8, .if_icmp .ne (8), 3), (11, .aload_n 0, 1), (12, .getfield 67, 3), (15, .ireturn, 1), (16, .aload_n 0, 1), (17, .getfield 9, 3), (20, .aload_n 0, 1), (21, .getfield 77, 3), (24, .getfield 100, 3), (27, .iaload, 1), (28, .istore_n 1, 1), (29, .aload_n 0, 1), (30, .getfield 67, 3), (33, .aload_n 0, 1), (34, .getfield 77, 3), (37, .getfield 103, 3), (40, .ifCond .eq (9), 3), (43, .iload_n 1, 1), (44, .iconst (-1), 1), (45, .ixor, 1)]
theorem id_Warp_doing_0 : ∀ q ∈ it_Warp_doing_0, decode prog_10_method_5_code q.1 = .ok q.2 := by decide +kernel
theorem d_Warp_doing_0 : decode prog_10_method_5_code 0 = .ok (.aload_n 0, 1) := id_Warp_doing_0 (0, .aload_n 0, 1) (List.mem_of_getElem? (i := 0) rfl)
theorem d_Warp_doing_1 : decode prog_10_method_5_code 1 = .ok (.getfield 77, 3) := id_Warp_doing_0 (1, .getfield 77, 3) (List.mem_of_getElem? (i := 1) rfl)
theorem d_Warp_doing_4 : decode prog_10_method_5_code 4 = .ok (.getfield 100, 3) := id_Warp_doing_0 (4, .getfield 100, 3) (List.mem_of_getElem? (i := 2) rfl)
theorem d_Warp_doing_7 : decode prog_10_method_5_code 7 = .ok (.iconst (-1), 1) := id_Warp_doing_0 (7, .iconst (-1), 1) (List.mem_of_getElem? (i := 3) rfl)
theorem d_Warp_doing_8 : decode prog_10_method_5_code 8 = .ok (.if_icmp .ne (8), 3) := id_Warp_doing_0 (8, .if_icmp .ne (8), 3) (List.mem_of_getElem? (i := 4) rfl)
theorem d_Warp_doing_11 : decode prog_10_method_5_code 11 = .ok (.aload_n 0, 1) := id_Warp_doing_0 (11, .aload_n 0, 1) (List.mem_of_getElem? (i := 5) rfl)
theorem d_Warp_doing_12 : decode prog_10_method_5_code 12 = .ok (.getfield 67, 3) := id_Warp_doing_0 (12, .getfield 67, 3) (List.mem_of_getElem? (i := 6) rfl)
theorem d_Warp_doing_15 : decode prog_10_method_5_code 15 = .ok (.ireturn, 1) := id_Warp_doing_0 (15, .ireturn, 1) (List.mem_of_getElem? (i := 7) rfl)
theorem d_Warp_doing_16 : decode prog_10_method_5_code 16 = .ok (.aload_n 0, 1) := id_Warp_doing_0 (16, .aload_n 0, 1) (List.mem_of_getElem? (i := 8) rfl)
theorem d_Warp_doing_17 : decode prog_10_method_5_code 17 = .ok (.getfield 9, 3) := id_Warp_doing_0 (17, .getfield 9, 3) (List.mem_of_getElem? (i := 9) rfl)
theorem d_Warp_doing_20 : decode prog_10_method_5_code 20 = .ok (.aload_n 0, 1) := id_Warp_doing_0 (20, .aload_n 0, 1) (List.mem_of_getElem? (i := 10) rfl)
theorem d_Warp_doing_21 : decode prog_10_method_5_code 21 = .ok (.getfield 77, 3) := id_Warp_doing_0 (21, .getfield 77, 3) (List.mem_of_getElem? (i := 11) rfl)
theorem d_Warp_doing_24 : decode prog_10_method_5_code 24 = .ok (.getfield 100, 3) := id_Warp_doing_0 (24, .getfield 100, 3) (List.mem_of_getElem? (i := 12) rfl)
theorem d_Warp_doing_27 : decode prog_10_method_5_code 27 = .ok (.iaload, 1) := id_Warp_doing_0 (27, .iaload, 1) (List.mem_of_getElem? (i := 13) rfl)
theorem d_Warp_doing_28 : decode prog_10_method_5_code 28 = .ok (.istore_n 1, 1) := id_Warp_doing_0 (28, .istore_n 1, 1) (List.mem_of_getElem? (i := 14) rfl)
theorem d_Warp_doing_29 : decode prog_10_method_5_code 29 = .ok (.aload_n 0, 1) := id_Warp_doing_0 (29, .aload_n 0, 1) (List.mem_of_getElem? (i := 15) rfl)
theorem d_Warp_doing_30 : decode prog_10_method_5_code 30 = .ok (.getfield 67, 3) := id_Warp_doing_0 (30, .getfield 67, 3) (List.mem_of_getElem? (i := 16) rfl)
theorem d_Warp_doing_33 : decode prog_10_method_5_code 33 = .ok (.aload_n 0, 1) := id_Warp_doing_0 (33, .aload_n 0, 1) (List.mem_of_getElem? (i := 17) rfl)
theorem d_Warp_doing_34 : decode prog_10_method_5_code 34 = .ok (.getfield 77, 3) := id_Warp_doing_0 (34, .getfield 77, 3) (List.mem_of_getElem? (i := 18) rfl)
theorem d_Warp_doing_37 : decode prog_10_method_5_code 37 = .ok (.getfield 103, 3) := id_Warp_doing_0 (37, .getfield 103, 3) (List.mem_of_getElem? (i := 19) rfl)
theorem d_Warp_doing_40 : decode prog_10_method_5_code 40 = .ok (.ifCond .eq (9), 3) := id_Warp_doing_0 (40, .ifCond .eq (9), 3) (List.mem_of_getElem? (i := 20) rfl)
theorem d_Warp_doing_43 : decode prog_10_method_5_code 43 = .ok (.iload_n 1, 1) := id_Warp_doing_0 (43, .iload_n 1, 1) (List.mem_of_getElem? (i := 21) rfl)
theorem d_Warp_doing_44 : decode prog_10_method_5_code 44 = .ok (.iconst (-1), 1) := id_Warp_doing_0 (44, .iconst (-1), 1) (List.mem_of_getElem? (i := 22) rfl)
theorem d_Warp_doing_45 : decode prog_10_method_5_code 45 = .ok (.ixor, 1) := id_Warp_doing_0 (45, .ixor, 1) (List.mem_of_getElem? (i := 23) rfl)
def it_Warp_doing_1 : List (Nat × ClassFile.Instr × Nat) := [(46, .goto (4), 3), (49, .iload_n 1, 1), (50, .iand, 1), (51, .ireturn, 1)]
theorem id_Warp_doing_1 : ∀ q ∈ it_Warp_doing_1, decode prog_10_method_5_code q.1 = .ok q.2 := by decide +kernel
theorem d_Warp_doing_46 : decode prog_10_method_5_code 46 = .ok (.goto (4), 3) := id_Warp_doing_1 (46, .goto (4), 3) (List.mem_of_getElem? (i := 0) rfl)
theorem d_Warp_doing_49 : decode prog_10_method_5_code 49 = .ok (.iload_n 1, 1) := id_Warp_doing_1 (49, .iload_n 1, 1) (List.mem_of_getElem? (i := 1) rfl)
theorem d_Warp_doing_50 : decode prog_10_method_5_code 50 = .ok (.iand, 1) := id_Warp_doing_1 (50, .iand, 1) (List.mem_of_getElem? (i := 2) rfl)
theorem d_Warp_doing_51 : decode prog_10_method_5_code 51 = .ok (.ireturn, 1) := id_Warp_doing_1 (51, .ireturn, 1) (List.mem_of_getElem? (i := 3) rfl)
theorem wC_Warp_doing : Cond.code ⟨"WarpMill$Warp", "doing", "()I"⟩ prog_10_method_5_code 2 (some .int) ∈ lw_tb := mem_tb 838 (by decide +kernel) rfl
def f_Warp_doing (F : Nat) (x0 : Nat) (h : Hp) : Option (Int32 × Hp) := gd (hK h x0 = 9) <| rq h (hR h 520 x0) 10 fun a_1_2 => if (hI h 582 a_1_2) = (-1 : Int32) then (some ((hI h 518 x0), h)) else (rq h (hR h 526 x0) 100 fun a_17 => ix (hI h 582 a_1_2) (hN h a_17) fun j_27 => if (hI h 583 a_1_2) = 0 then (some (((hI h 518 x0) &&& (hA h a_17 j_27)), h)) else (some (((hI h 518 x0) &&& ((hA h a_17 j_27) ^^^ (-1 : Int32))), h)))
set_option maxRecDepth 100000 in
set_option maxHeartbeats 4000000 in
theorem e_Warp_doing {G : Gl} {F : Nat} {r : Int32} {h' : Hp} {x0 : Nat} {h : Hp} (hf : f_Warp_doing F x0 h = some (r, h')) : Ex G mi_Warp_doing [.ref x0] h (pI r h') := by
  unfold f_Warp_doing at hf
  refine Ex.of nmI (by decide) (Nat.le_of_ble_eq_true rfl) ?_
  show Go G mi_Warp_doing h _ h 0 [(0, .ref x0)] []
  refine g_aload_n d_Warp_doing_0 rfl ?_
  obtain ⟨k_1, hf⟩ := gd_s hf
  obtain ⟨a_1_2, e_1_2, k_1_2, hf⟩ := rq_s hf
  refine fgs_Warp_word lf_Warp_77 d_Warp_doing_1 k_1 e_1_2 ?_
  refine fg_Word_guard lf_Warp_100 d_Warp_doing_4 k_1_2 ?_
  refine g_iconst (-1) d_Warp_doing_7 (by decide) ?_
  refine g_icmp_ne 16 d_Warp_doing_8 (by decide) (fun c_8 => ?_) (fun c_8 => ?_)
  · have hf := ifn hf c_8
    refine g_aload_n d_Warp_doing_16 rfl ?_
    obtain ⟨a_17, e_17, k_17, hf⟩ := rq_s hf
    refine fgs_Warp_predicates lf_Warp_9 d_Warp_doing_17 k_1 e_17 ?_
    refine g_aload_n d_Warp_doing_20 rfl ?_
    refine fgs_Warp_word lf_Warp_77 d_Warp_doing_21 k_1 e_1_2 ?_
    refine fg_Word_guard lf_Warp_100 d_Warp_doing_24 k_1_2 ?_
    obtain ⟨i_27, hf⟩ := ix_s hf
    refine g_iald k_17 i_27 d_Warp_doing_27 ?_
    refine g_istore_n d_Warp_doing_28 (by decide) ?_
    show Go _ _ _ _ _ _ [(0, _), (1, _)] _
    refine g_aload_n d_Warp_doing_29 rfl ?_
    refine fg_Warp_group lf_Warp_67 d_Warp_doing_30 k_1 ?_
    refine g_aload_n d_Warp_doing_33 rfl ?_
    refine fgs_Warp_word lf_Warp_77 d_Warp_doing_34 k_1 e_1_2 ?_
    refine fg_Word_guardIsFalse lf_Warp_103 d_Warp_doing_37 k_1_2 ?_
    refine g_if_eq 49 d_Warp_doing_40 (by decide) (fun c_40 => ?_) (fun c_40 => ?_)
    · have hf := ifp hf c_40
      refine g_iload_n d_Warp_doing_49 rfl ?_
      refine g_iand d_Warp_doing_50 ?_
      exact Go.ret (some _) (rOk_i _) rfl d_Warp_doing_51 (pI_of hf)
    · have hf := ifn hf c_40
      refine g_iload_n d_Warp_doing_43 rfl ?_
      refine g_iconst (-1) d_Warp_doing_44 (by decide) ?_
      refine g_ixor d_Warp_doing_45 ?_
      refine g_goto 50 d_Warp_doing_46 (by decide) ?_
      refine g_iand d_Warp_doing_50 ?_
      exact Go.ret (some _) (rOk_i _) rfl d_Warp_doing_51 (pI_of hf)
  · have hf := ifp hf c_8
    refine g_aload_n d_Warp_doing_11 rfl ?_
    refine fg_Warp_group lf_Warp_67 d_Warp_doing_12 k_1 ?_
    exact Go.ret (some _) (rOk_i _) rfl d_Warp_doing_15 (pI_of hf)
abbrev mi_Warp_register : MI := (⟨"WarpMill$Warp", "register", "(II)I"⟩, prog_10_method_6_code, 3, some .int, 0, 0)
def it_Warp_register_0 : List (Nat × ClassFile.Instr × Nat) := [(0, .aload_n 0, 1), (1, .getfield 18, 3), (4, .iload_n 1, 1), (5, .bipush (16), 2), (7, .imul, 1), (8, .iload_n 2, 1), (9, .iadd, 1), (10, .iaload, 1), (11, .ireturn, 1)]
theorem id_Warp_register_0 : ∀ q ∈ it_Warp_register_0, decode prog_10_method_6_code q.1 = .ok q.2 := by decide +kernel
theorem d_Warp_register_0 : decode prog_10_method_6_code 0 = .ok (.aload_n 0, 1) := id_Warp_register_0 (0, .aload_n 0, 1) (List.mem_of_getElem? (i := 0) rfl)
theorem d_Warp_register_1 : decode prog_10_method_6_code 1 = .ok (.getfield 18, 3) := id_Warp_register_0 (1, .getfield 18, 3) (List.mem_of_getElem? (i := 1) rfl)
theorem d_Warp_register_4 : decode prog_10_method_6_code 4 = .ok (.iload_n 1, 1) := id_Warp_register_0 (4, .iload_n 1, 1) (List.mem_of_getElem? (i := 2) rfl)
theorem d_Warp_register_5 : decode prog_10_method_6_code 5 = .ok (.bipush (16), 2) := id_Warp_register_0 (5, .bipush (16), 2) (List.mem_of_getElem? (i := 3) rfl)
theorem d_Warp_register_7 : decode prog_10_method_6_code 7 = .ok (.imul, 1) := id_Warp_register_0 (7, .imul, 1) (List.mem_of_getElem? (i := 4) rfl)
theorem d_Warp_register_8 : decode prog_10_method_6_code 8 = .ok (.iload_n 2, 1) := id_Warp_register_0 (8, .iload_n 2, 1) (List.mem_of_getElem? (i := 5) rfl)
theorem d_Warp_register_9 : decode prog_10_method_6_code 9 = .ok (.iadd, 1) := id_Warp_register_0 (9, .iadd, 1) (List.mem_of_getElem? (i := 6) rfl)
theorem d_Warp_register_10 : decode prog_10_method_6_code 10 = .ok (.iaload, 1) := id_Warp_register_0 (10, .iaload, 1) (List.mem_of_getElem? (i := 7) rfl)
theorem d_Warp_register_11 : decode prog_10_method_6_code 11 = .ok (.ireturn, 1) := id_Warp_register_0 (11, .ireturn, 1) (List.mem_of_getElem? (i := 8) rfl)
theorem wC_Warp_register : Cond.code ⟨"WarpMill$Warp", "register", "(II)I"⟩ prog_10_method_6_code 3 (some .int) ∈ lw_tb := mem_tb 850 (by decide +kernel) rfl
def f_Warp_register (F : Nat) (x0 : Nat) (x1 : Int32) (x2 : Int32) (h : Hp) : Option (Int32 × Hp) := gd (hK h x0 = 9) <| rq h (hR h 523 x0) 100 fun a_1_2 => ix ((x1 * (16 : Int32)) + x2) (hN h a_1_2) fun j_10 => some ((hA h a_1_2 j_10), h)
set_option maxRecDepth 100000 in
set_option maxHeartbeats 4000000 in
theorem e_Warp_register {G : Gl} {F : Nat} {r : Int32} {h' : Hp} {x0 : Nat} {x1 : Int32} {x2 : Int32} {h : Hp} (hf : f_Warp_register F x0 x1 x2 h = some (r, h')) : Ex G mi_Warp_register [.ref x0, .int x1, .int x2] h (pI r h') := by
  unfold f_Warp_register at hf
  refine Ex.of nmI (by decide) (Nat.le_of_ble_eq_true rfl) ?_
  show Go G mi_Warp_register h _ h 0 [(0, .ref x0), (1, .int x1), (2, .int x2)] []
  refine g_aload_n d_Warp_register_0 rfl ?_
  obtain ⟨k_1, hf⟩ := gd_s hf
  obtain ⟨a_1_2, e_1_2, k_1_2, hf⟩ := rq_s hf
  refine fgs_Warp_registers lf_Warp_18 d_Warp_register_1 k_1 e_1_2 ?_
  refine g_iload_n d_Warp_register_4 rfl ?_
  refine g_bipush (16) d_Warp_register_5 (by decide) ?_
  refine g_imul d_Warp_register_7 ?_
  refine g_iload_n d_Warp_register_8 rfl ?_
  refine g_iadd d_Warp_register_9 ?_
  obtain ⟨i_10, hf⟩ := ix_s hf
  refine g_iald k_1_2 i_10 d_Warp_register_10 ?_
  exact Go.ret (some _) (rOk_i _) rfl d_Warp_register_11 (pI_of hf)
abbrev mi_Warp_dividingByZero : MI := (⟨"WarpMill$Warp", "dividingByZero", "(I)I"⟩, prog_10_method_8_code, 4, some .int, 1, 22)
def it_Warp_dividingByZero_0 : List (Nat × ClassFile.Instr × Nat) := [(0, .iconst 0, 1), (1, .istore_n 2, 1), (2, .iconst 0, 1), (3, .istore_n 3, 1), (4, .iload_n 3, 1), (5, .aload_n 0, 1), (6, .getfield 35, 3), (9, .if_icmp .ge (38), 3), (12, .iload_n 1, 1), (13, .iload_n 3, 1), (14, .invokestatic 73, 3), (17, .ifCond .eq (24), 3), (20, .aload_n 0, 1), (21, .iload_n 3, 1), (22, .aload_n 0, 1), (23, .getfield 77, 3), (26, .getfield 106, 3), (29, .invokevirtual 109, 3), (32, .ifCond .ne (9), 3), (35, .iload_n 2, 1), (36, .iconst 1, 1), (37, .iload_n 3, 1), (38, .ishl, 1), (39, .ior, 1)]
theorem id_Warp_dividingByZero_0 : ∀ q ∈ it_Warp_dividingByZero_0, decode prog_10_method_8_code q.1 = .ok q.2 := by decide +kernel
theorem d_Warp_dividingByZero_0 : decode prog_10_method_8_code 0 = .ok (.iconst 0, 1) := id_Warp_dividingByZero_0 (0, .iconst 0, 1) (List.mem_of_getElem? (i := 0) rfl)
theorem d_Warp_dividingByZero_1 : decode prog_10_method_8_code 1 = .ok (.istore_n 2, 1) := id_Warp_dividingByZero_0 (1, .istore_n 2, 1) (List.mem_of_getElem? (i := 1) rfl)
theorem d_Warp_dividingByZero_2 : decode prog_10_method_8_code 2 = .ok (.iconst 0, 1) := id_Warp_dividingByZero_0 (2, .iconst 0, 1) (List.mem_of_getElem? (i := 2) rfl)
theorem d_Warp_dividingByZero_3 : decode prog_10_method_8_code 3 = .ok (.istore_n 3, 1) := id_Warp_dividingByZero_0 (3, .istore_n 3, 1) (List.mem_of_getElem? (i := 3) rfl)
theorem d_Warp_dividingByZero_4 : decode prog_10_method_8_code 4 = .ok (.iload_n 3, 1) := id_Warp_dividingByZero_0 (4, .iload_n 3, 1) (List.mem_of_getElem? (i := 4) rfl)
theorem d_Warp_dividingByZero_5 : decode prog_10_method_8_code 5 = .ok (.aload_n 0, 1) := id_Warp_dividingByZero_0 (5, .aload_n 0, 1) (List.mem_of_getElem? (i := 5) rfl)
theorem d_Warp_dividingByZero_6 : decode prog_10_method_8_code 6 = .ok (.getfield 35, 3) := id_Warp_dividingByZero_0 (6, .getfield 35, 3) (List.mem_of_getElem? (i := 6) rfl)
theorem d_Warp_dividingByZero_9 : decode prog_10_method_8_code 9 = .ok (.if_icmp .ge (38), 3) := id_Warp_dividingByZero_0 (9, .if_icmp .ge (38), 3) (List.mem_of_getElem? (i := 7) rfl)
theorem d_Warp_dividingByZero_12 : decode prog_10_method_8_code 12 = .ok (.iload_n 1, 1) := id_Warp_dividingByZero_0 (12, .iload_n 1, 1) (List.mem_of_getElem? (i := 8) rfl)
theorem d_Warp_dividingByZero_13 : decode prog_10_method_8_code 13 = .ok (.iload_n 3, 1) := id_Warp_dividingByZero_0 (13, .iload_n 3, 1) (List.mem_of_getElem? (i := 9) rfl)
theorem d_Warp_dividingByZero_14 : decode prog_10_method_8_code 14 = .ok (.invokestatic 73, 3) := id_Warp_dividingByZero_0 (14, .invokestatic 73, 3) (List.mem_of_getElem? (i := 10) rfl)
theorem d_Warp_dividingByZero_17 : decode prog_10_method_8_code 17 = .ok (.ifCond .eq (24), 3) := id_Warp_dividingByZero_0 (17, .ifCond .eq (24), 3) (List.mem_of_getElem? (i := 11) rfl)
theorem d_Warp_dividingByZero_20 : decode prog_10_method_8_code 20 = .ok (.aload_n 0, 1) := id_Warp_dividingByZero_0 (20, .aload_n 0, 1) (List.mem_of_getElem? (i := 12) rfl)
theorem d_Warp_dividingByZero_21 : decode prog_10_method_8_code 21 = .ok (.iload_n 3, 1) := id_Warp_dividingByZero_0 (21, .iload_n 3, 1) (List.mem_of_getElem? (i := 13) rfl)
theorem d_Warp_dividingByZero_22 : decode prog_10_method_8_code 22 = .ok (.aload_n 0, 1) := id_Warp_dividingByZero_0 (22, .aload_n 0, 1) (List.mem_of_getElem? (i := 14) rfl)
theorem d_Warp_dividingByZero_23 : decode prog_10_method_8_code 23 = .ok (.getfield 77, 3) := id_Warp_dividingByZero_0 (23, .getfield 77, 3) (List.mem_of_getElem? (i := 15) rfl)
theorem d_Warp_dividingByZero_26 : decode prog_10_method_8_code 26 = .ok (.getfield 106, 3) := id_Warp_dividingByZero_0 (26, .getfield 106, 3) (List.mem_of_getElem? (i := 16) rfl)
theorem d_Warp_dividingByZero_29 : decode prog_10_method_8_code 29 = .ok (.invokevirtual 109, 3) := id_Warp_dividingByZero_0 (29, .invokevirtual 109, 3) (List.mem_of_getElem? (i := 17) rfl)
theorem d_Warp_dividingByZero_32 : decode prog_10_method_8_code 32 = .ok (.ifCond .ne (9), 3) := id_Warp_dividingByZero_0 (32, .ifCond .ne (9), 3) (List.mem_of_getElem? (i := 18) rfl)
theorem d_Warp_dividingByZero_35 : decode prog_10_method_8_code 35 = .ok (.iload_n 2, 1) := id_Warp_dividingByZero_0 (35, .iload_n 2, 1) (List.mem_of_getElem? (i := 19) rfl)
theorem d_Warp_dividingByZero_36 : decode prog_10_method_8_code 36 = .ok (.iconst 1, 1) := id_Warp_dividingByZero_0 (36, .iconst 1, 1) (List.mem_of_getElem? (i := 20) rfl)
theorem d_Warp_dividingByZero_37 : decode prog_10_method_8_code 37 = .ok (.iload_n 3, 1) := id_Warp_dividingByZero_0 (37, .iload_n 3, 1) (List.mem_of_getElem? (i := 21) rfl)
theorem d_Warp_dividingByZero_38 : decode prog_10_method_8_code 38 = .ok (.ishl, 1) := id_Warp_dividingByZero_0 (38, .ishl, 1) (List.mem_of_getElem? (i := 22) rfl)
theorem d_Warp_dividingByZero_39 : decode prog_10_method_8_code 39 = .ok (.ior, 1) := id_Warp_dividingByZero_0 (39, .ior, 1) (List.mem_of_getElem? (i := 23) rfl)
def it_Warp_dividingByZero_1 : List (Nat × ClassFile.Instr × Nat) := [(40, .istore_n 2, 1), (41, .iinc 3 (1), 3), (44, .goto (-40), 3), (47, .iload_n 2, 1), (48, .ireturn, 1)]
theorem id_Warp_dividingByZero_1 : ∀ q ∈ it_Warp_dividingByZero_1, decode prog_10_method_8_code q.1 = .ok q.2 := by decide +kernel
theorem d_Warp_dividingByZero_40 : decode prog_10_method_8_code 40 = .ok (.istore_n 2, 1) := id_Warp_dividingByZero_1 (40, .istore_n 2, 1) (List.mem_of_getElem? (i := 0) rfl)
theorem d_Warp_dividingByZero_41 : decode prog_10_method_8_code 41 = .ok (.iinc 3 (1), 3) := id_Warp_dividingByZero_1 (41, .iinc 3 (1), 3) (List.mem_of_getElem? (i := 1) rfl)
theorem d_Warp_dividingByZero_44 : decode prog_10_method_8_code 44 = .ok (.goto (-40), 3) := id_Warp_dividingByZero_1 (44, .goto (-40), 3) (List.mem_of_getElem? (i := 2) rfl)
theorem d_Warp_dividingByZero_47 : decode prog_10_method_8_code 47 = .ok (.iload_n 2, 1) := id_Warp_dividingByZero_1 (47, .iload_n 2, 1) (List.mem_of_getElem? (i := 3) rfl)
theorem d_Warp_dividingByZero_48 : decode prog_10_method_8_code 48 = .ok (.ireturn, 1) := id_Warp_dividingByZero_1 (48, .ireturn, 1) (List.mem_of_getElem? (i := 4) rfl)
theorem wC_Warp_dividingByZero : Cond.code ⟨"WarpMill$Warp", "dividingByZero", "(I)I"⟩ prog_10_method_8_code 4 (some .int) ∈ lw_tb := mem_tb 846 (by decide +kernel) rfl
theorem cw_Warp_dividingByZero_WM_in : cW mi_Warp_dividingByZero mi_WM_in 2 := ⟨wC_WM_in, wi_WM, ⟨by decide, by decide, by decide +kernel⟩, by decide, by decide⟩
theorem cw_Warp_dividingByZero_Warp_register : cW mi_Warp_dividingByZero mi_Warp_register 2 := ⟨wC_Warp_register, wi_Warp, ⟨by decide, by decide, by decide +kernel⟩, by decide, by decide⟩
def b_Warp_dividingByZero_4 (F : Nat) : Nat → Nat → Int32 → Int32 → Int32 → Hp → Option (Int32 × Hp)
  | 0 => fun _ _ _ _ _ => none
  | n + 1 => fun x0 x1 x2 x3 h => gd (hK h x0 = 9) <| if (hI h 514 x0) ≤ x3 then (some (x2, h)) else (cl (f_WM_in F x1 x3 h) fun v_14 h_14 => if v_14 = 0 then (b_Warp_dividingByZero_4 F n x0 x1 x2 (x3 + 1) h_14) else (gd (hK h_14 x0 = 9) <| rq h_14 (hR h_14 520 x0) 10 fun a_23_2 => cl (f_Warp_register F x0 x3 (hI h_14 579 a_23_2) h_14) fun v_29 h_29 => if v_29 = 0 then (b_Warp_dividingByZero_4 F n x0 x1 (x2 ||| ((1 : Int32) <<< (x3 &&& 31))) (x3 + 1) h_29) else (b_Warp_dividingByZero_4 F n x0 x1 x2 (x3 + 1) h_29)))
set_option maxRecDepth 100000 in
set_option maxHeartbeats 4000000 in
theorem e_Warp_dividingByZero_4 {G : Gl} {h0 : Hp} {F : Nat} {r : Int32} {h' : Hp}   : ∀ (n : Nat) (x0 : Nat) (x1 : Int32) (x2 : Int32) (x3 : Int32) (h : Hp), b_Warp_dividingByZero_4 F n x0 x1 x2 x3 h = some (r, h') → Go G mi_Warp_dividingByZero h0 (pI r h') h 4 [(0, .ref x0), (1, .int x1), (2, .int x2), (3, .int x3)] [] := by
  intro n
  induction n with
  | zero =>
    intro _ _ _ _ _ hf
    exact nm_s hf
  | succ n ih =>
    intro x0 x1 x2 x3 h hf
    unfold b_Warp_dividingByZero_4 at hf
    refine g_iload_n d_Warp_dividingByZero_4 rfl ?_
    refine g_aload_n d_Warp_dividingByZero_5 rfl ?_
    obtain ⟨k_6, hf⟩ := gd_s hf
    refine fg_Warp_lanes lf_Warp_35 d_Warp_dividingByZero_6 k_6 ?_
    refine g_icmp_ge 47 d_Warp_dividingByZero_9 (by decide) (fun c_9 => ?_) (fun c_9 => ?_)
    · have hf := ifp hf c_9
      refine g_iload_n d_Warp_dividingByZero_47 rfl ?_
      exact Go.ret (some _) (rOk_i _) rfl d_Warp_dividingByZero_48 (pI_of hf)
    · have hf := ifn hf c_9
      refine g_iload_n d_Warp_dividingByZero_12 rfl ?_
      refine g_iload_n d_Warp_dividingByZero_13 rfl ?_
      obtain ⟨v_14, h_14, e_14, hf⟩ := cl_s hf
      refine g_callSN (mz := mi_WM_in) (e_WM_in e_14) cw_Warp_dividingByZero_WM_in (host := "WarpMill") (by decide +kernel) wS_WM_in d_Warp_dividingByZero_14 rfl rfl (by first | exact Nat.le_of_ble_eq_true rfl | simp [cat_rf, Value.category]) (fun r1 h1 hp hro => ?_)
      obtain ⟨rfl, rfl⟩ := hp
      dsimp only [Option.toList_some, Option.toList_none, List.cons_append, List.nil_append]
      refine g_if_eq 41 d_Warp_dividingByZero_17 (by decide) (fun c_17 => ?_) (fun c_17 => ?_)
      · have hf := ifp hf c_17
        refine g_iinc (_ + 1) d_Warp_dividingByZero_41 rfl (by rfl) (by decide) ?_
        show Go _ _ _ _ _ _ [(0, _), (1, _), (2, _), (3, _)] _
        refine g_goto 4 d_Warp_dividingByZero_44 (by decide) ?_
        exact ih _ _ _ _ _ hf
      · have hf := ifn hf c_17
        refine g_aload_n d_Warp_dividingByZero_20 rfl ?_
        refine g_iload_n d_Warp_dividingByZero_21 rfl ?_
        refine g_aload_n d_Warp_dividingByZero_22 rfl ?_
        obtain ⟨k_23, hf⟩ := gd_s hf
        obtain ⟨a_23_2, e_23_2, k_23_2, hf⟩ := rq_s hf
        refine fgs_Warp_word lf_Warp_77 d_Warp_dividingByZero_23 k_23 e_23_2 ?_
        refine fg_Word_b lf_Warp_106 d_Warp_dividingByZero_26 k_23_2 ?_
        obtain ⟨v_29, h_29, e_29, hf⟩ := cl_s hf
        refine g_callV (mz := mi_Warp_register) (e_Warp_register e_29) cw_Warp_dividingByZero_Warp_register lm_Warp_109 wI_Warp_register wV_Warp_register (ci := 8) k_23 (by decide) rfl rfl d_Warp_dividingByZero_29 rfl rfl (by first | exact Nat.le_of_ble_eq_true rfl | simp [cat_rf, Value.category]) (fun r1 h1 hp hro => ?_)
        obtain ⟨rfl, rfl⟩ := hp
        dsimp only [Option.toList_some, Option.toList_none, List.cons_append, List.nil_append]
        refine g_if_ne 41 d_Warp_dividingByZero_32 (by decide) (fun c_32 => ?_) (fun c_32 => ?_)
        · have hf := ifn hf c_32
          refine g_iinc (_ + 1) d_Warp_dividingByZero_41 rfl (by rfl) (by decide) ?_
          show Go _ _ _ _ _ _ [(0, _), (1, _), (2, _), (3, _)] _
          refine g_goto 4 d_Warp_dividingByZero_44 (by decide) ?_
          exact ih _ _ _ _ _ hf
        · have hf := ifp hf c_32
          refine g_iload_n d_Warp_dividingByZero_35 rfl ?_
          refine g_iconst 1 d_Warp_dividingByZero_36 (by decide) ?_
          refine g_iload_n d_Warp_dividingByZero_37 rfl ?_
          refine g_ishl d_Warp_dividingByZero_38 ?_
          refine g_ior d_Warp_dividingByZero_39 ?_
          refine g_istore_n d_Warp_dividingByZero_40 (by decide) ?_
          show Go _ _ _ _ _ _ [(0, _), (1, _), (2, _), (3, _)] _
          refine g_iinc (_ + 1) d_Warp_dividingByZero_41 rfl (by rfl) (by decide) ?_
          show Go _ _ _ _ _ _ [(0, _), (1, _), (2, _), (3, _)] _
          refine g_goto 4 d_Warp_dividingByZero_44 (by decide) ?_
          exact ih _ _ _ _ _ hf
def f_Warp_dividingByZero (F : Nat) (x0 : Nat) (x1 : Int32) (h : Hp) : Option (Int32 × Hp) := b_Warp_dividingByZero_4 F F x0 x1 (0 : Int32) (0 : Int32) h
set_option maxRecDepth 100000 in
set_option maxHeartbeats 4000000 in
theorem e_Warp_dividingByZero {G : Gl} {F : Nat} {r : Int32} {h' : Hp} {x0 : Nat} {x1 : Int32} {h : Hp} (hf : f_Warp_dividingByZero F x0 x1 h = some (r, h')) : Ex G mi_Warp_dividingByZero [.ref x0, .int x1] h (pI r h') := by
  unfold f_Warp_dividingByZero at hf
  refine Ex.of nmI (by decide) (Nat.le_of_ble_eq_true rfl) ?_
  show Go G mi_Warp_dividingByZero h _ h 0 [(0, .ref x0), (1, .int x1)] []
  refine g_iconst 0 d_Warp_dividingByZero_0 (by decide) ?_
  refine g_istore_n d_Warp_dividingByZero_1 (by decide) ?_
  show Go _ _ _ _ _ _ [(0, _), (1, _), (2, _)] _
  refine g_iconst 0 d_Warp_dividingByZero_2 (by decide) ?_
  refine g_istore_n d_Warp_dividingByZero_3 (by decide) ?_
  show Go _ _ _ _ _ _ [(0, _), (1, _), (2, _), (3, _)] _
  have key := e_Warp_dividingByZero_4 (G := G) (h0 := h)  F _ _ _ _ _ hf
  exact key
abbrev mi_Warp_aim : MI := (⟨"WarpMill$Warp", "aim", "(I)V"⟩, prog_10_method_9_code, 3, none, 1, 22)
def it_Warp_aim_0 : List (Nat × ClassFile.Instr × Nat) := [(0, .iconst 0, 1), (1, .istore_n 2, 1), (2, .iload_n 2, 1), (3, .aload_n 0, 1), (4, .getfield 35, 3), (7, .if_icmp .ge (43), 3), (10, .iload_n 1, 1), (11, .iload_n 2, 1), (12, .invokestatic 73, 3), (15, .ifCond .eq (29), 3), (18, .aload_n 0, 1), (19, .getfield 24, 3), (22, .iload_n 2, 1), (23, .aload_n 0, 1), (24, .iload_n 2, 1), (25, .aload_n 0, 1), (26, .getfield 77, 3), (29, .getfield 112, 3), (32, .invokevirtual 109, 3), (35, .aload_n 0, 1), (36, .getfield 77, 3), (39, .getfield 115, 3), (42, .iadd, 1), (43, .iastore, 1)]
theorem id_Warp_aim_0 : ∀ q ∈ it_Warp_aim_0, decode prog_10_method_9_code q.1 = .ok q.2 := by decide +kernel
theorem d_Warp_aim_0 : decode prog_10_method_9_code 0 = .ok (.iconst 0, 1) := id_Warp_aim_0 (0, .iconst 0, 1) (List.mem_of_getElem? (i := 0) rfl)
theorem d_Warp_aim_1 : decode prog_10_method_9_code 1 = .ok (.istore_n 2, 1) := id_Warp_aim_0 (1, .istore_n 2, 1) (List.mem_of_getElem? (i := 1) rfl)
theorem d_Warp_aim_2 : decode prog_10_method_9_code 2 = .ok (.iload_n 2, 1) := id_Warp_aim_0 (2, .iload_n 2, 1) (List.mem_of_getElem? (i := 2) rfl)
theorem d_Warp_aim_3 : decode prog_10_method_9_code 3 = .ok (.aload_n 0, 1) := id_Warp_aim_0 (3, .aload_n 0, 1) (List.mem_of_getElem? (i := 3) rfl)
theorem d_Warp_aim_4 : decode prog_10_method_9_code 4 = .ok (.getfield 35, 3) := id_Warp_aim_0 (4, .getfield 35, 3) (List.mem_of_getElem? (i := 4) rfl)
theorem d_Warp_aim_7 : decode prog_10_method_9_code 7 = .ok (.if_icmp .ge (43), 3) := id_Warp_aim_0 (7, .if_icmp .ge (43), 3) (List.mem_of_getElem? (i := 5) rfl)
theorem d_Warp_aim_10 : decode prog_10_method_9_code 10 = .ok (.iload_n 1, 1) := id_Warp_aim_0 (10, .iload_n 1, 1) (List.mem_of_getElem? (i := 6) rfl)
theorem d_Warp_aim_11 : decode prog_10_method_9_code 11 = .ok (.iload_n 2, 1) := id_Warp_aim_0 (11, .iload_n 2, 1) (List.mem_of_getElem? (i := 7) rfl)
theorem d_Warp_aim_12 : decode prog_10_method_9_code 12 = .ok (.invokestatic 73, 3) := id_Warp_aim_0 (12, .invokestatic 73, 3) (List.mem_of_getElem? (i := 8) rfl)
theorem d_Warp_aim_15 : decode prog_10_method_9_code 15 = .ok (.ifCond .eq (29), 3) := id_Warp_aim_0 (15, .ifCond .eq (29), 3) (List.mem_of_getElem? (i := 9) rfl)
theorem d_Warp_aim_18 : decode prog_10_method_9_code 18 = .ok (.aload_n 0, 1) := id_Warp_aim_0 (18, .aload_n 0, 1) (List.mem_of_getElem? (i := 10) rfl)
theorem d_Warp_aim_19 : decode prog_10_method_9_code 19 = .ok (.getfield 24, 3) := id_Warp_aim_0 (19, .getfield 24, 3) (List.mem_of_getElem? (i := 11) rfl)
theorem d_Warp_aim_22 : decode prog_10_method_9_code 22 = .ok (.iload_n 2, 1) := id_Warp_aim_0 (22, .iload_n 2, 1) (List.mem_of_getElem? (i := 12) rfl)
theorem d_Warp_aim_23 : decode prog_10_method_9_code 23 = .ok (.aload_n 0, 1) := id_Warp_aim_0 (23, .aload_n 0, 1) (List.mem_of_getElem? (i := 13) rfl)
theorem d_Warp_aim_24 : decode prog_10_method_9_code 24 = .ok (.iload_n 2, 1) := id_Warp_aim_0 (24, .iload_n 2, 1) (List.mem_of_getElem? (i := 14) rfl)
theorem d_Warp_aim_25 : decode prog_10_method_9_code 25 = .ok (.aload_n 0, 1) := id_Warp_aim_0 (25, .aload_n 0, 1) (List.mem_of_getElem? (i := 15) rfl)
theorem d_Warp_aim_26 : decode prog_10_method_9_code 26 = .ok (.getfield 77, 3) := id_Warp_aim_0 (26, .getfield 77, 3) (List.mem_of_getElem? (i := 16) rfl)
theorem d_Warp_aim_29 : decode prog_10_method_9_code 29 = .ok (.getfield 112, 3) := id_Warp_aim_0 (29, .getfield 112, 3) (List.mem_of_getElem? (i := 17) rfl)
theorem d_Warp_aim_32 : decode prog_10_method_9_code 32 = .ok (.invokevirtual 109, 3) := id_Warp_aim_0 (32, .invokevirtual 109, 3) (List.mem_of_getElem? (i := 18) rfl)
theorem d_Warp_aim_35 : decode prog_10_method_9_code 35 = .ok (.aload_n 0, 1) := id_Warp_aim_0 (35, .aload_n 0, 1) (List.mem_of_getElem? (i := 19) rfl)
theorem d_Warp_aim_36 : decode prog_10_method_9_code 36 = .ok (.getfield 77, 3) := id_Warp_aim_0 (36, .getfield 77, 3) (List.mem_of_getElem? (i := 20) rfl)
theorem d_Warp_aim_39 : decode prog_10_method_9_code 39 = .ok (.getfield 115, 3) := id_Warp_aim_0 (39, .getfield 115, 3) (List.mem_of_getElem? (i := 21) rfl)
theorem d_Warp_aim_42 : decode prog_10_method_9_code 42 = .ok (.iadd, 1) := id_Warp_aim_0 (42, .iadd, 1) (List.mem_of_getElem? (i := 22) rfl)
theorem d_Warp_aim_43 : decode prog_10_method_9_code 43 = .ok (.iastore, 1) := id_Warp_aim_0 (43, .iastore, 1) (List.mem_of_getElem? (i := 23) rfl)
def it_Warp_aim_1 : List (Nat × ClassFile.Instr × Nat) := [(44, .iinc 2 (1), 3), (47, .goto (-45), 3), (50, .return_, 1)]
theorem id_Warp_aim_1 : ∀ q ∈ it_Warp_aim_1, decode prog_10_method_9_code q.1 = .ok q.2 := by decide +kernel
theorem d_Warp_aim_44 : decode prog_10_method_9_code 44 = .ok (.iinc 2 (1), 3) := id_Warp_aim_1 (44, .iinc 2 (1), 3) (List.mem_of_getElem? (i := 0) rfl)
theorem d_Warp_aim_47 : decode prog_10_method_9_code 47 = .ok (.goto (-45), 3) := id_Warp_aim_1 (47, .goto (-45), 3) (List.mem_of_getElem? (i := 1) rfl)
theorem d_Warp_aim_50 : decode prog_10_method_9_code 50 = .ok (.return_, 1) := id_Warp_aim_1 (50, .return_, 1) (List.mem_of_getElem? (i := 2) rfl)
theorem wC_Warp_aim : Cond.code ⟨"WarpMill$Warp", "aim", "(I)V"⟩ prog_10_method_9_code 3 (none) ∈ lw_tb := mem_tb 854 (by decide +kernel) rfl
theorem cw_Warp_aim_WM_in : cW mi_Warp_aim mi_WM_in 2 := ⟨wC_WM_in, wi_WM, ⟨by decide, by decide, by decide +kernel⟩, by decide, by decide⟩
theorem cw_Warp_aim_Warp_register : cW mi_Warp_aim mi_Warp_register 2 := ⟨wC_Warp_register, wi_Warp, ⟨by decide, by decide, by decide +kernel⟩, by decide, by decide⟩
def b_Warp_aim_2 (F : Nat) : Nat → Nat → Int32 → Int32 → Hp → Option Hp
  | 0 => fun _ _ _ _ => none
  | n + 1 => fun x0 x1 x2 h => gd (hK h x0 = 9) <| if (hI h 514 x0) ≤ x2 then (some h) else (cl (f_WM_in F x1 x2 h) fun v_12 h_12 => if v_12 = 0 then (b_Warp_aim_2 F n x0 x1 (x2 + 1) h_12) else (gd (hK h_12 x0 = 9) <| rq h_12 (hR h_12 525 x0) 100 fun a_19_2 => rq h_12 (hR h_12 520 x0) 10 fun a_26 => cl (f_Warp_register F x0 x2 (hI h_12 578 a_26) h_12) fun v_32 h_32 => gd (hK h_32 x0 = 9) <| rq h_32 (hR h_32 520 x0) 10 fun a_36_2 => gd (hK h_32 a_19_2 = 100) <| ix x2 (hN h_32 a_19_2) fun j_43_2 => pw (sA h_32 a_19_2 j_43_2 (v_32 + (hI h_32 580 a_36_2))) fun h_43_3 => b_Warp_aim_2 F n x0 x1 (x2 + 1) h_43_3))
set_option maxRecDepth 100000 in
set_option maxHeartbeats 4000000 in
theorem e_Warp_aim_2 {G : Gl} (hw : gF G) {h0 : Hp} {F : Nat} {h' : Hp}   : ∀ (n : Nat) (x0 : Nat) (x1 : Int32) (x2 : Int32) (h : Hp), b_Warp_aim_2 F n x0 x1 x2 h = some h' → Go G mi_Warp_aim h0 (pV h') h 2 [(0, .ref x0), (1, .int x1), (2, .int x2)] [] := by
  intro n
  induction n with
  | zero =>
    intro _ _ _ _ hf
    exact nm_s hf
  | succ n ih =>
    intro x0 x1 x2 h hf
    unfold b_Warp_aim_2 at hf
    refine g_iload_n d_Warp_aim_2 rfl ?_
    refine g_aload_n d_Warp_aim_3 rfl ?_
    obtain ⟨k_4, hf⟩ := gd_s hf
    refine fg_Warp_lanes lf_Warp_35 d_Warp_aim_4 k_4 ?_
    refine g_icmp_ge 50 d_Warp_aim_7 (by decide) (fun c_7 => ?_) (fun c_7 => ?_)
    · have hf := ifp hf c_7
      exact Go.ret none trivial rfl d_Warp_aim_50 (pV_of hf)
    · have hf := ifn hf c_7
      refine g_iload_n d_Warp_aim_10 rfl ?_
      refine g_iload_n d_Warp_aim_11 rfl ?_
      obtain ⟨v_12, h_12, e_12, hf⟩ := cl_s hf
      refine g_callSN (mz := mi_WM_in) (e_WM_in e_12) cw_Warp_aim_WM_in (host := "WarpMill") (by decide +kernel) wS_WM_in d_Warp_aim_12 rfl rfl (by first | exact Nat.le_of_ble_eq_true rfl | simp [cat_rf, Value.category]) (fun r1 h1 hp hro => ?_)
      obtain ⟨rfl, rfl⟩ := hp
      dsimp only [Option.toList_some, Option.toList_none, List.cons_append, List.nil_append]
      refine g_if_eq 44 d_Warp_aim_15 (by decide) (fun c_15 => ?_) (fun c_15 => ?_)
      · have hf := ifp hf c_15
        refine g_iinc (_ + 1) d_Warp_aim_44 rfl (by rfl) (by decide) ?_
        show Go _ _ _ _ _ _ [(0, _), (1, _), (2, _)] _
        refine g_goto 2 d_Warp_aim_47 (by decide) ?_
        exact ih _ _ _ _ hf
      · have hf := ifn hf c_15
        refine g_aload_n d_Warp_aim_18 rfl ?_
        obtain ⟨k_19, hf⟩ := gd_s hf
        obtain ⟨a_19_2, e_19_2, k_19_2, hf⟩ := rq_s hf
        refine fgs_Warp_row lf_Warp_24 d_Warp_aim_19 k_19 e_19_2 ?_
        refine g_iload_n d_Warp_aim_22 rfl ?_
        refine g_aload_n d_Warp_aim_23 rfl ?_
        refine g_iload_n d_Warp_aim_24 rfl ?_
        refine g_aload_n d_Warp_aim_25 rfl ?_
        obtain ⟨a_26, e_26, k_26, hf⟩ := rq_s hf
        refine fgs_Warp_word lf_Warp_77 d_Warp_aim_26 k_19 e_26 ?_
        refine fg_Word_a lf_Warp_112 d_Warp_aim_29 k_26 ?_
        obtain ⟨v_32, h_32, e_32, hf⟩ := cl_s hf
        refine g_callV (mz := mi_Warp_register) (e_Warp_register e_32) cw_Warp_aim_Warp_register lm_Warp_109 wI_Warp_register wV_Warp_register (ci := 8) k_19 (by decide) rfl rfl d_Warp_aim_32 rfl rfl (by first | exact Nat.le_of_ble_eq_true rfl | simp [cat_rf, Value.category]) (fun r1 h1 hp hro => ?_)
        obtain ⟨rfl, rfl⟩ := hp
        dsimp only [Option.toList_some, Option.toList_none, List.cons_append, List.nil_append]
        refine g_aload_n d_Warp_aim_35 rfl ?_
        obtain ⟨k_36, hf⟩ := gd_s hf
        obtain ⟨a_36_2, e_36_2, k_36_2, hf⟩ := rq_s hf
        refine fgs_Warp_word lf_Warp_77 d_Warp_aim_36 k_36 e_36_2 ?_
        refine fg_Word_n lf_Warp_115 d_Warp_aim_39 k_36_2 ?_
        refine g_iadd d_Warp_aim_42 ?_
        obtain ⟨k_43, hf⟩ := gd_s hf
        obtain ⟨i_43_2, hf⟩ := ix_s hf
        refine g_iast hw k_43 i_43_2 d_Warp_aim_43 ?_
        have hf := pw_b hf
        refine g_iinc (_ + 1) d_Warp_aim_44 rfl (by rfl) (by decide) ?_
        show Go _ _ _ _ _ _ [(0, _), (1, _), (2, _)] _
        refine g_goto 2 d_Warp_aim_47 (by decide) ?_
        exact ih _ _ _ _ hf
def f_Warp_aim (F : Nat) (x0 : Nat) (x1 : Int32) (h : Hp) : Option Hp := b_Warp_aim_2 F F x0 x1 (0 : Int32) h
set_option maxRecDepth 100000 in
set_option maxHeartbeats 4000000 in
theorem e_Warp_aim {G : Gl} (hw : gF G) {F : Nat} {h' : Hp} {x0 : Nat} {x1 : Int32} {h : Hp} (hf : f_Warp_aim F x0 x1 h = some h') : Ex G mi_Warp_aim [.ref x0, .int x1] h (pV h') := by
  unfold f_Warp_aim at hf
  refine Ex.of nmV (by decide) (Nat.le_of_ble_eq_true rfl) ?_
  show Go G mi_Warp_aim h _ h 0 [(0, .ref x0), (1, .int x1)] []
  refine g_iconst 0 d_Warp_aim_0 (by decide) ?_
  refine g_istore_n d_Warp_aim_1 (by decide) ?_
  show Go _ _ _ _ _ _ [(0, _), (1, _), (2, _)] _
  have key := e_Warp_aim_2 hw (G := G) (h0 := h)  F _ _ _ _ hf
  exact key
abbrev mi_Warp_aimedBeyond : MI := (⟨"WarpMill$Warp", "aimedBeyond", "(II)I"⟩, prog_10_method_10_code, 5, some .int, 1, 21)
def it_Warp_aimedBeyond_0 : List (Nat × ClassFile.Instr × Nat) := [(0, .iconst 0, 1), (1, .istore_n 3, 1), (2, .iconst 0, 1), (3, .istore 4, 2), (5, .iload 4, 2), (7, .aload_n 0, 1), (8, .getfield 35, 3), (11, .if_icmp .ge (46), 3), (14, .iload_n 1, 1), (15, .iload 4, 2), (17, .invokestatic 73, 3), (20, .ifCond .eq (31), 3), (23, .aload_n 0, 1), (24, .getfield 24, 3), (27, .iload 4, 2), (29, .iaload, 1), (30, .ifCond .lt (14), 3), (33, .aload_n 0, 1), (34, .getfield 24, 3), (37, .iload 4, 2), (39, .iaload, 1), (40, .iload_n 2, 1), (41, .if_icmp .lt (10), 3), (44, .iload_n 3, 1)]
theorem id_Warp_aimedBeyond_0 : ∀ q ∈ it_Warp_aimedBeyond_0, decode prog_10_method_10_code q.1 = .ok q.2 := by decide +kernel
theorem d_Warp_aimedBeyond_0 : decode prog_10_method_10_code 0 = .ok (.iconst 0, 1) := id_Warp_aimedBeyond_0 (0, .iconst 0, 1) (List.mem_of_getElem? (i := 0) rfl)
theorem d_Warp_aimedBeyond_1 : decode prog_10_method_10_code 1 = .ok (.istore_n 3, 1) := id_Warp_aimedBeyond_0 (1, .istore_n 3, 1) (List.mem_of_getElem? (i := 1) rfl)
theorem d_Warp_aimedBeyond_2 : decode prog_10_method_10_code 2 = .ok (.iconst 0, 1) := id_Warp_aimedBeyond_0 (2, .iconst 0, 1) (List.mem_of_getElem? (i := 2) rfl)
theorem d_Warp_aimedBeyond_3 : decode prog_10_method_10_code 3 = .ok (.istore 4, 2) := id_Warp_aimedBeyond_0 (3, .istore 4, 2) (List.mem_of_getElem? (i := 3) rfl)
theorem d_Warp_aimedBeyond_5 : decode prog_10_method_10_code 5 = .ok (.iload 4, 2) := id_Warp_aimedBeyond_0 (5, .iload 4, 2) (List.mem_of_getElem? (i := 4) rfl)
theorem d_Warp_aimedBeyond_7 : decode prog_10_method_10_code 7 = .ok (.aload_n 0, 1) := id_Warp_aimedBeyond_0 (7, .aload_n 0, 1) (List.mem_of_getElem? (i := 5) rfl)
theorem d_Warp_aimedBeyond_8 : decode prog_10_method_10_code 8 = .ok (.getfield 35, 3) := id_Warp_aimedBeyond_0 (8, .getfield 35, 3) (List.mem_of_getElem? (i := 6) rfl)
theorem d_Warp_aimedBeyond_11 : decode prog_10_method_10_code 11 = .ok (.if_icmp .ge (46), 3) := id_Warp_aimedBeyond_0 (11, .if_icmp .ge (46), 3) (List.mem_of_getElem? (i := 7) rfl)
theorem d_Warp_aimedBeyond_14 : decode prog_10_method_10_code 14 = .ok (.iload_n 1, 1) := id_Warp_aimedBeyond_0 (14, .iload_n 1, 1) (List.mem_of_getElem? (i := 8) rfl)
theorem d_Warp_aimedBeyond_15 : decode prog_10_method_10_code 15 = .ok (.iload 4, 2) := id_Warp_aimedBeyond_0 (15, .iload 4, 2) (List.mem_of_getElem? (i := 9) rfl)
theorem d_Warp_aimedBeyond_17 : decode prog_10_method_10_code 17 = .ok (.invokestatic 73, 3) := id_Warp_aimedBeyond_0 (17, .invokestatic 73, 3) (List.mem_of_getElem? (i := 10) rfl)
theorem d_Warp_aimedBeyond_20 : decode prog_10_method_10_code 20 = .ok (.ifCond .eq (31), 3) := id_Warp_aimedBeyond_0 (20, .ifCond .eq (31), 3) (List.mem_of_getElem? (i := 11) rfl)
theorem d_Warp_aimedBeyond_23 : decode prog_10_method_10_code 23 = .ok (.aload_n 0, 1) := id_Warp_aimedBeyond_0 (23, .aload_n 0, 1) (List.mem_of_getElem? (i := 12) rfl)
theorem d_Warp_aimedBeyond_24 : decode prog_10_method_10_code 24 = .ok (.getfield 24, 3) := id_Warp_aimedBeyond_0 (24, .getfield 24, 3) (List.mem_of_getElem? (i := 13) rfl)
theorem d_Warp_aimedBeyond_27 : decode prog_10_method_10_code 27 = .ok (.iload 4, 2) := id_Warp_aimedBeyond_0 (27, .iload 4, 2) (List.mem_of_getElem? (i := 14) rfl)
theorem d_Warp_aimedBeyond_29 : decode prog_10_method_10_code 29 = .ok (.iaload, 1) := id_Warp_aimedBeyond_0 (29, .iaload, 1) (List.mem_of_getElem? (i := 15) rfl)
theorem d_Warp_aimedBeyond_30 : decode prog_10_method_10_code 30 = .ok (.ifCond .lt (14), 3) := id_Warp_aimedBeyond_0 (30, .ifCond .lt (14), 3) (List.mem_of_getElem? (i := 16) rfl)
theorem d_Warp_aimedBeyond_33 : decode prog_10_method_10_code 33 = .ok (.aload_n 0, 1) := id_Warp_aimedBeyond_0 (33, .aload_n 0, 1) (List.mem_of_getElem? (i := 17) rfl)
theorem d_Warp_aimedBeyond_34 : decode prog_10_method_10_code 34 = .ok (.getfield 24, 3) := id_Warp_aimedBeyond_0 (34, .getfield 24, 3) (List.mem_of_getElem? (i := 18) rfl)
theorem d_Warp_aimedBeyond_37 : decode prog_10_method_10_code 37 = .ok (.iload 4, 2) := id_Warp_aimedBeyond_0 (37, .iload 4, 2) (List.mem_of_getElem? (i := 19) rfl)
theorem d_Warp_aimedBeyond_39 : decode prog_10_method_10_code 39 = .ok (.iaload, 1) := id_Warp_aimedBeyond_0 (39, .iaload, 1) (List.mem_of_getElem? (i := 20) rfl)
theorem d_Warp_aimedBeyond_40 : decode prog_10_method_10_code 40 = .ok (.iload_n 2, 1) := id_Warp_aimedBeyond_0 (40, .iload_n 2, 1) (List.mem_of_getElem? (i := 21) rfl)
theorem d_Warp_aimedBeyond_41 : decode prog_10_method_10_code 41 = .ok (.if_icmp .lt (10), 3) := id_Warp_aimedBeyond_0 (41, .if_icmp .lt (10), 3) (List.mem_of_getElem? (i := 22) rfl)
theorem d_Warp_aimedBeyond_44 : decode prog_10_method_10_code 44 = .ok (.iload_n 3, 1) := id_Warp_aimedBeyond_0 (44, .iload_n 3, 1) (List.mem_of_getElem? (i := 23) rfl)
def it_Warp_aimedBeyond_1 : List (Nat × ClassFile.Instr × Nat) := [(45, .iconst 1, 1), (46, .iload 4, 2), (48, .ishl, 1), (49, .ior, 1), (50, .istore_n 3, 1), (51, .iinc 4 (1), 3), (54, .goto (-49), 3), (57, .iload_n 3, 1), (58, .ireturn, 1)]
theorem id_Warp_aimedBeyond_1 : ∀ q ∈ it_Warp_aimedBeyond_1, decode prog_10_method_10_code q.1 = .ok q.2 := by decide +kernel
theorem d_Warp_aimedBeyond_45 : decode prog_10_method_10_code 45 = .ok (.iconst 1, 1) := id_Warp_aimedBeyond_1 (45, .iconst 1, 1) (List.mem_of_getElem? (i := 0) rfl)
theorem d_Warp_aimedBeyond_46 : decode prog_10_method_10_code 46 = .ok (.iload 4, 2) := id_Warp_aimedBeyond_1 (46, .iload 4, 2) (List.mem_of_getElem? (i := 1) rfl)
theorem d_Warp_aimedBeyond_48 : decode prog_10_method_10_code 48 = .ok (.ishl, 1) := id_Warp_aimedBeyond_1 (48, .ishl, 1) (List.mem_of_getElem? (i := 2) rfl)
theorem d_Warp_aimedBeyond_49 : decode prog_10_method_10_code 49 = .ok (.ior, 1) := id_Warp_aimedBeyond_1 (49, .ior, 1) (List.mem_of_getElem? (i := 3) rfl)
theorem d_Warp_aimedBeyond_50 : decode prog_10_method_10_code 50 = .ok (.istore_n 3, 1) := id_Warp_aimedBeyond_1 (50, .istore_n 3, 1) (List.mem_of_getElem? (i := 4) rfl)
theorem d_Warp_aimedBeyond_51 : decode prog_10_method_10_code 51 = .ok (.iinc 4 (1), 3) := id_Warp_aimedBeyond_1 (51, .iinc 4 (1), 3) (List.mem_of_getElem? (i := 5) rfl)
theorem d_Warp_aimedBeyond_54 : decode prog_10_method_10_code 54 = .ok (.goto (-49), 3) := id_Warp_aimedBeyond_1 (54, .goto (-49), 3) (List.mem_of_getElem? (i := 6) rfl)
theorem d_Warp_aimedBeyond_57 : decode prog_10_method_10_code 57 = .ok (.iload_n 3, 1) := id_Warp_aimedBeyond_1 (57, .iload_n 3, 1) (List.mem_of_getElem? (i := 7) rfl)
theorem d_Warp_aimedBeyond_58 : decode prog_10_method_10_code 58 = .ok (.ireturn, 1) := id_Warp_aimedBeyond_1 (58, .ireturn, 1) (List.mem_of_getElem? (i := 8) rfl)
theorem wC_Warp_aimedBeyond : Cond.code ⟨"WarpMill$Warp", "aimedBeyond", "(II)I"⟩ prog_10_method_10_code 5 (some .int) ∈ lw_tb := mem_tb 858 (by decide +kernel) rfl
theorem cw_Warp_aimedBeyond_WM_in : cW mi_Warp_aimedBeyond mi_WM_in 2 := ⟨wC_WM_in, wi_WM, ⟨by decide, by decide, by decide +kernel⟩, by decide, by decide⟩
def b_Warp_aimedBeyond_44 (F : Nat) (k5 : Nat → Int32 → Int32 → Int32 → Int32 → Hp → Option (Int32 × Hp)) (x0 : Nat) (x1 : Int32) (x2 : Int32) (x3 : Int32) (x4 : Int32) (h : Hp) : Option (Int32 × Hp) := k5 x0 x1 x2 (x3 ||| ((1 : Int32) <<< (x4 &&& 31))) (x4 + 1) h
set_option maxRecDepth 100000 in
set_option maxHeartbeats 4000000 in
theorem e_Warp_aimedBeyond_44 {G : Gl} {h0 : Hp} {F : Nat} {r : Int32} {h' : Hp} {k5 : Nat → Int32 → Int32 → Int32 → Int32 → Hp → Option (Int32 × Hp)} (hk5 : ∀ (y0 : Nat) (y1 : Int32) (y2 : Int32) (y3 : Int32) (y4 : Int32) (hh : Hp), k5 y0 y1 y2 y3 y4 hh = some (r, h') → Go G mi_Warp_aimedBeyond h0 (pI r h') hh 5 [(0, .ref y0), (1, .int y1), (2, .int y2), (3, .int y3), (4, .int y4)] []) {x0 : Nat} {x1 : Int32} {x2 : Int32} {x3 : Int32} {x4 : Int32} {h : Hp} (hf : b_Warp_aimedBeyond_44 F k5 x0 x1 x2 x3 x4 h = some (r, h')) : Go G mi_Warp_aimedBeyond h0 (pI r h') h 44 [(0, .ref x0), (1, .int x1), (2, .int x2), (3, .int x3), (4, .int x4)] [] := by
  unfold b_Warp_aimedBeyond_44 at hf
  refine g_iload_n d_Warp_aimedBeyond_44 rfl ?_
  refine g_iconst 1 d_Warp_aimedBeyond_45 (by decide) ?_
  refine g_iload d_Warp_aimedBeyond_46 rfl ?_
  refine g_ishl d_Warp_aimedBeyond_48 ?_
  refine g_ior d_Warp_aimedBeyond_49 ?_
  refine g_istore_n d_Warp_aimedBeyond_50 (by decide) ?_
  show Go _ _ _ _ _ _ [(0, _), (1, _), (2, _), (3, _), (4, _)] _
  refine g_iinc (_ + 1) d_Warp_aimedBeyond_51 rfl (by rfl) (by decide) ?_
  show Go _ _ _ _ _ _ [(0, _), (1, _), (2, _), (3, _), (4, _)] _
  refine g_goto 5 d_Warp_aimedBeyond_54 (by decide) ?_
  exact hk5 _ _ _ _ _ _ hf
def b_Warp_aimedBeyond_5 (F : Nat) : Nat → Nat → Int32 → Int32 → Int32 → Int32 → Hp → Option (Int32 × Hp)
  | 0 => fun _ _ _ _ _ _ => none
  | n + 1 => fun x0 x1 x2 x3 x4 h => gd (hK h x0 = 9) <| if (hI h 514 x0) ≤ x4 then (some (x3, h)) else (cl (f_WM_in F x1 x4 h) fun v_17 h_17 => if v_17 = 0 then (b_Warp_aimedBeyond_5 F n x0 x1 x2 x3 (x4 + 1) h_17) else (gd (hK h_17 x0 = 9) <| rq h_17 (hR h_17 525 x0) 100 fun a_24_2 => ix x4 (hN h_17 a_24_2) fun j_29 => if (hA h_17 a_24_2 j_29) < 0 then (b_Warp_aimedBeyond_44 F (b_Warp_aimedBeyond_5 F n) x0 x1 x2 x3 x4 h_17) else (ix x4 (hN h_17 a_24_2) fun j_39 => if (hA h_17 a_24_2 j_39) < x2 then (b_Warp_aimedBeyond_5 F n x0 x1 x2 x3 (x4 + 1) h_17) else (b_Warp_aimedBeyond_44 F (b_Warp_aimedBeyond_5 F n) x0 x1 x2 x3 x4 h_17))))
set_option maxRecDepth 100000 in
set_option maxHeartbeats 4000000 in
theorem e_Warp_aimedBeyond_5 {G : Gl} {h0 : Hp} {F : Nat} {r : Int32} {h' : Hp}   : ∀ (n : Nat) (x0 : Nat) (x1 : Int32) (x2 : Int32) (x3 : Int32) (x4 : Int32) (h : Hp), b_Warp_aimedBeyond_5 F n x0 x1 x2 x3 x4 h = some (r, h') → Go G mi_Warp_aimedBeyond h0 (pI r h') h 5 [(0, .ref x0), (1, .int x1), (2, .int x2), (3, .int x3), (4, .int x4)] [] := by
  intro n
  induction n with
  | zero =>
    intro _ _ _ _ _ _ hf
    exact nm_s hf
  | succ n ih =>
    intro x0 x1 x2 x3 x4 h hf
    unfold b_Warp_aimedBeyond_5 at hf
    refine g_iload d_Warp_aimedBeyond_5 rfl ?_
    refine g_aload_n d_Warp_aimedBeyond_7 rfl ?_
    obtain ⟨k_8, hf⟩ := gd_s hf
    refine fg_Warp_lanes lf_Warp_35 d_Warp_aimedBeyond_8 k_8 ?_
    refine g_icmp_ge 57 d_Warp_aimedBeyond_11 (by decide) (fun c_11 => ?_) (fun c_11 => ?_)
    · have hf := ifp hf c_11
      refine g_iload_n d_Warp_aimedBeyond_57 rfl ?_
      exact Go.ret (some _) (rOk_i _) rfl d_Warp_aimedBeyond_58 (pI_of hf)
    · have hf := ifn hf c_11
      refine g_iload_n d_Warp_aimedBeyond_14 rfl ?_
      refine g_iload d_Warp_aimedBeyond_15 rfl ?_
      obtain ⟨v_17, h_17, e_17, hf⟩ := cl_s hf
      refine g_callSN (mz := mi_WM_in) (e_WM_in e_17) cw_Warp_aimedBeyond_WM_in (host := "WarpMill") (by decide +kernel) wS_WM_in d_Warp_aimedBeyond_17 rfl rfl (by first | exact Nat.le_of_ble_eq_true rfl | simp [cat_rf, Value.category]) (fun r1 h1 hp hro => ?_)
      obtain ⟨rfl, rfl⟩ := hp
      dsimp only [Option.toList_some, Option.toList_none, List.cons_append, List.nil_append]
      refine g_if_eq 51 d_Warp_aimedBeyond_20 (by decide) (fun c_20 => ?_) (fun c_20 => ?_)
      · have hf := ifp hf c_20
        refine g_iinc (_ + 1) d_Warp_aimedBeyond_51 rfl (by rfl) (by decide) ?_
        show Go _ _ _ _ _ _ [(0, _), (1, _), (2, _), (3, _), (4, _)] _
        refine g_goto 5 d_Warp_aimedBeyond_54 (by decide) ?_
        exact ih _ _ _ _ _ _ hf
      · have hf := ifn hf c_20
        refine g_aload_n d_Warp_aimedBeyond_23 rfl ?_
        obtain ⟨k_24, hf⟩ := gd_s hf
        obtain ⟨a_24_2, e_24_2, k_24_2, hf⟩ := rq_s hf
        refine fgs_Warp_row lf_Warp_24 d_Warp_aimedBeyond_24 k_24 e_24_2 ?_
        refine g_iload d_Warp_aimedBeyond_27 rfl ?_
        obtain ⟨i_29, hf⟩ := ix_s hf
        refine g_iald k_24_2 i_29 d_Warp_aimedBeyond_29 ?_
        refine g_if_lt 44 d_Warp_aimedBeyond_30 (by decide) (fun c_30 => ?_) (fun c_30 => ?_)
        · have hf := ifp hf c_30
          have key := e_Warp_aimedBeyond_44 (G := G) (h0 := h0) (fun _ _ _ _ _ _ q => ih _ _ _ _ _ _ q) hf
          exact key
        · have hf := ifn hf c_30
          refine g_aload_n d_Warp_aimedBeyond_33 rfl ?_
          refine fgs_Warp_row lf_Warp_24 d_Warp_aimedBeyond_34 k_24 e_24_2 ?_
          refine g_iload d_Warp_aimedBeyond_37 rfl ?_
          obtain ⟨i_39, hf⟩ := ix_s hf
          refine g_iald k_24_2 i_39 d_Warp_aimedBeyond_39 ?_
          refine g_iload_n d_Warp_aimedBeyond_40 rfl ?_
          refine g_icmp_lt 51 d_Warp_aimedBeyond_41 (by decide) (fun c_41 => ?_) (fun c_41 => ?_)
          · have hf := ifp hf c_41
            refine g_iinc (_ + 1) d_Warp_aimedBeyond_51 rfl (by rfl) (by decide) ?_
            show Go _ _ _ _ _ _ [(0, _), (1, _), (2, _), (3, _), (4, _)] _
            refine g_goto 5 d_Warp_aimedBeyond_54 (by decide) ?_
            exact ih _ _ _ _ _ _ hf
          · have hf := ifn hf c_41
            have key := e_Warp_aimedBeyond_44 (G := G) (h0 := h0) (fun _ _ _ _ _ _ q => ih _ _ _ _ _ _ q) hf
            exact key
def f_Warp_aimedBeyond (F : Nat) (x0 : Nat) (x1 : Int32) (x2 : Int32) (h : Hp) : Option (Int32 × Hp) := b_Warp_aimedBeyond_5 F F x0 x1 x2 (0 : Int32) (0 : Int32) h
set_option maxRecDepth 100000 in
set_option maxHeartbeats 4000000 in
theorem e_Warp_aimedBeyond {G : Gl} {F : Nat} {r : Int32} {h' : Hp} {x0 : Nat} {x1 : Int32} {x2 : Int32} {h : Hp} (hf : f_Warp_aimedBeyond F x0 x1 x2 h = some (r, h')) : Ex G mi_Warp_aimedBeyond [.ref x0, .int x1, .int x2] h (pI r h') := by
  unfold f_Warp_aimedBeyond at hf
  refine Ex.of nmI (by decide) (Nat.le_of_ble_eq_true rfl) ?_
  show Go G mi_Warp_aimedBeyond h _ h 0 [(0, .ref x0), (1, .int x1), (2, .int x2)] []
  refine g_iconst 0 d_Warp_aimedBeyond_0 (by decide) ?_
  refine g_istore_n d_Warp_aimedBeyond_1 (by decide) ?_
  show Go _ _ _ _ _ _ [(0, _), (1, _), (2, _), (3, _)] _
  refine g_iconst 0 d_Warp_aimedBeyond_2 (by decide) ?_
  refine g_istore d_Warp_aimedBeyond_3 (by decide) ?_
  show Go _ _ _ _ _ _ [(0, _), (1, _), (2, _), (3, _), (4, _)] _
  have key := e_Warp_aimedBeyond_5 (G := G) (h0 := h)  F _ _ _ _ _ _ hf
  exact key
abbrev mi_WM_unableOf : MI := (⟨"WarpMill", "unableOf", "(LWarpMill$Warp;LWarpMill$Word;I)I"⟩, prog_1_method_22_code, 4, some .int, 2, 45)
def it_WM_unableOf_0 : List (Nat × ClassFile.Instr × Nat) := [(0, .aload_n 2, 1), (1, .getfield 261, 3), (4, .ifCond .eq (9), 3), (7, .aload_n 1, 1), (8, .iload_n 3, 1), (9, .invokevirtual 315, 3), (12, .ireturn, 1), (13, .aload_n 2, 1), (14, .getfield 289, 3), (17, .ifCond .ne (5), 3), (20, .iconst 0, 1), (21, .ireturn, 1), (22, .aload_n 1, 1), (23, .iload_n 3, 1), (24, .invokevirtual 318, 3), (27, .aload_n 1, 1), (28, .iload_n 3, 1), (29, .aload_n 2, 1), (30, .getfield 276, 3), (33, .ifCond .eq (8), 3), (36, .bipush (64), 2), (38, .goto (10), 3), (41, .aload_n 0, 1), (42, .getfield 10, 3)]
theorem id_WM_unableOf_0 : ∀ q ∈ it_WM_unableOf_0, decode prog_1_method_22_code q.1 = .ok q.2 := by decide +kernel
theorem d_WM_unableOf_0 : decode prog_1_method_22_code 0 = .ok (.aload_n 2, 1) := id_WM_unableOf_0 (0, .aload_n 2, 1) (List.mem_of_getElem? (i := 0) rfl)
theorem d_WM_unableOf_1 : decode prog_1_method_22_code 1 = .ok (.getfield 261, 3) := id_WM_unableOf_0 (1, .getfield 261, 3) (List.mem_of_getElem? (i := 1) rfl)
theorem d_WM_unableOf_4 : decode prog_1_method_22_code 4 = .ok (.ifCond .eq (9), 3) := id_WM_unableOf_0 (4, .ifCond .eq (9), 3) (List.mem_of_getElem? (i := 2) rfl)
theorem d_WM_unableOf_7 : decode prog_1_method_22_code 7 = .ok (.aload_n 1, 1) := id_WM_unableOf_0 (7, .aload_n 1, 1) (List.mem_of_getElem? (i := 3) rfl)
theorem d_WM_unableOf_8 : decode prog_1_method_22_code 8 = .ok (.iload_n 3, 1) := id_WM_unableOf_0 (8, .iload_n 3, 1) (List.mem_of_getElem? (i := 4) rfl)
theorem d_WM_unableOf_9 : decode prog_1_method_22_code 9 = .ok (.invokevirtual 315, 3) := id_WM_unableOf_0 (9, .invokevirtual 315, 3) (List.mem_of_getElem? (i := 5) rfl)
theorem d_WM_unableOf_12 : decode prog_1_method_22_code 12 = .ok (.ireturn, 1) := id_WM_unableOf_0 (12, .ireturn, 1) (List.mem_of_getElem? (i := 6) rfl)
theorem d_WM_unableOf_13 : decode prog_1_method_22_code 13 = .ok (.aload_n 2, 1) := id_WM_unableOf_0 (13, .aload_n 2, 1) (List.mem_of_getElem? (i := 7) rfl)
theorem d_WM_unableOf_14 : decode prog_1_method_22_code 14 = .ok (.getfield 289, 3) := id_WM_unableOf_0 (14, .getfield 289, 3) (List.mem_of_getElem? (i := 8) rfl)
theorem d_WM_unableOf_17 : decode prog_1_method_22_code 17 = .ok (.ifCond .ne (5), 3) := id_WM_unableOf_0 (17, .ifCond .ne (5), 3) (List.mem_of_getElem? (i := 9) rfl)
theorem d_WM_unableOf_20 : decode prog_1_method_22_code 20 = .ok (.iconst 0, 1) := id_WM_unableOf_0 (20, .iconst 0, 1) (List.mem_of_getElem? (i := 10) rfl)
theorem d_WM_unableOf_21 : decode prog_1_method_22_code 21 = .ok (.ireturn, 1) := id_WM_unableOf_0 (21, .ireturn, 1) (List.mem_of_getElem? (i := 11) rfl)
theorem d_WM_unableOf_22 : decode prog_1_method_22_code 22 = .ok (.aload_n 1, 1) := id_WM_unableOf_0 (22, .aload_n 1, 1) (List.mem_of_getElem? (i := 12) rfl)
theorem d_WM_unableOf_23 : decode prog_1_method_22_code 23 = .ok (.iload_n 3, 1) := id_WM_unableOf_0 (23, .iload_n 3, 1) (List.mem_of_getElem? (i := 13) rfl)
theorem d_WM_unableOf_24 : decode prog_1_method_22_code 24 = .ok (.invokevirtual 318, 3) := id_WM_unableOf_0 (24, .invokevirtual 318, 3) (List.mem_of_getElem? (i := 14) rfl)
theorem d_WM_unableOf_27 : decode prog_1_method_22_code 27 = .ok (.aload_n 1, 1) := id_WM_unableOf_0 (27, .aload_n 1, 1) (List.mem_of_getElem? (i := 15) rfl)
theorem d_WM_unableOf_28 : decode prog_1_method_22_code 28 = .ok (.iload_n 3, 1) := id_WM_unableOf_0 (28, .iload_n 3, 1) (List.mem_of_getElem? (i := 16) rfl)
theorem d_WM_unableOf_29 : decode prog_1_method_22_code 29 = .ok (.aload_n 2, 1) := id_WM_unableOf_0 (29, .aload_n 2, 1) (List.mem_of_getElem? (i := 17) rfl)
theorem d_WM_unableOf_30 : decode prog_1_method_22_code 30 = .ok (.getfield 276, 3) := id_WM_unableOf_0 (30, .getfield 276, 3) (List.mem_of_getElem? (i := 18) rfl)
theorem d_WM_unableOf_33 : decode prog_1_method_22_code 33 = .ok (.ifCond .eq (8), 3) := id_WM_unableOf_0 (33, .ifCond .eq (8), 3) (List.mem_of_getElem? (i := 19) rfl)
theorem d_WM_unableOf_36 : decode prog_1_method_22_code 36 = .ok (.bipush (64), 2) := id_WM_unableOf_0 (36, .bipush (64), 2) (List.mem_of_getElem? (i := 20) rfl)
theorem d_WM_unableOf_38 : decode prog_1_method_22_code 38 = .ok (.goto (10), 3) := id_WM_unableOf_0 (38, .goto (10), 3) (List.mem_of_getElem? (i := 21) rfl)
theorem d_WM_unableOf_41 : decode prog_1_method_22_code 41 = .ok (.aload_n 0, 1) := id_WM_unableOf_0 (41, .aload_n 0, 1) (List.mem_of_getElem? (i := 22) rfl)
theorem d_WM_unableOf_42 : decode prog_1_method_22_code 42 = .ok (.getfield 10, 3) := id_WM_unableOf_0 (42, .getfield 10, 3) (List.mem_of_getElem? (i := 23) rfl)
def it_WM_unableOf_1 : List (Nat × ClassFile.Instr × Nat) := [(45, .getfield 321, 3), (48, .invokevirtual 323, 3), (51, .ireturn, 1)]
theorem id_WM_unableOf_1 : ∀ q ∈ it_WM_unableOf_1, decode prog_1_method_22_code q.1 = .ok q.2 := by decide +kernel
theorem d_WM_unableOf_45 : decode prog_1_method_22_code 45 = .ok (.getfield 321, 3) := id_WM_unableOf_1 (45, .getfield 321, 3) (List.mem_of_getElem? (i := 0) rfl)
theorem d_WM_unableOf_48 : decode prog_1_method_22_code 48 = .ok (.invokevirtual 323, 3) := id_WM_unableOf_1 (48, .invokevirtual 323, 3) (List.mem_of_getElem? (i := 1) rfl)
theorem d_WM_unableOf_51 : decode prog_1_method_22_code 51 = .ok (.ireturn, 1) := id_WM_unableOf_1 (51, .ireturn, 1) (List.mem_of_getElem? (i := 2) rfl)
theorem wC_WM_unableOf : Cond.code ⟨"WarpMill", "unableOf", "(LWarpMill$Warp;LWarpMill$Word;I)I"⟩ prog_1_method_22_code 4 (some .int) ∈ lw_tb := mem_tb 842 (by decide +kernel) rfl
theorem cw_WM_unableOf_Warp_dividingByZero : cW mi_WM_unableOf mi_Warp_dividingByZero 1 := ⟨wC_Warp_dividingByZero, wi_Warp, ⟨by decide, by decide, by decide +kernel⟩, by decide, by decide⟩
theorem cw_WM_unableOf_Warp_aim : cW mi_WM_unableOf mi_Warp_aim 1 := ⟨wC_Warp_aim, wi_Warp, ⟨by decide, by decide, by decide +kernel⟩, by decide, by decide⟩
theorem cw_WM_unableOf_Warp_aimedBeyond : cW mi_WM_unableOf mi_Warp_aimedBeyond 2 := ⟨wC_Warp_aimedBeyond, wi_Warp, ⟨by decide, by decide, by decide +kernel⟩, by decide, by decide⟩
def b_WM_unableOf_48 (F : Nat) (s0 : Nat) (s1 : Int32) (s2 : Int32) (h : Hp) : Option (Int32 × Hp) := gd (hK h s0 = 9) <| cl (f_Warp_aimedBeyond F s0 s1 s2 h) fun v_48_2 h_48_2 => some (v_48_2, h_48_2)
set_option maxRecDepth 100000 in
set_option maxHeartbeats 4000000 in
theorem e_WM_unableOf_48 {G : Gl} (hw : gF G) {h0 : Hp} {F : Nat} {r : Int32} {h' : Hp}   {s0 : Nat} {s1 : Int32} {s2 : Int32} {h : Hp} (hf : b_WM_unableOf_48 F s0 s1 s2 h = some (r, h')) : Go G mi_WM_unableOf h0 (pI r h') h 48 [] [.int s2, .int s1, .ref s0] := by
  unfold b_WM_unableOf_48 at hf
  obtain ⟨k_48, hf⟩ := gd_s hf
  obtain ⟨v_48_2, h_48_2, e_48_2, hf⟩ := cl_s hf
  refine g_callV (mz := mi_Warp_aimedBeyond) (e_Warp_aimedBeyond e_48_2) cw_WM_unableOf_Warp_aimedBeyond lm_WM_323 wI_Warp_aimedBeyond wV_Warp_aimedBeyond (ci := 8) k_48 (by decide) rfl rfl d_WM_unableOf_48 rfl rfl (by first | exact Nat.le_of_ble_eq_true rfl | simp [cat_rf, Value.category]) (fun r1 h1 hp hro => ?_)
  obtain ⟨rfl, rfl⟩ := hp
  dsimp only [Option.toList_some, Option.toList_none, List.cons_append, List.nil_append]
  exact Go.ret (some _) (rOk_i _) rfl d_WM_unableOf_51 (pI_of hf)
def f_WM_unableOf (F : Nat) (x0 : Nat) (x1 : Option Nat) (x2 : Option Nat) (x3 : Int32) (h : Hp) : Option (Int32 × Hp) := rq h x2 10 fun a_1 => if (hI h 584 a_1) = 0 then (if (hI h 585 a_1) = 0 then (some ((0 : Int32), h)) else (rq h x1 9 fun a_24 => clv (f_Warp_aim F a_24 x3 h) fun h_24_2 => gd (hK h_24_2 a_1 = 10) <| if (hI h_24_2 586 a_1) = 0 then (gd (hK h_24_2 x0 = 1) <| rq h_24_2 (hR h_24_2 0 x0) 2 fun a_42_2 => b_WM_unableOf_48 F a_24 x3 (hI h_24_2 69 a_42_2) h_24_2) else (b_WM_unableOf_48 F a_24 x3 (64 : Int32) h_24_2))) else (rq h x1 9 fun a_9 => cl (f_Warp_dividingByZero F a_9 x3 h) fun v_9_2 h_9_2 => some (v_9_2, h_9_2))
set_option maxRecDepth 100000 in
set_option maxHeartbeats 4000000 in
theorem e_WM_unableOf {G : Gl} (hw : gF G) {F : Nat} {r : Int32} {h' : Hp} {x0 : Nat} {x1 : Option Nat} {x2 : Option Nat} {x3 : Int32} {h : Hp} (hf : f_WM_unableOf F x0 x1 x2 x3 h = some (r, h')) : Ex G mi_WM_unableOf [.ref x0, va_rf x1, va_rf x2, .int x3] h (pI r h') := by
  unfold f_WM_unableOf at hf
  refine Ex.of nmI (by decide) (by cases x1 <;> cases x2 <;> exact Nat.le_of_ble_eq_true rfl) ?_
  rw [show lv_args 0 [.ref x0, va_rf x1, va_rf x2, .int x3] = [(0, .ref x0), (1, va_rf x1), (2, va_rf x2), (3, .int x3)] from by cases x1 <;> cases x2 <;> rfl]
  show Go G mi_WM_unableOf h _ h 0 [(0, .ref x0), (1, va_rf x1), (2, va_rf x2), (3, .int x3)] []
  refine g_aload_nq (r := x2) d_WM_unableOf_0 rfl ?_
  obtain ⟨a_1, rfl, k_1, hf⟩ := rq_s hf
  refine fg_Word_divides lf_WM_261 d_WM_unableOf_1 k_1 ?_
  refine g_if_eq 13 d_WM_unableOf_4 (by decide) (fun c_4 => ?_) (fun c_4 => ?_)
  · have hf := ifp hf c_4
    refine g_aload_n d_WM_unableOf_13 rfl ?_
    refine fg_Word_usesMemory lf_WM_289 d_WM_unableOf_14 k_1 ?_
    refine g_if_ne 22 d_WM_unableOf_17 (by decide) (fun c_17 => ?_) (fun c_17 => ?_)
    · have hf := ifn hf c_17
      refine g_aload_nq (r := x1) d_WM_unableOf_22 rfl ?_
      refine g_iload_n d_WM_unableOf_23 rfl ?_
      obtain ⟨a_24, rfl, k_24, hf⟩ := rq_s hf
      obtain ⟨h_24_2, e_24_2, hf⟩ := clv_s hf
      refine g_callV (mz := mi_Warp_aim) (e_Warp_aim hw e_24_2) cw_WM_unableOf_Warp_aim lm_WM_318 wI_Warp_aim wV_Warp_aim (ci := 8) k_24 (by decide) rfl rfl d_WM_unableOf_24 rfl rfl (by first | exact Nat.le_of_ble_eq_true rfl | simp [cat_rf, Value.category]) (fun r1 h1 hp hro => ?_)
      obtain ⟨rfl, rfl⟩ := hp
      dsimp only [Option.toList_some, Option.toList_none, List.cons_append, List.nil_append]
      refine g_aload_n d_WM_unableOf_27 rfl ?_
      refine g_iload_n d_WM_unableOf_28 rfl ?_
      refine g_aload_n d_WM_unableOf_29 rfl ?_
      obtain ⟨k_30, hf⟩ := gd_s hf
      refine fg_Word_usesShared lf_WM_276 d_WM_unableOf_30 k_30 ?_
      refine g_if_eq 41 d_WM_unableOf_33 (by decide) (fun c_33 => ?_) (fun c_33 => ?_)
      · have hf := ifp hf c_33
        refine g_aload_n d_WM_unableOf_41 rfl ?_
        obtain ⟨k_42, hf⟩ := gd_s hf
        obtain ⟨a_42_2, e_42_2, k_42_2, hf⟩ := rq_s hf
        refine fgs_WM_sizes lf_WM_10 d_WM_unableOf_42 k_42 e_42_2 ?_
        refine fg_Sizes_ints lf_WM_321 d_WM_unableOf_45 k_42_2 ?_
        refine Go.locals [] rfl ?_
        have key := e_WM_unableOf_48 hw (G := G) (h0 := h)  hf
        exact key
      · have hf := ifn hf c_33
        refine g_bipush (64) d_WM_unableOf_36 (by decide) ?_
        refine g_goto 48 d_WM_unableOf_38 (by decide) ?_
        refine Go.locals [] rfl ?_
        have key := e_WM_unableOf_48 hw (G := G) (h0 := h)  hf
        exact key
    · have hf := ifp hf c_17
      refine g_iconst 0 d_WM_unableOf_20 (by decide) ?_
      exact Go.ret (some _) (rOk_i _) rfl d_WM_unableOf_21 (pI_of hf)
  · have hf := ifn hf c_4
    refine g_aload_nq (r := x1) d_WM_unableOf_7 rfl ?_
    refine g_iload_n d_WM_unableOf_8 rfl ?_
    obtain ⟨a_9, rfl, k_9, hf⟩ := rq_s hf
    obtain ⟨v_9_2, h_9_2, e_9_2, hf⟩ := cl_s hf
    refine g_callV (mz := mi_Warp_dividingByZero) (e_Warp_dividingByZero e_9_2) cw_WM_unableOf_Warp_dividingByZero lm_WM_315 wI_Warp_dividingByZero wV_Warp_dividingByZero (ci := 8) k_9 (by decide) rfl rfl d_WM_unableOf_9 rfl rfl (by first | exact Nat.le_of_ble_eq_true rfl | simp [cat_rf, Value.category]) (fun r1 h1 hp hro => ?_)
    obtain ⟨rfl, rfl⟩ := hp
    dsimp only [Option.toList_some, Option.toList_none, List.cons_append, List.nil_append]
    exact Go.ret (some _) (rOk_i _) rfl d_WM_unableOf_12 (pI_of hf)
