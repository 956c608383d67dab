abbrev mi_Warp_truths : MI := (⟨"WarpMill$Warp", "truths", "(I)I"⟩, prog_10_method_15_code, 4, some .int, 2, 48)
def it_Warp_truths_0 : List (Nat × ClassFile.Instr × Nat) := [(0, .aload_n 0, 1), (1, .getfield 9, 3), (4, .aload_n 0, 1), (5, .getfield 77, 3), (8, .getfield 112, 3), (11, .iconst 3, 1), (12, .iand, 1), (13, .iaload, 1), (14, .istore_n 2, 1), (15, .aload_n 0, 1), (16, .getfield 9, 3), (19, .aload_n 0, 1), (20, .getfield 77, 3), (23, .getfield 106, 3), (26, .iconst 3, 1), (27, .iand, 1), (28, .iaload, 1), (29, .istore_n 3, 1), (30, .aload_n 0, 1), (31, .getfield 77, 3), (34, .getfield 118, 3), (37, .lookupswitch (88) #[((34), (51)), ((35), (55)), ((36), (59)), ((70), (63)), ((71), (75))], 51), (88, .iload_n 2, 1), (89, .iload_n 3, 1)]
theorem id_Warp_truths_0 : ∀ q ∈ it_Warp_truths_0, decode prog_10_method_15_code q.1 = .ok q.2 := by decide +kernel
theorem d_Warp_truths_0 : decode prog_10_method_15_code 0 = .ok (.aload_n 0, 1) := id_Warp_truths_0 (0, .aload_n 0, 1) (List.mem_of_getElem? (i := 0) rfl)
theorem d_Warp_truths_1 : decode prog_10_method_15_code 1 = .ok (.getfield 9, 3) := id_Warp_truths_0 (1, .getfield 9, 3) (List.mem_of_getElem? (i := 1) rfl)
theorem d_Warp_truths_4 : decode prog_10_method_15_code 4 = .ok (.aload_n 0, 1) := id_Warp_truths_0 (4, .aload_n 0, 1) (List.mem_of_getElem? (i := 2) rfl)
theorem d_Warp_truths_5 : decode prog_10_method_15_code 5 = .ok (.getfield 77, 3) := id_Warp_truths_0 (5, .getfield 77, 3) (List.mem_of_getElem? (i := 3) rfl)
theorem d_Warp_truths_8 : decode prog_10_method_15_code 8 = .ok (.getfield 112, 3) := id_Warp_truths_0 (8, .getfield 112, 3) (List.mem_of_getElem? (i := 4) rfl)
theorem d_Warp_truths_11 : decode prog_10_method_15_code 11 = .ok (.iconst 3, 1) := id_Warp_truths_0 (11, .iconst 3, 1) (List.mem_of_getElem? (i := 5) rfl)
theorem d_Warp_truths_12 : decode prog_10_method_15_code 12 = .ok (.iand, 1) := id_Warp_truths_0 (12, .iand, 1) (List.mem_of_getElem? (i := 6) rfl)
theorem d_Warp_truths_13 : decode prog_10_method_15_code 13 = .ok (.iaload, 1) := id_Warp_truths_0 (13, .iaload, 1) (List.mem_of_getElem? (i := 7) rfl)
theorem d_Warp_truths_14 : decode prog_10_method_15_code 14 = .ok (.istore_n 2, 1) := id_Warp_truths_0 (14, .istore_n 2, 1) (List.mem_of_getElem? (i := 8) rfl)
theorem d_Warp_truths_15 : decode prog_10_method_15_code 15 = .ok (.aload_n 0, 1) := id_Warp_truths_0 (15, .aload_n 0, 1) (List.mem_of_getElem? (i := 9) rfl)
theorem d_Warp_truths_16 : decode prog_10_method_15_code 16 = .ok (.getfield 9, 3) := id_Warp_truths_0 (16, .getfield 9, 3) (List.mem_of_getElem? (i := 10) rfl)
theorem d_Warp_truths_19 : decode prog_10_method_15_code 19 = .ok (.aload_n 0, 1) := id_Warp_truths_0 (19, .aload_n 0, 1) (List.mem_of_getElem? (i := 11) rfl)
theorem d_Warp_truths_20 : decode prog_10_method_15_code 20 = .ok (.getfield 77, 3) := id_Warp_truths_0 (20, .getfield 77, 3) (List.mem_of_getElem? (i := 12) rfl)
theorem d_Warp_truths_23 : decode prog_10_method_15_code 23 = .ok (.getfield 106, 3) := id_Warp_truths_0 (23, .getfield 106, 3) (List.mem_of_getElem? (i := 13) rfl)
theorem d_Warp_truths_26 : decode prog_10_method_15_code 26 = .ok (.iconst 3, 1) := id_Warp_truths_0 (26, .iconst 3, 1) (List.mem_of_getElem? (i := 14) rfl)
theorem d_Warp_truths_27 : decode prog_10_method_15_code 27 = .ok (.iand, 1) := id_Warp_truths_0 (27, .iand, 1) (List.mem_of_getElem? (i := 15) rfl)
theorem d_Warp_truths_28 : decode prog_10_method_15_code 28 = .ok (.iaload, 1) := id_Warp_truths_0 (28, .iaload, 1) (List.mem_of_getElem? (i := 16) rfl)
theorem d_Warp_truths_29 : decode prog_10_method_15_code 29 = .ok (.istore_n 3, 1) := id_Warp_truths_0 (29, .istore_n 3, 1) (List.mem_of_getElem? (i := 17) rfl)
theorem d_Warp_truths_30 : decode prog_10_method_15_code 30 = .ok (.aload_n 0, 1) := id_Warp_truths_0 (30, .aload_n 0, 1) (List.mem_of_getElem? (i := 18) rfl)
theorem d_Warp_truths_31 : decode prog_10_method_15_code 31 = .ok (.getfield 77, 3) := id_Warp_truths_0 (31, .getfield 77, 3) (List.mem_of_getElem? (i := 19) rfl)
theorem d_Warp_truths_34 : decode prog_10_method_15_code 34 = .ok (.getfield 118, 3) := id_Warp_truths_0 (34, .getfield 118, 3) (List.mem_of_getElem? (i := 20) rfl)
theorem d_Warp_truths_37 : decode prog_10_method_15_code 37 = .ok (.lookupswitch (88) #[((34), (51)), ((35), (55)), ((36), (59)), ((70), (63)), ((71), (75))], 51) := id_Warp_truths_0 (37, .lookupswitch (88) #[((34), (51)), ((35), (55)), ((36), (59)), ((70), (63)), ((71), (75))], 51) (List.mem_of_getElem? (i := 21) rfl)
theorem d_Warp_truths_88 : decode prog_10_method_15_code 88 = .ok (.iload_n 2, 1) := id_Warp_truths_0 (88, .iload_n 2, 1) (List.mem_of_getElem? (i := 22) rfl)
theorem d_Warp_truths_89 : decode prog_10_method_15_code 89 = .ok (.iload_n 3, 1) := id_Warp_truths_0 (89, .iload_n 3, 1) (List.mem_of_getElem? (i := 23) rfl)
def it_Warp_truths_1 : List (Nat × ClassFile.Instr × Nat) := [(90, .iand, 1), (91, .ireturn, 1), (92, .iload_n 2, 1), (93, .iload_n 3, 1), (94, .ior, 1), (95, .ireturn, 1), (96, .iload_n 2, 1), (97, .iconst (-1), 1), (98, .ixor, 1), (99, .ireturn, 1), (100, .iload_n 2, 1), (101, .iload_n 1, 1), (102, .iand, 1), (103, .ifCond .eq (7), 3), (106, .iload_n 1, 1), (107, .goto (4), 3), (110, .iconst 0, 1), (111, .ireturn, 1), (112, .iload_n 2, 1), (113, .iload_n 1, 1), (114, .iand, 1), (115, .iload_n 1, 1), (116, .if_icmp .ne (7), 3), (119, .iload_n 1, 1)]
theorem id_Warp_truths_1 : ∀ q ∈ it_Warp_truths_1, decode prog_10_method_15_code q.1 = .ok q.2 := by decide +kernel
theorem d_Warp_truths_90 : decode prog_10_method_15_code 90 = .ok (.iand, 1) := id_Warp_truths_1 (90, .iand, 1) (List.mem_of_getElem? (i := 0) rfl)
theorem d_Warp_truths_91 : decode prog_10_method_15_code 91 = .ok (.ireturn, 1) := id_Warp_truths_1 (91, .ireturn, 1) (List.mem_of_getElem? (i := 1) rfl)
theorem d_Warp_truths_92 : decode prog_10_method_15_code 92 = .ok (.iload_n 2, 1) := id_Warp_truths_1 (92, .iload_n 2, 1) (List.mem_of_getElem? (i := 2) rfl)
theorem d_Warp_truths_93 : decode prog_10_method_15_code 93 = .ok (.iload_n 3, 1) := id_Warp_truths_1 (93, .iload_n 3, 1) (List.mem_of_getElem? (i := 3) rfl)
theorem d_Warp_truths_94 : decode prog_10_method_15_code 94 = .ok (.ior, 1) := id_Warp_truths_1 (94, .ior, 1) (List.mem_of_getElem? (i := 4) rfl)
theorem d_Warp_truths_95 : decode prog_10_method_15_code 95 = .ok (.ireturn, 1) := id_Warp_truths_1 (95, .ireturn, 1) (List.mem_of_getElem? (i := 5) rfl)
theorem d_Warp_truths_96 : decode prog_10_method_15_code 96 = .ok (.iload_n 2, 1) := id_Warp_truths_1 (96, .iload_n 2, 1) (List.mem_of_getElem? (i := 6) rfl)
theorem d_Warp_truths_97 : decode prog_10_method_15_code 97 = .ok (.iconst (-1), 1) := id_Warp_truths_1 (97, .iconst (-1), 1) (List.mem_of_getElem? (i := 7) rfl)
theorem d_Warp_truths_98 : decode prog_10_method_15_code 98 = .ok (.ixor, 1) := id_Warp_truths_1 (98, .ixor, 1) (List.mem_of_getElem? (i := 8) rfl)
theorem d_Warp_truths_99 : decode prog_10_method_15_code 99 = .ok (.ireturn, 1) := id_Warp_truths_1 (99, .ireturn, 1) (List.mem_of_getElem? (i := 9) rfl)
theorem d_Warp_truths_100 : decode prog_10_method_15_code 100 = .ok (.iload_n 2, 1) := id_Warp_truths_1 (100, .iload_n 2, 1) (List.mem_of_getElem? (i := 10) rfl)
theorem d_Warp_truths_101 : decode prog_10_method_15_code 101 = .ok (.iload_n 1, 1) := id_Warp_truths_1 (101, .iload_n 1, 1) (List.mem_of_getElem? (i := 11) rfl)
theorem d_Warp_truths_102 : decode prog_10_method_15_code 102 = .ok (.iand, 1) := id_Warp_truths_1 (102, .iand, 1) (List.mem_of_getElem? (i := 12) rfl)
theorem d_Warp_truths_103 : decode prog_10_method_15_code 103 = .ok (.ifCond .eq (7), 3) := id_Warp_truths_1 (103, .ifCond .eq (7), 3) (List.mem_of_getElem? (i := 13) rfl)
theorem d_Warp_truths_106 : decode prog_10_method_15_code 106 = .ok (.iload_n 1, 1) := id_Warp_truths_1 (106, .iload_n 1, 1) (List.mem_of_getElem? (i := 14) rfl)
theorem d_Warp_truths_107 : decode prog_10_method_15_code 107 = .ok (.goto (4), 3) := id_Warp_truths_1 (107, .goto (4), 3) (List.mem_of_getElem? (i := 15) rfl)
theorem d_Warp_truths_110 : decode prog_10_method_15_code 110 = .ok (.iconst 0, 1) := id_Warp_truths_1 (110, .iconst 0, 1) (List.mem_of_getElem? (i := 16) rfl)
theorem d_Warp_truths_111 : decode prog_10_method_15_code 111 = .ok (.ireturn, 1) := id_Warp_truths_1 (111, .ireturn, 1) (List.mem_of_getElem? (i := 17) rfl)
theorem d_Warp_truths_112 : decode prog_10_method_15_code 112 = .ok (.iload_n 2, 1) := id_Warp_truths_1 (112, .iload_n 2, 1) (List.mem_of_getElem? (i := 18) rfl)
theorem d_Warp_truths_113 : decode prog_10_method_15_code 113 = .ok (.iload_n 1, 1) := id_Warp_truths_1 (113, .iload_n 1, 1) (List.mem_of_getElem? (i := 19) rfl)
theorem d_Warp_truths_114 : decode prog_10_method_15_code 114 = .ok (.iand, 1) := id_Warp_truths_1 (114, .iand, 1) (List.mem_of_getElem? (i := 20) rfl)
theorem d_Warp_truths_115 : decode prog_10_method_15_code 115 = .ok (.iload_n 1, 1) := id_Warp_truths_1 (115, .iload_n 1, 1) (List.mem_of_getElem? (i := 21) rfl)
theorem d_Warp_truths_116 : decode prog_10_method_15_code 116 = .ok (.if_icmp .ne (7), 3) := id_Warp_truths_1 (116, .if_icmp .ne (7), 3) (List.mem_of_getElem? (i := 22) rfl)
theorem d_Warp_truths_119 : decode prog_10_method_15_code 119 = .ok (.iload_n 1, 1) := id_Warp_truths_1 (119, .iload_n 1, 1) (List.mem_of_getElem? (i := 23) rfl)
def it_Warp_truths_2 : List (Nat × ClassFile.Instr × Nat) := [(120, .goto (4), 3), (123, .iconst 0, 1), (124, .ireturn, 1), (125, .aload_n 0, 1), (126, .iload_n 1, 1), (127, .invokevirtual 154, 3), (130, .ireturn, 1)]
theorem id_Warp_truths_2 : ∀ q ∈ it_Warp_truths_2, decode prog_10_method_15_code q.1 = .ok q.2 := by decide +kernel
theorem d_Warp_truths_120 : decode prog_10_method_15_code 120 = .ok (.goto (4), 3) := id_Warp_truths_2 (120, .goto (4), 3) (List.mem_of_getElem? (i := 0) rfl)
theorem d_Warp_truths_123 : decode prog_10_method_15_code 123 = .ok (.iconst 0, 1) := id_Warp_truths_2 (123, .iconst 0, 1) (List.mem_of_getElem? (i := 1) rfl)
theorem d_Warp_truths_124 : decode prog_10_method_15_code 124 = .ok (.ireturn, 1) := id_Warp_truths_2 (124, .ireturn, 1) (List.mem_of_getElem? (i := 2) rfl)
theorem d_Warp_truths_125 : decode prog_10_method_15_code 125 = .ok (.aload_n 0, 1) := id_Warp_truths_2 (125, .aload_n 0, 1) (List.mem_of_getElem? (i := 3) rfl)
theorem d_Warp_truths_126 : decode prog_10_method_15_code 126 = .ok (.iload_n 1, 1) := id_Warp_truths_2 (126, .iload_n 1, 1) (List.mem_of_getElem? (i := 4) rfl)
theorem d_Warp_truths_127 : decode prog_10_method_15_code 127 = .ok (.invokevirtual 154, 3) := id_Warp_truths_2 (127, .invokevirtual 154, 3) (List.mem_of_getElem? (i := 5) rfl)
theorem d_Warp_truths_130 : decode prog_10_method_15_code 130 = .ok (.ireturn, 1) := id_Warp_truths_2 (130, .ireturn, 1) (List.mem_of_getElem? (i := 6) rfl)
theorem wC_Warp_truths : Cond.code ⟨"WarpMill$Warp", "truths", "(I)I"⟩ prog_10_method_15_code 4 (some .int) ∈ lw_tb := mem_tb 961 (by decide +kernel) rfl
theorem cw_Warp_truths_Warp_compared : cW mi_Warp_truths mi_Warp_compared 1 := ⟨wC_Warp_compared, wi_Warp, ⟨by decide, by decide, by decide +kernel⟩, by decide, by decide⟩
def f_Warp_truths (F : Nat) (x0 : Nat) (x1 : Int32) (h : Hp) : Option (Int32 × Hp) := gd (hK h x0 = 9) <| rq h (hR h 526 x0) 100 fun a_1_2 => rq h (hR h 520 x0) 10 fun a_5 => ix ((hI h 578 a_5) &&& (3 : Int32)) (hN h a_1_2) fun j_13 => ix ((hI h 579 a_5) &&& (3 : Int32)) (hN h a_1_2) fun j_28 => if (hI h 576 a_5) = 34 then (some (((hA h a_1_2 j_13) &&& (hA h a_1_2 j_28)), h)) else if (hI h 576 a_5) = 35 then (some (((hA h a_1_2 j_13) ||| (hA h a_1_2 j_28)), h)) else if (hI h 576 a_5) = 36 then (some (((hA h a_1_2 j_13) ^^^ (-1 : Int32)), h)) else if (hI h 576 a_5) = 70 then (if ((hA h a_1_2 j_13) &&& x1) = 0 then (some ((0 : Int32), h)) else (some (x1, h))) else if (hI h 576 a_5) = 71 then (if ((hA h a_1_2 j_13) &&& x1) = x1 then (some (x1, h)) else (some ((0 : Int32), h))) else (cl (f_Warp_compared F x0 x1 h) fun v_127 h_127 => some (v_127, h_127))
set_option maxRecDepth 100000 in
set_option maxHeartbeats 4000000 in
theorem e_Warp_truths {G : Gl} {F : Nat} {r : Int32} {h' : Hp} {x0 : Nat} {x1 : Int32} {h : Hp} (hf : f_Warp_truths F x0 x1 h = some (r, h')) : Ex G mi_Warp_truths [.ref x0, .int x1] h (pI r h') := by
  unfold f_Warp_truths at hf
  refine Ex.of nmI (by decide) (Nat.le_of_ble_eq_true rfl) ?_
  show Go G mi_Warp_truths h _ h 0 [(0, .ref x0), (1, .int x1)] []
  refine g_aload_n d_Warp_truths_0 rfl ?_
  obtain ⟨k_1, hf⟩ := gd_s hf
  obtain ⟨a_1_2, e_1_2, k_1_2, hf⟩ := rq_s hf
  refine fgs_Warp_predicates lf_Warp_9 d_Warp_truths_1 k_1 e_1_2 ?_
  refine g_aload_n d_Warp_truths_4 rfl ?_
  obtain ⟨a_5, e_5, k_5, hf⟩ := rq_s hf
  refine fgs_Warp_word lf_Warp_77 d_Warp_truths_5 k_1 e_5 ?_
  refine fg_Word_a lf_Warp_112 d_Warp_truths_8 k_5 ?_
  refine g_iconst 3 d_Warp_truths_11 (by decide) ?_
  refine g_iand d_Warp_truths_12 ?_
  obtain ⟨i_13, hf⟩ := ix_s hf
  refine g_iald k_1_2 i_13 d_Warp_truths_13 ?_
  refine g_istore_n d_Warp_truths_14 (by decide) ?_
  show Go _ _ _ _ _ _ [(0, _), (1, _), (2, _)] _
  refine g_aload_n d_Warp_truths_15 rfl ?_
  refine fgs_Warp_predicates lf_Warp_9 d_Warp_truths_16 k_1 e_1_2 ?_
  refine g_aload_n d_Warp_truths_19 rfl ?_
  refine fgs_Warp_word lf_Warp_77 d_Warp_truths_20 k_1 e_5 ?_
  refine fg_Word_b lf_Warp_106 d_Warp_truths_23 k_5 ?_
  refine g_iconst 3 d_Warp_truths_26 (by decide) ?_
  refine g_iand d_Warp_truths_27 ?_
  obtain ⟨i_28, hf⟩ := ix_s hf
  refine g_iald k_1_2 i_28 d_Warp_truths_28 ?_
  refine g_istore_n d_Warp_truths_29 (by decide) ?_
  show Go _ _ _ _ _ _ [(0, _), (1, _), (2, _), (3, _)] _
  refine g_aload_n d_Warp_truths_30 rfl ?_
  refine fgs_Warp_word lf_Warp_77 d_Warp_truths_31 k_1 e_5 ?_
  refine fg_Word_op lf_Warp_118 d_Warp_truths_34 k_5 ?_
  refine g_byc (34) (fun hs_37 => ?_) (fun n0_37 => ?_)
  · refine g_lookup 88 d_Warp_truths_37 (by decide) (by rw [hs_37] <;> rfl) (by decide) ?_
    have hf := ifp hf hs_37
    refine g_iload_n d_Warp_truths_88 rfl ?_
    refine g_iload_n d_Warp_truths_89 rfl ?_
    refine g_iand d_Warp_truths_90 ?_
    exact Go.ret (some _) (rOk_i _) rfl d_Warp_truths_91 (pI_of hf)
  have hf := ifn hf n0_37
  refine g_byc (35) (fun hs_37 => ?_) (fun n1_37 => ?_)
  · refine g_lookup 92 d_Warp_truths_37 (by decide) (by rw [hs_37] <;> rfl) (by decide) ?_
    have hf := ifp hf hs_37
    refine g_iload_n d_Warp_truths_92 rfl ?_
    refine g_iload_n d_Warp_truths_93 rfl ?_
    refine g_ior d_Warp_truths_94 ?_
    exact Go.ret (some _) (rOk_i _) rfl d_Warp_truths_95 (pI_of hf)
  have hf := ifn hf n1_37
  refine g_byc (36) (fun hs_37 => ?_) (fun n2_37 => ?_)
  · refine g_lookup 96 d_Warp_truths_37 (by decide) (by rw [hs_37] <;> rfl) (by decide) ?_
    have hf := ifp hf hs_37
    refine g_iload_n d_Warp_truths_96 rfl ?_
    refine g_iconst (-1) d_Warp_truths_97 (by decide) ?_
    refine g_ixor d_Warp_truths_98 ?_
    exact Go.ret (some _) (rOk_i _) rfl d_Warp_truths_99 (pI_of hf)
  have hf := ifn hf n2_37
  refine g_byc (70) (fun hs_37 => ?_) (fun n3_37 => ?_)
  · refine g_lookup 100 d_Warp_truths_37 (by decide) (by rw [hs_37] <;> rfl) (by decide) ?_
    have hf := ifp hf hs_37
    refine g_iload_n d_Warp_truths_100 rfl ?_
    refine g_iload_n d_Warp_truths_101 rfl ?_
    refine g_iand d_Warp_truths_102 ?_
    refine g_if_eq 110 d_Warp_truths_103 (by decide) (fun c_103 => ?_) (fun c_103 => ?_)
    · have hf := ifp hf c_103
      refine g_iconst 0 d_Warp_truths_110 (by decide) ?_
      exact Go.ret (some _) (rOk_i _) rfl d_Warp_truths_111 (pI_of hf)
    · have hf := ifn hf c_103
      refine g_iload_n d_Warp_truths_106 rfl ?_
      refine g_goto 111 d_Warp_truths_107 (by decide) ?_
      exact Go.ret (some _) (rOk_i _) rfl d_Warp_truths_111 (pI_of hf)
  have hf := ifn hf n3_37
  refine g_byc (71) (fun hs_37 => ?_) (fun n4_37 => ?_)
  · refine g_lookup 112 d_Warp_truths_37 (by decide) (by rw [hs_37] <;> rfl) (by decide) ?_
    have hf := ifp hf hs_37
    refine g_iload_n d_Warp_truths_112 rfl ?_
    refine g_iload_n d_Warp_truths_113 rfl ?_
    refine g_iand d_Warp_truths_114 ?_
    refine g_iload_n d_Warp_truths_115 rfl ?_
    refine g_icmp_ne 123 d_Warp_truths_116 (by decide) (fun c_116 => ?_) (fun c_116 => ?_)
    · have hf := ifn hf c_116
      refine g_iconst 0 d_Warp_truths_123 (by decide) ?_
      exact Go.ret (some _) (rOk_i _) rfl d_Warp_truths_124 (pI_of hf)
    · have hf := ifp hf c_116
      refine g_iload_n d_Warp_truths_119 rfl ?_
      refine g_goto 124 d_Warp_truths_120 (by decide) ?_
      exact Go.ret (some _) (rOk_i _) rfl d_Warp_truths_124 (pI_of hf)
  have hf := ifn hf n4_37
  refine g_lookup (off := 88) 125 d_Warp_truths_37 (by decide) (lo_c (i32n n0_37 (by decide)) (lo_c (i32n n1_37 (by decide)) (lo_c (i32n n2_37 (by decide)) (lo_c (i32n n3_37 (by decide)) (lo_c (i32n n4_37 (by decide)) rfl))))) (by decide) ?_
  refine g_aload_n d_Warp_truths_125 rfl ?_
  refine g_iload_n d_Warp_truths_126 rfl ?_
  obtain ⟨v_127, h_127, e_127, hf⟩ := cl_s hf
  refine g_callV (mz := mi_Warp_compared) (e_Warp_compared e_127) cw_Warp_truths_Warp_compared lm_Warp_154 wI_Warp_compared wV_Warp_compared (ci := 8) k_1 (by decide) rfl rfl d_Warp_truths_127 rfl rfl (by first | exact Nat.le_of_ble_eq_true rfl | simp [cat_rf, Value.category]) (fun r1 h1 hp hro => ?_)
  obtain ⟨rfl, rfl⟩ := hp
  dsimp only [Option.toList_some, Option.toList_none, List.cons_append, List.nil_append]
  exact Go.ret (some _) (rOk_i _) rfl d_Warp_truths_130 (pI_of hf)
abbrev mi_Warp_about : MI := (⟨"WarpMill$Warp", "about", "(I)I"⟩, prog_10_method_18_code, 2, some .int, 0, 0)
def it_Warp_about_0 : List (Nat × ClassFile.Instr × Nat) := [(0, .aload_n 0, 1), (1, .getfield 77, 3), (4, .getfield 115, 3), (7, .tableswitch (80) (0) (5) #[(37), (49), (57), (65), (73), (75)], 37), (44, .aload_n 0, 1), (45, .getfield 31, 3), (48, .aload_n 0, 1), (49, .getfield 35, 3), (52, .imul, 1), (53, .iload_n 1, 1), (54, .iadd, 1), (55, .ireturn, 1), (56, .aload_n 0, 1), (57, .getfield 27, 3), (60, .getfield 164, 3), (63, .ireturn, 1), (64, .aload_n 0, 1), (65, .getfield 27, 3), (68, .getfield 38, 3), (71, .ireturn, 1), (72, .aload_n 0, 1), (73, .getfield 27, 3), (76, .getfield 165, 3), (79, .ireturn, 1)]
theorem id_Warp_about_0 : ∀ q ∈ it_Warp_about_0, decode prog_10_method_18_code q.1 = .ok q.2 := by decide +kernel
theorem d_Warp_about_0 : decode prog_10_method_18_code 0 = .ok (.aload_n 0, 1) := id_Warp_about_0 (0, .aload_n 0, 1) (List.mem_of_getElem? (i := 0) rfl)
theorem d_Warp_about_1 : decode prog_10_method_18_code 1 = .ok (.getfield 77, 3) := id_Warp_about_0 (1, .getfield 77, 3) (List.mem_of_getElem? (i := 1) rfl)
theorem d_Warp_about_4 : decode prog_10_method_18_code 4 = .ok (.getfield 115, 3) := id_Warp_about_0 (4, .getfield 115, 3) (List.mem_of_getElem? (i := 2) rfl)
theorem d_Warp_about_7 : decode prog_10_method_18_code 7 = .ok (.tableswitch (80) (0) (5) #[(37), (49), (57), (65), (73), (75)], 37) := id_Warp_about_0 (7, .tableswitch (80) (0) (5) #[(37), (49), (57), (65), (73), (75)], 37) (List.mem_of_getElem? (i := 3) rfl)
theorem d_Warp_about_44 : decode prog_10_method_18_code 44 = .ok (.aload_n 0, 1) := id_Warp_about_0 (44, .aload_n 0, 1) (List.mem_of_getElem? (i := 4) rfl)
theorem d_Warp_about_45 : decode prog_10_method_18_code 45 = .ok (.getfield 31, 3) := id_Warp_about_0 (45, .getfield 31, 3) (List.mem_of_getElem? (i := 5) rfl)
theorem d_Warp_about_48 : decode prog_10_method_18_code 48 = .ok (.aload_n 0, 1) := id_Warp_about_0 (48, .aload_n 0, 1) (List.mem_of_getElem? (i := 6) rfl)
theorem d_Warp_about_49 : decode prog_10_method_18_code 49 = .ok (.getfield 35, 3) := id_Warp_about_0 (49, .getfield 35, 3) (List.mem_of_getElem? (i := 7) rfl)
theorem d_Warp_about_52 : decode prog_10_method_18_code 52 = .ok (.imul, 1) := id_Warp_about_0 (52, .imul, 1) (List.mem_of_getElem? (i := 8) rfl)
theorem d_Warp_about_53 : decode prog_10_method_18_code 53 = .ok (.iload_n 1, 1) := id_Warp_about_0 (53, .iload_n 1, 1) (List.mem_of_getElem? (i := 9) rfl)
theorem d_Warp_about_54 : decode prog_10_method_18_code 54 = .ok (.iadd, 1) := id_Warp_about_0 (54, .iadd, 1) (List.mem_of_getElem? (i := 10) rfl)
theorem d_Warp_about_55 : decode prog_10_method_18_code 55 = .ok (.ireturn, 1) := id_Warp_about_0 (55, .ireturn, 1) (List.mem_of_getElem? (i := 11) rfl)
theorem d_Warp_about_56 : decode prog_10_method_18_code 56 = .ok (.aload_n 0, 1) := id_Warp_about_0 (56, .aload_n 0, 1) (List.mem_of_getElem? (i := 12) rfl)
theorem d_Warp_about_57 : decode prog_10_method_18_code 57 = .ok (.getfield 27, 3) := id_Warp_about_0 (57, .getfield 27, 3) (List.mem_of_getElem? (i := 13) rfl)
theorem d_Warp_about_60 : decode prog_10_method_18_code 60 = .ok (.getfield 164, 3) := id_Warp_about_0 (60, .getfield 164, 3) (List.mem_of_getElem? (i := 14) rfl)
theorem d_Warp_about_63 : decode prog_10_method_18_code 63 = .ok (.ireturn, 1) := id_Warp_about_0 (63, .ireturn, 1) (List.mem_of_getElem? (i := 15) rfl)
theorem d_Warp_about_64 : decode prog_10_method_18_code 64 = .ok (.aload_n 0, 1) := id_Warp_about_0 (64, .aload_n 0, 1) (List.mem_of_getElem? (i := 16) rfl)
theorem d_Warp_about_65 : decode prog_10_method_18_code 65 = .ok (.getfield 27, 3) := id_Warp_about_0 (65, .getfield 27, 3) (List.mem_of_getElem? (i := 17) rfl)
theorem d_Warp_about_68 : decode prog_10_method_18_code 68 = .ok (.getfield 38, 3) := id_Warp_about_0 (68, .getfield 38, 3) (List.mem_of_getElem? (i := 18) rfl)
theorem d_Warp_about_71 : decode prog_10_method_18_code 71 = .ok (.ireturn, 1) := id_Warp_about_0 (71, .ireturn, 1) (List.mem_of_getElem? (i := 19) rfl)
theorem d_Warp_about_72 : decode prog_10_method_18_code 72 = .ok (.aload_n 0, 1) := id_Warp_about_0 (72, .aload_n 0, 1) (List.mem_of_getElem? (i := 20) rfl)
theorem d_Warp_about_73 : decode prog_10_method_18_code 73 = .ok (.getfield 27, 3) := id_Warp_about_0 (73, .getfield 27, 3) (List.mem_of_getElem? (i := 21) rfl)
theorem d_Warp_about_76 : decode prog_10_method_18_code 76 = .ok (.getfield 165, 3) := id_Warp_about_0 (76, .getfield 165, 3) (List.mem_of_getElem? (i := 22) rfl)
theorem d_Warp_about_79 : decode prog_10_method_18_code 79 = .ok (.ireturn, 1) := id_Warp_about_0 (79, .ireturn, 1) (List.mem_of_getElem? (i := 23) rfl)
def it_Warp_about_1 : List (Nat × ClassFile.Instr × Nat) := [(80, .iload_n 1, 1), (81, .ireturn, 1), (82, .aload_n 0, 1), (83, .getfield 31, 3), (86, .ireturn, 1), (87, .aload_n 0, 1), (88, .getfield 35, 3), (91, .ireturn, 1)]
theorem id_Warp_about_1 : ∀ q ∈ it_Warp_about_1, decode prog_10_method_18_code q.1 = .ok q.2 := by decide +kernel
theorem d_Warp_about_80 : decode prog_10_method_18_code 80 = .ok (.iload_n 1, 1) := id_Warp_about_1 (80, .iload_n 1, 1) (List.mem_of_getElem? (i := 0) rfl)
theorem d_Warp_about_81 : decode prog_10_method_18_code 81 = .ok (.ireturn, 1) := id_Warp_about_1 (81, .ireturn, 1) (List.mem_of_getElem? (i := 1) rfl)
theorem d_Warp_about_82 : decode prog_10_method_18_code 82 = .ok (.aload_n 0, 1) := id_Warp_about_1 (82, .aload_n 0, 1) (List.mem_of_getElem? (i := 2) rfl)
theorem d_Warp_about_83 : decode prog_10_method_18_code 83 = .ok (.getfield 31, 3) := id_Warp_about_1 (83, .getfield 31, 3) (List.mem_of_getElem? (i := 3) rfl)
theorem d_Warp_about_86 : decode prog_10_method_18_code 86 = .ok (.ireturn, 1) := id_Warp_about_1 (86, .ireturn, 1) (List.mem_of_getElem? (i := 4) rfl)
theorem d_Warp_about_87 : decode prog_10_method_18_code 87 = .ok (.aload_n 0, 1) := id_Warp_about_1 (87, .aload_n 0, 1) (List.mem_of_getElem? (i := 5) rfl)
theorem d_Warp_about_88 : decode prog_10_method_18_code 88 = .ok (.getfield 35, 3) := id_Warp_about_1 (88, .getfield 35, 3) (List.mem_of_getElem? (i := 6) rfl)
theorem d_Warp_about_91 : decode prog_10_method_18_code 91 = .ok (.ireturn, 1) := id_Warp_about_1 (91, .ireturn, 1) (List.mem_of_getElem? (i := 7) rfl)
theorem wC_Warp_about : Cond.code ⟨"WarpMill$Warp", "about", "(I)I"⟩ prog_10_method_18_code 2 (some .int) ∈ lw_tb := mem_tb 973 (by decide +kernel) rfl
def f_Warp_about (F : Nat) (x0 : Nat) (x1 : Int32) (h : Hp) : Option (Int32 × Hp) := gd (hK h x0 = 9) <| rq h (hR h 520 x0) 10 fun a_1_2 => if (hI h 580 a_1_2) = 0 then (some ((((hI h 513 x0) * (hI h 514 x0)) + x1), h)) else if (hI h 580 a_1_2) = 1 then (rq h (hR h 512 x0) 8 fun a_57 => some ((hI h 448 a_57), h)) else if (hI h 580 a_1_2) = 2 then (rq h (hR h 512 x0) 8 fun a_65 => some ((hI h 452 a_65), h)) else if (hI h 580 a_1_2) = 3 then (rq h (hR h 512 x0) 8 fun a_73 => some ((hI h 451 a_73), h)) else if (hI h 580 a_1_2) = 4 then (some (x1, h)) else if (hI h 580 a_1_2) = 5 then (some ((hI h 513 x0), h)) else (some ((hI h 514 x0), h))
set_option maxRecDepth 100000 in
set_option maxHeartbeats 4000000 in
theorem e_Warp_about {G : Gl} {F : Nat} {r : Int32} {h' : Hp} {x0 : Nat} {x1 : Int32} {h : Hp} (hf : f_Warp_about F x0 x1 h = some (r, h')) : Ex G mi_Warp_about [.ref x0, .int x1] h (pI r h') := by
  unfold f_Warp_about at hf
  refine Ex.of nmI (by decide) (Nat.le_of_ble_eq_true rfl) ?_
  show Go G mi_Warp_about h _ h 0 [(0, .ref x0), (1, .int x1)] []
  refine g_aload_n d_Warp_about_0 rfl ?_
  obtain ⟨k_1, hf⟩ := gd_s hf
  obtain ⟨a_1_2, e_1_2, k_1_2, hf⟩ := rq_s hf
  refine fgs_Warp_word lf_Warp_77 d_Warp_about_1 k_1 e_1_2 ?_
  refine fg_Word_n lf_Warp_115 d_Warp_about_4 k_1_2 ?_
  refine g_sw sw_0_5 (fun hs_7 => ?_)
  rcases hs_7 with hs_7 | hs_7 | hs_7 | hs_7 | hs_7 | hs_7 | hs_7
  · refine g_tableOut 87 d_Warp_about_7 hs_7 (by decide) ?_
    have hf := ifn hf (sw_ne hs_7 0 (by decide) (by decide))
    have hf := ifn hf (sw_ne hs_7 1 (by decide) (by decide))
    have hf := ifn hf (sw_ne hs_7 2 (by decide) (by decide))
    have hf := ifn hf (sw_ne hs_7 3 (by decide) (by decide))
    have hf := ifn hf (sw_ne hs_7 4 (by decide) (by decide))
    have hf := ifn hf (sw_ne hs_7 5 (by decide) (by decide))
    refine g_aload_n d_Warp_about_87 rfl ?_
    refine fg_Warp_lanes lf_Warp_35 d_Warp_about_88 k_1 ?_
    exact Go.ret (some _) (rOk_i _) rfl d_Warp_about_91 (pI_of hf)
  · refine g_tableIn 44 d_Warp_about_7 (by rw [hs_7]; decide) (by rw [hs_7]; decide) (by rw [hs_7]; rfl) (by decide) ?_
    have hf := ifp hf hs_7
    refine g_aload_n d_Warp_about_44 rfl ?_
    refine fg_Warp_number lf_Warp_31 d_Warp_about_45 k_1 ?_
    refine g_aload_n d_Warp_about_48 rfl ?_
    refine fg_Warp_lanes lf_Warp_35 d_Warp_about_49 k_1 ?_
    refine g_imul d_Warp_about_52 ?_
    refine g_iload_n d_Warp_about_53 rfl ?_
    refine g_iadd d_Warp_about_54 ?_
    exact Go.ret (some _) (rOk_i _) rfl d_Warp_about_55 (pI_of hf)
  · refine g_tableIn 56 d_Warp_about_7 (by rw [hs_7]; decide) (by rw [hs_7]; decide) (by rw [hs_7]; rfl) (by decide) ?_
    have hf := ifn hf (sw_d hs_7 (by decide))
    have hf := ifp hf hs_7
    refine g_aload_n d_Warp_about_56 rfl ?_
    obtain ⟨a_57, e_57, k_57, hf⟩ := rq_s hf
    refine fgs_Warp_block lf_Warp_27 d_Warp_about_57 k_1 e_57 ?_
    refine fg_Block_number lf_Warp_164 d_Warp_about_60 k_57 ?_
    exact Go.ret (some _) (rOk_i _) rfl d_Warp_about_63 (pI_of hf)
  · refine g_tableIn 64 d_Warp_about_7 (by rw [hs_7]; decide) (by rw [hs_7]; decide) (by rw [hs_7]; rfl) (by decide) ?_
    have hf := ifn hf (sw_d hs_7 (by decide))
    have hf := ifn hf (sw_d hs_7 (by decide))
    have hf := ifp hf hs_7
    refine g_aload_n d_Warp_about_64 rfl ?_
    obtain ⟨a_65, e_65, k_65, hf⟩ := rq_s hf
    refine fgs_Warp_block lf_Warp_27 d_Warp_about_65 k_1 e_65 ?_
    refine fg_Block_threads lf_Warp_38 d_Warp_about_68 k_65 ?_
    exact Go.ret (some _) (rOk_i _) rfl d_Warp_about_71 (pI_of hf)
  · refine g_tableIn 72 d_Warp_about_7 (by rw [hs_7]; decide) (by rw [hs_7]; decide) (by rw [hs_7]; rfl) (by decide) ?_
    have hf := ifn hf (sw_d hs_7 (by decide))
    have hf := ifn hf (sw_d hs_7 (by decide))
    have hf := ifn hf (sw_d hs_7 (by decide))
    have hf := ifp hf hs_7
    refine g_aload_n d_Warp_about_72 rfl ?_
    obtain ⟨a_73, e_73, k_73, hf⟩ := rq_s hf
    refine fgs_Warp_block lf_Warp_27 d_Warp_about_73 k_1 e_73 ?_
    refine fg_Block_blocks lf_Warp_165 d_Warp_about_76 k_73 ?_
    exact Go.ret (some _) (rOk_i _) rfl d_Warp_about_79 (pI_of hf)
  · refine g_tableIn 80 d_Warp_about_7 (by rw [hs_7]; decide) (by rw [hs_7]; decide) (by rw [hs_7]; rfl) (by decide) ?_
    have hf := ifn hf (sw_d hs_7 (by decide))
    have hf := ifn hf (sw_d hs_7 (by decide))
    have hf := ifn hf (sw_d hs_7 (by decide))
    have hf := ifn hf (sw_d hs_7 (by decide))
    have hf := ifp hf hs_7
    refine g_iload_n d_Warp_about_80 rfl ?_
    exact Go.ret (some _) (rOk_i _) rfl d_Warp_about_81 (pI_of hf)
  · refine g_tableIn 82 d_Warp_about_7 (by rw [hs_7]; decide) (by rw [hs_7]; decide) (by rw [hs_7]; rfl) (by decide) ?_
    have hf := ifn hf (sw_d hs_7 (by decide))
    have hf := ifn hf (sw_d hs_7 (by decide))
    have hf := ifn hf (sw_d hs_7 (by decide))
    have hf := ifn hf (sw_d hs_7 (by decide))
    have hf := ifn hf (sw_d hs_7 (by decide))
    have hf := ifp hf hs_7
    refine g_aload_n d_Warp_about_82 rfl ?_
    refine fg_Warp_number lf_Warp_31 d_Warp_about_83 k_1 ?_
    exact Go.ret (some _) (rOk_i _) rfl d_Warp_about_86 (pI_of hf)
abbrev mi_Warp_sum : MI := (⟨"WarpMill$Warp", "sum", "(III)I"⟩, prog_10_method_19_code, 3, some .int, 1, 21)
def it_Warp_sum_0 : List (Nat × ClassFile.Instr × Nat) := [(0, .iload_n 0, 1), (1, .tableswitch (139) (4) (16) #[(67), (71), (75), (79), (91), (103), (107), (111), (115), (119), (123), (127), (133)], 67), (68, .iload_n 1, 1), (69, .iload_n 2, 1), (70, .iadd, 1), (71, .ireturn, 1), (72, .iload_n 1, 1), (73, .iload_n 2, 1), (74, .isub, 1), (75, .ireturn, 1), (76, .iload_n 1, 1), (77, .iload_n 2, 1), (78, .imul, 1), (79, .ireturn, 1), (80, .iload_n 2, 1), (81, .ifCond .ne (7), 3), (84, .iconst 0, 1), (85, .goto (6), 3), (88, .iload_n 1, 1), (89, .iload_n 2, 1), (90, .idiv, 1), (91, .ireturn, 1), (92, .iload_n 2, 1), (93, .ifCond .ne (7), 3)]
theorem id_Warp_sum_0 : ∀ q ∈ it_Warp_sum_0, decode prog_10_method_19_code q.1 = .ok q.2 := by decide +kernel
theorem d_Warp_sum_0 : decode prog_10_method_19_code 0 = .ok (.iload_n 0, 1) := id_Warp_sum_0 (0, .iload_n 0, 1) (List.mem_of_getElem? (i := 0) rfl)
theorem d_Warp_sum_1 : decode prog_10_method_19_code 1 = .ok (.tableswitch (139) (4) (16) #[(67), (71), (75), (79), (91), (103), (107), (111), (115), (119), (123), (127), (133)], 67) := id_Warp_sum_0 (1, .tableswitch (139) (4) (16) #[(67), (71), (75), (79), (91), (103), (107), (111), (115), (119), (123), (127), (133)], 67) (List.mem_of_getElem? (i := 1) rfl)
theorem d_Warp_sum_68 : decode prog_10_method_19_code 68 = .ok (.iload_n 1, 1) := id_Warp_sum_0 (68, .iload_n 1, 1) (List.mem_of_getElem? (i := 2) rfl)
theorem d_Warp_sum_69 : decode prog_10_method_19_code 69 = .ok (.iload_n 2, 1) := id_Warp_sum_0 (69, .iload_n 2, 1) (List.mem_of_getElem? (i := 3) rfl)
theorem d_Warp_sum_70 : decode prog_10_method_19_code 70 = .ok (.iadd, 1) := id_Warp_sum_0 (70, .iadd, 1) (List.mem_of_getElem? (i := 4) rfl)
theorem d_Warp_sum_71 : decode prog_10_method_19_code 71 = .ok (.ireturn, 1) := id_Warp_sum_0 (71, .ireturn, 1) (List.mem_of_getElem? (i := 5) rfl)
theorem d_Warp_sum_72 : decode prog_10_method_19_code 72 = .ok (.iload_n 1, 1) := id_Warp_sum_0 (72, .iload_n 1, 1) (List.mem_of_getElem? (i := 6) rfl)
theorem d_Warp_sum_73 : decode prog_10_method_19_code 73 = .ok (.iload_n 2, 1) := id_Warp_sum_0 (73, .iload_n 2, 1) (List.mem_of_getElem? (i := 7) rfl)
theorem d_Warp_sum_74 : decode prog_10_method_19_code 74 = .ok (.isub, 1) := id_Warp_sum_0 (74, .isub, 1) (List.mem_of_getElem? (i := 8) rfl)
theorem d_Warp_sum_75 : decode prog_10_method_19_code 75 = .ok (.ireturn, 1) := id_Warp_sum_0 (75, .ireturn, 1) (List.mem_of_getElem? (i := 9) rfl)
theorem d_Warp_sum_76 : decode prog_10_method_19_code 76 = .ok (.iload_n 1, 1) := id_Warp_sum_0 (76, .iload_n 1, 1) (List.mem_of_getElem? (i := 10) rfl)
theorem d_Warp_sum_77 : decode prog_10_method_19_code 77 = .ok (.iload_n 2, 1) := id_Warp_sum_0 (77, .iload_n 2, 1) (List.mem_of_getElem? (i := 11) rfl)
theorem d_Warp_sum_78 : decode prog_10_method_19_code 78 = .ok (.imul, 1) := id_Warp_sum_0 (78, .imul, 1) (List.mem_of_getElem? (i := 12) rfl)
theorem d_Warp_sum_79 : decode prog_10_method_19_code 79 = .ok (.ireturn, 1) := id_Warp_sum_0 (79, .ireturn, 1) (List.mem_of_getElem? (i := 13) rfl)
theorem d_Warp_sum_80 : decode prog_10_method_19_code 80 = .ok (.iload_n 2, 1) := id_Warp_sum_0 (80, .iload_n 2, 1) (List.mem_of_getElem? (i := 14) rfl)
theorem d_Warp_sum_81 : decode prog_10_method_19_code 81 = .ok (.ifCond .ne (7), 3) := id_Warp_sum_0 (81, .ifCond .ne (7), 3) (List.mem_of_getElem? (i := 15) rfl)
theorem d_Warp_sum_84 : decode prog_10_method_19_code 84 = .ok (.iconst 0, 1) := id_Warp_sum_0 (84, .iconst 0, 1) (List.mem_of_getElem? (i := 16) rfl)
theorem d_Warp_sum_85 : decode prog_10_method_19_code 85 = .ok (.goto (6), 3) := id_Warp_sum_0 (85, .goto (6), 3) (List.mem_of_getElem? (i := 17) rfl)
theorem d_Warp_sum_88 : decode prog_10_method_19_code 88 = .ok (.iload_n 1, 1) := id_Warp_sum_0 (88, .iload_n 1, 1) (List.mem_of_getElem? (i := 18) rfl)
theorem d_Warp_sum_89 : decode prog_10_method_19_code 89 = .ok (.iload_n 2, 1) := id_Warp_sum_0 (89, .iload_n 2, 1) (List.mem_of_getElem? (i := 19) rfl)
theorem d_Warp_sum_90 : decode prog_10_method_19_code 90 = .ok (.idiv, 1) := id_Warp_sum_0 (90, .idiv, 1) (List.mem_of_getElem? (i := 20) rfl)
theorem d_Warp_sum_91 : decode prog_10_method_19_code 91 = .ok (.ireturn, 1) := id_Warp_sum_0 (91, .ireturn, 1) (List.mem_of_getElem? (i := 21) rfl)
theorem d_Warp_sum_92 : decode prog_10_method_19_code 92 = .ok (.iload_n 2, 1) := id_Warp_sum_0 (92, .iload_n 2, 1) (List.mem_of_getElem? (i := 22) rfl)
theorem d_Warp_sum_93 : decode prog_10_method_19_code 93 = .ok (.ifCond .ne (7), 3) := id_Warp_sum_0 (93, .ifCond .ne (7), 3) (List.mem_of_getElem? (i := 23) rfl)
def it_Warp_sum_1 : List (Nat × ClassFile.Instr × Nat) := [(96, .iconst 0, 1), (97, .goto (6), 3), (100, .iload_n 1, 1), (101, .iload_n 2, 1), (102, .irem, 1), (103, .ireturn, 1), (104, .iload_n 1, 1), (105, .iload_n 2, 1), (106, .iand, 1), (107, .ireturn, 1), (108, .iload_n 1, 1), (109, .iload_n 2, 1), (110, .ior, 1), (111, .ireturn, 1), (112, .iload_n 1, 1), (113, .iload_n 2, 1), (114, .ixor, 1), (115, .ireturn, 1), (116, .iload_n 1, 1), (117, .iload_n 2, 1), (118, .ishl, 1), (119, .ireturn, 1), (120, .iload_n 1, 1), (121, .iload_n 2, 1)]
theorem id_Warp_sum_1 : ∀ q ∈ it_Warp_sum_1, decode prog_10_method_19_code q.1 = .ok q.2 := by decide +kernel
theorem d_Warp_sum_96 : decode prog_10_method_19_code 96 = .ok (.iconst 0, 1) := id_Warp_sum_1 (96, .iconst 0, 1) (List.mem_of_getElem? (i := 0) rfl)
theorem d_Warp_sum_97 : decode prog_10_method_19_code 97 = .ok (.goto (6), 3) := id_Warp_sum_1 (97, .goto (6), 3) (List.mem_of_getElem? (i := 1) rfl)
theorem d_Warp_sum_100 : decode prog_10_method_19_code 100 = .ok (.iload_n 1, 1) := id_Warp_sum_1 (100, .iload_n 1, 1) (List.mem_of_getElem? (i := 2) rfl)
theorem d_Warp_sum_101 : decode prog_10_method_19_code 101 = .ok (.iload_n 2, 1) := id_Warp_sum_1 (101, .iload_n 2, 1) (List.mem_of_getElem? (i := 3) rfl)
theorem d_Warp_sum_102 : decode prog_10_method_19_code 102 = .ok (.irem, 1) := id_Warp_sum_1 (102, .irem, 1) (List.mem_of_getElem? (i := 4) rfl)
theorem d_Warp_sum_103 : decode prog_10_method_19_code 103 = .ok (.ireturn, 1) := id_Warp_sum_1 (103, .ireturn, 1) (List.mem_of_getElem? (i := 5) rfl)
theorem d_Warp_sum_104 : decode prog_10_method_19_code 104 = .ok (.iload_n 1, 1) := id_Warp_sum_1 (104, .iload_n 1, 1) (List.mem_of_getElem? (i := 6) rfl)
theorem d_Warp_sum_105 : decode prog_10_method_19_code 105 = .ok (.iload_n 2, 1) := id_Warp_sum_1 (105, .iload_n 2, 1) (List.mem_of_getElem? (i := 7) rfl)
theorem d_Warp_sum_106 : decode prog_10_method_19_code 106 = .ok (.iand, 1) := id_Warp_sum_1 (106, .iand, 1) (List.mem_of_getElem? (i := 8) rfl)
theorem d_Warp_sum_107 : decode prog_10_method_19_code 107 = .ok (.ireturn, 1) := id_Warp_sum_1 (107, .ireturn, 1) (List.mem_of_getElem? (i := 9) rfl)
theorem d_Warp_sum_108 : decode prog_10_method_19_code 108 = .ok (.iload_n 1, 1) := id_Warp_sum_1 (108, .iload_n 1, 1) (List.mem_of_getElem? (i := 10) rfl)
theorem d_Warp_sum_109 : decode prog_10_method_19_code 109 = .ok (.iload_n 2, 1) := id_Warp_sum_1 (109, .iload_n 2, 1) (List.mem_of_getElem? (i := 11) rfl)
theorem d_Warp_sum_110 : decode prog_10_method_19_code 110 = .ok (.ior, 1) := id_Warp_sum_1 (110, .ior, 1) (List.mem_of_getElem? (i := 12) rfl)
theorem d_Warp_sum_111 : decode prog_10_method_19_code 111 = .ok (.ireturn, 1) := id_Warp_sum_1 (111, .ireturn, 1) (List.mem_of_getElem? (i := 13) rfl)
theorem d_Warp_sum_112 : decode prog_10_method_19_code 112 = .ok (.iload_n 1, 1) := id_Warp_sum_1 (112, .iload_n 1, 1) (List.mem_of_getElem? (i := 14) rfl)
theorem d_Warp_sum_113 : decode prog_10_method_19_code 113 = .ok (.iload_n 2, 1) := id_Warp_sum_1 (113, .iload_n 2, 1) (List.mem_of_getElem? (i := 15) rfl)
theorem d_Warp_sum_114 : decode prog_10_method_19_code 114 = .ok (.ixor, 1) := id_Warp_sum_1 (114, .ixor, 1) (List.mem_of_getElem? (i := 16) rfl)
theorem d_Warp_sum_115 : decode prog_10_method_19_code 115 = .ok (.ireturn, 1) := id_Warp_sum_1 (115, .ireturn, 1) (List.mem_of_getElem? (i := 17) rfl)
theorem d_Warp_sum_116 : decode prog_10_method_19_code 116 = .ok (.iload_n 1, 1) := id_Warp_sum_1 (116, .iload_n 1, 1) (List.mem_of_getElem? (i := 18) rfl)
theorem d_Warp_sum_117 : decode prog_10_method_19_code 117 = .ok (.iload_n 2, 1) := id_Warp_sum_1 (117, .iload_n 2, 1) (List.mem_of_getElem? (i := 19) rfl)
theorem d_Warp_sum_118 : decode prog_10_method_19_code 118 = .ok (.ishl, 1) := id_Warp_sum_1 (118, .ishl, 1) (List.mem_of_getElem? (i := 20) rfl)
theorem d_Warp_sum_119 : decode prog_10_method_19_code 119 = .ok (.ireturn, 1) := id_Warp_sum_1 (119, .ireturn, 1) (List.mem_of_getElem? (i := 21) rfl)
theorem d_Warp_sum_120 : decode prog_10_method_19_code 120 = .ok (.iload_n 1, 1) := id_Warp_sum_1 (120, .iload_n 1, 1) (List.mem_of_getElem? (i := 22) rfl)
theorem d_Warp_sum_121 : decode prog_10_method_19_code 121 = .ok (.iload_n 2, 1) := id_Warp_sum_1 (121, .iload_n 2, 1) (List.mem_of_getElem? (i := 23) rfl)
def it_Warp_sum_2 : List (Nat × ClassFile.Instr × Nat) := [(122, .iushr, 1), (123, .ireturn, 1), (124, .iload_n 1, 1), (125, .iload_n 2, 1), (126, .ishr, 1), (127, .ireturn, 1), (128, .iload_n 1, 1), (129, .iload_n 2, 1), (130, .invokestatic 43, 3), (133, .ireturn, 1), (134, .iload_n 1, 1), (135, .iload_n 2, 1), (136, .invokestatic 97, 3), (139, .ireturn, 1), (140, .iload_n 1, 1), (141, .i2l, 1), (142, .iload_n 2, 1), (143, .i2l, 1), (144, .lmul, 1), (145, .bipush (32), 2), (147, .lshr, 1), (148, .l2i, 1), (149, .ireturn, 1)]
theorem id_Warp_sum_2 : ∀ q ∈ it_Warp_sum_2, decode prog_10_method_19_code q.1 = .ok q.2 := by decide +kernel
theorem d_Warp_sum_122 : decode prog_10_method_19_code 122 = .ok (.iushr, 1) := id_Warp_sum_2 (122, .iushr, 1) (List.mem_of_getElem? (i := 0) rfl)
theorem d_Warp_sum_123 : decode prog_10_method_19_code 123 = .ok (.ireturn, 1) := id_Warp_sum_2 (123, .ireturn, 1) (List.mem_of_getElem? (i := 1) rfl)
theorem d_Warp_sum_124 : decode prog_10_method_19_code 124 = .ok (.iload_n 1, 1) := id_Warp_sum_2 (124, .iload_n 1, 1) (List.mem_of_getElem? (i := 2) rfl)
theorem d_Warp_sum_125 : decode prog_10_method_19_code 125 = .ok (.iload_n 2, 1) := id_Warp_sum_2 (125, .iload_n 2, 1) (List.mem_of_getElem? (i := 3) rfl)
theorem d_Warp_sum_126 : decode prog_10_method_19_code 126 = .ok (.ishr, 1) := id_Warp_sum_2 (126, .ishr, 1) (List.mem_of_getElem? (i := 4) rfl)
theorem d_Warp_sum_127 : decode prog_10_method_19_code 127 = .ok (.ireturn, 1) := id_Warp_sum_2 (127, .ireturn, 1) (List.mem_of_getElem? (i := 5) rfl)
theorem d_Warp_sum_128 : decode prog_10_method_19_code 128 = .ok (.iload_n 1, 1) := id_Warp_sum_2 (128, .iload_n 1, 1) (List.mem_of_getElem? (i := 6) rfl)
theorem d_Warp_sum_129 : decode prog_10_method_19_code 129 = .ok (.iload_n 2, 1) := id_Warp_sum_2 (129, .iload_n 2, 1) (List.mem_of_getElem? (i := 7) rfl)
theorem d_Warp_sum_130 : decode prog_10_method_19_code 130 = .ok (.invokestatic 43, 3) := id_Warp_sum_2 (130, .invokestatic 43, 3) (List.mem_of_getElem? (i := 8) rfl)
theorem d_Warp_sum_133 : decode prog_10_method_19_code 133 = .ok (.ireturn, 1) := id_Warp_sum_2 (133, .ireturn, 1) (List.mem_of_getElem? (i := 9) rfl)
theorem d_Warp_sum_134 : decode prog_10_method_19_code 134 = .ok (.iload_n 1, 1) := id_Warp_sum_2 (134, .iload_n 1, 1) (List.mem_of_getElem? (i := 10) rfl)
theorem d_Warp_sum_135 : decode prog_10_method_19_code 135 = .ok (.iload_n 2, 1) := id_Warp_sum_2 (135, .iload_n 2, 1) (List.mem_of_getElem? (i := 11) rfl)
theorem d_Warp_sum_136 : decode prog_10_method_19_code 136 = .ok (.invokestatic 97, 3) := id_Warp_sum_2 (136, .invokestatic 97, 3) (List.mem_of_getElem? (i := 12) rfl)
theorem d_Warp_sum_139 : decode prog_10_method_19_code 139 = .ok (.ireturn, 1) := id_Warp_sum_2 (139, .ireturn, 1) (List.mem_of_getElem? (i := 13) rfl)
theorem d_Warp_sum_140 : decode prog_10_method_19_code 140 = .ok (.iload_n 1, 1) := id_Warp_sum_2 (140, .iload_n 1, 1) (List.mem_of_getElem? (i := 14) rfl)
theorem d_Warp_sum_141 : decode prog_10_method_19_code 141 = .ok (.i2l, 1) := id_Warp_sum_2 (141, .i2l, 1) (List.mem_of_getElem? (i := 15) rfl)
theorem d_Warp_sum_142 : decode prog_10_method_19_code 142 = .ok (.iload_n 2, 1) := id_Warp_sum_2 (142, .iload_n 2, 1) (List.mem_of_getElem? (i := 16) rfl)
theorem d_Warp_sum_143 : decode prog_10_method_19_code 143 = .ok (.i2l, 1) := id_Warp_sum_2 (143, .i2l, 1) (List.mem_of_getElem? (i := 17) rfl)
theorem d_Warp_sum_144 : decode prog_10_method_19_code 144 = .ok (.lmul, 1) := id_Warp_sum_2 (144, .lmul, 1) (List.mem_of_getElem? (i := 18) rfl)
theorem d_Warp_sum_145 : decode prog_10_method_19_code 145 = .ok (.bipush (32), 2) := id_Warp_sum_2 (145, .bipush (32), 2) (List.mem_of_getElem? (i := 19) rfl)
theorem d_Warp_sum_147 : decode prog_10_method_19_code 147 = .ok (.lshr, 1) := id_Warp_sum_2 (147, .lshr, 1) (List.mem_of_getElem? (i := 20) rfl)
theorem d_Warp_sum_148 : decode prog_10_method_19_code 148 = .ok (.l2i, 1) := id_Warp_sum_2 (148, .l2i, 1) (List.mem_of_getElem? (i := 21) rfl)
theorem d_Warp_sum_149 : decode prog_10_method_19_code 149 = .ok (.ireturn, 1) := id_Warp_sum_2 (149, .ireturn, 1) (List.mem_of_getElem? (i := 22) rfl)
theorem wC_Warp_sum : Cond.code ⟨"WarpMill$Warp", "sum", "(III)I"⟩ prog_10_method_19_code 3 (some .int) ∈ lw_tb := mem_tb 976 (by decide +kernel) rfl
def f_Warp_sum (F : Nat) (x0 : Int32) (x1 : Int32) (x2 : Int32) (h : Hp) : Option (Int32 × Hp) := if x0 = 4 then (some ((x1 + x2), h)) else if x0 = 5 then (some ((x1 - x2), h)) else if x0 = 6 then (some ((x1 * x2), h)) else if x0 = 7 then (if x2 = 0 then (some ((0 : Int32), h)) else (gd (¬ x2 = 0) <| some ((x1 / x2), h))) else if x0 = 8 then (if x2 = 0 then (some ((0 : Int32), h)) else (gd (¬ x2 = 0) <| some ((x1 - x1 / x2 * x2), h))) else if x0 = 9 then (some ((x1 &&& x2), h)) else if x0 = 10 then (some ((x1 ||| x2), h)) else if x0 = 11 then (some ((x1 ^^^ x2), h)) else if x0 = 12 then (some ((x1 <<< (x2 &&& 31)), h)) else if x0 = 13 then (some ((ushr x1 x2), h)) else if x0 = 14 then (some ((x1 >>> (x2 &&& 31)), h)) else if x0 = 15 then (some ((if x2 < x1 then x2 else x1), h)) else if x0 = 16 then (some ((if x1 < x2 then x2 else x1), h)) else (some ((Int64.toInt32 (((Int32.toInt64 x1) * (Int32.toInt64 x2)) >>> (Int32.toInt64 (32 : Int32) &&& 63))), h))
set_option maxRecDepth 100000 in
set_option maxHeartbeats 4000000 in
theorem e_Warp_sum {G : Gl} {F : Nat} {r : Int32} {h' : Hp} {x0 : Int32} {x1 : Int32} {x2 : Int32} {h : Hp} (hf : f_Warp_sum F x0 x1 x2 h = some (r, h')) : Ex G mi_Warp_sum [.int x0, .int x1, .int x2] h (pI r h') := by
  unfold f_Warp_sum at hf
  refine Ex.of nmI (by decide) (Nat.le_of_ble_eq_true rfl) ?_
  show Go G mi_Warp_sum h _ h 0 [(0, .int x0), (1, .int x1), (2, .int x2)] []
  refine g_iload_n d_Warp_sum_0 rfl ?_
  refine g_sw sw_4_16 (fun hs_1 => ?_)
  rcases hs_1 with hs_1 | hs_1 | hs_1 | hs_1 | hs_1 | hs_1 | hs_1 | hs_1 | hs_1 | hs_1 | hs_1 | hs_1 | hs_1 | hs_1
  · refine g_tableOut 140 d_Warp_sum_1 hs_1 (by decide) ?_
    have hf := ifn hf (sw_ne hs_1 4 (by decide) (by decide))
    have hf := ifn hf (sw_ne hs_1 5 (by decide) (by decide))
    have hf := ifn hf (sw_ne hs_1 6 (by decide) (by decide))
    have hf := ifn hf (sw_ne hs_1 7 (by decide) (by decide))
    have hf := ifn hf (sw_ne hs_1 8 (by decide) (by decide))
    have hf := ifn hf (sw_ne hs_1 9 (by decide) (by decide))
    have hf := ifn hf (sw_ne hs_1 10 (by decide) (by decide))
    have hf := ifn hf (sw_ne hs_1 11 (by decide) (by decide))
    have hf := ifn hf (sw_ne hs_1 12 (by decide) (by decide))
    have hf := ifn hf (sw_ne hs_1 13 (by decide) (by decide))
    have hf := ifn hf (sw_ne hs_1 14 (by decide) (by decide))
    have hf := ifn hf (sw_ne hs_1 15 (by decide) (by decide))
    have hf := ifn hf (sw_ne hs_1 16 (by decide) (by decide))
    refine g_iload_n d_Warp_sum_140 rfl ?_
    refine g_i2l d_Warp_sum_141 ?_
    refine g_iload_n d_Warp_sum_142 rfl ?_
    refine g_i2l d_Warp_sum_143 ?_
    refine g_lmul d_Warp_sum_144 ?_
    refine g_bipush (32) d_Warp_sum_145 (by decide) ?_
    refine g_lshr d_Warp_sum_147 ?_
    refine g_l2i d_Warp_sum_148 ?_
    exact Go.ret (some _) (rOk_i _) rfl d_Warp_sum_149 (pI_of hf)
  · refine g_tableIn 68 d_Warp_sum_1 (by rw [hs_1]; decide) (by rw [hs_1]; decide) (by rw [hs_1]; rfl) (by decide) ?_
    have hf := ifp hf hs_1
    refine g_iload_n d_Warp_sum_68 rfl ?_
    refine g_iload_n d_Warp_sum_69 rfl ?_
    refine g_iadd d_Warp_sum_70 ?_
    exact Go.ret (some _) (rOk_i _) rfl d_Warp_sum_71 (pI_of hf)
  · refine g_tableIn 72 d_Warp_sum_1 (by rw [hs_1]; decide) (by rw [hs_1]; decide) (by rw [hs_1]; rfl) (by decide) ?_
    have hf := ifn hf (sw_d hs_1 (by decide))
    have hf := ifp hf hs_1
    refine g_iload_n d_Warp_sum_72 rfl ?_
    refine g_iload_n d_Warp_sum_73 rfl ?_
    refine g_isub d_Warp_sum_74 ?_
    exact Go.ret (some _) (rOk_i _) rfl d_Warp_sum_75 (pI_of hf)
  · refine g_tableIn 76 d_Warp_sum_1 (by rw [hs_1]; decide) (by rw [hs_1]; decide) (by rw [hs_1]; rfl) (by decide) ?_
    have hf := ifn hf (sw_d hs_1 (by decide))
    have hf := ifn hf (sw_d hs_1 (by decide))
    have hf := ifp hf hs_1
    refine g_iload_n d_Warp_sum_76 rfl ?_
    refine g_iload_n d_Warp_sum_77 rfl ?_
    refine g_imul d_Warp_sum_78 ?_
    exact Go.ret (some _) (rOk_i _) rfl d_Warp_sum_79 (pI_of hf)
  · refine g_tableIn 80 d_Warp_sum_1 (by rw [hs_1]; decide) (by rw [hs_1]; decide) (by rw [hs_1]; rfl) (by decide) ?_
    have hf := ifn hf (sw_d hs_1 (by decide))
    have hf := ifn hf (sw_d hs_1 (by decide))
    have hf := ifn hf (sw_d hs_1 (by decide))
    have hf := ifp hf hs_1
    refine g_iload_n d_Warp_sum_80 rfl ?_
    refine g_if_ne 88 d_Warp_sum_81 (by decide) (fun c_81 => ?_) (fun c_81 => ?_)
    · have hf := ifn hf c_81
      refine g_iload_n d_Warp_sum_88 rfl ?_
      refine g_iload_n d_Warp_sum_89 rfl ?_
      obtain ⟨z_90, hf⟩ := gd_s hf
      refine g_idiv d_Warp_sum_90 z_90 ?_
      exact Go.ret (some _) (rOk_i _) rfl d_Warp_sum_91 (pI_of hf)
    · have hf := ifp hf c_81
      refine g_iconst 0 d_Warp_sum_84 (by decide) ?_
      refine g_goto 91 d_Warp_sum_85 (by decide) ?_
      exact Go.ret (some _) (rOk_i _) rfl d_Warp_sum_91 (pI_of hf)
  · refine g_tableIn 92 d_Warp_sum_1 (by rw [hs_1]; decide) (by rw [hs_1]; decide) (by rw [hs_1]; rfl) (by decide) ?_
    have hf := ifn hf (sw_d hs_1 (by decide))
    have hf := ifn hf (sw_d hs_1 (by decide))
    have hf := ifn hf (sw_d hs_1 (by decide))
    have hf := ifn hf (sw_d hs_1 (by decide))
    have hf := ifp hf hs_1
    refine g_iload_n d_Warp_sum_92 rfl ?_
    refine g_if_ne 100 d_Warp_sum_93 (by decide) (fun c_93 => ?_) (fun c_93 => ?_)
    · have hf := ifn hf c_93
      refine g_iload_n d_Warp_sum_100 rfl ?_
      refine g_iload_n d_Warp_sum_101 rfl ?_
      obtain ⟨z_102, hf⟩ := gd_s hf
      refine g_irem d_Warp_sum_102 z_102 ?_
      exact Go.ret (some _) (rOk_i _) rfl d_Warp_sum_103 (pI_of hf)
    · have hf := ifp hf c_93
      refine g_iconst 0 d_Warp_sum_96 (by decide) ?_
      refine g_goto 103 d_Warp_sum_97 (by decide) ?_
      exact Go.ret (some _) (rOk_i _) rfl d_Warp_sum_103 (pI_of hf)
  · refine g_tableIn 104 d_Warp_sum_1 (by rw [hs_1]; decide) (by rw [hs_1]; decide) (by rw [hs_1]; rfl) (by decide) ?_
    have hf := ifn hf (sw_d hs_1 (by decide))
    have hf := ifn hf (sw_d hs_1 (by decide))
    have hf := ifn hf (sw_d hs_1 (by decide))
    have hf := ifn hf (sw_d hs_1 (by decide))
    have hf := ifn hf (sw_d hs_1 (by decide))
    have hf := ifp hf hs_1
    refine g_iload_n d_Warp_sum_104 rfl ?_
    refine g_iload_n d_Warp_sum_105 rfl ?_
    refine g_iand d_Warp_sum_106 ?_
    exact Go.ret (some _) (rOk_i _) rfl d_Warp_sum_107 (pI_of hf)
  · refine g_tableIn 108 d_Warp_sum_1 (by rw [hs_1]; decide) (by rw [hs_1]; decide) (by rw [hs_1]; rfl) (by decide) ?_
    have hf := ifn hf (sw_d hs_1 (by decide))
    have hf := ifn hf (sw_d hs_1 (by decide))
    have hf := ifn hf (sw_d hs_1 (by decide))
    have hf := ifn hf (sw_d hs_1 (by decide))
    have hf := ifn hf (sw_d hs_1 (by decide))
    have hf := ifn hf (sw_d hs_1 (by decide))
    have hf := ifp hf hs_1
    refine g_iload_n d_Warp_sum_108 rfl ?_
    refine g_iload_n d_Warp_sum_109 rfl ?_
    refine g_ior d_Warp_sum_110 ?_
    exact Go.ret (some _) (rOk_i _) rfl d_Warp_sum_111 (pI_of hf)
  · refine g_tableIn 112 d_Warp_sum_1 (by rw [hs_1]; decide) (by rw [hs_1]; decide) (by rw [hs_1]; rfl) (by decide) ?_
    have hf := ifn hf (sw_d hs_1 (by decide))
    have hf := ifn hf (sw_d hs_1 (by decide))
    have hf := ifn hf (sw_d hs_1 (by decide))
    have hf := ifn hf (sw_d hs_1 (by decide))
    have hf := ifn hf (sw_d hs_1 (by decide))
    have hf := ifn hf (sw_d hs_1 (by decide))
    have hf := ifn hf (sw_d hs_1 (by decide))
    have hf := ifp hf hs_1
    refine g_iload_n d_Warp_sum_112 rfl ?_
    refine g_iload_n d_Warp_sum_113 rfl ?_
    refine g_ixor d_Warp_sum_114 ?_
    exact Go.ret (some _) (rOk_i _) rfl d_Warp_sum_115 (pI_of hf)
  · refine g_tableIn 116 d_Warp_sum_1 (by rw [hs_1]; decide) (by rw [hs_1]; decide) (by rw [hs_1]; rfl) (by decide) ?_
    have hf := ifn hf (sw_d hs_1 (by decide))
    have hf := ifn hf (sw_d hs_1 (by decide))
    have hf := ifn hf (sw_d hs_1 (by decide))
    have hf := ifn hf (sw_d hs_1 (by decide))
    have hf := ifn hf (sw_d hs_1 (by decide))
    have hf := ifn hf (sw_d hs_1 (by decide))
    have hf := ifn hf (sw_d hs_1 (by decide))
    have hf := ifn hf (sw_d hs_1 (by decide))
    have hf := ifp hf hs_1
    refine g_iload_n d_Warp_sum_116 rfl ?_
    refine g_iload_n d_Warp_sum_117 rfl ?_
    refine g_ishl d_Warp_sum_118 ?_
    exact Go.ret (some _) (rOk_i _) rfl d_Warp_sum_119 (pI_of hf)
  · refine g_tableIn 120 d_Warp_sum_1 (by rw [hs_1]; decide) (by rw [hs_1]; decide) (by rw [hs_1]; rfl) (by decide) ?_
    have hf := ifn hf (sw_d hs_1 (by decide))
    have hf := ifn hf (sw_d hs_1 (by decide))
    have hf := ifn hf (sw_d hs_1 (by decide))
    have hf := ifn hf (sw_d hs_1 (by decide))
    have hf := ifn hf (sw_d hs_1 (by decide))
    have hf := ifn hf (sw_d hs_1 (by decide))
    have hf := ifn hf (sw_d hs_1 (by decide))
    have hf := ifn hf (sw_d hs_1 (by decide))
    have hf := ifn hf (sw_d hs_1 (by decide))
    have hf := ifp hf hs_1
    refine g_iload_n d_Warp_sum_120 rfl ?_
    refine g_iload_n d_Warp_sum_121 rfl ?_
    refine g_iushr d_Warp_sum_122 ?_
    exact Go.ret (some _) (rOk_i _) rfl d_Warp_sum_123 (pI_of hf)
  · refine g_tableIn 124 d_Warp_sum_1 (by rw [hs_1]; decide) (by rw [hs_1]; decide) (by rw [hs_1]; rfl) (by decide) ?_
    have hf := ifn hf (sw_d hs_1 (by decide))
    have hf := ifn hf (sw_d hs_1 (by decide))
    have hf := ifn hf (sw_d hs_1 (by decide))
    have hf := ifn hf (sw_d hs_1 (by decide))
    have hf := ifn hf (sw_d hs_1 (by decide))
    have hf := ifn hf (sw_d hs_1 (by decide))
    have hf := ifn hf (sw_d hs_1 (by decide))
    have hf := ifn hf (sw_d hs_1 (by decide))
    have hf := ifn hf (sw_d hs_1 (by decide))
    have hf := ifn hf (sw_d hs_1 (by decide))
    have hf := ifp hf hs_1
    refine g_iload_n d_Warp_sum_124 rfl ?_
    refine g_iload_n d_Warp_sum_125 rfl ?_
    refine g_ishr d_Warp_sum_126 ?_
    exact Go.ret (some _) (rOk_i _) rfl d_Warp_sum_127 (pI_of hf)
  · refine g_tableIn 128 d_Warp_sum_1 (by rw [hs_1]; decide) (by rw [hs_1]; decide) (by rw [hs_1]; rfl) (by decide) ?_
    have hf := ifn hf (sw_d hs_1 (by decide))
    have hf := ifn hf (sw_d hs_1 (by decide))
    have hf := ifn hf (sw_d hs_1 (by decide))
    have hf := ifn hf (sw_d hs_1 (by decide))
    have hf := ifn hf (sw_d hs_1 (by decide))
    have hf := ifn hf (sw_d hs_1 (by decide))
    have hf := ifn hf (sw_d hs_1 (by decide))
    have hf := ifn hf (sw_d hs_1 (by decide))
    have hf := ifn hf (sw_d hs_1 (by decide))
    have hf := ifn hf (sw_d hs_1 (by decide))
    have hf := ifn hf (sw_d hs_1 (by decide))
    have hf := ifp hf hs_1
    refine g_iload_n d_Warp_sum_128 rfl ?_
    refine g_iload_n d_Warp_sum_129 rfl ?_
    refine g_mmin lm_Warp_43 wS_Math_min wi_Math wC_Math_min (Nat.le_of_ble_eq_true rfl) (Nat.le_of_ble_eq_true rfl) d_Warp_sum_130 ?_
    exact Go.ret (some _) (rOk_i _) rfl d_Warp_sum_133 (pI_of hf)
  · refine g_tableIn 134 d_Warp_sum_1 (by rw [hs_1]; decide) (by rw [hs_1]; decide) (by rw [hs_1]; rfl) (by decide) ?_
    have hf := ifn hf (sw_d hs_1 (by decide))
    have hf := ifn hf (sw_d hs_1 (by decide))
    have hf := ifn hf (sw_d hs_1 (by decide))
    have hf := ifn hf (sw_d hs_1 (by decide))
    have hf := ifn hf (sw_d hs_1 (by decide))
    have hf := ifn hf (sw_d hs_1 (by decide))
    have hf := ifn hf (sw_d hs_1 (by decide))
    have hf := ifn hf (sw_d hs_1 (by decide))
    have hf := ifn hf (sw_d hs_1 (by decide))
    have hf := ifn hf (sw_d hs_1 (by decide))
    have hf := ifn hf (sw_d hs_1 (by decide))
    have hf := ifn hf (sw_d hs_1 (by decide))
    have hf := ifp hf hs_1
    refine g_iload_n d_Warp_sum_134 rfl ?_
    refine g_iload_n d_Warp_sum_135 rfl ?_
    refine g_mmax lm_Warp_97 wS_Math_max wi_Math wC_Math_max (Nat.le_of_ble_eq_true rfl) (Nat.le_of_ble_eq_true rfl) d_Warp_sum_136 ?_
    exact Go.ret (some _) (rOk_i _) rfl d_Warp_sum_139 (pI_of hf)
abbrev mi_Warp_result : MI := (⟨"WarpMill$Warp", "result", "(I)I"⟩, prog_10_method_17_code, 5, some .int, 2, 43)
def it_Warp_result_0 : List (Nat × ClassFile.Instr × Nat) := [(0, .aload_n 0, 1), (1, .iload_n 1, 1), (2, .aload_n 0, 1), (3, .getfield 77, 3), (6, .getfield 112, 3), (9, .invokevirtual 109, 3), (12, .istore_n 2, 1), (13, .aload_n 0, 1), (14, .iload_n 1, 1), (15, .aload_n 0, 1), (16, .getfield 77, 3), (19, .getfield 106, 3), (22, .invokevirtual 109, 3), (25, .istore_n 3, 1), (26, .aload_n 0, 1), (27, .getfield 77, 3), (30, .getfield 115, 3), (33, .istore 4, 2), (35, .aload_n 0, 1), (36, .getfield 77, 3), (39, .getfield 118, 3), (42, .lookupswitch (119) #[((2), (66)), ((3), (69)), ((18), (75)), ((19), (80)), ((20), (85)), ((21), (90)), ((41), (112))], 66), (108, .iload 4, 2), (110, .ireturn, 1)]
theorem id_Warp_result_0 : ∀ q ∈ it_Warp_result_0, decode prog_10_method_17_code q.1 = .ok q.2 := by decide +kernel
theorem d_Warp_result_0 : decode prog_10_method_17_code 0 = .ok (.aload_n 0, 1) := id_Warp_result_0 (0, .aload_n 0, 1) (List.mem_of_getElem? (i := 0) rfl)
theorem d_Warp_result_1 : decode prog_10_method_17_code 1 = .ok (.iload_n 1, 1) := id_Warp_result_0 (1, .iload_n 1, 1) (List.mem_of_getElem? (i := 1) rfl)
theorem d_Warp_result_2 : decode prog_10_method_17_code 2 = .ok (.aload_n 0, 1) := id_Warp_result_0 (2, .aload_n 0, 1) (List.mem_of_getElem? (i := 2) rfl)
theorem d_Warp_result_3 : decode prog_10_method_17_code 3 = .ok (.getfield 77, 3) := id_Warp_result_0 (3, .getfield 77, 3) (List.mem_of_getElem? (i := 3) rfl)
theorem d_Warp_result_6 : decode prog_10_method_17_code 6 = .ok (.getfield 112, 3) := id_Warp_result_0 (6, .getfield 112, 3) (List.mem_of_getElem? (i := 4) rfl)
theorem d_Warp_result_9 : decode prog_10_method_17_code 9 = .ok (.invokevirtual 109, 3) := id_Warp_result_0 (9, .invokevirtual 109, 3) (List.mem_of_getElem? (i := 5) rfl)
theorem d_Warp_result_12 : decode prog_10_method_17_code 12 = .ok (.istore_n 2, 1) := id_Warp_result_0 (12, .istore_n 2, 1) (List.mem_of_getElem? (i := 6) rfl)
theorem d_Warp_result_13 : decode prog_10_method_17_code 13 = .ok (.aload_n 0, 1) := id_Warp_result_0 (13, .aload_n 0, 1) (List.mem_of_getElem? (i := 7) rfl)
theorem d_Warp_result_14 : decode prog_10_method_17_code 14 = .ok (.iload_n 1, 1) := id_Warp_result_0 (14, .iload_n 1, 1) (List.mem_of_getElem? (i := 8) rfl)
theorem d_Warp_result_15 : decode prog_10_method_17_code 15 = .ok (.aload_n 0, 1) := id_Warp_result_0 (15, .aload_n 0, 1) (List.mem_of_getElem? (i := 9) rfl)
theorem d_Warp_result_16 : decode prog_10_method_17_code 16 = .ok (.getfield 77, 3) := id_Warp_result_0 (16, .getfield 77, 3) (List.mem_of_getElem? (i := 10) rfl)
theorem d_Warp_result_19 : decode prog_10_method_17_code 19 = .ok (.getfield 106, 3) := id_Warp_result_0 (19, .getfield 106, 3) (List.mem_of_getElem? (i := 11) rfl)
theorem d_Warp_result_22 : decode prog_10_method_17_code 22 = .ok (.invokevirtual 109, 3) := id_Warp_result_0 (22, .invokevirtual 109, 3) (List.mem_of_getElem? (i := 12) rfl)
theorem d_Warp_result_25 : decode prog_10_method_17_code 25 = .ok (.istore_n 3, 1) := id_Warp_result_0 (25, .istore_n 3, 1) (List.mem_of_getElem? (i := 13) rfl)
theorem d_Warp_result_26 : decode prog_10_method_17_code 26 = .ok (.aload_n 0, 1) := id_Warp_result_0 (26, .aload_n 0, 1) (List.mem_of_getElem? (i := 14) rfl)
theorem d_Warp_result_27 : decode prog_10_method_17_code 27 = .ok (.getfield 77, 3) := id_Warp_result_0 (27, .getfield 77, 3) (List.mem_of_getElem? (i := 15) rfl)
theorem d_Warp_result_30 : decode prog_10_method_17_code 30 = .ok (.getfield 115, 3) := id_Warp_result_0 (30, .getfield 115, 3) (List.mem_of_getElem? (i := 16) rfl)
theorem d_Warp_result_33 : decode prog_10_method_17_code 33 = .ok (.istore 4, 2) := id_Warp_result_0 (33, .istore 4, 2) (List.mem_of_getElem? (i := 17) rfl)
theorem d_Warp_result_35 : decode prog_10_method_17_code 35 = .ok (.aload_n 0, 1) := id_Warp_result_0 (35, .aload_n 0, 1) (List.mem_of_getElem? (i := 18) rfl)
theorem d_Warp_result_36 : decode prog_10_method_17_code 36 = .ok (.getfield 77, 3) := id_Warp_result_0 (36, .getfield 77, 3) (List.mem_of_getElem? (i := 19) rfl)
theorem d_Warp_result_39 : decode prog_10_method_17_code 39 = .ok (.getfield 118, 3) := id_Warp_result_0 (39, .getfield 118, 3) (List.mem_of_getElem? (i := 20) rfl)
theorem d_Warp_result_42 : decode prog_10_method_17_code 42 = .ok (.lookupswitch (119) #[((2), (66)), ((3), (69)), ((18), (75)), ((19), (80)), ((20), (85)), ((21), (90)), ((41), (112))], 66) := id_Warp_result_0 (42, .lookupswitch (119) #[((2), (66)), ((3), (69)), ((18), (75)), ((19), (80)), ((20), (85)), ((21), (90)), ((41), (112))], 66) (List.mem_of_getElem? (i := 21) rfl)
theorem d_Warp_result_108 : decode prog_10_method_17_code 108 = .ok (.iload 4, 2) := id_Warp_result_0 (108, .iload 4, 2) (List.mem_of_getElem? (i := 22) rfl)
theorem d_Warp_result_110 : decode prog_10_method_17_code 110 = .ok (.ireturn, 1) := id_Warp_result_0 (110, .ireturn, 1) (List.mem_of_getElem? (i := 23) rfl)
def it_Warp_result_1 : List (Nat × ClassFile.Instr × Nat) := [(111, .aload_n 0, 1), (112, .iload_n 1, 1), (113, .invokevirtual 157, 3), (116, .ireturn, 1), (117, .iload_n 2, 1), (118, .iload 4, 2), (120, .iadd, 1), (121, .ireturn, 1), (122, .iload_n 2, 1), (123, .iload 4, 2), (125, .imul, 1), (126, .ireturn, 1), (127, .iload_n 2, 1), (128, .iload 4, 2), (130, .iand, 1), (131, .ireturn, 1), (132, .aload_n 0, 1), (133, .getfield 9, 3), (136, .iload 4, 2), (138, .iconst 3, 1), (139, .iand, 1), (140, .iaload, 1), (141, .iload_n 1, 1), (142, .invokestatic 73, 3)]
theorem id_Warp_result_1 : ∀ q ∈ it_Warp_result_1, decode prog_10_method_17_code q.1 = .ok q.2 := by decide +kernel
theorem d_Warp_result_111 : decode prog_10_method_17_code 111 = .ok (.aload_n 0, 1) := id_Warp_result_1 (111, .aload_n 0, 1) (List.mem_of_getElem? (i := 0) rfl)
theorem d_Warp_result_112 : decode prog_10_method_17_code 112 = .ok (.iload_n 1, 1) := id_Warp_result_1 (112, .iload_n 1, 1) (List.mem_of_getElem? (i := 1) rfl)
theorem d_Warp_result_113 : decode prog_10_method_17_code 113 = .ok (.invokevirtual 157, 3) := id_Warp_result_1 (113, .invokevirtual 157, 3) (List.mem_of_getElem? (i := 2) rfl)
theorem d_Warp_result_116 : decode prog_10_method_17_code 116 = .ok (.ireturn, 1) := id_Warp_result_1 (116, .ireturn, 1) (List.mem_of_getElem? (i := 3) rfl)
theorem d_Warp_result_117 : decode prog_10_method_17_code 117 = .ok (.iload_n 2, 1) := id_Warp_result_1 (117, .iload_n 2, 1) (List.mem_of_getElem? (i := 4) rfl)
theorem d_Warp_result_118 : decode prog_10_method_17_code 118 = .ok (.iload 4, 2) := id_Warp_result_1 (118, .iload 4, 2) (List.mem_of_getElem? (i := 5) rfl)
theorem d_Warp_result_120 : decode prog_10_method_17_code 120 = .ok (.iadd, 1) := id_Warp_result_1 (120, .iadd, 1) (List.mem_of_getElem? (i := 6) rfl)
theorem d_Warp_result_121 : decode prog_10_method_17_code 121 = .ok (.ireturn, 1) := id_Warp_result_1 (121, .ireturn, 1) (List.mem_of_getElem? (i := 7) rfl)
theorem d_Warp_result_122 : decode prog_10_method_17_code 122 = .ok (.iload_n 2, 1) := id_Warp_result_1 (122, .iload_n 2, 1) (List.mem_of_getElem? (i := 8) rfl)
theorem d_Warp_result_123 : decode prog_10_method_17_code 123 = .ok (.iload 4, 2) := id_Warp_result_1 (123, .iload 4, 2) (List.mem_of_getElem? (i := 9) rfl)
theorem d_Warp_result_125 : decode prog_10_method_17_code 125 = .ok (.imul, 1) := id_Warp_result_1 (125, .imul, 1) (List.mem_of_getElem? (i := 10) rfl)
theorem d_Warp_result_126 : decode prog_10_method_17_code 126 = .ok (.ireturn, 1) := id_Warp_result_1 (126, .ireturn, 1) (List.mem_of_getElem? (i := 11) rfl)
theorem d_Warp_result_127 : decode prog_10_method_17_code 127 = .ok (.iload_n 2, 1) := id_Warp_result_1 (127, .iload_n 2, 1) (List.mem_of_getElem? (i := 12) rfl)
theorem d_Warp_result_128 : decode prog_10_method_17_code 128 = .ok (.iload 4, 2) := id_Warp_result_1 (128, .iload 4, 2) (List.mem_of_getElem? (i := 13) rfl)
theorem d_Warp_result_130 : decode prog_10_method_17_code 130 = .ok (.iand, 1) := id_Warp_result_1 (130, .iand, 1) (List.mem_of_getElem? (i := 14) rfl)
theorem d_Warp_result_131 : decode prog_10_method_17_code 131 = .ok (.ireturn, 1) := id_Warp_result_1 (131, .ireturn, 1) (List.mem_of_getElem? (i := 15) rfl)
theorem d_Warp_result_132 : decode prog_10_method_17_code 132 = .ok (.aload_n 0, 1) := id_Warp_result_1 (132, .aload_n 0, 1) (List.mem_of_getElem? (i := 16) rfl)
theorem d_Warp_result_133 : decode prog_10_method_17_code 133 = .ok (.getfield 9, 3) := id_Warp_result_1 (133, .getfield 9, 3) (List.mem_of_getElem? (i := 17) rfl)
theorem d_Warp_result_136 : decode prog_10_method_17_code 136 = .ok (.iload 4, 2) := id_Warp_result_1 (136, .iload 4, 2) (List.mem_of_getElem? (i := 18) rfl)
theorem d_Warp_result_138 : decode prog_10_method_17_code 138 = .ok (.iconst 3, 1) := id_Warp_result_1 (138, .iconst 3, 1) (List.mem_of_getElem? (i := 19) rfl)
theorem d_Warp_result_139 : decode prog_10_method_17_code 139 = .ok (.iand, 1) := id_Warp_result_1 (139, .iand, 1) (List.mem_of_getElem? (i := 20) rfl)
theorem d_Warp_result_140 : decode prog_10_method_17_code 140 = .ok (.iaload, 1) := id_Warp_result_1 (140, .iaload, 1) (List.mem_of_getElem? (i := 21) rfl)
theorem d_Warp_result_141 : decode prog_10_method_17_code 141 = .ok (.iload_n 1, 1) := id_Warp_result_1 (141, .iload_n 1, 1) (List.mem_of_getElem? (i := 22) rfl)
theorem d_Warp_result_142 : decode prog_10_method_17_code 142 = .ok (.invokestatic 73, 3) := id_Warp_result_1 (142, .invokestatic 73, 3) (List.mem_of_getElem? (i := 23) rfl)
def it_Warp_result_2 : List (Nat × ClassFile.Instr × Nat) := [(145, .ifCond .eq (7), 3), (148, .iload_n 2, 1), (149, .goto (4), 3), (152, .iload_n 3, 1), (153, .ireturn, 1), (154, .aload_n 0, 1), (155, .getfield 70, 3), (158, .iconst 1, 1), (159, .iadd, 1), (160, .ireturn, 1), (161, .aload_n 0, 1), (162, .getfield 77, 3), (165, .getfield 118, 3), (168, .iload_n 2, 1), (169, .iload_n 3, 1), (170, .invokestatic 160, 3), (173, .ireturn, 1)]
theorem id_Warp_result_2 : ∀ q ∈ it_Warp_result_2, decode prog_10_method_17_code q.1 = .ok q.2 := by decide +kernel
theorem d_Warp_result_145 : decode prog_10_method_17_code 145 = .ok (.ifCond .eq (7), 3) := id_Warp_result_2 (145, .ifCond .eq (7), 3) (List.mem_of_getElem? (i := 0) rfl)
theorem d_Warp_result_148 : decode prog_10_method_17_code 148 = .ok (.iload_n 2, 1) := id_Warp_result_2 (148, .iload_n 2, 1) (List.mem_of_getElem? (i := 1) rfl)
theorem d_Warp_result_149 : decode prog_10_method_17_code 149 = .ok (.goto (4), 3) := id_Warp_result_2 (149, .goto (4), 3) (List.mem_of_getElem? (i := 2) rfl)
theorem d_Warp_result_152 : decode prog_10_method_17_code 152 = .ok (.iload_n 3, 1) := id_Warp_result_2 (152, .iload_n 3, 1) (List.mem_of_getElem? (i := 3) rfl)
theorem d_Warp_result_153 : decode prog_10_method_17_code 153 = .ok (.ireturn, 1) := id_Warp_result_2 (153, .ireturn, 1) (List.mem_of_getElem? (i := 4) rfl)
theorem d_Warp_result_154 : decode prog_10_method_17_code 154 = .ok (.aload_n 0, 1) := id_Warp_result_2 (154, .aload_n 0, 1) (List.mem_of_getElem? (i := 5) rfl)
theorem d_Warp_result_155 : decode prog_10_method_17_code 155 = .ok (.getfield 70, 3) := id_Warp_result_2 (155, .getfield 70, 3) (List.mem_of_getElem? (i := 6) rfl)
theorem d_Warp_result_158 : decode prog_10_method_17_code 158 = .ok (.iconst 1, 1) := id_Warp_result_2 (158, .iconst 1, 1) (List.mem_of_getElem? (i := 7) rfl)
theorem d_Warp_result_159 : decode prog_10_method_17_code 159 = .ok (.iadd, 1) := id_Warp_result_2 (159, .iadd, 1) (List.mem_of_getElem? (i := 8) rfl)
theorem d_Warp_result_160 : decode prog_10_method_17_code 160 = .ok (.ireturn, 1) := id_Warp_result_2 (160, .ireturn, 1) (List.mem_of_getElem? (i := 9) rfl)
theorem d_Warp_result_161 : decode prog_10_method_17_code 161 = .ok (.aload_n 0, 1) := id_Warp_result_2 (161, .aload_n 0, 1) (List.mem_of_getElem? (i := 10) rfl)
theorem d_Warp_result_162 : decode prog_10_method_17_code 162 = .ok (.getfield 77, 3) := id_Warp_result_2 (162, .getfield 77, 3) (List.mem_of_getElem? (i := 11) rfl)
theorem d_Warp_result_165 : decode prog_10_method_17_code 165 = .ok (.getfield 118, 3) := id_Warp_result_2 (165, .getfield 118, 3) (List.mem_of_getElem? (i := 12) rfl)
theorem d_Warp_result_168 : decode prog_10_method_17_code 168 = .ok (.iload_n 2, 1) := id_Warp_result_2 (168, .iload_n 2, 1) (List.mem_of_getElem? (i := 13) rfl)
theorem d_Warp_result_169 : decode prog_10_method_17_code 169 = .ok (.iload_n 3, 1) := id_Warp_result_2 (169, .iload_n 3, 1) (List.mem_of_getElem? (i := 14) rfl)
theorem d_Warp_result_170 : decode prog_10_method_17_code 170 = .ok (.invokestatic 160, 3) := id_Warp_result_2 (170, .invokestatic 160, 3) (List.mem_of_getElem? (i := 15) rfl)
theorem d_Warp_result_173 : decode prog_10_method_17_code 173 = .ok (.ireturn, 1) := id_Warp_result_2 (173, .ireturn, 1) (List.mem_of_getElem? (i := 16) rfl)
theorem wC_Warp_result : Cond.code ⟨"WarpMill$Warp", "result", "(I)I"⟩ prog_10_method_17_code 5 (some .int) ∈ lw_tb := mem_tb 969 (by decide +kernel) rfl
theorem cw_Warp_result_Warp_register : cW mi_Warp_result mi_Warp_register 2 := ⟨wC_Warp_register, wi_Warp, ⟨by decide, by decide, by decide +kernel⟩, by decide, by decide⟩
theorem cw_Warp_result_Warp_about : cW mi_Warp_result mi_Warp_about 1 := ⟨wC_Warp_about, wi_Warp, ⟨by decide, by decide, by decide +kernel⟩, by decide, by decide⟩
theorem cw_Warp_result_WM_in : cW mi_Warp_result mi_WM_in 2 := ⟨wC_WM_in, wi_WM, ⟨by decide, by decide, by decide +kernel⟩, by decide, by decide⟩
theorem cw_Warp_result_Warp_sum : cW mi_Warp_result mi_Warp_sum 3 := ⟨wC_Warp_sum, wi_Warp, ⟨by decide, by decide, by decide +kernel⟩, by decide, by decide⟩
def f_Warp_result (F : Nat) (x0 : Nat) (x1 : Int32) (h : Hp) : Option (Int32 × Hp) := gd (hK h x0 = 9) <| rq h (hR h 520 x0) 10 fun a_3_2 => cl (f_Warp_register F x0 x1 (hI h 578 a_3_2) h) fun v_9 h_9 => gd (hK h_9 x0 = 9) <| rq h_9 (hR h_9 520 x0) 10 fun a_16_2 => cl (f_Warp_register F x0 x1 (hI h_9 579 a_16_2) h_9) fun v_22 h_22 => gd (hK h_22 x0 = 9) <| rq h_22 (hR h_22 520 x0) 10 fun a_27_2 => if (hI h_22 576 a_27_2) = 2 then (some ((hI h_22 580 a_27_2), h_22)) else if (hI h_22 576 a_27_2) = 3 then (cl (f_Warp_about F x0 x1 h_22) fun v_113 h_113 => some (v_113, h_113)) else if (hI h_22 576 a_27_2) = 18 then (some ((v_9 + (hI h_22 580 a_27_2)), h_22)) else if (hI h_22 576 a_27_2) = 19 then (some ((v_9 * (hI h_22 580 a_27_2)), h_22)) else if (hI h_22 576 a_27_2) = 20 then (some ((v_9 &&& (hI h_22 580 a_27_2)), h_22)) else if (hI h_22 576 a_27_2) = 21 then (rq h_22 (hR h_22 526 x0) 100 fun a_133 => ix ((hI h_22 580 a_27_2) &&& (3 : Int32)) (hN h_22 a_133) fun j_140 => cl (f_WM_in F (hA h_22 a_133 j_140) x1 h_22) fun v_142 h_142 => if v_142 = 0 then (some (v_22, h_142)) else (some (v_9, h_142))) else if (hI h_22 576 a_27_2) = 41 then (some (((hI h_22 519 x0) + (1 : Int32)), h_22)) else (cl (f_Warp_sum F (hI h_22 576 a_27_2) v_9 v_22 h_22) fun v_170 h_170 => some (v_170, h_170))
set_option maxRecDepth 100000 in
set_option maxHeartbeats 4000000 in
theorem e_Warp_result {G : Gl} {F : Nat} {r : Int32} {h' : Hp} {x0 : Nat} {x1 : Int32} {h : Hp} (hf : f_Warp_result F x0 x1 h = some (r, h')) : Ex G mi_Warp_result [.ref x0, .int x1] h (pI r h') := by
  unfold f_Warp_result at hf
  refine Ex.of nmI (by decide) (Nat.le_of_ble_eq_true rfl) ?_
  show Go G mi_Warp_result h _ h 0 [(0, .ref x0), (1, .int x1)] []
  refine g_aload_n d_Warp_result_0 rfl ?_
  refine g_iload_n d_Warp_result_1 rfl ?_
  refine g_aload_n d_Warp_result_2 rfl ?_
  obtain ⟨k_3, hf⟩ := gd_s hf
  obtain ⟨a_3_2, e_3_2, k_3_2, hf⟩ := rq_s hf
  refine fgs_Warp_word lf_Warp_77 d_Warp_result_3 k_3 e_3_2 ?_
  refine fg_Word_a lf_Warp_112 d_Warp_result_6 k_3_2 ?_
  obtain ⟨v_9, h_9, e_9, hf⟩ := cl_s hf
  refine g_callV (mz := mi_Warp_register) (e_Warp_register e_9) cw_Warp_result_Warp_register lm_Warp_109 wI_Warp_register wV_Warp_register (ci := 8) k_3 (by decide) rfl rfl d_Warp_result_9 rfl rfl (by first | exact Nat.le_of_ble_eq_true rfl | simp [cat_rf, Value.category]) (fun r1 h1 hp hro => ?_)
  obtain ⟨rfl, rfl⟩ := hp
  dsimp only [Option.toList_some, Option.toList_none, List.cons_append, List.nil_append]
  refine g_istore_n d_Warp_result_12 (by decide) ?_
  show Go _ _ _ _ _ _ [(0, _), (1, _), (2, _)] _
  refine g_aload_n d_Warp_result_13 rfl ?_
  refine g_iload_n d_Warp_result_14 rfl ?_
  refine g_aload_n d_Warp_result_15 rfl ?_
  obtain ⟨k_16, hf⟩ := gd_s hf
  obtain ⟨a_16_2, e_16_2, k_16_2, hf⟩ := rq_s hf
  refine fgs_Warp_word lf_Warp_77 d_Warp_result_16 k_16 e_16_2 ?_
  refine fg_Word_b lf_Warp_106 d_Warp_result_19 k_16_2 ?_
  obtain ⟨v_22, h_22, e_22, hf⟩ := cl_s hf
  refine g_callV (mz := mi_Warp_register) (e_Warp_register e_22) cw_Warp_result_Warp_register lm_Warp_109 wI_Warp_register wV_Warp_register (ci := 8) k_16 (by decide) rfl rfl d_Warp_result_22 rfl rfl (by first | exact Nat.le_of_ble_eq_true rfl | simp [cat_rf, Value.category]) (fun r1 h1 hp hro => ?_)
  obtain ⟨rfl, rfl⟩ := hp
  dsimp only [Option.toList_some, Option.toList_none, List.cons_append, List.nil_append]
  refine g_istore_n d_Warp_result_25 (by decide) ?_
  show Go _ _ _ _ _ _ [(0, _), (1, _), (2, _), (3, _)] _
  refine g_aload_n d_Warp_result_26 rfl ?_
  obtain ⟨k_27, hf⟩ := gd_s hf
  obtain ⟨a_27_2, e_27_2, k_27_2, hf⟩ := rq_s hf
  refine fgs_Warp_word lf_Warp_77 d_Warp_result_27 k_27 e_27_2 ?_
  refine fg_Word_n lf_Warp_115 d_Warp_result_30 k_27_2 ?_
  refine g_istore d_Warp_result_33 (by decide) ?_
  show Go _ _ _ _ _ _ [(0, _), (1, _), (2, _), (3, _), (4, _)] _
  refine g_aload_n d_Warp_result_35 rfl ?_
  refine fgs_Warp_word lf_Warp_77 d_Warp_result_36 k_27 e_27_2 ?_
  refine fg_Word_op lf_Warp_118 d_Warp_result_39 k_27_2 ?_
  refine g_byc (2) (fun hs_42 => ?_) (fun n0_42 => ?_)
  · refine g_lookup 108 d_Warp_result_42 (by decide) (by rw [hs_42] <;> rfl) (by decide) ?_
    have hf := ifp hf hs_42
    refine g_iload d_Warp_result_108 rfl ?_
    exact Go.ret (some _) (rOk_i _) rfl d_Warp_result_110 (pI_of hf)
  have hf := ifn hf n0_42
  refine g_byc (3) (fun hs_42 => ?_) (fun n1_42 => ?_)
  · refine g_lookup 111 d_Warp_result_42 (by decide) (by rw [hs_42] <;> rfl) (by decide) ?_
    have hf := ifp hf hs_42
    refine g_aload_n d_Warp_result_111 rfl ?_
    refine g_iload_n d_Warp_result_112 rfl ?_
    obtain ⟨v_113, h_113, e_113, hf⟩ := cl_s hf
    refine g_callV (mz := mi_Warp_about) (e_Warp_about e_113) cw_Warp_result_Warp_about lm_Warp_157 wI_Warp_about wV_Warp_about (ci := 8) k_27 (by decide) rfl rfl d_Warp_result_113 rfl rfl (by first | exact Nat.le_of_ble_eq_true rfl | simp [cat_rf, Value.category]) (fun r1 h1 hp hro => ?_)
    obtain ⟨rfl, rfl⟩ := hp
    dsimp only [Option.toList_some, Option.toList_none, List.cons_append, List.nil_append]
    exact Go.ret (some _) (rOk_i _) rfl d_Warp_result_116 (pI_of hf)
  have hf := ifn hf n1_42
  refine g_byc (18) (fun hs_42 => ?_) (fun n2_42 => ?_)
  · refine g_lookup 117 d_Warp_result_42 (by decide) (by rw [hs_42] <;> rfl) (by decide) ?_
    have hf := ifp hf hs_42
    refine g_iload_n d_Warp_result_117 rfl ?_
    refine g_iload d_Warp_result_118 rfl ?_
    refine g_iadd d_Warp_result_120 ?_
    exact Go.ret (some _) (rOk_i _) rfl d_Warp_result_121 (pI_of hf)
  have hf := ifn hf n2_42
  refine g_byc (19) (fun hs_42 => ?_) (fun n3_42 => ?_)
  · refine g_lookup 122 d_Warp_result_42 (by decide) (by rw [hs_42] <;> rfl) (by decide) ?_
    have hf := ifp hf hs_42
    refine g_iload_n d_Warp_result_122 rfl ?_
    refine g_iload d_Warp_result_123 rfl ?_
    refine g_imul d_Warp_result_125 ?_
    exact Go.ret (some _) (rOk_i _) rfl d_Warp_result_126 (pI_of hf)
  have hf := ifn hf n3_42
  refine g_byc (20) (fun hs_42 => ?_) (fun n4_42 => ?_)
  · refine g_lookup 127 d_Warp_result_42 (by decide) (by rw [hs_42] <;> rfl) (by decide) ?_
    have hf := ifp hf hs_42
    refine g_iload_n d_Warp_result_127 rfl ?_
    refine g_iload d_Warp_result_128 rfl ?_
    refine g_iand d_Warp_result_130 ?_
    exact Go.ret (some _) (rOk_i _) rfl d_Warp_result_131 (pI_of hf)
  have hf := ifn hf n4_42
  refine g_byc (21) (fun hs_42 => ?_) (fun n5_42 => ?_)
  · refine g_lookup 132 d_Warp_result_42 (by decide) (by rw [hs_42] <;> rfl) (by decide) ?_
    have hf := ifp hf hs_42
    refine g_aload_n d_Warp_result_132 rfl ?_
    obtain ⟨a_133, e_133, k_133, hf⟩ := rq_s hf
    refine fgs_Warp_predicates lf_Warp_9 d_Warp_result_133 k_27 e_133 ?_
    refine g_iload d_Warp_result_136 rfl ?_
    refine g_iconst 3 d_Warp_result_138 (by decide) ?_
    refine g_iand d_Warp_result_139 ?_
    obtain ⟨i_140, hf⟩ := ix_s hf
    refine g_iald k_133 i_140 d_Warp_result_140 ?_
    refine g_iload_n d_Warp_result_141 rfl ?_
    obtain ⟨v_142, h_142, e_142, hf⟩ := cl_s hf
    refine g_callSN (mz := mi_WM_in) (e_WM_in e_142) cw_Warp_result_WM_in (host := "WarpMill") (by decide +kernel) wS_WM_in d_Warp_result_142 rfl rfl (by first | exact Nat.le_of_ble_eq_true rfl | simp [cat_rf, Value.category]) (fun r1 h1 hp hro => ?_)
    obtain ⟨rfl, rfl⟩ := hp
    dsimp only [Option.toList_some, Option.toList_none, List.cons_append, List.nil_append]
    refine g_if_eq 152 d_Warp_result_145 (by decide) (fun c_145 => ?_) (fun c_145 => ?_)
    · have hf := ifp hf c_145
      refine g_iload_n d_Warp_result_152 rfl ?_
      exact Go.ret (some _) (rOk_i _) rfl d_Warp_result_153 (pI_of hf)
    · have hf := ifn hf c_145
      refine g_iload_n d_Warp_result_148 rfl ?_
      refine g_goto 153 d_Warp_result_149 (by decide) ?_
      exact Go.ret (some _) (rOk_i _) rfl d_Warp_result_153 (pI_of hf)
  have hf := ifn hf n5_42
  refine g_byc (41) (fun hs_42 => ?_) (fun n6_42 => ?_)
  · refine g_lookup 154 d_Warp_result_42 (by decide) (by rw [hs_42] <;> rfl) (by decide) ?_
    have hf := ifp hf hs_42
    refine g_aload_n d_Warp_result_154 rfl ?_
    refine fg_Warp_place lf_Warp_70 d_Warp_result_155 k_27 ?_
    refine g_iconst 1 d_Warp_result_158 (by decide) ?_
    refine g_iadd d_Warp_result_159 ?_
    exact Go.ret (some _) (rOk_i _) rfl d_Warp_result_160 (pI_of hf)
  have hf := ifn hf n6_42
  refine g_lookup (off := 119) 161 d_Warp_result_42 (by decide) (lo_c (i32n n0_42 (by decide)) (lo_c (i32n n1_42 (by decide)) (lo_c (i32n n2_42 (by decide)) (lo_c (i32n n3_42 (by decide)) (lo_c (i32n n4_42 (by decide)) (lo_c (i32n n5_42 (by decide)) (lo_c (i32n n6_42 (by decide)) rfl))))))) (by decide) ?_
  refine g_aload_n d_Warp_result_161 rfl ?_
  refine fgs_Warp_word lf_Warp_77 d_Warp_result_162 k_27 e_27_2 ?_
  refine fg_Word_op lf_Warp_118 d_Warp_result_165 k_27_2 ?_
  refine g_iload_n d_Warp_result_168 rfl ?_
  refine g_iload_n d_Warp_result_169 rfl ?_
  obtain ⟨v_170, h_170, e_170, hf⟩ := cl_s hf
  refine g_callS (mz := mi_Warp_sum) (e_Warp_sum e_170) cw_Warp_result_Warp_sum lm_Warp_160 wS_Warp_sum d_Warp_result_170 rfl rfl (by first | exact Nat.le_of_ble_eq_true rfl | simp [cat_rf, Value.category]) (fun r1 h1 hp hro => ?_)
  obtain ⟨rfl, rfl⟩ := hp
  dsimp only [Option.toList_some, Option.toList_none, List.cons_append, List.nil_append]
  exact Go.ret (some _) (rOk_i _) rfl d_Warp_result_173 (pI_of hf)
abbrev mi_Warp_act : MI := (⟨"WarpMill$Warp", "act", "(I)V"⟩, prog_10_method_13_code, 5, none, 3, 71)
def it_Warp_act_0 : List (Nat × ClassFile.Instr × Nat) := [(0, .aload_n 0, 1), (1, .getfield 77, 3), (4, .getfield 118, 3), (7, .istore_n 2, 1), (8, .iload_n 2, 1), (9, .ifCond .ne (32), 3), (12, .aload_n 0, 1), (13, .dup, 1), (14, .getfield 52, 3), (17, .iload_n 1, 1), (18, .ior, 1), (19, .putfield 52, 3), (22, .aload_n 0, 1), (23, .getfield 27, 3), (26, .dup, 1), (27, .getfield 127, 3), (30, .iload_n 1, 1), (31, .invokestatic 130, 3), (34, .isub, 1), (35, .putfield 127, 3), (38, .goto (187), 3), (41, .iload_n 2, 1), (42, .iconst 1, 1), (43, .if_icmp .ne (32), 3)]
theorem id_Warp_act_0 : ∀ q ∈ it_Warp_act_0, decode prog_10_method_13_code q.1 = .ok q.2 := by decide +kernel
theorem d_Warp_act_0 : decode prog_10_method_13_code 0 = .ok (.aload_n 0, 1) := id_Warp_act_0 (0, .aload_n 0, 1) (List.mem_of_getElem? (i := 0) rfl)
theorem d_Warp_act_1 : decode prog_10_method_13_code 1 = .ok (.getfield 77, 3) := id_Warp_act_0 (1, .getfield 77, 3) (List.mem_of_getElem? (i := 1) rfl)
theorem d_Warp_act_4 : decode prog_10_method_13_code 4 = .ok (.getfield 118, 3) := id_Warp_act_0 (4, .getfield 118, 3) (List.mem_of_getElem? (i := 2) rfl)
theorem d_Warp_act_7 : decode prog_10_method_13_code 7 = .ok (.istore_n 2, 1) := id_Warp_act_0 (7, .istore_n 2, 1) (List.mem_of_getElem? (i := 3) rfl)
theorem d_Warp_act_8 : decode prog_10_method_13_code 8 = .ok (.iload_n 2, 1) := id_Warp_act_0 (8, .iload_n 2, 1) (List.mem_of_getElem? (i := 4) rfl)
theorem d_Warp_act_9 : decode prog_10_method_13_code 9 = .ok (.ifCond .ne (32), 3) := id_Warp_act_0 (9, .ifCond .ne (32), 3) (List.mem_of_getElem? (i := 5) rfl)
theorem d_Warp_act_12 : decode prog_10_method_13_code 12 = .ok (.aload_n 0, 1) := id_Warp_act_0 (12, .aload_n 0, 1) (List.mem_of_getElem? (i := 6) rfl)
theorem d_Warp_act_13 : decode prog_10_method_13_code 13 = .ok (.dup, 1) := id_Warp_act_0 (13, .dup, 1) (List.mem_of_getElem? (i := 7) rfl)
theorem d_Warp_act_14 : decode prog_10_method_13_code 14 = .ok (.getfield 52, 3) := id_Warp_act_0 (14, .getfield 52, 3) (List.mem_of_getElem? (i := 8) rfl)
theorem d_Warp_act_17 : decode prog_10_method_13_code 17 = .ok (.iload_n 1, 1) := id_Warp_act_0 (17, .iload_n 1, 1) (List.mem_of_getElem? (i := 9) rfl)
theorem d_Warp_act_18 : decode prog_10_method_13_code 18 = .ok (.ior, 1) := id_Warp_act_0 (18, .ior, 1) (List.mem_of_getElem? (i := 10) rfl)
theorem d_Warp_act_19 : decode prog_10_method_13_code 19 = .ok (.putfield 52, 3) := id_Warp_act_0 (19, .putfield 52, 3) (List.mem_of_getElem? (i := 11) rfl)
theorem d_Warp_act_22 : decode prog_10_method_13_code 22 = .ok (.aload_n 0, 1) := id_Warp_act_0 (22, .aload_n 0, 1) (List.mem_of_getElem? (i := 12) rfl)
theorem d_Warp_act_23 : decode prog_10_method_13_code 23 = .ok (.getfield 27, 3) := id_Warp_act_0 (23, .getfield 27, 3) (List.mem_of_getElem? (i := 13) rfl)
theorem d_Warp_act_26 : decode prog_10_method_13_code 26 = .ok (.dup, 1) := id_Warp_act_0 (26, .dup, 1) (List.mem_of_getElem? (i := 14) rfl)
theorem d_Warp_act_27 : decode prog_10_method_13_code 27 = .ok (.getfield 127, 3) := id_Warp_act_0 (27, .getfield 127, 3) (List.mem_of_getElem? (i := 15) rfl)
theorem d_Warp_act_30 : decode prog_10_method_13_code 30 = .ok (.iload_n 1, 1) := id_Warp_act_0 (30, .iload_n 1, 1) (List.mem_of_getElem? (i := 16) rfl)
theorem d_Warp_act_31 : decode prog_10_method_13_code 31 = .ok (.invokestatic 130, 3) := id_Warp_act_0 (31, .invokestatic 130, 3) (List.mem_of_getElem? (i := 17) rfl)
theorem d_Warp_act_34 : decode prog_10_method_13_code 34 = .ok (.isub, 1) := id_Warp_act_0 (34, .isub, 1) (List.mem_of_getElem? (i := 18) rfl)
theorem d_Warp_act_35 : decode prog_10_method_13_code 35 = .ok (.putfield 127, 3) := id_Warp_act_0 (35, .putfield 127, 3) (List.mem_of_getElem? (i := 19) rfl)
theorem d_Warp_act_38 : decode prog_10_method_13_code 38 = .ok (.goto (187), 3) := id_Warp_act_0 (38, .goto (187), 3) (List.mem_of_getElem? (i := 20) rfl)
theorem d_Warp_act_41 : decode prog_10_method_13_code 41 = .ok (.iload_n 2, 1) := id_Warp_act_0 (41, .iload_n 2, 1) (List.mem_of_getElem? (i := 21) rfl)
theorem d_Warp_act_42 : decode prog_10_method_13_code 42 = .ok (.iconst 1, 1) := id_Warp_act_0 (42, .iconst 1, 1) (List.mem_of_getElem? (i := 22) rfl)
theorem d_Warp_act_43 : decode prog_10_method_13_code 43 = .ok (.if_icmp .ne (32), 3) := id_Warp_act_0 (43, .if_icmp .ne (32), 3) (List.mem_of_getElem? (i := 23) rfl)
def it_Warp_act_1 : List (Nat × ClassFile.Instr × Nat) := [(46, .aload_n 0, 1), (47, .dup, 1), (48, .getfield 55, 3), (51, .iload_n 1, 1), (52, .ior, 1), (53, .putfield 55, 3), (56, .aload_n 0, 1), (57, .getfield 27, 3), (60, .dup, 1), (61, .getfield 136, 3), (64, .iload_n 1, 1), (65, .invokestatic 130, 3), (68, .iadd, 1), (69, .putfield 136, 3), (72, .goto (153), 3), (75, .iload_n 2, 1), (76, .bipush (73), 2), (78, .if_icmp .ne (11), 3), (81, .aload_n 0, 1), (82, .iload_n 1, 1), (83, .invokevirtual 137, 3), (86, .goto (139), 3), (89, .aload_n 0, 1), (90, .getfield 77, 3)]
theorem id_Warp_act_1 : ∀ q ∈ it_Warp_act_1, decode prog_10_method_13_code q.1 = .ok q.2 := by decide +kernel
theorem d_Warp_act_46 : decode prog_10_method_13_code 46 = .ok (.aload_n 0, 1) := id_Warp_act_1 (46, .aload_n 0, 1) (List.mem_of_getElem? (i := 0) rfl)
theorem d_Warp_act_47 : decode prog_10_method_13_code 47 = .ok (.dup, 1) := id_Warp_act_1 (47, .dup, 1) (List.mem_of_getElem? (i := 1) rfl)
theorem d_Warp_act_48 : decode prog_10_method_13_code 48 = .ok (.getfield 55, 3) := id_Warp_act_1 (48, .getfield 55, 3) (List.mem_of_getElem? (i := 2) rfl)
theorem d_Warp_act_51 : decode prog_10_method_13_code 51 = .ok (.iload_n 1, 1) := id_Warp_act_1 (51, .iload_n 1, 1) (List.mem_of_getElem? (i := 3) rfl)
theorem d_Warp_act_52 : decode prog_10_method_13_code 52 = .ok (.ior, 1) := id_Warp_act_1 (52, .ior, 1) (List.mem_of_getElem? (i := 4) rfl)
theorem d_Warp_act_53 : decode prog_10_method_13_code 53 = .ok (.putfield 55, 3) := id_Warp_act_1 (53, .putfield 55, 3) (List.mem_of_getElem? (i := 5) rfl)
theorem d_Warp_act_56 : decode prog_10_method_13_code 56 = .ok (.aload_n 0, 1) := id_Warp_act_1 (56, .aload_n 0, 1) (List.mem_of_getElem? (i := 6) rfl)
theorem d_Warp_act_57 : decode prog_10_method_13_code 57 = .ok (.getfield 27, 3) := id_Warp_act_1 (57, .getfield 27, 3) (List.mem_of_getElem? (i := 7) rfl)
theorem d_Warp_act_60 : decode prog_10_method_13_code 60 = .ok (.dup, 1) := id_Warp_act_1 (60, .dup, 1) (List.mem_of_getElem? (i := 8) rfl)
theorem d_Warp_act_61 : decode prog_10_method_13_code 61 = .ok (.getfield 136, 3) := id_Warp_act_1 (61, .getfield 136, 3) (List.mem_of_getElem? (i := 9) rfl)
theorem d_Warp_act_64 : decode prog_10_method_13_code 64 = .ok (.iload_n 1, 1) := id_Warp_act_1 (64, .iload_n 1, 1) (List.mem_of_getElem? (i := 10) rfl)
theorem d_Warp_act_65 : decode prog_10_method_13_code 65 = .ok (.invokestatic 130, 3) := id_Warp_act_1 (65, .invokestatic 130, 3) (List.mem_of_getElem? (i := 11) rfl)
theorem d_Warp_act_68 : decode prog_10_method_13_code 68 = .ok (.iadd, 1) := id_Warp_act_1 (68, .iadd, 1) (List.mem_of_getElem? (i := 12) rfl)
theorem d_Warp_act_69 : decode prog_10_method_13_code 69 = .ok (.putfield 136, 3) := id_Warp_act_1 (69, .putfield 136, 3) (List.mem_of_getElem? (i := 13) rfl)
theorem d_Warp_act_72 : decode prog_10_method_13_code 72 = .ok (.goto (153), 3) := id_Warp_act_1 (72, .goto (153), 3) (List.mem_of_getElem? (i := 14) rfl)
theorem d_Warp_act_75 : decode prog_10_method_13_code 75 = .ok (.iload_n 2, 1) := id_Warp_act_1 (75, .iload_n 2, 1) (List.mem_of_getElem? (i := 15) rfl)
theorem d_Warp_act_76 : decode prog_10_method_13_code 76 = .ok (.bipush (73), 2) := id_Warp_act_1 (76, .bipush (73), 2) (List.mem_of_getElem? (i := 16) rfl)
theorem d_Warp_act_78 : decode prog_10_method_13_code 78 = .ok (.if_icmp .ne (11), 3) := id_Warp_act_1 (78, .if_icmp .ne (11), 3) (List.mem_of_getElem? (i := 17) rfl)
theorem d_Warp_act_81 : decode prog_10_method_13_code 81 = .ok (.aload_n 0, 1) := id_Warp_act_1 (81, .aload_n 0, 1) (List.mem_of_getElem? (i := 18) rfl)
theorem d_Warp_act_82 : decode prog_10_method_13_code 82 = .ok (.iload_n 1, 1) := id_Warp_act_1 (82, .iload_n 1, 1) (List.mem_of_getElem? (i := 19) rfl)
theorem d_Warp_act_83 : decode prog_10_method_13_code 83 = .ok (.invokevirtual 137, 3) := id_Warp_act_1 (83, .invokevirtual 137, 3) (List.mem_of_getElem? (i := 20) rfl)
theorem d_Warp_act_86 : decode prog_10_method_13_code 86 = .ok (.goto (139), 3) := id_Warp_act_1 (86, .goto (139), 3) (List.mem_of_getElem? (i := 21) rfl)
theorem d_Warp_act_89 : decode prog_10_method_13_code 89 = .ok (.aload_n 0, 1) := id_Warp_act_1 (89, .aload_n 0, 1) (List.mem_of_getElem? (i := 22) rfl)
theorem d_Warp_act_90 : decode prog_10_method_13_code 90 = .ok (.getfield 77, 3) := id_Warp_act_1 (90, .getfield 77, 3) (List.mem_of_getElem? (i := 23) rfl)
def it_Warp_act_2 : List (Nat × ClassFile.Instr × Nat) := [(93, .getfield 121, 3), (96, .bipush (16), 2), (98, .if_icmp .lt (40), 3), (101, .aload_n 0, 1), (102, .getfield 77, 3), (105, .getfield 141, 3), (108, .iconst 3, 1), (109, .iand, 1), (110, .istore_n 3, 1), (111, .aload_n 0, 1), (112, .getfield 9, 3), (115, .iload_n 3, 1), (116, .aload_n 0, 1), (117, .getfield 9, 3), (120, .iload_n 3, 1), (121, .iaload, 1), (122, .iload_n 1, 1), (123, .iconst (-1), 1), (124, .ixor, 1), (125, .iand, 1), (126, .aload_n 0, 1), (127, .iload_n 1, 1), (128, .invokevirtual 144, 3), (131, .iload_n 1, 1)]
theorem id_Warp_act_2 : ∀ q ∈ it_Warp_act_2, decode prog_10_method_13_code q.1 = .ok q.2 := by decide +kernel
theorem d_Warp_act_93 : decode prog_10_method_13_code 93 = .ok (.getfield 121, 3) := id_Warp_act_2 (93, .getfield 121, 3) (List.mem_of_getElem? (i := 0) rfl)
theorem d_Warp_act_96 : decode prog_10_method_13_code 96 = .ok (.bipush (16), 2) := id_Warp_act_2 (96, .bipush (16), 2) (List.mem_of_getElem? (i := 1) rfl)
theorem d_Warp_act_98 : decode prog_10_method_13_code 98 = .ok (.if_icmp .lt (40), 3) := id_Warp_act_2 (98, .if_icmp .lt (40), 3) (List.mem_of_getElem? (i := 2) rfl)
theorem d_Warp_act_101 : decode prog_10_method_13_code 101 = .ok (.aload_n 0, 1) := id_Warp_act_2 (101, .aload_n 0, 1) (List.mem_of_getElem? (i := 3) rfl)
theorem d_Warp_act_102 : decode prog_10_method_13_code 102 = .ok (.getfield 77, 3) := id_Warp_act_2 (102, .getfield 77, 3) (List.mem_of_getElem? (i := 4) rfl)
theorem d_Warp_act_105 : decode prog_10_method_13_code 105 = .ok (.getfield 141, 3) := id_Warp_act_2 (105, .getfield 141, 3) (List.mem_of_getElem? (i := 5) rfl)
theorem d_Warp_act_108 : decode prog_10_method_13_code 108 = .ok (.iconst 3, 1) := id_Warp_act_2 (108, .iconst 3, 1) (List.mem_of_getElem? (i := 6) rfl)
theorem d_Warp_act_109 : decode prog_10_method_13_code 109 = .ok (.iand, 1) := id_Warp_act_2 (109, .iand, 1) (List.mem_of_getElem? (i := 7) rfl)
theorem d_Warp_act_110 : decode prog_10_method_13_code 110 = .ok (.istore_n 3, 1) := id_Warp_act_2 (110, .istore_n 3, 1) (List.mem_of_getElem? (i := 8) rfl)
theorem d_Warp_act_111 : decode prog_10_method_13_code 111 = .ok (.aload_n 0, 1) := id_Warp_act_2 (111, .aload_n 0, 1) (List.mem_of_getElem? (i := 9) rfl)
theorem d_Warp_act_112 : decode prog_10_method_13_code 112 = .ok (.getfield 9, 3) := id_Warp_act_2 (112, .getfield 9, 3) (List.mem_of_getElem? (i := 10) rfl)
theorem d_Warp_act_115 : decode prog_10_method_13_code 115 = .ok (.iload_n 3, 1) := id_Warp_act_2 (115, .iload_n 3, 1) (List.mem_of_getElem? (i := 11) rfl)
theorem d_Warp_act_116 : decode prog_10_method_13_code 116 = .ok (.aload_n 0, 1) := id_Warp_act_2 (116, .aload_n 0, 1) (List.mem_of_getElem? (i := 12) rfl)
theorem d_Warp_act_117 : decode prog_10_method_13_code 117 = .ok (.getfield 9, 3) := id_Warp_act_2 (117, .getfield 9, 3) (List.mem_of_getElem? (i := 13) rfl)
theorem d_Warp_act_120 : decode prog_10_method_13_code 120 = .ok (.iload_n 3, 1) := id_Warp_act_2 (120, .iload_n 3, 1) (List.mem_of_getElem? (i := 14) rfl)
theorem d_Warp_act_121 : decode prog_10_method_13_code 121 = .ok (.iaload, 1) := id_Warp_act_2 (121, .iaload, 1) (List.mem_of_getElem? (i := 15) rfl)
theorem d_Warp_act_122 : decode prog_10_method_13_code 122 = .ok (.iload_n 1, 1) := id_Warp_act_2 (122, .iload_n 1, 1) (List.mem_of_getElem? (i := 16) rfl)
theorem d_Warp_act_123 : decode prog_10_method_13_code 123 = .ok (.iconst (-1), 1) := id_Warp_act_2 (123, .iconst (-1), 1) (List.mem_of_getElem? (i := 17) rfl)
theorem d_Warp_act_124 : decode prog_10_method_13_code 124 = .ok (.ixor, 1) := id_Warp_act_2 (124, .ixor, 1) (List.mem_of_getElem? (i := 18) rfl)
theorem d_Warp_act_125 : decode prog_10_method_13_code 125 = .ok (.iand, 1) := id_Warp_act_2 (125, .iand, 1) (List.mem_of_getElem? (i := 19) rfl)
theorem d_Warp_act_126 : decode prog_10_method_13_code 126 = .ok (.aload_n 0, 1) := id_Warp_act_2 (126, .aload_n 0, 1) (List.mem_of_getElem? (i := 20) rfl)
theorem d_Warp_act_127 : decode prog_10_method_13_code 127 = .ok (.iload_n 1, 1) := id_Warp_act_2 (127, .iload_n 1, 1) (List.mem_of_getElem? (i := 21) rfl)
theorem d_Warp_act_128 : decode prog_10_method_13_code 128 = .ok (.invokevirtual 144, 3) := id_Warp_act_2 (128, .invokevirtual 144, 3) (List.mem_of_getElem? (i := 22) rfl)
theorem d_Warp_act_131 : decode prog_10_method_13_code 131 = .ok (.iload_n 1, 1) := id_Warp_act_2 (131, .iload_n 1, 1) (List.mem_of_getElem? (i := 23) rfl)
def it_Warp_act_3 : List (Nat × ClassFile.Instr × Nat) := [(132, .iand, 1), (133, .ior, 1), (134, .iastore, 1), (135, .goto (90), 3), (138, .aload_n 0, 1), (139, .getfield 77, 3), (142, .getfield 121, 3), (145, .iconst (-1), 1), (146, .if_icmp .eq (79), 3), (149, .aload_n 0, 1), (150, .getfield 9, 3), (153, .aload_n 0, 1), (154, .getfield 77, 3), (157, .getfield 112, 3), (160, .iconst 3, 1), (161, .iand, 1), (162, .iaload, 1), (163, .iload_n 1, 1), (164, .iand, 1), (165, .invokestatic 130, 3), (168, .istore_n 3, 1), (169, .iconst 0, 1), (170, .istore 4, 2), (172, .iload 4, 2)]
theorem id_Warp_act_3 : ∀ q ∈ it_Warp_act_3, decode prog_10_method_13_code q.1 = .ok q.2 := by decide +kernel
theorem d_Warp_act_132 : decode prog_10_method_13_code 132 = .ok (.iand, 1) := id_Warp_act_3 (132, .iand, 1) (List.mem_of_getElem? (i := 0) rfl)
theorem d_Warp_act_133 : decode prog_10_method_13_code 133 = .ok (.ior, 1) := id_Warp_act_3 (133, .ior, 1) (List.mem_of_getElem? (i := 1) rfl)
theorem d_Warp_act_134 : decode prog_10_method_13_code 134 = .ok (.iastore, 1) := id_Warp_act_3 (134, .iastore, 1) (List.mem_of_getElem? (i := 2) rfl)
theorem d_Warp_act_135 : decode prog_10_method_13_code 135 = .ok (.goto (90), 3) := id_Warp_act_3 (135, .goto (90), 3) (List.mem_of_getElem? (i := 3) rfl)
theorem d_Warp_act_138 : decode prog_10_method_13_code 138 = .ok (.aload_n 0, 1) := id_Warp_act_3 (138, .aload_n 0, 1) (List.mem_of_getElem? (i := 4) rfl)
theorem d_Warp_act_139 : decode prog_10_method_13_code 139 = .ok (.getfield 77, 3) := id_Warp_act_3 (139, .getfield 77, 3) (List.mem_of_getElem? (i := 5) rfl)
theorem d_Warp_act_142 : decode prog_10_method_13_code 142 = .ok (.getfield 121, 3) := id_Warp_act_3 (142, .getfield 121, 3) (List.mem_of_getElem? (i := 6) rfl)
theorem d_Warp_act_145 : decode prog_10_method_13_code 145 = .ok (.iconst (-1), 1) := id_Warp_act_3 (145, .iconst (-1), 1) (List.mem_of_getElem? (i := 7) rfl)
theorem d_Warp_act_146 : decode prog_10_method_13_code 146 = .ok (.if_icmp .eq (79), 3) := id_Warp_act_3 (146, .if_icmp .eq (79), 3) (List.mem_of_getElem? (i := 8) rfl)
theorem d_Warp_act_149 : decode prog_10_method_13_code 149 = .ok (.aload_n 0, 1) := id_Warp_act_3 (149, .aload_n 0, 1) (List.mem_of_getElem? (i := 9) rfl)
theorem d_Warp_act_150 : decode prog_10_method_13_code 150 = .ok (.getfield 9, 3) := id_Warp_act_3 (150, .getfield 9, 3) (List.mem_of_getElem? (i := 10) rfl)
theorem d_Warp_act_153 : decode prog_10_method_13_code 153 = .ok (.aload_n 0, 1) := id_Warp_act_3 (153, .aload_n 0, 1) (List.mem_of_getElem? (i := 11) rfl)
theorem d_Warp_act_154 : decode prog_10_method_13_code 154 = .ok (.getfield 77, 3) := id_Warp_act_3 (154, .getfield 77, 3) (List.mem_of_getElem? (i := 12) rfl)
theorem d_Warp_act_157 : decode prog_10_method_13_code 157 = .ok (.getfield 112, 3) := id_Warp_act_3 (157, .getfield 112, 3) (List.mem_of_getElem? (i := 13) rfl)
theorem d_Warp_act_160 : decode prog_10_method_13_code 160 = .ok (.iconst 3, 1) := id_Warp_act_3 (160, .iconst 3, 1) (List.mem_of_getElem? (i := 14) rfl)
theorem d_Warp_act_161 : decode prog_10_method_13_code 161 = .ok (.iand, 1) := id_Warp_act_3 (161, .iand, 1) (List.mem_of_getElem? (i := 15) rfl)
theorem d_Warp_act_162 : decode prog_10_method_13_code 162 = .ok (.iaload, 1) := id_Warp_act_3 (162, .iaload, 1) (List.mem_of_getElem? (i := 16) rfl)
theorem d_Warp_act_163 : decode prog_10_method_13_code 163 = .ok (.iload_n 1, 1) := id_Warp_act_3 (163, .iload_n 1, 1) (List.mem_of_getElem? (i := 17) rfl)
theorem d_Warp_act_164 : decode prog_10_method_13_code 164 = .ok (.iand, 1) := id_Warp_act_3 (164, .iand, 1) (List.mem_of_getElem? (i := 18) rfl)
theorem d_Warp_act_165 : decode prog_10_method_13_code 165 = .ok (.invokestatic 130, 3) := id_Warp_act_3 (165, .invokestatic 130, 3) (List.mem_of_getElem? (i := 19) rfl)
theorem d_Warp_act_168 : decode prog_10_method_13_code 168 = .ok (.istore_n 3, 1) := id_Warp_act_3 (168, .istore_n 3, 1) (List.mem_of_getElem? (i := 20) rfl)
theorem d_Warp_act_169 : decode prog_10_method_13_code 169 = .ok (.iconst 0, 1) := id_Warp_act_3 (169, .iconst 0, 1) (List.mem_of_getElem? (i := 21) rfl)
theorem d_Warp_act_170 : decode prog_10_method_13_code 170 = .ok (.istore 4, 2) := id_Warp_act_3 (170, .istore 4, 2) (List.mem_of_getElem? (i := 22) rfl)
theorem d_Warp_act_172 : decode prog_10_method_13_code 172 = .ok (.iload 4, 2) := id_Warp_act_3 (172, .iload 4, 2) (List.mem_of_getElem? (i := 23) rfl)
def it_Warp_act_4 : List (Nat × ClassFile.Instr × Nat) := [(174, .aload_n 0, 1), (175, .getfield 35, 3), (178, .if_icmp .ge (47), 3), (181, .iload_n 1, 1), (182, .iload 4, 2), (184, .invokestatic 73, 3), (187, .ifCond .eq (32), 3), (190, .aload_n 0, 1), (191, .iload 4, 2), (193, .aload_n 0, 1), (194, .getfield 77, 3), (197, .getfield 141, 3), (200, .iload_n 2, 1), (201, .bipush (72), 2), (203, .if_icmp .ne (7), 3), (206, .iload_n 3, 1), (207, .goto (9), 3), (210, .aload_n 0, 1), (211, .iload 4, 2), (213, .invokevirtual 147, 3), (216, .invokevirtual 150, 3), (219, .iinc 4 (1), 3), (222, .goto (-50), 3), (225, .return_, 1)]
theorem id_Warp_act_4 : ∀ q ∈ it_Warp_act_4, decode prog_10_method_13_code q.1 = .ok q.2 := by decide +kernel
theorem d_Warp_act_174 : decode prog_10_method_13_code 174 = .ok (.aload_n 0, 1) := id_Warp_act_4 (174, .aload_n 0, 1) (List.mem_of_getElem? (i := 0) rfl)
theorem d_Warp_act_175 : decode prog_10_method_13_code 175 = .ok (.getfield 35, 3) := id_Warp_act_4 (175, .getfield 35, 3) (List.mem_of_getElem? (i := 1) rfl)
theorem d_Warp_act_178 : decode prog_10_method_13_code 178 = .ok (.if_icmp .ge (47), 3) := id_Warp_act_4 (178, .if_icmp .ge (47), 3) (List.mem_of_getElem? (i := 2) rfl)
theorem d_Warp_act_181 : decode prog_10_method_13_code 181 = .ok (.iload_n 1, 1) := id_Warp_act_4 (181, .iload_n 1, 1) (List.mem_of_getElem? (i := 3) rfl)
theorem d_Warp_act_182 : decode prog_10_method_13_code 182 = .ok (.iload 4, 2) := id_Warp_act_4 (182, .iload 4, 2) (List.mem_of_getElem? (i := 4) rfl)
theorem d_Warp_act_184 : decode prog_10_method_13_code 184 = .ok (.invokestatic 73, 3) := id_Warp_act_4 (184, .invokestatic 73, 3) (List.mem_of_getElem? (i := 5) rfl)
theorem d_Warp_act_187 : decode prog_10_method_13_code 187 = .ok (.ifCond .eq (32), 3) := id_Warp_act_4 (187, .ifCond .eq (32), 3) (List.mem_of_getElem? (i := 6) rfl)
theorem d_Warp_act_190 : decode prog_10_method_13_code 190 = .ok (.aload_n 0, 1) := id_Warp_act_4 (190, .aload_n 0, 1) (List.mem_of_getElem? (i := 7) rfl)
theorem d_Warp_act_191 : decode prog_10_method_13_code 191 = .ok (.iload 4, 2) := id_Warp_act_4 (191, .iload 4, 2) (List.mem_of_getElem? (i := 8) rfl)
theorem d_Warp_act_193 : decode prog_10_method_13_code 193 = .ok (.aload_n 0, 1) := id_Warp_act_4 (193, .aload_n 0, 1) (List.mem_of_getElem? (i := 9) rfl)
theorem d_Warp_act_194 : decode prog_10_method_13_code 194 = .ok (.getfield 77, 3) := id_Warp_act_4 (194, .getfield 77, 3) (List.mem_of_getElem? (i := 10) rfl)
theorem d_Warp_act_197 : decode prog_10_method_13_code 197 = .ok (.getfield 141, 3) := id_Warp_act_4 (197, .getfield 141, 3) (List.mem_of_getElem? (i := 11) rfl)
theorem d_Warp_act_200 : decode prog_10_method_13_code 200 = .ok (.iload_n 2, 1) := id_Warp_act_4 (200, .iload_n 2, 1) (List.mem_of_getElem? (i := 12) rfl)
theorem d_Warp_act_201 : decode prog_10_method_13_code 201 = .ok (.bipush (72), 2) := id_Warp_act_4 (201, .bipush (72), 2) (List.mem_of_getElem? (i := 13) rfl)
theorem d_Warp_act_203 : decode prog_10_method_13_code 203 = .ok (.if_icmp .ne (7), 3) := id_Warp_act_4 (203, .if_icmp .ne (7), 3) (List.mem_of_getElem? (i := 14) rfl)
theorem d_Warp_act_206 : decode prog_10_method_13_code 206 = .ok (.iload_n 3, 1) := id_Warp_act_4 (206, .iload_n 3, 1) (List.mem_of_getElem? (i := 15) rfl)
theorem d_Warp_act_207 : decode prog_10_method_13_code 207 = .ok (.goto (9), 3) := id_Warp_act_4 (207, .goto (9), 3) (List.mem_of_getElem? (i := 16) rfl)
theorem d_Warp_act_210 : decode prog_10_method_13_code 210 = .ok (.aload_n 0, 1) := id_Warp_act_4 (210, .aload_n 0, 1) (List.mem_of_getElem? (i := 17) rfl)
theorem d_Warp_act_211 : decode prog_10_method_13_code 211 = .ok (.iload 4, 2) := id_Warp_act_4 (211, .iload 4, 2) (List.mem_of_getElem? (i := 18) rfl)
theorem d_Warp_act_213 : decode prog_10_method_13_code 213 = .ok (.invokevirtual 147, 3) := id_Warp_act_4 (213, .invokevirtual 147, 3) (List.mem_of_getElem? (i := 19) rfl)
theorem d_Warp_act_216 : decode prog_10_method_13_code 216 = .ok (.invokevirtual 150, 3) := id_Warp_act_4 (216, .invokevirtual 150, 3) (List.mem_of_getElem? (i := 20) rfl)
theorem d_Warp_act_219 : decode prog_10_method_13_code 219 = .ok (.iinc 4 (1), 3) := id_Warp_act_4 (219, .iinc 4 (1), 3) (List.mem_of_getElem? (i := 21) rfl)
theorem d_Warp_act_222 : decode prog_10_method_13_code 222 = .ok (.goto (-50), 3) := id_Warp_act_4 (222, .goto (-50), 3) (List.mem_of_getElem? (i := 22) rfl)
theorem d_Warp_act_225 : decode prog_10_method_13_code 225 = .ok (.return_, 1) := id_Warp_act_4 (225, .return_, 1) (List.mem_of_getElem? (i := 23) rfl)
theorem wC_Warp_act : Cond.code ⟨"WarpMill$Warp", "act", "(I)V"⟩ prog_10_method_13_code 5 (none) ∈ lw_tb := mem_tb 953 (by decide +kernel) rfl
theorem cw_Warp_act_Integer_bitCount : cW mi_Warp_act mi_Integer_bitCount 1 := ⟨wC_Integer_bitCount, wi_Integer, ⟨by decide, by decide, by decide +kernel⟩, by decide, by decide⟩
theorem cw_Warp_act_Warp_exchange : cW mi_Warp_act mi_Warp_exchange 1 := ⟨wC_Warp_exchange, wi_Warp, ⟨by decide, by decide, by decide +kernel⟩, by decide, by decide⟩
theorem cw_Warp_act_Warp_truths : cW mi_Warp_act mi_Warp_truths 1 := ⟨wC_Warp_truths, wi_Warp, ⟨by decide, by decide, by decide +kernel⟩, by decide, by decide⟩
theorem cw_Warp_act_WM_in : cW mi_Warp_act mi_WM_in 2 := ⟨wC_WM_in, wi_WM, ⟨by decide, by decide, by decide +kernel⟩, by decide, by decide⟩
theorem cw_Warp_act_Warp_result : cW mi_Warp_act mi_Warp_result 1 := ⟨wC_Warp_result, wi_Warp, ⟨by decide, by decide, by decide +kernel⟩, by decide, by decide⟩
theorem cw_Warp_act_Warp_put : cW mi_Warp_act mi_Warp_put 3 := ⟨wC_Warp_put, wi_Warp, ⟨by decide, by decide, by decide +kernel⟩, by decide, by decide⟩
def b_Warp_act_216 (F : Nat) (k172 : Nat → Int32 → Int32 → Int32 → Int32 → Hp → Option Hp) (x0 : Nat) (x1 : Int32) (x2 : Int32) (x3 : Int32) (x4 : Int32) (s0 : Nat) (s1 : Int32) (s2 : Int32) (s3 : Int32) (h : Hp) : Option Hp := gd (hK h s0 = 9) <| clv (f_Warp_put F s0 s1 s2 s3 h) fun h_216_2 => k172 x0 x1 x2 x3 (x4 + 1) h_216_2
set_option maxRecDepth 100000 in
set_option maxHeartbeats 4000000 in
theorem e_Warp_act_216 {G : Gl} (hw : gF G) {h0 : Hp} {F : Nat} {h' : Hp} {k172 : Nat → Int32 → Int32 → Int32 → Int32 → Hp → Option Hp} (hk172 : ∀ (y0 : Nat) (y1 : Int32) (y2 : Int32) (y3 : Int32) (y4 : Int32) (hh : Hp), k172 y0 y1 y2 y3 y4 hh = some h' → Go G mi_Warp_act h0 (pV h') hh 172 [(0, .ref y0), (1, .int y1), (2, .int y2), (3, .int y3), (4, .int y4)] []) {x0 : Nat} {x1 : Int32} {x2 : Int32} {x3 : Int32} {x4 : Int32} {s0 : Nat} {s1 : Int32} {s2 : Int32} {s3 : Int32} {h : Hp} (hf : b_Warp_act_216 F k172 x0 x1 x2 x3 x4 s0 s1 s2 s3 h = some h') : Go G mi_Warp_act h0 (pV h') h 216 [(0, .ref x0), (1, .int x1), (2, .int x2), (3, .int x3), (4, .int x4)] [.int s3, .int s2, .int s1, .ref s0] := by
  unfold b_Warp_act_216 at hf
  obtain ⟨k_216, hf⟩ := gd_s hf
  obtain ⟨h_216_2, e_216_2, hf⟩ := clv_s hf
  refine g_callV (mz := mi_Warp_put) (e_Warp_put hw e_216_2) cw_Warp_act_Warp_put lm_Warp_150 wI_Warp_put wV_Warp_put (ci := 8) k_216 (by decide) rfl rfl d_Warp_act_216 rfl rfl (by first | exact Nat.le_of_ble_eq_true rfl | simp [cat_rf, Value.category]) (fun r1 h1 hp hro => ?_)
  obtain ⟨rfl, rfl⟩ := hp
  dsimp only [Option.toList_some, Option.toList_none, List.cons_append, List.nil_append]
  refine g_iinc (_ + 1) d_Warp_act_219 rfl (by rfl) (by decide) ?_
  show Go _ _ _ _ _ _ [(0, _), (1, _), (2, _), (3, _), (4, _)] _
  refine g_goto 172 d_Warp_act_222 (by decide) ?_
  exact hk172 _ _ _ _ _ _ hf
def b_Warp_act_172 (F : Nat) : Nat → Nat → Int32 → Int32 → Int32 → Int32 → Hp → Option Hp
  | 0 => fun _ _ _ _ _ _ => none
  | n + 1 => fun x0 x1 x2 x3 x4 h => gd (hK h x0 = 9) <| if (hI h 514 x0) ≤ x4 then (some h) else (cl (f_WM_in F x1 x4 h) fun v_184 h_184 => if v_184 = 0 then (b_Warp_act_172 F n x0 x1 x2 x3 (x4 + 1) h_184) else (gd (hK h_184 x0 = 9) <| rq h_184 (hR h_184 520 x0) 10 fun a_194_2 => if x2 = (72 : Int32) then (b_Warp_act_216 F (b_Warp_act_172 F n) x0 x1 x2 x3 x4 x0 x4 (hI h_184 577 a_194_2) x3 h_184) else (cl (f_Warp_result F x0 x4 h_184) fun v_213 h_213 => b_Warp_act_216 F (b_Warp_act_172 F n) x0 x1 x2 x3 x4 x0 x4 (hI h_184 577 a_194_2) v_213 h_213)))
set_option maxRecDepth 100000 in
set_option maxHeartbeats 4000000 in
theorem e_Warp_act_172 {G : Gl} (hw : gF G) {h0 : Hp} {F : Nat} {h' : Hp}   : ∀ (n : Nat) (x0 : Nat) (x1 : Int32) (x2 : Int32) (x3 : Int32) (x4 : Int32) (h : Hp), b_Warp_act_172 F n x0 x1 x2 x3 x4 h = some h' → Go G mi_Warp_act h0 (pV h') h 172 [(0, .ref x0), (1, .int x1), (2, .int x2), (3, .int x3), (4, .int x4)] [] := by
  intro n
  induction n with
  | zero =>
    intro _ _ _ _ _ _ hf
    exact nm_s hf
  | succ n ih =>
    intro x0 x1 x2 x3 x4 h hf
    unfold b_Warp_act_172 at hf
    refine g_iload d_Warp_act_172 rfl ?_
    refine g_aload_n d_Warp_act_174 rfl ?_
    obtain ⟨k_175, hf⟩ := gd_s hf
    refine fg_Warp_lanes lf_Warp_35 d_Warp_act_175 k_175 ?_
    refine g_icmp_ge 225 d_Warp_act_178 (by decide) (fun c_178 => ?_) (fun c_178 => ?_)
    · have hf := ifp hf c_178
      exact Go.ret none trivial rfl d_Warp_act_225 (pV_of hf)
    · have hf := ifn hf c_178
      refine g_iload_n d_Warp_act_181 rfl ?_
      refine g_iload d_Warp_act_182 rfl ?_
      obtain ⟨v_184, h_184, e_184, hf⟩ := cl_s hf
      refine g_callSN (mz := mi_WM_in) (e_WM_in e_184) cw_Warp_act_WM_in (host := "WarpMill") (by decide +kernel) wS_WM_in d_Warp_act_184 rfl rfl (by first | exact Nat.le_of_ble_eq_true rfl | simp [cat_rf, Value.category]) (fun r1 h1 hp hro => ?_)
      obtain ⟨rfl, rfl⟩ := hp
      dsimp only [Option.toList_some, Option.toList_none, List.cons_append, List.nil_append]
      refine g_if_eq 219 d_Warp_act_187 (by decide) (fun c_187 => ?_) (fun c_187 => ?_)
      · have hf := ifp hf c_187
        refine g_iinc (_ + 1) d_Warp_act_219 rfl (by rfl) (by decide) ?_
        show Go _ _ _ _ _ _ [(0, _), (1, _), (2, _), (3, _), (4, _)] _
        refine g_goto 172 d_Warp_act_222 (by decide) ?_
        exact ih _ _ _ _ _ _ hf
      · have hf := ifn hf c_187
        refine g_aload_n d_Warp_act_190 rfl ?_
        refine g_iload d_Warp_act_191 rfl ?_
        refine g_aload_n d_Warp_act_193 rfl ?_
        obtain ⟨k_194, hf⟩ := gd_s hf
        obtain ⟨a_194_2, e_194_2, k_194_2, hf⟩ := rq_s hf
        refine fgs_Warp_word lf_Warp_77 d_Warp_act_194 k_194 e_194_2 ?_
        refine fg_Word_d lf_Warp_141 d_Warp_act_197 k_194_2 ?_
        refine g_iload_n d_Warp_act_200 rfl ?_
        refine g_bipush (72) d_Warp_act_201 (by decide) ?_
        refine g_icmp_ne 210 d_Warp_act_203 (by decide) (fun c_203 => ?_) (fun c_203 => ?_)
        · have hf := ifn hf c_203
          refine g_aload_n d_Warp_act_210 rfl ?_
          refine g_iload d_Warp_act_211 rfl ?_
          obtain ⟨v_213, h_213, e_213, hf⟩ := cl_s hf
          refine g_callV (mz := mi_Warp_result) (e_Warp_result e_213) cw_Warp_act_Warp_result lm_Warp_147 wI_Warp_result wV_Warp_result (ci := 8) k_194 (by decide) rfl rfl d_Warp_act_213 rfl rfl (by first | exact Nat.le_of_ble_eq_true rfl | simp [cat_rf, Value.category]) (fun r1 h1 hp hro => ?_)
          obtain ⟨rfl, rfl⟩ := hp
          dsimp only [Option.toList_some, Option.toList_none, List.cons_append, List.nil_append]
          have key := e_Warp_act_216 hw (G := G) (h0 := h0) (fun _ _ _ _ _ _ q => ih _ _ _ _ _ _ q) hf
          exact key
        · have hf := ifp hf c_203
          refine g_iload_n d_Warp_act_206 rfl ?_
          refine g_goto 216 d_Warp_act_207 (by decide) ?_
          have key := e_Warp_act_216 hw (G := G) (h0 := h0) (fun _ _ _ _ _ _ q => ih _ _ _ _ _ _ q) hf
          exact key
def f_Warp_act (F : Nat) (x0 : Nat) (x1 : Int32) (h : Hp) : Option Hp := gd (hK h x0 = 9) <| rq h (hR h 520 x0) 10 fun a_1_2 => if (hI h 576 a_1_2) = 0 then (pw (sI h 516 x0 ((hI h 516 x0) ||| x1)) fun h_19 => rq h_19 (hR h_19 512 x0) 8 fun a_23 => cl (f_Integer_bitCount F x1 h_19) fun v_31 h_31 => gd (hK h_31 a_23 = 8) <| pw (sI h_31 453 a_23 ((hI h_19 453 a_23) - v_31)) fun h_35_2 => some h_35_2) else (if (hI h 576 a_1_2) = (1 : Int32) then (pw (sI h 517 x0 ((hI h 517 x0) ||| x1)) fun h_53 => rq h_53 (hR h_53 512 x0) 8 fun a_57 => cl (f_Integer_bitCount F x1 h_53) fun v_65 h_65 => gd (hK h_65 a_57 = 8) <| pw (sI h_65 454 a_57 ((hI h_53 454 a_57) + v_65)) fun h_69_2 => some h_69_2) else (if (hI h 576 a_1_2) = (73 : Int32) then (clv (f_Warp_exchange F x0 x1 h) fun h_83 => some h_83) else (if (hI h 588 a_1_2) < (16 : Int32) then (if (hI h 588 a_1_2) = (-1 : Int32) then (some h) else (rq h (hR h 526 x0) 100 fun a_150 => ix ((hI h 578 a_1_2) &&& (3 : Int32)) (hN h a_150) fun j_162 => cl (f_Integer_bitCount F ((hA h a_150 j_162) &&& x1) h) fun v_165 h_165 => b_Warp_act_172 F F x0 x1 (hI h 576 a_1_2) v_165 (0 : Int32) h_165)) else (rq h (hR h 526 x0) 100 fun a_112 => ix ((hI h 577 a_1_2) &&& (3 : Int32)) (hN h a_112) fun j_121 => cl (f_Warp_truths F x0 x1 h) fun v_128 h_128 => gd (hK h_128 a_112 = 100) <| ix ((hI h 577 a_1_2) &&& (3 : Int32)) (hN h_128 a_112) fun j_134_2 => pw (sA h_128 a_112 j_134_2 (((hA h a_112 j_121) &&& (x1 ^^^ (-1 : Int32))) ||| (v_128 &&& x1))) fun h_134_3 => some h_134_3))))
set_option maxRecDepth 100000 in
set_option maxHeartbeats 4000000 in
theorem e_Warp_act {G : Gl} (hw : gF G) {F : Nat} {h' : Hp} {x0 : Nat} {x1 : Int32} {h : Hp} (hf : f_Warp_act F x0 x1 h = some h') : Ex G mi_Warp_act [.ref x0, .int x1] h (pV h') := by
  unfold f_Warp_act at hf
  refine Ex.of nmV (by decide) (Nat.le_of_ble_eq_true rfl) ?_
  show Go G mi_Warp_act h _ h 0 [(0, .ref x0), (1, .int x1)] []
  refine g_aload_n d_Warp_act_0 rfl ?_
  obtain ⟨k_1, hf⟩ := gd_s hf
  obtain ⟨a_1_2, e_1_2, k_1_2, hf⟩ := rq_s hf
  refine fgs_Warp_word lf_Warp_77 d_Warp_act_1 k_1 e_1_2 ?_
  refine fg_Word_op lf_Warp_118 d_Warp_act_4 k_1_2 ?_
  refine g_istore_n d_Warp_act_7 (by decide) ?_
  show Go _ _ _ _ _ _ [(0, _), (1, _), (2, _)] _
  refine g_iload_n d_Warp_act_8 rfl ?_
  refine g_if_ne 41 d_Warp_act_9 (by decide) (fun c_9 => ?_) (fun c_9 => ?_)
  · have hf := ifn hf c_9
    refine g_iload_n d_Warp_act_41 rfl ?_
    refine g_iconst 1 d_Warp_act_42 (by decide) ?_
    refine g_icmp_ne 75 d_Warp_act_43 (by decide) (fun c_43 => ?_) (fun c_43 => ?_)
    · have hf := ifn hf c_43
      refine g_iload_n d_Warp_act_75 rfl ?_
      refine g_bipush (73) d_Warp_act_76 (by decide) ?_
      refine g_icmp_ne 89 d_Warp_act_78 (by decide) (fun c_78 => ?_) (fun c_78 => ?_)
      · have hf := ifn hf c_78
        refine g_aload_n d_Warp_act_89 rfl ?_
        refine fgs_Warp_word lf_Warp_77 d_Warp_act_90 k_1 e_1_2 ?_
        refine fg_Word_written lf_Warp_121 d_Warp_act_93 k_1_2 ?_
        refine g_bipush (16) d_Warp_act_96 (by decide) ?_
        refine g_icmp_lt 138 d_Warp_act_98 (by decide) (fun c_98 => ?_) (fun c_98 => ?_)
        · have hf := ifp hf c_98
          refine g_aload_n d_Warp_act_138 rfl ?_
          refine fgs_Warp_word lf_Warp_77 d_Warp_act_139 k_1 e_1_2 ?_
          refine fg_Word_written lf_Warp_121 d_Warp_act_142 k_1_2 ?_
          refine g_iconst (-1) d_Warp_act_145 (by decide) ?_
          refine g_icmp_eq 225 d_Warp_act_146 (by decide) (fun c_146 => ?_) (fun c_146 => ?_)
          · have hf := ifp hf c_146
            exact Go.ret none trivial rfl d_Warp_act_225 (pV_of hf)
          · have hf := ifn hf c_146
            refine g_aload_n d_Warp_act_149 rfl ?_
            obtain ⟨a_150, e_150, k_150, hf⟩ := rq_s hf
            refine fgs_Warp_predicates lf_Warp_9 d_Warp_act_150 k_1 e_150 ?_
            refine g_aload_n d_Warp_act_153 rfl ?_
            refine fgs_Warp_word lf_Warp_77 d_Warp_act_154 k_1 e_1_2 ?_
            refine fg_Word_a lf_Warp_112 d_Warp_act_157 k_1_2 ?_
            refine g_iconst 3 d_Warp_act_160 (by decide) ?_
            refine g_iand d_Warp_act_161 ?_
            obtain ⟨i_162, hf⟩ := ix_s hf
            refine g_iald k_150 i_162 d_Warp_act_162 ?_
            refine g_iload_n d_Warp_act_163 rfl ?_
            refine g_iand d_Warp_act_164 ?_
            obtain ⟨v_165, h_165, e_165, hf⟩ := cl_s hf
            refine g_callS (mz := mi_Integer_bitCount) (e_Integer_bitCount e_165) cw_Warp_act_Integer_bitCount lm_Warp_130 wS_Integer_bitCount d_Warp_act_165 rfl rfl (by first | exact Nat.le_of_ble_eq_true rfl | simp [cat_rf, Value.category]) (fun r1 h1 hp hro => ?_)
            obtain ⟨rfl, rfl⟩ := hp
            dsimp only [Option.toList_some, Option.toList_none, List.cons_append, List.nil_append]
            refine g_istore_n d_Warp_act_168 (by decide) ?_
            show Go _ _ _ _ _ _ [(0, _), (1, _), (2, _), (3, _)] _
            refine g_iconst 0 d_Warp_act_169 (by decide) ?_
            refine g_istore d_Warp_act_170 (by decide) ?_
            show Go _ _ _ _ _ _ [(0, _), (1, _), (2, _), (3, _), (4, _)] _
            have key := e_Warp_act_172 hw (G := G) (h0 := h)  F _ _ _ _ _ _ hf
            exact key
        · have hf := ifn hf c_98
          refine g_aload_n d_Warp_act_101 rfl ?_
          refine fgs_Warp_word lf_Warp_77 d_Warp_act_102 k_1 e_1_2 ?_
          refine fg_Word_d lf_Warp_141 d_Warp_act_105 k_1_2 ?_
          refine g_iconst 3 d_Warp_act_108 (by decide) ?_
          refine g_iand d_Warp_act_109 ?_
          refine g_istore_n d_Warp_act_110 (by decide) ?_
          show Go _ _ _ _ _ _ [(0, _), (1, _), (2, _), (3, _)] _
          refine g_aload_n d_Warp_act_111 rfl ?_
          obtain ⟨a_112, e_112, k_112, hf⟩ := rq_s hf
          refine fgs_Warp_predicates lf_Warp_9 d_Warp_act_112 k_1 e_112 ?_
          refine g_iload_n d_Warp_act_115 rfl ?_
          refine g_aload_n d_Warp_act_116 rfl ?_
          refine fgs_Warp_predicates lf_Warp_9 d_Warp_act_117 k_1 e_112 ?_
          refine g_iload_n d_Warp_act_120 rfl ?_
          obtain ⟨i_121, hf⟩ := ix_s hf
          refine g_iald k_112 i_121 d_Warp_act_121 ?_
          refine g_iload_n d_Warp_act_122 rfl ?_
          refine g_iconst (-1) d_Warp_act_123 (by decide) ?_
          refine g_ixor d_Warp_act_124 ?_
          refine g_iand d_Warp_act_125 ?_
          refine g_aload_n d_Warp_act_126 rfl ?_
          refine g_iload_n d_Warp_act_127 rfl ?_
          obtain ⟨v_128, h_128, e_128, hf⟩ := cl_s hf
          refine g_callV (mz := mi_Warp_truths) (e_Warp_truths e_128) cw_Warp_act_Warp_truths lm_Warp_144 wI_Warp_truths wV_Warp_truths (ci := 8) k_1 (by decide) rfl rfl d_Warp_act_128 rfl rfl (by first | exact Nat.le_of_ble_eq_true rfl | simp [cat_rf, Value.category]) (fun r1 h1 hp hro => ?_)
          obtain ⟨rfl, rfl⟩ := hp
          dsimp only [Option.toList_some, Option.toList_none, List.cons_append, List.nil_append]
          refine g_iload_n d_Warp_act_131 rfl ?_
          refine g_iand d_Warp_act_132 ?_
          refine g_ior d_Warp_act_133 ?_
          obtain ⟨k_134, hf⟩ := gd_s hf
          obtain ⟨i_134_2, hf⟩ := ix_s hf
          refine g_iast hw k_134 i_134_2 d_Warp_act_134 ?_
          have hf := pw_b hf
          refine g_goto 225 d_Warp_act_135 (by decide) ?_
          exact Go.ret none trivial rfl d_Warp_act_225 (pV_of hf)
      · have hf := ifp hf c_78
        refine g_aload_n d_Warp_act_81 rfl ?_
        refine g_iload_n d_Warp_act_82 rfl ?_
        obtain ⟨h_83, e_83, hf⟩ := clv_s hf
        refine g_callV (mz := mi_Warp_exchange) (e_Warp_exchange hw e_83) cw_Warp_act_Warp_exchange lm_Warp_137 wI_Warp_exchange wV_Warp_exchange (ci := 8) k_1 (by decide) rfl rfl d_Warp_act_83 rfl rfl (by first | exact Nat.le_of_ble_eq_true rfl | simp [cat_rf, Value.category]) (fun r1 h1 hp hro => ?_)
        obtain ⟨rfl, rfl⟩ := hp
        dsimp only [Option.toList_some, Option.toList_none, List.cons_append, List.nil_append]
        refine g_goto 225 d_Warp_act_86 (by decide) ?_
        exact Go.ret none trivial rfl d_Warp_act_225 (pV_of hf)
    · have hf := ifp hf c_43
      refine g_aload_n d_Warp_act_46 rfl ?_
      refine g_dup (by first | rfl | exact cat_rf _) d_Warp_act_47 ?_
      refine fg_Warp_waiting lf_Warp_55 d_Warp_act_48 k_1 ?_
      refine g_iload_n d_Warp_act_51 rfl ?_
      refine g_ior d_Warp_act_52 ?_
      refine fp_Warp_waiting hw lf_Warp_55 d_Warp_act_53 k_1 ?_
      have hf := pw_b hf
      refine g_aload_n d_Warp_act_56 rfl ?_
      obtain ⟨a_57, e_57, k_57, hf⟩ := rq_s hf
      refine fgs_Warp_block lf_Warp_27 d_Warp_act_57 (kksI k_1) e_57 ?_
      refine g_dup (by first | rfl | exact cat_rf _) d_Warp_act_60 ?_
      refine fg_Block_waiting lf_Warp_136 d_Warp_act_61 k_57 ?_
      refine g_iload_n d_Warp_act_64 rfl ?_
      obtain ⟨v_65, h_65, e_65, hf⟩ := cl_s hf
      refine g_callS (mz := mi_Integer_bitCount) (e_Integer_bitCount e_65) cw_Warp_act_Integer_bitCount lm_Warp_130 wS_Integer_bitCount d_Warp_act_65 rfl rfl (by first | exact Nat.le_of_ble_eq_true rfl | simp [cat_rf, Value.category]) (fun r1 h1 hp hro => ?_)
      obtain ⟨rfl, rfl⟩ := hp
      dsimp only [Option.toList_some, Option.toList_none, List.cons_append, List.nil_append]
      refine g_iadd d_Warp_act_68 ?_
      obtain ⟨k_69, hf⟩ := gd_s hf
      refine fp_Block_waiting hw lf_Warp_136 d_Warp_act_69 k_69 ?_
      have hf := pw_b hf
      refine g_goto 225 d_Warp_act_72 (by decide) ?_
      exact Go.ret none trivial rfl d_Warp_act_225 (pV_of hf)
  · have hf := ifp hf c_9
    refine g_aload_n d_Warp_act_12 rfl ?_
    refine g_dup (by first | rfl | exact cat_rf _) d_Warp_act_13 ?_
    refine fg_Warp_ended lf_Warp_52 d_Warp_act_14 k_1 ?_
    refine g_iload_n d_Warp_act_17 rfl ?_
    refine g_ior d_Warp_act_18 ?_
    refine fp_Warp_ended hw lf_Warp_52 d_Warp_act_19 k_1 ?_
    have hf := pw_b hf
    refine g_aload_n d_Warp_act_22 rfl ?_
    obtain ⟨a_23, e_23, k_23, hf⟩ := rq_s hf
    refine fgs_Warp_block lf_Warp_27 d_Warp_act_23 (kksI k_1) e_23 ?_
    refine g_dup (by first | rfl | exact cat_rf _) d_Warp_act_26 ?_
    refine fg_Block_alive lf_Warp_127 d_Warp_act_27 k_23 ?_
    refine g_iload_n d_Warp_act_30 rfl ?_
    obtain ⟨v_31, h_31, e_31, hf⟩ := cl_s hf
    refine g_callS (mz := mi_Integer_bitCount) (e_Integer_bitCount e_31) cw_Warp_act_Integer_bitCount lm_Warp_130 wS_Integer_bitCount d_Warp_act_31 rfl rfl (by first | exact Nat.le_of_ble_eq_true rfl | simp [cat_rf, Value.category]) (fun r1 h1 hp hro => ?_)
    obtain ⟨rfl, rfl⟩ := hp
    dsimp only [Option.toList_some, Option.toList_none, List.cons_append, List.nil_append]
    refine g_isub d_Warp_act_34 ?_
    obtain ⟨k_35, hf⟩ := gd_s hf
    refine fp_Block_alive hw lf_Warp_127 d_Warp_act_35 k_35 ?_
    have hf := pw_b hf
    refine g_goto 225 d_Warp_act_38 (by decide) ?_
    exact Go.ret none trivial rfl d_Warp_act_225 (pV_of hf)
abbrev mi_Warp_mark : MI := (⟨"WarpMill$Warp", "mark", "(I)V"⟩, prog_10_method_12_code, 2, none, 0, 0)
def it_Warp_mark_0 : List (Nat × ClassFile.Instr × Nat) := [(0, .aload_n 0, 1), (1, .getfield 77, 3), (4, .getfield 121, 3), (7, .iconst (-1), 1), (8, .if_icmp .eq (16), 3), (11, .aload_n 0, 1), (12, .getfield 15, 3), (15, .aload_n 0, 1), (16, .getfield 77, 3), (19, .getfield 121, 3), (22, .iload_n 1, 1), (23, .iastore, 1), (24, .aload_n 0, 1), (25, .getfield 77, 3), (28, .getfield 124, 3), (31, .ifCond .eq (8), 3), (34, .aload_n 0, 1), (35, .iload_n 1, 1), (36, .putfield 58, 3), (39, .return_, 1)]
theorem id_Warp_mark_0 : ∀ q ∈ it_Warp_mark_0, decode prog_10_method_12_code q.1 = .ok q.2 := by decide +kernel
theorem d_Warp_mark_0 : decode prog_10_method_12_code 0 = .ok (.aload_n 0, 1) := id_Warp_mark_0 (0, .aload_n 0, 1) (List.mem_of_getElem? (i := 0) rfl)
theorem d_Warp_mark_1 : decode prog_10_method_12_code 1 = .ok (.getfield 77, 3) := id_Warp_mark_0 (1, .getfield 77, 3) (List.mem_of_getElem? (i := 1) rfl)
theorem d_Warp_mark_4 : decode prog_10_method_12_code 4 = .ok (.getfield 121, 3) := id_Warp_mark_0 (4, .getfield 121, 3) (List.mem_of_getElem? (i := 2) rfl)
theorem d_Warp_mark_7 : decode prog_10_method_12_code 7 = .ok (.iconst (-1), 1) := id_Warp_mark_0 (7, .iconst (-1), 1) (List.mem_of_getElem? (i := 3) rfl)
theorem d_Warp_mark_8 : decode prog_10_method_12_code 8 = .ok (.if_icmp .eq (16), 3) := id_Warp_mark_0 (8, .if_icmp .eq (16), 3) (List.mem_of_getElem? (i := 4) rfl)
theorem d_Warp_mark_11 : decode prog_10_method_12_code 11 = .ok (.aload_n 0, 1) := id_Warp_mark_0 (11, .aload_n 0, 1) (List.mem_of_getElem? (i := 5) rfl)
theorem d_Warp_mark_12 : decode prog_10_method_12_code 12 = .ok (.getfield 15, 3) := id_Warp_mark_0 (12, .getfield 15, 3) (List.mem_of_getElem? (i := 6) rfl)
theorem d_Warp_mark_15 : decode prog_10_method_12_code 15 = .ok (.aload_n 0, 1) := id_Warp_mark_0 (15, .aload_n 0, 1) (List.mem_of_getElem? (i := 7) rfl)
theorem d_Warp_mark_16 : decode prog_10_method_12_code 16 = .ok (.getfield 77, 3) := id_Warp_mark_0 (16, .getfield 77, 3) (List.mem_of_getElem? (i := 8) rfl)
theorem d_Warp_mark_19 : decode prog_10_method_12_code 19 = .ok (.getfield 121, 3) := id_Warp_mark_0 (19, .getfield 121, 3) (List.mem_of_getElem? (i := 9) rfl)
theorem d_Warp_mark_22 : decode prog_10_method_12_code 22 = .ok (.iload_n 1, 1) := id_Warp_mark_0 (22, .iload_n 1, 1) (List.mem_of_getElem? (i := 10) rfl)
theorem d_Warp_mark_23 : decode prog_10_method_12_code 23 = .ok (.iastore, 1) := id_Warp_mark_0 (23, .iastore, 1) (List.mem_of_getElem? (i := 11) rfl)
theorem d_Warp_mark_24 : decode prog_10_method_12_code 24 = .ok (.aload_n 0, 1) := id_Warp_mark_0 (24, .aload_n 0, 1) (List.mem_of_getElem? (i := 12) rfl)
theorem d_Warp_mark_25 : decode prog_10_method_12_code 25 = .ok (.getfield 77, 3) := id_Warp_mark_0 (25, .getfield 77, 3) (List.mem_of_getElem? (i := 13) rfl)
theorem d_Warp_mark_28 : decode prog_10_method_12_code 28 = .ok (.getfield 124, 3) := id_Warp_mark_0 (28, .getfield 124, 3) (List.mem_of_getElem? (i := 14) rfl)
theorem d_Warp_mark_31 : decode prog_10_method_12_code 31 = .ok (.ifCond .eq (8), 3) := id_Warp_mark_0 (31, .ifCond .eq (8), 3) (List.mem_of_getElem? (i := 15) rfl)
theorem d_Warp_mark_34 : decode prog_10_method_12_code 34 = .ok (.aload_n 0, 1) := id_Warp_mark_0 (34, .aload_n 0, 1) (List.mem_of_getElem? (i := 16) rfl)
theorem d_Warp_mark_35 : decode prog_10_method_12_code 35 = .ok (.iload_n 1, 1) := id_Warp_mark_0 (35, .iload_n 1, 1) (List.mem_of_getElem? (i := 17) rfl)
theorem d_Warp_mark_36 : decode prog_10_method_12_code 36 = .ok (.putfield 58, 3) := id_Warp_mark_0 (36, .putfield 58, 3) (List.mem_of_getElem? (i := 18) rfl)
theorem d_Warp_mark_39 : decode prog_10_method_12_code 39 = .ok (.return_, 1) := id_Warp_mark_0 (39, .return_, 1) (List.mem_of_getElem? (i := 19) rfl)
theorem wC_Warp_mark : Cond.code ⟨"WarpMill$Warp", "mark", "(I)V"⟩ prog_10_method_12_code 2 (none) ∈ lw_tb := mem_tb 980 (by decide +kernel) rfl
def b_Warp_mark_24 (F : Nat) (x0 : Nat) (x1 : Int32) (h : Hp) : Option Hp := gd (hK h x0 = 9) <| rq h (hR h 520 x0) 10 fun a_25_2 => if (hI h 585 a_25_2) = 0 then (some h) else (pw (sI h 522 x0 x1) fun h_36 => some h_36)
set_option maxRecDepth 100000 in
set_option maxHeartbeats 4000000 in
theorem e_Warp_mark_24 {G : Gl} (hw : gF G) {h0 : Hp} {F : Nat} {h' : Hp}   {x0 : Nat} {x1 : Int32} {h : Hp} (hf : b_Warp_mark_24 F x0 x1 h = some h') : Go G mi_Warp_mark h0 (pV h') h 24 [(0, .ref x0), (1, .int x1)] [] := by
  unfold b_Warp_mark_24 at hf
  refine g_aload_n d_Warp_mark_24 rfl ?_
  obtain ⟨k_25, hf⟩ := gd_s hf
  obtain ⟨a_25_2, e_25_2, k_25_2, hf⟩ := rq_s hf
  refine fgs_Warp_word lf_Warp_77 d_Warp_mark_25 k_25 e_25_2 ?_
  refine fg_Word_usesMemory lf_Warp_124 d_Warp_mark_28 k_25_2 ?_
  refine g_if_eq 39 d_Warp_mark_31 (by decide) (fun c_31 => ?_) (fun c_31 => ?_)
  · have hf := ifp hf c_31
    exact Go.ret none trivial rfl d_Warp_mark_39 (pV_of hf)
  · have hf := ifn hf c_31
    refine g_aload_n d_Warp_mark_34 rfl ?_
    refine g_iload_n d_Warp_mark_35 rfl ?_
    refine fp_Warp_memoryTick hw lf_Warp_58 d_Warp_mark_36 k_25 ?_
    have hf := pw_b hf
    exact Go.ret none trivial rfl d_Warp_mark_39 (pV_of hf)
def f_Warp_mark (F : Nat) (x0 : Nat) (x1 : Int32) (h : Hp) : Option Hp := gd (hK h x0 = 9) <| rq h (hR h 520 x0) 10 fun a_1_2 => if (hI h 588 a_1_2) = (-1 : Int32) then (b_Warp_mark_24 F x0 x1 h) else (rq h (hR h 527 x0) 100 fun a_12 => ix (hI h 588 a_1_2) (hN h a_12) fun j_23 => pw (sA h a_12 j_23 x1) fun h_23_2 => b_Warp_mark_24 F x0 x1 h_23_2)
set_option maxRecDepth 100000 in
set_option maxHeartbeats 4000000 in
theorem e_Warp_mark {G : Gl} (hw : gF G) {F : Nat} {h' : Hp} {x0 : Nat} {x1 : Int32} {h : Hp} (hf : f_Warp_mark F x0 x1 h = some h') : Ex G mi_Warp_mark [.ref x0, .int x1] h (pV h') := by
  unfold f_Warp_mark at hf
  refine Ex.of nmV (by decide) (Nat.le_of_ble_eq_true rfl) ?_
  show Go G mi_Warp_mark h _ h 0 [(0, .ref x0), (1, .int x1)] []
  refine g_aload_n d_Warp_mark_0 rfl ?_
  obtain ⟨k_1, hf⟩ := gd_s hf
  obtain ⟨a_1_2, e_1_2, k_1_2, hf⟩ := rq_s hf
  refine fgs_Warp_word lf_Warp_77 d_Warp_mark_1 k_1 e_1_2 ?_
  refine fg_Word_written lf_Warp_121 d_Warp_mark_4 k_1_2 ?_
  refine g_iconst (-1) d_Warp_mark_7 (by decide) ?_
  refine g_icmp_eq 24 d_Warp_mark_8 (by decide) (fun c_8 => ?_) (fun c_8 => ?_)
  · have hf := ifp hf c_8
    have key := e_Warp_mark_24 hw (G := G) (h0 := h)  hf
    exact key
  · have hf := ifn hf c_8
    refine g_aload_n d_Warp_mark_11 rfl ?_
    obtain ⟨a_12, e_12, k_12, hf⟩ := rq_s hf
    refine fgs_Warp_ticks lf_Warp_15 d_Warp_mark_12 k_1 e_12 ?_
    refine g_aload_n d_Warp_mark_15 rfl ?_
    refine fgs_Warp_word lf_Warp_77 d_Warp_mark_16 k_1 e_1_2 ?_
    refine fg_Word_written lf_Warp_121 d_Warp_mark_19 k_1_2 ?_
    refine g_iload_n d_Warp_mark_22 rfl ?_
    obtain ⟨i_23, hf⟩ := ix_s hf
    refine g_iast hw k_12 i_23 d_Warp_mark_23 ?_
    have hf := pw_b hf
    have key := e_Warp_mark_24 hw (G := G) (h0 := h)  hf
    exact key
abbrev mi_Unit_wake : MI := (⟨"WarpMill$Unit", "wake", "(LWarpMill$Block;[LWarpMill$Word;)V"⟩, prog_9_method_6_code, 5, none, 3, 66)
def it_Unit_wake_0 : List (Nat × ClassFile.Instr × Nat) := [(0, .iconst 0, 1), (1, .istore_n 3, 1), (2, .iload_n 3, 1), (3, .aload_n 0, 1), (4, .getfield 21, 3), (7, .if_icmp .ge (42), 3), (10, .aload_n 0, 1), (11, .iload_n 3, 1), (12, .invokevirtual 44, 3), (15, .astore 4, 2), (17, .aload 4, 2), (19, .ifnull (24), 3), (22, .aload 4, 2), (24, .getfield 40, 3), (27, .aload_n 1, 1), (28, .if_acmp .ne (15), 3), (31, .aload 4, 2), (33, .iconst 0, 1), (34, .putfield 65, 3), (37, .aload 4, 2), (39, .aload_n 2, 1), (40, .invokevirtual 55, 3), (43, .iinc 3 (1), 3), (46, .goto (-44), 3)]
theorem id_Unit_wake_0 : ∀ q ∈ it_Unit_wake_0, decode prog_9_method_6_code q.1 = .ok q.2 := by decide +kernel
theorem d_Unit_wake_0 : decode prog_9_method_6_code 0 = .ok (.iconst 0, 1) := id_Unit_wake_0 (0, .iconst 0, 1) (List.mem_of_getElem? (i := 0) rfl)
theorem d_Unit_wake_1 : decode prog_9_method_6_code 1 = .ok (.istore_n 3, 1) := id_Unit_wake_0 (1, .istore_n 3, 1) (List.mem_of_getElem? (i := 1) rfl)
theorem d_Unit_wake_2 : decode prog_9_method_6_code 2 = .ok (.iload_n 3, 1) := id_Unit_wake_0 (2, .iload_n 3, 1) (List.mem_of_getElem? (i := 2) rfl)
theorem d_Unit_wake_3 : decode prog_9_method_6_code 3 = .ok (.aload_n 0, 1) := id_Unit_wake_0 (3, .aload_n 0, 1) (List.mem_of_getElem? (i := 3) rfl)
theorem d_Unit_wake_4 : decode prog_9_method_6_code 4 = .ok (.getfield 21, 3) := id_Unit_wake_0 (4, .getfield 21, 3) (List.mem_of_getElem? (i := 4) rfl)
theorem d_Unit_wake_7 : decode prog_9_method_6_code 7 = .ok (.if_icmp .ge (42), 3) := id_Unit_wake_0 (7, .if_icmp .ge (42), 3) (List.mem_of_getElem? (i := 5) rfl)
theorem d_Unit_wake_10 : decode prog_9_method_6_code 10 = .ok (.aload_n 0, 1) := id_Unit_wake_0 (10, .aload_n 0, 1) (List.mem_of_getElem? (i := 6) rfl)
theorem d_Unit_wake_11 : decode prog_9_method_6_code 11 = .ok (.iload_n 3, 1) := id_Unit_wake_0 (11, .iload_n 3, 1) (List.mem_of_getElem? (i := 7) rfl)
theorem d_Unit_wake_12 : decode prog_9_method_6_code 12 = .ok (.invokevirtual 44, 3) := id_Unit_wake_0 (12, .invokevirtual 44, 3) (List.mem_of_getElem? (i := 8) rfl)
theorem d_Unit_wake_15 : decode prog_9_method_6_code 15 = .ok (.astore 4, 2) := id_Unit_wake_0 (15, .astore 4, 2) (List.mem_of_getElem? (i := 9) rfl)
theorem d_Unit_wake_17 : decode prog_9_method_6_code 17 = .ok (.aload 4, 2) := id_Unit_wake_0 (17, .aload 4, 2) (List.mem_of_getElem? (i := 10) rfl)
theorem d_Unit_wake_19 : decode prog_9_method_6_code 19 = .ok (.ifnull (24), 3) := id_Unit_wake_0 (19, .ifnull (24), 3) (List.mem_of_getElem? (i := 11) rfl)
theorem d_Unit_wake_22 : decode prog_9_method_6_code 22 = .ok (.aload 4, 2) := id_Unit_wake_0 (22, .aload 4, 2) (List.mem_of_getElem? (i := 12) rfl)
theorem d_Unit_wake_24 : decode prog_9_method_6_code 24 = .ok (.getfield 40, 3) := id_Unit_wake_0 (24, .getfield 40, 3) (List.mem_of_getElem? (i := 13) rfl)
theorem d_Unit_wake_27 : decode prog_9_method_6_code 27 = .ok (.aload_n 1, 1) := id_Unit_wake_0 (27, .aload_n 1, 1) (List.mem_of_getElem? (i := 14) rfl)
theorem d_Unit_wake_28 : decode prog_9_method_6_code 28 = .ok (.if_acmp .ne (15), 3) := id_Unit_wake_0 (28, .if_acmp .ne (15), 3) (List.mem_of_getElem? (i := 15) rfl)
theorem d_Unit_wake_31 : decode prog_9_method_6_code 31 = .ok (.aload 4, 2) := id_Unit_wake_0 (31, .aload 4, 2) (List.mem_of_getElem? (i := 16) rfl)
theorem d_Unit_wake_33 : decode prog_9_method_6_code 33 = .ok (.iconst 0, 1) := id_Unit_wake_0 (33, .iconst 0, 1) (List.mem_of_getElem? (i := 17) rfl)
theorem d_Unit_wake_34 : decode prog_9_method_6_code 34 = .ok (.putfield 65, 3) := id_Unit_wake_0 (34, .putfield 65, 3) (List.mem_of_getElem? (i := 18) rfl)
theorem d_Unit_wake_37 : decode prog_9_method_6_code 37 = .ok (.aload 4, 2) := id_Unit_wake_0 (37, .aload 4, 2) (List.mem_of_getElem? (i := 19) rfl)
theorem d_Unit_wake_39 : decode prog_9_method_6_code 39 = .ok (.aload_n 2, 1) := id_Unit_wake_0 (39, .aload_n 2, 1) (List.mem_of_getElem? (i := 20) rfl)
theorem d_Unit_wake_40 : decode prog_9_method_6_code 40 = .ok (.invokevirtual 55, 3) := id_Unit_wake_0 (40, .invokevirtual 55, 3) (List.mem_of_getElem? (i := 21) rfl)
theorem d_Unit_wake_43 : decode prog_9_method_6_code 43 = .ok (.iinc 3 (1), 3) := id_Unit_wake_0 (43, .iinc 3 (1), 3) (List.mem_of_getElem? (i := 22) rfl)
theorem d_Unit_wake_46 : decode prog_9_method_6_code 46 = .ok (.goto (-44), 3) := id_Unit_wake_0 (46, .goto (-44), 3) (List.mem_of_getElem? (i := 23) rfl)
def it_Unit_wake_1 : List (Nat × ClassFile.Instr × Nat) := [(49, .return_, 1)]
theorem id_Unit_wake_1 : ∀ q ∈ it_Unit_wake_1, decode prog_9_method_6_code q.1 = .ok q.2 := by decide +kernel
theorem d_Unit_wake_49 : decode prog_9_method_6_code 49 = .ok (.return_, 1) := id_Unit_wake_1 (49, .return_, 1) (List.mem_of_getElem? (i := 0) rfl)
theorem wC_Unit_wake : Cond.code ⟨"WarpMill$Unit", "wake", "(LWarpMill$Block;[LWarpMill$Word;)V"⟩ prog_9_method_6_code 5 (none) ∈ lw_tb := mem_tb 988 (by decide +kernel) rfl
theorem cw_Unit_wake_Unit_busy : cW mi_Unit_wake mi_Unit_busy 1 := ⟨wC_Unit_busy, wi_Unit, ⟨by decide, by decide, by decide +kernel⟩, by decide, by decide⟩
theorem cw_Unit_wake_Warp_gather : cW mi_Unit_wake mi_Warp_gather 1 := ⟨wC_Warp_gather, wi_Warp, ⟨by decide, by decide, by decide +kernel⟩, by decide, by decide⟩
def b_Unit_wake_2 (F : Nat) : Nat → Nat → Option Nat → Option Nat → Int32 → Hp → Option Hp
  | 0 => fun _ _ _ _ _ => none
  | n + 1 => fun x0 x1 x2 x3 h => gd (hK h x0 = 7) <| if (hI h 386 x0) ≤ x3 then (some h) else (cl (f_Unit_busy F x0 x3 h) fun o_12 h_12 => nu o_12 (b_Unit_wake_2 F n x0 x1 x2 (x3 + 1) h_12) fun a_19 => (gd (hK h_12 a_19 = 9) <| pw (hR h_12 512 a_19) fun o_24_2 => if o_24_2 = x1 then (pw (sI h_12 517 a_19 (0 : Int32)) fun h_34 => clv (f_Warp_gather F a_19 x2 h_34) fun h_40 => b_Unit_wake_2 F n x0 x1 x2 (x3 + 1) h_40) else (b_Unit_wake_2 F n x0 x1 x2 (x3 + 1) h_12)))
set_option maxRecDepth 100000 in
set_option maxHeartbeats 4000000 in
theorem e_Unit_wake_2 {G : Gl} (hw : gF G) {h0 : Hp} {F : Nat} {h' : Hp}   : ∀ (n : Nat) (x0 : Nat) (x1 : Option Nat) (x2 : Option Nat) (x3 : Int32) (h : Hp), b_Unit_wake_2 F n x0 x1 x2 x3 h = some h' → Go G mi_Unit_wake h0 (pV h') h 2 [(0, .ref x0), (1, va_rf x1), (2, va_rf x2), (3, .int x3)] [] := by
  intro n
  induction n with
  | zero =>
    intro _ _ _ _ _ hf
    exact nm_s hf
  | succ n ih =>
    intro x0 x1 x2 x3 h hf
    unfold b_Unit_wake_2 at hf
    refine g_iload_n d_Unit_wake_2 rfl ?_
    refine g_aload_n d_Unit_wake_3 rfl ?_
    obtain ⟨k_4, hf⟩ := gd_s hf
    refine fg_Unit_slots lf_Unit_21 d_Unit_wake_4 k_4 ?_
    refine g_icmp_ge 49 d_Unit_wake_7 (by decide) (fun c_7 => ?_) (fun c_7 => ?_)
    · have hf := ifp hf c_7
      exact Go.ret none trivial rfl d_Unit_wake_49 (pV_of hf)
    · have hf := ifn hf c_7
      refine g_aload_n d_Unit_wake_10 rfl ?_
      refine g_iload_n d_Unit_wake_11 rfl ?_
      obtain ⟨o_12, h_12, e_12, hf⟩ := cl_s hf
      refine g_callV (mz := mi_Unit_busy) (e_Unit_busy e_12) cw_Unit_wake_Unit_busy lm_Unit_44 wI_Unit_busy wV_Unit_busy (ci := 6) k_4 (by decide) rfl rfl d_Unit_wake_12 rfl rfl (by first | exact Nat.le_of_ble_eq_true rfl | simp [cat_rf, Value.category]) (fun r1 h1 hp hro => ?_)
      obtain ⟨rfl, rfl⟩ := hp
      dsimp only [Option.toList_some, Option.toList_none, List.cons_append, List.nil_append]
      refine g_astoreq (r := o_12) d_Unit_wake_15 (by decide) ?_
      show Go _ _ _ _ _ _ [(0, _), (1, _), (2, _), (3, _), (4, _)] _
      refine g_aloadq (r := o_12) d_Unit_wake_17 rfl ?_
      refine g_ifnull (r := o_12) 43 d_Unit_wake_19 (by decide) (fun c_19 => ?_) (fun a_19 c_19 => ?_)
      · subst c_19
        have hf := nu_n hf
        refine g_iinc (_ + 1) d_Unit_wake_43 rfl (by rfl) (by decide) ?_
        simp only [lset1, lset2, List.filter_cons, cat_rf]
        show Go _ _ _ _ _ _ [(0, _), (1, _), (2, _), (3, _), (4, _)] _
        refine g_goto 2 d_Unit_wake_46 (by decide) ?_
        refine Go.locals [0, 1, 2, 3] rfl ?_
        exact ih _ _ _ _ _ hf
      · subst c_19
        have hf := nu_s hf
        refine g_aload d_Unit_wake_22 rfl ?_
        obtain ⟨k_24, hf⟩ := gd_s hf
        obtain ⟨o_24_2, e_24_2, hf⟩ := pw_s hf
        refine fg_Warp_block lf_Unit_40 d_Unit_wake_24 k_24 ?_
        refine Go.vr e_24_2 ?_
        refine g_aload_nq (r := x1) d_Unit_wake_27 rfl ?_
        refine g_acmp_ne (rx := o_24_2) (ry := x1) 43 d_Unit_wake_28 (by decide) (fun c_28 => ?_) (fun c_28 => ?_)
        · have hf := ifn hf c_28
          refine g_iinc (_ + 1) d_Unit_wake_43 rfl (by rfl) (by decide) ?_
          simp only [lset1, lset2, List.filter_cons, cat_rf]
          show Go _ _ _ _ _ _ [(0, _), (1, _), (2, _), (3, _), (4, _)] _
          refine g_goto 2 d_Unit_wake_46 (by decide) ?_
          refine Go.locals [0, 1, 2, 3] rfl ?_
          exact ih _ _ _ _ _ hf
        · have hf := ifp hf c_28
          refine g_aload d_Unit_wake_31 rfl ?_
          refine g_iconst 0 d_Unit_wake_33 (by decide) ?_
          refine fp_Warp_waiting hw lf_Unit_65 d_Unit_wake_34 k_24 ?_
          have hf := pw_b hf
          refine g_aload d_Unit_wake_37 rfl ?_
          refine g_aload_nq (r := x2) d_Unit_wake_39 rfl ?_
          obtain ⟨h_40, e_40, hf⟩ := clv_s hf
          refine g_callV (mz := mi_Warp_gather) (e_Warp_gather hw e_40) cw_Unit_wake_Warp_gather lm_Unit_55 wI_Warp_gather wV_Warp_gather (ci := 8) (kksI k_24) (by decide) rfl rfl d_Unit_wake_40 rfl rfl (by first | exact Nat.le_of_ble_eq_true rfl | simp [cat_rf, Value.category]) (fun r1 h1 hp hro => ?_)
          obtain ⟨rfl, rfl⟩ := hp
          dsimp only [Option.toList_some, Option.toList_none, List.cons_append, List.nil_append]
          refine g_iinc (_ + 1) d_Unit_wake_43 rfl (by rfl) (by decide) ?_
          simp only [lset1, lset2, List.filter_cons, cat_rf]
          show Go _ _ _ _ _ _ [(0, _), (1, _), (2, _), (3, _), (4, _)] _
          refine g_goto 2 d_Unit_wake_46 (by decide) ?_
          refine Go.locals [0, 1, 2, 3] rfl ?_
          exact ih _ _ _ _ _ hf
def f_Unit_wake (F : Nat) (x0 : Nat) (x1 : Option Nat) (x2 : Option Nat) (h : Hp) : Option Hp := b_Unit_wake_2 F F x0 x1 x2 (0 : Int32) h
set_option maxRecDepth 100000 in
set_option maxHeartbeats 4000000 in
theorem e_Unit_wake {G : Gl} (hw : gF G) {F : Nat} {h' : Hp} {x0 : Nat} {x1 : Option Nat} {x2 : Option Nat} {h : Hp} (hf : f_Unit_wake F x0 x1 x2 h = some h') : Ex G mi_Unit_wake [.ref x0, va_rf x1, va_rf x2] h (pV h') := by
  unfold f_Unit_wake at hf
  refine Ex.of nmV (by decide) (by cases x1 <;> cases x2 <;> exact Nat.le_of_ble_eq_true rfl) ?_
  rw [show lv_args 0 [.ref x0, va_rf x1, va_rf x2] = [(0, .ref x0), (1, va_rf x1), (2, va_rf x2)] from by cases x1 <;> cases x2 <;> rfl]
  show Go G mi_Unit_wake h _ h 0 [(0, .ref x0), (1, va_rf x1), (2, va_rf x2)] []
  refine g_iconst 0 d_Unit_wake_0 (by decide) ?_
  refine g_istore_n d_Unit_wake_1 (by decide) ?_
  simp only [lset1, lset2, List.filter_cons, cat_rf]
  show Go _ _ _ _ _ _ [(0, _), (1, _), (2, _), (3, _)] _
  have key := e_Unit_wake_2 hw (G := G) (h0 := h)  F _ _ _ _ _ hf
  exact key
