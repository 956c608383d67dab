abbrev mi_Ask_tellThread : MI := (⟨"WarpMill$Ask", "tellThread", "(I)V"⟩, prog_2_method_4_code, 2, none, 1, 23)
def it_Ask_tellThread_0 : List (Nat × ClassFile.Instr × Nat) := [(0, .aload_n 0, 1), (1, .getfield 28, 3), (4, .getfield 57, 3), (7, .bipush (51), 2), (9, .if_icmp .eq (36), 3), (12, .aload_n 0, 1), (13, .getfield 13, 3), (16, .getfield 17, 3), (19, .aload_n 0, 1), (20, .getfield 23, 3), (23, .if_acmp .ne (22), 3), (26, .aload_n 0, 1), (27, .getfield 13, 3), (30, .aload_n 0, 1), (31, .getfield 29, 3), (34, .aload_n 0, 1), (35, .getfield 28, 3), (38, .getfield 50, 3), (41, .iload_n 1, 1), (42, .invokevirtual 65, 3), (45, .return_, 1)]
theorem id_Ask_tellThread_0 : ∀ q ∈ it_Ask_tellThread_0, decode prog_2_method_4_code q.1 = .ok q.2 := by decide +kernel
theorem d_Ask_tellThread_0 : decode prog_2_method_4_code 0 = .ok (.aload_n 0, 1) := id_Ask_tellThread_0 (0, .aload_n 0, 1) (List.mem_of_getElem? (i := 0) rfl)
theorem d_Ask_tellThread_1 : decode prog_2_method_4_code 1 = .ok (.getfield 28, 3) := id_Ask_tellThread_0 (1, .getfield 28, 3) (List.mem_of_getElem? (i := 1) rfl)
theorem d_Ask_tellThread_4 : decode prog_2_method_4_code 4 = .ok (.getfield 57, 3) := id_Ask_tellThread_0 (4, .getfield 57, 3) (List.mem_of_getElem? (i := 2) rfl)
theorem d_Ask_tellThread_7 : decode prog_2_method_4_code 7 = .ok (.bipush (51), 2) := id_Ask_tellThread_0 (7, .bipush (51), 2) (List.mem_of_getElem? (i := 3) rfl)
theorem d_Ask_tellThread_9 : decode prog_2_method_4_code 9 = .ok (.if_icmp .eq (36), 3) := id_Ask_tellThread_0 (9, .if_icmp .eq (36), 3) (List.mem_of_getElem? (i := 4) rfl)
theorem d_Ask_tellThread_12 : decode prog_2_method_4_code 12 = .ok (.aload_n 0, 1) := id_Ask_tellThread_0 (12, .aload_n 0, 1) (List.mem_of_getElem? (i := 5) rfl)
theorem d_Ask_tellThread_13 : decode prog_2_method_4_code 13 = .ok (.getfield 13, 3) := id_Ask_tellThread_0 (13, .getfield 13, 3) (List.mem_of_getElem? (i := 6) rfl)
theorem d_Ask_tellThread_16 : decode prog_2_method_4_code 16 = .ok (.getfield 17, 3) := id_Ask_tellThread_0 (16, .getfield 17, 3) (List.mem_of_getElem? (i := 7) rfl)
theorem d_Ask_tellThread_19 : decode prog_2_method_4_code 19 = .ok (.aload_n 0, 1) := id_Ask_tellThread_0 (19, .aload_n 0, 1) (List.mem_of_getElem? (i := 8) rfl)
theorem d_Ask_tellThread_20 : decode prog_2_method_4_code 20 = .ok (.getfield 23, 3) := id_Ask_tellThread_0 (20, .getfield 23, 3) (List.mem_of_getElem? (i := 9) rfl)
theorem d_Ask_tellThread_23 : decode prog_2_method_4_code 23 = .ok (.if_acmp .ne (22), 3) := id_Ask_tellThread_0 (23, .if_acmp .ne (22), 3) (List.mem_of_getElem? (i := 10) rfl)
theorem d_Ask_tellThread_26 : decode prog_2_method_4_code 26 = .ok (.aload_n 0, 1) := id_Ask_tellThread_0 (26, .aload_n 0, 1) (List.mem_of_getElem? (i := 11) rfl)
theorem d_Ask_tellThread_27 : decode prog_2_method_4_code 27 = .ok (.getfield 13, 3) := id_Ask_tellThread_0 (27, .getfield 13, 3) (List.mem_of_getElem? (i := 12) rfl)
theorem d_Ask_tellThread_30 : decode prog_2_method_4_code 30 = .ok (.aload_n 0, 1) := id_Ask_tellThread_0 (30, .aload_n 0, 1) (List.mem_of_getElem? (i := 13) rfl)
theorem d_Ask_tellThread_31 : decode prog_2_method_4_code 31 = .ok (.getfield 29, 3) := id_Ask_tellThread_0 (31, .getfield 29, 3) (List.mem_of_getElem? (i := 14) rfl)
theorem d_Ask_tellThread_34 : decode prog_2_method_4_code 34 = .ok (.aload_n 0, 1) := id_Ask_tellThread_0 (34, .aload_n 0, 1) (List.mem_of_getElem? (i := 15) rfl)
theorem d_Ask_tellThread_35 : decode prog_2_method_4_code 35 = .ok (.getfield 28, 3) := id_Ask_tellThread_0 (35, .getfield 28, 3) (List.mem_of_getElem? (i := 16) rfl)
theorem d_Ask_tellThread_38 : decode prog_2_method_4_code 38 = .ok (.getfield 50, 3) := id_Ask_tellThread_0 (38, .getfield 50, 3) (List.mem_of_getElem? (i := 17) rfl)
theorem d_Ask_tellThread_41 : decode prog_2_method_4_code 41 = .ok (.iload_n 1, 1) := id_Ask_tellThread_0 (41, .iload_n 1, 1) (List.mem_of_getElem? (i := 18) rfl)
theorem d_Ask_tellThread_42 : decode prog_2_method_4_code 42 = .ok (.invokevirtual 65, 3) := id_Ask_tellThread_0 (42, .invokevirtual 65, 3) (List.mem_of_getElem? (i := 19) rfl)
theorem d_Ask_tellThread_45 : decode prog_2_method_4_code 45 = .ok (.return_, 1) := id_Ask_tellThread_0 (45, .return_, 1) (List.mem_of_getElem? (i := 20) rfl)
theorem wC_Ask_tellThread : Cond.code ⟨"WarpMill$Ask", "tellThread", "(I)V"⟩ prog_2_method_4_code 2 (none) ∈ lw_tb := mem_tb 657 (by decide +kernel) rfl
theorem cw_Ask_tellThread_Warp_put : cW mi_Ask_tellThread mi_Warp_put 3 := ⟨wC_Warp_put, wi_Warp, ⟨by decide, by decide, by decide +kernel⟩, by decide, by decide⟩
def f_Ask_tellThread (F : Nat) (x0 : Nat) (x1 : Int32) (h : Hp) : Option Hp := gd (hK h x0 = 11) <| rq h (hR h 643 x0) 10 fun a_1_2 => if (hI h 576 a_1_2) = (51 : Int32) then (some h) else (rq h (hR h 641 x0) 9 fun a_13 => pw (hR h 512 a_13) fun o_16 => pw (hR h 642 x0) fun o_20 => if o_16 = o_20 then (clv (f_Warp_put F a_13 (hI h 644 x0) (hI h 577 a_1_2) x1 h) fun h_42 => some h_42) else (some h))
set_option maxRecDepth 100000 in
set_option maxHeartbeats 4000000 in
theorem e_Ask_tellThread {G : Gl} (hw : gF G) {F : Nat} {h' : Hp} {x0 : Nat} {x1 : Int32} {h : Hp} (hf : f_Ask_tellThread F x0 x1 h = some h') : Ex G mi_Ask_tellThread [.ref x0, .int x1] h (pV h') := by
  unfold f_Ask_tellThread at hf
  refine Ex.of nmV (by decide) (Nat.le_of_ble_eq_true rfl) ?_
  show Go G mi_Ask_tellThread h _ h 0 [(0, .ref x0), (1, .int x1)] []
  refine g_aload_n d_Ask_tellThread_0 rfl ?_
  obtain ⟨k_1, hf⟩ := gd_s hf
  obtain ⟨a_1_2, e_1_2, k_1_2, hf⟩ := rq_s hf
  refine fgs_Ask_word lf_Ask_28 d_Ask_tellThread_1 k_1 e_1_2 ?_
  refine fg_Word_op lf_Ask_57 d_Ask_tellThread_4 k_1_2 ?_
  refine g_bipush (51) d_Ask_tellThread_7 (by decide) ?_
  refine g_icmp_eq 45 d_Ask_tellThread_9 (by decide) (fun c_9 => ?_) (fun c_9 => ?_)
  · have hf := ifp hf c_9
    exact Go.ret none trivial rfl d_Ask_tellThread_45 (pV_of hf)
  · have hf := ifn hf c_9
    refine g_aload_n d_Ask_tellThread_12 rfl ?_
    obtain ⟨a_13, e_13, k_13, hf⟩ := rq_s hf
    refine fgs_Ask_warp lf_Ask_13 d_Ask_tellThread_13 k_1 e_13 ?_
    obtain ⟨o_16, e_16, hf⟩ := pw_s hf
    refine fg_Warp_block lf_Ask_17 d_Ask_tellThread_16 k_13 ?_
    refine Go.vr e_16 ?_
    refine g_aload_n d_Ask_tellThread_19 rfl ?_
    obtain ⟨o_20, e_20, hf⟩ := pw_s hf
    refine fg_Ask_block lf_Ask_23 d_Ask_tellThread_20 k_1 ?_
    refine Go.vr e_20 ?_
    refine g_acmp_ne (rx := o_16) (ry := o_20) 45 d_Ask_tellThread_23 (by decide) (fun c_23 => ?_) (fun c_23 => ?_)
    · have hf := ifn hf c_23
      exact Go.ret none trivial rfl d_Ask_tellThread_45 (pV_of hf)
    · have hf := ifp hf c_23
      refine g_aload_n d_Ask_tellThread_26 rfl ?_
      refine fgs_Ask_warp lf_Ask_13 d_Ask_tellThread_27 k_1 e_13 ?_
      refine g_aload_n d_Ask_tellThread_30 rfl ?_
      refine fg_Ask_lane lf_Ask_29 d_Ask_tellThread_31 k_1 ?_
      refine g_aload_n d_Ask_tellThread_34 rfl ?_
      refine fgs_Ask_word lf_Ask_28 d_Ask_tellThread_35 k_1 e_1_2 ?_
      refine fg_Word_d lf_Ask_50 d_Ask_tellThread_38 k_1_2 ?_
      refine g_iload_n d_Ask_tellThread_41 rfl ?_
      obtain ⟨h_42, e_42, hf⟩ := clv_s hf
      refine g_callV (mz := mi_Warp_put) (e_Warp_put hw e_42) cw_Ask_tellThread_Warp_put lm_Ask_65 wI_Warp_put wV_Warp_put (ci := 8) k_13 (by decide) rfl rfl d_Ask_tellThread_42 rfl rfl (by first | exact Nat.le_of_ble_eq_true rfl | simp [cat_rf, Value.category]) (fun r1 h1 hp hro => ?_)
      obtain ⟨rfl, rfl⟩ := hp
      dsimp only [Option.toList_some, Option.toList_none, List.cons_append, List.nil_append]
      exact Go.ret none trivial rfl d_Ask_tellThread_45 (pV_of hf)
abbrev mi_Memory_perform : MI := (⟨"WarpMill$Memory", "perform", "(LWarpMill$Ask;)V"⟩, prog_5_method_8_code, 3, none, 2, 44)
def it_Memory_perform_0 : List (Nat × ClassFile.Instr × Nat) := [(0, .aload_n 0, 1), (1, .aload_n 1, 1), (2, .getfield 88, 3), (5, .invokevirtual 93, 3), (8, .ifCond .ne (4), 3), (11, .return_, 1), (12, .aload_n 0, 1), (13, .getfield 9, 3), (16, .aload_n 1, 1), (17, .getfield 88, 3), (20, .iaload, 1), (21, .istore_n 2, 1), (22, .aload_n 0, 1), (23, .getfield 9, 3), (26, .aload_n 1, 1), (27, .getfield 88, 3), (30, .aload_n 1, 1), (31, .iload_n 2, 1), (32, .invokevirtual 97, 3), (35, .iastore, 1), (36, .aload_n 1, 1), (37, .iload_n 2, 1), (38, .invokevirtual 100, 3), (41, .return_, 1)]
theorem id_Memory_perform_0 : ∀ q ∈ it_Memory_perform_0, decode prog_5_method_8_code q.1 = .ok q.2 := by decide +kernel
theorem d_Memory_perform_0 : decode prog_5_method_8_code 0 = .ok (.aload_n 0, 1) := id_Memory_perform_0 (0, .aload_n 0, 1) (List.mem_of_getElem? (i := 0) rfl)
theorem d_Memory_perform_1 : decode prog_5_method_8_code 1 = .ok (.aload_n 1, 1) := id_Memory_perform_0 (1, .aload_n 1, 1) (List.mem_of_getElem? (i := 1) rfl)
theorem d_Memory_perform_2 : decode prog_5_method_8_code 2 = .ok (.getfield 88, 3) := id_Memory_perform_0 (2, .getfield 88, 3) (List.mem_of_getElem? (i := 2) rfl)
theorem d_Memory_perform_5 : decode prog_5_method_8_code 5 = .ok (.invokevirtual 93, 3) := id_Memory_perform_0 (5, .invokevirtual 93, 3) (List.mem_of_getElem? (i := 3) rfl)
theorem d_Memory_perform_8 : decode prog_5_method_8_code 8 = .ok (.ifCond .ne (4), 3) := id_Memory_perform_0 (8, .ifCond .ne (4), 3) (List.mem_of_getElem? (i := 4) rfl)
theorem d_Memory_perform_11 : decode prog_5_method_8_code 11 = .ok (.return_, 1) := id_Memory_perform_0 (11, .return_, 1) (List.mem_of_getElem? (i := 5) rfl)
theorem d_Memory_perform_12 : decode prog_5_method_8_code 12 = .ok (.aload_n 0, 1) := id_Memory_perform_0 (12, .aload_n 0, 1) (List.mem_of_getElem? (i := 6) rfl)
theorem d_Memory_perform_13 : decode prog_5_method_8_code 13 = .ok (.getfield 9, 3) := id_Memory_perform_0 (13, .getfield 9, 3) (List.mem_of_getElem? (i := 7) rfl)
theorem d_Memory_perform_16 : decode prog_5_method_8_code 16 = .ok (.aload_n 1, 1) := id_Memory_perform_0 (16, .aload_n 1, 1) (List.mem_of_getElem? (i := 8) rfl)
theorem d_Memory_perform_17 : decode prog_5_method_8_code 17 = .ok (.getfield 88, 3) := id_Memory_perform_0 (17, .getfield 88, 3) (List.mem_of_getElem? (i := 9) rfl)
theorem d_Memory_perform_20 : decode prog_5_method_8_code 20 = .ok (.iaload, 1) := id_Memory_perform_0 (20, .iaload, 1) (List.mem_of_getElem? (i := 10) rfl)
theorem d_Memory_perform_21 : decode prog_5_method_8_code 21 = .ok (.istore_n 2, 1) := id_Memory_perform_0 (21, .istore_n 2, 1) (List.mem_of_getElem? (i := 11) rfl)
theorem d_Memory_perform_22 : decode prog_5_method_8_code 22 = .ok (.aload_n 0, 1) := id_Memory_perform_0 (22, .aload_n 0, 1) (List.mem_of_getElem? (i := 12) rfl)
theorem d_Memory_perform_23 : decode prog_5_method_8_code 23 = .ok (.getfield 9, 3) := id_Memory_perform_0 (23, .getfield 9, 3) (List.mem_of_getElem? (i := 13) rfl)
theorem d_Memory_perform_26 : decode prog_5_method_8_code 26 = .ok (.aload_n 1, 1) := id_Memory_perform_0 (26, .aload_n 1, 1) (List.mem_of_getElem? (i := 14) rfl)
theorem d_Memory_perform_27 : decode prog_5_method_8_code 27 = .ok (.getfield 88, 3) := id_Memory_perform_0 (27, .getfield 88, 3) (List.mem_of_getElem? (i := 15) rfl)
theorem d_Memory_perform_30 : decode prog_5_method_8_code 30 = .ok (.aload_n 1, 1) := id_Memory_perform_0 (30, .aload_n 1, 1) (List.mem_of_getElem? (i := 16) rfl)
theorem d_Memory_perform_31 : decode prog_5_method_8_code 31 = .ok (.iload_n 2, 1) := id_Memory_perform_0 (31, .iload_n 2, 1) (List.mem_of_getElem? (i := 17) rfl)
theorem d_Memory_perform_32 : decode prog_5_method_8_code 32 = .ok (.invokevirtual 97, 3) := id_Memory_perform_0 (32, .invokevirtual 97, 3) (List.mem_of_getElem? (i := 18) rfl)
theorem d_Memory_perform_35 : decode prog_5_method_8_code 35 = .ok (.iastore, 1) := id_Memory_perform_0 (35, .iastore, 1) (List.mem_of_getElem? (i := 19) rfl)
theorem d_Memory_perform_36 : decode prog_5_method_8_code 36 = .ok (.aload_n 1, 1) := id_Memory_perform_0 (36, .aload_n 1, 1) (List.mem_of_getElem? (i := 20) rfl)
theorem d_Memory_perform_37 : decode prog_5_method_8_code 37 = .ok (.iload_n 2, 1) := id_Memory_perform_0 (37, .iload_n 2, 1) (List.mem_of_getElem? (i := 21) rfl)
theorem d_Memory_perform_38 : decode prog_5_method_8_code 38 = .ok (.invokevirtual 100, 3) := id_Memory_perform_0 (38, .invokevirtual 100, 3) (List.mem_of_getElem? (i := 22) rfl)
theorem d_Memory_perform_41 : decode prog_5_method_8_code 41 = .ok (.return_, 1) := id_Memory_perform_0 (41, .return_, 1) (List.mem_of_getElem? (i := 23) rfl)
theorem wC_Memory_perform : Cond.code ⟨"WarpMill$Memory", "perform", "(LWarpMill$Ask;)V"⟩ prog_5_method_8_code 3 (none) ∈ lw_tb := mem_tb 645 (by decide +kernel) rfl
theorem cw_Memory_perform_Memory_has : cW mi_Memory_perform mi_Memory_has 1 := ⟨wC_Memory_has, wi_Memory, ⟨by decide, by decide, by decide +kernel⟩, by decide, by decide⟩
theorem cw_Memory_perform_Ask_leaves : cW mi_Memory_perform mi_Ask_leaves 1 := ⟨wC_Ask_leaves, wi_Ask, ⟨by decide, by decide, by decide +kernel⟩, by decide, by decide⟩
theorem cw_Memory_perform_Ask_tellThread : cW mi_Memory_perform mi_Ask_tellThread 1 := ⟨wC_Ask_tellThread, wi_Ask, ⟨by decide, by decide, by decide +kernel⟩, by decide, by decide⟩
def f_Memory_perform (F : Nat) (x0 : Nat) (x1 : Option Nat) (h : Hp) : Option Hp := rq h x1 11 fun a_2 => gd (hK h x0 = 3) <| cl (f_Memory_has F x0 (hI h 645 a_2) h) fun v_5_2 h_5_2 => if v_5_2 = 0 then (some h_5_2) else (gd (hK h_5_2 x0 = 3) <| rq h_5_2 (hR h_5_2 128 x0) 100 fun a_13_2 => gd (hK h_5_2 a_2 = 11) <| ix (hI h_5_2 645 a_2) (hN h_5_2 a_13_2) fun j_20 => cl (f_Ask_leaves F a_2 (hA h_5_2 a_13_2 j_20) h_5_2) fun v_32 h_32 => gd (hK h_32 a_13_2 = 100) <| ix (hI h_5_2 645 a_2) (hN h_32 a_13_2) fun j_35_2 => pw (sA h_32 a_13_2 j_35_2 v_32) fun h_35_3 => gd (hK h_35_3 a_2 = 11) <| clv (f_Ask_tellThread F a_2 (hA h_5_2 a_13_2 j_20) h_35_3) fun h_38_2 => some h_38_2)
set_option maxRecDepth 100000 in
set_option maxHeartbeats 4000000 in
theorem e_Memory_perform {G : Gl} (hw : gF G) {F : Nat} {h' : Hp} {x0 : Nat} {x1 : Option Nat} {h : Hp} (hf : f_Memory_perform F x0 x1 h = some h') : Ex G mi_Memory_perform [.ref x0, va_rf x1] h (pV h') := by
  unfold f_Memory_perform at hf
  refine Ex.of nmV (by decide) (by cases x1 <;> exact Nat.le_of_ble_eq_true rfl) ?_
  rw [show lv_args 0 [.ref x0, va_rf x1] = [(0, .ref x0), (1, va_rf x1)] from by cases x1 <;> rfl]
  show Go G mi_Memory_perform h _ h 0 [(0, .ref x0), (1, va_rf x1)] []
  refine g_aload_n d_Memory_perform_0 rfl ?_
  refine g_aload_nq (r := x1) d_Memory_perform_1 rfl ?_
  obtain ⟨a_2, rfl, k_2, hf⟩ := rq_s hf
  refine fg_Ask_address lf_Memory_88 d_Memory_perform_2 k_2 ?_
  obtain ⟨k_5, hf⟩ := gd_s hf
  obtain ⟨v_5_2, h_5_2, e_5_2, hf⟩ := cl_s hf
  refine g_callV (mz := mi_Memory_has) (e_Memory_has e_5_2) cw_Memory_perform_Memory_has lm_Memory_93 wI_Memory_has wV_Memory_has (ci := 2) k_5 (by decide) rfl rfl d_Memory_perform_5 rfl rfl (by first | exact Nat.le_of_ble_eq_true rfl | simp [cat_rf, Value.category]) (fun r1 h1 hp hro => ?_)
  obtain ⟨rfl, rfl⟩ := hp
  dsimp only [Option.toList_some, Option.toList_none, List.cons_append, List.nil_append]
  refine g_if_ne 12 d_Memory_perform_8 (by decide) (fun c_8 => ?_) (fun c_8 => ?_)
  · have hf := ifn hf c_8
    refine g_aload_n d_Memory_perform_12 rfl ?_
    obtain ⟨k_13, hf⟩ := gd_s hf
    obtain ⟨a_13_2, e_13_2, k_13_2, hf⟩ := rq_s hf
    refine fgs_Memory_ints lf_Memory_9 d_Memory_perform_13 k_13 e_13_2 ?_
    refine g_aload_n d_Memory_perform_16 rfl ?_
    obtain ⟨k_17, hf⟩ := gd_s hf
    refine fg_Ask_address lf_Memory_88 d_Memory_perform_17 k_17 ?_
    obtain ⟨i_20, hf⟩ := ix_s hf
    refine g_iald k_13_2 i_20 d_Memory_perform_20 ?_
    refine g_istore_n d_Memory_perform_21 (by decide) ?_
    show Go _ _ _ _ _ _ [(0, _), (1, _), (2, _)] _
    refine g_aload_n d_Memory_perform_22 rfl ?_
    refine fgs_Memory_ints lf_Memory_9 d_Memory_perform_23 k_13 e_13_2 ?_
    refine g_aload_n d_Memory_perform_26 rfl ?_
    refine fg_Ask_address lf_Memory_88 d_Memory_perform_27 k_17 ?_
    refine g_aload_n d_Memory_perform_30 rfl ?_
    refine g_iload_n d_Memory_perform_31 rfl ?_
    obtain ⟨v_32, h_32, e_32, hf⟩ := cl_s hf
    refine g_callV (mz := mi_Ask_leaves) (e_Ask_leaves e_32) cw_Memory_perform_Ask_leaves lm_Memory_97 wI_Ask_leaves wV_Ask_leaves (ci := 10) k_17 (by decide) rfl rfl d_Memory_perform_32 rfl rfl (by first | exact Nat.le_of_ble_eq_true rfl | simp [cat_rf, Value.category]) (fun r1 h1 hp hro => ?_)
    obtain ⟨rfl, rfl⟩ := hp
    dsimp only [Option.toList_some, Option.toList_none, List.cons_append, List.nil_append]
    obtain ⟨k_35, hf⟩ := gd_s hf
    obtain ⟨i_35_2, hf⟩ := ix_s hf
    refine g_iast hw k_35 i_35_2 d_Memory_perform_35 ?_
    have hf := pw_b hf
    refine g_aload_n d_Memory_perform_36 rfl ?_
    refine g_iload_n d_Memory_perform_37 rfl ?_
    obtain ⟨k_38, hf⟩ := gd_s hf
    obtain ⟨h_38_2, e_38_2, hf⟩ := clv_s hf
    refine g_callV (mz := mi_Ask_tellThread) (e_Ask_tellThread hw e_38_2) cw_Memory_perform_Ask_tellThread lm_Memory_100 wI_Ask_tellThread wV_Ask_tellThread (ci := 10) k_38 (by decide) rfl rfl d_Memory_perform_38 rfl rfl (by first | exact Nat.le_of_ble_eq_true rfl | simp [cat_rf, Value.category]) (fun r1 h1 hp hro => ?_)
    obtain ⟨rfl, rfl⟩ := hp
    dsimp only [Option.toList_some, Option.toList_none, List.cons_append, List.nil_append]
    exact Go.ret none trivial rfl d_Memory_perform_41 (pV_of hf)
  · have hf := ifp hf c_8
    exact Go.ret none trivial rfl d_Memory_perform_11 (pV_of hf)
abbrev mi_Pending_unlink : MI := (⟨"WarpMill$Pending", "unlink", "(ILWarpMill$Ask;LWarpMill$Ask;)V"⟩, prog_6_method_4_code, 4, none, 0, 0)
def it_Pending_unlink_0 : List (Nat × ClassFile.Instr × Nat) := [(0, .aload_n 2, 1), (1, .ifnonnull (16), 3), (4, .aload_n 0, 1), (5, .getfield 11, 3), (8, .iload_n 1, 1), (9, .aload_n 3, 1), (10, .getfield 23, 3), (13, .aastore, 1), (14, .goto (11), 3), (17, .aload_n 2, 1), (18, .aload_n 3, 1), (19, .getfield 23, 3), (22, .putfield 23, 3), (25, .aload_n 0, 1), (26, .getfield 15, 3), (29, .iload_n 1, 1), (30, .aaload, 1), (31, .aload_n 3, 1), (32, .if_acmp .ne (10), 3), (35, .aload_n 0, 1), (36, .getfield 15, 3), (39, .iload_n 1, 1), (40, .aload_n 2, 1), (41, .aastore, 1)]
theorem id_Pending_unlink_0 : ∀ q ∈ it_Pending_unlink_0, decode prog_6_method_4_code q.1 = .ok q.2 := by decide +kernel
theorem d_Pending_unlink_0 : decode prog_6_method_4_code 0 = .ok (.aload_n 2, 1) := id_Pending_unlink_0 (0, .aload_n 2, 1) (List.mem_of_getElem? (i := 0) rfl)
theorem d_Pending_unlink_1 : decode prog_6_method_4_code 1 = .ok (.ifnonnull (16), 3) := id_Pending_unlink_0 (1, .ifnonnull (16), 3) (List.mem_of_getElem? (i := 1) rfl)
theorem d_Pending_unlink_4 : decode prog_6_method_4_code 4 = .ok (.aload_n 0, 1) := id_Pending_unlink_0 (4, .aload_n 0, 1) (List.mem_of_getElem? (i := 2) rfl)
theorem d_Pending_unlink_5 : decode prog_6_method_4_code 5 = .ok (.getfield 11, 3) := id_Pending_unlink_0 (5, .getfield 11, 3) (List.mem_of_getElem? (i := 3) rfl)
theorem d_Pending_unlink_8 : decode prog_6_method_4_code 8 = .ok (.iload_n 1, 1) := id_Pending_unlink_0 (8, .iload_n 1, 1) (List.mem_of_getElem? (i := 4) rfl)
theorem d_Pending_unlink_9 : decode prog_6_method_4_code 9 = .ok (.aload_n 3, 1) := id_Pending_unlink_0 (9, .aload_n 3, 1) (List.mem_of_getElem? (i := 5) rfl)
theorem d_Pending_unlink_10 : decode prog_6_method_4_code 10 = .ok (.getfield 23, 3) := id_Pending_unlink_0 (10, .getfield 23, 3) (List.mem_of_getElem? (i := 6) rfl)
theorem d_Pending_unlink_13 : decode prog_6_method_4_code 13 = .ok (.aastore, 1) := id_Pending_unlink_0 (13, .aastore, 1) (List.mem_of_getElem? (i := 7) rfl)
theorem d_Pending_unlink_14 : decode prog_6_method_4_code 14 = .ok (.goto (11), 3) := id_Pending_unlink_0 (14, .goto (11), 3) (List.mem_of_getElem? (i := 8) rfl)
theorem d_Pending_unlink_17 : decode prog_6_method_4_code 17 = .ok (.aload_n 2, 1) := id_Pending_unlink_0 (17, .aload_n 2, 1) (List.mem_of_getElem? (i := 9) rfl)
theorem d_Pending_unlink_18 : decode prog_6_method_4_code 18 = .ok (.aload_n 3, 1) := id_Pending_unlink_0 (18, .aload_n 3, 1) (List.mem_of_getElem? (i := 10) rfl)
theorem d_Pending_unlink_19 : decode prog_6_method_4_code 19 = .ok (.getfield 23, 3) := id_Pending_unlink_0 (19, .getfield 23, 3) (List.mem_of_getElem? (i := 11) rfl)
theorem d_Pending_unlink_22 : decode prog_6_method_4_code 22 = .ok (.putfield 23, 3) := id_Pending_unlink_0 (22, .putfield 23, 3) (List.mem_of_getElem? (i := 12) rfl)
theorem d_Pending_unlink_25 : decode prog_6_method_4_code 25 = .ok (.aload_n 0, 1) := id_Pending_unlink_0 (25, .aload_n 0, 1) (List.mem_of_getElem? (i := 13) rfl)
theorem d_Pending_unlink_26 : decode prog_6_method_4_code 26 = .ok (.getfield 15, 3) := id_Pending_unlink_0 (26, .getfield 15, 3) (List.mem_of_getElem? (i := 14) rfl)
theorem d_Pending_unlink_29 : decode prog_6_method_4_code 29 = .ok (.iload_n 1, 1) := id_Pending_unlink_0 (29, .iload_n 1, 1) (List.mem_of_getElem? (i := 15) rfl)
theorem d_Pending_unlink_30 : decode prog_6_method_4_code 30 = .ok (.aaload, 1) := id_Pending_unlink_0 (30, .aaload, 1) (List.mem_of_getElem? (i := 16) rfl)
theorem d_Pending_unlink_31 : decode prog_6_method_4_code 31 = .ok (.aload_n 3, 1) := id_Pending_unlink_0 (31, .aload_n 3, 1) (List.mem_of_getElem? (i := 17) rfl)
theorem d_Pending_unlink_32 : decode prog_6_method_4_code 32 = .ok (.if_acmp .ne (10), 3) := id_Pending_unlink_0 (32, .if_acmp .ne (10), 3) (List.mem_of_getElem? (i := 18) rfl)
theorem d_Pending_unlink_35 : decode prog_6_method_4_code 35 = .ok (.aload_n 0, 1) := id_Pending_unlink_0 (35, .aload_n 0, 1) (List.mem_of_getElem? (i := 19) rfl)
theorem d_Pending_unlink_36 : decode prog_6_method_4_code 36 = .ok (.getfield 15, 3) := id_Pending_unlink_0 (36, .getfield 15, 3) (List.mem_of_getElem? (i := 20) rfl)
theorem d_Pending_unlink_39 : decode prog_6_method_4_code 39 = .ok (.iload_n 1, 1) := id_Pending_unlink_0 (39, .iload_n 1, 1) (List.mem_of_getElem? (i := 21) rfl)
theorem d_Pending_unlink_40 : decode prog_6_method_4_code 40 = .ok (.aload_n 2, 1) := id_Pending_unlink_0 (40, .aload_n 2, 1) (List.mem_of_getElem? (i := 22) rfl)
theorem d_Pending_unlink_41 : decode prog_6_method_4_code 41 = .ok (.aastore, 1) := id_Pending_unlink_0 (41, .aastore, 1) (List.mem_of_getElem? (i := 23) rfl)
def it_Pending_unlink_1 : List (Nat × ClassFile.Instr × Nat) := [(42, .aload_n 3, 1), (43, .aload_n 0, 1), (44, .getfield 18, 3), (47, .putfield 23, 3), (50, .aload_n 0, 1), (51, .aload_n 3, 1), (52, .putfield 18, 3), (55, .aload_n 0, 1), (56, .dup, 1), (57, .getfield 30, 3), (60, .iconst 1, 1), (61, .isub, 1), (62, .putfield 30, 3), (65, .return_, 1)]
theorem id_Pending_unlink_1 : ∀ q ∈ it_Pending_unlink_1, decode prog_6_method_4_code q.1 = .ok q.2 := by decide +kernel
theorem d_Pending_unlink_42 : decode prog_6_method_4_code 42 = .ok (.aload_n 3, 1) := id_Pending_unlink_1 (42, .aload_n 3, 1) (List.mem_of_getElem? (i := 0) rfl)
theorem d_Pending_unlink_43 : decode prog_6_method_4_code 43 = .ok (.aload_n 0, 1) := id_Pending_unlink_1 (43, .aload_n 0, 1) (List.mem_of_getElem? (i := 1) rfl)
theorem d_Pending_unlink_44 : decode prog_6_method_4_code 44 = .ok (.getfield 18, 3) := id_Pending_unlink_1 (44, .getfield 18, 3) (List.mem_of_getElem? (i := 2) rfl)
theorem d_Pending_unlink_47 : decode prog_6_method_4_code 47 = .ok (.putfield 23, 3) := id_Pending_unlink_1 (47, .putfield 23, 3) (List.mem_of_getElem? (i := 3) rfl)
theorem d_Pending_unlink_50 : decode prog_6_method_4_code 50 = .ok (.aload_n 0, 1) := id_Pending_unlink_1 (50, .aload_n 0, 1) (List.mem_of_getElem? (i := 4) rfl)
theorem d_Pending_unlink_51 : decode prog_6_method_4_code 51 = .ok (.aload_n 3, 1) := id_Pending_unlink_1 (51, .aload_n 3, 1) (List.mem_of_getElem? (i := 5) rfl)
theorem d_Pending_unlink_52 : decode prog_6_method_4_code 52 = .ok (.putfield 18, 3) := id_Pending_unlink_1 (52, .putfield 18, 3) (List.mem_of_getElem? (i := 6) rfl)
theorem d_Pending_unlink_55 : decode prog_6_method_4_code 55 = .ok (.aload_n 0, 1) := id_Pending_unlink_1 (55, .aload_n 0, 1) (List.mem_of_getElem? (i := 7) rfl)
theorem d_Pending_unlink_56 : decode prog_6_method_4_code 56 = .ok (.dup, 1) := id_Pending_unlink_1 (56, .dup, 1) (List.mem_of_getElem? (i := 8) rfl)
theorem d_Pending_unlink_57 : decode prog_6_method_4_code 57 = .ok (.getfield 30, 3) := id_Pending_unlink_1 (57, .getfield 30, 3) (List.mem_of_getElem? (i := 9) rfl)
theorem d_Pending_unlink_60 : decode prog_6_method_4_code 60 = .ok (.iconst 1, 1) := id_Pending_unlink_1 (60, .iconst 1, 1) (List.mem_of_getElem? (i := 10) rfl)
theorem d_Pending_unlink_61 : decode prog_6_method_4_code 61 = .ok (.isub, 1) := id_Pending_unlink_1 (61, .isub, 1) (List.mem_of_getElem? (i := 11) rfl)
theorem d_Pending_unlink_62 : decode prog_6_method_4_code 62 = .ok (.putfield 30, 3) := id_Pending_unlink_1 (62, .putfield 30, 3) (List.mem_of_getElem? (i := 12) rfl)
theorem d_Pending_unlink_65 : decode prog_6_method_4_code 65 = .ok (.return_, 1) := id_Pending_unlink_1 (65, .return_, 1) (List.mem_of_getElem? (i := 13) rfl)
theorem wC_Pending_unlink : Cond.code ⟨"WarpMill$Pending", "unlink", "(ILWarpMill$Ask;LWarpMill$Ask;)V"⟩ prog_6_method_4_code 4 (none) ∈ lw_tb := mem_tb 665 (by decide +kernel) rfl
def b_Pending_unlink_42 (F : Nat) (x0 : Nat) (x3 : Nat) (h : Hp) : Option Hp := gd (hK h x0 = 5) <| pw (hR h 258 x0) fun o_44_2 => gd (hK h x3 = 11) <| pw (sR h 640 x3 o_44_2) fun h_47_2 => pw (sR h_47_2 258 x0 (some x3)) fun h_52 => pw (sI h_52 259 x0 ((hI h_52 259 x0) - (1 : Int32))) fun h_62 => some h_62
set_option maxRecDepth 100000 in
set_option maxHeartbeats 4000000 in
theorem e_Pending_unlink_42 {G : Gl} (hw : gF G) {h0 : Hp} {F : Nat} {h' : Hp}   {x0 : Nat} {x3 : Nat} {h : Hp} (hf : b_Pending_unlink_42 F x0 x3 h = some h') : Go G mi_Pending_unlink h0 (pV h') h 42 [(0, .ref x0), (3, .ref x3)] [] := by
  unfold b_Pending_unlink_42 at hf
  refine g_aload_n d_Pending_unlink_42 rfl ?_
  refine g_aload_n d_Pending_unlink_43 rfl ?_
  obtain ⟨k_44, hf⟩ := gd_s hf
  obtain ⟨o_44_2, e_44_2, hf⟩ := pw_s hf
  refine fg_Pending_spare lf_Pending_18 d_Pending_unlink_44 k_44 ?_
  refine Go.vr e_44_2 ?_
  obtain ⟨k_47, hf⟩ := gd_s hf
  refine fp_Ask_next hw o_44_2 rfl lf_Pending_23 d_Pending_unlink_47 k_47 ?_
  have hf := pw_b hf
  refine g_aload_n d_Pending_unlink_50 rfl ?_
  refine g_aload_n d_Pending_unlink_51 rfl ?_
  refine fp_Pending_spare hw (some x3) rfl lf_Pending_18 d_Pending_unlink_52 (kksR k_44) ?_
  have hf := pw_b hf
  refine g_aload_n d_Pending_unlink_55 rfl ?_
  refine g_dup (by first | rfl | exact cat_rf _) d_Pending_unlink_56 ?_
  refine fg_Pending_count lf_Pending_30 d_Pending_unlink_57 (kksR (kksR k_44)) ?_
  refine g_iconst 1 d_Pending_unlink_60 (by decide) ?_
  refine g_isub d_Pending_unlink_61 ?_
  refine fp_Pending_count hw lf_Pending_30 d_Pending_unlink_62 (kksR (kksR k_44)) ?_
  have hf := pw_b hf
  exact Go.ret none trivial rfl d_Pending_unlink_65 (pV_of hf)
def b_Pending_unlink_25 (F : Nat) (x0 : Nat) (x1 : Int32) (x2 : Option Nat) (x3 : Nat) (h : Hp) : Option Hp := gd (hK h x0 = 5) <| rq h (hR h 257 x0) 124 fun a_26_2 => ix x1 (hN h a_26_2) fun j_30 => pw (hQ h a_26_2 j_30) fun o_30_2 => if o_30_2 = (some x3) then (aq h x2 11 <| ix x1 (hN h a_26_2) fun j_41_2 => pw (sQ h a_26_2 j_41_2 x2) fun h_41_3 => b_Pending_unlink_42 F x0 x3 h_41_3) else (b_Pending_unlink_42 F x0 x3 h)
set_option maxRecDepth 100000 in
set_option maxHeartbeats 4000000 in
theorem e_Pending_unlink_25 {G : Gl} (hw : gF G) {h0 : Hp} {F : Nat} {h' : Hp}   {x0 : Nat} {x1 : Int32} {x2 : Option Nat} {x3 : Nat} {h : Hp} (hf : b_Pending_unlink_25 F x0 x1 x2 x3 h = some h') : Go G mi_Pending_unlink h0 (pV h') h 25 [(0, .ref x0), (1, .int x1), (2, va_rf x2), (3, .ref x3)] [] := by
  unfold b_Pending_unlink_25 at hf
  refine g_aload_n d_Pending_unlink_25 rfl ?_
  obtain ⟨k_26, hf⟩ := gd_s hf
  obtain ⟨a_26_2, e_26_2, k_26_2, hf⟩ := rq_s hf
  refine fgs_Pending_last lf_Pending_15 d_Pending_unlink_26 k_26 e_26_2 ?_
  refine g_iload_n d_Pending_unlink_29 rfl ?_
  obtain ⟨i_30, hf⟩ := ix_s hf
  refine g_aald k_26_2 (by decide) rfl rfl i_30 d_Pending_unlink_30 ?_
  obtain ⟨o_30_2, e_30_2, hf⟩ := pw_s hf
  refine Go.vr e_30_2 ?_
  refine g_aload_n d_Pending_unlink_31 rfl ?_
  refine g_acmp_ne (rx := o_30_2) (ry := (some x3)) 42 d_Pending_unlink_32 (by decide) (fun c_32 => ?_) (fun c_32 => ?_)
  · have hf := ifn hf c_32
    refine Go.locals [0, 3] rfl ?_
    have key := e_Pending_unlink_42 hw (G := G) (h0 := h0)  hf
    exact key
  · have hf := ifp hf c_32
    refine g_aload_n d_Pending_unlink_35 rfl ?_
    refine fgs_Pending_last lf_Pending_15 d_Pending_unlink_36 k_26 e_26_2 ?_
    refine g_iload_n d_Pending_unlink_39 rfl ?_
    refine g_aload_nq (r := x2) d_Pending_unlink_40 rfl ?_
    obtain ⟨k_41, hf⟩ := aq_s hf
    obtain ⟨i_41_2, hf⟩ := ix_s hf
    refine g_aastq hw (r := x2) (ci := 10) k_26_2 (by decide) rfl k_41 (by decide) rfl i_41_2 d_Pending_unlink_41 ?_
    have hf := pw_b hf
    refine Go.locals [0, 3] rfl ?_
    have key := e_Pending_unlink_42 hw (G := G) (h0 := h0)  hf
    exact key
def f_Pending_unlink (F : Nat) (x0 : Nat) (x1 : Int32) (x2 : Option Nat) (x3 : Option Nat) (h : Hp) : Option Hp := nu x2 (gd (hK h x0 = 5) <| rq h (hR h 256 x0) 124 fun a_5_2 => rq h x3 11 fun a_10 => pw (hR h 640 a_10) fun o_10_2 => aq h o_10_2 11 <| ix x1 (hN h a_5_2) fun j_13_2 => pw (sQ h a_5_2 j_13_2 o_10_2) fun h_13_3 => b_Pending_unlink_25 F x0 x1 none a_10 h_13_3) fun a_1 => (rq h x3 11 fun a_19 => pw (hR h 640 a_19) fun o_19_2 => gd (hK h a_1 = 11) <| pw (sR h 640 a_1 o_19_2) fun h_22_2 => b_Pending_unlink_25 F x0 x1 (some a_1) a_19 h_22_2)
set_option maxRecDepth 100000 in
set_option maxHeartbeats 4000000 in
theorem e_Pending_unlink {G : Gl} (hw : gF G) {F : Nat} {h' : Hp} {x0 : Nat} {x1 : Int32} {x2 : Option Nat} {x3 : Option Nat} {h : Hp} (hf : f_Pending_unlink F x0 x1 x2 x3 h = some h') : Ex G mi_Pending_unlink [.ref x0, .int x1, va_rf x2, va_rf x3] h (pV h') := by
  unfold f_Pending_unlink at hf
  refine Ex.of nmV (by decide) (by cases x2 <;> cases x3 <;> exact Nat.le_of_ble_eq_true rfl) ?_
  rw [show lv_args 0 [.ref x0, .int x1, va_rf x2, va_rf x3] = [(0, .ref x0), (1, .int x1), (2, va_rf x2), (3, va_rf x3)] from by cases x2 <;> cases x3 <;> rfl]
  show Go G mi_Pending_unlink h _ h 0 [(0, .ref x0), (1, .int x1), (2, va_rf x2), (3, va_rf x3)] []
  refine g_aload_nq (r := x2) d_Pending_unlink_0 rfl ?_
  refine g_ifnonnull (r := x2) 17 d_Pending_unlink_1 (by decide) (fun a_1 c_1 => ?_) (fun c_1 => ?_)
  · subst c_1
    have hf := nu_s hf
    refine g_aload_n d_Pending_unlink_17 rfl ?_
    refine g_aload_nq (r := x3) d_Pending_unlink_18 rfl ?_
    obtain ⟨a_19, rfl, k_19, hf⟩ := rq_s hf
    obtain ⟨o_19_2, e_19_2, hf⟩ := pw_s hf
    refine fg_Ask_next lf_Pending_23 d_Pending_unlink_19 k_19 ?_
    refine Go.vr e_19_2 ?_
    obtain ⟨k_22, hf⟩ := gd_s hf
    refine fp_Ask_next hw o_19_2 rfl lf_Pending_23 d_Pending_unlink_22 k_22 ?_
    have hf := pw_b hf
    have key := e_Pending_unlink_25 hw (G := G) (h0 := h)  hf
    exact key
  · subst c_1
    have hf := nu_n hf
    refine g_aload_n d_Pending_unlink_4 rfl ?_
    obtain ⟨k_5, hf⟩ := gd_s hf
    obtain ⟨a_5_2, e_5_2, k_5_2, hf⟩ := rq_s hf
    refine fgs_Pending_first lf_Pending_11 d_Pending_unlink_5 k_5 e_5_2 ?_
    refine g_iload_n d_Pending_unlink_8 rfl ?_
    refine g_aload_nq (r := x3) d_Pending_unlink_9 rfl ?_
    obtain ⟨a_10, rfl, k_10, hf⟩ := rq_s hf
    obtain ⟨o_10_2, e_10_2, hf⟩ := pw_s hf
    refine fg_Ask_next lf_Pending_23 d_Pending_unlink_10 k_10 ?_
    refine Go.vr e_10_2 ?_
    obtain ⟨k_13, hf⟩ := aq_s hf
    obtain ⟨i_13_2, hf⟩ := ix_s hf
    refine g_aastq hw (r := o_10_2) (ci := 10) k_5_2 (by decide) rfl k_13 (by decide) rfl i_13_2 d_Pending_unlink_13 ?_
    have hf := pw_b hf
    refine g_goto 25 d_Pending_unlink_14 (by decide) ?_
    have key := e_Pending_unlink_25 hw (G := G) (h0 := h)  hf
    exact key
abbrev mi_Pending_finish : MI := (⟨"WarpMill$Pending", "finish", "(ILWarpMill$Memory;)V"⟩, prog_6_method_3_code, 7, none, 3, 66)
def it_Pending_finish_0 : List (Nat × ClassFile.Instr × Nat) := [(0, .iload_n 1, 1), (1, .bipush (63), 2), (3, .iand, 1), (4, .istore_n 3, 1), (5, .aconst_null, 1), (6, .astore 4, 2), (8, .aload_n 0, 1), (9, .getfield 11, 3), (12, .iload_n 3, 1), (13, .aaload, 1), (14, .astore 5, 2), (16, .aload 5, 2), (18, .ifnull (48), 3), (21, .aload 5, 2), (23, .getfield 23, 3), (26, .astore 6, 2), (28, .aload 5, 2), (30, .getfield 34, 3), (33, .iload_n 1, 1), (34, .if_icmp .ne (21), 3), (37, .aload_n 2, 1), (38, .aload 5, 2), (40, .invokevirtual 37, 3), (43, .aload_n 0, 1)]
theorem id_Pending_finish_0 : ∀ q ∈ it_Pending_finish_0, decode prog_6_method_3_code q.1 = .ok q.2 := by decide +kernel
theorem d_Pending_finish_0 : decode prog_6_method_3_code 0 = .ok (.iload_n 1, 1) := id_Pending_finish_0 (0, .iload_n 1, 1) (List.mem_of_getElem? (i := 0) rfl)
theorem d_Pending_finish_1 : decode prog_6_method_3_code 1 = .ok (.bipush (63), 2) := id_Pending_finish_0 (1, .bipush (63), 2) (List.mem_of_getElem? (i := 1) rfl)
theorem d_Pending_finish_3 : decode prog_6_method_3_code 3 = .ok (.iand, 1) := id_Pending_finish_0 (3, .iand, 1) (List.mem_of_getElem? (i := 2) rfl)
theorem d_Pending_finish_4 : decode prog_6_method_3_code 4 = .ok (.istore_n 3, 1) := id_Pending_finish_0 (4, .istore_n 3, 1) (List.mem_of_getElem? (i := 3) rfl)
theorem d_Pending_finish_5 : decode prog_6_method_3_code 5 = .ok (.aconst_null, 1) := id_Pending_finish_0 (5, .aconst_null, 1) (List.mem_of_getElem? (i := 4) rfl)
theorem d_Pending_finish_6 : decode prog_6_method_3_code 6 = .ok (.astore 4, 2) := id_Pending_finish_0 (6, .astore 4, 2) (List.mem_of_getElem? (i := 5) rfl)
theorem d_Pending_finish_8 : decode prog_6_method_3_code 8 = .ok (.aload_n 0, 1) := id_Pending_finish_0 (8, .aload_n 0, 1) (List.mem_of_getElem? (i := 6) rfl)
theorem d_Pending_finish_9 : decode prog_6_method_3_code 9 = .ok (.getfield 11, 3) := id_Pending_finish_0 (9, .getfield 11, 3) (List.mem_of_getElem? (i := 7) rfl)
theorem d_Pending_finish_12 : decode prog_6_method_3_code 12 = .ok (.iload_n 3, 1) := id_Pending_finish_0 (12, .iload_n 3, 1) (List.mem_of_getElem? (i := 8) rfl)
theorem d_Pending_finish_13 : decode prog_6_method_3_code 13 = .ok (.aaload, 1) := id_Pending_finish_0 (13, .aaload, 1) (List.mem_of_getElem? (i := 9) rfl)
theorem d_Pending_finish_14 : decode prog_6_method_3_code 14 = .ok (.astore 5, 2) := id_Pending_finish_0 (14, .astore 5, 2) (List.mem_of_getElem? (i := 10) rfl)
theorem d_Pending_finish_16 : decode prog_6_method_3_code 16 = .ok (.aload 5, 2) := id_Pending_finish_0 (16, .aload 5, 2) (List.mem_of_getElem? (i := 11) rfl)
theorem d_Pending_finish_18 : decode prog_6_method_3_code 18 = .ok (.ifnull (48), 3) := id_Pending_finish_0 (18, .ifnull (48), 3) (List.mem_of_getElem? (i := 12) rfl)
theorem d_Pending_finish_21 : decode prog_6_method_3_code 21 = .ok (.aload 5, 2) := id_Pending_finish_0 (21, .aload 5, 2) (List.mem_of_getElem? (i := 13) rfl)
theorem d_Pending_finish_23 : decode prog_6_method_3_code 23 = .ok (.getfield 23, 3) := id_Pending_finish_0 (23, .getfield 23, 3) (List.mem_of_getElem? (i := 14) rfl)
theorem d_Pending_finish_26 : decode prog_6_method_3_code 26 = .ok (.astore 6, 2) := id_Pending_finish_0 (26, .astore 6, 2) (List.mem_of_getElem? (i := 15) rfl)
theorem d_Pending_finish_28 : decode prog_6_method_3_code 28 = .ok (.aload 5, 2) := id_Pending_finish_0 (28, .aload 5, 2) (List.mem_of_getElem? (i := 16) rfl)
theorem d_Pending_finish_30 : decode prog_6_method_3_code 30 = .ok (.getfield 34, 3) := id_Pending_finish_0 (30, .getfield 34, 3) (List.mem_of_getElem? (i := 17) rfl)
theorem d_Pending_finish_33 : decode prog_6_method_3_code 33 = .ok (.iload_n 1, 1) := id_Pending_finish_0 (33, .iload_n 1, 1) (List.mem_of_getElem? (i := 18) rfl)
theorem d_Pending_finish_34 : decode prog_6_method_3_code 34 = .ok (.if_icmp .ne (21), 3) := id_Pending_finish_0 (34, .if_icmp .ne (21), 3) (List.mem_of_getElem? (i := 19) rfl)
theorem d_Pending_finish_37 : decode prog_6_method_3_code 37 = .ok (.aload_n 2, 1) := id_Pending_finish_0 (37, .aload_n 2, 1) (List.mem_of_getElem? (i := 20) rfl)
theorem d_Pending_finish_38 : decode prog_6_method_3_code 38 = .ok (.aload 5, 2) := id_Pending_finish_0 (38, .aload 5, 2) (List.mem_of_getElem? (i := 21) rfl)
theorem d_Pending_finish_40 : decode prog_6_method_3_code 40 = .ok (.invokevirtual 37, 3) := id_Pending_finish_0 (40, .invokevirtual 37, 3) (List.mem_of_getElem? (i := 22) rfl)
theorem d_Pending_finish_43 : decode prog_6_method_3_code 43 = .ok (.aload_n 0, 1) := id_Pending_finish_0 (43, .aload_n 0, 1) (List.mem_of_getElem? (i := 23) rfl)
def it_Pending_finish_1 : List (Nat × ClassFile.Instr × Nat) := [(44, .iload_n 3, 1), (45, .aload 4, 2), (47, .aload 5, 2), (49, .invokevirtual 43, 3), (52, .goto (7), 3), (55, .aload 5, 2), (57, .astore 4, 2), (59, .aload 6, 2), (61, .astore 5, 2), (63, .goto (-47), 3), (66, .return_, 1)]
theorem id_Pending_finish_1 : ∀ q ∈ it_Pending_finish_1, decode prog_6_method_3_code q.1 = .ok q.2 := by decide +kernel
theorem d_Pending_finish_44 : decode prog_6_method_3_code 44 = .ok (.iload_n 3, 1) := id_Pending_finish_1 (44, .iload_n 3, 1) (List.mem_of_getElem? (i := 0) rfl)
theorem d_Pending_finish_45 : decode prog_6_method_3_code 45 = .ok (.aload 4, 2) := id_Pending_finish_1 (45, .aload 4, 2) (List.mem_of_getElem? (i := 1) rfl)
theorem d_Pending_finish_47 : decode prog_6_method_3_code 47 = .ok (.aload 5, 2) := id_Pending_finish_1 (47, .aload 5, 2) (List.mem_of_getElem? (i := 2) rfl)
theorem d_Pending_finish_49 : decode prog_6_method_3_code 49 = .ok (.invokevirtual 43, 3) := id_Pending_finish_1 (49, .invokevirtual 43, 3) (List.mem_of_getElem? (i := 3) rfl)
theorem d_Pending_finish_52 : decode prog_6_method_3_code 52 = .ok (.goto (7), 3) := id_Pending_finish_1 (52, .goto (7), 3) (List.mem_of_getElem? (i := 4) rfl)
theorem d_Pending_finish_55 : decode prog_6_method_3_code 55 = .ok (.aload 5, 2) := id_Pending_finish_1 (55, .aload 5, 2) (List.mem_of_getElem? (i := 5) rfl)
theorem d_Pending_finish_57 : decode prog_6_method_3_code 57 = .ok (.astore 4, 2) := id_Pending_finish_1 (57, .astore 4, 2) (List.mem_of_getElem? (i := 6) rfl)
theorem d_Pending_finish_59 : decode prog_6_method_3_code 59 = .ok (.aload 6, 2) := id_Pending_finish_1 (59, .aload 6, 2) (List.mem_of_getElem? (i := 7) rfl)
theorem d_Pending_finish_61 : decode prog_6_method_3_code 61 = .ok (.astore 5, 2) := id_Pending_finish_1 (61, .astore 5, 2) (List.mem_of_getElem? (i := 8) rfl)
theorem d_Pending_finish_63 : decode prog_6_method_3_code 63 = .ok (.goto (-47), 3) := id_Pending_finish_1 (63, .goto (-47), 3) (List.mem_of_getElem? (i := 9) rfl)
theorem d_Pending_finish_66 : decode prog_6_method_3_code 66 = .ok (.return_, 1) := id_Pending_finish_1 (66, .return_, 1) (List.mem_of_getElem? (i := 10) rfl)
theorem wC_Pending_finish : Cond.code ⟨"WarpMill$Pending", "finish", "(ILWarpMill$Memory;)V"⟩ prog_6_method_3_code 7 (none) ∈ lw_tb := mem_tb 641 (by decide +kernel) rfl
theorem cw_Pending_finish_Memory_perform : cW mi_Pending_finish mi_Memory_perform 1 := ⟨wC_Memory_perform, wi_Memory, ⟨by decide, by decide, by decide +kernel⟩, by decide, by decide⟩
theorem cw_Pending_finish_Pending_unlink : cW mi_Pending_finish mi_Pending_unlink 3 := ⟨wC_Pending_unlink, wi_Pending, ⟨by decide, by decide, by decide +kernel⟩, by decide, by decide⟩
def b_Pending_finish_16 (F : Nat) : Nat → Nat → Int32 → Option Nat → Int32 → Option Nat → Option Nat → Hp → Option Hp
  | 0 => fun _ _ _ _ _ _ _ => none
  | n + 1 => fun x0 x1 x2 x3 x4 x5 h => nu x5 (some h) fun a_18 => (gd (hK h a_18 = 11) <| pw (hR h 640 a_18) fun o_23_2 => if (hI h 648 a_18) = x1 then (rq h x2 3 fun a_40 => clv (f_Memory_perform F a_40 (some a_18) h) fun h_40_2 => gd (hK h_40_2 x0 = 5) <| clv (f_Pending_unlink F x0 x3 x4 (some a_18) h_40_2) fun h_49_2 => b_Pending_finish_16 F n x0 x1 (some a_40) x3 x4 o_23_2 h_49_2) else (b_Pending_finish_16 F n x0 x1 x2 x3 (some a_18) o_23_2 h))
set_option maxRecDepth 100000 in
set_option maxHeartbeats 4000000 in
theorem e_Pending_finish_16 {G : Gl} (hw : gF G) {h0 : Hp} {F : Nat} {h' : Hp}   : ∀ (n : Nat) (x0 : Nat) (x1 : Int32) (x2 : Option Nat) (x3 : Int32) (x4 : Option Nat) (x5 : Option Nat) (h : Hp), b_Pending_finish_16 F n x0 x1 x2 x3 x4 x5 h = some h' → Go G mi_Pending_finish h0 (pV h') h 16 [(0, .ref x0), (1, .int x1), (2, va_rf x2), (3, .int x3), (4, va_rf x4), (5, va_rf x5)] [] := by
  intro n
  induction n with
  | zero =>
    intro _ _ _ _ _ _ _ hf
    exact nm_s hf
  | succ n ih =>
    intro x0 x1 x2 x3 x4 x5 h hf
    unfold b_Pending_finish_16 at hf
    refine g_aloadq (r := x5) d_Pending_finish_16 rfl ?_
    refine g_ifnull (r := x5) 66 d_Pending_finish_18 (by decide) (fun c_18 => ?_) (fun a_18 c_18 => ?_)
    · subst c_18
      have hf := nu_n hf
      exact Go.ret none trivial rfl d_Pending_finish_66 (pV_of hf)
    · subst c_18
      have hf := nu_s hf
      refine g_aload d_Pending_finish_21 rfl ?_
      obtain ⟨k_23, hf⟩ := gd_s hf
      obtain ⟨o_23_2, e_23_2, hf⟩ := pw_s hf
      refine fg_Ask_next lf_Pending_23 d_Pending_finish_23 k_23 ?_
      refine Go.vr e_23_2 ?_
      refine g_astoreq (r := o_23_2) d_Pending_finish_26 (by decide) ?_
      show Go _ _ _ _ _ _ [(0, _), (1, _), (2, _), (3, _), (4, _), (5, _), (6, _)] _
      refine g_aload d_Pending_finish_28 rfl ?_
      refine fg_Ask_done lf_Pending_34 d_Pending_finish_30 k_23 ?_
      refine g_iload_n d_Pending_finish_33 rfl ?_
      refine g_icmp_ne 55 d_Pending_finish_34 (by decide) (fun c_34 => ?_) (fun c_34 => ?_)
      · have hf := ifn hf c_34
        refine g_aload d_Pending_finish_55 rfl ?_
        refine g_astore d_Pending_finish_57 (by decide) ?_
        show Go _ _ _ _ _ _ [(0, _), (1, _), (2, _), (3, _), (4, _), (5, _), (6, _)] _
        refine g_aloadq (r := o_23_2) d_Pending_finish_59 rfl ?_
        refine g_astoreq (r := o_23_2) d_Pending_finish_61 (by decide) ?_
        show Go _ _ _ _ _ _ [(0, _), (1, _), (2, _), (3, _), (4, _), (5, _), (6, _)] _
        refine g_goto 16 d_Pending_finish_63 (by decide) ?_
        refine Go.locals [0, 1, 2, 3, 4, 5] rfl ?_
        exact ih _ _ _ _ _ _ _ hf
      · have hf := ifp hf c_34
        refine g_aload_nq (r := x2) d_Pending_finish_37 rfl ?_
        refine g_aload d_Pending_finish_38 rfl ?_
        obtain ⟨a_40, rfl, k_40, hf⟩ := rq_s hf
        obtain ⟨h_40_2, e_40_2, hf⟩ := clv_s hf
        refine g_callV (mz := mi_Memory_perform) (e_Memory_perform hw e_40_2) cw_Pending_finish_Memory_perform lm_Pending_37 wI_Memory_perform wV_Memory_perform (ci := 2) k_40 (by decide) rfl rfl d_Pending_finish_40 rfl rfl (by first | exact Nat.le_of_ble_eq_true rfl | simp [cat_rf, Value.category]) (fun r1 h1 hp hro => ?_)
        obtain ⟨rfl, rfl⟩ := hp
        dsimp only [Option.toList_some, Option.toList_none, List.cons_append, List.nil_append]
        refine g_aload_n d_Pending_finish_43 rfl ?_
        refine g_iload_n d_Pending_finish_44 rfl ?_
        refine g_aloadq (r := x4) d_Pending_finish_45 rfl ?_
        refine g_aload d_Pending_finish_47 rfl ?_
        obtain ⟨k_49, hf⟩ := gd_s hf
        obtain ⟨h_49_2, e_49_2, hf⟩ := clv_s hf
        refine g_callV (mz := mi_Pending_unlink) (e_Pending_unlink hw e_49_2) cw_Pending_finish_Pending_unlink lm_Pending_43 wI_Pending_unlink wV_Pending_unlink (ci := 4) k_49 (by decide) rfl rfl d_Pending_finish_49 rfl rfl (by first | exact Nat.le_of_ble_eq_true rfl | simp [cat_rf, Value.category]) (fun r1 h1 hp hro => ?_)
        obtain ⟨rfl, rfl⟩ := hp
        dsimp only [Option.toList_some, Option.toList_none, List.cons_append, List.nil_append]
        refine g_goto 59 d_Pending_finish_52 (by decide) ?_
        refine g_aloadq (r := o_23_2) d_Pending_finish_59 rfl ?_
        refine g_astoreq (r := o_23_2) d_Pending_finish_61 (by decide) ?_
        simp only [lset1, lset2, List.filter_cons, cat_rf]
        show Go _ _ _ _ _ _ [(0, _), (1, _), (2, _), (3, _), (4, _), (5, _), (6, _)] _
        refine g_goto 16 d_Pending_finish_63 (by decide) ?_
        refine Go.locals [0, 1, 2, 3, 4, 5] rfl ?_
        exact ih _ _ _ _ _ _ _ hf
def f_Pending_finish (F : Nat) (x0 : Nat) (x1 : Int32) (x2 : Option Nat) (h : Hp) : Option Hp := gd (hK h x0 = 5) <| rq h (hR h 256 x0) 124 fun a_9_2 => ix (x1 &&& (63 : Int32)) (hN h a_9_2) fun j_13 => pw (hQ h a_9_2 j_13) fun o_13_2 => b_Pending_finish_16 F F x0 x1 x2 (x1 &&& (63 : Int32)) none o_13_2 h
set_option maxRecDepth 100000 in
set_option maxHeartbeats 4000000 in
theorem e_Pending_finish {G : Gl} (hw : gF G) {F : Nat} {h' : Hp} {x0 : Nat} {x1 : Int32} {x2 : Option Nat} {h : Hp} (hf : f_Pending_finish F x0 x1 x2 h = some h') : Ex G mi_Pending_finish [.ref x0, .int x1, va_rf x2] h (pV h') := by
  unfold f_Pending_finish at hf
  refine Ex.of nmV (by decide) (by cases x2 <;> exact Nat.le_of_ble_eq_true rfl) ?_
  rw [show lv_args 0 [.ref x0, .int x1, va_rf x2] = [(0, .ref x0), (1, .int x1), (2, va_rf x2)] from by cases x2 <;> rfl]
  show Go G mi_Pending_finish h _ h 0 [(0, .ref x0), (1, .int x1), (2, va_rf x2)] []
  refine g_iload_n d_Pending_finish_0 rfl ?_
  refine g_bipush (63) d_Pending_finish_1 (by decide) ?_
  refine g_iand d_Pending_finish_3 ?_
  refine g_istore_n d_Pending_finish_4 (by decide) ?_
  simp only [lset1, lset2, List.filter_cons, cat_rf]
  show Go _ _ _ _ _ _ [(0, _), (1, _), (2, _), (3, _)] _
  refine g_null d_Pending_finish_5 ?_
  refine g_astoreN d_Pending_finish_6 (by decide) ?_
  show Go _ _ _ _ _ _ [(0, _), (1, _), (2, _), (3, _), (4, _)] _
  refine g_aload_n d_Pending_finish_8 rfl ?_
  obtain ⟨k_9, hf⟩ := gd_s hf
  obtain ⟨a_9_2, e_9_2, k_9_2, hf⟩ := rq_s hf
  refine fgs_Pending_first lf_Pending_11 d_Pending_finish_9 k_9 e_9_2 ?_
  refine g_iload_n d_Pending_finish_12 rfl ?_
  obtain ⟨i_13, hf⟩ := ix_s hf
  refine g_aald k_9_2 (by decide) rfl rfl i_13 d_Pending_finish_13 ?_
  obtain ⟨o_13_2, e_13_2, hf⟩ := pw_s hf
  refine Go.vr e_13_2 ?_
  refine g_astoreq (r := o_13_2) d_Pending_finish_14 (by decide) ?_
  simp only [lset1, lset2, List.filter_cons, cat_rf]
  show Go _ _ _ _ _ _ [(0, _), (1, _), (2, _), (3, _), (4, _), (5, _)] _
  have key := e_Pending_finish_16 hw (G := G) (h0 := h)  F _ _ _ _ _ _ _ hf
  exact key
abbrev mi_Memory_finish : MI := (⟨"WarpMill$Memory", "finish", "(I)V"⟩, prog_5_method_7_code, 2, none, 4, 92)
def it_Memory_finish_0 : List (Nat × ClassFile.Instr × Nat) := [(0, .aload_n 0, 1), (1, .getfield 25, 3), (4, .getfield 81, 3), (7, .ifCond .le (12), 3), (10, .aload_n 0, 1), (11, .getfield 25, 3), (14, .iload_n 1, 1), (15, .aload_n 0, 1), (16, .invokevirtual 84, 3), (19, .return_, 1)]
theorem id_Memory_finish_0 : ∀ q ∈ it_Memory_finish_0, decode prog_5_method_7_code q.1 = .ok q.2 := by decide +kernel
theorem d_Memory_finish_0 : decode prog_5_method_7_code 0 = .ok (.aload_n 0, 1) := id_Memory_finish_0 (0, .aload_n 0, 1) (List.mem_of_getElem? (i := 0) rfl)
theorem d_Memory_finish_1 : decode prog_5_method_7_code 1 = .ok (.getfield 25, 3) := id_Memory_finish_0 (1, .getfield 25, 3) (List.mem_of_getElem? (i := 1) rfl)
theorem d_Memory_finish_4 : decode prog_5_method_7_code 4 = .ok (.getfield 81, 3) := id_Memory_finish_0 (4, .getfield 81, 3) (List.mem_of_getElem? (i := 2) rfl)
theorem d_Memory_finish_7 : decode prog_5_method_7_code 7 = .ok (.ifCond .le (12), 3) := id_Memory_finish_0 (7, .ifCond .le (12), 3) (List.mem_of_getElem? (i := 3) rfl)
theorem d_Memory_finish_10 : decode prog_5_method_7_code 10 = .ok (.aload_n 0, 1) := id_Memory_finish_0 (10, .aload_n 0, 1) (List.mem_of_getElem? (i := 4) rfl)
theorem d_Memory_finish_11 : decode prog_5_method_7_code 11 = .ok (.getfield 25, 3) := id_Memory_finish_0 (11, .getfield 25, 3) (List.mem_of_getElem? (i := 5) rfl)
theorem d_Memory_finish_14 : decode prog_5_method_7_code 14 = .ok (.iload_n 1, 1) := id_Memory_finish_0 (14, .iload_n 1, 1) (List.mem_of_getElem? (i := 6) rfl)
theorem d_Memory_finish_15 : decode prog_5_method_7_code 15 = .ok (.aload_n 0, 1) := id_Memory_finish_0 (15, .aload_n 0, 1) (List.mem_of_getElem? (i := 7) rfl)
theorem d_Memory_finish_16 : decode prog_5_method_7_code 16 = .ok (.invokevirtual 84, 3) := id_Memory_finish_0 (16, .invokevirtual 84, 3) (List.mem_of_getElem? (i := 8) rfl)
theorem d_Memory_finish_19 : decode prog_5_method_7_code 19 = .ok (.return_, 1) := id_Memory_finish_0 (19, .return_, 1) (List.mem_of_getElem? (i := 9) rfl)
theorem wC_Memory_finish : Cond.code ⟨"WarpMill$Memory", "finish", "(I)V"⟩ prog_5_method_7_code 2 (none) ∈ lw_tb := mem_tb 637 (by decide +kernel) rfl
theorem cw_Memory_finish_Pending_finish : cW mi_Memory_finish mi_Pending_finish 2 := ⟨wC_Pending_finish, wi_Pending, ⟨by decide, by decide, by decide +kernel⟩, by decide, by decide⟩
def f_Memory_finish (F : Nat) (x0 : Nat) (x1 : Int32) (h : Hp) : Option Hp := gd (hK h x0 = 3) <| rq h (hR h 130 x0) 5 fun a_1_2 => if (hI h 259 a_1_2) ≤ 0 then (some h) else (clv (f_Pending_finish F a_1_2 x1 (some x0) h) fun h_16 => some h_16)
set_option maxRecDepth 100000 in
set_option maxHeartbeats 4000000 in
theorem e_Memory_finish {G : Gl} (hw : gF G) {F : Nat} {h' : Hp} {x0 : Nat} {x1 : Int32} {h : Hp} (hf : f_Memory_finish F x0 x1 h = some h') : Ex G mi_Memory_finish [.ref x0, .int x1] h (pV h') := by
  unfold f_Memory_finish at hf
  refine Ex.of nmV (by decide) (Nat.le_of_ble_eq_true rfl) ?_
  show Go G mi_Memory_finish h _ h 0 [(0, .ref x0), (1, .int x1)] []
  refine g_aload_n d_Memory_finish_0 rfl ?_
  obtain ⟨k_1, hf⟩ := gd_s hf
  obtain ⟨a_1_2, e_1_2, k_1_2, hf⟩ := rq_s hf
  refine fgs_Memory_pending lf_Memory_25 d_Memory_finish_1 k_1 e_1_2 ?_
  refine fg_Pending_count lf_Memory_81 d_Memory_finish_4 k_1_2 ?_
  refine g_if_le 19 d_Memory_finish_7 (by decide) (fun c_7 => ?_) (fun c_7 => ?_)
  · have hf := ifp hf c_7
    exact Go.ret none trivial rfl d_Memory_finish_19 (pV_of hf)
  · have hf := ifn hf c_7
    refine g_aload_n d_Memory_finish_10 rfl ?_
    refine fgs_Memory_pending lf_Memory_25 d_Memory_finish_11 k_1 e_1_2 ?_
    refine g_iload_n d_Memory_finish_14 rfl ?_
    refine g_aload_n d_Memory_finish_15 rfl ?_
    obtain ⟨h_16, e_16, hf⟩ := clv_s hf
    refine g_callV (mz := mi_Pending_finish) (e_Pending_finish hw e_16) cw_Memory_finish_Pending_finish lm_Memory_84 wI_Pending_finish wV_Pending_finish (ci := 4) k_1_2 (by decide) rfl rfl d_Memory_finish_16 rfl rfl (by first | exact Nat.le_of_ble_eq_true rfl | simp [cat_rf, Value.category]) (fun r1 h1 hp hro => ?_)
    obtain ⟨rfl, rfl⟩ := hp
    dsimp only [Option.toList_some, Option.toList_none, List.cons_append, List.nil_append]
    exact Go.ret none trivial rfl d_Memory_finish_19 (pV_of hf)
abbrev mi_WM_warpsOfABlock : MI := (⟨"WarpMill", "warpsOfABlock", "()I"⟩, prog_1_method_20_code, 2, some .int, 1, 21)
def it_WM_warpsOfABlock_0 : List (Nat × ClassFile.Instr × Nat) := [(0, .iconst 1, 1), (1, .aload_n 0, 1), (2, .getfield 10, 3), (5, .getfield 93, 3), (8, .invokestatic 237, 3), (11, .istore_n 1, 1), (12, .aload_n 0, 1), (13, .getfield 32, 3), (16, .getfield 227, 3), (19, .iload_n 1, 1), (20, .iadd, 1), (21, .iconst 1, 1), (22, .isub, 1), (23, .iload_n 1, 1), (24, .idiv, 1), (25, .ireturn, 1)]
theorem id_WM_warpsOfABlock_0 : ∀ q ∈ it_WM_warpsOfABlock_0, decode prog_1_method_20_code q.1 = .ok q.2 := by decide +kernel
theorem d_WM_warpsOfABlock_0 : decode prog_1_method_20_code 0 = .ok (.iconst 1, 1) := id_WM_warpsOfABlock_0 (0, .iconst 1, 1) (List.mem_of_getElem? (i := 0) rfl)
theorem d_WM_warpsOfABlock_1 : decode prog_1_method_20_code 1 = .ok (.aload_n 0, 1) := id_WM_warpsOfABlock_0 (1, .aload_n 0, 1) (List.mem_of_getElem? (i := 1) rfl)
theorem d_WM_warpsOfABlock_2 : decode prog_1_method_20_code 2 = .ok (.getfield 10, 3) := id_WM_warpsOfABlock_0 (2, .getfield 10, 3) (List.mem_of_getElem? (i := 2) rfl)
theorem d_WM_warpsOfABlock_5 : decode prog_1_method_20_code 5 = .ok (.getfield 93, 3) := id_WM_warpsOfABlock_0 (5, .getfield 93, 3) (List.mem_of_getElem? (i := 3) rfl)
theorem d_WM_warpsOfABlock_8 : decode prog_1_method_20_code 8 = .ok (.invokestatic 237, 3) := id_WM_warpsOfABlock_0 (8, .invokestatic 237, 3) (List.mem_of_getElem? (i := 4) rfl)
theorem d_WM_warpsOfABlock_11 : decode prog_1_method_20_code 11 = .ok (.istore_n 1, 1) := id_WM_warpsOfABlock_0 (11, .istore_n 1, 1) (List.mem_of_getElem? (i := 5) rfl)
theorem d_WM_warpsOfABlock_12 : decode prog_1_method_20_code 12 = .ok (.aload_n 0, 1) := id_WM_warpsOfABlock_0 (12, .aload_n 0, 1) (List.mem_of_getElem? (i := 6) rfl)
theorem d_WM_warpsOfABlock_13 : decode prog_1_method_20_code 13 = .ok (.getfield 32, 3) := id_WM_warpsOfABlock_0 (13, .getfield 32, 3) (List.mem_of_getElem? (i := 7) rfl)
theorem d_WM_warpsOfABlock_16 : decode prog_1_method_20_code 16 = .ok (.getfield 227, 3) := id_WM_warpsOfABlock_0 (16, .getfield 227, 3) (List.mem_of_getElem? (i := 8) rfl)
theorem d_WM_warpsOfABlock_19 : decode prog_1_method_20_code 19 = .ok (.iload_n 1, 1) := id_WM_warpsOfABlock_0 (19, .iload_n 1, 1) (List.mem_of_getElem? (i := 9) rfl)
theorem d_WM_warpsOfABlock_20 : decode prog_1_method_20_code 20 = .ok (.iadd, 1) := id_WM_warpsOfABlock_0 (20, .iadd, 1) (List.mem_of_getElem? (i := 10) rfl)
theorem d_WM_warpsOfABlock_21 : decode prog_1_method_20_code 21 = .ok (.iconst 1, 1) := id_WM_warpsOfABlock_0 (21, .iconst 1, 1) (List.mem_of_getElem? (i := 11) rfl)
theorem d_WM_warpsOfABlock_22 : decode prog_1_method_20_code 22 = .ok (.isub, 1) := id_WM_warpsOfABlock_0 (22, .isub, 1) (List.mem_of_getElem? (i := 12) rfl)
theorem d_WM_warpsOfABlock_23 : decode prog_1_method_20_code 23 = .ok (.iload_n 1, 1) := id_WM_warpsOfABlock_0 (23, .iload_n 1, 1) (List.mem_of_getElem? (i := 13) rfl)
theorem d_WM_warpsOfABlock_24 : decode prog_1_method_20_code 24 = .ok (.idiv, 1) := id_WM_warpsOfABlock_0 (24, .idiv, 1) (List.mem_of_getElem? (i := 14) rfl)
theorem d_WM_warpsOfABlock_25 : decode prog_1_method_20_code 25 = .ok (.ireturn, 1) := id_WM_warpsOfABlock_0 (25, .ireturn, 1) (List.mem_of_getElem? (i := 15) rfl)
theorem wC_WM_warpsOfABlock : Cond.code ⟨"WarpMill", "warpsOfABlock", "()I"⟩ prog_1_method_20_code 2 (some .int) ∈ lw_tb := mem_tb 673 (by decide +kernel) rfl
def f_WM_warpsOfABlock (F : Nat) (x0 : Nat) (h : Hp) : Option (Int32 × Hp) := gd (hK h x0 = 1) <| rq h (hR h 0 x0) 2 fun a_2_2 => rq h (hR h 3 x0) 6 fun a_13 => gd (¬ (if (1 : Int32) < (hI h 64 a_2_2) then (hI h 64 a_2_2) else (1 : Int32)) = 0) <| some (((((hI h 322 a_13) + (if (1 : Int32) < (hI h 64 a_2_2) then (hI h 64 a_2_2) else (1 : Int32))) - (1 : Int32)) / (if (1 : Int32) < (hI h 64 a_2_2) then (hI h 64 a_2_2) else (1 : Int32))), h)
set_option maxRecDepth 100000 in
set_option maxHeartbeats 4000000 in
theorem e_WM_warpsOfABlock {G : Gl} {F : Nat} {r : Int32} {h' : Hp} {x0 : Nat} {h : Hp} (hf : f_WM_warpsOfABlock F x0 h = some (r, h')) : Ex G mi_WM_warpsOfABlock [.ref x0] h (pI r h') := by
  unfold f_WM_warpsOfABlock at hf
  refine Ex.of nmI (by decide) (Nat.le_of_ble_eq_true rfl) ?_
  show Go G mi_WM_warpsOfABlock h _ h 0 [(0, .ref x0)] []
  refine g_iconst 1 d_WM_warpsOfABlock_0 (by decide) ?_
  refine g_aload_n d_WM_warpsOfABlock_1 rfl ?_
  obtain ⟨k_2, hf⟩ := gd_s hf
  obtain ⟨a_2_2, e_2_2, k_2_2, hf⟩ := rq_s hf
  refine fgs_WM_sizes lf_WM_10 d_WM_warpsOfABlock_2 k_2 e_2_2 ?_
  refine fg_Sizes_lanes lf_WM_93 d_WM_warpsOfABlock_5 k_2_2 ?_
  refine g_mmax lm_WM_237 wS_Math_max wi_Math wC_Math_max (Nat.le_of_ble_eq_true rfl) (Nat.le_of_ble_eq_true rfl) d_WM_warpsOfABlock_8 ?_
  refine g_istore_n d_WM_warpsOfABlock_11 (by decide) ?_
  show Go _ _ _ _ _ _ [(0, _), (1, _)] _
  refine g_aload_n d_WM_warpsOfABlock_12 rfl ?_
  obtain ⟨a_13, e_13, k_13, hf⟩ := rq_s hf
  refine fgs_WM_tally lf_WM_32 d_WM_warpsOfABlock_13 k_2 e_13 ?_
  refine fg_Tally_threads lf_WM_227 d_WM_warpsOfABlock_16 k_13 ?_
  refine g_iload_n d_WM_warpsOfABlock_19 rfl ?_
  refine g_iadd d_WM_warpsOfABlock_20 ?_
  refine g_iconst 1 d_WM_warpsOfABlock_21 (by decide) ?_
  refine g_isub d_WM_warpsOfABlock_22 ?_
  refine g_iload_n d_WM_warpsOfABlock_23 rfl ?_
  obtain ⟨z_24, hf⟩ := gd_s hf
  refine g_idiv d_WM_warpsOfABlock_24 z_24 ?_
  exact Go.ret (some _) (rOk_i _) rfl d_WM_warpsOfABlock_25 (pI_of hf)
abbrev mi_WM_firstWithRoom : MI := (⟨"WarpMill", "firstWithRoom", "(I)LWarpMill$Unit;"⟩, prog_1_method_21_code, 3, some (.object "WarpMill$Unit"), 0, 0)
def it_WM_firstWithRoom_0 : List (Nat × ClassFile.Instr × Nat) := [(0, .iconst 0, 1), (1, .istore_n 2, 1), (2, .iload_n 2, 1), (3, .aload_n 0, 1), (4, .getfield 10, 3), (7, .getfield 180, 3), (10, .if_icmp .ge (29), 3), (13, .aload_n 0, 1), (14, .getfield 38, 3), (17, .iload_n 2, 1), (18, .aaload, 1), (19, .getfield 242, 3), (22, .iload_n 1, 1), (23, .if_icmp .lt (10), 3), (26, .aload_n 0, 1), (27, .getfield 38, 3), (30, .iload_n 2, 1), (31, .aaload, 1), (32, .areturn, 1), (33, .iinc 2 (1), 3), (36, .goto (-34), 3), (39, .aconst_null, 1), (40, .areturn, 1)]
theorem id_WM_firstWithRoom_0 : ∀ q ∈ it_WM_firstWithRoom_0, decode prog_1_method_21_code q.1 = .ok q.2 := by decide +kernel
theorem d_WM_firstWithRoom_0 : decode prog_1_method_21_code 0 = .ok (.iconst 0, 1) := id_WM_firstWithRoom_0 (0, .iconst 0, 1) (List.mem_of_getElem? (i := 0) rfl)
theorem d_WM_firstWithRoom_1 : decode prog_1_method_21_code 1 = .ok (.istore_n 2, 1) := id_WM_firstWithRoom_0 (1, .istore_n 2, 1) (List.mem_of_getElem? (i := 1) rfl)
theorem d_WM_firstWithRoom_2 : decode prog_1_method_21_code 2 = .ok (.iload_n 2, 1) := id_WM_firstWithRoom_0 (2, .iload_n 2, 1) (List.mem_of_getElem? (i := 2) rfl)
theorem d_WM_firstWithRoom_3 : decode prog_1_method_21_code 3 = .ok (.aload_n 0, 1) := id_WM_firstWithRoom_0 (3, .aload_n 0, 1) (List.mem_of_getElem? (i := 3) rfl)
theorem d_WM_firstWithRoom_4 : decode prog_1_method_21_code 4 = .ok (.getfield 10, 3) := id_WM_firstWithRoom_0 (4, .getfield 10, 3) (List.mem_of_getElem? (i := 4) rfl)
theorem d_WM_firstWithRoom_7 : decode prog_1_method_21_code 7 = .ok (.getfield 180, 3) := id_WM_firstWithRoom_0 (7, .getfield 180, 3) (List.mem_of_getElem? (i := 5) rfl)
theorem d_WM_firstWithRoom_10 : decode prog_1_method_21_code 10 = .ok (.if_icmp .ge (29), 3) := id_WM_firstWithRoom_0 (10, .if_icmp .ge (29), 3) (List.mem_of_getElem? (i := 6) rfl)
theorem d_WM_firstWithRoom_13 : decode prog_1_method_21_code 13 = .ok (.aload_n 0, 1) := id_WM_firstWithRoom_0 (13, .aload_n 0, 1) (List.mem_of_getElem? (i := 7) rfl)
theorem d_WM_firstWithRoom_14 : decode prog_1_method_21_code 14 = .ok (.getfield 38, 3) := id_WM_firstWithRoom_0 (14, .getfield 38, 3) (List.mem_of_getElem? (i := 8) rfl)
theorem d_WM_firstWithRoom_17 : decode prog_1_method_21_code 17 = .ok (.iload_n 2, 1) := id_WM_firstWithRoom_0 (17, .iload_n 2, 1) (List.mem_of_getElem? (i := 9) rfl)
theorem d_WM_firstWithRoom_18 : decode prog_1_method_21_code 18 = .ok (.aaload, 1) := id_WM_firstWithRoom_0 (18, .aaload, 1) (List.mem_of_getElem? (i := 10) rfl)
theorem d_WM_firstWithRoom_19 : decode prog_1_method_21_code 19 = .ok (.getfield 242, 3) := id_WM_firstWithRoom_0 (19, .getfield 242, 3) (List.mem_of_getElem? (i := 11) rfl)
theorem d_WM_firstWithRoom_22 : decode prog_1_method_21_code 22 = .ok (.iload_n 1, 1) := id_WM_firstWithRoom_0 (22, .iload_n 1, 1) (List.mem_of_getElem? (i := 12) rfl)
theorem d_WM_firstWithRoom_23 : decode prog_1_method_21_code 23 = .ok (.if_icmp .lt (10), 3) := id_WM_firstWithRoom_0 (23, .if_icmp .lt (10), 3) (List.mem_of_getElem? (i := 13) rfl)
theorem d_WM_firstWithRoom_26 : decode prog_1_method_21_code 26 = .ok (.aload_n 0, 1) := id_WM_firstWithRoom_0 (26, .aload_n 0, 1) (List.mem_of_getElem? (i := 14) rfl)
theorem d_WM_firstWithRoom_27 : decode prog_1_method_21_code 27 = .ok (.getfield 38, 3) := id_WM_firstWithRoom_0 (27, .getfield 38, 3) (List.mem_of_getElem? (i := 15) rfl)
theorem d_WM_firstWithRoom_30 : decode prog_1_method_21_code 30 = .ok (.iload_n 2, 1) := id_WM_firstWithRoom_0 (30, .iload_n 2, 1) (List.mem_of_getElem? (i := 16) rfl)
theorem d_WM_firstWithRoom_31 : decode prog_1_method_21_code 31 = .ok (.aaload, 1) := id_WM_firstWithRoom_0 (31, .aaload, 1) (List.mem_of_getElem? (i := 17) rfl)
theorem d_WM_firstWithRoom_32 : decode prog_1_method_21_code 32 = .ok (.areturn, 1) := id_WM_firstWithRoom_0 (32, .areturn, 1) (List.mem_of_getElem? (i := 18) rfl)
theorem d_WM_firstWithRoom_33 : decode prog_1_method_21_code 33 = .ok (.iinc 2 (1), 3) := id_WM_firstWithRoom_0 (33, .iinc 2 (1), 3) (List.mem_of_getElem? (i := 19) rfl)
theorem d_WM_firstWithRoom_36 : decode prog_1_method_21_code 36 = .ok (.goto (-34), 3) := id_WM_firstWithRoom_0 (36, .goto (-34), 3) (List.mem_of_getElem? (i := 20) rfl)
theorem d_WM_firstWithRoom_39 : decode prog_1_method_21_code 39 = .ok (.aconst_null, 1) := id_WM_firstWithRoom_0 (39, .aconst_null, 1) (List.mem_of_getElem? (i := 21) rfl)
theorem d_WM_firstWithRoom_40 : decode prog_1_method_21_code 40 = .ok (.areturn, 1) := id_WM_firstWithRoom_0 (40, .areturn, 1) (List.mem_of_getElem? (i := 22) rfl)
theorem wC_WM_firstWithRoom : Cond.code ⟨"WarpMill", "firstWithRoom", "(I)LWarpMill$Unit;"⟩ prog_1_method_21_code 3 (some (.object "WarpMill$Unit")) ∈ lw_tb := mem_tb 678 (by decide +kernel) rfl
def b_WM_firstWithRoom_2 (F : Nat) : Nat → Nat → Int32 → Int32 → Hp → Option (Option Nat × Hp)
  | 0 => fun _ _ _ _ => none
  | n + 1 => fun x0 x1 x2 h => gd (hK h x0 = 1) <| rq h (hR h 0 x0) 2 fun a_4_2 => if (hI h 66 a_4_2) ≤ x2 then (some (none, h)) else (rq h (hR h 4 x0) 121 fun a_14 => ix x2 (hN h a_14) fun j_18 => rq h (hQ h a_14 j_18) 7 fun a_18_2 => if (hI h 387 a_18_2) < x1 then (b_WM_firstWithRoom_2 F n x0 x1 (x2 + 1) h) else (ix x2 (hN h a_14) fun j_31 => pw (hQ h a_14 j_31) fun o_31_2 => some (o_31_2, h)))
set_option maxRecDepth 100000 in
set_option maxHeartbeats 4000000 in
theorem e_WM_firstWithRoom_2 {G : Gl} {h0 : Hp} {F : Nat} {r : Option Nat} {h' : Hp}   : ∀ (n : Nat) (x0 : Nat) (x1 : Int32) (x2 : Int32) (h : Hp), b_WM_firstWithRoom_2 F n x0 x1 x2 h = some (r, h') → Go G mi_WM_firstWithRoom h0 (pR r h') h 2 [(0, .ref x0), (1, .int x1), (2, .int x2)] [] := by
  intro n
  induction n with
  | zero =>
    intro _ _ _ _ hf
    exact nm_s hf
  | succ n ih =>
    intro x0 x1 x2 h hf
    unfold b_WM_firstWithRoom_2 at hf
    refine g_iload_n d_WM_firstWithRoom_2 rfl ?_
    refine g_aload_n d_WM_firstWithRoom_3 rfl ?_
    obtain ⟨k_4, hf⟩ := gd_s hf
    obtain ⟨a_4_2, e_4_2, k_4_2, hf⟩ := rq_s hf
    refine fgs_WM_sizes lf_WM_10 d_WM_firstWithRoom_4 k_4 e_4_2 ?_
    refine fg_Sizes_units lf_WM_180 d_WM_firstWithRoom_7 k_4_2 ?_
    refine g_icmp_ge 39 d_WM_firstWithRoom_10 (by decide) (fun c_10 => ?_) (fun c_10 => ?_)
    · have hf := ifp hf c_10
      refine g_null d_WM_firstWithRoom_39 ?_
      exact Go.ret (some .null) rOk_n rfl d_WM_firstWithRoom_40 (pR_of hf)
    · have hf := ifn hf c_10
      refine g_aload_n d_WM_firstWithRoom_13 rfl ?_
      obtain ⟨a_14, e_14, k_14, hf⟩ := rq_s hf
      refine fgs_WM_units lf_WM_38 d_WM_firstWithRoom_14 k_4 e_14 ?_
      refine g_iload_n d_WM_firstWithRoom_17 rfl ?_
      obtain ⟨i_18, hf⟩ := ix_s hf
      refine g_aald k_14 (by decide) rfl rfl i_18 d_WM_firstWithRoom_18 ?_
      obtain ⟨a_18_2, e_18_2, k_18_2, hf⟩ := rq_s hf
      refine Go.vs e_18_2 ?_
      refine fg_Unit_free lf_WM_242 d_WM_firstWithRoom_19 k_18_2 ?_
      refine g_iload_n d_WM_firstWithRoom_22 rfl ?_
      refine g_icmp_lt 33 d_WM_firstWithRoom_23 (by decide) (fun c_23 => ?_) (fun c_23 => ?_)
      · have hf := ifp hf c_23
        refine g_iinc (_ + 1) d_WM_firstWithRoom_33 rfl (by rfl) (by decide) ?_
        show Go _ _ _ _ _ _ [(0, _), (1, _), (2, _)] _
        refine g_goto 2 d_WM_firstWithRoom_36 (by decide) ?_
        exact ih _ _ _ _ hf
      · have hf := ifn hf c_23
        refine g_aload_n d_WM_firstWithRoom_26 rfl ?_
        refine fgs_WM_units lf_WM_38 d_WM_firstWithRoom_27 k_4 e_14 ?_
        refine g_iload_n d_WM_firstWithRoom_30 rfl ?_
        obtain ⟨i_31, hf⟩ := ix_s hf
        refine g_aald k_14 (by decide) rfl rfl i_31 d_WM_firstWithRoom_31 ?_
        obtain ⟨o_31_2, e_31_2, hf⟩ := pw_s hf
        refine Go.vr e_31_2 ?_
        rcases o_31_2 with _ | a_r
        · exact Go.ret (some .null) rOk_n rfl d_WM_firstWithRoom_32 (pR_of hf)
        · exact Go.ret (some (.ref _)) (rOk_r _) rfl d_WM_firstWithRoom_32 (pR_of hf)
def f_WM_firstWithRoom (F : Nat) (x0 : Nat) (x1 : Int32) (h : Hp) : Option (Option Nat × Hp) := b_WM_firstWithRoom_2 F F x0 x1 (0 : Int32) h
set_option maxRecDepth 100000 in
set_option maxHeartbeats 4000000 in
theorem e_WM_firstWithRoom {G : Gl} {F : Nat} {r : Option Nat} {h' : Hp} {x0 : Nat} {x1 : Int32} {h : Hp} (hf : f_WM_firstWithRoom F x0 x1 h = some (r, h')) : Ex G mi_WM_firstWithRoom [.ref x0, .int x1] h (pR r h') := by
  unfold f_WM_firstWithRoom at hf
  refine Ex.of nmR (by decide) (Nat.le_of_ble_eq_true rfl) ?_
  show Go G mi_WM_firstWithRoom h _ h 0 [(0, .ref x0), (1, .int x1)] []
  refine g_iconst 0 d_WM_firstWithRoom_0 (by decide) ?_
  refine g_istore_n d_WM_firstWithRoom_1 (by decide) ?_
  show Go _ _ _ _ _ _ [(0, _), (1, _), (2, _)] _
  have key := e_WM_firstWithRoom_2 (G := G) (h0 := h)  F _ _ _ _ hf
  exact key
abbrev mi_Block_init : MI := (⟨"WarpMill$Block", "<init>", "(I)V"⟩, prog_3_method_1_code, 2, none, 1, 21)
def it_Block_init_0 : List (Nat × ClassFile.Instr × Nat) := [(0, .aload_n 0, 1), (1, .invokespecial 3, 3), (4, .aload_n 0, 1), (5, .bipush (64), 2), (7, .newarray .int, 2), (9, .putfield 9, 3), (12, .aload_n 0, 1), (13, .iload_n 1, 1), (14, .putfield 15, 3), (17, .return_, 1)]
theorem id_Block_init_0 : ∀ q ∈ it_Block_init_0, decode prog_3_method_1_code q.1 = .ok q.2 := by decide +kernel
theorem d_Block_init_0 : decode prog_3_method_1_code 0 = .ok (.aload_n 0, 1) := id_Block_init_0 (0, .aload_n 0, 1) (List.mem_of_getElem? (i := 0) rfl)
theorem d_Block_init_1 : decode prog_3_method_1_code 1 = .ok (.invokespecial 3, 3) := id_Block_init_0 (1, .invokespecial 3, 3) (List.mem_of_getElem? (i := 1) rfl)
theorem d_Block_init_4 : decode prog_3_method_1_code 4 = .ok (.aload_n 0, 1) := id_Block_init_0 (4, .aload_n 0, 1) (List.mem_of_getElem? (i := 2) rfl)
theorem d_Block_init_5 : decode prog_3_method_1_code 5 = .ok (.bipush (64), 2) := id_Block_init_0 (5, .bipush (64), 2) (List.mem_of_getElem? (i := 3) rfl)
theorem d_Block_init_7 : decode prog_3_method_1_code 7 = .ok (.newarray .int, 2) := id_Block_init_0 (7, .newarray .int, 2) (List.mem_of_getElem? (i := 4) rfl)
theorem d_Block_init_9 : decode prog_3_method_1_code 9 = .ok (.putfield 9, 3) := id_Block_init_0 (9, .putfield 9, 3) (List.mem_of_getElem? (i := 5) rfl)
theorem d_Block_init_12 : decode prog_3_method_1_code 12 = .ok (.aload_n 0, 1) := id_Block_init_0 (12, .aload_n 0, 1) (List.mem_of_getElem? (i := 6) rfl)
theorem d_Block_init_13 : decode prog_3_method_1_code 13 = .ok (.iload_n 1, 1) := id_Block_init_0 (13, .iload_n 1, 1) (List.mem_of_getElem? (i := 7) rfl)
theorem d_Block_init_14 : decode prog_3_method_1_code 14 = .ok (.putfield 15, 3) := id_Block_init_0 (14, .putfield 15, 3) (List.mem_of_getElem? (i := 8) rfl)
theorem d_Block_init_17 : decode prog_3_method_1_code 17 = .ok (.return_, 1) := id_Block_init_0 (17, .return_, 1) (List.mem_of_getElem? (i := 9) rfl)
theorem wC_Block_init : Cond.code ⟨"WarpMill$Block", "<init>", "(I)V"⟩ prog_3_method_1_code 2 (none) ∈ lw_tb := mem_tb 682 (by decide +kernel) rfl
def f_Block_init (F : Nat) (x0 : Nat) (x1 : Int32) (h : Hp) : Option Hp := pw (hT h) fun a_7 => pw (nw h 100 64 64) fun h_7_2 => gd (hK h_7_2 x0 = 8) <| pw (sR h_7_2 449 x0 (some a_7)) fun h_9_2 => pw (sI h_9_2 448 x0 x1) fun h_14 => some h_14
set_option maxRecDepth 100000 in
set_option maxHeartbeats 4000000 in
theorem e_Block_init {G : Gl} (hw : gF G) {F : Nat} {h' : Hp} {x0 : Nat} {x1 : Int32} {h : Hp} (hf : f_Block_init F x0 x1 h = some h') : Ex G mi_Block_init [.ref x0, .int x1] h (pV h') := by
  unfold f_Block_init at hf
  refine Ex.of nmV (by decide) (Nat.le_of_ble_eq_true rfl) ?_
  show Go G mi_Block_init h _ h 0 [(0, .ref x0), (1, .int x1)] []
  refine g_aload_n d_Block_init_0 rfl ?_
  refine g_objInit lm_Block_3 wI_Object_init wC_obj (Nat.le_of_ble_eq_true rfl) (Nat.le_of_ble_eq_true rfl) d_Block_init_1 ?_
  refine g_aload_n d_Block_init_4 rfl ?_
  refine g_bipush (64) d_Block_init_5 (by decide) ?_
  obtain ⟨a_7, e_7, hf⟩ := pw_s hf
  refine g_newai 64 (by decide) (by decide) (by decide) wA_int d_Block_init_7 ?_
  refine Go.kn (fun k_7 => ?_)
  rw [← e_7] at k_7 ⊢
  have hf := pw_b hf
  obtain ⟨k_9, hf⟩ := gd_s hf
  refine fp_Block_ints hw (some a_7) rfl lf_Block_9 d_Block_init_9 rfl rfl k_9 ?_
  have hf := pw_b hf
  refine g_aload_n d_Block_init_12 rfl ?_
  refine g_iload_n d_Block_init_13 rfl ?_
  refine fp_Block_number hw lf_Block_15 d_Block_init_14 rfl rfl (kksR k_9) ?_
  have hf := pw_b hf
  exact Go.ret none trivial rfl d_Block_init_17 (pV_of hf)
abbrev mi_Block_begin : MI := (⟨"WarpMill$Block", "begin", "(LWarpMill$Unit;II)V"⟩, prog_3_method_2_code, 4, none, 1, 23)
def it_Block_begin_0 : List (Nat × ClassFile.Instr × Nat) := [(0, .aload_n 0, 1), (1, .aload_n 1, 1), (2, .putfield 19, 3), (5, .aload_n 0, 1), (6, .iload_n 2, 1), (7, .putfield 23, 3), (10, .aload_n 0, 1), (11, .iload_n 3, 1), (12, .putfield 26, 3), (15, .aload_n 0, 1), (16, .iload_n 3, 1), (17, .putfield 29, 3), (20, .aload_n 0, 1), (21, .iconst 0, 1), (22, .putfield 32, 3), (25, .aload_n 0, 1), (26, .getfield 9, 3), (29, .iconst 0, 1), (30, .invokestatic 35, 3), (33, .return_, 1)]
theorem id_Block_begin_0 : ∀ q ∈ it_Block_begin_0, decode prog_3_method_2_code q.1 = .ok q.2 := by decide +kernel
theorem d_Block_begin_0 : decode prog_3_method_2_code 0 = .ok (.aload_n 0, 1) := id_Block_begin_0 (0, .aload_n 0, 1) (List.mem_of_getElem? (i := 0) rfl)
theorem d_Block_begin_1 : decode prog_3_method_2_code 1 = .ok (.aload_n 1, 1) := id_Block_begin_0 (1, .aload_n 1, 1) (List.mem_of_getElem? (i := 1) rfl)
theorem d_Block_begin_2 : decode prog_3_method_2_code 2 = .ok (.putfield 19, 3) := id_Block_begin_0 (2, .putfield 19, 3) (List.mem_of_getElem? (i := 2) rfl)
theorem d_Block_begin_5 : decode prog_3_method_2_code 5 = .ok (.aload_n 0, 1) := id_Block_begin_0 (5, .aload_n 0, 1) (List.mem_of_getElem? (i := 3) rfl)
theorem d_Block_begin_6 : decode prog_3_method_2_code 6 = .ok (.iload_n 2, 1) := id_Block_begin_0 (6, .iload_n 2, 1) (List.mem_of_getElem? (i := 4) rfl)
theorem d_Block_begin_7 : decode prog_3_method_2_code 7 = .ok (.putfield 23, 3) := id_Block_begin_0 (7, .putfield 23, 3) (List.mem_of_getElem? (i := 5) rfl)
theorem d_Block_begin_10 : decode prog_3_method_2_code 10 = .ok (.aload_n 0, 1) := id_Block_begin_0 (10, .aload_n 0, 1) (List.mem_of_getElem? (i := 6) rfl)
theorem d_Block_begin_11 : decode prog_3_method_2_code 11 = .ok (.iload_n 3, 1) := id_Block_begin_0 (11, .iload_n 3, 1) (List.mem_of_getElem? (i := 7) rfl)
theorem d_Block_begin_12 : decode prog_3_method_2_code 12 = .ok (.putfield 26, 3) := id_Block_begin_0 (12, .putfield 26, 3) (List.mem_of_getElem? (i := 8) rfl)
theorem d_Block_begin_15 : decode prog_3_method_2_code 15 = .ok (.aload_n 0, 1) := id_Block_begin_0 (15, .aload_n 0, 1) (List.mem_of_getElem? (i := 9) rfl)
theorem d_Block_begin_16 : decode prog_3_method_2_code 16 = .ok (.iload_n 3, 1) := id_Block_begin_0 (16, .iload_n 3, 1) (List.mem_of_getElem? (i := 10) rfl)
theorem d_Block_begin_17 : decode prog_3_method_2_code 17 = .ok (.putfield 29, 3) := id_Block_begin_0 (17, .putfield 29, 3) (List.mem_of_getElem? (i := 11) rfl)
theorem d_Block_begin_20 : decode prog_3_method_2_code 20 = .ok (.aload_n 0, 1) := id_Block_begin_0 (20, .aload_n 0, 1) (List.mem_of_getElem? (i := 12) rfl)
theorem d_Block_begin_21 : decode prog_3_method_2_code 21 = .ok (.iconst 0, 1) := id_Block_begin_0 (21, .iconst 0, 1) (List.mem_of_getElem? (i := 13) rfl)
theorem d_Block_begin_22 : decode prog_3_method_2_code 22 = .ok (.putfield 32, 3) := id_Block_begin_0 (22, .putfield 32, 3) (List.mem_of_getElem? (i := 14) rfl)
theorem d_Block_begin_25 : decode prog_3_method_2_code 25 = .ok (.aload_n 0, 1) := id_Block_begin_0 (25, .aload_n 0, 1) (List.mem_of_getElem? (i := 15) rfl)
theorem d_Block_begin_26 : decode prog_3_method_2_code 26 = .ok (.getfield 9, 3) := id_Block_begin_0 (26, .getfield 9, 3) (List.mem_of_getElem? (i := 16) rfl)
theorem d_Block_begin_29 : decode prog_3_method_2_code 29 = .ok (.iconst 0, 1) := id_Block_begin_0 (29, .iconst 0, 1) (List.mem_of_getElem? (i := 17) rfl)
theorem d_Block_begin_30 : decode prog_3_method_2_code 30 = .ok (.invokestatic 35, 3) := id_Block_begin_0 (30, .invokestatic 35, 3) (List.mem_of_getElem? (i := 18) rfl)
theorem d_Block_begin_33 : decode prog_3_method_2_code 33 = .ok (.return_, 1) := id_Block_begin_0 (33, .return_, 1) (List.mem_of_getElem? (i := 19) rfl)
theorem wC_Block_begin : Cond.code ⟨"WarpMill$Block", "begin", "(LWarpMill$Unit;II)V"⟩ prog_3_method_2_code 4 (none) ∈ lw_tb := mem_tb 721 (by decide +kernel) rfl
theorem cw_Block_begin_Arrays_fill : cW mi_Block_begin mi_Arrays_fill 2 := ⟨wC_Arrays_fill, wi_Arrays, ⟨by decide, by decide, by decide +kernel⟩, by decide, by decide⟩
def f_Block_begin (F : Nat) (x0 : Nat) (x1 : Option Nat) (x2 : Int32) (x3 : Int32) (h : Hp) : Option Hp := gd (hK h x0 = 8) <| pw (sR h 450 x0 x1) fun h_2_2 => pw (sI h_2_2 451 x0 x2) fun h_7 => pw (sI h_7 452 x0 x3) fun h_12 => pw (sI h_12 453 x0 x3) fun h_17 => pw (sI h_17 454 x0 (0 : Int32)) fun h_22 => rq h_22 (hR h_22 449 x0) 100 fun a_26 => clv (f_Arrays_fill F (some a_26) (0 : Int32) h_22) fun h_30 => some h_30
set_option maxRecDepth 100000 in
set_option maxHeartbeats 4000000 in
theorem e_Block_begin {G : Gl} (hw : gF G) {F : Nat} {h' : Hp} {x0 : Nat} {x1 : Option Nat} {x2 : Int32} {x3 : Int32} {h : Hp} (hf : f_Block_begin F x0 x1 x2 x3 h = some h') : Ex G mi_Block_begin [.ref x0, va_rf x1, .int x2, .int x3] h (pV h') := by
  unfold f_Block_begin at hf
  refine Ex.of nmV (by decide) (by cases x1 <;> exact Nat.le_of_ble_eq_true rfl) ?_
  rw [show lv_args 0 [.ref x0, va_rf x1, .int x2, .int x3] = [(0, .ref x0), (1, va_rf x1), (2, .int x2), (3, .int x3)] from by cases x1 <;> rfl]
  show Go G mi_Block_begin h _ h 0 [(0, .ref x0), (1, va_rf x1), (2, .int x2), (3, .int x3)] []
  refine g_aload_n d_Block_begin_0 rfl ?_
  refine g_aload_nq (r := x1) d_Block_begin_1 rfl ?_
  obtain ⟨k_2, hf⟩ := gd_s hf
  refine fp_Block_unit hw x1 rfl lf_Block_19 d_Block_begin_2 k_2 ?_
  have hf := pw_b hf
  refine g_aload_n d_Block_begin_5 rfl ?_
  refine g_iload_n d_Block_begin_6 rfl ?_
  refine fp_Block_blocks hw lf_Block_23 d_Block_begin_7 (kksR k_2) ?_
  have hf := pw_b hf
  refine g_aload_n d_Block_begin_10 rfl ?_
  refine g_iload_n d_Block_begin_11 rfl ?_
  refine fp_Block_threads hw lf_Block_26 d_Block_begin_12 (kksI (kksR k_2)) ?_
  have hf := pw_b hf
  refine g_aload_n d_Block_begin_15 rfl ?_
  refine g_iload_n d_Block_begin_16 rfl ?_
  refine fp_Block_alive hw lf_Block_29 d_Block_begin_17 (kksI (kksI (kksR k_2))) ?_
  have hf := pw_b hf
  refine g_aload_n d_Block_begin_20 rfl ?_
  refine g_iconst 0 d_Block_begin_21 (by decide) ?_
  refine fp_Block_waiting hw lf_Block_32 d_Block_begin_22 (kksI (kksI (kksI (kksR k_2)))) ?_
  have hf := pw_b hf
  refine g_aload_n d_Block_begin_25 rfl ?_
  obtain ⟨a_26, e_26, k_26, hf⟩ := rq_s hf
  refine fgs_Block_ints lf_Block_9 d_Block_begin_26 (kksI (kksI (kksI (kksI (kksR k_2))))) e_26 ?_
  refine g_iconst 0 d_Block_begin_29 (by decide) ?_
  obtain ⟨h_30, e_30, hf⟩ := clv_s hf
  refine g_callS (mz := mi_Arrays_fill) (e_Arrays_fill hw e_30) cw_Block_begin_Arrays_fill lm_Block_35 wS_Arrays_fill d_Block_begin_30 rfl rfl (by first | exact Nat.le_of_ble_eq_true rfl | simp [cat_rf, Value.category]) (fun r1 h1 hp hro => ?_)
  obtain ⟨rfl, rfl⟩ := hp
  dsimp only [Option.toList_some, Option.toList_none, List.cons_append, List.nil_append]
  exact Go.ret none trivial rfl d_Block_begin_33 (pV_of hf)
abbrev mi_Warp_init : MI := (⟨"WarpMill$Warp", "<init>", "(I)V"⟩, prog_10_method_1_code, 2, none, 1, 21)
def it_Warp_init_0 : List (Nat × ClassFile.Instr × Nat) := [(0, .aload_n 0, 1), (1, .invokespecial 3, 3), (4, .aload_n 0, 1), (5, .iconst 4, 1), (6, .newarray .int, 2), (8, .putfield 9, 3), (11, .aload_n 0, 1), (12, .bipush (20), 2), (14, .newarray .int, 2), (16, .putfield 15, 3), (19, .aload_n 0, 1), (20, .iload_n 1, 1), (21, .bipush (16), 2), (23, .imul, 1), (24, .newarray .int, 2), (26, .putfield 18, 3), (29, .aload_n 0, 1), (30, .iload_n 1, 1), (31, .newarray .int, 2), (33, .putfield 21, 3), (36, .aload_n 0, 1), (37, .iload_n 1, 1), (38, .newarray .int, 2), (40, .putfield 24, 3)]
theorem id_Warp_init_0 : ∀ q ∈ it_Warp_init_0, decode prog_10_method_1_code q.1 = .ok q.2 := by decide +kernel
theorem d_Warp_init_0 : decode prog_10_method_1_code 0 = .ok (.aload_n 0, 1) := id_Warp_init_0 (0, .aload_n 0, 1) (List.mem_of_getElem? (i := 0) rfl)
theorem d_Warp_init_1 : decode prog_10_method_1_code 1 = .ok (.invokespecial 3, 3) := id_Warp_init_0 (1, .invokespecial 3, 3) (List.mem_of_getElem? (i := 1) rfl)
theorem d_Warp_init_4 : decode prog_10_method_1_code 4 = .ok (.aload_n 0, 1) := id_Warp_init_0 (4, .aload_n 0, 1) (List.mem_of_getElem? (i := 2) rfl)
theorem d_Warp_init_5 : decode prog_10_method_1_code 5 = .ok (.iconst 4, 1) := id_Warp_init_0 (5, .iconst 4, 1) (List.mem_of_getElem? (i := 3) rfl)
theorem d_Warp_init_6 : decode prog_10_method_1_code 6 = .ok (.newarray .int, 2) := id_Warp_init_0 (6, .newarray .int, 2) (List.mem_of_getElem? (i := 4) rfl)
theorem d_Warp_init_8 : decode prog_10_method_1_code 8 = .ok (.putfield 9, 3) := id_Warp_init_0 (8, .putfield 9, 3) (List.mem_of_getElem? (i := 5) rfl)
theorem d_Warp_init_11 : decode prog_10_method_1_code 11 = .ok (.aload_n 0, 1) := id_Warp_init_0 (11, .aload_n 0, 1) (List.mem_of_getElem? (i := 6) rfl)
theorem d_Warp_init_12 : decode prog_10_method_1_code 12 = .ok (.bipush (20), 2) := id_Warp_init_0 (12, .bipush (20), 2) (List.mem_of_getElem? (i := 7) rfl)
theorem d_Warp_init_14 : decode prog_10_method_1_code 14 = .ok (.newarray .int, 2) := id_Warp_init_0 (14, .newarray .int, 2) (List.mem_of_getElem? (i := 8) rfl)
theorem d_Warp_init_16 : decode prog_10_method_1_code 16 = .ok (.putfield 15, 3) := id_Warp_init_0 (16, .putfield 15, 3) (List.mem_of_getElem? (i := 9) rfl)
theorem d_Warp_init_19 : decode prog_10_method_1_code 19 = .ok (.aload_n 0, 1) := id_Warp_init_0 (19, .aload_n 0, 1) (List.mem_of_getElem? (i := 10) rfl)
theorem d_Warp_init_20 : decode prog_10_method_1_code 20 = .ok (.iload_n 1, 1) := id_Warp_init_0 (20, .iload_n 1, 1) (List.mem_of_getElem? (i := 11) rfl)
theorem d_Warp_init_21 : decode prog_10_method_1_code 21 = .ok (.bipush (16), 2) := id_Warp_init_0 (21, .bipush (16), 2) (List.mem_of_getElem? (i := 12) rfl)
theorem d_Warp_init_23 : decode prog_10_method_1_code 23 = .ok (.imul, 1) := id_Warp_init_0 (23, .imul, 1) (List.mem_of_getElem? (i := 13) rfl)
theorem d_Warp_init_24 : decode prog_10_method_1_code 24 = .ok (.newarray .int, 2) := id_Warp_init_0 (24, .newarray .int, 2) (List.mem_of_getElem? (i := 14) rfl)
theorem d_Warp_init_26 : decode prog_10_method_1_code 26 = .ok (.putfield 18, 3) := id_Warp_init_0 (26, .putfield 18, 3) (List.mem_of_getElem? (i := 15) rfl)
theorem d_Warp_init_29 : decode prog_10_method_1_code 29 = .ok (.aload_n 0, 1) := id_Warp_init_0 (29, .aload_n 0, 1) (List.mem_of_getElem? (i := 16) rfl)
theorem d_Warp_init_30 : decode prog_10_method_1_code 30 = .ok (.iload_n 1, 1) := id_Warp_init_0 (30, .iload_n 1, 1) (List.mem_of_getElem? (i := 17) rfl)
theorem d_Warp_init_31 : decode prog_10_method_1_code 31 = .ok (.newarray .int, 2) := id_Warp_init_0 (31, .newarray .int, 2) (List.mem_of_getElem? (i := 18) rfl)
theorem d_Warp_init_33 : decode prog_10_method_1_code 33 = .ok (.putfield 21, 3) := id_Warp_init_0 (33, .putfield 21, 3) (List.mem_of_getElem? (i := 19) rfl)
theorem d_Warp_init_36 : decode prog_10_method_1_code 36 = .ok (.aload_n 0, 1) := id_Warp_init_0 (36, .aload_n 0, 1) (List.mem_of_getElem? (i := 20) rfl)
theorem d_Warp_init_37 : decode prog_10_method_1_code 37 = .ok (.iload_n 1, 1) := id_Warp_init_0 (37, .iload_n 1, 1) (List.mem_of_getElem? (i := 21) rfl)
theorem d_Warp_init_38 : decode prog_10_method_1_code 38 = .ok (.newarray .int, 2) := id_Warp_init_0 (38, .newarray .int, 2) (List.mem_of_getElem? (i := 22) rfl)
theorem d_Warp_init_40 : decode prog_10_method_1_code 40 = .ok (.putfield 24, 3) := id_Warp_init_0 (40, .putfield 24, 3) (List.mem_of_getElem? (i := 23) rfl)
def it_Warp_init_1 : List (Nat × ClassFile.Instr × Nat) := [(43, .return_, 1)]
theorem id_Warp_init_1 : ∀ q ∈ it_Warp_init_1, decode prog_10_method_1_code q.1 = .ok q.2 := by decide +kernel
theorem d_Warp_init_43 : decode prog_10_method_1_code 43 = .ok (.return_, 1) := id_Warp_init_1 (43, .return_, 1) (List.mem_of_getElem? (i := 0) rfl)
theorem wC_Warp_init : Cond.code ⟨"WarpMill$Warp", "<init>", "(I)V"⟩ prog_10_method_1_code 2 (none) ∈ lw_tb := mem_tb 730 (by decide +kernel) rfl
def f_Warp_init (F : Nat) (x0 : Nat) (x1 : Int32) (h : Hp) : Option Hp := pw (hT h) fun a_6 => pw (nw h 100 4 4) fun h_6_2 => gd (hK h_6_2 x0 = 9) <| pw (sR h_6_2 526 x0 (some a_6)) fun h_8_2 => pw (hT h_8_2) fun a_14 => pw (nw h_8_2 100 20 20) fun h_14_2 => gd (hK h_14_2 x0 = 9) <| pw (sR h_14_2 527 x0 (some a_14)) fun h_16_2 => gd (¬ (x1 * (16 : Int32)) < 0) <| gd ((Int32.toNatClampNeg (x1 * (16 : Int32))) * 4 ≤ 536870912) <| pw (hT h_16_2) fun a_24_2 => pw (nw h_16_2 100 (Int32.toNatClampNeg (x1 * (16 : Int32))) (Int32.toNatClampNeg (x1 * (16 : Int32)))) fun h_24_3 => gd (hK h_24_3 x0 = 9) <| pw (sR h_24_3 523 x0 (some a_24_2)) fun h_26_2 => gd (¬ x1 < 0) <| gd ((Int32.toNatClampNeg x1) * 4 ≤ 536870912) <| pw (hT h_26_2) fun a_31_2 => pw (nw h_26_2 100 (Int32.toNatClampNeg x1) (Int32.toNatClampNeg x1)) fun h_31_3 => gd (hK h_31_3 x0 = 9) <| pw (sR h_31_3 524 x0 (some a_31_2)) fun h_33_2 => gd (¬ x1 < 0) <| gd ((Int32.toNatClampNeg x1) * 4 ≤ 536870912) <| pw (hT h_33_2) fun a_38_2 => pw (nw h_33_2 100 (Int32.toNatClampNeg x1) (Int32.toNatClampNeg x1)) fun h_38_3 => gd (hK h_38_3 x0 = 9) <| pw (sR h_38_3 525 x0 (some a_38_2)) fun h_40_2 => some h_40_2
set_option maxRecDepth 100000 in
set_option maxHeartbeats 4000000 in
theorem e_Warp_init {G : Gl} (hw : gF G) {F : Nat} {h' : Hp} {x0 : Nat} {x1 : Int32} {h : Hp} (hf : f_Warp_init F x0 x1 h = some h') : Ex G mi_Warp_init [.ref x0, .int x1] h (pV h') := by
  unfold f_Warp_init at hf
  refine Ex.of nmV (by decide) (Nat.le_of_ble_eq_true rfl) ?_
  show Go G mi_Warp_init h _ h 0 [(0, .ref x0), (1, .int x1)] []
  refine g_aload_n d_Warp_init_0 rfl ?_
  refine g_objInit lm_Warp_3 wI_Object_init wC_obj (Nat.le_of_ble_eq_true rfl) (Nat.le_of_ble_eq_true rfl) d_Warp_init_1 ?_
  refine g_aload_n d_Warp_init_4 rfl ?_
  refine g_iconst 4 d_Warp_init_5 (by decide) ?_
  obtain ⟨a_6, e_6, hf⟩ := pw_s hf
  refine g_newai 4 (by decide) (by decide) (by decide) wA_int d_Warp_init_6 ?_
  refine Go.kn (fun k_6 => ?_)
  rw [← e_6] at k_6 ⊢
  have hf := pw_b hf
  obtain ⟨k_8, hf⟩ := gd_s hf
  refine fp_Warp_predicates hw (some a_6) rfl lf_Warp_9 d_Warp_init_8 rfl rfl k_8 ?_
  have hf := pw_b hf
  refine g_aload_n d_Warp_init_11 rfl ?_
  refine g_bipush (20) d_Warp_init_12 (by decide) ?_
  obtain ⟨a_14, e_14, hf⟩ := pw_s hf
  refine g_newai 20 (by decide) (by decide) (by decide) wA_int d_Warp_init_14 ?_
  refine Go.kn (fun k_14 => ?_)
  rw [← e_14] at k_14 ⊢
  have hf := pw_b hf
  obtain ⟨k_16, hf⟩ := gd_s hf
  refine fp_Warp_ticks hw (some a_14) rfl lf_Warp_15 d_Warp_init_16 rfl rfl k_16 ?_
  have hf := pw_b hf
  refine g_aload_n d_Warp_init_19 rfl ?_
  refine g_iload_n d_Warp_init_20 rfl ?_
  refine g_bipush (16) d_Warp_init_21 (by decide) ?_
  refine g_imul d_Warp_init_23 ?_
  obtain ⟨z_24, hf⟩ := gd_s hf
  obtain ⟨y_24, hf⟩ := gd_s hf
  obtain ⟨a_24_2, e_24_2, hf⟩ := pw_s hf
  refine g_newai _ z_24 rfl y_24 wA_int d_Warp_init_24 ?_
  refine Go.kn (fun k_24_2 => ?_)
  rw [← e_24_2] at k_24_2 ⊢
  have hf := pw_b hf
  obtain ⟨k_26, hf⟩ := gd_s hf
  refine fp_Warp_registers hw (some a_24_2) rfl lf_Warp_18 d_Warp_init_26 k_26 ?_
  have hf := pw_b hf
  refine g_aload_n d_Warp_init_29 rfl ?_
  refine g_iload_n d_Warp_init_30 rfl ?_
  obtain ⟨z_31, hf⟩ := gd_s hf
  obtain ⟨y_31, hf⟩ := gd_s hf
  obtain ⟨a_31_2, e_31_2, hf⟩ := pw_s hf
  refine g_newai _ z_31 rfl y_31 wA_int d_Warp_init_31 ?_
  refine Go.kn (fun k_31_2 => ?_)
  rw [← e_31_2] at k_31_2 ⊢
  have hf := pw_b hf
  obtain ⟨k_33, hf⟩ := gd_s hf
  refine fp_Warp_places hw (some a_31_2) rfl lf_Warp_21 d_Warp_init_33 k_33 ?_
  have hf := pw_b hf
  refine g_aload_n d_Warp_init_36 rfl ?_
  refine g_iload_n d_Warp_init_37 rfl ?_
  obtain ⟨z_38, hf⟩ := gd_s hf
  obtain ⟨y_38, hf⟩ := gd_s hf
  obtain ⟨a_38_2, e_38_2, hf⟩ := pw_s hf
  refine g_newai _ z_38 rfl y_38 wA_int d_Warp_init_38 ?_
  refine Go.kn (fun k_38_2 => ?_)
  rw [← e_38_2] at k_38_2 ⊢
  have hf := pw_b hf
  obtain ⟨k_40, hf⟩ := gd_s hf
  refine fp_Warp_row hw (some a_38_2) rfl lf_Warp_24 d_Warp_init_40 k_40 ?_
  have hf := pw_b hf
  exact Go.ret none trivial rfl d_Warp_init_43 (pV_of hf)
abbrev mi_Warp_begin : MI := (⟨"WarpMill$Warp", "begin", "(LWarpMill$Block;II)V"⟩, prog_10_method_2_code, 5, none, 1, 23)
def it_Warp_begin_0 : List (Nat × ClassFile.Instr × Nat) := [(0, .aload_n 0, 1), (1, .aload_n 1, 1), (2, .putfield 27, 3), (5, .aload_n 0, 1), (6, .iload_n 2, 1), (7, .putfield 31, 3), (10, .aload_n 0, 1), (11, .iload_n 3, 1), (12, .putfield 35, 3), (15, .aload_n 1, 1), (16, .getfield 38, 3), (19, .iload_n 2, 1), (20, .iload_n 3, 1), (21, .imul, 1), (22, .isub, 1), (23, .iload_n 3, 1), (24, .invokestatic 43, 3), (27, .istore 4, 2), (29, .aload_n 0, 1), (30, .iload 4, 2), (32, .bipush (32), 2), (34, .if_icmp .lt (7), 3), (37, .iconst (-1), 1), (38, .goto (9), 3)]
theorem id_Warp_begin_0 : ∀ q ∈ it_Warp_begin_0, decode prog_10_method_2_code q.1 = .ok q.2 := by decide +kernel
theorem d_Warp_begin_0 : decode prog_10_method_2_code 0 = .ok (.aload_n 0, 1) := id_Warp_begin_0 (0, .aload_n 0, 1) (List.mem_of_getElem? (i := 0) rfl)
theorem d_Warp_begin_1 : decode prog_10_method_2_code 1 = .ok (.aload_n 1, 1) := id_Warp_begin_0 (1, .aload_n 1, 1) (List.mem_of_getElem? (i := 1) rfl)
theorem d_Warp_begin_2 : decode prog_10_method_2_code 2 = .ok (.putfield 27, 3) := id_Warp_begin_0 (2, .putfield 27, 3) (List.mem_of_getElem? (i := 2) rfl)
theorem d_Warp_begin_5 : decode prog_10_method_2_code 5 = .ok (.aload_n 0, 1) := id_Warp_begin_0 (5, .aload_n 0, 1) (List.mem_of_getElem? (i := 3) rfl)
theorem d_Warp_begin_6 : decode prog_10_method_2_code 6 = .ok (.iload_n 2, 1) := id_Warp_begin_0 (6, .iload_n 2, 1) (List.mem_of_getElem? (i := 4) rfl)
theorem d_Warp_begin_7 : decode prog_10_method_2_code 7 = .ok (.putfield 31, 3) := id_Warp_begin_0 (7, .putfield 31, 3) (List.mem_of_getElem? (i := 5) rfl)
theorem d_Warp_begin_10 : decode prog_10_method_2_code 10 = .ok (.aload_n 0, 1) := id_Warp_begin_0 (10, .aload_n 0, 1) (List.mem_of_getElem? (i := 6) rfl)
theorem d_Warp_begin_11 : decode prog_10_method_2_code 11 = .ok (.iload_n 3, 1) := id_Warp_begin_0 (11, .iload_n 3, 1) (List.mem_of_getElem? (i := 7) rfl)
theorem d_Warp_begin_12 : decode prog_10_method_2_code 12 = .ok (.putfield 35, 3) := id_Warp_begin_0 (12, .putfield 35, 3) (List.mem_of_getElem? (i := 8) rfl)
theorem d_Warp_begin_15 : decode prog_10_method_2_code 15 = .ok (.aload_n 1, 1) := id_Warp_begin_0 (15, .aload_n 1, 1) (List.mem_of_getElem? (i := 9) rfl)
theorem d_Warp_begin_16 : decode prog_10_method_2_code 16 = .ok (.getfield 38, 3) := id_Warp_begin_0 (16, .getfield 38, 3) (List.mem_of_getElem? (i := 10) rfl)
theorem d_Warp_begin_19 : decode prog_10_method_2_code 19 = .ok (.iload_n 2, 1) := id_Warp_begin_0 (19, .iload_n 2, 1) (List.mem_of_getElem? (i := 11) rfl)
theorem d_Warp_begin_20 : decode prog_10_method_2_code 20 = .ok (.iload_n 3, 1) := id_Warp_begin_0 (20, .iload_n 3, 1) (List.mem_of_getElem? (i := 12) rfl)
theorem d_Warp_begin_21 : decode prog_10_method_2_code 21 = .ok (.imul, 1) := id_Warp_begin_0 (21, .imul, 1) (List.mem_of_getElem? (i := 13) rfl)
theorem d_Warp_begin_22 : decode prog_10_method_2_code 22 = .ok (.isub, 1) := id_Warp_begin_0 (22, .isub, 1) (List.mem_of_getElem? (i := 14) rfl)
theorem d_Warp_begin_23 : decode prog_10_method_2_code 23 = .ok (.iload_n 3, 1) := id_Warp_begin_0 (23, .iload_n 3, 1) (List.mem_of_getElem? (i := 15) rfl)
theorem d_Warp_begin_24 : decode prog_10_method_2_code 24 = .ok (.invokestatic 43, 3) := id_Warp_begin_0 (24, .invokestatic 43, 3) (List.mem_of_getElem? (i := 16) rfl)
theorem d_Warp_begin_27 : decode prog_10_method_2_code 27 = .ok (.istore 4, 2) := id_Warp_begin_0 (27, .istore 4, 2) (List.mem_of_getElem? (i := 17) rfl)
theorem d_Warp_begin_29 : decode prog_10_method_2_code 29 = .ok (.aload_n 0, 1) := id_Warp_begin_0 (29, .aload_n 0, 1) (List.mem_of_getElem? (i := 18) rfl)
theorem d_Warp_begin_30 : decode prog_10_method_2_code 30 = .ok (.iload 4, 2) := id_Warp_begin_0 (30, .iload 4, 2) (List.mem_of_getElem? (i := 19) rfl)
theorem d_Warp_begin_32 : decode prog_10_method_2_code 32 = .ok (.bipush (32), 2) := id_Warp_begin_0 (32, .bipush (32), 2) (List.mem_of_getElem? (i := 20) rfl)
theorem d_Warp_begin_34 : decode prog_10_method_2_code 34 = .ok (.if_icmp .lt (7), 3) := id_Warp_begin_0 (34, .if_icmp .lt (7), 3) (List.mem_of_getElem? (i := 21) rfl)
theorem d_Warp_begin_37 : decode prog_10_method_2_code 37 = .ok (.iconst (-1), 1) := id_Warp_begin_0 (37, .iconst (-1), 1) (List.mem_of_getElem? (i := 22) rfl)
theorem d_Warp_begin_38 : decode prog_10_method_2_code 38 = .ok (.goto (9), 3) := id_Warp_begin_0 (38, .goto (9), 3) (List.mem_of_getElem? (i := 23) rfl)
def it_Warp_begin_1 : List (Nat × ClassFile.Instr × Nat) := [(41, .iconst 1, 1), (42, .iload 4, 2), (44, .ishl, 1), (45, .iconst 1, 1), (46, .isub, 1), (47, .putfield 49, 3), (50, .aload_n 0, 1), (51, .iconst 0, 1), (52, .putfield 52, 3), (55, .aload_n 0, 1), (56, .iconst 0, 1), (57, .putfield 55, 3), (60, .aload_n 0, 1), (61, .iconst 0, 1), (62, .putfield 58, 3), (65, .aload_n 0, 1), (66, .getfield 21, 3), (69, .arraylength, 1), (70, .iload_n 3, 1), (71, .if_icmp .ge (27), 3), (74, .aload_n 0, 1), (75, .iload_n 3, 1), (76, .bipush (16), 2), (78, .imul, 1)]
theorem id_Warp_begin_1 : ∀ q ∈ it_Warp_begin_1, decode prog_10_method_2_code q.1 = .ok q.2 := by decide +kernel
theorem d_Warp_begin_41 : decode prog_10_method_2_code 41 = .ok (.iconst 1, 1) := id_Warp_begin_1 (41, .iconst 1, 1) (List.mem_of_getElem? (i := 0) rfl)
theorem d_Warp_begin_42 : decode prog_10_method_2_code 42 = .ok (.iload 4, 2) := id_Warp_begin_1 (42, .iload 4, 2) (List.mem_of_getElem? (i := 1) rfl)
theorem d_Warp_begin_44 : decode prog_10_method_2_code 44 = .ok (.ishl, 1) := id_Warp_begin_1 (44, .ishl, 1) (List.mem_of_getElem? (i := 2) rfl)
theorem d_Warp_begin_45 : decode prog_10_method_2_code 45 = .ok (.iconst 1, 1) := id_Warp_begin_1 (45, .iconst 1, 1) (List.mem_of_getElem? (i := 3) rfl)
theorem d_Warp_begin_46 : decode prog_10_method_2_code 46 = .ok (.isub, 1) := id_Warp_begin_1 (46, .isub, 1) (List.mem_of_getElem? (i := 4) rfl)
theorem d_Warp_begin_47 : decode prog_10_method_2_code 47 = .ok (.putfield 49, 3) := id_Warp_begin_1 (47, .putfield 49, 3) (List.mem_of_getElem? (i := 5) rfl)
theorem d_Warp_begin_50 : decode prog_10_method_2_code 50 = .ok (.aload_n 0, 1) := id_Warp_begin_1 (50, .aload_n 0, 1) (List.mem_of_getElem? (i := 6) rfl)
theorem d_Warp_begin_51 : decode prog_10_method_2_code 51 = .ok (.iconst 0, 1) := id_Warp_begin_1 (51, .iconst 0, 1) (List.mem_of_getElem? (i := 7) rfl)
theorem d_Warp_begin_52 : decode prog_10_method_2_code 52 = .ok (.putfield 52, 3) := id_Warp_begin_1 (52, .putfield 52, 3) (List.mem_of_getElem? (i := 8) rfl)
theorem d_Warp_begin_55 : decode prog_10_method_2_code 55 = .ok (.aload_n 0, 1) := id_Warp_begin_1 (55, .aload_n 0, 1) (List.mem_of_getElem? (i := 9) rfl)
theorem d_Warp_begin_56 : decode prog_10_method_2_code 56 = .ok (.iconst 0, 1) := id_Warp_begin_1 (56, .iconst 0, 1) (List.mem_of_getElem? (i := 10) rfl)
theorem d_Warp_begin_57 : decode prog_10_method_2_code 57 = .ok (.putfield 55, 3) := id_Warp_begin_1 (57, .putfield 55, 3) (List.mem_of_getElem? (i := 11) rfl)
theorem d_Warp_begin_60 : decode prog_10_method_2_code 60 = .ok (.aload_n 0, 1) := id_Warp_begin_1 (60, .aload_n 0, 1) (List.mem_of_getElem? (i := 12) rfl)
theorem d_Warp_begin_61 : decode prog_10_method_2_code 61 = .ok (.iconst 0, 1) := id_Warp_begin_1 (61, .iconst 0, 1) (List.mem_of_getElem? (i := 13) rfl)
theorem d_Warp_begin_62 : decode prog_10_method_2_code 62 = .ok (.putfield 58, 3) := id_Warp_begin_1 (62, .putfield 58, 3) (List.mem_of_getElem? (i := 14) rfl)
theorem d_Warp_begin_65 : decode prog_10_method_2_code 65 = .ok (.aload_n 0, 1) := id_Warp_begin_1 (65, .aload_n 0, 1) (List.mem_of_getElem? (i := 15) rfl)
theorem d_Warp_begin_66 : decode prog_10_method_2_code 66 = .ok (.getfield 21, 3) := id_Warp_begin_1 (66, .getfield 21, 3) (List.mem_of_getElem? (i := 16) rfl)
theorem d_Warp_begin_69 : decode prog_10_method_2_code 69 = .ok (.arraylength, 1) := id_Warp_begin_1 (69, .arraylength, 1) (List.mem_of_getElem? (i := 17) rfl)
theorem d_Warp_begin_70 : decode prog_10_method_2_code 70 = .ok (.iload_n 3, 1) := id_Warp_begin_1 (70, .iload_n 3, 1) (List.mem_of_getElem? (i := 18) rfl)
theorem d_Warp_begin_71 : decode prog_10_method_2_code 71 = .ok (.if_icmp .ge (27), 3) := id_Warp_begin_1 (71, .if_icmp .ge (27), 3) (List.mem_of_getElem? (i := 19) rfl)
theorem d_Warp_begin_74 : decode prog_10_method_2_code 74 = .ok (.aload_n 0, 1) := id_Warp_begin_1 (74, .aload_n 0, 1) (List.mem_of_getElem? (i := 20) rfl)
theorem d_Warp_begin_75 : decode prog_10_method_2_code 75 = .ok (.iload_n 3, 1) := id_Warp_begin_1 (75, .iload_n 3, 1) (List.mem_of_getElem? (i := 21) rfl)
theorem d_Warp_begin_76 : decode prog_10_method_2_code 76 = .ok (.bipush (16), 2) := id_Warp_begin_1 (76, .bipush (16), 2) (List.mem_of_getElem? (i := 22) rfl)
theorem d_Warp_begin_78 : decode prog_10_method_2_code 78 = .ok (.imul, 1) := id_Warp_begin_1 (78, .imul, 1) (List.mem_of_getElem? (i := 23) rfl)
def it_Warp_begin_2 : List (Nat × ClassFile.Instr × Nat) := [(79, .newarray .int, 2), (81, .putfield 18, 3), (84, .aload_n 0, 1), (85, .iload_n 3, 1), (86, .newarray .int, 2), (88, .putfield 21, 3), (91, .aload_n 0, 1), (92, .iload_n 3, 1), (93, .newarray .int, 2), (95, .putfield 24, 3), (98, .aload_n 0, 1), (99, .getfield 18, 3), (102, .iconst 0, 1), (103, .invokestatic 61, 3), (106, .aload_n 0, 1), (107, .getfield 21, 3), (110, .iconst 0, 1), (111, .invokestatic 61, 3), (114, .aload_n 0, 1), (115, .getfield 9, 3), (118, .iconst 0, 1), (119, .invokestatic 61, 3), (122, .aload_n 0, 1), (123, .getfield 15, 3)]
theorem id_Warp_begin_2 : ∀ q ∈ it_Warp_begin_2, decode prog_10_method_2_code q.1 = .ok q.2 := by decide +kernel
theorem d_Warp_begin_79 : decode prog_10_method_2_code 79 = .ok (.newarray .int, 2) := id_Warp_begin_2 (79, .newarray .int, 2) (List.mem_of_getElem? (i := 0) rfl)
theorem d_Warp_begin_81 : decode prog_10_method_2_code 81 = .ok (.putfield 18, 3) := id_Warp_begin_2 (81, .putfield 18, 3) (List.mem_of_getElem? (i := 1) rfl)
theorem d_Warp_begin_84 : decode prog_10_method_2_code 84 = .ok (.aload_n 0, 1) := id_Warp_begin_2 (84, .aload_n 0, 1) (List.mem_of_getElem? (i := 2) rfl)
theorem d_Warp_begin_85 : decode prog_10_method_2_code 85 = .ok (.iload_n 3, 1) := id_Warp_begin_2 (85, .iload_n 3, 1) (List.mem_of_getElem? (i := 3) rfl)
theorem d_Warp_begin_86 : decode prog_10_method_2_code 86 = .ok (.newarray .int, 2) := id_Warp_begin_2 (86, .newarray .int, 2) (List.mem_of_getElem? (i := 4) rfl)
theorem d_Warp_begin_88 : decode prog_10_method_2_code 88 = .ok (.putfield 21, 3) := id_Warp_begin_2 (88, .putfield 21, 3) (List.mem_of_getElem? (i := 5) rfl)
theorem d_Warp_begin_91 : decode prog_10_method_2_code 91 = .ok (.aload_n 0, 1) := id_Warp_begin_2 (91, .aload_n 0, 1) (List.mem_of_getElem? (i := 6) rfl)
theorem d_Warp_begin_92 : decode prog_10_method_2_code 92 = .ok (.iload_n 3, 1) := id_Warp_begin_2 (92, .iload_n 3, 1) (List.mem_of_getElem? (i := 7) rfl)
theorem d_Warp_begin_93 : decode prog_10_method_2_code 93 = .ok (.newarray .int, 2) := id_Warp_begin_2 (93, .newarray .int, 2) (List.mem_of_getElem? (i := 8) rfl)
theorem d_Warp_begin_95 : decode prog_10_method_2_code 95 = .ok (.putfield 24, 3) := id_Warp_begin_2 (95, .putfield 24, 3) (List.mem_of_getElem? (i := 9) rfl)
theorem d_Warp_begin_98 : decode prog_10_method_2_code 98 = .ok (.aload_n 0, 1) := id_Warp_begin_2 (98, .aload_n 0, 1) (List.mem_of_getElem? (i := 10) rfl)
theorem d_Warp_begin_99 : decode prog_10_method_2_code 99 = .ok (.getfield 18, 3) := id_Warp_begin_2 (99, .getfield 18, 3) (List.mem_of_getElem? (i := 11) rfl)
theorem d_Warp_begin_102 : decode prog_10_method_2_code 102 = .ok (.iconst 0, 1) := id_Warp_begin_2 (102, .iconst 0, 1) (List.mem_of_getElem? (i := 12) rfl)
theorem d_Warp_begin_103 : decode prog_10_method_2_code 103 = .ok (.invokestatic 61, 3) := id_Warp_begin_2 (103, .invokestatic 61, 3) (List.mem_of_getElem? (i := 13) rfl)
theorem d_Warp_begin_106 : decode prog_10_method_2_code 106 = .ok (.aload_n 0, 1) := id_Warp_begin_2 (106, .aload_n 0, 1) (List.mem_of_getElem? (i := 14) rfl)
theorem d_Warp_begin_107 : decode prog_10_method_2_code 107 = .ok (.getfield 21, 3) := id_Warp_begin_2 (107, .getfield 21, 3) (List.mem_of_getElem? (i := 15) rfl)
theorem d_Warp_begin_110 : decode prog_10_method_2_code 110 = .ok (.iconst 0, 1) := id_Warp_begin_2 (110, .iconst 0, 1) (List.mem_of_getElem? (i := 16) rfl)
theorem d_Warp_begin_111 : decode prog_10_method_2_code 111 = .ok (.invokestatic 61, 3) := id_Warp_begin_2 (111, .invokestatic 61, 3) (List.mem_of_getElem? (i := 17) rfl)
theorem d_Warp_begin_114 : decode prog_10_method_2_code 114 = .ok (.aload_n 0, 1) := id_Warp_begin_2 (114, .aload_n 0, 1) (List.mem_of_getElem? (i := 18) rfl)
theorem d_Warp_begin_115 : decode prog_10_method_2_code 115 = .ok (.getfield 9, 3) := id_Warp_begin_2 (115, .getfield 9, 3) (List.mem_of_getElem? (i := 19) rfl)
theorem d_Warp_begin_118 : decode prog_10_method_2_code 118 = .ok (.iconst 0, 1) := id_Warp_begin_2 (118, .iconst 0, 1) (List.mem_of_getElem? (i := 20) rfl)
theorem d_Warp_begin_119 : decode prog_10_method_2_code 119 = .ok (.invokestatic 61, 3) := id_Warp_begin_2 (119, .invokestatic 61, 3) (List.mem_of_getElem? (i := 21) rfl)
theorem d_Warp_begin_122 : decode prog_10_method_2_code 122 = .ok (.aload_n 0, 1) := id_Warp_begin_2 (122, .aload_n 0, 1) (List.mem_of_getElem? (i := 22) rfl)
theorem d_Warp_begin_123 : decode prog_10_method_2_code 123 = .ok (.getfield 15, 3) := id_Warp_begin_2 (123, .getfield 15, 3) (List.mem_of_getElem? (i := 23) rfl)
def it_Warp_begin_3 : List (Nat × ClassFile.Instr × Nat) := [(126, .iconst 0, 1), (127, .invokestatic 61, 3), (130, .return_, 1)]
theorem id_Warp_begin_3 : ∀ q ∈ it_Warp_begin_3, decode prog_10_method_2_code q.1 = .ok q.2 := by decide +kernel
theorem d_Warp_begin_126 : decode prog_10_method_2_code 126 = .ok (.iconst 0, 1) := id_Warp_begin_3 (126, .iconst 0, 1) (List.mem_of_getElem? (i := 0) rfl)
theorem d_Warp_begin_127 : decode prog_10_method_2_code 127 = .ok (.invokestatic 61, 3) := id_Warp_begin_3 (127, .invokestatic 61, 3) (List.mem_of_getElem? (i := 1) rfl)
theorem d_Warp_begin_130 : decode prog_10_method_2_code 130 = .ok (.return_, 1) := id_Warp_begin_3 (130, .return_, 1) (List.mem_of_getElem? (i := 2) rfl)
theorem wC_Warp_begin : Cond.code ⟨"WarpMill$Warp", "begin", "(LWarpMill$Block;II)V"⟩ prog_10_method_2_code 5 (none) ∈ lw_tb := mem_tb 804 (by decide +kernel) rfl
theorem cw_Warp_begin_Arrays_fill : cW mi_Warp_begin mi_Arrays_fill 2 := ⟨wC_Arrays_fill, wi_Arrays, ⟨by decide, by decide, by decide +kernel⟩, by decide, by decide⟩
def b_Warp_begin_98 (F : Nat) (x0 : Nat) (h : Hp) : Option Hp := gd (hK h x0 = 9) <| rq h (hR h 523 x0) 100 fun a_99_2 => clv (f_Arrays_fill F (some a_99_2) (0 : Int32) h) fun h_103 => gd (hK h_103 x0 = 9) <| rq h_103 (hR h_103 524 x0) 100 fun a_107_2 => clv (f_Arrays_fill F (some a_107_2) (0 : Int32) h_103) fun h_111 => gd (hK h_111 x0 = 9) <| rq h_111 (hR h_111 526 x0) 100 fun a_115_2 => clv (f_Arrays_fill F (some a_115_2) (0 : Int32) h_111) fun h_119 => gd (hK h_119 x0 = 9) <| rq h_119 (hR h_119 527 x0) 100 fun a_123_2 => clv (f_Arrays_fill F (some a_123_2) (0 : Int32) h_119) fun h_127 => some h_127
set_option maxRecDepth 100000 in
set_option maxHeartbeats 4000000 in
theorem e_Warp_begin_98 {G : Gl} (hw : gF G) {h0 : Hp} {F : Nat} {h' : Hp}   {x0 : Nat} {h : Hp} (hf : b_Warp_begin_98 F x0 h = some h') : Go G mi_Warp_begin h0 (pV h') h 98 [(0, .ref x0)] [] := by
  unfold b_Warp_begin_98 at hf
  refine g_aload_n d_Warp_begin_98 rfl ?_
  obtain ⟨k_99, hf⟩ := gd_s hf
  obtain ⟨a_99_2, e_99_2, k_99_2, hf⟩ := rq_s hf
  refine fgs_Warp_registers lf_Warp_18 d_Warp_begin_99 k_99 e_99_2 ?_
  refine g_iconst 0 d_Warp_begin_102 (by decide) ?_
  obtain ⟨h_103, e_103, hf⟩ := clv_s hf
  refine g_callS (mz := mi_Arrays_fill) (e_Arrays_fill hw e_103) cw_Warp_begin_Arrays_fill lm_Warp_61 wS_Arrays_fill d_Warp_begin_103 rfl rfl (by first | exact Nat.le_of_ble_eq_true rfl | simp [cat_rf, Value.category]) (fun r1 h1 hp hro => ?_)
  obtain ⟨rfl, rfl⟩ := hp
  dsimp only [Option.toList_some, Option.toList_none, List.cons_append, List.nil_append]
  refine g_aload_n d_Warp_begin_106 rfl ?_
  obtain ⟨k_107, hf⟩ := gd_s hf
  obtain ⟨a_107_2, e_107_2, k_107_2, hf⟩ := rq_s hf
  refine fgs_Warp_places lf_Warp_21 d_Warp_begin_107 k_107 e_107_2 ?_
  refine g_iconst 0 d_Warp_begin_110 (by decide) ?_
  obtain ⟨h_111, e_111, hf⟩ := clv_s hf
  refine g_callS (mz := mi_Arrays_fill) (e_Arrays_fill hw e_111) cw_Warp_begin_Arrays_fill lm_Warp_61 wS_Arrays_fill d_Warp_begin_111 rfl rfl (by first | exact Nat.le_of_ble_eq_true rfl | simp [cat_rf, Value.category]) (fun r1 h1 hp hro => ?_)
  obtain ⟨rfl, rfl⟩ := hp
  dsimp only [Option.toList_some, Option.toList_none, List.cons_append, List.nil_append]
  refine g_aload_n d_Warp_begin_114 rfl ?_
  obtain ⟨k_115, hf⟩ := gd_s hf
  obtain ⟨a_115_2, e_115_2, k_115_2, hf⟩ := rq_s hf
  refine fgs_Warp_predicates lf_Warp_9 d_Warp_begin_115 k_115 e_115_2 ?_
  refine g_iconst 0 d_Warp_begin_118 (by decide) ?_
  obtain ⟨h_119, e_119, hf⟩ := clv_s hf
  refine g_callS (mz := mi_Arrays_fill) (e_Arrays_fill hw e_119) cw_Warp_begin_Arrays_fill lm_Warp_61 wS_Arrays_fill d_Warp_begin_119 rfl rfl (by first | exact Nat.le_of_ble_eq_true rfl | simp [cat_rf, Value.category]) (fun r1 h1 hp hro => ?_)
  obtain ⟨rfl, rfl⟩ := hp
  dsimp only [Option.toList_some, Option.toList_none, List.cons_append, List.nil_append]
  refine g_aload_n d_Warp_begin_122 rfl ?_
  obtain ⟨k_123, hf⟩ := gd_s hf
  obtain ⟨a_123_2, e_123_2, k_123_2, hf⟩ := rq_s hf
  refine fgs_Warp_ticks lf_Warp_15 d_Warp_begin_123 k_123 e_123_2 ?_
  refine g_iconst 0 d_Warp_begin_126 (by decide) ?_
  obtain ⟨h_127, e_127, hf⟩ := clv_s hf
  refine g_callS (mz := mi_Arrays_fill) (e_Arrays_fill hw e_127) cw_Warp_begin_Arrays_fill lm_Warp_61 wS_Arrays_fill d_Warp_begin_127 rfl rfl (by first | exact Nat.le_of_ble_eq_true rfl | simp [cat_rf, Value.category]) (fun r1 h1 hp hro => ?_)
  obtain ⟨rfl, rfl⟩ := hp
  dsimp only [Option.toList_some, Option.toList_none, List.cons_append, List.nil_append]
  exact Go.ret none trivial rfl d_Warp_begin_130 (pV_of hf)
def b_Warp_begin_47 (F : Nat) (x0 : Nat) (x3 : Int32) (s0 : Nat) (s1 : Int32) (h : Hp) : Option Hp := gd (hK h s0 = 9) <| pw (sI h 515 s0 s1) fun h_47_2 => gd (hK h_47_2 x0 = 9) <| pw (sI h_47_2 516 x0 (0 : Int32)) fun h_52_2 => pw (sI h_52_2 517 x0 (0 : Int32)) fun h_57 => pw (sI h_57 522 x0 (0 : Int32)) fun h_62 => rq h_62 (hR h_62 524 x0) 100 fun a_66 => if x3 ≤ (nI (hN h_62 a_66)) then (b_Warp_begin_98 F x0 h_62) else (gd (¬ (x3 * (16 : Int32)) < 0) <| gd ((Int32.toNatClampNeg (x3 * (16 : Int32))) * 4 ≤ 536870912) <| pw (hT h_62) fun a_79_2 => pw (nw h_62 100 (Int32.toNatClampNeg (x3 * (16 : Int32))) (Int32.toNatClampNeg (x3 * (16 : Int32)))) fun h_79_3 => gd (hK h_79_3 x0 = 9) <| pw (sR h_79_3 523 x0 (some a_79_2)) fun h_81_2 => gd (¬ x3 < 0) <| gd ((Int32.toNatClampNeg x3) * 4 ≤ 536870912) <| pw (hT h_81_2) fun a_86_2 => pw (nw h_81_2 100 (Int32.toNatClampNeg x3) (Int32.toNatClampNeg x3)) fun h_86_3 => gd (hK h_86_3 x0 = 9) <| pw (sR h_86_3 524 x0 (some a_86_2)) fun h_88_2 => gd (¬ x3 < 0) <| gd ((Int32.toNatClampNeg x3) * 4 ≤ 536870912) <| pw (hT h_88_2) fun a_93_2 => pw (nw h_88_2 100 (Int32.toNatClampNeg x3) (Int32.toNatClampNeg x3)) fun h_93_3 => gd (hK h_93_3 x0 = 9) <| pw (sR h_93_3 525 x0 (some a_93_2)) fun h_95_2 => b_Warp_begin_98 F x0 h_95_2)
set_option maxRecDepth 100000 in
set_option maxHeartbeats 4000000 in
theorem e_Warp_begin_47 {G : Gl} (hw : gF G) {h0 : Hp} {F : Nat} {h' : Hp}   {x0 : Nat} {x3 : Int32} {s0 : Nat} {s1 : Int32} {h : Hp} (hf : b_Warp_begin_47 F x0 x3 s0 s1 h = some h') : Go G mi_Warp_begin h0 (pV h') h 47 [(0, .ref x0), (3, .int x3)] [.int s1, .ref s0] := by
  unfold b_Warp_begin_47 at hf
  obtain ⟨k_47, hf⟩ := gd_s hf
  refine fp_Warp_present hw lf_Warp_49 d_Warp_begin_47 k_47 ?_
  have hf := pw_b hf
  refine g_aload_n d_Warp_begin_50 rfl ?_
  refine g_iconst 0 d_Warp_begin_51 (by decide) ?_
  obtain ⟨k_52, hf⟩ := gd_s hf
  refine fp_Warp_ended hw lf_Warp_52 d_Warp_begin_52 k_52 ?_
  have hf := pw_b hf
  refine g_aload_n d_Warp_begin_55 rfl ?_
  refine g_iconst 0 d_Warp_begin_56 (by decide) ?_
  refine fp_Warp_waiting hw lf_Warp_55 d_Warp_begin_57 (kksI k_52) ?_
  have hf := pw_b hf
  refine g_aload_n d_Warp_begin_60 rfl ?_
  refine g_iconst 0 d_Warp_begin_61 (by decide) ?_
  refine fp_Warp_memoryTick hw lf_Warp_58 d_Warp_begin_62 (kksI (kksI k_52)) ?_
  have hf := pw_b hf
  refine g_aload_n d_Warp_begin_65 rfl ?_
  obtain ⟨a_66, e_66, k_66, hf⟩ := rq_s hf
  refine fgs_Warp_places lf_Warp_21 d_Warp_begin_66 (kksI (kksI (kksI k_52))) e_66 ?_
  refine g_alen k_66 (by decide) rfl d_Warp_begin_69 ?_
  refine g_iload_n d_Warp_begin_70 rfl ?_
  refine g_icmp_ge 98 d_Warp_begin_71 (by decide) (fun c_71 => ?_) (fun c_71 => ?_)
  · have hf := ifp hf c_71
    refine Go.locals [0] rfl ?_
    have key := e_Warp_begin_98 hw (G := G) (h0 := h0)  hf
    exact key
  · have hf := ifn hf c_71
    refine g_aload_n d_Warp_begin_74 rfl ?_
    refine g_iload_n d_Warp_begin_75 rfl ?_
    refine g_bipush (16) d_Warp_begin_76 (by decide) ?_
    refine g_imul d_Warp_begin_78 ?_
    obtain ⟨z_79, hf⟩ := gd_s hf
    obtain ⟨y_79, hf⟩ := gd_s hf
    obtain ⟨a_79_2, e_79_2, hf⟩ := pw_s hf
    refine g_newai _ z_79 rfl y_79 wA_int d_Warp_begin_79 ?_
    refine Go.kn (fun k_79_2 => ?_)
    rw [← e_79_2] at k_79_2 ⊢
    have hf := pw_b hf
    obtain ⟨k_81, hf⟩ := gd_s hf
    refine fp_Warp_registers hw (some a_79_2) rfl lf_Warp_18 d_Warp_begin_81 k_81 ?_
    have hf := pw_b hf
    refine g_aload_n d_Warp_begin_84 rfl ?_
    refine g_iload_n d_Warp_begin_85 rfl ?_
    obtain ⟨z_86, hf⟩ := gd_s hf
    obtain ⟨y_86, hf⟩ := gd_s hf
    obtain ⟨a_86_2, e_86_2, hf⟩ := pw_s hf
    refine g_newai _ z_86 rfl y_86 wA_int d_Warp_begin_86 ?_
    refine Go.kn (fun k_86_2 => ?_)
    rw [← e_86_2] at k_86_2 ⊢
    have hf := pw_b hf
    obtain ⟨k_88, hf⟩ := gd_s hf
    refine fp_Warp_places hw (some a_86_2) rfl lf_Warp_21 d_Warp_begin_88 k_88 ?_
    have hf := pw_b hf
    refine g_aload_n d_Warp_begin_91 rfl ?_
    refine g_iload_n d_Warp_begin_92 rfl ?_
    obtain ⟨z_93, hf⟩ := gd_s hf
    obtain ⟨y_93, hf⟩ := gd_s hf
    obtain ⟨a_93_2, e_93_2, hf⟩ := pw_s hf
    refine g_newai _ z_93 rfl y_93 wA_int d_Warp_begin_93 ?_
    refine Go.kn (fun k_93_2 => ?_)
    rw [← e_93_2] at k_93_2 ⊢
    have hf := pw_b hf
    obtain ⟨k_95, hf⟩ := gd_s hf
    refine fp_Warp_row hw (some a_93_2) rfl lf_Warp_24 d_Warp_begin_95 k_95 ?_
    have hf := pw_b hf
    refine Go.locals [0] rfl ?_
    have key := e_Warp_begin_98 hw (G := G) (h0 := h0)  hf
    exact key
def f_Warp_begin (F : Nat) (x0 : Nat) (x1 : Option Nat) (x2 : Int32) (x3 : Int32) (h : Hp) : Option Hp := gd (hK h x0 = 9) <| pw (sR h 512 x0 x1) fun h_2_2 => pw (sI h_2_2 513 x0 x2) fun h_7 => pw (sI h_7 514 x0 x3) fun h_12 => rq h_12 x1 8 fun a_16 => if (if x3 < ((hI h_12 452 a_16) - (x2 * x3)) then x3 else ((hI h_12 452 a_16) - (x2 * x3))) < (32 : Int32) then (b_Warp_begin_47 F x0 x3 x0 (((1 : Int32) <<< ((if x3 < ((hI h_12 452 a_16) - (x2 * x3)) then x3 else ((hI h_12 452 a_16) - (x2 * x3))) &&& 31)) - (1 : Int32)) h_12) else (b_Warp_begin_47 F x0 x3 x0 (-1 : Int32) h_12)
set_option maxRecDepth 100000 in
set_option maxHeartbeats 4000000 in
theorem e_Warp_begin {G : Gl} (hw : gF G) {F : Nat} {h' : Hp} {x0 : Nat} {x1 : Option Nat} {x2 : Int32} {x3 : Int32} {h : Hp} (hf : f_Warp_begin F x0 x1 x2 x3 h = some h') : Ex G mi_Warp_begin [.ref x0, va_rf x1, .int x2, .int x3] h (pV h') := by
  unfold f_Warp_begin at hf
  refine Ex.of nmV (by decide) (by cases x1 <;> exact Nat.le_of_ble_eq_true rfl) ?_
  rw [show lv_args 0 [.ref x0, va_rf x1, .int x2, .int x3] = [(0, .ref x0), (1, va_rf x1), (2, .int x2), (3, .int x3)] from by cases x1 <;> rfl]
  show Go G mi_Warp_begin h _ h 0 [(0, .ref x0), (1, va_rf x1), (2, .int x2), (3, .int x3)] []
  refine g_aload_n d_Warp_begin_0 rfl ?_
  refine g_aload_nq (r := x1) d_Warp_begin_1 rfl ?_
  obtain ⟨k_2, hf⟩ := gd_s hf
  refine fp_Warp_block hw x1 rfl lf_Warp_27 d_Warp_begin_2 k_2 ?_
  have hf := pw_b hf
  refine g_aload_n d_Warp_begin_5 rfl ?_
  refine g_iload_n d_Warp_begin_6 rfl ?_
  refine fp_Warp_number hw lf_Warp_31 d_Warp_begin_7 (kksR k_2) ?_
  have hf := pw_b hf
  refine g_aload_n d_Warp_begin_10 rfl ?_
  refine g_iload_n d_Warp_begin_11 rfl ?_
  refine fp_Warp_lanes hw lf_Warp_35 d_Warp_begin_12 (kksI (kksR k_2)) ?_
  have hf := pw_b hf
  refine g_aload_nq (r := x1) d_Warp_begin_15 rfl ?_
  obtain ⟨a_16, rfl, k_16, hf⟩ := rq_s hf
  refine fg_Block_threads lf_Warp_38 d_Warp_begin_16 k_16 ?_
  refine g_iload_n d_Warp_begin_19 rfl ?_
  refine g_iload_n d_Warp_begin_20 rfl ?_
  refine g_imul d_Warp_begin_21 ?_
  refine g_isub d_Warp_begin_22 ?_
  refine g_iload_n d_Warp_begin_23 rfl ?_
  refine g_mmin lm_Warp_43 wS_Math_min wi_Math wC_Math_min (Nat.le_of_ble_eq_true rfl) (Nat.le_of_ble_eq_true rfl) d_Warp_begin_24 ?_
  refine g_istore d_Warp_begin_27 (by decide) ?_
  show Go _ _ _ _ _ _ [(0, _), (1, _), (2, _), (3, _), (4, _)] _
  refine g_aload_n d_Warp_begin_29 rfl ?_
  refine g_iload d_Warp_begin_30 rfl ?_
  refine g_bipush (32) d_Warp_begin_32 (by decide) ?_
  refine g_icmp_lt 41 d_Warp_begin_34 (by decide) (fun c_34 => ?_) (fun c_34 => ?_)
  · have hf := ifp hf c_34
    refine g_iconst 1 d_Warp_begin_41 (by decide) ?_
    refine g_iload d_Warp_begin_42 rfl ?_
    refine g_ishl d_Warp_begin_44 ?_
    refine g_iconst 1 d_Warp_begin_45 (by decide) ?_
    refine g_isub d_Warp_begin_46 ?_
    refine Go.locals [0, 3] rfl ?_
    have key := e_Warp_begin_47 hw (G := G) (h0 := h)  hf
    exact key
  · have hf := ifn hf c_34
    refine g_iconst (-1) d_Warp_begin_37 (by decide) ?_
    refine g_goto 47 d_Warp_begin_38 (by decide) ?_
    refine Go.locals [0, 3] rfl ?_
    have key := e_Warp_begin_47 hw (G := G) (h0 := h)  hf
    exact key
abbrev mi_WM_in : MI := (⟨"WarpMill", "in", "(II)Z"⟩, prog_1_method_26_code, 2, some .boolean, 0, 0)
def it_WM_in_0 : List (Nat × ClassFile.Instr × Nat) := [(0, .iload_n 0, 1), (1, .iload_n 1, 1), (2, .iushr, 1), (3, .iconst 1, 1), (4, .iand, 1), (5, .ifCond .eq (7), 3), (8, .iconst 1, 1), (9, .goto (4), 3), (12, .iconst 0, 1), (13, .ireturn, 1)]
theorem id_WM_in_0 : ∀ q ∈ it_WM_in_0, decode prog_1_method_26_code q.1 = .ok q.2 := by decide +kernel
theorem d_WM_in_0 : decode prog_1_method_26_code 0 = .ok (.iload_n 0, 1) := id_WM_in_0 (0, .iload_n 0, 1) (List.mem_of_getElem? (i := 0) rfl)
theorem d_WM_in_1 : decode prog_1_method_26_code 1 = .ok (.iload_n 1, 1) := id_WM_in_0 (1, .iload_n 1, 1) (List.mem_of_getElem? (i := 1) rfl)
theorem d_WM_in_2 : decode prog_1_method_26_code 2 = .ok (.iushr, 1) := id_WM_in_0 (2, .iushr, 1) (List.mem_of_getElem? (i := 2) rfl)
theorem d_WM_in_3 : decode prog_1_method_26_code 3 = .ok (.iconst 1, 1) := id_WM_in_0 (3, .iconst 1, 1) (List.mem_of_getElem? (i := 3) rfl)
theorem d_WM_in_4 : decode prog_1_method_26_code 4 = .ok (.iand, 1) := id_WM_in_0 (4, .iand, 1) (List.mem_of_getElem? (i := 4) rfl)
theorem d_WM_in_5 : decode prog_1_method_26_code 5 = .ok (.ifCond .eq (7), 3) := id_WM_in_0 (5, .ifCond .eq (7), 3) (List.mem_of_getElem? (i := 5) rfl)
theorem d_WM_in_8 : decode prog_1_method_26_code 8 = .ok (.iconst 1, 1) := id_WM_in_0 (8, .iconst 1, 1) (List.mem_of_getElem? (i := 6) rfl)
theorem d_WM_in_9 : decode prog_1_method_26_code 9 = .ok (.goto (4), 3) := id_WM_in_0 (9, .goto (4), 3) (List.mem_of_getElem? (i := 7) rfl)
theorem d_WM_in_12 : decode prog_1_method_26_code 12 = .ok (.iconst 0, 1) := id_WM_in_0 (12, .iconst 0, 1) (List.mem_of_getElem? (i := 8) rfl)
theorem d_WM_in_13 : decode prog_1_method_26_code 13 = .ok (.ireturn, 1) := id_WM_in_0 (13, .ireturn, 1) (List.mem_of_getElem? (i := 9) rfl)
theorem wC_WM_in : Cond.code ⟨"WarpMill", "in", "(II)Z"⟩ prog_1_method_26_code 2 (some .boolean) ∈ lw_tb := mem_tb 815 (by decide +kernel) rfl
def f_WM_in (F : Nat) (x0 : Int32) (x1 : Int32) (h : Hp) : Option (Int32 × Hp) := if ((ushr x0 x1) &&& (1 : Int32)) = 0 then (some ((0 : Int32), h)) else (some ((1 : Int32), h))
set_option maxRecDepth 100000 in
set_option maxHeartbeats 4000000 in
theorem e_WM_in {G : Gl} {F : Nat} {r : Int32} {h' : Hp} {x0 : Int32} {x1 : Int32} {h : Hp} (hf : f_WM_in F x0 x1 h = some (r, h')) : Ex G mi_WM_in [.int x0, .int x1] h (pI r h') := by
  unfold f_WM_in at hf
  refine Ex.of nmI (by decide) (Nat.le_of_ble_eq_true rfl) ?_
  show Go G mi_WM_in h _ h 0 [(0, .int x0), (1, .int x1)] []
  refine g_iload_n d_WM_in_0 rfl ?_
  refine g_iload_n d_WM_in_1 rfl ?_
  refine g_iushr d_WM_in_2 ?_
  refine g_iconst 1 d_WM_in_3 (by decide) ?_
  refine g_iand d_WM_in_4 ?_
  refine g_if_eq 12 d_WM_in_5 (by decide) (fun c_5 => ?_) (fun c_5 => ?_)
  · have hf := ifp hf c_5
    refine g_iconst 0 d_WM_in_12 (by decide) ?_
    exact Go.ret (some _) rOk_b0 rfl d_WM_in_13 (pI_of hf)
  · have hf := ifn hf c_5
    refine g_iconst 1 d_WM_in_8 (by decide) ?_
    refine g_goto 13 d_WM_in_9 (by decide) ?_
    exact Go.ret (some _) rOk_b1 rfl d_WM_in_13 (pI_of hf)
abbrev mi_Warp_tickNeeded : MI := (⟨"WarpMill$Warp", "tickNeeded", "()I"⟩, prog_10_method_4_code, 3, some .int, 1, 21)
def it_Warp_tickNeeded_0 : List (Nat × ClassFile.Instr × Nat) := [(0, .aload_n 0, 1), (1, .getfield 77, 3), (4, .getfield 88, 3), (7, .ifCond .eq (10), 3), (10, .aload_n 0, 1), (11, .getfield 58, 3), (14, .goto (4), 3), (17, .iconst 0, 1), (18, .istore_n 1, 1), (19, .iconst 0, 1), (20, .istore_n 2, 1), (21, .iload_n 2, 1), (22, .aload_n 0, 1), (23, .getfield 15, 3), (26, .arraylength, 1), (27, .if_icmp .ge (34), 3), (30, .aload_n 0, 1), (31, .getfield 77, 3), (34, .getfield 94, 3), (37, .iload_n 2, 1), (38, .iushr, 1), (39, .iconst 1, 1), (40, .iand, 1), (41, .ifCond .eq (14), 3)]
theorem id_Warp_tickNeeded_0 : ∀ q ∈ it_Warp_tickNeeded_0, decode prog_10_method_4_code q.1 = .ok q.2 := by decide +kernel
theorem d_Warp_tickNeeded_0 : decode prog_10_method_4_code 0 = .ok (.aload_n 0, 1) := id_Warp_tickNeeded_0 (0, .aload_n 0, 1) (List.mem_of_getElem? (i := 0) rfl)
theorem d_Warp_tickNeeded_1 : decode prog_10_method_4_code 1 = .ok (.getfield 77, 3) := id_Warp_tickNeeded_0 (1, .getfield 77, 3) (List.mem_of_getElem? (i := 1) rfl)
theorem d_Warp_tickNeeded_4 : decode prog_10_method_4_code 4 = .ok (.getfield 88, 3) := id_Warp_tickNeeded_0 (4, .getfield 88, 3) (List.mem_of_getElem? (i := 2) rfl)
theorem d_Warp_tickNeeded_7 : decode prog_10_method_4_code 7 = .ok (.ifCond .eq (10), 3) := id_Warp_tickNeeded_0 (7, .ifCond .eq (10), 3) (List.mem_of_getElem? (i := 3) rfl)
theorem d_Warp_tickNeeded_10 : decode prog_10_method_4_code 10 = .ok (.aload_n 0, 1) := id_Warp_tickNeeded_0 (10, .aload_n 0, 1) (List.mem_of_getElem? (i := 4) rfl)
theorem d_Warp_tickNeeded_11 : decode prog_10_method_4_code 11 = .ok (.getfield 58, 3) := id_Warp_tickNeeded_0 (11, .getfield 58, 3) (List.mem_of_getElem? (i := 5) rfl)
theorem d_Warp_tickNeeded_14 : decode prog_10_method_4_code 14 = .ok (.goto (4), 3) := id_Warp_tickNeeded_0 (14, .goto (4), 3) (List.mem_of_getElem? (i := 6) rfl)
theorem d_Warp_tickNeeded_17 : decode prog_10_method_4_code 17 = .ok (.iconst 0, 1) := id_Warp_tickNeeded_0 (17, .iconst 0, 1) (List.mem_of_getElem? (i := 7) rfl)
theorem d_Warp_tickNeeded_18 : decode prog_10_method_4_code 18 = .ok (.istore_n 1, 1) := id_Warp_tickNeeded_0 (18, .istore_n 1, 1) (List.mem_of_getElem? (i := 8) rfl)
theorem d_Warp_tickNeeded_19 : decode prog_10_method_4_code 19 = .ok (.iconst 0, 1) := id_Warp_tickNeeded_0 (19, .iconst 0, 1) (List.mem_of_getElem? (i := 9) rfl)
theorem d_Warp_tickNeeded_20 : decode prog_10_method_4_code 20 = .ok (.istore_n 2, 1) := id_Warp_tickNeeded_0 (20, .istore_n 2, 1) (List.mem_of_getElem? (i := 10) rfl)
theorem d_Warp_tickNeeded_21 : decode prog_10_method_4_code 21 = .ok (.iload_n 2, 1) := id_Warp_tickNeeded_0 (21, .iload_n 2, 1) (List.mem_of_getElem? (i := 11) rfl)
theorem d_Warp_tickNeeded_22 : decode prog_10_method_4_code 22 = .ok (.aload_n 0, 1) := id_Warp_tickNeeded_0 (22, .aload_n 0, 1) (List.mem_of_getElem? (i := 12) rfl)
theorem d_Warp_tickNeeded_23 : decode prog_10_method_4_code 23 = .ok (.getfield 15, 3) := id_Warp_tickNeeded_0 (23, .getfield 15, 3) (List.mem_of_getElem? (i := 13) rfl)
theorem d_Warp_tickNeeded_26 : decode prog_10_method_4_code 26 = .ok (.arraylength, 1) := id_Warp_tickNeeded_0 (26, .arraylength, 1) (List.mem_of_getElem? (i := 14) rfl)
theorem d_Warp_tickNeeded_27 : decode prog_10_method_4_code 27 = .ok (.if_icmp .ge (34), 3) := id_Warp_tickNeeded_0 (27, .if_icmp .ge (34), 3) (List.mem_of_getElem? (i := 15) rfl)
theorem d_Warp_tickNeeded_30 : decode prog_10_method_4_code 30 = .ok (.aload_n 0, 1) := id_Warp_tickNeeded_0 (30, .aload_n 0, 1) (List.mem_of_getElem? (i := 16) rfl)
theorem d_Warp_tickNeeded_31 : decode prog_10_method_4_code 31 = .ok (.getfield 77, 3) := id_Warp_tickNeeded_0 (31, .getfield 77, 3) (List.mem_of_getElem? (i := 17) rfl)
theorem d_Warp_tickNeeded_34 : decode prog_10_method_4_code 34 = .ok (.getfield 94, 3) := id_Warp_tickNeeded_0 (34, .getfield 94, 3) (List.mem_of_getElem? (i := 18) rfl)
theorem d_Warp_tickNeeded_37 : decode prog_10_method_4_code 37 = .ok (.iload_n 2, 1) := id_Warp_tickNeeded_0 (37, .iload_n 2, 1) (List.mem_of_getElem? (i := 19) rfl)
theorem d_Warp_tickNeeded_38 : decode prog_10_method_4_code 38 = .ok (.iushr, 1) := id_Warp_tickNeeded_0 (38, .iushr, 1) (List.mem_of_getElem? (i := 20) rfl)
theorem d_Warp_tickNeeded_39 : decode prog_10_method_4_code 39 = .ok (.iconst 1, 1) := id_Warp_tickNeeded_0 (39, .iconst 1, 1) (List.mem_of_getElem? (i := 21) rfl)
theorem d_Warp_tickNeeded_40 : decode prog_10_method_4_code 40 = .ok (.iand, 1) := id_Warp_tickNeeded_0 (40, .iand, 1) (List.mem_of_getElem? (i := 22) rfl)
theorem d_Warp_tickNeeded_41 : decode prog_10_method_4_code 41 = .ok (.ifCond .eq (14), 3) := id_Warp_tickNeeded_0 (41, .ifCond .eq (14), 3) (List.mem_of_getElem? (i := 23) rfl)
def it_Warp_tickNeeded_1 : List (Nat × ClassFile.Instr × Nat) := [(44, .iload_n 1, 1), (45, .aload_n 0, 1), (46, .getfield 15, 3), (49, .iload_n 2, 1), (50, .iaload, 1), (51, .invokestatic 97, 3), (54, .istore_n 1, 1), (55, .iinc 2 (1), 3), (58, .goto (-37), 3), (61, .iload_n 1, 1), (62, .ireturn, 1)]
theorem id_Warp_tickNeeded_1 : ∀ q ∈ it_Warp_tickNeeded_1, decode prog_10_method_4_code q.1 = .ok q.2 := by decide +kernel
theorem d_Warp_tickNeeded_44 : decode prog_10_method_4_code 44 = .ok (.iload_n 1, 1) := id_Warp_tickNeeded_1 (44, .iload_n 1, 1) (List.mem_of_getElem? (i := 0) rfl)
theorem d_Warp_tickNeeded_45 : decode prog_10_method_4_code 45 = .ok (.aload_n 0, 1) := id_Warp_tickNeeded_1 (45, .aload_n 0, 1) (List.mem_of_getElem? (i := 1) rfl)
theorem d_Warp_tickNeeded_46 : decode prog_10_method_4_code 46 = .ok (.getfield 15, 3) := id_Warp_tickNeeded_1 (46, .getfield 15, 3) (List.mem_of_getElem? (i := 2) rfl)
theorem d_Warp_tickNeeded_49 : decode prog_10_method_4_code 49 = .ok (.iload_n 2, 1) := id_Warp_tickNeeded_1 (49, .iload_n 2, 1) (List.mem_of_getElem? (i := 3) rfl)
theorem d_Warp_tickNeeded_50 : decode prog_10_method_4_code 50 = .ok (.iaload, 1) := id_Warp_tickNeeded_1 (50, .iaload, 1) (List.mem_of_getElem? (i := 4) rfl)
theorem d_Warp_tickNeeded_51 : decode prog_10_method_4_code 51 = .ok (.invokestatic 97, 3) := id_Warp_tickNeeded_1 (51, .invokestatic 97, 3) (List.mem_of_getElem? (i := 5) rfl)
theorem d_Warp_tickNeeded_54 : decode prog_10_method_4_code 54 = .ok (.istore_n 1, 1) := id_Warp_tickNeeded_1 (54, .istore_n 1, 1) (List.mem_of_getElem? (i := 6) rfl)
theorem d_Warp_tickNeeded_55 : decode prog_10_method_4_code 55 = .ok (.iinc 2 (1), 3) := id_Warp_tickNeeded_1 (55, .iinc 2 (1), 3) (List.mem_of_getElem? (i := 7) rfl)
theorem d_Warp_tickNeeded_58 : decode prog_10_method_4_code 58 = .ok (.goto (-37), 3) := id_Warp_tickNeeded_1 (58, .goto (-37), 3) (List.mem_of_getElem? (i := 8) rfl)
theorem d_Warp_tickNeeded_61 : decode prog_10_method_4_code 61 = .ok (.iload_n 1, 1) := id_Warp_tickNeeded_1 (61, .iload_n 1, 1) (List.mem_of_getElem? (i := 9) rfl)
theorem d_Warp_tickNeeded_62 : decode prog_10_method_4_code 62 = .ok (.ireturn, 1) := id_Warp_tickNeeded_1 (62, .ireturn, 1) (List.mem_of_getElem? (i := 10) rfl)
theorem wC_Warp_tickNeeded : Cond.code ⟨"WarpMill$Warp", "tickNeeded", "()I"⟩ prog_10_method_4_code 3 (some .int) ∈ lw_tb := mem_tb 819 (by decide +kernel) rfl
def b_Warp_tickNeeded_21 (F : Nat) : Nat → Nat → Int32 → Int32 → Hp → Option (Int32 × Hp)
  | 0 => fun _ _ _ _ => none
  | n + 1 => fun x0 x1 x2 h => gd (hK h x0 = 9) <| rq h (hR h 527 x0) 100 fun a_23_2 => if (nI (hN h a_23_2)) ≤ x2 then (some (x1, h)) else (rq h (hR h 520 x0) 10 fun a_31 => if ((ushr (hI h 589 a_31) x2) &&& (1 : Int32)) = 0 then (b_Warp_tickNeeded_21 F n x0 x1 (x2 + 1) h) else (ix x2 (hN h a_23_2) fun j_50 => b_Warp_tickNeeded_21 F n x0 (if x1 < (hA h a_23_2 j_50) then (hA h a_23_2 j_50) else x1) (x2 + 1) h))
set_option maxRecDepth 100000 in
set_option maxHeartbeats 4000000 in
theorem e_Warp_tickNeeded_21 {G : Gl} {h0 : Hp} {F : Nat} {r : Int32} {h' : Hp}   : ∀ (n : Nat) (x0 : Nat) (x1 : Int32) (x2 : Int32) (h : Hp), b_Warp_tickNeeded_21 F n x0 x1 x2 h = some (r, h') → Go G mi_Warp_tickNeeded h0 (pI r h') h 21 [(0, .ref x0), (1, .int x1), (2, .int x2)] [] := by
  intro n
  induction n with
  | zero =>
    intro _ _ _ _ hf
    exact nm_s hf
  | succ n ih =>
    intro x0 x1 x2 h hf
    unfold b_Warp_tickNeeded_21 at hf
    refine g_iload_n d_Warp_tickNeeded_21 rfl ?_
    refine g_aload_n d_Warp_tickNeeded_22 rfl ?_
    obtain ⟨k_23, hf⟩ := gd_s hf
    obtain ⟨a_23_2, e_23_2, k_23_2, hf⟩ := rq_s hf
    refine fgs_Warp_ticks lf_Warp_15 d_Warp_tickNeeded_23 k_23 e_23_2 ?_
    refine g_alen k_23_2 (by decide) rfl d_Warp_tickNeeded_26 ?_
    refine g_icmp_ge 61 d_Warp_tickNeeded_27 (by decide) (fun c_27 => ?_) (fun c_27 => ?_)
    · have hf := ifp hf c_27
      refine g_iload_n d_Warp_tickNeeded_61 rfl ?_
      exact Go.ret (some _) (rOk_i _) rfl d_Warp_tickNeeded_62 (pI_of hf)
    · have hf := ifn hf c_27
      refine g_aload_n d_Warp_tickNeeded_30 rfl ?_
      obtain ⟨a_31, e_31, k_31, hf⟩ := rq_s hf
      refine fgs_Warp_word lf_Warp_77 d_Warp_tickNeeded_31 k_23 e_31 ?_
      refine fg_Word_needed lf_Warp_94 d_Warp_tickNeeded_34 k_31 ?_
      refine g_iload_n d_Warp_tickNeeded_37 rfl ?_
      refine g_iushr d_Warp_tickNeeded_38 ?_
      refine g_iconst 1 d_Warp_tickNeeded_39 (by decide) ?_
      refine g_iand d_Warp_tickNeeded_40 ?_
      refine g_if_eq 55 d_Warp_tickNeeded_41 (by decide) (fun c_41 => ?_) (fun c_41 => ?_)
      · have hf := ifp hf c_41
        refine g_iinc (_ + 1) d_Warp_tickNeeded_55 rfl (by rfl) (by decide) ?_
        show Go _ _ _ _ _ _ [(0, _), (1, _), (2, _)] _
        refine g_goto 21 d_Warp_tickNeeded_58 (by decide) ?_
        exact ih _ _ _ _ hf
      · have hf := ifn hf c_41
        refine g_iload_n d_Warp_tickNeeded_44 rfl ?_
        refine g_aload_n d_Warp_tickNeeded_45 rfl ?_
        refine fgs_Warp_ticks lf_Warp_15 d_Warp_tickNeeded_46 k_23 e_23_2 ?_
        refine g_iload_n d_Warp_tickNeeded_49 rfl ?_
        obtain ⟨i_50, hf⟩ := ix_s hf
        refine g_iald k_23_2 i_50 d_Warp_tickNeeded_50 ?_
        refine g_mmax lm_Warp_97 wS_Math_max wi_Math wC_Math_max (Nat.le_of_ble_eq_true rfl) (Nat.le_of_ble_eq_true rfl) d_Warp_tickNeeded_51 ?_
        refine g_istore_n d_Warp_tickNeeded_54 (by decide) ?_
        show Go _ _ _ _ _ _ [(0, _), (1, _), (2, _)] _
        refine g_iinc (_ + 1) d_Warp_tickNeeded_55 rfl (by rfl) (by decide) ?_
        show Go _ _ _ _ _ _ [(0, _), (1, _), (2, _)] _
        refine g_goto 21 d_Warp_tickNeeded_58 (by decide) ?_
        exact ih _ _ _ _ hf
def b_Warp_tickNeeded_18 (F : Nat) (x0 : Nat) (s0 : Int32) (h : Hp) : Option (Int32 × Hp) := b_Warp_tickNeeded_21 F F x0 s0 (0 : Int32) h
set_option maxRecDepth 100000 in
set_option maxHeartbeats 4000000 in
theorem e_Warp_tickNeeded_18 {G : Gl} {h0 : Hp} {F : Nat} {r : Int32} {h' : Hp}   {x0 : Nat} {s0 : Int32} {h : Hp} (hf : b_Warp_tickNeeded_18 F x0 s0 h = some (r, h')) : Go G mi_Warp_tickNeeded h0 (pI r h') h 18 [(0, .ref x0)] [.int s0] := by
  unfold b_Warp_tickNeeded_18 at hf
  refine g_istore_n d_Warp_tickNeeded_18 (by decide) ?_
  show Go _ _ _ _ _ _ [(0, _), (1, _)] _
  refine g_iconst 0 d_Warp_tickNeeded_19 (by decide) ?_
  refine g_istore_n d_Warp_tickNeeded_20 (by decide) ?_
  show Go _ _ _ _ _ _ [(0, _), (1, _), (2, _)] _
  have key := e_Warp_tickNeeded_21 (G := G) (h0 := h0)  F _ _ _ _ hf
  exact key
def f_Warp_tickNeeded (F : Nat) (x0 : Nat) (h : Hp) : Option (Int32 × Hp) := gd (hK h x0 = 9) <| rq h (hR h 520 x0) 10 fun a_1_2 => if (hI h 587 a_1_2) = 0 then (b_Warp_tickNeeded_18 F x0 (0 : Int32) h) else (b_Warp_tickNeeded_18 F x0 (hI h 522 x0) h)
set_option maxRecDepth 100000 in
set_option maxHeartbeats 4000000 in
theorem e_Warp_tickNeeded {G : Gl} {F : Nat} {r : Int32} {h' : Hp} {x0 : Nat} {h : Hp} (hf : f_Warp_tickNeeded F x0 h = some (r, h')) : Ex G mi_Warp_tickNeeded [.ref x0] h (pI r h') := by
  unfold f_Warp_tickNeeded at hf
  refine Ex.of nmI (by decide) (Nat.le_of_ble_eq_true rfl) ?_
  show Go G mi_Warp_tickNeeded h _ h 0 [(0, .ref x0)] []
  refine g_aload_n d_Warp_tickNeeded_0 rfl ?_
  obtain ⟨k_1, hf⟩ := gd_s hf
  obtain ⟨a_1_2, e_1_2, k_1_2, hf⟩ := rq_s hf
  refine fgs_Warp_word lf_Warp_77 d_Warp_tickNeeded_1 k_1 e_1_2 ?_
  refine fg_Word_waitsForMemory lf_Warp_88 d_Warp_tickNeeded_4 k_1_2 ?_
  refine g_if_eq 17 d_Warp_tickNeeded_7 (by decide) (fun c_7 => ?_) (fun c_7 => ?_)
  · have hf := ifp hf c_7
    refine g_iconst 0 d_Warp_tickNeeded_17 (by decide) ?_
    have key := e_Warp_tickNeeded_18 (G := G) (h0 := h)  hf
    exact key
  · have hf := ifn hf c_7
    refine g_aload_n d_Warp_tickNeeded_10 rfl ?_
    refine fg_Warp_memoryTick lf_Warp_58 d_Warp_tickNeeded_11 k_1 ?_
    refine g_goto 18 d_Warp_tickNeeded_14 (by decide) ?_
    have key := e_Warp_tickNeeded_18 (G := G) (h0 := h)  hf
    exact key
