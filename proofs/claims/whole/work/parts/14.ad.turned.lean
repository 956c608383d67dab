abbrev mi_WM_clearForLaunch : MI := (⟨"WarpMill", "clearForLaunch", "()V"⟩, prog_1_method_16_code, 2, none, 3, 67)
def it_WM_clearForLaunch_0 : List (Nat × ClassFile.Instr × Nat) := [(0, .aload_n 0, 1), (1, .invokevirtual 117, 3), (4, .iconst 0, 1), (5, .istore_n 1, 1), (6, .iload_n 1, 1), (7, .aload_n 0, 1), (8, .getfield 38, 3), (11, .arraylength, 1), (12, .if_icmp .ge (25), 3), (15, .aload_n 0, 1), (16, .getfield 38, 3), (19, .iload_n 1, 1), (20, .aaload, 1), (21, .aload_n 0, 1), (22, .getfield 10, 3), (25, .getfield 51, 3), (28, .invokevirtual 182, 3), (31, .iinc 1 (1), 3), (34, .goto (-28), 3), (37, .aload_n 0, 1), (38, .getfield 25, 3), (41, .getfield 69, 3), (44, .invokevirtual 184, 3), (47, .return_, 1)]
theorem id_WM_clearForLaunch_0 : ∀ q ∈ it_WM_clearForLaunch_0, decode prog_1_method_16_code q.1 = .ok q.2 := by decide +kernel
theorem d_WM_clearForLaunch_0 : decode prog_1_method_16_code 0 = .ok (.aload_n 0, 1) := id_WM_clearForLaunch_0 (0, .aload_n 0, 1) (List.mem_of_getElem? (i := 0) rfl)
theorem d_WM_clearForLaunch_1 : decode prog_1_method_16_code 1 = .ok (.invokevirtual 117, 3) := id_WM_clearForLaunch_0 (1, .invokevirtual 117, 3) (List.mem_of_getElem? (i := 1) rfl)
theorem d_WM_clearForLaunch_4 : decode prog_1_method_16_code 4 = .ok (.iconst 0, 1) := id_WM_clearForLaunch_0 (4, .iconst 0, 1) (List.mem_of_getElem? (i := 2) rfl)
theorem d_WM_clearForLaunch_5 : decode prog_1_method_16_code 5 = .ok (.istore_n 1, 1) := id_WM_clearForLaunch_0 (5, .istore_n 1, 1) (List.mem_of_getElem? (i := 3) rfl)
theorem d_WM_clearForLaunch_6 : decode prog_1_method_16_code 6 = .ok (.iload_n 1, 1) := id_WM_clearForLaunch_0 (6, .iload_n 1, 1) (List.mem_of_getElem? (i := 4) rfl)
theorem d_WM_clearForLaunch_7 : decode prog_1_method_16_code 7 = .ok (.aload_n 0, 1) := id_WM_clearForLaunch_0 (7, .aload_n 0, 1) (List.mem_of_getElem? (i := 5) rfl)
theorem d_WM_clearForLaunch_8 : decode prog_1_method_16_code 8 = .ok (.getfield 38, 3) := id_WM_clearForLaunch_0 (8, .getfield 38, 3) (List.mem_of_getElem? (i := 6) rfl)
theorem d_WM_clearForLaunch_11 : decode prog_1_method_16_code 11 = .ok (.arraylength, 1) := id_WM_clearForLaunch_0 (11, .arraylength, 1) (List.mem_of_getElem? (i := 7) rfl)
theorem d_WM_clearForLaunch_12 : decode prog_1_method_16_code 12 = .ok (.if_icmp .ge (25), 3) := id_WM_clearForLaunch_0 (12, .if_icmp .ge (25), 3) (List.mem_of_getElem? (i := 8) rfl)
theorem d_WM_clearForLaunch_15 : decode prog_1_method_16_code 15 = .ok (.aload_n 0, 1) := id_WM_clearForLaunch_0 (15, .aload_n 0, 1) (List.mem_of_getElem? (i := 9) rfl)
theorem d_WM_clearForLaunch_16 : decode prog_1_method_16_code 16 = .ok (.getfield 38, 3) := id_WM_clearForLaunch_0 (16, .getfield 38, 3) (List.mem_of_getElem? (i := 10) rfl)
theorem d_WM_clearForLaunch_19 : decode prog_1_method_16_code 19 = .ok (.iload_n 1, 1) := id_WM_clearForLaunch_0 (19, .iload_n 1, 1) (List.mem_of_getElem? (i := 11) rfl)
theorem d_WM_clearForLaunch_20 : decode prog_1_method_16_code 20 = .ok (.aaload, 1) := id_WM_clearForLaunch_0 (20, .aaload, 1) (List.mem_of_getElem? (i := 12) rfl)
theorem d_WM_clearForLaunch_21 : decode prog_1_method_16_code 21 = .ok (.aload_n 0, 1) := id_WM_clearForLaunch_0 (21, .aload_n 0, 1) (List.mem_of_getElem? (i := 13) rfl)
theorem d_WM_clearForLaunch_22 : decode prog_1_method_16_code 22 = .ok (.getfield 10, 3) := id_WM_clearForLaunch_0 (22, .getfield 10, 3) (List.mem_of_getElem? (i := 14) rfl)
theorem d_WM_clearForLaunch_25 : decode prog_1_method_16_code 25 = .ok (.getfield 51, 3) := id_WM_clearForLaunch_0 (25, .getfield 51, 3) (List.mem_of_getElem? (i := 15) rfl)
theorem d_WM_clearForLaunch_28 : decode prog_1_method_16_code 28 = .ok (.invokevirtual 182, 3) := id_WM_clearForLaunch_0 (28, .invokevirtual 182, 3) (List.mem_of_getElem? (i := 16) rfl)
theorem d_WM_clearForLaunch_31 : decode prog_1_method_16_code 31 = .ok (.iinc 1 (1), 3) := id_WM_clearForLaunch_0 (31, .iinc 1 (1), 3) (List.mem_of_getElem? (i := 17) rfl)
theorem d_WM_clearForLaunch_34 : decode prog_1_method_16_code 34 = .ok (.goto (-28), 3) := id_WM_clearForLaunch_0 (34, .goto (-28), 3) (List.mem_of_getElem? (i := 18) rfl)
theorem d_WM_clearForLaunch_37 : decode prog_1_method_16_code 37 = .ok (.aload_n 0, 1) := id_WM_clearForLaunch_0 (37, .aload_n 0, 1) (List.mem_of_getElem? (i := 19) rfl)
theorem d_WM_clearForLaunch_38 : decode prog_1_method_16_code 38 = .ok (.getfield 25, 3) := id_WM_clearForLaunch_0 (38, .getfield 25, 3) (List.mem_of_getElem? (i := 20) rfl)
theorem d_WM_clearForLaunch_41 : decode prog_1_method_16_code 41 = .ok (.getfield 69, 3) := id_WM_clearForLaunch_0 (41, .getfield 69, 3) (List.mem_of_getElem? (i := 21) rfl)
theorem d_WM_clearForLaunch_44 : decode prog_1_method_16_code 44 = .ok (.invokevirtual 184, 3) := id_WM_clearForLaunch_0 (44, .invokevirtual 184, 3) (List.mem_of_getElem? (i := 22) rfl)
theorem d_WM_clearForLaunch_47 : decode prog_1_method_16_code 47 = .ok (.return_, 1) := id_WM_clearForLaunch_0 (47, .return_, 1) (List.mem_of_getElem? (i := 23) rfl)
theorem wC_WM_clearForLaunch : Cond.code ⟨"WarpMill", "clearForLaunch", "()V"⟩ prog_1_method_16_code 2 (none) ∈ lw_tb := mem_tb 445 (by decide +kernel) rfl
theorem cw_WM_clearForLaunch_WM_freeAllSlots : cW mi_WM_clearForLaunch mi_WM_freeAllSlots 0 := ⟨wC_WM_freeAllSlots, wi_WM, ⟨by decide, by decide, by decide +kernel⟩, by decide, by decide⟩
theorem cw_WM_clearForLaunch_Unit_begin : cW mi_WM_clearForLaunch mi_Unit_begin 1 := ⟨wC_Unit_begin, wi_Unit, ⟨by decide, by decide, by decide +kernel⟩, by decide, by decide⟩
theorem cw_WM_clearForLaunch_Cache_begin : cW mi_WM_clearForLaunch mi_Cache_begin 0 := ⟨wC_Cache_begin, wi_Cache, ⟨by decide, by decide, by decide +kernel⟩, by decide, by decide⟩
def b_WM_clearForLaunch_6 (F : Nat) : Nat → Nat → Int32 → Hp → Option Hp
  | 0 => fun _ _ _ => none
  | n + 1 => fun x0 x1 h => gd (hK h x0 = 1) <| rq h (hR h 4 x0) 121 fun a_8_2 => if (nI (hN h a_8_2)) ≤ x1 then (rq h (hR h 2 x0) 3 fun a_38 => rq h (hR h 129 a_38) 4 fun a_41 => clv (f_Cache_begin F a_41 h) fun h_44 => some h_44) else (ix x1 (hN h a_8_2) fun j_20 => rq h (hQ h a_8_2 j_20) 7 fun a_20_2 => rq h (hR h 0 x0) 2 fun a_22 => clv (f_Unit_begin F a_20_2 (hI h 65 a_22) h) fun h_28 => b_WM_clearForLaunch_6 F n x0 (x1 + 1) h_28)
set_option maxRecDepth 100000 in
set_option maxHeartbeats 4000000 in
theorem e_WM_clearForLaunch_6 {G : Gl} (hw : gF G) {h0 : Hp} {F : Nat} {h' : Hp}   : ∀ (n : Nat) (x0 : Nat) (x1 : Int32) (h : Hp), b_WM_clearForLaunch_6 F n x0 x1 h = some h' → Go G mi_WM_clearForLaunch h0 (pV h') h 6 [(0, .ref x0), (1, .int x1)] [] := by
  intro n
  induction n with
  | zero =>
    intro _ _ _ hf
    exact nm_s hf
  | succ n ih =>
    intro x0 x1 h hf
    unfold b_WM_clearForLaunch_6 at hf
    refine g_iload_n d_WM_clearForLaunch_6 rfl ?_
    refine g_aload_n d_WM_clearForLaunch_7 rfl ?_
    obtain ⟨k_8, hf⟩ := gd_s hf
    obtain ⟨a_8_2, e_8_2, k_8_2, hf⟩ := rq_s hf
    refine fgs_WM_units lf_WM_38 d_WM_clearForLaunch_8 k_8 e_8_2 ?_
    refine g_alen k_8_2 (by decide) rfl d_WM_clearForLaunch_11 ?_
    refine g_icmp_ge 37 d_WM_clearForLaunch_12 (by decide) (fun c_12 => ?_) (fun c_12 => ?_)
    · have hf := ifp hf c_12
      refine g_aload_n d_WM_clearForLaunch_37 rfl ?_
      obtain ⟨a_38, e_38, k_38, hf⟩ := rq_s hf
      refine fgs_WM_memory lf_WM_25 d_WM_clearForLaunch_38 k_8 e_38 ?_
      obtain ⟨a_41, e_41, k_41, hf⟩ := rq_s hf
      refine fgs_Memory_cache lf_WM_69 d_WM_clearForLaunch_41 k_38 e_41 ?_
      obtain ⟨h_44, e_44, hf⟩ := clv_s hf
      refine g_callV (mz := mi_Cache_begin) (e_Cache_begin hw e_44) cw_WM_clearForLaunch_Cache_begin lm_WM_184 wI_Cache_begin wV_Cache_begin (ci := 3) k_41 (by decide) rfl rfl d_WM_clearForLaunch_44 rfl rfl (by first | exact Nat.le_of_ble_eq_true rfl | simp [cat_rf, Value.category]) (fun r1 h1 hp hro => ?_)
      obtain ⟨rfl, rfl⟩ := hp
      dsimp only [Option.toList_some, Option.toList_none, List.cons_append, List.nil_append]
      exact Go.ret none trivial rfl d_WM_clearForLaunch_47 (pV_of hf)
    · have hf := ifn hf c_12
      refine g_aload_n d_WM_clearForLaunch_15 rfl ?_
      refine fgs_WM_units lf_WM_38 d_WM_clearForLaunch_16 k_8 e_8_2 ?_
      refine g_iload_n d_WM_clearForLaunch_19 rfl ?_
      obtain ⟨i_20, hf⟩ := ix_s hf
      refine g_aald k_8_2 (by decide) rfl rfl i_20 d_WM_clearForLaunch_20 ?_
      obtain ⟨a_20_2, e_20_2, k_20_2, hf⟩ := rq_s hf
      refine Go.vs e_20_2 ?_
      refine g_aload_n d_WM_clearForLaunch_21 rfl ?_
      obtain ⟨a_22, e_22, k_22, hf⟩ := rq_s hf
      refine fgs_WM_sizes lf_WM_10 d_WM_clearForLaunch_22 k_8 e_22 ?_
      refine fg_Sizes_slots lf_WM_51 d_WM_clearForLaunch_25 k_22 ?_
      obtain ⟨h_28, e_28, hf⟩ := clv_s hf
      refine g_callV (mz := mi_Unit_begin) (e_Unit_begin hw e_28) cw_WM_clearForLaunch_Unit_begin lm_WM_182 wI_Unit_begin wV_Unit_begin (ci := 6) k_20_2 (by decide) rfl rfl d_WM_clearForLaunch_28 rfl rfl (by first | exact Nat.le_of_ble_eq_true rfl | simp [cat_rf, Value.category]) (fun r1 h1 hp hro => ?_)
      obtain ⟨rfl, rfl⟩ := hp
      dsimp only [Option.toList_some, Option.toList_none, List.cons_append, List.nil_append]
      refine g_iinc (_ + 1) d_WM_clearForLaunch_31 rfl (by rfl) (by decide) ?_
      show Go _ _ _ _ _ _ [(0, _), (1, _)] _
      refine g_goto 6 d_WM_clearForLaunch_34 (by decide) ?_
      exact ih _ _ _ hf
def f_WM_clearForLaunch (F : Nat) (x0 : Nat) (h : Hp) : Option Hp := gd (hK h x0 = 1) <| clv (f_WM_freeAllSlots F x0 h) fun h_1_2 => b_WM_clearForLaunch_6 F F x0 (0 : Int32) h_1_2
set_option maxRecDepth 100000 in
set_option maxHeartbeats 4000000 in
theorem e_WM_clearForLaunch {G : Gl} (hw : gF G) {F : Nat} {h' : Hp} {x0 : Nat} {h : Hp} (hf : f_WM_clearForLaunch F x0 h = some h') : Ex G mi_WM_clearForLaunch [.ref x0] h (pV h') := by
  unfold f_WM_clearForLaunch at hf
  refine Ex.of nmV (by decide) (Nat.le_of_ble_eq_true rfl) ?_
  show Go G mi_WM_clearForLaunch h _ h 0 [(0, .ref x0)] []
  refine g_aload_n d_WM_clearForLaunch_0 rfl ?_
  obtain ⟨k_1, hf⟩ := gd_s hf
  obtain ⟨h_1_2, e_1_2, hf⟩ := clv_s hf
  refine g_callV (mz := mi_WM_freeAllSlots) (e_WM_freeAllSlots hw e_1_2) cw_WM_clearForLaunch_WM_freeAllSlots lm_WM_117 wI_WM_freeAllSlots wV_WM_freeAllSlots (ci := 0) k_1 (by decide) rfl rfl d_WM_clearForLaunch_1 rfl rfl (by first | exact Nat.le_of_ble_eq_true rfl | simp [cat_rf, Value.category]) (fun r1 h1 hp hro => ?_)
  obtain ⟨rfl, rfl⟩ := hp
  dsimp only [Option.toList_some, Option.toList_none, List.cons_append, List.nil_append]
  refine g_iconst 0 d_WM_clearForLaunch_4 (by decide) ?_
  refine g_istore_n d_WM_clearForLaunch_5 (by decide) ?_
  show Go _ _ _ _ _ _ [(0, _), (1, _)] _
  have key := e_WM_clearForLaunch_6 hw (G := G) (h0 := h)  F _ _ _ hf
  exact key
abbrev mi_WM_sizes : MI := (⟨"WarpMill", "sizes", "(IIIIII)Z"⟩, prog_1_method_2_code, 7, some .boolean, 4, 88)
def it_WM_sizes_0 : List (Nat × ClassFile.Instr × Nat) := [(0, .aload_n 0, 1), (1, .getfield 32, 3), (4, .invokevirtual 58, 3), (7, .ifCond .ne (22), 3), (10, .aload_n 0, 1), (11, .getfield 10, 3), (14, .iload_n 1, 1), (15, .iload_n 2, 1), (16, .iload_n 3, 1), (17, .iload 4, 2), (19, .iload 5, 2), (21, .iload 6, 2), (23, .invokevirtual 62, 3), (26, .ifCond .ne (5), 3), (29, .iconst 0, 1), (30, .ireturn, 1), (31, .aload_n 0, 1), (32, .getfield 25, 3), (35, .iload 6, 2), (37, .invokevirtual 66, 3), (40, .aload_n 0, 1), (41, .getfield 25, 3), (44, .getfield 69, 3), (47, .invokevirtual 73, 3)]
theorem id_WM_sizes_0 : ∀ q ∈ it_WM_sizes_0, decode prog_1_method_2_code q.1 = .ok q.2 := by decide +kernel
theorem d_WM_sizes_0 : decode prog_1_method_2_code 0 = .ok (.aload_n 0, 1) := id_WM_sizes_0 (0, .aload_n 0, 1) (List.mem_of_getElem? (i := 0) rfl)
theorem d_WM_sizes_1 : decode prog_1_method_2_code 1 = .ok (.getfield 32, 3) := id_WM_sizes_0 (1, .getfield 32, 3) (List.mem_of_getElem? (i := 1) rfl)
theorem d_WM_sizes_4 : decode prog_1_method_2_code 4 = .ok (.invokevirtual 58, 3) := id_WM_sizes_0 (4, .invokevirtual 58, 3) (List.mem_of_getElem? (i := 2) rfl)
theorem d_WM_sizes_7 : decode prog_1_method_2_code 7 = .ok (.ifCond .ne (22), 3) := id_WM_sizes_0 (7, .ifCond .ne (22), 3) (List.mem_of_getElem? (i := 3) rfl)
theorem d_WM_sizes_10 : decode prog_1_method_2_code 10 = .ok (.aload_n 0, 1) := id_WM_sizes_0 (10, .aload_n 0, 1) (List.mem_of_getElem? (i := 4) rfl)
theorem d_WM_sizes_11 : decode prog_1_method_2_code 11 = .ok (.getfield 10, 3) := id_WM_sizes_0 (11, .getfield 10, 3) (List.mem_of_getElem? (i := 5) rfl)
theorem d_WM_sizes_14 : decode prog_1_method_2_code 14 = .ok (.iload_n 1, 1) := id_WM_sizes_0 (14, .iload_n 1, 1) (List.mem_of_getElem? (i := 6) rfl)
theorem d_WM_sizes_15 : decode prog_1_method_2_code 15 = .ok (.iload_n 2, 1) := id_WM_sizes_0 (15, .iload_n 2, 1) (List.mem_of_getElem? (i := 7) rfl)
theorem d_WM_sizes_16 : decode prog_1_method_2_code 16 = .ok (.iload_n 3, 1) := id_WM_sizes_0 (16, .iload_n 3, 1) (List.mem_of_getElem? (i := 8) rfl)
theorem d_WM_sizes_17 : decode prog_1_method_2_code 17 = .ok (.iload 4, 2) := id_WM_sizes_0 (17, .iload 4, 2) (List.mem_of_getElem? (i := 9) rfl)
theorem d_WM_sizes_19 : decode prog_1_method_2_code 19 = .ok (.iload 5, 2) := id_WM_sizes_0 (19, .iload 5, 2) (List.mem_of_getElem? (i := 10) rfl)
theorem d_WM_sizes_21 : decode prog_1_method_2_code 21 = .ok (.iload 6, 2) := id_WM_sizes_0 (21, .iload 6, 2) (List.mem_of_getElem? (i := 11) rfl)
theorem d_WM_sizes_23 : decode prog_1_method_2_code 23 = .ok (.invokevirtual 62, 3) := id_WM_sizes_0 (23, .invokevirtual 62, 3) (List.mem_of_getElem? (i := 12) rfl)
theorem d_WM_sizes_26 : decode prog_1_method_2_code 26 = .ok (.ifCond .ne (5), 3) := id_WM_sizes_0 (26, .ifCond .ne (5), 3) (List.mem_of_getElem? (i := 13) rfl)
theorem d_WM_sizes_29 : decode prog_1_method_2_code 29 = .ok (.iconst 0, 1) := id_WM_sizes_0 (29, .iconst 0, 1) (List.mem_of_getElem? (i := 14) rfl)
theorem d_WM_sizes_30 : decode prog_1_method_2_code 30 = .ok (.ireturn, 1) := id_WM_sizes_0 (30, .ireturn, 1) (List.mem_of_getElem? (i := 15) rfl)
theorem d_WM_sizes_31 : decode prog_1_method_2_code 31 = .ok (.aload_n 0, 1) := id_WM_sizes_0 (31, .aload_n 0, 1) (List.mem_of_getElem? (i := 16) rfl)
theorem d_WM_sizes_32 : decode prog_1_method_2_code 32 = .ok (.getfield 25, 3) := id_WM_sizes_0 (32, .getfield 25, 3) (List.mem_of_getElem? (i := 17) rfl)
theorem d_WM_sizes_35 : decode prog_1_method_2_code 35 = .ok (.iload 6, 2) := id_WM_sizes_0 (35, .iload 6, 2) (List.mem_of_getElem? (i := 18) rfl)
theorem d_WM_sizes_37 : decode prog_1_method_2_code 37 = .ok (.invokevirtual 66, 3) := id_WM_sizes_0 (37, .invokevirtual 66, 3) (List.mem_of_getElem? (i := 19) rfl)
theorem d_WM_sizes_40 : decode prog_1_method_2_code 40 = .ok (.aload_n 0, 1) := id_WM_sizes_0 (40, .aload_n 0, 1) (List.mem_of_getElem? (i := 20) rfl)
theorem d_WM_sizes_41 : decode prog_1_method_2_code 41 = .ok (.getfield 25, 3) := id_WM_sizes_0 (41, .getfield 25, 3) (List.mem_of_getElem? (i := 21) rfl)
theorem d_WM_sizes_44 : decode prog_1_method_2_code 44 = .ok (.getfield 69, 3) := id_WM_sizes_0 (44, .getfield 69, 3) (List.mem_of_getElem? (i := 22) rfl)
theorem d_WM_sizes_47 : decode prog_1_method_2_code 47 = .ok (.invokevirtual 73, 3) := id_WM_sizes_0 (47, .invokevirtual 73, 3) (List.mem_of_getElem? (i := 23) rfl)
def it_WM_sizes_1 : List (Nat × ClassFile.Instr × Nat) := [(50, .aload_n 0, 1), (51, .getfield 32, 3), (54, .iconst 0, 1), (55, .iconst 0, 1), (56, .iconst 0, 1), (57, .invokevirtual 78, 3), (60, .aload_n 0, 1), (61, .invokevirtual 82, 3), (64, .iconst 1, 1), (65, .ireturn, 1)]
theorem id_WM_sizes_1 : ∀ q ∈ it_WM_sizes_1, decode prog_1_method_2_code q.1 = .ok q.2 := by decide +kernel
theorem d_WM_sizes_50 : decode prog_1_method_2_code 50 = .ok (.aload_n 0, 1) := id_WM_sizes_1 (50, .aload_n 0, 1) (List.mem_of_getElem? (i := 0) rfl)
theorem d_WM_sizes_51 : decode prog_1_method_2_code 51 = .ok (.getfield 32, 3) := id_WM_sizes_1 (51, .getfield 32, 3) (List.mem_of_getElem? (i := 1) rfl)
theorem d_WM_sizes_54 : decode prog_1_method_2_code 54 = .ok (.iconst 0, 1) := id_WM_sizes_1 (54, .iconst 0, 1) (List.mem_of_getElem? (i := 2) rfl)
theorem d_WM_sizes_55 : decode prog_1_method_2_code 55 = .ok (.iconst 0, 1) := id_WM_sizes_1 (55, .iconst 0, 1) (List.mem_of_getElem? (i := 3) rfl)
theorem d_WM_sizes_56 : decode prog_1_method_2_code 56 = .ok (.iconst 0, 1) := id_WM_sizes_1 (56, .iconst 0, 1) (List.mem_of_getElem? (i := 4) rfl)
theorem d_WM_sizes_57 : decode prog_1_method_2_code 57 = .ok (.invokevirtual 78, 3) := id_WM_sizes_1 (57, .invokevirtual 78, 3) (List.mem_of_getElem? (i := 5) rfl)
theorem d_WM_sizes_60 : decode prog_1_method_2_code 60 = .ok (.aload_n 0, 1) := id_WM_sizes_1 (60, .aload_n 0, 1) (List.mem_of_getElem? (i := 6) rfl)
theorem d_WM_sizes_61 : decode prog_1_method_2_code 61 = .ok (.invokevirtual 82, 3) := id_WM_sizes_1 (61, .invokevirtual 82, 3) (List.mem_of_getElem? (i := 7) rfl)
theorem d_WM_sizes_64 : decode prog_1_method_2_code 64 = .ok (.iconst 1, 1) := id_WM_sizes_1 (64, .iconst 1, 1) (List.mem_of_getElem? (i := 8) rfl)
theorem d_WM_sizes_65 : decode prog_1_method_2_code 65 = .ok (.ireturn, 1) := id_WM_sizes_1 (65, .ireturn, 1) (List.mem_of_getElem? (i := 9) rfl)
theorem wC_WM_sizes : Cond.code ⟨"WarpMill", "sizes", "(IIIIII)Z"⟩ prog_1_method_2_code 7 (some .boolean) ∈ lw_tb := mem_tb 418 (by decide +kernel) rfl
theorem cw_WM_sizes_Tally_underWay : cW mi_WM_sizes mi_Tally_underWay 0 := ⟨wC_Tally_underWay, wi_Tally, ⟨by decide, by decide, by decide +kernel⟩, by decide, by decide⟩
theorem cw_WM_sizes_Sizes_become : cW mi_WM_sizes mi_Sizes_become 6 := ⟨wC_Sizes_become, wi_Sizes, ⟨by decide, by decide, by decide +kernel⟩, by decide, by decide⟩
theorem cw_WM_sizes_Memory_resize : cW mi_WM_sizes mi_Memory_resize 1 := ⟨wC_Memory_resize, wi_Memory, ⟨by decide, by decide, by decide +kernel⟩, by decide, by decide⟩
theorem cw_WM_sizes_Cache_empty : cW mi_WM_sizes mi_Cache_empty 0 := ⟨wC_Cache_empty, wi_Cache, ⟨by decide, by decide, by decide +kernel⟩, by decide, by decide⟩
theorem cw_WM_sizes_Tally_begin : cW mi_WM_sizes mi_Tally_begin 3 := ⟨wC_Tally_begin, wi_Tally, ⟨by decide, by decide, by decide +kernel⟩, by decide, by decide⟩
theorem cw_WM_sizes_WM_clearForLaunch : cW mi_WM_sizes mi_WM_clearForLaunch 0 := ⟨wC_WM_clearForLaunch, wi_WM, ⟨by decide, by decide, by decide +kernel⟩, by decide, by decide⟩
def f_WM_sizes (F : Nat) (x0 : Nat) (x1 : Int32) (x2 : Int32) (x3 : Int32) (x4 : Int32) (x5 : Int32) (x6 : Int32) (h : Hp) : Option (Int32 × Hp) := gd (hK h x0 = 1) <| rq h (hR h 3 x0) 6 fun a_1_2 => cl (f_Tally_underWay F a_1_2 h) fun v_4 h_4 => if v_4 = 0 then (gd (hK h_4 x0 = 1) <| rq h_4 (hR h_4 0 x0) 2 fun a_11_2 => cl (f_Sizes_become F a_11_2 x1 x2 x3 x4 x5 x6 h_4) fun v_23 h_23 => if v_23 = 0 then (some ((0 : Int32), h_23)) else (gd (hK h_23 x0 = 1) <| rq h_23 (hR h_23 2 x0) 3 fun a_32_2 => clv (f_Memory_resize F a_32_2 x6 h_23) fun h_37 => gd (hK h_37 x0 = 1) <| rq h_37 (hR h_37 2 x0) 3 fun a_41_2 => rq h_37 (hR h_37 129 a_41_2) 4 fun a_44 => clv (f_Cache_empty F a_44 h_37) fun h_47 => gd (hK h_47 x0 = 1) <| rq h_47 (hR h_47 3 x0) 6 fun a_51_2 => clv (f_Tally_begin F a_51_2 (0 : Int32) (0 : Int32) (0 : Int32) h_47) fun h_57 => gd (hK h_57 x0 = 1) <| clv (f_WM_clearForLaunch F x0 h_57) fun h_61_2 => some ((1 : Int32), h_61_2))) else (some ((0 : Int32), h_4))
set_option maxRecDepth 100000 in
set_option maxHeartbeats 4000000 in
theorem e_WM_sizes {G : Gl} (hw : gF G) {F : Nat} {r : Int32} {h' : Hp} {x0 : Nat} {x1 : Int32} {x2 : Int32} {x3 : Int32} {x4 : Int32} {x5 : Int32} {x6 : Int32} {h : Hp} (hf : f_WM_sizes F x0 x1 x2 x3 x4 x5 x6 h = some (r, h')) : Ex G mi_WM_sizes [.ref x0, .int x1, .int x2, .int x3, .int x4, .int x5, .int x6] h (pI r h') := by
  unfold f_WM_sizes at hf
  refine Ex.of nmI (by decide) (Nat.le_of_ble_eq_true rfl) ?_
  show Go G mi_WM_sizes h _ h 0 [(0, .ref x0), (1, .int x1), (2, .int x2), (3, .int x3), (4, .int x4), (5, .int x5), (6, .int x6)] []
  refine g_aload_n d_WM_sizes_0 rfl ?_
  obtain ⟨k_1, hf⟩ := gd_s hf
  obtain ⟨a_1_2, e_1_2, k_1_2, hf⟩ := rq_s hf
  refine fgs_WM_tally lf_WM_32 d_WM_sizes_1 k_1 e_1_2 ?_
  obtain ⟨v_4, h_4, e_4, hf⟩ := cl_s hf
  refine g_callV (mz := mi_Tally_underWay) (e_Tally_underWay e_4) cw_WM_sizes_Tally_underWay lm_WM_58 wI_Tally_underWay wV_Tally_underWay (ci := 5) k_1_2 (by decide) rfl rfl d_WM_sizes_4 rfl rfl (by first | exact Nat.le_of_ble_eq_true rfl | simp [cat_rf, Value.category]) (fun r1 h1 hp hro => ?_)
  obtain ⟨rfl, rfl⟩ := hp
  dsimp only [Option.toList_some, Option.toList_none, List.cons_append, List.nil_append]
  refine g_if_ne 29 d_WM_sizes_7 (by decide) (fun c_7 => ?_) (fun c_7 => ?_)
  · have hf := ifn hf c_7
    refine g_iconst 0 d_WM_sizes_29 (by decide) ?_
    exact Go.ret (some _) rOk_b0 rfl d_WM_sizes_30 (pI_of hf)
  · have hf := ifp hf c_7
    refine g_aload_n d_WM_sizes_10 rfl ?_
    obtain ⟨k_11, hf⟩ := gd_s hf
    obtain ⟨a_11_2, e_11_2, k_11_2, hf⟩ := rq_s hf
    refine fgs_WM_sizes lf_WM_10 d_WM_sizes_11 k_11 e_11_2 ?_
    refine g_iload_n d_WM_sizes_14 rfl ?_
    refine g_iload_n d_WM_sizes_15 rfl ?_
    refine g_iload_n d_WM_sizes_16 rfl ?_
    refine g_iload d_WM_sizes_17 rfl ?_
    refine g_iload d_WM_sizes_19 rfl ?_
    refine g_iload d_WM_sizes_21 rfl ?_
    obtain ⟨v_23, h_23, e_23, hf⟩ := cl_s hf
    refine g_callV (mz := mi_Sizes_become) (e_Sizes_become hw e_23) cw_WM_sizes_Sizes_become lm_WM_62 wI_Sizes_become wV_Sizes_become (ci := 1) k_11_2 (by decide) rfl rfl d_WM_sizes_23 rfl rfl (by first | exact Nat.le_of_ble_eq_true rfl | simp [cat_rf, Value.category]) (fun r1 h1 hp hro => ?_)
    obtain ⟨rfl, rfl⟩ := hp
    dsimp only [Option.toList_some, Option.toList_none, List.cons_append, List.nil_append]
    refine g_if_ne 31 d_WM_sizes_26 (by decide) (fun c_26 => ?_) (fun c_26 => ?_)
    · have hf := ifn hf c_26
      refine g_aload_n d_WM_sizes_31 rfl ?_
      obtain ⟨k_32, hf⟩ := gd_s hf
      obtain ⟨a_32_2, e_32_2, k_32_2, hf⟩ := rq_s hf
      refine fgs_WM_memory lf_WM_25 d_WM_sizes_32 k_32 e_32_2 ?_
      refine g_iload d_WM_sizes_35 rfl ?_
      obtain ⟨h_37, e_37, hf⟩ := clv_s hf
      refine g_callV (mz := mi_Memory_resize) (e_Memory_resize hw e_37) cw_WM_sizes_Memory_resize lm_WM_66 wI_Memory_resize wV_Memory_resize (ci := 2) k_32_2 (by decide) rfl rfl d_WM_sizes_37 rfl rfl (by first | exact Nat.le_of_ble_eq_true rfl | simp [cat_rf, Value.category]) (fun r1 h1 hp hro => ?_)
      obtain ⟨rfl, rfl⟩ := hp
      dsimp only [Option.toList_some, Option.toList_none, List.cons_append, List.nil_append]
      refine g_aload_n d_WM_sizes_40 rfl ?_
      obtain ⟨k_41, hf⟩ := gd_s hf
      obtain ⟨a_41_2, e_41_2, k_41_2, hf⟩ := rq_s hf
      refine fgs_WM_memory lf_WM_25 d_WM_sizes_41 k_41 e_41_2 ?_
      obtain ⟨a_44, e_44, k_44, hf⟩ := rq_s hf
      refine fgs_Memory_cache lf_WM_69 d_WM_sizes_44 k_41_2 e_44 ?_
      obtain ⟨h_47, e_47, hf⟩ := clv_s hf
      refine g_callV (mz := mi_Cache_empty) (e_Cache_empty hw e_47) cw_WM_sizes_Cache_empty lm_WM_73 wI_Cache_empty wV_Cache_empty (ci := 3) k_44 (by decide) rfl rfl d_WM_sizes_47 rfl rfl (by first | exact Nat.le_of_ble_eq_true rfl | simp [cat_rf, Value.category]) (fun r1 h1 hp hro => ?_)
      obtain ⟨rfl, rfl⟩ := hp
      dsimp only [Option.toList_some, Option.toList_none, List.cons_append, List.nil_append]
      refine g_aload_n d_WM_sizes_50 rfl ?_
      obtain ⟨k_51, hf⟩ := gd_s hf
      obtain ⟨a_51_2, e_51_2, k_51_2, hf⟩ := rq_s hf
      refine fgs_WM_tally lf_WM_32 d_WM_sizes_51 k_51 e_51_2 ?_
      refine g_iconst 0 d_WM_sizes_54 (by decide) ?_
      refine g_iconst 0 d_WM_sizes_55 (by decide) ?_
      refine g_iconst 0 d_WM_sizes_56 (by decide) ?_
      obtain ⟨h_57, e_57, hf⟩ := clv_s hf
      refine g_callV (mz := mi_Tally_begin) (e_Tally_begin hw e_57) cw_WM_sizes_Tally_begin lm_WM_78 wI_Tally_begin wV_Tally_begin (ci := 5) k_51_2 (by decide) rfl rfl d_WM_sizes_57 rfl rfl (by first | exact Nat.le_of_ble_eq_true rfl | simp [cat_rf, Value.category]) (fun r1 h1 hp hro => ?_)
      obtain ⟨rfl, rfl⟩ := hp
      dsimp only [Option.toList_some, Option.toList_none, List.cons_append, List.nil_append]
      refine g_aload_n d_WM_sizes_60 rfl ?_
      obtain ⟨k_61, hf⟩ := gd_s hf
      obtain ⟨h_61_2, e_61_2, hf⟩ := clv_s hf
      refine g_callV (mz := mi_WM_clearForLaunch) (e_WM_clearForLaunch hw e_61_2) cw_WM_sizes_WM_clearForLaunch lm_WM_82 wI_WM_clearForLaunch wV_WM_clearForLaunch (ci := 0) k_61 (by decide) rfl rfl d_WM_sizes_61 rfl rfl (by first | exact Nat.le_of_ble_eq_true rfl | simp [cat_rf, Value.category]) (fun r1 h1 hp hro => ?_)
      obtain ⟨rfl, rfl⟩ := hp
      dsimp only [Option.toList_some, Option.toList_none, List.cons_append, List.nil_append]
      refine g_iconst 1 d_WM_sizes_64 (by decide) ?_
      exact Go.ret (some _) rOk_b1 rfl d_WM_sizes_65 (pI_of hf)
    · have hf := ifp hf c_26
      refine g_iconst 0 d_WM_sizes_29 (by decide) ?_
      exact Go.ret (some _) rOk_b0 rfl d_WM_sizes_30 (pI_of hf)
abbrev mi_Mod_isPower : MI := (⟨"WarpMillModel", "isPower", "(II)Z"⟩, prog_13_method_8_code, 2, some .boolean, 0, 0)
def it_Mod_isPower_0 : List (Nat × ClassFile.Instr × Nat) := [(0, .iload_n 0, 1), (1, .iconst 1, 1), (2, .if_icmp .lt (20), 3), (5, .iload_n 0, 1), (6, .iload_n 1, 1), (7, .if_icmp .gt (15), 3), (10, .iload_n 0, 1), (11, .iload_n 0, 1), (12, .iconst 1, 1), (13, .isub, 1), (14, .iand, 1), (15, .ifCond .ne (7), 3), (18, .iconst 1, 1), (19, .goto (4), 3), (22, .iconst 0, 1), (23, .ireturn, 1)]
theorem id_Mod_isPower_0 : ∀ q ∈ it_Mod_isPower_0, decode prog_13_method_8_code q.1 = .ok q.2 := by decide +kernel
theorem d_Mod_isPower_0 : decode prog_13_method_8_code 0 = .ok (.iload_n 0, 1) := id_Mod_isPower_0 (0, .iload_n 0, 1) (List.mem_of_getElem? (i := 0) rfl)
theorem d_Mod_isPower_1 : decode prog_13_method_8_code 1 = .ok (.iconst 1, 1) := id_Mod_isPower_0 (1, .iconst 1, 1) (List.mem_of_getElem? (i := 1) rfl)
theorem d_Mod_isPower_2 : decode prog_13_method_8_code 2 = .ok (.if_icmp .lt (20), 3) := id_Mod_isPower_0 (2, .if_icmp .lt (20), 3) (List.mem_of_getElem? (i := 2) rfl)
theorem d_Mod_isPower_5 : decode prog_13_method_8_code 5 = .ok (.iload_n 0, 1) := id_Mod_isPower_0 (5, .iload_n 0, 1) (List.mem_of_getElem? (i := 3) rfl)
theorem d_Mod_isPower_6 : decode prog_13_method_8_code 6 = .ok (.iload_n 1, 1) := id_Mod_isPower_0 (6, .iload_n 1, 1) (List.mem_of_getElem? (i := 4) rfl)
theorem d_Mod_isPower_7 : decode prog_13_method_8_code 7 = .ok (.if_icmp .gt (15), 3) := id_Mod_isPower_0 (7, .if_icmp .gt (15), 3) (List.mem_of_getElem? (i := 5) rfl)
theorem d_Mod_isPower_10 : decode prog_13_method_8_code 10 = .ok (.iload_n 0, 1) := id_Mod_isPower_0 (10, .iload_n 0, 1) (List.mem_of_getElem? (i := 6) rfl)
theorem d_Mod_isPower_11 : decode prog_13_method_8_code 11 = .ok (.iload_n 0, 1) := id_Mod_isPower_0 (11, .iload_n 0, 1) (List.mem_of_getElem? (i := 7) rfl)
theorem d_Mod_isPower_12 : decode prog_13_method_8_code 12 = .ok (.iconst 1, 1) := id_Mod_isPower_0 (12, .iconst 1, 1) (List.mem_of_getElem? (i := 8) rfl)
theorem d_Mod_isPower_13 : decode prog_13_method_8_code 13 = .ok (.isub, 1) := id_Mod_isPower_0 (13, .isub, 1) (List.mem_of_getElem? (i := 9) rfl)
theorem d_Mod_isPower_14 : decode prog_13_method_8_code 14 = .ok (.iand, 1) := id_Mod_isPower_0 (14, .iand, 1) (List.mem_of_getElem? (i := 10) rfl)
theorem d_Mod_isPower_15 : decode prog_13_method_8_code 15 = .ok (.ifCond .ne (7), 3) := id_Mod_isPower_0 (15, .ifCond .ne (7), 3) (List.mem_of_getElem? (i := 11) rfl)
theorem d_Mod_isPower_18 : decode prog_13_method_8_code 18 = .ok (.iconst 1, 1) := id_Mod_isPower_0 (18, .iconst 1, 1) (List.mem_of_getElem? (i := 12) rfl)
theorem d_Mod_isPower_19 : decode prog_13_method_8_code 19 = .ok (.goto (4), 3) := id_Mod_isPower_0 (19, .goto (4), 3) (List.mem_of_getElem? (i := 13) rfl)
theorem d_Mod_isPower_22 : decode prog_13_method_8_code 22 = .ok (.iconst 0, 1) := id_Mod_isPower_0 (22, .iconst 0, 1) (List.mem_of_getElem? (i := 14) rfl)
theorem d_Mod_isPower_23 : decode prog_13_method_8_code 23 = .ok (.ireturn, 1) := id_Mod_isPower_0 (23, .ireturn, 1) (List.mem_of_getElem? (i := 15) rfl)
theorem wC_Mod_isPower : Cond.code ⟨"WarpMillModel", "isPower", "(II)Z"⟩ prog_13_method_8_code 2 (some .boolean) ∈ lw_tb := mem_tb 1256 (by decide +kernel) rfl
def f_Mod_isPower (F : Nat) (x0 : Int32) (x1 : Int32) (h : Hp) : Option (Int32 × Hp) := if x0 < (1 : Int32) then (some ((0 : Int32), h)) else (if x1 < x0 then (some ((0 : Int32), h)) else (if (x0 &&& (x0 - (1 : Int32))) = 0 then (some ((1 : Int32), h)) else (some ((0 : Int32), h))))
set_option maxRecDepth 100000 in
set_option maxHeartbeats 4000000 in
theorem e_Mod_isPower {G : Gl} {F : Nat} {r : Int32} {h' : Hp} {x0 : Int32} {x1 : Int32} {h : Hp} (hf : f_Mod_isPower F x0 x1 h = some (r, h')) : Ex G mi_Mod_isPower [.int x0, .int x1] h (pI r h') := by
  unfold f_Mod_isPower at hf
  refine Ex.of nmI (by decide) (Nat.le_of_ble_eq_true rfl) ?_
  show Go G mi_Mod_isPower h _ h 0 [(0, .int x0), (1, .int x1)] []
  refine g_iload_n d_Mod_isPower_0 rfl ?_
  refine g_iconst 1 d_Mod_isPower_1 (by decide) ?_
  refine g_icmp_lt 22 d_Mod_isPower_2 (by decide) (fun c_2 => ?_) (fun c_2 => ?_)
  · have hf := ifp hf c_2
    refine g_iconst 0 d_Mod_isPower_22 (by decide) ?_
    exact Go.ret (some _) rOk_b0 rfl d_Mod_isPower_23 (pI_of hf)
  · have hf := ifn hf c_2
    refine g_iload_n d_Mod_isPower_5 rfl ?_
    refine g_iload_n d_Mod_isPower_6 rfl ?_
    refine g_icmp_gt 22 d_Mod_isPower_7 (by decide) (fun c_7 => ?_) (fun c_7 => ?_)
    · have hf := ifp hf c_7
      refine g_iconst 0 d_Mod_isPower_22 (by decide) ?_
      exact Go.ret (some _) rOk_b0 rfl d_Mod_isPower_23 (pI_of hf)
    · have hf := ifn hf c_7
      refine g_iload_n d_Mod_isPower_10 rfl ?_
      refine g_iload_n d_Mod_isPower_11 rfl ?_
      refine g_iconst 1 d_Mod_isPower_12 (by decide) ?_
      refine g_isub d_Mod_isPower_13 ?_
      refine g_iand d_Mod_isPower_14 ?_
      refine g_if_ne 22 d_Mod_isPower_15 (by decide) (fun c_15 => ?_) (fun c_15 => ?_)
      · have hf := ifn hf c_15
        refine g_iconst 0 d_Mod_isPower_22 (by decide) ?_
        exact Go.ret (some _) rOk_b0 rfl d_Mod_isPower_23 (pI_of hf)
      · have hf := ifp hf c_15
        refine g_iconst 1 d_Mod_isPower_18 (by decide) ?_
        refine g_goto 23 d_Mod_isPower_19 (by decide) ?_
        exact Go.ret (some _) rOk_b1 rfl d_Mod_isPower_23 (pI_of hf)
abbrev mi_Mod_isUnder : MI := (⟨"WarpMillModel", "isUnder", "()Z"⟩, prog_13_method_7_code, 1, some .boolean, 0, 0)
def it_Mod_isUnder_0 : List (Nat × ClassFile.Instr × Nat) := [(0, .aload_n 0, 1), (1, .getfield 136, 3), (4, .iconst 1, 1), (5, .if_icmp .eq (11), 3), (8, .aload_n 0, 1), (9, .getfield 136, 3), (12, .iconst 4, 1), (13, .if_icmp .ne (7), 3), (16, .iconst 1, 1), (17, .goto (4), 3), (20, .iconst 0, 1), (21, .ireturn, 1)]
theorem id_Mod_isUnder_0 : ∀ q ∈ it_Mod_isUnder_0, decode prog_13_method_7_code q.1 = .ok q.2 := by decide +kernel
theorem d_Mod_isUnder_0 : decode prog_13_method_7_code 0 = .ok (.aload_n 0, 1) := id_Mod_isUnder_0 (0, .aload_n 0, 1) (List.mem_of_getElem? (i := 0) rfl)
theorem d_Mod_isUnder_1 : decode prog_13_method_7_code 1 = .ok (.getfield 136, 3) := id_Mod_isUnder_0 (1, .getfield 136, 3) (List.mem_of_getElem? (i := 1) rfl)
theorem d_Mod_isUnder_4 : decode prog_13_method_7_code 4 = .ok (.iconst 1, 1) := id_Mod_isUnder_0 (4, .iconst 1, 1) (List.mem_of_getElem? (i := 2) rfl)
theorem d_Mod_isUnder_5 : decode prog_13_method_7_code 5 = .ok (.if_icmp .eq (11), 3) := id_Mod_isUnder_0 (5, .if_icmp .eq (11), 3) (List.mem_of_getElem? (i := 3) rfl)
theorem d_Mod_isUnder_8 : decode prog_13_method_7_code 8 = .ok (.aload_n 0, 1) := id_Mod_isUnder_0 (8, .aload_n 0, 1) (List.mem_of_getElem? (i := 4) rfl)
theorem d_Mod_isUnder_9 : decode prog_13_method_7_code 9 = .ok (.getfield 136, 3) := id_Mod_isUnder_0 (9, .getfield 136, 3) (List.mem_of_getElem? (i := 5) rfl)
theorem d_Mod_isUnder_12 : decode prog_13_method_7_code 12 = .ok (.iconst 4, 1) := id_Mod_isUnder_0 (12, .iconst 4, 1) (List.mem_of_getElem? (i := 6) rfl)
theorem d_Mod_isUnder_13 : decode prog_13_method_7_code 13 = .ok (.if_icmp .ne (7), 3) := id_Mod_isUnder_0 (13, .if_icmp .ne (7), 3) (List.mem_of_getElem? (i := 7) rfl)
theorem d_Mod_isUnder_16 : decode prog_13_method_7_code 16 = .ok (.iconst 1, 1) := id_Mod_isUnder_0 (16, .iconst 1, 1) (List.mem_of_getElem? (i := 8) rfl)
theorem d_Mod_isUnder_17 : decode prog_13_method_7_code 17 = .ok (.goto (4), 3) := id_Mod_isUnder_0 (17, .goto (4), 3) (List.mem_of_getElem? (i := 9) rfl)
theorem d_Mod_isUnder_20 : decode prog_13_method_7_code 20 = .ok (.iconst 0, 1) := id_Mod_isUnder_0 (20, .iconst 0, 1) (List.mem_of_getElem? (i := 10) rfl)
theorem d_Mod_isUnder_21 : decode prog_13_method_7_code 21 = .ok (.ireturn, 1) := id_Mod_isUnder_0 (21, .ireturn, 1) (List.mem_of_getElem? (i := 11) rfl)
theorem wC_Mod_isUnder : Cond.code ⟨"WarpMillModel", "isUnder", "()Z"⟩ prog_13_method_7_code 1 (some .boolean) ∈ lw_tb := mem_tb 1260 (by decide +kernel) rfl
def b_Mod_isUnder_16 (F : Nat)  (h : Hp) : Option (Int32 × Hp) := some ((1 : Int32), h)
set_option maxRecDepth 100000 in
set_option maxHeartbeats 4000000 in
theorem e_Mod_isUnder_16 {G : Gl} {h0 : Hp} {F : Nat} {r : Int32} {h' : Hp}    {h : Hp} (hf : b_Mod_isUnder_16 F  h = some (r, h')) : Go G mi_Mod_isUnder h0 (pI r h') h 16 [] [] := by
  unfold b_Mod_isUnder_16 at hf
  refine g_iconst 1 d_Mod_isUnder_16 (by decide) ?_
  refine g_goto 21 d_Mod_isUnder_17 (by decide) ?_
  exact Go.ret (some _) rOk_b1 rfl d_Mod_isUnder_21 (pI_of hf)
def f_Mod_isUnder (F : Nat) (x0 : Nat) (h : Hp) : Option (Int32 × Hp) := gd (hK h x0 = 12) <| if (hI h 715 x0) = (1 : Int32) then (b_Mod_isUnder_16 F h) else (if (hI h 715 x0) = (4 : Int32) then (b_Mod_isUnder_16 F h) else (some ((0 : Int32), h)))
set_option maxRecDepth 100000 in
set_option maxHeartbeats 4000000 in
theorem e_Mod_isUnder {G : Gl} {F : Nat} {r : Int32} {h' : Hp} {x0 : Nat} {h : Hp} (hf : f_Mod_isUnder F x0 h = some (r, h')) : Ex G mi_Mod_isUnder [.ref x0] h (pI r h') := by
  unfold f_Mod_isUnder at hf
  refine Ex.of nmI (by decide) (Nat.le_of_ble_eq_true rfl) ?_
  show Go G mi_Mod_isUnder h _ h 0 [(0, .ref x0)] []
  refine g_aload_n d_Mod_isUnder_0 rfl ?_
  obtain ⟨k_1, hf⟩ := gd_s hf
  refine fg_Mod_status lf_Mod_136 d_Mod_isUnder_1 k_1 ?_
  refine g_iconst 1 d_Mod_isUnder_4 (by decide) ?_
  refine g_icmp_eq 16 d_Mod_isUnder_5 (by decide) (fun c_5 => ?_) (fun c_5 => ?_)
  · have hf := ifp hf c_5
    refine Go.locals [] rfl ?_
    have key := e_Mod_isUnder_16 (G := G) (h0 := h)  hf
    exact key
  · have hf := ifn hf c_5
    refine g_aload_n d_Mod_isUnder_8 rfl ?_
    refine fg_Mod_status lf_Mod_136 d_Mod_isUnder_9 k_1 ?_
    refine g_iconst 4 d_Mod_isUnder_12 (by decide) ?_
    refine g_icmp_ne 20 d_Mod_isUnder_13 (by decide) (fun c_13 => ?_) (fun c_13 => ?_)
    · have hf := ifn hf c_13
      refine g_iconst 0 d_Mod_isUnder_20 (by decide) ?_
      exact Go.ret (some _) rOk_b0 rfl d_Mod_isUnder_21 (pI_of hf)
    · have hf := ifp hf c_13
      refine Go.locals [] rfl ?_
      have key := e_Mod_isUnder_16 (G := G) (h0 := h)  hf
      exact key
abbrev mi_Mod_clearCounts : MI := (⟨"WarpMillModel", "clearCounts", "()V"⟩, prog_13_method_13_code, 1, none, 0, 0)
def it_Mod_clearCounts_0 : List (Nat × ClassFile.Instr × Nat) := [(0, .aload_n 0, 1), (1, .iconst 0, 1), (2, .putfield 159, 3), (5, .aload_n 0, 1), (6, .iconst 0, 1), (7, .putfield 162, 3), (10, .aload_n 0, 1), (11, .iconst 0, 1), (12, .putfield 165, 3), (15, .aload_n 0, 1), (16, .iconst 0, 1), (17, .putfield 168, 3), (20, .aload_n 0, 1), (21, .iconst 0, 1), (22, .putfield 171, 3), (25, .aload_n 0, 1), (26, .iconst 0, 1), (27, .putfield 174, 3), (30, .aload_n 0, 1), (31, .iconst 0, 1), (32, .putfield 177, 3), (35, .aload_n 0, 1), (36, .iconst 0, 1), (37, .putfield 180, 3)]
theorem id_Mod_clearCounts_0 : ∀ q ∈ it_Mod_clearCounts_0, decode prog_13_method_13_code q.1 = .ok q.2 := by decide +kernel
theorem d_Mod_clearCounts_0 : decode prog_13_method_13_code 0 = .ok (.aload_n 0, 1) := id_Mod_clearCounts_0 (0, .aload_n 0, 1) (List.mem_of_getElem? (i := 0) rfl)
theorem d_Mod_clearCounts_1 : decode prog_13_method_13_code 1 = .ok (.iconst 0, 1) := id_Mod_clearCounts_0 (1, .iconst 0, 1) (List.mem_of_getElem? (i := 1) rfl)
theorem d_Mod_clearCounts_2 : decode prog_13_method_13_code 2 = .ok (.putfield 159, 3) := id_Mod_clearCounts_0 (2, .putfield 159, 3) (List.mem_of_getElem? (i := 2) rfl)
theorem d_Mod_clearCounts_5 : decode prog_13_method_13_code 5 = .ok (.aload_n 0, 1) := id_Mod_clearCounts_0 (5, .aload_n 0, 1) (List.mem_of_getElem? (i := 3) rfl)
theorem d_Mod_clearCounts_6 : decode prog_13_method_13_code 6 = .ok (.iconst 0, 1) := id_Mod_clearCounts_0 (6, .iconst 0, 1) (List.mem_of_getElem? (i := 4) rfl)
theorem d_Mod_clearCounts_7 : decode prog_13_method_13_code 7 = .ok (.putfield 162, 3) := id_Mod_clearCounts_0 (7, .putfield 162, 3) (List.mem_of_getElem? (i := 5) rfl)
theorem d_Mod_clearCounts_10 : decode prog_13_method_13_code 10 = .ok (.aload_n 0, 1) := id_Mod_clearCounts_0 (10, .aload_n 0, 1) (List.mem_of_getElem? (i := 6) rfl)
theorem d_Mod_clearCounts_11 : decode prog_13_method_13_code 11 = .ok (.iconst 0, 1) := id_Mod_clearCounts_0 (11, .iconst 0, 1) (List.mem_of_getElem? (i := 7) rfl)
theorem d_Mod_clearCounts_12 : decode prog_13_method_13_code 12 = .ok (.putfield 165, 3) := id_Mod_clearCounts_0 (12, .putfield 165, 3) (List.mem_of_getElem? (i := 8) rfl)
theorem d_Mod_clearCounts_15 : decode prog_13_method_13_code 15 = .ok (.aload_n 0, 1) := id_Mod_clearCounts_0 (15, .aload_n 0, 1) (List.mem_of_getElem? (i := 9) rfl)
theorem d_Mod_clearCounts_16 : decode prog_13_method_13_code 16 = .ok (.iconst 0, 1) := id_Mod_clearCounts_0 (16, .iconst 0, 1) (List.mem_of_getElem? (i := 10) rfl)
theorem d_Mod_clearCounts_17 : decode prog_13_method_13_code 17 = .ok (.putfield 168, 3) := id_Mod_clearCounts_0 (17, .putfield 168, 3) (List.mem_of_getElem? (i := 11) rfl)
theorem d_Mod_clearCounts_20 : decode prog_13_method_13_code 20 = .ok (.aload_n 0, 1) := id_Mod_clearCounts_0 (20, .aload_n 0, 1) (List.mem_of_getElem? (i := 12) rfl)
theorem d_Mod_clearCounts_21 : decode prog_13_method_13_code 21 = .ok (.iconst 0, 1) := id_Mod_clearCounts_0 (21, .iconst 0, 1) (List.mem_of_getElem? (i := 13) rfl)
theorem d_Mod_clearCounts_22 : decode prog_13_method_13_code 22 = .ok (.putfield 171, 3) := id_Mod_clearCounts_0 (22, .putfield 171, 3) (List.mem_of_getElem? (i := 14) rfl)
theorem d_Mod_clearCounts_25 : decode prog_13_method_13_code 25 = .ok (.aload_n 0, 1) := id_Mod_clearCounts_0 (25, .aload_n 0, 1) (List.mem_of_getElem? (i := 15) rfl)
theorem d_Mod_clearCounts_26 : decode prog_13_method_13_code 26 = .ok (.iconst 0, 1) := id_Mod_clearCounts_0 (26, .iconst 0, 1) (List.mem_of_getElem? (i := 16) rfl)
theorem d_Mod_clearCounts_27 : decode prog_13_method_13_code 27 = .ok (.putfield 174, 3) := id_Mod_clearCounts_0 (27, .putfield 174, 3) (List.mem_of_getElem? (i := 17) rfl)
theorem d_Mod_clearCounts_30 : decode prog_13_method_13_code 30 = .ok (.aload_n 0, 1) := id_Mod_clearCounts_0 (30, .aload_n 0, 1) (List.mem_of_getElem? (i := 18) rfl)
theorem d_Mod_clearCounts_31 : decode prog_13_method_13_code 31 = .ok (.iconst 0, 1) := id_Mod_clearCounts_0 (31, .iconst 0, 1) (List.mem_of_getElem? (i := 19) rfl)
theorem d_Mod_clearCounts_32 : decode prog_13_method_13_code 32 = .ok (.putfield 177, 3) := id_Mod_clearCounts_0 (32, .putfield 177, 3) (List.mem_of_getElem? (i := 20) rfl)
theorem d_Mod_clearCounts_35 : decode prog_13_method_13_code 35 = .ok (.aload_n 0, 1) := id_Mod_clearCounts_0 (35, .aload_n 0, 1) (List.mem_of_getElem? (i := 21) rfl)
theorem d_Mod_clearCounts_36 : decode prog_13_method_13_code 36 = .ok (.iconst 0, 1) := id_Mod_clearCounts_0 (36, .iconst 0, 1) (List.mem_of_getElem? (i := 22) rfl)
theorem d_Mod_clearCounts_37 : decode prog_13_method_13_code 37 = .ok (.putfield 180, 3) := id_Mod_clearCounts_0 (37, .putfield 180, 3) (List.mem_of_getElem? (i := 23) rfl)
def it_Mod_clearCounts_1 : List (Nat × ClassFile.Instr × Nat) := [(40, .aload_n 0, 1), (41, .iconst 0, 1), (42, .putfield 183, 3), (45, .aload_n 0, 1), (46, .iconst 0, 1), (47, .putfield 186, 3), (50, .aload_n 0, 1), (51, .iconst 0, 1), (52, .putfield 189, 3), (55, .return_, 1)]
theorem id_Mod_clearCounts_1 : ∀ q ∈ it_Mod_clearCounts_1, decode prog_13_method_13_code q.1 = .ok q.2 := by decide +kernel
theorem d_Mod_clearCounts_40 : decode prog_13_method_13_code 40 = .ok (.aload_n 0, 1) := id_Mod_clearCounts_1 (40, .aload_n 0, 1) (List.mem_of_getElem? (i := 0) rfl)
theorem d_Mod_clearCounts_41 : decode prog_13_method_13_code 41 = .ok (.iconst 0, 1) := id_Mod_clearCounts_1 (41, .iconst 0, 1) (List.mem_of_getElem? (i := 1) rfl)
theorem d_Mod_clearCounts_42 : decode prog_13_method_13_code 42 = .ok (.putfield 183, 3) := id_Mod_clearCounts_1 (42, .putfield 183, 3) (List.mem_of_getElem? (i := 2) rfl)
theorem d_Mod_clearCounts_45 : decode prog_13_method_13_code 45 = .ok (.aload_n 0, 1) := id_Mod_clearCounts_1 (45, .aload_n 0, 1) (List.mem_of_getElem? (i := 3) rfl)
theorem d_Mod_clearCounts_46 : decode prog_13_method_13_code 46 = .ok (.iconst 0, 1) := id_Mod_clearCounts_1 (46, .iconst 0, 1) (List.mem_of_getElem? (i := 4) rfl)
theorem d_Mod_clearCounts_47 : decode prog_13_method_13_code 47 = .ok (.putfield 186, 3) := id_Mod_clearCounts_1 (47, .putfield 186, 3) (List.mem_of_getElem? (i := 5) rfl)
theorem d_Mod_clearCounts_50 : decode prog_13_method_13_code 50 = .ok (.aload_n 0, 1) := id_Mod_clearCounts_1 (50, .aload_n 0, 1) (List.mem_of_getElem? (i := 6) rfl)
theorem d_Mod_clearCounts_51 : decode prog_13_method_13_code 51 = .ok (.iconst 0, 1) := id_Mod_clearCounts_1 (51, .iconst 0, 1) (List.mem_of_getElem? (i := 7) rfl)
theorem d_Mod_clearCounts_52 : decode prog_13_method_13_code 52 = .ok (.putfield 189, 3) := id_Mod_clearCounts_1 (52, .putfield 189, 3) (List.mem_of_getElem? (i := 8) rfl)
theorem d_Mod_clearCounts_55 : decode prog_13_method_13_code 55 = .ok (.return_, 1) := id_Mod_clearCounts_1 (55, .return_, 1) (List.mem_of_getElem? (i := 9) rfl)
theorem wC_Mod_clearCounts : Cond.code ⟨"WarpMillModel", "clearCounts", "()V"⟩ prog_13_method_13_code 1 (none) ∈ lw_tb := mem_tb 1264 (by decide +kernel) rfl
def f_Mod_clearCounts (F : Nat) (x0 : Nat) (h : Hp) : Option Hp := gd (hK h x0 = 12) <| pw (sI h 719 x0 (0 : Int32)) fun h_2_2 => pw (sI h_2_2 720 x0 (0 : Int32)) fun h_7 => pw (sI h_7 721 x0 (0 : Int32)) fun h_12 => pw (sI h_12 722 x0 (0 : Int32)) fun h_17 => pw (sI h_17 723 x0 (0 : Int32)) fun h_22 => pw (sI h_22 724 x0 (0 : Int32)) fun h_27 => pw (sI h_27 725 x0 (0 : Int32)) fun h_32 => pw (sI h_32 727 x0 (0 : Int32)) fun h_37 => pw (sI h_37 728 x0 (0 : Int32)) fun h_42 => pw (sI h_42 729 x0 (0 : Int32)) fun h_47 => pw (sI h_47 730 x0 (0 : Int32)) fun h_52 => some h_52
set_option maxRecDepth 100000 in
set_option maxHeartbeats 4000000 in
theorem e_Mod_clearCounts {G : Gl} (hw : gF G) {F : Nat} {h' : Hp} {x0 : Nat} {h : Hp} (hf : f_Mod_clearCounts F x0 h = some h') : Ex G mi_Mod_clearCounts [.ref x0] h (pV h') := by
  unfold f_Mod_clearCounts at hf
  refine Ex.of nmV (by decide) (Nat.le_of_ble_eq_true rfl) ?_
  show Go G mi_Mod_clearCounts h _ h 0 [(0, .ref x0)] []
  refine g_aload_n d_Mod_clearCounts_0 rfl ?_
  refine g_iconst 0 d_Mod_clearCounts_1 (by decide) ?_
  obtain ⟨k_2, hf⟩ := gd_s hf
  refine fp_Mod_cycle hw lf_Mod_159 d_Mod_clearCounts_2 k_2 ?_
  have hf := pw_b hf
  refine g_aload_n d_Mod_clearCounts_5 rfl ?_
  refine g_iconst 0 d_Mod_clearCounts_6 (by decide) ?_
  refine fp_Mod_went hw lf_Mod_162 d_Mod_clearCounts_7 (kksI k_2) ?_
  have hf := pw_b hf
  refine g_aload_n d_Mod_clearCounts_10 rfl ?_
  refine g_iconst 0 d_Mod_clearCounts_11 (by decide) ?_
  refine fp_Mod_did hw lf_Mod_165 d_Mod_clearCounts_12 (kksI (kksI k_2)) ?_
  have hf := pw_b hf
  refine g_aload_n d_Mod_clearCounts_15 rfl ?_
  refine g_iconst 0 d_Mod_clearCounts_16 (by decide) ?_
  refine fp_Mod_partly hw lf_Mod_168 d_Mod_clearCounts_17 (kksI (kksI (kksI k_2))) ?_
  have hf := pw_b hf
  refine g_aload_n d_Mod_clearCounts_20 rfl ?_
  refine g_iconst 0 d_Mod_clearCounts_21 (by decide) ?_
  refine fp_Mod_hits hw lf_Mod_171 d_Mod_clearCounts_22 (kksI (kksI (kksI (kksI k_2)))) ?_
  have hf := pw_b hf
  refine g_aload_n d_Mod_clearCounts_25 rfl ?_
  refine g_iconst 0 d_Mod_clearCounts_26 (by decide) ?_
  refine fp_Mod_others hw lf_Mod_174 d_Mod_clearCounts_27 (kksI (kksI (kksI (kksI (kksI k_2))))) ?_
  have hf := pw_b hf
  refine g_aload_n d_Mod_clearCounts_30 rfl ?_
  refine g_iconst 0 d_Mod_clearCounts_31 (by decide) ?_
  refine fp_Mod_ended hw lf_Mod_177 d_Mod_clearCounts_32 (kksI (kksI (kksI (kksI (kksI (kksI k_2)))))) ?_
  have hf := pw_b hf
  refine g_aload_n d_Mod_clearCounts_35 rfl ?_
  refine g_iconst 0 d_Mod_clearCounts_36 (by decide) ?_
  refine fp_Mod_why hw lf_Mod_180 d_Mod_clearCounts_37 (kksI (kksI (kksI (kksI (kksI (kksI (kksI k_2))))))) ?_
  have hf := pw_b hf
  refine g_aload_n d_Mod_clearCounts_40 rfl ?_
  refine g_iconst 0 d_Mod_clearCounts_41 (by decide) ?_
  refine fp_Mod_whyBlock hw lf_Mod_183 d_Mod_clearCounts_42 (kksI (kksI (kksI (kksI (kksI (kksI (kksI (kksI k_2)))))))) ?_
  have hf := pw_b hf
  refine g_aload_n d_Mod_clearCounts_45 rfl ?_
  refine g_iconst 0 d_Mod_clearCounts_46 (by decide) ?_
  refine fp_Mod_whyThread hw lf_Mod_186 d_Mod_clearCounts_47 (kksI (kksI (kksI (kksI (kksI (kksI (kksI (kksI (kksI k_2))))))))) ?_
  have hf := pw_b hf
  refine g_aload_n d_Mod_clearCounts_50 rfl ?_
  refine g_iconst 0 d_Mod_clearCounts_51 (by decide) ?_
  refine fp_Mod_whyPlace hw lf_Mod_189 d_Mod_clearCounts_52 (kksI (kksI (kksI (kksI (kksI (kksI (kksI (kksI (kksI (kksI k_2)))))))))) ?_
  have hf := pw_b hf
  exact Go.ret none trivial rfl d_Mod_clearCounts_55 (pV_of hf)
abbrev mi_Mod_sizes : MI := (⟨"WarpMillModel", "sizes", "(IIIIII)Z"⟩, prog_13_method_9_code, 9, some .boolean, 3, 63)
def it_Mod_sizes_0 : List (Nat × ClassFile.Instr × Nat) := [(0, .aload_n 0, 1), (1, .iconst 0, 1), (2, .putfield 120, 3), (5, .iload_n 1, 1), (6, .bipush (32), 2), (8, .invokestatic 139, 3), (11, .ifCond .eq (68), 3), (14, .iload_n 2, 1), (15, .iconst 1, 1), (16, .if_icmp .lt (63), 3), (19, .iload_n 2, 1), (20, .bipush (16), 2), (22, .if_icmp .gt (57), 3), (25, .iload_n 3, 1), (26, .iconst 1, 1), (27, .if_icmp .lt (52), 3), (30, .iload_n 3, 1), (31, .bipush (8), 2), (33, .if_icmp .gt (46), 3), (36, .iload 4, 2), (38, .bipush (32), 2), (40, .invokestatic 139, 3), (43, .ifCond .eq (36), 3), (46, .iload 5, 2)]
theorem id_Mod_sizes_0 : ∀ q ∈ it_Mod_sizes_0, decode prog_13_method_9_code q.1 = .ok q.2 := by decide +kernel
theorem d_Mod_sizes_0 : decode prog_13_method_9_code 0 = .ok (.aload_n 0, 1) := id_Mod_sizes_0 (0, .aload_n 0, 1) (List.mem_of_getElem? (i := 0) rfl)
theorem d_Mod_sizes_1 : decode prog_13_method_9_code 1 = .ok (.iconst 0, 1) := id_Mod_sizes_0 (1, .iconst 0, 1) (List.mem_of_getElem? (i := 1) rfl)
theorem d_Mod_sizes_2 : decode prog_13_method_9_code 2 = .ok (.putfield 120, 3) := id_Mod_sizes_0 (2, .putfield 120, 3) (List.mem_of_getElem? (i := 2) rfl)
theorem d_Mod_sizes_5 : decode prog_13_method_9_code 5 = .ok (.iload_n 1, 1) := id_Mod_sizes_0 (5, .iload_n 1, 1) (List.mem_of_getElem? (i := 3) rfl)
theorem d_Mod_sizes_6 : decode prog_13_method_9_code 6 = .ok (.bipush (32), 2) := id_Mod_sizes_0 (6, .bipush (32), 2) (List.mem_of_getElem? (i := 4) rfl)
theorem d_Mod_sizes_8 : decode prog_13_method_9_code 8 = .ok (.invokestatic 139, 3) := id_Mod_sizes_0 (8, .invokestatic 139, 3) (List.mem_of_getElem? (i := 5) rfl)
theorem d_Mod_sizes_11 : decode prog_13_method_9_code 11 = .ok (.ifCond .eq (68), 3) := id_Mod_sizes_0 (11, .ifCond .eq (68), 3) (List.mem_of_getElem? (i := 6) rfl)
theorem d_Mod_sizes_14 : decode prog_13_method_9_code 14 = .ok (.iload_n 2, 1) := id_Mod_sizes_0 (14, .iload_n 2, 1) (List.mem_of_getElem? (i := 7) rfl)
theorem d_Mod_sizes_15 : decode prog_13_method_9_code 15 = .ok (.iconst 1, 1) := id_Mod_sizes_0 (15, .iconst 1, 1) (List.mem_of_getElem? (i := 8) rfl)
theorem d_Mod_sizes_16 : decode prog_13_method_9_code 16 = .ok (.if_icmp .lt (63), 3) := id_Mod_sizes_0 (16, .if_icmp .lt (63), 3) (List.mem_of_getElem? (i := 9) rfl)
theorem d_Mod_sizes_19 : decode prog_13_method_9_code 19 = .ok (.iload_n 2, 1) := id_Mod_sizes_0 (19, .iload_n 2, 1) (List.mem_of_getElem? (i := 10) rfl)
theorem d_Mod_sizes_20 : decode prog_13_method_9_code 20 = .ok (.bipush (16), 2) := id_Mod_sizes_0 (20, .bipush (16), 2) (List.mem_of_getElem? (i := 11) rfl)
theorem d_Mod_sizes_22 : decode prog_13_method_9_code 22 = .ok (.if_icmp .gt (57), 3) := id_Mod_sizes_0 (22, .if_icmp .gt (57), 3) (List.mem_of_getElem? (i := 12) rfl)
theorem d_Mod_sizes_25 : decode prog_13_method_9_code 25 = .ok (.iload_n 3, 1) := id_Mod_sizes_0 (25, .iload_n 3, 1) (List.mem_of_getElem? (i := 13) rfl)
theorem d_Mod_sizes_26 : decode prog_13_method_9_code 26 = .ok (.iconst 1, 1) := id_Mod_sizes_0 (26, .iconst 1, 1) (List.mem_of_getElem? (i := 14) rfl)
theorem d_Mod_sizes_27 : decode prog_13_method_9_code 27 = .ok (.if_icmp .lt (52), 3) := id_Mod_sizes_0 (27, .if_icmp .lt (52), 3) (List.mem_of_getElem? (i := 15) rfl)
theorem d_Mod_sizes_30 : decode prog_13_method_9_code 30 = .ok (.iload_n 3, 1) := id_Mod_sizes_0 (30, .iload_n 3, 1) (List.mem_of_getElem? (i := 16) rfl)
theorem d_Mod_sizes_31 : decode prog_13_method_9_code 31 = .ok (.bipush (8), 2) := id_Mod_sizes_0 (31, .bipush (8), 2) (List.mem_of_getElem? (i := 17) rfl)
theorem d_Mod_sizes_33 : decode prog_13_method_9_code 33 = .ok (.if_icmp .gt (46), 3) := id_Mod_sizes_0 (33, .if_icmp .gt (46), 3) (List.mem_of_getElem? (i := 18) rfl)
theorem d_Mod_sizes_36 : decode prog_13_method_9_code 36 = .ok (.iload 4, 2) := id_Mod_sizes_0 (36, .iload 4, 2) (List.mem_of_getElem? (i := 19) rfl)
theorem d_Mod_sizes_38 : decode prog_13_method_9_code 38 = .ok (.bipush (32), 2) := id_Mod_sizes_0 (38, .bipush (32), 2) (List.mem_of_getElem? (i := 20) rfl)
theorem d_Mod_sizes_40 : decode prog_13_method_9_code 40 = .ok (.invokestatic 139, 3) := id_Mod_sizes_0 (40, .invokestatic 139, 3) (List.mem_of_getElem? (i := 21) rfl)
theorem d_Mod_sizes_43 : decode prog_13_method_9_code 43 = .ok (.ifCond .eq (36), 3) := id_Mod_sizes_0 (43, .ifCond .eq (36), 3) (List.mem_of_getElem? (i := 22) rfl)
theorem d_Mod_sizes_46 : decode prog_13_method_9_code 46 = .ok (.iload 5, 2) := id_Mod_sizes_0 (46, .iload 5, 2) (List.mem_of_getElem? (i := 23) rfl)
def it_Mod_sizes_1 : List (Nat × ClassFile.Instr × Nat) := [(48, .bipush (8), 2), (50, .invokestatic 139, 3), (53, .ifCond .eq (26), 3), (56, .iload 6, 2), (58, .sipush (512), 3), (61, .if_icmp .lt (18), 3), (64, .iload 6, 2), (66, .sipush (4096), 3), (69, .invokestatic 139, 3), (72, .ifCond .eq (7), 3), (75, .iconst 1, 1), (76, .goto (4), 3), (79, .iconst 0, 1), (80, .istore 7, 2), (82, .iload 7, 2), (84, .ifCond .eq (10), 3), (87, .aload_n 0, 1), (88, .invokevirtual 143, 3), (91, .ifCond .eq (5), 3), (94, .iconst 0, 1), (95, .ireturn, 1), (96, .aload_n 0, 1), (97, .iload_n 1, 1), (98, .putfield 7, 3)]
theorem id_Mod_sizes_1 : ∀ q ∈ it_Mod_sizes_1, decode prog_13_method_9_code q.1 = .ok q.2 := by decide +kernel
theorem d_Mod_sizes_48 : decode prog_13_method_9_code 48 = .ok (.bipush (8), 2) := id_Mod_sizes_1 (48, .bipush (8), 2) (List.mem_of_getElem? (i := 0) rfl)
theorem d_Mod_sizes_50 : decode prog_13_method_9_code 50 = .ok (.invokestatic 139, 3) := id_Mod_sizes_1 (50, .invokestatic 139, 3) (List.mem_of_getElem? (i := 1) rfl)
theorem d_Mod_sizes_53 : decode prog_13_method_9_code 53 = .ok (.ifCond .eq (26), 3) := id_Mod_sizes_1 (53, .ifCond .eq (26), 3) (List.mem_of_getElem? (i := 2) rfl)
theorem d_Mod_sizes_56 : decode prog_13_method_9_code 56 = .ok (.iload 6, 2) := id_Mod_sizes_1 (56, .iload 6, 2) (List.mem_of_getElem? (i := 3) rfl)
theorem d_Mod_sizes_58 : decode prog_13_method_9_code 58 = .ok (.sipush (512), 3) := id_Mod_sizes_1 (58, .sipush (512), 3) (List.mem_of_getElem? (i := 4) rfl)
theorem d_Mod_sizes_61 : decode prog_13_method_9_code 61 = .ok (.if_icmp .lt (18), 3) := id_Mod_sizes_1 (61, .if_icmp .lt (18), 3) (List.mem_of_getElem? (i := 5) rfl)
theorem d_Mod_sizes_64 : decode prog_13_method_9_code 64 = .ok (.iload 6, 2) := id_Mod_sizes_1 (64, .iload 6, 2) (List.mem_of_getElem? (i := 6) rfl)
theorem d_Mod_sizes_66 : decode prog_13_method_9_code 66 = .ok (.sipush (4096), 3) := id_Mod_sizes_1 (66, .sipush (4096), 3) (List.mem_of_getElem? (i := 7) rfl)
theorem d_Mod_sizes_69 : decode prog_13_method_9_code 69 = .ok (.invokestatic 139, 3) := id_Mod_sizes_1 (69, .invokestatic 139, 3) (List.mem_of_getElem? (i := 8) rfl)
theorem d_Mod_sizes_72 : decode prog_13_method_9_code 72 = .ok (.ifCond .eq (7), 3) := id_Mod_sizes_1 (72, .ifCond .eq (7), 3) (List.mem_of_getElem? (i := 9) rfl)
theorem d_Mod_sizes_75 : decode prog_13_method_9_code 75 = .ok (.iconst 1, 1) := id_Mod_sizes_1 (75, .iconst 1, 1) (List.mem_of_getElem? (i := 10) rfl)
theorem d_Mod_sizes_76 : decode prog_13_method_9_code 76 = .ok (.goto (4), 3) := id_Mod_sizes_1 (76, .goto (4), 3) (List.mem_of_getElem? (i := 11) rfl)
theorem d_Mod_sizes_79 : decode prog_13_method_9_code 79 = .ok (.iconst 0, 1) := id_Mod_sizes_1 (79, .iconst 0, 1) (List.mem_of_getElem? (i := 12) rfl)
theorem d_Mod_sizes_80 : decode prog_13_method_9_code 80 = .ok (.istore 7, 2) := id_Mod_sizes_1 (80, .istore 7, 2) (List.mem_of_getElem? (i := 13) rfl)
theorem d_Mod_sizes_82 : decode prog_13_method_9_code 82 = .ok (.iload 7, 2) := id_Mod_sizes_1 (82, .iload 7, 2) (List.mem_of_getElem? (i := 14) rfl)
theorem d_Mod_sizes_84 : decode prog_13_method_9_code 84 = .ok (.ifCond .eq (10), 3) := id_Mod_sizes_1 (84, .ifCond .eq (10), 3) (List.mem_of_getElem? (i := 15) rfl)
theorem d_Mod_sizes_87 : decode prog_13_method_9_code 87 = .ok (.aload_n 0, 1) := id_Mod_sizes_1 (87, .aload_n 0, 1) (List.mem_of_getElem? (i := 16) rfl)
theorem d_Mod_sizes_88 : decode prog_13_method_9_code 88 = .ok (.invokevirtual 143, 3) := id_Mod_sizes_1 (88, .invokevirtual 143, 3) (List.mem_of_getElem? (i := 17) rfl)
theorem d_Mod_sizes_91 : decode prog_13_method_9_code 91 = .ok (.ifCond .eq (5), 3) := id_Mod_sizes_1 (91, .ifCond .eq (5), 3) (List.mem_of_getElem? (i := 18) rfl)
theorem d_Mod_sizes_94 : decode prog_13_method_9_code 94 = .ok (.iconst 0, 1) := id_Mod_sizes_1 (94, .iconst 0, 1) (List.mem_of_getElem? (i := 19) rfl)
theorem d_Mod_sizes_95 : decode prog_13_method_9_code 95 = .ok (.ireturn, 1) := id_Mod_sizes_1 (95, .ireturn, 1) (List.mem_of_getElem? (i := 20) rfl)
theorem d_Mod_sizes_96 : decode prog_13_method_9_code 96 = .ok (.aload_n 0, 1) := id_Mod_sizes_1 (96, .aload_n 0, 1) (List.mem_of_getElem? (i := 21) rfl)
theorem d_Mod_sizes_97 : decode prog_13_method_9_code 97 = .ok (.iload_n 1, 1) := id_Mod_sizes_1 (97, .iload_n 1, 1) (List.mem_of_getElem? (i := 22) rfl)
theorem d_Mod_sizes_98 : decode prog_13_method_9_code 98 = .ok (.putfield 7, 3) := id_Mod_sizes_1 (98, .putfield 7, 3) (List.mem_of_getElem? (i := 23) rfl)
def it_Mod_sizes_2 : List (Nat × ClassFile.Instr × Nat) := [(101, .aload_n 0, 1), (102, .iload_n 2, 1), (103, .putfield 13, 3), (106, .aload_n 0, 1), (107, .iload_n 3, 1), (108, .putfield 16, 3), (111, .aload_n 0, 1), (112, .iload 4, 2), (114, .putfield 19, 3), (117, .aload_n 0, 1), (118, .iload 5, 2), (120, .putfield 22, 3), (123, .iload 6, 2), (125, .istore 8, 2), (127, .iload 8, 2), (129, .sipush (4096), 3), (132, .if_icmp .ge (17), 3), (135, .aload_n 0, 1), (136, .getfield 32, 3), (139, .iload 8, 2), (141, .iconst 0, 1), (142, .iastore, 1), (143, .iinc 8 (1), 3), (146, .goto (-19), 3)]
theorem id_Mod_sizes_2 : ∀ q ∈ it_Mod_sizes_2, decode prog_13_method_9_code q.1 = .ok q.2 := by decide +kernel
theorem d_Mod_sizes_101 : decode prog_13_method_9_code 101 = .ok (.aload_n 0, 1) := id_Mod_sizes_2 (101, .aload_n 0, 1) (List.mem_of_getElem? (i := 0) rfl)
theorem d_Mod_sizes_102 : decode prog_13_method_9_code 102 = .ok (.iload_n 2, 1) := id_Mod_sizes_2 (102, .iload_n 2, 1) (List.mem_of_getElem? (i := 1) rfl)
theorem d_Mod_sizes_103 : decode prog_13_method_9_code 103 = .ok (.putfield 13, 3) := id_Mod_sizes_2 (103, .putfield 13, 3) (List.mem_of_getElem? (i := 2) rfl)
theorem d_Mod_sizes_106 : decode prog_13_method_9_code 106 = .ok (.aload_n 0, 1) := id_Mod_sizes_2 (106, .aload_n 0, 1) (List.mem_of_getElem? (i := 3) rfl)
theorem d_Mod_sizes_107 : decode prog_13_method_9_code 107 = .ok (.iload_n 3, 1) := id_Mod_sizes_2 (107, .iload_n 3, 1) (List.mem_of_getElem? (i := 4) rfl)
theorem d_Mod_sizes_108 : decode prog_13_method_9_code 108 = .ok (.putfield 16, 3) := id_Mod_sizes_2 (108, .putfield 16, 3) (List.mem_of_getElem? (i := 5) rfl)
theorem d_Mod_sizes_111 : decode prog_13_method_9_code 111 = .ok (.aload_n 0, 1) := id_Mod_sizes_2 (111, .aload_n 0, 1) (List.mem_of_getElem? (i := 6) rfl)
theorem d_Mod_sizes_112 : decode prog_13_method_9_code 112 = .ok (.iload 4, 2) := id_Mod_sizes_2 (112, .iload 4, 2) (List.mem_of_getElem? (i := 7) rfl)
theorem d_Mod_sizes_114 : decode prog_13_method_9_code 114 = .ok (.putfield 19, 3) := id_Mod_sizes_2 (114, .putfield 19, 3) (List.mem_of_getElem? (i := 8) rfl)
theorem d_Mod_sizes_117 : decode prog_13_method_9_code 117 = .ok (.aload_n 0, 1) := id_Mod_sizes_2 (117, .aload_n 0, 1) (List.mem_of_getElem? (i := 9) rfl)
theorem d_Mod_sizes_118 : decode prog_13_method_9_code 118 = .ok (.iload 5, 2) := id_Mod_sizes_2 (118, .iload 5, 2) (List.mem_of_getElem? (i := 10) rfl)
theorem d_Mod_sizes_120 : decode prog_13_method_9_code 120 = .ok (.putfield 22, 3) := id_Mod_sizes_2 (120, .putfield 22, 3) (List.mem_of_getElem? (i := 11) rfl)
theorem d_Mod_sizes_123 : decode prog_13_method_9_code 123 = .ok (.iload 6, 2) := id_Mod_sizes_2 (123, .iload 6, 2) (List.mem_of_getElem? (i := 12) rfl)
theorem d_Mod_sizes_125 : decode prog_13_method_9_code 125 = .ok (.istore 8, 2) := id_Mod_sizes_2 (125, .istore 8, 2) (List.mem_of_getElem? (i := 13) rfl)
theorem d_Mod_sizes_127 : decode prog_13_method_9_code 127 = .ok (.iload 8, 2) := id_Mod_sizes_2 (127, .iload 8, 2) (List.mem_of_getElem? (i := 14) rfl)
theorem d_Mod_sizes_129 : decode prog_13_method_9_code 129 = .ok (.sipush (4096), 3) := id_Mod_sizes_2 (129, .sipush (4096), 3) (List.mem_of_getElem? (i := 15) rfl)
theorem d_Mod_sizes_132 : decode prog_13_method_9_code 132 = .ok (.if_icmp .ge (17), 3) := id_Mod_sizes_2 (132, .if_icmp .ge (17), 3) (List.mem_of_getElem? (i := 16) rfl)
theorem d_Mod_sizes_135 : decode prog_13_method_9_code 135 = .ok (.aload_n 0, 1) := id_Mod_sizes_2 (135, .aload_n 0, 1) (List.mem_of_getElem? (i := 17) rfl)
theorem d_Mod_sizes_136 : decode prog_13_method_9_code 136 = .ok (.getfield 32, 3) := id_Mod_sizes_2 (136, .getfield 32, 3) (List.mem_of_getElem? (i := 18) rfl)
theorem d_Mod_sizes_139 : decode prog_13_method_9_code 139 = .ok (.iload 8, 2) := id_Mod_sizes_2 (139, .iload 8, 2) (List.mem_of_getElem? (i := 19) rfl)
theorem d_Mod_sizes_141 : decode prog_13_method_9_code 141 = .ok (.iconst 0, 1) := id_Mod_sizes_2 (141, .iconst 0, 1) (List.mem_of_getElem? (i := 20) rfl)
theorem d_Mod_sizes_142 : decode prog_13_method_9_code 142 = .ok (.iastore, 1) := id_Mod_sizes_2 (142, .iastore, 1) (List.mem_of_getElem? (i := 21) rfl)
theorem d_Mod_sizes_143 : decode prog_13_method_9_code 143 = .ok (.iinc 8 (1), 3) := id_Mod_sizes_2 (143, .iinc 8 (1), 3) (List.mem_of_getElem? (i := 22) rfl)
theorem d_Mod_sizes_146 : decode prog_13_method_9_code 146 = .ok (.goto (-19), 3) := id_Mod_sizes_2 (146, .goto (-19), 3) (List.mem_of_getElem? (i := 23) rfl)
def it_Mod_sizes_3 : List (Nat × ClassFile.Instr × Nat) := [(149, .aload_n 0, 1), (150, .iload 6, 2), (152, .putfield 25, 3), (155, .aload_n 0, 1), (156, .iconst 0, 1), (157, .putfield 136, 3), (160, .aload_n 0, 1), (161, .invokevirtual 147, 3), (164, .aload_n 0, 1), (165, .invokevirtual 117, 3), (168, .iconst 1, 1), (169, .ireturn, 1)]
theorem id_Mod_sizes_3 : ∀ q ∈ it_Mod_sizes_3, decode prog_13_method_9_code q.1 = .ok q.2 := by decide +kernel
theorem d_Mod_sizes_149 : decode prog_13_method_9_code 149 = .ok (.aload_n 0, 1) := id_Mod_sizes_3 (149, .aload_n 0, 1) (List.mem_of_getElem? (i := 0) rfl)
theorem d_Mod_sizes_150 : decode prog_13_method_9_code 150 = .ok (.iload 6, 2) := id_Mod_sizes_3 (150, .iload 6, 2) (List.mem_of_getElem? (i := 1) rfl)
theorem d_Mod_sizes_152 : decode prog_13_method_9_code 152 = .ok (.putfield 25, 3) := id_Mod_sizes_3 (152, .putfield 25, 3) (List.mem_of_getElem? (i := 2) rfl)
theorem d_Mod_sizes_155 : decode prog_13_method_9_code 155 = .ok (.aload_n 0, 1) := id_Mod_sizes_3 (155, .aload_n 0, 1) (List.mem_of_getElem? (i := 3) rfl)
theorem d_Mod_sizes_156 : decode prog_13_method_9_code 156 = .ok (.iconst 0, 1) := id_Mod_sizes_3 (156, .iconst 0, 1) (List.mem_of_getElem? (i := 4) rfl)
theorem d_Mod_sizes_157 : decode prog_13_method_9_code 157 = .ok (.putfield 136, 3) := id_Mod_sizes_3 (157, .putfield 136, 3) (List.mem_of_getElem? (i := 5) rfl)
theorem d_Mod_sizes_160 : decode prog_13_method_9_code 160 = .ok (.aload_n 0, 1) := id_Mod_sizes_3 (160, .aload_n 0, 1) (List.mem_of_getElem? (i := 6) rfl)
theorem d_Mod_sizes_161 : decode prog_13_method_9_code 161 = .ok (.invokevirtual 147, 3) := id_Mod_sizes_3 (161, .invokevirtual 147, 3) (List.mem_of_getElem? (i := 7) rfl)
theorem d_Mod_sizes_164 : decode prog_13_method_9_code 164 = .ok (.aload_n 0, 1) := id_Mod_sizes_3 (164, .aload_n 0, 1) (List.mem_of_getElem? (i := 8) rfl)
theorem d_Mod_sizes_165 : decode prog_13_method_9_code 165 = .ok (.invokevirtual 117, 3) := id_Mod_sizes_3 (165, .invokevirtual 117, 3) (List.mem_of_getElem? (i := 9) rfl)
theorem d_Mod_sizes_168 : decode prog_13_method_9_code 168 = .ok (.iconst 1, 1) := id_Mod_sizes_3 (168, .iconst 1, 1) (List.mem_of_getElem? (i := 10) rfl)
theorem d_Mod_sizes_169 : decode prog_13_method_9_code 169 = .ok (.ireturn, 1) := id_Mod_sizes_3 (169, .ireturn, 1) (List.mem_of_getElem? (i := 11) rfl)
theorem wC_Mod_sizes : Cond.code ⟨"WarpMillModel", "sizes", "(IIIIII)Z"⟩ prog_13_method_9_code 9 (some .boolean) ∈ lw_tb := mem_tb 1253 (by decide +kernel) rfl
theorem cw_Mod_sizes_Mod_isPower : cW mi_Mod_sizes mi_Mod_isPower 2 := ⟨wC_Mod_isPower, wi_Mod, ⟨by decide, by decide, by decide +kernel⟩, by decide, by decide⟩
theorem cw_Mod_sizes_Mod_isUnder : cW mi_Mod_sizes mi_Mod_isUnder 0 := ⟨wC_Mod_isUnder, wi_Mod, ⟨by decide, by decide, by decide +kernel⟩, by decide, by decide⟩
theorem cw_Mod_sizes_Mod_clearCounts : cW mi_Mod_sizes mi_Mod_clearCounts 0 := ⟨wC_Mod_clearCounts, wi_Mod, ⟨by decide, by decide, by decide +kernel⟩, by decide, by decide⟩
theorem cw_Mod_sizes_Mod_clearHouse : cW mi_Mod_sizes mi_Mod_clearHouse 0 := ⟨wC_Mod_clearHouse, wi_Mod, ⟨by decide, by decide, by decide +kernel⟩, by decide, by decide⟩
def b_Mod_sizes_127 (F : Nat) : Nat → Nat → Int32 → Int32 → Hp → Option (Int32 × Hp)
  | 0 => fun _ _ _ _ => none
  | n + 1 => fun x0 x6 x8 h => if (4096 : Int32) ≤ x8 then (gd (hK h x0 = 12) <| pw (sI h 710 x0 x6) fun h_152_2 => pw (sI h_152_2 715 x0 (0 : Int32)) fun h_157 => clv (f_Mod_clearCounts F x0 h_157) fun h_161 => gd (hK h_161 x0 = 12) <| clv (f_Mod_clearHouse F x0 h_161) fun h_165_2 => some ((1 : Int32), h_165_2)) else (gd (hK h x0 = 12) <| rq h (hR h 712 x0) 100 fun a_136_2 => ix x8 (hN h a_136_2) fun j_142 => pw (sA h a_136_2 j_142 (0 : Int32)) fun h_142_2 => b_Mod_sizes_127 F n x0 x6 (x8 + 1) h_142_2)
set_option maxRecDepth 100000 in
set_option maxHeartbeats 4000000 in
theorem e_Mod_sizes_127 {G : Gl} (hw : gF G) {h0 : Hp} {F : Nat} {r : Int32} {h' : Hp}   : ∀ (n : Nat) (x0 : Nat) (x6 : Int32) (x8 : Int32) (h : Hp), b_Mod_sizes_127 F n x0 x6 x8 h = some (r, h') → Go G mi_Mod_sizes h0 (pI r h') h 127 [(0, .ref x0), (6, .int x6), (8, .int x8)] [] := by
  intro n
  induction n with
  | zero =>
    intro _ _ _ _ hf
    exact nm_s hf
  | succ n ih =>
    intro x0 x6 x8 h hf
    unfold b_Mod_sizes_127 at hf
    refine g_iload d_Mod_sizes_127 rfl ?_
    refine g_sipush (4096) d_Mod_sizes_129 (by decide) ?_
    refine g_icmp_ge 149 d_Mod_sizes_132 (by decide) (fun c_132 => ?_) (fun c_132 => ?_)
    · have hf := ifp hf c_132
      refine g_aload_n d_Mod_sizes_149 rfl ?_
      refine g_iload d_Mod_sizes_150 rfl ?_
      obtain ⟨k_152, hf⟩ := gd_s hf
      refine fp_Mod_ints hw lf_Mod_25 d_Mod_sizes_152 k_152 ?_
      have hf := pw_b hf
      refine g_aload_n d_Mod_sizes_155 rfl ?_
      refine g_iconst 0 d_Mod_sizes_156 (by decide) ?_
      refine fp_Mod_status hw lf_Mod_136 d_Mod_sizes_157 (kksI k_152) ?_
      have hf := pw_b hf
      refine g_aload_n d_Mod_sizes_160 rfl ?_
      obtain ⟨h_161, e_161, hf⟩ := clv_s hf
      refine g_callV (mz := mi_Mod_clearCounts) (e_Mod_clearCounts hw e_161) cw_Mod_sizes_Mod_clearCounts lm_Mod_147 wI_Mod_clearCounts wV_Mod_clearCounts (ci := 11) (kksI (kksI k_152)) (by decide) rfl rfl d_Mod_sizes_161 rfl rfl (by first | exact Nat.le_of_ble_eq_true rfl | simp [cat_rf, Value.category]) (fun r1 h1 hp hro => ?_)
      obtain ⟨rfl, rfl⟩ := hp
      dsimp only [Option.toList_some, Option.toList_none, List.cons_append, List.nil_append]
      refine g_aload_n d_Mod_sizes_164 rfl ?_
      obtain ⟨k_165, hf⟩ := gd_s hf
      obtain ⟨h_165_2, e_165_2, hf⟩ := clv_s hf
      refine g_callV (mz := mi_Mod_clearHouse) (e_Mod_clearHouse hw e_165_2) cw_Mod_sizes_Mod_clearHouse lm_Mod_117 wI_Mod_clearHouse wV_Mod_clearHouse (ci := 11) k_165 (by decide) rfl rfl d_Mod_sizes_165 rfl rfl (by first | exact Nat.le_of_ble_eq_true rfl | simp [cat_rf, Value.category]) (fun r1 h1 hp hro => ?_)
      obtain ⟨rfl, rfl⟩ := hp
      dsimp only [Option.toList_some, Option.toList_none, List.cons_append, List.nil_append]
      refine g_iconst 1 d_Mod_sizes_168 (by decide) ?_
      exact Go.ret (some _) rOk_b1 rfl d_Mod_sizes_169 (pI_of hf)
    · have hf := ifn hf c_132
      refine g_aload_n d_Mod_sizes_135 rfl ?_
      obtain ⟨k_136, hf⟩ := gd_s hf
      obtain ⟨a_136_2, e_136_2, k_136_2, hf⟩ := rq_s hf
      refine fgs_Mod_memory lf_Mod_32 d_Mod_sizes_136 k_136 e_136_2 ?_
      refine g_iload d_Mod_sizes_139 rfl ?_
      refine g_iconst 0 d_Mod_sizes_141 (by decide) ?_
      obtain ⟨i_142, hf⟩ := ix_s hf
      refine g_iast hw k_136_2 i_142 d_Mod_sizes_142 ?_
      have hf := pw_b hf
      refine g_iinc (_ + 1) d_Mod_sizes_143 rfl (by rfl) (by decide) ?_
      show Go _ _ _ _ _ _ [(0, _), (6, _), (8, _)] _
      refine g_goto 127 d_Mod_sizes_146 (by decide) ?_
      exact ih _ _ _ _ hf
def b_Mod_sizes_80 (F : Nat) (x0 : Nat) (x1 : Int32) (x2 : Int32) (x3 : Int32) (x4 : Int32) (x5 : Int32) (x6 : Int32) (s0 : Int32) (h : Hp) : Option (Int32 × Hp) := if s0 = 0 then (some ((0 : Int32), h)) else (gd (hK h x0 = 12) <| cl (f_Mod_isUnder F x0 h) fun v_88_2 h_88_2 => if v_88_2 = 0 then (gd (hK h_88_2 x0 = 12) <| pw (sI h_88_2 705 x0 x1) fun h_98_2 => pw (sI h_98_2 706 x0 x2) fun h_103 => pw (sI h_103 707 x0 x3) fun h_108 => pw (sI h_108 708 x0 x4) fun h_114 => pw (sI h_114 709 x0 x5) fun h_120 => b_Mod_sizes_127 F F x0 x6 x6 h_120) else (some ((0 : Int32), h_88_2)))
set_option maxRecDepth 100000 in
set_option maxHeartbeats 4000000 in
theorem e_Mod_sizes_80 {G : Gl} (hw : gF G) {h0 : Hp} {F : Nat} {r : Int32} {h' : Hp}   {x0 : Nat} {x1 : Int32} {x2 : Int32} {x3 : Int32} {x4 : Int32} {x5 : Int32} {x6 : Int32} {s0 : Int32} {h : Hp} (hf : b_Mod_sizes_80 F x0 x1 x2 x3 x4 x5 x6 s0 h = some (r, h')) : Go G mi_Mod_sizes h0 (pI r h') h 80 [(0, .ref x0), (1, .int x1), (2, .int x2), (3, .int x3), (4, .int x4), (5, .int x5), (6, .int x6)] [.int s0] := by
  unfold b_Mod_sizes_80 at hf
  refine g_istore d_Mod_sizes_80 (by decide) ?_
  show Go _ _ _ _ _ _ [(0, _), (1, _), (2, _), (3, _), (4, _), (5, _), (6, _), (7, _)] _
  refine g_iload d_Mod_sizes_82 rfl ?_
  refine g_if_eq 94 d_Mod_sizes_84 (by decide) (fun c_84 => ?_) (fun c_84 => ?_)
  · have hf := ifp hf c_84
    refine g_iconst 0 d_Mod_sizes_94 (by decide) ?_
    exact Go.ret (some _) rOk_b0 rfl d_Mod_sizes_95 (pI_of hf)
  · have hf := ifn hf c_84
    refine g_aload_n d_Mod_sizes_87 rfl ?_
    obtain ⟨k_88, hf⟩ := gd_s hf
    obtain ⟨v_88_2, h_88_2, e_88_2, hf⟩ := cl_s hf
    refine g_callV (mz := mi_Mod_isUnder) (e_Mod_isUnder e_88_2) cw_Mod_sizes_Mod_isUnder lm_Mod_143 wI_Mod_isUnder wV_Mod_isUnder (ci := 11) k_88 (by decide) rfl rfl d_Mod_sizes_88 rfl rfl (by first | exact Nat.le_of_ble_eq_true rfl | simp [cat_rf, Value.category]) (fun r1 h1 hp hro => ?_)
    obtain ⟨rfl, rfl⟩ := hp
    dsimp only [Option.toList_some, Option.toList_none, List.cons_append, List.nil_append]
    refine g_if_eq 96 d_Mod_sizes_91 (by decide) (fun c_91 => ?_) (fun c_91 => ?_)
    · have hf := ifp hf c_91
      refine g_aload_n d_Mod_sizes_96 rfl ?_
      refine g_iload_n d_Mod_sizes_97 rfl ?_
      obtain ⟨k_98, hf⟩ := gd_s hf
      refine fp_Mod_lanes hw lf_Mod_7 d_Mod_sizes_98 k_98 ?_
      have hf := pw_b hf
      refine g_aload_n d_Mod_sizes_101 rfl ?_
      refine g_iload_n d_Mod_sizes_102 rfl ?_
      refine fp_Mod_slots hw lf_Mod_13 d_Mod_sizes_103 (kksI k_98) ?_
      have hf := pw_b hf
      refine g_aload_n d_Mod_sizes_106 rfl ?_
      refine g_iload_n d_Mod_sizes_107 rfl ?_
      refine fp_Mod_units hw lf_Mod_16 d_Mod_sizes_108 (kksI (kksI k_98)) ?_
      have hf := pw_b hf
      refine g_aload_n d_Mod_sizes_111 rfl ?_
      refine g_iload d_Mod_sizes_112 rfl ?_
      refine fp_Mod_banks hw lf_Mod_19 d_Mod_sizes_114 (kksI (kksI (kksI k_98))) ?_
      have hf := pw_b hf
      refine g_aload_n d_Mod_sizes_117 rfl ?_
      refine g_iload d_Mod_sizes_118 rfl ?_
      refine fp_Mod_gates hw lf_Mod_22 d_Mod_sizes_120 (kksI (kksI (kksI (kksI k_98)))) ?_
      have hf := pw_b hf
      refine g_iload d_Mod_sizes_123 rfl ?_
      refine g_istore d_Mod_sizes_125 (by decide) ?_
      show Go _ _ _ _ _ _ [(0, _), (1, _), (2, _), (3, _), (4, _), (5, _), (6, _), (7, _), (8, _)] _
      refine Go.locals [0, 6, 8] rfl ?_
      have key := e_Mod_sizes_127 hw (G := G) (h0 := h0)  F _ _ _ _ hf
      exact key
    · have hf := ifn hf c_91
      refine g_iconst 0 d_Mod_sizes_94 (by decide) ?_
      exact Go.ret (some _) rOk_b0 rfl d_Mod_sizes_95 (pI_of hf)
def b_Mod_sizes_79 (F : Nat) (x0 : Nat) (x1 : Int32) (x2 : Int32) (x3 : Int32) (x4 : Int32) (x5 : Int32) (x6 : Int32) (h : Hp) : Option (Int32 × Hp) := b_Mod_sizes_80 F x0 x1 x2 x3 x4 x5 x6 (0 : Int32) h
set_option maxRecDepth 100000 in
set_option maxHeartbeats 4000000 in
theorem e_Mod_sizes_79 {G : Gl} (hw : gF G) {h0 : Hp} {F : Nat} {r : Int32} {h' : Hp}   {x0 : Nat} {x1 : Int32} {x2 : Int32} {x3 : Int32} {x4 : Int32} {x5 : Int32} {x6 : Int32} {h : Hp} (hf : b_Mod_sizes_79 F x0 x1 x2 x3 x4 x5 x6 h = some (r, h')) : Go G mi_Mod_sizes h0 (pI r h') h 79 [(0, .ref x0), (1, .int x1), (2, .int x2), (3, .int x3), (4, .int x4), (5, .int x5), (6, .int x6)] [] := by
  unfold b_Mod_sizes_79 at hf
  refine g_iconst 0 d_Mod_sizes_79 (by decide) ?_
  have key := e_Mod_sizes_80 hw (G := G) (h0 := h0)  hf
  exact key
def f_Mod_sizes (F : Nat) (x0 : Nat) (x1 : Int32) (x2 : Int32) (x3 : Int32) (x4 : Int32) (x5 : Int32) (x6 : Int32) (h : Hp) : Option (Int32 × Hp) := gd (hK h x0 = 12) <| pw (sI h 704 x0 (0 : Int32)) fun h_2_2 => cl (f_Mod_isPower F x1 (32 : Int32) h_2_2) fun v_8 h_8 => if v_8 = 0 then (b_Mod_sizes_79 F x0 x1 x2 x3 x4 x5 x6 h_8) else (if x2 < (1 : Int32) then (b_Mod_sizes_79 F x0 x1 x2 x3 x4 x5 x6 h_8) else (if (16 : Int32) < x2 then (b_Mod_sizes_79 F x0 x1 x2 x3 x4 x5 x6 h_8) else (if x3 < (1 : Int32) then (b_Mod_sizes_79 F x0 x1 x2 x3 x4 x5 x6 h_8) else (if (8 : Int32) < x3 then (b_Mod_sizes_79 F x0 x1 x2 x3 x4 x5 x6 h_8) else (cl (f_Mod_isPower F x4 (32 : Int32) h_8) fun v_40 h_40 => if v_40 = 0 then (b_Mod_sizes_79 F x0 x1 x2 x3 x4 x5 x6 h_40) else (cl (f_Mod_isPower F x5 (8 : Int32) h_40) fun v_50 h_50 => if v_50 = 0 then (b_Mod_sizes_79 F x0 x1 x2 x3 x4 x5 x6 h_50) else (if x6 < (512 : Int32) then (b_Mod_sizes_79 F x0 x1 x2 x3 x4 x5 x6 h_50) else (cl (f_Mod_isPower F x6 (4096 : Int32) h_50) fun v_69 h_69 => if v_69 = 0 then (b_Mod_sizes_79 F x0 x1 x2 x3 x4 x5 x6 h_69) else (b_Mod_sizes_80 F x0 x1 x2 x3 x4 x5 x6 (1 : Int32) h_69)))))))))
set_option maxRecDepth 100000 in
set_option maxHeartbeats 4000000 in
theorem e_Mod_sizes {G : Gl} (hw : gF G) {F : Nat} {r : Int32} {h' : Hp} {x0 : Nat} {x1 : Int32} {x2 : Int32} {x3 : Int32} {x4 : Int32} {x5 : Int32} {x6 : Int32} {h : Hp} (hf : f_Mod_sizes F x0 x1 x2 x3 x4 x5 x6 h = some (r, h')) : Ex G mi_Mod_sizes [.ref x0, .int x1, .int x2, .int x3, .int x4, .int x5, .int x6] h (pI r h') := by
  unfold f_Mod_sizes at hf
  refine Ex.of nmI (by decide) (Nat.le_of_ble_eq_true rfl) ?_
  show Go G mi_Mod_sizes h _ h 0 [(0, .ref x0), (1, .int x1), (2, .int x2), (3, .int x3), (4, .int x4), (5, .int x5), (6, .int x6)] []
  refine g_aload_n d_Mod_sizes_0 rfl ?_
  refine g_iconst 0 d_Mod_sizes_1 (by decide) ?_
  obtain ⟨k_2, hf⟩ := gd_s hf
  refine fp_Mod_thrown hw lf_Mod_120 d_Mod_sizes_2 k_2 ?_
  have hf := pw_b hf
  refine g_iload_n d_Mod_sizes_5 rfl ?_
  refine g_bipush (32) d_Mod_sizes_6 (by decide) ?_
  obtain ⟨v_8, h_8, e_8, hf⟩ := cl_s hf
  refine g_callS (mz := mi_Mod_isPower) (e_Mod_isPower e_8) cw_Mod_sizes_Mod_isPower lm_Mod_139 wS_Mod_isPower d_Mod_sizes_8 rfl rfl (by first | exact Nat.le_of_ble_eq_true rfl | simp [cat_rf, Value.category]) (fun r1 h1 hp hro => ?_)
  obtain ⟨rfl, rfl⟩ := hp
  dsimp only [Option.toList_some, Option.toList_none, List.cons_append, List.nil_append]
  refine g_if_eq 79 d_Mod_sizes_11 (by decide) (fun c_11 => ?_) (fun c_11 => ?_)
  · have hf := ifp hf c_11
    have key := e_Mod_sizes_79 hw (G := G) (h0 := h)  hf
    exact key
  · have hf := ifn hf c_11
    refine g_iload_n d_Mod_sizes_14 rfl ?_
    refine g_iconst 1 d_Mod_sizes_15 (by decide) ?_
    refine g_icmp_lt 79 d_Mod_sizes_16 (by decide) (fun c_16 => ?_) (fun c_16 => ?_)
    · have hf := ifp hf c_16
      have key := e_Mod_sizes_79 hw (G := G) (h0 := h)  hf
      exact key
    · have hf := ifn hf c_16
      refine g_iload_n d_Mod_sizes_19 rfl ?_
      refine g_bipush (16) d_Mod_sizes_20 (by decide) ?_
      refine g_icmp_gt 79 d_Mod_sizes_22 (by decide) (fun c_22 => ?_) (fun c_22 => ?_)
      · have hf := ifp hf c_22
        have key := e_Mod_sizes_79 hw (G := G) (h0 := h)  hf
        exact key
      · have hf := ifn hf c_22
        refine g_iload_n d_Mod_sizes_25 rfl ?_
        refine g_iconst 1 d_Mod_sizes_26 (by decide) ?_
        refine g_icmp_lt 79 d_Mod_sizes_27 (by decide) (fun c_27 => ?_) (fun c_27 => ?_)
        · have hf := ifp hf c_27
          have key := e_Mod_sizes_79 hw (G := G) (h0 := h)  hf
          exact key
        · have hf := ifn hf c_27
          refine g_iload_n d_Mod_sizes_30 rfl ?_
          refine g_bipush (8) d_Mod_sizes_31 (by decide) ?_
          refine g_icmp_gt 79 d_Mod_sizes_33 (by decide) (fun c_33 => ?_) (fun c_33 => ?_)
          · have hf := ifp hf c_33
            have key := e_Mod_sizes_79 hw (G := G) (h0 := h)  hf
            exact key
          · have hf := ifn hf c_33
            refine g_iload d_Mod_sizes_36 rfl ?_
            refine g_bipush (32) d_Mod_sizes_38 (by decide) ?_
            obtain ⟨v_40, h_40, e_40, hf⟩ := cl_s hf
            refine g_callS (mz := mi_Mod_isPower) (e_Mod_isPower e_40) cw_Mod_sizes_Mod_isPower lm_Mod_139 wS_Mod_isPower d_Mod_sizes_40 rfl rfl (by first | exact Nat.le_of_ble_eq_true rfl | simp [cat_rf, Value.category]) (fun r1 h1 hp hro => ?_)
            obtain ⟨rfl, rfl⟩ := hp
            dsimp only [Option.toList_some, Option.toList_none, List.cons_append, List.nil_append]
            refine g_if_eq 79 d_Mod_sizes_43 (by decide) (fun c_43 => ?_) (fun c_43 => ?_)
            · have hf := ifp hf c_43
              have key := e_Mod_sizes_79 hw (G := G) (h0 := h)  hf
              exact key
            · have hf := ifn hf c_43
              refine g_iload d_Mod_sizes_46 rfl ?_
              refine g_bipush (8) d_Mod_sizes_48 (by decide) ?_
              obtain ⟨v_50, h_50, e_50, hf⟩ := cl_s hf
              refine g_callS (mz := mi_Mod_isPower) (e_Mod_isPower e_50) cw_Mod_sizes_Mod_isPower lm_Mod_139 wS_Mod_isPower d_Mod_sizes_50 rfl rfl (by first | exact Nat.le_of_ble_eq_true rfl | simp [cat_rf, Value.category]) (fun r1 h1 hp hro => ?_)
              obtain ⟨rfl, rfl⟩ := hp
              dsimp only [Option.toList_some, Option.toList_none, List.cons_append, List.nil_append]
              refine g_if_eq 79 d_Mod_sizes_53 (by decide) (fun c_53 => ?_) (fun c_53 => ?_)
              · have hf := ifp hf c_53
                have key := e_Mod_sizes_79 hw (G := G) (h0 := h)  hf
                exact key
              · have hf := ifn hf c_53
                refine g_iload d_Mod_sizes_56 rfl ?_
                refine g_sipush (512) d_Mod_sizes_58 (by decide) ?_
                refine g_icmp_lt 79 d_Mod_sizes_61 (by decide) (fun c_61 => ?_) (fun c_61 => ?_)
                · have hf := ifp hf c_61
                  have key := e_Mod_sizes_79 hw (G := G) (h0 := h)  hf
                  exact key
                · have hf := ifn hf c_61
                  refine g_iload d_Mod_sizes_64 rfl ?_
                  refine g_sipush (4096) d_Mod_sizes_66 (by decide) ?_
                  obtain ⟨v_69, h_69, e_69, hf⟩ := cl_s hf
                  refine g_callS (mz := mi_Mod_isPower) (e_Mod_isPower e_69) cw_Mod_sizes_Mod_isPower lm_Mod_139 wS_Mod_isPower d_Mod_sizes_69 rfl rfl (by first | exact Nat.le_of_ble_eq_true rfl | simp [cat_rf, Value.category]) (fun r1 h1 hp hro => ?_)
                  obtain ⟨rfl, rfl⟩ := hp
                  dsimp only [Option.toList_some, Option.toList_none, List.cons_append, List.nil_append]
                  refine g_if_eq 79 d_Mod_sizes_72 (by decide) (fun c_72 => ?_) (fun c_72 => ?_)
                  · have hf := ifp hf c_72
                    have key := e_Mod_sizes_79 hw (G := G) (h0 := h)  hf
                    exact key
                  · have hf := ifn hf c_72
                    refine g_iconst 1 d_Mod_sizes_75 (by decide) ?_
                    refine g_goto 80 d_Mod_sizes_76 (by decide) ?_
                    have key := e_Mod_sizes_80 hw (G := G) (h0 := h)  hf
                    exact key
abbrev mi_WM_word : MI := (⟨"WarpMill", "word", "(IJ)Z"⟩, prog_1_method_3_code, 4, some .boolean, 3, 67)
def it_WM_word_0 : List (Nat × ClassFile.Instr × Nat) := [(0, .iload_n 1, 1), (1, .ifCond .lt (22), 3), (4, .iload_n 1, 1), (5, .aload_n 0, 1), (6, .getfield 18, 3), (9, .arraylength, 1), (10, .if_icmp .ge (13), 3), (13, .aload_n 0, 1), (14, .getfield 32, 3), (17, .invokevirtual 58, 3), (20, .ifCond .eq (5), 3), (23, .iconst 0, 1), (24, .ireturn, 1), (25, .aload_n 0, 1), (26, .getfield 18, 3), (29, .iload_n 1, 1), (30, .new 16, 3), (33, .dup, 1), (34, .lload_n 2, 1), (35, .invokespecial 48, 3), (38, .aastore, 1), (39, .iconst 1, 1), (40, .ireturn, 1)]
theorem id_WM_word_0 : ∀ q ∈ it_WM_word_0, decode prog_1_method_3_code q.1 = .ok q.2 := by decide +kernel
theorem d_WM_word_0 : decode prog_1_method_3_code 0 = .ok (.iload_n 1, 1) := id_WM_word_0 (0, .iload_n 1, 1) (List.mem_of_getElem? (i := 0) rfl)
theorem d_WM_word_1 : decode prog_1_method_3_code 1 = .ok (.ifCond .lt (22), 3) := id_WM_word_0 (1, .ifCond .lt (22), 3) (List.mem_of_getElem? (i := 1) rfl)
theorem d_WM_word_4 : decode prog_1_method_3_code 4 = .ok (.iload_n 1, 1) := id_WM_word_0 (4, .iload_n 1, 1) (List.mem_of_getElem? (i := 2) rfl)
theorem d_WM_word_5 : decode prog_1_method_3_code 5 = .ok (.aload_n 0, 1) := id_WM_word_0 (5, .aload_n 0, 1) (List.mem_of_getElem? (i := 3) rfl)
theorem d_WM_word_6 : decode prog_1_method_3_code 6 = .ok (.getfield 18, 3) := id_WM_word_0 (6, .getfield 18, 3) (List.mem_of_getElem? (i := 4) rfl)
theorem d_WM_word_9 : decode prog_1_method_3_code 9 = .ok (.arraylength, 1) := id_WM_word_0 (9, .arraylength, 1) (List.mem_of_getElem? (i := 5) rfl)
theorem d_WM_word_10 : decode prog_1_method_3_code 10 = .ok (.if_icmp .ge (13), 3) := id_WM_word_0 (10, .if_icmp .ge (13), 3) (List.mem_of_getElem? (i := 6) rfl)
theorem d_WM_word_13 : decode prog_1_method_3_code 13 = .ok (.aload_n 0, 1) := id_WM_word_0 (13, .aload_n 0, 1) (List.mem_of_getElem? (i := 7) rfl)
theorem d_WM_word_14 : decode prog_1_method_3_code 14 = .ok (.getfield 32, 3) := id_WM_word_0 (14, .getfield 32, 3) (List.mem_of_getElem? (i := 8) rfl)
theorem d_WM_word_17 : decode prog_1_method_3_code 17 = .ok (.invokevirtual 58, 3) := id_WM_word_0 (17, .invokevirtual 58, 3) (List.mem_of_getElem? (i := 9) rfl)
theorem d_WM_word_20 : decode prog_1_method_3_code 20 = .ok (.ifCond .eq (5), 3) := id_WM_word_0 (20, .ifCond .eq (5), 3) (List.mem_of_getElem? (i := 10) rfl)
theorem d_WM_word_23 : decode prog_1_method_3_code 23 = .ok (.iconst 0, 1) := id_WM_word_0 (23, .iconst 0, 1) (List.mem_of_getElem? (i := 11) rfl)
theorem d_WM_word_24 : decode prog_1_method_3_code 24 = .ok (.ireturn, 1) := id_WM_word_0 (24, .ireturn, 1) (List.mem_of_getElem? (i := 12) rfl)
theorem d_WM_word_25 : decode prog_1_method_3_code 25 = .ok (.aload_n 0, 1) := id_WM_word_0 (25, .aload_n 0, 1) (List.mem_of_getElem? (i := 13) rfl)
theorem d_WM_word_26 : decode prog_1_method_3_code 26 = .ok (.getfield 18, 3) := id_WM_word_0 (26, .getfield 18, 3) (List.mem_of_getElem? (i := 14) rfl)
theorem d_WM_word_29 : decode prog_1_method_3_code 29 = .ok (.iload_n 1, 1) := id_WM_word_0 (29, .iload_n 1, 1) (List.mem_of_getElem? (i := 15) rfl)
theorem d_WM_word_30 : decode prog_1_method_3_code 30 = .ok (.new 16, 3) := id_WM_word_0 (30, .new 16, 3) (List.mem_of_getElem? (i := 16) rfl)
theorem d_WM_word_33 : decode prog_1_method_3_code 33 = .ok (.dup, 1) := id_WM_word_0 (33, .dup, 1) (List.mem_of_getElem? (i := 17) rfl)
theorem d_WM_word_34 : decode prog_1_method_3_code 34 = .ok (.lload_n 2, 1) := id_WM_word_0 (34, .lload_n 2, 1) (List.mem_of_getElem? (i := 18) rfl)
theorem d_WM_word_35 : decode prog_1_method_3_code 35 = .ok (.invokespecial 48, 3) := id_WM_word_0 (35, .invokespecial 48, 3) (List.mem_of_getElem? (i := 19) rfl)
theorem d_WM_word_38 : decode prog_1_method_3_code 38 = .ok (.aastore, 1) := id_WM_word_0 (38, .aastore, 1) (List.mem_of_getElem? (i := 20) rfl)
theorem d_WM_word_39 : decode prog_1_method_3_code 39 = .ok (.iconst 1, 1) := id_WM_word_0 (39, .iconst 1, 1) (List.mem_of_getElem? (i := 21) rfl)
theorem d_WM_word_40 : decode prog_1_method_3_code 40 = .ok (.ireturn, 1) := id_WM_word_0 (40, .ireturn, 1) (List.mem_of_getElem? (i := 22) rfl)
theorem wC_WM_word : Cond.code ⟨"WarpMill", "word", "(IJ)Z"⟩ prog_1_method_3_code 4 (some .boolean) ∈ lw_tb := mem_tb 469 (by decide +kernel) rfl
theorem cw_WM_word_Tally_underWay : cW mi_WM_word mi_Tally_underWay 0 := ⟨wC_Tally_underWay, wi_Tally, ⟨by decide, by decide, by decide +kernel⟩, by decide, by decide⟩
theorem cw_WM_word_Word_init : cW mi_WM_word mi_Word_init 1 := ⟨wC_Word_init, wi_Word, ⟨by decide, by decide, by decide +kernel⟩, by decide, by decide⟩
def f_WM_word (F : Nat) (x0 : Nat) (x1 : Int32) (x2 : Int64) (h : Hp) : Option (Int32 × Hp) := if x1 < 0 then (some ((0 : Int32), h)) else (gd (hK h x0 = 1) <| rq h (hR h 1 x0) 120 fun a_6_2 => if (nI (hN h a_6_2)) ≤ x1 then (some ((0 : Int32), h)) else (rq h (hR h 3 x0) 6 fun a_14 => cl (f_Tally_underWay F a_14 h) fun v_17 h_17 => if v_17 = 0 then (gd (hK h_17 x0 = 1) <| rq h_17 (hR h_17 1 x0) 120 fun a_26_2 => pw (hT h_17) fun a_30 => pw (nw h_17 10 0 15) fun h_30_2 => clv (f_Word_init F a_30 x2 h_30_2) fun h_35 => gd (hK h_35 a_26_2 = 120) <| gd (hK h_35 a_30 = 10) <| ix x1 (hN h_35 a_26_2) fun j_38_3 => pw (sQ h_35 a_26_2 j_38_3 (some a_30)) fun h_38_4 => some ((1 : Int32), h_38_4)) else (some ((0 : Int32), h_17))))
set_option maxRecDepth 100000 in
set_option maxHeartbeats 4000000 in
theorem e_WM_word {G : Gl} (hw : gF G) {F : Nat} {r : Int32} {h' : Hp} {x0 : Nat} {x1 : Int32} {x2 : Int64} {h : Hp} (hf : f_WM_word F x0 x1 x2 h = some (r, h')) : Ex G mi_WM_word [.ref x0, .int x1, .long x2] h (pI r h') := by
  unfold f_WM_word at hf
  refine Ex.of nmI (by decide) (Nat.le_of_ble_eq_true rfl) ?_
  show Go G mi_WM_word h _ h 0 [(0, .ref x0), (1, .int x1), (2, .long x2)] []
  refine g_iload_n d_WM_word_0 rfl ?_
  refine g_if_lt 23 d_WM_word_1 (by decide) (fun c_1 => ?_) (fun c_1 => ?_)
  · have hf := ifp hf c_1
    refine g_iconst 0 d_WM_word_23 (by decide) ?_
    exact Go.ret (some _) rOk_b0 rfl d_WM_word_24 (pI_of hf)
  · have hf := ifn hf c_1
    refine g_iload_n d_WM_word_4 rfl ?_
    refine g_aload_n d_WM_word_5 rfl ?_
    obtain ⟨k_6, hf⟩ := gd_s hf
    obtain ⟨a_6_2, e_6_2, k_6_2, hf⟩ := rq_s hf
    refine fgs_WM_kernel lf_WM_18 d_WM_word_6 k_6 e_6_2 ?_
    refine g_alen k_6_2 (by decide) rfl d_WM_word_9 ?_
    refine g_icmp_ge 23 d_WM_word_10 (by decide) (fun c_10 => ?_) (fun c_10 => ?_)
    · have hf := ifp hf c_10
      refine g_iconst 0 d_WM_word_23 (by decide) ?_
      exact Go.ret (some _) rOk_b0 rfl d_WM_word_24 (pI_of hf)
    · have hf := ifn hf c_10
      refine g_aload_n d_WM_word_13 rfl ?_
      obtain ⟨a_14, e_14, k_14, hf⟩ := rq_s hf
      refine fgs_WM_tally lf_WM_32 d_WM_word_14 k_6 e_14 ?_
      obtain ⟨v_17, h_17, e_17, hf⟩ := cl_s hf
      refine g_callV (mz := mi_Tally_underWay) (e_Tally_underWay e_17) cw_WM_word_Tally_underWay lm_WM_58 wI_Tally_underWay wV_Tally_underWay (ci := 5) k_14 (by decide) rfl rfl d_WM_word_17 rfl rfl (by first | exact Nat.le_of_ble_eq_true rfl | simp [cat_rf, Value.category]) (fun r1 h1 hp hro => ?_)
      obtain ⟨rfl, rfl⟩ := hp
      dsimp only [Option.toList_some, Option.toList_none, List.cons_append, List.nil_append]
      refine g_if_eq 25 d_WM_word_20 (by decide) (fun c_20 => ?_) (fun c_20 => ?_)
      · have hf := ifp hf c_20
        refine g_aload_n d_WM_word_25 rfl ?_
        obtain ⟨k_26, hf⟩ := gd_s hf
        obtain ⟨a_26_2, e_26_2, k_26_2, hf⟩ := rq_s hf
        refine fgs_WM_kernel lf_WM_18 d_WM_word_26 k_26 e_26_2 ?_
        refine g_iload_n d_WM_word_29 rfl ?_
        obtain ⟨a_30, e_30, hf⟩ := pw_s hf
        refine g_newk 9 10 rfl okWord lc_WM_16 wn_Word wi_Word d_WM_word_30 ?_
        refine Go.kn (fun k_30 => ?_)
        rw [← e_30] at k_30 ⊢
        have hf := pw_b hf
        refine g_dup (by first | rfl | exact cat_rf _) d_WM_word_33 ?_
        refine g_lload_n d_WM_word_34 rfl ?_
        obtain ⟨h_35, e_35, hf⟩ := clv_s hf
        refine g_callI (mz := mi_Word_init) (e_Word_init hw e_35) cw_WM_word_Word_init lm_WM_48 wI_Word_init rfl rfl d_WM_word_35 rfl rfl (by first | exact Nat.le_of_ble_eq_true rfl | simp [cat_rf, Value.category]) (fun r1 h1 hp hro => ?_)
        obtain ⟨rfl, rfl⟩ := hp
        dsimp only [Option.toList_some, Option.toList_none, List.cons_append, List.nil_append]
        obtain ⟨k_38, hf⟩ := gd_s hf
        obtain ⟨k_38_2, hf⟩ := gd_s hf
        obtain ⟨i_38_3, hf⟩ := ix_s hf
        refine g_aast hw (ci := 9) k_38 (by decide) rfl k_38_2 (by decide) rfl i_38_3 d_WM_word_38 ?_
        have hf := pw_b hf
        refine g_iconst 1 d_WM_word_39 (by decide) ?_
        exact Go.ret (some _) rOk_b1 rfl d_WM_word_40 (pI_of hf)
      · have hf := ifn hf c_20
        refine g_iconst 0 d_WM_word_23 (by decide) ?_
        exact Go.ret (some _) rOk_b0 rfl d_WM_word_24 (pI_of hf)
abbrev mi_Mod_word : MI := (⟨"WarpMillModel", "word", "(IJ)Z"⟩, prog_13_method_10_code, 4, some .boolean, 1, 20)
def it_Mod_word_0 : List (Nat × ClassFile.Instr × Nat) := [(0, .aload_n 0, 1), (1, .iconst 0, 1), (2, .putfield 120, 3), (5, .iload_n 1, 1), (6, .ifCond .lt (17), 3), (9, .iload_n 1, 1), (10, .sipush (128), 3), (13, .if_icmp .ge (10), 3), (16, .aload_n 0, 1), (17, .invokevirtual 143, 3), (20, .ifCond .eq (5), 3), (23, .iconst 0, 1), (24, .ireturn, 1), (25, .aload_n 0, 1), (26, .getfield 28, 3), (29, .iload_n 1, 1), (30, .lload_n 2, 1), (31, .lastore, 1), (32, .iconst 1, 1), (33, .ireturn, 1)]
theorem id_Mod_word_0 : ∀ q ∈ it_Mod_word_0, decode prog_13_method_10_code q.1 = .ok q.2 := by decide +kernel
theorem d_Mod_word_0 : decode prog_13_method_10_code 0 = .ok (.aload_n 0, 1) := id_Mod_word_0 (0, .aload_n 0, 1) (List.mem_of_getElem? (i := 0) rfl)
theorem d_Mod_word_1 : decode prog_13_method_10_code 1 = .ok (.iconst 0, 1) := id_Mod_word_0 (1, .iconst 0, 1) (List.mem_of_getElem? (i := 1) rfl)
theorem d_Mod_word_2 : decode prog_13_method_10_code 2 = .ok (.putfield 120, 3) := id_Mod_word_0 (2, .putfield 120, 3) (List.mem_of_getElem? (i := 2) rfl)
theorem d_Mod_word_5 : decode prog_13_method_10_code 5 = .ok (.iload_n 1, 1) := id_Mod_word_0 (5, .iload_n 1, 1) (List.mem_of_getElem? (i := 3) rfl)
theorem d_Mod_word_6 : decode prog_13_method_10_code 6 = .ok (.ifCond .lt (17), 3) := id_Mod_word_0 (6, .ifCond .lt (17), 3) (List.mem_of_getElem? (i := 4) rfl)
theorem d_Mod_word_9 : decode prog_13_method_10_code 9 = .ok (.iload_n 1, 1) := id_Mod_word_0 (9, .iload_n 1, 1) (List.mem_of_getElem? (i := 5) rfl)
theorem d_Mod_word_10 : decode prog_13_method_10_code 10 = .ok (.sipush (128), 3) := id_Mod_word_0 (10, .sipush (128), 3) (List.mem_of_getElem? (i := 6) rfl)
theorem d_Mod_word_13 : decode prog_13_method_10_code 13 = .ok (.if_icmp .ge (10), 3) := id_Mod_word_0 (13, .if_icmp .ge (10), 3) (List.mem_of_getElem? (i := 7) rfl)
theorem d_Mod_word_16 : decode prog_13_method_10_code 16 = .ok (.aload_n 0, 1) := id_Mod_word_0 (16, .aload_n 0, 1) (List.mem_of_getElem? (i := 8) rfl)
theorem d_Mod_word_17 : decode prog_13_method_10_code 17 = .ok (.invokevirtual 143, 3) := id_Mod_word_0 (17, .invokevirtual 143, 3) (List.mem_of_getElem? (i := 9) rfl)
theorem d_Mod_word_20 : decode prog_13_method_10_code 20 = .ok (.ifCond .eq (5), 3) := id_Mod_word_0 (20, .ifCond .eq (5), 3) (List.mem_of_getElem? (i := 10) rfl)
theorem d_Mod_word_23 : decode prog_13_method_10_code 23 = .ok (.iconst 0, 1) := id_Mod_word_0 (23, .iconst 0, 1) (List.mem_of_getElem? (i := 11) rfl)
theorem d_Mod_word_24 : decode prog_13_method_10_code 24 = .ok (.ireturn, 1) := id_Mod_word_0 (24, .ireturn, 1) (List.mem_of_getElem? (i := 12) rfl)
theorem d_Mod_word_25 : decode prog_13_method_10_code 25 = .ok (.aload_n 0, 1) := id_Mod_word_0 (25, .aload_n 0, 1) (List.mem_of_getElem? (i := 13) rfl)
theorem d_Mod_word_26 : decode prog_13_method_10_code 26 = .ok (.getfield 28, 3) := id_Mod_word_0 (26, .getfield 28, 3) (List.mem_of_getElem? (i := 14) rfl)
theorem d_Mod_word_29 : decode prog_13_method_10_code 29 = .ok (.iload_n 1, 1) := id_Mod_word_0 (29, .iload_n 1, 1) (List.mem_of_getElem? (i := 15) rfl)
theorem d_Mod_word_30 : decode prog_13_method_10_code 30 = .ok (.lload_n 2, 1) := id_Mod_word_0 (30, .lload_n 2, 1) (List.mem_of_getElem? (i := 16) rfl)
theorem d_Mod_word_31 : decode prog_13_method_10_code 31 = .ok (.lastore, 1) := id_Mod_word_0 (31, .lastore, 1) (List.mem_of_getElem? (i := 17) rfl)
theorem d_Mod_word_32 : decode prog_13_method_10_code 32 = .ok (.iconst 1, 1) := id_Mod_word_0 (32, .iconst 1, 1) (List.mem_of_getElem? (i := 18) rfl)
theorem d_Mod_word_33 : decode prog_13_method_10_code 33 = .ok (.ireturn, 1) := id_Mod_word_0 (33, .ireturn, 1) (List.mem_of_getElem? (i := 19) rfl)
theorem wC_Mod_word : Cond.code ⟨"WarpMillModel", "word", "(IJ)Z"⟩ prog_13_method_10_code 4 (some .boolean) ∈ lw_tb := mem_tb 1268 (by decide +kernel) rfl
theorem cw_Mod_word_Mod_isUnder : cW mi_Mod_word mi_Mod_isUnder 0 := ⟨wC_Mod_isUnder, wi_Mod, ⟨by decide, by decide, by decide +kernel⟩, by decide, by decide⟩
def f_Mod_word (F : Nat) (x0 : Nat) (x1 : Int32) (x2 : Int64) (h : Hp) : Option (Int32 × Hp) := gd (hK h x0 = 12) <| pw (sI h 704 x0 (0 : Int32)) fun h_2_2 => if x1 < 0 then (some ((0 : Int32), h_2_2)) else (if (128 : Int32) ≤ x1 then (some ((0 : Int32), h_2_2)) else (cl (f_Mod_isUnder F x0 h_2_2) fun v_17 h_17 => if v_17 = 0 then (gd (hK h_17 x0 = 12) <| rq h_17 (hR h_17 711 x0) 110 fun a_26_2 => ix x1 (hN h_17 a_26_2) fun j_31 => pw (sL h_17 a_26_2 j_31 x2) fun h_31_2 => some ((1 : Int32), h_31_2)) else (some ((0 : Int32), h_17))))
set_option maxRecDepth 100000 in
set_option maxHeartbeats 4000000 in
theorem e_Mod_word {G : Gl} (hw : gF G) {F : Nat} {r : Int32} {h' : Hp} {x0 : Nat} {x1 : Int32} {x2 : Int64} {h : Hp} (hf : f_Mod_word F x0 x1 x2 h = some (r, h')) : Ex G mi_Mod_word [.ref x0, .int x1, .long x2] h (pI r h') := by
  unfold f_Mod_word at hf
  refine Ex.of nmI (by decide) (Nat.le_of_ble_eq_true rfl) ?_
  show Go G mi_Mod_word h _ h 0 [(0, .ref x0), (1, .int x1), (2, .long x2)] []
  refine g_aload_n d_Mod_word_0 rfl ?_
  refine g_iconst 0 d_Mod_word_1 (by decide) ?_
  obtain ⟨k_2, hf⟩ := gd_s hf
  refine fp_Mod_thrown hw lf_Mod_120 d_Mod_word_2 k_2 ?_
  have hf := pw_b hf
  refine g_iload_n d_Mod_word_5 rfl ?_
  refine g_if_lt 23 d_Mod_word_6 (by decide) (fun c_6 => ?_) (fun c_6 => ?_)
  · have hf := ifp hf c_6
    refine g_iconst 0 d_Mod_word_23 (by decide) ?_
    exact Go.ret (some _) rOk_b0 rfl d_Mod_word_24 (pI_of hf)
  · have hf := ifn hf c_6
    refine g_iload_n d_Mod_word_9 rfl ?_
    refine g_sipush (128) d_Mod_word_10 (by decide) ?_
    refine g_icmp_ge 23 d_Mod_word_13 (by decide) (fun c_13 => ?_) (fun c_13 => ?_)
    · have hf := ifp hf c_13
      refine g_iconst 0 d_Mod_word_23 (by decide) ?_
      exact Go.ret (some _) rOk_b0 rfl d_Mod_word_24 (pI_of hf)
    · have hf := ifn hf c_13
      refine g_aload_n d_Mod_word_16 rfl ?_
      obtain ⟨v_17, h_17, e_17, hf⟩ := cl_s hf
      refine g_callV (mz := mi_Mod_isUnder) (e_Mod_isUnder e_17) cw_Mod_word_Mod_isUnder lm_Mod_143 wI_Mod_isUnder wV_Mod_isUnder (ci := 11) (kksI k_2) (by decide) rfl rfl d_Mod_word_17 rfl rfl (by first | exact Nat.le_of_ble_eq_true rfl | simp [cat_rf, Value.category]) (fun r1 h1 hp hro => ?_)
      obtain ⟨rfl, rfl⟩ := hp
      dsimp only [Option.toList_some, Option.toList_none, List.cons_append, List.nil_append]
      refine g_if_eq 25 d_Mod_word_20 (by decide) (fun c_20 => ?_) (fun c_20 => ?_)
      · have hf := ifp hf c_20
        refine g_aload_n d_Mod_word_25 rfl ?_
        obtain ⟨k_26, hf⟩ := gd_s hf
        obtain ⟨a_26_2, e_26_2, k_26_2, hf⟩ := rq_s hf
        refine fgs_Mod_kernel lf_Mod_28 d_Mod_word_26 k_26 e_26_2 ?_
        refine g_iload_n d_Mod_word_29 rfl ?_
        refine g_lload_n d_Mod_word_30 rfl ?_
        obtain ⟨i_31, hf⟩ := ix_s hf
        refine g_last hw k_26_2 i_31 d_Mod_word_31 ?_
        have hf := pw_b hf
        refine g_iconst 1 d_Mod_word_32 (by decide) ?_
        exact Go.ret (some _) rOk_b1 rfl d_Mod_word_33 (pI_of hf)
      · have hf := ifn hf c_20
        refine g_iconst 0 d_Mod_word_23 (by decide) ?_
        exact Go.ret (some _) rOk_b0 rfl d_Mod_word_24 (pI_of hf)
abbrev mi_Memory_has : MI := (⟨"WarpMill$Memory", "has", "(I)Z"⟩, prog_5_method_2_code, 2, some .boolean, 0, 0)
def it_Memory_has_0 : List (Nat × ClassFile.Instr × Nat) := [(0, .iload_n 1, 1), (1, .ifCond .lt (24), 3), (4, .iload_n 1, 1), (5, .aload_n 0, 1), (6, .getfield 29, 3), (9, .if_icmp .ge (16), 3), (12, .iload_n 1, 1), (13, .aload_n 0, 1), (14, .getfield 9, 3), (17, .arraylength, 1), (18, .if_icmp .ge (7), 3), (21, .iconst 1, 1), (22, .goto (4), 3), (25, .iconst 0, 1), (26, .ireturn, 1)]
theorem id_Memory_has_0 : ∀ q ∈ it_Memory_has_0, decode prog_5_method_2_code q.1 = .ok q.2 := by decide +kernel
theorem d_Memory_has_0 : decode prog_5_method_2_code 0 = .ok (.iload_n 1, 1) := id_Memory_has_0 (0, .iload_n 1, 1) (List.mem_of_getElem? (i := 0) rfl)
theorem d_Memory_has_1 : decode prog_5_method_2_code 1 = .ok (.ifCond .lt (24), 3) := id_Memory_has_0 (1, .ifCond .lt (24), 3) (List.mem_of_getElem? (i := 1) rfl)
theorem d_Memory_has_4 : decode prog_5_method_2_code 4 = .ok (.iload_n 1, 1) := id_Memory_has_0 (4, .iload_n 1, 1) (List.mem_of_getElem? (i := 2) rfl)
theorem d_Memory_has_5 : decode prog_5_method_2_code 5 = .ok (.aload_n 0, 1) := id_Memory_has_0 (5, .aload_n 0, 1) (List.mem_of_getElem? (i := 3) rfl)
theorem d_Memory_has_6 : decode prog_5_method_2_code 6 = .ok (.getfield 29, 3) := id_Memory_has_0 (6, .getfield 29, 3) (List.mem_of_getElem? (i := 4) rfl)
theorem d_Memory_has_9 : decode prog_5_method_2_code 9 = .ok (.if_icmp .ge (16), 3) := id_Memory_has_0 (9, .if_icmp .ge (16), 3) (List.mem_of_getElem? (i := 5) rfl)
theorem d_Memory_has_12 : decode prog_5_method_2_code 12 = .ok (.iload_n 1, 1) := id_Memory_has_0 (12, .iload_n 1, 1) (List.mem_of_getElem? (i := 6) rfl)
theorem d_Memory_has_13 : decode prog_5_method_2_code 13 = .ok (.aload_n 0, 1) := id_Memory_has_0 (13, .aload_n 0, 1) (List.mem_of_getElem? (i := 7) rfl)
theorem d_Memory_has_14 : decode prog_5_method_2_code 14 = .ok (.getfield 9, 3) := id_Memory_has_0 (14, .getfield 9, 3) (List.mem_of_getElem? (i := 8) rfl)
theorem d_Memory_has_17 : decode prog_5_method_2_code 17 = .ok (.arraylength, 1) := id_Memory_has_0 (17, .arraylength, 1) (List.mem_of_getElem? (i := 9) rfl)
theorem d_Memory_has_18 : decode prog_5_method_2_code 18 = .ok (.if_icmp .ge (7), 3) := id_Memory_has_0 (18, .if_icmp .ge (7), 3) (List.mem_of_getElem? (i := 10) rfl)
theorem d_Memory_has_21 : decode prog_5_method_2_code 21 = .ok (.iconst 1, 1) := id_Memory_has_0 (21, .iconst 1, 1) (List.mem_of_getElem? (i := 11) rfl)
theorem d_Memory_has_22 : decode prog_5_method_2_code 22 = .ok (.goto (4), 3) := id_Memory_has_0 (22, .goto (4), 3) (List.mem_of_getElem? (i := 12) rfl)
theorem d_Memory_has_25 : decode prog_5_method_2_code 25 = .ok (.iconst 0, 1) := id_Memory_has_0 (25, .iconst 0, 1) (List.mem_of_getElem? (i := 13) rfl)
theorem d_Memory_has_26 : decode prog_5_method_2_code 26 = .ok (.ireturn, 1) := id_Memory_has_0 (26, .ireturn, 1) (List.mem_of_getElem? (i := 14) rfl)
theorem wC_Memory_has : Cond.code ⟨"WarpMill$Memory", "has", "(I)Z"⟩ prog_5_method_2_code 2 (some .boolean) ∈ lw_tb := mem_tb 477 (by decide +kernel) rfl
def f_Memory_has (F : Nat) (x0 : Nat) (x1 : Int32) (h : Hp) : Option (Int32 × Hp) := if x1 < 0 then (some ((0 : Int32), h)) else (gd (hK h x0 = 3) <| if (hI h 131 x0) ≤ x1 then (some ((0 : Int32), h)) else (rq h (hR h 128 x0) 100 fun a_14 => if (nI (hN h a_14)) ≤ x1 then (some ((0 : Int32), h)) else (some ((1 : Int32), h))))
set_option maxRecDepth 100000 in
set_option maxHeartbeats 4000000 in
theorem e_Memory_has {G : Gl} {F : Nat} {r : Int32} {h' : Hp} {x0 : Nat} {x1 : Int32} {h : Hp} (hf : f_Memory_has F x0 x1 h = some (r, h')) : Ex G mi_Memory_has [.ref x0, .int x1] h (pI r h') := by
  unfold f_Memory_has at hf
  refine Ex.of nmI (by decide) (Nat.le_of_ble_eq_true rfl) ?_
  show Go G mi_Memory_has h _ h 0 [(0, .ref x0), (1, .int x1)] []
  refine g_iload_n d_Memory_has_0 rfl ?_
  refine g_if_lt 25 d_Memory_has_1 (by decide) (fun c_1 => ?_) (fun c_1 => ?_)
  · have hf := ifp hf c_1
    refine g_iconst 0 d_Memory_has_25 (by decide) ?_
    exact Go.ret (some _) rOk_b0 rfl d_Memory_has_26 (pI_of hf)
  · have hf := ifn hf c_1
    refine g_iload_n d_Memory_has_4 rfl ?_
    refine g_aload_n d_Memory_has_5 rfl ?_
    obtain ⟨k_6, hf⟩ := gd_s hf
    refine fg_Memory_size lf_Memory_29 d_Memory_has_6 k_6 ?_
    refine g_icmp_ge 25 d_Memory_has_9 (by decide) (fun c_9 => ?_) (fun c_9 => ?_)
    · have hf := ifp hf c_9
      refine g_iconst 0 d_Memory_has_25 (by decide) ?_
      exact Go.ret (some _) rOk_b0 rfl d_Memory_has_26 (pI_of hf)
    · have hf := ifn hf c_9
      refine g_iload_n d_Memory_has_12 rfl ?_
      refine g_aload_n d_Memory_has_13 rfl ?_
      obtain ⟨a_14, e_14, k_14, hf⟩ := rq_s hf
      refine fgs_Memory_ints lf_Memory_9 d_Memory_has_14 k_6 e_14 ?_
      refine g_alen k_14 (by decide) rfl d_Memory_has_17 ?_
      refine g_icmp_ge 25 d_Memory_has_18 (by decide) (fun c_18 => ?_) (fun c_18 => ?_)
      · have hf := ifp hf c_18
        refine g_iconst 0 d_Memory_has_25 (by decide) ?_
        exact Go.ret (some _) rOk_b0 rfl d_Memory_has_26 (pI_of hf)
      · have hf := ifn hf c_18
        refine g_iconst 1 d_Memory_has_21 (by decide) ?_
        refine g_goto 26 d_Memory_has_22 (by decide) ?_
        exact Go.ret (some _) rOk_b1 rfl d_Memory_has_26 (pI_of hf)
abbrev mi_WM_set : MI := (⟨"WarpMill", "set", "(II)Z"⟩, prog_1_method_4_code, 3, some .boolean, 1, 21)
def it_WM_set_0 : List (Nat × ClassFile.Instr × Nat) := [(0, .aload_n 0, 1), (1, .getfield 25, 3), (4, .iload_n 1, 1), (5, .invokevirtual 85, 3), (8, .ifCond .eq (13), 3), (11, .aload_n 0, 1), (12, .getfield 32, 3), (15, .invokevirtual 58, 3), (18, .ifCond .eq (5), 3), (21, .iconst 0, 1), (22, .ireturn, 1), (23, .aload_n 0, 1), (24, .getfield 25, 3), (27, .getfield 89, 3), (30, .iload_n 1, 1), (31, .iload_n 2, 1), (32, .iastore, 1), (33, .iconst 1, 1), (34, .ireturn, 1)]
theorem id_WM_set_0 : ∀ q ∈ it_WM_set_0, decode prog_1_method_4_code q.1 = .ok q.2 := by decide +kernel
theorem d_WM_set_0 : decode prog_1_method_4_code 0 = .ok (.aload_n 0, 1) := id_WM_set_0 (0, .aload_n 0, 1) (List.mem_of_getElem? (i := 0) rfl)
theorem d_WM_set_1 : decode prog_1_method_4_code 1 = .ok (.getfield 25, 3) := id_WM_set_0 (1, .getfield 25, 3) (List.mem_of_getElem? (i := 1) rfl)
theorem d_WM_set_4 : decode prog_1_method_4_code 4 = .ok (.iload_n 1, 1) := id_WM_set_0 (4, .iload_n 1, 1) (List.mem_of_getElem? (i := 2) rfl)
theorem d_WM_set_5 : decode prog_1_method_4_code 5 = .ok (.invokevirtual 85, 3) := id_WM_set_0 (5, .invokevirtual 85, 3) (List.mem_of_getElem? (i := 3) rfl)
theorem d_WM_set_8 : decode prog_1_method_4_code 8 = .ok (.ifCond .eq (13), 3) := id_WM_set_0 (8, .ifCond .eq (13), 3) (List.mem_of_getElem? (i := 4) rfl)
theorem d_WM_set_11 : decode prog_1_method_4_code 11 = .ok (.aload_n 0, 1) := id_WM_set_0 (11, .aload_n 0, 1) (List.mem_of_getElem? (i := 5) rfl)
theorem d_WM_set_12 : decode prog_1_method_4_code 12 = .ok (.getfield 32, 3) := id_WM_set_0 (12, .getfield 32, 3) (List.mem_of_getElem? (i := 6) rfl)
theorem d_WM_set_15 : decode prog_1_method_4_code 15 = .ok (.invokevirtual 58, 3) := id_WM_set_0 (15, .invokevirtual 58, 3) (List.mem_of_getElem? (i := 7) rfl)
theorem d_WM_set_18 : decode prog_1_method_4_code 18 = .ok (.ifCond .eq (5), 3) := id_WM_set_0 (18, .ifCond .eq (5), 3) (List.mem_of_getElem? (i := 8) rfl)
theorem d_WM_set_21 : decode prog_1_method_4_code 21 = .ok (.iconst 0, 1) := id_WM_set_0 (21, .iconst 0, 1) (List.mem_of_getElem? (i := 9) rfl)
theorem d_WM_set_22 : decode prog_1_method_4_code 22 = .ok (.ireturn, 1) := id_WM_set_0 (22, .ireturn, 1) (List.mem_of_getElem? (i := 10) rfl)
theorem d_WM_set_23 : decode prog_1_method_4_code 23 = .ok (.aload_n 0, 1) := id_WM_set_0 (23, .aload_n 0, 1) (List.mem_of_getElem? (i := 11) rfl)
theorem d_WM_set_24 : decode prog_1_method_4_code 24 = .ok (.getfield 25, 3) := id_WM_set_0 (24, .getfield 25, 3) (List.mem_of_getElem? (i := 12) rfl)
theorem d_WM_set_27 : decode prog_1_method_4_code 27 = .ok (.getfield 89, 3) := id_WM_set_0 (27, .getfield 89, 3) (List.mem_of_getElem? (i := 13) rfl)
theorem d_WM_set_30 : decode prog_1_method_4_code 30 = .ok (.iload_n 1, 1) := id_WM_set_0 (30, .iload_n 1, 1) (List.mem_of_getElem? (i := 14) rfl)
theorem d_WM_set_31 : decode prog_1_method_4_code 31 = .ok (.iload_n 2, 1) := id_WM_set_0 (31, .iload_n 2, 1) (List.mem_of_getElem? (i := 15) rfl)
theorem d_WM_set_32 : decode prog_1_method_4_code 32 = .ok (.iastore, 1) := id_WM_set_0 (32, .iastore, 1) (List.mem_of_getElem? (i := 16) rfl)
theorem d_WM_set_33 : decode prog_1_method_4_code 33 = .ok (.iconst 1, 1) := id_WM_set_0 (33, .iconst 1, 1) (List.mem_of_getElem? (i := 17) rfl)
theorem d_WM_set_34 : decode prog_1_method_4_code 34 = .ok (.ireturn, 1) := id_WM_set_0 (34, .ireturn, 1) (List.mem_of_getElem? (i := 18) rfl)
theorem wC_WM_set : Cond.code ⟨"WarpMill", "set", "(II)Z"⟩ prog_1_method_4_code 3 (some .boolean) ∈ lw_tb := mem_tb 473 (by decide +kernel) rfl
theorem cw_WM_set_Memory_has : cW mi_WM_set mi_Memory_has 1 := ⟨wC_Memory_has, wi_Memory, ⟨by decide, by decide, by decide +kernel⟩, by decide, by decide⟩
theorem cw_WM_set_Tally_underWay : cW mi_WM_set mi_Tally_underWay 0 := ⟨wC_Tally_underWay, wi_Tally, ⟨by decide, by decide, by decide +kernel⟩, by decide, by decide⟩
def f_WM_set (F : Nat) (x0 : Nat) (x1 : Int32) (x2 : Int32) (h : Hp) : Option (Int32 × Hp) := gd (hK h x0 = 1) <| rq h (hR h 2 x0) 3 fun a_1_2 => cl (f_Memory_has F a_1_2 x1 h) fun v_5 h_5 => if v_5 = 0 then (some ((0 : Int32), h_5)) else (gd (hK h_5 x0 = 1) <| rq h_5 (hR h_5 3 x0) 6 fun a_12_2 => cl (f_Tally_underWay F a_12_2 h_5) fun v_15 h_15 => if v_15 = 0 then (gd (hK h_15 x0 = 1) <| rq h_15 (hR h_15 2 x0) 3 fun a_24_2 => rq h_15 (hR h_15 128 a_24_2) 100 fun a_27 => ix x1 (hN h_15 a_27) fun j_32 => pw (sA h_15 a_27 j_32 x2) fun h_32_2 => some ((1 : Int32), h_32_2)) else (some ((0 : Int32), h_15)))
set_option maxRecDepth 100000 in
set_option maxHeartbeats 4000000 in
theorem e_WM_set {G : Gl} (hw : gF G) {F : Nat} {r : Int32} {h' : Hp} {x0 : Nat} {x1 : Int32} {x2 : Int32} {h : Hp} (hf : f_WM_set F x0 x1 x2 h = some (r, h')) : Ex G mi_WM_set [.ref x0, .int x1, .int x2] h (pI r h') := by
  unfold f_WM_set at hf
  refine Ex.of nmI (by decide) (Nat.le_of_ble_eq_true rfl) ?_
  show Go G mi_WM_set h _ h 0 [(0, .ref x0), (1, .int x1), (2, .int x2)] []
  refine g_aload_n d_WM_set_0 rfl ?_
  obtain ⟨k_1, hf⟩ := gd_s hf
  obtain ⟨a_1_2, e_1_2, k_1_2, hf⟩ := rq_s hf
  refine fgs_WM_memory lf_WM_25 d_WM_set_1 k_1 e_1_2 ?_
  refine g_iload_n d_WM_set_4 rfl ?_
  obtain ⟨v_5, h_5, e_5, hf⟩ := cl_s hf
  refine g_callV (mz := mi_Memory_has) (e_Memory_has e_5) cw_WM_set_Memory_has lm_WM_85 wI_Memory_has wV_Memory_has (ci := 2) k_1_2 (by decide) rfl rfl d_WM_set_5 rfl rfl (by first | exact Nat.le_of_ble_eq_true rfl | simp [cat_rf, Value.category]) (fun r1 h1 hp hro => ?_)
  obtain ⟨rfl, rfl⟩ := hp
  dsimp only [Option.toList_some, Option.toList_none, List.cons_append, List.nil_append]
  refine g_if_eq 21 d_WM_set_8 (by decide) (fun c_8 => ?_) (fun c_8 => ?_)
  · have hf := ifp hf c_8
    refine g_iconst 0 d_WM_set_21 (by decide) ?_
    exact Go.ret (some _) rOk_b0 rfl d_WM_set_22 (pI_of hf)
  · have hf := ifn hf c_8
    refine g_aload_n d_WM_set_11 rfl ?_
    obtain ⟨k_12, hf⟩ := gd_s hf
    obtain ⟨a_12_2, e_12_2, k_12_2, hf⟩ := rq_s hf
    refine fgs_WM_tally lf_WM_32 d_WM_set_12 k_12 e_12_2 ?_
    obtain ⟨v_15, h_15, e_15, hf⟩ := cl_s hf
    refine g_callV (mz := mi_Tally_underWay) (e_Tally_underWay e_15) cw_WM_set_Tally_underWay lm_WM_58 wI_Tally_underWay wV_Tally_underWay (ci := 5) k_12_2 (by decide) rfl rfl d_WM_set_15 rfl rfl (by first | exact Nat.le_of_ble_eq_true rfl | simp [cat_rf, Value.category]) (fun r1 h1 hp hro => ?_)
    obtain ⟨rfl, rfl⟩ := hp
    dsimp only [Option.toList_some, Option.toList_none, List.cons_append, List.nil_append]
    refine g_if_eq 23 d_WM_set_18 (by decide) (fun c_18 => ?_) (fun c_18 => ?_)
    · have hf := ifp hf c_18
      refine g_aload_n d_WM_set_23 rfl ?_
      obtain ⟨k_24, hf⟩ := gd_s hf
      obtain ⟨a_24_2, e_24_2, k_24_2, hf⟩ := rq_s hf
      refine fgs_WM_memory lf_WM_25 d_WM_set_24 k_24 e_24_2 ?_
      obtain ⟨a_27, e_27, k_27, hf⟩ := rq_s hf
      refine fgs_Memory_ints lf_WM_89 d_WM_set_27 k_24_2 e_27 ?_
      refine g_iload_n d_WM_set_30 rfl ?_
      refine g_iload_n d_WM_set_31 rfl ?_
      obtain ⟨i_32, hf⟩ := ix_s hf
      refine g_iast hw k_27 i_32 d_WM_set_32 ?_
      have hf := pw_b hf
      refine g_iconst 1 d_WM_set_33 (by decide) ?_
      exact Go.ret (some _) rOk_b1 rfl d_WM_set_34 (pI_of hf)
    · have hf := ifn hf c_18
      refine g_iconst 0 d_WM_set_21 (by decide) ?_
      exact Go.ret (some _) rOk_b0 rfl d_WM_set_22 (pI_of hf)
abbrev mi_Mod_set : MI := (⟨"WarpMillModel", "set", "(II)Z"⟩, prog_13_method_11_code, 3, some .boolean, 1, 20)
def it_Mod_set_0 : List (Nat × ClassFile.Instr × Nat) := [(0, .aload_n 0, 1), (1, .iconst 0, 1), (2, .putfield 120, 3), (5, .iload_n 1, 1), (6, .ifCond .lt (18), 3), (9, .iload_n 1, 1), (10, .aload_n 0, 1), (11, .getfield 25, 3), (14, .if_icmp .ge (10), 3), (17, .aload_n 0, 1), (18, .invokevirtual 143, 3), (21, .ifCond .eq (5), 3), (24, .iconst 0, 1), (25, .ireturn, 1), (26, .aload_n 0, 1), (27, .getfield 32, 3), (30, .iload_n 1, 1), (31, .iload_n 2, 1), (32, .iastore, 1), (33, .iconst 1, 1), (34, .ireturn, 1)]
theorem id_Mod_set_0 : ∀ q ∈ it_Mod_set_0, decode prog_13_method_11_code q.1 = .ok q.2 := by decide +kernel
theorem d_Mod_set_0 : decode prog_13_method_11_code 0 = .ok (.aload_n 0, 1) := id_Mod_set_0 (0, .aload_n 0, 1) (List.mem_of_getElem? (i := 0) rfl)
theorem d_Mod_set_1 : decode prog_13_method_11_code 1 = .ok (.iconst 0, 1) := id_Mod_set_0 (1, .iconst 0, 1) (List.mem_of_getElem? (i := 1) rfl)
theorem d_Mod_set_2 : decode prog_13_method_11_code 2 = .ok (.putfield 120, 3) := id_Mod_set_0 (2, .putfield 120, 3) (List.mem_of_getElem? (i := 2) rfl)
theorem d_Mod_set_5 : decode prog_13_method_11_code 5 = .ok (.iload_n 1, 1) := id_Mod_set_0 (5, .iload_n 1, 1) (List.mem_of_getElem? (i := 3) rfl)
theorem d_Mod_set_6 : decode prog_13_method_11_code 6 = .ok (.ifCond .lt (18), 3) := id_Mod_set_0 (6, .ifCond .lt (18), 3) (List.mem_of_getElem? (i := 4) rfl)
theorem d_Mod_set_9 : decode prog_13_method_11_code 9 = .ok (.iload_n 1, 1) := id_Mod_set_0 (9, .iload_n 1, 1) (List.mem_of_getElem? (i := 5) rfl)
theorem d_Mod_set_10 : decode prog_13_method_11_code 10 = .ok (.aload_n 0, 1) := id_Mod_set_0 (10, .aload_n 0, 1) (List.mem_of_getElem? (i := 6) rfl)
theorem d_Mod_set_11 : decode prog_13_method_11_code 11 = .ok (.getfield 25, 3) := id_Mod_set_0 (11, .getfield 25, 3) (List.mem_of_getElem? (i := 7) rfl)
theorem d_Mod_set_14 : decode prog_13_method_11_code 14 = .ok (.if_icmp .ge (10), 3) := id_Mod_set_0 (14, .if_icmp .ge (10), 3) (List.mem_of_getElem? (i := 8) rfl)
theorem d_Mod_set_17 : decode prog_13_method_11_code 17 = .ok (.aload_n 0, 1) := id_Mod_set_0 (17, .aload_n 0, 1) (List.mem_of_getElem? (i := 9) rfl)
theorem d_Mod_set_18 : decode prog_13_method_11_code 18 = .ok (.invokevirtual 143, 3) := id_Mod_set_0 (18, .invokevirtual 143, 3) (List.mem_of_getElem? (i := 10) rfl)
theorem d_Mod_set_21 : decode prog_13_method_11_code 21 = .ok (.ifCond .eq (5), 3) := id_Mod_set_0 (21, .ifCond .eq (5), 3) (List.mem_of_getElem? (i := 11) rfl)
theorem d_Mod_set_24 : decode prog_13_method_11_code 24 = .ok (.iconst 0, 1) := id_Mod_set_0 (24, .iconst 0, 1) (List.mem_of_getElem? (i := 12) rfl)
theorem d_Mod_set_25 : decode prog_13_method_11_code 25 = .ok (.ireturn, 1) := id_Mod_set_0 (25, .ireturn, 1) (List.mem_of_getElem? (i := 13) rfl)
theorem d_Mod_set_26 : decode prog_13_method_11_code 26 = .ok (.aload_n 0, 1) := id_Mod_set_0 (26, .aload_n 0, 1) (List.mem_of_getElem? (i := 14) rfl)
theorem d_Mod_set_27 : decode prog_13_method_11_code 27 = .ok (.getfield 32, 3) := id_Mod_set_0 (27, .getfield 32, 3) (List.mem_of_getElem? (i := 15) rfl)
theorem d_Mod_set_30 : decode prog_13_method_11_code 30 = .ok (.iload_n 1, 1) := id_Mod_set_0 (30, .iload_n 1, 1) (List.mem_of_getElem? (i := 16) rfl)
theorem d_Mod_set_31 : decode prog_13_method_11_code 31 = .ok (.iload_n 2, 1) := id_Mod_set_0 (31, .iload_n 2, 1) (List.mem_of_getElem? (i := 17) rfl)
theorem d_Mod_set_32 : decode prog_13_method_11_code 32 = .ok (.iastore, 1) := id_Mod_set_0 (32, .iastore, 1) (List.mem_of_getElem? (i := 18) rfl)
theorem d_Mod_set_33 : decode prog_13_method_11_code 33 = .ok (.iconst 1, 1) := id_Mod_set_0 (33, .iconst 1, 1) (List.mem_of_getElem? (i := 19) rfl)
theorem d_Mod_set_34 : decode prog_13_method_11_code 34 = .ok (.ireturn, 1) := id_Mod_set_0 (34, .ireturn, 1) (List.mem_of_getElem? (i := 20) rfl)
theorem wC_Mod_set : Cond.code ⟨"WarpMillModel", "set", "(II)Z"⟩ prog_13_method_11_code 3 (some .boolean) ∈ lw_tb := mem_tb 1272 (by decide +kernel) rfl
theorem cw_Mod_set_Mod_isUnder : cW mi_Mod_set mi_Mod_isUnder 0 := ⟨wC_Mod_isUnder, wi_Mod, ⟨by decide, by decide, by decide +kernel⟩, by decide, by decide⟩
def f_Mod_set (F : Nat) (x0 : Nat) (x1 : Int32) (x2 : Int32) (h : Hp) : Option (Int32 × Hp) := gd (hK h x0 = 12) <| pw (sI h 704 x0 (0 : Int32)) fun h_2_2 => if x1 < 0 then (some ((0 : Int32), h_2_2)) else (if (hI h_2_2 710 x0) ≤ x1 then (some ((0 : Int32), h_2_2)) else (cl (f_Mod_isUnder F x0 h_2_2) fun v_18 h_18 => if v_18 = 0 then (gd (hK h_18 x0 = 12) <| rq h_18 (hR h_18 712 x0) 100 fun a_27_2 => ix x1 (hN h_18 a_27_2) fun j_32 => pw (sA h_18 a_27_2 j_32 x2) fun h_32_2 => some ((1 : Int32), h_32_2)) else (some ((0 : Int32), h_18))))
set_option maxRecDepth 100000 in
set_option maxHeartbeats 4000000 in
theorem e_Mod_set {G : Gl} (hw : gF G) {F : Nat} {r : Int32} {h' : Hp} {x0 : Nat} {x1 : Int32} {x2 : Int32} {h : Hp} (hf : f_Mod_set F x0 x1 x2 h = some (r, h')) : Ex G mi_Mod_set [.ref x0, .int x1, .int x2] h (pI r h') := by
  unfold f_Mod_set at hf
  refine Ex.of nmI (by decide) (Nat.le_of_ble_eq_true rfl) ?_
  show Go G mi_Mod_set h _ h 0 [(0, .ref x0), (1, .int x1), (2, .int x2)] []
  refine g_aload_n d_Mod_set_0 rfl ?_
  refine g_iconst 0 d_Mod_set_1 (by decide) ?_
  obtain ⟨k_2, hf⟩ := gd_s hf
  refine fp_Mod_thrown hw lf_Mod_120 d_Mod_set_2 k_2 ?_
  have hf := pw_b hf
  refine g_iload_n d_Mod_set_5 rfl ?_
  refine g_if_lt 24 d_Mod_set_6 (by decide) (fun c_6 => ?_) (fun c_6 => ?_)
  · have hf := ifp hf c_6
    refine g_iconst 0 d_Mod_set_24 (by decide) ?_
    exact Go.ret (some _) rOk_b0 rfl d_Mod_set_25 (pI_of hf)
  · have hf := ifn hf c_6
    refine g_iload_n d_Mod_set_9 rfl ?_
    refine g_aload_n d_Mod_set_10 rfl ?_
    refine fg_Mod_ints lf_Mod_25 d_Mod_set_11 (kksI k_2) ?_
    refine g_icmp_ge 24 d_Mod_set_14 (by decide) (fun c_14 => ?_) (fun c_14 => ?_)
    · have hf := ifp hf c_14
      refine g_iconst 0 d_Mod_set_24 (by decide) ?_
      exact Go.ret (some _) rOk_b0 rfl d_Mod_set_25 (pI_of hf)
    · have hf := ifn hf c_14
      refine g_aload_n d_Mod_set_17 rfl ?_
      obtain ⟨v_18, h_18, e_18, hf⟩ := cl_s hf
      refine g_callV (mz := mi_Mod_isUnder) (e_Mod_isUnder e_18) cw_Mod_set_Mod_isUnder lm_Mod_143 wI_Mod_isUnder wV_Mod_isUnder (ci := 11) (kksI k_2) (by decide) rfl rfl d_Mod_set_18 rfl rfl (by first | exact Nat.le_of_ble_eq_true rfl | simp [cat_rf, Value.category]) (fun r1 h1 hp hro => ?_)
      obtain ⟨rfl, rfl⟩ := hp
      dsimp only [Option.toList_some, Option.toList_none, List.cons_append, List.nil_append]
      refine g_if_eq 26 d_Mod_set_21 (by decide) (fun c_21 => ?_) (fun c_21 => ?_)
      · have hf := ifp hf c_21
        refine g_aload_n d_Mod_set_26 rfl ?_
        obtain ⟨k_27, hf⟩ := gd_s hf
        obtain ⟨a_27_2, e_27_2, k_27_2, hf⟩ := rq_s hf
        refine fgs_Mod_memory lf_Mod_32 d_Mod_set_27 k_27 e_27_2 ?_
        refine g_iload_n d_Mod_set_30 rfl ?_
        refine g_iload_n d_Mod_set_31 rfl ?_
        obtain ⟨i_32, hf⟩ := ix_s hf
        refine g_iast hw k_27_2 i_32 d_Mod_set_32 ?_
        have hf := pw_b hf
        refine g_iconst 1 d_Mod_set_33 (by decide) ?_
        exact Go.ret (some _) rOk_b1 rfl d_Mod_set_34 (pI_of hf)
      · have hf := ifn hf c_21
        refine g_iconst 0 d_Mod_set_24 (by decide) ?_
        exact Go.ret (some _) rOk_b0 rfl d_Mod_set_25 (pI_of hf)
abbrev mi_WM_launch : MI := (⟨"WarpMill", "launch", "(II)Z"⟩, prog_1_method_5_code, 3, some .boolean, 4, 88)
def it_WM_launch_0 : List (Nat × ClassFile.Instr × Nat) := [(0, .aload_n 0, 1), (1, .getfield 32, 3), (4, .invokevirtual 58, 3), (7, .ifCond .ne (14), 3), (10, .iload_n 1, 1), (11, .iconst 1, 1), (12, .if_icmp .lt (9), 3), (15, .iload_n 1, 1), (16, .bipush (64), 2), (18, .if_icmp .le (5), 3), (21, .iconst 0, 1), (22, .ireturn, 1), (23, .iload_n 2, 1), (24, .iconst 1, 1), (25, .if_icmp .lt (22), 3), (28, .iload_n 2, 1), (29, .aload_n 0, 1), (30, .getfield 10, 3), (33, .getfield 93, 3), (36, .aload_n 0, 1), (37, .getfield 10, 3), (40, .getfield 51, 3), (43, .imul, 1), (44, .if_icmp .le (5), 3)]
theorem id_WM_launch_0 : ∀ q ∈ it_WM_launch_0, decode prog_1_method_5_code q.1 = .ok q.2 := by decide +kernel
theorem d_WM_launch_0 : decode prog_1_method_5_code 0 = .ok (.aload_n 0, 1) := id_WM_launch_0 (0, .aload_n 0, 1) (List.mem_of_getElem? (i := 0) rfl)
theorem d_WM_launch_1 : decode prog_1_method_5_code 1 = .ok (.getfield 32, 3) := id_WM_launch_0 (1, .getfield 32, 3) (List.mem_of_getElem? (i := 1) rfl)
theorem d_WM_launch_4 : decode prog_1_method_5_code 4 = .ok (.invokevirtual 58, 3) := id_WM_launch_0 (4, .invokevirtual 58, 3) (List.mem_of_getElem? (i := 2) rfl)
theorem d_WM_launch_7 : decode prog_1_method_5_code 7 = .ok (.ifCond .ne (14), 3) := id_WM_launch_0 (7, .ifCond .ne (14), 3) (List.mem_of_getElem? (i := 3) rfl)
theorem d_WM_launch_10 : decode prog_1_method_5_code 10 = .ok (.iload_n 1, 1) := id_WM_launch_0 (10, .iload_n 1, 1) (List.mem_of_getElem? (i := 4) rfl)
theorem d_WM_launch_11 : decode prog_1_method_5_code 11 = .ok (.iconst 1, 1) := id_WM_launch_0 (11, .iconst 1, 1) (List.mem_of_getElem? (i := 5) rfl)
theorem d_WM_launch_12 : decode prog_1_method_5_code 12 = .ok (.if_icmp .lt (9), 3) := id_WM_launch_0 (12, .if_icmp .lt (9), 3) (List.mem_of_getElem? (i := 6) rfl)
theorem d_WM_launch_15 : decode prog_1_method_5_code 15 = .ok (.iload_n 1, 1) := id_WM_launch_0 (15, .iload_n 1, 1) (List.mem_of_getElem? (i := 7) rfl)
theorem d_WM_launch_16 : decode prog_1_method_5_code 16 = .ok (.bipush (64), 2) := id_WM_launch_0 (16, .bipush (64), 2) (List.mem_of_getElem? (i := 8) rfl)
theorem d_WM_launch_18 : decode prog_1_method_5_code 18 = .ok (.if_icmp .le (5), 3) := id_WM_launch_0 (18, .if_icmp .le (5), 3) (List.mem_of_getElem? (i := 9) rfl)
theorem d_WM_launch_21 : decode prog_1_method_5_code 21 = .ok (.iconst 0, 1) := id_WM_launch_0 (21, .iconst 0, 1) (List.mem_of_getElem? (i := 10) rfl)
theorem d_WM_launch_22 : decode prog_1_method_5_code 22 = .ok (.ireturn, 1) := id_WM_launch_0 (22, .ireturn, 1) (List.mem_of_getElem? (i := 11) rfl)
theorem d_WM_launch_23 : decode prog_1_method_5_code 23 = .ok (.iload_n 2, 1) := id_WM_launch_0 (23, .iload_n 2, 1) (List.mem_of_getElem? (i := 12) rfl)
theorem d_WM_launch_24 : decode prog_1_method_5_code 24 = .ok (.iconst 1, 1) := id_WM_launch_0 (24, .iconst 1, 1) (List.mem_of_getElem? (i := 13) rfl)
theorem d_WM_launch_25 : decode prog_1_method_5_code 25 = .ok (.if_icmp .lt (22), 3) := id_WM_launch_0 (25, .if_icmp .lt (22), 3) (List.mem_of_getElem? (i := 14) rfl)
theorem d_WM_launch_28 : decode prog_1_method_5_code 28 = .ok (.iload_n 2, 1) := id_WM_launch_0 (28, .iload_n 2, 1) (List.mem_of_getElem? (i := 15) rfl)
theorem d_WM_launch_29 : decode prog_1_method_5_code 29 = .ok (.aload_n 0, 1) := id_WM_launch_0 (29, .aload_n 0, 1) (List.mem_of_getElem? (i := 16) rfl)
theorem d_WM_launch_30 : decode prog_1_method_5_code 30 = .ok (.getfield 10, 3) := id_WM_launch_0 (30, .getfield 10, 3) (List.mem_of_getElem? (i := 17) rfl)
theorem d_WM_launch_33 : decode prog_1_method_5_code 33 = .ok (.getfield 93, 3) := id_WM_launch_0 (33, .getfield 93, 3) (List.mem_of_getElem? (i := 18) rfl)
theorem d_WM_launch_36 : decode prog_1_method_5_code 36 = .ok (.aload_n 0, 1) := id_WM_launch_0 (36, .aload_n 0, 1) (List.mem_of_getElem? (i := 19) rfl)
theorem d_WM_launch_37 : decode prog_1_method_5_code 37 = .ok (.getfield 10, 3) := id_WM_launch_0 (37, .getfield 10, 3) (List.mem_of_getElem? (i := 20) rfl)
theorem d_WM_launch_40 : decode prog_1_method_5_code 40 = .ok (.getfield 51, 3) := id_WM_launch_0 (40, .getfield 51, 3) (List.mem_of_getElem? (i := 21) rfl)
theorem d_WM_launch_43 : decode prog_1_method_5_code 43 = .ok (.imul, 1) := id_WM_launch_0 (43, .imul, 1) (List.mem_of_getElem? (i := 22) rfl)
theorem d_WM_launch_44 : decode prog_1_method_5_code 44 = .ok (.if_icmp .le (5), 3) := id_WM_launch_0 (44, .if_icmp .le (5), 3) (List.mem_of_getElem? (i := 23) rfl)
def it_WM_launch_1 : List (Nat × ClassFile.Instr × Nat) := [(47, .iconst 0, 1), (48, .ireturn, 1), (49, .aload_n 0, 1), (50, .getfield 32, 3), (53, .iconst 1, 1), (54, .iload_n 1, 1), (55, .iload_n 2, 1), (56, .invokevirtual 78, 3), (59, .aload_n 0, 1), (60, .invokevirtual 82, 3), (63, .iconst 1, 1), (64, .ireturn, 1)]
theorem id_WM_launch_1 : ∀ q ∈ it_WM_launch_1, decode prog_1_method_5_code q.1 = .ok q.2 := by decide +kernel
theorem d_WM_launch_47 : decode prog_1_method_5_code 47 = .ok (.iconst 0, 1) := id_WM_launch_1 (47, .iconst 0, 1) (List.mem_of_getElem? (i := 0) rfl)
theorem d_WM_launch_48 : decode prog_1_method_5_code 48 = .ok (.ireturn, 1) := id_WM_launch_1 (48, .ireturn, 1) (List.mem_of_getElem? (i := 1) rfl)
theorem d_WM_launch_49 : decode prog_1_method_5_code 49 = .ok (.aload_n 0, 1) := id_WM_launch_1 (49, .aload_n 0, 1) (List.mem_of_getElem? (i := 2) rfl)
theorem d_WM_launch_50 : decode prog_1_method_5_code 50 = .ok (.getfield 32, 3) := id_WM_launch_1 (50, .getfield 32, 3) (List.mem_of_getElem? (i := 3) rfl)
theorem d_WM_launch_53 : decode prog_1_method_5_code 53 = .ok (.iconst 1, 1) := id_WM_launch_1 (53, .iconst 1, 1) (List.mem_of_getElem? (i := 4) rfl)
theorem d_WM_launch_54 : decode prog_1_method_5_code 54 = .ok (.iload_n 1, 1) := id_WM_launch_1 (54, .iload_n 1, 1) (List.mem_of_getElem? (i := 5) rfl)
theorem d_WM_launch_55 : decode prog_1_method_5_code 55 = .ok (.iload_n 2, 1) := id_WM_launch_1 (55, .iload_n 2, 1) (List.mem_of_getElem? (i := 6) rfl)
theorem d_WM_launch_56 : decode prog_1_method_5_code 56 = .ok (.invokevirtual 78, 3) := id_WM_launch_1 (56, .invokevirtual 78, 3) (List.mem_of_getElem? (i := 7) rfl)
theorem d_WM_launch_59 : decode prog_1_method_5_code 59 = .ok (.aload_n 0, 1) := id_WM_launch_1 (59, .aload_n 0, 1) (List.mem_of_getElem? (i := 8) rfl)
theorem d_WM_launch_60 : decode prog_1_method_5_code 60 = .ok (.invokevirtual 82, 3) := id_WM_launch_1 (60, .invokevirtual 82, 3) (List.mem_of_getElem? (i := 9) rfl)
theorem d_WM_launch_63 : decode prog_1_method_5_code 63 = .ok (.iconst 1, 1) := id_WM_launch_1 (63, .iconst 1, 1) (List.mem_of_getElem? (i := 10) rfl)
theorem d_WM_launch_64 : decode prog_1_method_5_code 64 = .ok (.ireturn, 1) := id_WM_launch_1 (64, .ireturn, 1) (List.mem_of_getElem? (i := 11) rfl)
theorem wC_WM_launch : Cond.code ⟨"WarpMill", "launch", "(II)Z"⟩ prog_1_method_5_code 3 (some .boolean) ∈ lw_tb := mem_tb 481 (by decide +kernel) rfl
theorem cw_WM_launch_Tally_underWay : cW mi_WM_launch mi_Tally_underWay 0 := ⟨wC_Tally_underWay, wi_Tally, ⟨by decide, by decide, by decide +kernel⟩, by decide, by decide⟩
theorem cw_WM_launch_Tally_begin : cW mi_WM_launch mi_Tally_begin 3 := ⟨wC_Tally_begin, wi_Tally, ⟨by decide, by decide, by decide +kernel⟩, by decide, by decide⟩
theorem cw_WM_launch_WM_clearForLaunch : cW mi_WM_launch mi_WM_clearForLaunch 0 := ⟨wC_WM_clearForLaunch, wi_WM, ⟨by decide, by decide, by decide +kernel⟩, by decide, by decide⟩
def f_WM_launch (F : Nat) (x0 : Nat) (x1 : Int32) (x2 : Int32) (h : Hp) : Option (Int32 × Hp) := gd (hK h x0 = 1) <| rq h (hR h 3 x0) 6 fun a_1_2 => cl (f_Tally_underWay F a_1_2 h) fun v_4 h_4 => if v_4 = 0 then (if x1 < (1 : Int32) then (some ((0 : Int32), h_4)) else (if x1 ≤ (64 : Int32) then (if x2 < (1 : Int32) then (some ((0 : Int32), h_4)) else (gd (hK h_4 x0 = 1) <| rq h_4 (hR h_4 0 x0) 2 fun a_30_2 => if x2 ≤ ((hI h_4 64 a_30_2) * (hI h_4 65 a_30_2)) then (rq h_4 (hR h_4 3 x0) 6 fun a_50 => clv (f_Tally_begin F a_50 (1 : Int32) x1 x2 h_4) fun h_56 => gd (hK h_56 x0 = 1) <| clv (f_WM_clearForLaunch F x0 h_56) fun h_60_2 => some ((1 : Int32), h_60_2)) else (some ((0 : Int32), h_4)))) else (some ((0 : Int32), h_4)))) else (some ((0 : Int32), h_4))
set_option maxRecDepth 100000 in
set_option maxHeartbeats 4000000 in
theorem e_WM_launch {G : Gl} (hw : gF G) {F : Nat} {r : Int32} {h' : Hp} {x0 : Nat} {x1 : Int32} {x2 : Int32} {h : Hp} (hf : f_WM_launch F x0 x1 x2 h = some (r, h')) : Ex G mi_WM_launch [.ref x0, .int x1, .int x2] h (pI r h') := by
  unfold f_WM_launch at hf
  refine Ex.of nmI (by decide) (Nat.le_of_ble_eq_true rfl) ?_
  show Go G mi_WM_launch h _ h 0 [(0, .ref x0), (1, .int x1), (2, .int x2)] []
  refine g_aload_n d_WM_launch_0 rfl ?_
  obtain ⟨k_1, hf⟩ := gd_s hf
  obtain ⟨a_1_2, e_1_2, k_1_2, hf⟩ := rq_s hf
  refine fgs_WM_tally lf_WM_32 d_WM_launch_1 k_1 e_1_2 ?_
  obtain ⟨v_4, h_4, e_4, hf⟩ := cl_s hf
  refine g_callV (mz := mi_Tally_underWay) (e_Tally_underWay e_4) cw_WM_launch_Tally_underWay lm_WM_58 wI_Tally_underWay wV_Tally_underWay (ci := 5) k_1_2 (by decide) rfl rfl d_WM_launch_4 rfl rfl (by first | exact Nat.le_of_ble_eq_true rfl | simp [cat_rf, Value.category]) (fun r1 h1 hp hro => ?_)
  obtain ⟨rfl, rfl⟩ := hp
  dsimp only [Option.toList_some, Option.toList_none, List.cons_append, List.nil_append]
  refine g_if_ne 21 d_WM_launch_7 (by decide) (fun c_7 => ?_) (fun c_7 => ?_)
  · have hf := ifn hf c_7
    refine g_iconst 0 d_WM_launch_21 (by decide) ?_
    exact Go.ret (some _) rOk_b0 rfl d_WM_launch_22 (pI_of hf)
  · have hf := ifp hf c_7
    refine g_iload_n d_WM_launch_10 rfl ?_
    refine g_iconst 1 d_WM_launch_11 (by decide) ?_
    refine g_icmp_lt 21 d_WM_launch_12 (by decide) (fun c_12 => ?_) (fun c_12 => ?_)
    · have hf := ifp hf c_12
      refine g_iconst 0 d_WM_launch_21 (by decide) ?_
      exact Go.ret (some _) rOk_b0 rfl d_WM_launch_22 (pI_of hf)
    · have hf := ifn hf c_12
      refine g_iload_n d_WM_launch_15 rfl ?_
      refine g_bipush (64) d_WM_launch_16 (by decide) ?_
      refine g_icmp_le 23 d_WM_launch_18 (by decide) (fun c_18 => ?_) (fun c_18 => ?_)
      · have hf := ifp hf c_18
        refine g_iload_n d_WM_launch_23 rfl ?_
        refine g_iconst 1 d_WM_launch_24 (by decide) ?_
        refine g_icmp_lt 47 d_WM_launch_25 (by decide) (fun c_25 => ?_) (fun c_25 => ?_)
        · have hf := ifp hf c_25
          refine g_iconst 0 d_WM_launch_47 (by decide) ?_
          exact Go.ret (some _) rOk_b0 rfl d_WM_launch_48 (pI_of hf)
        · have hf := ifn hf c_25
          refine g_iload_n d_WM_launch_28 rfl ?_
          refine g_aload_n d_WM_launch_29 rfl ?_
          obtain ⟨k_30, hf⟩ := gd_s hf
          obtain ⟨a_30_2, e_30_2, k_30_2, hf⟩ := rq_s hf
          refine fgs_WM_sizes lf_WM_10 d_WM_launch_30 k_30 e_30_2 ?_
          refine fg_Sizes_lanes lf_WM_93 d_WM_launch_33 k_30_2 ?_
          refine g_aload_n d_WM_launch_36 rfl ?_
          refine fgs_WM_sizes lf_WM_10 d_WM_launch_37 k_30 e_30_2 ?_
          refine fg_Sizes_slots lf_WM_51 d_WM_launch_40 k_30_2 ?_
          refine g_imul d_WM_launch_43 ?_
          refine g_icmp_le 49 d_WM_launch_44 (by decide) (fun c_44 => ?_) (fun c_44 => ?_)
          · have hf := ifp hf c_44
            refine g_aload_n d_WM_launch_49 rfl ?_
            obtain ⟨a_50, e_50, k_50, hf⟩ := rq_s hf
            refine fgs_WM_tally lf_WM_32 d_WM_launch_50 k_30 e_50 ?_
            refine g_iconst 1 d_WM_launch_53 (by decide) ?_
            refine g_iload_n d_WM_launch_54 rfl ?_
            refine g_iload_n d_WM_launch_55 rfl ?_
            obtain ⟨h_56, e_56, hf⟩ := clv_s hf
            refine g_callV (mz := mi_Tally_begin) (e_Tally_begin hw e_56) cw_WM_launch_Tally_begin lm_WM_78 wI_Tally_begin wV_Tally_begin (ci := 5) k_50 (by decide) rfl rfl d_WM_launch_56 rfl rfl (by first | exact Nat.le_of_ble_eq_true rfl | simp [cat_rf, Value.category]) (fun r1 h1 hp hro => ?_)
            obtain ⟨rfl, rfl⟩ := hp
            dsimp only [Option.toList_some, Option.toList_none, List.cons_append, List.nil_append]
            refine g_aload_n d_WM_launch_59 rfl ?_
            obtain ⟨k_60, hf⟩ := gd_s hf
            obtain ⟨h_60_2, e_60_2, hf⟩ := clv_s hf
            refine g_callV (mz := mi_WM_clearForLaunch) (e_WM_clearForLaunch hw e_60_2) cw_WM_launch_WM_clearForLaunch lm_WM_82 wI_WM_clearForLaunch wV_WM_clearForLaunch (ci := 0) k_60 (by decide) rfl rfl d_WM_launch_60 rfl rfl (by first | exact Nat.le_of_ble_eq_true rfl | simp [cat_rf, Value.category]) (fun r1 h1 hp hro => ?_)
            obtain ⟨rfl, rfl⟩ := hp
            dsimp only [Option.toList_some, Option.toList_none, List.cons_append, List.nil_append]
            refine g_iconst 1 d_WM_launch_63 (by decide) ?_
            exact Go.ret (some _) rOk_b1 rfl d_WM_launch_64 (pI_of hf)
          · have hf := ifn hf c_44
            refine g_iconst 0 d_WM_launch_47 (by decide) ?_
            exact Go.ret (some _) rOk_b0 rfl d_WM_launch_48 (pI_of hf)
      · have hf := ifn hf c_18
        refine g_iconst 0 d_WM_launch_21 (by decide) ?_
        exact Go.ret (some _) rOk_b0 rfl d_WM_launch_22 (pI_of hf)
abbrev mi_Mod_launch : MI := (⟨"WarpMillModel", "launch", "(II)Z"⟩, prog_13_method_12_code, 3, some .boolean, 2, 42)
def it_Mod_launch_0 : List (Nat × ClassFile.Instr × Nat) := [(0, .aload_n 0, 1), (1, .iconst 0, 1), (2, .putfield 120, 3), (5, .aload_n 0, 1), (6, .invokevirtual 143, 3), (9, .ifCond .ne (32), 3), (12, .iload_n 1, 1), (13, .iconst 1, 1), (14, .if_icmp .lt (27), 3), (17, .iload_n 1, 1), (18, .bipush (64), 2), (20, .if_icmp .gt (21), 3), (23, .iload_n 2, 1), (24, .iconst 1, 1), (25, .if_icmp .lt (16), 3), (28, .iload_n 2, 1), (29, .aload_n 0, 1), (30, .getfield 7, 3), (33, .aload_n 0, 1), (34, .getfield 13, 3), (37, .imul, 1), (38, .if_icmp .le (5), 3), (41, .iconst 0, 1), (42, .ireturn, 1)]
theorem id_Mod_launch_0 : ∀ q ∈ it_Mod_launch_0, decode prog_13_method_12_code q.1 = .ok q.2 := by decide +kernel
theorem d_Mod_launch_0 : decode prog_13_method_12_code 0 = .ok (.aload_n 0, 1) := id_Mod_launch_0 (0, .aload_n 0, 1) (List.mem_of_getElem? (i := 0) rfl)
theorem d_Mod_launch_1 : decode prog_13_method_12_code 1 = .ok (.iconst 0, 1) := id_Mod_launch_0 (1, .iconst 0, 1) (List.mem_of_getElem? (i := 1) rfl)
theorem d_Mod_launch_2 : decode prog_13_method_12_code 2 = .ok (.putfield 120, 3) := id_Mod_launch_0 (2, .putfield 120, 3) (List.mem_of_getElem? (i := 2) rfl)
theorem d_Mod_launch_5 : decode prog_13_method_12_code 5 = .ok (.aload_n 0, 1) := id_Mod_launch_0 (5, .aload_n 0, 1) (List.mem_of_getElem? (i := 3) rfl)
theorem d_Mod_launch_6 : decode prog_13_method_12_code 6 = .ok (.invokevirtual 143, 3) := id_Mod_launch_0 (6, .invokevirtual 143, 3) (List.mem_of_getElem? (i := 4) rfl)
theorem d_Mod_launch_9 : decode prog_13_method_12_code 9 = .ok (.ifCond .ne (32), 3) := id_Mod_launch_0 (9, .ifCond .ne (32), 3) (List.mem_of_getElem? (i := 5) rfl)
theorem d_Mod_launch_12 : decode prog_13_method_12_code 12 = .ok (.iload_n 1, 1) := id_Mod_launch_0 (12, .iload_n 1, 1) (List.mem_of_getElem? (i := 6) rfl)
theorem d_Mod_launch_13 : decode prog_13_method_12_code 13 = .ok (.iconst 1, 1) := id_Mod_launch_0 (13, .iconst 1, 1) (List.mem_of_getElem? (i := 7) rfl)
theorem d_Mod_launch_14 : decode prog_13_method_12_code 14 = .ok (.if_icmp .lt (27), 3) := id_Mod_launch_0 (14, .if_icmp .lt (27), 3) (List.mem_of_getElem? (i := 8) rfl)
theorem d_Mod_launch_17 : decode prog_13_method_12_code 17 = .ok (.iload_n 1, 1) := id_Mod_launch_0 (17, .iload_n 1, 1) (List.mem_of_getElem? (i := 9) rfl)
theorem d_Mod_launch_18 : decode prog_13_method_12_code 18 = .ok (.bipush (64), 2) := id_Mod_launch_0 (18, .bipush (64), 2) (List.mem_of_getElem? (i := 10) rfl)
theorem d_Mod_launch_20 : decode prog_13_method_12_code 20 = .ok (.if_icmp .gt (21), 3) := id_Mod_launch_0 (20, .if_icmp .gt (21), 3) (List.mem_of_getElem? (i := 11) rfl)
theorem d_Mod_launch_23 : decode prog_13_method_12_code 23 = .ok (.iload_n 2, 1) := id_Mod_launch_0 (23, .iload_n 2, 1) (List.mem_of_getElem? (i := 12) rfl)
theorem d_Mod_launch_24 : decode prog_13_method_12_code 24 = .ok (.iconst 1, 1) := id_Mod_launch_0 (24, .iconst 1, 1) (List.mem_of_getElem? (i := 13) rfl)
theorem d_Mod_launch_25 : decode prog_13_method_12_code 25 = .ok (.if_icmp .lt (16), 3) := id_Mod_launch_0 (25, .if_icmp .lt (16), 3) (List.mem_of_getElem? (i := 14) rfl)
theorem d_Mod_launch_28 : decode prog_13_method_12_code 28 = .ok (.iload_n 2, 1) := id_Mod_launch_0 (28, .iload_n 2, 1) (List.mem_of_getElem? (i := 15) rfl)
theorem d_Mod_launch_29 : decode prog_13_method_12_code 29 = .ok (.aload_n 0, 1) := id_Mod_launch_0 (29, .aload_n 0, 1) (List.mem_of_getElem? (i := 16) rfl)
theorem d_Mod_launch_30 : decode prog_13_method_12_code 30 = .ok (.getfield 7, 3) := id_Mod_launch_0 (30, .getfield 7, 3) (List.mem_of_getElem? (i := 17) rfl)
theorem d_Mod_launch_33 : decode prog_13_method_12_code 33 = .ok (.aload_n 0, 1) := id_Mod_launch_0 (33, .aload_n 0, 1) (List.mem_of_getElem? (i := 18) rfl)
theorem d_Mod_launch_34 : decode prog_13_method_12_code 34 = .ok (.getfield 13, 3) := id_Mod_launch_0 (34, .getfield 13, 3) (List.mem_of_getElem? (i := 19) rfl)
theorem d_Mod_launch_37 : decode prog_13_method_12_code 37 = .ok (.imul, 1) := id_Mod_launch_0 (37, .imul, 1) (List.mem_of_getElem? (i := 20) rfl)
theorem d_Mod_launch_38 : decode prog_13_method_12_code 38 = .ok (.if_icmp .le (5), 3) := id_Mod_launch_0 (38, .if_icmp .le (5), 3) (List.mem_of_getElem? (i := 21) rfl)
theorem d_Mod_launch_41 : decode prog_13_method_12_code 41 = .ok (.iconst 0, 1) := id_Mod_launch_0 (41, .iconst 0, 1) (List.mem_of_getElem? (i := 22) rfl)
theorem d_Mod_launch_42 : decode prog_13_method_12_code 42 = .ok (.ireturn, 1) := id_Mod_launch_0 (42, .ireturn, 1) (List.mem_of_getElem? (i := 23) rfl)
def it_Mod_launch_1 : List (Nat × ClassFile.Instr × Nat) := [(43, .aload_n 0, 1), (44, .iload_n 1, 1), (45, .putfield 150, 3), (48, .aload_n 0, 1), (49, .iload_n 2, 1), (50, .putfield 153, 3), (53, .aload_n 0, 1), (54, .iconst 1, 1), (55, .putfield 136, 3), (58, .aload_n 0, 1), (59, .iconst 0, 1), (60, .putfield 156, 3), (63, .aload_n 0, 1), (64, .invokevirtual 147, 3), (67, .aload_n 0, 1), (68, .invokevirtual 126, 3), (71, .iconst 1, 1), (72, .ireturn, 1)]
theorem id_Mod_launch_1 : ∀ q ∈ it_Mod_launch_1, decode prog_13_method_12_code q.1 = .ok q.2 := by decide +kernel
theorem d_Mod_launch_43 : decode prog_13_method_12_code 43 = .ok (.aload_n 0, 1) := id_Mod_launch_1 (43, .aload_n 0, 1) (List.mem_of_getElem? (i := 0) rfl)
theorem d_Mod_launch_44 : decode prog_13_method_12_code 44 = .ok (.iload_n 1, 1) := id_Mod_launch_1 (44, .iload_n 1, 1) (List.mem_of_getElem? (i := 1) rfl)
theorem d_Mod_launch_45 : decode prog_13_method_12_code 45 = .ok (.putfield 150, 3) := id_Mod_launch_1 (45, .putfield 150, 3) (List.mem_of_getElem? (i := 2) rfl)
theorem d_Mod_launch_48 : decode prog_13_method_12_code 48 = .ok (.aload_n 0, 1) := id_Mod_launch_1 (48, .aload_n 0, 1) (List.mem_of_getElem? (i := 3) rfl)
theorem d_Mod_launch_49 : decode prog_13_method_12_code 49 = .ok (.iload_n 2, 1) := id_Mod_launch_1 (49, .iload_n 2, 1) (List.mem_of_getElem? (i := 4) rfl)
theorem d_Mod_launch_50 : decode prog_13_method_12_code 50 = .ok (.putfield 153, 3) := id_Mod_launch_1 (50, .putfield 153, 3) (List.mem_of_getElem? (i := 5) rfl)
theorem d_Mod_launch_53 : decode prog_13_method_12_code 53 = .ok (.aload_n 0, 1) := id_Mod_launch_1 (53, .aload_n 0, 1) (List.mem_of_getElem? (i := 6) rfl)
theorem d_Mod_launch_54 : decode prog_13_method_12_code 54 = .ok (.iconst 1, 1) := id_Mod_launch_1 (54, .iconst 1, 1) (List.mem_of_getElem? (i := 7) rfl)
theorem d_Mod_launch_55 : decode prog_13_method_12_code 55 = .ok (.putfield 136, 3) := id_Mod_launch_1 (55, .putfield 136, 3) (List.mem_of_getElem? (i := 8) rfl)
theorem d_Mod_launch_58 : decode prog_13_method_12_code 58 = .ok (.aload_n 0, 1) := id_Mod_launch_1 (58, .aload_n 0, 1) (List.mem_of_getElem? (i := 9) rfl)
theorem d_Mod_launch_59 : decode prog_13_method_12_code 59 = .ok (.iconst 0, 1) := id_Mod_launch_1 (59, .iconst 0, 1) (List.mem_of_getElem? (i := 10) rfl)
theorem d_Mod_launch_60 : decode prog_13_method_12_code 60 = .ok (.putfield 156, 3) := id_Mod_launch_1 (60, .putfield 156, 3) (List.mem_of_getElem? (i := 11) rfl)
theorem d_Mod_launch_63 : decode prog_13_method_12_code 63 = .ok (.aload_n 0, 1) := id_Mod_launch_1 (63, .aload_n 0, 1) (List.mem_of_getElem? (i := 12) rfl)
theorem d_Mod_launch_64 : decode prog_13_method_12_code 64 = .ok (.invokevirtual 147, 3) := id_Mod_launch_1 (64, .invokevirtual 147, 3) (List.mem_of_getElem? (i := 13) rfl)
theorem d_Mod_launch_67 : decode prog_13_method_12_code 67 = .ok (.aload_n 0, 1) := id_Mod_launch_1 (67, .aload_n 0, 1) (List.mem_of_getElem? (i := 14) rfl)
theorem d_Mod_launch_68 : decode prog_13_method_12_code 68 = .ok (.invokevirtual 126, 3) := id_Mod_launch_1 (68, .invokevirtual 126, 3) (List.mem_of_getElem? (i := 15) rfl)
theorem d_Mod_launch_71 : decode prog_13_method_12_code 71 = .ok (.iconst 1, 1) := id_Mod_launch_1 (71, .iconst 1, 1) (List.mem_of_getElem? (i := 16) rfl)
theorem d_Mod_launch_72 : decode prog_13_method_12_code 72 = .ok (.ireturn, 1) := id_Mod_launch_1 (72, .ireturn, 1) (List.mem_of_getElem? (i := 17) rfl)
theorem wC_Mod_launch : Cond.code ⟨"WarpMillModel", "launch", "(II)Z"⟩ prog_13_method_12_code 3 (some .boolean) ∈ lw_tb := mem_tb 1276 (by decide +kernel) rfl
theorem cw_Mod_launch_Mod_isUnder : cW mi_Mod_launch mi_Mod_isUnder 0 := ⟨wC_Mod_isUnder, wi_Mod, ⟨by decide, by decide, by decide +kernel⟩, by decide, by decide⟩
theorem cw_Mod_launch_Mod_clearCounts : cW mi_Mod_launch mi_Mod_clearCounts 0 := ⟨wC_Mod_clearCounts, wi_Mod, ⟨by decide, by decide, by decide +kernel⟩, by decide, by decide⟩
theorem cw_Mod_launch_Mod_clearUnits : cW mi_Mod_launch mi_Mod_clearUnits 0 := ⟨wC_Mod_clearUnits, wi_Mod, ⟨by decide, by decide, by decide +kernel⟩, by decide, by decide⟩
def f_Mod_launch (F : Nat) (x0 : Nat) (x1 : Int32) (x2 : Int32) (h : Hp) : Option (Int32 × Hp) := gd (hK h x0 = 12) <| pw (sI h 704 x0 (0 : Int32)) fun h_2_2 => cl (f_Mod_isUnder F x0 h_2_2) fun v_6 h_6 => if v_6 = 0 then (if x1 < (1 : Int32) then (some ((0 : Int32), h_6)) else (if (64 : Int32) < x1 then (some ((0 : Int32), h_6)) else (if x2 < (1 : Int32) then (some ((0 : Int32), h_6)) else (gd (hK h_6 x0 = 12) <| if x2 ≤ ((hI h_6 705 x0) * (hI h_6 706 x0)) then (pw (sI h_6 716 x0 x1) fun h_45 => pw (sI h_45 717 x0 x2) fun h_50 => pw (sI h_50 715 x0 (1 : Int32)) fun h_55 => pw (sI h_55 718 x0 (0 : Int32)) fun h_60 => clv (f_Mod_clearCounts F x0 h_60) fun h_64 => gd (hK h_64 x0 = 12) <| clv (f_Mod_clearUnits F x0 h_64) fun h_68_2 => some ((1 : Int32), h_68_2)) else (some ((0 : Int32), h_6)))))) else (some ((0 : Int32), h_6))
set_option maxRecDepth 100000 in
set_option maxHeartbeats 4000000 in
theorem e_Mod_launch {G : Gl} (hw : gF G) {F : Nat} {r : Int32} {h' : Hp} {x0 : Nat} {x1 : Int32} {x2 : Int32} {h : Hp} (hf : f_Mod_launch F x0 x1 x2 h = some (r, h')) : Ex G mi_Mod_launch [.ref x0, .int x1, .int x2] h (pI r h') := by
  unfold f_Mod_launch at hf
  refine Ex.of nmI (by decide) (Nat.le_of_ble_eq_true rfl) ?_
  show Go G mi_Mod_launch h _ h 0 [(0, .ref x0), (1, .int x1), (2, .int x2)] []
  refine g_aload_n d_Mod_launch_0 rfl ?_
  refine g_iconst 0 d_Mod_launch_1 (by decide) ?_
  obtain ⟨k_2, hf⟩ := gd_s hf
  refine fp_Mod_thrown hw lf_Mod_120 d_Mod_launch_2 k_2 ?_
  have hf := pw_b hf
  refine g_aload_n d_Mod_launch_5 rfl ?_
  obtain ⟨v_6, h_6, e_6, hf⟩ := cl_s hf
  refine g_callV (mz := mi_Mod_isUnder) (e_Mod_isUnder e_6) cw_Mod_launch_Mod_isUnder lm_Mod_143 wI_Mod_isUnder wV_Mod_isUnder (ci := 11) (kksI k_2) (by decide) rfl rfl d_Mod_launch_6 rfl rfl (by first | exact Nat.le_of_ble_eq_true rfl | simp [cat_rf, Value.category]) (fun r1 h1 hp hro => ?_)
  obtain ⟨rfl, rfl⟩ := hp
  dsimp only [Option.toList_some, Option.toList_none, List.cons_append, List.nil_append]
  refine g_if_ne 41 d_Mod_launch_9 (by decide) (fun c_9 => ?_) (fun c_9 => ?_)
  · have hf := ifn hf c_9
    refine g_iconst 0 d_Mod_launch_41 (by decide) ?_
    exact Go.ret (some _) rOk_b0 rfl d_Mod_launch_42 (pI_of hf)
  · have hf := ifp hf c_9
    refine g_iload_n d_Mod_launch_12 rfl ?_
    refine g_iconst 1 d_Mod_launch_13 (by decide) ?_
    refine g_icmp_lt 41 d_Mod_launch_14 (by decide) (fun c_14 => ?_) (fun c_14 => ?_)
    · have hf := ifp hf c_14
      refine g_iconst 0 d_Mod_launch_41 (by decide) ?_
      exact Go.ret (some _) rOk_b0 rfl d_Mod_launch_42 (pI_of hf)
    · have hf := ifn hf c_14
      refine g_iload_n d_Mod_launch_17 rfl ?_
      refine g_bipush (64) d_Mod_launch_18 (by decide) ?_
      refine g_icmp_gt 41 d_Mod_launch_20 (by decide) (fun c_20 => ?_) (fun c_20 => ?_)
      · have hf := ifp hf c_20
        refine g_iconst 0 d_Mod_launch_41 (by decide) ?_
        exact Go.ret (some _) rOk_b0 rfl d_Mod_launch_42 (pI_of hf)
      · have hf := ifn hf c_20
        refine g_iload_n d_Mod_launch_23 rfl ?_
        refine g_iconst 1 d_Mod_launch_24 (by decide) ?_
        refine g_icmp_lt 41 d_Mod_launch_25 (by decide) (fun c_25 => ?_) (fun c_25 => ?_)
        · have hf := ifp hf c_25
          refine g_iconst 0 d_Mod_launch_41 (by decide) ?_
          exact Go.ret (some _) rOk_b0 rfl d_Mod_launch_42 (pI_of hf)
        · have hf := ifn hf c_25
          refine g_iload_n d_Mod_launch_28 rfl ?_
          refine g_aload_n d_Mod_launch_29 rfl ?_
          obtain ⟨k_30, hf⟩ := gd_s hf
          refine fg_Mod_lanes lf_Mod_7 d_Mod_launch_30 k_30 ?_
          refine g_aload_n d_Mod_launch_33 rfl ?_
          refine fg_Mod_slots lf_Mod_13 d_Mod_launch_34 k_30 ?_
          refine g_imul d_Mod_launch_37 ?_
          refine g_icmp_le 43 d_Mod_launch_38 (by decide) (fun c_38 => ?_) (fun c_38 => ?_)
          · have hf := ifp hf c_38
            refine g_aload_n d_Mod_launch_43 rfl ?_
            refine g_iload_n d_Mod_launch_44 rfl ?_
            refine fp_Mod_blocks hw lf_Mod_150 d_Mod_launch_45 k_30 ?_
            have hf := pw_b hf
            refine g_aload_n d_Mod_launch_48 rfl ?_
            refine g_iload_n d_Mod_launch_49 rfl ?_
            refine fp_Mod_threads hw lf_Mod_153 d_Mod_launch_50 (kksI k_30) ?_
            have hf := pw_b hf
            refine g_aload_n d_Mod_launch_53 rfl ?_
            refine g_iconst 1 d_Mod_launch_54 (by decide) ?_
            refine fp_Mod_status hw lf_Mod_136 d_Mod_launch_55 (kksI (kksI k_30)) ?_
            have hf := pw_b hf
            refine g_aload_n d_Mod_launch_58 rfl ?_
            refine g_iconst 0 d_Mod_launch_59 (by decide) ?_
            refine fp_Mod_next hw lf_Mod_156 d_Mod_launch_60 (kksI (kksI (kksI k_30))) ?_
            have hf := pw_b hf
            refine g_aload_n d_Mod_launch_63 rfl ?_
            obtain ⟨h_64, e_64, hf⟩ := clv_s hf
            refine g_callV (mz := mi_Mod_clearCounts) (e_Mod_clearCounts hw e_64) cw_Mod_launch_Mod_clearCounts lm_Mod_147 wI_Mod_clearCounts wV_Mod_clearCounts (ci := 11) (kksI (kksI (kksI (kksI k_30)))) (by decide) rfl rfl d_Mod_launch_64 rfl rfl (by first | exact Nat.le_of_ble_eq_true rfl | simp [cat_rf, Value.category]) (fun r1 h1 hp hro => ?_)
            obtain ⟨rfl, rfl⟩ := hp
            dsimp only [Option.toList_some, Option.toList_none, List.cons_append, List.nil_append]
            refine g_aload_n d_Mod_launch_67 rfl ?_
            obtain ⟨k_68, hf⟩ := gd_s hf
            obtain ⟨h_68_2, e_68_2, hf⟩ := clv_s hf
            refine g_callV (mz := mi_Mod_clearUnits) (e_Mod_clearUnits hw e_68_2) cw_Mod_launch_Mod_clearUnits lm_Mod_126 wI_Mod_clearUnits wV_Mod_clearUnits (ci := 11) k_68 (by decide) rfl rfl d_Mod_launch_68 rfl rfl (by first | exact Nat.le_of_ble_eq_true rfl | simp [cat_rf, Value.category]) (fun r1 h1 hp hro => ?_)
            obtain ⟨rfl, rfl⟩ := hp
            dsimp only [Option.toList_some, Option.toList_none, List.cons_append, List.nil_append]
            refine g_iconst 1 d_Mod_launch_71 (by decide) ?_
            exact Go.ret (some _) rOk_b1 rfl d_Mod_launch_72 (pI_of hf)
          · have hf := ifn hf c_38
            refine g_iconst 0 d_Mod_launch_41 (by decide) ?_
            exact Go.ret (some _) rOk_b0 rfl d_Mod_launch_42 (pI_of hf)
abbrev mi_Ask_leaves : MI := (⟨"WarpMill$Ask", "leaves", "(I)I"⟩, prog_2_method_3_code, 2, some .int, 1, 21)
def it_Ask_leaves_0 : List (Nat × ClassFile.Instr × Nat) := [(0, .aload_n 0, 1), (1, .getfield 28, 3), (4, .getfield 57, 3), (7, .tableswitch (79) (51) (57) #[(41), (79), (79), (46), (53), (41), (62)], 41), (48, .aload_n 0, 1), (49, .getfield 49, 3), (52, .ireturn, 1), (53, .iload_n 1, 1), (54, .aload_n 0, 1), (55, .getfield 49, 3), (58, .iadd, 1), (59, .ireturn, 1), (60, .iload_n 1, 1), (61, .aload_n 0, 1), (62, .getfield 49, 3), (65, .invokestatic 60, 3), (68, .ireturn, 1), (69, .iload_n 1, 1), (70, .aload_n 0, 1), (71, .getfield 53, 3), (74, .if_icmp .ne (10), 3), (77, .aload_n 0, 1), (78, .getfield 49, 3), (81, .goto (4), 3)]
theorem id_Ask_leaves_0 : ∀ q ∈ it_Ask_leaves_0, decode prog_2_method_3_code q.1 = .ok q.2 := by decide +kernel
theorem d_Ask_leaves_0 : decode prog_2_method_3_code 0 = .ok (.aload_n 0, 1) := id_Ask_leaves_0 (0, .aload_n 0, 1) (List.mem_of_getElem? (i := 0) rfl)
theorem d_Ask_leaves_1 : decode prog_2_method_3_code 1 = .ok (.getfield 28, 3) := id_Ask_leaves_0 (1, .getfield 28, 3) (List.mem_of_getElem? (i := 1) rfl)
theorem d_Ask_leaves_4 : decode prog_2_method_3_code 4 = .ok (.getfield 57, 3) := id_Ask_leaves_0 (4, .getfield 57, 3) (List.mem_of_getElem? (i := 2) rfl)
theorem d_Ask_leaves_7 : decode prog_2_method_3_code 7 = .ok (.tableswitch (79) (51) (57) #[(41), (79), (79), (46), (53), (41), (62)], 41) := id_Ask_leaves_0 (7, .tableswitch (79) (51) (57) #[(41), (79), (79), (46), (53), (41), (62)], 41) (List.mem_of_getElem? (i := 3) rfl)
theorem d_Ask_leaves_48 : decode prog_2_method_3_code 48 = .ok (.aload_n 0, 1) := id_Ask_leaves_0 (48, .aload_n 0, 1) (List.mem_of_getElem? (i := 4) rfl)
theorem d_Ask_leaves_49 : decode prog_2_method_3_code 49 = .ok (.getfield 49, 3) := id_Ask_leaves_0 (49, .getfield 49, 3) (List.mem_of_getElem? (i := 5) rfl)
theorem d_Ask_leaves_52 : decode prog_2_method_3_code 52 = .ok (.ireturn, 1) := id_Ask_leaves_0 (52, .ireturn, 1) (List.mem_of_getElem? (i := 6) rfl)
theorem d_Ask_leaves_53 : decode prog_2_method_3_code 53 = .ok (.iload_n 1, 1) := id_Ask_leaves_0 (53, .iload_n 1, 1) (List.mem_of_getElem? (i := 7) rfl)
theorem d_Ask_leaves_54 : decode prog_2_method_3_code 54 = .ok (.aload_n 0, 1) := id_Ask_leaves_0 (54, .aload_n 0, 1) (List.mem_of_getElem? (i := 8) rfl)
theorem d_Ask_leaves_55 : decode prog_2_method_3_code 55 = .ok (.getfield 49, 3) := id_Ask_leaves_0 (55, .getfield 49, 3) (List.mem_of_getElem? (i := 9) rfl)
theorem d_Ask_leaves_58 : decode prog_2_method_3_code 58 = .ok (.iadd, 1) := id_Ask_leaves_0 (58, .iadd, 1) (List.mem_of_getElem? (i := 10) rfl)
theorem d_Ask_leaves_59 : decode prog_2_method_3_code 59 = .ok (.ireturn, 1) := id_Ask_leaves_0 (59, .ireturn, 1) (List.mem_of_getElem? (i := 11) rfl)
theorem d_Ask_leaves_60 : decode prog_2_method_3_code 60 = .ok (.iload_n 1, 1) := id_Ask_leaves_0 (60, .iload_n 1, 1) (List.mem_of_getElem? (i := 12) rfl)
theorem d_Ask_leaves_61 : decode prog_2_method_3_code 61 = .ok (.aload_n 0, 1) := id_Ask_leaves_0 (61, .aload_n 0, 1) (List.mem_of_getElem? (i := 13) rfl)
theorem d_Ask_leaves_62 : decode prog_2_method_3_code 62 = .ok (.getfield 49, 3) := id_Ask_leaves_0 (62, .getfield 49, 3) (List.mem_of_getElem? (i := 14) rfl)
theorem d_Ask_leaves_65 : decode prog_2_method_3_code 65 = .ok (.invokestatic 60, 3) := id_Ask_leaves_0 (65, .invokestatic 60, 3) (List.mem_of_getElem? (i := 15) rfl)
theorem d_Ask_leaves_68 : decode prog_2_method_3_code 68 = .ok (.ireturn, 1) := id_Ask_leaves_0 (68, .ireturn, 1) (List.mem_of_getElem? (i := 16) rfl)
theorem d_Ask_leaves_69 : decode prog_2_method_3_code 69 = .ok (.iload_n 1, 1) := id_Ask_leaves_0 (69, .iload_n 1, 1) (List.mem_of_getElem? (i := 17) rfl)
theorem d_Ask_leaves_70 : decode prog_2_method_3_code 70 = .ok (.aload_n 0, 1) := id_Ask_leaves_0 (70, .aload_n 0, 1) (List.mem_of_getElem? (i := 18) rfl)
theorem d_Ask_leaves_71 : decode prog_2_method_3_code 71 = .ok (.getfield 53, 3) := id_Ask_leaves_0 (71, .getfield 53, 3) (List.mem_of_getElem? (i := 19) rfl)
theorem d_Ask_leaves_74 : decode prog_2_method_3_code 74 = .ok (.if_icmp .ne (10), 3) := id_Ask_leaves_0 (74, .if_icmp .ne (10), 3) (List.mem_of_getElem? (i := 20) rfl)
theorem d_Ask_leaves_77 : decode prog_2_method_3_code 77 = .ok (.aload_n 0, 1) := id_Ask_leaves_0 (77, .aload_n 0, 1) (List.mem_of_getElem? (i := 21) rfl)
theorem d_Ask_leaves_78 : decode prog_2_method_3_code 78 = .ok (.getfield 49, 3) := id_Ask_leaves_0 (78, .getfield 49, 3) (List.mem_of_getElem? (i := 22) rfl)
theorem d_Ask_leaves_81 : decode prog_2_method_3_code 81 = .ok (.goto (4), 3) := id_Ask_leaves_0 (81, .goto (4), 3) (List.mem_of_getElem? (i := 23) rfl)
def it_Ask_leaves_1 : List (Nat × ClassFile.Instr × Nat) := [(84, .iload_n 1, 1), (85, .ireturn, 1), (86, .iload_n 1, 1), (87, .ireturn, 1)]
theorem id_Ask_leaves_1 : ∀ q ∈ it_Ask_leaves_1, decode prog_2_method_3_code q.1 = .ok q.2 := by decide +kernel
theorem d_Ask_leaves_84 : decode prog_2_method_3_code 84 = .ok (.iload_n 1, 1) := id_Ask_leaves_1 (84, .iload_n 1, 1) (List.mem_of_getElem? (i := 0) rfl)
theorem d_Ask_leaves_85 : decode prog_2_method_3_code 85 = .ok (.ireturn, 1) := id_Ask_leaves_1 (85, .ireturn, 1) (List.mem_of_getElem? (i := 1) rfl)
theorem d_Ask_leaves_86 : decode prog_2_method_3_code 86 = .ok (.iload_n 1, 1) := id_Ask_leaves_1 (86, .iload_n 1, 1) (List.mem_of_getElem? (i := 2) rfl)
theorem d_Ask_leaves_87 : decode prog_2_method_3_code 87 = .ok (.ireturn, 1) := id_Ask_leaves_1 (87, .ireturn, 1) (List.mem_of_getElem? (i := 3) rfl)
theorem wC_Ask_leaves : Cond.code ⟨"WarpMill$Ask", "leaves", "(I)I"⟩ prog_2_method_3_code 2 (some .int) ∈ lw_tb := mem_tb 650 (by decide +kernel) rfl
def b_Ask_leaves_48 (F : Nat) (x0 : Nat) (h : Hp) : Option (Int32 × Hp) := gd (hK h x0 = 11) <| some ((hI h 646 x0), h)
set_option maxRecDepth 100000 in
set_option maxHeartbeats 4000000 in
theorem e_Ask_leaves_48 {G : Gl} {h0 : Hp} {F : Nat} {r : Int32} {h' : Hp}   {x0 : Nat} {h : Hp} (hf : b_Ask_leaves_48 F x0 h = some (r, h')) : Go G mi_Ask_leaves h0 (pI r h') h 48 [(0, .ref x0)] [] := by
  unfold b_Ask_leaves_48 at hf
  refine g_aload_n d_Ask_leaves_48 rfl ?_
  obtain ⟨k_49, hf⟩ := gd_s hf
  refine fg_Ask_b lf_Ask_49 d_Ask_leaves_49 k_49 ?_
  exact Go.ret (some _) (rOk_i _) rfl d_Ask_leaves_52 (pI_of hf)
def f_Ask_leaves (F : Nat) (x0 : Nat) (x1 : Int32) (h : Hp) : Option (Int32 × Hp) := gd (hK h x0 = 11) <| rq h (hR h 643 x0) 10 fun a_1_2 => if (hI h 576 a_1_2) = 51 then (b_Ask_leaves_48 F x0 h) else if (hI h 576 a_1_2) = 54 then (some ((x1 + (hI h 646 x0)), h)) else if (hI h 576 a_1_2) = 55 then (some ((if x1 < (hI h 646 x0) then (hI h 646 x0) else x1), h)) else if (hI h 576 a_1_2) = 56 then (b_Ask_leaves_48 F x0 h) else if (hI h 576 a_1_2) = 57 then (if x1 = (hI h 647 x0) then (some ((hI h 646 x0), h)) else (some (x1, h))) else (some (x1, h))
set_option maxRecDepth 100000 in
set_option maxHeartbeats 4000000 in
theorem e_Ask_leaves {G : Gl} {F : Nat} {r : Int32} {h' : Hp} {x0 : Nat} {x1 : Int32} {h : Hp} (hf : f_Ask_leaves F x0 x1 h = some (r, h')) : Ex G mi_Ask_leaves [.ref x0, .int x1] h (pI r h') := by
  unfold f_Ask_leaves at hf
  refine Ex.of nmI (by decide) (Nat.le_of_ble_eq_true rfl) ?_
  show Go G mi_Ask_leaves h _ h 0 [(0, .ref x0), (1, .int x1)] []
  refine g_aload_n d_Ask_leaves_0 rfl ?_
  obtain ⟨k_1, hf⟩ := gd_s hf
  obtain ⟨a_1_2, e_1_2, k_1_2, hf⟩ := rq_s hf
  refine fgs_Ask_word lf_Ask_28 d_Ask_leaves_1 k_1 e_1_2 ?_
  refine fg_Word_op lf_Ask_57 d_Ask_leaves_4 k_1_2 ?_
  refine g_sw sw_51_57 (fun hs_7 => ?_)
  rcases hs_7 with hs_7 | hs_7 | hs_7 | hs_7 | hs_7 | hs_7 | hs_7 | hs_7
  · refine g_tableOut 86 d_Ask_leaves_7 hs_7 (by decide) ?_
    have hf := ifn hf (sw_ne hs_7 51 (by decide) (by decide))
    have hf := ifn hf (sw_ne hs_7 54 (by decide) (by decide))
    have hf := ifn hf (sw_ne hs_7 55 (by decide) (by decide))
    have hf := ifn hf (sw_ne hs_7 56 (by decide) (by decide))
    have hf := ifn hf (sw_ne hs_7 57 (by decide) (by decide))
    refine g_iload_n d_Ask_leaves_86 rfl ?_
    exact Go.ret (some _) (rOk_i _) rfl d_Ask_leaves_87 (pI_of hf)
  · refine g_tableIn 48 d_Ask_leaves_7 (by rw [hs_7]; decide) (by rw [hs_7]; decide) (by rw [hs_7]; rfl) (by decide) ?_
    have hf := ifp hf hs_7
    refine Go.locals [0] rfl ?_
    have key := e_Ask_leaves_48 (G := G) (h0 := h)  hf
    exact key
  · refine g_tableIn 86 d_Ask_leaves_7 (by rw [hs_7]; decide) (by rw [hs_7]; decide) (by rw [hs_7]; rfl) (by decide) ?_
    have hf := ifn hf (sw_d hs_7 (by decide))
    have hf := ifn hf (sw_d hs_7 (by decide))
    have hf := ifn hf (sw_d hs_7 (by decide))
    have hf := ifn hf (sw_d hs_7 (by decide))
    have hf := ifn hf (sw_d hs_7 (by decide))
    refine g_iload_n d_Ask_leaves_86 rfl ?_
    exact Go.ret (some _) (rOk_i _) rfl d_Ask_leaves_87 (pI_of hf)
  · refine g_tableIn 86 d_Ask_leaves_7 (by rw [hs_7]; decide) (by rw [hs_7]; decide) (by rw [hs_7]; rfl) (by decide) ?_
    have hf := ifn hf (sw_d hs_7 (by decide))
    have hf := ifn hf (sw_d hs_7 (by decide))
    have hf := ifn hf (sw_d hs_7 (by decide))
    have hf := ifn hf (sw_d hs_7 (by decide))
    have hf := ifn hf (sw_d hs_7 (by decide))
    refine g_iload_n d_Ask_leaves_86 rfl ?_
    exact Go.ret (some _) (rOk_i _) rfl d_Ask_leaves_87 (pI_of hf)
  · refine g_tableIn 53 d_Ask_leaves_7 (by rw [hs_7]; decide) (by rw [hs_7]; decide) (by rw [hs_7]; rfl) (by decide) ?_
    have hf := ifn hf (sw_d hs_7 (by decide))
    have hf := ifp hf hs_7
    refine g_iload_n d_Ask_leaves_53 rfl ?_
    refine g_aload_n d_Ask_leaves_54 rfl ?_
    refine fg_Ask_b lf_Ask_49 d_Ask_leaves_55 k_1 ?_
    refine g_iadd d_Ask_leaves_58 ?_
    exact Go.ret (some _) (rOk_i _) rfl d_Ask_leaves_59 (pI_of hf)
  · refine g_tableIn 60 d_Ask_leaves_7 (by rw [hs_7]; decide) (by rw [hs_7]; decide) (by rw [hs_7]; rfl) (by decide) ?_
    have hf := ifn hf (sw_d hs_7 (by decide))
    have hf := ifn hf (sw_d hs_7 (by decide))
    have hf := ifp hf hs_7
    refine g_iload_n d_Ask_leaves_60 rfl ?_
    refine g_aload_n d_Ask_leaves_61 rfl ?_
    refine fg_Ask_b lf_Ask_49 d_Ask_leaves_62 k_1 ?_
    refine g_mmax lm_Ask_60 wS_Math_max wi_Math wC_Math_max (Nat.le_of_ble_eq_true rfl) (Nat.le_of_ble_eq_true rfl) d_Ask_leaves_65 ?_
    exact Go.ret (some _) (rOk_i _) rfl d_Ask_leaves_68 (pI_of hf)
  · refine g_tableIn 48 d_Ask_leaves_7 (by rw [hs_7]; decide) (by rw [hs_7]; decide) (by rw [hs_7]; rfl) (by decide) ?_
    have hf := ifn hf (sw_d hs_7 (by decide))
    have hf := ifn hf (sw_d hs_7 (by decide))
    have hf := ifn hf (sw_d hs_7 (by decide))
    have hf := ifp hf hs_7
    refine Go.locals [0] rfl ?_
    have key := e_Ask_leaves_48 (G := G) (h0 := h)  hf
    exact key
  · refine g_tableIn 69 d_Ask_leaves_7 (by rw [hs_7]; decide) (by rw [hs_7]; decide) (by rw [hs_7]; rfl) (by decide) ?_
    have hf := ifn hf (sw_d hs_7 (by decide))
    have hf := ifn hf (sw_d hs_7 (by decide))
    have hf := ifn hf (sw_d hs_7 (by decide))
    have hf := ifn hf (sw_d hs_7 (by decide))
    have hf := ifp hf hs_7
    refine g_iload_n d_Ask_leaves_69 rfl ?_
    refine g_aload_n d_Ask_leaves_70 rfl ?_
    refine fg_Ask_d lf_Ask_53 d_Ask_leaves_71 k_1 ?_
    refine g_icmp_ne 84 d_Ask_leaves_74 (by decide) (fun c_74 => ?_) (fun c_74 => ?_)
    · have hf := ifn hf c_74
      refine g_iload_n d_Ask_leaves_84 rfl ?_
      exact Go.ret (some _) (rOk_i _) rfl d_Ask_leaves_85 (pI_of hf)
    · have hf := ifp hf c_74
      refine g_aload_n d_Ask_leaves_77 rfl ?_
      refine fg_Ask_b lf_Ask_49 d_Ask_leaves_78 k_1 ?_
      refine g_goto 85 d_Ask_leaves_81 (by decide) ?_
      exact Go.ret (some _) (rOk_i _) rfl d_Ask_leaves_85 (pI_of hf)
abbrev mi_Warp_put : MI := (⟨"WarpMill$Warp", "put", "(III)V"⟩, prog_10_method_7_code, 4, none, 0, 0)
def it_Warp_put_0 : List (Nat × ClassFile.Instr × Nat) := [(0, .aload_n 0, 1), (1, .getfield 18, 3), (4, .iload_n 1, 1), (5, .bipush (16), 2), (7, .imul, 1), (8, .iload_n 2, 1), (9, .iadd, 1), (10, .iload_n 3, 1), (11, .iastore, 1), (12, .return_, 1)]
theorem id_Warp_put_0 : ∀ q ∈ it_Warp_put_0, decode prog_10_method_7_code q.1 = .ok q.2 := by decide +kernel
theorem d_Warp_put_0 : decode prog_10_method_7_code 0 = .ok (.aload_n 0, 1) := id_Warp_put_0 (0, .aload_n 0, 1) (List.mem_of_getElem? (i := 0) rfl)
theorem d_Warp_put_1 : decode prog_10_method_7_code 1 = .ok (.getfield 18, 3) := id_Warp_put_0 (1, .getfield 18, 3) (List.mem_of_getElem? (i := 1) rfl)
theorem d_Warp_put_4 : decode prog_10_method_7_code 4 = .ok (.iload_n 1, 1) := id_Warp_put_0 (4, .iload_n 1, 1) (List.mem_of_getElem? (i := 2) rfl)
theorem d_Warp_put_5 : decode prog_10_method_7_code 5 = .ok (.bipush (16), 2) := id_Warp_put_0 (5, .bipush (16), 2) (List.mem_of_getElem? (i := 3) rfl)
theorem d_Warp_put_7 : decode prog_10_method_7_code 7 = .ok (.imul, 1) := id_Warp_put_0 (7, .imul, 1) (List.mem_of_getElem? (i := 4) rfl)
theorem d_Warp_put_8 : decode prog_10_method_7_code 8 = .ok (.iload_n 2, 1) := id_Warp_put_0 (8, .iload_n 2, 1) (List.mem_of_getElem? (i := 5) rfl)
theorem d_Warp_put_9 : decode prog_10_method_7_code 9 = .ok (.iadd, 1) := id_Warp_put_0 (9, .iadd, 1) (List.mem_of_getElem? (i := 6) rfl)
theorem d_Warp_put_10 : decode prog_10_method_7_code 10 = .ok (.iload_n 3, 1) := id_Warp_put_0 (10, .iload_n 3, 1) (List.mem_of_getElem? (i := 7) rfl)
theorem d_Warp_put_11 : decode prog_10_method_7_code 11 = .ok (.iastore, 1) := id_Warp_put_0 (11, .iastore, 1) (List.mem_of_getElem? (i := 8) rfl)
theorem d_Warp_put_12 : decode prog_10_method_7_code 12 = .ok (.return_, 1) := id_Warp_put_0 (12, .return_, 1) (List.mem_of_getElem? (i := 9) rfl)
theorem wC_Warp_put : Cond.code ⟨"WarpMill$Warp", "put", "(III)V"⟩ prog_10_method_7_code 4 (none) ∈ lw_tb := mem_tb 661 (by decide +kernel) rfl
def f_Warp_put (F : Nat) (x0 : Nat) (x1 : Int32) (x2 : Int32) (x3 : Int32) (h : Hp) : Option Hp := gd (hK h x0 = 9) <| rq h (hR h 523 x0) 100 fun a_1_2 => ix ((x1 * (16 : Int32)) + x2) (hN h a_1_2) fun j_11 => pw (sA h a_1_2 j_11 x3) fun h_11_2 => some h_11_2
set_option maxRecDepth 100000 in
set_option maxHeartbeats 4000000 in
theorem e_Warp_put {G : Gl} (hw : gF G) {F : Nat} {h' : Hp} {x0 : Nat} {x1 : Int32} {x2 : Int32} {x3 : Int32} {h : Hp} (hf : f_Warp_put F x0 x1 x2 x3 h = some h') : Ex G mi_Warp_put [.ref x0, .int x1, .int x2, .int x3] h (pV h') := by
  unfold f_Warp_put at hf
  refine Ex.of nmV (by decide) (Nat.le_of_ble_eq_true rfl) ?_
  show Go G mi_Warp_put h _ h 0 [(0, .ref x0), (1, .int x1), (2, .int x2), (3, .int x3)] []
  refine g_aload_n d_Warp_put_0 rfl ?_
  obtain ⟨k_1, hf⟩ := gd_s hf
  obtain ⟨a_1_2, e_1_2, k_1_2, hf⟩ := rq_s hf
  refine fgs_Warp_registers lf_Warp_18 d_Warp_put_1 k_1 e_1_2 ?_
  refine g_iload_n d_Warp_put_4 rfl ?_
  refine g_bipush (16) d_Warp_put_5 (by decide) ?_
  refine g_imul d_Warp_put_7 ?_
  refine g_iload_n d_Warp_put_8 rfl ?_
  refine g_iadd d_Warp_put_9 ?_
  refine g_iload_n d_Warp_put_10 rfl ?_
  obtain ⟨i_11, hf⟩ := ix_s hf
  refine g_iast hw k_1_2 i_11 d_Warp_put_11 ?_
  have hf := pw_b hf
  exact Go.ret none trivial rfl d_Warp_put_12 (pV_of hf)
