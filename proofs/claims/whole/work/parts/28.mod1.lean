abbrev mi_Mod_reg : MI := (⟨"WarpMillModel", "reg", "(II)I"⟩, prog_13_method_36_code, 3, some .int, 0, 0)
def it_Mod_reg_0 : List (Nat × ClassFile.Instr × Nat) := [(0, .aload_n 0, 1), (1, .getfield 67, 3), (4, .bipush (16), 2), (6, .iload_n 1, 1), (7, .imul, 1), (8, .iload_n 2, 1), (9, .iadd, 1), (10, .iaload, 1), (11, .ireturn, 1)]
theorem id_Mod_reg_0 : ∀ q ∈ it_Mod_reg_0, decode prog_13_method_36_code q.1 = .ok q.2 := by decide +kernel
theorem d_Mod_reg_0 : decode prog_13_method_36_code 0 = .ok (.aload_n 0, 1) := id_Mod_reg_0 (0, .aload_n 0, 1) (List.mem_of_getElem? (i := 0) rfl)
theorem d_Mod_reg_1 : decode prog_13_method_36_code 1 = .ok (.getfield 67, 3) := id_Mod_reg_0 (1, .getfield 67, 3) (List.mem_of_getElem? (i := 1) rfl)
theorem d_Mod_reg_4 : decode prog_13_method_36_code 4 = .ok (.bipush (16), 2) := id_Mod_reg_0 (4, .bipush (16), 2) (List.mem_of_getElem? (i := 2) rfl)
theorem d_Mod_reg_6 : decode prog_13_method_36_code 6 = .ok (.iload_n 1, 1) := id_Mod_reg_0 (6, .iload_n 1, 1) (List.mem_of_getElem? (i := 3) rfl)
theorem d_Mod_reg_7 : decode prog_13_method_36_code 7 = .ok (.imul, 1) := id_Mod_reg_0 (7, .imul, 1) (List.mem_of_getElem? (i := 4) rfl)
theorem d_Mod_reg_8 : decode prog_13_method_36_code 8 = .ok (.iload_n 2, 1) := id_Mod_reg_0 (8, .iload_n 2, 1) (List.mem_of_getElem? (i := 5) rfl)
theorem d_Mod_reg_9 : decode prog_13_method_36_code 9 = .ok (.iadd, 1) := id_Mod_reg_0 (9, .iadd, 1) (List.mem_of_getElem? (i := 6) rfl)
theorem d_Mod_reg_10 : decode prog_13_method_36_code 10 = .ok (.iaload, 1) := id_Mod_reg_0 (10, .iaload, 1) (List.mem_of_getElem? (i := 7) rfl)
theorem d_Mod_reg_11 : decode prog_13_method_36_code 11 = .ok (.ireturn, 1) := id_Mod_reg_0 (11, .ireturn, 1) (List.mem_of_getElem? (i := 8) rfl)
theorem wC_Mod_reg : Cond.code ⟨"WarpMillModel", "reg", "(II)I"⟩ prog_13_method_36_code 3 (some .int) ∈ lw_tb := mem_tb 1402 (by decide +kernel) rfl
set_option maxRecDepth 100000 in
set_option maxHeartbeats 4000000 in
theorem sp_Mod_reg {G : Gl} {h : Hp} (x g : Nat) (t r_ : Int32) (hx : hK h x = 12) (hg : hR h 739 x = some g) (kg : hK h g = 100) (ix : vp_in (16 * t + r_) (hN h g)) : Ex G mi_Mod_reg [.ref x, .int t, .int r_] h (fun r h' => r = some (.int (hA h g (16 * t + r_).toNatClampNeg)) ∧ h' = h) := by
  refine Ex.of (by decide) (Nat.le_of_ble_eq_true rfl) ?_
  show Go G mi_Mod_reg h _ h 0 [(0, .ref x), (1, .int t), (2, .int r_)] []
  first | refine g_aload_n d_Mod_reg_0 rfl ?_ | refine g_aload_nq d_Mod_reg_0 rfl ?_
  first | refine fgs_Mod_register lf_Mod_67 d_Mod_reg_1 (by first | (simp only [hK_sI, hK_sR, hK_sA, hK_sQ, hK_sL, hK_fillA]; assumption) | assumption) (by first | (simp only [hR_sI, hR_sA, hR_sQ, hR_sL, hR_fillA]; assumption) | assumption) ?_ | refine fg_Mod_register lf_Mod_67 d_Mod_reg_1 (by first | (simp only [hK_sI, hK_sR, hK_sA, hK_sQ, hK_sL, hK_fillA]; assumption) | assumption) ?_
  refine g_bipush (16) d_Mod_reg_4 (by decide) ?_
  refine g_iload_n d_Mod_reg_6 rfl ?_
  refine g_imul d_Mod_reg_7 ?_
  refine g_iload_n d_Mod_reg_8 rfl ?_
  refine g_iadd d_Mod_reg_9 ?_
  refine g_iald (by first | (simp only [hK_sI, hK_sR, hK_sA, hK_sQ, hK_sL, hK_fillA]; assumption) | assumption) (by assumption) d_Mod_reg_10 ?_
  refine Go.ret (some _) (rOk_i _) rfl d_Mod_reg_11 ?_
  exact ⟨rfl, rfl⟩
abbrev mi_Mod_isThere : MI := (⟨"WarpMillModel", "isThere", "(II)Z"⟩, prog_13_method_32_code, 3, some .boolean, 0, 0)
def it_Mod_isThere_0 : List (Nat × ClassFile.Instr × Nat) := [(0, .aload_n 0, 1), (1, .getfield 63, 3), (4, .bipush (20), 2), (6, .iload_n 1, 1), (7, .imul, 1), (8, .iload_n 2, 1), (9, .iadd, 1), (10, .iaload, 1), (11, .aload_n 0, 1), (12, .getfield 159, 3), (15, .if_icmp .gt (7), 3), (18, .iconst 1, 1), (19, .goto (4), 3), (22, .iconst 0, 1), (23, .ireturn, 1)]
theorem id_Mod_isThere_0 : ∀ q ∈ it_Mod_isThere_0, decode prog_13_method_32_code q.1 = .ok q.2 := by decide +kernel
theorem d_Mod_isThere_0 : decode prog_13_method_32_code 0 = .ok (.aload_n 0, 1) := id_Mod_isThere_0 (0, .aload_n 0, 1) (List.mem_of_getElem? (i := 0) rfl)
theorem d_Mod_isThere_1 : decode prog_13_method_32_code 1 = .ok (.getfield 63, 3) := id_Mod_isThere_0 (1, .getfield 63, 3) (List.mem_of_getElem? (i := 1) rfl)
theorem d_Mod_isThere_4 : decode prog_13_method_32_code 4 = .ok (.bipush (20), 2) := id_Mod_isThere_0 (4, .bipush (20), 2) (List.mem_of_getElem? (i := 2) rfl)
theorem d_Mod_isThere_6 : decode prog_13_method_32_code 6 = .ok (.iload_n 1, 1) := id_Mod_isThere_0 (6, .iload_n 1, 1) (List.mem_of_getElem? (i := 3) rfl)
theorem d_Mod_isThere_7 : decode prog_13_method_32_code 7 = .ok (.imul, 1) := id_Mod_isThere_0 (7, .imul, 1) (List.mem_of_getElem? (i := 4) rfl)
theorem d_Mod_isThere_8 : decode prog_13_method_32_code 8 = .ok (.iload_n 2, 1) := id_Mod_isThere_0 (8, .iload_n 2, 1) (List.mem_of_getElem? (i := 5) rfl)
theorem d_Mod_isThere_9 : decode prog_13_method_32_code 9 = .ok (.iadd, 1) := id_Mod_isThere_0 (9, .iadd, 1) (List.mem_of_getElem? (i := 6) rfl)
theorem d_Mod_isThere_10 : decode prog_13_method_32_code 10 = .ok (.iaload, 1) := id_Mod_isThere_0 (10, .iaload, 1) (List.mem_of_getElem? (i := 7) rfl)
theorem d_Mod_isThere_11 : decode prog_13_method_32_code 11 = .ok (.aload_n 0, 1) := id_Mod_isThere_0 (11, .aload_n 0, 1) (List.mem_of_getElem? (i := 8) rfl)
theorem d_Mod_isThere_12 : decode prog_13_method_32_code 12 = .ok (.getfield 159, 3) := id_Mod_isThere_0 (12, .getfield 159, 3) (List.mem_of_getElem? (i := 9) rfl)
theorem d_Mod_isThere_15 : decode prog_13_method_32_code 15 = .ok (.if_icmp .gt (7), 3) := id_Mod_isThere_0 (15, .if_icmp .gt (7), 3) (List.mem_of_getElem? (i := 10) rfl)
theorem d_Mod_isThere_18 : decode prog_13_method_32_code 18 = .ok (.iconst 1, 1) := id_Mod_isThere_0 (18, .iconst 1, 1) (List.mem_of_getElem? (i := 11) rfl)
theorem d_Mod_isThere_19 : decode prog_13_method_32_code 19 = .ok (.goto (4), 3) := id_Mod_isThere_0 (19, .goto (4), 3) (List.mem_of_getElem? (i := 12) rfl)
theorem d_Mod_isThere_22 : decode prog_13_method_32_code 22 = .ok (.iconst 0, 1) := id_Mod_isThere_0 (22, .iconst 0, 1) (List.mem_of_getElem? (i := 13) rfl)
theorem d_Mod_isThere_23 : decode prog_13_method_32_code 23 = .ok (.ireturn, 1) := id_Mod_isThere_0 (23, .ireturn, 1) (List.mem_of_getElem? (i := 14) rfl)
theorem wC_Mod_isThere : Cond.code ⟨"WarpMillModel", "isThere", "(II)Z"⟩ prog_13_method_32_code 3 (some .boolean) ∈ lw_tb := mem_tb 1358 (by decide +kernel) rfl
set_option maxRecDepth 100000 in
set_option maxHeartbeats 4000000 in
theorem sp_Mod_isThere {G : Gl} {h : Hp} (x g : Nat) (s r_ : Int32) (hx : hK h x = 12) (hg : hR h 738 x = some g) (kg : hK h g = 100) (ix : vp_in (20 * s + r_) (hN h g)) : Ex G mi_Mod_isThere [.ref x, .int s, .int r_] h (fun r h' => r = some (.int (bI (hA h g (20 * s + r_).toNatClampNeg ≤ hI h 719 x))) ∧ h' = h) := by
  refine Ex.of (by decide) (Nat.le_of_ble_eq_true rfl) ?_
  show Go G mi_Mod_isThere h _ h 0 [(0, .ref x), (1, .int s), (2, .int r_)] []
  first | refine g_aload_n d_Mod_isThere_0 rfl ?_ | refine g_aload_nq d_Mod_isThere_0 rfl ?_
  first | refine fgs_Mod_ticks lf_Mod_63 d_Mod_isThere_1 (by first | (simp only [hK_sI, hK_sR, hK_sA, hK_sQ, hK_sL, hK_fillA]; assumption) | assumption) (by first | (simp only [hR_sI, hR_sA, hR_sQ, hR_sL, hR_fillA]; assumption) | assumption) ?_ | refine fg_Mod_ticks lf_Mod_63 d_Mod_isThere_1 (by first | (simp only [hK_sI, hK_sR, hK_sA, hK_sQ, hK_sL, hK_fillA]; assumption) | assumption) ?_
  refine g_bipush (20) d_Mod_isThere_4 (by decide) ?_
  refine g_iload_n d_Mod_isThere_6 rfl ?_
  refine g_imul d_Mod_isThere_7 ?_
  refine g_iload_n d_Mod_isThere_8 rfl ?_
  refine g_iadd d_Mod_isThere_9 ?_
  refine g_iald (by first | (simp only [hK_sI, hK_sR, hK_sA, hK_sQ, hK_sL, hK_fillA]; assumption) | assumption) (by assumption) d_Mod_isThere_10 ?_
  first | refine g_aload_n d_Mod_isThere_11 rfl ?_ | refine g_aload_nq d_Mod_isThere_11 rfl ?_
  refine fg_Mod_cycle lf_Mod_159 d_Mod_isThere_12 (by first | (simp only [hK_sI, hK_sR, hK_sA, hK_sQ, hK_sL, hK_fillA]; assumption) | assumption) ?_
  refine g_icmp_gt 22 d_Mod_isThere_15 (by decide) (fun c_15 => ?_) (fun c_15 => ?_)
  · refine g_iconst 0 d_Mod_isThere_22 (by decide) ?_
    refine Go.ret (some _) (by first | exact rOk_bI _ | exact rOk_b0 | exact rOk_b1) rfl d_Mod_isThere_23 ?_
    refine ⟨?_, rfl⟩
    simp_all [bI, -Int32.not_lt, -Int32.not_le, ← Int32.not_lt]
  · refine g_iconst 1 d_Mod_isThere_18 (by decide) ?_
    refine g_goto 23 d_Mod_isThere_19 (by decide) ?_
    refine Go.ret (some _) (by first | exact rOk_bI _ | exact rOk_b0 | exact rOk_b1) rfl d_Mod_isThere_23 ?_
    refine ⟨?_, rfl⟩
    simp_all [bI, -Int32.not_lt, -Int32.not_le, ← Int32.not_lt]
abbrev mi_Mod_readsA : MI := (⟨"WarpMillModel", "readsA", "()Z"⟩, prog_13_method_28_code, 1, some .boolean, 1, 20)
def it_Mod_readsA_0 : List (Nat × ClassFile.Instr × Nat) := [(0, .aload_n 0, 1), (1, .getfield 220, 3), (4, .iconst 4, 1), (5, .if_icmp .lt (12), 3), (8, .aload_n 0, 1), (9, .getfield 220, 3), (12, .bipush (21), 2), (14, .if_icmp .le (46), 3), (17, .aload_n 0, 1), (18, .getfield 220, 3), (21, .bipush (30), 2), (23, .if_icmp .lt (12), 3), (26, .aload_n 0, 1), (27, .getfield 220, 3), (30, .bipush (33), 2), (32, .if_icmp .le (28), 3), (35, .aload_n 0, 1), (36, .getfield 220, 3), (39, .bipush (42), 2), (41, .if_icmp .eq (19), 3), (44, .aload_n 0, 1), (45, .invokevirtual 240, 3), (48, .ifCond .ne (12), 3), (51, .aload_n 0, 1)]
theorem id_Mod_readsA_0 : ∀ q ∈ it_Mod_readsA_0, decode prog_13_method_28_code q.1 = .ok q.2 := by decide +kernel
theorem d_Mod_readsA_0 : decode prog_13_method_28_code 0 = .ok (.aload_n 0, 1) := id_Mod_readsA_0 (0, .aload_n 0, 1) (List.mem_of_getElem? (i := 0) rfl)
theorem d_Mod_readsA_1 : decode prog_13_method_28_code 1 = .ok (.getfield 220, 3) := id_Mod_readsA_0 (1, .getfield 220, 3) (List.mem_of_getElem? (i := 1) rfl)
theorem d_Mod_readsA_4 : decode prog_13_method_28_code 4 = .ok (.iconst 4, 1) := id_Mod_readsA_0 (4, .iconst 4, 1) (List.mem_of_getElem? (i := 2) rfl)
theorem d_Mod_readsA_5 : decode prog_13_method_28_code 5 = .ok (.if_icmp .lt (12), 3) := id_Mod_readsA_0 (5, .if_icmp .lt (12), 3) (List.mem_of_getElem? (i := 3) rfl)
theorem d_Mod_readsA_8 : decode prog_13_method_28_code 8 = .ok (.aload_n 0, 1) := id_Mod_readsA_0 (8, .aload_n 0, 1) (List.mem_of_getElem? (i := 4) rfl)
theorem d_Mod_readsA_9 : decode prog_13_method_28_code 9 = .ok (.getfield 220, 3) := id_Mod_readsA_0 (9, .getfield 220, 3) (List.mem_of_getElem? (i := 5) rfl)
theorem d_Mod_readsA_12 : decode prog_13_method_28_code 12 = .ok (.bipush (21), 2) := id_Mod_readsA_0 (12, .bipush (21), 2) (List.mem_of_getElem? (i := 6) rfl)
theorem d_Mod_readsA_14 : decode prog_13_method_28_code 14 = .ok (.if_icmp .le (46), 3) := id_Mod_readsA_0 (14, .if_icmp .le (46), 3) (List.mem_of_getElem? (i := 7) rfl)
theorem d_Mod_readsA_17 : decode prog_13_method_28_code 17 = .ok (.aload_n 0, 1) := id_Mod_readsA_0 (17, .aload_n 0, 1) (List.mem_of_getElem? (i := 8) rfl)
theorem d_Mod_readsA_18 : decode prog_13_method_28_code 18 = .ok (.getfield 220, 3) := id_Mod_readsA_0 (18, .getfield 220, 3) (List.mem_of_getElem? (i := 9) rfl)
theorem d_Mod_readsA_21 : decode prog_13_method_28_code 21 = .ok (.bipush (30), 2) := id_Mod_readsA_0 (21, .bipush (30), 2) (List.mem_of_getElem? (i := 10) rfl)
theorem d_Mod_readsA_23 : decode prog_13_method_28_code 23 = .ok (.if_icmp .lt (12), 3) := id_Mod_readsA_0 (23, .if_icmp .lt (12), 3) (List.mem_of_getElem? (i := 11) rfl)
theorem d_Mod_readsA_26 : decode prog_13_method_28_code 26 = .ok (.aload_n 0, 1) := id_Mod_readsA_0 (26, .aload_n 0, 1) (List.mem_of_getElem? (i := 12) rfl)
theorem d_Mod_readsA_27 : decode prog_13_method_28_code 27 = .ok (.getfield 220, 3) := id_Mod_readsA_0 (27, .getfield 220, 3) (List.mem_of_getElem? (i := 13) rfl)
theorem d_Mod_readsA_30 : decode prog_13_method_28_code 30 = .ok (.bipush (33), 2) := id_Mod_readsA_0 (30, .bipush (33), 2) (List.mem_of_getElem? (i := 14) rfl)
theorem d_Mod_readsA_32 : decode prog_13_method_28_code 32 = .ok (.if_icmp .le (28), 3) := id_Mod_readsA_0 (32, .if_icmp .le (28), 3) (List.mem_of_getElem? (i := 15) rfl)
theorem d_Mod_readsA_35 : decode prog_13_method_28_code 35 = .ok (.aload_n 0, 1) := id_Mod_readsA_0 (35, .aload_n 0, 1) (List.mem_of_getElem? (i := 16) rfl)
theorem d_Mod_readsA_36 : decode prog_13_method_28_code 36 = .ok (.getfield 220, 3) := id_Mod_readsA_0 (36, .getfield 220, 3) (List.mem_of_getElem? (i := 17) rfl)
theorem d_Mod_readsA_39 : decode prog_13_method_28_code 39 = .ok (.bipush (42), 2) := id_Mod_readsA_0 (39, .bipush (42), 2) (List.mem_of_getElem? (i := 18) rfl)
theorem d_Mod_readsA_41 : decode prog_13_method_28_code 41 = .ok (.if_icmp .eq (19), 3) := id_Mod_readsA_0 (41, .if_icmp .eq (19), 3) (List.mem_of_getElem? (i := 19) rfl)
theorem d_Mod_readsA_44 : decode prog_13_method_28_code 44 = .ok (.aload_n 0, 1) := id_Mod_readsA_0 (44, .aload_n 0, 1) (List.mem_of_getElem? (i := 20) rfl)
theorem d_Mod_readsA_45 : decode prog_13_method_28_code 45 = .ok (.invokevirtual 240, 3) := id_Mod_readsA_0 (45, .invokevirtual 240, 3) (List.mem_of_getElem? (i := 21) rfl)
theorem d_Mod_readsA_48 : decode prog_13_method_28_code 48 = .ok (.ifCond .ne (12), 3) := id_Mod_readsA_0 (48, .ifCond .ne (12), 3) (List.mem_of_getElem? (i := 22) rfl)
theorem d_Mod_readsA_51 : decode prog_13_method_28_code 51 = .ok (.aload_n 0, 1) := id_Mod_readsA_0 (51, .aload_n 0, 1) (List.mem_of_getElem? (i := 23) rfl)
def it_Mod_readsA_1 : List (Nat × ClassFile.Instr × Nat) := [(52, .getfield 220, 3), (55, .bipush (73), 2), (57, .if_icmp .ne (7), 3), (60, .iconst 1, 1), (61, .goto (4), 3), (64, .iconst 0, 1), (65, .ireturn, 1)]
theorem id_Mod_readsA_1 : ∀ q ∈ it_Mod_readsA_1, decode prog_13_method_28_code q.1 = .ok q.2 := by decide +kernel
theorem d_Mod_readsA_52 : decode prog_13_method_28_code 52 = .ok (.getfield 220, 3) := id_Mod_readsA_1 (52, .getfield 220, 3) (List.mem_of_getElem? (i := 0) rfl)
theorem d_Mod_readsA_55 : decode prog_13_method_28_code 55 = .ok (.bipush (73), 2) := id_Mod_readsA_1 (55, .bipush (73), 2) (List.mem_of_getElem? (i := 1) rfl)
theorem d_Mod_readsA_57 : decode prog_13_method_28_code 57 = .ok (.if_icmp .ne (7), 3) := id_Mod_readsA_1 (57, .if_icmp .ne (7), 3) (List.mem_of_getElem? (i := 2) rfl)
theorem d_Mod_readsA_60 : decode prog_13_method_28_code 60 = .ok (.iconst 1, 1) := id_Mod_readsA_1 (60, .iconst 1, 1) (List.mem_of_getElem? (i := 3) rfl)
theorem d_Mod_readsA_61 : decode prog_13_method_28_code 61 = .ok (.goto (4), 3) := id_Mod_readsA_1 (61, .goto (4), 3) (List.mem_of_getElem? (i := 4) rfl)
theorem d_Mod_readsA_64 : decode prog_13_method_28_code 64 = .ok (.iconst 0, 1) := id_Mod_readsA_1 (64, .iconst 0, 1) (List.mem_of_getElem? (i := 5) rfl)
theorem d_Mod_readsA_65 : decode prog_13_method_28_code 65 = .ok (.ireturn, 1) := id_Mod_readsA_1 (65, .ireturn, 1) (List.mem_of_getElem? (i := 6) rfl)
theorem wC_Mod_readsA : Cond.code ⟨"WarpMillModel", "readsA", "()Z"⟩ prog_13_method_28_code 1 (some .boolean) ∈ lw_tb := mem_tb 1362 (by decide +kernel) rfl
theorem cw_Mod_readsA_Mod_isMemory : cW mi_Mod_readsA mi_Mod_isMemory 0 := ⟨wC_Mod_isMemory, wi_Mod, ⟨by decide, by decide, by decide +kernel⟩, by decide, by decide⟩
set_option maxRecDepth 100000 in
set_option maxHeartbeats 4000000 in
theorem sp_Mod_readsA {G : Gl} {h : Hp} (x : Nat) (hx : hK h x = 12) : Ex G mi_Mod_readsA [.ref x] h (fun r h' => r = some (.int (bI (kRA (hI h 756 x)))) ∧ h' = h) := by
  refine Ex.of (by decide) (Nat.le_of_ble_eq_true rfl) ?_
  show Go G mi_Mod_readsA h _ h 0 [(0, .ref x)] []
  first | refine g_aload_n d_Mod_readsA_0 rfl ?_ | refine g_aload_nq d_Mod_readsA_0 rfl ?_
  refine fg_Mod_op lf_Mod_220 d_Mod_readsA_1 (by first | (simp only [hK_sI, hK_sR, hK_sA, hK_sQ, hK_sL, hK_fillA]; assumption) | assumption) ?_
  refine g_iconst 4 d_Mod_readsA_4 (by decide) ?_
  refine g_icmp_lt 17 d_Mod_readsA_5 (by decide) (fun c_5 => ?_) (fun c_5 => ?_)
  · first | refine g_aload_n d_Mod_readsA_17 rfl ?_ | refine g_aload_nq d_Mod_readsA_17 rfl ?_
    refine fg_Mod_op lf_Mod_220 d_Mod_readsA_18 (by first | (simp only [hK_sI, hK_sR, hK_sA, hK_sQ, hK_sL, hK_fillA]; assumption) | assumption) ?_
    refine g_bipush (30) d_Mod_readsA_21 (by decide) ?_
    refine g_icmp_lt 35 d_Mod_readsA_23 (by decide) (fun c_23 => ?_) (fun c_23 => ?_)
    · first | refine g_aload_n d_Mod_readsA_35 rfl ?_ | refine g_aload_nq d_Mod_readsA_35 rfl ?_
      refine fg_Mod_op lf_Mod_220 d_Mod_readsA_36 (by first | (simp only [hK_sI, hK_sR, hK_sA, hK_sQ, hK_sL, hK_fillA]; assumption) | assumption) ?_
      refine g_bipush (42) d_Mod_readsA_39 (by decide) ?_
      refine g_icmp_eq 60 d_Mod_readsA_41 (by decide) (fun c_41 => ?_) (fun c_41 => ?_)
      · refine g_iconst 1 d_Mod_readsA_60 (by decide) ?_
        refine g_goto 65 d_Mod_readsA_61 (by decide) ?_
        refine Go.ret (some _) (by first | exact rOk_bI _ | exact rOk_b0 | exact rOk_b1) rfl d_Mod_readsA_65 ?_
        refine ⟨?_, rfl⟩
        simp_all [bI_e0, kRA, bI, -Int32.not_lt, -Int32.not_le, ← Int32.not_lt]
      · first | refine g_aload_n d_Mod_readsA_44 rfl ?_ | refine g_aload_nq d_Mod_readsA_44 rfl ?_
        refine g_callV (mz := mi_Mod_isMemory) (sp_Mod_isMemory x (by assumption)) cw_Mod_readsA_Mod_isMemory lm_Mod_240 wI_Mod_isMemory wV_Mod_isMemory (ci := 11) (by first | (simp only [hK_sI, hK_sR, hK_sA, hK_sQ, hK_sL, hK_fillA]; assumption) | assumption) (by decide) rfl rfl d_Mod_readsA_45 rfl rfl (Nat.le_of_ble_eq_true rfl) (fun r_45 h_45 hp_45 hro_45 => ?_)
        obtain ⟨rfl, rfl⟩ := hp_45
        clear hro_45
        dsimp only [Option.toList_some, Option.toList_none, List.cons_append, List.nil_append]
        refine g_if_ne 60 d_Mod_readsA_48 (by decide) (fun c_48 => ?_) (fun c_48 => ?_)
        · refine g_iconst 1 d_Mod_readsA_60 (by decide) ?_
          refine g_goto 65 d_Mod_readsA_61 (by decide) ?_
          refine Go.ret (some _) (by first | exact rOk_bI _ | exact rOk_b0 | exact rOk_b1) rfl d_Mod_readsA_65 ?_
          refine ⟨?_, rfl⟩
          simp_all [bI_e0, kRA, bI, -Int32.not_lt, -Int32.not_le, ← Int32.not_lt]
        · first | refine g_aload_n d_Mod_readsA_51 rfl ?_ | refine g_aload_nq d_Mod_readsA_51 rfl ?_
          refine fg_Mod_op lf_Mod_220 d_Mod_readsA_52 (by first | (simp only [hK_sI, hK_sR, hK_sA, hK_sQ, hK_sL, hK_fillA]; assumption) | assumption) ?_
          refine g_bipush (73) d_Mod_readsA_55 (by decide) ?_
          refine g_icmp_ne 64 d_Mod_readsA_57 (by decide) (fun c_57 => ?_) (fun c_57 => ?_)
          · refine g_iconst 0 d_Mod_readsA_64 (by decide) ?_
            refine Go.ret (some _) (by first | exact rOk_bI _ | exact rOk_b0 | exact rOk_b1) rfl d_Mod_readsA_65 ?_
            refine ⟨?_, rfl⟩
            simp_all [bI_e0, kRA, bI, -Int32.not_lt, -Int32.not_le, ← Int32.not_lt]
          · refine g_iconst 1 d_Mod_readsA_60 (by decide) ?_
            refine g_goto 65 d_Mod_readsA_61 (by decide) ?_
            refine Go.ret (some _) (by first | exact rOk_bI _ | exact rOk_b0 | exact rOk_b1) rfl d_Mod_readsA_65 ?_
            refine ⟨?_, rfl⟩
            simp_all [bI_e0, kRA, bI, -Int32.not_lt, -Int32.not_le, ← Int32.not_lt]
    · first | refine g_aload_n d_Mod_readsA_26 rfl ?_ | refine g_aload_nq d_Mod_readsA_26 rfl ?_
      refine fg_Mod_op lf_Mod_220 d_Mod_readsA_27 (by first | (simp only [hK_sI, hK_sR, hK_sA, hK_sQ, hK_sL, hK_fillA]; assumption) | assumption) ?_
      refine g_bipush (33) d_Mod_readsA_30 (by decide) ?_
      refine g_icmp_le 60 d_Mod_readsA_32 (by decide) (fun c_32 => ?_) (fun c_32 => ?_)
      · refine g_iconst 1 d_Mod_readsA_60 (by decide) ?_
        refine g_goto 65 d_Mod_readsA_61 (by decide) ?_
        refine Go.ret (some _) (by first | exact rOk_bI _ | exact rOk_b0 | exact rOk_b1) rfl d_Mod_readsA_65 ?_
        refine ⟨?_, rfl⟩
        simp_all [bI_e0, kRA, bI, -Int32.not_lt, -Int32.not_le, ← Int32.not_lt]
      · first | refine g_aload_n d_Mod_readsA_35 rfl ?_ | refine g_aload_nq d_Mod_readsA_35 rfl ?_
        refine fg_Mod_op lf_Mod_220 d_Mod_readsA_36 (by first | (simp only [hK_sI, hK_sR, hK_sA, hK_sQ, hK_sL, hK_fillA]; assumption) | assumption) ?_
        refine g_bipush (42) d_Mod_readsA_39 (by decide) ?_
        refine g_icmp_eq 60 d_Mod_readsA_41 (by decide) (fun c_41 => ?_) (fun c_41 => ?_)
        · refine g_iconst 1 d_Mod_readsA_60 (by decide) ?_
          refine g_goto 65 d_Mod_readsA_61 (by decide) ?_
          refine Go.ret (some _) (by first | exact rOk_bI _ | exact rOk_b0 | exact rOk_b1) rfl d_Mod_readsA_65 ?_
          refine ⟨?_, rfl⟩
          simp_all [bI_e0, kRA, bI, -Int32.not_lt, -Int32.not_le, ← Int32.not_lt]
        · first | refine g_aload_n d_Mod_readsA_44 rfl ?_ | refine g_aload_nq d_Mod_readsA_44 rfl ?_
          refine g_callV (mz := mi_Mod_isMemory) (sp_Mod_isMemory x (by assumption)) cw_Mod_readsA_Mod_isMemory lm_Mod_240 wI_Mod_isMemory wV_Mod_isMemory (ci := 11) (by first | (simp only [hK_sI, hK_sR, hK_sA, hK_sQ, hK_sL, hK_fillA]; assumption) | assumption) (by decide) rfl rfl d_Mod_readsA_45 rfl rfl (Nat.le_of_ble_eq_true rfl) (fun r_45 h_45 hp_45 hro_45 => ?_)
          obtain ⟨rfl, rfl⟩ := hp_45
          clear hro_45
          dsimp only [Option.toList_some, Option.toList_none, List.cons_append, List.nil_append]
          refine g_if_ne 60 d_Mod_readsA_48 (by decide) (fun c_48 => ?_) (fun c_48 => ?_)
          · refine g_iconst 1 d_Mod_readsA_60 (by decide) ?_
            refine g_goto 65 d_Mod_readsA_61 (by decide) ?_
            refine Go.ret (some _) (by first | exact rOk_bI _ | exact rOk_b0 | exact rOk_b1) rfl d_Mod_readsA_65 ?_
            refine ⟨?_, rfl⟩
            simp_all [bI_e0, kRA, bI, -Int32.not_lt, -Int32.not_le, ← Int32.not_lt]
          · first | refine g_aload_n d_Mod_readsA_51 rfl ?_ | refine g_aload_nq d_Mod_readsA_51 rfl ?_
            refine fg_Mod_op lf_Mod_220 d_Mod_readsA_52 (by first | (simp only [hK_sI, hK_sR, hK_sA, hK_sQ, hK_sL, hK_fillA]; assumption) | assumption) ?_
            refine g_bipush (73) d_Mod_readsA_55 (by decide) ?_
            refine g_icmp_ne 64 d_Mod_readsA_57 (by decide) (fun c_57 => ?_) (fun c_57 => ?_)
            · refine g_iconst 0 d_Mod_readsA_64 (by decide) ?_
              refine Go.ret (some _) (by first | exact rOk_bI _ | exact rOk_b0 | exact rOk_b1) rfl d_Mod_readsA_65 ?_
              refine ⟨?_, rfl⟩
              simp_all [bI_e0, kRA, bI, -Int32.not_lt, -Int32.not_le, ← Int32.not_lt]
            · refine g_iconst 1 d_Mod_readsA_60 (by decide) ?_
              refine g_goto 65 d_Mod_readsA_61 (by decide) ?_
              refine Go.ret (some _) (by first | exact rOk_bI _ | exact rOk_b0 | exact rOk_b1) rfl d_Mod_readsA_65 ?_
              refine ⟨?_, rfl⟩
              simp_all [bI_e0, kRA, bI, -Int32.not_lt, -Int32.not_le, ← Int32.not_lt]
  · first | refine g_aload_n d_Mod_readsA_8 rfl ?_ | refine g_aload_nq d_Mod_readsA_8 rfl ?_
    refine fg_Mod_op lf_Mod_220 d_Mod_readsA_9 (by first | (simp only [hK_sI, hK_sR, hK_sA, hK_sQ, hK_sL, hK_fillA]; assumption) | assumption) ?_
    refine g_bipush (21) d_Mod_readsA_12 (by decide) ?_
    refine g_icmp_le 60 d_Mod_readsA_14 (by decide) (fun c_14 => ?_) (fun c_14 => ?_)
    · refine g_iconst 1 d_Mod_readsA_60 (by decide) ?_
      refine g_goto 65 d_Mod_readsA_61 (by decide) ?_
      refine Go.ret (some _) (by first | exact rOk_bI _ | exact rOk_b0 | exact rOk_b1) rfl d_Mod_readsA_65 ?_
      refine ⟨?_, rfl⟩
      simp_all [bI_e0, kRA, bI, -Int32.not_lt, -Int32.not_le, ← Int32.not_lt]
    · first | refine g_aload_n d_Mod_readsA_17 rfl ?_ | refine g_aload_nq d_Mod_readsA_17 rfl ?_
      refine fg_Mod_op lf_Mod_220 d_Mod_readsA_18 (by first | (simp only [hK_sI, hK_sR, hK_sA, hK_sQ, hK_sL, hK_fillA]; assumption) | assumption) ?_
      refine g_bipush (30) d_Mod_readsA_21 (by decide) ?_
      refine g_icmp_lt 35 d_Mod_readsA_23 (by decide) (fun c_23 => ?_) (fun c_23 => ?_)
      · first | refine g_aload_n d_Mod_readsA_35 rfl ?_ | refine g_aload_nq d_Mod_readsA_35 rfl ?_
        refine fg_Mod_op lf_Mod_220 d_Mod_readsA_36 (by first | (simp only [hK_sI, hK_sR, hK_sA, hK_sQ, hK_sL, hK_fillA]; assumption) | assumption) ?_
        refine g_bipush (42) d_Mod_readsA_39 (by decide) ?_
        refine g_icmp_eq 60 d_Mod_readsA_41 (by decide) (fun c_41 => ?_) (fun c_41 => ?_)
        · refine g_iconst 1 d_Mod_readsA_60 (by decide) ?_
          refine g_goto 65 d_Mod_readsA_61 (by decide) ?_
          refine Go.ret (some _) (by first | exact rOk_bI _ | exact rOk_b0 | exact rOk_b1) rfl d_Mod_readsA_65 ?_
          refine ⟨?_, rfl⟩
          simp_all [bI_e0, kRA, bI, -Int32.not_lt, -Int32.not_le, ← Int32.not_lt]
        · first | refine g_aload_n d_Mod_readsA_44 rfl ?_ | refine g_aload_nq d_Mod_readsA_44 rfl ?_
          refine g_callV (mz := mi_Mod_isMemory) (sp_Mod_isMemory x (by assumption)) cw_Mod_readsA_Mod_isMemory lm_Mod_240 wI_Mod_isMemory wV_Mod_isMemory (ci := 11) (by first | (simp only [hK_sI, hK_sR, hK_sA, hK_sQ, hK_sL, hK_fillA]; assumption) | assumption) (by decide) rfl rfl d_Mod_readsA_45 rfl rfl (Nat.le_of_ble_eq_true rfl) (fun r_45 h_45 hp_45 hro_45 => ?_)
          obtain ⟨rfl, rfl⟩ := hp_45
          clear hro_45
          dsimp only [Option.toList_some, Option.toList_none, List.cons_append, List.nil_append]
          refine g_if_ne 60 d_Mod_readsA_48 (by decide) (fun c_48 => ?_) (fun c_48 => ?_)
          · refine g_iconst 1 d_Mod_readsA_60 (by decide) ?_
            refine g_goto 65 d_Mod_readsA_61 (by decide) ?_
            refine Go.ret (some _) (by first | exact rOk_bI _ | exact rOk_b0 | exact rOk_b1) rfl d_Mod_readsA_65 ?_
            refine ⟨?_, rfl⟩
            simp_all [bI_e0, kRA, bI, -Int32.not_lt, -Int32.not_le, ← Int32.not_lt]
          · first | refine g_aload_n d_Mod_readsA_51 rfl ?_ | refine g_aload_nq d_Mod_readsA_51 rfl ?_
            refine fg_Mod_op lf_Mod_220 d_Mod_readsA_52 (by first | (simp only [hK_sI, hK_sR, hK_sA, hK_sQ, hK_sL, hK_fillA]; assumption) | assumption) ?_
            refine g_bipush (73) d_Mod_readsA_55 (by decide) ?_
            refine g_icmp_ne 64 d_Mod_readsA_57 (by decide) (fun c_57 => ?_) (fun c_57 => ?_)
            · refine g_iconst 0 d_Mod_readsA_64 (by decide) ?_
              refine Go.ret (some _) (by first | exact rOk_bI _ | exact rOk_b0 | exact rOk_b1) rfl d_Mod_readsA_65 ?_
              refine ⟨?_, rfl⟩
              simp_all [bI_e0, kRA, bI, -Int32.not_lt, -Int32.not_le, ← Int32.not_lt]
            · refine g_iconst 1 d_Mod_readsA_60 (by decide) ?_
              refine g_goto 65 d_Mod_readsA_61 (by decide) ?_
              refine Go.ret (some _) (by first | exact rOk_bI _ | exact rOk_b0 | exact rOk_b1) rfl d_Mod_readsA_65 ?_
              refine ⟨?_, rfl⟩
              simp_all [bI_e0, kRA, bI, -Int32.not_lt, -Int32.not_le, ← Int32.not_lt]
      · first | refine g_aload_n d_Mod_readsA_26 rfl ?_ | refine g_aload_nq d_Mod_readsA_26 rfl ?_
        refine fg_Mod_op lf_Mod_220 d_Mod_readsA_27 (by first | (simp only [hK_sI, hK_sR, hK_sA, hK_sQ, hK_sL, hK_fillA]; assumption) | assumption) ?_
        refine g_bipush (33) d_Mod_readsA_30 (by decide) ?_
        refine g_icmp_le 60 d_Mod_readsA_32 (by decide) (fun c_32 => ?_) (fun c_32 => ?_)
        · refine g_iconst 1 d_Mod_readsA_60 (by decide) ?_
          refine g_goto 65 d_Mod_readsA_61 (by decide) ?_
          refine Go.ret (some _) (by first | exact rOk_bI _ | exact rOk_b0 | exact rOk_b1) rfl d_Mod_readsA_65 ?_
          refine ⟨?_, rfl⟩
          simp_all [bI_e0, kRA, bI, -Int32.not_lt, -Int32.not_le, ← Int32.not_lt]
        · first | refine g_aload_n d_Mod_readsA_35 rfl ?_ | refine g_aload_nq d_Mod_readsA_35 rfl ?_
          refine fg_Mod_op lf_Mod_220 d_Mod_readsA_36 (by first | (simp only [hK_sI, hK_sR, hK_sA, hK_sQ, hK_sL, hK_fillA]; assumption) | assumption) ?_
          refine g_bipush (42) d_Mod_readsA_39 (by decide) ?_
          refine g_icmp_eq 60 d_Mod_readsA_41 (by decide) (fun c_41 => ?_) (fun c_41 => ?_)
          · refine g_iconst 1 d_Mod_readsA_60 (by decide) ?_
            refine g_goto 65 d_Mod_readsA_61 (by decide) ?_
            refine Go.ret (some _) (by first | exact rOk_bI _ | exact rOk_b0 | exact rOk_b1) rfl d_Mod_readsA_65 ?_
            refine ⟨?_, rfl⟩
            simp_all [bI_e0, kRA, bI, -Int32.not_lt, -Int32.not_le, ← Int32.not_lt]
          · first | refine g_aload_n d_Mod_readsA_44 rfl ?_ | refine g_aload_nq d_Mod_readsA_44 rfl ?_
            refine g_callV (mz := mi_Mod_isMemory) (sp_Mod_isMemory x (by assumption)) cw_Mod_readsA_Mod_isMemory lm_Mod_240 wI_Mod_isMemory wV_Mod_isMemory (ci := 11) (by first | (simp only [hK_sI, hK_sR, hK_sA, hK_sQ, hK_sL, hK_fillA]; assumption) | assumption) (by decide) rfl rfl d_Mod_readsA_45 rfl rfl (Nat.le_of_ble_eq_true rfl) (fun r_45 h_45 hp_45 hro_45 => ?_)
            obtain ⟨rfl, rfl⟩ := hp_45
            clear hro_45
            dsimp only [Option.toList_some, Option.toList_none, List.cons_append, List.nil_append]
            refine g_if_ne 60 d_Mod_readsA_48 (by decide) (fun c_48 => ?_) (fun c_48 => ?_)
            · refine g_iconst 1 d_Mod_readsA_60 (by decide) ?_
              refine g_goto 65 d_Mod_readsA_61 (by decide) ?_
              refine Go.ret (some _) (by first | exact rOk_bI _ | exact rOk_b0 | exact rOk_b1) rfl d_Mod_readsA_65 ?_
              refine ⟨?_, rfl⟩
              simp_all [bI_e0, kRA, bI, -Int32.not_lt, -Int32.not_le, ← Int32.not_lt]
            · first | refine g_aload_n d_Mod_readsA_51 rfl ?_ | refine g_aload_nq d_Mod_readsA_51 rfl ?_
              refine fg_Mod_op lf_Mod_220 d_Mod_readsA_52 (by first | (simp only [hK_sI, hK_sR, hK_sA, hK_sQ, hK_sL, hK_fillA]; assumption) | assumption) ?_
              refine g_bipush (73) d_Mod_readsA_55 (by decide) ?_
              refine g_icmp_ne 64 d_Mod_readsA_57 (by decide) (fun c_57 => ?_) (fun c_57 => ?_)
              · refine g_iconst 0 d_Mod_readsA_64 (by decide) ?_
                refine Go.ret (some _) (by first | exact rOk_bI _ | exact rOk_b0 | exact rOk_b1) rfl d_Mod_readsA_65 ?_
                refine ⟨?_, rfl⟩
                simp_all [bI_e0, kRA, bI, -Int32.not_lt, -Int32.not_le, ← Int32.not_lt]
              · refine g_iconst 1 d_Mod_readsA_60 (by decide) ?_
                refine g_goto 65 d_Mod_readsA_61 (by decide) ?_
                refine Go.ret (some _) (by first | exact rOk_bI _ | exact rOk_b0 | exact rOk_b1) rfl d_Mod_readsA_65 ?_
                refine ⟨?_, rfl⟩
                simp_all [bI_e0, kRA, bI, -Int32.not_lt, -Int32.not_le, ← Int32.not_lt]
