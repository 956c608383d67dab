abbrev mi_Cache_empty : MI := (⟨"WarpMill$Cache", "empty", "()V"⟩, prog_4_method_2_code, 1, none, 1, 23)
def it_Cache_empty_0 : List (Nat × ClassFile.Instr × Nat) := [(0, .aload_n 0, 1), (1, .getfield 9, 3), (4, .iconst (-1), 1), (5, .invokestatic 18, 3), (8, .return_, 1)]
theorem id_Cache_empty_0 : ∀ q ∈ it_Cache_empty_0, decode prog_4_method_2_code q.1 = .ok q.2 := by decide +kernel
theorem d_Cache_empty_0 : decode prog_4_method_2_code 0 = .ok (.aload_n 0, 1) := id_Cache_empty_0 (0, .aload_n 0, 1) (List.mem_of_getElem? (i := 0) rfl)
theorem d_Cache_empty_1 : decode prog_4_method_2_code 1 = .ok (.getfield 9, 3) := id_Cache_empty_0 (1, .getfield 9, 3) (List.mem_of_getElem? (i := 1) rfl)
theorem d_Cache_empty_4 : decode prog_4_method_2_code 4 = .ok (.iconst (-1), 1) := id_Cache_empty_0 (4, .iconst (-1), 1) (List.mem_of_getElem? (i := 2) rfl)
theorem d_Cache_empty_5 : decode prog_4_method_2_code 5 = .ok (.invokestatic 18, 3) := id_Cache_empty_0 (5, .invokestatic 18, 3) (List.mem_of_getElem? (i := 3) rfl)
theorem d_Cache_empty_8 : decode prog_4_method_2_code 8 = .ok (.return_, 1) := id_Cache_empty_0 (8, .return_, 1) (List.mem_of_getElem? (i := 4) rfl)
theorem wC_Cache_empty : Cond.code ⟨"WarpMill$Cache", "empty", "()V"⟩ prog_4_method_2_code 1 (none) ∈ lw_tb := mem_tb 436 (by decide +kernel) rfl
theorem cw_Cache_empty_Arrays_fill : cW mi_Cache_empty mi_Arrays_fill 2 := ⟨wC_Arrays_fill, wi_Arrays, ⟨by decide, by decide, by decide +kernel⟩, by decide, by decide⟩
set_option maxRecDepth 100000 in
set_option maxHeartbeats 4000000 in
theorem sp_Cache_empty {G : Gl} {h : Hp} (x l : Nat) (hx : hK h x = 4) (hl : hR h 192 x = some l) (kl : hK h l = 100) (nl : hN h l < 2 ^ 31) : Ex G mi_Cache_empty [.ref x] h (fun r h' => r = none ∧ h' = fillA h l (hN h l) (-1)) := by
  refine Ex.of (by decide) (Nat.le_of_ble_eq_true rfl) ?_
  show Go G mi_Cache_empty h _ h 0 [(0, .ref x)] []
  first | refine g_aload_n d_Cache_empty_0 rfl ?_ | refine g_aload_nq d_Cache_empty_0 rfl ?_
  first | refine fgs_Cache_lines lf_Cache_9 d_Cache_empty_1 (by first | (simp only [hK_sI, hK_sR, hK_sA, hK_sQ, hK_sL, hK_fillA]; assumption) | assumption) (by first | (simp only [hR_sI, hR_sA, hR_sQ, hR_sL, hR_fillA]; assumption) | assumption) ?_ | refine fg_Cache_lines lf_Cache_9 d_Cache_empty_1 (by first | (simp only [hK_sI, hK_sR, hK_sA, hK_sQ, hK_sL, hK_fillA]; assumption) | assumption) ?_
  refine g_iconst (-1) d_Cache_empty_4 (by decide) ?_
  refine g_callS (mz := mi_Arrays_fill) (sp_Arrays_fill l (-1) kl nl) cw_Cache_empty_Arrays_fill lm_Cache_18 wS_Arrays_fill d_Cache_empty_5 rfl rfl (Nat.le_of_ble_eq_true rfl) (fun r_5 h_5 hp_5 hro_5 => ?_)
  obtain ⟨rfl, rfl⟩ := hp_5
  clear hro_5
  dsimp only [Option.toList_some, Option.toList_none, List.cons_append, List.nil_append]
  refine Go.ret none trivial rfl d_Cache_empty_8 ?_
  exact ⟨rfl, rfl⟩
abbrev mi_Cache_begin : MI := (⟨"WarpMill$Cache", "begin", "()V"⟩, prog_4_method_3_code, 1, none, 1, 23)
def it_Cache_begin_0 : List (Nat × ClassFile.Instr × Nat) := [(0, .aload_n 0, 1), (1, .getfield 15, 3), (4, .iconst 0, 1), (5, .invokestatic 18, 3), (8, .aload_n 0, 1), (9, .iconst 0, 1), (10, .putfield 24, 3), (13, .aload_n 0, 1), (14, .iconst 0, 1), (15, .putfield 28, 3), (18, .return_, 1)]
theorem id_Cache_begin_0 : ∀ q ∈ it_Cache_begin_0, decode prog_4_method_3_code q.1 = .ok q.2 := by decide +kernel
theorem d_Cache_begin_0 : decode prog_4_method_3_code 0 = .ok (.aload_n 0, 1) := id_Cache_begin_0 (0, .aload_n 0, 1) (List.mem_of_getElem? (i := 0) rfl)
theorem d_Cache_begin_1 : decode prog_4_method_3_code 1 = .ok (.getfield 15, 3) := id_Cache_begin_0 (1, .getfield 15, 3) (List.mem_of_getElem? (i := 1) rfl)
theorem d_Cache_begin_4 : decode prog_4_method_3_code 4 = .ok (.iconst 0, 1) := id_Cache_begin_0 (4, .iconst 0, 1) (List.mem_of_getElem? (i := 2) rfl)
theorem d_Cache_begin_5 : decode prog_4_method_3_code 5 = .ok (.invokestatic 18, 3) := id_Cache_begin_0 (5, .invokestatic 18, 3) (List.mem_of_getElem? (i := 3) rfl)
theorem d_Cache_begin_8 : decode prog_4_method_3_code 8 = .ok (.aload_n 0, 1) := id_Cache_begin_0 (8, .aload_n 0, 1) (List.mem_of_getElem? (i := 4) rfl)
theorem d_Cache_begin_9 : decode prog_4_method_3_code 9 = .ok (.iconst 0, 1) := id_Cache_begin_0 (9, .iconst 0, 1) (List.mem_of_getElem? (i := 5) rfl)
theorem d_Cache_begin_10 : decode prog_4_method_3_code 10 = .ok (.putfield 24, 3) := id_Cache_begin_0 (10, .putfield 24, 3) (List.mem_of_getElem? (i := 6) rfl)
theorem d_Cache_begin_13 : decode prog_4_method_3_code 13 = .ok (.aload_n 0, 1) := id_Cache_begin_0 (13, .aload_n 0, 1) (List.mem_of_getElem? (i := 7) rfl)
theorem d_Cache_begin_14 : decode prog_4_method_3_code 14 = .ok (.iconst 0, 1) := id_Cache_begin_0 (14, .iconst 0, 1) (List.mem_of_getElem? (i := 8) rfl)
theorem d_Cache_begin_15 : decode prog_4_method_3_code 15 = .ok (.putfield 28, 3) := id_Cache_begin_0 (15, .putfield 28, 3) (List.mem_of_getElem? (i := 9) rfl)
theorem d_Cache_begin_18 : decode prog_4_method_3_code 18 = .ok (.return_, 1) := id_Cache_begin_0 (18, .return_, 1) (List.mem_of_getElem? (i := 10) rfl)
theorem wC_Cache_begin : Cond.code ⟨"WarpMill$Cache", "begin", "()V"⟩ prog_4_method_3_code 1 (none) ∈ lw_tb := mem_tb 464 (by decide +kernel) rfl
theorem cw_Cache_begin_Arrays_fill : cW mi_Cache_begin mi_Arrays_fill 2 := ⟨wC_Arrays_fill, wi_Arrays, ⟨by decide, by decide, by decide +kernel⟩, by decide, by decide⟩
set_option maxRecDepth 100000 in
set_option maxHeartbeats 4000000 in
theorem sp_Cache_begin {G : Gl} {h : Hp} (x t : Nat) (hx : hK h x = 4) (ht : hR h 193 x = some t) (kt : hK h t = 100) (nt : hN h t < 2 ^ 31) : Ex G mi_Cache_begin [.ref x] h (fun r h' => r = none ∧ h' = sI (sI (fillA h t (hN h t) 0) 194 x 0) 195 x 0) := by
  refine Ex.of (by decide) (Nat.le_of_ble_eq_true rfl) ?_
  show Go G mi_Cache_begin h _ h 0 [(0, .ref x)] []
  first | refine g_aload_n d_Cache_begin_0 rfl ?_ | refine g_aload_nq d_Cache_begin_0 rfl ?_
  first | refine fgs_Cache_ticks lf_Cache_15 d_Cache_begin_1 (by first | (simp only [hK_sI, hK_sR, hK_sA, hK_sQ, hK_sL, hK_fillA]; assumption) | assumption) (by first | (simp only [hR_sI, hR_sA, hR_sQ, hR_sL, hR_fillA]; assumption) | assumption) ?_ | refine fg_Cache_ticks lf_Cache_15 d_Cache_begin_1 (by first | (simp only [hK_sI, hK_sR, hK_sA, hK_sQ, hK_sL, hK_fillA]; assumption) | assumption) ?_
  refine g_iconst 0 d_Cache_begin_4 (by decide) ?_
  refine g_callS (mz := mi_Arrays_fill) (sp_Arrays_fill t 0 kt nt) cw_Cache_begin_Arrays_fill lm_Cache_18 wS_Arrays_fill d_Cache_begin_5 rfl rfl (Nat.le_of_ble_eq_true rfl) (fun r_5 h_5 hp_5 hro_5 => ?_)
  obtain ⟨rfl, rfl⟩ := hp_5
  clear hro_5
  dsimp only [Option.toList_some, Option.toList_none, List.cons_append, List.nil_append]
  first | refine g_aload_n d_Cache_begin_8 rfl ?_ | refine g_aload_nq d_Cache_begin_8 rfl ?_
  refine g_iconst 0 d_Cache_begin_9 (by decide) ?_
  refine fp_Cache_hits lf_Cache_24 d_Cache_begin_10 (by first | (simp only [hK_sI, hK_sR, hK_sA, hK_sQ, hK_sL, hK_fillA]; assumption) | assumption) ?_
  first | refine g_aload_n d_Cache_begin_13 rfl ?_ | refine g_aload_nq d_Cache_begin_13 rfl ?_
  refine g_iconst 0 d_Cache_begin_14 (by decide) ?_
  refine fp_Cache_misses lf_Cache_28 d_Cache_begin_15 (by first | (simp only [hK_sI, hK_sR, hK_sA, hK_sQ, hK_sL, hK_fillA]; assumption) | assumption) ?_
  refine Go.ret none trivial rfl d_Cache_begin_18 ?_
  exact ⟨rfl, rfl⟩
abbrev mi_Memory_has : MI := (⟨"WarpMill$Memory", "has", "(I)Z"⟩, prog_5_method_2_code, 2, some .boolean, 0, 0)
def it_Memory_has_0 : List (Nat × ClassFile.Instr × Nat) := [(0, .iload_n 1, 1), (1, .ifCond .lt (24), 3), (4, .iload_n 1, 1), (5, .aload_n 0, 1), (6, .getfield 29, 3), (9, .if_icmp .ge (16), 3), (12, .iload_n 1, 1), (13, .aload_n 0, 1), (14, .getfield 9, 3), (17, .arraylength, 1), (18, .if_icmp .ge (7), 3), (21, .iconst 1, 1), (22, .goto (4), 3), (25, .iconst 0, 1), (26, .ireturn, 1)]
theorem id_Memory_has_0 : ∀ q ∈ it_Memory_has_0, decode prog_5_method_2_code q.1 = .ok q.2 := by decide +kernel
theorem d_Memory_has_0 : decode prog_5_method_2_code 0 = .ok (.iload_n 1, 1) := id_Memory_has_0 (0, .iload_n 1, 1) (List.mem_of_getElem? (i := 0) rfl)
theorem d_Memory_has_1 : decode prog_5_method_2_code 1 = .ok (.ifCond .lt (24), 3) := id_Memory_has_0 (1, .ifCond .lt (24), 3) (List.mem_of_getElem? (i := 1) rfl)
theorem d_Memory_has_4 : decode prog_5_method_2_code 4 = .ok (.iload_n 1, 1) := id_Memory_has_0 (4, .iload_n 1, 1) (List.mem_of_getElem? (i := 2) rfl)
theorem d_Memory_has_5 : decode prog_5_method_2_code 5 = .ok (.aload_n 0, 1) := id_Memory_has_0 (5, .aload_n 0, 1) (List.mem_of_getElem? (i := 3) rfl)
theorem d_Memory_has_6 : decode prog_5_method_2_code 6 = .ok (.getfield 29, 3) := id_Memory_has_0 (6, .getfield 29, 3) (List.mem_of_getElem? (i := 4) rfl)
theorem d_Memory_has_9 : decode prog_5_method_2_code 9 = .ok (.if_icmp .ge (16), 3) := id_Memory_has_0 (9, .if_icmp .ge (16), 3) (List.mem_of_getElem? (i := 5) rfl)
theorem d_Memory_has_12 : decode prog_5_method_2_code 12 = .ok (.iload_n 1, 1) := id_Memory_has_0 (12, .iload_n 1, 1) (List.mem_of_getElem? (i := 6) rfl)
theorem d_Memory_has_13 : decode prog_5_method_2_code 13 = .ok (.aload_n 0, 1) := id_Memory_has_0 (13, .aload_n 0, 1) (List.mem_of_getElem? (i := 7) rfl)
theorem d_Memory_has_14 : decode prog_5_method_2_code 14 = .ok (.getfield 9, 3) := id_Memory_has_0 (14, .getfield 9, 3) (List.mem_of_getElem? (i := 8) rfl)
theorem d_Memory_has_17 : decode prog_5_method_2_code 17 = .ok (.arraylength, 1) := id_Memory_has_0 (17, .arraylength, 1) (List.mem_of_getElem? (i := 9) rfl)
theorem d_Memory_has_18 : decode prog_5_method_2_code 18 = .ok (.if_icmp .ge (7), 3) := id_Memory_has_0 (18, .if_icmp .ge (7), 3) (List.mem_of_getElem? (i := 10) rfl)
theorem d_Memory_has_21 : decode prog_5_method_2_code 21 = .ok (.iconst 1, 1) := id_Memory_has_0 (21, .iconst 1, 1) (List.mem_of_getElem? (i := 11) rfl)
theorem d_Memory_has_22 : decode prog_5_method_2_code 22 = .ok (.goto (4), 3) := id_Memory_has_0 (22, .goto (4), 3) (List.mem_of_getElem? (i := 12) rfl)
theorem d_Memory_has_25 : decode prog_5_method_2_code 25 = .ok (.iconst 0, 1) := id_Memory_has_0 (25, .iconst 0, 1) (List.mem_of_getElem? (i := 13) rfl)
theorem d_Memory_has_26 : decode prog_5_method_2_code 26 = .ok (.ireturn, 1) := id_Memory_has_0 (26, .ireturn, 1) (List.mem_of_getElem? (i := 14) rfl)
theorem wC_Memory_has : Cond.code ⟨"WarpMill$Memory", "has", "(I)Z"⟩ prog_5_method_2_code 2 (some .boolean) ∈ lw_tb := mem_tb 476 (by decide +kernel) rfl
set_option maxRecDepth 100000 in
set_option maxHeartbeats 4000000 in
theorem sp_Memory_has {G : Gl} {h : Hp} (x m : Nat) (k : Int32) (hx : hK h x = 3) (hm : hR h 128 x = some m) (km : hK h m = 100) : Ex G mi_Memory_has [.ref x, .int k] h (fun r h' => r = some (.int (bI (¬ k < 0 ∧ k < hI h 131 x ∧ k < nI (hN h m)))) ∧ h' = h) := by
  refine Ex.of (by decide) (Nat.le_of_ble_eq_true rfl) ?_
  show Go G mi_Memory_has h _ h 0 [(0, .ref x), (1, .int k)] []
  refine g_iload_n d_Memory_has_0 rfl ?_
  refine g_if_lt 25 d_Memory_has_1 (by decide) (fun c_1 => ?_) (fun c_1 => ?_)
  · refine g_iconst 0 d_Memory_has_25 (by decide) ?_
    refine Go.ret (some _) (by first | exact rOk_bI _ | exact rOk_b0 | exact rOk_b1) rfl d_Memory_has_26 ?_
    refine ⟨?_, rfl⟩
    simp_all [bI, -Int32.not_lt, -Int32.not_le, ← Int32.not_lt]
  · refine g_iload_n d_Memory_has_4 rfl ?_
    first | refine g_aload_n d_Memory_has_5 rfl ?_ | refine g_aload_nq d_Memory_has_5 rfl ?_
    refine fg_Memory_size lf_Memory_29 d_Memory_has_6 (by first | (simp only [hK_sI, hK_sR, hK_sA, hK_sQ, hK_sL, hK_fillA]; assumption) | assumption) ?_
    refine g_icmp_ge 25 d_Memory_has_9 (by decide) (fun c_9 => ?_) (fun c_9 => ?_)
    · refine g_iconst 0 d_Memory_has_25 (by decide) ?_
      refine Go.ret (some _) (by first | exact rOk_bI _ | exact rOk_b0 | exact rOk_b1) rfl d_Memory_has_26 ?_
      refine ⟨?_, rfl⟩
      simp_all [bI, -Int32.not_lt, -Int32.not_le, ← Int32.not_lt]
    · refine g_iload_n d_Memory_has_12 rfl ?_
      first | refine g_aload_n d_Memory_has_13 rfl ?_ | refine g_aload_nq d_Memory_has_13 rfl ?_
      first | refine fgs_Memory_ints lf_Memory_9 d_Memory_has_14 (by first | (simp only [hK_sI, hK_sR, hK_sA, hK_sQ, hK_sL, hK_fillA]; assumption) | assumption) (by first | (simp only [hR_sI, hR_sA, hR_sQ, hR_sL, hR_fillA]; assumption) | assumption) ?_ | refine fg_Memory_ints lf_Memory_9 d_Memory_has_14 (by first | (simp only [hK_sI, hK_sR, hK_sA, hK_sQ, hK_sL, hK_fillA]; assumption) | assumption) ?_
      refine g_alen (by first | (simp only [hK_sI, hK_sR, hK_sA, hK_sQ, hK_sL, hK_fillA]; assumption) | assumption) (by decide) rfl d_Memory_has_17 ?_
      refine g_icmp_ge 25 d_Memory_has_18 (by decide) (fun c_18 => ?_) (fun c_18 => ?_)
      · refine g_iconst 0 d_Memory_has_25 (by decide) ?_
        refine Go.ret (some _) (by first | exact rOk_bI _ | exact rOk_b0 | exact rOk_b1) rfl d_Memory_has_26 ?_
        refine ⟨?_, rfl⟩
        simp_all [bI, -Int32.not_lt, -Int32.not_le, ← Int32.not_lt]
      · refine g_iconst 1 d_Memory_has_21 (by decide) ?_
        refine g_goto 26 d_Memory_has_22 (by decide) ?_
        refine Go.ret (some _) (by first | exact rOk_bI _ | exact rOk_b0 | exact rOk_b1) rfl d_Memory_has_26 ?_
        refine ⟨?_, rfl⟩
        simp_all [bI, -Int32.not_lt, -Int32.not_le, ← Int32.not_lt]
abbrev mi_WM_isUnit : MI := (⟨"WarpMill", "isUnit", "(I)Z"⟩, prog_1_method_15_code, 2, some .boolean, 0, 0)
def it_WM_isUnit_0 : List (Nat × ClassFile.Instr × Nat) := [(0, .iload_n 1, 1), (1, .ifCond .lt (18), 3), (4, .iload_n 1, 1), (5, .aload_n 0, 1), (6, .getfield 10, 3), (9, .getfield 180, 3), (12, .if_icmp .ge (7), 3), (15, .iconst 1, 1), (16, .goto (4), 3), (19, .iconst 0, 1), (20, .ireturn, 1)]
theorem id_WM_isUnit_0 : ∀ q ∈ it_WM_isUnit_0, decode prog_1_method_15_code q.1 = .ok q.2 := by decide +kernel
theorem d_WM_isUnit_0 : decode prog_1_method_15_code 0 = .ok (.iload_n 1, 1) := id_WM_isUnit_0 (0, .iload_n 1, 1) (List.mem_of_getElem? (i := 0) rfl)
theorem d_WM_isUnit_1 : decode prog_1_method_15_code 1 = .ok (.ifCond .lt (18), 3) := id_WM_isUnit_0 (1, .ifCond .lt (18), 3) (List.mem_of_getElem? (i := 1) rfl)
theorem d_WM_isUnit_4 : decode prog_1_method_15_code 4 = .ok (.iload_n 1, 1) := id_WM_isUnit_0 (4, .iload_n 1, 1) (List.mem_of_getElem? (i := 2) rfl)
theorem d_WM_isUnit_5 : decode prog_1_method_15_code 5 = .ok (.aload_n 0, 1) := id_WM_isUnit_0 (5, .aload_n 0, 1) (List.mem_of_getElem? (i := 3) rfl)
theorem d_WM_isUnit_6 : decode prog_1_method_15_code 6 = .ok (.getfield 10, 3) := id_WM_isUnit_0 (6, .getfield 10, 3) (List.mem_of_getElem? (i := 4) rfl)
theorem d_WM_isUnit_9 : decode prog_1_method_15_code 9 = .ok (.getfield 180, 3) := id_WM_isUnit_0 (9, .getfield 180, 3) (List.mem_of_getElem? (i := 5) rfl)
theorem d_WM_isUnit_12 : decode prog_1_method_15_code 12 = .ok (.if_icmp .ge (7), 3) := id_WM_isUnit_0 (12, .if_icmp .ge (7), 3) (List.mem_of_getElem? (i := 6) rfl)
theorem d_WM_isUnit_15 : decode prog_1_method_15_code 15 = .ok (.iconst 1, 1) := id_WM_isUnit_0 (15, .iconst 1, 1) (List.mem_of_getElem? (i := 7) rfl)
theorem d_WM_isUnit_16 : decode prog_1_method_15_code 16 = .ok (.goto (4), 3) := id_WM_isUnit_0 (16, .goto (4), 3) (List.mem_of_getElem? (i := 8) rfl)
theorem d_WM_isUnit_19 : decode prog_1_method_15_code 19 = .ok (.iconst 0, 1) := id_WM_isUnit_0 (19, .iconst 0, 1) (List.mem_of_getElem? (i := 9) rfl)
theorem d_WM_isUnit_20 : decode prog_1_method_15_code 20 = .ok (.ireturn, 1) := id_WM_isUnit_0 (20, .ireturn, 1) (List.mem_of_getElem? (i := 10) rfl)
theorem wC_WM_isUnit : Cond.code ⟨"WarpMill", "isUnit", "(I)Z"⟩ prog_1_method_15_code 2 (some .boolean) ∈ lw_tb := mem_tb 508 (by decide +kernel) rfl
set_option maxRecDepth 100000 in
set_option maxHeartbeats 4000000 in
theorem sp_WM_isUnit {G : Gl} {h : Hp} (x z : Nat) (u : Int32) (hx : hK h x = 1) (hz : hR h 0 x = some z) (kz : hK h z = 2) : Ex G mi_WM_isUnit [.ref x, .int u] h (fun r h' => r = some (.int (bI (¬ u < 0 ∧ u < hI h 66 z))) ∧ h' = h) := by
  refine Ex.of (by decide) (Nat.le_of_ble_eq_true rfl) ?_
  show Go G mi_WM_isUnit h _ h 0 [(0, .ref x), (1, .int u)] []
  refine g_iload_n d_WM_isUnit_0 rfl ?_
  refine g_if_lt 19 d_WM_isUnit_1 (by decide) (fun c_1 => ?_) (fun c_1 => ?_)
  · refine g_iconst 0 d_WM_isUnit_19 (by decide) ?_
    refine Go.ret (some _) (by first | exact rOk_bI _ | exact rOk_b0 | exact rOk_b1) rfl d_WM_isUnit_20 ?_
    refine ⟨?_, rfl⟩
    simp_all [bI, -Int32.not_lt, -Int32.not_le, ← Int32.not_lt]
  · refine g_iload_n d_WM_isUnit_4 rfl ?_
    first | refine g_aload_n d_WM_isUnit_5 rfl ?_ | refine g_aload_nq d_WM_isUnit_5 rfl ?_
    first | refine fgs_WM_sizes lf_WM_10 d_WM_isUnit_6 (by first | (simp only [hK_sI, hK_sR, hK_sA, hK_sQ, hK_sL, hK_fillA]; assumption) | assumption) (by first | (simp only [hR_sI, hR_sA, hR_sQ, hR_sL, hR_fillA]; assumption) | assumption) ?_ | refine fg_WM_sizes lf_WM_10 d_WM_isUnit_6 (by first | (simp only [hK_sI, hK_sR, hK_sA, hK_sQ, hK_sL, hK_fillA]; assumption) | assumption) ?_
    refine fg_Sizes_units lf_WM_180 d_WM_isUnit_9 (by first | (simp only [hK_sI, hK_sR, hK_sA, hK_sQ, hK_sL, hK_fillA]; assumption) | assumption) ?_
    refine g_icmp_ge 19 d_WM_isUnit_12 (by decide) (fun c_12 => ?_) (fun c_12 => ?_)
    · refine g_iconst 0 d_WM_isUnit_19 (by decide) ?_
      refine Go.ret (some _) (by first | exact rOk_bI _ | exact rOk_b0 | exact rOk_b1) rfl d_WM_isUnit_20 ?_
      refine ⟨?_, rfl⟩
      simp_all [bI, -Int32.not_lt, -Int32.not_le, ← Int32.not_lt]
    · refine g_iconst 1 d_WM_isUnit_15 (by decide) ?_
      refine g_goto 20 d_WM_isUnit_16 (by decide) ?_
      refine Go.ret (some _) (by first | exact rOk_bI _ | exact rOk_b0 | exact rOk_b1) rfl d_WM_isUnit_20 ?_
      refine ⟨?_, rfl⟩
      simp_all [bI, -Int32.not_lt, -Int32.not_le, ← Int32.not_lt]
abbrev szP (v m : Int32) : Prop := 1 ≤ v ∧ v ≤ m ∧ (v &&& (v - 1)) = 0
abbrev szOk (l s u b g i : Int32) : Prop := szP l 32 ∧ (¬ s < 1 ∧ ¬ 16 < s) ∧ (¬ u < 1 ∧ ¬ 8 < u) ∧ szP b 32 ∧ szP g 8 ∧ szP i 4096 ∧ ¬ i < 512
def szSet (h : Hp) (x : Nat) (l s u b g i : Int32) : Hp := sI (sI (sI (sI (sI (sI h 64 x l) 65 x s) 66 x u) 67 x b) 68 x g) 69 x i
theorem bI_e0 {p : Prop} [Decidable p] : bI p = 0 ↔ ¬ p := by unfold bI; split <;> simp_all
abbrev mi_Sizes_become : MI := (⟨"WarpMill$Sizes", "become", "(IIIIII)Z"⟩, prog_7_method_2_code, 7, some .boolean, 1, 21)
def it_Sizes_become_0 : List (Nat × ClassFile.Instr × Nat) := [(0, .iload_n 1, 1), (1, .bipush (32), 2), (3, .invokestatic 30, 3), (6, .ifCond .eq (14), 3), (9, .iload_n 2, 1), (10, .iconst 1, 1), (11, .if_icmp .lt (9), 3), (14, .iload_n 2, 1), (15, .bipush (16), 2), (17, .if_icmp .le (5), 3), (20, .iconst 0, 1), (21, .ireturn, 1), (22, .iload_n 3, 1), (23, .iconst 1, 1), (24, .if_icmp .lt (19), 3), (27, .iload_n 3, 1), (28, .bipush (8), 2), (30, .if_icmp .gt (13), 3), (33, .iload 4, 2), (35, .bipush (32), 2), (37, .invokestatic 30, 3), (40, .ifCond .ne (5), 3), (43, .iconst 0, 1), (44, .ireturn, 1)]
theorem id_Sizes_become_0 : ∀ q ∈ it_Sizes_become_0, decode prog_7_method_2_code q.1 = .ok q.2 := by decide +kernel
theorem d_Sizes_become_0 : decode prog_7_method_2_code 0 = .ok (.iload_n 1, 1) := id_Sizes_become_0 (0, .iload_n 1, 1) (List.mem_of_getElem? (i := 0) rfl)
theorem d_Sizes_become_1 : decode prog_7_method_2_code 1 = .ok (.bipush (32), 2) := id_Sizes_become_0 (1, .bipush (32), 2) (List.mem_of_getElem? (i := 1) rfl)
theorem d_Sizes_become_3 : decode prog_7_method_2_code 3 = .ok (.invokestatic 30, 3) := id_Sizes_become_0 (3, .invokestatic 30, 3) (List.mem_of_getElem? (i := 2) rfl)
theorem d_Sizes_become_6 : decode prog_7_method_2_code 6 = .ok (.ifCond .eq (14), 3) := id_Sizes_become_0 (6, .ifCond .eq (14), 3) (List.mem_of_getElem? (i := 3) rfl)
theorem d_Sizes_become_9 : decode prog_7_method_2_code 9 = .ok (.iload_n 2, 1) := id_Sizes_become_0 (9, .iload_n 2, 1) (List.mem_of_getElem? (i := 4) rfl)
theorem d_Sizes_become_10 : decode prog_7_method_2_code 10 = .ok (.iconst 1, 1) := id_Sizes_become_0 (10, .iconst 1, 1) (List.mem_of_getElem? (i := 5) rfl)
theorem d_Sizes_become_11 : decode prog_7_method_2_code 11 = .ok (.if_icmp .lt (9), 3) := id_Sizes_become_0 (11, .if_icmp .lt (9), 3) (List.mem_of_getElem? (i := 6) rfl)
theorem d_Sizes_become_14 : decode prog_7_method_2_code 14 = .ok (.iload_n 2, 1) := id_Sizes_become_0 (14, .iload_n 2, 1) (List.mem_of_getElem? (i := 7) rfl)
theorem d_Sizes_become_15 : decode prog_7_method_2_code 15 = .ok (.bipush (16), 2) := id_Sizes_become_0 (15, .bipush (16), 2) (List.mem_of_getElem? (i := 8) rfl)
theorem d_Sizes_become_17 : decode prog_7_method_2_code 17 = .ok (.if_icmp .le (5), 3) := id_Sizes_become_0 (17, .if_icmp .le (5), 3) (List.mem_of_getElem? (i := 9) rfl)
theorem d_Sizes_become_20 : decode prog_7_method_2_code 20 = .ok (.iconst 0, 1) := id_Sizes_become_0 (20, .iconst 0, 1) (List.mem_of_getElem? (i := 10) rfl)
theorem d_Sizes_become_21 : decode prog_7_method_2_code 21 = .ok (.ireturn, 1) := id_Sizes_become_0 (21, .ireturn, 1) (List.mem_of_getElem? (i := 11) rfl)
theorem d_Sizes_become_22 : decode prog_7_method_2_code 22 = .ok (.iload_n 3, 1) := id_Sizes_become_0 (22, .iload_n 3, 1) (List.mem_of_getElem? (i := 12) rfl)
theorem d_Sizes_become_23 : decode prog_7_method_2_code 23 = .ok (.iconst 1, 1) := id_Sizes_become_0 (23, .iconst 1, 1) (List.mem_of_getElem? (i := 13) rfl)
theorem d_Sizes_become_24 : decode prog_7_method_2_code 24 = .ok (.if_icmp .lt (19), 3) := id_Sizes_become_0 (24, .if_icmp .lt (19), 3) (List.mem_of_getElem? (i := 14) rfl)
theorem d_Sizes_become_27 : decode prog_7_method_2_code 27 = .ok (.iload_n 3, 1) := id_Sizes_become_0 (27, .iload_n 3, 1) (List.mem_of_getElem? (i := 15) rfl)
theorem d_Sizes_become_28 : decode prog_7_method_2_code 28 = .ok (.bipush (8), 2) := id_Sizes_become_0 (28, .bipush (8), 2) (List.mem_of_getElem? (i := 16) rfl)
theorem d_Sizes_become_30 : decode prog_7_method_2_code 30 = .ok (.if_icmp .gt (13), 3) := id_Sizes_become_0 (30, .if_icmp .gt (13), 3) (List.mem_of_getElem? (i := 17) rfl)
theorem d_Sizes_become_33 : decode prog_7_method_2_code 33 = .ok (.iload 4, 2) := id_Sizes_become_0 (33, .iload 4, 2) (List.mem_of_getElem? (i := 18) rfl)
theorem d_Sizes_become_35 : decode prog_7_method_2_code 35 = .ok (.bipush (32), 2) := id_Sizes_become_0 (35, .bipush (32), 2) (List.mem_of_getElem? (i := 19) rfl)
theorem d_Sizes_become_37 : decode prog_7_method_2_code 37 = .ok (.invokestatic 30, 3) := id_Sizes_become_0 (37, .invokestatic 30, 3) (List.mem_of_getElem? (i := 20) rfl)
theorem d_Sizes_become_40 : decode prog_7_method_2_code 40 = .ok (.ifCond .ne (5), 3) := id_Sizes_become_0 (40, .ifCond .ne (5), 3) (List.mem_of_getElem? (i := 21) rfl)
theorem d_Sizes_become_43 : decode prog_7_method_2_code 43 = .ok (.iconst 0, 1) := id_Sizes_become_0 (43, .iconst 0, 1) (List.mem_of_getElem? (i := 22) rfl)
theorem d_Sizes_become_44 : decode prog_7_method_2_code 44 = .ok (.ireturn, 1) := id_Sizes_become_0 (44, .ireturn, 1) (List.mem_of_getElem? (i := 23) rfl)
def it_Sizes_become_1 : List (Nat × ClassFile.Instr × Nat) := [(45, .iload 5, 2), (47, .bipush (8), 2), (49, .invokestatic 30, 3), (52, .ifCond .eq (22), 3), (55, .iload 6, 2), (57, .sipush (4096), 3), (60, .invokestatic 30, 3), (63, .ifCond .eq (11), 3), (66, .iload 6, 2), (68, .sipush (512), 3), (71, .if_icmp .ge (5), 3), (74, .iconst 0, 1), (75, .ireturn, 1), (76, .aload_n 0, 1), (77, .iload_n 1, 1), (78, .putfield 9, 3), (81, .aload_n 0, 1), (82, .iload_n 2, 1), (83, .putfield 15, 3), (86, .aload_n 0, 1), (87, .iload_n 3, 1), (88, .putfield 18, 3), (91, .aload_n 0, 1), (92, .iload 4, 2)]
theorem id_Sizes_become_1 : ∀ q ∈ it_Sizes_become_1, decode prog_7_method_2_code q.1 = .ok q.2 := by decide +kernel
theorem d_Sizes_become_45 : decode prog_7_method_2_code 45 = .ok (.iload 5, 2) := id_Sizes_become_1 (45, .iload 5, 2) (List.mem_of_getElem? (i := 0) rfl)
theorem d_Sizes_become_47 : decode prog_7_method_2_code 47 = .ok (.bipush (8), 2) := id_Sizes_become_1 (47, .bipush (8), 2) (List.mem_of_getElem? (i := 1) rfl)
theorem d_Sizes_become_49 : decode prog_7_method_2_code 49 = .ok (.invokestatic 30, 3) := id_Sizes_become_1 (49, .invokestatic 30, 3) (List.mem_of_getElem? (i := 2) rfl)
theorem d_Sizes_become_52 : decode prog_7_method_2_code 52 = .ok (.ifCond .eq (22), 3) := id_Sizes_become_1 (52, .ifCond .eq (22), 3) (List.mem_of_getElem? (i := 3) rfl)
theorem d_Sizes_become_55 : decode prog_7_method_2_code 55 = .ok (.iload 6, 2) := id_Sizes_become_1 (55, .iload 6, 2) (List.mem_of_getElem? (i := 4) rfl)
theorem d_Sizes_become_57 : decode prog_7_method_2_code 57 = .ok (.sipush (4096), 3) := id_Sizes_become_1 (57, .sipush (4096), 3) (List.mem_of_getElem? (i := 5) rfl)
theorem d_Sizes_become_60 : decode prog_7_method_2_code 60 = .ok (.invokestatic 30, 3) := id_Sizes_become_1 (60, .invokestatic 30, 3) (List.mem_of_getElem? (i := 6) rfl)
theorem d_Sizes_become_63 : decode prog_7_method_2_code 63 = .ok (.ifCond .eq (11), 3) := id_Sizes_become_1 (63, .ifCond .eq (11), 3) (List.mem_of_getElem? (i := 7) rfl)
theorem d_Sizes_become_66 : decode prog_7_method_2_code 66 = .ok (.iload 6, 2) := id_Sizes_become_1 (66, .iload 6, 2) (List.mem_of_getElem? (i := 8) rfl)
theorem d_Sizes_become_68 : decode prog_7_method_2_code 68 = .ok (.sipush (512), 3) := id_Sizes_become_1 (68, .sipush (512), 3) (List.mem_of_getElem? (i := 9) rfl)
theorem d_Sizes_become_71 : decode prog_7_method_2_code 71 = .ok (.if_icmp .ge (5), 3) := id_Sizes_become_1 (71, .if_icmp .ge (5), 3) (List.mem_of_getElem? (i := 10) rfl)
theorem d_Sizes_become_74 : decode prog_7_method_2_code 74 = .ok (.iconst 0, 1) := id_Sizes_become_1 (74, .iconst 0, 1) (List.mem_of_getElem? (i := 11) rfl)
theorem d_Sizes_become_75 : decode prog_7_method_2_code 75 = .ok (.ireturn, 1) := id_Sizes_become_1 (75, .ireturn, 1) (List.mem_of_getElem? (i := 12) rfl)
theorem d_Sizes_become_76 : decode prog_7_method_2_code 76 = .ok (.aload_n 0, 1) := id_Sizes_become_1 (76, .aload_n 0, 1) (List.mem_of_getElem? (i := 13) rfl)
theorem d_Sizes_become_77 : decode prog_7_method_2_code 77 = .ok (.iload_n 1, 1) := id_Sizes_become_1 (77, .iload_n 1, 1) (List.mem_of_getElem? (i := 14) rfl)
theorem d_Sizes_become_78 : decode prog_7_method_2_code 78 = .ok (.putfield 9, 3) := id_Sizes_become_1 (78, .putfield 9, 3) (List.mem_of_getElem? (i := 15) rfl)
theorem d_Sizes_become_81 : decode prog_7_method_2_code 81 = .ok (.aload_n 0, 1) := id_Sizes_become_1 (81, .aload_n 0, 1) (List.mem_of_getElem? (i := 16) rfl)
theorem d_Sizes_become_82 : decode prog_7_method_2_code 82 = .ok (.iload_n 2, 1) := id_Sizes_become_1 (82, .iload_n 2, 1) (List.mem_of_getElem? (i := 17) rfl)
theorem d_Sizes_become_83 : decode prog_7_method_2_code 83 = .ok (.putfield 15, 3) := id_Sizes_become_1 (83, .putfield 15, 3) (List.mem_of_getElem? (i := 18) rfl)
theorem d_Sizes_become_86 : decode prog_7_method_2_code 86 = .ok (.aload_n 0, 1) := id_Sizes_become_1 (86, .aload_n 0, 1) (List.mem_of_getElem? (i := 19) rfl)
theorem d_Sizes_become_87 : decode prog_7_method_2_code 87 = .ok (.iload_n 3, 1) := id_Sizes_become_1 (87, .iload_n 3, 1) (List.mem_of_getElem? (i := 20) rfl)
theorem d_Sizes_become_88 : decode prog_7_method_2_code 88 = .ok (.putfield 18, 3) := id_Sizes_become_1 (88, .putfield 18, 3) (List.mem_of_getElem? (i := 21) rfl)
theorem d_Sizes_become_91 : decode prog_7_method_2_code 91 = .ok (.aload_n 0, 1) := id_Sizes_become_1 (91, .aload_n 0, 1) (List.mem_of_getElem? (i := 22) rfl)
theorem d_Sizes_become_92 : decode prog_7_method_2_code 92 = .ok (.iload 4, 2) := id_Sizes_become_1 (92, .iload 4, 2) (List.mem_of_getElem? (i := 23) rfl)
def it_Sizes_become_2 : List (Nat × ClassFile.Instr × Nat) := [(94, .putfield 21, 3), (97, .aload_n 0, 1), (98, .iload 5, 2), (100, .putfield 24, 3), (103, .aload_n 0, 1), (104, .iload 6, 2), (106, .putfield 27, 3), (109, .iconst 1, 1), (110, .ireturn, 1)]
theorem id_Sizes_become_2 : ∀ q ∈ it_Sizes_become_2, decode prog_7_method_2_code q.1 = .ok q.2 := by decide +kernel
theorem d_Sizes_become_94 : decode prog_7_method_2_code 94 = .ok (.putfield 21, 3) := id_Sizes_become_2 (94, .putfield 21, 3) (List.mem_of_getElem? (i := 0) rfl)
theorem d_Sizes_become_97 : decode prog_7_method_2_code 97 = .ok (.aload_n 0, 1) := id_Sizes_become_2 (97, .aload_n 0, 1) (List.mem_of_getElem? (i := 1) rfl)
theorem d_Sizes_become_98 : decode prog_7_method_2_code 98 = .ok (.iload 5, 2) := id_Sizes_become_2 (98, .iload 5, 2) (List.mem_of_getElem? (i := 2) rfl)
theorem d_Sizes_become_100 : decode prog_7_method_2_code 100 = .ok (.putfield 24, 3) := id_Sizes_become_2 (100, .putfield 24, 3) (List.mem_of_getElem? (i := 3) rfl)
theorem d_Sizes_become_103 : decode prog_7_method_2_code 103 = .ok (.aload_n 0, 1) := id_Sizes_become_2 (103, .aload_n 0, 1) (List.mem_of_getElem? (i := 4) rfl)
theorem d_Sizes_become_104 : decode prog_7_method_2_code 104 = .ok (.iload 6, 2) := id_Sizes_become_2 (104, .iload 6, 2) (List.mem_of_getElem? (i := 5) rfl)
theorem d_Sizes_become_106 : decode prog_7_method_2_code 106 = .ok (.putfield 27, 3) := id_Sizes_become_2 (106, .putfield 27, 3) (List.mem_of_getElem? (i := 6) rfl)
theorem d_Sizes_become_109 : decode prog_7_method_2_code 109 = .ok (.iconst 1, 1) := id_Sizes_become_2 (109, .iconst 1, 1) (List.mem_of_getElem? (i := 7) rfl)
theorem d_Sizes_become_110 : decode prog_7_method_2_code 110 = .ok (.ireturn, 1) := id_Sizes_become_2 (110, .ireturn, 1) (List.mem_of_getElem? (i := 8) rfl)
theorem wC_Sizes_become : Cond.code ⟨"WarpMill$Sizes", "become", "(IIIIII)Z"⟩ prog_7_method_2_code 7 (some .boolean) ∈ lw_tb := mem_tb 425 (by decide +kernel) rfl
theorem cw_Sizes_become_Sizes_isPower : cW mi_Sizes_become mi_Sizes_isPower 2 := ⟨wC_Sizes_isPower, wi_Sizes, ⟨by decide, by decide, by decide +kernel⟩, by decide, by decide⟩
set_option maxRecDepth 100000 in
set_option maxHeartbeats 4000000 in
theorem sp_Sizes_become {G : Gl} {h : Hp} (x : Nat) (l s u b g i : Int32) (hx : hK h x = 2) : Ex G mi_Sizes_become [.ref x, .int l, .int s, .int u, .int b, .int g, .int i] h (fun r h' => r = some (.int (bI (szOk l s u b g i))) ∧ h' = if szOk l s u b g i then szSet h x l s u b g i else h) := by
  refine Ex.of (by decide) (Nat.le_of_ble_eq_true rfl) ?_
  show Go G mi_Sizes_become h _ h 0 [(0, .ref x), (1, .int l), (2, .int s), (3, .int u), (4, .int b), (5, .int g), (6, .int i)] []
  refine g_iload_n d_Sizes_become_0 rfl ?_
  refine g_bipush (32) d_Sizes_become_1 (by decide) ?_
  refine g_callS (mz := mi_Sizes_isPower) (sp_Sizes_isPower _ _) cw_Sizes_become_Sizes_isPower lm_Sizes_30 wS_Sizes_isPower d_Sizes_become_3 rfl rfl (Nat.le_of_ble_eq_true rfl) (fun r_3 h_3 hp_3 hro_3 => ?_)
  obtain ⟨rfl, rfl⟩ := hp_3
  clear hro_3
  dsimp only [Option.toList_some, Option.toList_none, List.cons_append, List.nil_append]
  refine g_if_eq 20 d_Sizes_become_6 (by decide) (fun c_6 => ?_) (fun c_6 => ?_)
  · refine g_iconst 0 d_Sizes_become_20 (by decide) ?_
    refine Go.ret (some _) (by first | exact rOk_bI _ | exact rOk_b0 | exact rOk_b1) rfl d_Sizes_become_21 ?_
    have no : ¬ szOk l s u b g i := by
      intro q
      simp_all [bI_e0, szOk, szP, -Int32.not_lt, -Int32.not_le, ← Int32.not_lt]
    rw [bI_f no, if_neg no]
    exact ⟨rfl, rfl⟩
  · refine g_iload_n d_Sizes_become_9 rfl ?_
    refine g_iconst 1 d_Sizes_become_10 (by decide) ?_
    refine g_icmp_lt 20 d_Sizes_become_11 (by decide) (fun c_11 => ?_) (fun c_11 => ?_)
    · refine g_iconst 0 d_Sizes_become_20 (by decide) ?_
      refine Go.ret (some _) (by first | exact rOk_bI _ | exact rOk_b0 | exact rOk_b1) rfl d_Sizes_become_21 ?_
      have no : ¬ szOk l s u b g i := by
        intro q
        simp_all [bI_e0, szOk, szP, -Int32.not_lt, -Int32.not_le, ← Int32.not_lt]
      rw [bI_f no, if_neg no]
      exact ⟨rfl, rfl⟩
    · refine g_iload_n d_Sizes_become_14 rfl ?_
      refine g_bipush (16) d_Sizes_become_15 (by decide) ?_
      refine g_icmp_le 22 d_Sizes_become_17 (by decide) (fun c_17 => ?_) (fun c_17 => ?_)
      · refine g_iload_n d_Sizes_become_22 rfl ?_
        refine g_iconst 1 d_Sizes_become_23 (by decide) ?_
        refine g_icmp_lt 43 d_Sizes_become_24 (by decide) (fun c_24 => ?_) (fun c_24 => ?_)
        · refine g_iconst 0 d_Sizes_become_43 (by decide) ?_
          refine Go.ret (some _) (by first | exact rOk_bI _ | exact rOk_b0 | exact rOk_b1) rfl d_Sizes_become_44 ?_
          have no : ¬ szOk l s u b g i := by
            intro q
            simp_all [bI_e0, szOk, szP, -Int32.not_lt, -Int32.not_le, ← Int32.not_lt]
          rw [bI_f no, if_neg no]
          exact ⟨rfl, rfl⟩
        · refine g_iload_n d_Sizes_become_27 rfl ?_
          refine g_bipush (8) d_Sizes_become_28 (by decide) ?_
          refine g_icmp_gt 43 d_Sizes_become_30 (by decide) (fun c_30 => ?_) (fun c_30 => ?_)
          · refine g_iconst 0 d_Sizes_become_43 (by decide) ?_
            refine Go.ret (some _) (by first | exact rOk_bI _ | exact rOk_b0 | exact rOk_b1) rfl d_Sizes_become_44 ?_
            have no : ¬ szOk l s u b g i := by
              intro q
              simp_all [bI_e0, szOk, szP, -Int32.not_lt, -Int32.not_le, ← Int32.not_lt]
            rw [bI_f no, if_neg no]
            exact ⟨rfl, rfl⟩
          · refine g_iload d_Sizes_become_33 rfl ?_
            refine g_bipush (32) d_Sizes_become_35 (by decide) ?_
            refine g_callS (mz := mi_Sizes_isPower) (sp_Sizes_isPower _ _) cw_Sizes_become_Sizes_isPower lm_Sizes_30 wS_Sizes_isPower d_Sizes_become_37 rfl rfl (Nat.le_of_ble_eq_true rfl) (fun r_37 h_37 hp_37 hro_37 => ?_)
            obtain ⟨rfl, rfl⟩ := hp_37
            clear hro_37
            dsimp only [Option.toList_some, Option.toList_none, List.cons_append, List.nil_append]
            refine g_if_ne 45 d_Sizes_become_40 (by decide) (fun c_40 => ?_) (fun c_40 => ?_)
            · refine g_iload d_Sizes_become_45 rfl ?_
              refine g_bipush (8) d_Sizes_become_47 (by decide) ?_
              refine g_callS (mz := mi_Sizes_isPower) (sp_Sizes_isPower _ _) cw_Sizes_become_Sizes_isPower lm_Sizes_30 wS_Sizes_isPower d_Sizes_become_49 rfl rfl (Nat.le_of_ble_eq_true rfl) (fun r_49 h_49 hp_49 hro_49 => ?_)
              obtain ⟨rfl, rfl⟩ := hp_49
              clear hro_49
              dsimp only [Option.toList_some, Option.toList_none, List.cons_append, List.nil_append]
              refine g_if_eq 74 d_Sizes_become_52 (by decide) (fun c_52 => ?_) (fun c_52 => ?_)
              · refine g_iconst 0 d_Sizes_become_74 (by decide) ?_
                refine Go.ret (some _) (by first | exact rOk_bI _ | exact rOk_b0 | exact rOk_b1) rfl d_Sizes_become_75 ?_
                have no : ¬ szOk l s u b g i := by
                  intro q
                  simp_all [bI_e0, szOk, szP, -Int32.not_lt, -Int32.not_le, ← Int32.not_lt]
                rw [bI_f no, if_neg no]
                exact ⟨rfl, rfl⟩
              · refine g_iload d_Sizes_become_55 rfl ?_
                refine g_sipush (4096) d_Sizes_become_57 (by decide) ?_
                refine g_callS (mz := mi_Sizes_isPower) (sp_Sizes_isPower _ _) cw_Sizes_become_Sizes_isPower lm_Sizes_30 wS_Sizes_isPower d_Sizes_become_60 rfl rfl (Nat.le_of_ble_eq_true rfl) (fun r_60 h_60 hp_60 hro_60 => ?_)
                obtain ⟨rfl, rfl⟩ := hp_60
                clear hro_60
                dsimp only [Option.toList_some, Option.toList_none, List.cons_append, List.nil_append]
                refine g_if_eq 74 d_Sizes_become_63 (by decide) (fun c_63 => ?_) (fun c_63 => ?_)
                · refine g_iconst 0 d_Sizes_become_74 (by decide) ?_
                  refine Go.ret (some _) (by first | exact rOk_bI _ | exact rOk_b0 | exact rOk_b1) rfl d_Sizes_become_75 ?_
                  have no : ¬ szOk l s u b g i := by
                    intro q
                    simp_all [bI_e0, szOk, szP, -Int32.not_lt, -Int32.not_le, ← Int32.not_lt]
                  rw [bI_f no, if_neg no]
                  exact ⟨rfl, rfl⟩
                · refine g_iload d_Sizes_become_66 rfl ?_
                  refine g_sipush (512) d_Sizes_become_68 (by decide) ?_
                  refine g_icmp_ge 76 d_Sizes_become_71 (by decide) (fun c_71 => ?_) (fun c_71 => ?_)
                  · first | refine g_aload_n d_Sizes_become_76 rfl ?_ | refine g_aload_nq d_Sizes_become_76 rfl ?_
                    refine g_iload_n d_Sizes_become_77 rfl ?_
                    refine fp_Sizes_lanes lf_Sizes_9 d_Sizes_become_78 (by first | (simp only [hK_sI, hK_sR, hK_sA, hK_sQ, hK_sL, hK_fillA]; assumption) | assumption) ?_
                    first | refine g_aload_n d_Sizes_become_81 rfl ?_ | refine g_aload_nq d_Sizes_become_81 rfl ?_
                    refine g_iload_n d_Sizes_become_82 rfl ?_
                    refine fp_Sizes_slots lf_Sizes_15 d_Sizes_become_83 (by first | (simp only [hK_sI, hK_sR, hK_sA, hK_sQ, hK_sL, hK_fillA]; assumption) | assumption) ?_
                    first | refine g_aload_n d_Sizes_become_86 rfl ?_ | refine g_aload_nq d_Sizes_become_86 rfl ?_
                    refine g_iload_n d_Sizes_become_87 rfl ?_
                    refine fp_Sizes_units lf_Sizes_18 d_Sizes_become_88 (by first | (simp only [hK_sI, hK_sR, hK_sA, hK_sQ, hK_sL, hK_fillA]; assumption) | assumption) ?_
                    first | refine g_aload_n d_Sizes_become_91 rfl ?_ | refine g_aload_nq d_Sizes_become_91 rfl ?_
                    refine g_iload d_Sizes_become_92 rfl ?_
                    refine fp_Sizes_banks lf_Sizes_21 d_Sizes_become_94 (by first | (simp only [hK_sI, hK_sR, hK_sA, hK_sQ, hK_sL, hK_fillA]; assumption) | assumption) ?_
                    first | refine g_aload_n d_Sizes_become_97 rfl ?_ | refine g_aload_nq d_Sizes_become_97 rfl ?_
                    refine g_iload d_Sizes_become_98 rfl ?_
                    refine fp_Sizes_gates lf_Sizes_24 d_Sizes_become_100 (by first | (simp only [hK_sI, hK_sR, hK_sA, hK_sQ, hK_sL, hK_fillA]; assumption) | assumption) ?_
                    first | refine g_aload_n d_Sizes_become_103 rfl ?_ | refine g_aload_nq d_Sizes_become_103 rfl ?_
                    refine g_iload d_Sizes_become_104 rfl ?_
                    refine fp_Sizes_ints lf_Sizes_27 d_Sizes_become_106 (by first | (simp only [hK_sI, hK_sR, hK_sA, hK_sQ, hK_sL, hK_fillA]; assumption) | assumption) ?_
                    refine g_iconst 1 d_Sizes_become_109 (by decide) ?_
                    have ok : szOk l s u b g i := by simp_all [bI_e0, szOk, szP]
                    exact Go.ret (some _) rOk_b1 rfl d_Sizes_become_110 ⟨by rw [bI_t ok], by rw [if_pos ok]; rfl⟩
                  · refine g_iconst 0 d_Sizes_become_74 (by decide) ?_
                    refine Go.ret (some _) (by first | exact rOk_bI _ | exact rOk_b0 | exact rOk_b1) rfl d_Sizes_become_75 ?_
                    have no : ¬ szOk l s u b g i := by
                      intro q
                      simp_all [bI_e0, szOk, szP, -Int32.not_lt, -Int32.not_le, ← Int32.not_lt]
                    rw [bI_f no, if_neg no]
                    exact ⟨rfl, rfl⟩
            · refine g_iconst 0 d_Sizes_become_43 (by decide) ?_
              refine Go.ret (some _) (by first | exact rOk_bI _ | exact rOk_b0 | exact rOk_b1) rfl d_Sizes_become_44 ?_
              have no : ¬ szOk l s u b g i := by
                intro q
                simp_all [bI_e0, szOk, szP, -Int32.not_lt, -Int32.not_le, ← Int32.not_lt]
              rw [bI_f no, if_neg no]
              exact ⟨rfl, rfl⟩
      · refine g_iconst 0 d_Sizes_become_20 (by decide) ?_
        refine Go.ret (some _) (by first | exact rOk_bI _ | exact rOk_b0 | exact rOk_b1) rfl d_Sizes_become_21 ?_
        have no : ¬ szOk l s u b g i := by
          intro q
          simp_all [bI_e0, szOk, szP, -Int32.not_lt, -Int32.not_le, ← Int32.not_lt]
        rw [bI_f no, if_neg no]
        exact ⟨rfl, rfl⟩
