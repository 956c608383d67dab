abbrev mi_Sizes_isPower : MI := (⟨"WarpMill$Sizes", "isPower", "(II)Z"⟩, prog_7_method_3_code, 2, some .boolean, 0, 0)
def it_Sizes_isPower_0 : List (Nat × ClassFile.Instr × Nat) := [(0, .iload_n 0, 1), (1, .iconst 1, 1), (2, .if_icmp .lt (20), 3), (5, .iload_n 0, 1), (6, .iload_n 1, 1), (7, .if_icmp .gt (15), 3), (10, .iload_n 0, 1), (11, .iload_n 0, 1), (12, .iconst 1, 1), (13, .isub, 1), (14, .iand, 1), (15, .ifCond .ne (7), 3), (18, .iconst 1, 1), (19, .goto (4), 3), (22, .iconst 0, 1), (23, .ireturn, 1)]
theorem id_Sizes_isPower_0 : ∀ q ∈ it_Sizes_isPower_0, decode prog_7_method_3_code q.1 = .ok q.2 := by decide +kernel
theorem d_Sizes_isPower_0 : decode prog_7_method_3_code 0 = .ok (.iload_n 0, 1) := id_Sizes_isPower_0 (0, .iload_n 0, 1) (List.mem_of_getElem? (i := 0) rfl)
theorem d_Sizes_isPower_1 : decode prog_7_method_3_code 1 = .ok (.iconst 1, 1) := id_Sizes_isPower_0 (1, .iconst 1, 1) (List.mem_of_getElem? (i := 1) rfl)
theorem d_Sizes_isPower_2 : decode prog_7_method_3_code 2 = .ok (.if_icmp .lt (20), 3) := id_Sizes_isPower_0 (2, .if_icmp .lt (20), 3) (List.mem_of_getElem? (i := 2) rfl)
theorem d_Sizes_isPower_5 : decode prog_7_method_3_code 5 = .ok (.iload_n 0, 1) := id_Sizes_isPower_0 (5, .iload_n 0, 1) (List.mem_of_getElem? (i := 3) rfl)
theorem d_Sizes_isPower_6 : decode prog_7_method_3_code 6 = .ok (.iload_n 1, 1) := id_Sizes_isPower_0 (6, .iload_n 1, 1) (List.mem_of_getElem? (i := 4) rfl)
theorem d_Sizes_isPower_7 : decode prog_7_method_3_code 7 = .ok (.if_icmp .gt (15), 3) := id_Sizes_isPower_0 (7, .if_icmp .gt (15), 3) (List.mem_of_getElem? (i := 5) rfl)
theorem d_Sizes_isPower_10 : decode prog_7_method_3_code 10 = .ok (.iload_n 0, 1) := id_Sizes_isPower_0 (10, .iload_n 0, 1) (List.mem_of_getElem? (i := 6) rfl)
theorem d_Sizes_isPower_11 : decode prog_7_method_3_code 11 = .ok (.iload_n 0, 1) := id_Sizes_isPower_0 (11, .iload_n 0, 1) (List.mem_of_getElem? (i := 7) rfl)
theorem d_Sizes_isPower_12 : decode prog_7_method_3_code 12 = .ok (.iconst 1, 1) := id_Sizes_isPower_0 (12, .iconst 1, 1) (List.mem_of_getElem? (i := 8) rfl)
theorem d_Sizes_isPower_13 : decode prog_7_method_3_code 13 = .ok (.isub, 1) := id_Sizes_isPower_0 (13, .isub, 1) (List.mem_of_getElem? (i := 9) rfl)
theorem d_Sizes_isPower_14 : decode prog_7_method_3_code 14 = .ok (.iand, 1) := id_Sizes_isPower_0 (14, .iand, 1) (List.mem_of_getElem? (i := 10) rfl)
theorem d_Sizes_isPower_15 : decode prog_7_method_3_code 15 = .ok (.ifCond .ne (7), 3) := id_Sizes_isPower_0 (15, .ifCond .ne (7), 3) (List.mem_of_getElem? (i := 11) rfl)
theorem d_Sizes_isPower_18 : decode prog_7_method_3_code 18 = .ok (.iconst 1, 1) := id_Sizes_isPower_0 (18, .iconst 1, 1) (List.mem_of_getElem? (i := 12) rfl)
theorem d_Sizes_isPower_19 : decode prog_7_method_3_code 19 = .ok (.goto (4), 3) := id_Sizes_isPower_0 (19, .goto (4), 3) (List.mem_of_getElem? (i := 13) rfl)
theorem d_Sizes_isPower_22 : decode prog_7_method_3_code 22 = .ok (.iconst 0, 1) := id_Sizes_isPower_0 (22, .iconst 0, 1) (List.mem_of_getElem? (i := 14) rfl)
theorem d_Sizes_isPower_23 : decode prog_7_method_3_code 23 = .ok (.ireturn, 1) := id_Sizes_isPower_0 (23, .ireturn, 1) (List.mem_of_getElem? (i := 15) rfl)
theorem wC_Sizes_isPower : Cond.code ⟨"WarpMill$Sizes", "isPower", "(II)Z"⟩ prog_7_method_3_code 2 (some .boolean) ∈ lw_tb := mem_tb 428 (by decide +kernel) rfl
set_option maxRecDepth 100000 in
set_option maxHeartbeats 4000000 in
theorem sp_Sizes_isPower {G : Gl} {h : Hp} (k m : Int32)  : Ex G mi_Sizes_isPower [.int k, .int m] h (fun r h' => r = some (.int (bI (1 ≤ k ∧ k ≤ m ∧ (k &&& (k - 1)) = 0))) ∧ h' = h) := by
  refine Ex.of (by decide) (Nat.le_of_ble_eq_true rfl) ?_
  show Go G mi_Sizes_isPower h _ h 0 [(0, .int k), (1, .int m)] []
  refine g_iload_n d_Sizes_isPower_0 rfl ?_
  refine g_iconst 1 d_Sizes_isPower_1 (by decide) ?_
  refine g_icmp_lt 22 d_Sizes_isPower_2 (by decide) (fun c_2 => ?_) (fun c_2 => ?_)
  · refine g_iconst 0 d_Sizes_isPower_22 (by decide) ?_
    refine Go.ret (some _) (by first | exact rOk_bI _ | exact rOk_b0 | exact rOk_b1) rfl d_Sizes_isPower_23 ?_
    refine ⟨?_, rfl⟩
    simp_all [bI, -Int32.not_lt, -Int32.not_le, ← Int32.not_lt]
  · refine g_iload_n d_Sizes_isPower_5 rfl ?_
    refine g_iload_n d_Sizes_isPower_6 rfl ?_
    refine g_icmp_gt 22 d_Sizes_isPower_7 (by decide) (fun c_7 => ?_) (fun c_7 => ?_)
    · refine g_iconst 0 d_Sizes_isPower_22 (by decide) ?_
      refine Go.ret (some _) (by first | exact rOk_bI _ | exact rOk_b0 | exact rOk_b1) rfl d_Sizes_isPower_23 ?_
      refine ⟨?_, rfl⟩
      simp_all [bI, -Int32.not_lt, -Int32.not_le, ← Int32.not_lt]
    · refine g_iload_n d_Sizes_isPower_10 rfl ?_
      refine g_iload_n d_Sizes_isPower_11 rfl ?_
      refine g_iconst 1 d_Sizes_isPower_12 (by decide) ?_
      refine g_isub d_Sizes_isPower_13 ?_
      refine g_iand d_Sizes_isPower_14 ?_
      refine g_if_ne 22 d_Sizes_isPower_15 (by decide) (fun c_15 => ?_) (fun c_15 => ?_)
      · refine g_iconst 0 d_Sizes_isPower_22 (by decide) ?_
        refine Go.ret (some _) (by first | exact rOk_bI _ | exact rOk_b0 | exact rOk_b1) rfl d_Sizes_isPower_23 ?_
        refine ⟨?_, rfl⟩
        simp_all [bI, -Int32.not_lt, -Int32.not_le, ← Int32.not_lt]
      · refine g_iconst 1 d_Sizes_isPower_18 (by decide) ?_
        refine g_goto 23 d_Sizes_isPower_19 (by decide) ?_
        refine Go.ret (some _) (by first | exact rOk_bI _ | exact rOk_b0 | exact rOk_b1) rfl d_Sizes_isPower_23 ?_
        refine ⟨?_, rfl⟩
        simp_all [bI, -Int32.not_lt, -Int32.not_le, ← Int32.not_lt]
abbrev mi_WM_in : MI := (⟨"WarpMill", "in", "(II)Z"⟩, prog_1_method_25_code, 2, some .boolean, 0, 0)
def it_WM_in_0 : List (Nat × ClassFile.Instr × Nat) := [(0, .iload_n 0, 1), (1, .iload_n 1, 1), (2, .iushr, 1), (3, .iconst 1, 1), (4, .iand, 1), (5, .ifCond .eq (7), 3), (8, .iconst 1, 1), (9, .goto (4), 3), (12, .iconst 0, 1), (13, .ireturn, 1)]
theorem id_WM_in_0 : ∀ q ∈ it_WM_in_0, decode prog_1_method_25_code q.1 = .ok q.2 := by decide +kernel
theorem d_WM_in_0 : decode prog_1_method_25_code 0 = .ok (.iload_n 0, 1) := id_WM_in_0 (0, .iload_n 0, 1) (List.mem_of_getElem? (i := 0) rfl)
theorem d_WM_in_1 : decode prog_1_method_25_code 1 = .ok (.iload_n 1, 1) := id_WM_in_0 (1, .iload_n 1, 1) (List.mem_of_getElem? (i := 1) rfl)
theorem d_WM_in_2 : decode prog_1_method_25_code 2 = .ok (.iushr, 1) := id_WM_in_0 (2, .iushr, 1) (List.mem_of_getElem? (i := 2) rfl)
theorem d_WM_in_3 : decode prog_1_method_25_code 3 = .ok (.iconst 1, 1) := id_WM_in_0 (3, .iconst 1, 1) (List.mem_of_getElem? (i := 3) rfl)
theorem d_WM_in_4 : decode prog_1_method_25_code 4 = .ok (.iand, 1) := id_WM_in_0 (4, .iand, 1) (List.mem_of_getElem? (i := 4) rfl)
theorem d_WM_in_5 : decode prog_1_method_25_code 5 = .ok (.ifCond .eq (7), 3) := id_WM_in_0 (5, .ifCond .eq (7), 3) (List.mem_of_getElem? (i := 5) rfl)
theorem d_WM_in_8 : decode prog_1_method_25_code 8 = .ok (.iconst 1, 1) := id_WM_in_0 (8, .iconst 1, 1) (List.mem_of_getElem? (i := 6) rfl)
theorem d_WM_in_9 : decode prog_1_method_25_code 9 = .ok (.goto (4), 3) := id_WM_in_0 (9, .goto (4), 3) (List.mem_of_getElem? (i := 7) rfl)
theorem d_WM_in_12 : decode prog_1_method_25_code 12 = .ok (.iconst 0, 1) := id_WM_in_0 (12, .iconst 0, 1) (List.mem_of_getElem? (i := 8) rfl)
theorem d_WM_in_13 : decode prog_1_method_25_code 13 = .ok (.ireturn, 1) := id_WM_in_0 (13, .ireturn, 1) (List.mem_of_getElem? (i := 9) rfl)
theorem wC_WM_in : Cond.code ⟨"WarpMill", "in", "(II)Z"⟩ prog_1_method_25_code 2 (some .boolean) ∈ lw_tb := mem_tb 809 (by decide +kernel) rfl
set_option maxRecDepth 100000 in
set_option maxHeartbeats 4000000 in
theorem sp_WM_in {G : Gl} {h : Hp} (k m : Int32)  : Ex G mi_WM_in [.int k, .int m] h (fun r h' => r = some (.int (bI (¬ (ushr k m &&& 1) = 0))) ∧ h' = h) := by
  refine Ex.of (by decide) (Nat.le_of_ble_eq_true rfl) ?_
  show Go G mi_WM_in h _ h 0 [(0, .int k), (1, .int m)] []
  refine g_iload_n d_WM_in_0 rfl ?_
  refine g_iload_n d_WM_in_1 rfl ?_
  refine g_iushr d_WM_in_2 ?_
  refine g_iconst 1 d_WM_in_3 (by decide) ?_
  refine g_iand d_WM_in_4 ?_
  refine g_if_eq 12 d_WM_in_5 (by decide) (fun c_5 => ?_) (fun c_5 => ?_)
  · refine g_iconst 0 d_WM_in_12 (by decide) ?_
    refine Go.ret (some _) (by first | exact rOk_bI _ | exact rOk_b0 | exact rOk_b1) rfl d_WM_in_13 ?_
    refine ⟨?_, rfl⟩
    simp_all [bI, -Int32.not_lt, -Int32.not_le, ← Int32.not_lt]
  · refine g_iconst 1 d_WM_in_8 (by decide) ?_
    refine g_goto 13 d_WM_in_9 (by decide) ?_
    refine Go.ret (some _) (by first | exact rOk_bI _ | exact rOk_b0 | exact rOk_b1) rfl d_WM_in_13 ?_
    refine ⟨?_, rfl⟩
    simp_all [bI, -Int32.not_lt, -Int32.not_le, ← Int32.not_lt]
abbrev mi_Word_tickOf : MI := (⟨"WarpMill$Word", "tickOf", "(I)I"⟩, prog_11_method_6_code, 1, some .int, 0, 0)
def it_Word_tickOf_0 : List (Nat × ClassFile.Instr × Nat) := [(0, .iconst 1, 1), (1, .bipush (16), 2), (3, .iload_n 0, 1), (4, .iconst 3, 1), (5, .iand, 1), (6, .iadd, 1), (7, .ishl, 1), (8, .ireturn, 1)]
theorem id_Word_tickOf_0 : ∀ q ∈ it_Word_tickOf_0, decode prog_11_method_6_code q.1 = .ok q.2 := by decide +kernel
theorem d_Word_tickOf_0 : decode prog_11_method_6_code 0 = .ok (.iconst 1, 1) := id_Word_tickOf_0 (0, .iconst 1, 1) (List.mem_of_getElem? (i := 0) rfl)
theorem d_Word_tickOf_1 : decode prog_11_method_6_code 1 = .ok (.bipush (16), 2) := id_Word_tickOf_0 (1, .bipush (16), 2) (List.mem_of_getElem? (i := 1) rfl)
theorem d_Word_tickOf_3 : decode prog_11_method_6_code 3 = .ok (.iload_n 0, 1) := id_Word_tickOf_0 (3, .iload_n 0, 1) (List.mem_of_getElem? (i := 2) rfl)
theorem d_Word_tickOf_4 : decode prog_11_method_6_code 4 = .ok (.iconst 3, 1) := id_Word_tickOf_0 (4, .iconst 3, 1) (List.mem_of_getElem? (i := 3) rfl)
theorem d_Word_tickOf_5 : decode prog_11_method_6_code 5 = .ok (.iand, 1) := id_Word_tickOf_0 (5, .iand, 1) (List.mem_of_getElem? (i := 4) rfl)
theorem d_Word_tickOf_6 : decode prog_11_method_6_code 6 = .ok (.iadd, 1) := id_Word_tickOf_0 (6, .iadd, 1) (List.mem_of_getElem? (i := 5) rfl)
theorem d_Word_tickOf_7 : decode prog_11_method_6_code 7 = .ok (.ishl, 1) := id_Word_tickOf_0 (7, .ishl, 1) (List.mem_of_getElem? (i := 6) rfl)
theorem d_Word_tickOf_8 : decode prog_11_method_6_code 8 = .ok (.ireturn, 1) := id_Word_tickOf_0 (8, .ireturn, 1) (List.mem_of_getElem? (i := 7) rfl)
theorem wC_Word_tickOf : Cond.code ⟨"WarpMill$Word", "tickOf", "(I)I"⟩ prog_11_method_6_code 1 (some .int) ∈ lw_tb := mem_tb 281 (by decide +kernel) rfl
set_option maxRecDepth 100000 in
set_option maxHeartbeats 4000000 in
theorem sp_Word_tickOf {G : Gl} {h : Hp} (k : Int32)  : Ex G mi_Word_tickOf [.int k] h (fun r h' => r = some (.int (1 <<< ((16 + (k &&& 3)) &&& 31))) ∧ h' = h) := by
  refine Ex.of (by decide) (Nat.le_of_ble_eq_true rfl) ?_
  show Go G mi_Word_tickOf h _ h 0 [(0, .int k)] []
  refine g_iconst 1 d_Word_tickOf_0 (by decide) ?_
  refine g_bipush (16) d_Word_tickOf_1 (by decide) ?_
  refine g_iload_n d_Word_tickOf_3 rfl ?_
  refine g_iconst 3 d_Word_tickOf_4 (by decide) ?_
  refine g_iand d_Word_tickOf_5 ?_
  refine g_iadd d_Word_tickOf_6 ?_
  refine g_ishl d_Word_tickOf_7 ?_
  refine Go.ret (some _) (rOk_i _) rfl d_Word_tickOf_8 ?_
  exact ⟨rfl, rfl⟩
abbrev mi_Tally_underWay : MI := (⟨"WarpMill$Tally", "underWay", "()Z"⟩, prog_8_method_2_code, 1, some .boolean, 0, 0)
def it_Tally_underWay_0 : List (Nat × ClassFile.Instr × Nat) := [(0, .aload_n 0, 1), (1, .getfield 9, 3), (4, .iconst 1, 1), (5, .if_icmp .eq (11), 3), (8, .aload_n 0, 1), (9, .getfield 9, 3), (12, .iconst 4, 1), (13, .if_icmp .ne (7), 3), (16, .iconst 1, 1), (17, .goto (4), 3), (20, .iconst 0, 1), (21, .ireturn, 1)]
theorem id_Tally_underWay_0 : ∀ q ∈ it_Tally_underWay_0, decode prog_8_method_2_code q.1 = .ok q.2 := by decide +kernel
theorem d_Tally_underWay_0 : decode prog_8_method_2_code 0 = .ok (.aload_n 0, 1) := id_Tally_underWay_0 (0, .aload_n 0, 1) (List.mem_of_getElem? (i := 0) rfl)
theorem d_Tally_underWay_1 : decode prog_8_method_2_code 1 = .ok (.getfield 9, 3) := id_Tally_underWay_0 (1, .getfield 9, 3) (List.mem_of_getElem? (i := 1) rfl)
theorem d_Tally_underWay_4 : decode prog_8_method_2_code 4 = .ok (.iconst 1, 1) := id_Tally_underWay_0 (4, .iconst 1, 1) (List.mem_of_getElem? (i := 2) rfl)
theorem d_Tally_underWay_5 : decode prog_8_method_2_code 5 = .ok (.if_icmp .eq (11), 3) := id_Tally_underWay_0 (5, .if_icmp .eq (11), 3) (List.mem_of_getElem? (i := 3) rfl)
theorem d_Tally_underWay_8 : decode prog_8_method_2_code 8 = .ok (.aload_n 0, 1) := id_Tally_underWay_0 (8, .aload_n 0, 1) (List.mem_of_getElem? (i := 4) rfl)
theorem d_Tally_underWay_9 : decode prog_8_method_2_code 9 = .ok (.getfield 9, 3) := id_Tally_underWay_0 (9, .getfield 9, 3) (List.mem_of_getElem? (i := 5) rfl)
theorem d_Tally_underWay_12 : decode prog_8_method_2_code 12 = .ok (.iconst 4, 1) := id_Tally_underWay_0 (12, .iconst 4, 1) (List.mem_of_getElem? (i := 6) rfl)
theorem d_Tally_underWay_13 : decode prog_8_method_2_code 13 = .ok (.if_icmp .ne (7), 3) := id_Tally_underWay_0 (13, .if_icmp .ne (7), 3) (List.mem_of_getElem? (i := 7) rfl)
theorem d_Tally_underWay_16 : decode prog_8_method_2_code 16 = .ok (.iconst 1, 1) := id_Tally_underWay_0 (16, .iconst 1, 1) (List.mem_of_getElem? (i := 8) rfl)
theorem d_Tally_underWay_17 : decode prog_8_method_2_code 17 = .ok (.goto (4), 3) := id_Tally_underWay_0 (17, .goto (4), 3) (List.mem_of_getElem? (i := 9) rfl)
theorem d_Tally_underWay_20 : decode prog_8_method_2_code 20 = .ok (.iconst 0, 1) := id_Tally_underWay_0 (20, .iconst 0, 1) (List.mem_of_getElem? (i := 10) rfl)
theorem d_Tally_underWay_21 : decode prog_8_method_2_code 21 = .ok (.ireturn, 1) := id_Tally_underWay_0 (21, .ireturn, 1) (List.mem_of_getElem? (i := 11) rfl)
theorem wC_Tally_underWay : Cond.code ⟨"WarpMill$Tally", "underWay", "()Z"⟩ prog_8_method_2_code 1 (some .boolean) ∈ lw_tb := mem_tb 421 (by decide +kernel) rfl
set_option maxRecDepth 100000 in
set_option maxHeartbeats 4000000 in
theorem sp_Tally_underWay {G : Gl} {h : Hp} (x : Nat) (hx : hK h x = 6) : Ex G mi_Tally_underWay [.ref x] h (fun r h' => r = some (.int (bI (hI h 320 x = 1 ∨ hI h 320 x = 4))) ∧ h' = h) := by
  refine Ex.of (by decide) (Nat.le_of_ble_eq_true rfl) ?_
  show Go G mi_Tally_underWay h _ h 0 [(0, .ref x)] []
  first | refine g_aload_n d_Tally_underWay_0 rfl ?_ | refine g_aload_nq d_Tally_underWay_0 rfl ?_
  refine fg_Tally_status lf_Tally_9 d_Tally_underWay_1 (by first | (simp only [hK_sI, hK_sR, hK_sA, hK_sQ, hK_sL, hK_fillA]; assumption) | assumption) ?_
  refine g_iconst 1 d_Tally_underWay_4 (by decide) ?_
  refine g_icmp_eq 16 d_Tally_underWay_5 (by decide) (fun c_5 => ?_) (fun c_5 => ?_)
  · refine g_iconst 1 d_Tally_underWay_16 (by decide) ?_
    refine g_goto 21 d_Tally_underWay_17 (by decide) ?_
    refine Go.ret (some _) (by first | exact rOk_bI _ | exact rOk_b0 | exact rOk_b1) rfl d_Tally_underWay_21 ?_
    refine ⟨?_, rfl⟩
    simp_all [bI, -Int32.not_lt, -Int32.not_le, ← Int32.not_lt]
  · first | refine g_aload_n d_Tally_underWay_8 rfl ?_ | refine g_aload_nq d_Tally_underWay_8 rfl ?_
    refine fg_Tally_status lf_Tally_9 d_Tally_underWay_9 (by first | (simp only [hK_sI, hK_sR, hK_sA, hK_sQ, hK_sL, hK_fillA]; assumption) | assumption) ?_
    refine g_iconst 4 d_Tally_underWay_12 (by decide) ?_
    refine g_icmp_ne 20 d_Tally_underWay_13 (by decide) (fun c_13 => ?_) (fun c_13 => ?_)
    · refine g_iconst 0 d_Tally_underWay_20 (by decide) ?_
      refine Go.ret (some _) (by first | exact rOk_bI _ | exact rOk_b0 | exact rOk_b1) rfl d_Tally_underWay_21 ?_
      refine ⟨?_, rfl⟩
      simp_all [bI, -Int32.not_lt, -Int32.not_le, ← Int32.not_lt]
    · refine g_iconst 1 d_Tally_underWay_16 (by decide) ?_
      refine g_goto 21 d_Tally_underWay_17 (by decide) ?_
      refine Go.ret (some _) (by first | exact rOk_bI _ | exact rOk_b0 | exact rOk_b1) rfl d_Tally_underWay_21 ?_
      refine ⟨?_, rfl⟩
      simp_all [bI, -Int32.not_lt, -Int32.not_le, ← Int32.not_lt]
abbrev mi_Tally_init : MI := (⟨"WarpMill$Tally", "<init>", "()V"⟩, prog_8_method_1_code, 1, none, 1, 21)
def it_Tally_init_0 : List (Nat × ClassFile.Instr × Nat) := [(0, .aload_n 0, 1), (1, .invokespecial 3, 3), (4, .aload_n 0, 1), (5, .iconst 0, 1), (6, .putfield 9, 3), (9, .return_, 1)]
theorem id_Tally_init_0 : ∀ q ∈ it_Tally_init_0, decode prog_8_method_1_code q.1 = .ok q.2 := by decide +kernel
theorem d_Tally_init_0 : decode prog_8_method_1_code 0 = .ok (.aload_n 0, 1) := id_Tally_init_0 (0, .aload_n 0, 1) (List.mem_of_getElem? (i := 0) rfl)
theorem d_Tally_init_1 : decode prog_8_method_1_code 1 = .ok (.invokespecial 3, 3) := id_Tally_init_0 (1, .invokespecial 3, 3) (List.mem_of_getElem? (i := 1) rfl)
theorem d_Tally_init_4 : decode prog_8_method_1_code 4 = .ok (.aload_n 0, 1) := id_Tally_init_0 (4, .aload_n 0, 1) (List.mem_of_getElem? (i := 2) rfl)
theorem d_Tally_init_5 : decode prog_8_method_1_code 5 = .ok (.iconst 0, 1) := id_Tally_init_0 (5, .iconst 0, 1) (List.mem_of_getElem? (i := 3) rfl)
theorem d_Tally_init_6 : decode prog_8_method_1_code 6 = .ok (.putfield 9, 3) := id_Tally_init_0 (6, .putfield 9, 3) (List.mem_of_getElem? (i := 4) rfl)
theorem d_Tally_init_9 : decode prog_8_method_1_code 9 = .ok (.return_, 1) := id_Tally_init_0 (9, .return_, 1) (List.mem_of_getElem? (i := 5) rfl)
theorem wC_Tally_init : Cond.code ⟨"WarpMill$Tally", "<init>", "()V"⟩ prog_8_method_1_code 1 (none) ∈ lw_tb := mem_tb 208 (by decide +kernel) rfl
set_option maxRecDepth 100000 in
set_option maxHeartbeats 4000000 in
theorem sp_Tally_init {G : Gl} {h : Hp} (x : Nat) (hx : hK h x = 6) : Ex G mi_Tally_init [.ref x] h (fun r h' => r = none ∧ h' = sI h 320 x 0) := by
  refine Ex.of (by decide) (Nat.le_of_ble_eq_true rfl) ?_
  show Go G mi_Tally_init h _ h 0 [(0, .ref x)] []
  first | refine g_aload_n d_Tally_init_0 rfl ?_ | refine g_aload_nq d_Tally_init_0 rfl ?_
  refine g_objInit lm_Tally_3 wI_Object_init wC_obj (Nat.le_of_ble_eq_true rfl) (Nat.le_of_ble_eq_true rfl) d_Tally_init_1 ?_
  first | refine g_aload_n d_Tally_init_4 rfl ?_ | refine g_aload_nq d_Tally_init_4 rfl ?_
  refine g_iconst 0 d_Tally_init_5 (by decide) ?_
  refine fp_Tally_status lf_Tally_9 d_Tally_init_6 (by first | (simp only [hK_sI, hK_sR, hK_sA, hK_sQ, hK_sL, hK_fillA]; assumption) | assumption) ?_
  refine Go.ret none trivial rfl d_Tally_init_9 ?_
  exact ⟨rfl, rfl⟩
abbrev mi_Sizes_init : MI := (⟨"WarpMill$Sizes", "<init>", "()V"⟩, prog_7_method_1_code, 1, none, 1, 21)
def it_Sizes_init_0 : List (Nat × ClassFile.Instr × Nat) := [(0, .aload_n 0, 1), (1, .invokespecial 3, 3), (4, .aload_n 0, 1), (5, .iconst 4, 1), (6, .putfield 9, 3), (9, .aload_n 0, 1), (10, .iconst 4, 1), (11, .putfield 15, 3), (14, .aload_n 0, 1), (15, .iconst 2, 1), (16, .putfield 18, 3), (19, .aload_n 0, 1), (20, .iconst 4, 1), (21, .putfield 21, 3), (24, .aload_n 0, 1), (25, .iconst 2, 1), (26, .putfield 24, 3), (29, .aload_n 0, 1), (30, .sipush (512), 3), (33, .putfield 27, 3), (36, .return_, 1)]
theorem id_Sizes_init_0 : ∀ q ∈ it_Sizes_init_0, decode prog_7_method_1_code q.1 = .ok q.2 := by decide +kernel
theorem d_Sizes_init_0 : decode prog_7_method_1_code 0 = .ok (.aload_n 0, 1) := id_Sizes_init_0 (0, .aload_n 0, 1) (List.mem_of_getElem? (i := 0) rfl)
theorem d_Sizes_init_1 : decode prog_7_method_1_code 1 = .ok (.invokespecial 3, 3) := id_Sizes_init_0 (1, .invokespecial 3, 3) (List.mem_of_getElem? (i := 1) rfl)
theorem d_Sizes_init_4 : decode prog_7_method_1_code 4 = .ok (.aload_n 0, 1) := id_Sizes_init_0 (4, .aload_n 0, 1) (List.mem_of_getElem? (i := 2) rfl)
theorem d_Sizes_init_5 : decode prog_7_method_1_code 5 = .ok (.iconst 4, 1) := id_Sizes_init_0 (5, .iconst 4, 1) (List.mem_of_getElem? (i := 3) rfl)
theorem d_Sizes_init_6 : decode prog_7_method_1_code 6 = .ok (.putfield 9, 3) := id_Sizes_init_0 (6, .putfield 9, 3) (List.mem_of_getElem? (i := 4) rfl)
theorem d_Sizes_init_9 : decode prog_7_method_1_code 9 = .ok (.aload_n 0, 1) := id_Sizes_init_0 (9, .aload_n 0, 1) (List.mem_of_getElem? (i := 5) rfl)
theorem d_Sizes_init_10 : decode prog_7_method_1_code 10 = .ok (.iconst 4, 1) := id_Sizes_init_0 (10, .iconst 4, 1) (List.mem_of_getElem? (i := 6) rfl)
theorem d_Sizes_init_11 : decode prog_7_method_1_code 11 = .ok (.putfield 15, 3) := id_Sizes_init_0 (11, .putfield 15, 3) (List.mem_of_getElem? (i := 7) rfl)
theorem d_Sizes_init_14 : decode prog_7_method_1_code 14 = .ok (.aload_n 0, 1) := id_Sizes_init_0 (14, .aload_n 0, 1) (List.mem_of_getElem? (i := 8) rfl)
theorem d_Sizes_init_15 : decode prog_7_method_1_code 15 = .ok (.iconst 2, 1) := id_Sizes_init_0 (15, .iconst 2, 1) (List.mem_of_getElem? (i := 9) rfl)
theorem d_Sizes_init_16 : decode prog_7_method_1_code 16 = .ok (.putfield 18, 3) := id_Sizes_init_0 (16, .putfield 18, 3) (List.mem_of_getElem? (i := 10) rfl)
theorem d_Sizes_init_19 : decode prog_7_method_1_code 19 = .ok (.aload_n 0, 1) := id_Sizes_init_0 (19, .aload_n 0, 1) (List.mem_of_getElem? (i := 11) rfl)
theorem d_Sizes_init_20 : decode prog_7_method_1_code 20 = .ok (.iconst 4, 1) := id_Sizes_init_0 (20, .iconst 4, 1) (List.mem_of_getElem? (i := 12) rfl)
theorem d_Sizes_init_21 : decode prog_7_method_1_code 21 = .ok (.putfield 21, 3) := id_Sizes_init_0 (21, .putfield 21, 3) (List.mem_of_getElem? (i := 13) rfl)
theorem d_Sizes_init_24 : decode prog_7_method_1_code 24 = .ok (.aload_n 0, 1) := id_Sizes_init_0 (24, .aload_n 0, 1) (List.mem_of_getElem? (i := 14) rfl)
theorem d_Sizes_init_25 : decode prog_7_method_1_code 25 = .ok (.iconst 2, 1) := id_Sizes_init_0 (25, .iconst 2, 1) (List.mem_of_getElem? (i := 15) rfl)
theorem d_Sizes_init_26 : decode prog_7_method_1_code 26 = .ok (.putfield 24, 3) := id_Sizes_init_0 (26, .putfield 24, 3) (List.mem_of_getElem? (i := 16) rfl)
theorem d_Sizes_init_29 : decode prog_7_method_1_code 29 = .ok (.aload_n 0, 1) := id_Sizes_init_0 (29, .aload_n 0, 1) (List.mem_of_getElem? (i := 17) rfl)
theorem d_Sizes_init_30 : decode prog_7_method_1_code 30 = .ok (.sipush (512), 3) := id_Sizes_init_0 (30, .sipush (512), 3) (List.mem_of_getElem? (i := 18) rfl)
theorem d_Sizes_init_33 : decode prog_7_method_1_code 33 = .ok (.putfield 27, 3) := id_Sizes_init_0 (33, .putfield 27, 3) (List.mem_of_getElem? (i := 19) rfl)
theorem d_Sizes_init_36 : decode prog_7_method_1_code 36 = .ok (.return_, 1) := id_Sizes_init_0 (36, .return_, 1) (List.mem_of_getElem? (i := 20) rfl)
theorem wC_Sizes_init : Cond.code ⟨"WarpMill$Sizes", "<init>", "()V"⟩ prog_7_method_1_code 1 (none) ∈ lw_tb := mem_tb 105 (by decide +kernel) rfl
set_option maxRecDepth 100000 in
set_option maxHeartbeats 4000000 in
theorem sp_Sizes_init {G : Gl} {h : Hp} (x : Nat) (hx : hK h x = 2) : Ex G mi_Sizes_init [.ref x] h (fun r h' => r = none ∧ h' = sI (sI (sI (sI (sI (sI h 64 x 4) 65 x 4) 66 x 2) 67 x 4) 68 x 2) 69 x 512) := by
  refine Ex.of (by decide) (Nat.le_of_ble_eq_true rfl) ?_
  show Go G mi_Sizes_init h _ h 0 [(0, .ref x)] []
  first | refine g_aload_n d_Sizes_init_0 rfl ?_ | refine g_aload_nq d_Sizes_init_0 rfl ?_
  refine g_objInit lm_Sizes_3 wI_Object_init wC_obj (Nat.le_of_ble_eq_true rfl) (Nat.le_of_ble_eq_true rfl) d_Sizes_init_1 ?_
  first | refine g_aload_n d_Sizes_init_4 rfl ?_ | refine g_aload_nq d_Sizes_init_4 rfl ?_
  refine g_iconst 4 d_Sizes_init_5 (by decide) ?_
  refine fp_Sizes_lanes lf_Sizes_9 d_Sizes_init_6 (by first | (simp only [hK_sI, hK_sR, hK_sA, hK_sQ, hK_sL, hK_fillA]; assumption) | assumption) ?_
  first | refine g_aload_n d_Sizes_init_9 rfl ?_ | refine g_aload_nq d_Sizes_init_9 rfl ?_
  refine g_iconst 4 d_Sizes_init_10 (by decide) ?_
  refine fp_Sizes_slots lf_Sizes_15 d_Sizes_init_11 (by first | (simp only [hK_sI, hK_sR, hK_sA, hK_sQ, hK_sL, hK_fillA]; assumption) | assumption) ?_
  first | refine g_aload_n d_Sizes_init_14 rfl ?_ | refine g_aload_nq d_Sizes_init_14 rfl ?_
  refine g_iconst 2 d_Sizes_init_15 (by decide) ?_
  refine fp_Sizes_units lf_Sizes_18 d_Sizes_init_16 (by first | (simp only [hK_sI, hK_sR, hK_sA, hK_sQ, hK_sL, hK_fillA]; assumption) | assumption) ?_
  first | refine g_aload_n d_Sizes_init_19 rfl ?_ | refine g_aload_nq d_Sizes_init_19 rfl ?_
  refine g_iconst 4 d_Sizes_init_20 (by decide) ?_
  refine fp_Sizes_banks lf_Sizes_21 d_Sizes_init_21 (by first | (simp only [hK_sI, hK_sR, hK_sA, hK_sQ, hK_sL, hK_fillA]; assumption) | assumption) ?_
  first | refine g_aload_n d_Sizes_init_24 rfl ?_ | refine g_aload_nq d_Sizes_init_24 rfl ?_
  refine g_iconst 2 d_Sizes_init_25 (by decide) ?_
  refine fp_Sizes_gates lf_Sizes_24 d_Sizes_init_26 (by first | (simp only [hK_sI, hK_sR, hK_sA, hK_sQ, hK_sL, hK_fillA]; assumption) | assumption) ?_
  first | refine g_aload_n d_Sizes_init_29 rfl ?_ | refine g_aload_nq d_Sizes_init_29 rfl ?_
  refine g_sipush (512) d_Sizes_init_30 (by decide) ?_
  refine fp_Sizes_ints lf_Sizes_27 d_Sizes_init_33 (by first | (simp only [hK_sI, hK_sR, hK_sA, hK_sQ, hK_sL, hK_fillA]; assumption) | assumption) ?_
  refine Go.ret none trivial rfl d_Sizes_init_36 ?_
  exact ⟨rfl, rfl⟩
