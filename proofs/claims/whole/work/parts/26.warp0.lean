abbrev mi_Warp_register : MI := (⟨"WarpMill$Warp", "register", "(II)I"⟩, prog_10_method_6_code, 3, some .int, 0, 0)
def it_Warp_register_0 : List (Nat × ClassFile.Instr × Nat) := [(0, .aload_n 0, 1), (1, .getfield 18, 3), (4, .iload_n 1, 1), (5, .bipush (16), 2), (7, .imul, 1), (8, .iload_n 2, 1), (9, .iadd, 1), (10, .iaload, 1), (11, .ireturn, 1)]
theorem id_Warp_register_0 : ∀ q ∈ it_Warp_register_0, decode prog_10_method_6_code q.1 = .ok q.2 := by decide +kernel
theorem d_Warp_register_0 : decode prog_10_method_6_code 0 = .ok (.aload_n 0, 1) := id_Warp_register_0 (0, .aload_n 0, 1) (List.mem_of_getElem? (i := 0) rfl)
theorem d_Warp_register_1 : decode prog_10_method_6_code 1 = .ok (.getfield 18, 3) := id_Warp_register_0 (1, .getfield 18, 3) (List.mem_of_getElem? (i := 1) rfl)
theorem d_Warp_register_4 : decode prog_10_method_6_code 4 = .ok (.iload_n 1, 1) := id_Warp_register_0 (4, .iload_n 1, 1) (List.mem_of_getElem? (i := 2) rfl)
theorem d_Warp_register_5 : decode prog_10_method_6_code 5 = .ok (.bipush (16), 2) := id_Warp_register_0 (5, .bipush (16), 2) (List.mem_of_getElem? (i := 3) rfl)
theorem d_Warp_register_7 : decode prog_10_method_6_code 7 = .ok (.imul, 1) := id_Warp_register_0 (7, .imul, 1) (List.mem_of_getElem? (i := 4) rfl)
theorem d_Warp_register_8 : decode prog_10_method_6_code 8 = .ok (.iload_n 2, 1) := id_Warp_register_0 (8, .iload_n 2, 1) (List.mem_of_getElem? (i := 5) rfl)
theorem d_Warp_register_9 : decode prog_10_method_6_code 9 = .ok (.iadd, 1) := id_Warp_register_0 (9, .iadd, 1) (List.mem_of_getElem? (i := 6) rfl)
theorem d_Warp_register_10 : decode prog_10_method_6_code 10 = .ok (.iaload, 1) := id_Warp_register_0 (10, .iaload, 1) (List.mem_of_getElem? (i := 7) rfl)
theorem d_Warp_register_11 : decode prog_10_method_6_code 11 = .ok (.ireturn, 1) := id_Warp_register_0 (11, .ireturn, 1) (List.mem_of_getElem? (i := 8) rfl)
theorem wC_Warp_register : Cond.code ⟨"WarpMill$Warp", "register", "(II)I"⟩ prog_10_method_6_code 3 (some .int) ∈ lw_tb := mem_tb 850 (by decide +kernel) rfl
set_option maxRecDepth 100000 in
set_option maxHeartbeats 4000000 in
theorem sp_Warp_register {G : Gl} {h : Hp} (x g : Nat) (l r_ : Int32) (hx : hK h x = 9) (hg : hR h 523 x = some g) (kg : hK h g = 100) (ix : vp_in (l * 16 + r_) (hN h g)) : Ex G mi_Warp_register [.ref x, .int l, .int r_] h (fun r h' => r = some (.int (hA h g (l * 16 + r_).toNatClampNeg)) ∧ h' = h) := by
  refine Ex.of (by decide) (Nat.le_of_ble_eq_true rfl) ?_
  show Go G mi_Warp_register h _ h 0 [(0, .ref x), (1, .int l), (2, .int r_)] []
  first | refine g_aload_n d_Warp_register_0 rfl ?_ | refine g_aload_nq d_Warp_register_0 rfl ?_
  first | refine fgs_Warp_registers lf_Warp_18 d_Warp_register_1 (by first | (simp only [hK_sI, hK_sR, hK_sA, hK_sQ, hK_sL, hK_fillA]; assumption) | assumption) (by first | (simp only [hR_sI, hR_sA, hR_sQ, hR_sL, hR_fillA]; assumption) | assumption) ?_ | refine fg_Warp_registers lf_Warp_18 d_Warp_register_1 (by first | (simp only [hK_sI, hK_sR, hK_sA, hK_sQ, hK_sL, hK_fillA]; assumption) | assumption) ?_
  refine g_iload_n d_Warp_register_4 rfl ?_
  refine g_bipush (16) d_Warp_register_5 (by decide) ?_
  refine g_imul d_Warp_register_7 ?_
  refine g_iload_n d_Warp_register_8 rfl ?_
  refine g_iadd d_Warp_register_9 ?_
  refine g_iald (by first | (simp only [hK_sI, hK_sR, hK_sA, hK_sQ, hK_sL, hK_fillA]; assumption) | assumption) (by assumption) d_Warp_register_10 ?_
  refine Go.ret (some _) (rOk_i _) rfl d_Warp_register_11 ?_
  exact ⟨rfl, rfl⟩
abbrev mi_Warp_put : MI := (⟨"WarpMill$Warp", "put", "(III)V"⟩, prog_10_method_7_code, 4, none, 0, 0)
def it_Warp_put_0 : List (Nat × ClassFile.Instr × Nat) := [(0, .aload_n 0, 1), (1, .getfield 18, 3), (4, .iload_n 1, 1), (5, .bipush (16), 2), (7, .imul, 1), (8, .iload_n 2, 1), (9, .iadd, 1), (10, .iload_n 3, 1), (11, .iastore, 1), (12, .return_, 1)]
theorem id_Warp_put_0 : ∀ q ∈ it_Warp_put_0, decode prog_10_method_7_code q.1 = .ok q.2 := by decide +kernel
theorem d_Warp_put_0 : decode prog_10_method_7_code 0 = .ok (.aload_n 0, 1) := id_Warp_put_0 (0, .aload_n 0, 1) (List.mem_of_getElem? (i := 0) rfl)
theorem d_Warp_put_1 : decode prog_10_method_7_code 1 = .ok (.getfield 18, 3) := id_Warp_put_0 (1, .getfield 18, 3) (List.mem_of_getElem? (i := 1) rfl)
theorem d_Warp_put_4 : decode prog_10_method_7_code 4 = .ok (.iload_n 1, 1) := id_Warp_put_0 (4, .iload_n 1, 1) (List.mem_of_getElem? (i := 2) rfl)
theorem d_Warp_put_5 : decode prog_10_method_7_code 5 = .ok (.bipush (16), 2) := id_Warp_put_0 (5, .bipush (16), 2) (List.mem_of_getElem? (i := 3) rfl)
theorem d_Warp_put_7 : decode prog_10_method_7_code 7 = .ok (.imul, 1) := id_Warp_put_0 (7, .imul, 1) (List.mem_of_getElem? (i := 4) rfl)
theorem d_Warp_put_8 : decode prog_10_method_7_code 8 = .ok (.iload_n 2, 1) := id_Warp_put_0 (8, .iload_n 2, 1) (List.mem_of_getElem? (i := 5) rfl)
theorem d_Warp_put_9 : decode prog_10_method_7_code 9 = .ok (.iadd, 1) := id_Warp_put_0 (9, .iadd, 1) (List.mem_of_getElem? (i := 6) rfl)
theorem d_Warp_put_10 : decode prog_10_method_7_code 10 = .ok (.iload_n 3, 1) := id_Warp_put_0 (10, .iload_n 3, 1) (List.mem_of_getElem? (i := 7) rfl)
theorem d_Warp_put_11 : decode prog_10_method_7_code 11 = .ok (.iastore, 1) := id_Warp_put_0 (11, .iastore, 1) (List.mem_of_getElem? (i := 8) rfl)
theorem d_Warp_put_12 : decode prog_10_method_7_code 12 = .ok (.return_, 1) := id_Warp_put_0 (12, .return_, 1) (List.mem_of_getElem? (i := 9) rfl)
theorem wC_Warp_put : Cond.code ⟨"WarpMill$Warp", "put", "(III)V"⟩ prog_10_method_7_code 4 (none) ∈ lw_tb := mem_tb 660 (by decide +kernel) rfl
set_option maxRecDepth 100000 in
set_option maxHeartbeats 4000000 in
theorem sp_Warp_put {G : Gl} {h : Hp} (x g : Nat) (l r_ v : Int32) (hx : hK h x = 9) (hg : hR h 523 x = some g) (kg : hK h g = 100) (ix : vp_in (l * 16 + r_) (hN h g)) : Ex G mi_Warp_put [.ref x, .int l, .int r_, .int v] h (fun r h' => r = none ∧ h' = sA h g (l * 16 + r_).toNatClampNeg v) := by
  refine Ex.of (by decide) (Nat.le_of_ble_eq_true rfl) ?_
  show Go G mi_Warp_put h _ h 0 [(0, .ref x), (1, .int l), (2, .int r_), (3, .int v)] []
  first | refine g_aload_n d_Warp_put_0 rfl ?_ | refine g_aload_nq d_Warp_put_0 rfl ?_
  first | refine fgs_Warp_registers lf_Warp_18 d_Warp_put_1 (by first | (simp only [hK_sI, hK_sR, hK_sA, hK_sQ, hK_sL, hK_fillA]; assumption) | assumption) (by first | (simp only [hR_sI, hR_sA, hR_sQ, hR_sL, hR_fillA]; assumption) | assumption) ?_ | refine fg_Warp_registers lf_Warp_18 d_Warp_put_1 (by first | (simp only [hK_sI, hK_sR, hK_sA, hK_sQ, hK_sL, hK_fillA]; assumption) | assumption) ?_
  refine g_iload_n d_Warp_put_4 rfl ?_
  refine g_bipush (16) d_Warp_put_5 (by decide) ?_
  refine g_imul d_Warp_put_7 ?_
  refine g_iload_n d_Warp_put_8 rfl ?_
  refine g_iadd d_Warp_put_9 ?_
  refine g_iload_n d_Warp_put_10 rfl ?_
  refine g_iast (by first | (simp only [hK_sI, hK_sR, hK_sA, hK_sQ, hK_sL, hK_fillA]; assumption) | assumption) (by assumption) d_Warp_put_11 ?_
  refine Go.ret none trivial rfl d_Warp_put_12 ?_
  exact ⟨rfl, rfl⟩
abbrev mi_Tally_endCycle : MI := (⟨"WarpMill$Tally", "endCycle", "(Z)V"⟩, prog_8_method_6_code, 2, none, 0, 0)
def it_Tally_endCycle_0 : List (Nat × ClassFile.Instr × Nat) := [(0, .aload_n 0, 1), (1, .dup, 1), (2, .getfield 27, 3), (5, .iconst 1, 1), (6, .iadd, 1), (7, .putfield 27, 3), (10, .aload_n 0, 1), (11, .dup, 1), (12, .getfield 75, 3), (15, .iconst 1, 1), (16, .iadd, 1), (17, .putfield 75, 3), (20, .aload_n 0, 1), (21, .getfield 39, 3), (24, .ifCond .eq (19), 3), (27, .aload_n 0, 1), (28, .iload_n 1, 1), (29, .ifCond .eq (7), 3), (32, .iconst 3, 1), (33, .goto (4), 3), (36, .iconst 4, 1), (37, .putfield 9, 3), (40, .goto (23), 3), (43, .aload_n 0, 1)]
theorem id_Tally_endCycle_0 : ∀ q ∈ it_Tally_endCycle_0, decode prog_8_method_6_code q.1 = .ok q.2 := by decide +kernel
theorem d_Tally_endCycle_0 : decode prog_8_method_6_code 0 = .ok (.aload_n 0, 1) := id_Tally_endCycle_0 (0, .aload_n 0, 1) (List.mem_of_getElem? (i := 0) rfl)
theorem d_Tally_endCycle_1 : decode prog_8_method_6_code 1 = .ok (.dup, 1) := id_Tally_endCycle_0 (1, .dup, 1) (List.mem_of_getElem? (i := 1) rfl)
theorem d_Tally_endCycle_2 : decode prog_8_method_6_code 2 = .ok (.getfield 27, 3) := id_Tally_endCycle_0 (2, .getfield 27, 3) (List.mem_of_getElem? (i := 2) rfl)
theorem d_Tally_endCycle_5 : decode prog_8_method_6_code 5 = .ok (.iconst 1, 1) := id_Tally_endCycle_0 (5, .iconst 1, 1) (List.mem_of_getElem? (i := 3) rfl)
theorem d_Tally_endCycle_6 : decode prog_8_method_6_code 6 = .ok (.iadd, 1) := id_Tally_endCycle_0 (6, .iadd, 1) (List.mem_of_getElem? (i := 4) rfl)
theorem d_Tally_endCycle_7 : decode prog_8_method_6_code 7 = .ok (.putfield 27, 3) := id_Tally_endCycle_0 (7, .putfield 27, 3) (List.mem_of_getElem? (i := 5) rfl)
theorem d_Tally_endCycle_10 : decode prog_8_method_6_code 10 = .ok (.aload_n 0, 1) := id_Tally_endCycle_0 (10, .aload_n 0, 1) (List.mem_of_getElem? (i := 6) rfl)
theorem d_Tally_endCycle_11 : decode prog_8_method_6_code 11 = .ok (.dup, 1) := id_Tally_endCycle_0 (11, .dup, 1) (List.mem_of_getElem? (i := 7) rfl)
theorem d_Tally_endCycle_12 : decode prog_8_method_6_code 12 = .ok (.getfield 75, 3) := id_Tally_endCycle_0 (12, .getfield 75, 3) (List.mem_of_getElem? (i := 8) rfl)
theorem d_Tally_endCycle_15 : decode prog_8_method_6_code 15 = .ok (.iconst 1, 1) := id_Tally_endCycle_0 (15, .iconst 1, 1) (List.mem_of_getElem? (i := 9) rfl)
theorem d_Tally_endCycle_16 : decode prog_8_method_6_code 16 = .ok (.iadd, 1) := id_Tally_endCycle_0 (16, .iadd, 1) (List.mem_of_getElem? (i := 10) rfl)
theorem d_Tally_endCycle_17 : decode prog_8_method_6_code 17 = .ok (.putfield 75, 3) := id_Tally_endCycle_0 (17, .putfield 75, 3) (List.mem_of_getElem? (i := 11) rfl)
theorem d_Tally_endCycle_20 : decode prog_8_method_6_code 20 = .ok (.aload_n 0, 1) := id_Tally_endCycle_0 (20, .aload_n 0, 1) (List.mem_of_getElem? (i := 12) rfl)
theorem d_Tally_endCycle_21 : decode prog_8_method_6_code 21 = .ok (.getfield 39, 3) := id_Tally_endCycle_0 (21, .getfield 39, 3) (List.mem_of_getElem? (i := 13) rfl)
theorem d_Tally_endCycle_24 : decode prog_8_method_6_code 24 = .ok (.ifCond .eq (19), 3) := id_Tally_endCycle_0 (24, .ifCond .eq (19), 3) (List.mem_of_getElem? (i := 14) rfl)
theorem d_Tally_endCycle_27 : decode prog_8_method_6_code 27 = .ok (.aload_n 0, 1) := id_Tally_endCycle_0 (27, .aload_n 0, 1) (List.mem_of_getElem? (i := 15) rfl)
theorem d_Tally_endCycle_28 : decode prog_8_method_6_code 28 = .ok (.iload_n 1, 1) := id_Tally_endCycle_0 (28, .iload_n 1, 1) (List.mem_of_getElem? (i := 16) rfl)
theorem d_Tally_endCycle_29 : decode prog_8_method_6_code 29 = .ok (.ifCond .eq (7), 3) := id_Tally_endCycle_0 (29, .ifCond .eq (7), 3) (List.mem_of_getElem? (i := 17) rfl)
theorem d_Tally_endCycle_32 : decode prog_8_method_6_code 32 = .ok (.iconst 3, 1) := id_Tally_endCycle_0 (32, .iconst 3, 1) (List.mem_of_getElem? (i := 18) rfl)
theorem d_Tally_endCycle_33 : decode prog_8_method_6_code 33 = .ok (.goto (4), 3) := id_Tally_endCycle_0 (33, .goto (4), 3) (List.mem_of_getElem? (i := 19) rfl)
theorem d_Tally_endCycle_36 : decode prog_8_method_6_code 36 = .ok (.iconst 4, 1) := id_Tally_endCycle_0 (36, .iconst 4, 1) (List.mem_of_getElem? (i := 20) rfl)
theorem d_Tally_endCycle_37 : decode prog_8_method_6_code 37 = .ok (.putfield 9, 3) := id_Tally_endCycle_0 (37, .putfield 9, 3) (List.mem_of_getElem? (i := 21) rfl)
theorem d_Tally_endCycle_40 : decode prog_8_method_6_code 40 = .ok (.goto (23), 3) := id_Tally_endCycle_0 (40, .goto (23), 3) (List.mem_of_getElem? (i := 22) rfl)
theorem d_Tally_endCycle_43 : decode prog_8_method_6_code 43 = .ok (.aload_n 0, 1) := id_Tally_endCycle_0 (43, .aload_n 0, 1) (List.mem_of_getElem? (i := 23) rfl)
def it_Tally_endCycle_1 : List (Nat × ClassFile.Instr × Nat) := [(44, .getfield 24, 3), (47, .aload_n 0, 1), (48, .getfield 15, 3), (51, .if_icmp .ne (12), 3), (54, .iload_n 1, 1), (55, .ifCond .eq (8), 3), (58, .aload_n 0, 1), (59, .iconst 2, 1), (60, .putfield 9, 3), (63, .return_, 1)]
theorem id_Tally_endCycle_1 : ∀ q ∈ it_Tally_endCycle_1, decode prog_8_method_6_code q.1 = .ok q.2 := by decide +kernel
theorem d_Tally_endCycle_44 : decode prog_8_method_6_code 44 = .ok (.getfield 24, 3) := id_Tally_endCycle_1 (44, .getfield 24, 3) (List.mem_of_getElem? (i := 0) rfl)
theorem d_Tally_endCycle_47 : decode prog_8_method_6_code 47 = .ok (.aload_n 0, 1) := id_Tally_endCycle_1 (47, .aload_n 0, 1) (List.mem_of_getElem? (i := 1) rfl)
theorem d_Tally_endCycle_48 : decode prog_8_method_6_code 48 = .ok (.getfield 15, 3) := id_Tally_endCycle_1 (48, .getfield 15, 3) (List.mem_of_getElem? (i := 2) rfl)
theorem d_Tally_endCycle_51 : decode prog_8_method_6_code 51 = .ok (.if_icmp .ne (12), 3) := id_Tally_endCycle_1 (51, .if_icmp .ne (12), 3) (List.mem_of_getElem? (i := 3) rfl)
theorem d_Tally_endCycle_54 : decode prog_8_method_6_code 54 = .ok (.iload_n 1, 1) := id_Tally_endCycle_1 (54, .iload_n 1, 1) (List.mem_of_getElem? (i := 4) rfl)
theorem d_Tally_endCycle_55 : decode prog_8_method_6_code 55 = .ok (.ifCond .eq (8), 3) := id_Tally_endCycle_1 (55, .ifCond .eq (8), 3) (List.mem_of_getElem? (i := 5) rfl)
theorem d_Tally_endCycle_58 : decode prog_8_method_6_code 58 = .ok (.aload_n 0, 1) := id_Tally_endCycle_1 (58, .aload_n 0, 1) (List.mem_of_getElem? (i := 6) rfl)
theorem d_Tally_endCycle_59 : decode prog_8_method_6_code 59 = .ok (.iconst 2, 1) := id_Tally_endCycle_1 (59, .iconst 2, 1) (List.mem_of_getElem? (i := 7) rfl)
theorem d_Tally_endCycle_60 : decode prog_8_method_6_code 60 = .ok (.putfield 9, 3) := id_Tally_endCycle_1 (60, .putfield 9, 3) (List.mem_of_getElem? (i := 8) rfl)
theorem d_Tally_endCycle_63 : decode prog_8_method_6_code 63 = .ok (.return_, 1) := id_Tally_endCycle_1 (63, .return_, 1) (List.mem_of_getElem? (i := 9) rfl)
theorem wC_Tally_endCycle : Cond.code ⟨"WarpMill$Tally", "endCycle", "(Z)V"⟩ prog_8_method_6_code 2 (none) ∈ lw_tb := mem_tb 987 (by decide +kernel) rfl
set_option maxRecDepth 100000 in
set_option maxHeartbeats 4000000 in
theorem sp_Tally_endCycle {G : Gl} {h : Hp} (x : Nat) (p : Int32) (hx : hK h x = 6) : Ex G mi_Tally_endCycle [.ref x, .int p] h (fun r h' => r = none ∧ h' = (if ¬ hI h 330 x = 0 then sI (sI (sI h 325 x (hI h 325 x + 1)) 326 x (hI h 326 x + 1)) 320 x (if p = 0 then 4 else 3) else if hI h 324 x = hI h 321 x ∧ ¬ p = 0 then sI (sI (sI h 325 x (hI h 325 x + 1)) 326 x (hI h 326 x + 1)) 320 x 2 else sI (sI h 325 x (hI h 325 x + 1)) 326 x (hI h 326 x + 1))) := by
  refine Ex.of (by decide) (Nat.le_of_ble_eq_true rfl) ?_
  show Go G mi_Tally_endCycle h _ h 0 [(0, .ref x), (1, .int p)] []
  first | refine g_aload_n d_Tally_endCycle_0 rfl ?_ | refine g_aload_nq d_Tally_endCycle_0 rfl ?_
  refine g_dup rfl d_Tally_endCycle_1 ?_
  refine fg_Tally_cycles lf_Tally_27 d_Tally_endCycle_2 (by first | (simp only [hK_sI, hK_sR, hK_sA, hK_sQ, hK_sL, hK_fillA]; assumption) | assumption) ?_
  refine g_iconst 1 d_Tally_endCycle_5 (by decide) ?_
  refine g_iadd d_Tally_endCycle_6 ?_
  refine fp_Tally_cycles lf_Tally_27 d_Tally_endCycle_7 (by first | (simp only [hK_sI, hK_sR, hK_sA, hK_sQ, hK_sL, hK_fillA]; assumption) | assumption) ?_
  first | refine g_aload_n d_Tally_endCycle_10 rfl ?_ | refine g_aload_nq d_Tally_endCycle_10 rfl ?_
  refine g_dup rfl d_Tally_endCycle_11 ?_
  refine fg_Tally_allCycles lf_Tally_75 d_Tally_endCycle_12 (by first | (simp only [hK_sI, hK_sR, hK_sA, hK_sQ, hK_sL, hK_fillA]; assumption) | assumption) ?_
  refine g_iconst 1 d_Tally_endCycle_15 (by decide) ?_
  refine g_iadd d_Tally_endCycle_16 ?_
  refine fp_Tally_allCycles lf_Tally_75 d_Tally_endCycle_17 (by first | (simp only [hK_sI, hK_sR, hK_sA, hK_sQ, hK_sL, hK_fillA]; assumption) | assumption) ?_
  first | refine g_aload_n d_Tally_endCycle_20 rfl ?_ | refine g_aload_nq d_Tally_endCycle_20 rfl ?_
  refine fg_Tally_why lf_Tally_39 d_Tally_endCycle_21 (by first | (simp only [hK_sI, hK_sR, hK_sA, hK_sQ, hK_sL, hK_fillA]; assumption) | assumption) ?_
  refine g_if_eq 43 d_Tally_endCycle_24 (by decide) (fun c_24 => ?_) (fun c_24 => ?_)
  · first | refine g_aload_n d_Tally_endCycle_43 rfl ?_ | refine g_aload_nq d_Tally_endCycle_43 rfl ?_
    refine fg_Tally_ended lf_Tally_24 d_Tally_endCycle_44 (by first | (simp only [hK_sI, hK_sR, hK_sA, hK_sQ, hK_sL, hK_fillA]; assumption) | assumption) ?_
    first | refine g_aload_n d_Tally_endCycle_47 rfl ?_ | refine g_aload_nq d_Tally_endCycle_47 rfl ?_
    refine fg_Tally_blocks lf_Tally_15 d_Tally_endCycle_48 (by first | (simp only [hK_sI, hK_sR, hK_sA, hK_sQ, hK_sL, hK_fillA]; assumption) | assumption) ?_
    refine g_icmp_ne 63 d_Tally_endCycle_51 (by decide) (fun c_51 => ?_) (fun c_51 => ?_)
    · refine Go.ret none trivial rfl d_Tally_endCycle_63 ?_
      refine ⟨rfl, ?_⟩
      simp_all [hI_sI]
    · refine g_iload_n d_Tally_endCycle_54 rfl ?_
      refine g_if_eq 63 d_Tally_endCycle_55 (by decide) (fun c_55 => ?_) (fun c_55 => ?_)
      · refine Go.ret none trivial rfl d_Tally_endCycle_63 ?_
        refine ⟨rfl, ?_⟩
        simp_all [hI_sI]
      · first | refine g_aload_n d_Tally_endCycle_58 rfl ?_ | refine g_aload_nq d_Tally_endCycle_58 rfl ?_
        refine g_iconst 2 d_Tally_endCycle_59 (by decide) ?_
        refine fp_Tally_status lf_Tally_9 d_Tally_endCycle_60 (by first | (simp only [hK_sI, hK_sR, hK_sA, hK_sQ, hK_sL, hK_fillA]; assumption) | assumption) ?_
        refine Go.ret none trivial rfl d_Tally_endCycle_63 ?_
        refine ⟨rfl, ?_⟩
        simp_all [hI_sI]
  · first | refine g_aload_n d_Tally_endCycle_27 rfl ?_ | refine g_aload_nq d_Tally_endCycle_27 rfl ?_
    refine g_iload_n d_Tally_endCycle_28 rfl ?_
    refine g_if_eq 36 d_Tally_endCycle_29 (by decide) (fun c_29 => ?_) (fun c_29 => ?_)
    · refine g_iconst 4 d_Tally_endCycle_36 (by decide) ?_
      refine fp_Tally_status lf_Tally_9 d_Tally_endCycle_37 (by first | (simp only [hK_sI, hK_sR, hK_sA, hK_sQ, hK_sL, hK_fillA]; assumption) | assumption) ?_
      refine g_goto 63 d_Tally_endCycle_40 (by decide) ?_
      refine Go.ret none trivial rfl d_Tally_endCycle_63 ?_
      refine ⟨rfl, ?_⟩
      simp_all [hI_sI]
    · refine g_iconst 3 d_Tally_endCycle_32 (by decide) ?_
      refine g_goto 37 d_Tally_endCycle_33 (by decide) ?_
      refine fp_Tally_status lf_Tally_9 d_Tally_endCycle_37 (by first | (simp only [hK_sI, hK_sR, hK_sA, hK_sQ, hK_sL, hK_fillA]; assumption) | assumption) ?_
      refine g_goto 63 d_Tally_endCycle_40 (by decide) ?_
      refine Go.ret none trivial rfl d_Tally_endCycle_63 ?_
      refine ⟨rfl, ?_⟩
      simp_all [hI_sI]
abbrev mi_Mod_thrown : MI := (⟨"WarpMillModel", "thrown", "()I"⟩, prog_13_method_2_code, 1, some .int, 0, 0)
def it_Mod_thrown_0 : List (Nat × ClassFile.Instr × Nat) := [(0, .aload_n 0, 1), (1, .getfield 120, 3), (4, .ireturn, 1)]
theorem id_Mod_thrown_0 : ∀ q ∈ it_Mod_thrown_0, decode prog_13_method_2_code q.1 = .ok q.2 := by decide +kernel
theorem d_Mod_thrown_0 : decode prog_13_method_2_code 0 = .ok (.aload_n 0, 1) := id_Mod_thrown_0 (0, .aload_n 0, 1) (List.mem_of_getElem? (i := 0) rfl)
theorem d_Mod_thrown_1 : decode prog_13_method_2_code 1 = .ok (.getfield 120, 3) := id_Mod_thrown_0 (1, .getfield 120, 3) (List.mem_of_getElem? (i := 1) rfl)
theorem d_Mod_thrown_4 : decode prog_13_method_2_code 4 = .ok (.ireturn, 1) := id_Mod_thrown_0 (4, .ireturn, 1) (List.mem_of_getElem? (i := 2) rfl)
theorem wC_Mod_thrown : Cond.code ⟨"WarpMillModel", "thrown", "()I"⟩ prog_13_method_2_code 1 (some .int) ∈ lw_tb := mem_tb 1243 (by decide +kernel) rfl
set_option maxRecDepth 100000 in
set_option maxHeartbeats 4000000 in
theorem sp_Mod_thrown {G : Gl} {h : Hp} (x : Nat) (hx : hK h x = 12) : Ex G mi_Mod_thrown [.ref x] h (fun r h' => r = some (.int (hI h 704 x)) ∧ h' = h) := by
  refine Ex.of (by decide) (Nat.le_of_ble_eq_true rfl) ?_
  show Go G mi_Mod_thrown h _ h 0 [(0, .ref x)] []
  first | refine g_aload_n d_Mod_thrown_0 rfl ?_ | refine g_aload_nq d_Mod_thrown_0 rfl ?_
  refine fg_Mod_thrown lf_Mod_120 d_Mod_thrown_1 (by first | (simp only [hK_sI, hK_sR, hK_sA, hK_sQ, hK_sL, hK_fillA]; assumption) | assumption) ?_
  refine Go.ret (some _) (rOk_i _) rfl d_Mod_thrown_4 ?_
  exact ⟨rfl, rfl⟩
abbrev mi_Mod_raise : MI := (⟨"WarpMillModel", "raise", "(I)I"⟩, prog_13_method_3_code, 2, some .int, 0, 0)
def it_Mod_raise_0 : List (Nat × ClassFile.Instr × Nat) := [(0, .aload_n 0, 1), (1, .iload_n 1, 1), (2, .putfield 120, 3), (5, .iconst 0, 1), (6, .ireturn, 1)]
theorem id_Mod_raise_0 : ∀ q ∈ it_Mod_raise_0, decode prog_13_method_3_code q.1 = .ok q.2 := by decide +kernel
theorem d_Mod_raise_0 : decode prog_13_method_3_code 0 = .ok (.aload_n 0, 1) := id_Mod_raise_0 (0, .aload_n 0, 1) (List.mem_of_getElem? (i := 0) rfl)
theorem d_Mod_raise_1 : decode prog_13_method_3_code 1 = .ok (.iload_n 1, 1) := id_Mod_raise_0 (1, .iload_n 1, 1) (List.mem_of_getElem? (i := 1) rfl)
theorem d_Mod_raise_2 : decode prog_13_method_3_code 2 = .ok (.putfield 120, 3) := id_Mod_raise_0 (2, .putfield 120, 3) (List.mem_of_getElem? (i := 2) rfl)
theorem d_Mod_raise_5 : decode prog_13_method_3_code 5 = .ok (.iconst 0, 1) := id_Mod_raise_0 (5, .iconst 0, 1) (List.mem_of_getElem? (i := 3) rfl)
theorem d_Mod_raise_6 : decode prog_13_method_3_code 6 = .ok (.ireturn, 1) := id_Mod_raise_0 (6, .ireturn, 1) (List.mem_of_getElem? (i := 4) rfl)
theorem wC_Mod_raise : Cond.code ⟨"WarpMillModel", "raise", "(I)I"⟩ prog_13_method_3_code 2 (some .int) ∈ lw_tb := mem_tb 1278 (by decide +kernel) rfl
set_option maxRecDepth 100000 in
set_option maxHeartbeats 4000000 in
theorem sp_Mod_raise {G : Gl} {h : Hp} (x : Nat) (c : Int32) (hx : hK h x = 12) : Ex G mi_Mod_raise [.ref x, .int c] h (fun r h' => r = some (.int 0) ∧ h' = sI h 704 x c) := by
  refine Ex.of (by decide) (Nat.le_of_ble_eq_true rfl) ?_
  show Go G mi_Mod_raise h _ h 0 [(0, .ref x), (1, .int c)] []
  first | refine g_aload_n d_Mod_raise_0 rfl ?_ | refine g_aload_nq d_Mod_raise_0 rfl ?_
  refine g_iload_n d_Mod_raise_1 rfl ?_
  refine fp_Mod_thrown lf_Mod_120 d_Mod_raise_2 (by first | (simp only [hK_sI, hK_sR, hK_sA, hK_sQ, hK_sL, hK_fillA]; assumption) | assumption) ?_
  refine g_iconst 0 d_Mod_raise_5 (by decide) ?_
  refine Go.ret (some _) (rOk_i _) rfl d_Mod_raise_6 ?_
  exact ⟨rfl, rfl⟩
abbrev mi_Mod_isUnder : MI := (⟨"WarpMillModel", "isUnder", "()Z"⟩, prog_13_method_7_code, 1, some .boolean, 0, 0)
def it_Mod_isUnder_0 : List (Nat × ClassFile.Instr × Nat) := [(0, .aload_n 0, 1), (1, .getfield 136, 3), (4, .iconst 1, 1), (5, .if_icmp .eq (11), 3), (8, .aload_n 0, 1), (9, .getfield 136, 3), (12, .iconst 4, 1), (13, .if_icmp .ne (7), 3), (16, .iconst 1, 1), (17, .goto (4), 3), (20, .iconst 0, 1), (21, .ireturn, 1)]
theorem id_Mod_isUnder_0 : ∀ q ∈ it_Mod_isUnder_0, decode prog_13_method_7_code q.1 = .ok q.2 := by decide +kernel
theorem d_Mod_isUnder_0 : decode prog_13_method_7_code 0 = .ok (.aload_n 0, 1) := id_Mod_isUnder_0 (0, .aload_n 0, 1) (List.mem_of_getElem? (i := 0) rfl)
theorem d_Mod_isUnder_1 : decode prog_13_method_7_code 1 = .ok (.getfield 136, 3) := id_Mod_isUnder_0 (1, .getfield 136, 3) (List.mem_of_getElem? (i := 1) rfl)
theorem d_Mod_isUnder_4 : decode prog_13_method_7_code 4 = .ok (.iconst 1, 1) := id_Mod_isUnder_0 (4, .iconst 1, 1) (List.mem_of_getElem? (i := 2) rfl)
theorem d_Mod_isUnder_5 : decode prog_13_method_7_code 5 = .ok (.if_icmp .eq (11), 3) := id_Mod_isUnder_0 (5, .if_icmp .eq (11), 3) (List.mem_of_getElem? (i := 3) rfl)
theorem d_Mod_isUnder_8 : decode prog_13_method_7_code 8 = .ok (.aload_n 0, 1) := id_Mod_isUnder_0 (8, .aload_n 0, 1) (List.mem_of_getElem? (i := 4) rfl)
theorem d_Mod_isUnder_9 : decode prog_13_method_7_code 9 = .ok (.getfield 136, 3) := id_Mod_isUnder_0 (9, .getfield 136, 3) (List.mem_of_getElem? (i := 5) rfl)
theorem d_Mod_isUnder_12 : decode prog_13_method_7_code 12 = .ok (.iconst 4, 1) := id_Mod_isUnder_0 (12, .iconst 4, 1) (List.mem_of_getElem? (i := 6) rfl)
theorem d_Mod_isUnder_13 : decode prog_13_method_7_code 13 = .ok (.if_icmp .ne (7), 3) := id_Mod_isUnder_0 (13, .if_icmp .ne (7), 3) (List.mem_of_getElem? (i := 7) rfl)
theorem d_Mod_isUnder_16 : decode prog_13_method_7_code 16 = .ok (.iconst 1, 1) := id_Mod_isUnder_0 (16, .iconst 1, 1) (List.mem_of_getElem? (i := 8) rfl)
theorem d_Mod_isUnder_17 : decode prog_13_method_7_code 17 = .ok (.goto (4), 3) := id_Mod_isUnder_0 (17, .goto (4), 3) (List.mem_of_getElem? (i := 9) rfl)
theorem d_Mod_isUnder_20 : decode prog_13_method_7_code 20 = .ok (.iconst 0, 1) := id_Mod_isUnder_0 (20, .iconst 0, 1) (List.mem_of_getElem? (i := 10) rfl)
theorem d_Mod_isUnder_21 : decode prog_13_method_7_code 21 = .ok (.ireturn, 1) := id_Mod_isUnder_0 (21, .ireturn, 1) (List.mem_of_getElem? (i := 11) rfl)
theorem wC_Mod_isUnder : Cond.code ⟨"WarpMillModel", "isUnder", "()Z"⟩ prog_13_method_7_code 1 (some .boolean) ∈ lw_tb := mem_tb 1254 (by decide +kernel) rfl
set_option maxRecDepth 100000 in
set_option maxHeartbeats 4000000 in
theorem sp_Mod_isUnder {G : Gl} {h : Hp} (x : Nat) (hx : hK h x = 12) : Ex G mi_Mod_isUnder [.ref x] h (fun r h' => r = some (.int (bI (hI h 715 x = 1 ∨ hI h 715 x = 4))) ∧ h' = h) := by
  refine Ex.of (by decide) (Nat.le_of_ble_eq_true rfl) ?_
  show Go G mi_Mod_isUnder h _ h 0 [(0, .ref x)] []
  first | refine g_aload_n d_Mod_isUnder_0 rfl ?_ | refine g_aload_nq d_Mod_isUnder_0 rfl ?_
  refine fg_Mod_status lf_Mod_136 d_Mod_isUnder_1 (by first | (simp only [hK_sI, hK_sR, hK_sA, hK_sQ, hK_sL, hK_fillA]; assumption) | assumption) ?_
  refine g_iconst 1 d_Mod_isUnder_4 (by decide) ?_
  refine g_icmp_eq 16 d_Mod_isUnder_5 (by decide) (fun c_5 => ?_) (fun c_5 => ?_)
  · refine g_iconst 1 d_Mod_isUnder_16 (by decide) ?_
    refine g_goto 21 d_Mod_isUnder_17 (by decide) ?_
    refine Go.ret (some _) (by first | exact rOk_bI _ | exact rOk_b0 | exact rOk_b1) rfl d_Mod_isUnder_21 ?_
    refine ⟨?_, rfl⟩
    simp_all [bI, -Int32.not_lt, -Int32.not_le, ← Int32.not_lt]
  · first | refine g_aload_n d_Mod_isUnder_8 rfl ?_ | refine g_aload_nq d_Mod_isUnder_8 rfl ?_
    refine fg_Mod_status lf_Mod_136 d_Mod_isUnder_9 (by first | (simp only [hK_sI, hK_sR, hK_sA, hK_sQ, hK_sL, hK_fillA]; assumption) | assumption) ?_
    refine g_iconst 4 d_Mod_isUnder_12 (by decide) ?_
    refine g_icmp_ne 20 d_Mod_isUnder_13 (by decide) (fun c_13 => ?_) (fun c_13 => ?_)
    · refine g_iconst 0 d_Mod_isUnder_20 (by decide) ?_
      refine Go.ret (some _) (by first | exact rOk_bI _ | exact rOk_b0 | exact rOk_b1) rfl d_Mod_isUnder_21 ?_
      refine ⟨?_, rfl⟩
      simp_all [bI, -Int32.not_lt, -Int32.not_le, ← Int32.not_lt]
    · refine g_iconst 1 d_Mod_isUnder_16 (by decide) ?_
      refine g_goto 21 d_Mod_isUnder_17 (by decide) ?_
      refine Go.ret (some _) (by first | exact rOk_bI _ | exact rOk_b0 | exact rOk_b1) rfl d_Mod_isUnder_21 ?_
      refine ⟨?_, rfl⟩
      simp_all [bI, -Int32.not_lt, -Int32.not_le, ← Int32.not_lt]
abbrev mi_Mod_isPower : MI := (⟨"WarpMillModel", "isPower", "(II)Z"⟩, prog_13_method_8_code, 2, some .boolean, 0, 0)
def it_Mod_isPower_0 : List (Nat × ClassFile.Instr × Nat) := [(0, .iload_n 0, 1), (1, .iconst 1, 1), (2, .if_icmp .lt (20), 3), (5, .iload_n 0, 1), (6, .iload_n 1, 1), (7, .if_icmp .gt (15), 3), (10, .iload_n 0, 1), (11, .iload_n 0, 1), (12, .iconst 1, 1), (13, .isub, 1), (14, .iand, 1), (15, .ifCond .ne (7), 3), (18, .iconst 1, 1), (19, .goto (4), 3), (22, .iconst 0, 1), (23, .ireturn, 1)]
theorem id_Mod_isPower_0 : ∀ q ∈ it_Mod_isPower_0, decode prog_13_method_8_code q.1 = .ok q.2 := by decide +kernel
theorem d_Mod_isPower_0 : decode prog_13_method_8_code 0 = .ok (.iload_n 0, 1) := id_Mod_isPower_0 (0, .iload_n 0, 1) (List.mem_of_getElem? (i := 0) rfl)
theorem d_Mod_isPower_1 : decode prog_13_method_8_code 1 = .ok (.iconst 1, 1) := id_Mod_isPower_0 (1, .iconst 1, 1) (List.mem_of_getElem? (i := 1) rfl)
theorem d_Mod_isPower_2 : decode prog_13_method_8_code 2 = .ok (.if_icmp .lt (20), 3) := id_Mod_isPower_0 (2, .if_icmp .lt (20), 3) (List.mem_of_getElem? (i := 2) rfl)
theorem d_Mod_isPower_5 : decode prog_13_method_8_code 5 = .ok (.iload_n 0, 1) := id_Mod_isPower_0 (5, .iload_n 0, 1) (List.mem_of_getElem? (i := 3) rfl)
theorem d_Mod_isPower_6 : decode prog_13_method_8_code 6 = .ok (.iload_n 1, 1) := id_Mod_isPower_0 (6, .iload_n 1, 1) (List.mem_of_getElem? (i := 4) rfl)
theorem d_Mod_isPower_7 : decode prog_13_method_8_code 7 = .ok (.if_icmp .gt (15), 3) := id_Mod_isPower_0 (7, .if_icmp .gt (15), 3) (List.mem_of_getElem? (i := 5) rfl)
theorem d_Mod_isPower_10 : decode prog_13_method_8_code 10 = .ok (.iload_n 0, 1) := id_Mod_isPower_0 (10, .iload_n 0, 1) (List.mem_of_getElem? (i := 6) rfl)
theorem d_Mod_isPower_11 : decode prog_13_method_8_code 11 = .ok (.iload_n 0, 1) := id_Mod_isPower_0 (11, .iload_n 0, 1) (List.mem_of_getElem? (i := 7) rfl)
theorem d_Mod_isPower_12 : decode prog_13_method_8_code 12 = .ok (.iconst 1, 1) := id_Mod_isPower_0 (12, .iconst 1, 1) (List.mem_of_getElem? (i := 8) rfl)
theorem d_Mod_isPower_13 : decode prog_13_method_8_code 13 = .ok (.isub, 1) := id_Mod_isPower_0 (13, .isub, 1) (List.mem_of_getElem? (i := 9) rfl)
theorem d_Mod_isPower_14 : decode prog_13_method_8_code 14 = .ok (.iand, 1) := id_Mod_isPower_0 (14, .iand, 1) (List.mem_of_getElem? (i := 10) rfl)
theorem d_Mod_isPower_15 : decode prog_13_method_8_code 15 = .ok (.ifCond .ne (7), 3) := id_Mod_isPower_0 (15, .ifCond .ne (7), 3) (List.mem_of_getElem? (i := 11) rfl)
theorem d_Mod_isPower_18 : decode prog_13_method_8_code 18 = .ok (.iconst 1, 1) := id_Mod_isPower_0 (18, .iconst 1, 1) (List.mem_of_getElem? (i := 12) rfl)
theorem d_Mod_isPower_19 : decode prog_13_method_8_code 19 = .ok (.goto (4), 3) := id_Mod_isPower_0 (19, .goto (4), 3) (List.mem_of_getElem? (i := 13) rfl)
theorem d_Mod_isPower_22 : decode prog_13_method_8_code 22 = .ok (.iconst 0, 1) := id_Mod_isPower_0 (22, .iconst 0, 1) (List.mem_of_getElem? (i := 14) rfl)
theorem d_Mod_isPower_23 : decode prog_13_method_8_code 23 = .ok (.ireturn, 1) := id_Mod_isPower_0 (23, .ireturn, 1) (List.mem_of_getElem? (i := 15) rfl)
theorem wC_Mod_isPower : Cond.code ⟨"WarpMillModel", "isPower", "(II)Z"⟩ prog_13_method_8_code 2 (some .boolean) ∈ lw_tb := mem_tb 1250 (by decide +kernel) rfl
set_option maxRecDepth 100000 in
set_option maxHeartbeats 4000000 in
theorem sp_Mod_isPower {G : Gl} {h : Hp} (k m : Int32)  : Ex G mi_Mod_isPower [.int k, .int m] h (fun r h' => r = some (.int (bI (1 ≤ k ∧ k ≤ m ∧ (k &&& (k - 1)) = 0))) ∧ h' = h) := by
  refine Ex.of (by decide) (Nat.le_of_ble_eq_true rfl) ?_
  show Go G mi_Mod_isPower h _ h 0 [(0, .int k), (1, .int m)] []
  refine g_iload_n d_Mod_isPower_0 rfl ?_
  refine g_iconst 1 d_Mod_isPower_1 (by decide) ?_
  refine g_icmp_lt 22 d_Mod_isPower_2 (by decide) (fun c_2 => ?_) (fun c_2 => ?_)
  · refine g_iconst 0 d_Mod_isPower_22 (by decide) ?_
    refine Go.ret (some _) (by first | exact rOk_bI _ | exact rOk_b0 | exact rOk_b1) rfl d_Mod_isPower_23 ?_
    refine ⟨?_, rfl⟩
    simp_all [bI, -Int32.not_lt, -Int32.not_le, ← Int32.not_lt]
  · refine g_iload_n d_Mod_isPower_5 rfl ?_
    refine g_iload_n d_Mod_isPower_6 rfl ?_
    refine g_icmp_gt 22 d_Mod_isPower_7 (by decide) (fun c_7 => ?_) (fun c_7 => ?_)
    · refine g_iconst 0 d_Mod_isPower_22 (by decide) ?_
      refine Go.ret (some _) (by first | exact rOk_bI _ | exact rOk_b0 | exact rOk_b1) rfl d_Mod_isPower_23 ?_
      refine ⟨?_, rfl⟩
      simp_all [bI, -Int32.not_lt, -Int32.not_le, ← Int32.not_lt]
    · refine g_iload_n d_Mod_isPower_10 rfl ?_
      refine g_iload_n d_Mod_isPower_11 rfl ?_
      refine g_iconst 1 d_Mod_isPower_12 (by decide) ?_
      refine g_isub d_Mod_isPower_13 ?_
      refine g_iand d_Mod_isPower_14 ?_
      refine g_if_ne 22 d_Mod_isPower_15 (by decide) (fun c_15 => ?_) (fun c_15 => ?_)
      · refine g_iconst 0 d_Mod_isPower_22 (by decide) ?_
        refine Go.ret (some _) (by first | exact rOk_bI _ | exact rOk_b0 | exact rOk_b1) rfl d_Mod_isPower_23 ?_
        refine ⟨?_, rfl⟩
        simp_all [bI, -Int32.not_lt, -Int32.not_le, ← Int32.not_lt]
      · refine g_iconst 1 d_Mod_isPower_18 (by decide) ?_
        refine g_goto 23 d_Mod_isPower_19 (by decide) ?_
        refine Go.ret (some _) (by first | exact rOk_bI _ | exact rOk_b0 | exact rOk_b1) rfl d_Mod_isPower_23 ?_
        refine ⟨?_, rfl⟩
        simp_all [bI, -Int32.not_lt, -Int32.not_le, ← Int32.not_lt]
def moCounts (h : Hp) (x : Nat) : Hp := sI (sI (sI (sI (sI (sI (sI (sI (sI (sI (sI h 719 x 0) 720 x 0) 721 x 0) 722 x 0) 723 x 0) 724 x 0) 725 x 0) 727 x 0) 728 x 0) 729 x 0) 730 x 0
abbrev mi_Mod_clearCounts : MI := (⟨"WarpMillModel", "clearCounts", "()V"⟩, prog_13_method_13_code, 1, none, 0, 0)
def it_Mod_clearCounts_0 : List (Nat × ClassFile.Instr × Nat) := [(0, .aload_n 0, 1), (1, .iconst 0, 1), (2, .putfield 159, 3), (5, .aload_n 0, 1), (6, .iconst 0, 1), (7, .putfield 162, 3), (10, .aload_n 0, 1), (11, .iconst 0, 1), (12, .putfield 165, 3), (15, .aload_n 0, 1), (16, .iconst 0, 1), (17, .putfield 168, 3), (20, .aload_n 0, 1), (21, .iconst 0, 1), (22, .putfield 171, 3), (25, .aload_n 0, 1), (26, .iconst 0, 1), (27, .putfield 174, 3), (30, .aload_n 0, 1), (31, .iconst 0, 1), (32, .putfield 177, 3), (35, .aload_n 0, 1), (36, .iconst 0, 1), (37, .putfield 180, 3)]
theorem id_Mod_clearCounts_0 : ∀ q ∈ it_Mod_clearCounts_0, decode prog_13_method_13_code q.1 = .ok q.2 := by decide +kernel
theorem d_Mod_clearCounts_0 : decode prog_13_method_13_code 0 = .ok (.aload_n 0, 1) := id_Mod_clearCounts_0 (0, .aload_n 0, 1) (List.mem_of_getElem? (i := 0) rfl)
theorem d_Mod_clearCounts_1 : decode prog_13_method_13_code 1 = .ok (.iconst 0, 1) := id_Mod_clearCounts_0 (1, .iconst 0, 1) (List.mem_of_getElem? (i := 1) rfl)
theorem d_Mod_clearCounts_2 : decode prog_13_method_13_code 2 = .ok (.putfield 159, 3) := id_Mod_clearCounts_0 (2, .putfield 159, 3) (List.mem_of_getElem? (i := 2) rfl)
theorem d_Mod_clearCounts_5 : decode prog_13_method_13_code 5 = .ok (.aload_n 0, 1) := id_Mod_clearCounts_0 (5, .aload_n 0, 1) (List.mem_of_getElem? (i := 3) rfl)
theorem d_Mod_clearCounts_6 : decode prog_13_method_13_code 6 = .ok (.iconst 0, 1) := id_Mod_clearCounts_0 (6, .iconst 0, 1) (List.mem_of_getElem? (i := 4) rfl)
theorem d_Mod_clearCounts_7 : decode prog_13_method_13_code 7 = .ok (.putfield 162, 3) := id_Mod_clearCounts_0 (7, .putfield 162, 3) (List.mem_of_getElem? (i := 5) rfl)
theorem d_Mod_clearCounts_10 : decode prog_13_method_13_code 10 = .ok (.aload_n 0, 1) := id_Mod_clearCounts_0 (10, .aload_n 0, 1) (List.mem_of_getElem? (i := 6) rfl)
theorem d_Mod_clearCounts_11 : decode prog_13_method_13_code 11 = .ok (.iconst 0, 1) := id_Mod_clearCounts_0 (11, .iconst 0, 1) (List.mem_of_getElem? (i := 7) rfl)
theorem d_Mod_clearCounts_12 : decode prog_13_method_13_code 12 = .ok (.putfield 165, 3) := id_Mod_clearCounts_0 (12, .putfield 165, 3) (List.mem_of_getElem? (i := 8) rfl)
theorem d_Mod_clearCounts_15 : decode prog_13_method_13_code 15 = .ok (.aload_n 0, 1) := id_Mod_clearCounts_0 (15, .aload_n 0, 1) (List.mem_of_getElem? (i := 9) rfl)
theorem d_Mod_clearCounts_16 : decode prog_13_method_13_code 16 = .ok (.iconst 0, 1) := id_Mod_clearCounts_0 (16, .iconst 0, 1) (List.mem_of_getElem? (i := 10) rfl)
theorem d_Mod_clearCounts_17 : decode prog_13_method_13_code 17 = .ok (.putfield 168, 3) := id_Mod_clearCounts_0 (17, .putfield 168, 3) (List.mem_of_getElem? (i := 11) rfl)
theorem d_Mod_clearCounts_20 : decode prog_13_method_13_code 20 = .ok (.aload_n 0, 1) := id_Mod_clearCounts_0 (20, .aload_n 0, 1) (List.mem_of_getElem? (i := 12) rfl)
theorem d_Mod_clearCounts_21 : decode prog_13_method_13_code 21 = .ok (.iconst 0, 1) := id_Mod_clearCounts_0 (21, .iconst 0, 1) (List.mem_of_getElem? (i := 13) rfl)
theorem d_Mod_clearCounts_22 : decode prog_13_method_13_code 22 = .ok (.putfield 171, 3) := id_Mod_clearCounts_0 (22, .putfield 171, 3) (List.mem_of_getElem? (i := 14) rfl)
theorem d_Mod_clearCounts_25 : decode prog_13_method_13_code 25 = .ok (.aload_n 0, 1) := id_Mod_clearCounts_0 (25, .aload_n 0, 1) (List.mem_of_getElem? (i := 15) rfl)
theorem d_Mod_clearCounts_26 : decode prog_13_method_13_code 26 = .ok (.iconst 0, 1) := id_Mod_clearCounts_0 (26, .iconst 0, 1) (List.mem_of_getElem? (i := 16) rfl)
theorem d_Mod_clearCounts_27 : decode prog_13_method_13_code 27 = .ok (.putfield 174, 3) := id_Mod_clearCounts_0 (27, .putfield 174, 3) (List.mem_of_getElem? (i := 17) rfl)
theorem d_Mod_clearCounts_30 : decode prog_13_method_13_code 30 = .ok (.aload_n 0, 1) := id_Mod_clearCounts_0 (30, .aload_n 0, 1) (List.mem_of_getElem? (i := 18) rfl)
theorem d_Mod_clearCounts_31 : decode prog_13_method_13_code 31 = .ok (.iconst 0, 1) := id_Mod_clearCounts_0 (31, .iconst 0, 1) (List.mem_of_getElem? (i := 19) rfl)
theorem d_Mod_clearCounts_32 : decode prog_13_method_13_code 32 = .ok (.putfield 177, 3) := id_Mod_clearCounts_0 (32, .putfield 177, 3) (List.mem_of_getElem? (i := 20) rfl)
theorem d_Mod_clearCounts_35 : decode prog_13_method_13_code 35 = .ok (.aload_n 0, 1) := id_Mod_clearCounts_0 (35, .aload_n 0, 1) (List.mem_of_getElem? (i := 21) rfl)
theorem d_Mod_clearCounts_36 : decode prog_13_method_13_code 36 = .ok (.iconst 0, 1) := id_Mod_clearCounts_0 (36, .iconst 0, 1) (List.mem_of_getElem? (i := 22) rfl)
theorem d_Mod_clearCounts_37 : decode prog_13_method_13_code 37 = .ok (.putfield 180, 3) := id_Mod_clearCounts_0 (37, .putfield 180, 3) (List.mem_of_getElem? (i := 23) rfl)
def it_Mod_clearCounts_1 : List (Nat × ClassFile.Instr × Nat) := [(40, .aload_n 0, 1), (41, .iconst 0, 1), (42, .putfield 183, 3), (45, .aload_n 0, 1), (46, .iconst 0, 1), (47, .putfield 186, 3), (50, .aload_n 0, 1), (51, .iconst 0, 1), (52, .putfield 189, 3), (55, .return_, 1)]
theorem id_Mod_clearCounts_1 : ∀ q ∈ it_Mod_clearCounts_1, decode prog_13_method_13_code q.1 = .ok q.2 := by decide +kernel
theorem d_Mod_clearCounts_40 : decode prog_13_method_13_code 40 = .ok (.aload_n 0, 1) := id_Mod_clearCounts_1 (40, .aload_n 0, 1) (List.mem_of_getElem? (i := 0) rfl)
theorem d_Mod_clearCounts_41 : decode prog_13_method_13_code 41 = .ok (.iconst 0, 1) := id_Mod_clearCounts_1 (41, .iconst 0, 1) (List.mem_of_getElem? (i := 1) rfl)
theorem d_Mod_clearCounts_42 : decode prog_13_method_13_code 42 = .ok (.putfield 183, 3) := id_Mod_clearCounts_1 (42, .putfield 183, 3) (List.mem_of_getElem? (i := 2) rfl)
theorem d_Mod_clearCounts_45 : decode prog_13_method_13_code 45 = .ok (.aload_n 0, 1) := id_Mod_clearCounts_1 (45, .aload_n 0, 1) (List.mem_of_getElem? (i := 3) rfl)
theorem d_Mod_clearCounts_46 : decode prog_13_method_13_code 46 = .ok (.iconst 0, 1) := id_Mod_clearCounts_1 (46, .iconst 0, 1) (List.mem_of_getElem? (i := 4) rfl)
theorem d_Mod_clearCounts_47 : decode prog_13_method_13_code 47 = .ok (.putfield 186, 3) := id_Mod_clearCounts_1 (47, .putfield 186, 3) (List.mem_of_getElem? (i := 5) rfl)
theorem d_Mod_clearCounts_50 : decode prog_13_method_13_code 50 = .ok (.aload_n 0, 1) := id_Mod_clearCounts_1 (50, .aload_n 0, 1) (List.mem_of_getElem? (i := 6) rfl)
theorem d_Mod_clearCounts_51 : decode prog_13_method_13_code 51 = .ok (.iconst 0, 1) := id_Mod_clearCounts_1 (51, .iconst 0, 1) (List.mem_of_getElem? (i := 7) rfl)
theorem d_Mod_clearCounts_52 : decode prog_13_method_13_code 52 = .ok (.putfield 189, 3) := id_Mod_clearCounts_1 (52, .putfield 189, 3) (List.mem_of_getElem? (i := 8) rfl)
theorem d_Mod_clearCounts_55 : decode prog_13_method_13_code 55 = .ok (.return_, 1) := id_Mod_clearCounts_1 (55, .return_, 1) (List.mem_of_getElem? (i := 9) rfl)
theorem wC_Mod_clearCounts : Cond.code ⟨"WarpMillModel", "clearCounts", "()V"⟩ prog_13_method_13_code 1 (none) ∈ lw_tb := mem_tb 1258 (by decide +kernel) rfl
set_option maxRecDepth 100000 in
set_option maxHeartbeats 4000000 in
theorem sp_Mod_clearCounts {G : Gl} {h : Hp} (x : Nat) (hx : hK h x = 12) : Ex G mi_Mod_clearCounts [.ref x] h (fun r h' => r = none ∧ h' = moCounts h x) := by
  refine Ex.of (by decide) (Nat.le_of_ble_eq_true rfl) ?_
  show Go G mi_Mod_clearCounts h _ h 0 [(0, .ref x)] []
  first | refine g_aload_n d_Mod_clearCounts_0 rfl ?_ | refine g_aload_nq d_Mod_clearCounts_0 rfl ?_
  refine g_iconst 0 d_Mod_clearCounts_1 (by decide) ?_
  refine fp_Mod_cycle lf_Mod_159 d_Mod_clearCounts_2 (by first | (simp only [hK_sI, hK_sR, hK_sA, hK_sQ, hK_sL, hK_fillA]; assumption) | assumption) ?_
  first | refine g_aload_n d_Mod_clearCounts_5 rfl ?_ | refine g_aload_nq d_Mod_clearCounts_5 rfl ?_
  refine g_iconst 0 d_Mod_clearCounts_6 (by decide) ?_
  refine fp_Mod_went lf_Mod_162 d_Mod_clearCounts_7 (by first | (simp only [hK_sI, hK_sR, hK_sA, hK_sQ, hK_sL, hK_fillA]; assumption) | assumption) ?_
  first | refine g_aload_n d_Mod_clearCounts_10 rfl ?_ | refine g_aload_nq d_Mod_clearCounts_10 rfl ?_
  refine g_iconst 0 d_Mod_clearCounts_11 (by decide) ?_
  refine fp_Mod_did lf_Mod_165 d_Mod_clearCounts_12 (by first | (simp only [hK_sI, hK_sR, hK_sA, hK_sQ, hK_sL, hK_fillA]; assumption) | assumption) ?_
  first | refine g_aload_n d_Mod_clearCounts_15 rfl ?_ | refine g_aload_nq d_Mod_clearCounts_15 rfl ?_
  refine g_iconst 0 d_Mod_clearCounts_16 (by decide) ?_
  refine fp_Mod_partly lf_Mod_168 d_Mod_clearCounts_17 (by first | (simp only [hK_sI, hK_sR, hK_sA, hK_sQ, hK_sL, hK_fillA]; assumption) | assumption) ?_
  first | refine g_aload_n d_Mod_clearCounts_20 rfl ?_ | refine g_aload_nq d_Mod_clearCounts_20 rfl ?_
  refine g_iconst 0 d_Mod_clearCounts_21 (by decide) ?_
  refine fp_Mod_hits lf_Mod_171 d_Mod_clearCounts_22 (by first | (simp only [hK_sI, hK_sR, hK_sA, hK_sQ, hK_sL, hK_fillA]; assumption) | assumption) ?_
  first | refine g_aload_n d_Mod_clearCounts_25 rfl ?_ | refine g_aload_nq d_Mod_clearCounts_25 rfl ?_
  refine g_iconst 0 d_Mod_clearCounts_26 (by decide) ?_
  refine fp_Mod_others lf_Mod_174 d_Mod_clearCounts_27 (by first | (simp only [hK_sI, hK_sR, hK_sA, hK_sQ, hK_sL, hK_fillA]; assumption) | assumption) ?_
  first | refine g_aload_n d_Mod_clearCounts_30 rfl ?_ | refine g_aload_nq d_Mod_clearCounts_30 rfl ?_
  refine g_iconst 0 d_Mod_clearCounts_31 (by decide) ?_
  refine fp_Mod_ended lf_Mod_177 d_Mod_clearCounts_32 (by first | (simp only [hK_sI, hK_sR, hK_sA, hK_sQ, hK_sL, hK_fillA]; assumption) | assumption) ?_
  first | refine g_aload_n d_Mod_clearCounts_35 rfl ?_ | refine g_aload_nq d_Mod_clearCounts_35 rfl ?_
  refine g_iconst 0 d_Mod_clearCounts_36 (by decide) ?_
  refine fp_Mod_why lf_Mod_180 d_Mod_clearCounts_37 (by first | (simp only [hK_sI, hK_sR, hK_sA, hK_sQ, hK_sL, hK_fillA]; assumption) | assumption) ?_
  first | refine g_aload_n d_Mod_clearCounts_40 rfl ?_ | refine g_aload_nq d_Mod_clearCounts_40 rfl ?_
  refine g_iconst 0 d_Mod_clearCounts_41 (by decide) ?_
  refine fp_Mod_whyBlock lf_Mod_183 d_Mod_clearCounts_42 (by first | (simp only [hK_sI, hK_sR, hK_sA, hK_sQ, hK_sL, hK_fillA]; assumption) | assumption) ?_
  first | refine g_aload_n d_Mod_clearCounts_45 rfl ?_ | refine g_aload_nq d_Mod_clearCounts_45 rfl ?_
  refine g_iconst 0 d_Mod_clearCounts_46 (by decide) ?_
  refine fp_Mod_whyThread lf_Mod_186 d_Mod_clearCounts_47 (by first | (simp only [hK_sI, hK_sR, hK_sA, hK_sQ, hK_sL, hK_fillA]; assumption) | assumption) ?_
  first | refine g_aload_n d_Mod_clearCounts_50 rfl ?_ | refine g_aload_nq d_Mod_clearCounts_50 rfl ?_
  refine g_iconst 0 d_Mod_clearCounts_51 (by decide) ?_
  refine fp_Mod_whyPlace lf_Mod_189 d_Mod_clearCounts_52 (by first | (simp only [hK_sI, hK_sR, hK_sA, hK_sQ, hK_sL, hK_fillA]; assumption) | assumption) ?_
  refine Go.ret none trivial rfl d_Mod_clearCounts_55 ?_
  exact ⟨rfl, rfl⟩
abbrev mi_Mod_warps : MI := (⟨"WarpMillModel", "warps", "()I"⟩, prog_13_method_14_code, 1, some .int, 0, 0)
def it_Mod_warps_0 : List (Nat × ClassFile.Instr × Nat) := [(0, .aload_n 0, 1), (1, .getfield 153, 3), (4, .aload_n 0, 1), (5, .getfield 7, 3), (8, .iadd, 1), (9, .iconst 1, 1), (10, .isub, 1), (11, .aload_n 0, 1), (12, .getfield 7, 3), (15, .idiv, 1), (16, .ireturn, 1)]
theorem id_Mod_warps_0 : ∀ q ∈ it_Mod_warps_0, decode prog_13_method_14_code q.1 = .ok q.2 := by decide +kernel
theorem d_Mod_warps_0 : decode prog_13_method_14_code 0 = .ok (.aload_n 0, 1) := id_Mod_warps_0 (0, .aload_n 0, 1) (List.mem_of_getElem? (i := 0) rfl)
theorem d_Mod_warps_1 : decode prog_13_method_14_code 1 = .ok (.getfield 153, 3) := id_Mod_warps_0 (1, .getfield 153, 3) (List.mem_of_getElem? (i := 1) rfl)
theorem d_Mod_warps_4 : decode prog_13_method_14_code 4 = .ok (.aload_n 0, 1) := id_Mod_warps_0 (4, .aload_n 0, 1) (List.mem_of_getElem? (i := 2) rfl)
theorem d_Mod_warps_5 : decode prog_13_method_14_code 5 = .ok (.getfield 7, 3) := id_Mod_warps_0 (5, .getfield 7, 3) (List.mem_of_getElem? (i := 3) rfl)
theorem d_Mod_warps_8 : decode prog_13_method_14_code 8 = .ok (.iadd, 1) := id_Mod_warps_0 (8, .iadd, 1) (List.mem_of_getElem? (i := 4) rfl)
theorem d_Mod_warps_9 : decode prog_13_method_14_code 9 = .ok (.iconst 1, 1) := id_Mod_warps_0 (9, .iconst 1, 1) (List.mem_of_getElem? (i := 5) rfl)
theorem d_Mod_warps_10 : decode prog_13_method_14_code 10 = .ok (.isub, 1) := id_Mod_warps_0 (10, .isub, 1) (List.mem_of_getElem? (i := 6) rfl)
theorem d_Mod_warps_11 : decode prog_13_method_14_code 11 = .ok (.aload_n 0, 1) := id_Mod_warps_0 (11, .aload_n 0, 1) (List.mem_of_getElem? (i := 7) rfl)
theorem d_Mod_warps_12 : decode prog_13_method_14_code 12 = .ok (.getfield 7, 3) := id_Mod_warps_0 (12, .getfield 7, 3) (List.mem_of_getElem? (i := 8) rfl)
theorem d_Mod_warps_15 : decode prog_13_method_14_code 15 = .ok (.idiv, 1) := id_Mod_warps_0 (15, .idiv, 1) (List.mem_of_getElem? (i := 9) rfl)
theorem d_Mod_warps_16 : decode prog_13_method_14_code 16 = .ok (.ireturn, 1) := id_Mod_warps_0 (16, .ireturn, 1) (List.mem_of_getElem? (i := 10) rfl)
theorem wC_Mod_warps : Cond.code ⟨"WarpMillModel", "warps", "()I"⟩ prog_13_method_14_code 1 (some .int) ∈ lw_tb := mem_tb 1308 (by decide +kernel) rfl
set_option maxRecDepth 100000 in
set_option maxHeartbeats 4000000 in
theorem sp_Mod_warps {G : Gl} {h : Hp} (x : Nat) (hx : hK h x = 12) (hl : ¬ hI h 705 x = 0) : Ex G mi_Mod_warps [.ref x] h (fun r h' => r = some (.int ((hI h 717 x + hI h 705 x - 1) / hI h 705 x)) ∧ h' = h) := by
  refine Ex.of (by decide) (Nat.le_of_ble_eq_true rfl) ?_
  show Go G mi_Mod_warps h _ h 0 [(0, .ref x)] []
  first | refine g_aload_n d_Mod_warps_0 rfl ?_ | refine g_aload_nq d_Mod_warps_0 rfl ?_
  refine fg_Mod_threads lf_Mod_153 d_Mod_warps_1 (by first | (simp only [hK_sI, hK_sR, hK_sA, hK_sQ, hK_sL, hK_fillA]; assumption) | assumption) ?_
  first | refine g_aload_n d_Mod_warps_4 rfl ?_ | refine g_aload_nq d_Mod_warps_4 rfl ?_
  refine fg_Mod_lanes lf_Mod_7 d_Mod_warps_5 (by first | (simp only [hK_sI, hK_sR, hK_sA, hK_sQ, hK_sL, hK_fillA]; assumption) | assumption) ?_
  refine g_iadd d_Mod_warps_8 ?_
  refine g_iconst 1 d_Mod_warps_9 (by decide) ?_
  refine g_isub d_Mod_warps_10 ?_
  first | refine g_aload_n d_Mod_warps_11 rfl ?_ | refine g_aload_nq d_Mod_warps_11 rfl ?_
  refine fg_Mod_lanes lf_Mod_7 d_Mod_warps_12 (by first | (simp only [hK_sI, hK_sR, hK_sA, hK_sQ, hK_sL, hK_fillA]; assumption) | assumption) ?_
  refine g_idiv d_Mod_warps_15 (by assumption) ?_
  refine Go.ret (some _) (rOk_i _) rfl d_Mod_warps_16 ?_
  exact ⟨rfl, rfl⟩
abbrev mi_Mod_thread : MI := (⟨"WarpMillModel", "thread", "(II)I"⟩, prog_13_method_19_code, 2, some .int, 0, 0)
def it_Mod_thread_0 : List (Nat × ClassFile.Instr × Nat) := [(0, .bipush (32), 2), (2, .iload_n 0, 1), (3, .imul, 1), (4, .iload_n 1, 1), (5, .iadd, 1), (6, .ireturn, 1)]
theorem id_Mod_thread_0 : ∀ q ∈ it_Mod_thread_0, decode prog_13_method_19_code q.1 = .ok q.2 := by decide +kernel
theorem d_Mod_thread_0 : decode prog_13_method_19_code 0 = .ok (.bipush (32), 2) := id_Mod_thread_0 (0, .bipush (32), 2) (List.mem_of_getElem? (i := 0) rfl)
theorem d_Mod_thread_2 : decode prog_13_method_19_code 2 = .ok (.iload_n 0, 1) := id_Mod_thread_0 (2, .iload_n 0, 1) (List.mem_of_getElem? (i := 1) rfl)
theorem d_Mod_thread_3 : decode prog_13_method_19_code 3 = .ok (.imul, 1) := id_Mod_thread_0 (3, .imul, 1) (List.mem_of_getElem? (i := 2) rfl)
theorem d_Mod_thread_4 : decode prog_13_method_19_code 4 = .ok (.iload_n 1, 1) := id_Mod_thread_0 (4, .iload_n 1, 1) (List.mem_of_getElem? (i := 3) rfl)
theorem d_Mod_thread_5 : decode prog_13_method_19_code 5 = .ok (.iadd, 1) := id_Mod_thread_0 (5, .iadd, 1) (List.mem_of_getElem? (i := 4) rfl)
theorem d_Mod_thread_6 : decode prog_13_method_19_code 6 = .ok (.ireturn, 1) := id_Mod_thread_0 (6, .ireturn, 1) (List.mem_of_getElem? (i := 5) rfl)
theorem wC_Mod_thread : Cond.code ⟨"WarpMillModel", "thread", "(II)I"⟩ prog_13_method_19_code 2 (some .int) ∈ lw_tb := mem_tb 1296 (by decide +kernel) rfl
set_option maxRecDepth 100000 in
set_option maxHeartbeats 4000000 in
theorem sp_Mod_thread {G : Gl} {h : Hp} (s l : Int32)  : Ex G mi_Mod_thread [.int s, .int l] h (fun r h' => r = some (.int (32 * s + l)) ∧ h' = h) := by
  refine Ex.of (by decide) (Nat.le_of_ble_eq_true rfl) ?_
  show Go G mi_Mod_thread h _ h 0 [(0, .int s), (1, .int l)] []
  refine g_bipush (32) d_Mod_thread_0 (by decide) ?_
  refine g_iload_n d_Mod_thread_2 rfl ?_
  refine g_imul d_Mod_thread_3 ?_
  refine g_iload_n d_Mod_thread_4 rfl ?_
  refine g_iadd d_Mod_thread_5 ?_
  refine Go.ret (some _) (rOk_i _) rfl d_Mod_thread_6 ?_
  exact ⟨rfl, rfl⟩
abbrev mi_Mod_isMemory : MI := (⟨"WarpMillModel", "isMemory", "()Z"⟩, prog_13_method_26_code, 1, some .boolean, 0, 0)
def it_Mod_isMemory_0 : List (Nat × ClassFile.Instr × Nat) := [(0, .aload_n 0, 1), (1, .getfield 220, 3), (4, .bipush (50), 2), (6, .if_icmp .lt (16), 3), (9, .aload_n 0, 1), (10, .getfield 220, 3), (13, .bipush (59), 2), (15, .if_icmp .gt (7), 3), (18, .iconst 1, 1), (19, .goto (4), 3), (22, .iconst 0, 1), (23, .ireturn, 1)]
theorem id_Mod_isMemory_0 : ∀ q ∈ it_Mod_isMemory_0, decode prog_13_method_26_code q.1 = .ok q.2 := by decide +kernel
theorem d_Mod_isMemory_0 : decode prog_13_method_26_code 0 = .ok (.aload_n 0, 1) := id_Mod_isMemory_0 (0, .aload_n 0, 1) (List.mem_of_getElem? (i := 0) rfl)
theorem d_Mod_isMemory_1 : decode prog_13_method_26_code 1 = .ok (.getfield 220, 3) := id_Mod_isMemory_0 (1, .getfield 220, 3) (List.mem_of_getElem? (i := 1) rfl)
theorem d_Mod_isMemory_4 : decode prog_13_method_26_code 4 = .ok (.bipush (50), 2) := id_Mod_isMemory_0 (4, .bipush (50), 2) (List.mem_of_getElem? (i := 2) rfl)
theorem d_Mod_isMemory_6 : decode prog_13_method_26_code 6 = .ok (.if_icmp .lt (16), 3) := id_Mod_isMemory_0 (6, .if_icmp .lt (16), 3) (List.mem_of_getElem? (i := 3) rfl)
theorem d_Mod_isMemory_9 : decode prog_13_method_26_code 9 = .ok (.aload_n 0, 1) := id_Mod_isMemory_0 (9, .aload_n 0, 1) (List.mem_of_getElem? (i := 4) rfl)
theorem d_Mod_isMemory_10 : decode prog_13_method_26_code 10 = .ok (.getfield 220, 3) := id_Mod_isMemory_0 (10, .getfield 220, 3) (List.mem_of_getElem? (i := 5) rfl)
theorem d_Mod_isMemory_13 : decode prog_13_method_26_code 13 = .ok (.bipush (59), 2) := id_Mod_isMemory_0 (13, .bipush (59), 2) (List.mem_of_getElem? (i := 6) rfl)
theorem d_Mod_isMemory_15 : decode prog_13_method_26_code 15 = .ok (.if_icmp .gt (7), 3) := id_Mod_isMemory_0 (15, .if_icmp .gt (7), 3) (List.mem_of_getElem? (i := 7) rfl)
theorem d_Mod_isMemory_18 : decode prog_13_method_26_code 18 = .ok (.iconst 1, 1) := id_Mod_isMemory_0 (18, .iconst 1, 1) (List.mem_of_getElem? (i := 8) rfl)
theorem d_Mod_isMemory_19 : decode prog_13_method_26_code 19 = .ok (.goto (4), 3) := id_Mod_isMemory_0 (19, .goto (4), 3) (List.mem_of_getElem? (i := 9) rfl)
theorem d_Mod_isMemory_22 : decode prog_13_method_26_code 22 = .ok (.iconst 0, 1) := id_Mod_isMemory_0 (22, .iconst 0, 1) (List.mem_of_getElem? (i := 10) rfl)
theorem d_Mod_isMemory_23 : decode prog_13_method_26_code 23 = .ok (.ireturn, 1) := id_Mod_isMemory_0 (23, .ireturn, 1) (List.mem_of_getElem? (i := 11) rfl)
theorem wC_Mod_isMemory : Cond.code ⟨"WarpMillModel", "isMemory", "()Z"⟩ prog_13_method_26_code 1 (some .boolean) ∈ lw_tb := mem_tb 1366 (by decide +kernel) rfl
set_option maxRecDepth 100000 in
set_option maxHeartbeats 4000000 in
theorem sp_Mod_isMemory {G : Gl} {h : Hp} (x : Nat) (hx : hK h x = 12) : Ex G mi_Mod_isMemory [.ref x] h (fun r h' => r = some (.int (bI (50 ≤ hI h 756 x ∧ hI h 756 x ≤ 59))) ∧ h' = h) := by
  refine Ex.of (by decide) (Nat.le_of_ble_eq_true rfl) ?_
  show Go G mi_Mod_isMemory h _ h 0 [(0, .ref x)] []
  first | refine g_aload_n d_Mod_isMemory_0 rfl ?_ | refine g_aload_nq d_Mod_isMemory_0 rfl ?_
  refine fg_Mod_op lf_Mod_220 d_Mod_isMemory_1 (by first | (simp only [hK_sI, hK_sR, hK_sA, hK_sQ, hK_sL, hK_fillA]; assumption) | assumption) ?_
  refine g_bipush (50) d_Mod_isMemory_4 (by decide) ?_
  refine g_icmp_lt 22 d_Mod_isMemory_6 (by decide) (fun c_6 => ?_) (fun c_6 => ?_)
  · refine g_iconst 0 d_Mod_isMemory_22 (by decide) ?_
    refine Go.ret (some _) (by first | exact rOk_bI _ | exact rOk_b0 | exact rOk_b1) rfl d_Mod_isMemory_23 ?_
    refine ⟨?_, rfl⟩
    simp_all [bI, -Int32.not_lt, -Int32.not_le, ← Int32.not_lt]
  · first | refine g_aload_n d_Mod_isMemory_9 rfl ?_ | refine g_aload_nq d_Mod_isMemory_9 rfl ?_
    refine fg_Mod_op lf_Mod_220 d_Mod_isMemory_10 (by first | (simp only [hK_sI, hK_sR, hK_sA, hK_sQ, hK_sL, hK_fillA]; assumption) | assumption) ?_
    refine g_bipush (59) d_Mod_isMemory_13 (by decide) ?_
    refine g_icmp_gt 22 d_Mod_isMemory_15 (by decide) (fun c_15 => ?_) (fun c_15 => ?_)
    · refine g_iconst 0 d_Mod_isMemory_22 (by decide) ?_
      refine Go.ret (some _) (by first | exact rOk_bI _ | exact rOk_b0 | exact rOk_b1) rfl d_Mod_isMemory_23 ?_
      refine ⟨?_, rfl⟩
      simp_all [bI, -Int32.not_lt, -Int32.not_le, ← Int32.not_lt]
    · refine g_iconst 1 d_Mod_isMemory_18 (by decide) ?_
      refine g_goto 23 d_Mod_isMemory_19 (by decide) ?_
      refine Go.ret (some _) (by first | exact rOk_bI _ | exact rOk_b0 | exact rOk_b1) rfl d_Mod_isMemory_23 ?_
      refine ⟨?_, rfl⟩
      simp_all [bI, -Int32.not_lt, -Int32.not_le, ← Int32.not_lt]
abbrev mi_Mod_isShared : MI := (⟨"WarpMillModel", "isShared", "()Z"⟩, prog_13_method_27_code, 1, some .boolean, 0, 0)
def it_Mod_isShared_0 : List (Nat × ClassFile.Instr × Nat) := [(0, .aload_n 0, 1), (1, .getfield 220, 3), (4, .bipush (52), 2), (6, .if_icmp .eq (30), 3), (9, .aload_n 0, 1), (10, .getfield 220, 3), (13, .bipush (53), 2), (15, .if_icmp .eq (21), 3), (18, .aload_n 0, 1), (19, .getfield 220, 3), (22, .bipush (58), 2), (24, .if_icmp .eq (12), 3), (27, .aload_n 0, 1), (28, .getfield 220, 3), (31, .bipush (59), 2), (33, .if_icmp .ne (7), 3), (36, .iconst 1, 1), (37, .goto (4), 3), (40, .iconst 0, 1), (41, .ireturn, 1)]
theorem id_Mod_isShared_0 : ∀ q ∈ it_Mod_isShared_0, decode prog_13_method_27_code q.1 = .ok q.2 := by decide +kernel
theorem d_Mod_isShared_0 : decode prog_13_method_27_code 0 = .ok (.aload_n 0, 1) := id_Mod_isShared_0 (0, .aload_n 0, 1) (List.mem_of_getElem? (i := 0) rfl)
theorem d_Mod_isShared_1 : decode prog_13_method_27_code 1 = .ok (.getfield 220, 3) := id_Mod_isShared_0 (1, .getfield 220, 3) (List.mem_of_getElem? (i := 1) rfl)
theorem d_Mod_isShared_4 : decode prog_13_method_27_code 4 = .ok (.bipush (52), 2) := id_Mod_isShared_0 (4, .bipush (52), 2) (List.mem_of_getElem? (i := 2) rfl)
theorem d_Mod_isShared_6 : decode prog_13_method_27_code 6 = .ok (.if_icmp .eq (30), 3) := id_Mod_isShared_0 (6, .if_icmp .eq (30), 3) (List.mem_of_getElem? (i := 3) rfl)
theorem d_Mod_isShared_9 : decode prog_13_method_27_code 9 = .ok (.aload_n 0, 1) := id_Mod_isShared_0 (9, .aload_n 0, 1) (List.mem_of_getElem? (i := 4) rfl)
theorem d_Mod_isShared_10 : decode prog_13_method_27_code 10 = .ok (.getfield 220, 3) := id_Mod_isShared_0 (10, .getfield 220, 3) (List.mem_of_getElem? (i := 5) rfl)
theorem d_Mod_isShared_13 : decode prog_13_method_27_code 13 = .ok (.bipush (53), 2) := id_Mod_isShared_0 (13, .bipush (53), 2) (List.mem_of_getElem? (i := 6) rfl)
theorem d_Mod_isShared_15 : decode prog_13_method_27_code 15 = .ok (.if_icmp .eq (21), 3) := id_Mod_isShared_0 (15, .if_icmp .eq (21), 3) (List.mem_of_getElem? (i := 7) rfl)
theorem d_Mod_isShared_18 : decode prog_13_method_27_code 18 = .ok (.aload_n 0, 1) := id_Mod_isShared_0 (18, .aload_n 0, 1) (List.mem_of_getElem? (i := 8) rfl)
theorem d_Mod_isShared_19 : decode prog_13_method_27_code 19 = .ok (.getfield 220, 3) := id_Mod_isShared_0 (19, .getfield 220, 3) (List.mem_of_getElem? (i := 9) rfl)
theorem d_Mod_isShared_22 : decode prog_13_method_27_code 22 = .ok (.bipush (58), 2) := id_Mod_isShared_0 (22, .bipush (58), 2) (List.mem_of_getElem? (i := 10) rfl)
theorem d_Mod_isShared_24 : decode prog_13_method_27_code 24 = .ok (.if_icmp .eq (12), 3) := id_Mod_isShared_0 (24, .if_icmp .eq (12), 3) (List.mem_of_getElem? (i := 11) rfl)
theorem d_Mod_isShared_27 : decode prog_13_method_27_code 27 = .ok (.aload_n 0, 1) := id_Mod_isShared_0 (27, .aload_n 0, 1) (List.mem_of_getElem? (i := 12) rfl)
theorem d_Mod_isShared_28 : decode prog_13_method_27_code 28 = .ok (.getfield 220, 3) := id_Mod_isShared_0 (28, .getfield 220, 3) (List.mem_of_getElem? (i := 13) rfl)
theorem d_Mod_isShared_31 : decode prog_13_method_27_code 31 = .ok (.bipush (59), 2) := id_Mod_isShared_0 (31, .bipush (59), 2) (List.mem_of_getElem? (i := 14) rfl)
theorem d_Mod_isShared_33 : decode prog_13_method_27_code 33 = .ok (.if_icmp .ne (7), 3) := id_Mod_isShared_0 (33, .if_icmp .ne (7), 3) (List.mem_of_getElem? (i := 15) rfl)
theorem d_Mod_isShared_36 : decode prog_13_method_27_code 36 = .ok (.iconst 1, 1) := id_Mod_isShared_0 (36, .iconst 1, 1) (List.mem_of_getElem? (i := 16) rfl)
theorem d_Mod_isShared_37 : decode prog_13_method_27_code 37 = .ok (.goto (4), 3) := id_Mod_isShared_0 (37, .goto (4), 3) (List.mem_of_getElem? (i := 17) rfl)
theorem d_Mod_isShared_40 : decode prog_13_method_27_code 40 = .ok (.iconst 0, 1) := id_Mod_isShared_0 (40, .iconst 0, 1) (List.mem_of_getElem? (i := 18) rfl)
theorem d_Mod_isShared_41 : decode prog_13_method_27_code 41 = .ok (.ireturn, 1) := id_Mod_isShared_0 (41, .ireturn, 1) (List.mem_of_getElem? (i := 19) rfl)
theorem wC_Mod_isShared : Cond.code ⟨"WarpMillModel", "isShared", "()Z"⟩ prog_13_method_27_code 1 (some .boolean) ∈ lw_tb := mem_tb 1382 (by decide +kernel) rfl
set_option maxRecDepth 100000 in
set_option maxHeartbeats 4000000 in
theorem sp_Mod_isShared {G : Gl} {h : Hp} (x : Nat) (hx : hK h x = 12) : Ex G mi_Mod_isShared [.ref x] h (fun r h' => r = some (.int (bI (hI h 756 x = 52 ∨ hI h 756 x = 53 ∨ hI h 756 x = 58 ∨ hI h 756 x = 59))) ∧ h' = h) := by
  refine Ex.of (by decide) (Nat.le_of_ble_eq_true rfl) ?_
  show Go G mi_Mod_isShared h _ h 0 [(0, .ref x)] []
  first | refine g_aload_n d_Mod_isShared_0 rfl ?_ | refine g_aload_nq d_Mod_isShared_0 rfl ?_
  refine fg_Mod_op lf_Mod_220 d_Mod_isShared_1 (by first | (simp only [hK_sI, hK_sR, hK_sA, hK_sQ, hK_sL, hK_fillA]; assumption) | assumption) ?_
  refine g_bipush (52) d_Mod_isShared_4 (by decide) ?_
  refine g_icmp_eq 36 d_Mod_isShared_6 (by decide) (fun c_6 => ?_) (fun c_6 => ?_)
  · refine g_iconst 1 d_Mod_isShared_36 (by decide) ?_
    refine g_goto 41 d_Mod_isShared_37 (by decide) ?_
    refine Go.ret (some _) (by first | exact rOk_bI _ | exact rOk_b0 | exact rOk_b1) rfl d_Mod_isShared_41 ?_
    refine ⟨?_, rfl⟩
    simp_all [bI, -Int32.not_lt, -Int32.not_le, ← Int32.not_lt]
  · first | refine g_aload_n d_Mod_isShared_9 rfl ?_ | refine g_aload_nq d_Mod_isShared_9 rfl ?_
    refine fg_Mod_op lf_Mod_220 d_Mod_isShared_10 (by first | (simp only [hK_sI, hK_sR, hK_sA, hK_sQ, hK_sL, hK_fillA]; assumption) | assumption) ?_
    refine g_bipush (53) d_Mod_isShared_13 (by decide) ?_
    refine g_icmp_eq 36 d_Mod_isShared_15 (by decide) (fun c_15 => ?_) (fun c_15 => ?_)
    · refine g_iconst 1 d_Mod_isShared_36 (by decide) ?_
      refine g_goto 41 d_Mod_isShared_37 (by decide) ?_
      refine Go.ret (some _) (by first | exact rOk_bI _ | exact rOk_b0 | exact rOk_b1) rfl d_Mod_isShared_41 ?_
      refine ⟨?_, rfl⟩
      simp_all [bI, -Int32.not_lt, -Int32.not_le, ← Int32.not_lt]
    · first | refine g_aload_n d_Mod_isShared_18 rfl ?_ | refine g_aload_nq d_Mod_isShared_18 rfl ?_
      refine fg_Mod_op lf_Mod_220 d_Mod_isShared_19 (by first | (simp only [hK_sI, hK_sR, hK_sA, hK_sQ, hK_sL, hK_fillA]; assumption) | assumption) ?_
      refine g_bipush (58) d_Mod_isShared_22 (by decide) ?_
      refine g_icmp_eq 36 d_Mod_isShared_24 (by decide) (fun c_24 => ?_) (fun c_24 => ?_)
      · refine g_iconst 1 d_Mod_isShared_36 (by decide) ?_
        refine g_goto 41 d_Mod_isShared_37 (by decide) ?_
        refine Go.ret (some _) (by first | exact rOk_bI _ | exact rOk_b0 | exact rOk_b1) rfl d_Mod_isShared_41 ?_
        refine ⟨?_, rfl⟩
        simp_all [bI, -Int32.not_lt, -Int32.not_le, ← Int32.not_lt]
      · first | refine g_aload_n d_Mod_isShared_27 rfl ?_ | refine g_aload_nq d_Mod_isShared_27 rfl ?_
        refine fg_Mod_op lf_Mod_220 d_Mod_isShared_28 (by first | (simp only [hK_sI, hK_sR, hK_sA, hK_sQ, hK_sL, hK_fillA]; assumption) | assumption) ?_
        refine g_bipush (59) d_Mod_isShared_31 (by decide) ?_
        refine g_icmp_ne 40 d_Mod_isShared_33 (by decide) (fun c_33 => ?_) (fun c_33 => ?_)
        · refine g_iconst 0 d_Mod_isShared_40 (by decide) ?_
          refine Go.ret (some _) (by first | exact rOk_bI _ | exact rOk_b0 | exact rOk_b1) rfl d_Mod_isShared_41 ?_
          refine ⟨?_, rfl⟩
          simp_all [bI, -Int32.not_lt, -Int32.not_le, ← Int32.not_lt]
        · refine g_iconst 1 d_Mod_isShared_36 (by decide) ?_
          refine g_goto 41 d_Mod_isShared_37 (by decide) ?_
          refine Go.ret (some _) (by first | exact rOk_bI _ | exact rOk_b0 | exact rOk_b1) rfl d_Mod_isShared_41 ?_
          refine ⟨?_, rfl⟩
          simp_all [bI, -Int32.not_lt, -Int32.not_le, ← Int32.not_lt]
abbrev mi_Mod_writesPredicate : MI := (⟨"WarpMillModel", "writesPredicate", "()Z"⟩, prog_13_method_31_code, 1, some .boolean, 0, 0)
def it_Mod_writesPredicate_0 : List (Nat × ClassFile.Instr × Nat) := [(0, .aload_n 0, 1), (1, .getfield 220, 3), (4, .bipush (30), 2), (6, .if_icmp .lt (12), 3), (9, .aload_n 0, 1), (10, .getfield 220, 3), (13, .bipush (36), 2), (15, .if_icmp .le (21), 3), (18, .aload_n 0, 1), (19, .getfield 220, 3), (22, .bipush (70), 2), (24, .if_icmp .eq (12), 3), (27, .aload_n 0, 1), (28, .getfield 220, 3), (31, .bipush (71), 2), (33, .if_icmp .ne (7), 3), (36, .iconst 1, 1), (37, .goto (4), 3), (40, .iconst 0, 1), (41, .ireturn, 1)]
theorem id_Mod_writesPredicate_0 : ∀ q ∈ it_Mod_writesPredicate_0, decode prog_13_method_31_code q.1 = .ok q.2 := by decide +kernel
theorem d_Mod_writesPredicate_0 : decode prog_13_method_31_code 0 = .ok (.aload_n 0, 1) := id_Mod_writesPredicate_0 (0, .aload_n 0, 1) (List.mem_of_getElem? (i := 0) rfl)
theorem d_Mod_writesPredicate_1 : decode prog_13_method_31_code 1 = .ok (.getfield 220, 3) := id_Mod_writesPredicate_0 (1, .getfield 220, 3) (List.mem_of_getElem? (i := 1) rfl)
theorem d_Mod_writesPredicate_4 : decode prog_13_method_31_code 4 = .ok (.bipush (30), 2) := id_Mod_writesPredicate_0 (4, .bipush (30), 2) (List.mem_of_getElem? (i := 2) rfl)
theorem d_Mod_writesPredicate_6 : decode prog_13_method_31_code 6 = .ok (.if_icmp .lt (12), 3) := id_Mod_writesPredicate_0 (6, .if_icmp .lt (12), 3) (List.mem_of_getElem? (i := 3) rfl)
theorem d_Mod_writesPredicate_9 : decode prog_13_method_31_code 9 = .ok (.aload_n 0, 1) := id_Mod_writesPredicate_0 (9, .aload_n 0, 1) (List.mem_of_getElem? (i := 4) rfl)
theorem d_Mod_writesPredicate_10 : decode prog_13_method_31_code 10 = .ok (.getfield 220, 3) := id_Mod_writesPredicate_0 (10, .getfield 220, 3) (List.mem_of_getElem? (i := 5) rfl)
theorem d_Mod_writesPredicate_13 : decode prog_13_method_31_code 13 = .ok (.bipush (36), 2) := id_Mod_writesPredicate_0 (13, .bipush (36), 2) (List.mem_of_getElem? (i := 6) rfl)
theorem d_Mod_writesPredicate_15 : decode prog_13_method_31_code 15 = .ok (.if_icmp .le (21), 3) := id_Mod_writesPredicate_0 (15, .if_icmp .le (21), 3) (List.mem_of_getElem? (i := 7) rfl)
theorem d_Mod_writesPredicate_18 : decode prog_13_method_31_code 18 = .ok (.aload_n 0, 1) := id_Mod_writesPredicate_0 (18, .aload_n 0, 1) (List.mem_of_getElem? (i := 8) rfl)
theorem d_Mod_writesPredicate_19 : decode prog_13_method_31_code 19 = .ok (.getfield 220, 3) := id_Mod_writesPredicate_0 (19, .getfield 220, 3) (List.mem_of_getElem? (i := 9) rfl)
theorem d_Mod_writesPredicate_22 : decode prog_13_method_31_code 22 = .ok (.bipush (70), 2) := id_Mod_writesPredicate_0 (22, .bipush (70), 2) (List.mem_of_getElem? (i := 10) rfl)
theorem d_Mod_writesPredicate_24 : decode prog_13_method_31_code 24 = .ok (.if_icmp .eq (12), 3) := id_Mod_writesPredicate_0 (24, .if_icmp .eq (12), 3) (List.mem_of_getElem? (i := 11) rfl)
theorem d_Mod_writesPredicate_27 : decode prog_13_method_31_code 27 = .ok (.aload_n 0, 1) := id_Mod_writesPredicate_0 (27, .aload_n 0, 1) (List.mem_of_getElem? (i := 12) rfl)
theorem d_Mod_writesPredicate_28 : decode prog_13_method_31_code 28 = .ok (.getfield 220, 3) := id_Mod_writesPredicate_0 (28, .getfield 220, 3) (List.mem_of_getElem? (i := 13) rfl)
theorem d_Mod_writesPredicate_31 : decode prog_13_method_31_code 31 = .ok (.bipush (71), 2) := id_Mod_writesPredicate_0 (31, .bipush (71), 2) (List.mem_of_getElem? (i := 14) rfl)
theorem d_Mod_writesPredicate_33 : decode prog_13_method_31_code 33 = .ok (.if_icmp .ne (7), 3) := id_Mod_writesPredicate_0 (33, .if_icmp .ne (7), 3) (List.mem_of_getElem? (i := 15) rfl)
theorem d_Mod_writesPredicate_36 : decode prog_13_method_31_code 36 = .ok (.iconst 1, 1) := id_Mod_writesPredicate_0 (36, .iconst 1, 1) (List.mem_of_getElem? (i := 16) rfl)
theorem d_Mod_writesPredicate_37 : decode prog_13_method_31_code 37 = .ok (.goto (4), 3) := id_Mod_writesPredicate_0 (37, .goto (4), 3) (List.mem_of_getElem? (i := 17) rfl)
theorem d_Mod_writesPredicate_40 : decode prog_13_method_31_code 40 = .ok (.iconst 0, 1) := id_Mod_writesPredicate_0 (40, .iconst 0, 1) (List.mem_of_getElem? (i := 18) rfl)
theorem d_Mod_writesPredicate_41 : decode prog_13_method_31_code 41 = .ok (.ireturn, 1) := id_Mod_writesPredicate_0 (41, .ireturn, 1) (List.mem_of_getElem? (i := 19) rfl)
theorem wC_Mod_writesPredicate : Cond.code ⟨"WarpMillModel", "writesPredicate", "()Z"⟩ prog_13_method_31_code 1 (some .boolean) ∈ lw_tb := mem_tb 1378 (by decide +kernel) rfl
set_option maxRecDepth 100000 in
set_option maxHeartbeats 4000000 in
theorem sp_Mod_writesPredicate {G : Gl} {h : Hp} (x : Nat) (hx : hK h x = 12) : Ex G mi_Mod_writesPredicate [.ref x] h (fun r h' => r = some (.int (bI (kWP (hI h 756 x)))) ∧ h' = h) := by
  refine Ex.of (by decide) (Nat.le_of_ble_eq_true rfl) ?_
  show Go G mi_Mod_writesPredicate h _ h 0 [(0, .ref x)] []
  first | refine g_aload_n d_Mod_writesPredicate_0 rfl ?_ | refine g_aload_nq d_Mod_writesPredicate_0 rfl ?_
  refine fg_Mod_op lf_Mod_220 d_Mod_writesPredicate_1 (by first | (simp only [hK_sI, hK_sR, hK_sA, hK_sQ, hK_sL, hK_fillA]; assumption) | assumption) ?_
  refine g_bipush (30) d_Mod_writesPredicate_4 (by decide) ?_
  refine g_icmp_lt 18 d_Mod_writesPredicate_6 (by decide) (fun c_6 => ?_) (fun c_6 => ?_)
  · first | refine g_aload_n d_Mod_writesPredicate_18 rfl ?_ | refine g_aload_nq d_Mod_writesPredicate_18 rfl ?_
    refine fg_Mod_op lf_Mod_220 d_Mod_writesPredicate_19 (by first | (simp only [hK_sI, hK_sR, hK_sA, hK_sQ, hK_sL, hK_fillA]; assumption) | assumption) ?_
    refine g_bipush (70) d_Mod_writesPredicate_22 (by decide) ?_
    refine g_icmp_eq 36 d_Mod_writesPredicate_24 (by decide) (fun c_24 => ?_) (fun c_24 => ?_)
    · refine g_iconst 1 d_Mod_writesPredicate_36 (by decide) ?_
      refine g_goto 41 d_Mod_writesPredicate_37 (by decide) ?_
      refine Go.ret (some _) (by first | exact rOk_bI _ | exact rOk_b0 | exact rOk_b1) rfl d_Mod_writesPredicate_41 ?_
      refine ⟨?_, rfl⟩
      simp_all [kWr, kPr, kWait, kKnown, kRA, kRB, kWP, kWD, bI, tk, -Int32.not_lt, -Int32.not_le, ← Int32.not_lt]
    · first | refine g_aload_n d_Mod_writesPredicate_27 rfl ?_ | refine g_aload_nq d_Mod_writesPredicate_27 rfl ?_
      refine fg_Mod_op lf_Mod_220 d_Mod_writesPredicate_28 (by first | (simp only [hK_sI, hK_sR, hK_sA, hK_sQ, hK_sL, hK_fillA]; assumption) | assumption) ?_
      refine g_bipush (71) d_Mod_writesPredicate_31 (by decide) ?_
      refine g_icmp_ne 40 d_Mod_writesPredicate_33 (by decide) (fun c_33 => ?_) (fun c_33 => ?_)
      · refine g_iconst 0 d_Mod_writesPredicate_40 (by decide) ?_
        refine Go.ret (some _) (by first | exact rOk_bI _ | exact rOk_b0 | exact rOk_b1) rfl d_Mod_writesPredicate_41 ?_
        refine ⟨?_, rfl⟩
        simp_all [kWr, kPr, kWait, kKnown, kRA, kRB, kWP, kWD, bI, tk, -Int32.not_lt, -Int32.not_le, ← Int32.not_lt]
      · refine g_iconst 1 d_Mod_writesPredicate_36 (by decide) ?_
        refine g_goto 41 d_Mod_writesPredicate_37 (by decide) ?_
        refine Go.ret (some _) (by first | exact rOk_bI _ | exact rOk_b0 | exact rOk_b1) rfl d_Mod_writesPredicate_41 ?_
        refine ⟨?_, rfl⟩
        simp_all [kWr, kPr, kWait, kKnown, kRA, kRB, kWP, kWD, bI, tk, -Int32.not_lt, -Int32.not_le, ← Int32.not_lt]
  · first | refine g_aload_n d_Mod_writesPredicate_9 rfl ?_ | refine g_aload_nq d_Mod_writesPredicate_9 rfl ?_
    refine fg_Mod_op lf_Mod_220 d_Mod_writesPredicate_10 (by first | (simp only [hK_sI, hK_sR, hK_sA, hK_sQ, hK_sL, hK_fillA]; assumption) | assumption) ?_
    refine g_bipush (36) d_Mod_writesPredicate_13 (by decide) ?_
    refine g_icmp_le 36 d_Mod_writesPredicate_15 (by decide) (fun c_15 => ?_) (fun c_15 => ?_)
    · refine g_iconst 1 d_Mod_writesPredicate_36 (by decide) ?_
      refine g_goto 41 d_Mod_writesPredicate_37 (by decide) ?_
      refine Go.ret (some _) (by first | exact rOk_bI _ | exact rOk_b0 | exact rOk_b1) rfl d_Mod_writesPredicate_41 ?_
      refine ⟨?_, rfl⟩
      simp_all [kWr, kPr, kWait, kKnown, kRA, kRB, kWP, kWD, bI, tk, -Int32.not_lt, -Int32.not_le, ← Int32.not_lt]
    · first | refine g_aload_n d_Mod_writesPredicate_18 rfl ?_ | refine g_aload_nq d_Mod_writesPredicate_18 rfl ?_
      refine fg_Mod_op lf_Mod_220 d_Mod_writesPredicate_19 (by first | (simp only [hK_sI, hK_sR, hK_sA, hK_sQ, hK_sL, hK_fillA]; assumption) | assumption) ?_
      refine g_bipush (70) d_Mod_writesPredicate_22 (by decide) ?_
      refine g_icmp_eq 36 d_Mod_writesPredicate_24 (by decide) (fun c_24 => ?_) (fun c_24 => ?_)
      · refine g_iconst 1 d_Mod_writesPredicate_36 (by decide) ?_
        refine g_goto 41 d_Mod_writesPredicate_37 (by decide) ?_
        refine Go.ret (some _) (by first | exact rOk_bI _ | exact rOk_b0 | exact rOk_b1) rfl d_Mod_writesPredicate_41 ?_
        refine ⟨?_, rfl⟩
        simp_all [kWr, kPr, kWait, kKnown, kRA, kRB, kWP, kWD, bI, tk, -Int32.not_lt, -Int32.not_le, ← Int32.not_lt]
      · first | refine g_aload_n d_Mod_writesPredicate_27 rfl ?_ | refine g_aload_nq d_Mod_writesPredicate_27 rfl ?_
        refine fg_Mod_op lf_Mod_220 d_Mod_writesPredicate_28 (by first | (simp only [hK_sI, hK_sR, hK_sA, hK_sQ, hK_sL, hK_fillA]; assumption) | assumption) ?_
        refine g_bipush (71) d_Mod_writesPredicate_31 (by decide) ?_
        refine g_icmp_ne 40 d_Mod_writesPredicate_33 (by decide) (fun c_33 => ?_) (fun c_33 => ?_)
        · refine g_iconst 0 d_Mod_writesPredicate_40 (by decide) ?_
          refine Go.ret (some _) (by first | exact rOk_bI _ | exact rOk_b0 | exact rOk_b1) rfl d_Mod_writesPredicate_41 ?_
          refine ⟨?_, rfl⟩
          simp_all [kWr, kPr, kWait, kKnown, kRA, kRB, kWP, kWD, bI, tk, -Int32.not_lt, -Int32.not_le, ← Int32.not_lt]
        · refine g_iconst 1 d_Mod_writesPredicate_36 (by decide) ?_
          refine g_goto 41 d_Mod_writesPredicate_37 (by decide) ?_
          refine Go.ret (some _) (by first | exact rOk_bI _ | exact rOk_b0 | exact rOk_b1) rfl d_Mod_writesPredicate_41 ?_
          refine ⟨?_, rfl⟩
          simp_all [kWr, kPr, kWait, kKnown, kRA, kRB, kWP, kWD, bI, tk, -Int32.not_lt, -Int32.not_le, ← Int32.not_lt]
abbrev mi_Mod_writesD : MI := (⟨"WarpMillModel", "writesD", "()Z"⟩, prog_13_method_30_code, 1, some .boolean, 0, 0)
def it_Mod_writesD_0 : List (Nat × ClassFile.Instr × Nat) := [(0, .aload_n 0, 1), (1, .getfield 220, 3), (4, .iconst 2, 1), (5, .if_icmp .lt (12), 3), (8, .aload_n 0, 1), (9, .getfield 220, 3), (12, .bipush (21), 2), (14, .if_icmp .le (66), 3), (17, .aload_n 0, 1), (18, .getfield 220, 3), (21, .bipush (41), 2), (23, .if_icmp .eq (57), 3), (26, .aload_n 0, 1), (27, .getfield 220, 3), (30, .bipush (50), 2), (32, .if_icmp .eq (48), 3), (35, .aload_n 0, 1), (36, .getfield 220, 3), (39, .bipush (52), 2), (41, .if_icmp .eq (39), 3), (44, .aload_n 0, 1), (45, .getfield 220, 3), (48, .bipush (54), 2), (50, .if_icmp .lt (12), 3)]
theorem id_Mod_writesD_0 : ∀ q ∈ it_Mod_writesD_0, decode prog_13_method_30_code q.1 = .ok q.2 := by decide +kernel
theorem d_Mod_writesD_0 : decode prog_13_method_30_code 0 = .ok (.aload_n 0, 1) := id_Mod_writesD_0 (0, .aload_n 0, 1) (List.mem_of_getElem? (i := 0) rfl)
theorem d_Mod_writesD_1 : decode prog_13_method_30_code 1 = .ok (.getfield 220, 3) := id_Mod_writesD_0 (1, .getfield 220, 3) (List.mem_of_getElem? (i := 1) rfl)
theorem d_Mod_writesD_4 : decode prog_13_method_30_code 4 = .ok (.iconst 2, 1) := id_Mod_writesD_0 (4, .iconst 2, 1) (List.mem_of_getElem? (i := 2) rfl)
theorem d_Mod_writesD_5 : decode prog_13_method_30_code 5 = .ok (.if_icmp .lt (12), 3) := id_Mod_writesD_0 (5, .if_icmp .lt (12), 3) (List.mem_of_getElem? (i := 3) rfl)
theorem d_Mod_writesD_8 : decode prog_13_method_30_code 8 = .ok (.aload_n 0, 1) := id_Mod_writesD_0 (8, .aload_n 0, 1) (List.mem_of_getElem? (i := 4) rfl)
theorem d_Mod_writesD_9 : decode prog_13_method_30_code 9 = .ok (.getfield 220, 3) := id_Mod_writesD_0 (9, .getfield 220, 3) (List.mem_of_getElem? (i := 5) rfl)
theorem d_Mod_writesD_12 : decode prog_13_method_30_code 12 = .ok (.bipush (21), 2) := id_Mod_writesD_0 (12, .bipush (21), 2) (List.mem_of_getElem? (i := 6) rfl)
theorem d_Mod_writesD_14 : decode prog_13_method_30_code 14 = .ok (.if_icmp .le (66), 3) := id_Mod_writesD_0 (14, .if_icmp .le (66), 3) (List.mem_of_getElem? (i := 7) rfl)
theorem d_Mod_writesD_17 : decode prog_13_method_30_code 17 = .ok (.aload_n 0, 1) := id_Mod_writesD_0 (17, .aload_n 0, 1) (List.mem_of_getElem? (i := 8) rfl)
theorem d_Mod_writesD_18 : decode prog_13_method_30_code 18 = .ok (.getfield 220, 3) := id_Mod_writesD_0 (18, .getfield 220, 3) (List.mem_of_getElem? (i := 9) rfl)
theorem d_Mod_writesD_21 : decode prog_13_method_30_code 21 = .ok (.bipush (41), 2) := id_Mod_writesD_0 (21, .bipush (41), 2) (List.mem_of_getElem? (i := 10) rfl)
theorem d_Mod_writesD_23 : decode prog_13_method_30_code 23 = .ok (.if_icmp .eq (57), 3) := id_Mod_writesD_0 (23, .if_icmp .eq (57), 3) (List.mem_of_getElem? (i := 11) rfl)
theorem d_Mod_writesD_26 : decode prog_13_method_30_code 26 = .ok (.aload_n 0, 1) := id_Mod_writesD_0 (26, .aload_n 0, 1) (List.mem_of_getElem? (i := 12) rfl)
theorem d_Mod_writesD_27 : decode prog_13_method_30_code 27 = .ok (.getfield 220, 3) := id_Mod_writesD_0 (27, .getfield 220, 3) (List.mem_of_getElem? (i := 13) rfl)
theorem d_Mod_writesD_30 : decode prog_13_method_30_code 30 = .ok (.bipush (50), 2) := id_Mod_writesD_0 (30, .bipush (50), 2) (List.mem_of_getElem? (i := 14) rfl)
theorem d_Mod_writesD_32 : decode prog_13_method_30_code 32 = .ok (.if_icmp .eq (48), 3) := id_Mod_writesD_0 (32, .if_icmp .eq (48), 3) (List.mem_of_getElem? (i := 15) rfl)
theorem d_Mod_writesD_35 : decode prog_13_method_30_code 35 = .ok (.aload_n 0, 1) := id_Mod_writesD_0 (35, .aload_n 0, 1) (List.mem_of_getElem? (i := 16) rfl)
theorem d_Mod_writesD_36 : decode prog_13_method_30_code 36 = .ok (.getfield 220, 3) := id_Mod_writesD_0 (36, .getfield 220, 3) (List.mem_of_getElem? (i := 17) rfl)
theorem d_Mod_writesD_39 : decode prog_13_method_30_code 39 = .ok (.bipush (52), 2) := id_Mod_writesD_0 (39, .bipush (52), 2) (List.mem_of_getElem? (i := 18) rfl)
theorem d_Mod_writesD_41 : decode prog_13_method_30_code 41 = .ok (.if_icmp .eq (39), 3) := id_Mod_writesD_0 (41, .if_icmp .eq (39), 3) (List.mem_of_getElem? (i := 19) rfl)
theorem d_Mod_writesD_44 : decode prog_13_method_30_code 44 = .ok (.aload_n 0, 1) := id_Mod_writesD_0 (44, .aload_n 0, 1) (List.mem_of_getElem? (i := 20) rfl)
theorem d_Mod_writesD_45 : decode prog_13_method_30_code 45 = .ok (.getfield 220, 3) := id_Mod_writesD_0 (45, .getfield 220, 3) (List.mem_of_getElem? (i := 21) rfl)
theorem d_Mod_writesD_48 : decode prog_13_method_30_code 48 = .ok (.bipush (54), 2) := id_Mod_writesD_0 (48, .bipush (54), 2) (List.mem_of_getElem? (i := 22) rfl)
theorem d_Mod_writesD_50 : decode prog_13_method_30_code 50 = .ok (.if_icmp .lt (12), 3) := id_Mod_writesD_0 (50, .if_icmp .lt (12), 3) (List.mem_of_getElem? (i := 23) rfl)
def it_Mod_writesD_1 : List (Nat × ClassFile.Instr × Nat) := [(53, .aload_n 0, 1), (54, .getfield 220, 3), (57, .bipush (59), 2), (59, .if_icmp .le (21), 3), (62, .aload_n 0, 1), (63, .getfield 220, 3), (66, .bipush (72), 2), (68, .if_icmp .eq (12), 3), (71, .aload_n 0, 1), (72, .getfield 220, 3), (75, .bipush (73), 2), (77, .if_icmp .ne (7), 3), (80, .iconst 1, 1), (81, .goto (4), 3), (84, .iconst 0, 1), (85, .ireturn, 1)]
theorem id_Mod_writesD_1 : ∀ q ∈ it_Mod_writesD_1, decode prog_13_method_30_code q.1 = .ok q.2 := by decide +kernel
theorem d_Mod_writesD_53 : decode prog_13_method_30_code 53 = .ok (.aload_n 0, 1) := id_Mod_writesD_1 (53, .aload_n 0, 1) (List.mem_of_getElem? (i := 0) rfl)
theorem d_Mod_writesD_54 : decode prog_13_method_30_code 54 = .ok (.getfield 220, 3) := id_Mod_writesD_1 (54, .getfield 220, 3) (List.mem_of_getElem? (i := 1) rfl)
theorem d_Mod_writesD_57 : decode prog_13_method_30_code 57 = .ok (.bipush (59), 2) := id_Mod_writesD_1 (57, .bipush (59), 2) (List.mem_of_getElem? (i := 2) rfl)
theorem d_Mod_writesD_59 : decode prog_13_method_30_code 59 = .ok (.if_icmp .le (21), 3) := id_Mod_writesD_1 (59, .if_icmp .le (21), 3) (List.mem_of_getElem? (i := 3) rfl)
theorem d_Mod_writesD_62 : decode prog_13_method_30_code 62 = .ok (.aload_n 0, 1) := id_Mod_writesD_1 (62, .aload_n 0, 1) (List.mem_of_getElem? (i := 4) rfl)
theorem d_Mod_writesD_63 : decode prog_13_method_30_code 63 = .ok (.getfield 220, 3) := id_Mod_writesD_1 (63, .getfield 220, 3) (List.mem_of_getElem? (i := 5) rfl)
theorem d_Mod_writesD_66 : decode prog_13_method_30_code 66 = .ok (.bipush (72), 2) := id_Mod_writesD_1 (66, .bipush (72), 2) (List.mem_of_getElem? (i := 6) rfl)
theorem d_Mod_writesD_68 : decode prog_13_method_30_code 68 = .ok (.if_icmp .eq (12), 3) := id_Mod_writesD_1 (68, .if_icmp .eq (12), 3) (List.mem_of_getElem? (i := 7) rfl)
theorem d_Mod_writesD_71 : decode prog_13_method_30_code 71 = .ok (.aload_n 0, 1) := id_Mod_writesD_1 (71, .aload_n 0, 1) (List.mem_of_getElem? (i := 8) rfl)
theorem d_Mod_writesD_72 : decode prog_13_method_30_code 72 = .ok (.getfield 220, 3) := id_Mod_writesD_1 (72, .getfield 220, 3) (List.mem_of_getElem? (i := 9) rfl)
theorem d_Mod_writesD_75 : decode prog_13_method_30_code 75 = .ok (.bipush (73), 2) := id_Mod_writesD_1 (75, .bipush (73), 2) (List.mem_of_getElem? (i := 10) rfl)
theorem d_Mod_writesD_77 : decode prog_13_method_30_code 77 = .ok (.if_icmp .ne (7), 3) := id_Mod_writesD_1 (77, .if_icmp .ne (7), 3) (List.mem_of_getElem? (i := 11) rfl)
theorem d_Mod_writesD_80 : decode prog_13_method_30_code 80 = .ok (.iconst 1, 1) := id_Mod_writesD_1 (80, .iconst 1, 1) (List.mem_of_getElem? (i := 12) rfl)
theorem d_Mod_writesD_81 : decode prog_13_method_30_code 81 = .ok (.goto (4), 3) := id_Mod_writesD_1 (81, .goto (4), 3) (List.mem_of_getElem? (i := 13) rfl)
theorem d_Mod_writesD_84 : decode prog_13_method_30_code 84 = .ok (.iconst 0, 1) := id_Mod_writesD_1 (84, .iconst 0, 1) (List.mem_of_getElem? (i := 14) rfl)
theorem d_Mod_writesD_85 : decode prog_13_method_30_code 85 = .ok (.ireturn, 1) := id_Mod_writesD_1 (85, .ireturn, 1) (List.mem_of_getElem? (i := 15) rfl)
theorem wC_Mod_writesD : Cond.code ⟨"WarpMillModel", "writesD", "()Z"⟩ prog_13_method_30_code 1 (some .boolean) ∈ lw_tb := mem_tb 1374 (by decide +kernel) rfl
set_option maxRecDepth 100000 in
set_option maxHeartbeats 4000000 in
theorem sp_Mod_writesD {G : Gl} {h : Hp} (x : Nat) (hx : hK h x = 12) : Ex G mi_Mod_writesD [.ref x] h (fun r h' => r = some (.int (bI (kWD (hI h 756 x)))) ∧ h' = h) := by
  refine Ex.of (by decide) (Nat.le_of_ble_eq_true rfl) ?_
  show Go G mi_Mod_writesD h _ h 0 [(0, .ref x)] []
  first | refine g_aload_n d_Mod_writesD_0 rfl ?_ | refine g_aload_nq d_Mod_writesD_0 rfl ?_
  refine fg_Mod_op lf_Mod_220 d_Mod_writesD_1 (by first | (simp only [hK_sI, hK_sR, hK_sA, hK_sQ, hK_sL, hK_fillA]; assumption) | assumption) ?_
  refine g_iconst 2 d_Mod_writesD_4 (by decide) ?_
  refine g_icmp_lt 17 d_Mod_writesD_5 (by decide) (fun c_5 => ?_) (fun c_5 => ?_)
  · first | refine g_aload_n d_Mod_writesD_17 rfl ?_ | refine g_aload_nq d_Mod_writesD_17 rfl ?_
    refine fg_Mod_op lf_Mod_220 d_Mod_writesD_18 (by first | (simp only [hK_sI, hK_sR, hK_sA, hK_sQ, hK_sL, hK_fillA]; assumption) | assumption) ?_
    refine g_bipush (41) d_Mod_writesD_21 (by decide) ?_
    refine g_icmp_eq 80 d_Mod_writesD_23 (by decide) (fun c_23 => ?_) (fun c_23 => ?_)
    · refine g_iconst 1 d_Mod_writesD_80 (by decide) ?_
      refine g_goto 85 d_Mod_writesD_81 (by decide) ?_
      refine Go.ret (some _) (by first | exact rOk_bI _ | exact rOk_b0 | exact rOk_b1) rfl d_Mod_writesD_85 ?_
      refine ⟨?_, rfl⟩
      simp_all [kWr, kPr, kWait, kKnown, kRA, kRB, kWP, kWD, bI, tk, -Int32.not_lt, -Int32.not_le, ← Int32.not_lt]
    · first | refine g_aload_n d_Mod_writesD_26 rfl ?_ | refine g_aload_nq d_Mod_writesD_26 rfl ?_
      refine fg_Mod_op lf_Mod_220 d_Mod_writesD_27 (by first | (simp only [hK_sI, hK_sR, hK_sA, hK_sQ, hK_sL, hK_fillA]; assumption) | assumption) ?_
      refine g_bipush (50) d_Mod_writesD_30 (by decide) ?_
      refine g_icmp_eq 80 d_Mod_writesD_32 (by decide) (fun c_32 => ?_) (fun c_32 => ?_)
      · refine g_iconst 1 d_Mod_writesD_80 (by decide) ?_
        refine g_goto 85 d_Mod_writesD_81 (by decide) ?_
        refine Go.ret (some _) (by first | exact rOk_bI _ | exact rOk_b0 | exact rOk_b1) rfl d_Mod_writesD_85 ?_
        refine ⟨?_, rfl⟩
        simp_all [kWr, kPr, kWait, kKnown, kRA, kRB, kWP, kWD, bI, tk, -Int32.not_lt, -Int32.not_le, ← Int32.not_lt]
      · first | refine g_aload_n d_Mod_writesD_35 rfl ?_ | refine g_aload_nq d_Mod_writesD_35 rfl ?_
        refine fg_Mod_op lf_Mod_220 d_Mod_writesD_36 (by first | (simp only [hK_sI, hK_sR, hK_sA, hK_sQ, hK_sL, hK_fillA]; assumption) | assumption) ?_
        refine g_bipush (52) d_Mod_writesD_39 (by decide) ?_
        refine g_icmp_eq 80 d_Mod_writesD_41 (by decide) (fun c_41 => ?_) (fun c_41 => ?_)
        · refine g_iconst 1 d_Mod_writesD_80 (by decide) ?_
          refine g_goto 85 d_Mod_writesD_81 (by decide) ?_
          refine Go.ret (some _) (by first | exact rOk_bI _ | exact rOk_b0 | exact rOk_b1) rfl d_Mod_writesD_85 ?_
          refine ⟨?_, rfl⟩
          simp_all [kWr, kPr, kWait, kKnown, kRA, kRB, kWP, kWD, bI, tk, -Int32.not_lt, -Int32.not_le, ← Int32.not_lt]
        · first | refine g_aload_n d_Mod_writesD_44 rfl ?_ | refine g_aload_nq d_Mod_writesD_44 rfl ?_
          refine fg_Mod_op lf_Mod_220 d_Mod_writesD_45 (by first | (simp only [hK_sI, hK_sR, hK_sA, hK_sQ, hK_sL, hK_fillA]; assumption) | assumption) ?_
          refine g_bipush (54) d_Mod_writesD_48 (by decide) ?_
          refine g_icmp_lt 62 d_Mod_writesD_50 (by decide) (fun c_50 => ?_) (fun c_50 => ?_)
          · first | refine g_aload_n d_Mod_writesD_62 rfl ?_ | refine g_aload_nq d_Mod_writesD_62 rfl ?_
            refine fg_Mod_op lf_Mod_220 d_Mod_writesD_63 (by first | (simp only [hK_sI, hK_sR, hK_sA, hK_sQ, hK_sL, hK_fillA]; assumption) | assumption) ?_
            refine g_bipush (72) d_Mod_writesD_66 (by decide) ?_
            refine g_icmp_eq 80 d_Mod_writesD_68 (by decide) (fun c_68 => ?_) (fun c_68 => ?_)
            · refine g_iconst 1 d_Mod_writesD_80 (by decide) ?_
              refine g_goto 85 d_Mod_writesD_81 (by decide) ?_
              refine Go.ret (some _) (by first | exact rOk_bI _ | exact rOk_b0 | exact rOk_b1) rfl d_Mod_writesD_85 ?_
              refine ⟨?_, rfl⟩
              simp_all [kWr, kPr, kWait, kKnown, kRA, kRB, kWP, kWD, bI, tk, -Int32.not_lt, -Int32.not_le, ← Int32.not_lt]
            · first | refine g_aload_n d_Mod_writesD_71 rfl ?_ | refine g_aload_nq d_Mod_writesD_71 rfl ?_
              refine fg_Mod_op lf_Mod_220 d_Mod_writesD_72 (by first | (simp only [hK_sI, hK_sR, hK_sA, hK_sQ, hK_sL, hK_fillA]; assumption) | assumption) ?_
              refine g_bipush (73) d_Mod_writesD_75 (by decide) ?_
              refine g_icmp_ne 84 d_Mod_writesD_77 (by decide) (fun c_77 => ?_) (fun c_77 => ?_)
              · refine g_iconst 0 d_Mod_writesD_84 (by decide) ?_
                refine Go.ret (some _) (by first | exact rOk_bI _ | exact rOk_b0 | exact rOk_b1) rfl d_Mod_writesD_85 ?_
                refine ⟨?_, rfl⟩
                simp_all [kWr, kPr, kWait, kKnown, kRA, kRB, kWP, kWD, bI, tk, -Int32.not_lt, -Int32.not_le, ← Int32.not_lt]
              · refine g_iconst 1 d_Mod_writesD_80 (by decide) ?_
                refine g_goto 85 d_Mod_writesD_81 (by decide) ?_
                refine Go.ret (some _) (by first | exact rOk_bI _ | exact rOk_b0 | exact rOk_b1) rfl d_Mod_writesD_85 ?_
                refine ⟨?_, rfl⟩
                simp_all [kWr, kPr, kWait, kKnown, kRA, kRB, kWP, kWD, bI, tk, -Int32.not_lt, -Int32.not_le, ← Int32.not_lt]
          · first | refine g_aload_n d_Mod_writesD_53 rfl ?_ | refine g_aload_nq d_Mod_writesD_53 rfl ?_
            refine fg_Mod_op lf_Mod_220 d_Mod_writesD_54 (by first | (simp only [hK_sI, hK_sR, hK_sA, hK_sQ, hK_sL, hK_fillA]; assumption) | assumption) ?_
            refine g_bipush (59) d_Mod_writesD_57 (by decide) ?_
            refine g_icmp_le 80 d_Mod_writesD_59 (by decide) (fun c_59 => ?_) (fun c_59 => ?_)
            · refine g_iconst 1 d_Mod_writesD_80 (by decide) ?_
              refine g_goto 85 d_Mod_writesD_81 (by decide) ?_
              refine Go.ret (some _) (by first | exact rOk_bI _ | exact rOk_b0 | exact rOk_b1) rfl d_Mod_writesD_85 ?_
              refine ⟨?_, rfl⟩
              simp_all [kWr, kPr, kWait, kKnown, kRA, kRB, kWP, kWD, bI, tk, -Int32.not_lt, -Int32.not_le, ← Int32.not_lt]
            · first | refine g_aload_n d_Mod_writesD_62 rfl ?_ | refine g_aload_nq d_Mod_writesD_62 rfl ?_
              refine fg_Mod_op lf_Mod_220 d_Mod_writesD_63 (by first | (simp only [hK_sI, hK_sR, hK_sA, hK_sQ, hK_sL, hK_fillA]; assumption) | assumption) ?_
              refine g_bipush (72) d_Mod_writesD_66 (by decide) ?_
              refine g_icmp_eq 80 d_Mod_writesD_68 (by decide) (fun c_68 => ?_) (fun c_68 => ?_)
              · refine g_iconst 1 d_Mod_writesD_80 (by decide) ?_
                refine g_goto 85 d_Mod_writesD_81 (by decide) ?_
                refine Go.ret (some _) (by first | exact rOk_bI _ | exact rOk_b0 | exact rOk_b1) rfl d_Mod_writesD_85 ?_
                refine ⟨?_, rfl⟩
                simp_all [kWr, kPr, kWait, kKnown, kRA, kRB, kWP, kWD, bI, tk, -Int32.not_lt, -Int32.not_le, ← Int32.not_lt]
              · first | refine g_aload_n d_Mod_writesD_71 rfl ?_ | refine g_aload_nq d_Mod_writesD_71 rfl ?_
                refine fg_Mod_op lf_Mod_220 d_Mod_writesD_72 (by first | (simp only [hK_sI, hK_sR, hK_sA, hK_sQ, hK_sL, hK_fillA]; assumption) | assumption) ?_
                refine g_bipush (73) d_Mod_writesD_75 (by decide) ?_
                refine g_icmp_ne 84 d_Mod_writesD_77 (by decide) (fun c_77 => ?_) (fun c_77 => ?_)
                · refine g_iconst 0 d_Mod_writesD_84 (by decide) ?_
                  refine Go.ret (some _) (by first | exact rOk_bI _ | exact rOk_b0 | exact rOk_b1) rfl d_Mod_writesD_85 ?_
                  refine ⟨?_, rfl⟩
                  simp_all [kWr, kPr, kWait, kKnown, kRA, kRB, kWP, kWD, bI, tk, -Int32.not_lt, -Int32.not_le, ← Int32.not_lt]
                · refine g_iconst 1 d_Mod_writesD_80 (by decide) ?_
                  refine g_goto 85 d_Mod_writesD_81 (by decide) ?_
                  refine Go.ret (some _) (by first | exact rOk_bI _ | exact rOk_b0 | exact rOk_b1) rfl d_Mod_writesD_85 ?_
                  refine ⟨?_, rfl⟩
                  simp_all [kWr, kPr, kWait, kKnown, kRA, kRB, kWP, kWD, bI, tk, -Int32.not_lt, -Int32.not_le, ← Int32.not_lt]
  · first | refine g_aload_n d_Mod_writesD_8 rfl ?_ | refine g_aload_nq d_Mod_writesD_8 rfl ?_
    refine fg_Mod_op lf_Mod_220 d_Mod_writesD_9 (by first | (simp only [hK_sI, hK_sR, hK_sA, hK_sQ, hK_sL, hK_fillA]; assumption) | assumption) ?_
    refine g_bipush (21) d_Mod_writesD_12 (by decide) ?_
    refine g_icmp_le 80 d_Mod_writesD_14 (by decide) (fun c_14 => ?_) (fun c_14 => ?_)
    · refine g_iconst 1 d_Mod_writesD_80 (by decide) ?_
      refine g_goto 85 d_Mod_writesD_81 (by decide) ?_
      refine Go.ret (some _) (by first | exact rOk_bI _ | exact rOk_b0 | exact rOk_b1) rfl d_Mod_writesD_85 ?_
      refine ⟨?_, rfl⟩
      simp_all [kWr, kPr, kWait, kKnown, kRA, kRB, kWP, kWD, bI, tk, -Int32.not_lt, -Int32.not_le, ← Int32.not_lt]
    · first | refine g_aload_n d_Mod_writesD_17 rfl ?_ | refine g_aload_nq d_Mod_writesD_17 rfl ?_
      refine fg_Mod_op lf_Mod_220 d_Mod_writesD_18 (by first | (simp only [hK_sI, hK_sR, hK_sA, hK_sQ, hK_sL, hK_fillA]; assumption) | assumption) ?_
      refine g_bipush (41) d_Mod_writesD_21 (by decide) ?_
      refine g_icmp_eq 80 d_Mod_writesD_23 (by decide) (fun c_23 => ?_) (fun c_23 => ?_)
      · refine g_iconst 1 d_Mod_writesD_80 (by decide) ?_
        refine g_goto 85 d_Mod_writesD_81 (by decide) ?_
        refine Go.ret (some _) (by first | exact rOk_bI _ | exact rOk_b0 | exact rOk_b1) rfl d_Mod_writesD_85 ?_
        refine ⟨?_, rfl⟩
        simp_all [kWr, kPr, kWait, kKnown, kRA, kRB, kWP, kWD, bI, tk, -Int32.not_lt, -Int32.not_le, ← Int32.not_lt]
      · first | refine g_aload_n d_Mod_writesD_26 rfl ?_ | refine g_aload_nq d_Mod_writesD_26 rfl ?_
        refine fg_Mod_op lf_Mod_220 d_Mod_writesD_27 (by first | (simp only [hK_sI, hK_sR, hK_sA, hK_sQ, hK_sL, hK_fillA]; assumption) | assumption) ?_
        refine g_bipush (50) d_Mod_writesD_30 (by decide) ?_
        refine g_icmp_eq 80 d_Mod_writesD_32 (by decide) (fun c_32 => ?_) (fun c_32 => ?_)
        · refine g_iconst 1 d_Mod_writesD_80 (by decide) ?_
          refine g_goto 85 d_Mod_writesD_81 (by decide) ?_
          refine Go.ret (some _) (by first | exact rOk_bI _ | exact rOk_b0 | exact rOk_b1) rfl d_Mod_writesD_85 ?_
          refine ⟨?_, rfl⟩
          simp_all [kWr, kPr, kWait, kKnown, kRA, kRB, kWP, kWD, bI, tk, -Int32.not_lt, -Int32.not_le, ← Int32.not_lt]
        · first | refine g_aload_n d_Mod_writesD_35 rfl ?_ | refine g_aload_nq d_Mod_writesD_35 rfl ?_
          refine fg_Mod_op lf_Mod_220 d_Mod_writesD_36 (by first | (simp only [hK_sI, hK_sR, hK_sA, hK_sQ, hK_sL, hK_fillA]; assumption) | assumption) ?_
          refine g_bipush (52) d_Mod_writesD_39 (by decide) ?_
          refine g_icmp_eq 80 d_Mod_writesD_41 (by decide) (fun c_41 => ?_) (fun c_41 => ?_)
          · refine g_iconst 1 d_Mod_writesD_80 (by decide) ?_
            refine g_goto 85 d_Mod_writesD_81 (by decide) ?_
            refine Go.ret (some _) (by first | exact rOk_bI _ | exact rOk_b0 | exact rOk_b1) rfl d_Mod_writesD_85 ?_
            refine ⟨?_, rfl⟩
            simp_all [kWr, kPr, kWait, kKnown, kRA, kRB, kWP, kWD, bI, tk, -Int32.not_lt, -Int32.not_le, ← Int32.not_lt]
          · first | refine g_aload_n d_Mod_writesD_44 rfl ?_ | refine g_aload_nq d_Mod_writesD_44 rfl ?_
            refine fg_Mod_op lf_Mod_220 d_Mod_writesD_45 (by first | (simp only [hK_sI, hK_sR, hK_sA, hK_sQ, hK_sL, hK_fillA]; assumption) | assumption) ?_
            refine g_bipush (54) d_Mod_writesD_48 (by decide) ?_
            refine g_icmp_lt 62 d_Mod_writesD_50 (by decide) (fun c_50 => ?_) (fun c_50 => ?_)
            · first | refine g_aload_n d_Mod_writesD_62 rfl ?_ | refine g_aload_nq d_Mod_writesD_62 rfl ?_
              refine fg_Mod_op lf_Mod_220 d_Mod_writesD_63 (by first | (simp only [hK_sI, hK_sR, hK_sA, hK_sQ, hK_sL, hK_fillA]; assumption) | assumption) ?_
              refine g_bipush (72) d_Mod_writesD_66 (by decide) ?_
              refine g_icmp_eq 80 d_Mod_writesD_68 (by decide) (fun c_68 => ?_) (fun c_68 => ?_)
              · refine g_iconst 1 d_Mod_writesD_80 (by decide) ?_
                refine g_goto 85 d_Mod_writesD_81 (by decide) ?_
                refine Go.ret (some _) (by first | exact rOk_bI _ | exact rOk_b0 | exact rOk_b1) rfl d_Mod_writesD_85 ?_
                refine ⟨?_, rfl⟩
                simp_all [kWr, kPr, kWait, kKnown, kRA, kRB, kWP, kWD, bI, tk, -Int32.not_lt, -Int32.not_le, ← Int32.not_lt]
              · first | refine g_aload_n d_Mod_writesD_71 rfl ?_ | refine g_aload_nq d_Mod_writesD_71 rfl ?_
                refine fg_Mod_op lf_Mod_220 d_Mod_writesD_72 (by first | (simp only [hK_sI, hK_sR, hK_sA, hK_sQ, hK_sL, hK_fillA]; assumption) | assumption) ?_
                refine g_bipush (73) d_Mod_writesD_75 (by decide) ?_
                refine g_icmp_ne 84 d_Mod_writesD_77 (by decide) (fun c_77 => ?_) (fun c_77 => ?_)
                · refine g_iconst 0 d_Mod_writesD_84 (by decide) ?_
                  refine Go.ret (some _) (by first | exact rOk_bI _ | exact rOk_b0 | exact rOk_b1) rfl d_Mod_writesD_85 ?_
                  refine ⟨?_, rfl⟩
                  simp_all [kWr, kPr, kWait, kKnown, kRA, kRB, kWP, kWD, bI, tk, -Int32.not_lt, -Int32.not_le, ← Int32.not_lt]
                · refine g_iconst 1 d_Mod_writesD_80 (by decide) ?_
                  refine g_goto 85 d_Mod_writesD_81 (by decide) ?_
                  refine Go.ret (some _) (by first | exact rOk_bI _ | exact rOk_b0 | exact rOk_b1) rfl d_Mod_writesD_85 ?_
                  refine ⟨?_, rfl⟩
                  simp_all [kWr, kPr, kWait, kKnown, kRA, kRB, kWP, kWD, bI, tk, -Int32.not_lt, -Int32.not_le, ← Int32.not_lt]
            · first | refine g_aload_n d_Mod_writesD_53 rfl ?_ | refine g_aload_nq d_Mod_writesD_53 rfl ?_
              refine fg_Mod_op lf_Mod_220 d_Mod_writesD_54 (by first | (simp only [hK_sI, hK_sR, hK_sA, hK_sQ, hK_sL, hK_fillA]; assumption) | assumption) ?_
              refine g_bipush (59) d_Mod_writesD_57 (by decide) ?_
              refine g_icmp_le 80 d_Mod_writesD_59 (by decide) (fun c_59 => ?_) (fun c_59 => ?_)
              · refine g_iconst 1 d_Mod_writesD_80 (by decide) ?_
                refine g_goto 85 d_Mod_writesD_81 (by decide) ?_
                refine Go.ret (some _) (by first | exact rOk_bI _ | exact rOk_b0 | exact rOk_b1) rfl d_Mod_writesD_85 ?_
                refine ⟨?_, rfl⟩
                simp_all [kWr, kPr, kWait, kKnown, kRA, kRB, kWP, kWD, bI, tk, -Int32.not_lt, -Int32.not_le, ← Int32.not_lt]
              · first | refine g_aload_n d_Mod_writesD_62 rfl ?_ | refine g_aload_nq d_Mod_writesD_62 rfl ?_
                refine fg_Mod_op lf_Mod_220 d_Mod_writesD_63 (by first | (simp only [hK_sI, hK_sR, hK_sA, hK_sQ, hK_sL, hK_fillA]; assumption) | assumption) ?_
                refine g_bipush (72) d_Mod_writesD_66 (by decide) ?_
                refine g_icmp_eq 80 d_Mod_writesD_68 (by decide) (fun c_68 => ?_) (fun c_68 => ?_)
                · refine g_iconst 1 d_Mod_writesD_80 (by decide) ?_
                  refine g_goto 85 d_Mod_writesD_81 (by decide) ?_
                  refine Go.ret (some _) (by first | exact rOk_bI _ | exact rOk_b0 | exact rOk_b1) rfl d_Mod_writesD_85 ?_
                  refine ⟨?_, rfl⟩
                  simp_all [kWr, kPr, kWait, kKnown, kRA, kRB, kWP, kWD, bI, tk, -Int32.not_lt, -Int32.not_le, ← Int32.not_lt]
                · first | refine g_aload_n d_Mod_writesD_71 rfl ?_ | refine g_aload_nq d_Mod_writesD_71 rfl ?_
                  refine fg_Mod_op lf_Mod_220 d_Mod_writesD_72 (by first | (simp only [hK_sI, hK_sR, hK_sA, hK_sQ, hK_sL, hK_fillA]; assumption) | assumption) ?_
                  refine g_bipush (73) d_Mod_writesD_75 (by decide) ?_
                  refine g_icmp_ne 84 d_Mod_writesD_77 (by decide) (fun c_77 => ?_) (fun c_77 => ?_)
                  · refine g_iconst 0 d_Mod_writesD_84 (by decide) ?_
                    refine Go.ret (some _) (by first | exact rOk_bI _ | exact rOk_b0 | exact rOk_b1) rfl d_Mod_writesD_85 ?_
                    refine ⟨?_, rfl⟩
                    simp_all [kWr, kPr, kWait, kKnown, kRA, kRB, kWP, kWD, bI, tk, -Int32.not_lt, -Int32.not_le, ← Int32.not_lt]
                  · refine g_iconst 1 d_Mod_writesD_80 (by decide) ?_
                    refine g_goto 85 d_Mod_writesD_81 (by decide) ?_
                    refine Go.ret (some _) (by first | exact rOk_bI _ | exact rOk_b0 | exact rOk_b1) rfl d_Mod_writesD_85 ?_
                    refine ⟨?_, rfl⟩
                    simp_all [kWr, kPr, kWait, kKnown, kRA, kRB, kWP, kWD, bI, tk, -Int32.not_lt, -Int32.not_le, ← Int32.not_lt]
abbrev mi_Mod_readsB : MI := (⟨"WarpMillModel", "readsB", "()Z"⟩, prog_13_method_29_code, 1, some .boolean, 0, 0)
def it_Mod_readsB_0 : List (Nat × ClassFile.Instr × Nat) := [(0, .aload_n 0, 1), (1, .getfield 220, 3), (4, .iconst 4, 1), (5, .if_icmp .lt (12), 3), (8, .aload_n 0, 1), (9, .getfield 220, 3), (12, .bipush (17), 2), (14, .if_icmp .le (57), 3), (17, .aload_n 0, 1), (18, .getfield 220, 3), (21, .bipush (21), 2), (23, .if_icmp .eq (48), 3), (26, .aload_n 0, 1), (27, .getfield 220, 3), (30, .bipush (30), 2), (32, .if_icmp .eq (39), 3), (35, .aload_n 0, 1), (36, .getfield 220, 3), (39, .bipush (31), 2), (41, .if_icmp .eq (30), 3), (44, .aload_n 0, 1), (45, .getfield 220, 3), (48, .bipush (51), 2), (50, .if_icmp .eq (21), 3)]
theorem id_Mod_readsB_0 : ∀ q ∈ it_Mod_readsB_0, decode prog_13_method_29_code q.1 = .ok q.2 := by decide +kernel
theorem d_Mod_readsB_0 : decode prog_13_method_29_code 0 = .ok (.aload_n 0, 1) := id_Mod_readsB_0 (0, .aload_n 0, 1) (List.mem_of_getElem? (i := 0) rfl)
theorem d_Mod_readsB_1 : decode prog_13_method_29_code 1 = .ok (.getfield 220, 3) := id_Mod_readsB_0 (1, .getfield 220, 3) (List.mem_of_getElem? (i := 1) rfl)
theorem d_Mod_readsB_4 : decode prog_13_method_29_code 4 = .ok (.iconst 4, 1) := id_Mod_readsB_0 (4, .iconst 4, 1) (List.mem_of_getElem? (i := 2) rfl)
theorem d_Mod_readsB_5 : decode prog_13_method_29_code 5 = .ok (.if_icmp .lt (12), 3) := id_Mod_readsB_0 (5, .if_icmp .lt (12), 3) (List.mem_of_getElem? (i := 3) rfl)
theorem d_Mod_readsB_8 : decode prog_13_method_29_code 8 = .ok (.aload_n 0, 1) := id_Mod_readsB_0 (8, .aload_n 0, 1) (List.mem_of_getElem? (i := 4) rfl)
theorem d_Mod_readsB_9 : decode prog_13_method_29_code 9 = .ok (.getfield 220, 3) := id_Mod_readsB_0 (9, .getfield 220, 3) (List.mem_of_getElem? (i := 5) rfl)
theorem d_Mod_readsB_12 : decode prog_13_method_29_code 12 = .ok (.bipush (17), 2) := id_Mod_readsB_0 (12, .bipush (17), 2) (List.mem_of_getElem? (i := 6) rfl)
theorem d_Mod_readsB_14 : decode prog_13_method_29_code 14 = .ok (.if_icmp .le (57), 3) := id_Mod_readsB_0 (14, .if_icmp .le (57), 3) (List.mem_of_getElem? (i := 7) rfl)
theorem d_Mod_readsB_17 : decode prog_13_method_29_code 17 = .ok (.aload_n 0, 1) := id_Mod_readsB_0 (17, .aload_n 0, 1) (List.mem_of_getElem? (i := 8) rfl)
theorem d_Mod_readsB_18 : decode prog_13_method_29_code 18 = .ok (.getfield 220, 3) := id_Mod_readsB_0 (18, .getfield 220, 3) (List.mem_of_getElem? (i := 9) rfl)
theorem d_Mod_readsB_21 : decode prog_13_method_29_code 21 = .ok (.bipush (21), 2) := id_Mod_readsB_0 (21, .bipush (21), 2) (List.mem_of_getElem? (i := 10) rfl)
theorem d_Mod_readsB_23 : decode prog_13_method_29_code 23 = .ok (.if_icmp .eq (48), 3) := id_Mod_readsB_0 (23, .if_icmp .eq (48), 3) (List.mem_of_getElem? (i := 11) rfl)
theorem d_Mod_readsB_26 : decode prog_13_method_29_code 26 = .ok (.aload_n 0, 1) := id_Mod_readsB_0 (26, .aload_n 0, 1) (List.mem_of_getElem? (i := 12) rfl)
theorem d_Mod_readsB_27 : decode prog_13_method_29_code 27 = .ok (.getfield 220, 3) := id_Mod_readsB_0 (27, .getfield 220, 3) (List.mem_of_getElem? (i := 13) rfl)
theorem d_Mod_readsB_30 : decode prog_13_method_29_code 30 = .ok (.bipush (30), 2) := id_Mod_readsB_0 (30, .bipush (30), 2) (List.mem_of_getElem? (i := 14) rfl)
theorem d_Mod_readsB_32 : decode prog_13_method_29_code 32 = .ok (.if_icmp .eq (39), 3) := id_Mod_readsB_0 (32, .if_icmp .eq (39), 3) (List.mem_of_getElem? (i := 15) rfl)
theorem d_Mod_readsB_35 : decode prog_13_method_29_code 35 = .ok (.aload_n 0, 1) := id_Mod_readsB_0 (35, .aload_n 0, 1) (List.mem_of_getElem? (i := 16) rfl)
theorem d_Mod_readsB_36 : decode prog_13_method_29_code 36 = .ok (.getfield 220, 3) := id_Mod_readsB_0 (36, .getfield 220, 3) (List.mem_of_getElem? (i := 17) rfl)
theorem d_Mod_readsB_39 : decode prog_13_method_29_code 39 = .ok (.bipush (31), 2) := id_Mod_readsB_0 (39, .bipush (31), 2) (List.mem_of_getElem? (i := 18) rfl)
theorem d_Mod_readsB_41 : decode prog_13_method_29_code 41 = .ok (.if_icmp .eq (30), 3) := id_Mod_readsB_0 (41, .if_icmp .eq (30), 3) (List.mem_of_getElem? (i := 19) rfl)
theorem d_Mod_readsB_44 : decode prog_13_method_29_code 44 = .ok (.aload_n 0, 1) := id_Mod_readsB_0 (44, .aload_n 0, 1) (List.mem_of_getElem? (i := 20) rfl)
theorem d_Mod_readsB_45 : decode prog_13_method_29_code 45 = .ok (.getfield 220, 3) := id_Mod_readsB_0 (45, .getfield 220, 3) (List.mem_of_getElem? (i := 21) rfl)
theorem d_Mod_readsB_48 : decode prog_13_method_29_code 48 = .ok (.bipush (51), 2) := id_Mod_readsB_0 (48, .bipush (51), 2) (List.mem_of_getElem? (i := 22) rfl)
theorem d_Mod_readsB_50 : decode prog_13_method_29_code 50 = .ok (.if_icmp .eq (21), 3) := id_Mod_readsB_0 (50, .if_icmp .eq (21), 3) (List.mem_of_getElem? (i := 23) rfl)
def it_Mod_readsB_1 : List (Nat × ClassFile.Instr × Nat) := [(53, .aload_n 0, 1), (54, .getfield 220, 3), (57, .bipush (53), 2), (59, .if_icmp .lt (16), 3), (62, .aload_n 0, 1), (63, .getfield 220, 3), (66, .bipush (59), 2), (68, .if_icmp .gt (7), 3), (71, .iconst 1, 1), (72, .goto (4), 3), (75, .iconst 0, 1), (76, .ireturn, 1)]
theorem id_Mod_readsB_1 : ∀ q ∈ it_Mod_readsB_1, decode prog_13_method_29_code q.1 = .ok q.2 := by decide +kernel
theorem d_Mod_readsB_53 : decode prog_13_method_29_code 53 = .ok (.aload_n 0, 1) := id_Mod_readsB_1 (53, .aload_n 0, 1) (List.mem_of_getElem? (i := 0) rfl)
theorem d_Mod_readsB_54 : decode prog_13_method_29_code 54 = .ok (.getfield 220, 3) := id_Mod_readsB_1 (54, .getfield 220, 3) (List.mem_of_getElem? (i := 1) rfl)
theorem d_Mod_readsB_57 : decode prog_13_method_29_code 57 = .ok (.bipush (53), 2) := id_Mod_readsB_1 (57, .bipush (53), 2) (List.mem_of_getElem? (i := 2) rfl)
theorem d_Mod_readsB_59 : decode prog_13_method_29_code 59 = .ok (.if_icmp .lt (16), 3) := id_Mod_readsB_1 (59, .if_icmp .lt (16), 3) (List.mem_of_getElem? (i := 3) rfl)
theorem d_Mod_readsB_62 : decode prog_13_method_29_code 62 = .ok (.aload_n 0, 1) := id_Mod_readsB_1 (62, .aload_n 0, 1) (List.mem_of_getElem? (i := 4) rfl)
theorem d_Mod_readsB_63 : decode prog_13_method_29_code 63 = .ok (.getfield 220, 3) := id_Mod_readsB_1 (63, .getfield 220, 3) (List.mem_of_getElem? (i := 5) rfl)
theorem d_Mod_readsB_66 : decode prog_13_method_29_code 66 = .ok (.bipush (59), 2) := id_Mod_readsB_1 (66, .bipush (59), 2) (List.mem_of_getElem? (i := 6) rfl)
theorem d_Mod_readsB_68 : decode prog_13_method_29_code 68 = .ok (.if_icmp .gt (7), 3) := id_Mod_readsB_1 (68, .if_icmp .gt (7), 3) (List.mem_of_getElem? (i := 7) rfl)
theorem d_Mod_readsB_71 : decode prog_13_method_29_code 71 = .ok (.iconst 1, 1) := id_Mod_readsB_1 (71, .iconst 1, 1) (List.mem_of_getElem? (i := 8) rfl)
theorem d_Mod_readsB_72 : decode prog_13_method_29_code 72 = .ok (.goto (4), 3) := id_Mod_readsB_1 (72, .goto (4), 3) (List.mem_of_getElem? (i := 9) rfl)
theorem d_Mod_readsB_75 : decode prog_13_method_29_code 75 = .ok (.iconst 0, 1) := id_Mod_readsB_1 (75, .iconst 0, 1) (List.mem_of_getElem? (i := 10) rfl)
theorem d_Mod_readsB_76 : decode prog_13_method_29_code 76 = .ok (.ireturn, 1) := id_Mod_readsB_1 (76, .ireturn, 1) (List.mem_of_getElem? (i := 11) rfl)
theorem wC_Mod_readsB : Cond.code ⟨"WarpMillModel", "readsB", "()Z"⟩ prog_13_method_29_code 1 (some .boolean) ∈ lw_tb := mem_tb 1370 (by decide +kernel) rfl
set_option maxRecDepth 100000 in
set_option maxHeartbeats 4000000 in
theorem sp_Mod_readsB {G : Gl} {h : Hp} (x : Nat) (hx : hK h x = 12) : Ex G mi_Mod_readsB [.ref x] h (fun r h' => r = some (.int (bI (kRB (hI h 756 x)))) ∧ h' = h) := by
  refine Ex.of (by decide) (Nat.le_of_ble_eq_true rfl) ?_
  show Go G mi_Mod_readsB h _ h 0 [(0, .ref x)] []
  first | refine g_aload_n d_Mod_readsB_0 rfl ?_ | refine g_aload_nq d_Mod_readsB_0 rfl ?_
  refine fg_Mod_op lf_Mod_220 d_Mod_readsB_1 (by first | (simp only [hK_sI, hK_sR, hK_sA, hK_sQ, hK_sL, hK_fillA]; assumption) | assumption) ?_
  refine g_iconst 4 d_Mod_readsB_4 (by decide) ?_
  refine g_icmp_lt 17 d_Mod_readsB_5 (by decide) (fun c_5 => ?_) (fun c_5 => ?_)
  · first | refine g_aload_n d_Mod_readsB_17 rfl ?_ | refine g_aload_nq d_Mod_readsB_17 rfl ?_
    refine fg_Mod_op lf_Mod_220 d_Mod_readsB_18 (by first | (simp only [hK_sI, hK_sR, hK_sA, hK_sQ, hK_sL, hK_fillA]; assumption) | assumption) ?_
    refine g_bipush (21) d_Mod_readsB_21 (by decide) ?_
    refine g_icmp_eq 71 d_Mod_readsB_23 (by decide) (fun c_23 => ?_) (fun c_23 => ?_)
    · refine g_iconst 1 d_Mod_readsB_71 (by decide) ?_
      refine g_goto 76 d_Mod_readsB_72 (by decide) ?_
      refine Go.ret (some _) (by first | exact rOk_bI _ | exact rOk_b0 | exact rOk_b1) rfl d_Mod_readsB_76 ?_
      refine ⟨?_, rfl⟩
      simp_all [kWr, kPr, kWait, kKnown, kRA, kRB, kWP, kWD, bI, tk, -Int32.not_lt, -Int32.not_le, ← Int32.not_lt]
    · first | refine g_aload_n d_Mod_readsB_26 rfl ?_ | refine g_aload_nq d_Mod_readsB_26 rfl ?_
      refine fg_Mod_op lf_Mod_220 d_Mod_readsB_27 (by first | (simp only [hK_sI, hK_sR, hK_sA, hK_sQ, hK_sL, hK_fillA]; assumption) | assumption) ?_
      refine g_bipush (30) d_Mod_readsB_30 (by decide) ?_
      refine g_icmp_eq 71 d_Mod_readsB_32 (by decide) (fun c_32 => ?_) (fun c_32 => ?_)
      · refine g_iconst 1 d_Mod_readsB_71 (by decide) ?_
        refine g_goto 76 d_Mod_readsB_72 (by decide) ?_
        refine Go.ret (some _) (by first | exact rOk_bI _ | exact rOk_b0 | exact rOk_b1) rfl d_Mod_readsB_76 ?_
        refine ⟨?_, rfl⟩
        simp_all [kWr, kPr, kWait, kKnown, kRA, kRB, kWP, kWD, bI, tk, -Int32.not_lt, -Int32.not_le, ← Int32.not_lt]
      · first | refine g_aload_n d_Mod_readsB_35 rfl ?_ | refine g_aload_nq d_Mod_readsB_35 rfl ?_
        refine fg_Mod_op lf_Mod_220 d_Mod_readsB_36 (by first | (simp only [hK_sI, hK_sR, hK_sA, hK_sQ, hK_sL, hK_fillA]; assumption) | assumption) ?_
        refine g_bipush (31) d_Mod_readsB_39 (by decide) ?_
        refine g_icmp_eq 71 d_Mod_readsB_41 (by decide) (fun c_41 => ?_) (fun c_41 => ?_)
        · refine g_iconst 1 d_Mod_readsB_71 (by decide) ?_
          refine g_goto 76 d_Mod_readsB_72 (by decide) ?_
          refine Go.ret (some _) (by first | exact rOk_bI _ | exact rOk_b0 | exact rOk_b1) rfl d_Mod_readsB_76 ?_
          refine ⟨?_, rfl⟩
          simp_all [kWr, kPr, kWait, kKnown, kRA, kRB, kWP, kWD, bI, tk, -Int32.not_lt, -Int32.not_le, ← Int32.not_lt]
        · first | refine g_aload_n d_Mod_readsB_44 rfl ?_ | refine g_aload_nq d_Mod_readsB_44 rfl ?_
          refine fg_Mod_op lf_Mod_220 d_Mod_readsB_45 (by first | (simp only [hK_sI, hK_sR, hK_sA, hK_sQ, hK_sL, hK_fillA]; assumption) | assumption) ?_
          refine g_bipush (51) d_Mod_readsB_48 (by decide) ?_
          refine g_icmp_eq 71 d_Mod_readsB_50 (by decide) (fun c_50 => ?_) (fun c_50 => ?_)
          · refine g_iconst 1 d_Mod_readsB_71 (by decide) ?_
            refine g_goto 76 d_Mod_readsB_72 (by decide) ?_
            refine Go.ret (some _) (by first | exact rOk_bI _ | exact rOk_b0 | exact rOk_b1) rfl d_Mod_readsB_76 ?_
            refine ⟨?_, rfl⟩
            simp_all [kWr, kPr, kWait, kKnown, kRA, kRB, kWP, kWD, bI, tk, -Int32.not_lt, -Int32.not_le, ← Int32.not_lt]
          · first | refine g_aload_n d_Mod_readsB_53 rfl ?_ | refine g_aload_nq d_Mod_readsB_53 rfl ?_
            refine fg_Mod_op lf_Mod_220 d_Mod_readsB_54 (by first | (simp only [hK_sI, hK_sR, hK_sA, hK_sQ, hK_sL, hK_fillA]; assumption) | assumption) ?_
            refine g_bipush (53) d_Mod_readsB_57 (by decide) ?_
            refine g_icmp_lt 75 d_Mod_readsB_59 (by decide) (fun c_59 => ?_) (fun c_59 => ?_)
            · refine g_iconst 0 d_Mod_readsB_75 (by decide) ?_
              refine Go.ret (some _) (by first | exact rOk_bI _ | exact rOk_b0 | exact rOk_b1) rfl d_Mod_readsB_76 ?_
              refine ⟨?_, rfl⟩
              simp_all [kWr, kPr, kWait, kKnown, kRA, kRB, kWP, kWD, bI, tk, -Int32.not_lt, -Int32.not_le, ← Int32.not_lt]
            · first | refine g_aload_n d_Mod_readsB_62 rfl ?_ | refine g_aload_nq d_Mod_readsB_62 rfl ?_
              refine fg_Mod_op lf_Mod_220 d_Mod_readsB_63 (by first | (simp only [hK_sI, hK_sR, hK_sA, hK_sQ, hK_sL, hK_fillA]; assumption) | assumption) ?_
              refine g_bipush (59) d_Mod_readsB_66 (by decide) ?_
              refine g_icmp_gt 75 d_Mod_readsB_68 (by decide) (fun c_68 => ?_) (fun c_68 => ?_)
              · refine g_iconst 0 d_Mod_readsB_75 (by decide) ?_
                refine Go.ret (some _) (by first | exact rOk_bI _ | exact rOk_b0 | exact rOk_b1) rfl d_Mod_readsB_76 ?_
                refine ⟨?_, rfl⟩
                simp_all [kWr, kPr, kWait, kKnown, kRA, kRB, kWP, kWD, bI, tk, -Int32.not_lt, -Int32.not_le, ← Int32.not_lt]
              · refine g_iconst 1 d_Mod_readsB_71 (by decide) ?_
                refine g_goto 76 d_Mod_readsB_72 (by decide) ?_
                refine Go.ret (some _) (by first | exact rOk_bI _ | exact rOk_b0 | exact rOk_b1) rfl d_Mod_readsB_76 ?_
                refine ⟨?_, rfl⟩
                simp_all [kWr, kPr, kWait, kKnown, kRA, kRB, kWP, kWD, bI, tk, -Int32.not_lt, -Int32.not_le, ← Int32.not_lt]
  · first | refine g_aload_n d_Mod_readsB_8 rfl ?_ | refine g_aload_nq d_Mod_readsB_8 rfl ?_
    refine fg_Mod_op lf_Mod_220 d_Mod_readsB_9 (by first | (simp only [hK_sI, hK_sR, hK_sA, hK_sQ, hK_sL, hK_fillA]; assumption) | assumption) ?_
    refine g_bipush (17) d_Mod_readsB_12 (by decide) ?_
    refine g_icmp_le 71 d_Mod_readsB_14 (by decide) (fun c_14 => ?_) (fun c_14 => ?_)
    · refine g_iconst 1 d_Mod_readsB_71 (by decide) ?_
      refine g_goto 76 d_Mod_readsB_72 (by decide) ?_
      refine Go.ret (some _) (by first | exact rOk_bI _ | exact rOk_b0 | exact rOk_b1) rfl d_Mod_readsB_76 ?_
      refine ⟨?_, rfl⟩
      simp_all [kWr, kPr, kWait, kKnown, kRA, kRB, kWP, kWD, bI, tk, -Int32.not_lt, -Int32.not_le, ← Int32.not_lt]
    · first | refine g_aload_n d_Mod_readsB_17 rfl ?_ | refine g_aload_nq d_Mod_readsB_17 rfl ?_
      refine fg_Mod_op lf_Mod_220 d_Mod_readsB_18 (by first | (simp only [hK_sI, hK_sR, hK_sA, hK_sQ, hK_sL, hK_fillA]; assumption) | assumption) ?_
      refine g_bipush (21) d_Mod_readsB_21 (by decide) ?_
      refine g_icmp_eq 71 d_Mod_readsB_23 (by decide) (fun c_23 => ?_) (fun c_23 => ?_)
      · refine g_iconst 1 d_Mod_readsB_71 (by decide) ?_
        refine g_goto 76 d_Mod_readsB_72 (by decide) ?_
        refine Go.ret (some _) (by first | exact rOk_bI _ | exact rOk_b0 | exact rOk_b1) rfl d_Mod_readsB_76 ?_
        refine ⟨?_, rfl⟩
        simp_all [kWr, kPr, kWait, kKnown, kRA, kRB, kWP, kWD, bI, tk, -Int32.not_lt, -Int32.not_le, ← Int32.not_lt]
      · first | refine g_aload_n d_Mod_readsB_26 rfl ?_ | refine g_aload_nq d_Mod_readsB_26 rfl ?_
        refine fg_Mod_op lf_Mod_220 d_Mod_readsB_27 (by first | (simp only [hK_sI, hK_sR, hK_sA, hK_sQ, hK_sL, hK_fillA]; assumption) | assumption) ?_
        refine g_bipush (30) d_Mod_readsB_30 (by decide) ?_
        refine g_icmp_eq 71 d_Mod_readsB_32 (by decide) (fun c_32 => ?_) (fun c_32 => ?_)
        · refine g_iconst 1 d_Mod_readsB_71 (by decide) ?_
          refine g_goto 76 d_Mod_readsB_72 (by decide) ?_
          refine Go.ret (some _) (by first | exact rOk_bI _ | exact rOk_b0 | exact rOk_b1) rfl d_Mod_readsB_76 ?_
          refine ⟨?_, rfl⟩
          simp_all [kWr, kPr, kWait, kKnown, kRA, kRB, kWP, kWD, bI, tk, -Int32.not_lt, -Int32.not_le, ← Int32.not_lt]
        · first | refine g_aload_n d_Mod_readsB_35 rfl ?_ | refine g_aload_nq d_Mod_readsB_35 rfl ?_
          refine fg_Mod_op lf_Mod_220 d_Mod_readsB_36 (by first | (simp only [hK_sI, hK_sR, hK_sA, hK_sQ, hK_sL, hK_fillA]; assumption) | assumption) ?_
          refine g_bipush (31) d_Mod_readsB_39 (by decide) ?_
          refine g_icmp_eq 71 d_Mod_readsB_41 (by decide) (fun c_41 => ?_) (fun c_41 => ?_)
          · refine g_iconst 1 d_Mod_readsB_71 (by decide) ?_
            refine g_goto 76 d_Mod_readsB_72 (by decide) ?_
            refine Go.ret (some _) (by first | exact rOk_bI _ | exact rOk_b0 | exact rOk_b1) rfl d_Mod_readsB_76 ?_
            refine ⟨?_, rfl⟩
            simp_all [kWr, kPr, kWait, kKnown, kRA, kRB, kWP, kWD, bI, tk, -Int32.not_lt, -Int32.not_le, ← Int32.not_lt]
          · first | refine g_aload_n d_Mod_readsB_44 rfl ?_ | refine g_aload_nq d_Mod_readsB_44 rfl ?_
            refine fg_Mod_op lf_Mod_220 d_Mod_readsB_45 (by first | (simp only [hK_sI, hK_sR, hK_sA, hK_sQ, hK_sL, hK_fillA]; assumption) | assumption) ?_
            refine g_bipush (51) d_Mod_readsB_48 (by decide) ?_
            refine g_icmp_eq 71 d_Mod_readsB_50 (by decide) (fun c_50 => ?_) (fun c_50 => ?_)
            · refine g_iconst 1 d_Mod_readsB_71 (by decide) ?_
              refine g_goto 76 d_Mod_readsB_72 (by decide) ?_
              refine Go.ret (some _) (by first | exact rOk_bI _ | exact rOk_b0 | exact rOk_b1) rfl d_Mod_readsB_76 ?_
              refine ⟨?_, rfl⟩
              simp_all [kWr, kPr, kWait, kKnown, kRA, kRB, kWP, kWD, bI, tk, -Int32.not_lt, -Int32.not_le, ← Int32.not_lt]
            · first | refine g_aload_n d_Mod_readsB_53 rfl ?_ | refine g_aload_nq d_Mod_readsB_53 rfl ?_
              refine fg_Mod_op lf_Mod_220 d_Mod_readsB_54 (by first | (simp only [hK_sI, hK_sR, hK_sA, hK_sQ, hK_sL, hK_fillA]; assumption) | assumption) ?_
              refine g_bipush (53) d_Mod_readsB_57 (by decide) ?_
              refine g_icmp_lt 75 d_Mod_readsB_59 (by decide) (fun c_59 => ?_) (fun c_59 => ?_)
              · refine g_iconst 0 d_Mod_readsB_75 (by decide) ?_
                refine Go.ret (some _) (by first | exact rOk_bI _ | exact rOk_b0 | exact rOk_b1) rfl d_Mod_readsB_76 ?_
                refine ⟨?_, rfl⟩
                simp_all [kWr, kPr, kWait, kKnown, kRA, kRB, kWP, kWD, bI, tk, -Int32.not_lt, -Int32.not_le, ← Int32.not_lt]
              · first | refine g_aload_n d_Mod_readsB_62 rfl ?_ | refine g_aload_nq d_Mod_readsB_62 rfl ?_
                refine fg_Mod_op lf_Mod_220 d_Mod_readsB_63 (by first | (simp only [hK_sI, hK_sR, hK_sA, hK_sQ, hK_sL, hK_fillA]; assumption) | assumption) ?_
                refine g_bipush (59) d_Mod_readsB_66 (by decide) ?_
                refine g_icmp_gt 75 d_Mod_readsB_68 (by decide) (fun c_68 => ?_) (fun c_68 => ?_)
                · refine g_iconst 0 d_Mod_readsB_75 (by decide) ?_
                  refine Go.ret (some _) (by first | exact rOk_bI _ | exact rOk_b0 | exact rOk_b1) rfl d_Mod_readsB_76 ?_
                  refine ⟨?_, rfl⟩
                  simp_all [kWr, kPr, kWait, kKnown, kRA, kRB, kWP, kWD, bI, tk, -Int32.not_lt, -Int32.not_le, ← Int32.not_lt]
                · refine g_iconst 1 d_Mod_readsB_71 (by decide) ?_
                  refine g_goto 76 d_Mod_readsB_72 (by decide) ?_
                  refine Go.ret (some _) (by first | exact rOk_bI _ | exact rOk_b0 | exact rOk_b1) rfl d_Mod_readsB_76 ?_
                  refine ⟨?_, rfl⟩
                  simp_all [kWr, kPr, kWait, kKnown, kRA, kRB, kWP, kWD, bI, tk, -Int32.not_lt, -Int32.not_le, ← Int32.not_lt]
