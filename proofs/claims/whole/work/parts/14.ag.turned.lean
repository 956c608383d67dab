abbrev mi_Warp_aim : MI := (⟨"WarpMill$Warp", "aim", "(I)V"⟩, prog_10_method_9_code, 3, none, 1, 22)
def it_Warp_aim_0 : List (Nat × ClassFile.Instr × Nat) := [(0, .iconst 0, 1), (1, .istore_n 2, 1), (2, .iload_n 2, 1), (3, .aload_n 0, 1), (4, .getfield 35, 3), (7, .if_icmp .ge (43), 3), (10, .iload_n 1, 1), (11, .iload_n 2, 1), (12, .invokestatic 73, 3), (15, .ifCond .eq (29), 3), (18, .aload_n 0, 1), (19, .getfield 24, 3), (22, .iload_n 2, 1), (23, .aload_n 0, 1), (24, .iload_n 2, 1), (25, .aload_n 0, 1), (26, .getfield 77, 3), (29, .getfield 112, 3), (32, .invokevirtual 109, 3), (35, .aload_n 0, 1), (36, .getfield 77, 3), (39, .getfield 115, 3), (42, .iadd, 1), (43, .iastore, 1)]
theorem id_Warp_aim_0 : ∀ q ∈ it_Warp_aim_0, decode prog_10_method_9_code q.1 = .ok q.2 := by decide +kernel
theorem d_Warp_aim_0 : decode prog_10_method_9_code 0 = .ok (.iconst 0, 1) := id_Warp_aim_0 (0, .iconst 0, 1) (List.mem_of_getElem? (i := 0) rfl)
theorem d_Warp_aim_1 : decode prog_10_method_9_code 1 = .ok (.istore_n 2, 1) := id_Warp_aim_0 (1, .istore_n 2, 1) (List.mem_of_getElem? (i := 1) rfl)
theorem d_Warp_aim_2 : decode prog_10_method_9_code 2 = .ok (.iload_n 2, 1) := id_Warp_aim_0 (2, .iload_n 2, 1) (List.mem_of_getElem? (i := 2) rfl)
theorem d_Warp_aim_3 : decode prog_10_method_9_code 3 = .ok (.aload_n 0, 1) := id_Warp_aim_0 (3, .aload_n 0, 1) (List.mem_of_getElem? (i := 3) rfl)
theorem d_Warp_aim_4 : decode prog_10_method_9_code 4 = .ok (.getfield 35, 3) := id_Warp_aim_0 (4, .getfield 35, 3) (List.mem_of_getElem? (i := 4) rfl)
theorem d_Warp_aim_7 : decode prog_10_method_9_code 7 = .ok (.if_icmp .ge (43), 3) := id_Warp_aim_0 (7, .if_icmp .ge (43), 3) (List.mem_of_getElem? (i := 5) rfl)
theorem d_Warp_aim_10 : decode prog_10_method_9_code 10 = .ok (.iload_n 1, 1) := id_Warp_aim_0 (10, .iload_n 1, 1) (List.mem_of_getElem? (i := 6) rfl)
theorem d_Warp_aim_11 : decode prog_10_method_9_code 11 = .ok (.iload_n 2, 1) := id_Warp_aim_0 (11, .iload_n 2, 1) (List.mem_of_getElem? (i := 7) rfl)
theorem d_Warp_aim_12 : decode prog_10_method_9_code 12 = .ok (.invokestatic 73, 3) := id_Warp_aim_0 (12, .invokestatic 73, 3) (List.mem_of_getElem? (i := 8) rfl)
theorem d_Warp_aim_15 : decode prog_10_method_9_code 15 = .ok (.ifCond .eq (29), 3) := id_Warp_aim_0 (15, .ifCond .eq (29), 3) (List.mem_of_getElem? (i := 9) rfl)
theorem d_Warp_aim_18 : decode prog_10_method_9_code 18 = .ok (.aload_n 0, 1) := id_Warp_aim_0 (18, .aload_n 0, 1) (List.mem_of_getElem? (i := 10) rfl)
theorem d_Warp_aim_19 : decode prog_10_method_9_code 19 = .ok (.getfield 24, 3) := id_Warp_aim_0 (19, .getfield 24, 3) (List.mem_of_getElem? (i := 11) rfl)
theorem d_Warp_aim_22 : decode prog_10_method_9_code 22 = .ok (.iload_n 2, 1) := id_Warp_aim_0 (22, .iload_n 2, 1) (List.mem_of_getElem? (i := 12) rfl)
theorem d_Warp_aim_23 : decode prog_10_method_9_code 23 = .ok (.aload_n 0, 1) := id_Warp_aim_0 (23, .aload_n 0, 1) (List.mem_of_getElem? (i := 13) rfl)
theorem d_Warp_aim_24 : decode prog_10_method_9_code 24 = .ok (.iload_n 2, 1) := id_Warp_aim_0 (24, .iload_n 2, 1) (List.mem_of_getElem? (i := 14) rfl)
theorem d_Warp_aim_25 : decode prog_10_method_9_code 25 = .ok (.aload_n 0, 1) := id_Warp_aim_0 (25, .aload_n 0, 1) (List.mem_of_getElem? (i := 15) rfl)
theorem d_Warp_aim_26 : decode prog_10_method_9_code 26 = .ok (.getfield 77, 3) := id_Warp_aim_0 (26, .getfield 77, 3) (List.mem_of_getElem? (i := 16) rfl)
theorem d_Warp_aim_29 : decode prog_10_method_9_code 29 = .ok (.getfield 112, 3) := id_Warp_aim_0 (29, .getfield 112, 3) (List.mem_of_getElem? (i := 17) rfl)
theorem d_Warp_aim_32 : decode prog_10_method_9_code 32 = .ok (.invokevirtual 109, 3) := id_Warp_aim_0 (32, .invokevirtual 109, 3) (List.mem_of_getElem? (i := 18) rfl)
theorem d_Warp_aim_35 : decode prog_10_method_9_code 35 = .ok (.aload_n 0, 1) := id_Warp_aim_0 (35, .aload_n 0, 1) (List.mem_of_getElem? (i := 19) rfl)
theorem d_Warp_aim_36 : decode prog_10_method_9_code 36 = .ok (.getfield 77, 3) := id_Warp_aim_0 (36, .getfield 77, 3) (List.mem_of_getElem? (i := 20) rfl)
theorem d_Warp_aim_39 : decode prog_10_method_9_code 39 = .ok (.getfield 115, 3) := id_Warp_aim_0 (39, .getfield 115, 3) (List.mem_of_getElem? (i := 21) rfl)
theorem d_Warp_aim_42 : decode prog_10_method_9_code 42 = .ok (.iadd, 1) := id_Warp_aim_0 (42, .iadd, 1) (List.mem_of_getElem? (i := 22) rfl)
theorem d_Warp_aim_43 : decode prog_10_method_9_code 43 = .ok (.iastore, 1) := id_Warp_aim_0 (43, .iastore, 1) (List.mem_of_getElem? (i := 23) rfl)
def it_Warp_aim_1 : List (Nat × ClassFile.Instr × Nat) := [(44, .iinc 2 (1), 3), (47, .goto (-45), 3), (50, .return_, 1)]
theorem id_Warp_aim_1 : ∀ q ∈ it_Warp_aim_1, decode prog_10_method_9_code q.1 = .ok q.2 := by decide +kernel
theorem d_Warp_aim_44 : decode prog_10_method_9_code 44 = .ok (.iinc 2 (1), 3) := id_Warp_aim_1 (44, .iinc 2 (1), 3) (List.mem_of_getElem? (i := 0) rfl)
theorem d_Warp_aim_47 : decode prog_10_method_9_code 47 = .ok (.goto (-45), 3) := id_Warp_aim_1 (47, .goto (-45), 3) (List.mem_of_getElem? (i := 1) rfl)
theorem d_Warp_aim_50 : decode prog_10_method_9_code 50 = .ok (.return_, 1) := id_Warp_aim_1 (50, .return_, 1) (List.mem_of_getElem? (i := 2) rfl)
theorem wC_Warp_aim : Cond.code ⟨"WarpMill$Warp", "aim", "(I)V"⟩ prog_10_method_9_code 3 (none) ∈ lw_tb := mem_tb 860 (by decide +kernel) rfl
theorem cw_Warp_aim_WM_in : cW mi_Warp_aim mi_WM_in 2 := ⟨wC_WM_in, wi_WM, ⟨by decide, by decide, by decide +kernel⟩, by decide, by decide⟩
theorem cw_Warp_aim_Warp_register : cW mi_Warp_aim mi_Warp_register 2 := ⟨wC_Warp_register, wi_Warp, ⟨by decide, by decide, by decide +kernel⟩, by decide, by decide⟩
def b_Warp_aim_2 (F : Nat) : Nat → Nat → Int32 → Int32 → Hp → Option Hp
  | 0 => fun _ _ _ _ => none
  | n + 1 => fun x0 x1 x2 h => gd (hK h x0 = 9) <| if (hI h 514 x0) ≤ x2 then (some h) else (cl (f_WM_in F x1 x2 h) fun v_12 h_12 => if v_12 = 0 then (b_Warp_aim_2 F n x0 x1 (x2 + 1) h_12) else (gd (hK h_12 x0 = 9) <| rq h_12 (hR h_12 525 x0) 100 fun a_19_2 => rq h_12 (hR h_12 520 x0) 10 fun a_26 => cl (f_Warp_register F x0 x2 (hI h_12 578 a_26) h_12) fun v_32 h_32 => gd (hK h_32 x0 = 9) <| rq h_32 (hR h_32 520 x0) 10 fun a_36_2 => gd (hK h_32 a_19_2 = 100) <| ix x2 (hN h_32 a_19_2) fun j_43_2 => pw (sA h_32 a_19_2 j_43_2 (v_32 + (hI h_32 580 a_36_2))) fun h_43_3 => b_Warp_aim_2 F n x0 x1 (x2 + 1) h_43_3))
set_option maxRecDepth 100000 in
set_option maxHeartbeats 4000000 in
theorem e_Warp_aim_2 {G : Gl} (hw : gF G) {h0 : Hp} {F : Nat} {h' : Hp}   : ∀ (n : Nat) (x0 : Nat) (x1 : Int32) (x2 : Int32) (h : Hp), b_Warp_aim_2 F n x0 x1 x2 h = some h' → Go G mi_Warp_aim h0 (pV h') h 2 [(0, .ref x0), (1, .int x1), (2, .int x2)] [] := by
  intro n
  induction n with
  | zero =>
    intro _ _ _ _ hf
    exact nm_s hf
  | succ n ih =>
    intro x0 x1 x2 h hf
    unfold b_Warp_aim_2 at hf
    refine g_iload_n d_Warp_aim_2 rfl ?_
    refine g_aload_n d_Warp_aim_3 rfl ?_
    obtain ⟨k_4, hf⟩ := gd_s hf
    refine fg_Warp_lanes lf_Warp_35 d_Warp_aim_4 k_4 ?_
    refine g_icmp_ge 50 d_Warp_aim_7 (by decide) (fun c_7 => ?_) (fun c_7 => ?_)
    · have hf := ifp hf c_7
      exact Go.ret none trivial rfl d_Warp_aim_50 (pV_of hf)
    · have hf := ifn hf c_7
      refine g_iload_n d_Warp_aim_10 rfl ?_
      refine g_iload_n d_Warp_aim_11 rfl ?_
      obtain ⟨v_12, h_12, e_12, hf⟩ := cl_s hf
      refine g_callSN (mz := mi_WM_in) (e_WM_in e_12) cw_Warp_aim_WM_in (host := "WarpMill") (by decide +kernel) wS_WM_in d_Warp_aim_12 rfl rfl (by first | exact Nat.le_of_ble_eq_true rfl | simp [cat_rf, Value.category]) (fun r1 h1 hp hro => ?_)
      obtain ⟨rfl, rfl⟩ := hp
      dsimp only [Option.toList_some, Option.toList_none, List.cons_append, List.nil_append]
      refine g_if_eq 44 d_Warp_aim_15 (by decide) (fun c_15 => ?_) (fun c_15 => ?_)
      · have hf := ifp hf c_15
        refine g_iinc (_ + 1) d_Warp_aim_44 rfl (by rfl) (by decide) ?_
        show Go _ _ _ _ _ _ [(0, _), (1, _), (2, _)] _
        refine g_goto 2 d_Warp_aim_47 (by decide) ?_
        exact ih _ _ _ _ hf
      · have hf := ifn hf c_15
        refine g_aload_n d_Warp_aim_18 rfl ?_
        obtain ⟨k_19, hf⟩ := gd_s hf
        obtain ⟨a_19_2, e_19_2, k_19_2, hf⟩ := rq_s hf
        refine fgs_Warp_row lf_Warp_24 d_Warp_aim_19 k_19 e_19_2 ?_
        refine g_iload_n d_Warp_aim_22 rfl ?_
        refine g_aload_n d_Warp_aim_23 rfl ?_
        refine g_iload_n d_Warp_aim_24 rfl ?_
        refine g_aload_n d_Warp_aim_25 rfl ?_
        obtain ⟨a_26, e_26, k_26, hf⟩ := rq_s hf
        refine fgs_Warp_word lf_Warp_77 d_Warp_aim_26 k_19 e_26 ?_
        refine fg_Word_a lf_Warp_112 d_Warp_aim_29 k_26 ?_
        obtain ⟨v_32, h_32, e_32, hf⟩ := cl_s hf
        refine g_callV (mz := mi_Warp_register) (e_Warp_register e_32) cw_Warp_aim_Warp_register lm_Warp_109 wI_Warp_register wV_Warp_register (ci := 8) k_19 (by decide) rfl rfl d_Warp_aim_32 rfl rfl (by first | exact Nat.le_of_ble_eq_true rfl | simp [cat_rf, Value.category]) (fun r1 h1 hp hro => ?_)
        obtain ⟨rfl, rfl⟩ := hp
        dsimp only [Option.toList_some, Option.toList_none, List.cons_append, List.nil_append]
        refine g_aload_n d_Warp_aim_35 rfl ?_
        obtain ⟨k_36, hf⟩ := gd_s hf
        obtain ⟨a_36_2, e_36_2, k_36_2, hf⟩ := rq_s hf
        refine fgs_Warp_word lf_Warp_77 d_Warp_aim_36 k_36 e_36_2 ?_
        refine fg_Word_n lf_Warp_115 d_Warp_aim_39 k_36_2 ?_
        refine g_iadd d_Warp_aim_42 ?_
        obtain ⟨k_43, hf⟩ := gd_s hf
        obtain ⟨i_43_2, hf⟩ := ix_s hf
        refine g_iast hw k_43 i_43_2 d_Warp_aim_43 ?_
        have hf := pw_b hf
        refine g_iinc (_ + 1) d_Warp_aim_44 rfl (by rfl) (by decide) ?_
        show Go _ _ _ _ _ _ [(0, _), (1, _), (2, _)] _
        refine g_goto 2 d_Warp_aim_47 (by decide) ?_
        exact ih _ _ _ _ hf
def f_Warp_aim (F : Nat) (x0 : Nat) (x1 : Int32) (h : Hp) : Option Hp := b_Warp_aim_2 F F x0 x1 (0 : Int32) h
set_option maxRecDepth 100000 in
set_option maxHeartbeats 4000000 in
theorem e_Warp_aim {G : Gl} (hw : gF G) {F : Nat} {h' : Hp} {x0 : Nat} {x1 : Int32} {h : Hp} (hf : f_Warp_aim F x0 x1 h = some h') : Ex G mi_Warp_aim [.ref x0, .int x1] h (pV h') := by
  unfold f_Warp_aim at hf
  refine Ex.of nmV (by decide) (Nat.le_of_ble_eq_true rfl) ?_
  show Go G mi_Warp_aim h _ h 0 [(0, .ref x0), (1, .int x1)] []
  refine g_iconst 0 d_Warp_aim_0 (by decide) ?_
  refine g_istore_n d_Warp_aim_1 (by decide) ?_
  show Go _ _ _ _ _ _ [(0, _), (1, _), (2, _)] _
  have key := e_Warp_aim_2 hw (G := G) (h0 := h)  F _ _ _ _ hf
  exact key
abbrev mi_Warp_aimedBeyond : MI := (⟨"WarpMill$Warp", "aimedBeyond", "(II)I"⟩, prog_10_method_10_code, 5, some .int, 1, 21)
def it_Warp_aimedBeyond_0 : List (Nat × ClassFile.Instr × Nat) := [(0, .iconst 0, 1), (1, .istore_n 3, 1), (2, .iconst 0, 1), (3, .istore 4, 2), (5, .iload 4, 2), (7, .aload_n 0, 1), (8, .getfield 35, 3), (11, .if_icmp .ge (46), 3), (14, .iload_n 1, 1), (15, .iload 4, 2), (17, .invokestatic 73, 3), (20, .ifCond .eq (31), 3), (23, .aload_n 0, 1), (24, .getfield 24, 3), (27, .iload 4, 2), (29, .iaload, 1), (30, .ifCond .lt (14), 3), (33, .aload_n 0, 1), (34, .getfield 24, 3), (37, .iload 4, 2), (39, .iaload, 1), (40, .iload_n 2, 1), (41, .if_icmp .lt (10), 3), (44, .iload_n 3, 1)]
theorem id_Warp_aimedBeyond_0 : ∀ q ∈ it_Warp_aimedBeyond_0, decode prog_10_method_10_code q.1 = .ok q.2 := by decide +kernel
theorem d_Warp_aimedBeyond_0 : decode prog_10_method_10_code 0 = .ok (.iconst 0, 1) := id_Warp_aimedBeyond_0 (0, .iconst 0, 1) (List.mem_of_getElem? (i := 0) rfl)
theorem d_Warp_aimedBeyond_1 : decode prog_10_method_10_code 1 = .ok (.istore_n 3, 1) := id_Warp_aimedBeyond_0 (1, .istore_n 3, 1) (List.mem_of_getElem? (i := 1) rfl)
theorem d_Warp_aimedBeyond_2 : decode prog_10_method_10_code 2 = .ok (.iconst 0, 1) := id_Warp_aimedBeyond_0 (2, .iconst 0, 1) (List.mem_of_getElem? (i := 2) rfl)
theorem d_Warp_aimedBeyond_3 : decode prog_10_method_10_code 3 = .ok (.istore 4, 2) := id_Warp_aimedBeyond_0 (3, .istore 4, 2) (List.mem_of_getElem? (i := 3) rfl)
theorem d_Warp_aimedBeyond_5 : decode prog_10_method_10_code 5 = .ok (.iload 4, 2) := id_Warp_aimedBeyond_0 (5, .iload 4, 2) (List.mem_of_getElem? (i := 4) rfl)
theorem d_Warp_aimedBeyond_7 : decode prog_10_method_10_code 7 = .ok (.aload_n 0, 1) := id_Warp_aimedBeyond_0 (7, .aload_n 0, 1) (List.mem_of_getElem? (i := 5) rfl)
theorem d_Warp_aimedBeyond_8 : decode prog_10_method_10_code 8 = .ok (.getfield 35, 3) := id_Warp_aimedBeyond_0 (8, .getfield 35, 3) (List.mem_of_getElem? (i := 6) rfl)
theorem d_Warp_aimedBeyond_11 : decode prog_10_method_10_code 11 = .ok (.if_icmp .ge (46), 3) := id_Warp_aimedBeyond_0 (11, .if_icmp .ge (46), 3) (List.mem_of_getElem? (i := 7) rfl)
theorem d_Warp_aimedBeyond_14 : decode prog_10_method_10_code 14 = .ok (.iload_n 1, 1) := id_Warp_aimedBeyond_0 (14, .iload_n 1, 1) (List.mem_of_getElem? (i := 8) rfl)
theorem d_Warp_aimedBeyond_15 : decode prog_10_method_10_code 15 = .ok (.iload 4, 2) := id_Warp_aimedBeyond_0 (15, .iload 4, 2) (List.mem_of_getElem? (i := 9) rfl)
theorem d_Warp_aimedBeyond_17 : decode prog_10_method_10_code 17 = .ok (.invokestatic 73, 3) := id_Warp_aimedBeyond_0 (17, .invokestatic 73, 3) (List.mem_of_getElem? (i := 10) rfl)
theorem d_Warp_aimedBeyond_20 : decode prog_10_method_10_code 20 = .ok (.ifCond .eq (31), 3) := id_Warp_aimedBeyond_0 (20, .ifCond .eq (31), 3) (List.mem_of_getElem? (i := 11) rfl)
theorem d_Warp_aimedBeyond_23 : decode prog_10_method_10_code 23 = .ok (.aload_n 0, 1) := id_Warp_aimedBeyond_0 (23, .aload_n 0, 1) (List.mem_of_getElem? (i := 12) rfl)
theorem d_Warp_aimedBeyond_24 : decode prog_10_method_10_code 24 = .ok (.getfield 24, 3) := id_Warp_aimedBeyond_0 (24, .getfield 24, 3) (List.mem_of_getElem? (i := 13) rfl)
theorem d_Warp_aimedBeyond_27 : decode prog_10_method_10_code 27 = .ok (.iload 4, 2) := id_Warp_aimedBeyond_0 (27, .iload 4, 2) (List.mem_of_getElem? (i := 14) rfl)
theorem d_Warp_aimedBeyond_29 : decode prog_10_method_10_code 29 = .ok (.iaload, 1) := id_Warp_aimedBeyond_0 (29, .iaload, 1) (List.mem_of_getElem? (i := 15) rfl)
theorem d_Warp_aimedBeyond_30 : decode prog_10_method_10_code 30 = .ok (.ifCond .lt (14), 3) := id_Warp_aimedBeyond_0 (30, .ifCond .lt (14), 3) (List.mem_of_getElem? (i := 16) rfl)
theorem d_Warp_aimedBeyond_33 : decode prog_10_method_10_code 33 = .ok (.aload_n 0, 1) := id_Warp_aimedBeyond_0 (33, .aload_n 0, 1) (List.mem_of_getElem? (i := 17) rfl)
theorem d_Warp_aimedBeyond_34 : decode prog_10_method_10_code 34 = .ok (.getfield 24, 3) := id_Warp_aimedBeyond_0 (34, .getfield 24, 3) (List.mem_of_getElem? (i := 18) rfl)
theorem d_Warp_aimedBeyond_37 : decode prog_10_method_10_code 37 = .ok (.iload 4, 2) := id_Warp_aimedBeyond_0 (37, .iload 4, 2) (List.mem_of_getElem? (i := 19) rfl)
theorem d_Warp_aimedBeyond_39 : decode prog_10_method_10_code 39 = .ok (.iaload, 1) := id_Warp_aimedBeyond_0 (39, .iaload, 1) (List.mem_of_getElem? (i := 20) rfl)
theorem d_Warp_aimedBeyond_40 : decode prog_10_method_10_code 40 = .ok (.iload_n 2, 1) := id_Warp_aimedBeyond_0 (40, .iload_n 2, 1) (List.mem_of_getElem? (i := 21) rfl)
theorem d_Warp_aimedBeyond_41 : decode prog_10_method_10_code 41 = .ok (.if_icmp .lt (10), 3) := id_Warp_aimedBeyond_0 (41, .if_icmp .lt (10), 3) (List.mem_of_getElem? (i := 22) rfl)
theorem d_Warp_aimedBeyond_44 : decode prog_10_method_10_code 44 = .ok (.iload_n 3, 1) := id_Warp_aimedBeyond_0 (44, .iload_n 3, 1) (List.mem_of_getElem? (i := 23) rfl)
def it_Warp_aimedBeyond_1 : List (Nat × ClassFile.Instr × Nat) := [(45, .iconst 1, 1), (46, .iload 4, 2), (48, .ishl, 1), (49, .ior, 1), (50, .istore_n 3, 1), (51, .iinc 4 (1), 3), (54, .goto (-49), 3), (57, .iload_n 3, 1), (58, .ireturn, 1)]
theorem id_Warp_aimedBeyond_1 : ∀ q ∈ it_Warp_aimedBeyond_1, decode prog_10_method_10_code q.1 = .ok q.2 := by decide +kernel
theorem d_Warp_aimedBeyond_45 : decode prog_10_method_10_code 45 = .ok (.iconst 1, 1) := id_Warp_aimedBeyond_1 (45, .iconst 1, 1) (List.mem_of_getElem? (i := 0) rfl)
theorem d_Warp_aimedBeyond_46 : decode prog_10_method_10_code 46 = .ok (.iload 4, 2) := id_Warp_aimedBeyond_1 (46, .iload 4, 2) (List.mem_of_getElem? (i := 1) rfl)
theorem d_Warp_aimedBeyond_48 : decode prog_10_method_10_code 48 = .ok (.ishl, 1) := id_Warp_aimedBeyond_1 (48, .ishl, 1) (List.mem_of_getElem? (i := 2) rfl)
theorem d_Warp_aimedBeyond_49 : decode prog_10_method_10_code 49 = .ok (.ior, 1) := id_Warp_aimedBeyond_1 (49, .ior, 1) (List.mem_of_getElem? (i := 3) rfl)
theorem d_Warp_aimedBeyond_50 : decode prog_10_method_10_code 50 = .ok (.istore_n 3, 1) := id_Warp_aimedBeyond_1 (50, .istore_n 3, 1) (List.mem_of_getElem? (i := 4) rfl)
theorem d_Warp_aimedBeyond_51 : decode prog_10_method_10_code 51 = .ok (.iinc 4 (1), 3) := id_Warp_aimedBeyond_1 (51, .iinc 4 (1), 3) (List.mem_of_getElem? (i := 5) rfl)
theorem d_Warp_aimedBeyond_54 : decode prog_10_method_10_code 54 = .ok (.goto (-49), 3) := id_Warp_aimedBeyond_1 (54, .goto (-49), 3) (List.mem_of_getElem? (i := 6) rfl)
theorem d_Warp_aimedBeyond_57 : decode prog_10_method_10_code 57 = .ok (.iload_n 3, 1) := id_Warp_aimedBeyond_1 (57, .iload_n 3, 1) (List.mem_of_getElem? (i := 7) rfl)
theorem d_Warp_aimedBeyond_58 : decode prog_10_method_10_code 58 = .ok (.ireturn, 1) := id_Warp_aimedBeyond_1 (58, .ireturn, 1) (List.mem_of_getElem? (i := 8) rfl)
theorem wC_Warp_aimedBeyond : Cond.code ⟨"WarpMill$Warp", "aimedBeyond", "(II)I"⟩ prog_10_method_10_code 5 (some .int) ∈ lw_tb := mem_tb 864 (by decide +kernel) rfl
theorem cw_Warp_aimedBeyond_WM_in : cW mi_Warp_aimedBeyond mi_WM_in 2 := ⟨wC_WM_in, wi_WM, ⟨by decide, by decide, by decide +kernel⟩, by decide, by decide⟩
def b_Warp_aimedBeyond_44 (F : Nat) (k5 : Nat → Int32 → Int32 → Int32 → Int32 → Hp → Option (Int32 × Hp)) (x0 : Nat) (x1 : Int32) (x2 : Int32) (x3 : Int32) (x4 : Int32) (h : Hp) : Option (Int32 × Hp) := k5 x0 x1 x2 (x3 ||| ((1 : Int32) <<< (x4 &&& 31))) (x4 + 1) h
set_option maxRecDepth 100000 in
set_option maxHeartbeats 4000000 in
theorem e_Warp_aimedBeyond_44 {G : Gl} {h0 : Hp} {F : Nat} {r : Int32} {h' : Hp} {k5 : Nat → Int32 → Int32 → Int32 → Int32 → Hp → Option (Int32 × Hp)} (hk5 : ∀ (y0 : Nat) (y1 : Int32) (y2 : Int32) (y3 : Int32) (y4 : Int32) (hh : Hp), k5 y0 y1 y2 y3 y4 hh = some (r, h') → Go G mi_Warp_aimedBeyond h0 (pI r h') hh 5 [(0, .ref y0), (1, .int y1), (2, .int y2), (3, .int y3), (4, .int y4)] []) {x0 : Nat} {x1 : Int32} {x2 : Int32} {x3 : Int32} {x4 : Int32} {h : Hp} (hf : b_Warp_aimedBeyond_44 F k5 x0 x1 x2 x3 x4 h = some (r, h')) : Go G mi_Warp_aimedBeyond h0 (pI r h') h 44 [(0, .ref x0), (1, .int x1), (2, .int x2), (3, .int x3), (4, .int x4)] [] := by
  unfold b_Warp_aimedBeyond_44 at hf
  refine g_iload_n d_Warp_aimedBeyond_44 rfl ?_
  refine g_iconst 1 d_Warp_aimedBeyond_45 (by decide) ?_
  refine g_iload d_Warp_aimedBeyond_46 rfl ?_
  refine g_ishl d_Warp_aimedBeyond_48 ?_
  refine g_ior d_Warp_aimedBeyond_49 ?_
  refine g_istore_n d_Warp_aimedBeyond_50 (by decide) ?_
  show Go _ _ _ _ _ _ [(0, _), (1, _), (2, _), (3, _), (4, _)] _
  refine g_iinc (_ + 1) d_Warp_aimedBeyond_51 rfl (by rfl) (by decide) ?_
  show Go _ _ _ _ _ _ [(0, _), (1, _), (2, _), (3, _), (4, _)] _
  refine g_goto 5 d_Warp_aimedBeyond_54 (by decide) ?_
  exact hk5 _ _ _ _ _ _ hf
def b_Warp_aimedBeyond_5 (F : Nat) : Nat → Nat → Int32 → Int32 → Int32 → Int32 → Hp → Option (Int32 × Hp)
  | 0 => fun _ _ _ _ _ _ => none
  | n + 1 => fun x0 x1 x2 x3 x4 h => gd (hK h x0 = 9) <| if (hI h 514 x0) ≤ x4 then (some (x3, h)) else (cl (f_WM_in F x1 x4 h) fun v_17 h_17 => if v_17 = 0 then (b_Warp_aimedBeyond_5 F n x0 x1 x2 x3 (x4 + 1) h_17) else (gd (hK h_17 x0 = 9) <| rq h_17 (hR h_17 525 x0) 100 fun a_24_2 => ix x4 (hN h_17 a_24_2) fun j_29 => if (hA h_17 a_24_2 j_29) < 0 then (b_Warp_aimedBeyond_44 F (b_Warp_aimedBeyond_5 F n) x0 x1 x2 x3 x4 h_17) else (ix x4 (hN h_17 a_24_2) fun j_39 => if (hA h_17 a_24_2 j_39) < x2 then (b_Warp_aimedBeyond_5 F n x0 x1 x2 x3 (x4 + 1) h_17) else (b_Warp_aimedBeyond_44 F (b_Warp_aimedBeyond_5 F n) x0 x1 x2 x3 x4 h_17))))
set_option maxRecDepth 100000 in
set_option maxHeartbeats 4000000 in
theorem e_Warp_aimedBeyond_5 {G : Gl} {h0 : Hp} {F : Nat} {r : Int32} {h' : Hp}   : ∀ (n : Nat) (x0 : Nat) (x1 : Int32) (x2 : Int32) (x3 : Int32) (x4 : Int32) (h : Hp), b_Warp_aimedBeyond_5 F n x0 x1 x2 x3 x4 h = some (r, h') → Go G mi_Warp_aimedBeyond h0 (pI r h') h 5 [(0, .ref x0), (1, .int x1), (2, .int x2), (3, .int x3), (4, .int x4)] [] := by
  intro n
  induction n with
  | zero =>
    intro _ _ _ _ _ _ hf
    exact nm_s hf
  | succ n ih =>
    intro x0 x1 x2 x3 x4 h hf
    unfold b_Warp_aimedBeyond_5 at hf
    refine g_iload d_Warp_aimedBeyond_5 rfl ?_
    refine g_aload_n d_Warp_aimedBeyond_7 rfl ?_
    obtain ⟨k_8, hf⟩ := gd_s hf
    refine fg_Warp_lanes lf_Warp_35 d_Warp_aimedBeyond_8 k_8 ?_
    refine g_icmp_ge 57 d_Warp_aimedBeyond_11 (by decide) (fun c_11 => ?_) (fun c_11 => ?_)
    · have hf := ifp hf c_11
      refine g_iload_n d_Warp_aimedBeyond_57 rfl ?_
      exact Go.ret (some _) (rOk_i _) rfl d_Warp_aimedBeyond_58 (pI_of hf)
    · have hf := ifn hf c_11
      refine g_iload_n d_Warp_aimedBeyond_14 rfl ?_
      refine g_iload d_Warp_aimedBeyond_15 rfl ?_
      obtain ⟨v_17, h_17, e_17, hf⟩ := cl_s hf
      refine g_callSN (mz := mi_WM_in) (e_WM_in e_17) cw_Warp_aimedBeyond_WM_in (host := "WarpMill") (by decide +kernel) wS_WM_in d_Warp_aimedBeyond_17 rfl rfl (by first | exact Nat.le_of_ble_eq_true rfl | simp [cat_rf, Value.category]) (fun r1 h1 hp hro => ?_)
      obtain ⟨rfl, rfl⟩ := hp
      dsimp only [Option.toList_some, Option.toList_none, List.cons_append, List.nil_append]
      refine g_if_eq 51 d_Warp_aimedBeyond_20 (by decide) (fun c_20 => ?_) (fun c_20 => ?_)
      · have hf := ifp hf c_20
        refine g_iinc (_ + 1) d_Warp_aimedBeyond_51 rfl (by rfl) (by decide) ?_
        show Go _ _ _ _ _ _ [(0, _), (1, _), (2, _), (3, _), (4, _)] _
        refine g_goto 5 d_Warp_aimedBeyond_54 (by decide) ?_
        exact ih _ _ _ _ _ _ hf
      · have hf := ifn hf c_20
        refine g_aload_n d_Warp_aimedBeyond_23 rfl ?_
        obtain ⟨k_24, hf⟩ := gd_s hf
        obtain ⟨a_24_2, e_24_2, k_24_2, hf⟩ := rq_s hf
        refine fgs_Warp_row lf_Warp_24 d_Warp_aimedBeyond_24 k_24 e_24_2 ?_
        refine g_iload d_Warp_aimedBeyond_27 rfl ?_
        obtain ⟨i_29, hf⟩ := ix_s hf
        refine g_iald k_24_2 i_29 d_Warp_aimedBeyond_29 ?_
        refine g_if_lt 44 d_Warp_aimedBeyond_30 (by decide) (fun c_30 => ?_) (fun c_30 => ?_)
        · have hf := ifp hf c_30
          have key := e_Warp_aimedBeyond_44 (G := G) (h0 := h0) (fun _ _ _ _ _ _ q => ih _ _ _ _ _ _ q) hf
          exact key
        · have hf := ifn hf c_30
          refine g_aload_n d_Warp_aimedBeyond_33 rfl ?_
          refine fgs_Warp_row lf_Warp_24 d_Warp_aimedBeyond_34 k_24 e_24_2 ?_
          refine g_iload d_Warp_aimedBeyond_37 rfl ?_
          obtain ⟨i_39, hf⟩ := ix_s hf
          refine g_iald k_24_2 i_39 d_Warp_aimedBeyond_39 ?_
          refine g_iload_n d_Warp_aimedBeyond_40 rfl ?_
          refine g_icmp_lt 51 d_Warp_aimedBeyond_41 (by decide) (fun c_41 => ?_) (fun c_41 => ?_)
          · have hf := ifp hf c_41
            refine g_iinc (_ + 1) d_Warp_aimedBeyond_51 rfl (by rfl) (by decide) ?_
            show Go _ _ _ _ _ _ [(0, _), (1, _), (2, _), (3, _), (4, _)] _
            refine g_goto 5 d_Warp_aimedBeyond_54 (by decide) ?_
            exact ih _ _ _ _ _ _ hf
          · have hf := ifn hf c_41
            have key := e_Warp_aimedBeyond_44 (G := G) (h0 := h0) (fun _ _ _ _ _ _ q => ih _ _ _ _ _ _ q) hf
            exact key
def f_Warp_aimedBeyond (F : Nat) (x0 : Nat) (x1 : Int32) (x2 : Int32) (h : Hp) : Option (Int32 × Hp) := b_Warp_aimedBeyond_5 F F x0 x1 x2 (0 : Int32) (0 : Int32) h
set_option maxRecDepth 100000 in
set_option maxHeartbeats 4000000 in
theorem e_Warp_aimedBeyond {G : Gl} {F : Nat} {r : Int32} {h' : Hp} {x0 : Nat} {x1 : Int32} {x2 : Int32} {h : Hp} (hf : f_Warp_aimedBeyond F x0 x1 x2 h = some (r, h')) : Ex G mi_Warp_aimedBeyond [.ref x0, .int x1, .int x2] h (pI r h') := by
  unfold f_Warp_aimedBeyond at hf
  refine Ex.of nmI (by decide) (Nat.le_of_ble_eq_true rfl) ?_
  show Go G mi_Warp_aimedBeyond h _ h 0 [(0, .ref x0), (1, .int x1), (2, .int x2)] []
  refine g_iconst 0 d_Warp_aimedBeyond_0 (by decide) ?_
  refine g_istore_n d_Warp_aimedBeyond_1 (by decide) ?_
  show Go _ _ _ _ _ _ [(0, _), (1, _), (2, _), (3, _)] _
  refine g_iconst 0 d_Warp_aimedBeyond_2 (by decide) ?_
  refine g_istore d_Warp_aimedBeyond_3 (by decide) ?_
  show Go _ _ _ _ _ _ [(0, _), (1, _), (2, _), (3, _), (4, _)] _
  have key := e_Warp_aimedBeyond_5 (G := G) (h0 := h)  F _ _ _ _ _ _ hf
  exact key
abbrev mi_WM_unableOf : MI := (⟨"WarpMill", "unableOf", "(LWarpMill$Warp;LWarpMill$Word;I)I"⟩, prog_1_method_23_code, 4, some .int, 2, 45)
def it_WM_unableOf_0 : List (Nat × ClassFile.Instr × Nat) := [(0, .aload_n 2, 1), (1, .getfield 269, 3), (4, .ifCond .eq (9), 3), (7, .aload_n 1, 1), (8, .iload_n 3, 1), (9, .invokevirtual 323, 3), (12, .ireturn, 1), (13, .aload_n 2, 1), (14, .getfield 297, 3), (17, .ifCond .ne (5), 3), (20, .iconst 0, 1), (21, .ireturn, 1), (22, .aload_n 1, 1), (23, .iload_n 3, 1), (24, .invokevirtual 326, 3), (27, .aload_n 1, 1), (28, .iload_n 3, 1), (29, .aload_n 2, 1), (30, .getfield 284, 3), (33, .ifCond .eq (8), 3), (36, .bipush (64), 2), (38, .goto (10), 3), (41, .aload_n 0, 1), (42, .getfield 10, 3)]
theorem id_WM_unableOf_0 : ∀ q ∈ it_WM_unableOf_0, decode prog_1_method_23_code q.1 = .ok q.2 := by decide +kernel
theorem d_WM_unableOf_0 : decode prog_1_method_23_code 0 = .ok (.aload_n 2, 1) := id_WM_unableOf_0 (0, .aload_n 2, 1) (List.mem_of_getElem? (i := 0) rfl)
theorem d_WM_unableOf_1 : decode prog_1_method_23_code 1 = .ok (.getfield 269, 3) := id_WM_unableOf_0 (1, .getfield 269, 3) (List.mem_of_getElem? (i := 1) rfl)
theorem d_WM_unableOf_4 : decode prog_1_method_23_code 4 = .ok (.ifCond .eq (9), 3) := id_WM_unableOf_0 (4, .ifCond .eq (9), 3) (List.mem_of_getElem? (i := 2) rfl)
theorem d_WM_unableOf_7 : decode prog_1_method_23_code 7 = .ok (.aload_n 1, 1) := id_WM_unableOf_0 (7, .aload_n 1, 1) (List.mem_of_getElem? (i := 3) rfl)
theorem d_WM_unableOf_8 : decode prog_1_method_23_code 8 = .ok (.iload_n 3, 1) := id_WM_unableOf_0 (8, .iload_n 3, 1) (List.mem_of_getElem? (i := 4) rfl)
theorem d_WM_unableOf_9 : decode prog_1_method_23_code 9 = .ok (.invokevirtual 323, 3) := id_WM_unableOf_0 (9, .invokevirtual 323, 3) (List.mem_of_getElem? (i := 5) rfl)
theorem d_WM_unableOf_12 : decode prog_1_method_23_code 12 = .ok (.ireturn, 1) := id_WM_unableOf_0 (12, .ireturn, 1) (List.mem_of_getElem? (i := 6) rfl)
theorem d_WM_unableOf_13 : decode prog_1_method_23_code 13 = .ok (.aload_n 2, 1) := id_WM_unableOf_0 (13, .aload_n 2, 1) (List.mem_of_getElem? (i := 7) rfl)
theorem d_WM_unableOf_14 : decode prog_1_method_23_code 14 = .ok (.getfield 297, 3) := id_WM_unableOf_0 (14, .getfield 297, 3) (List.mem_of_getElem? (i := 8) rfl)
theorem d_WM_unableOf_17 : decode prog_1_method_23_code 17 = .ok (.ifCond .ne (5), 3) := id_WM_unableOf_0 (17, .ifCond .ne (5), 3) (List.mem_of_getElem? (i := 9) rfl)
theorem d_WM_unableOf_20 : decode prog_1_method_23_code 20 = .ok (.iconst 0, 1) := id_WM_unableOf_0 (20, .iconst 0, 1) (List.mem_of_getElem? (i := 10) rfl)
theorem d_WM_unableOf_21 : decode prog_1_method_23_code 21 = .ok (.ireturn, 1) := id_WM_unableOf_0 (21, .ireturn, 1) (List.mem_of_getElem? (i := 11) rfl)
theorem d_WM_unableOf_22 : decode prog_1_method_23_code 22 = .ok (.aload_n 1, 1) := id_WM_unableOf_0 (22, .aload_n 1, 1) (List.mem_of_getElem? (i := 12) rfl)
theorem d_WM_unableOf_23 : decode prog_1_method_23_code 23 = .ok (.iload_n 3, 1) := id_WM_unableOf_0 (23, .iload_n 3, 1) (List.mem_of_getElem? (i := 13) rfl)
theorem d_WM_unableOf_24 : decode prog_1_method_23_code 24 = .ok (.invokevirtual 326, 3) := id_WM_unableOf_0 (24, .invokevirtual 326, 3) (List.mem_of_getElem? (i := 14) rfl)
theorem d_WM_unableOf_27 : decode prog_1_method_23_code 27 = .ok (.aload_n 1, 1) := id_WM_unableOf_0 (27, .aload_n 1, 1) (List.mem_of_getElem? (i := 15) rfl)
theorem d_WM_unableOf_28 : decode prog_1_method_23_code 28 = .ok (.iload_n 3, 1) := id_WM_unableOf_0 (28, .iload_n 3, 1) (List.mem_of_getElem? (i := 16) rfl)
theorem d_WM_unableOf_29 : decode prog_1_method_23_code 29 = .ok (.aload_n 2, 1) := id_WM_unableOf_0 (29, .aload_n 2, 1) (List.mem_of_getElem? (i := 17) rfl)
theorem d_WM_unableOf_30 : decode prog_1_method_23_code 30 = .ok (.getfield 284, 3) := id_WM_unableOf_0 (30, .getfield 284, 3) (List.mem_of_getElem? (i := 18) rfl)
theorem d_WM_unableOf_33 : decode prog_1_method_23_code 33 = .ok (.ifCond .eq (8), 3) := id_WM_unableOf_0 (33, .ifCond .eq (8), 3) (List.mem_of_getElem? (i := 19) rfl)
theorem d_WM_unableOf_36 : decode prog_1_method_23_code 36 = .ok (.bipush (64), 2) := id_WM_unableOf_0 (36, .bipush (64), 2) (List.mem_of_getElem? (i := 20) rfl)
theorem d_WM_unableOf_38 : decode prog_1_method_23_code 38 = .ok (.goto (10), 3) := id_WM_unableOf_0 (38, .goto (10), 3) (List.mem_of_getElem? (i := 21) rfl)
theorem d_WM_unableOf_41 : decode prog_1_method_23_code 41 = .ok (.aload_n 0, 1) := id_WM_unableOf_0 (41, .aload_n 0, 1) (List.mem_of_getElem? (i := 22) rfl)
theorem d_WM_unableOf_42 : decode prog_1_method_23_code 42 = .ok (.getfield 10, 3) := id_WM_unableOf_0 (42, .getfield 10, 3) (List.mem_of_getElem? (i := 23) rfl)
def it_WM_unableOf_1 : List (Nat × ClassFile.Instr × Nat) := [(45, .getfield 329, 3), (48, .invokevirtual 331, 3), (51, .ireturn, 1)]
theorem id_WM_unableOf_1 : ∀ q ∈ it_WM_unableOf_1, decode prog_1_method_23_code q.1 = .ok q.2 := by decide +kernel
theorem d_WM_unableOf_45 : decode prog_1_method_23_code 45 = .ok (.getfield 329, 3) := id_WM_unableOf_1 (45, .getfield 329, 3) (List.mem_of_getElem? (i := 0) rfl)
theorem d_WM_unableOf_48 : decode prog_1_method_23_code 48 = .ok (.invokevirtual 331, 3) := id_WM_unableOf_1 (48, .invokevirtual 331, 3) (List.mem_of_getElem? (i := 1) rfl)
theorem d_WM_unableOf_51 : decode prog_1_method_23_code 51 = .ok (.ireturn, 1) := id_WM_unableOf_1 (51, .ireturn, 1) (List.mem_of_getElem? (i := 2) rfl)
theorem wC_WM_unableOf : Cond.code ⟨"WarpMill", "unableOf", "(LWarpMill$Warp;LWarpMill$Word;I)I"⟩ prog_1_method_23_code 4 (some .int) ∈ lw_tb := mem_tb 848 (by decide +kernel) rfl
theorem cw_WM_unableOf_Warp_dividingByZero : cW mi_WM_unableOf mi_Warp_dividingByZero 1 := ⟨wC_Warp_dividingByZero, wi_Warp, ⟨by decide, by decide, by decide +kernel⟩, by decide, by decide⟩
theorem cw_WM_unableOf_Warp_aim : cW mi_WM_unableOf mi_Warp_aim 1 := ⟨wC_Warp_aim, wi_Warp, ⟨by decide, by decide, by decide +kernel⟩, by decide, by decide⟩
theorem cw_WM_unableOf_Warp_aimedBeyond : cW mi_WM_unableOf mi_Warp_aimedBeyond 2 := ⟨wC_Warp_aimedBeyond, wi_Warp, ⟨by decide, by decide, by decide +kernel⟩, by decide, by decide⟩
def b_WM_unableOf_48 (F : Nat) (s0 : Nat) (s1 : Int32) (s2 : Int32) (h : Hp) : Option (Int32 × Hp) := gd (hK h s0 = 9) <| cl (f_Warp_aimedBeyond F s0 s1 s2 h) fun v_48_2 h_48_2 => some (v_48_2, h_48_2)
set_option maxRecDepth 100000 in
set_option maxHeartbeats 4000000 in
theorem e_WM_unableOf_48 {G : Gl} (hw : gF G) {h0 : Hp} {F : Nat} {r : Int32} {h' : Hp}   {s0 : Nat} {s1 : Int32} {s2 : Int32} {h : Hp} (hf : b_WM_unableOf_48 F s0 s1 s2 h = some (r, h')) : Go G mi_WM_unableOf h0 (pI r h') h 48 [] [.int s2, .int s1, .ref s0] := by
  unfold b_WM_unableOf_48 at hf
  obtain ⟨k_48, hf⟩ := gd_s hf
  obtain ⟨v_48_2, h_48_2, e_48_2, hf⟩ := cl_s hf
  refine g_callV (mz := mi_Warp_aimedBeyond) (e_Warp_aimedBeyond e_48_2) cw_WM_unableOf_Warp_aimedBeyond lm_WM_331 wI_Warp_aimedBeyond wV_Warp_aimedBeyond (ci := 8) k_48 (by decide) rfl rfl d_WM_unableOf_48 rfl rfl (by first | exact Nat.le_of_ble_eq_true rfl | simp [cat_rf, Value.category]) (fun r1 h1 hp hro => ?_)
  obtain ⟨rfl, rfl⟩ := hp
  dsimp only [Option.toList_some, Option.toList_none, List.cons_append, List.nil_append]
  exact Go.ret (some _) (rOk_i _) rfl d_WM_unableOf_51 (pI_of hf)
def f_WM_unableOf (F : Nat) (x0 : Nat) (x1 : Option Nat) (x2 : Option Nat) (x3 : Int32) (h : Hp) : Option (Int32 × Hp) := rq h x2 10 fun a_1 => if (hI h 584 a_1) = 0 then (if (hI h 585 a_1) = 0 then (some ((0 : Int32), h)) else (rq h x1 9 fun a_24 => clv (f_Warp_aim F a_24 x3 h) fun h_24_2 => gd (hK h_24_2 a_1 = 10) <| if (hI h_24_2 586 a_1) = 0 then (gd (hK h_24_2 x0 = 1) <| rq h_24_2 (hR h_24_2 0 x0) 2 fun a_42_2 => b_WM_unableOf_48 F a_24 x3 (hI h_24_2 69 a_42_2) h_24_2) else (b_WM_unableOf_48 F a_24 x3 (64 : Int32) h_24_2))) else (rq h x1 9 fun a_9 => cl (f_Warp_dividingByZero F a_9 x3 h) fun v_9_2 h_9_2 => some (v_9_2, h_9_2))
set_option maxRecDepth 100000 in
set_option maxHeartbeats 4000000 in
theorem e_WM_unableOf {G : Gl} (hw : gF G) {F : Nat} {r : Int32} {h' : Hp} {x0 : Nat} {x1 : Option Nat} {x2 : Option Nat} {x3 : Int32} {h : Hp} (hf : f_WM_unableOf F x0 x1 x2 x3 h = some (r, h')) : Ex G mi_WM_unableOf [.ref x0, va_rf x1, va_rf x2, .int x3] h (pI r h') := by
  unfold f_WM_unableOf at hf
  refine Ex.of nmI (by decide) (by cases x1 <;> cases x2 <;> exact Nat.le_of_ble_eq_true rfl) ?_
  rw [show lv_args 0 [.ref x0, va_rf x1, va_rf x2, .int x3] = [(0, .ref x0), (1, va_rf x1), (2, va_rf x2), (3, .int x3)] from by cases x1 <;> cases x2 <;> rfl]
  show Go G mi_WM_unableOf h _ h 0 [(0, .ref x0), (1, va_rf x1), (2, va_rf x2), (3, .int x3)] []
  refine g_aload_nq (r := x2) d_WM_unableOf_0 rfl ?_
  obtain ⟨a_1, rfl, k_1, hf⟩ := rq_s hf
  refine fg_Word_divides lf_WM_269 d_WM_unableOf_1 k_1 ?_
  refine g_if_eq 13 d_WM_unableOf_4 (by decide) (fun c_4 => ?_) (fun c_4 => ?_)
  · have hf := ifp hf c_4
    refine g_aload_n d_WM_unableOf_13 rfl ?_
    refine fg_Word_usesMemory lf_WM_297 d_WM_unableOf_14 k_1 ?_
    refine g_if_ne 22 d_WM_unableOf_17 (by decide) (fun c_17 => ?_) (fun c_17 => ?_)
    · have hf := ifn hf c_17
      refine g_aload_nq (r := x1) d_WM_unableOf_22 rfl ?_
      refine g_iload_n d_WM_unableOf_23 rfl ?_
      obtain ⟨a_24, rfl, k_24, hf⟩ := rq_s hf
      obtain ⟨h_24_2, e_24_2, hf⟩ := clv_s hf
      refine g_callV (mz := mi_Warp_aim) (e_Warp_aim hw e_24_2) cw_WM_unableOf_Warp_aim lm_WM_326 wI_Warp_aim wV_Warp_aim (ci := 8) k_24 (by decide) rfl rfl d_WM_unableOf_24 rfl rfl (by first | exact Nat.le_of_ble_eq_true rfl | simp [cat_rf, Value.category]) (fun r1 h1 hp hro => ?_)
      obtain ⟨rfl, rfl⟩ := hp
      dsimp only [Option.toList_some, Option.toList_none, List.cons_append, List.nil_append]
      refine g_aload_n d_WM_unableOf_27 rfl ?_
      refine g_iload_n d_WM_unableOf_28 rfl ?_
      refine g_aload_n d_WM_unableOf_29 rfl ?_
      obtain ⟨k_30, hf⟩ := gd_s hf
      refine fg_Word_usesShared lf_WM_284 d_WM_unableOf_30 k_30 ?_
      refine g_if_eq 41 d_WM_unableOf_33 (by decide) (fun c_33 => ?_) (fun c_33 => ?_)
      · have hf := ifp hf c_33
        refine g_aload_n d_WM_unableOf_41 rfl ?_
        obtain ⟨k_42, hf⟩ := gd_s hf
        obtain ⟨a_42_2, e_42_2, k_42_2, hf⟩ := rq_s hf
        refine fgs_WM_sizes lf_WM_10 d_WM_unableOf_42 k_42 e_42_2 ?_
        refine fg_Sizes_ints lf_WM_329 d_WM_unableOf_45 k_42_2 ?_
        refine Go.locals [] rfl ?_
        have key := e_WM_unableOf_48 hw (G := G) (h0 := h)  hf
        exact key
      · have hf := ifn hf c_33
        refine g_bipush (64) d_WM_unableOf_36 (by decide) ?_
        refine g_goto 48 d_WM_unableOf_38 (by decide) ?_
        refine Go.locals [] rfl ?_
        have key := e_WM_unableOf_48 hw (G := G) (h0 := h)  hf
        exact key
    · have hf := ifp hf c_17
      refine g_iconst 0 d_WM_unableOf_20 (by decide) ?_
      exact Go.ret (some _) (rOk_i _) rfl d_WM_unableOf_21 (pI_of hf)
  · have hf := ifn hf c_4
    refine g_aload_nq (r := x1) d_WM_unableOf_7 rfl ?_
    refine g_iload_n d_WM_unableOf_8 rfl ?_
    obtain ⟨a_9, rfl, k_9, hf⟩ := rq_s hf
    obtain ⟨v_9_2, h_9_2, e_9_2, hf⟩ := cl_s hf
    refine g_callV (mz := mi_Warp_dividingByZero) (e_Warp_dividingByZero e_9_2) cw_WM_unableOf_Warp_dividingByZero lm_WM_323 wI_Warp_dividingByZero wV_Warp_dividingByZero (ci := 8) k_9 (by decide) rfl rfl d_WM_unableOf_9 rfl rfl (by first | exact Nat.le_of_ble_eq_true rfl | simp [cat_rf, Value.category]) (fun r1 h1 hp hro => ?_)
    obtain ⟨rfl, rfl⟩ := hp
    dsimp only [Option.toList_some, Option.toList_none, List.cons_append, List.nil_append]
    exact Go.ret (some _) (rOk_i _) rfl d_WM_unableOf_12 (pI_of hf)
abbrev mi_Integer_bitCount : MI := (⟨"java/lang/Integer", "bitCount", "(I)I"⟩, prog_17_method_49_code, 1, some .int, 0, 0)
def it_Integer_bitCount_0 : List (Nat × ClassFile.Instr × Nat) := [(0, .iload_n 0, 1), (1, .iload_n 0, 1), (2, .iconst 1, 1), (3, .iushr, 1), (4, .ldc_w 265, 3), (7, .iand, 1), (8, .isub, 1), (9, .istore_n 0, 1), (10, .iload_n 0, 1), (11, .ldc_w 266, 3), (14, .iand, 1), (15, .iload_n 0, 1), (16, .iconst 2, 1), (17, .iushr, 1), (18, .ldc_w 266, 3), (21, .iand, 1), (22, .iadd, 1), (23, .istore_n 0, 1), (24, .iload_n 0, 1), (25, .iload_n 0, 1), (26, .iconst 4, 1), (27, .iushr, 1), (28, .iadd, 1), (29, .ldc_w 267, 3)]
theorem id_Integer_bitCount_0 : ∀ q ∈ it_Integer_bitCount_0, decode prog_17_method_49_code q.1 = .ok q.2 := by decide +kernel
theorem d_Integer_bitCount_0 : decode prog_17_method_49_code 0 = .ok (.iload_n 0, 1) := id_Integer_bitCount_0 (0, .iload_n 0, 1) (List.mem_of_getElem? (i := 0) rfl)
theorem d_Integer_bitCount_1 : decode prog_17_method_49_code 1 = .ok (.iload_n 0, 1) := id_Integer_bitCount_0 (1, .iload_n 0, 1) (List.mem_of_getElem? (i := 1) rfl)
theorem d_Integer_bitCount_2 : decode prog_17_method_49_code 2 = .ok (.iconst 1, 1) := id_Integer_bitCount_0 (2, .iconst 1, 1) (List.mem_of_getElem? (i := 2) rfl)
theorem d_Integer_bitCount_3 : decode prog_17_method_49_code 3 = .ok (.iushr, 1) := id_Integer_bitCount_0 (3, .iushr, 1) (List.mem_of_getElem? (i := 3) rfl)
theorem d_Integer_bitCount_4 : decode prog_17_method_49_code 4 = .ok (.ldc_w 265, 3) := id_Integer_bitCount_0 (4, .ldc_w 265, 3) (List.mem_of_getElem? (i := 4) rfl)
theorem d_Integer_bitCount_7 : decode prog_17_method_49_code 7 = .ok (.iand, 1) := id_Integer_bitCount_0 (7, .iand, 1) (List.mem_of_getElem? (i := 5) rfl)
theorem d_Integer_bitCount_8 : decode prog_17_method_49_code 8 = .ok (.isub, 1) := id_Integer_bitCount_0 (8, .isub, 1) (List.mem_of_getElem? (i := 6) rfl)
theorem d_Integer_bitCount_9 : decode prog_17_method_49_code 9 = .ok (.istore_n 0, 1) := id_Integer_bitCount_0 (9, .istore_n 0, 1) (List.mem_of_getElem? (i := 7) rfl)
theorem d_Integer_bitCount_10 : decode prog_17_method_49_code 10 = .ok (.iload_n 0, 1) := id_Integer_bitCount_0 (10, .iload_n 0, 1) (List.mem_of_getElem? (i := 8) rfl)
theorem d_Integer_bitCount_11 : decode prog_17_method_49_code 11 = .ok (.ldc_w 266, 3) := id_Integer_bitCount_0 (11, .ldc_w 266, 3) (List.mem_of_getElem? (i := 9) rfl)
theorem d_Integer_bitCount_14 : decode prog_17_method_49_code 14 = .ok (.iand, 1) := id_Integer_bitCount_0 (14, .iand, 1) (List.mem_of_getElem? (i := 10) rfl)
theorem d_Integer_bitCount_15 : decode prog_17_method_49_code 15 = .ok (.iload_n 0, 1) := id_Integer_bitCount_0 (15, .iload_n 0, 1) (List.mem_of_getElem? (i := 11) rfl)
theorem d_Integer_bitCount_16 : decode prog_17_method_49_code 16 = .ok (.iconst 2, 1) := id_Integer_bitCount_0 (16, .iconst 2, 1) (List.mem_of_getElem? (i := 12) rfl)
theorem d_Integer_bitCount_17 : decode prog_17_method_49_code 17 = .ok (.iushr, 1) := id_Integer_bitCount_0 (17, .iushr, 1) (List.mem_of_getElem? (i := 13) rfl)
theorem d_Integer_bitCount_18 : decode prog_17_method_49_code 18 = .ok (.ldc_w 266, 3) := id_Integer_bitCount_0 (18, .ldc_w 266, 3) (List.mem_of_getElem? (i := 14) rfl)
theorem d_Integer_bitCount_21 : decode prog_17_method_49_code 21 = .ok (.iand, 1) := id_Integer_bitCount_0 (21, .iand, 1) (List.mem_of_getElem? (i := 15) rfl)
theorem d_Integer_bitCount_22 : decode prog_17_method_49_code 22 = .ok (.iadd, 1) := id_Integer_bitCount_0 (22, .iadd, 1) (List.mem_of_getElem? (i := 16) rfl)
theorem d_Integer_bitCount_23 : decode prog_17_method_49_code 23 = .ok (.istore_n 0, 1) := id_Integer_bitCount_0 (23, .istore_n 0, 1) (List.mem_of_getElem? (i := 17) rfl)
theorem d_Integer_bitCount_24 : decode prog_17_method_49_code 24 = .ok (.iload_n 0, 1) := id_Integer_bitCount_0 (24, .iload_n 0, 1) (List.mem_of_getElem? (i := 18) rfl)
theorem d_Integer_bitCount_25 : decode prog_17_method_49_code 25 = .ok (.iload_n 0, 1) := id_Integer_bitCount_0 (25, .iload_n 0, 1) (List.mem_of_getElem? (i := 19) rfl)
theorem d_Integer_bitCount_26 : decode prog_17_method_49_code 26 = .ok (.iconst 4, 1) := id_Integer_bitCount_0 (26, .iconst 4, 1) (List.mem_of_getElem? (i := 20) rfl)
theorem d_Integer_bitCount_27 : decode prog_17_method_49_code 27 = .ok (.iushr, 1) := id_Integer_bitCount_0 (27, .iushr, 1) (List.mem_of_getElem? (i := 21) rfl)
theorem d_Integer_bitCount_28 : decode prog_17_method_49_code 28 = .ok (.iadd, 1) := id_Integer_bitCount_0 (28, .iadd, 1) (List.mem_of_getElem? (i := 22) rfl)
theorem d_Integer_bitCount_29 : decode prog_17_method_49_code 29 = .ok (.ldc_w 267, 3) := id_Integer_bitCount_0 (29, .ldc_w 267, 3) (List.mem_of_getElem? (i := 23) rfl)
def it_Integer_bitCount_1 : List (Nat × ClassFile.Instr × Nat) := [(32, .iand, 1), (33, .istore_n 0, 1), (34, .iload_n 0, 1), (35, .iload_n 0, 1), (36, .bipush (8), 2), (38, .iushr, 1), (39, .iadd, 1), (40, .istore_n 0, 1), (41, .iload_n 0, 1), (42, .iload_n 0, 1), (43, .bipush (16), 2), (45, .iushr, 1), (46, .iadd, 1), (47, .istore_n 0, 1), (48, .iload_n 0, 1), (49, .bipush (63), 2), (51, .iand, 1), (52, .ireturn, 1)]
theorem id_Integer_bitCount_1 : ∀ q ∈ it_Integer_bitCount_1, decode prog_17_method_49_code q.1 = .ok q.2 := by decide +kernel
theorem d_Integer_bitCount_32 : decode prog_17_method_49_code 32 = .ok (.iand, 1) := id_Integer_bitCount_1 (32, .iand, 1) (List.mem_of_getElem? (i := 0) rfl)
theorem d_Integer_bitCount_33 : decode prog_17_method_49_code 33 = .ok (.istore_n 0, 1) := id_Integer_bitCount_1 (33, .istore_n 0, 1) (List.mem_of_getElem? (i := 1) rfl)
theorem d_Integer_bitCount_34 : decode prog_17_method_49_code 34 = .ok (.iload_n 0, 1) := id_Integer_bitCount_1 (34, .iload_n 0, 1) (List.mem_of_getElem? (i := 2) rfl)
theorem d_Integer_bitCount_35 : decode prog_17_method_49_code 35 = .ok (.iload_n 0, 1) := id_Integer_bitCount_1 (35, .iload_n 0, 1) (List.mem_of_getElem? (i := 3) rfl)
theorem d_Integer_bitCount_36 : decode prog_17_method_49_code 36 = .ok (.bipush (8), 2) := id_Integer_bitCount_1 (36, .bipush (8), 2) (List.mem_of_getElem? (i := 4) rfl)
theorem d_Integer_bitCount_38 : decode prog_17_method_49_code 38 = .ok (.iushr, 1) := id_Integer_bitCount_1 (38, .iushr, 1) (List.mem_of_getElem? (i := 5) rfl)
theorem d_Integer_bitCount_39 : decode prog_17_method_49_code 39 = .ok (.iadd, 1) := id_Integer_bitCount_1 (39, .iadd, 1) (List.mem_of_getElem? (i := 6) rfl)
theorem d_Integer_bitCount_40 : decode prog_17_method_49_code 40 = .ok (.istore_n 0, 1) := id_Integer_bitCount_1 (40, .istore_n 0, 1) (List.mem_of_getElem? (i := 7) rfl)
theorem d_Integer_bitCount_41 : decode prog_17_method_49_code 41 = .ok (.iload_n 0, 1) := id_Integer_bitCount_1 (41, .iload_n 0, 1) (List.mem_of_getElem? (i := 8) rfl)
theorem d_Integer_bitCount_42 : decode prog_17_method_49_code 42 = .ok (.iload_n 0, 1) := id_Integer_bitCount_1 (42, .iload_n 0, 1) (List.mem_of_getElem? (i := 9) rfl)
theorem d_Integer_bitCount_43 : decode prog_17_method_49_code 43 = .ok (.bipush (16), 2) := id_Integer_bitCount_1 (43, .bipush (16), 2) (List.mem_of_getElem? (i := 10) rfl)
theorem d_Integer_bitCount_45 : decode prog_17_method_49_code 45 = .ok (.iushr, 1) := id_Integer_bitCount_1 (45, .iushr, 1) (List.mem_of_getElem? (i := 11) rfl)
theorem d_Integer_bitCount_46 : decode prog_17_method_49_code 46 = .ok (.iadd, 1) := id_Integer_bitCount_1 (46, .iadd, 1) (List.mem_of_getElem? (i := 12) rfl)
theorem d_Integer_bitCount_47 : decode prog_17_method_49_code 47 = .ok (.istore_n 0, 1) := id_Integer_bitCount_1 (47, .istore_n 0, 1) (List.mem_of_getElem? (i := 13) rfl)
theorem d_Integer_bitCount_48 : decode prog_17_method_49_code 48 = .ok (.iload_n 0, 1) := id_Integer_bitCount_1 (48, .iload_n 0, 1) (List.mem_of_getElem? (i := 14) rfl)
theorem d_Integer_bitCount_49 : decode prog_17_method_49_code 49 = .ok (.bipush (63), 2) := id_Integer_bitCount_1 (49, .bipush (63), 2) (List.mem_of_getElem? (i := 15) rfl)
theorem d_Integer_bitCount_51 : decode prog_17_method_49_code 51 = .ok (.iand, 1) := id_Integer_bitCount_1 (51, .iand, 1) (List.mem_of_getElem? (i := 16) rfl)
theorem d_Integer_bitCount_52 : decode prog_17_method_49_code 52 = .ok (.ireturn, 1) := id_Integer_bitCount_1 (52, .ireturn, 1) (List.mem_of_getElem? (i := 17) rfl)
theorem wC_Integer_bitCount : Cond.code ⟨"java/lang/Integer", "bitCount", "(I)I"⟩ prog_17_method_49_code 1 (some .int) ∈ lw_tb := mem_tb 533 (by decide +kernel) rfl
def f_Integer_bitCount (F : Nat) (x0 : Int32) (h : Hp) : Option (Int32 × Hp) := some (((((((((x0 - ((ushr x0 (1 : Int32)) &&& (1431655765 : Int32))) &&& (858993459 : Int32)) + ((ushr (x0 - ((ushr x0 (1 : Int32)) &&& (1431655765 : Int32))) (2 : Int32)) &&& (858993459 : Int32))) + (ushr (((x0 - ((ushr x0 (1 : Int32)) &&& (1431655765 : Int32))) &&& (858993459 : Int32)) + ((ushr (x0 - ((ushr x0 (1 : Int32)) &&& (1431655765 : Int32))) (2 : Int32)) &&& (858993459 : Int32))) (4 : Int32))) &&& (252645135 : Int32)) + (ushr (((((x0 - ((ushr x0 (1 : Int32)) &&& (1431655765 : Int32))) &&& (858993459 : Int32)) + ((ushr (x0 - ((ushr x0 (1 : Int32)) &&& (1431655765 : Int32))) (2 : Int32)) &&& (858993459 : Int32))) + (ushr (((x0 - ((ushr x0 (1 : Int32)) &&& (1431655765 : Int32))) &&& (858993459 : Int32)) + ((ushr (x0 - ((ushr x0 (1 : Int32)) &&& (1431655765 : Int32))) (2 : Int32)) &&& (858993459 : Int32))) (4 : Int32))) &&& (252645135 : Int32)) (8 : Int32))) + (ushr ((((((x0 - ((ushr x0 (1 : Int32)) &&& (1431655765 : Int32))) &&& (858993459 : Int32)) + ((ushr (x0 - ((ushr x0 (1 : Int32)) &&& (1431655765 : Int32))) (2 : Int32)) &&& (858993459 : Int32))) + (ushr (((x0 - ((ushr x0 (1 : Int32)) &&& (1431655765 : Int32))) &&& (858993459 : Int32)) + ((ushr (x0 - ((ushr x0 (1 : Int32)) &&& (1431655765 : Int32))) (2 : Int32)) &&& (858993459 : Int32))) (4 : Int32))) &&& (252645135 : Int32)) + (ushr (((((x0 - ((ushr x0 (1 : Int32)) &&& (1431655765 : Int32))) &&& (858993459 : Int32)) + ((ushr (x0 - ((ushr x0 (1 : Int32)) &&& (1431655765 : Int32))) (2 : Int32)) &&& (858993459 : Int32))) + (ushr (((x0 - ((ushr x0 (1 : Int32)) &&& (1431655765 : Int32))) &&& (858993459 : Int32)) + ((ushr (x0 - ((ushr x0 (1 : Int32)) &&& (1431655765 : Int32))) (2 : Int32)) &&& (858993459 : Int32))) (4 : Int32))) &&& (252645135 : Int32)) (8 : Int32))) (16 : Int32))) &&& (63 : Int32)), h)
set_option maxRecDepth 100000 in
set_option maxHeartbeats 4000000 in
theorem e_Integer_bitCount {G : Gl} {F : Nat} {r : Int32} {h' : Hp} {x0 : Int32} {h : Hp} (hf : f_Integer_bitCount F x0 h = some (r, h')) : Ex G mi_Integer_bitCount [.int x0] h (pI r h') := by
  unfold f_Integer_bitCount at hf
  refine Ex.ofF nmI (by decide +kernel) (Nat.le_of_ble_eq_true rfl) ?_
  show Go G mi_Integer_bitCount h _ h 0 [(0, .int x0)] []
  refine g_iload_n d_Integer_bitCount_0 rfl ?_
  refine g_iload_n d_Integer_bitCount_1 rfl ?_
  refine g_iconst 1 d_Integer_bitCount_2 (by decide) ?_
  refine g_iushr d_Integer_bitCount_3 ?_
  refine g_ldcw lk_Integer_265 d_Integer_bitCount_4 ?_
  refine g_iand d_Integer_bitCount_7 ?_
  refine g_isub d_Integer_bitCount_8 ?_
  refine g_istore_n d_Integer_bitCount_9 (by decide) ?_
  show Go _ _ _ _ _ _ [(0, _)] _
  refine g_iload_n d_Integer_bitCount_10 rfl ?_
  refine g_ldcw lk_Integer_266 d_Integer_bitCount_11 ?_
  refine g_iand d_Integer_bitCount_14 ?_
  refine g_iload_n d_Integer_bitCount_15 rfl ?_
  refine g_iconst 2 d_Integer_bitCount_16 (by decide) ?_
  refine g_iushr d_Integer_bitCount_17 ?_
  refine g_ldcw lk_Integer_266 d_Integer_bitCount_18 ?_
  refine g_iand d_Integer_bitCount_21 ?_
  refine g_iadd d_Integer_bitCount_22 ?_
  refine g_istore_n d_Integer_bitCount_23 (by decide) ?_
  show Go _ _ _ _ _ _ [(0, _)] _
  refine g_iload_n d_Integer_bitCount_24 rfl ?_
  refine g_iload_n d_Integer_bitCount_25 rfl ?_
  refine g_iconst 4 d_Integer_bitCount_26 (by decide) ?_
  refine g_iushr d_Integer_bitCount_27 ?_
  refine g_iadd d_Integer_bitCount_28 ?_
  refine g_ldcw lk_Integer_267 d_Integer_bitCount_29 ?_
  refine g_iand d_Integer_bitCount_32 ?_
  refine g_istore_n d_Integer_bitCount_33 (by decide) ?_
  show Go _ _ _ _ _ _ [(0, _)] _
  refine g_iload_n d_Integer_bitCount_34 rfl ?_
  refine g_iload_n d_Integer_bitCount_35 rfl ?_
  refine g_bipush (8) d_Integer_bitCount_36 (by decide) ?_
  refine g_iushr d_Integer_bitCount_38 ?_
  refine g_iadd d_Integer_bitCount_39 ?_
  refine g_istore_n d_Integer_bitCount_40 (by decide) ?_
  show Go _ _ _ _ _ _ [(0, _)] _
  refine g_iload_n d_Integer_bitCount_41 rfl ?_
  refine g_iload_n d_Integer_bitCount_42 rfl ?_
  refine g_bipush (16) d_Integer_bitCount_43 (by decide) ?_
  refine g_iushr d_Integer_bitCount_45 ?_
  refine g_iadd d_Integer_bitCount_46 ?_
  refine g_istore_n d_Integer_bitCount_47 (by decide) ?_
  show Go _ _ _ _ _ _ [(0, _)] _
  refine g_iload_n d_Integer_bitCount_48 rfl ?_
  refine g_bipush (63) d_Integer_bitCount_49 (by decide) ?_
  refine g_iand d_Integer_bitCount_51 ?_
  exact Go.ret (some _) (rOk_i _) rfl d_Integer_bitCount_52 (pI_of hf)
abbrev mi_Tally_count : MI := (⟨"WarpMill$Tally", "count", "(II)V"⟩, prog_8_method_4_code, 3, none, 1, 20)
def it_Tally_count_0 : List (Nat × ClassFile.Instr × Nat) := [(0, .aload_n 0, 1), (1, .dup, 1), (2, .getfield 30, 3), (5, .iconst 1, 1), (6, .iadd, 1), (7, .putfield 30, 3), (10, .aload_n 0, 1), (11, .dup, 1), (12, .getfield 33, 3), (15, .iload_n 2, 1), (16, .invokestatic 51, 3), (19, .iadd, 1), (20, .putfield 33, 3), (23, .iload_n 2, 1), (24, .iload_n 1, 1), (25, .if_icmp .eq (13), 3), (28, .aload_n 0, 1), (29, .dup, 1), (30, .getfield 36, 3), (33, .iconst 1, 1), (34, .iadd, 1), (35, .putfield 36, 3), (38, .return_, 1)]
theorem id_Tally_count_0 : ∀ q ∈ it_Tally_count_0, decode prog_8_method_4_code q.1 = .ok q.2 := by decide +kernel
theorem d_Tally_count_0 : decode prog_8_method_4_code 0 = .ok (.aload_n 0, 1) := id_Tally_count_0 (0, .aload_n 0, 1) (List.mem_of_getElem? (i := 0) rfl)
theorem d_Tally_count_1 : decode prog_8_method_4_code 1 = .ok (.dup, 1) := id_Tally_count_0 (1, .dup, 1) (List.mem_of_getElem? (i := 1) rfl)
theorem d_Tally_count_2 : decode prog_8_method_4_code 2 = .ok (.getfield 30, 3) := id_Tally_count_0 (2, .getfield 30, 3) (List.mem_of_getElem? (i := 2) rfl)
theorem d_Tally_count_5 : decode prog_8_method_4_code 5 = .ok (.iconst 1, 1) := id_Tally_count_0 (5, .iconst 1, 1) (List.mem_of_getElem? (i := 3) rfl)
theorem d_Tally_count_6 : decode prog_8_method_4_code 6 = .ok (.iadd, 1) := id_Tally_count_0 (6, .iadd, 1) (List.mem_of_getElem? (i := 4) rfl)
theorem d_Tally_count_7 : decode prog_8_method_4_code 7 = .ok (.putfield 30, 3) := id_Tally_count_0 (7, .putfield 30, 3) (List.mem_of_getElem? (i := 5) rfl)
theorem d_Tally_count_10 : decode prog_8_method_4_code 10 = .ok (.aload_n 0, 1) := id_Tally_count_0 (10, .aload_n 0, 1) (List.mem_of_getElem? (i := 6) rfl)
theorem d_Tally_count_11 : decode prog_8_method_4_code 11 = .ok (.dup, 1) := id_Tally_count_0 (11, .dup, 1) (List.mem_of_getElem? (i := 7) rfl)
theorem d_Tally_count_12 : decode prog_8_method_4_code 12 = .ok (.getfield 33, 3) := id_Tally_count_0 (12, .getfield 33, 3) (List.mem_of_getElem? (i := 8) rfl)
theorem d_Tally_count_15 : decode prog_8_method_4_code 15 = .ok (.iload_n 2, 1) := id_Tally_count_0 (15, .iload_n 2, 1) (List.mem_of_getElem? (i := 9) rfl)
theorem d_Tally_count_16 : decode prog_8_method_4_code 16 = .ok (.invokestatic 51, 3) := id_Tally_count_0 (16, .invokestatic 51, 3) (List.mem_of_getElem? (i := 10) rfl)
theorem d_Tally_count_19 : decode prog_8_method_4_code 19 = .ok (.iadd, 1) := id_Tally_count_0 (19, .iadd, 1) (List.mem_of_getElem? (i := 11) rfl)
theorem d_Tally_count_20 : decode prog_8_method_4_code 20 = .ok (.putfield 33, 3) := id_Tally_count_0 (20, .putfield 33, 3) (List.mem_of_getElem? (i := 12) rfl)
theorem d_Tally_count_23 : decode prog_8_method_4_code 23 = .ok (.iload_n 2, 1) := id_Tally_count_0 (23, .iload_n 2, 1) (List.mem_of_getElem? (i := 13) rfl)
theorem d_Tally_count_24 : decode prog_8_method_4_code 24 = .ok (.iload_n 1, 1) := id_Tally_count_0 (24, .iload_n 1, 1) (List.mem_of_getElem? (i := 14) rfl)
theorem d_Tally_count_25 : decode prog_8_method_4_code 25 = .ok (.if_icmp .eq (13), 3) := id_Tally_count_0 (25, .if_icmp .eq (13), 3) (List.mem_of_getElem? (i := 15) rfl)
theorem d_Tally_count_28 : decode prog_8_method_4_code 28 = .ok (.aload_n 0, 1) := id_Tally_count_0 (28, .aload_n 0, 1) (List.mem_of_getElem? (i := 16) rfl)
theorem d_Tally_count_29 : decode prog_8_method_4_code 29 = .ok (.dup, 1) := id_Tally_count_0 (29, .dup, 1) (List.mem_of_getElem? (i := 17) rfl)
theorem d_Tally_count_30 : decode prog_8_method_4_code 30 = .ok (.getfield 36, 3) := id_Tally_count_0 (30, .getfield 36, 3) (List.mem_of_getElem? (i := 18) rfl)
theorem d_Tally_count_33 : decode prog_8_method_4_code 33 = .ok (.iconst 1, 1) := id_Tally_count_0 (33, .iconst 1, 1) (List.mem_of_getElem? (i := 19) rfl)
theorem d_Tally_count_34 : decode prog_8_method_4_code 34 = .ok (.iadd, 1) := id_Tally_count_0 (34, .iadd, 1) (List.mem_of_getElem? (i := 20) rfl)
theorem d_Tally_count_35 : decode prog_8_method_4_code 35 = .ok (.putfield 36, 3) := id_Tally_count_0 (35, .putfield 36, 3) (List.mem_of_getElem? (i := 21) rfl)
theorem d_Tally_count_38 : decode prog_8_method_4_code 38 = .ok (.return_, 1) := id_Tally_count_0 (38, .return_, 1) (List.mem_of_getElem? (i := 22) rfl)
theorem wC_Tally_count : Cond.code ⟨"WarpMill$Tally", "count", "(II)V"⟩ prog_8_method_4_code 3 (none) ∈ lw_tb := mem_tb 868 (by decide +kernel) rfl
theorem cw_Tally_count_Integer_bitCount : cW mi_Tally_count mi_Integer_bitCount 1 := ⟨wC_Integer_bitCount, wi_Integer, ⟨by decide, by decide, by decide +kernel⟩, by decide, by decide⟩
def f_Tally_count (F : Nat) (x0 : Nat) (x1 : Int32) (x2 : Int32) (h : Hp) : Option Hp := gd (hK h x0 = 6) <| pw (sI h 327 x0 ((hI h 327 x0) + (1 : Int32))) fun h_7 => cl (f_Integer_bitCount F x2 h_7) fun v_16 h_16 => gd (hK h_16 x0 = 6) <| pw (sI h_16 328 x0 ((hI h_7 328 x0) + v_16)) fun h_20_2 => if x2 = x1 then (some h_20_2) else (pw (sI h_20_2 329 x0 ((hI h_20_2 329 x0) + (1 : Int32))) fun h_35 => some h_35)
set_option maxRecDepth 100000 in
set_option maxHeartbeats 4000000 in
theorem e_Tally_count {G : Gl} (hw : gF G) {F : Nat} {h' : Hp} {x0 : Nat} {x1 : Int32} {x2 : Int32} {h : Hp} (hf : f_Tally_count F x0 x1 x2 h = some h') : Ex G mi_Tally_count [.ref x0, .int x1, .int x2] h (pV h') := by
  unfold f_Tally_count at hf
  refine Ex.of nmV (by decide) (Nat.le_of_ble_eq_true rfl) ?_
  show Go G mi_Tally_count h _ h 0 [(0, .ref x0), (1, .int x1), (2, .int x2)] []
  refine g_aload_n d_Tally_count_0 rfl ?_
  refine g_dup (by first | rfl | exact cat_rf _) d_Tally_count_1 ?_
  obtain ⟨k_2, hf⟩ := gd_s hf
  refine fg_Tally_went lf_Tally_30 d_Tally_count_2 k_2 ?_
  refine g_iconst 1 d_Tally_count_5 (by decide) ?_
  refine g_iadd d_Tally_count_6 ?_
  refine fp_Tally_went hw lf_Tally_30 d_Tally_count_7 k_2 ?_
  have hf := pw_b hf
  refine g_aload_n d_Tally_count_10 rfl ?_
  refine g_dup (by first | rfl | exact cat_rf _) d_Tally_count_11 ?_
  refine fg_Tally_did lf_Tally_33 d_Tally_count_12 (kksI k_2) ?_
  refine g_iload_n d_Tally_count_15 rfl ?_
  obtain ⟨v_16, h_16, e_16, hf⟩ := cl_s hf
  refine g_callS (mz := mi_Integer_bitCount) (e_Integer_bitCount e_16) cw_Tally_count_Integer_bitCount lm_Tally_51 wS_Integer_bitCount d_Tally_count_16 rfl rfl (by first | exact Nat.le_of_ble_eq_true rfl | simp [cat_rf, Value.category]) (fun r1 h1 hp hro => ?_)
  obtain ⟨rfl, rfl⟩ := hp
  dsimp only [Option.toList_some, Option.toList_none, List.cons_append, List.nil_append]
  refine g_iadd d_Tally_count_19 ?_
  obtain ⟨k_20, hf⟩ := gd_s hf
  refine fp_Tally_did hw lf_Tally_33 d_Tally_count_20 k_20 ?_
  have hf := pw_b hf
  refine g_iload_n d_Tally_count_23 rfl ?_
  refine g_iload_n d_Tally_count_24 rfl ?_
  refine g_icmp_eq 38 d_Tally_count_25 (by decide) (fun c_25 => ?_) (fun c_25 => ?_)
  · have hf := ifp hf c_25
    exact Go.ret none trivial rfl d_Tally_count_38 (pV_of hf)
  · have hf := ifn hf c_25
    refine g_aload_n d_Tally_count_28 rfl ?_
    refine g_dup (by first | rfl | exact cat_rf _) d_Tally_count_29 ?_
    refine fg_Tally_partly lf_Tally_36 d_Tally_count_30 (kksI k_20) ?_
    refine g_iconst 1 d_Tally_count_33 (by decide) ?_
    refine g_iadd d_Tally_count_34 ?_
    refine fp_Tally_partly hw lf_Tally_36 d_Tally_count_35 (kksI k_20) ?_
    have hf := pw_b hf
    exact Go.ret none trivial rfl d_Tally_count_38 (pV_of hf)
abbrev mi_Warp_advance : MI := (⟨"WarpMill$Warp", "advance", "(I)V"⟩, prog_10_method_11_code, 4, none, 1, 22)
def it_Warp_advance_0 : List (Nat × ClassFile.Instr × Nat) := [(0, .aload_n 0, 1), (1, .getfield 77, 3), (4, .getfield 118, 3), (7, .bipush (40), 2), (9, .if_icmp .lt (19), 3), (12, .aload_n 0, 1), (13, .getfield 77, 3), (16, .getfield 118, 3), (19, .bipush (42), 2), (21, .if_icmp .gt (7), 3), (24, .iconst 1, 1), (25, .goto (4), 3), (28, .iconst 0, 1), (29, .istore_n 2, 1), (30, .iconst 0, 1), (31, .istore_n 3, 1), (32, .iload_n 3, 1), (33, .aload_n 0, 1), (34, .getfield 35, 3), (37, .if_icmp .ge (87), 3), (40, .iload_n 2, 1), (41, .ifCond .eq (54), 3), (44, .iload_n 1, 1), (45, .iload_n 3, 1)]
theorem id_Warp_advance_0 : ∀ q ∈ it_Warp_advance_0, decode prog_10_method_11_code q.1 = .ok q.2 := by decide +kernel
theorem d_Warp_advance_0 : decode prog_10_method_11_code 0 = .ok (.aload_n 0, 1) := id_Warp_advance_0 (0, .aload_n 0, 1) (List.mem_of_getElem? (i := 0) rfl)
theorem d_Warp_advance_1 : decode prog_10_method_11_code 1 = .ok (.getfield 77, 3) := id_Warp_advance_0 (1, .getfield 77, 3) (List.mem_of_getElem? (i := 1) rfl)
theorem d_Warp_advance_4 : decode prog_10_method_11_code 4 = .ok (.getfield 118, 3) := id_Warp_advance_0 (4, .getfield 118, 3) (List.mem_of_getElem? (i := 2) rfl)
theorem d_Warp_advance_7 : decode prog_10_method_11_code 7 = .ok (.bipush (40), 2) := id_Warp_advance_0 (7, .bipush (40), 2) (List.mem_of_getElem? (i := 3) rfl)
theorem d_Warp_advance_9 : decode prog_10_method_11_code 9 = .ok (.if_icmp .lt (19), 3) := id_Warp_advance_0 (9, .if_icmp .lt (19), 3) (List.mem_of_getElem? (i := 4) rfl)
theorem d_Warp_advance_12 : decode prog_10_method_11_code 12 = .ok (.aload_n 0, 1) := id_Warp_advance_0 (12, .aload_n 0, 1) (List.mem_of_getElem? (i := 5) rfl)
theorem d_Warp_advance_13 : decode prog_10_method_11_code 13 = .ok (.getfield 77, 3) := id_Warp_advance_0 (13, .getfield 77, 3) (List.mem_of_getElem? (i := 6) rfl)
theorem d_Warp_advance_16 : decode prog_10_method_11_code 16 = .ok (.getfield 118, 3) := id_Warp_advance_0 (16, .getfield 118, 3) (List.mem_of_getElem? (i := 7) rfl)
theorem d_Warp_advance_19 : decode prog_10_method_11_code 19 = .ok (.bipush (42), 2) := id_Warp_advance_0 (19, .bipush (42), 2) (List.mem_of_getElem? (i := 8) rfl)
theorem d_Warp_advance_21 : decode prog_10_method_11_code 21 = .ok (.if_icmp .gt (7), 3) := id_Warp_advance_0 (21, .if_icmp .gt (7), 3) (List.mem_of_getElem? (i := 9) rfl)
theorem d_Warp_advance_24 : decode prog_10_method_11_code 24 = .ok (.iconst 1, 1) := id_Warp_advance_0 (24, .iconst 1, 1) (List.mem_of_getElem? (i := 10) rfl)
theorem d_Warp_advance_25 : decode prog_10_method_11_code 25 = .ok (.goto (4), 3) := id_Warp_advance_0 (25, .goto (4), 3) (List.mem_of_getElem? (i := 11) rfl)
theorem d_Warp_advance_28 : decode prog_10_method_11_code 28 = .ok (.iconst 0, 1) := id_Warp_advance_0 (28, .iconst 0, 1) (List.mem_of_getElem? (i := 12) rfl)
theorem d_Warp_advance_29 : decode prog_10_method_11_code 29 = .ok (.istore_n 2, 1) := id_Warp_advance_0 (29, .istore_n 2, 1) (List.mem_of_getElem? (i := 13) rfl)
theorem d_Warp_advance_30 : decode prog_10_method_11_code 30 = .ok (.iconst 0, 1) := id_Warp_advance_0 (30, .iconst 0, 1) (List.mem_of_getElem? (i := 14) rfl)
theorem d_Warp_advance_31 : decode prog_10_method_11_code 31 = .ok (.istore_n 3, 1) := id_Warp_advance_0 (31, .istore_n 3, 1) (List.mem_of_getElem? (i := 15) rfl)
theorem d_Warp_advance_32 : decode prog_10_method_11_code 32 = .ok (.iload_n 3, 1) := id_Warp_advance_0 (32, .iload_n 3, 1) (List.mem_of_getElem? (i := 16) rfl)
theorem d_Warp_advance_33 : decode prog_10_method_11_code 33 = .ok (.aload_n 0, 1) := id_Warp_advance_0 (33, .aload_n 0, 1) (List.mem_of_getElem? (i := 17) rfl)
theorem d_Warp_advance_34 : decode prog_10_method_11_code 34 = .ok (.getfield 35, 3) := id_Warp_advance_0 (34, .getfield 35, 3) (List.mem_of_getElem? (i := 18) rfl)
theorem d_Warp_advance_37 : decode prog_10_method_11_code 37 = .ok (.if_icmp .ge (87), 3) := id_Warp_advance_0 (37, .if_icmp .ge (87), 3) (List.mem_of_getElem? (i := 19) rfl)
theorem d_Warp_advance_40 : decode prog_10_method_11_code 40 = .ok (.iload_n 2, 1) := id_Warp_advance_0 (40, .iload_n 2, 1) (List.mem_of_getElem? (i := 20) rfl)
theorem d_Warp_advance_41 : decode prog_10_method_11_code 41 = .ok (.ifCond .eq (54), 3) := id_Warp_advance_0 (41, .ifCond .eq (54), 3) (List.mem_of_getElem? (i := 21) rfl)
theorem d_Warp_advance_44 : decode prog_10_method_11_code 44 = .ok (.iload_n 1, 1) := id_Warp_advance_0 (44, .iload_n 1, 1) (List.mem_of_getElem? (i := 22) rfl)
theorem d_Warp_advance_45 : decode prog_10_method_11_code 45 = .ok (.iload_n 3, 1) := id_Warp_advance_0 (45, .iload_n 3, 1) (List.mem_of_getElem? (i := 23) rfl)
def it_Warp_advance_1 : List (Nat × ClassFile.Instr × Nat) := [(46, .invokestatic 73, 3), (49, .ifCond .eq (46), 3), (52, .aload_n 0, 1), (53, .getfield 21, 3), (56, .iload_n 3, 1), (57, .aload_n 0, 1), (58, .getfield 77, 3), (61, .getfield 118, 3), (64, .bipush (42), 2), (66, .if_icmp .ne (18), 3), (69, .aload_n 0, 1), (70, .iload_n 3, 1), (71, .aload_n 0, 1), (72, .getfield 77, 3), (75, .getfield 112, 3), (78, .invokevirtual 109, 3), (81, .goto (10), 3), (84, .aload_n 0, 1), (85, .getfield 77, 3), (88, .getfield 115, 3), (91, .iastore, 1), (92, .goto (26), 3), (95, .aload_n 0, 1), (96, .getfield 67, 3)]
theorem id_Warp_advance_1 : ∀ q ∈ it_Warp_advance_1, decode prog_10_method_11_code q.1 = .ok q.2 := by decide +kernel
theorem d_Warp_advance_46 : decode prog_10_method_11_code 46 = .ok (.invokestatic 73, 3) := id_Warp_advance_1 (46, .invokestatic 73, 3) (List.mem_of_getElem? (i := 0) rfl)
theorem d_Warp_advance_49 : decode prog_10_method_11_code 49 = .ok (.ifCond .eq (46), 3) := id_Warp_advance_1 (49, .ifCond .eq (46), 3) (List.mem_of_getElem? (i := 1) rfl)
theorem d_Warp_advance_52 : decode prog_10_method_11_code 52 = .ok (.aload_n 0, 1) := id_Warp_advance_1 (52, .aload_n 0, 1) (List.mem_of_getElem? (i := 2) rfl)
theorem d_Warp_advance_53 : decode prog_10_method_11_code 53 = .ok (.getfield 21, 3) := id_Warp_advance_1 (53, .getfield 21, 3) (List.mem_of_getElem? (i := 3) rfl)
theorem d_Warp_advance_56 : decode prog_10_method_11_code 56 = .ok (.iload_n 3, 1) := id_Warp_advance_1 (56, .iload_n 3, 1) (List.mem_of_getElem? (i := 4) rfl)
theorem d_Warp_advance_57 : decode prog_10_method_11_code 57 = .ok (.aload_n 0, 1) := id_Warp_advance_1 (57, .aload_n 0, 1) (List.mem_of_getElem? (i := 5) rfl)
theorem d_Warp_advance_58 : decode prog_10_method_11_code 58 = .ok (.getfield 77, 3) := id_Warp_advance_1 (58, .getfield 77, 3) (List.mem_of_getElem? (i := 6) rfl)
theorem d_Warp_advance_61 : decode prog_10_method_11_code 61 = .ok (.getfield 118, 3) := id_Warp_advance_1 (61, .getfield 118, 3) (List.mem_of_getElem? (i := 7) rfl)
theorem d_Warp_advance_64 : decode prog_10_method_11_code 64 = .ok (.bipush (42), 2) := id_Warp_advance_1 (64, .bipush (42), 2) (List.mem_of_getElem? (i := 8) rfl)
theorem d_Warp_advance_66 : decode prog_10_method_11_code 66 = .ok (.if_icmp .ne (18), 3) := id_Warp_advance_1 (66, .if_icmp .ne (18), 3) (List.mem_of_getElem? (i := 9) rfl)
theorem d_Warp_advance_69 : decode prog_10_method_11_code 69 = .ok (.aload_n 0, 1) := id_Warp_advance_1 (69, .aload_n 0, 1) (List.mem_of_getElem? (i := 10) rfl)
theorem d_Warp_advance_70 : decode prog_10_method_11_code 70 = .ok (.iload_n 3, 1) := id_Warp_advance_1 (70, .iload_n 3, 1) (List.mem_of_getElem? (i := 11) rfl)
theorem d_Warp_advance_71 : decode prog_10_method_11_code 71 = .ok (.aload_n 0, 1) := id_Warp_advance_1 (71, .aload_n 0, 1) (List.mem_of_getElem? (i := 12) rfl)
theorem d_Warp_advance_72 : decode prog_10_method_11_code 72 = .ok (.getfield 77, 3) := id_Warp_advance_1 (72, .getfield 77, 3) (List.mem_of_getElem? (i := 13) rfl)
theorem d_Warp_advance_75 : decode prog_10_method_11_code 75 = .ok (.getfield 112, 3) := id_Warp_advance_1 (75, .getfield 112, 3) (List.mem_of_getElem? (i := 14) rfl)
theorem d_Warp_advance_78 : decode prog_10_method_11_code 78 = .ok (.invokevirtual 109, 3) := id_Warp_advance_1 (78, .invokevirtual 109, 3) (List.mem_of_getElem? (i := 15) rfl)
theorem d_Warp_advance_81 : decode prog_10_method_11_code 81 = .ok (.goto (10), 3) := id_Warp_advance_1 (81, .goto (10), 3) (List.mem_of_getElem? (i := 16) rfl)
theorem d_Warp_advance_84 : decode prog_10_method_11_code 84 = .ok (.aload_n 0, 1) := id_Warp_advance_1 (84, .aload_n 0, 1) (List.mem_of_getElem? (i := 17) rfl)
theorem d_Warp_advance_85 : decode prog_10_method_11_code 85 = .ok (.getfield 77, 3) := id_Warp_advance_1 (85, .getfield 77, 3) (List.mem_of_getElem? (i := 18) rfl)
theorem d_Warp_advance_88 : decode prog_10_method_11_code 88 = .ok (.getfield 115, 3) := id_Warp_advance_1 (88, .getfield 115, 3) (List.mem_of_getElem? (i := 19) rfl)
theorem d_Warp_advance_91 : decode prog_10_method_11_code 91 = .ok (.iastore, 1) := id_Warp_advance_1 (91, .iastore, 1) (List.mem_of_getElem? (i := 20) rfl)
theorem d_Warp_advance_92 : decode prog_10_method_11_code 92 = .ok (.goto (26), 3) := id_Warp_advance_1 (92, .goto (26), 3) (List.mem_of_getElem? (i := 21) rfl)
theorem d_Warp_advance_95 : decode prog_10_method_11_code 95 = .ok (.aload_n 0, 1) := id_Warp_advance_1 (95, .aload_n 0, 1) (List.mem_of_getElem? (i := 22) rfl)
theorem d_Warp_advance_96 : decode prog_10_method_11_code 96 = .ok (.getfield 67, 3) := id_Warp_advance_1 (96, .getfield 67, 3) (List.mem_of_getElem? (i := 23) rfl)
def it_Warp_advance_2 : List (Nat × ClassFile.Instr × Nat) := [(99, .iload_n 3, 1), (100, .invokestatic 73, 3), (103, .ifCond .eq (15), 3), (106, .aload_n 0, 1), (107, .getfield 21, 3), (110, .iload_n 3, 1), (111, .aload_n 0, 1), (112, .getfield 70, 3), (115, .iconst 1, 1), (116, .iadd, 1), (117, .iastore, 1), (118, .iinc 3 (1), 3), (121, .goto (-89), 3), (124, .return_, 1)]
theorem id_Warp_advance_2 : ∀ q ∈ it_Warp_advance_2, decode prog_10_method_11_code q.1 = .ok q.2 := by decide +kernel
theorem d_Warp_advance_99 : decode prog_10_method_11_code 99 = .ok (.iload_n 3, 1) := id_Warp_advance_2 (99, .iload_n 3, 1) (List.mem_of_getElem? (i := 0) rfl)
theorem d_Warp_advance_100 : decode prog_10_method_11_code 100 = .ok (.invokestatic 73, 3) := id_Warp_advance_2 (100, .invokestatic 73, 3) (List.mem_of_getElem? (i := 1) rfl)
theorem d_Warp_advance_103 : decode prog_10_method_11_code 103 = .ok (.ifCond .eq (15), 3) := id_Warp_advance_2 (103, .ifCond .eq (15), 3) (List.mem_of_getElem? (i := 2) rfl)
theorem d_Warp_advance_106 : decode prog_10_method_11_code 106 = .ok (.aload_n 0, 1) := id_Warp_advance_2 (106, .aload_n 0, 1) (List.mem_of_getElem? (i := 3) rfl)
theorem d_Warp_advance_107 : decode prog_10_method_11_code 107 = .ok (.getfield 21, 3) := id_Warp_advance_2 (107, .getfield 21, 3) (List.mem_of_getElem? (i := 4) rfl)
theorem d_Warp_advance_110 : decode prog_10_method_11_code 110 = .ok (.iload_n 3, 1) := id_Warp_advance_2 (110, .iload_n 3, 1) (List.mem_of_getElem? (i := 5) rfl)
theorem d_Warp_advance_111 : decode prog_10_method_11_code 111 = .ok (.aload_n 0, 1) := id_Warp_advance_2 (111, .aload_n 0, 1) (List.mem_of_getElem? (i := 6) rfl)
theorem d_Warp_advance_112 : decode prog_10_method_11_code 112 = .ok (.getfield 70, 3) := id_Warp_advance_2 (112, .getfield 70, 3) (List.mem_of_getElem? (i := 7) rfl)
theorem d_Warp_advance_115 : decode prog_10_method_11_code 115 = .ok (.iconst 1, 1) := id_Warp_advance_2 (115, .iconst 1, 1) (List.mem_of_getElem? (i := 8) rfl)
theorem d_Warp_advance_116 : decode prog_10_method_11_code 116 = .ok (.iadd, 1) := id_Warp_advance_2 (116, .iadd, 1) (List.mem_of_getElem? (i := 9) rfl)
theorem d_Warp_advance_117 : decode prog_10_method_11_code 117 = .ok (.iastore, 1) := id_Warp_advance_2 (117, .iastore, 1) (List.mem_of_getElem? (i := 10) rfl)
theorem d_Warp_advance_118 : decode prog_10_method_11_code 118 = .ok (.iinc 3 (1), 3) := id_Warp_advance_2 (118, .iinc 3 (1), 3) (List.mem_of_getElem? (i := 11) rfl)
theorem d_Warp_advance_121 : decode prog_10_method_11_code 121 = .ok (.goto (-89), 3) := id_Warp_advance_2 (121, .goto (-89), 3) (List.mem_of_getElem? (i := 12) rfl)
theorem d_Warp_advance_124 : decode prog_10_method_11_code 124 = .ok (.return_, 1) := id_Warp_advance_2 (124, .return_, 1) (List.mem_of_getElem? (i := 13) rfl)
theorem wC_Warp_advance : Cond.code ⟨"WarpMill$Warp", "advance", "(I)V"⟩ prog_10_method_11_code 4 (none) ∈ lw_tb := mem_tb 873 (by decide +kernel) rfl
theorem cw_Warp_advance_WM_in : cW mi_Warp_advance mi_WM_in 2 := ⟨wC_WM_in, wi_WM, ⟨by decide, by decide, by decide +kernel⟩, by decide, by decide⟩
theorem cw_Warp_advance_Warp_register : cW mi_Warp_advance mi_Warp_register 2 := ⟨wC_Warp_register, wi_Warp, ⟨by decide, by decide, by decide +kernel⟩, by decide, by decide⟩
def b_Warp_advance_91 (F : Nat) (k32 : Nat → Int32 → Int32 → Int32 → Hp → Option Hp) (x0 : Nat) (x1 : Int32) (x2 : Int32) (x3 : Int32) (s0 : Nat) (s1 : Int32) (s2 : Int32) (h : Hp) : Option Hp := gd (hK h s0 = 100) <| ix s1 (hN h s0) fun j_91_2 => pw (sA h s0 j_91_2 s2) fun h_91_3 => k32 x0 x1 x2 (x3 + 1) h_91_3
set_option maxRecDepth 100000 in
set_option maxHeartbeats 4000000 in
theorem e_Warp_advance_91 {G : Gl} (hw : gF G) {h0 : Hp} {F : Nat} {h' : Hp} {k32 : Nat → Int32 → Int32 → Int32 → Hp → Option Hp} (hk32 : ∀ (y0 : Nat) (y1 : Int32) (y2 : Int32) (y3 : Int32) (hh : Hp), k32 y0 y1 y2 y3 hh = some h' → Go G mi_Warp_advance h0 (pV h') hh 32 [(0, .ref y0), (1, .int y1), (2, .int y2), (3, .int y3)] []) {x0 : Nat} {x1 : Int32} {x2 : Int32} {x3 : Int32} {s0 : Nat} {s1 : Int32} {s2 : Int32} {h : Hp} (hf : b_Warp_advance_91 F k32 x0 x1 x2 x3 s0 s1 s2 h = some h') : Go G mi_Warp_advance h0 (pV h') h 91 [(0, .ref x0), (1, .int x1), (2, .int x2), (3, .int x3)] [.int s2, .int s1, .ref s0] := by
  unfold b_Warp_advance_91 at hf
  obtain ⟨k_91, hf⟩ := gd_s hf
  obtain ⟨i_91_2, hf⟩ := ix_s hf
  refine g_iast hw k_91 i_91_2 d_Warp_advance_91 ?_
  have hf := pw_b hf
  refine g_goto 118 d_Warp_advance_92 (by decide) ?_
  refine g_iinc (_ + 1) d_Warp_advance_118 rfl (by rfl) (by decide) ?_
  show Go _ _ _ _ _ _ [(0, _), (1, _), (2, _), (3, _)] _
  refine g_goto 32 d_Warp_advance_121 (by decide) ?_
  exact hk32 _ _ _ _ _ hf
def b_Warp_advance_95 (F : Nat) (k32 : Nat → Int32 → Int32 → Int32 → Hp → Option Hp) (x0 : Nat) (x1 : Int32) (x2 : Int32) (x3 : Int32) (h : Hp) : Option Hp := gd (hK h x0 = 9) <| cl (f_WM_in F (hI h 518 x0) x3 h) fun v_100 h_100 => if v_100 = 0 then (k32 x0 x1 x2 (x3 + 1) h_100) else (gd (hK h_100 x0 = 9) <| rq h_100 (hR h_100 524 x0) 100 fun a_107_2 => ix x3 (hN h_100 a_107_2) fun j_117 => pw (sA h_100 a_107_2 j_117 ((hI h_100 519 x0) + (1 : Int32))) fun h_117_2 => k32 x0 x1 x2 (x3 + 1) h_117_2)
set_option maxRecDepth 100000 in
set_option maxHeartbeats 4000000 in
theorem e_Warp_advance_95 {G : Gl} (hw : gF G) {h0 : Hp} {F : Nat} {h' : Hp} {k32 : Nat → Int32 → Int32 → Int32 → Hp → Option Hp} (hk32 : ∀ (y0 : Nat) (y1 : Int32) (y2 : Int32) (y3 : Int32) (hh : Hp), k32 y0 y1 y2 y3 hh = some h' → Go G mi_Warp_advance h0 (pV h') hh 32 [(0, .ref y0), (1, .int y1), (2, .int y2), (3, .int y3)] []) {x0 : Nat} {x1 : Int32} {x2 : Int32} {x3 : Int32} {h : Hp} (hf : b_Warp_advance_95 F k32 x0 x1 x2 x3 h = some h') : Go G mi_Warp_advance h0 (pV h') h 95 [(0, .ref x0), (1, .int x1), (2, .int x2), (3, .int x3)] [] := by
  unfold b_Warp_advance_95 at hf
  refine g_aload_n d_Warp_advance_95 rfl ?_
  obtain ⟨k_96, hf⟩ := gd_s hf
  refine fg_Warp_group lf_Warp_67 d_Warp_advance_96 k_96 ?_
  refine g_iload_n d_Warp_advance_99 rfl ?_
  obtain ⟨v_100, h_100, e_100, hf⟩ := cl_s hf
  refine g_callSN (mz := mi_WM_in) (e_WM_in e_100) cw_Warp_advance_WM_in (host := "WarpMill") (by decide +kernel) wS_WM_in d_Warp_advance_100 rfl rfl (by first | exact Nat.le_of_ble_eq_true rfl | simp [cat_rf, Value.category]) (fun r1 h1 hp hro => ?_)
  obtain ⟨rfl, rfl⟩ := hp
  dsimp only [Option.toList_some, Option.toList_none, List.cons_append, List.nil_append]
  refine g_if_eq 118 d_Warp_advance_103 (by decide) (fun c_103 => ?_) (fun c_103 => ?_)
  · have hf := ifp hf c_103
    refine g_iinc (_ + 1) d_Warp_advance_118 rfl (by rfl) (by decide) ?_
    show Go _ _ _ _ _ _ [(0, _), (1, _), (2, _), (3, _)] _
    refine g_goto 32 d_Warp_advance_121 (by decide) ?_
    exact hk32 _ _ _ _ _ hf
  · have hf := ifn hf c_103
    refine g_aload_n d_Warp_advance_106 rfl ?_
    obtain ⟨k_107, hf⟩ := gd_s hf
    obtain ⟨a_107_2, e_107_2, k_107_2, hf⟩ := rq_s hf
    refine fgs_Warp_places lf_Warp_21 d_Warp_advance_107 k_107 e_107_2 ?_
    refine g_iload_n d_Warp_advance_110 rfl ?_
    refine g_aload_n d_Warp_advance_111 rfl ?_
    refine fg_Warp_place lf_Warp_70 d_Warp_advance_112 k_107 ?_
    refine g_iconst 1 d_Warp_advance_115 (by decide) ?_
    refine g_iadd d_Warp_advance_116 ?_
    obtain ⟨i_117, hf⟩ := ix_s hf
    refine g_iast hw k_107_2 i_117 d_Warp_advance_117 ?_
    have hf := pw_b hf
    refine g_iinc (_ + 1) d_Warp_advance_118 rfl (by rfl) (by decide) ?_
    show Go _ _ _ _ _ _ [(0, _), (1, _), (2, _), (3, _)] _
    refine g_goto 32 d_Warp_advance_121 (by decide) ?_
    exact hk32 _ _ _ _ _ hf
def b_Warp_advance_32 (F : Nat) : Nat → Nat → Int32 → Int32 → Int32 → Hp → Option Hp
  | 0 => fun _ _ _ _ _ => none
  | n + 1 => fun x0 x1 x2 x3 h => gd (hK h x0 = 9) <| if (hI h 514 x0) ≤ x3 then (some h) else (if x2 = 0 then (b_Warp_advance_95 F (b_Warp_advance_32 F n) x0 x1 x2 x3 h) else (cl (f_WM_in F x1 x3 h) fun v_46 h_46 => if v_46 = 0 then (b_Warp_advance_95 F (b_Warp_advance_32 F n) x0 x1 x2 x3 h_46) else (gd (hK h_46 x0 = 9) <| rq h_46 (hR h_46 524 x0) 100 fun a_53_2 => rq h_46 (hR h_46 520 x0) 10 fun a_58 => if (hI h_46 576 a_58) = (42 : Int32) then (cl (f_Warp_register F x0 x3 (hI h_46 578 a_58) h_46) fun v_78 h_78 => b_Warp_advance_91 F (b_Warp_advance_32 F n) x0 x1 x2 x3 a_53_2 x3 v_78 h_78) else (b_Warp_advance_91 F (b_Warp_advance_32 F n) x0 x1 x2 x3 a_53_2 x3 (hI h_46 580 a_58) h_46))))
set_option maxRecDepth 100000 in
set_option maxHeartbeats 4000000 in
theorem e_Warp_advance_32 {G : Gl} (hw : gF G) {h0 : Hp} {F : Nat} {h' : Hp}   : ∀ (n : Nat) (x0 : Nat) (x1 : Int32) (x2 : Int32) (x3 : Int32) (h : Hp), b_Warp_advance_32 F n x0 x1 x2 x3 h = some h' → Go G mi_Warp_advance h0 (pV h') h 32 [(0, .ref x0), (1, .int x1), (2, .int x2), (3, .int x3)] [] := by
  intro n
  induction n with
  | zero =>
    intro _ _ _ _ _ hf
    exact nm_s hf
  | succ n ih =>
    intro x0 x1 x2 x3 h hf
    unfold b_Warp_advance_32 at hf
    refine g_iload_n d_Warp_advance_32 rfl ?_
    refine g_aload_n d_Warp_advance_33 rfl ?_
    obtain ⟨k_34, hf⟩ := gd_s hf
    refine fg_Warp_lanes lf_Warp_35 d_Warp_advance_34 k_34 ?_
    refine g_icmp_ge 124 d_Warp_advance_37 (by decide) (fun c_37 => ?_) (fun c_37 => ?_)
    · have hf := ifp hf c_37
      exact Go.ret none trivial rfl d_Warp_advance_124 (pV_of hf)
    · have hf := ifn hf c_37
      refine g_iload_n d_Warp_advance_40 rfl ?_
      refine g_if_eq 95 d_Warp_advance_41 (by decide) (fun c_41 => ?_) (fun c_41 => ?_)
      · have hf := ifp hf c_41
        have key := e_Warp_advance_95 hw (G := G) (h0 := h0) (fun _ _ _ _ _ q => ih _ _ _ _ _ q) hf
        exact key
      · have hf := ifn hf c_41
        refine g_iload_n d_Warp_advance_44 rfl ?_
        refine g_iload_n d_Warp_advance_45 rfl ?_
        obtain ⟨v_46, h_46, e_46, hf⟩ := cl_s hf
        refine g_callSN (mz := mi_WM_in) (e_WM_in e_46) cw_Warp_advance_WM_in (host := "WarpMill") (by decide +kernel) wS_WM_in d_Warp_advance_46 rfl rfl (by first | exact Nat.le_of_ble_eq_true rfl | simp [cat_rf, Value.category]) (fun r1 h1 hp hro => ?_)
        obtain ⟨rfl, rfl⟩ := hp
        dsimp only [Option.toList_some, Option.toList_none, List.cons_append, List.nil_append]
        refine g_if_eq 95 d_Warp_advance_49 (by decide) (fun c_49 => ?_) (fun c_49 => ?_)
        · have hf := ifp hf c_49
          have key := e_Warp_advance_95 hw (G := G) (h0 := h0) (fun _ _ _ _ _ q => ih _ _ _ _ _ q) hf
          exact key
        · have hf := ifn hf c_49
          refine g_aload_n d_Warp_advance_52 rfl ?_
          obtain ⟨k_53, hf⟩ := gd_s hf
          obtain ⟨a_53_2, e_53_2, k_53_2, hf⟩ := rq_s hf
          refine fgs_Warp_places lf_Warp_21 d_Warp_advance_53 k_53 e_53_2 ?_
          refine g_iload_n d_Warp_advance_56 rfl ?_
          refine g_aload_n d_Warp_advance_57 rfl ?_
          obtain ⟨a_58, e_58, k_58, hf⟩ := rq_s hf
          refine fgs_Warp_word lf_Warp_77 d_Warp_advance_58 k_53 e_58 ?_
          refine fg_Word_op lf_Warp_118 d_Warp_advance_61 k_58 ?_
          refine g_bipush (42) d_Warp_advance_64 (by decide) ?_
          refine g_icmp_ne 84 d_Warp_advance_66 (by decide) (fun c_66 => ?_) (fun c_66 => ?_)
          · have hf := ifn hf c_66
            refine g_aload_n d_Warp_advance_84 rfl ?_
            refine fgs_Warp_word lf_Warp_77 d_Warp_advance_85 k_53 e_58 ?_
            refine fg_Word_n lf_Warp_115 d_Warp_advance_88 k_58 ?_
            have key := e_Warp_advance_91 hw (G := G) (h0 := h0) (fun _ _ _ _ _ q => ih _ _ _ _ _ q) hf
            exact key
          · have hf := ifp hf c_66
            refine g_aload_n d_Warp_advance_69 rfl ?_
            refine g_iload_n d_Warp_advance_70 rfl ?_
            refine g_aload_n d_Warp_advance_71 rfl ?_
            refine fgs_Warp_word lf_Warp_77 d_Warp_advance_72 k_53 e_58 ?_
            refine fg_Word_a lf_Warp_112 d_Warp_advance_75 k_58 ?_
            obtain ⟨v_78, h_78, e_78, hf⟩ := cl_s hf
            refine g_callV (mz := mi_Warp_register) (e_Warp_register e_78) cw_Warp_advance_Warp_register lm_Warp_109 wI_Warp_register wV_Warp_register (ci := 8) k_53 (by decide) rfl rfl d_Warp_advance_78 rfl rfl (by first | exact Nat.le_of_ble_eq_true rfl | simp [cat_rf, Value.category]) (fun r1 h1 hp hro => ?_)
            obtain ⟨rfl, rfl⟩ := hp
            dsimp only [Option.toList_some, Option.toList_none, List.cons_append, List.nil_append]
            refine g_goto 91 d_Warp_advance_81 (by decide) ?_
            have key := e_Warp_advance_91 hw (G := G) (h0 := h0) (fun _ _ _ _ _ q => ih _ _ _ _ _ q) hf
            exact key
def b_Warp_advance_29 (F : Nat) (x0 : Nat) (x1 : Int32) (s0 : Int32) (h : Hp) : Option Hp := b_Warp_advance_32 F F x0 x1 s0 (0 : Int32) h
set_option maxRecDepth 100000 in
set_option maxHeartbeats 4000000 in
theorem e_Warp_advance_29 {G : Gl} (hw : gF G) {h0 : Hp} {F : Nat} {h' : Hp}   {x0 : Nat} {x1 : Int32} {s0 : Int32} {h : Hp} (hf : b_Warp_advance_29 F x0 x1 s0 h = some h') : Go G mi_Warp_advance h0 (pV h') h 29 [(0, .ref x0), (1, .int x1)] [.int s0] := by
  unfold b_Warp_advance_29 at hf
  refine g_istore_n d_Warp_advance_29 (by decide) ?_
  show Go _ _ _ _ _ _ [(0, _), (1, _), (2, _)] _
  refine g_iconst 0 d_Warp_advance_30 (by decide) ?_
  refine g_istore_n d_Warp_advance_31 (by decide) ?_
  show Go _ _ _ _ _ _ [(0, _), (1, _), (2, _), (3, _)] _
  have key := e_Warp_advance_32 hw (G := G) (h0 := h0)  F _ _ _ _ _ hf
  exact key
def b_Warp_advance_28 (F : Nat) (x0 : Nat) (x1 : Int32) (h : Hp) : Option Hp := b_Warp_advance_29 F x0 x1 (0 : Int32) h
set_option maxRecDepth 100000 in
set_option maxHeartbeats 4000000 in
theorem e_Warp_advance_28 {G : Gl} (hw : gF G) {h0 : Hp} {F : Nat} {h' : Hp}   {x0 : Nat} {x1 : Int32} {h : Hp} (hf : b_Warp_advance_28 F x0 x1 h = some h') : Go G mi_Warp_advance h0 (pV h') h 28 [(0, .ref x0), (1, .int x1)] [] := by
  unfold b_Warp_advance_28 at hf
  refine g_iconst 0 d_Warp_advance_28 (by decide) ?_
  have key := e_Warp_advance_29 hw (G := G) (h0 := h0)  hf
  exact key
def f_Warp_advance (F : Nat) (x0 : Nat) (x1 : Int32) (h : Hp) : Option Hp := gd (hK h x0 = 9) <| rq h (hR h 520 x0) 10 fun a_1_2 => if (hI h 576 a_1_2) < (40 : Int32) then (b_Warp_advance_28 F x0 x1 h) else (if (42 : Int32) < (hI h 576 a_1_2) then (b_Warp_advance_28 F x0 x1 h) else (b_Warp_advance_29 F x0 x1 (1 : Int32) h))
set_option maxRecDepth 100000 in
set_option maxHeartbeats 4000000 in
theorem e_Warp_advance {G : Gl} (hw : gF G) {F : Nat} {h' : Hp} {x0 : Nat} {x1 : Int32} {h : Hp} (hf : f_Warp_advance F x0 x1 h = some h') : Ex G mi_Warp_advance [.ref x0, .int x1] h (pV h') := by
  unfold f_Warp_advance at hf
  refine Ex.of nmV (by decide) (Nat.le_of_ble_eq_true rfl) ?_
  show Go G mi_Warp_advance h _ h 0 [(0, .ref x0), (1, .int x1)] []
  refine g_aload_n d_Warp_advance_0 rfl ?_
  obtain ⟨k_1, hf⟩ := gd_s hf
  obtain ⟨a_1_2, e_1_2, k_1_2, hf⟩ := rq_s hf
  refine fgs_Warp_word lf_Warp_77 d_Warp_advance_1 k_1 e_1_2 ?_
  refine fg_Word_op lf_Warp_118 d_Warp_advance_4 k_1_2 ?_
  refine g_bipush (40) d_Warp_advance_7 (by decide) ?_
  refine g_icmp_lt 28 d_Warp_advance_9 (by decide) (fun c_9 => ?_) (fun c_9 => ?_)
  · have hf := ifp hf c_9
    have key := e_Warp_advance_28 hw (G := G) (h0 := h)  hf
    exact key
  · have hf := ifn hf c_9
    refine g_aload_n d_Warp_advance_12 rfl ?_
    refine fgs_Warp_word lf_Warp_77 d_Warp_advance_13 k_1 e_1_2 ?_
    refine fg_Word_op lf_Warp_118 d_Warp_advance_16 k_1_2 ?_
    refine g_bipush (42) d_Warp_advance_19 (by decide) ?_
    refine g_icmp_gt 28 d_Warp_advance_21 (by decide) (fun c_21 => ?_) (fun c_21 => ?_)
    · have hf := ifp hf c_21
      have key := e_Warp_advance_28 hw (G := G) (h0 := h)  hf
      exact key
    · have hf := ifn hf c_21
      refine g_iconst 1 d_Warp_advance_24 (by decide) ?_
      refine g_goto 29 d_Warp_advance_25 (by decide) ?_
      have key := e_Warp_advance_29 hw (G := G) (h0 := h)  hf
      exact key
abbrev mi_Warp_useShared : MI := (⟨"WarpMill$Warp", "useShared", "(I)V"⟩, prog_10_method_20_code, 7, none, 1, 23)
def it_Warp_useShared_0 : List (Nat × ClassFile.Instr × Nat) := [(0, .aload_n 0, 1), (1, .getfield 27, 3), (4, .getfield 168, 3), (7, .astore_n 2, 1), (8, .iconst 0, 1), (9, .istore_n 3, 1), (10, .iload_n 3, 1), (11, .aload_n 0, 1), (12, .getfield 35, 3), (15, .if_icmp .ge (112), 3), (18, .iload_n 1, 1), (19, .iload_n 3, 1), (20, .invokestatic 73, 3), (23, .ifCond .eq (98), 3), (26, .aload_n 0, 1), (27, .getfield 24, 3), (30, .iload_n 3, 1), (31, .iaload, 1), (32, .bipush (63), 2), (34, .iand, 1), (35, .istore 4, 2), (37, .aload_n 2, 1), (38, .iload 4, 2), (40, .iaload, 1)]
theorem id_Warp_useShared_0 : ∀ q ∈ it_Warp_useShared_0, decode prog_10_method_20_code q.1 = .ok q.2 := by decide +kernel
theorem d_Warp_useShared_0 : decode prog_10_method_20_code 0 = .ok (.aload_n 0, 1) := id_Warp_useShared_0 (0, .aload_n 0, 1) (List.mem_of_getElem? (i := 0) rfl)
theorem d_Warp_useShared_1 : decode prog_10_method_20_code 1 = .ok (.getfield 27, 3) := id_Warp_useShared_0 (1, .getfield 27, 3) (List.mem_of_getElem? (i := 1) rfl)
theorem d_Warp_useShared_4 : decode prog_10_method_20_code 4 = .ok (.getfield 168, 3) := id_Warp_useShared_0 (4, .getfield 168, 3) (List.mem_of_getElem? (i := 2) rfl)
theorem d_Warp_useShared_7 : decode prog_10_method_20_code 7 = .ok (.astore_n 2, 1) := id_Warp_useShared_0 (7, .astore_n 2, 1) (List.mem_of_getElem? (i := 3) rfl)
theorem d_Warp_useShared_8 : decode prog_10_method_20_code 8 = .ok (.iconst 0, 1) := id_Warp_useShared_0 (8, .iconst 0, 1) (List.mem_of_getElem? (i := 4) rfl)
theorem d_Warp_useShared_9 : decode prog_10_method_20_code 9 = .ok (.istore_n 3, 1) := id_Warp_useShared_0 (9, .istore_n 3, 1) (List.mem_of_getElem? (i := 5) rfl)
theorem d_Warp_useShared_10 : decode prog_10_method_20_code 10 = .ok (.iload_n 3, 1) := id_Warp_useShared_0 (10, .iload_n 3, 1) (List.mem_of_getElem? (i := 6) rfl)
theorem d_Warp_useShared_11 : decode prog_10_method_20_code 11 = .ok (.aload_n 0, 1) := id_Warp_useShared_0 (11, .aload_n 0, 1) (List.mem_of_getElem? (i := 7) rfl)
theorem d_Warp_useShared_12 : decode prog_10_method_20_code 12 = .ok (.getfield 35, 3) := id_Warp_useShared_0 (12, .getfield 35, 3) (List.mem_of_getElem? (i := 8) rfl)
theorem d_Warp_useShared_15 : decode prog_10_method_20_code 15 = .ok (.if_icmp .ge (112), 3) := id_Warp_useShared_0 (15, .if_icmp .ge (112), 3) (List.mem_of_getElem? (i := 9) rfl)
theorem d_Warp_useShared_18 : decode prog_10_method_20_code 18 = .ok (.iload_n 1, 1) := id_Warp_useShared_0 (18, .iload_n 1, 1) (List.mem_of_getElem? (i := 10) rfl)
theorem d_Warp_useShared_19 : decode prog_10_method_20_code 19 = .ok (.iload_n 3, 1) := id_Warp_useShared_0 (19, .iload_n 3, 1) (List.mem_of_getElem? (i := 11) rfl)
theorem d_Warp_useShared_20 : decode prog_10_method_20_code 20 = .ok (.invokestatic 73, 3) := id_Warp_useShared_0 (20, .invokestatic 73, 3) (List.mem_of_getElem? (i := 12) rfl)
theorem d_Warp_useShared_23 : decode prog_10_method_20_code 23 = .ok (.ifCond .eq (98), 3) := id_Warp_useShared_0 (23, .ifCond .eq (98), 3) (List.mem_of_getElem? (i := 13) rfl)
theorem d_Warp_useShared_26 : decode prog_10_method_20_code 26 = .ok (.aload_n 0, 1) := id_Warp_useShared_0 (26, .aload_n 0, 1) (List.mem_of_getElem? (i := 14) rfl)
theorem d_Warp_useShared_27 : decode prog_10_method_20_code 27 = .ok (.getfield 24, 3) := id_Warp_useShared_0 (27, .getfield 24, 3) (List.mem_of_getElem? (i := 15) rfl)
theorem d_Warp_useShared_30 : decode prog_10_method_20_code 30 = .ok (.iload_n 3, 1) := id_Warp_useShared_0 (30, .iload_n 3, 1) (List.mem_of_getElem? (i := 16) rfl)
theorem d_Warp_useShared_31 : decode prog_10_method_20_code 31 = .ok (.iaload, 1) := id_Warp_useShared_0 (31, .iaload, 1) (List.mem_of_getElem? (i := 17) rfl)
theorem d_Warp_useShared_32 : decode prog_10_method_20_code 32 = .ok (.bipush (63), 2) := id_Warp_useShared_0 (32, .bipush (63), 2) (List.mem_of_getElem? (i := 18) rfl)
theorem d_Warp_useShared_34 : decode prog_10_method_20_code 34 = .ok (.iand, 1) := id_Warp_useShared_0 (34, .iand, 1) (List.mem_of_getElem? (i := 19) rfl)
theorem d_Warp_useShared_35 : decode prog_10_method_20_code 35 = .ok (.istore 4, 2) := id_Warp_useShared_0 (35, .istore 4, 2) (List.mem_of_getElem? (i := 20) rfl)
theorem d_Warp_useShared_37 : decode prog_10_method_20_code 37 = .ok (.aload_n 2, 1) := id_Warp_useShared_0 (37, .aload_n 2, 1) (List.mem_of_getElem? (i := 21) rfl)
theorem d_Warp_useShared_38 : decode prog_10_method_20_code 38 = .ok (.iload 4, 2) := id_Warp_useShared_0 (38, .iload 4, 2) (List.mem_of_getElem? (i := 22) rfl)
theorem d_Warp_useShared_40 : decode prog_10_method_20_code 40 = .ok (.iaload, 1) := id_Warp_useShared_0 (40, .iaload, 1) (List.mem_of_getElem? (i := 23) rfl)
def it_Warp_useShared_1 : List (Nat × ClassFile.Instr × Nat) := [(41, .istore 5, 2), (43, .aload_n 0, 1), (44, .iload_n 3, 1), (45, .aload_n 0, 1), (46, .getfield 77, 3), (49, .getfield 106, 3), (52, .invokevirtual 109, 3), (55, .istore 6, 2), (57, .aload_n 0, 1), (58, .getfield 77, 3), (61, .getfield 118, 3), (64, .bipush (52), 2), (66, .if_icmp .eq (29), 3), (69, .aload_n 2, 1), (70, .iload 4, 2), (72, .aload_n 0, 1), (73, .getfield 77, 3), (76, .getfield 118, 3), (79, .bipush (58), 2), (81, .if_icmp .ne (11), 3), (84, .iload 5, 2), (86, .iload 6, 2), (88, .iadd, 1), (89, .goto (5), 3)]
theorem id_Warp_useShared_1 : ∀ q ∈ it_Warp_useShared_1, decode prog_10_method_20_code q.1 = .ok q.2 := by decide +kernel
theorem d_Warp_useShared_41 : decode prog_10_method_20_code 41 = .ok (.istore 5, 2) := id_Warp_useShared_1 (41, .istore 5, 2) (List.mem_of_getElem? (i := 0) rfl)
theorem d_Warp_useShared_43 : decode prog_10_method_20_code 43 = .ok (.aload_n 0, 1) := id_Warp_useShared_1 (43, .aload_n 0, 1) (List.mem_of_getElem? (i := 1) rfl)
theorem d_Warp_useShared_44 : decode prog_10_method_20_code 44 = .ok (.iload_n 3, 1) := id_Warp_useShared_1 (44, .iload_n 3, 1) (List.mem_of_getElem? (i := 2) rfl)
theorem d_Warp_useShared_45 : decode prog_10_method_20_code 45 = .ok (.aload_n 0, 1) := id_Warp_useShared_1 (45, .aload_n 0, 1) (List.mem_of_getElem? (i := 3) rfl)
theorem d_Warp_useShared_46 : decode prog_10_method_20_code 46 = .ok (.getfield 77, 3) := id_Warp_useShared_1 (46, .getfield 77, 3) (List.mem_of_getElem? (i := 4) rfl)
theorem d_Warp_useShared_49 : decode prog_10_method_20_code 49 = .ok (.getfield 106, 3) := id_Warp_useShared_1 (49, .getfield 106, 3) (List.mem_of_getElem? (i := 5) rfl)
theorem d_Warp_useShared_52 : decode prog_10_method_20_code 52 = .ok (.invokevirtual 109, 3) := id_Warp_useShared_1 (52, .invokevirtual 109, 3) (List.mem_of_getElem? (i := 6) rfl)
theorem d_Warp_useShared_55 : decode prog_10_method_20_code 55 = .ok (.istore 6, 2) := id_Warp_useShared_1 (55, .istore 6, 2) (List.mem_of_getElem? (i := 7) rfl)
theorem d_Warp_useShared_57 : decode prog_10_method_20_code 57 = .ok (.aload_n 0, 1) := id_Warp_useShared_1 (57, .aload_n 0, 1) (List.mem_of_getElem? (i := 8) rfl)
theorem d_Warp_useShared_58 : decode prog_10_method_20_code 58 = .ok (.getfield 77, 3) := id_Warp_useShared_1 (58, .getfield 77, 3) (List.mem_of_getElem? (i := 9) rfl)
theorem d_Warp_useShared_61 : decode prog_10_method_20_code 61 = .ok (.getfield 118, 3) := id_Warp_useShared_1 (61, .getfield 118, 3) (List.mem_of_getElem? (i := 10) rfl)
theorem d_Warp_useShared_64 : decode prog_10_method_20_code 64 = .ok (.bipush (52), 2) := id_Warp_useShared_1 (64, .bipush (52), 2) (List.mem_of_getElem? (i := 11) rfl)
theorem d_Warp_useShared_66 : decode prog_10_method_20_code 66 = .ok (.if_icmp .eq (29), 3) := id_Warp_useShared_1 (66, .if_icmp .eq (29), 3) (List.mem_of_getElem? (i := 12) rfl)
theorem d_Warp_useShared_69 : decode prog_10_method_20_code 69 = .ok (.aload_n 2, 1) := id_Warp_useShared_1 (69, .aload_n 2, 1) (List.mem_of_getElem? (i := 13) rfl)
theorem d_Warp_useShared_70 : decode prog_10_method_20_code 70 = .ok (.iload 4, 2) := id_Warp_useShared_1 (70, .iload 4, 2) (List.mem_of_getElem? (i := 14) rfl)
theorem d_Warp_useShared_72 : decode prog_10_method_20_code 72 = .ok (.aload_n 0, 1) := id_Warp_useShared_1 (72, .aload_n 0, 1) (List.mem_of_getElem? (i := 15) rfl)
theorem d_Warp_useShared_73 : decode prog_10_method_20_code 73 = .ok (.getfield 77, 3) := id_Warp_useShared_1 (73, .getfield 77, 3) (List.mem_of_getElem? (i := 16) rfl)
theorem d_Warp_useShared_76 : decode prog_10_method_20_code 76 = .ok (.getfield 118, 3) := id_Warp_useShared_1 (76, .getfield 118, 3) (List.mem_of_getElem? (i := 17) rfl)
theorem d_Warp_useShared_79 : decode prog_10_method_20_code 79 = .ok (.bipush (58), 2) := id_Warp_useShared_1 (79, .bipush (58), 2) (List.mem_of_getElem? (i := 18) rfl)
theorem d_Warp_useShared_81 : decode prog_10_method_20_code 81 = .ok (.if_icmp .ne (11), 3) := id_Warp_useShared_1 (81, .if_icmp .ne (11), 3) (List.mem_of_getElem? (i := 19) rfl)
theorem d_Warp_useShared_84 : decode prog_10_method_20_code 84 = .ok (.iload 5, 2) := id_Warp_useShared_1 (84, .iload 5, 2) (List.mem_of_getElem? (i := 20) rfl)
theorem d_Warp_useShared_86 : decode prog_10_method_20_code 86 = .ok (.iload 6, 2) := id_Warp_useShared_1 (86, .iload 6, 2) (List.mem_of_getElem? (i := 21) rfl)
theorem d_Warp_useShared_88 : decode prog_10_method_20_code 88 = .ok (.iadd, 1) := id_Warp_useShared_1 (88, .iadd, 1) (List.mem_of_getElem? (i := 22) rfl)
theorem d_Warp_useShared_89 : decode prog_10_method_20_code 89 = .ok (.goto (5), 3) := id_Warp_useShared_1 (89, .goto (5), 3) (List.mem_of_getElem? (i := 23) rfl)
def it_Warp_useShared_2 : List (Nat × ClassFile.Instr × Nat) := [(92, .iload 6, 2), (94, .iastore, 1), (95, .aload_n 0, 1), (96, .getfield 77, 3), (99, .getfield 118, 3), (102, .bipush (53), 2), (104, .if_icmp .eq (17), 3), (107, .aload_n 0, 1), (108, .iload_n 3, 1), (109, .aload_n 0, 1), (110, .getfield 77, 3), (113, .getfield 141, 3), (116, .iload 5, 2), (118, .invokevirtual 150, 3), (121, .iinc 3 (1), 3), (124, .goto (-114), 3), (127, .return_, 1)]
theorem id_Warp_useShared_2 : ∀ q ∈ it_Warp_useShared_2, decode prog_10_method_20_code q.1 = .ok q.2 := by decide +kernel
theorem d_Warp_useShared_92 : decode prog_10_method_20_code 92 = .ok (.iload 6, 2) := id_Warp_useShared_2 (92, .iload 6, 2) (List.mem_of_getElem? (i := 0) rfl)
theorem d_Warp_useShared_94 : decode prog_10_method_20_code 94 = .ok (.iastore, 1) := id_Warp_useShared_2 (94, .iastore, 1) (List.mem_of_getElem? (i := 1) rfl)
theorem d_Warp_useShared_95 : decode prog_10_method_20_code 95 = .ok (.aload_n 0, 1) := id_Warp_useShared_2 (95, .aload_n 0, 1) (List.mem_of_getElem? (i := 2) rfl)
theorem d_Warp_useShared_96 : decode prog_10_method_20_code 96 = .ok (.getfield 77, 3) := id_Warp_useShared_2 (96, .getfield 77, 3) (List.mem_of_getElem? (i := 3) rfl)
theorem d_Warp_useShared_99 : decode prog_10_method_20_code 99 = .ok (.getfield 118, 3) := id_Warp_useShared_2 (99, .getfield 118, 3) (List.mem_of_getElem? (i := 4) rfl)
theorem d_Warp_useShared_102 : decode prog_10_method_20_code 102 = .ok (.bipush (53), 2) := id_Warp_useShared_2 (102, .bipush (53), 2) (List.mem_of_getElem? (i := 5) rfl)
theorem d_Warp_useShared_104 : decode prog_10_method_20_code 104 = .ok (.if_icmp .eq (17), 3) := id_Warp_useShared_2 (104, .if_icmp .eq (17), 3) (List.mem_of_getElem? (i := 6) rfl)
theorem d_Warp_useShared_107 : decode prog_10_method_20_code 107 = .ok (.aload_n 0, 1) := id_Warp_useShared_2 (107, .aload_n 0, 1) (List.mem_of_getElem? (i := 7) rfl)
theorem d_Warp_useShared_108 : decode prog_10_method_20_code 108 = .ok (.iload_n 3, 1) := id_Warp_useShared_2 (108, .iload_n 3, 1) (List.mem_of_getElem? (i := 8) rfl)
theorem d_Warp_useShared_109 : decode prog_10_method_20_code 109 = .ok (.aload_n 0, 1) := id_Warp_useShared_2 (109, .aload_n 0, 1) (List.mem_of_getElem? (i := 9) rfl)
theorem d_Warp_useShared_110 : decode prog_10_method_20_code 110 = .ok (.getfield 77, 3) := id_Warp_useShared_2 (110, .getfield 77, 3) (List.mem_of_getElem? (i := 10) rfl)
theorem d_Warp_useShared_113 : decode prog_10_method_20_code 113 = .ok (.getfield 141, 3) := id_Warp_useShared_2 (113, .getfield 141, 3) (List.mem_of_getElem? (i := 11) rfl)
theorem d_Warp_useShared_116 : decode prog_10_method_20_code 116 = .ok (.iload 5, 2) := id_Warp_useShared_2 (116, .iload 5, 2) (List.mem_of_getElem? (i := 12) rfl)
theorem d_Warp_useShared_118 : decode prog_10_method_20_code 118 = .ok (.invokevirtual 150, 3) := id_Warp_useShared_2 (118, .invokevirtual 150, 3) (List.mem_of_getElem? (i := 13) rfl)
theorem d_Warp_useShared_121 : decode prog_10_method_20_code 121 = .ok (.iinc 3 (1), 3) := id_Warp_useShared_2 (121, .iinc 3 (1), 3) (List.mem_of_getElem? (i := 14) rfl)
theorem d_Warp_useShared_124 : decode prog_10_method_20_code 124 = .ok (.goto (-114), 3) := id_Warp_useShared_2 (124, .goto (-114), 3) (List.mem_of_getElem? (i := 15) rfl)
theorem d_Warp_useShared_127 : decode prog_10_method_20_code 127 = .ok (.return_, 1) := id_Warp_useShared_2 (127, .return_, 1) (List.mem_of_getElem? (i := 16) rfl)
theorem wC_Warp_useShared : Cond.code ⟨"WarpMill$Warp", "useShared", "(I)V"⟩ prog_10_method_20_code 7 (none) ∈ lw_tb := mem_tb 877 (by decide +kernel) rfl
theorem cw_Warp_useShared_WM_in : cW mi_Warp_useShared mi_WM_in 2 := ⟨wC_WM_in, wi_WM, ⟨by decide, by decide, by decide +kernel⟩, by decide, by decide⟩
theorem cw_Warp_useShared_Warp_register : cW mi_Warp_useShared mi_Warp_register 2 := ⟨wC_Warp_register, wi_Warp, ⟨by decide, by decide, by decide +kernel⟩, by decide, by decide⟩
theorem cw_Warp_useShared_Warp_put : cW mi_Warp_useShared mi_Warp_put 3 := ⟨wC_Warp_put, wi_Warp, ⟨by decide, by decide, by decide +kernel⟩, by decide, by decide⟩
def b_Warp_useShared_95 (F : Nat) (k10 : Nat → Int32 → Nat → Int32 → Hp → Option Hp) (x0 : Nat) (x1 : Int32) (x2 : Nat) (x3 : Int32) (x5 : Int32) (h : Hp) : Option Hp := gd (hK h x0 = 9) <| rq h (hR h 520 x0) 10 fun a_96_2 => if (hI h 576 a_96_2) = (53 : Int32) then (k10 x0 x1 x2 (x3 + 1) h) else (clv (f_Warp_put F x0 x3 (hI h 577 a_96_2) x5 h) fun h_118 => k10 x0 x1 x2 (x3 + 1) h_118)
set_option maxRecDepth 100000 in
set_option maxHeartbeats 4000000 in
theorem e_Warp_useShared_95 {G : Gl} (hw : gF G) {h0 : Hp} {F : Nat} {h' : Hp} {k10 : Nat → Int32 → Nat → Int32 → Hp → Option Hp} (hk10 : ∀ (y0 : Nat) (y1 : Int32) (y2 : Nat) (y3 : Int32) (hh : Hp), k10 y0 y1 y2 y3 hh = some h' → Go G mi_Warp_useShared h0 (pV h') hh 10 [(0, .ref y0), (1, .int y1), (2, .ref y2), (3, .int y3)] []) {x0 : Nat} {x1 : Int32} {x2 : Nat} {x3 : Int32} {x5 : Int32} {h : Hp} (hf : b_Warp_useShared_95 F k10 x0 x1 x2 x3 x5 h = some h') : Go G mi_Warp_useShared h0 (pV h') h 95 [(0, .ref x0), (1, .int x1), (2, .ref x2), (3, .int x3), (5, .int x5)] [] := by
  unfold b_Warp_useShared_95 at hf
  refine g_aload_n d_Warp_useShared_95 rfl ?_
  obtain ⟨k_96, hf⟩ := gd_s hf
  obtain ⟨a_96_2, e_96_2, k_96_2, hf⟩ := rq_s hf
  refine fgs_Warp_word lf_Warp_77 d_Warp_useShared_96 k_96 e_96_2 ?_
  refine fg_Word_op lf_Warp_118 d_Warp_useShared_99 k_96_2 ?_
  refine g_bipush (53) d_Warp_useShared_102 (by decide) ?_
  refine g_icmp_eq 121 d_Warp_useShared_104 (by decide) (fun c_104 => ?_) (fun c_104 => ?_)
  · have hf := ifp hf c_104
    refine g_iinc (_ + 1) d_Warp_useShared_121 rfl (by rfl) (by decide) ?_
    show Go _ _ _ _ _ _ [(0, _), (1, _), (2, _), (3, _), (5, _)] _
    refine g_goto 10 d_Warp_useShared_124 (by decide) ?_
    refine Go.locals [0, 1, 2, 3] rfl ?_
    exact hk10 _ _ _ _ _ hf
  · have hf := ifn hf c_104
    refine g_aload_n d_Warp_useShared_107 rfl ?_
    refine g_iload_n d_Warp_useShared_108 rfl ?_
    refine g_aload_n d_Warp_useShared_109 rfl ?_
    refine fgs_Warp_word lf_Warp_77 d_Warp_useShared_110 k_96 e_96_2 ?_
    refine fg_Word_d lf_Warp_141 d_Warp_useShared_113 k_96_2 ?_
    refine g_iload d_Warp_useShared_116 rfl ?_
    obtain ⟨h_118, e_118, hf⟩ := clv_s hf
    refine g_callV (mz := mi_Warp_put) (e_Warp_put hw e_118) cw_Warp_useShared_Warp_put lm_Warp_150 wI_Warp_put wV_Warp_put (ci := 8) k_96 (by decide) rfl rfl d_Warp_useShared_118 rfl rfl (by first | exact Nat.le_of_ble_eq_true rfl | simp [cat_rf, Value.category]) (fun r1 h1 hp hro => ?_)
    obtain ⟨rfl, rfl⟩ := hp
    dsimp only [Option.toList_some, Option.toList_none, List.cons_append, List.nil_append]
    refine g_iinc (_ + 1) d_Warp_useShared_121 rfl (by rfl) (by decide) ?_
    show Go _ _ _ _ _ _ [(0, _), (1, _), (2, _), (3, _), (5, _)] _
    refine g_goto 10 d_Warp_useShared_124 (by decide) ?_
    refine Go.locals [0, 1, 2, 3] rfl ?_
    exact hk10 _ _ _ _ _ hf
def b_Warp_useShared_94 (F : Nat) (k10 : Nat → Int32 → Nat → Int32 → Hp → Option Hp) (x0 : Nat) (x1 : Int32) (x2 : Nat) (x3 : Int32) (x5 : Int32) (s0 : Nat) (s1 : Int32) (s2 : Int32) (h : Hp) : Option Hp := gd (hK h s0 = 100) <| ix s1 (hN h s0) fun j_94_2 => pw (sA h s0 j_94_2 s2) fun h_94_3 => b_Warp_useShared_95 F k10 x0 x1 x2 x3 x5 h_94_3
set_option maxRecDepth 100000 in
set_option maxHeartbeats 4000000 in
theorem e_Warp_useShared_94 {G : Gl} (hw : gF G) {h0 : Hp} {F : Nat} {h' : Hp} {k10 : Nat → Int32 → Nat → Int32 → Hp → Option Hp} (hk10 : ∀ (y0 : Nat) (y1 : Int32) (y2 : Nat) (y3 : Int32) (hh : Hp), k10 y0 y1 y2 y3 hh = some h' → Go G mi_Warp_useShared h0 (pV h') hh 10 [(0, .ref y0), (1, .int y1), (2, .ref y2), (3, .int y3)] []) {x0 : Nat} {x1 : Int32} {x2 : Nat} {x3 : Int32} {x5 : Int32} {s0 : Nat} {s1 : Int32} {s2 : Int32} {h : Hp} (hf : b_Warp_useShared_94 F k10 x0 x1 x2 x3 x5 s0 s1 s2 h = some h') : Go G mi_Warp_useShared h0 (pV h') h 94 [(0, .ref x0), (1, .int x1), (2, .ref x2), (3, .int x3), (5, .int x5)] [.int s2, .int s1, .ref s0] := by
  unfold b_Warp_useShared_94 at hf
  obtain ⟨k_94, hf⟩ := gd_s hf
  obtain ⟨i_94_2, hf⟩ := ix_s hf
  refine g_iast hw k_94 i_94_2 d_Warp_useShared_94 ?_
  have hf := pw_b hf
  have key := e_Warp_useShared_95 hw (G := G) (h0 := h0) hk10 hf
  exact key
def b_Warp_useShared_10 (F : Nat) : Nat → Nat → Int32 → Nat → Int32 → Hp → Option Hp
  | 0 => fun _ _ _ _ _ => none
  | n + 1 => fun x0 x1 x2 x3 h => gd (hK h x0 = 9) <| if (hI h 514 x0) ≤ x3 then (some h) else (cl (f_WM_in F x1 x3 h) fun v_20 h_20 => if v_20 = 0 then (b_Warp_useShared_10 F n x0 x1 x2 (x3 + 1) h_20) else (gd (hK h_20 x0 = 9) <| rq h_20 (hR h_20 525 x0) 100 fun a_27_2 => ix x3 (hN h_20 a_27_2) fun j_31 => gd (hK h_20 x2 = 100) <| ix ((hA h_20 a_27_2 j_31) &&& (63 : Int32)) (hN h_20 x2) fun j_40_2 => rq h_20 (hR h_20 520 x0) 10 fun a_46 => cl (f_Warp_register F x0 x3 (hI h_20 579 a_46) h_20) fun v_52 h_52 => gd (hK h_52 x0 = 9) <| rq h_52 (hR h_52 520 x0) 10 fun a_58_2 => if (hI h_52 576 a_58_2) = (52 : Int32) then (b_Warp_useShared_95 F (b_Warp_useShared_10 F n) x0 x1 x2 x3 (hA h_20 x2 j_40_2) h_52) else (if (hI h_52 576 a_58_2) = (58 : Int32) then (b_Warp_useShared_94 F (b_Warp_useShared_10 F n) x0 x1 x2 x3 (hA h_20 x2 j_40_2) x2 ((hA h_20 a_27_2 j_31) &&& (63 : Int32)) ((hA h_20 x2 j_40_2) + v_52) h_52) else (b_Warp_useShared_94 F (b_Warp_useShared_10 F n) x0 x1 x2 x3 (hA h_20 x2 j_40_2) x2 ((hA h_20 a_27_2 j_31) &&& (63 : Int32)) v_52 h_52))))
set_option maxRecDepth 100000 in
set_option maxHeartbeats 4000000 in
theorem e_Warp_useShared_10 {G : Gl} (hw : gF G) {h0 : Hp} {F : Nat} {h' : Hp}   : ∀ (n : Nat) (x0 : Nat) (x1 : Int32) (x2 : Nat) (x3 : Int32) (h : Hp), b_Warp_useShared_10 F n x0 x1 x2 x3 h = some h' → Go G mi_Warp_useShared h0 (pV h') h 10 [(0, .ref x0), (1, .int x1), (2, .ref x2), (3, .int x3)] [] := by
  intro n
  induction n with
  | zero =>
    intro _ _ _ _ _ hf
    exact nm_s hf
  | succ n ih =>
    intro x0 x1 x2 x3 h hf
    unfold b_Warp_useShared_10 at hf
    refine g_iload_n d_Warp_useShared_10 rfl ?_
    refine g_aload_n d_Warp_useShared_11 rfl ?_
    obtain ⟨k_12, hf⟩ := gd_s hf
    refine fg_Warp_lanes lf_Warp_35 d_Warp_useShared_12 k_12 ?_
    refine g_icmp_ge 127 d_Warp_useShared_15 (by decide) (fun c_15 => ?_) (fun c_15 => ?_)
    · have hf := ifp hf c_15
      exact Go.ret none trivial rfl d_Warp_useShared_127 (pV_of hf)
    · have hf := ifn hf c_15
      refine g_iload_n d_Warp_useShared_18 rfl ?_
      refine g_iload_n d_Warp_useShared_19 rfl ?_
      obtain ⟨v_20, h_20, e_20, hf⟩ := cl_s hf
      refine g_callSN (mz := mi_WM_in) (e_WM_in e_20) cw_Warp_useShared_WM_in (host := "WarpMill") (by decide +kernel) wS_WM_in d_Warp_useShared_20 rfl rfl (by first | exact Nat.le_of_ble_eq_true rfl | simp [cat_rf, Value.category]) (fun r1 h1 hp hro => ?_)
      obtain ⟨rfl, rfl⟩ := hp
      dsimp only [Option.toList_some, Option.toList_none, List.cons_append, List.nil_append]
      refine g_if_eq 121 d_Warp_useShared_23 (by decide) (fun c_23 => ?_) (fun c_23 => ?_)
      · have hf := ifp hf c_23
        refine g_iinc (_ + 1) d_Warp_useShared_121 rfl (by rfl) (by decide) ?_
        show Go _ _ _ _ _ _ [(0, _), (1, _), (2, _), (3, _)] _
        refine g_goto 10 d_Warp_useShared_124 (by decide) ?_
        exact ih _ _ _ _ _ hf
      · have hf := ifn hf c_23
        refine g_aload_n d_Warp_useShared_26 rfl ?_
        obtain ⟨k_27, hf⟩ := gd_s hf
        obtain ⟨a_27_2, e_27_2, k_27_2, hf⟩ := rq_s hf
        refine fgs_Warp_row lf_Warp_24 d_Warp_useShared_27 k_27 e_27_2 ?_
        refine g_iload_n d_Warp_useShared_30 rfl ?_
        obtain ⟨i_31, hf⟩ := ix_s hf
        refine g_iald k_27_2 i_31 d_Warp_useShared_31 ?_
        refine g_bipush (63) d_Warp_useShared_32 (by decide) ?_
        refine g_iand d_Warp_useShared_34 ?_
        refine g_istore d_Warp_useShared_35 (by decide) ?_
        show Go _ _ _ _ _ _ [(0, _), (1, _), (2, _), (3, _), (4, _)] _
        refine g_aload_n d_Warp_useShared_37 rfl ?_
        refine g_iload d_Warp_useShared_38 rfl ?_
        obtain ⟨k_40, hf⟩ := gd_s hf
        obtain ⟨i_40_2, hf⟩ := ix_s hf
        refine g_iald k_40 i_40_2 d_Warp_useShared_40 ?_
        refine g_istore d_Warp_useShared_41 (by decide) ?_
        show Go _ _ _ _ _ _ [(0, _), (1, _), (2, _), (3, _), (4, _), (5, _)] _
        refine g_aload_n d_Warp_useShared_43 rfl ?_
        refine g_iload_n d_Warp_useShared_44 rfl ?_
        refine g_aload_n d_Warp_useShared_45 rfl ?_
        obtain ⟨a_46, e_46, k_46, hf⟩ := rq_s hf
        refine fgs_Warp_word lf_Warp_77 d_Warp_useShared_46 k_27 e_46 ?_
        refine fg_Word_b lf_Warp_106 d_Warp_useShared_49 k_46 ?_
        obtain ⟨v_52, h_52, e_52, hf⟩ := cl_s hf
        refine g_callV (mz := mi_Warp_register) (e_Warp_register e_52) cw_Warp_useShared_Warp_register lm_Warp_109 wI_Warp_register wV_Warp_register (ci := 8) k_27 (by decide) rfl rfl d_Warp_useShared_52 rfl rfl (by first | exact Nat.le_of_ble_eq_true rfl | simp [cat_rf, Value.category]) (fun r1 h1 hp hro => ?_)
        obtain ⟨rfl, rfl⟩ := hp
        dsimp only [Option.toList_some, Option.toList_none, List.cons_append, List.nil_append]
        refine g_istore d_Warp_useShared_55 (by decide) ?_
        show Go _ _ _ _ _ _ [(0, _), (1, _), (2, _), (3, _), (4, _), (5, _), (6, _)] _
        refine g_aload_n d_Warp_useShared_57 rfl ?_
        obtain ⟨k_58, hf⟩ := gd_s hf
        obtain ⟨a_58_2, e_58_2, k_58_2, hf⟩ := rq_s hf
        refine fgs_Warp_word lf_Warp_77 d_Warp_useShared_58 k_58 e_58_2 ?_
        refine fg_Word_op lf_Warp_118 d_Warp_useShared_61 k_58_2 ?_
        refine g_bipush (52) d_Warp_useShared_64 (by decide) ?_
        refine g_icmp_eq 95 d_Warp_useShared_66 (by decide) (fun c_66 => ?_) (fun c_66 => ?_)
        · have hf := ifp hf c_66
          refine Go.locals [0, 1, 2, 3, 5] rfl ?_
          have key := e_Warp_useShared_95 hw (G := G) (h0 := h0) (fun _ _ _ _ _ q => ih _ _ _ _ _ q) hf
          exact key
        · have hf := ifn hf c_66
          refine g_aload_n d_Warp_useShared_69 rfl ?_
          refine g_iload d_Warp_useShared_70 rfl ?_
          refine g_aload_n d_Warp_useShared_72 rfl ?_
          refine fgs_Warp_word lf_Warp_77 d_Warp_useShared_73 k_58 e_58_2 ?_
          refine fg_Word_op lf_Warp_118 d_Warp_useShared_76 k_58_2 ?_
          refine g_bipush (58) d_Warp_useShared_79 (by decide) ?_
          refine g_icmp_ne 92 d_Warp_useShared_81 (by decide) (fun c_81 => ?_) (fun c_81 => ?_)
          · have hf := ifn hf c_81
            refine g_iload d_Warp_useShared_92 rfl ?_
            refine Go.locals [0, 1, 2, 3, 5] rfl ?_
            have key := e_Warp_useShared_94 hw (G := G) (h0 := h0) (fun _ _ _ _ _ q => ih _ _ _ _ _ q) hf
            exact key
          · have hf := ifp hf c_81
            refine g_iload d_Warp_useShared_84 rfl ?_
            refine g_iload d_Warp_useShared_86 rfl ?_
            refine g_iadd d_Warp_useShared_88 ?_
            refine g_goto 94 d_Warp_useShared_89 (by decide) ?_
            refine Go.locals [0, 1, 2, 3, 5] rfl ?_
            have key := e_Warp_useShared_94 hw (G := G) (h0 := h0) (fun _ _ _ _ _ q => ih _ _ _ _ _ q) hf
            exact key
def f_Warp_useShared (F : Nat) (x0 : Nat) (x1 : Int32) (h : Hp) : Option Hp := gd (hK h x0 = 9) <| rq h (hR h 512 x0) 8 fun a_1_2 => rq h (hR h 449 a_1_2) 100 fun a_4 => b_Warp_useShared_10 F F x0 x1 a_4 (0 : Int32) h
set_option maxRecDepth 100000 in
set_option maxHeartbeats 4000000 in
theorem e_Warp_useShared {G : Gl} (hw : gF G) {F : Nat} {h' : Hp} {x0 : Nat} {x1 : Int32} {h : Hp} (hf : f_Warp_useShared F x0 x1 h = some h') : Ex G mi_Warp_useShared [.ref x0, .int x1] h (pV h') := by
  unfold f_Warp_useShared at hf
  refine Ex.of nmV (by decide) (Nat.le_of_ble_eq_true rfl) ?_
  show Go G mi_Warp_useShared h _ h 0 [(0, .ref x0), (1, .int x1)] []
  refine g_aload_n d_Warp_useShared_0 rfl ?_
  obtain ⟨k_1, hf⟩ := gd_s hf
  obtain ⟨a_1_2, e_1_2, k_1_2, hf⟩ := rq_s hf
  refine fgs_Warp_block lf_Warp_27 d_Warp_useShared_1 k_1 e_1_2 ?_
  obtain ⟨a_4, e_4, k_4, hf⟩ := rq_s hf
  refine fgs_Block_ints lf_Warp_168 d_Warp_useShared_4 k_1_2 e_4 ?_
  refine g_astore_n d_Warp_useShared_7 (by decide) ?_
  show Go _ _ _ _ _ _ [(0, _), (1, _), (2, _)] _
  refine g_iconst 0 d_Warp_useShared_8 (by decide) ?_
  refine g_istore_n d_Warp_useShared_9 (by decide) ?_
  show Go _ _ _ _ _ _ [(0, _), (1, _), (2, _), (3, _)] _
  have key := e_Warp_useShared_10 hw (G := G) (h0 := h)  F _ _ _ _ _ hf
  exact key
abbrev mi_Unit_crowd : MI := (⟨"WarpMill$Unit", "crowd", "(LWarpMill$Warp;III)I"⟩, prog_9_method_9_code, 12, some .int, 1, 23)
def it_Unit_crowd_0 : List (Nat × ClassFile.Instr × Nat) := [(0, .aload_n 0, 1), (1, .getfield 17, 3), (4, .iconst 0, 1), (5, .invokestatic 91, 3), (8, .aload_n 1, 1), (9, .getfield 78, 3), (12, .getfield 97, 3), (15, .bipush (58), 2), (17, .if_icmp .lt (7), 3), (20, .iconst 1, 1), (21, .goto (4), 3), (24, .iconst 0, 1), (25, .istore 5, 2), (27, .lconst 0, 1), (28, .lstore 6, 2), (30, .iconst 0, 1), (31, .istore 8, 2), (33, .iconst 0, 1), (34, .istore 9, 2), (36, .iload 9, 2), (38, .aload_n 1, 1), (39, .getfield 100, 3), (42, .if_icmp .ge (89), 3), (45, .iload_n 2, 1)]
theorem id_Unit_crowd_0 : ∀ q ∈ it_Unit_crowd_0, decode prog_9_method_9_code q.1 = .ok q.2 := by decide +kernel
theorem d_Unit_crowd_0 : decode prog_9_method_9_code 0 = .ok (.aload_n 0, 1) := id_Unit_crowd_0 (0, .aload_n 0, 1) (List.mem_of_getElem? (i := 0) rfl)
theorem d_Unit_crowd_1 : decode prog_9_method_9_code 1 = .ok (.getfield 17, 3) := id_Unit_crowd_0 (1, .getfield 17, 3) (List.mem_of_getElem? (i := 1) rfl)
theorem d_Unit_crowd_4 : decode prog_9_method_9_code 4 = .ok (.iconst 0, 1) := id_Unit_crowd_0 (4, .iconst 0, 1) (List.mem_of_getElem? (i := 2) rfl)
theorem d_Unit_crowd_5 : decode prog_9_method_9_code 5 = .ok (.invokestatic 91, 3) := id_Unit_crowd_0 (5, .invokestatic 91, 3) (List.mem_of_getElem? (i := 3) rfl)
theorem d_Unit_crowd_8 : decode prog_9_method_9_code 8 = .ok (.aload_n 1, 1) := id_Unit_crowd_0 (8, .aload_n 1, 1) (List.mem_of_getElem? (i := 4) rfl)
theorem d_Unit_crowd_9 : decode prog_9_method_9_code 9 = .ok (.getfield 78, 3) := id_Unit_crowd_0 (9, .getfield 78, 3) (List.mem_of_getElem? (i := 5) rfl)
theorem d_Unit_crowd_12 : decode prog_9_method_9_code 12 = .ok (.getfield 97, 3) := id_Unit_crowd_0 (12, .getfield 97, 3) (List.mem_of_getElem? (i := 6) rfl)
theorem d_Unit_crowd_15 : decode prog_9_method_9_code 15 = .ok (.bipush (58), 2) := id_Unit_crowd_0 (15, .bipush (58), 2) (List.mem_of_getElem? (i := 7) rfl)
theorem d_Unit_crowd_17 : decode prog_9_method_9_code 17 = .ok (.if_icmp .lt (7), 3) := id_Unit_crowd_0 (17, .if_icmp .lt (7), 3) (List.mem_of_getElem? (i := 8) rfl)
theorem d_Unit_crowd_20 : decode prog_9_method_9_code 20 = .ok (.iconst 1, 1) := id_Unit_crowd_0 (20, .iconst 1, 1) (List.mem_of_getElem? (i := 9) rfl)
theorem d_Unit_crowd_21 : decode prog_9_method_9_code 21 = .ok (.goto (4), 3) := id_Unit_crowd_0 (21, .goto (4), 3) (List.mem_of_getElem? (i := 10) rfl)
theorem d_Unit_crowd_24 : decode prog_9_method_9_code 24 = .ok (.iconst 0, 1) := id_Unit_crowd_0 (24, .iconst 0, 1) (List.mem_of_getElem? (i := 11) rfl)
theorem d_Unit_crowd_25 : decode prog_9_method_9_code 25 = .ok (.istore 5, 2) := id_Unit_crowd_0 (25, .istore 5, 2) (List.mem_of_getElem? (i := 12) rfl)
theorem d_Unit_crowd_27 : decode prog_9_method_9_code 27 = .ok (.lconst 0, 1) := id_Unit_crowd_0 (27, .lconst 0, 1) (List.mem_of_getElem? (i := 13) rfl)
theorem d_Unit_crowd_28 : decode prog_9_method_9_code 28 = .ok (.lstore 6, 2) := id_Unit_crowd_0 (28, .lstore 6, 2) (List.mem_of_getElem? (i := 14) rfl)
theorem d_Unit_crowd_30 : decode prog_9_method_9_code 30 = .ok (.iconst 0, 1) := id_Unit_crowd_0 (30, .iconst 0, 1) (List.mem_of_getElem? (i := 15) rfl)
theorem d_Unit_crowd_31 : decode prog_9_method_9_code 31 = .ok (.istore 8, 2) := id_Unit_crowd_0 (31, .istore 8, 2) (List.mem_of_getElem? (i := 16) rfl)
theorem d_Unit_crowd_33 : decode prog_9_method_9_code 33 = .ok (.iconst 0, 1) := id_Unit_crowd_0 (33, .iconst 0, 1) (List.mem_of_getElem? (i := 17) rfl)
theorem d_Unit_crowd_34 : decode prog_9_method_9_code 34 = .ok (.istore 9, 2) := id_Unit_crowd_0 (34, .istore 9, 2) (List.mem_of_getElem? (i := 18) rfl)
theorem d_Unit_crowd_36 : decode prog_9_method_9_code 36 = .ok (.iload 9, 2) := id_Unit_crowd_0 (36, .iload 9, 2) (List.mem_of_getElem? (i := 19) rfl)
theorem d_Unit_crowd_38 : decode prog_9_method_9_code 38 = .ok (.aload_n 1, 1) := id_Unit_crowd_0 (38, .aload_n 1, 1) (List.mem_of_getElem? (i := 20) rfl)
theorem d_Unit_crowd_39 : decode prog_9_method_9_code 39 = .ok (.getfield 100, 3) := id_Unit_crowd_0 (39, .getfield 100, 3) (List.mem_of_getElem? (i := 21) rfl)
theorem d_Unit_crowd_42 : decode prog_9_method_9_code 42 = .ok (.if_icmp .ge (89), 3) := id_Unit_crowd_0 (42, .if_icmp .ge (89), 3) (List.mem_of_getElem? (i := 22) rfl)
theorem d_Unit_crowd_45 : decode prog_9_method_9_code 45 = .ok (.iload_n 2, 1) := id_Unit_crowd_0 (45, .iload_n 2, 1) (List.mem_of_getElem? (i := 23) rfl)
def it_Unit_crowd_1 : List (Nat × ClassFile.Instr × Nat) := [(46, .iload 9, 2), (48, .invokestatic 103, 3), (51, .ifCond .eq (74), 3), (54, .aload_n 1, 1), (55, .getfield 107, 3), (58, .iload 9, 2), (60, .iaload, 1), (61, .istore 10, 2), (63, .iload 10, 2), (65, .iload_n 3, 1), (66, .iconst 1, 1), (67, .isub, 1), (68, .iand, 1), (69, .bipush (31), 2), (71, .iand, 1), (72, .istore 11, 2), (74, .iload 5, 2), (76, .ifCond .ne (15), 3), (79, .lload 6, 2), (81, .iload 10, 2), (83, .lushr, 1), (84, .lconst 1, 1), (85, .land, 1), (86, .lconst 0, 1)]
theorem id_Unit_crowd_1 : ∀ q ∈ it_Unit_crowd_1, decode prog_9_method_9_code q.1 = .ok q.2 := by decide +kernel
theorem d_Unit_crowd_46 : decode prog_9_method_9_code 46 = .ok (.iload 9, 2) := id_Unit_crowd_1 (46, .iload 9, 2) (List.mem_of_getElem? (i := 0) rfl)
theorem d_Unit_crowd_48 : decode prog_9_method_9_code 48 = .ok (.invokestatic 103, 3) := id_Unit_crowd_1 (48, .invokestatic 103, 3) (List.mem_of_getElem? (i := 1) rfl)
theorem d_Unit_crowd_51 : decode prog_9_method_9_code 51 = .ok (.ifCond .eq (74), 3) := id_Unit_crowd_1 (51, .ifCond .eq (74), 3) (List.mem_of_getElem? (i := 2) rfl)
theorem d_Unit_crowd_54 : decode prog_9_method_9_code 54 = .ok (.aload_n 1, 1) := id_Unit_crowd_1 (54, .aload_n 1, 1) (List.mem_of_getElem? (i := 3) rfl)
theorem d_Unit_crowd_55 : decode prog_9_method_9_code 55 = .ok (.getfield 107, 3) := id_Unit_crowd_1 (55, .getfield 107, 3) (List.mem_of_getElem? (i := 4) rfl)
theorem d_Unit_crowd_58 : decode prog_9_method_9_code 58 = .ok (.iload 9, 2) := id_Unit_crowd_1 (58, .iload 9, 2) (List.mem_of_getElem? (i := 5) rfl)
theorem d_Unit_crowd_60 : decode prog_9_method_9_code 60 = .ok (.iaload, 1) := id_Unit_crowd_1 (60, .iaload, 1) (List.mem_of_getElem? (i := 6) rfl)
theorem d_Unit_crowd_61 : decode prog_9_method_9_code 61 = .ok (.istore 10, 2) := id_Unit_crowd_1 (61, .istore 10, 2) (List.mem_of_getElem? (i := 7) rfl)
theorem d_Unit_crowd_63 : decode prog_9_method_9_code 63 = .ok (.iload 10, 2) := id_Unit_crowd_1 (63, .iload 10, 2) (List.mem_of_getElem? (i := 8) rfl)
theorem d_Unit_crowd_65 : decode prog_9_method_9_code 65 = .ok (.iload_n 3, 1) := id_Unit_crowd_1 (65, .iload_n 3, 1) (List.mem_of_getElem? (i := 9) rfl)
theorem d_Unit_crowd_66 : decode prog_9_method_9_code 66 = .ok (.iconst 1, 1) := id_Unit_crowd_1 (66, .iconst 1, 1) (List.mem_of_getElem? (i := 10) rfl)
theorem d_Unit_crowd_67 : decode prog_9_method_9_code 67 = .ok (.isub, 1) := id_Unit_crowd_1 (67, .isub, 1) (List.mem_of_getElem? (i := 11) rfl)
theorem d_Unit_crowd_68 : decode prog_9_method_9_code 68 = .ok (.iand, 1) := id_Unit_crowd_1 (68, .iand, 1) (List.mem_of_getElem? (i := 12) rfl)
theorem d_Unit_crowd_69 : decode prog_9_method_9_code 69 = .ok (.bipush (31), 2) := id_Unit_crowd_1 (69, .bipush (31), 2) (List.mem_of_getElem? (i := 13) rfl)
theorem d_Unit_crowd_71 : decode prog_9_method_9_code 71 = .ok (.iand, 1) := id_Unit_crowd_1 (71, .iand, 1) (List.mem_of_getElem? (i := 14) rfl)
theorem d_Unit_crowd_72 : decode prog_9_method_9_code 72 = .ok (.istore 11, 2) := id_Unit_crowd_1 (72, .istore 11, 2) (List.mem_of_getElem? (i := 15) rfl)
theorem d_Unit_crowd_74 : decode prog_9_method_9_code 74 = .ok (.iload 5, 2) := id_Unit_crowd_1 (74, .iload 5, 2) (List.mem_of_getElem? (i := 16) rfl)
theorem d_Unit_crowd_76 : decode prog_9_method_9_code 76 = .ok (.ifCond .ne (15), 3) := id_Unit_crowd_1 (76, .ifCond .ne (15), 3) (List.mem_of_getElem? (i := 17) rfl)
theorem d_Unit_crowd_79 : decode prog_9_method_9_code 79 = .ok (.lload 6, 2) := id_Unit_crowd_1 (79, .lload 6, 2) (List.mem_of_getElem? (i := 18) rfl)
theorem d_Unit_crowd_81 : decode prog_9_method_9_code 81 = .ok (.iload 10, 2) := id_Unit_crowd_1 (81, .iload 10, 2) (List.mem_of_getElem? (i := 19) rfl)
theorem d_Unit_crowd_83 : decode prog_9_method_9_code 83 = .ok (.lushr, 1) := id_Unit_crowd_1 (83, .lushr, 1) (List.mem_of_getElem? (i := 20) rfl)
theorem d_Unit_crowd_84 : decode prog_9_method_9_code 84 = .ok (.lconst 1, 1) := id_Unit_crowd_1 (84, .lconst 1, 1) (List.mem_of_getElem? (i := 21) rfl)
theorem d_Unit_crowd_85 : decode prog_9_method_9_code 85 = .ok (.land, 1) := id_Unit_crowd_1 (85, .land, 1) (List.mem_of_getElem? (i := 22) rfl)
theorem d_Unit_crowd_86 : decode prog_9_method_9_code 86 = .ok (.lconst 0, 1) := id_Unit_crowd_1 (86, .lconst 0, 1) (List.mem_of_getElem? (i := 23) rfl)
def it_Unit_crowd_2 : List (Nat × ClassFile.Instr × Nat) := [(87, .lcmp, 1), (88, .ifCond .ne (28), 3), (91, .aload_n 0, 1), (92, .getfield 17, 3), (95, .iload 11, 2), (97, .dup2, 1), (98, .iaload, 1), (99, .iconst 1, 1), (100, .iadd, 1), (101, .iastore, 1), (102, .iload 8, 2), (104, .aload_n 0, 1), (105, .getfield 17, 3), (108, .iload 11, 2), (110, .iaload, 1), (111, .invokestatic 110, 3), (114, .istore 8, 2), (116, .lload 6, 2), (118, .lconst 1, 1), (119, .iload 10, 2), (121, .lshl, 1), (122, .lor, 1), (123, .lstore 6, 2), (125, .iinc 9 (1), 3)]
theorem id_Unit_crowd_2 : ∀ q ∈ it_Unit_crowd_2, decode prog_9_method_9_code q.1 = .ok q.2 := by decide +kernel
theorem d_Unit_crowd_87 : decode prog_9_method_9_code 87 = .ok (.lcmp, 1) := id_Unit_crowd_2 (87, .lcmp, 1) (List.mem_of_getElem? (i := 0) rfl)
theorem d_Unit_crowd_88 : decode prog_9_method_9_code 88 = .ok (.ifCond .ne (28), 3) := id_Unit_crowd_2 (88, .ifCond .ne (28), 3) (List.mem_of_getElem? (i := 1) rfl)
theorem d_Unit_crowd_91 : decode prog_9_method_9_code 91 = .ok (.aload_n 0, 1) := id_Unit_crowd_2 (91, .aload_n 0, 1) (List.mem_of_getElem? (i := 2) rfl)
theorem d_Unit_crowd_92 : decode prog_9_method_9_code 92 = .ok (.getfield 17, 3) := id_Unit_crowd_2 (92, .getfield 17, 3) (List.mem_of_getElem? (i := 3) rfl)
theorem d_Unit_crowd_95 : decode prog_9_method_9_code 95 = .ok (.iload 11, 2) := id_Unit_crowd_2 (95, .iload 11, 2) (List.mem_of_getElem? (i := 4) rfl)
theorem d_Unit_crowd_97 : decode prog_9_method_9_code 97 = .ok (.dup2, 1) := id_Unit_crowd_2 (97, .dup2, 1) (List.mem_of_getElem? (i := 5) rfl)
theorem d_Unit_crowd_98 : decode prog_9_method_9_code 98 = .ok (.iaload, 1) := id_Unit_crowd_2 (98, .iaload, 1) (List.mem_of_getElem? (i := 6) rfl)
theorem d_Unit_crowd_99 : decode prog_9_method_9_code 99 = .ok (.iconst 1, 1) := id_Unit_crowd_2 (99, .iconst 1, 1) (List.mem_of_getElem? (i := 7) rfl)
theorem d_Unit_crowd_100 : decode prog_9_method_9_code 100 = .ok (.iadd, 1) := id_Unit_crowd_2 (100, .iadd, 1) (List.mem_of_getElem? (i := 8) rfl)
theorem d_Unit_crowd_101 : decode prog_9_method_9_code 101 = .ok (.iastore, 1) := id_Unit_crowd_2 (101, .iastore, 1) (List.mem_of_getElem? (i := 9) rfl)
theorem d_Unit_crowd_102 : decode prog_9_method_9_code 102 = .ok (.iload 8, 2) := id_Unit_crowd_2 (102, .iload 8, 2) (List.mem_of_getElem? (i := 10) rfl)
theorem d_Unit_crowd_104 : decode prog_9_method_9_code 104 = .ok (.aload_n 0, 1) := id_Unit_crowd_2 (104, .aload_n 0, 1) (List.mem_of_getElem? (i := 11) rfl)
theorem d_Unit_crowd_105 : decode prog_9_method_9_code 105 = .ok (.getfield 17, 3) := id_Unit_crowd_2 (105, .getfield 17, 3) (List.mem_of_getElem? (i := 12) rfl)
theorem d_Unit_crowd_108 : decode prog_9_method_9_code 108 = .ok (.iload 11, 2) := id_Unit_crowd_2 (108, .iload 11, 2) (List.mem_of_getElem? (i := 13) rfl)
theorem d_Unit_crowd_110 : decode prog_9_method_9_code 110 = .ok (.iaload, 1) := id_Unit_crowd_2 (110, .iaload, 1) (List.mem_of_getElem? (i := 14) rfl)
theorem d_Unit_crowd_111 : decode prog_9_method_9_code 111 = .ok (.invokestatic 110, 3) := id_Unit_crowd_2 (111, .invokestatic 110, 3) (List.mem_of_getElem? (i := 15) rfl)
theorem d_Unit_crowd_114 : decode prog_9_method_9_code 114 = .ok (.istore 8, 2) := id_Unit_crowd_2 (114, .istore 8, 2) (List.mem_of_getElem? (i := 16) rfl)
theorem d_Unit_crowd_116 : decode prog_9_method_9_code 116 = .ok (.lload 6, 2) := id_Unit_crowd_2 (116, .lload 6, 2) (List.mem_of_getElem? (i := 17) rfl)
theorem d_Unit_crowd_118 : decode prog_9_method_9_code 118 = .ok (.lconst 1, 1) := id_Unit_crowd_2 (118, .lconst 1, 1) (List.mem_of_getElem? (i := 18) rfl)
theorem d_Unit_crowd_119 : decode prog_9_method_9_code 119 = .ok (.iload 10, 2) := id_Unit_crowd_2 (119, .iload 10, 2) (List.mem_of_getElem? (i := 19) rfl)
theorem d_Unit_crowd_121 : decode prog_9_method_9_code 121 = .ok (.lshl, 1) := id_Unit_crowd_2 (121, .lshl, 1) (List.mem_of_getElem? (i := 20) rfl)
theorem d_Unit_crowd_122 : decode prog_9_method_9_code 122 = .ok (.lor, 1) := id_Unit_crowd_2 (122, .lor, 1) (List.mem_of_getElem? (i := 21) rfl)
theorem d_Unit_crowd_123 : decode prog_9_method_9_code 123 = .ok (.lstore 6, 2) := id_Unit_crowd_2 (123, .lstore 6, 2) (List.mem_of_getElem? (i := 22) rfl)
theorem d_Unit_crowd_125 : decode prog_9_method_9_code 125 = .ok (.iinc 9 (1), 3) := id_Unit_crowd_2 (125, .iinc 9 (1), 3) (List.mem_of_getElem? (i := 23) rfl)
def it_Unit_crowd_3 : List (Nat × ClassFile.Instr × Nat) := [(128, .goto (-92), 3), (131, .aload_n 0, 1), (132, .iload 4, 2), (134, .iload 8, 2), (136, .iconst 1, 1), (137, .invokestatic 110, 3), (140, .iadd, 1), (141, .putfield 37, 3), (144, .iconst 2, 1), (145, .iload 8, 2), (147, .iadd, 1), (148, .ireturn, 1)]
theorem id_Unit_crowd_3 : ∀ q ∈ it_Unit_crowd_3, decode prog_9_method_9_code q.1 = .ok q.2 := by decide +kernel
theorem d_Unit_crowd_128 : decode prog_9_method_9_code 128 = .ok (.goto (-92), 3) := id_Unit_crowd_3 (128, .goto (-92), 3) (List.mem_of_getElem? (i := 0) rfl)
theorem d_Unit_crowd_131 : decode prog_9_method_9_code 131 = .ok (.aload_n 0, 1) := id_Unit_crowd_3 (131, .aload_n 0, 1) (List.mem_of_getElem? (i := 1) rfl)
theorem d_Unit_crowd_132 : decode prog_9_method_9_code 132 = .ok (.iload 4, 2) := id_Unit_crowd_3 (132, .iload 4, 2) (List.mem_of_getElem? (i := 2) rfl)
theorem d_Unit_crowd_134 : decode prog_9_method_9_code 134 = .ok (.iload 8, 2) := id_Unit_crowd_3 (134, .iload 8, 2) (List.mem_of_getElem? (i := 3) rfl)
theorem d_Unit_crowd_136 : decode prog_9_method_9_code 136 = .ok (.iconst 1, 1) := id_Unit_crowd_3 (136, .iconst 1, 1) (List.mem_of_getElem? (i := 4) rfl)
theorem d_Unit_crowd_137 : decode prog_9_method_9_code 137 = .ok (.invokestatic 110, 3) := id_Unit_crowd_3 (137, .invokestatic 110, 3) (List.mem_of_getElem? (i := 5) rfl)
theorem d_Unit_crowd_140 : decode prog_9_method_9_code 140 = .ok (.iadd, 1) := id_Unit_crowd_3 (140, .iadd, 1) (List.mem_of_getElem? (i := 6) rfl)
theorem d_Unit_crowd_141 : decode prog_9_method_9_code 141 = .ok (.putfield 37, 3) := id_Unit_crowd_3 (141, .putfield 37, 3) (List.mem_of_getElem? (i := 7) rfl)
theorem d_Unit_crowd_144 : decode prog_9_method_9_code 144 = .ok (.iconst 2, 1) := id_Unit_crowd_3 (144, .iconst 2, 1) (List.mem_of_getElem? (i := 8) rfl)
theorem d_Unit_crowd_145 : decode prog_9_method_9_code 145 = .ok (.iload 8, 2) := id_Unit_crowd_3 (145, .iload 8, 2) (List.mem_of_getElem? (i := 9) rfl)
theorem d_Unit_crowd_147 : decode prog_9_method_9_code 147 = .ok (.iadd, 1) := id_Unit_crowd_3 (147, .iadd, 1) (List.mem_of_getElem? (i := 10) rfl)
theorem d_Unit_crowd_148 : decode prog_9_method_9_code 148 = .ok (.ireturn, 1) := id_Unit_crowd_3 (148, .ireturn, 1) (List.mem_of_getElem? (i := 11) rfl)
theorem wC_Unit_crowd : Cond.code ⟨"WarpMill$Unit", "crowd", "(LWarpMill$Warp;III)I"⟩ prog_9_method_9_code 12 (some .int) ∈ lw_tb := mem_tb 882 (by decide +kernel) rfl
theorem cw_Unit_crowd_Arrays_fill : cW mi_Unit_crowd mi_Arrays_fill 2 := ⟨wC_Arrays_fill, wi_Arrays, ⟨by decide, by decide, by decide +kernel⟩, by decide, by decide⟩
theorem cw_Unit_crowd_WM_in : cW mi_Unit_crowd mi_WM_in 2 := ⟨wC_WM_in, wi_WM, ⟨by decide, by decide, by decide +kernel⟩, by decide, by decide⟩
def b_Unit_crowd_116 (F : Nat) (k36 : Nat → Nat → Int32 → Int32 → Int32 → Int32 → Int64 → Int32 → Int32 → Hp → Option (Int32 × Hp)) (x0 : Nat) (x1 : Nat) (x2 : Int32) (x3 : Int32) (x4 : Int32) (x5 : Int32) (x6 : Int64) (x8 : Int32) (x9 : Int32) (x10 : Int32) (h : Hp) : Option (Int32 × Hp) := k36 x0 x1 x2 x3 x4 x5 (x6 ||| ((1 : Int64) <<< (Int32.toInt64 x10 &&& 63))) x8 (x9 + 1) h
set_option maxRecDepth 100000 in
set_option maxHeartbeats 4000000 in
theorem e_Unit_crowd_116 {G : Gl} (hw : gF G) {h0 : Hp} {F : Nat} {r : Int32} {h' : Hp} {k36 : Nat → Nat → Int32 → Int32 → Int32 → Int32 → Int64 → Int32 → Int32 → Hp → Option (Int32 × Hp)} (hk36 : ∀ (y0 : Nat) (y1 : Nat) (y2 : Int32) (y3 : Int32) (y4 : Int32) (y5 : Int32) (y6 : Int64) (y8 : Int32) (y9 : Int32) (hh : Hp), k36 y0 y1 y2 y3 y4 y5 y6 y8 y9 hh = some (r, h') → Go G mi_Unit_crowd h0 (pI r h') hh 36 [(0, .ref y0), (1, .ref y1), (2, .int y2), (3, .int y3), (4, .int y4), (5, .int y5), (6, .long y6), (8, .int y8), (9, .int y9)] []) {x0 : Nat} {x1 : Nat} {x2 : Int32} {x3 : Int32} {x4 : Int32} {x5 : Int32} {x6 : Int64} {x8 : Int32} {x9 : Int32} {x10 : Int32} {h : Hp} (hf : b_Unit_crowd_116 F k36 x0 x1 x2 x3 x4 x5 x6 x8 x9 x10 h = some (r, h')) : Go G mi_Unit_crowd h0 (pI r h') h 116 [(0, .ref x0), (1, .ref x1), (2, .int x2), (3, .int x3), (4, .int x4), (5, .int x5), (6, .long x6), (8, .int x8), (9, .int x9), (10, .int x10)] [] := by
  unfold b_Unit_crowd_116 at hf
  refine g_lload d_Unit_crowd_116 rfl ?_
  refine g_lconst 1 d_Unit_crowd_118 (by decide) ?_
  refine g_iload d_Unit_crowd_119 rfl ?_
  refine g_lshl d_Unit_crowd_121 ?_
  refine g_lor d_Unit_crowd_122 ?_
  refine g_lstore d_Unit_crowd_123 (by decide) ?_
  show Go _ _ _ _ _ _ [(0, _), (1, _), (2, _), (3, _), (4, _), (5, _), (6, _), (8, _), (9, _), (10, _)] _
  refine g_iinc (_ + 1) d_Unit_crowd_125 rfl (by rfl) (by decide) ?_
  show Go _ _ _ _ _ _ [(0, _), (1, _), (2, _), (3, _), (4, _), (5, _), (6, _), (8, _), (9, _), (10, _)] _
  refine g_goto 36 d_Unit_crowd_128 (by decide) ?_
  refine Go.locals [0, 1, 2, 3, 4, 5, 6, 7, 8] rfl ?_
  exact hk36 _ _ _ _ _ _ _ _ _ _ hf
def b_Unit_crowd_91 (F : Nat) (k36 : Nat → Nat → Int32 → Int32 → Int32 → Int32 → Int64 → Int32 → Int32 → Hp → Option (Int32 × Hp)) (x0 : Nat) (x1 : Nat) (x2 : Int32) (x3 : Int32) (x4 : Int32) (x5 : Int32) (x6 : Int64) (x8 : Int32) (x9 : Int32) (x10 : Int32) (x11 : Int32) (h : Hp) : Option (Int32 × Hp) := gd (hK h x0 = 7) <| rq h (hR h 385 x0) 100 fun a_92_2 => ix x11 (hN h a_92_2) fun j_98 => ix x11 (hN h a_92_2) fun j_101 => pw (sA h a_92_2 j_101 ((hA h a_92_2 j_98) + (1 : Int32))) fun h_101_2 => ix x11 (hN h_101_2 a_92_2) fun j_110 => b_Unit_crowd_116 F k36 x0 x1 x2 x3 x4 x5 x6 (if x8 < (hA h_101_2 a_92_2 j_110) then (hA h_101_2 a_92_2 j_110) else x8) x9 x10 h_101_2
set_option maxRecDepth 100000 in
set_option maxHeartbeats 4000000 in
theorem e_Unit_crowd_91 {G : Gl} (hw : gF G) {h0 : Hp} {F : Nat} {r : Int32} {h' : Hp} {k36 : Nat → Nat → Int32 → Int32 → Int32 → Int32 → Int64 → Int32 → Int32 → Hp → Option (Int32 × Hp)} (hk36 : ∀ (y0 : Nat) (y1 : Nat) (y2 : Int32) (y3 : Int32) (y4 : Int32) (y5 : Int32) (y6 : Int64) (y8 : Int32) (y9 : Int32) (hh : Hp), k36 y0 y1 y2 y3 y4 y5 y6 y8 y9 hh = some (r, h') → Go G mi_Unit_crowd h0 (pI r h') hh 36 [(0, .ref y0), (1, .ref y1), (2, .int y2), (3, .int y3), (4, .int y4), (5, .int y5), (6, .long y6), (8, .int y8), (9, .int y9)] []) {x0 : Nat} {x1 : Nat} {x2 : Int32} {x3 : Int32} {x4 : Int32} {x5 : Int32} {x6 : Int64} {x8 : Int32} {x9 : Int32} {x10 : Int32} {x11 : Int32} {h : Hp} (hf : b_Unit_crowd_91 F k36 x0 x1 x2 x3 x4 x5 x6 x8 x9 x10 x11 h = some (r, h')) : Go G mi_Unit_crowd h0 (pI r h') h 91 [(0, .ref x0), (1, .ref x1), (2, .int x2), (3, .int x3), (4, .int x4), (5, .int x5), (6, .long x6), (8, .int x8), (9, .int x9), (10, .int x10), (11, .int x11)] [] := by
  unfold b_Unit_crowd_91 at hf
  refine g_aload_n d_Unit_crowd_91 rfl ?_
  obtain ⟨k_92, hf⟩ := gd_s hf
  obtain ⟨a_92_2, e_92_2, k_92_2, hf⟩ := rq_s hf
  refine fgs_Unit_load lf_Unit_17 d_Unit_crowd_92 k_92 e_92_2 ?_
  refine g_iload d_Unit_crowd_95 rfl ?_
  refine g_dup2 rfl rfl d_Unit_crowd_97 ?_
  obtain ⟨i_98, hf⟩ := ix_s hf
  refine g_iald k_92_2 i_98 d_Unit_crowd_98 ?_
  refine g_iconst 1 d_Unit_crowd_99 (by decide) ?_
  refine g_iadd d_Unit_crowd_100 ?_
  obtain ⟨i_101, hf⟩ := ix_s hf
  refine g_iast hw k_92_2 i_101 d_Unit_crowd_101 ?_
  have hf := pw_b hf
  refine g_iload d_Unit_crowd_102 rfl ?_
  refine g_aload_n d_Unit_crowd_104 rfl ?_
  refine fgs_Unit_load lf_Unit_17 d_Unit_crowd_105 (kksA k_92) (krsA e_92_2) ?_
  refine g_iload d_Unit_crowd_108 rfl ?_
  obtain ⟨i_110, hf⟩ := ix_s hf
  refine g_iald (kksA k_92_2) i_110 d_Unit_crowd_110 ?_
  refine g_mmax lm_Unit_110 wS_Math_max wi_Math wC_Math_max (Nat.le_of_ble_eq_true rfl) (Nat.le_of_ble_eq_true rfl) d_Unit_crowd_111 ?_
  refine g_istore d_Unit_crowd_114 (by decide) ?_
  show Go _ _ _ _ _ _ [(0, _), (1, _), (2, _), (3, _), (4, _), (5, _), (6, _), (8, _), (9, _), (10, _), (11, _)] _
  refine Go.locals [0, 1, 2, 3, 4, 5, 6, 7, 8, 9] rfl ?_
  have key := e_Unit_crowd_116 hw (G := G) (h0 := h0) hk36 hf
  exact key
def b_Unit_crowd_36 (F : Nat) : Nat → Nat → Nat → Int32 → Int32 → Int32 → Int32 → Int64 → Int32 → Int32 → Hp → Option (Int32 × Hp)
  | 0 => fun _ _ _ _ _ _ _ _ _ _ => none
  | n + 1 => fun x0 x1 x2 x3 x4 x5 x6 x8 x9 h => gd (hK h x1 = 9) <| if (hI h 514 x1) ≤ x9 then (gd (hK h x0 = 7) <| pw (sI h 391 x0 (x4 + (if x8 < (1 : Int32) then (1 : Int32) else x8))) fun h_141_2 => some (((2 : Int32) + x8), h_141_2)) else (cl (f_WM_in F x2 x9 h) fun v_48 h_48 => if v_48 = 0 then (b_Unit_crowd_36 F n x0 x1 x2 x3 x4 x5 x6 x8 (x9 + 1) h_48) else (gd (hK h_48 x1 = 9) <| rq h_48 (hR h_48 525 x1) 100 fun a_55_2 => ix x9 (hN h_48 a_55_2) fun j_60 => if x5 = 0 then (if (lg_cmp ((lushr x6 (hA h_48 a_55_2 j_60)) &&& (1 : Int64)) (0 : Int64)) = 0 then (b_Unit_crowd_91 F (b_Unit_crowd_36 F n) x0 x1 x2 x3 x4 x5 x6 x8 x9 (hA h_48 a_55_2 j_60) (((hA h_48 a_55_2 j_60) &&& (x3 - (1 : Int32))) &&& (31 : Int32)) h_48) else (b_Unit_crowd_116 F (b_Unit_crowd_36 F n) x0 x1 x2 x3 x4 x5 x6 x8 x9 (hA h_48 a_55_2 j_60) h_48)) else (b_Unit_crowd_91 F (b_Unit_crowd_36 F n) x0 x1 x2 x3 x4 x5 x6 x8 x9 (hA h_48 a_55_2 j_60) (((hA h_48 a_55_2 j_60) &&& (x3 - (1 : Int32))) &&& (31 : Int32)) h_48)))
set_option maxRecDepth 100000 in
set_option maxHeartbeats 4000000 in
theorem e_Unit_crowd_36 {G : Gl} (hw : gF G) {h0 : Hp} {F : Nat} {r : Int32} {h' : Hp}   : ∀ (n : Nat) (x0 : Nat) (x1 : Nat) (x2 : Int32) (x3 : Int32) (x4 : Int32) (x5 : Int32) (x6 : Int64) (x8 : Int32) (x9 : Int32) (h : Hp), b_Unit_crowd_36 F n x0 x1 x2 x3 x4 x5 x6 x8 x9 h = some (r, h') → Go G mi_Unit_crowd h0 (pI r h') h 36 [(0, .ref x0), (1, .ref x1), (2, .int x2), (3, .int x3), (4, .int x4), (5, .int x5), (6, .long x6), (8, .int x8), (9, .int x9)] [] := by
  intro n
  induction n with
  | zero =>
    intro _ _ _ _ _ _ _ _ _ _ hf
    exact nm_s hf
  | succ n ih =>
    intro x0 x1 x2 x3 x4 x5 x6 x8 x9 h hf
    unfold b_Unit_crowd_36 at hf
    refine g_iload d_Unit_crowd_36 rfl ?_
    refine g_aload_n d_Unit_crowd_38 rfl ?_
    obtain ⟨k_39, hf⟩ := gd_s hf
    refine fg_Warp_lanes lf_Unit_100 d_Unit_crowd_39 k_39 ?_
    refine g_icmp_ge 131 d_Unit_crowd_42 (by decide) (fun c_42 => ?_) (fun c_42 => ?_)
    · have hf := ifp hf c_42
      refine g_aload_n d_Unit_crowd_131 rfl ?_
      refine g_iload d_Unit_crowd_132 rfl ?_
      refine g_iload d_Unit_crowd_134 rfl ?_
      refine g_iconst 1 d_Unit_crowd_136 (by decide) ?_
      refine g_mmax lm_Unit_110 wS_Math_max wi_Math wC_Math_max (Nat.le_of_ble_eq_true rfl) (Nat.le_of_ble_eq_true rfl) d_Unit_crowd_137 ?_
      refine g_iadd d_Unit_crowd_140 ?_
      obtain ⟨k_141, hf⟩ := gd_s hf
      refine fp_Unit_sharedTick hw lf_Unit_37 d_Unit_crowd_141 k_141 ?_
      have hf := pw_b hf
      refine g_iconst 2 d_Unit_crowd_144 (by decide) ?_
      refine g_iload d_Unit_crowd_145 rfl ?_
      refine g_iadd d_Unit_crowd_147 ?_
      exact Go.ret (some _) (rOk_i _) rfl d_Unit_crowd_148 (pI_of hf)
    · have hf := ifn hf c_42
      refine g_iload_n d_Unit_crowd_45 rfl ?_
      refine g_iload d_Unit_crowd_46 rfl ?_
      obtain ⟨v_48, h_48, e_48, hf⟩ := cl_s hf
      refine g_callSN (mz := mi_WM_in) (e_WM_in e_48) cw_Unit_crowd_WM_in (host := "WarpMill") (by decide +kernel) wS_WM_in d_Unit_crowd_48 rfl rfl (by first | exact Nat.le_of_ble_eq_true rfl | simp [cat_rf, Value.category]) (fun r1 h1 hp hro => ?_)
      obtain ⟨rfl, rfl⟩ := hp
      dsimp only [Option.toList_some, Option.toList_none, List.cons_append, List.nil_append]
      refine g_if_eq 125 d_Unit_crowd_51 (by decide) (fun c_51 => ?_) (fun c_51 => ?_)
      · have hf := ifp hf c_51
        refine g_iinc (_ + 1) d_Unit_crowd_125 rfl (by rfl) (by decide) ?_
        show Go _ _ _ _ _ _ [(0, _), (1, _), (2, _), (3, _), (4, _), (5, _), (6, _), (8, _), (9, _)] _
        refine g_goto 36 d_Unit_crowd_128 (by decide) ?_
        exact ih _ _ _ _ _ _ _ _ _ _ hf
      · have hf := ifn hf c_51
        refine g_aload_n d_Unit_crowd_54 rfl ?_
        obtain ⟨k_55, hf⟩ := gd_s hf
        obtain ⟨a_55_2, e_55_2, k_55_2, hf⟩ := rq_s hf
        refine fgs_Warp_row lf_Unit_107 d_Unit_crowd_55 k_55 e_55_2 ?_
        refine g_iload d_Unit_crowd_58 rfl ?_
        obtain ⟨i_60, hf⟩ := ix_s hf
        refine g_iald k_55_2 i_60 d_Unit_crowd_60 ?_
        refine g_istore d_Unit_crowd_61 (by decide) ?_
        show Go _ _ _ _ _ _ [(0, _), (1, _), (2, _), (3, _), (4, _), (5, _), (6, _), (8, _), (9, _), (10, _)] _
        refine g_iload d_Unit_crowd_63 rfl ?_
        refine g_iload_n d_Unit_crowd_65 rfl ?_
        refine g_iconst 1 d_Unit_crowd_66 (by decide) ?_
        refine g_isub d_Unit_crowd_67 ?_
        refine g_iand d_Unit_crowd_68 ?_
        refine g_bipush (31) d_Unit_crowd_69 (by decide) ?_
        refine g_iand d_Unit_crowd_71 ?_
        refine g_istore d_Unit_crowd_72 (by decide) ?_
        show Go _ _ _ _ _ _ [(0, _), (1, _), (2, _), (3, _), (4, _), (5, _), (6, _), (8, _), (9, _), (10, _), (11, _)] _
        refine g_iload d_Unit_crowd_74 rfl ?_
        refine g_if_ne 91 d_Unit_crowd_76 (by decide) (fun c_76 => ?_) (fun c_76 => ?_)
        · have hf := ifn hf c_76
          have key := e_Unit_crowd_91 hw (G := G) (h0 := h0) (fun _ _ _ _ _ _ _ _ _ _ q => ih _ _ _ _ _ _ _ _ _ _ q) hf
          exact key
        · have hf := ifp hf c_76
          refine g_lload d_Unit_crowd_79 rfl ?_
          refine g_iload d_Unit_crowd_81 rfl ?_
          refine g_lushr d_Unit_crowd_83 ?_
          refine g_lconst 1 d_Unit_crowd_84 (by decide) ?_
          refine g_land d_Unit_crowd_85 ?_
          refine g_lconst 0 d_Unit_crowd_86 (by decide) ?_
          refine g_lcmp d_Unit_crowd_87 ?_
          refine g_if_ne 116 d_Unit_crowd_88 (by decide) (fun c_88 => ?_) (fun c_88 => ?_)
          · have hf := ifn hf c_88
            refine Go.locals [0, 1, 2, 3, 4, 5, 6, 7, 8, 9] rfl ?_
            have key := e_Unit_crowd_116 hw (G := G) (h0 := h0) (fun _ _ _ _ _ _ _ _ _ _ q => ih _ _ _ _ _ _ _ _ _ _ q) hf
            exact key
          · have hf := ifp hf c_88
            have key := e_Unit_crowd_91 hw (G := G) (h0 := h0) (fun _ _ _ _ _ _ _ _ _ _ q => ih _ _ _ _ _ _ _ _ _ _ q) hf
            exact key
def b_Unit_crowd_25 (F : Nat) (x0 : Nat) (x1 : Nat) (x2 : Int32) (x3 : Int32) (x4 : Int32) (s0 : Int32) (h : Hp) : Option (Int32 × Hp) := b_Unit_crowd_36 F F x0 x1 x2 x3 x4 s0 (0 : Int64) (0 : Int32) (0 : Int32) h
set_option maxRecDepth 100000 in
set_option maxHeartbeats 4000000 in
theorem e_Unit_crowd_25 {G : Gl} (hw : gF G) {h0 : Hp} {F : Nat} {r : Int32} {h' : Hp}   {x0 : Nat} {x1 : Nat} {x2 : Int32} {x3 : Int32} {x4 : Int32} {s0 : Int32} {h : Hp} (hf : b_Unit_crowd_25 F x0 x1 x2 x3 x4 s0 h = some (r, h')) : Go G mi_Unit_crowd h0 (pI r h') h 25 [(0, .ref x0), (1, .ref x1), (2, .int x2), (3, .int x3), (4, .int x4)] [.int s0] := by
  unfold b_Unit_crowd_25 at hf
  refine g_istore d_Unit_crowd_25 (by decide) ?_
  show Go _ _ _ _ _ _ [(0, _), (1, _), (2, _), (3, _), (4, _), (5, _)] _
  refine g_lconst 0 d_Unit_crowd_27 (by decide) ?_
  refine g_lstore d_Unit_crowd_28 (by decide) ?_
  show Go _ _ _ _ _ _ [(0, _), (1, _), (2, _), (3, _), (4, _), (5, _), (6, _)] _
  refine g_iconst 0 d_Unit_crowd_30 (by decide) ?_
  refine g_istore d_Unit_crowd_31 (by decide) ?_
  show Go _ _ _ _ _ _ [(0, _), (1, _), (2, _), (3, _), (4, _), (5, _), (6, _), (8, _)] _
  refine g_iconst 0 d_Unit_crowd_33 (by decide) ?_
  refine g_istore d_Unit_crowd_34 (by decide) ?_
  show Go _ _ _ _ _ _ [(0, _), (1, _), (2, _), (3, _), (4, _), (5, _), (6, _), (8, _), (9, _)] _
  have key := e_Unit_crowd_36 hw (G := G) (h0 := h0)  F _ _ _ _ _ _ _ _ _ _ hf
  exact key
def f_Unit_crowd (F : Nat) (x0 : Nat) (x1 : Option Nat) (x2 : Int32) (x3 : Int32) (x4 : Int32) (h : Hp) : Option (Int32 × Hp) := gd (hK h x0 = 7) <| rq h (hR h 385 x0) 100 fun a_1_2 => clv (f_Arrays_fill F (some a_1_2) (0 : Int32) h) fun h_5 => rq h_5 x1 9 fun a_9 => rq h_5 (hR h_5 520 a_9) 10 fun a_9_2 => if (hI h_5 576 a_9_2) < (58 : Int32) then (b_Unit_crowd_25 F x0 a_9 x2 x3 x4 (0 : Int32) h_5) else (b_Unit_crowd_25 F x0 a_9 x2 x3 x4 (1 : Int32) h_5)
set_option maxRecDepth 100000 in
set_option maxHeartbeats 4000000 in
theorem e_Unit_crowd {G : Gl} (hw : gF G) {F : Nat} {r : Int32} {h' : Hp} {x0 : Nat} {x1 : Option Nat} {x2 : Int32} {x3 : Int32} {x4 : Int32} {h : Hp} (hf : f_Unit_crowd F x0 x1 x2 x3 x4 h = some (r, h')) : Ex G mi_Unit_crowd [.ref x0, va_rf x1, .int x2, .int x3, .int x4] h (pI r h') := by
  unfold f_Unit_crowd at hf
  refine Ex.of nmI (by decide) (by cases x1 <;> exact Nat.le_of_ble_eq_true rfl) ?_
  rw [show lv_args 0 [.ref x0, va_rf x1, .int x2, .int x3, .int x4] = [(0, .ref x0), (1, va_rf x1), (2, .int x2), (3, .int x3), (4, .int x4)] from by cases x1 <;> rfl]
  show Go G mi_Unit_crowd h _ h 0 [(0, .ref x0), (1, va_rf x1), (2, .int x2), (3, .int x3), (4, .int x4)] []
  refine g_aload_n d_Unit_crowd_0 rfl ?_
  obtain ⟨k_1, hf⟩ := gd_s hf
  obtain ⟨a_1_2, e_1_2, k_1_2, hf⟩ := rq_s hf
  refine fgs_Unit_load lf_Unit_17 d_Unit_crowd_1 k_1 e_1_2 ?_
  refine g_iconst 0 d_Unit_crowd_4 (by decide) ?_
  obtain ⟨h_5, e_5, hf⟩ := clv_s hf
  refine g_callS (mz := mi_Arrays_fill) (e_Arrays_fill hw e_5) cw_Unit_crowd_Arrays_fill lm_Unit_91 wS_Arrays_fill d_Unit_crowd_5 rfl rfl (by first | exact Nat.le_of_ble_eq_true rfl | simp [cat_rf, Value.category]) (fun r1 h1 hp hro => ?_)
  obtain ⟨rfl, rfl⟩ := hp
  dsimp only [Option.toList_some, Option.toList_none, List.cons_append, List.nil_append]
  refine g_aload_nq (r := x1) d_Unit_crowd_8 rfl ?_
  obtain ⟨a_9, rfl, k_9, hf⟩ := rq_s hf
  obtain ⟨a_9_2, e_9_2, k_9_2, hf⟩ := rq_s hf
  refine fgs_Warp_word lf_Unit_78 d_Unit_crowd_9 k_9 e_9_2 ?_
  refine fg_Word_op lf_Unit_97 d_Unit_crowd_12 k_9_2 ?_
  refine g_bipush (58) d_Unit_crowd_15 (by decide) ?_
  refine g_icmp_lt 24 d_Unit_crowd_17 (by decide) (fun c_17 => ?_) (fun c_17 => ?_)
  · have hf := ifp hf c_17
    refine g_iconst 0 d_Unit_crowd_24 (by decide) ?_
    have key := e_Unit_crowd_25 hw (G := G) (h0 := h)  hf
    exact key
  · have hf := ifn hf c_17
    refine g_iconst 1 d_Unit_crowd_20 (by decide) ?_
    refine g_goto 25 d_Unit_crowd_21 (by decide) ?_
    have key := e_Unit_crowd_25 hw (G := G) (h0 := h)  hf
    exact key
abbrev mi_Memory_lanesOf : MI := (⟨"WarpMill$Memory", "lanesOf", "(LWarpMill$Warp;II)I"⟩, prog_5_method_5_code, 5, some .int, 1, 21)
def it_Memory_lanesOf_0 : List (Nat × ClassFile.Instr × Nat) := [(0, .iconst 0, 1), (1, .istore_n 3, 1), (2, .iconst 0, 1), (3, .istore 4, 2), (5, .iload 4, 2), (7, .aload_n 0, 1), (8, .getfield 33, 3), (11, .if_icmp .ge (38), 3), (14, .iload_n 1, 1), (15, .iload 4, 2), (17, .invokestatic 38, 3), (20, .ifCond .eq (23), 3), (23, .aload_n 0, 1), (24, .getfield 42, 3), (27, .iload 4, 2), (29, .iaload, 1), (30, .iconst 3, 1), (31, .ishr, 1), (32, .iload_n 2, 1), (33, .if_icmp .ne (10), 3), (36, .iload_n 3, 1), (37, .iconst 1, 1), (38, .iload 4, 2), (40, .ishl, 1)]
theorem id_Memory_lanesOf_0 : ∀ q ∈ it_Memory_lanesOf_0, decode prog_5_method_5_code q.1 = .ok q.2 := by decide +kernel
theorem d_Memory_lanesOf_0 : decode prog_5_method_5_code 0 = .ok (.iconst 0, 1) := id_Memory_lanesOf_0 (0, .iconst 0, 1) (List.mem_of_getElem? (i := 0) rfl)
theorem d_Memory_lanesOf_1 : decode prog_5_method_5_code 1 = .ok (.istore_n 3, 1) := id_Memory_lanesOf_0 (1, .istore_n 3, 1) (List.mem_of_getElem? (i := 1) rfl)
theorem d_Memory_lanesOf_2 : decode prog_5_method_5_code 2 = .ok (.iconst 0, 1) := id_Memory_lanesOf_0 (2, .iconst 0, 1) (List.mem_of_getElem? (i := 2) rfl)
theorem d_Memory_lanesOf_3 : decode prog_5_method_5_code 3 = .ok (.istore 4, 2) := id_Memory_lanesOf_0 (3, .istore 4, 2) (List.mem_of_getElem? (i := 3) rfl)
theorem d_Memory_lanesOf_5 : decode prog_5_method_5_code 5 = .ok (.iload 4, 2) := id_Memory_lanesOf_0 (5, .iload 4, 2) (List.mem_of_getElem? (i := 4) rfl)
theorem d_Memory_lanesOf_7 : decode prog_5_method_5_code 7 = .ok (.aload_n 0, 1) := id_Memory_lanesOf_0 (7, .aload_n 0, 1) (List.mem_of_getElem? (i := 5) rfl)
theorem d_Memory_lanesOf_8 : decode prog_5_method_5_code 8 = .ok (.getfield 33, 3) := id_Memory_lanesOf_0 (8, .getfield 33, 3) (List.mem_of_getElem? (i := 6) rfl)
theorem d_Memory_lanesOf_11 : decode prog_5_method_5_code 11 = .ok (.if_icmp .ge (38), 3) := id_Memory_lanesOf_0 (11, .if_icmp .ge (38), 3) (List.mem_of_getElem? (i := 7) rfl)
theorem d_Memory_lanesOf_14 : decode prog_5_method_5_code 14 = .ok (.iload_n 1, 1) := id_Memory_lanesOf_0 (14, .iload_n 1, 1) (List.mem_of_getElem? (i := 8) rfl)
theorem d_Memory_lanesOf_15 : decode prog_5_method_5_code 15 = .ok (.iload 4, 2) := id_Memory_lanesOf_0 (15, .iload 4, 2) (List.mem_of_getElem? (i := 9) rfl)
theorem d_Memory_lanesOf_17 : decode prog_5_method_5_code 17 = .ok (.invokestatic 38, 3) := id_Memory_lanesOf_0 (17, .invokestatic 38, 3) (List.mem_of_getElem? (i := 10) rfl)
theorem d_Memory_lanesOf_20 : decode prog_5_method_5_code 20 = .ok (.ifCond .eq (23), 3) := id_Memory_lanesOf_0 (20, .ifCond .eq (23), 3) (List.mem_of_getElem? (i := 11) rfl)
theorem d_Memory_lanesOf_23 : decode prog_5_method_5_code 23 = .ok (.aload_n 0, 1) := id_Memory_lanesOf_0 (23, .aload_n 0, 1) (List.mem_of_getElem? (i := 12) rfl)
theorem d_Memory_lanesOf_24 : decode prog_5_method_5_code 24 = .ok (.getfield 42, 3) := id_Memory_lanesOf_0 (24, .getfield 42, 3) (List.mem_of_getElem? (i := 13) rfl)
theorem d_Memory_lanesOf_27 : decode prog_5_method_5_code 27 = .ok (.iload 4, 2) := id_Memory_lanesOf_0 (27, .iload 4, 2) (List.mem_of_getElem? (i := 14) rfl)
theorem d_Memory_lanesOf_29 : decode prog_5_method_5_code 29 = .ok (.iaload, 1) := id_Memory_lanesOf_0 (29, .iaload, 1) (List.mem_of_getElem? (i := 15) rfl)
theorem d_Memory_lanesOf_30 : decode prog_5_method_5_code 30 = .ok (.iconst 3, 1) := id_Memory_lanesOf_0 (30, .iconst 3, 1) (List.mem_of_getElem? (i := 16) rfl)
theorem d_Memory_lanesOf_31 : decode prog_5_method_5_code 31 = .ok (.ishr, 1) := id_Memory_lanesOf_0 (31, .ishr, 1) (List.mem_of_getElem? (i := 17) rfl)
theorem d_Memory_lanesOf_32 : decode prog_5_method_5_code 32 = .ok (.iload_n 2, 1) := id_Memory_lanesOf_0 (32, .iload_n 2, 1) (List.mem_of_getElem? (i := 18) rfl)
theorem d_Memory_lanesOf_33 : decode prog_5_method_5_code 33 = .ok (.if_icmp .ne (10), 3) := id_Memory_lanesOf_0 (33, .if_icmp .ne (10), 3) (List.mem_of_getElem? (i := 19) rfl)
theorem d_Memory_lanesOf_36 : decode prog_5_method_5_code 36 = .ok (.iload_n 3, 1) := id_Memory_lanesOf_0 (36, .iload_n 3, 1) (List.mem_of_getElem? (i := 20) rfl)
theorem d_Memory_lanesOf_37 : decode prog_5_method_5_code 37 = .ok (.iconst 1, 1) := id_Memory_lanesOf_0 (37, .iconst 1, 1) (List.mem_of_getElem? (i := 21) rfl)
theorem d_Memory_lanesOf_38 : decode prog_5_method_5_code 38 = .ok (.iload 4, 2) := id_Memory_lanesOf_0 (38, .iload 4, 2) (List.mem_of_getElem? (i := 22) rfl)
theorem d_Memory_lanesOf_40 : decode prog_5_method_5_code 40 = .ok (.ishl, 1) := id_Memory_lanesOf_0 (40, .ishl, 1) (List.mem_of_getElem? (i := 23) rfl)
def it_Memory_lanesOf_1 : List (Nat × ClassFile.Instr × Nat) := [(41, .ior, 1), (42, .istore_n 3, 1), (43, .iinc 4 (1), 3), (46, .goto (-41), 3), (49, .iload_n 3, 1), (50, .ireturn, 1)]
theorem id_Memory_lanesOf_1 : ∀ q ∈ it_Memory_lanesOf_1, decode prog_5_method_5_code q.1 = .ok q.2 := by decide +kernel
theorem d_Memory_lanesOf_41 : decode prog_5_method_5_code 41 = .ok (.ior, 1) := id_Memory_lanesOf_1 (41, .ior, 1) (List.mem_of_getElem? (i := 0) rfl)
theorem d_Memory_lanesOf_42 : decode prog_5_method_5_code 42 = .ok (.istore_n 3, 1) := id_Memory_lanesOf_1 (42, .istore_n 3, 1) (List.mem_of_getElem? (i := 1) rfl)
theorem d_Memory_lanesOf_43 : decode prog_5_method_5_code 43 = .ok (.iinc 4 (1), 3) := id_Memory_lanesOf_1 (43, .iinc 4 (1), 3) (List.mem_of_getElem? (i := 2) rfl)
theorem d_Memory_lanesOf_46 : decode prog_5_method_5_code 46 = .ok (.goto (-41), 3) := id_Memory_lanesOf_1 (46, .goto (-41), 3) (List.mem_of_getElem? (i := 3) rfl)
theorem d_Memory_lanesOf_49 : decode prog_5_method_5_code 49 = .ok (.iload_n 3, 1) := id_Memory_lanesOf_1 (49, .iload_n 3, 1) (List.mem_of_getElem? (i := 4) rfl)
theorem d_Memory_lanesOf_50 : decode prog_5_method_5_code 50 = .ok (.ireturn, 1) := id_Memory_lanesOf_1 (50, .ireturn, 1) (List.mem_of_getElem? (i := 5) rfl)
theorem wC_Memory_lanesOf : Cond.code ⟨"WarpMill$Memory", "lanesOf", "(LWarpMill$Warp;II)I"⟩ prog_5_method_5_code 5 (some .int) ∈ lw_tb := mem_tb 893 (by decide +kernel) rfl
theorem cw_Memory_lanesOf_WM_in : cW mi_Memory_lanesOf mi_WM_in 2 := ⟨wC_WM_in, wi_WM, ⟨by decide, by decide, by decide +kernel⟩, by decide, by decide⟩
def b_Memory_lanesOf_5 (F : Nat) : Nat → Option Nat → Int32 → Int32 → Int32 → Int32 → Hp → Option (Int32 × Hp)
  | 0 => fun _ _ _ _ _ _ => none
  | n + 1 => fun x0 x1 x2 x3 x4 h => rq h x0 9 fun a_8 => if (hI h 514 a_8) ≤ x4 then (some (x3, h)) else (cl (f_WM_in F x1 x4 h) fun v_17 h_17 => if v_17 = 0 then (b_Memory_lanesOf_5 F n (some a_8) x1 x2 x3 (x4 + 1) h_17) else (gd (hK h_17 a_8 = 9) <| rq h_17 (hR h_17 525 a_8) 100 fun a_24_2 => ix x4 (hN h_17 a_24_2) fun j_29 => if ((hA h_17 a_24_2 j_29) >>> ((3 : Int32) &&& 31)) = x2 then (b_Memory_lanesOf_5 F n (some a_8) x1 x2 (x3 ||| ((1 : Int32) <<< (x4 &&& 31))) (x4 + 1) h_17) else (b_Memory_lanesOf_5 F n (some a_8) x1 x2 x3 (x4 + 1) h_17)))
set_option maxRecDepth 100000 in
set_option maxHeartbeats 4000000 in
theorem e_Memory_lanesOf_5 {G : Gl} {h0 : Hp} {F : Nat} {r : Int32} {h' : Hp}   : ∀ (n : Nat) (x0 : Option Nat) (x1 : Int32) (x2 : Int32) (x3 : Int32) (x4 : Int32) (h : Hp), b_Memory_lanesOf_5 F n x0 x1 x2 x3 x4 h = some (r, h') → Go G mi_Memory_lanesOf h0 (pI r h') h 5 [(0, va_rf x0), (1, .int x1), (2, .int x2), (3, .int x3), (4, .int x4)] [] := by
  intro n
  induction n with
  | zero =>
    intro _ _ _ _ _ _ hf
    exact nm_s hf
  | succ n ih =>
    intro x0 x1 x2 x3 x4 h hf
    unfold b_Memory_lanesOf_5 at hf
    refine g_iload d_Memory_lanesOf_5 rfl ?_
    refine g_aload_nq (r := x0) d_Memory_lanesOf_7 rfl ?_
    obtain ⟨a_8, rfl, k_8, hf⟩ := rq_s hf
    refine fg_Warp_lanes lf_Memory_33 d_Memory_lanesOf_8 k_8 ?_
    refine g_icmp_ge 49 d_Memory_lanesOf_11 (by decide) (fun c_11 => ?_) (fun c_11 => ?_)
    · have hf := ifp hf c_11
      refine g_iload_n d_Memory_lanesOf_49 rfl ?_
      exact Go.ret (some _) (rOk_i _) rfl d_Memory_lanesOf_50 (pI_of hf)
    · have hf := ifn hf c_11
      refine g_iload_n d_Memory_lanesOf_14 rfl ?_
      refine g_iload d_Memory_lanesOf_15 rfl ?_
      obtain ⟨v_17, h_17, e_17, hf⟩ := cl_s hf
      refine g_callSN (mz := mi_WM_in) (e_WM_in e_17) cw_Memory_lanesOf_WM_in (host := "WarpMill") (by decide +kernel) wS_WM_in d_Memory_lanesOf_17 rfl rfl (by first | exact Nat.le_of_ble_eq_true rfl | simp [cat_rf, Value.category]) (fun r1 h1 hp hro => ?_)
      obtain ⟨rfl, rfl⟩ := hp
      dsimp only [Option.toList_some, Option.toList_none, List.cons_append, List.nil_append]
      refine g_if_eq 43 d_Memory_lanesOf_20 (by decide) (fun c_20 => ?_) (fun c_20 => ?_)
      · have hf := ifp hf c_20
        refine g_iinc (_ + 1) d_Memory_lanesOf_43 rfl (by rfl) (by decide) ?_
        show Go _ _ _ _ _ _ [(0, _), (1, _), (2, _), (3, _), (4, _)] _
        refine g_goto 5 d_Memory_lanesOf_46 (by decide) ?_
        exact ih _ _ _ _ _ _ hf
      · have hf := ifn hf c_20
        refine g_aload_n d_Memory_lanesOf_23 rfl ?_
        obtain ⟨k_24, hf⟩ := gd_s hf
        obtain ⟨a_24_2, e_24_2, k_24_2, hf⟩ := rq_s hf
        refine fgs_Warp_row lf_Memory_42 d_Memory_lanesOf_24 k_24 e_24_2 ?_
        refine g_iload d_Memory_lanesOf_27 rfl ?_
        obtain ⟨i_29, hf⟩ := ix_s hf
        refine g_iald k_24_2 i_29 d_Memory_lanesOf_29 ?_
        refine g_iconst 3 d_Memory_lanesOf_30 (by decide) ?_
        refine g_ishr d_Memory_lanesOf_31 ?_
        refine g_iload_n d_Memory_lanesOf_32 rfl ?_
        refine g_icmp_ne 43 d_Memory_lanesOf_33 (by decide) (fun c_33 => ?_) (fun c_33 => ?_)
        · have hf := ifn hf c_33
          refine g_iinc (_ + 1) d_Memory_lanesOf_43 rfl (by rfl) (by decide) ?_
          show Go _ _ _ _ _ _ [(0, _), (1, _), (2, _), (3, _), (4, _)] _
          refine g_goto 5 d_Memory_lanesOf_46 (by decide) ?_
          exact ih _ _ _ _ _ _ hf
        · have hf := ifp hf c_33
          refine g_iload_n d_Memory_lanesOf_36 rfl ?_
          refine g_iconst 1 d_Memory_lanesOf_37 (by decide) ?_
          refine g_iload d_Memory_lanesOf_38 rfl ?_
          refine g_ishl d_Memory_lanesOf_40 ?_
          refine g_ior d_Memory_lanesOf_41 ?_
          refine g_istore_n d_Memory_lanesOf_42 (by decide) ?_
          show Go _ _ _ _ _ _ [(0, _), (1, _), (2, _), (3, _), (4, _)] _
          refine g_iinc (_ + 1) d_Memory_lanesOf_43 rfl (by rfl) (by decide) ?_
          show Go _ _ _ _ _ _ [(0, _), (1, _), (2, _), (3, _), (4, _)] _
          refine g_goto 5 d_Memory_lanesOf_46 (by decide) ?_
          exact ih _ _ _ _ _ _ hf
def f_Memory_lanesOf (F : Nat) (x0 : Option Nat) (x1 : Int32) (x2 : Int32) (h : Hp) : Option (Int32 × Hp) := b_Memory_lanesOf_5 F F x0 x1 x2 (0 : Int32) (0 : Int32) h
set_option maxRecDepth 100000 in
set_option maxHeartbeats 4000000 in
theorem e_Memory_lanesOf {G : Gl} {F : Nat} {r : Int32} {h' : Hp} {x0 : Option Nat} {x1 : Int32} {x2 : Int32} {h : Hp} (hf : f_Memory_lanesOf F x0 x1 x2 h = some (r, h')) : Ex G mi_Memory_lanesOf [va_rf x0, .int x1, .int x2] h (pI r h') := by
  unfold f_Memory_lanesOf at hf
  refine Ex.of nmI (by decide) (by cases x0 <;> exact Nat.le_of_ble_eq_true rfl) ?_
  rw [show lv_args 0 [va_rf x0, .int x1, .int x2] = [(0, va_rf x0), (1, .int x1), (2, .int x2)] from by cases x0 <;> rfl]
  show Go G mi_Memory_lanesOf h _ h 0 [(0, va_rf x0), (1, .int x1), (2, .int x2)] []
  refine g_iconst 0 d_Memory_lanesOf_0 (by decide) ?_
  refine g_istore_n d_Memory_lanesOf_1 (by decide) ?_
  show Go _ _ _ _ _ _ [(0, _), (1, _), (2, _), (3, _)] _
  refine g_iconst 0 d_Memory_lanesOf_2 (by decide) ?_
  refine g_istore d_Memory_lanesOf_3 (by decide) ?_
  show Go _ _ _ _ _ _ [(0, _), (1, _), (2, _), (3, _), (4, _)] _
  have key := e_Memory_lanesOf_5 (G := G) (h0 := h)  F _ _ _ _ _ _ hf
  exact key
