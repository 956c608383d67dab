abbrev mi_Pending_forget : MI := (⟨"WarpMill$Pending", "forget", "()V"⟩, prog_6_method_5_code, 2, none, 0, 0)
def it_Pending_forget_0 : List (Nat × ClassFile.Instr × Nat) := [(0, .iconst 0, 1), (1, .istore_n 1, 1), (2, .iload_n 1, 1), (3, .bipush (64), 2), (5, .if_icmp .ge (55), 3), (8, .aload_n 0, 1), (9, .getfield 15, 3), (12, .iload_n 1, 1), (13, .aaload, 1), (14, .ifnull (40), 3), (17, .aload_n 0, 1), (18, .getfield 15, 3), (21, .iload_n 1, 1), (22, .aaload, 1), (23, .aload_n 0, 1), (24, .getfield 18, 3), (27, .putfield 23, 3), (30, .aload_n 0, 1), (31, .aload_n 0, 1), (32, .getfield 11, 3), (35, .iload_n 1, 1), (36, .aaload, 1), (37, .putfield 18, 3), (40, .aload_n 0, 1)]
theorem id_Pending_forget_0 : ∀ q ∈ it_Pending_forget_0, decode prog_6_method_5_code q.1 = .ok q.2 := by decide +kernel
theorem d_Pending_forget_0 : decode prog_6_method_5_code 0 = .ok (.iconst 0, 1) := id_Pending_forget_0 (0, .iconst 0, 1) (List.mem_of_getElem? (i := 0) rfl)
theorem d_Pending_forget_1 : decode prog_6_method_5_code 1 = .ok (.istore_n 1, 1) := id_Pending_forget_0 (1, .istore_n 1, 1) (List.mem_of_getElem? (i := 1) rfl)
theorem d_Pending_forget_2 : decode prog_6_method_5_code 2 = .ok (.iload_n 1, 1) := id_Pending_forget_0 (2, .iload_n 1, 1) (List.mem_of_getElem? (i := 2) rfl)
theorem d_Pending_forget_3 : decode prog_6_method_5_code 3 = .ok (.bipush (64), 2) := id_Pending_forget_0 (3, .bipush (64), 2) (List.mem_of_getElem? (i := 3) rfl)
theorem d_Pending_forget_5 : decode prog_6_method_5_code 5 = .ok (.if_icmp .ge (55), 3) := id_Pending_forget_0 (5, .if_icmp .ge (55), 3) (List.mem_of_getElem? (i := 4) rfl)
theorem d_Pending_forget_8 : decode prog_6_method_5_code 8 = .ok (.aload_n 0, 1) := id_Pending_forget_0 (8, .aload_n 0, 1) (List.mem_of_getElem? (i := 5) rfl)
theorem d_Pending_forget_9 : decode prog_6_method_5_code 9 = .ok (.getfield 15, 3) := id_Pending_forget_0 (9, .getfield 15, 3) (List.mem_of_getElem? (i := 6) rfl)
theorem d_Pending_forget_12 : decode prog_6_method_5_code 12 = .ok (.iload_n 1, 1) := id_Pending_forget_0 (12, .iload_n 1, 1) (List.mem_of_getElem? (i := 7) rfl)
theorem d_Pending_forget_13 : decode prog_6_method_5_code 13 = .ok (.aaload, 1) := id_Pending_forget_0 (13, .aaload, 1) (List.mem_of_getElem? (i := 8) rfl)
theorem d_Pending_forget_14 : decode prog_6_method_5_code 14 = .ok (.ifnull (40), 3) := id_Pending_forget_0 (14, .ifnull (40), 3) (List.mem_of_getElem? (i := 9) rfl)
theorem d_Pending_forget_17 : decode prog_6_method_5_code 17 = .ok (.aload_n 0, 1) := id_Pending_forget_0 (17, .aload_n 0, 1) (List.mem_of_getElem? (i := 10) rfl)
theorem d_Pending_forget_18 : decode prog_6_method_5_code 18 = .ok (.getfield 15, 3) := id_Pending_forget_0 (18, .getfield 15, 3) (List.mem_of_getElem? (i := 11) rfl)
theorem d_Pending_forget_21 : decode prog_6_method_5_code 21 = .ok (.iload_n 1, 1) := id_Pending_forget_0 (21, .iload_n 1, 1) (List.mem_of_getElem? (i := 12) rfl)
theorem d_Pending_forget_22 : decode prog_6_method_5_code 22 = .ok (.aaload, 1) := id_Pending_forget_0 (22, .aaload, 1) (List.mem_of_getElem? (i := 13) rfl)
theorem d_Pending_forget_23 : decode prog_6_method_5_code 23 = .ok (.aload_n 0, 1) := id_Pending_forget_0 (23, .aload_n 0, 1) (List.mem_of_getElem? (i := 14) rfl)
theorem d_Pending_forget_24 : decode prog_6_method_5_code 24 = .ok (.getfield 18, 3) := id_Pending_forget_0 (24, .getfield 18, 3) (List.mem_of_getElem? (i := 15) rfl)
theorem d_Pending_forget_27 : decode prog_6_method_5_code 27 = .ok (.putfield 23, 3) := id_Pending_forget_0 (27, .putfield 23, 3) (List.mem_of_getElem? (i := 16) rfl)
theorem d_Pending_forget_30 : decode prog_6_method_5_code 30 = .ok (.aload_n 0, 1) := id_Pending_forget_0 (30, .aload_n 0, 1) (List.mem_of_getElem? (i := 17) rfl)
theorem d_Pending_forget_31 : decode prog_6_method_5_code 31 = .ok (.aload_n 0, 1) := id_Pending_forget_0 (31, .aload_n 0, 1) (List.mem_of_getElem? (i := 18) rfl)
theorem d_Pending_forget_32 : decode prog_6_method_5_code 32 = .ok (.getfield 11, 3) := id_Pending_forget_0 (32, .getfield 11, 3) (List.mem_of_getElem? (i := 19) rfl)
theorem d_Pending_forget_35 : decode prog_6_method_5_code 35 = .ok (.iload_n 1, 1) := id_Pending_forget_0 (35, .iload_n 1, 1) (List.mem_of_getElem? (i := 20) rfl)
theorem d_Pending_forget_36 : decode prog_6_method_5_code 36 = .ok (.aaload, 1) := id_Pending_forget_0 (36, .aaload, 1) (List.mem_of_getElem? (i := 21) rfl)
theorem d_Pending_forget_37 : decode prog_6_method_5_code 37 = .ok (.putfield 18, 3) := id_Pending_forget_0 (37, .putfield 18, 3) (List.mem_of_getElem? (i := 22) rfl)
theorem d_Pending_forget_40 : decode prog_6_method_5_code 40 = .ok (.aload_n 0, 1) := id_Pending_forget_0 (40, .aload_n 0, 1) (List.mem_of_getElem? (i := 23) rfl)
def it_Pending_forget_1 : List (Nat × ClassFile.Instr × Nat) := [(41, .getfield 11, 3), (44, .iload_n 1, 1), (45, .aconst_null, 1), (46, .aastore, 1), (47, .aload_n 0, 1), (48, .getfield 15, 3), (51, .iload_n 1, 1), (52, .aconst_null, 1), (53, .aastore, 1), (54, .iinc 1 (1), 3), (57, .goto (-55), 3), (60, .aload_n 0, 1), (61, .iconst 0, 1), (62, .putfield 30, 3), (65, .return_, 1)]
theorem id_Pending_forget_1 : ∀ q ∈ it_Pending_forget_1, decode prog_6_method_5_code q.1 = .ok q.2 := by decide +kernel
theorem d_Pending_forget_41 : decode prog_6_method_5_code 41 = .ok (.getfield 11, 3) := id_Pending_forget_1 (41, .getfield 11, 3) (List.mem_of_getElem? (i := 0) rfl)
theorem d_Pending_forget_44 : decode prog_6_method_5_code 44 = .ok (.iload_n 1, 1) := id_Pending_forget_1 (44, .iload_n 1, 1) (List.mem_of_getElem? (i := 1) rfl)
theorem d_Pending_forget_45 : decode prog_6_method_5_code 45 = .ok (.aconst_null, 1) := id_Pending_forget_1 (45, .aconst_null, 1) (List.mem_of_getElem? (i := 2) rfl)
theorem d_Pending_forget_46 : decode prog_6_method_5_code 46 = .ok (.aastore, 1) := id_Pending_forget_1 (46, .aastore, 1) (List.mem_of_getElem? (i := 3) rfl)
theorem d_Pending_forget_47 : decode prog_6_method_5_code 47 = .ok (.aload_n 0, 1) := id_Pending_forget_1 (47, .aload_n 0, 1) (List.mem_of_getElem? (i := 4) rfl)
theorem d_Pending_forget_48 : decode prog_6_method_5_code 48 = .ok (.getfield 15, 3) := id_Pending_forget_1 (48, .getfield 15, 3) (List.mem_of_getElem? (i := 5) rfl)
theorem d_Pending_forget_51 : decode prog_6_method_5_code 51 = .ok (.iload_n 1, 1) := id_Pending_forget_1 (51, .iload_n 1, 1) (List.mem_of_getElem? (i := 6) rfl)
theorem d_Pending_forget_52 : decode prog_6_method_5_code 52 = .ok (.aconst_null, 1) := id_Pending_forget_1 (52, .aconst_null, 1) (List.mem_of_getElem? (i := 7) rfl)
theorem d_Pending_forget_53 : decode prog_6_method_5_code 53 = .ok (.aastore, 1) := id_Pending_forget_1 (53, .aastore, 1) (List.mem_of_getElem? (i := 8) rfl)
theorem d_Pending_forget_54 : decode prog_6_method_5_code 54 = .ok (.iinc 1 (1), 3) := id_Pending_forget_1 (54, .iinc 1 (1), 3) (List.mem_of_getElem? (i := 9) rfl)
theorem d_Pending_forget_57 : decode prog_6_method_5_code 57 = .ok (.goto (-55), 3) := id_Pending_forget_1 (57, .goto (-55), 3) (List.mem_of_getElem? (i := 10) rfl)
theorem d_Pending_forget_60 : decode prog_6_method_5_code 60 = .ok (.aload_n 0, 1) := id_Pending_forget_1 (60, .aload_n 0, 1) (List.mem_of_getElem? (i := 11) rfl)
theorem d_Pending_forget_61 : decode prog_6_method_5_code 61 = .ok (.iconst 0, 1) := id_Pending_forget_1 (61, .iconst 0, 1) (List.mem_of_getElem? (i := 12) rfl)
theorem d_Pending_forget_62 : decode prog_6_method_5_code 62 = .ok (.putfield 30, 3) := id_Pending_forget_1 (62, .putfield 30, 3) (List.mem_of_getElem? (i := 13) rfl)
theorem d_Pending_forget_65 : decode prog_6_method_5_code 65 = .ok (.return_, 1) := id_Pending_forget_1 (65, .return_, 1) (List.mem_of_getElem? (i := 14) rfl)
theorem wC_Pending_forget : Cond.code ⟨"WarpMill$Pending", "forget", "()V"⟩ prog_6_method_5_code 2 (none) ∈ lw_tb := mem_tb 489 (by decide +kernel) rfl
def b_Pending_forget_2 (F : Nat) : Nat → Nat → Int32 → Hp → Option Hp
  | 0 => fun _ _ _ => none
  | n + 1 => fun x0 x1 h => if (64 : Int32) ≤ x1 then (gd (hK h x0 = 5) <| pw (sI h 259 x0 (0 : Int32)) fun h_62_2 => some h_62_2) else (gd (hK h x0 = 5) <| rq h (hR h 257 x0) 124 fun a_9_2 => ix x1 (hN h a_9_2) fun j_13 => pw (hQ h a_9_2 j_13) fun o_13_2 => nu o_13_2 (b_Pending_forget_2 F n x0 (x1 + 1) h) fun a_14 => (ix x1 (hN h a_9_2) fun j_22 => rq h (hQ h a_9_2 j_22) 11 fun a_22_2 => pw (hR h 258 x0) fun o_24 => pw (sR h 640 a_22_2 o_24) fun h_27 => rq h_27 (hR h_27 256 x0) 124 fun a_32 => ix x1 (hN h_27 a_32) fun j_36 => pw (hQ h_27 a_32 j_36) fun o_36_2 => pw (sR h_27 258 x0 o_36_2) fun h_37 => rq h_37 (hR h_37 256 x0) 124 fun a_41 => ix x1 (hN h_37 a_41) fun j_46 => pw (sQ h_37 a_41 j_46 none) fun h_46_2 => rq h_46_2 (hR h_46_2 257 x0) 124 fun a_48 => ix x1 (hN h_46_2 a_48) fun j_53 => pw (sQ h_46_2 a_48 j_53 none) fun h_53_2 => b_Pending_forget_2 F n x0 (x1 + 1) h_53_2))
set_option maxRecDepth 100000 in
set_option maxHeartbeats 4000000 in
theorem e_Pending_forget_2 {G : Gl} (hw : gF G) {h0 : Hp} {F : Nat} {h' : Hp}   : ∀ (n : Nat) (x0 : Nat) (x1 : Int32) (h : Hp), b_Pending_forget_2 F n x0 x1 h = some h' → Go G mi_Pending_forget h0 (pV h') h 2 [(0, .ref x0), (1, .int x1)] [] := by
  intro n
  induction n with
  | zero =>
    intro _ _ _ hf
    exact nm_s hf
  | succ n ih =>
    intro x0 x1 h hf
    unfold b_Pending_forget_2 at hf
    refine g_iload_n d_Pending_forget_2 rfl ?_
    refine g_bipush (64) d_Pending_forget_3 (by decide) ?_
    refine g_icmp_ge 60 d_Pending_forget_5 (by decide) (fun c_5 => ?_) (fun c_5 => ?_)
    · have hf := ifp hf c_5
      refine g_aload_n d_Pending_forget_60 rfl ?_
      refine g_iconst 0 d_Pending_forget_61 (by decide) ?_
      obtain ⟨k_62, hf⟩ := gd_s hf
      refine fp_Pending_count hw lf_Pending_30 d_Pending_forget_62 k_62 ?_
      have hf := pw_b hf
      exact Go.ret none trivial rfl d_Pending_forget_65 (pV_of hf)
    · have hf := ifn hf c_5
      refine g_aload_n d_Pending_forget_8 rfl ?_
      obtain ⟨k_9, hf⟩ := gd_s hf
      obtain ⟨a_9_2, e_9_2, k_9_2, hf⟩ := rq_s hf
      refine fgs_Pending_last lf_Pending_15 d_Pending_forget_9 k_9 e_9_2 ?_
      refine g_iload_n d_Pending_forget_12 rfl ?_
      obtain ⟨i_13, hf⟩ := ix_s hf
      refine g_aald k_9_2 (by decide) rfl rfl i_13 d_Pending_forget_13 ?_
      obtain ⟨o_13_2, e_13_2, hf⟩ := pw_s hf
      refine Go.vr e_13_2 ?_
      refine g_ifnull (r := o_13_2) 54 d_Pending_forget_14 (by decide) (fun c_14 => ?_) (fun a_14 c_14 => ?_)
      · subst c_14
        have hf := nu_n hf
        refine g_iinc (_ + 1) d_Pending_forget_54 rfl (by rfl) (by decide) ?_
        show Go _ _ _ _ _ _ [(0, _), (1, _)] _
        refine g_goto 2 d_Pending_forget_57 (by decide) ?_
        exact ih _ _ _ hf
      · subst c_14
        have hf := nu_s hf
        refine g_aload_n d_Pending_forget_17 rfl ?_
        refine fgs_Pending_last lf_Pending_15 d_Pending_forget_18 k_9 e_9_2 ?_
        refine g_iload_n d_Pending_forget_21 rfl ?_
        obtain ⟨i_22, hf⟩ := ix_s hf
        refine g_aald k_9_2 (by decide) rfl rfl i_22 d_Pending_forget_22 ?_
        obtain ⟨a_22_2, e_22_2, k_22_2, hf⟩ := rq_s hf
        refine Go.vs e_22_2 ?_
        refine g_aload_n d_Pending_forget_23 rfl ?_
        obtain ⟨o_24, e_24, hf⟩ := pw_s hf
        refine fg_Pending_spare lf_Pending_18 d_Pending_forget_24 k_9 ?_
        refine Go.vr e_24 ?_
        refine fp_Ask_next hw o_24 rfl lf_Pending_23 d_Pending_forget_27 k_22_2 ?_
        have hf := pw_b hf
        refine g_aload_n d_Pending_forget_30 rfl ?_
        refine g_aload_n d_Pending_forget_31 rfl ?_
        obtain ⟨a_32, e_32, k_32, hf⟩ := rq_s hf
        refine fgs_Pending_first lf_Pending_11 d_Pending_forget_32 (kksR k_9) e_32 ?_
        refine g_iload_n d_Pending_forget_35 rfl ?_
        obtain ⟨i_36, hf⟩ := ix_s hf
        refine g_aald k_32 (by decide) rfl rfl i_36 d_Pending_forget_36 ?_
        obtain ⟨o_36_2, e_36_2, hf⟩ := pw_s hf
        refine Go.vr e_36_2 ?_
        refine fp_Pending_spare hw o_36_2 rfl lf_Pending_18 d_Pending_forget_37 (kksR k_9) ?_
        have hf := pw_b hf
        refine g_aload_n d_Pending_forget_40 rfl ?_
        obtain ⟨a_41, e_41, k_41, hf⟩ := rq_s hf
        refine fgs_Pending_first lf_Pending_11 d_Pending_forget_41 (kksR (kksR k_9)) e_41 ?_
        refine g_iload_n d_Pending_forget_44 rfl ?_
        refine g_null d_Pending_forget_45 ?_
        obtain ⟨i_46, hf⟩ := ix_s hf
        refine g_aastN hw k_41 (by decide) rfl i_46 d_Pending_forget_46 ?_
        have hf := pw_b hf
        refine g_aload_n d_Pending_forget_47 rfl ?_
        obtain ⟨a_48, e_48, k_48, hf⟩ := rq_s hf
        refine fgs_Pending_last lf_Pending_15 d_Pending_forget_48 (kksQ (kksR (kksR k_9))) e_48 ?_
        refine g_iload_n d_Pending_forget_51 rfl ?_
        refine g_null d_Pending_forget_52 ?_
        obtain ⟨i_53, hf⟩ := ix_s hf
        refine g_aastN hw k_48 (by decide) rfl i_53 d_Pending_forget_53 ?_
        have hf := pw_b hf
        refine g_iinc (_ + 1) d_Pending_forget_54 rfl (by rfl) (by decide) ?_
        show Go _ _ _ _ _ _ [(0, _), (1, _)] _
        refine g_goto 2 d_Pending_forget_57 (by decide) ?_
        exact ih _ _ _ hf
def f_Pending_forget (F : Nat) (x0 : Nat) (h : Hp) : Option Hp := b_Pending_forget_2 F F x0 (0 : Int32) h
set_option maxRecDepth 100000 in
set_option maxHeartbeats 4000000 in
theorem e_Pending_forget {G : Gl} (hw : gF G) {F : Nat} {h' : Hp} {x0 : Nat} {h : Hp} (hf : f_Pending_forget F x0 h = some h') : Ex G mi_Pending_forget [.ref x0] h (pV h') := by
  unfold f_Pending_forget at hf
  refine Ex.of nmV (by decide) (Nat.le_of_ble_eq_true rfl) ?_
  show Go G mi_Pending_forget h _ h 0 [(0, .ref x0)] []
  refine g_iconst 0 d_Pending_forget_0 (by decide) ?_
  refine g_istore_n d_Pending_forget_1 (by decide) ?_
  show Go _ _ _ _ _ _ [(0, _), (1, _)] _
  have key := e_Pending_forget_2 hw (G := G) (h0 := h)  F _ _ _ hf
  exact key
abbrev mi_WM_stop : MI := (⟨"WarpMill", "stop", "()Z"⟩, prog_1_method_7_code, 1, some .boolean, 3, 67)
def it_WM_stop_0 : List (Nat × ClassFile.Instr × Nat) := [(0, .aload_n 0, 1), (1, .getfield 32, 3), (4, .invokevirtual 58, 3), (7, .ifCond .ne (5), 3), (10, .iconst 0, 1), (11, .ireturn, 1), (12, .aload_n 0, 1), (13, .invokevirtual 117, 3), (16, .aload_n 0, 1), (17, .getfield 25, 3), (20, .getfield 120, 3), (23, .invokevirtual 124, 3), (26, .aload_n 0, 1), (27, .getfield 32, 3), (30, .iconst 0, 1), (31, .putfield 114, 3), (34, .iconst 1, 1), (35, .ireturn, 1)]
theorem id_WM_stop_0 : ∀ q ∈ it_WM_stop_0, decode prog_1_method_7_code q.1 = .ok q.2 := by decide +kernel
theorem d_WM_stop_0 : decode prog_1_method_7_code 0 = .ok (.aload_n 0, 1) := id_WM_stop_0 (0, .aload_n 0, 1) (List.mem_of_getElem? (i := 0) rfl)
theorem d_WM_stop_1 : decode prog_1_method_7_code 1 = .ok (.getfield 32, 3) := id_WM_stop_0 (1, .getfield 32, 3) (List.mem_of_getElem? (i := 1) rfl)
theorem d_WM_stop_4 : decode prog_1_method_7_code 4 = .ok (.invokevirtual 58, 3) := id_WM_stop_0 (4, .invokevirtual 58, 3) (List.mem_of_getElem? (i := 2) rfl)
theorem d_WM_stop_7 : decode prog_1_method_7_code 7 = .ok (.ifCond .ne (5), 3) := id_WM_stop_0 (7, .ifCond .ne (5), 3) (List.mem_of_getElem? (i := 3) rfl)
theorem d_WM_stop_10 : decode prog_1_method_7_code 10 = .ok (.iconst 0, 1) := id_WM_stop_0 (10, .iconst 0, 1) (List.mem_of_getElem? (i := 4) rfl)
theorem d_WM_stop_11 : decode prog_1_method_7_code 11 = .ok (.ireturn, 1) := id_WM_stop_0 (11, .ireturn, 1) (List.mem_of_getElem? (i := 5) rfl)
theorem d_WM_stop_12 : decode prog_1_method_7_code 12 = .ok (.aload_n 0, 1) := id_WM_stop_0 (12, .aload_n 0, 1) (List.mem_of_getElem? (i := 6) rfl)
theorem d_WM_stop_13 : decode prog_1_method_7_code 13 = .ok (.invokevirtual 117, 3) := id_WM_stop_0 (13, .invokevirtual 117, 3) (List.mem_of_getElem? (i := 7) rfl)
theorem d_WM_stop_16 : decode prog_1_method_7_code 16 = .ok (.aload_n 0, 1) := id_WM_stop_0 (16, .aload_n 0, 1) (List.mem_of_getElem? (i := 8) rfl)
theorem d_WM_stop_17 : decode prog_1_method_7_code 17 = .ok (.getfield 25, 3) := id_WM_stop_0 (17, .getfield 25, 3) (List.mem_of_getElem? (i := 9) rfl)
theorem d_WM_stop_20 : decode prog_1_method_7_code 20 = .ok (.getfield 120, 3) := id_WM_stop_0 (20, .getfield 120, 3) (List.mem_of_getElem? (i := 10) rfl)
theorem d_WM_stop_23 : decode prog_1_method_7_code 23 = .ok (.invokevirtual 124, 3) := id_WM_stop_0 (23, .invokevirtual 124, 3) (List.mem_of_getElem? (i := 11) rfl)
theorem d_WM_stop_26 : decode prog_1_method_7_code 26 = .ok (.aload_n 0, 1) := id_WM_stop_0 (26, .aload_n 0, 1) (List.mem_of_getElem? (i := 12) rfl)
theorem d_WM_stop_27 : decode prog_1_method_7_code 27 = .ok (.getfield 32, 3) := id_WM_stop_0 (27, .getfield 32, 3) (List.mem_of_getElem? (i := 13) rfl)
theorem d_WM_stop_30 : decode prog_1_method_7_code 30 = .ok (.iconst 0, 1) := id_WM_stop_0 (30, .iconst 0, 1) (List.mem_of_getElem? (i := 14) rfl)
theorem d_WM_stop_31 : decode prog_1_method_7_code 31 = .ok (.putfield 114, 3) := id_WM_stop_0 (31, .putfield 114, 3) (List.mem_of_getElem? (i := 15) rfl)
theorem d_WM_stop_34 : decode prog_1_method_7_code 34 = .ok (.iconst 1, 1) := id_WM_stop_0 (34, .iconst 1, 1) (List.mem_of_getElem? (i := 16) rfl)
theorem d_WM_stop_35 : decode prog_1_method_7_code 35 = .ok (.ireturn, 1) := id_WM_stop_0 (35, .ireturn, 1) (List.mem_of_getElem? (i := 17) rfl)
theorem wC_WM_stop : Cond.code ⟨"WarpMill", "stop", "()Z"⟩ prog_1_method_7_code 1 (some .boolean) ∈ lw_tb := mem_tb 485 (by decide +kernel) rfl
theorem cw_WM_stop_Tally_underWay : cW mi_WM_stop mi_Tally_underWay 0 := ⟨wC_Tally_underWay, wi_Tally, ⟨by decide, by decide, by decide +kernel⟩, by decide, by decide⟩
theorem cw_WM_stop_WM_freeAllSlots : cW mi_WM_stop mi_WM_freeAllSlots 0 := ⟨wC_WM_freeAllSlots, wi_WM, ⟨by decide, by decide, by decide +kernel⟩, by decide, by decide⟩
theorem cw_WM_stop_Pending_forget : cW mi_WM_stop mi_Pending_forget 0 := ⟨wC_Pending_forget, wi_Pending, ⟨by decide, by decide, by decide +kernel⟩, by decide, by decide⟩
def f_WM_stop (F : Nat) (x0 : Nat) (h : Hp) : Option (Int32 × Hp) := gd (hK h x0 = 1) <| rq h (hR h 3 x0) 6 fun a_1_2 => cl (f_Tally_underWay F a_1_2 h) fun v_4 h_4 => if v_4 = 0 then (some ((0 : Int32), h_4)) else (gd (hK h_4 x0 = 1) <| clv (f_WM_freeAllSlots F x0 h_4) fun h_13_2 => gd (hK h_13_2 x0 = 1) <| rq h_13_2 (hR h_13_2 2 x0) 3 fun a_17_2 => rq h_13_2 (hR h_13_2 130 a_17_2) 5 fun a_20 => clv (f_Pending_forget F a_20 h_13_2) fun h_23 => gd (hK h_23 x0 = 1) <| rq h_23 (hR h_23 3 x0) 6 fun a_27_2 => pw (sI h_23 320 a_27_2 (0 : Int32)) fun h_31 => some ((1 : Int32), h_31))
set_option maxRecDepth 100000 in
set_option maxHeartbeats 4000000 in
theorem e_WM_stop {G : Gl} (hw : gF G) {F : Nat} {r : Int32} {h' : Hp} {x0 : Nat} {h : Hp} (hf : f_WM_stop F x0 h = some (r, h')) : Ex G mi_WM_stop [.ref x0] h (pI r h') := by
  unfold f_WM_stop at hf
  refine Ex.of nmI (by decide) (Nat.le_of_ble_eq_true rfl) ?_
  show Go G mi_WM_stop h _ h 0 [(0, .ref x0)] []
  refine g_aload_n d_WM_stop_0 rfl ?_
  obtain ⟨k_1, hf⟩ := gd_s hf
  obtain ⟨a_1_2, e_1_2, k_1_2, hf⟩ := rq_s hf
  refine fgs_WM_tally lf_WM_32 d_WM_stop_1 k_1 e_1_2 ?_
  obtain ⟨v_4, h_4, e_4, hf⟩ := cl_s hf
  refine g_callV (mz := mi_Tally_underWay) (e_Tally_underWay e_4) cw_WM_stop_Tally_underWay lm_WM_58 wI_Tally_underWay wV_Tally_underWay (ci := 5) k_1_2 (by decide) rfl rfl d_WM_stop_4 rfl rfl (by first | exact Nat.le_of_ble_eq_true rfl | simp [cat_rf, Value.category]) (fun r1 h1 hp hro => ?_)
  obtain ⟨rfl, rfl⟩ := hp
  dsimp only [Option.toList_some, Option.toList_none, List.cons_append, List.nil_append]
  refine g_if_ne 12 d_WM_stop_7 (by decide) (fun c_7 => ?_) (fun c_7 => ?_)
  · have hf := ifn hf c_7
    refine g_aload_n d_WM_stop_12 rfl ?_
    obtain ⟨k_13, hf⟩ := gd_s hf
    obtain ⟨h_13_2, e_13_2, hf⟩ := clv_s hf
    refine g_callV (mz := mi_WM_freeAllSlots) (e_WM_freeAllSlots hw e_13_2) cw_WM_stop_WM_freeAllSlots lm_WM_117 wI_WM_freeAllSlots wV_WM_freeAllSlots (ci := 0) k_13 (by decide) rfl rfl d_WM_stop_13 rfl rfl (by first | exact Nat.le_of_ble_eq_true rfl | simp [cat_rf, Value.category]) (fun r1 h1 hp hro => ?_)
    obtain ⟨rfl, rfl⟩ := hp
    dsimp only [Option.toList_some, Option.toList_none, List.cons_append, List.nil_append]
    refine g_aload_n d_WM_stop_16 rfl ?_
    obtain ⟨k_17, hf⟩ := gd_s hf
    obtain ⟨a_17_2, e_17_2, k_17_2, hf⟩ := rq_s hf
    refine fgs_WM_memory lf_WM_25 d_WM_stop_17 k_17 e_17_2 ?_
    obtain ⟨a_20, e_20, k_20, hf⟩ := rq_s hf
    refine fgs_Memory_pending lf_WM_120 d_WM_stop_20 k_17_2 e_20 ?_
    obtain ⟨h_23, e_23, hf⟩ := clv_s hf
    refine g_callV (mz := mi_Pending_forget) (e_Pending_forget hw e_23) cw_WM_stop_Pending_forget lm_WM_124 wI_Pending_forget wV_Pending_forget (ci := 4) k_20 (by decide) rfl rfl d_WM_stop_23 rfl rfl (by first | exact Nat.le_of_ble_eq_true rfl | simp [cat_rf, Value.category]) (fun r1 h1 hp hro => ?_)
    obtain ⟨rfl, rfl⟩ := hp
    dsimp only [Option.toList_some, Option.toList_none, List.cons_append, List.nil_append]
    refine g_aload_n d_WM_stop_26 rfl ?_
    obtain ⟨k_27, hf⟩ := gd_s hf
    obtain ⟨a_27_2, e_27_2, k_27_2, hf⟩ := rq_s hf
    refine fgs_WM_tally lf_WM_32 d_WM_stop_27 k_27 e_27_2 ?_
    refine g_iconst 0 d_WM_stop_30 (by decide) ?_
    refine fp_Tally_status hw lf_WM_114 d_WM_stop_31 k_27_2 ?_
    have hf := pw_b hf
    refine g_iconst 1 d_WM_stop_34 (by decide) ?_
    exact Go.ret (some _) rOk_b1 rfl d_WM_stop_35 (pI_of hf)
  · have hf := ifp hf c_7
    refine g_iconst 0 d_WM_stop_10 (by decide) ?_
    exact Go.ret (some _) rOk_b0 rfl d_WM_stop_11 (pI_of hf)
abbrev mi_Mod_stop : MI := (⟨"WarpMillModel", "stop", "()Z"⟩, prog_13_method_62_code, 1, some .boolean, 1, 21)
def it_Mod_stop_0 : List (Nat × ClassFile.Instr × Nat) := [(0, .aload_n 0, 1), (1, .iconst 0, 1), (2, .putfield 120, 3), (5, .aload_n 0, 1), (6, .invokevirtual 143, 3), (9, .ifCond .ne (5), 3), (12, .iconst 0, 1), (13, .ireturn, 1), (14, .aload_n 0, 1), (15, .iconst 0, 1), (16, .putfield 136, 3), (19, .aload_n 0, 1), (20, .invokevirtual 123, 3), (23, .iconst 1, 1), (24, .ireturn, 1)]
theorem id_Mod_stop_0 : ∀ q ∈ it_Mod_stop_0, decode prog_13_method_62_code q.1 = .ok q.2 := by decide +kernel
theorem d_Mod_stop_0 : decode prog_13_method_62_code 0 = .ok (.aload_n 0, 1) := id_Mod_stop_0 (0, .aload_n 0, 1) (List.mem_of_getElem? (i := 0) rfl)
theorem d_Mod_stop_1 : decode prog_13_method_62_code 1 = .ok (.iconst 0, 1) := id_Mod_stop_0 (1, .iconst 0, 1) (List.mem_of_getElem? (i := 1) rfl)
theorem d_Mod_stop_2 : decode prog_13_method_62_code 2 = .ok (.putfield 120, 3) := id_Mod_stop_0 (2, .putfield 120, 3) (List.mem_of_getElem? (i := 2) rfl)
theorem d_Mod_stop_5 : decode prog_13_method_62_code 5 = .ok (.aload_n 0, 1) := id_Mod_stop_0 (5, .aload_n 0, 1) (List.mem_of_getElem? (i := 3) rfl)
theorem d_Mod_stop_6 : decode prog_13_method_62_code 6 = .ok (.invokevirtual 143, 3) := id_Mod_stop_0 (6, .invokevirtual 143, 3) (List.mem_of_getElem? (i := 4) rfl)
theorem d_Mod_stop_9 : decode prog_13_method_62_code 9 = .ok (.ifCond .ne (5), 3) := id_Mod_stop_0 (9, .ifCond .ne (5), 3) (List.mem_of_getElem? (i := 5) rfl)
theorem d_Mod_stop_12 : decode prog_13_method_62_code 12 = .ok (.iconst 0, 1) := id_Mod_stop_0 (12, .iconst 0, 1) (List.mem_of_getElem? (i := 6) rfl)
theorem d_Mod_stop_13 : decode prog_13_method_62_code 13 = .ok (.ireturn, 1) := id_Mod_stop_0 (13, .ireturn, 1) (List.mem_of_getElem? (i := 7) rfl)
theorem d_Mod_stop_14 : decode prog_13_method_62_code 14 = .ok (.aload_n 0, 1) := id_Mod_stop_0 (14, .aload_n 0, 1) (List.mem_of_getElem? (i := 8) rfl)
theorem d_Mod_stop_15 : decode prog_13_method_62_code 15 = .ok (.iconst 0, 1) := id_Mod_stop_0 (15, .iconst 0, 1) (List.mem_of_getElem? (i := 9) rfl)
theorem d_Mod_stop_16 : decode prog_13_method_62_code 16 = .ok (.putfield 136, 3) := id_Mod_stop_0 (16, .putfield 136, 3) (List.mem_of_getElem? (i := 10) rfl)
theorem d_Mod_stop_19 : decode prog_13_method_62_code 19 = .ok (.aload_n 0, 1) := id_Mod_stop_0 (19, .aload_n 0, 1) (List.mem_of_getElem? (i := 11) rfl)
theorem d_Mod_stop_20 : decode prog_13_method_62_code 20 = .ok (.invokevirtual 123, 3) := id_Mod_stop_0 (20, .invokevirtual 123, 3) (List.mem_of_getElem? (i := 12) rfl)
theorem d_Mod_stop_23 : decode prog_13_method_62_code 23 = .ok (.iconst 1, 1) := id_Mod_stop_0 (23, .iconst 1, 1) (List.mem_of_getElem? (i := 13) rfl)
theorem d_Mod_stop_24 : decode prog_13_method_62_code 24 = .ok (.ireturn, 1) := id_Mod_stop_0 (24, .ireturn, 1) (List.mem_of_getElem? (i := 14) rfl)
theorem wC_Mod_stop : Cond.code ⟨"WarpMillModel", "stop", "()Z"⟩ prog_13_method_62_code 1 (some .boolean) ∈ lw_tb := mem_tb 1476 (by decide +kernel) rfl
theorem cw_Mod_stop_Mod_isUnder : cW mi_Mod_stop mi_Mod_isUnder 0 := ⟨wC_Mod_isUnder, wi_Mod, ⟨by decide, by decide, by decide +kernel⟩, by decide, by decide⟩
theorem cw_Mod_stop_Mod_freeAll : cW mi_Mod_stop mi_Mod_freeAll 0 := ⟨wC_Mod_freeAll, wi_Mod, ⟨by decide, by decide, by decide +kernel⟩, by decide, by decide⟩
def f_Mod_stop (F : Nat) (x0 : Nat) (h : Hp) : Option (Int32 × Hp) := gd (hK h x0 = 12) <| pw (sI h 704 x0 (0 : Int32)) fun h_2_2 => cl (f_Mod_isUnder F x0 h_2_2) fun v_6 h_6 => if v_6 = 0 then (some ((0 : Int32), h_6)) else (gd (hK h_6 x0 = 12) <| pw (sI h_6 715 x0 (0 : Int32)) fun h_16_2 => clv (f_Mod_freeAll F x0 h_16_2) fun h_20 => some ((1 : Int32), h_20))
set_option maxRecDepth 100000 in
set_option maxHeartbeats 4000000 in
theorem e_Mod_stop {G : Gl} (hw : gF G) {F : Nat} {r : Int32} {h' : Hp} {x0 : Nat} {h : Hp} (hf : f_Mod_stop F x0 h = some (r, h')) : Ex G mi_Mod_stop [.ref x0] h (pI r h') := by
  unfold f_Mod_stop at hf
  refine Ex.of nmI (by decide) (Nat.le_of_ble_eq_true rfl) ?_
  show Go G mi_Mod_stop h _ h 0 [(0, .ref x0)] []
  refine g_aload_n d_Mod_stop_0 rfl ?_
  refine g_iconst 0 d_Mod_stop_1 (by decide) ?_
  obtain ⟨k_2, hf⟩ := gd_s hf
  refine fp_Mod_thrown hw lf_Mod_120 d_Mod_stop_2 k_2 ?_
  have hf := pw_b hf
  refine g_aload_n d_Mod_stop_5 rfl ?_
  obtain ⟨v_6, h_6, e_6, hf⟩ := cl_s hf
  refine g_callV (mz := mi_Mod_isUnder) (e_Mod_isUnder e_6) cw_Mod_stop_Mod_isUnder lm_Mod_143 wI_Mod_isUnder wV_Mod_isUnder (ci := 11) (kksI k_2) (by decide) rfl rfl d_Mod_stop_6 rfl rfl (by first | exact Nat.le_of_ble_eq_true rfl | simp [cat_rf, Value.category]) (fun r1 h1 hp hro => ?_)
  obtain ⟨rfl, rfl⟩ := hp
  dsimp only [Option.toList_some, Option.toList_none, List.cons_append, List.nil_append]
  refine g_if_ne 14 d_Mod_stop_9 (by decide) (fun c_9 => ?_) (fun c_9 => ?_)
  · have hf := ifn hf c_9
    refine g_aload_n d_Mod_stop_14 rfl ?_
    refine g_iconst 0 d_Mod_stop_15 (by decide) ?_
    obtain ⟨k_16, hf⟩ := gd_s hf
    refine fp_Mod_status hw lf_Mod_136 d_Mod_stop_16 k_16 ?_
    have hf := pw_b hf
    refine g_aload_n d_Mod_stop_19 rfl ?_
    obtain ⟨h_20, e_20, hf⟩ := clv_s hf
    refine g_callV (mz := mi_Mod_freeAll) (e_Mod_freeAll hw e_20) cw_Mod_stop_Mod_freeAll lm_Mod_123 wI_Mod_freeAll wV_Mod_freeAll (ci := 11) (kksI k_16) (by decide) rfl rfl d_Mod_stop_20 rfl rfl (by first | exact Nat.le_of_ble_eq_true rfl | simp [cat_rf, Value.category]) (fun r1 h1 hp hro => ?_)
    obtain ⟨rfl, rfl⟩ := hp
    dsimp only [Option.toList_some, Option.toList_none, List.cons_append, List.nil_append]
    refine g_iconst 1 d_Mod_stop_23 (by decide) ?_
    exact Go.ret (some _) rOk_b1 rfl d_Mod_stop_24 (pI_of hf)
  · have hf := ifp hf c_9
    refine g_iconst 0 d_Mod_stop_12 (by decide) ?_
    exact Go.ret (some _) rOk_b0 rfl d_Mod_stop_13 (pI_of hf)
abbrev mi_WM_global : MI := (⟨"WarpMill", "global", "(I)I"⟩, prog_1_method_8_code, 2, some .int, 6, 128)
def it_WM_global_0 : List (Nat × ClassFile.Instr × Nat) := [(0, .aload_n 0, 1), (1, .getfield 25, 3), (4, .iload_n 1, 1), (5, .invokevirtual 85, 3), (8, .ifCond .ne (13), 3), (11, .new 129, 3), (14, .dup, 1), (15, .ldc 131, 2), (17, .invokespecial 133, 3), (20, .athrow, 1), (21, .aload_n 0, 1), (22, .getfield 25, 3), (25, .getfield 89, 3), (28, .iload_n 1, 1), (29, .iaload, 1), (30, .ireturn, 1)]
theorem id_WM_global_0 : ∀ q ∈ it_WM_global_0, decode prog_1_method_8_code q.1 = .ok q.2 := by decide +kernel
theorem d_WM_global_0 : decode prog_1_method_8_code 0 = .ok (.aload_n 0, 1) := id_WM_global_0 (0, .aload_n 0, 1) (List.mem_of_getElem? (i := 0) rfl)
theorem d_WM_global_1 : decode prog_1_method_8_code 1 = .ok (.getfield 25, 3) := id_WM_global_0 (1, .getfield 25, 3) (List.mem_of_getElem? (i := 1) rfl)
theorem d_WM_global_4 : decode prog_1_method_8_code 4 = .ok (.iload_n 1, 1) := id_WM_global_0 (4, .iload_n 1, 1) (List.mem_of_getElem? (i := 2) rfl)
theorem d_WM_global_5 : decode prog_1_method_8_code 5 = .ok (.invokevirtual 85, 3) := id_WM_global_0 (5, .invokevirtual 85, 3) (List.mem_of_getElem? (i := 3) rfl)
theorem d_WM_global_8 : decode prog_1_method_8_code 8 = .ok (.ifCond .ne (13), 3) := id_WM_global_0 (8, .ifCond .ne (13), 3) (List.mem_of_getElem? (i := 4) rfl)
theorem d_WM_global_11 : decode prog_1_method_8_code 11 = .ok (.new 129, 3) := id_WM_global_0 (11, .new 129, 3) (List.mem_of_getElem? (i := 5) rfl)
theorem d_WM_global_14 : decode prog_1_method_8_code 14 = .ok (.dup, 1) := id_WM_global_0 (14, .dup, 1) (List.mem_of_getElem? (i := 6) rfl)
theorem d_WM_global_15 : decode prog_1_method_8_code 15 = .ok (.ldc 131, 2) := id_WM_global_0 (15, .ldc 131, 2) (List.mem_of_getElem? (i := 7) rfl)
theorem d_WM_global_17 : decode prog_1_method_8_code 17 = .ok (.invokespecial 133, 3) := id_WM_global_0 (17, .invokespecial 133, 3) (List.mem_of_getElem? (i := 8) rfl)
theorem d_WM_global_20 : decode prog_1_method_8_code 20 = .ok (.athrow, 1) := id_WM_global_0 (20, .athrow, 1) (List.mem_of_getElem? (i := 9) rfl)
theorem d_WM_global_21 : decode prog_1_method_8_code 21 = .ok (.aload_n 0, 1) := id_WM_global_0 (21, .aload_n 0, 1) (List.mem_of_getElem? (i := 10) rfl)
theorem d_WM_global_22 : decode prog_1_method_8_code 22 = .ok (.getfield 25, 3) := id_WM_global_0 (22, .getfield 25, 3) (List.mem_of_getElem? (i := 11) rfl)
theorem d_WM_global_25 : decode prog_1_method_8_code 25 = .ok (.getfield 89, 3) := id_WM_global_0 (25, .getfield 89, 3) (List.mem_of_getElem? (i := 12) rfl)
theorem d_WM_global_28 : decode prog_1_method_8_code 28 = .ok (.iload_n 1, 1) := id_WM_global_0 (28, .iload_n 1, 1) (List.mem_of_getElem? (i := 13) rfl)
theorem d_WM_global_29 : decode prog_1_method_8_code 29 = .ok (.iaload, 1) := id_WM_global_0 (29, .iaload, 1) (List.mem_of_getElem? (i := 14) rfl)
theorem d_WM_global_30 : decode prog_1_method_8_code 30 = .ok (.ireturn, 1) := id_WM_global_0 (30, .ireturn, 1) (List.mem_of_getElem? (i := 15) rfl)
theorem wC_WM_global : Cond.code ⟨"WarpMill", "global", "(I)I"⟩ prog_1_method_8_code 2 (some .int) ∈ lw_tb := mem_tb 1001 (by decide +kernel) rfl
theorem cw_WM_global_Memory_has : cW mi_WM_global mi_Memory_has 1 := ⟨wC_Memory_has, wi_Memory, ⟨by decide, by decide, by decide +kernel⟩, by decide, by decide⟩
def f_WM_global (F : Nat) (x0 : Nat) (x1 : Int32) (h : Hp) : Option (Int32 × Hp) := gd (hK h x0 = 1) <| rq h (hR h 2 x0) 3 fun a_1_2 => cl (f_Memory_has F a_1_2 x1 h) fun v_5 h_5 => if v_5 = 0 then (none) else (gd (hK h_5 x0 = 1) <| rq h_5 (hR h_5 2 x0) 3 fun a_22_2 => rq h_5 (hR h_5 128 a_22_2) 100 fun a_25 => ix x1 (hN h_5 a_25) fun j_29 => some ((hA h_5 a_25 j_29), h_5))
set_option maxRecDepth 100000 in
set_option maxHeartbeats 4000000 in
theorem e_WM_global {G : Gl} {F : Nat} {r : Int32} {h' : Hp} {x0 : Nat} {x1 : Int32} {h : Hp} (hf : f_WM_global F x0 x1 h = some (r, h')) : Ex G mi_WM_global [.ref x0, .int x1] h (pI r h') := by
  unfold f_WM_global at hf
  refine Ex.of nmI (by decide) (Nat.le_of_ble_eq_true rfl) ?_
  show Go G mi_WM_global h _ h 0 [(0, .ref x0), (1, .int x1)] []
  refine g_aload_n d_WM_global_0 rfl ?_
  obtain ⟨k_1, hf⟩ := gd_s hf
  obtain ⟨a_1_2, e_1_2, k_1_2, hf⟩ := rq_s hf
  refine fgs_WM_memory lf_WM_25 d_WM_global_1 k_1 e_1_2 ?_
  refine g_iload_n d_WM_global_4 rfl ?_
  obtain ⟨v_5, h_5, e_5, hf⟩ := cl_s hf
  refine g_callV (mz := mi_Memory_has) (e_Memory_has e_5) cw_WM_global_Memory_has lm_WM_85 wI_Memory_has wV_Memory_has (ci := 2) k_1_2 (by decide) rfl rfl d_WM_global_5 rfl rfl (by first | exact Nat.le_of_ble_eq_true rfl | simp [cat_rf, Value.category]) (fun r1 h1 hp hro => ?_)
  obtain ⟨rfl, rfl⟩ := hp
  dsimp only [Option.toList_some, Option.toList_none, List.cons_append, List.nil_append]
  refine g_if_ne 21 d_WM_global_8 (by decide) (fun c_8 => ?_) (fun c_8 => ?_)
  · have hf := ifn hf c_8
    refine g_aload_n d_WM_global_21 rfl ?_
    obtain ⟨k_22, hf⟩ := gd_s hf
    obtain ⟨a_22_2, e_22_2, k_22_2, hf⟩ := rq_s hf
    refine fgs_WM_memory lf_WM_25 d_WM_global_22 k_22 e_22_2 ?_
    obtain ⟨a_25, e_25, k_25, hf⟩ := rq_s hf
    refine fgs_Memory_ints lf_WM_89 d_WM_global_25 k_22_2 e_25 ?_
    refine g_iload_n d_WM_global_28 rfl ?_
    obtain ⟨i_29, hf⟩ := ix_s hf
    refine g_iald k_25 i_29 d_WM_global_29 ?_
    exact Go.ret (some _) (rOk_i _) rfl d_WM_global_30 (pI_of hf)
  · have hf := ifp hf c_8
    exact nm_s hf
abbrev mi_Mod_global : MI := (⟨"WarpMillModel", "global", "(I)I"⟩, prog_13_method_63_code, 2, some .int, 0, 0)
def it_Mod_global_0 : List (Nat × ClassFile.Instr × Nat) := [(0, .aload_n 0, 1), (1, .iload_n 1, 1), (2, .ifCond .lt (11), 3), (5, .iload_n 1, 1), (6, .aload_n 0, 1), (7, .getfield 25, 3), (10, .if_icmp .lt (7), 3), (13, .iconst 1, 1), (14, .goto (4), 3), (17, .iconst 0, 1), (18, .putfield 120, 3), (21, .aload_n 0, 1), (22, .getfield 120, 3), (25, .ifCond .ne (12), 3), (28, .aload_n 0, 1), (29, .getfield 32, 3), (32, .iload_n 1, 1), (33, .iaload, 1), (34, .goto (4), 3), (37, .iconst 0, 1), (38, .ireturn, 1)]
theorem id_Mod_global_0 : ∀ q ∈ it_Mod_global_0, decode prog_13_method_63_code q.1 = .ok q.2 := by decide +kernel
theorem d_Mod_global_0 : decode prog_13_method_63_code 0 = .ok (.aload_n 0, 1) := id_Mod_global_0 (0, .aload_n 0, 1) (List.mem_of_getElem? (i := 0) rfl)
theorem d_Mod_global_1 : decode prog_13_method_63_code 1 = .ok (.iload_n 1, 1) := id_Mod_global_0 (1, .iload_n 1, 1) (List.mem_of_getElem? (i := 1) rfl)
theorem d_Mod_global_2 : decode prog_13_method_63_code 2 = .ok (.ifCond .lt (11), 3) := id_Mod_global_0 (2, .ifCond .lt (11), 3) (List.mem_of_getElem? (i := 2) rfl)
theorem d_Mod_global_5 : decode prog_13_method_63_code 5 = .ok (.iload_n 1, 1) := id_Mod_global_0 (5, .iload_n 1, 1) (List.mem_of_getElem? (i := 3) rfl)
theorem d_Mod_global_6 : decode prog_13_method_63_code 6 = .ok (.aload_n 0, 1) := id_Mod_global_0 (6, .aload_n 0, 1) (List.mem_of_getElem? (i := 4) rfl)
theorem d_Mod_global_7 : decode prog_13_method_63_code 7 = .ok (.getfield 25, 3) := id_Mod_global_0 (7, .getfield 25, 3) (List.mem_of_getElem? (i := 5) rfl)
theorem d_Mod_global_10 : decode prog_13_method_63_code 10 = .ok (.if_icmp .lt (7), 3) := id_Mod_global_0 (10, .if_icmp .lt (7), 3) (List.mem_of_getElem? (i := 6) rfl)
theorem d_Mod_global_13 : decode prog_13_method_63_code 13 = .ok (.iconst 1, 1) := id_Mod_global_0 (13, .iconst 1, 1) (List.mem_of_getElem? (i := 7) rfl)
theorem d_Mod_global_14 : decode prog_13_method_63_code 14 = .ok (.goto (4), 3) := id_Mod_global_0 (14, .goto (4), 3) (List.mem_of_getElem? (i := 8) rfl)
theorem d_Mod_global_17 : decode prog_13_method_63_code 17 = .ok (.iconst 0, 1) := id_Mod_global_0 (17, .iconst 0, 1) (List.mem_of_getElem? (i := 9) rfl)
theorem d_Mod_global_18 : decode prog_13_method_63_code 18 = .ok (.putfield 120, 3) := id_Mod_global_0 (18, .putfield 120, 3) (List.mem_of_getElem? (i := 10) rfl)
theorem d_Mod_global_21 : decode prog_13_method_63_code 21 = .ok (.aload_n 0, 1) := id_Mod_global_0 (21, .aload_n 0, 1) (List.mem_of_getElem? (i := 11) rfl)
theorem d_Mod_global_22 : decode prog_13_method_63_code 22 = .ok (.getfield 120, 3) := id_Mod_global_0 (22, .getfield 120, 3) (List.mem_of_getElem? (i := 12) rfl)
theorem d_Mod_global_25 : decode prog_13_method_63_code 25 = .ok (.ifCond .ne (12), 3) := id_Mod_global_0 (25, .ifCond .ne (12), 3) (List.mem_of_getElem? (i := 13) rfl)
theorem d_Mod_global_28 : decode prog_13_method_63_code 28 = .ok (.aload_n 0, 1) := id_Mod_global_0 (28, .aload_n 0, 1) (List.mem_of_getElem? (i := 14) rfl)
theorem d_Mod_global_29 : decode prog_13_method_63_code 29 = .ok (.getfield 32, 3) := id_Mod_global_0 (29, .getfield 32, 3) (List.mem_of_getElem? (i := 15) rfl)
theorem d_Mod_global_32 : decode prog_13_method_63_code 32 = .ok (.iload_n 1, 1) := id_Mod_global_0 (32, .iload_n 1, 1) (List.mem_of_getElem? (i := 16) rfl)
theorem d_Mod_global_33 : decode prog_13_method_63_code 33 = .ok (.iaload, 1) := id_Mod_global_0 (33, .iaload, 1) (List.mem_of_getElem? (i := 17) rfl)
theorem d_Mod_global_34 : decode prog_13_method_63_code 34 = .ok (.goto (4), 3) := id_Mod_global_0 (34, .goto (4), 3) (List.mem_of_getElem? (i := 18) rfl)
theorem d_Mod_global_37 : decode prog_13_method_63_code 37 = .ok (.iconst 0, 1) := id_Mod_global_0 (37, .iconst 0, 1) (List.mem_of_getElem? (i := 19) rfl)
theorem d_Mod_global_38 : decode prog_13_method_63_code 38 = .ok (.ireturn, 1) := id_Mod_global_0 (38, .ireturn, 1) (List.mem_of_getElem? (i := 20) rfl)
theorem wC_Mod_global : Cond.code ⟨"WarpMillModel", "global", "(I)I"⟩ prog_13_method_63_code 2 (some .int) ∈ lw_tb := mem_tb 1480 (by decide +kernel) rfl
def b_Mod_global_18 (F : Nat) (x0 : Nat) (x1 : Int32) (s0 : Nat) (s1 : Int32) (h : Hp) : Option (Int32 × Hp) := gd (hK h s0 = 12) <| pw (sI h 704 s0 s1) fun h_18_2 => gd (hK h_18_2 x0 = 12) <| if (hI h_18_2 704 x0) = 0 then (rq h_18_2 (hR h_18_2 712 x0) 100 fun a_29 => ix x1 (hN h_18_2 a_29) fun j_33 => some ((hA h_18_2 a_29 j_33), h_18_2)) else (some ((0 : Int32), h_18_2))
set_option maxRecDepth 100000 in
set_option maxHeartbeats 4000000 in
theorem e_Mod_global_18 {G : Gl} (hw : gF G) {h0 : Hp} {F : Nat} {r : Int32} {h' : Hp}   {x0 : Nat} {x1 : Int32} {s0 : Nat} {s1 : Int32} {h : Hp} (hf : b_Mod_global_18 F x0 x1 s0 s1 h = some (r, h')) : Go G mi_Mod_global h0 (pI r h') h 18 [(0, .ref x0), (1, .int x1)] [.int s1, .ref s0] := by
  unfold b_Mod_global_18 at hf
  obtain ⟨k_18, hf⟩ := gd_s hf
  refine fp_Mod_thrown hw lf_Mod_120 d_Mod_global_18 k_18 ?_
  have hf := pw_b hf
  refine g_aload_n d_Mod_global_21 rfl ?_
  obtain ⟨k_22, hf⟩ := gd_s hf
  refine fg_Mod_thrown lf_Mod_120 d_Mod_global_22 k_22 ?_
  refine g_if_ne 37 d_Mod_global_25 (by decide) (fun c_25 => ?_) (fun c_25 => ?_)
  · have hf := ifn hf c_25
    refine g_iconst 0 d_Mod_global_37 (by decide) ?_
    exact Go.ret (some _) (rOk_i _) rfl d_Mod_global_38 (pI_of hf)
  · have hf := ifp hf c_25
    refine g_aload_n d_Mod_global_28 rfl ?_
    obtain ⟨a_29, e_29, k_29, hf⟩ := rq_s hf
    refine fgs_Mod_memory lf_Mod_32 d_Mod_global_29 k_22 e_29 ?_
    refine g_iload_n d_Mod_global_32 rfl ?_
    obtain ⟨i_33, hf⟩ := ix_s hf
    refine g_iald k_29 i_33 d_Mod_global_33 ?_
    refine g_goto 38 d_Mod_global_34 (by decide) ?_
    exact Go.ret (some _) (rOk_i _) rfl d_Mod_global_38 (pI_of hf)
def b_Mod_global_13 (F : Nat) (x0 : Nat) (x1 : Int32) (s0 : Nat) (h : Hp) : Option (Int32 × Hp) := b_Mod_global_18 F x0 x1 s0 (1 : Int32) h
set_option maxRecDepth 100000 in
set_option maxHeartbeats 4000000 in
theorem e_Mod_global_13 {G : Gl} (hw : gF G) {h0 : Hp} {F : Nat} {r : Int32} {h' : Hp}   {x0 : Nat} {x1 : Int32} {s0 : Nat} {h : Hp} (hf : b_Mod_global_13 F x0 x1 s0 h = some (r, h')) : Go G mi_Mod_global h0 (pI r h') h 13 [(0, .ref x0), (1, .int x1)] [.ref s0] := by
  unfold b_Mod_global_13 at hf
  refine g_iconst 1 d_Mod_global_13 (by decide) ?_
  refine g_goto 18 d_Mod_global_14 (by decide) ?_
  have key := e_Mod_global_18 hw (G := G) (h0 := h0)  hf
  exact key
def f_Mod_global (F : Nat) (x0 : Nat) (x1 : Int32) (h : Hp) : Option (Int32 × Hp) := if x1 < 0 then (b_Mod_global_13 F x0 x1 x0 h) else (gd (hK h x0 = 12) <| if x1 < (hI h 710 x0) then (b_Mod_global_18 F x0 x1 x0 (0 : Int32) h) else (b_Mod_global_13 F x0 x1 x0 h))
set_option maxRecDepth 100000 in
set_option maxHeartbeats 4000000 in
theorem e_Mod_global {G : Gl} (hw : gF G) {F : Nat} {r : Int32} {h' : Hp} {x0 : Nat} {x1 : Int32} {h : Hp} (hf : f_Mod_global F x0 x1 h = some (r, h')) : Ex G mi_Mod_global [.ref x0, .int x1] h (pI r h') := by
  unfold f_Mod_global at hf
  refine Ex.of nmI (by decide) (Nat.le_of_ble_eq_true rfl) ?_
  show Go G mi_Mod_global h _ h 0 [(0, .ref x0), (1, .int x1)] []
  refine g_aload_n d_Mod_global_0 rfl ?_
  refine g_iload_n d_Mod_global_1 rfl ?_
  refine g_if_lt 13 d_Mod_global_2 (by decide) (fun c_2 => ?_) (fun c_2 => ?_)
  · have hf := ifp hf c_2
    have key := e_Mod_global_13 hw (G := G) (h0 := h)  hf
    exact key
  · have hf := ifn hf c_2
    refine g_iload_n d_Mod_global_5 rfl ?_
    refine g_aload_n d_Mod_global_6 rfl ?_
    obtain ⟨k_7, hf⟩ := gd_s hf
    refine fg_Mod_ints lf_Mod_25 d_Mod_global_7 k_7 ?_
    refine g_icmp_lt 17 d_Mod_global_10 (by decide) (fun c_10 => ?_) (fun c_10 => ?_)
    · have hf := ifp hf c_10
      refine g_iconst 0 d_Mod_global_17 (by decide) ?_
      have key := e_Mod_global_18 hw (G := G) (h0 := h)  hf
      exact key
    · have hf := ifn hf c_10
      have key := e_Mod_global_13 hw (G := G) (h0 := h)  hf
      exact key
abbrev mi_Sizes_tell : MI := (⟨"WarpMill$Sizes", "tell", "(I)I"⟩, prog_7_method_4_code, 2, some .int, 0, 0)
def it_Sizes_tell_0 : List (Nat × ClassFile.Instr × Nat) := [(0, .iload_n 1, 1), (1, .tableswitch (60) (0) (4) #[(35), (40), (45), (50), (55)], 35), (36, .aload_n 0, 1), (37, .getfield 9, 3), (40, .ireturn, 1), (41, .aload_n 0, 1), (42, .getfield 15, 3), (45, .ireturn, 1), (46, .aload_n 0, 1), (47, .getfield 18, 3), (50, .ireturn, 1), (51, .aload_n 0, 1), (52, .getfield 21, 3), (55, .ireturn, 1), (56, .aload_n 0, 1), (57, .getfield 24, 3), (60, .ireturn, 1), (61, .aload_n 0, 1), (62, .getfield 27, 3), (65, .ireturn, 1)]
theorem id_Sizes_tell_0 : ∀ q ∈ it_Sizes_tell_0, decode prog_7_method_4_code q.1 = .ok q.2 := by decide +kernel
theorem d_Sizes_tell_0 : decode prog_7_method_4_code 0 = .ok (.iload_n 1, 1) := id_Sizes_tell_0 (0, .iload_n 1, 1) (List.mem_of_getElem? (i := 0) rfl)
theorem d_Sizes_tell_1 : decode prog_7_method_4_code 1 = .ok (.tableswitch (60) (0) (4) #[(35), (40), (45), (50), (55)], 35) := id_Sizes_tell_0 (1, .tableswitch (60) (0) (4) #[(35), (40), (45), (50), (55)], 35) (List.mem_of_getElem? (i := 1) rfl)
theorem d_Sizes_tell_36 : decode prog_7_method_4_code 36 = .ok (.aload_n 0, 1) := id_Sizes_tell_0 (36, .aload_n 0, 1) (List.mem_of_getElem? (i := 2) rfl)
theorem d_Sizes_tell_37 : decode prog_7_method_4_code 37 = .ok (.getfield 9, 3) := id_Sizes_tell_0 (37, .getfield 9, 3) (List.mem_of_getElem? (i := 3) rfl)
theorem d_Sizes_tell_40 : decode prog_7_method_4_code 40 = .ok (.ireturn, 1) := id_Sizes_tell_0 (40, .ireturn, 1) (List.mem_of_getElem? (i := 4) rfl)
theorem d_Sizes_tell_41 : decode prog_7_method_4_code 41 = .ok (.aload_n 0, 1) := id_Sizes_tell_0 (41, .aload_n 0, 1) (List.mem_of_getElem? (i := 5) rfl)
theorem d_Sizes_tell_42 : decode prog_7_method_4_code 42 = .ok (.getfield 15, 3) := id_Sizes_tell_0 (42, .getfield 15, 3) (List.mem_of_getElem? (i := 6) rfl)
theorem d_Sizes_tell_45 : decode prog_7_method_4_code 45 = .ok (.ireturn, 1) := id_Sizes_tell_0 (45, .ireturn, 1) (List.mem_of_getElem? (i := 7) rfl)
theorem d_Sizes_tell_46 : decode prog_7_method_4_code 46 = .ok (.aload_n 0, 1) := id_Sizes_tell_0 (46, .aload_n 0, 1) (List.mem_of_getElem? (i := 8) rfl)
theorem d_Sizes_tell_47 : decode prog_7_method_4_code 47 = .ok (.getfield 18, 3) := id_Sizes_tell_0 (47, .getfield 18, 3) (List.mem_of_getElem? (i := 9) rfl)
theorem d_Sizes_tell_50 : decode prog_7_method_4_code 50 = .ok (.ireturn, 1) := id_Sizes_tell_0 (50, .ireturn, 1) (List.mem_of_getElem? (i := 10) rfl)
theorem d_Sizes_tell_51 : decode prog_7_method_4_code 51 = .ok (.aload_n 0, 1) := id_Sizes_tell_0 (51, .aload_n 0, 1) (List.mem_of_getElem? (i := 11) rfl)
theorem d_Sizes_tell_52 : decode prog_7_method_4_code 52 = .ok (.getfield 21, 3) := id_Sizes_tell_0 (52, .getfield 21, 3) (List.mem_of_getElem? (i := 12) rfl)
theorem d_Sizes_tell_55 : decode prog_7_method_4_code 55 = .ok (.ireturn, 1) := id_Sizes_tell_0 (55, .ireturn, 1) (List.mem_of_getElem? (i := 13) rfl)
theorem d_Sizes_tell_56 : decode prog_7_method_4_code 56 = .ok (.aload_n 0, 1) := id_Sizes_tell_0 (56, .aload_n 0, 1) (List.mem_of_getElem? (i := 14) rfl)
theorem d_Sizes_tell_57 : decode prog_7_method_4_code 57 = .ok (.getfield 24, 3) := id_Sizes_tell_0 (57, .getfield 24, 3) (List.mem_of_getElem? (i := 15) rfl)
theorem d_Sizes_tell_60 : decode prog_7_method_4_code 60 = .ok (.ireturn, 1) := id_Sizes_tell_0 (60, .ireturn, 1) (List.mem_of_getElem? (i := 16) rfl)
theorem d_Sizes_tell_61 : decode prog_7_method_4_code 61 = .ok (.aload_n 0, 1) := id_Sizes_tell_0 (61, .aload_n 0, 1) (List.mem_of_getElem? (i := 17) rfl)
theorem d_Sizes_tell_62 : decode prog_7_method_4_code 62 = .ok (.getfield 27, 3) := id_Sizes_tell_0 (62, .getfield 27, 3) (List.mem_of_getElem? (i := 18) rfl)
theorem d_Sizes_tell_65 : decode prog_7_method_4_code 65 = .ok (.ireturn, 1) := id_Sizes_tell_0 (65, .ireturn, 1) (List.mem_of_getElem? (i := 19) rfl)
theorem wC_Sizes_tell : Cond.code ⟨"WarpMill$Sizes", "tell", "(I)I"⟩ prog_7_method_4_code 2 (some .int) ∈ lw_tb := mem_tb 497 (by decide +kernel) rfl
def f_Sizes_tell (F : Nat) (x0 : Nat) (x1 : Int32) (h : Hp) : Option (Int32 × Hp) := if x1 = 0 then (gd (hK h x0 = 2) <| some ((hI h 64 x0), h)) else if x1 = 1 then (gd (hK h x0 = 2) <| some ((hI h 65 x0), h)) else if x1 = 2 then (gd (hK h x0 = 2) <| some ((hI h 66 x0), h)) else if x1 = 3 then (gd (hK h x0 = 2) <| some ((hI h 67 x0), h)) else if x1 = 4 then (gd (hK h x0 = 2) <| some ((hI h 68 x0), h)) else (gd (hK h x0 = 2) <| some ((hI h 69 x0), h))
set_option maxRecDepth 100000 in
set_option maxHeartbeats 4000000 in
theorem e_Sizes_tell {G : Gl} {F : Nat} {r : Int32} {h' : Hp} {x0 : Nat} {x1 : Int32} {h : Hp} (hf : f_Sizes_tell F x0 x1 h = some (r, h')) : Ex G mi_Sizes_tell [.ref x0, .int x1] h (pI r h') := by
  unfold f_Sizes_tell at hf
  refine Ex.of nmI (by decide) (Nat.le_of_ble_eq_true rfl) ?_
  show Go G mi_Sizes_tell h _ h 0 [(0, .ref x0), (1, .int x1)] []
  refine g_iload_n d_Sizes_tell_0 rfl ?_
  refine g_sw sw_0_4 (fun hs_1 => ?_)
  rcases hs_1 with hs_1 | hs_1 | hs_1 | hs_1 | hs_1 | hs_1
  · refine g_tableOut 61 d_Sizes_tell_1 hs_1 (by decide) ?_
    have hf := ifn hf (sw_ne hs_1 0 (by decide) (by decide))
    have hf := ifn hf (sw_ne hs_1 1 (by decide) (by decide))
    have hf := ifn hf (sw_ne hs_1 2 (by decide) (by decide))
    have hf := ifn hf (sw_ne hs_1 3 (by decide) (by decide))
    have hf := ifn hf (sw_ne hs_1 4 (by decide) (by decide))
    refine g_aload_n d_Sizes_tell_61 rfl ?_
    obtain ⟨k_62, hf⟩ := gd_s hf
    refine fg_Sizes_ints lf_Sizes_27 d_Sizes_tell_62 k_62 ?_
    exact Go.ret (some _) (rOk_i _) rfl d_Sizes_tell_65 (pI_of hf)
  · refine g_tableIn 36 d_Sizes_tell_1 (by rw [hs_1]; decide) (by rw [hs_1]; decide) (by rw [hs_1]; rfl) (by decide) ?_
    have hf := ifp hf hs_1
    refine g_aload_n d_Sizes_tell_36 rfl ?_
    obtain ⟨k_37, hf⟩ := gd_s hf
    refine fg_Sizes_lanes lf_Sizes_9 d_Sizes_tell_37 k_37 ?_
    exact Go.ret (some _) (rOk_i _) rfl d_Sizes_tell_40 (pI_of hf)
  · refine g_tableIn 41 d_Sizes_tell_1 (by rw [hs_1]; decide) (by rw [hs_1]; decide) (by rw [hs_1]; rfl) (by decide) ?_
    have hf := ifn hf (sw_d hs_1 (by decide))
    have hf := ifp hf hs_1
    refine g_aload_n d_Sizes_tell_41 rfl ?_
    obtain ⟨k_42, hf⟩ := gd_s hf
    refine fg_Sizes_slots lf_Sizes_15 d_Sizes_tell_42 k_42 ?_
    exact Go.ret (some _) (rOk_i _) rfl d_Sizes_tell_45 (pI_of hf)
  · refine g_tableIn 46 d_Sizes_tell_1 (by rw [hs_1]; decide) (by rw [hs_1]; decide) (by rw [hs_1]; rfl) (by decide) ?_
    have hf := ifn hf (sw_d hs_1 (by decide))
    have hf := ifn hf (sw_d hs_1 (by decide))
    have hf := ifp hf hs_1
    refine g_aload_n d_Sizes_tell_46 rfl ?_
    obtain ⟨k_47, hf⟩ := gd_s hf
    refine fg_Sizes_units lf_Sizes_18 d_Sizes_tell_47 k_47 ?_
    exact Go.ret (some _) (rOk_i _) rfl d_Sizes_tell_50 (pI_of hf)
  · refine g_tableIn 51 d_Sizes_tell_1 (by rw [hs_1]; decide) (by rw [hs_1]; decide) (by rw [hs_1]; rfl) (by decide) ?_
    have hf := ifn hf (sw_d hs_1 (by decide))
    have hf := ifn hf (sw_d hs_1 (by decide))
    have hf := ifn hf (sw_d hs_1 (by decide))
    have hf := ifp hf hs_1
    refine g_aload_n d_Sizes_tell_51 rfl ?_
    obtain ⟨k_52, hf⟩ := gd_s hf
    refine fg_Sizes_banks lf_Sizes_21 d_Sizes_tell_52 k_52 ?_
    exact Go.ret (some _) (rOk_i _) rfl d_Sizes_tell_55 (pI_of hf)
  · refine g_tableIn 56 d_Sizes_tell_1 (by rw [hs_1]; decide) (by rw [hs_1]; decide) (by rw [hs_1]; rfl) (by decide) ?_
    have hf := ifn hf (sw_d hs_1 (by decide))
    have hf := ifn hf (sw_d hs_1 (by decide))
    have hf := ifn hf (sw_d hs_1 (by decide))
    have hf := ifn hf (sw_d hs_1 (by decide))
    have hf := ifp hf hs_1
    refine g_aload_n d_Sizes_tell_56 rfl ?_
    obtain ⟨k_57, hf⟩ := gd_s hf
    refine fg_Sizes_gates lf_Sizes_24 d_Sizes_tell_57 k_57 ?_
    exact Go.ret (some _) (rOk_i _) rfl d_Sizes_tell_60 (pI_of hf)
abbrev mi_Tally_tell : MI := (⟨"WarpMill$Tally", "tell", "(I)I"⟩, prog_8_method_7_code, 2, some .int, 0, 0)
def it_Tally_tell_0 : List (Nat × ClassFile.Instr × Nat) := [(0, .iload_n 1, 1), (1, .tableswitch (122) (0) (12) #[(67), (72), (77), (82), (122), (122), (87), (92), (97), (102), (107), (112), (117)], 67), (68, .aload_n 0, 1), (69, .getfield 9, 3), (72, .ireturn, 1), (73, .aload_n 0, 1), (74, .getfield 27, 3), (77, .ireturn, 1), (78, .aload_n 0, 1), (79, .getfield 30, 3), (82, .ireturn, 1), (83, .aload_n 0, 1), (84, .getfield 33, 3), (87, .ireturn, 1), (88, .aload_n 0, 1), (89, .getfield 24, 3), (92, .ireturn, 1), (93, .aload_n 0, 1), (94, .getfield 75, 3), (97, .ireturn, 1), (98, .aload_n 0, 1), (99, .getfield 39, 3), (102, .ireturn, 1), (103, .aload_n 0, 1)]
theorem id_Tally_tell_0 : ∀ q ∈ it_Tally_tell_0, decode prog_8_method_7_code q.1 = .ok q.2 := by decide +kernel
theorem d_Tally_tell_0 : decode prog_8_method_7_code 0 = .ok (.iload_n 1, 1) := id_Tally_tell_0 (0, .iload_n 1, 1) (List.mem_of_getElem? (i := 0) rfl)
theorem d_Tally_tell_1 : decode prog_8_method_7_code 1 = .ok (.tableswitch (122) (0) (12) #[(67), (72), (77), (82), (122), (122), (87), (92), (97), (102), (107), (112), (117)], 67) := id_Tally_tell_0 (1, .tableswitch (122) (0) (12) #[(67), (72), (77), (82), (122), (122), (87), (92), (97), (102), (107), (112), (117)], 67) (List.mem_of_getElem? (i := 1) rfl)
theorem d_Tally_tell_68 : decode prog_8_method_7_code 68 = .ok (.aload_n 0, 1) := id_Tally_tell_0 (68, .aload_n 0, 1) (List.mem_of_getElem? (i := 2) rfl)
theorem d_Tally_tell_69 : decode prog_8_method_7_code 69 = .ok (.getfield 9, 3) := id_Tally_tell_0 (69, .getfield 9, 3) (List.mem_of_getElem? (i := 3) rfl)
theorem d_Tally_tell_72 : decode prog_8_method_7_code 72 = .ok (.ireturn, 1) := id_Tally_tell_0 (72, .ireturn, 1) (List.mem_of_getElem? (i := 4) rfl)
theorem d_Tally_tell_73 : decode prog_8_method_7_code 73 = .ok (.aload_n 0, 1) := id_Tally_tell_0 (73, .aload_n 0, 1) (List.mem_of_getElem? (i := 5) rfl)
theorem d_Tally_tell_74 : decode prog_8_method_7_code 74 = .ok (.getfield 27, 3) := id_Tally_tell_0 (74, .getfield 27, 3) (List.mem_of_getElem? (i := 6) rfl)
theorem d_Tally_tell_77 : decode prog_8_method_7_code 77 = .ok (.ireturn, 1) := id_Tally_tell_0 (77, .ireturn, 1) (List.mem_of_getElem? (i := 7) rfl)
theorem d_Tally_tell_78 : decode prog_8_method_7_code 78 = .ok (.aload_n 0, 1) := id_Tally_tell_0 (78, .aload_n 0, 1) (List.mem_of_getElem? (i := 8) rfl)
theorem d_Tally_tell_79 : decode prog_8_method_7_code 79 = .ok (.getfield 30, 3) := id_Tally_tell_0 (79, .getfield 30, 3) (List.mem_of_getElem? (i := 9) rfl)
theorem d_Tally_tell_82 : decode prog_8_method_7_code 82 = .ok (.ireturn, 1) := id_Tally_tell_0 (82, .ireturn, 1) (List.mem_of_getElem? (i := 10) rfl)
theorem d_Tally_tell_83 : decode prog_8_method_7_code 83 = .ok (.aload_n 0, 1) := id_Tally_tell_0 (83, .aload_n 0, 1) (List.mem_of_getElem? (i := 11) rfl)
theorem d_Tally_tell_84 : decode prog_8_method_7_code 84 = .ok (.getfield 33, 3) := id_Tally_tell_0 (84, .getfield 33, 3) (List.mem_of_getElem? (i := 12) rfl)
theorem d_Tally_tell_87 : decode prog_8_method_7_code 87 = .ok (.ireturn, 1) := id_Tally_tell_0 (87, .ireturn, 1) (List.mem_of_getElem? (i := 13) rfl)
theorem d_Tally_tell_88 : decode prog_8_method_7_code 88 = .ok (.aload_n 0, 1) := id_Tally_tell_0 (88, .aload_n 0, 1) (List.mem_of_getElem? (i := 14) rfl)
theorem d_Tally_tell_89 : decode prog_8_method_7_code 89 = .ok (.getfield 24, 3) := id_Tally_tell_0 (89, .getfield 24, 3) (List.mem_of_getElem? (i := 15) rfl)
theorem d_Tally_tell_92 : decode prog_8_method_7_code 92 = .ok (.ireturn, 1) := id_Tally_tell_0 (92, .ireturn, 1) (List.mem_of_getElem? (i := 16) rfl)
theorem d_Tally_tell_93 : decode prog_8_method_7_code 93 = .ok (.aload_n 0, 1) := id_Tally_tell_0 (93, .aload_n 0, 1) (List.mem_of_getElem? (i := 17) rfl)
theorem d_Tally_tell_94 : decode prog_8_method_7_code 94 = .ok (.getfield 75, 3) := id_Tally_tell_0 (94, .getfield 75, 3) (List.mem_of_getElem? (i := 18) rfl)
theorem d_Tally_tell_97 : decode prog_8_method_7_code 97 = .ok (.ireturn, 1) := id_Tally_tell_0 (97, .ireturn, 1) (List.mem_of_getElem? (i := 19) rfl)
theorem d_Tally_tell_98 : decode prog_8_method_7_code 98 = .ok (.aload_n 0, 1) := id_Tally_tell_0 (98, .aload_n 0, 1) (List.mem_of_getElem? (i := 20) rfl)
theorem d_Tally_tell_99 : decode prog_8_method_7_code 99 = .ok (.getfield 39, 3) := id_Tally_tell_0 (99, .getfield 39, 3) (List.mem_of_getElem? (i := 21) rfl)
theorem d_Tally_tell_102 : decode prog_8_method_7_code 102 = .ok (.ireturn, 1) := id_Tally_tell_0 (102, .ireturn, 1) (List.mem_of_getElem? (i := 22) rfl)
theorem d_Tally_tell_103 : decode prog_8_method_7_code 103 = .ok (.aload_n 0, 1) := id_Tally_tell_0 (103, .aload_n 0, 1) (List.mem_of_getElem? (i := 23) rfl)
def it_Tally_tell_1 : List (Nat × ClassFile.Instr × Nat) := [(104, .getfield 42, 3), (107, .ireturn, 1), (108, .aload_n 0, 1), (109, .getfield 45, 3), (112, .ireturn, 1), (113, .aload_n 0, 1), (114, .getfield 48, 3), (117, .ireturn, 1), (118, .aload_n 0, 1), (119, .getfield 36, 3), (122, .ireturn, 1), (123, .iconst (-1), 1), (124, .ireturn, 1)]
theorem id_Tally_tell_1 : ∀ q ∈ it_Tally_tell_1, decode prog_8_method_7_code q.1 = .ok q.2 := by decide +kernel
theorem d_Tally_tell_104 : decode prog_8_method_7_code 104 = .ok (.getfield 42, 3) := id_Tally_tell_1 (104, .getfield 42, 3) (List.mem_of_getElem? (i := 0) rfl)
theorem d_Tally_tell_107 : decode prog_8_method_7_code 107 = .ok (.ireturn, 1) := id_Tally_tell_1 (107, .ireturn, 1) (List.mem_of_getElem? (i := 1) rfl)
theorem d_Tally_tell_108 : decode prog_8_method_7_code 108 = .ok (.aload_n 0, 1) := id_Tally_tell_1 (108, .aload_n 0, 1) (List.mem_of_getElem? (i := 2) rfl)
theorem d_Tally_tell_109 : decode prog_8_method_7_code 109 = .ok (.getfield 45, 3) := id_Tally_tell_1 (109, .getfield 45, 3) (List.mem_of_getElem? (i := 3) rfl)
theorem d_Tally_tell_112 : decode prog_8_method_7_code 112 = .ok (.ireturn, 1) := id_Tally_tell_1 (112, .ireturn, 1) (List.mem_of_getElem? (i := 4) rfl)
theorem d_Tally_tell_113 : decode prog_8_method_7_code 113 = .ok (.aload_n 0, 1) := id_Tally_tell_1 (113, .aload_n 0, 1) (List.mem_of_getElem? (i := 5) rfl)
theorem d_Tally_tell_114 : decode prog_8_method_7_code 114 = .ok (.getfield 48, 3) := id_Tally_tell_1 (114, .getfield 48, 3) (List.mem_of_getElem? (i := 6) rfl)
theorem d_Tally_tell_117 : decode prog_8_method_7_code 117 = .ok (.ireturn, 1) := id_Tally_tell_1 (117, .ireturn, 1) (List.mem_of_getElem? (i := 7) rfl)
theorem d_Tally_tell_118 : decode prog_8_method_7_code 118 = .ok (.aload_n 0, 1) := id_Tally_tell_1 (118, .aload_n 0, 1) (List.mem_of_getElem? (i := 8) rfl)
theorem d_Tally_tell_119 : decode prog_8_method_7_code 119 = .ok (.getfield 36, 3) := id_Tally_tell_1 (119, .getfield 36, 3) (List.mem_of_getElem? (i := 9) rfl)
theorem d_Tally_tell_122 : decode prog_8_method_7_code 122 = .ok (.ireturn, 1) := id_Tally_tell_1 (122, .ireturn, 1) (List.mem_of_getElem? (i := 10) rfl)
theorem d_Tally_tell_123 : decode prog_8_method_7_code 123 = .ok (.iconst (-1), 1) := id_Tally_tell_1 (123, .iconst (-1), 1) (List.mem_of_getElem? (i := 11) rfl)
theorem d_Tally_tell_124 : decode prog_8_method_7_code 124 = .ok (.ireturn, 1) := id_Tally_tell_1 (124, .ireturn, 1) (List.mem_of_getElem? (i := 12) rfl)
theorem wC_Tally_tell : Cond.code ⟨"WarpMill$Tally", "tell", "(I)I"⟩ prog_8_method_7_code 2 (some .int) ∈ lw_tb := mem_tb 501 (by decide +kernel) rfl
def f_Tally_tell (F : Nat) (x0 : Nat) (x1 : Int32) (h : Hp) : Option (Int32 × Hp) := if x1 = 0 then (gd (hK h x0 = 6) <| some ((hI h 320 x0), h)) else if x1 = 1 then (gd (hK h x0 = 6) <| some ((hI h 325 x0), h)) else if x1 = 2 then (gd (hK h x0 = 6) <| some ((hI h 327 x0), h)) else if x1 = 3 then (gd (hK h x0 = 6) <| some ((hI h 328 x0), h)) else if x1 = 6 then (gd (hK h x0 = 6) <| some ((hI h 324 x0), h)) else if x1 = 7 then (gd (hK h x0 = 6) <| some ((hI h 326 x0), h)) else if x1 = 8 then (gd (hK h x0 = 6) <| some ((hI h 330 x0), h)) else if x1 = 9 then (gd (hK h x0 = 6) <| some ((hI h 331 x0), h)) else if x1 = 10 then (gd (hK h x0 = 6) <| some ((hI h 332 x0), h)) else if x1 = 11 then (gd (hK h x0 = 6) <| some ((hI h 333 x0), h)) else if x1 = 12 then (gd (hK h x0 = 6) <| some ((hI h 329 x0), h)) else (some ((-1 : Int32), h))
set_option maxRecDepth 100000 in
set_option maxHeartbeats 4000000 in
theorem e_Tally_tell {G : Gl} {F : Nat} {r : Int32} {h' : Hp} {x0 : Nat} {x1 : Int32} {h : Hp} (hf : f_Tally_tell F x0 x1 h = some (r, h')) : Ex G mi_Tally_tell [.ref x0, .int x1] h (pI r h') := by
  unfold f_Tally_tell at hf
  refine Ex.of nmI (by decide) (Nat.le_of_ble_eq_true rfl) ?_
  show Go G mi_Tally_tell h _ h 0 [(0, .ref x0), (1, .int x1)] []
  refine g_iload_n d_Tally_tell_0 rfl ?_
  refine g_sw sw_0_12 (fun hs_1 => ?_)
  rcases hs_1 with hs_1 | hs_1 | hs_1 | hs_1 | hs_1 | hs_1 | hs_1 | hs_1 | hs_1 | hs_1 | hs_1 | hs_1 | hs_1 | hs_1
  · refine g_tableOut 123 d_Tally_tell_1 hs_1 (by decide) ?_
    have hf := ifn hf (sw_ne hs_1 0 (by decide) (by decide))
    have hf := ifn hf (sw_ne hs_1 1 (by decide) (by decide))
    have hf := ifn hf (sw_ne hs_1 2 (by decide) (by decide))
    have hf := ifn hf (sw_ne hs_1 3 (by decide) (by decide))
    have hf := ifn hf (sw_ne hs_1 6 (by decide) (by decide))
    have hf := ifn hf (sw_ne hs_1 7 (by decide) (by decide))
    have hf := ifn hf (sw_ne hs_1 8 (by decide) (by decide))
    have hf := ifn hf (sw_ne hs_1 9 (by decide) (by decide))
    have hf := ifn hf (sw_ne hs_1 10 (by decide) (by decide))
    have hf := ifn hf (sw_ne hs_1 11 (by decide) (by decide))
    have hf := ifn hf (sw_ne hs_1 12 (by decide) (by decide))
    refine g_iconst (-1) d_Tally_tell_123 (by decide) ?_
    exact Go.ret (some _) (rOk_i _) rfl d_Tally_tell_124 (pI_of hf)
  · refine g_tableIn 68 d_Tally_tell_1 (by rw [hs_1]; decide) (by rw [hs_1]; decide) (by rw [hs_1]; rfl) (by decide) ?_
    have hf := ifp hf hs_1
    refine g_aload_n d_Tally_tell_68 rfl ?_
    obtain ⟨k_69, hf⟩ := gd_s hf
    refine fg_Tally_status lf_Tally_9 d_Tally_tell_69 k_69 ?_
    exact Go.ret (some _) (rOk_i _) rfl d_Tally_tell_72 (pI_of hf)
  · refine g_tableIn 73 d_Tally_tell_1 (by rw [hs_1]; decide) (by rw [hs_1]; decide) (by rw [hs_1]; rfl) (by decide) ?_
    have hf := ifn hf (sw_d hs_1 (by decide))
    have hf := ifp hf hs_1
    refine g_aload_n d_Tally_tell_73 rfl ?_
    obtain ⟨k_74, hf⟩ := gd_s hf
    refine fg_Tally_cycles lf_Tally_27 d_Tally_tell_74 k_74 ?_
    exact Go.ret (some _) (rOk_i _) rfl d_Tally_tell_77 (pI_of hf)
  · refine g_tableIn 78 d_Tally_tell_1 (by rw [hs_1]; decide) (by rw [hs_1]; decide) (by rw [hs_1]; rfl) (by decide) ?_
    have hf := ifn hf (sw_d hs_1 (by decide))
    have hf := ifn hf (sw_d hs_1 (by decide))
    have hf := ifp hf hs_1
    refine g_aload_n d_Tally_tell_78 rfl ?_
    obtain ⟨k_79, hf⟩ := gd_s hf
    refine fg_Tally_went lf_Tally_30 d_Tally_tell_79 k_79 ?_
    exact Go.ret (some _) (rOk_i _) rfl d_Tally_tell_82 (pI_of hf)
  · refine g_tableIn 83 d_Tally_tell_1 (by rw [hs_1]; decide) (by rw [hs_1]; decide) (by rw [hs_1]; rfl) (by decide) ?_
    have hf := ifn hf (sw_d hs_1 (by decide))
    have hf := ifn hf (sw_d hs_1 (by decide))
    have hf := ifn hf (sw_d hs_1 (by decide))
    have hf := ifp hf hs_1
    refine g_aload_n d_Tally_tell_83 rfl ?_
    obtain ⟨k_84, hf⟩ := gd_s hf
    refine fg_Tally_did lf_Tally_33 d_Tally_tell_84 k_84 ?_
    exact Go.ret (some _) (rOk_i _) rfl d_Tally_tell_87 (pI_of hf)
  · refine g_tableIn 123 d_Tally_tell_1 (by rw [hs_1]; decide) (by rw [hs_1]; decide) (by rw [hs_1]; rfl) (by decide) ?_
    have hf := ifn hf (sw_d hs_1 (by decide))
    have hf := ifn hf (sw_d hs_1 (by decide))
    have hf := ifn hf (sw_d hs_1 (by decide))
    have hf := ifn hf (sw_d hs_1 (by decide))
    have hf := ifn hf (sw_d hs_1 (by decide))
    have hf := ifn hf (sw_d hs_1 (by decide))
    have hf := ifn hf (sw_d hs_1 (by decide))
    have hf := ifn hf (sw_d hs_1 (by decide))
    have hf := ifn hf (sw_d hs_1 (by decide))
    have hf := ifn hf (sw_d hs_1 (by decide))
    have hf := ifn hf (sw_d hs_1 (by decide))
    refine g_iconst (-1) d_Tally_tell_123 (by decide) ?_
    exact Go.ret (some _) (rOk_i _) rfl d_Tally_tell_124 (pI_of hf)
  · refine g_tableIn 123 d_Tally_tell_1 (by rw [hs_1]; decide) (by rw [hs_1]; decide) (by rw [hs_1]; rfl) (by decide) ?_
    have hf := ifn hf (sw_d hs_1 (by decide))
    have hf := ifn hf (sw_d hs_1 (by decide))
    have hf := ifn hf (sw_d hs_1 (by decide))
    have hf := ifn hf (sw_d hs_1 (by decide))
    have hf := ifn hf (sw_d hs_1 (by decide))
    have hf := ifn hf (sw_d hs_1 (by decide))
    have hf := ifn hf (sw_d hs_1 (by decide))
    have hf := ifn hf (sw_d hs_1 (by decide))
    have hf := ifn hf (sw_d hs_1 (by decide))
    have hf := ifn hf (sw_d hs_1 (by decide))
    have hf := ifn hf (sw_d hs_1 (by decide))
    refine g_iconst (-1) d_Tally_tell_123 (by decide) ?_
    exact Go.ret (some _) (rOk_i _) rfl d_Tally_tell_124 (pI_of hf)
  · refine g_tableIn 88 d_Tally_tell_1 (by rw [hs_1]; decide) (by rw [hs_1]; decide) (by rw [hs_1]; rfl) (by decide) ?_
    have hf := ifn hf (sw_d hs_1 (by decide))
    have hf := ifn hf (sw_d hs_1 (by decide))
    have hf := ifn hf (sw_d hs_1 (by decide))
    have hf := ifn hf (sw_d hs_1 (by decide))
    have hf := ifp hf hs_1
    refine g_aload_n d_Tally_tell_88 rfl ?_
    obtain ⟨k_89, hf⟩ := gd_s hf
    refine fg_Tally_ended lf_Tally_24 d_Tally_tell_89 k_89 ?_
    exact Go.ret (some _) (rOk_i _) rfl d_Tally_tell_92 (pI_of hf)
  · refine g_tableIn 93 d_Tally_tell_1 (by rw [hs_1]; decide) (by rw [hs_1]; decide) (by rw [hs_1]; rfl) (by decide) ?_
    have hf := ifn hf (sw_d hs_1 (by decide))
    have hf := ifn hf (sw_d hs_1 (by decide))
    have hf := ifn hf (sw_d hs_1 (by decide))
    have hf := ifn hf (sw_d hs_1 (by decide))
    have hf := ifn hf (sw_d hs_1 (by decide))
    have hf := ifp hf hs_1
    refine g_aload_n d_Tally_tell_93 rfl ?_
    obtain ⟨k_94, hf⟩ := gd_s hf
    refine fg_Tally_allCycles lf_Tally_75 d_Tally_tell_94 k_94 ?_
    exact Go.ret (some _) (rOk_i _) rfl d_Tally_tell_97 (pI_of hf)
  · refine g_tableIn 98 d_Tally_tell_1 (by rw [hs_1]; decide) (by rw [hs_1]; decide) (by rw [hs_1]; rfl) (by decide) ?_
    have hf := ifn hf (sw_d hs_1 (by decide))
    have hf := ifn hf (sw_d hs_1 (by decide))
    have hf := ifn hf (sw_d hs_1 (by decide))
    have hf := ifn hf (sw_d hs_1 (by decide))
    have hf := ifn hf (sw_d hs_1 (by decide))
    have hf := ifn hf (sw_d hs_1 (by decide))
    have hf := ifp hf hs_1
    refine g_aload_n d_Tally_tell_98 rfl ?_
    obtain ⟨k_99, hf⟩ := gd_s hf
    refine fg_Tally_why lf_Tally_39 d_Tally_tell_99 k_99 ?_
    exact Go.ret (some _) (rOk_i _) rfl d_Tally_tell_102 (pI_of hf)
  · refine g_tableIn 103 d_Tally_tell_1 (by rw [hs_1]; decide) (by rw [hs_1]; decide) (by rw [hs_1]; rfl) (by decide) ?_
    have hf := ifn hf (sw_d hs_1 (by decide))
    have hf := ifn hf (sw_d hs_1 (by decide))
    have hf := ifn hf (sw_d hs_1 (by decide))
    have hf := ifn hf (sw_d hs_1 (by decide))
    have hf := ifn hf (sw_d hs_1 (by decide))
    have hf := ifn hf (sw_d hs_1 (by decide))
    have hf := ifn hf (sw_d hs_1 (by decide))
    have hf := ifp hf hs_1
    refine g_aload_n d_Tally_tell_103 rfl ?_
    obtain ⟨k_104, hf⟩ := gd_s hf
    refine fg_Tally_trapBlock lf_Tally_42 d_Tally_tell_104 k_104 ?_
    exact Go.ret (some _) (rOk_i _) rfl d_Tally_tell_107 (pI_of hf)
  · refine g_tableIn 108 d_Tally_tell_1 (by rw [hs_1]; decide) (by rw [hs_1]; decide) (by rw [hs_1]; rfl) (by decide) ?_
    have hf := ifn hf (sw_d hs_1 (by decide))
    have hf := ifn hf (sw_d hs_1 (by decide))
    have hf := ifn hf (sw_d hs_1 (by decide))
    have hf := ifn hf (sw_d hs_1 (by decide))
    have hf := ifn hf (sw_d hs_1 (by decide))
    have hf := ifn hf (sw_d hs_1 (by decide))
    have hf := ifn hf (sw_d hs_1 (by decide))
    have hf := ifn hf (sw_d hs_1 (by decide))
    have hf := ifp hf hs_1
    refine g_aload_n d_Tally_tell_108 rfl ?_
    obtain ⟨k_109, hf⟩ := gd_s hf
    refine fg_Tally_trapThread lf_Tally_45 d_Tally_tell_109 k_109 ?_
    exact Go.ret (some _) (rOk_i _) rfl d_Tally_tell_112 (pI_of hf)
  · refine g_tableIn 113 d_Tally_tell_1 (by rw [hs_1]; decide) (by rw [hs_1]; decide) (by rw [hs_1]; rfl) (by decide) ?_
    have hf := ifn hf (sw_d hs_1 (by decide))
    have hf := ifn hf (sw_d hs_1 (by decide))
    have hf := ifn hf (sw_d hs_1 (by decide))
    have hf := ifn hf (sw_d hs_1 (by decide))
    have hf := ifn hf (sw_d hs_1 (by decide))
    have hf := ifn hf (sw_d hs_1 (by decide))
    have hf := ifn hf (sw_d hs_1 (by decide))
    have hf := ifn hf (sw_d hs_1 (by decide))
    have hf := ifn hf (sw_d hs_1 (by decide))
    have hf := ifp hf hs_1
    refine g_aload_n d_Tally_tell_113 rfl ?_
    obtain ⟨k_114, hf⟩ := gd_s hf
    refine fg_Tally_trapPlace lf_Tally_48 d_Tally_tell_114 k_114 ?_
    exact Go.ret (some _) (rOk_i _) rfl d_Tally_tell_117 (pI_of hf)
  · refine g_tableIn 118 d_Tally_tell_1 (by rw [hs_1]; decide) (by rw [hs_1]; decide) (by rw [hs_1]; rfl) (by decide) ?_
    have hf := ifn hf (sw_d hs_1 (by decide))
    have hf := ifn hf (sw_d hs_1 (by decide))
    have hf := ifn hf (sw_d hs_1 (by decide))
    have hf := ifn hf (sw_d hs_1 (by decide))
    have hf := ifn hf (sw_d hs_1 (by decide))
    have hf := ifn hf (sw_d hs_1 (by decide))
    have hf := ifn hf (sw_d hs_1 (by decide))
    have hf := ifn hf (sw_d hs_1 (by decide))
    have hf := ifn hf (sw_d hs_1 (by decide))
    have hf := ifn hf (sw_d hs_1 (by decide))
    have hf := ifp hf hs_1
    refine g_aload_n d_Tally_tell_118 rfl ?_
    obtain ⟨k_119, hf⟩ := gd_s hf
    refine fg_Tally_partly lf_Tally_36 d_Tally_tell_119 k_119 ?_
    exact Go.ret (some _) (rOk_i _) rfl d_Tally_tell_122 (pI_of hf)
abbrev mi_WM_state : MI := (⟨"WarpMill", "state", "(I)I"⟩, prog_1_method_9_code, 2, some .int, 1, 21)
def it_WM_state_0 : List (Nat × ClassFile.Instr × Nat) := [(0, .iload_n 1, 1), (1, .lookupswitch (68) #[((4), (35)), ((5), (46)), ((19), (57))], 35), (36, .aload_n 0, 1), (37, .getfield 25, 3), (40, .getfield 69, 3), (43, .getfield 134, 3), (46, .ireturn, 1), (47, .aload_n 0, 1), (48, .getfield 25, 3), (51, .getfield 69, 3), (54, .getfield 137, 3), (57, .ireturn, 1), (58, .aload_n 0, 1), (59, .getfield 25, 3), (62, .getfield 120, 3), (65, .getfield 140, 3), (68, .ireturn, 1), (69, .iload_n 1, 1), (70, .bipush (13), 2), (72, .if_icmp .lt (23), 3), (75, .iload_n 1, 1), (76, .bipush (18), 2), (78, .if_icmp .gt (17), 3), (81, .aload_n 0, 1)]
theorem id_WM_state_0 : ∀ q ∈ it_WM_state_0, decode prog_1_method_9_code q.1 = .ok q.2 := by decide +kernel
theorem d_WM_state_0 : decode prog_1_method_9_code 0 = .ok (.iload_n 1, 1) := id_WM_state_0 (0, .iload_n 1, 1) (List.mem_of_getElem? (i := 0) rfl)
theorem d_WM_state_1 : decode prog_1_method_9_code 1 = .ok (.lookupswitch (68) #[((4), (35)), ((5), (46)), ((19), (57))], 35) := id_WM_state_0 (1, .lookupswitch (68) #[((4), (35)), ((5), (46)), ((19), (57))], 35) (List.mem_of_getElem? (i := 1) rfl)
theorem d_WM_state_36 : decode prog_1_method_9_code 36 = .ok (.aload_n 0, 1) := id_WM_state_0 (36, .aload_n 0, 1) (List.mem_of_getElem? (i := 2) rfl)
theorem d_WM_state_37 : decode prog_1_method_9_code 37 = .ok (.getfield 25, 3) := id_WM_state_0 (37, .getfield 25, 3) (List.mem_of_getElem? (i := 3) rfl)
theorem d_WM_state_40 : decode prog_1_method_9_code 40 = .ok (.getfield 69, 3) := id_WM_state_0 (40, .getfield 69, 3) (List.mem_of_getElem? (i := 4) rfl)
theorem d_WM_state_43 : decode prog_1_method_9_code 43 = .ok (.getfield 134, 3) := id_WM_state_0 (43, .getfield 134, 3) (List.mem_of_getElem? (i := 5) rfl)
theorem d_WM_state_46 : decode prog_1_method_9_code 46 = .ok (.ireturn, 1) := id_WM_state_0 (46, .ireturn, 1) (List.mem_of_getElem? (i := 6) rfl)
theorem d_WM_state_47 : decode prog_1_method_9_code 47 = .ok (.aload_n 0, 1) := id_WM_state_0 (47, .aload_n 0, 1) (List.mem_of_getElem? (i := 7) rfl)
theorem d_WM_state_48 : decode prog_1_method_9_code 48 = .ok (.getfield 25, 3) := id_WM_state_0 (48, .getfield 25, 3) (List.mem_of_getElem? (i := 8) rfl)
theorem d_WM_state_51 : decode prog_1_method_9_code 51 = .ok (.getfield 69, 3) := id_WM_state_0 (51, .getfield 69, 3) (List.mem_of_getElem? (i := 9) rfl)
theorem d_WM_state_54 : decode prog_1_method_9_code 54 = .ok (.getfield 137, 3) := id_WM_state_0 (54, .getfield 137, 3) (List.mem_of_getElem? (i := 10) rfl)
theorem d_WM_state_57 : decode prog_1_method_9_code 57 = .ok (.ireturn, 1) := id_WM_state_0 (57, .ireturn, 1) (List.mem_of_getElem? (i := 11) rfl)
theorem d_WM_state_58 : decode prog_1_method_9_code 58 = .ok (.aload_n 0, 1) := id_WM_state_0 (58, .aload_n 0, 1) (List.mem_of_getElem? (i := 12) rfl)
theorem d_WM_state_59 : decode prog_1_method_9_code 59 = .ok (.getfield 25, 3) := id_WM_state_0 (59, .getfield 25, 3) (List.mem_of_getElem? (i := 13) rfl)
theorem d_WM_state_62 : decode prog_1_method_9_code 62 = .ok (.getfield 120, 3) := id_WM_state_0 (62, .getfield 120, 3) (List.mem_of_getElem? (i := 14) rfl)
theorem d_WM_state_65 : decode prog_1_method_9_code 65 = .ok (.getfield 140, 3) := id_WM_state_0 (65, .getfield 140, 3) (List.mem_of_getElem? (i := 15) rfl)
theorem d_WM_state_68 : decode prog_1_method_9_code 68 = .ok (.ireturn, 1) := id_WM_state_0 (68, .ireturn, 1) (List.mem_of_getElem? (i := 16) rfl)
theorem d_WM_state_69 : decode prog_1_method_9_code 69 = .ok (.iload_n 1, 1) := id_WM_state_0 (69, .iload_n 1, 1) (List.mem_of_getElem? (i := 17) rfl)
theorem d_WM_state_70 : decode prog_1_method_9_code 70 = .ok (.bipush (13), 2) := id_WM_state_0 (70, .bipush (13), 2) (List.mem_of_getElem? (i := 18) rfl)
theorem d_WM_state_72 : decode prog_1_method_9_code 72 = .ok (.if_icmp .lt (23), 3) := id_WM_state_0 (72, .if_icmp .lt (23), 3) (List.mem_of_getElem? (i := 19) rfl)
theorem d_WM_state_75 : decode prog_1_method_9_code 75 = .ok (.iload_n 1, 1) := id_WM_state_0 (75, .iload_n 1, 1) (List.mem_of_getElem? (i := 20) rfl)
theorem d_WM_state_76 : decode prog_1_method_9_code 76 = .ok (.bipush (18), 2) := id_WM_state_0 (76, .bipush (18), 2) (List.mem_of_getElem? (i := 21) rfl)
theorem d_WM_state_78 : decode prog_1_method_9_code 78 = .ok (.if_icmp .gt (17), 3) := id_WM_state_0 (78, .if_icmp .gt (17), 3) (List.mem_of_getElem? (i := 22) rfl)
theorem d_WM_state_81 : decode prog_1_method_9_code 81 = .ok (.aload_n 0, 1) := id_WM_state_0 (81, .aload_n 0, 1) (List.mem_of_getElem? (i := 23) rfl)
def it_WM_state_1 : List (Nat × ClassFile.Instr × Nat) := [(82, .getfield 10, 3), (85, .iload_n 1, 1), (86, .bipush (13), 2), (88, .isub, 1), (89, .invokevirtual 143, 3), (92, .goto (11), 3), (95, .aload_n 0, 1), (96, .getfield 32, 3), (99, .iload_n 1, 1), (100, .invokevirtual 147, 3), (103, .ireturn, 1)]
theorem id_WM_state_1 : ∀ q ∈ it_WM_state_1, decode prog_1_method_9_code q.1 = .ok q.2 := by decide +kernel
theorem d_WM_state_82 : decode prog_1_method_9_code 82 = .ok (.getfield 10, 3) := id_WM_state_1 (82, .getfield 10, 3) (List.mem_of_getElem? (i := 0) rfl)
theorem d_WM_state_85 : decode prog_1_method_9_code 85 = .ok (.iload_n 1, 1) := id_WM_state_1 (85, .iload_n 1, 1) (List.mem_of_getElem? (i := 1) rfl)
theorem d_WM_state_86 : decode prog_1_method_9_code 86 = .ok (.bipush (13), 2) := id_WM_state_1 (86, .bipush (13), 2) (List.mem_of_getElem? (i := 2) rfl)
theorem d_WM_state_88 : decode prog_1_method_9_code 88 = .ok (.isub, 1) := id_WM_state_1 (88, .isub, 1) (List.mem_of_getElem? (i := 3) rfl)
theorem d_WM_state_89 : decode prog_1_method_9_code 89 = .ok (.invokevirtual 143, 3) := id_WM_state_1 (89, .invokevirtual 143, 3) (List.mem_of_getElem? (i := 4) rfl)
theorem d_WM_state_92 : decode prog_1_method_9_code 92 = .ok (.goto (11), 3) := id_WM_state_1 (92, .goto (11), 3) (List.mem_of_getElem? (i := 5) rfl)
theorem d_WM_state_95 : decode prog_1_method_9_code 95 = .ok (.aload_n 0, 1) := id_WM_state_1 (95, .aload_n 0, 1) (List.mem_of_getElem? (i := 6) rfl)
theorem d_WM_state_96 : decode prog_1_method_9_code 96 = .ok (.getfield 32, 3) := id_WM_state_1 (96, .getfield 32, 3) (List.mem_of_getElem? (i := 7) rfl)
theorem d_WM_state_99 : decode prog_1_method_9_code 99 = .ok (.iload_n 1, 1) := id_WM_state_1 (99, .iload_n 1, 1) (List.mem_of_getElem? (i := 8) rfl)
theorem d_WM_state_100 : decode prog_1_method_9_code 100 = .ok (.invokevirtual 147, 3) := id_WM_state_1 (100, .invokevirtual 147, 3) (List.mem_of_getElem? (i := 9) rfl)
theorem d_WM_state_103 : decode prog_1_method_9_code 103 = .ok (.ireturn, 1) := id_WM_state_1 (103, .ireturn, 1) (List.mem_of_getElem? (i := 10) rfl)
theorem wC_WM_state : Cond.code ⟨"WarpMill", "state", "(I)I"⟩ prog_1_method_9_code 2 (some .int) ∈ lw_tb := mem_tb 493 (by decide +kernel) rfl
theorem cw_WM_state_Sizes_tell : cW mi_WM_state mi_Sizes_tell 1 := ⟨wC_Sizes_tell, wi_Sizes, ⟨by decide, by decide, by decide +kernel⟩, by decide, by decide⟩
theorem cw_WM_state_Tally_tell : cW mi_WM_state mi_Tally_tell 1 := ⟨wC_Tally_tell, wi_Tally, ⟨by decide, by decide, by decide +kernel⟩, by decide, by decide⟩
def b_WM_state_95 (F : Nat) (x0 : Nat) (x1 : Int32) (h : Hp) : Option (Int32 × Hp) := gd (hK h x0 = 1) <| rq h (hR h 3 x0) 6 fun a_96_2 => cl (f_Tally_tell F a_96_2 x1 h) fun v_100 h_100 => some (v_100, h_100)
set_option maxRecDepth 100000 in
set_option maxHeartbeats 4000000 in
theorem e_WM_state_95 {G : Gl} {h0 : Hp} {F : Nat} {r : Int32} {h' : Hp}   {x0 : Nat} {x1 : Int32} {h : Hp} (hf : b_WM_state_95 F x0 x1 h = some (r, h')) : Go G mi_WM_state h0 (pI r h') h 95 [(0, .ref x0), (1, .int x1)] [] := by
  unfold b_WM_state_95 at hf
  refine g_aload_n d_WM_state_95 rfl ?_
  obtain ⟨k_96, hf⟩ := gd_s hf
  obtain ⟨a_96_2, e_96_2, k_96_2, hf⟩ := rq_s hf
  refine fgs_WM_tally lf_WM_32 d_WM_state_96 k_96 e_96_2 ?_
  refine g_iload_n d_WM_state_99 rfl ?_
  obtain ⟨v_100, h_100, e_100, hf⟩ := cl_s hf
  refine g_callV (mz := mi_Tally_tell) (e_Tally_tell e_100) cw_WM_state_Tally_tell lm_WM_147 wI_Tally_tell wV_Tally_tell (ci := 5) k_96_2 (by decide) rfl rfl d_WM_state_100 rfl rfl (by first | exact Nat.le_of_ble_eq_true rfl | simp [cat_rf, Value.category]) (fun r1 h1 hp hro => ?_)
  obtain ⟨rfl, rfl⟩ := hp
  dsimp only [Option.toList_some, Option.toList_none, List.cons_append, List.nil_append]
  exact Go.ret (some _) (rOk_i _) rfl d_WM_state_103 (pI_of hf)
def f_WM_state (F : Nat) (x0 : Nat) (x1 : Int32) (h : Hp) : Option (Int32 × Hp) := if x1 = 4 then (gd (hK h x0 = 1) <| rq h (hR h 2 x0) 3 fun a_37_2 => rq h (hR h 129 a_37_2) 4 fun a_40 => some ((hI h 194 a_40), h)) else if x1 = 5 then (gd (hK h x0 = 1) <| rq h (hR h 2 x0) 3 fun a_48_2 => rq h (hR h 129 a_48_2) 4 fun a_51 => some ((hI h 195 a_51), h)) else if x1 = 19 then (gd (hK h x0 = 1) <| rq h (hR h 2 x0) 3 fun a_59_2 => rq h (hR h 130 a_59_2) 5 fun a_62 => some ((hI h 259 a_62), h)) else (if x1 < (13 : Int32) then (b_WM_state_95 F x0 x1 h) else (if (18 : Int32) < x1 then (b_WM_state_95 F x0 x1 h) else (gd (hK h x0 = 1) <| rq h (hR h 0 x0) 2 fun a_82_2 => cl (f_Sizes_tell F a_82_2 (x1 - (13 : Int32)) h) fun v_89 h_89 => some (v_89, h_89))))
set_option maxRecDepth 100000 in
set_option maxHeartbeats 4000000 in
theorem e_WM_state {G : Gl} {F : Nat} {r : Int32} {h' : Hp} {x0 : Nat} {x1 : Int32} {h : Hp} (hf : f_WM_state F x0 x1 h = some (r, h')) : Ex G mi_WM_state [.ref x0, .int x1] h (pI r h') := by
  unfold f_WM_state at hf
  refine Ex.of nmI (by decide) (Nat.le_of_ble_eq_true rfl) ?_
  show Go G mi_WM_state h _ h 0 [(0, .ref x0), (1, .int x1)] []
  refine g_iload_n d_WM_state_0 rfl ?_
  refine g_byc (4) (fun hs_1 => ?_) (fun n0_1 => ?_)
  · refine g_lookup 36 d_WM_state_1 (by decide) (by rw [hs_1] <;> rfl) (by decide) ?_
    have hf := ifp hf hs_1
    refine g_aload_n d_WM_state_36 rfl ?_
    obtain ⟨k_37, hf⟩ := gd_s hf
    obtain ⟨a_37_2, e_37_2, k_37_2, hf⟩ := rq_s hf
    refine fgs_WM_memory lf_WM_25 d_WM_state_37 k_37 e_37_2 ?_
    obtain ⟨a_40, e_40, k_40, hf⟩ := rq_s hf
    refine fgs_Memory_cache lf_WM_69 d_WM_state_40 k_37_2 e_40 ?_
    refine fg_Cache_hits lf_WM_134 d_WM_state_43 k_40 ?_
    exact Go.ret (some _) (rOk_i _) rfl d_WM_state_46 (pI_of hf)
  have hf := ifn hf n0_1
  refine g_byc (5) (fun hs_1 => ?_) (fun n1_1 => ?_)
  · refine g_lookup 47 d_WM_state_1 (by decide) (by rw [hs_1] <;> rfl) (by decide) ?_
    have hf := ifp hf hs_1
    refine g_aload_n d_WM_state_47 rfl ?_
    obtain ⟨k_48, hf⟩ := gd_s hf
    obtain ⟨a_48_2, e_48_2, k_48_2, hf⟩ := rq_s hf
    refine fgs_WM_memory lf_WM_25 d_WM_state_48 k_48 e_48_2 ?_
    obtain ⟨a_51, e_51, k_51, hf⟩ := rq_s hf
    refine fgs_Memory_cache lf_WM_69 d_WM_state_51 k_48_2 e_51 ?_
    refine fg_Cache_misses lf_WM_137 d_WM_state_54 k_51 ?_
    exact Go.ret (some _) (rOk_i _) rfl d_WM_state_57 (pI_of hf)
  have hf := ifn hf n1_1
  refine g_byc (19) (fun hs_1 => ?_) (fun n2_1 => ?_)
  · refine g_lookup 58 d_WM_state_1 (by decide) (by rw [hs_1] <;> rfl) (by decide) ?_
    have hf := ifp hf hs_1
    refine g_aload_n d_WM_state_58 rfl ?_
    obtain ⟨k_59, hf⟩ := gd_s hf
    obtain ⟨a_59_2, e_59_2, k_59_2, hf⟩ := rq_s hf
    refine fgs_WM_memory lf_WM_25 d_WM_state_59 k_59 e_59_2 ?_
    obtain ⟨a_62, e_62, k_62, hf⟩ := rq_s hf
    refine fgs_Memory_pending lf_WM_120 d_WM_state_62 k_59_2 e_62 ?_
    refine fg_Pending_count lf_WM_140 d_WM_state_65 k_62 ?_
    exact Go.ret (some _) (rOk_i _) rfl d_WM_state_68 (pI_of hf)
  have hf := ifn hf n2_1
  refine g_lookup (off := 68) 69 d_WM_state_1 (by decide) (lo_c (i32n n0_1 (by decide)) (lo_c (i32n n1_1 (by decide)) (lo_c (i32n n2_1 (by decide)) rfl))) (by decide) ?_
  refine g_iload_n d_WM_state_69 rfl ?_
  refine g_bipush (13) d_WM_state_70 (by decide) ?_
  refine g_icmp_lt 95 d_WM_state_72 (by decide) (fun c_72 => ?_) (fun c_72 => ?_)
  · have hf := ifp hf c_72
    have key := e_WM_state_95 (G := G) (h0 := h)  hf
    exact key
  · have hf := ifn hf c_72
    refine g_iload_n d_WM_state_75 rfl ?_
    refine g_bipush (18) d_WM_state_76 (by decide) ?_
    refine g_icmp_gt 95 d_WM_state_78 (by decide) (fun c_78 => ?_) (fun c_78 => ?_)
    · have hf := ifp hf c_78
      have key := e_WM_state_95 (G := G) (h0 := h)  hf
      exact key
    · have hf := ifn hf c_78
      refine g_aload_n d_WM_state_81 rfl ?_
      obtain ⟨k_82, hf⟩ := gd_s hf
      obtain ⟨a_82_2, e_82_2, k_82_2, hf⟩ := rq_s hf
      refine fgs_WM_sizes lf_WM_10 d_WM_state_82 k_82 e_82_2 ?_
      refine g_iload_n d_WM_state_85 rfl ?_
      refine g_bipush (13) d_WM_state_86 (by decide) ?_
      refine g_isub d_WM_state_88 ?_
      obtain ⟨v_89, h_89, e_89, hf⟩ := cl_s hf
      refine g_callV (mz := mi_Sizes_tell) (e_Sizes_tell e_89) cw_WM_state_Sizes_tell lm_WM_143 wI_Sizes_tell wV_Sizes_tell (ci := 1) k_82_2 (by decide) rfl rfl d_WM_state_89 rfl rfl (by first | exact Nat.le_of_ble_eq_true rfl | simp [cat_rf, Value.category]) (fun r1 h1 hp hro => ?_)
      obtain ⟨rfl, rfl⟩ := hp
      dsimp only [Option.toList_some, Option.toList_none, List.cons_append, List.nil_append]
      refine g_goto 103 d_WM_state_92 (by decide) ?_
      exact Go.ret (some _) (rOk_i _) rfl d_WM_state_103 (pI_of hf)
abbrev mi_Mod_state : MI := (⟨"WarpMillModel", "state", "(I)I"⟩, prog_13_method_64_code, 2, some .int, 0, 0)
def it_Mod_state_0 : List (Nat × ClassFile.Instr × Nat) := [(0, .aload_n 0, 1), (1, .iconst 0, 1), (2, .putfield 120, 3), (5, .iload_n 1, 1), (6, .tableswitch (194) (0) (19) #[(94), (99), (104), (109), (114), (119), (124), (129), (134), (139), (144), (149), (154), (159), (164), (169), (174), (179), (184), (189)], 94), (100, .aload_n 0, 1), (101, .getfield 136, 3), (104, .ireturn, 1), (105, .aload_n 0, 1), (106, .getfield 159, 3), (109, .ireturn, 1), (110, .aload_n 0, 1), (111, .getfield 162, 3), (114, .ireturn, 1), (115, .aload_n 0, 1), (116, .getfield 165, 3), (119, .ireturn, 1), (120, .aload_n 0, 1), (121, .getfield 171, 3), (124, .ireturn, 1), (125, .aload_n 0, 1), (126, .getfield 174, 3), (129, .ireturn, 1), (130, .aload_n 0, 1)]
theorem id_Mod_state_0 : ∀ q ∈ it_Mod_state_0, decode prog_13_method_64_code q.1 = .ok q.2 := by decide +kernel
theorem d_Mod_state_0 : decode prog_13_method_64_code 0 = .ok (.aload_n 0, 1) := id_Mod_state_0 (0, .aload_n 0, 1) (List.mem_of_getElem? (i := 0) rfl)
theorem d_Mod_state_1 : decode prog_13_method_64_code 1 = .ok (.iconst 0, 1) := id_Mod_state_0 (1, .iconst 0, 1) (List.mem_of_getElem? (i := 1) rfl)
theorem d_Mod_state_2 : decode prog_13_method_64_code 2 = .ok (.putfield 120, 3) := id_Mod_state_0 (2, .putfield 120, 3) (List.mem_of_getElem? (i := 2) rfl)
theorem d_Mod_state_5 : decode prog_13_method_64_code 5 = .ok (.iload_n 1, 1) := id_Mod_state_0 (5, .iload_n 1, 1) (List.mem_of_getElem? (i := 3) rfl)
theorem d_Mod_state_6 : decode prog_13_method_64_code 6 = .ok (.tableswitch (194) (0) (19) #[(94), (99), (104), (109), (114), (119), (124), (129), (134), (139), (144), (149), (154), (159), (164), (169), (174), (179), (184), (189)], 94) := id_Mod_state_0 (6, .tableswitch (194) (0) (19) #[(94), (99), (104), (109), (114), (119), (124), (129), (134), (139), (144), (149), (154), (159), (164), (169), (174), (179), (184), (189)], 94) (List.mem_of_getElem? (i := 4) rfl)
theorem d_Mod_state_100 : decode prog_13_method_64_code 100 = .ok (.aload_n 0, 1) := id_Mod_state_0 (100, .aload_n 0, 1) (List.mem_of_getElem? (i := 5) rfl)
theorem d_Mod_state_101 : decode prog_13_method_64_code 101 = .ok (.getfield 136, 3) := id_Mod_state_0 (101, .getfield 136, 3) (List.mem_of_getElem? (i := 6) rfl)
theorem d_Mod_state_104 : decode prog_13_method_64_code 104 = .ok (.ireturn, 1) := id_Mod_state_0 (104, .ireturn, 1) (List.mem_of_getElem? (i := 7) rfl)
theorem d_Mod_state_105 : decode prog_13_method_64_code 105 = .ok (.aload_n 0, 1) := id_Mod_state_0 (105, .aload_n 0, 1) (List.mem_of_getElem? (i := 8) rfl)
theorem d_Mod_state_106 : decode prog_13_method_64_code 106 = .ok (.getfield 159, 3) := id_Mod_state_0 (106, .getfield 159, 3) (List.mem_of_getElem? (i := 9) rfl)
theorem d_Mod_state_109 : decode prog_13_method_64_code 109 = .ok (.ireturn, 1) := id_Mod_state_0 (109, .ireturn, 1) (List.mem_of_getElem? (i := 10) rfl)
theorem d_Mod_state_110 : decode prog_13_method_64_code 110 = .ok (.aload_n 0, 1) := id_Mod_state_0 (110, .aload_n 0, 1) (List.mem_of_getElem? (i := 11) rfl)
theorem d_Mod_state_111 : decode prog_13_method_64_code 111 = .ok (.getfield 162, 3) := id_Mod_state_0 (111, .getfield 162, 3) (List.mem_of_getElem? (i := 12) rfl)
theorem d_Mod_state_114 : decode prog_13_method_64_code 114 = .ok (.ireturn, 1) := id_Mod_state_0 (114, .ireturn, 1) (List.mem_of_getElem? (i := 13) rfl)
theorem d_Mod_state_115 : decode prog_13_method_64_code 115 = .ok (.aload_n 0, 1) := id_Mod_state_0 (115, .aload_n 0, 1) (List.mem_of_getElem? (i := 14) rfl)
theorem d_Mod_state_116 : decode prog_13_method_64_code 116 = .ok (.getfield 165, 3) := id_Mod_state_0 (116, .getfield 165, 3) (List.mem_of_getElem? (i := 15) rfl)
theorem d_Mod_state_119 : decode prog_13_method_64_code 119 = .ok (.ireturn, 1) := id_Mod_state_0 (119, .ireturn, 1) (List.mem_of_getElem? (i := 16) rfl)
theorem d_Mod_state_120 : decode prog_13_method_64_code 120 = .ok (.aload_n 0, 1) := id_Mod_state_0 (120, .aload_n 0, 1) (List.mem_of_getElem? (i := 17) rfl)
theorem d_Mod_state_121 : decode prog_13_method_64_code 121 = .ok (.getfield 171, 3) := id_Mod_state_0 (121, .getfield 171, 3) (List.mem_of_getElem? (i := 18) rfl)
theorem d_Mod_state_124 : decode prog_13_method_64_code 124 = .ok (.ireturn, 1) := id_Mod_state_0 (124, .ireturn, 1) (List.mem_of_getElem? (i := 19) rfl)
theorem d_Mod_state_125 : decode prog_13_method_64_code 125 = .ok (.aload_n 0, 1) := id_Mod_state_0 (125, .aload_n 0, 1) (List.mem_of_getElem? (i := 20) rfl)
theorem d_Mod_state_126 : decode prog_13_method_64_code 126 = .ok (.getfield 174, 3) := id_Mod_state_0 (126, .getfield 174, 3) (List.mem_of_getElem? (i := 21) rfl)
theorem d_Mod_state_129 : decode prog_13_method_64_code 129 = .ok (.ireturn, 1) := id_Mod_state_0 (129, .ireturn, 1) (List.mem_of_getElem? (i := 22) rfl)
theorem d_Mod_state_130 : decode prog_13_method_64_code 130 = .ok (.aload_n 0, 1) := id_Mod_state_0 (130, .aload_n 0, 1) (List.mem_of_getElem? (i := 23) rfl)
def it_Mod_state_1 : List (Nat × ClassFile.Instr × Nat) := [(131, .getfield 177, 3), (134, .ireturn, 1), (135, .aload_n 0, 1), (136, .getfield 368, 3), (139, .ireturn, 1), (140, .aload_n 0, 1), (141, .getfield 180, 3), (144, .ireturn, 1), (145, .aload_n 0, 1), (146, .getfield 183, 3), (149, .ireturn, 1), (150, .aload_n 0, 1), (151, .getfield 186, 3), (154, .ireturn, 1), (155, .aload_n 0, 1), (156, .getfield 189, 3), (159, .ireturn, 1), (160, .aload_n 0, 1), (161, .getfield 168, 3), (164, .ireturn, 1), (165, .aload_n 0, 1), (166, .getfield 7, 3), (169, .ireturn, 1), (170, .aload_n 0, 1)]
theorem id_Mod_state_1 : ∀ q ∈ it_Mod_state_1, decode prog_13_method_64_code q.1 = .ok q.2 := by decide +kernel
theorem d_Mod_state_131 : decode prog_13_method_64_code 131 = .ok (.getfield 177, 3) := id_Mod_state_1 (131, .getfield 177, 3) (List.mem_of_getElem? (i := 0) rfl)
theorem d_Mod_state_134 : decode prog_13_method_64_code 134 = .ok (.ireturn, 1) := id_Mod_state_1 (134, .ireturn, 1) (List.mem_of_getElem? (i := 1) rfl)
theorem d_Mod_state_135 : decode prog_13_method_64_code 135 = .ok (.aload_n 0, 1) := id_Mod_state_1 (135, .aload_n 0, 1) (List.mem_of_getElem? (i := 2) rfl)
theorem d_Mod_state_136 : decode prog_13_method_64_code 136 = .ok (.getfield 368, 3) := id_Mod_state_1 (136, .getfield 368, 3) (List.mem_of_getElem? (i := 3) rfl)
theorem d_Mod_state_139 : decode prog_13_method_64_code 139 = .ok (.ireturn, 1) := id_Mod_state_1 (139, .ireturn, 1) (List.mem_of_getElem? (i := 4) rfl)
theorem d_Mod_state_140 : decode prog_13_method_64_code 140 = .ok (.aload_n 0, 1) := id_Mod_state_1 (140, .aload_n 0, 1) (List.mem_of_getElem? (i := 5) rfl)
theorem d_Mod_state_141 : decode prog_13_method_64_code 141 = .ok (.getfield 180, 3) := id_Mod_state_1 (141, .getfield 180, 3) (List.mem_of_getElem? (i := 6) rfl)
theorem d_Mod_state_144 : decode prog_13_method_64_code 144 = .ok (.ireturn, 1) := id_Mod_state_1 (144, .ireturn, 1) (List.mem_of_getElem? (i := 7) rfl)
theorem d_Mod_state_145 : decode prog_13_method_64_code 145 = .ok (.aload_n 0, 1) := id_Mod_state_1 (145, .aload_n 0, 1) (List.mem_of_getElem? (i := 8) rfl)
theorem d_Mod_state_146 : decode prog_13_method_64_code 146 = .ok (.getfield 183, 3) := id_Mod_state_1 (146, .getfield 183, 3) (List.mem_of_getElem? (i := 9) rfl)
theorem d_Mod_state_149 : decode prog_13_method_64_code 149 = .ok (.ireturn, 1) := id_Mod_state_1 (149, .ireturn, 1) (List.mem_of_getElem? (i := 10) rfl)
theorem d_Mod_state_150 : decode prog_13_method_64_code 150 = .ok (.aload_n 0, 1) := id_Mod_state_1 (150, .aload_n 0, 1) (List.mem_of_getElem? (i := 11) rfl)
theorem d_Mod_state_151 : decode prog_13_method_64_code 151 = .ok (.getfield 186, 3) := id_Mod_state_1 (151, .getfield 186, 3) (List.mem_of_getElem? (i := 12) rfl)
theorem d_Mod_state_154 : decode prog_13_method_64_code 154 = .ok (.ireturn, 1) := id_Mod_state_1 (154, .ireturn, 1) (List.mem_of_getElem? (i := 13) rfl)
theorem d_Mod_state_155 : decode prog_13_method_64_code 155 = .ok (.aload_n 0, 1) := id_Mod_state_1 (155, .aload_n 0, 1) (List.mem_of_getElem? (i := 14) rfl)
theorem d_Mod_state_156 : decode prog_13_method_64_code 156 = .ok (.getfield 189, 3) := id_Mod_state_1 (156, .getfield 189, 3) (List.mem_of_getElem? (i := 15) rfl)
theorem d_Mod_state_159 : decode prog_13_method_64_code 159 = .ok (.ireturn, 1) := id_Mod_state_1 (159, .ireturn, 1) (List.mem_of_getElem? (i := 16) rfl)
theorem d_Mod_state_160 : decode prog_13_method_64_code 160 = .ok (.aload_n 0, 1) := id_Mod_state_1 (160, .aload_n 0, 1) (List.mem_of_getElem? (i := 17) rfl)
theorem d_Mod_state_161 : decode prog_13_method_64_code 161 = .ok (.getfield 168, 3) := id_Mod_state_1 (161, .getfield 168, 3) (List.mem_of_getElem? (i := 18) rfl)
theorem d_Mod_state_164 : decode prog_13_method_64_code 164 = .ok (.ireturn, 1) := id_Mod_state_1 (164, .ireturn, 1) (List.mem_of_getElem? (i := 19) rfl)
theorem d_Mod_state_165 : decode prog_13_method_64_code 165 = .ok (.aload_n 0, 1) := id_Mod_state_1 (165, .aload_n 0, 1) (List.mem_of_getElem? (i := 20) rfl)
theorem d_Mod_state_166 : decode prog_13_method_64_code 166 = .ok (.getfield 7, 3) := id_Mod_state_1 (166, .getfield 7, 3) (List.mem_of_getElem? (i := 21) rfl)
theorem d_Mod_state_169 : decode prog_13_method_64_code 169 = .ok (.ireturn, 1) := id_Mod_state_1 (169, .ireturn, 1) (List.mem_of_getElem? (i := 22) rfl)
theorem d_Mod_state_170 : decode prog_13_method_64_code 170 = .ok (.aload_n 0, 1) := id_Mod_state_1 (170, .aload_n 0, 1) (List.mem_of_getElem? (i := 23) rfl)
def it_Mod_state_2 : List (Nat × ClassFile.Instr × Nat) := [(171, .getfield 13, 3), (174, .ireturn, 1), (175, .aload_n 0, 1), (176, .getfield 16, 3), (179, .ireturn, 1), (180, .aload_n 0, 1), (181, .getfield 19, 3), (184, .ireturn, 1), (185, .aload_n 0, 1), (186, .getfield 22, 3), (189, .ireturn, 1), (190, .aload_n 0, 1), (191, .getfield 25, 3), (194, .ireturn, 1), (195, .aload_n 0, 1), (196, .getfield 129, 3), (199, .ireturn, 1), (200, .iconst (-1), 1), (201, .ireturn, 1)]
theorem id_Mod_state_2 : ∀ q ∈ it_Mod_state_2, decode prog_13_method_64_code q.1 = .ok q.2 := by decide +kernel
theorem d_Mod_state_171 : decode prog_13_method_64_code 171 = .ok (.getfield 13, 3) := id_Mod_state_2 (171, .getfield 13, 3) (List.mem_of_getElem? (i := 0) rfl)
theorem d_Mod_state_174 : decode prog_13_method_64_code 174 = .ok (.ireturn, 1) := id_Mod_state_2 (174, .ireturn, 1) (List.mem_of_getElem? (i := 1) rfl)
theorem d_Mod_state_175 : decode prog_13_method_64_code 175 = .ok (.aload_n 0, 1) := id_Mod_state_2 (175, .aload_n 0, 1) (List.mem_of_getElem? (i := 2) rfl)
theorem d_Mod_state_176 : decode prog_13_method_64_code 176 = .ok (.getfield 16, 3) := id_Mod_state_2 (176, .getfield 16, 3) (List.mem_of_getElem? (i := 3) rfl)
theorem d_Mod_state_179 : decode prog_13_method_64_code 179 = .ok (.ireturn, 1) := id_Mod_state_2 (179, .ireturn, 1) (List.mem_of_getElem? (i := 4) rfl)
theorem d_Mod_state_180 : decode prog_13_method_64_code 180 = .ok (.aload_n 0, 1) := id_Mod_state_2 (180, .aload_n 0, 1) (List.mem_of_getElem? (i := 5) rfl)
theorem d_Mod_state_181 : decode prog_13_method_64_code 181 = .ok (.getfield 19, 3) := id_Mod_state_2 (181, .getfield 19, 3) (List.mem_of_getElem? (i := 6) rfl)
theorem d_Mod_state_184 : decode prog_13_method_64_code 184 = .ok (.ireturn, 1) := id_Mod_state_2 (184, .ireturn, 1) (List.mem_of_getElem? (i := 7) rfl)
theorem d_Mod_state_185 : decode prog_13_method_64_code 185 = .ok (.aload_n 0, 1) := id_Mod_state_2 (185, .aload_n 0, 1) (List.mem_of_getElem? (i := 8) rfl)
theorem d_Mod_state_186 : decode prog_13_method_64_code 186 = .ok (.getfield 22, 3) := id_Mod_state_2 (186, .getfield 22, 3) (List.mem_of_getElem? (i := 9) rfl)
theorem d_Mod_state_189 : decode prog_13_method_64_code 189 = .ok (.ireturn, 1) := id_Mod_state_2 (189, .ireturn, 1) (List.mem_of_getElem? (i := 10) rfl)
theorem d_Mod_state_190 : decode prog_13_method_64_code 190 = .ok (.aload_n 0, 1) := id_Mod_state_2 (190, .aload_n 0, 1) (List.mem_of_getElem? (i := 11) rfl)
theorem d_Mod_state_191 : decode prog_13_method_64_code 191 = .ok (.getfield 25, 3) := id_Mod_state_2 (191, .getfield 25, 3) (List.mem_of_getElem? (i := 12) rfl)
theorem d_Mod_state_194 : decode prog_13_method_64_code 194 = .ok (.ireturn, 1) := id_Mod_state_2 (194, .ireturn, 1) (List.mem_of_getElem? (i := 13) rfl)
theorem d_Mod_state_195 : decode prog_13_method_64_code 195 = .ok (.aload_n 0, 1) := id_Mod_state_2 (195, .aload_n 0, 1) (List.mem_of_getElem? (i := 14) rfl)
theorem d_Mod_state_196 : decode prog_13_method_64_code 196 = .ok (.getfield 129, 3) := id_Mod_state_2 (196, .getfield 129, 3) (List.mem_of_getElem? (i := 15) rfl)
theorem d_Mod_state_199 : decode prog_13_method_64_code 199 = .ok (.ireturn, 1) := id_Mod_state_2 (199, .ireturn, 1) (List.mem_of_getElem? (i := 16) rfl)
theorem d_Mod_state_200 : decode prog_13_method_64_code 200 = .ok (.iconst (-1), 1) := id_Mod_state_2 (200, .iconst (-1), 1) (List.mem_of_getElem? (i := 17) rfl)
theorem d_Mod_state_201 : decode prog_13_method_64_code 201 = .ok (.ireturn, 1) := id_Mod_state_2 (201, .ireturn, 1) (List.mem_of_getElem? (i := 18) rfl)
theorem wC_Mod_state : Cond.code ⟨"WarpMillModel", "state", "(I)I"⟩ prog_13_method_64_code 2 (some .int) ∈ lw_tb := mem_tb 1484 (by decide +kernel) rfl
def f_Mod_state (F : Nat) (x0 : Nat) (x1 : Int32) (h : Hp) : Option (Int32 × Hp) := gd (hK h x0 = 12) <| pw (sI h 704 x0 (0 : Int32)) fun h_2_2 => if x1 = 0 then (some ((hI h_2_2 715 x0), h_2_2)) else if x1 = 1 then (some ((hI h_2_2 719 x0), h_2_2)) else if x1 = 2 then (some ((hI h_2_2 720 x0), h_2_2)) else if x1 = 3 then (some ((hI h_2_2 721 x0), h_2_2)) else if x1 = 4 then (some ((hI h_2_2 723 x0), h_2_2)) else if x1 = 5 then (some ((hI h_2_2 724 x0), h_2_2)) else if x1 = 6 then (some ((hI h_2_2 725 x0), h_2_2)) else if x1 = 7 then (some ((hI h_2_2 726 x0), h_2_2)) else if x1 = 8 then (some ((hI h_2_2 727 x0), h_2_2)) else if x1 = 9 then (some ((hI h_2_2 728 x0), h_2_2)) else if x1 = 10 then (some ((hI h_2_2 729 x0), h_2_2)) else if x1 = 11 then (some ((hI h_2_2 730 x0), h_2_2)) else if x1 = 12 then (some ((hI h_2_2 722 x0), h_2_2)) else if x1 = 13 then (some ((hI h_2_2 705 x0), h_2_2)) else if x1 = 14 then (some ((hI h_2_2 706 x0), h_2_2)) else if x1 = 15 then (some ((hI h_2_2 707 x0), h_2_2)) else if x1 = 16 then (some ((hI h_2_2 708 x0), h_2_2)) else if x1 = 17 then (some ((hI h_2_2 709 x0), h_2_2)) else if x1 = 18 then (some ((hI h_2_2 710 x0), h_2_2)) else if x1 = 19 then (some ((hI h_2_2 745 x0), h_2_2)) else (some ((-1 : Int32), h_2_2))
set_option maxRecDepth 100000 in
set_option maxHeartbeats 4000000 in
theorem e_Mod_state {G : Gl} (hw : gF G) {F : Nat} {r : Int32} {h' : Hp} {x0 : Nat} {x1 : Int32} {h : Hp} (hf : f_Mod_state F x0 x1 h = some (r, h')) : Ex G mi_Mod_state [.ref x0, .int x1] h (pI r h') := by
  unfold f_Mod_state at hf
  refine Ex.of nmI (by decide) (Nat.le_of_ble_eq_true rfl) ?_
  show Go G mi_Mod_state h _ h 0 [(0, .ref x0), (1, .int x1)] []
  refine g_aload_n d_Mod_state_0 rfl ?_
  refine g_iconst 0 d_Mod_state_1 (by decide) ?_
  obtain ⟨k_2, hf⟩ := gd_s hf
  refine fp_Mod_thrown hw lf_Mod_120 d_Mod_state_2 k_2 ?_
  have hf := pw_b hf
  refine g_iload_n d_Mod_state_5 rfl ?_
  refine g_sw sw_0_19 (fun hs_6 => ?_)
  rcases hs_6 with hs_6 | hs_6 | hs_6 | hs_6 | hs_6 | hs_6 | hs_6 | hs_6 | hs_6 | hs_6 | hs_6 | hs_6 | hs_6 | hs_6 | hs_6 | hs_6 | hs_6 | hs_6 | hs_6 | hs_6 | hs_6
  · refine g_tableOut 200 d_Mod_state_6 hs_6 (by decide) ?_
    have hf := ifn hf (sw_ne hs_6 0 (by decide) (by decide))
    have hf := ifn hf (sw_ne hs_6 1 (by decide) (by decide))
    have hf := ifn hf (sw_ne hs_6 2 (by decide) (by decide))
    have hf := ifn hf (sw_ne hs_6 3 (by decide) (by decide))
    have hf := ifn hf (sw_ne hs_6 4 (by decide) (by decide))
    have hf := ifn hf (sw_ne hs_6 5 (by decide) (by decide))
    have hf := ifn hf (sw_ne hs_6 6 (by decide) (by decide))
    have hf := ifn hf (sw_ne hs_6 7 (by decide) (by decide))
    have hf := ifn hf (sw_ne hs_6 8 (by decide) (by decide))
    have hf := ifn hf (sw_ne hs_6 9 (by decide) (by decide))
    have hf := ifn hf (sw_ne hs_6 10 (by decide) (by decide))
    have hf := ifn hf (sw_ne hs_6 11 (by decide) (by decide))
    have hf := ifn hf (sw_ne hs_6 12 (by decide) (by decide))
    have hf := ifn hf (sw_ne hs_6 13 (by decide) (by decide))
    have hf := ifn hf (sw_ne hs_6 14 (by decide) (by decide))
    have hf := ifn hf (sw_ne hs_6 15 (by decide) (by decide))
    have hf := ifn hf (sw_ne hs_6 16 (by decide) (by decide))
    have hf := ifn hf (sw_ne hs_6 17 (by decide) (by decide))
    have hf := ifn hf (sw_ne hs_6 18 (by decide) (by decide))
    have hf := ifn hf (sw_ne hs_6 19 (by decide) (by decide))
    refine g_iconst (-1) d_Mod_state_200 (by decide) ?_
    exact Go.ret (some _) (rOk_i _) rfl d_Mod_state_201 (pI_of hf)
  · refine g_tableIn 100 d_Mod_state_6 (by rw [hs_6]; decide) (by rw [hs_6]; decide) (by rw [hs_6]; rfl) (by decide) ?_
    have hf := ifp hf hs_6
    refine g_aload_n d_Mod_state_100 rfl ?_
    refine fg_Mod_status lf_Mod_136 d_Mod_state_101 (kksI k_2) ?_
    exact Go.ret (some _) (rOk_i _) rfl d_Mod_state_104 (pI_of hf)
  · refine g_tableIn 105 d_Mod_state_6 (by rw [hs_6]; decide) (by rw [hs_6]; decide) (by rw [hs_6]; rfl) (by decide) ?_
    have hf := ifn hf (sw_d hs_6 (by decide))
    have hf := ifp hf hs_6
    refine g_aload_n d_Mod_state_105 rfl ?_
    refine fg_Mod_cycle lf_Mod_159 d_Mod_state_106 (kksI k_2) ?_
    exact Go.ret (some _) (rOk_i _) rfl d_Mod_state_109 (pI_of hf)
  · refine g_tableIn 110 d_Mod_state_6 (by rw [hs_6]; decide) (by rw [hs_6]; decide) (by rw [hs_6]; rfl) (by decide) ?_
    have hf := ifn hf (sw_d hs_6 (by decide))
    have hf := ifn hf (sw_d hs_6 (by decide))
    have hf := ifp hf hs_6
    refine g_aload_n d_Mod_state_110 rfl ?_
    refine fg_Mod_went lf_Mod_162 d_Mod_state_111 (kksI k_2) ?_
    exact Go.ret (some _) (rOk_i _) rfl d_Mod_state_114 (pI_of hf)
  · refine g_tableIn 115 d_Mod_state_6 (by rw [hs_6]; decide) (by rw [hs_6]; decide) (by rw [hs_6]; rfl) (by decide) ?_
    have hf := ifn hf (sw_d hs_6 (by decide))
    have hf := ifn hf (sw_d hs_6 (by decide))
    have hf := ifn hf (sw_d hs_6 (by decide))
    have hf := ifp hf hs_6
    refine g_aload_n d_Mod_state_115 rfl ?_
    refine fg_Mod_did lf_Mod_165 d_Mod_state_116 (kksI k_2) ?_
    exact Go.ret (some _) (rOk_i _) rfl d_Mod_state_119 (pI_of hf)
  · refine g_tableIn 120 d_Mod_state_6 (by rw [hs_6]; decide) (by rw [hs_6]; decide) (by rw [hs_6]; rfl) (by decide) ?_
    have hf := ifn hf (sw_d hs_6 (by decide))
    have hf := ifn hf (sw_d hs_6 (by decide))
    have hf := ifn hf (sw_d hs_6 (by decide))
    have hf := ifn hf (sw_d hs_6 (by decide))
    have hf := ifp hf hs_6
    refine g_aload_n d_Mod_state_120 rfl ?_
    refine fg_Mod_hits lf_Mod_171 d_Mod_state_121 (kksI k_2) ?_
    exact Go.ret (some _) (rOk_i _) rfl d_Mod_state_124 (pI_of hf)
  · refine g_tableIn 125 d_Mod_state_6 (by rw [hs_6]; decide) (by rw [hs_6]; decide) (by rw [hs_6]; rfl) (by decide) ?_
    have hf := ifn hf (sw_d hs_6 (by decide))
    have hf := ifn hf (sw_d hs_6 (by decide))
    have hf := ifn hf (sw_d hs_6 (by decide))
    have hf := ifn hf (sw_d hs_6 (by decide))
    have hf := ifn hf (sw_d hs_6 (by decide))
    have hf := ifp hf hs_6
    refine g_aload_n d_Mod_state_125 rfl ?_
    refine fg_Mod_others lf_Mod_174 d_Mod_state_126 (kksI k_2) ?_
    exact Go.ret (some _) (rOk_i _) rfl d_Mod_state_129 (pI_of hf)
  · refine g_tableIn 130 d_Mod_state_6 (by rw [hs_6]; decide) (by rw [hs_6]; decide) (by rw [hs_6]; rfl) (by decide) ?_
    have hf := ifn hf (sw_d hs_6 (by decide))
    have hf := ifn hf (sw_d hs_6 (by decide))
    have hf := ifn hf (sw_d hs_6 (by decide))
    have hf := ifn hf (sw_d hs_6 (by decide))
    have hf := ifn hf (sw_d hs_6 (by decide))
    have hf := ifn hf (sw_d hs_6 (by decide))
    have hf := ifp hf hs_6
    refine g_aload_n d_Mod_state_130 rfl ?_
    refine fg_Mod_ended lf_Mod_177 d_Mod_state_131 (kksI k_2) ?_
    exact Go.ret (some _) (rOk_i _) rfl d_Mod_state_134 (pI_of hf)
  · refine g_tableIn 135 d_Mod_state_6 (by rw [hs_6]; decide) (by rw [hs_6]; decide) (by rw [hs_6]; rfl) (by decide) ?_
    have hf := ifn hf (sw_d hs_6 (by decide))
    have hf := ifn hf (sw_d hs_6 (by decide))
    have hf := ifn hf (sw_d hs_6 (by decide))
    have hf := ifn hf (sw_d hs_6 (by decide))
    have hf := ifn hf (sw_d hs_6 (by decide))
    have hf := ifn hf (sw_d hs_6 (by decide))
    have hf := ifn hf (sw_d hs_6 (by decide))
    have hf := ifp hf hs_6
    refine g_aload_n d_Mod_state_135 rfl ?_
    refine fg_Mod_inAll lf_Mod_368 d_Mod_state_136 (kksI k_2) ?_
    exact Go.ret (some _) (rOk_i _) rfl d_Mod_state_139 (pI_of hf)
  · refine g_tableIn 140 d_Mod_state_6 (by rw [hs_6]; decide) (by rw [hs_6]; decide) (by rw [hs_6]; rfl) (by decide) ?_
    have hf := ifn hf (sw_d hs_6 (by decide))
    have hf := ifn hf (sw_d hs_6 (by decide))
    have hf := ifn hf (sw_d hs_6 (by decide))
    have hf := ifn hf (sw_d hs_6 (by decide))
    have hf := ifn hf (sw_d hs_6 (by decide))
    have hf := ifn hf (sw_d hs_6 (by decide))
    have hf := ifn hf (sw_d hs_6 (by decide))
    have hf := ifn hf (sw_d hs_6 (by decide))
    have hf := ifp hf hs_6
    refine g_aload_n d_Mod_state_140 rfl ?_
    refine fg_Mod_why lf_Mod_180 d_Mod_state_141 (kksI k_2) ?_
    exact Go.ret (some _) (rOk_i _) rfl d_Mod_state_144 (pI_of hf)
  · refine g_tableIn 145 d_Mod_state_6 (by rw [hs_6]; decide) (by rw [hs_6]; decide) (by rw [hs_6]; rfl) (by decide) ?_
    have hf := ifn hf (sw_d hs_6 (by decide))
    have hf := ifn hf (sw_d hs_6 (by decide))
    have hf := ifn hf (sw_d hs_6 (by decide))
    have hf := ifn hf (sw_d hs_6 (by decide))
    have hf := ifn hf (sw_d hs_6 (by decide))
    have hf := ifn hf (sw_d hs_6 (by decide))
    have hf := ifn hf (sw_d hs_6 (by decide))
    have hf := ifn hf (sw_d hs_6 (by decide))
    have hf := ifn hf (sw_d hs_6 (by decide))
    have hf := ifp hf hs_6
    refine g_aload_n d_Mod_state_145 rfl ?_
    refine fg_Mod_whyBlock lf_Mod_183 d_Mod_state_146 (kksI k_2) ?_
    exact Go.ret (some _) (rOk_i _) rfl d_Mod_state_149 (pI_of hf)
  · refine g_tableIn 150 d_Mod_state_6 (by rw [hs_6]; decide) (by rw [hs_6]; decide) (by rw [hs_6]; rfl) (by decide) ?_
    have hf := ifn hf (sw_d hs_6 (by decide))
    have hf := ifn hf (sw_d hs_6 (by decide))
    have hf := ifn hf (sw_d hs_6 (by decide))
    have hf := ifn hf (sw_d hs_6 (by decide))
    have hf := ifn hf (sw_d hs_6 (by decide))
    have hf := ifn hf (sw_d hs_6 (by decide))
    have hf := ifn hf (sw_d hs_6 (by decide))
    have hf := ifn hf (sw_d hs_6 (by decide))
    have hf := ifn hf (sw_d hs_6 (by decide))
    have hf := ifn hf (sw_d hs_6 (by decide))
    have hf := ifp hf hs_6
    refine g_aload_n d_Mod_state_150 rfl ?_
    refine fg_Mod_whyThread lf_Mod_186 d_Mod_state_151 (kksI k_2) ?_
    exact Go.ret (some _) (rOk_i _) rfl d_Mod_state_154 (pI_of hf)
  · refine g_tableIn 155 d_Mod_state_6 (by rw [hs_6]; decide) (by rw [hs_6]; decide) (by rw [hs_6]; rfl) (by decide) ?_
    have hf := ifn hf (sw_d hs_6 (by decide))
    have hf := ifn hf (sw_d hs_6 (by decide))
    have hf := ifn hf (sw_d hs_6 (by decide))
    have hf := ifn hf (sw_d hs_6 (by decide))
    have hf := ifn hf (sw_d hs_6 (by decide))
    have hf := ifn hf (sw_d hs_6 (by decide))
    have hf := ifn hf (sw_d hs_6 (by decide))
    have hf := ifn hf (sw_d hs_6 (by decide))
    have hf := ifn hf (sw_d hs_6 (by decide))
    have hf := ifn hf (sw_d hs_6 (by decide))
    have hf := ifn hf (sw_d hs_6 (by decide))
    have hf := ifp hf hs_6
    refine g_aload_n d_Mod_state_155 rfl ?_
    refine fg_Mod_whyPlace lf_Mod_189 d_Mod_state_156 (kksI k_2) ?_
    exact Go.ret (some _) (rOk_i _) rfl d_Mod_state_159 (pI_of hf)
  · refine g_tableIn 160 d_Mod_state_6 (by rw [hs_6]; decide) (by rw [hs_6]; decide) (by rw [hs_6]; rfl) (by decide) ?_
    have hf := ifn hf (sw_d hs_6 (by decide))
    have hf := ifn hf (sw_d hs_6 (by decide))
    have hf := ifn hf (sw_d hs_6 (by decide))
    have hf := ifn hf (sw_d hs_6 (by decide))
    have hf := ifn hf (sw_d hs_6 (by decide))
    have hf := ifn hf (sw_d hs_6 (by decide))
    have hf := ifn hf (sw_d hs_6 (by decide))
    have hf := ifn hf (sw_d hs_6 (by decide))
    have hf := ifn hf (sw_d hs_6 (by decide))
    have hf := ifn hf (sw_d hs_6 (by decide))
    have hf := ifn hf (sw_d hs_6 (by decide))
    have hf := ifn hf (sw_d hs_6 (by decide))
    have hf := ifp hf hs_6
    refine g_aload_n d_Mod_state_160 rfl ?_
    refine fg_Mod_partly lf_Mod_168 d_Mod_state_161 (kksI k_2) ?_
    exact Go.ret (some _) (rOk_i _) rfl d_Mod_state_164 (pI_of hf)
  · refine g_tableIn 165 d_Mod_state_6 (by rw [hs_6]; decide) (by rw [hs_6]; decide) (by rw [hs_6]; rfl) (by decide) ?_
    have hf := ifn hf (sw_d hs_6 (by decide))
    have hf := ifn hf (sw_d hs_6 (by decide))
    have hf := ifn hf (sw_d hs_6 (by decide))
    have hf := ifn hf (sw_d hs_6 (by decide))
    have hf := ifn hf (sw_d hs_6 (by decide))
    have hf := ifn hf (sw_d hs_6 (by decide))
    have hf := ifn hf (sw_d hs_6 (by decide))
    have hf := ifn hf (sw_d hs_6 (by decide))
    have hf := ifn hf (sw_d hs_6 (by decide))
    have hf := ifn hf (sw_d hs_6 (by decide))
    have hf := ifn hf (sw_d hs_6 (by decide))
    have hf := ifn hf (sw_d hs_6 (by decide))
    have hf := ifn hf (sw_d hs_6 (by decide))
    have hf := ifp hf hs_6
    refine g_aload_n d_Mod_state_165 rfl ?_
    refine fg_Mod_lanes lf_Mod_7 d_Mod_state_166 (kksI k_2) ?_
    exact Go.ret (some _) (rOk_i _) rfl d_Mod_state_169 (pI_of hf)
  · refine g_tableIn 170 d_Mod_state_6 (by rw [hs_6]; decide) (by rw [hs_6]; decide) (by rw [hs_6]; rfl) (by decide) ?_
    have hf := ifn hf (sw_d hs_6 (by decide))
    have hf := ifn hf (sw_d hs_6 (by decide))
    have hf := ifn hf (sw_d hs_6 (by decide))
    have hf := ifn hf (sw_d hs_6 (by decide))
    have hf := ifn hf (sw_d hs_6 (by decide))
    have hf := ifn hf (sw_d hs_6 (by decide))
    have hf := ifn hf (sw_d hs_6 (by decide))
    have hf := ifn hf (sw_d hs_6 (by decide))
    have hf := ifn hf (sw_d hs_6 (by decide))
    have hf := ifn hf (sw_d hs_6 (by decide))
    have hf := ifn hf (sw_d hs_6 (by decide))
    have hf := ifn hf (sw_d hs_6 (by decide))
    have hf := ifn hf (sw_d hs_6 (by decide))
    have hf := ifn hf (sw_d hs_6 (by decide))
    have hf := ifp hf hs_6
    refine g_aload_n d_Mod_state_170 rfl ?_
    refine fg_Mod_slots lf_Mod_13 d_Mod_state_171 (kksI k_2) ?_
    exact Go.ret (some _) (rOk_i _) rfl d_Mod_state_174 (pI_of hf)
  · refine g_tableIn 175 d_Mod_state_6 (by rw [hs_6]; decide) (by rw [hs_6]; decide) (by rw [hs_6]; rfl) (by decide) ?_
    have hf := ifn hf (sw_d hs_6 (by decide))
    have hf := ifn hf (sw_d hs_6 (by decide))
    have hf := ifn hf (sw_d hs_6 (by decide))
    have hf := ifn hf (sw_d hs_6 (by decide))
    have hf := ifn hf (sw_d hs_6 (by decide))
    have hf := ifn hf (sw_d hs_6 (by decide))
    have hf := ifn hf (sw_d hs_6 (by decide))
    have hf := ifn hf (sw_d hs_6 (by decide))
    have hf := ifn hf (sw_d hs_6 (by decide))
    have hf := ifn hf (sw_d hs_6 (by decide))
    have hf := ifn hf (sw_d hs_6 (by decide))
    have hf := ifn hf (sw_d hs_6 (by decide))
    have hf := ifn hf (sw_d hs_6 (by decide))
    have hf := ifn hf (sw_d hs_6 (by decide))
    have hf := ifn hf (sw_d hs_6 (by decide))
    have hf := ifp hf hs_6
    refine g_aload_n d_Mod_state_175 rfl ?_
    refine fg_Mod_units lf_Mod_16 d_Mod_state_176 (kksI k_2) ?_
    exact Go.ret (some _) (rOk_i _) rfl d_Mod_state_179 (pI_of hf)
  · refine g_tableIn 180 d_Mod_state_6 (by rw [hs_6]; decide) (by rw [hs_6]; decide) (by rw [hs_6]; rfl) (by decide) ?_
    have hf := ifn hf (sw_d hs_6 (by decide))
    have hf := ifn hf (sw_d hs_6 (by decide))
    have hf := ifn hf (sw_d hs_6 (by decide))
    have hf := ifn hf (sw_d hs_6 (by decide))
    have hf := ifn hf (sw_d hs_6 (by decide))
    have hf := ifn hf (sw_d hs_6 (by decide))
    have hf := ifn hf (sw_d hs_6 (by decide))
    have hf := ifn hf (sw_d hs_6 (by decide))
    have hf := ifn hf (sw_d hs_6 (by decide))
    have hf := ifn hf (sw_d hs_6 (by decide))
    have hf := ifn hf (sw_d hs_6 (by decide))
    have hf := ifn hf (sw_d hs_6 (by decide))
    have hf := ifn hf (sw_d hs_6 (by decide))
    have hf := ifn hf (sw_d hs_6 (by decide))
    have hf := ifn hf (sw_d hs_6 (by decide))
    have hf := ifn hf (sw_d hs_6 (by decide))
    have hf := ifp hf hs_6
    refine g_aload_n d_Mod_state_180 rfl ?_
    refine fg_Mod_banks lf_Mod_19 d_Mod_state_181 (kksI k_2) ?_
    exact Go.ret (some _) (rOk_i _) rfl d_Mod_state_184 (pI_of hf)
  · refine g_tableIn 185 d_Mod_state_6 (by rw [hs_6]; decide) (by rw [hs_6]; decide) (by rw [hs_6]; rfl) (by decide) ?_
    have hf := ifn hf (sw_d hs_6 (by decide))
    have hf := ifn hf (sw_d hs_6 (by decide))
    have hf := ifn hf (sw_d hs_6 (by decide))
    have hf := ifn hf (sw_d hs_6 (by decide))
    have hf := ifn hf (sw_d hs_6 (by decide))
    have hf := ifn hf (sw_d hs_6 (by decide))
    have hf := ifn hf (sw_d hs_6 (by decide))
    have hf := ifn hf (sw_d hs_6 (by decide))
    have hf := ifn hf (sw_d hs_6 (by decide))
    have hf := ifn hf (sw_d hs_6 (by decide))
    have hf := ifn hf (sw_d hs_6 (by decide))
    have hf := ifn hf (sw_d hs_6 (by decide))
    have hf := ifn hf (sw_d hs_6 (by decide))
    have hf := ifn hf (sw_d hs_6 (by decide))
    have hf := ifn hf (sw_d hs_6 (by decide))
    have hf := ifn hf (sw_d hs_6 (by decide))
    have hf := ifn hf (sw_d hs_6 (by decide))
    have hf := ifp hf hs_6
    refine g_aload_n d_Mod_state_185 rfl ?_
    refine fg_Mod_gates lf_Mod_22 d_Mod_state_186 (kksI k_2) ?_
    exact Go.ret (some _) (rOk_i _) rfl d_Mod_state_189 (pI_of hf)
  · refine g_tableIn 190 d_Mod_state_6 (by rw [hs_6]; decide) (by rw [hs_6]; decide) (by rw [hs_6]; rfl) (by decide) ?_
    have hf := ifn hf (sw_d hs_6 (by decide))
    have hf := ifn hf (sw_d hs_6 (by decide))
    have hf := ifn hf (sw_d hs_6 (by decide))
    have hf := ifn hf (sw_d hs_6 (by decide))
    have hf := ifn hf (sw_d hs_6 (by decide))
    have hf := ifn hf (sw_d hs_6 (by decide))
    have hf := ifn hf (sw_d hs_6 (by decide))
    have hf := ifn hf (sw_d hs_6 (by decide))
    have hf := ifn hf (sw_d hs_6 (by decide))
    have hf := ifn hf (sw_d hs_6 (by decide))
    have hf := ifn hf (sw_d hs_6 (by decide))
    have hf := ifn hf (sw_d hs_6 (by decide))
    have hf := ifn hf (sw_d hs_6 (by decide))
    have hf := ifn hf (sw_d hs_6 (by decide))
    have hf := ifn hf (sw_d hs_6 (by decide))
    have hf := ifn hf (sw_d hs_6 (by decide))
    have hf := ifn hf (sw_d hs_6 (by decide))
    have hf := ifn hf (sw_d hs_6 (by decide))
    have hf := ifp hf hs_6
    refine g_aload_n d_Mod_state_190 rfl ?_
    refine fg_Mod_ints lf_Mod_25 d_Mod_state_191 (kksI k_2) ?_
    exact Go.ret (some _) (rOk_i _) rfl d_Mod_state_194 (pI_of hf)
  · refine g_tableIn 195 d_Mod_state_6 (by rw [hs_6]; decide) (by rw [hs_6]; decide) (by rw [hs_6]; rfl) (by decide) ?_
    have hf := ifn hf (sw_d hs_6 (by decide))
    have hf := ifn hf (sw_d hs_6 (by decide))
    have hf := ifn hf (sw_d hs_6 (by decide))
    have hf := ifn hf (sw_d hs_6 (by decide))
    have hf := ifn hf (sw_d hs_6 (by decide))
    have hf := ifn hf (sw_d hs_6 (by decide))
    have hf := ifn hf (sw_d hs_6 (by decide))
    have hf := ifn hf (sw_d hs_6 (by decide))
    have hf := ifn hf (sw_d hs_6 (by decide))
    have hf := ifn hf (sw_d hs_6 (by decide))
    have hf := ifn hf (sw_d hs_6 (by decide))
    have hf := ifn hf (sw_d hs_6 (by decide))
    have hf := ifn hf (sw_d hs_6 (by decide))
    have hf := ifn hf (sw_d hs_6 (by decide))
    have hf := ifn hf (sw_d hs_6 (by decide))
    have hf := ifn hf (sw_d hs_6 (by decide))
    have hf := ifn hf (sw_d hs_6 (by decide))
    have hf := ifn hf (sw_d hs_6 (by decide))
    have hf := ifn hf (sw_d hs_6 (by decide))
    have hf := ifp hf hs_6
    refine g_aload_n d_Mod_state_195 rfl ?_
    refine fg_Mod_pending lf_Mod_129 d_Mod_state_196 (kksI k_2) ?_
    exact Go.ret (some _) (rOk_i _) rfl d_Mod_state_199 (pI_of hf)
abbrev mi_WM_isUnit : MI := (⟨"WarpMill", "isUnit", "(I)Z"⟩, prog_1_method_15_code, 2, some .boolean, 0, 0)
def it_WM_isUnit_0 : List (Nat × ClassFile.Instr × Nat) := [(0, .iload_n 1, 1), (1, .ifCond .lt (18), 3), (4, .iload_n 1, 1), (5, .aload_n 0, 1), (6, .getfield 10, 3), (9, .getfield 180, 3), (12, .if_icmp .ge (7), 3), (15, .iconst 1, 1), (16, .goto (4), 3), (19, .iconst 0, 1), (20, .ireturn, 1)]
theorem id_WM_isUnit_0 : ∀ q ∈ it_WM_isUnit_0, decode prog_1_method_15_code q.1 = .ok q.2 := by decide +kernel
theorem d_WM_isUnit_0 : decode prog_1_method_15_code 0 = .ok (.iload_n 1, 1) := id_WM_isUnit_0 (0, .iload_n 1, 1) (List.mem_of_getElem? (i := 0) rfl)
theorem d_WM_isUnit_1 : decode prog_1_method_15_code 1 = .ok (.ifCond .lt (18), 3) := id_WM_isUnit_0 (1, .ifCond .lt (18), 3) (List.mem_of_getElem? (i := 1) rfl)
theorem d_WM_isUnit_4 : decode prog_1_method_15_code 4 = .ok (.iload_n 1, 1) := id_WM_isUnit_0 (4, .iload_n 1, 1) (List.mem_of_getElem? (i := 2) rfl)
theorem d_WM_isUnit_5 : decode prog_1_method_15_code 5 = .ok (.aload_n 0, 1) := id_WM_isUnit_0 (5, .aload_n 0, 1) (List.mem_of_getElem? (i := 3) rfl)
theorem d_WM_isUnit_6 : decode prog_1_method_15_code 6 = .ok (.getfield 10, 3) := id_WM_isUnit_0 (6, .getfield 10, 3) (List.mem_of_getElem? (i := 4) rfl)
theorem d_WM_isUnit_9 : decode prog_1_method_15_code 9 = .ok (.getfield 180, 3) := id_WM_isUnit_0 (9, .getfield 180, 3) (List.mem_of_getElem? (i := 5) rfl)
theorem d_WM_isUnit_12 : decode prog_1_method_15_code 12 = .ok (.if_icmp .ge (7), 3) := id_WM_isUnit_0 (12, .if_icmp .ge (7), 3) (List.mem_of_getElem? (i := 6) rfl)
theorem d_WM_isUnit_15 : decode prog_1_method_15_code 15 = .ok (.iconst 1, 1) := id_WM_isUnit_0 (15, .iconst 1, 1) (List.mem_of_getElem? (i := 7) rfl)
theorem d_WM_isUnit_16 : decode prog_1_method_15_code 16 = .ok (.goto (4), 3) := id_WM_isUnit_0 (16, .goto (4), 3) (List.mem_of_getElem? (i := 8) rfl)
theorem d_WM_isUnit_19 : decode prog_1_method_15_code 19 = .ok (.iconst 0, 1) := id_WM_isUnit_0 (19, .iconst 0, 1) (List.mem_of_getElem? (i := 9) rfl)
theorem d_WM_isUnit_20 : decode prog_1_method_15_code 20 = .ok (.ireturn, 1) := id_WM_isUnit_0 (20, .ireturn, 1) (List.mem_of_getElem? (i := 10) rfl)
theorem wC_WM_isUnit : Cond.code ⟨"WarpMill", "isUnit", "(I)Z"⟩ prog_1_method_15_code 2 (some .boolean) ∈ lw_tb := mem_tb 509 (by decide +kernel) rfl
def f_WM_isUnit (F : Nat) (x0 : Nat) (x1 : Int32) (h : Hp) : Option (Int32 × Hp) := if x1 < 0 then (some ((0 : Int32), h)) else (gd (hK h x0 = 1) <| rq h (hR h 0 x0) 2 fun a_6_2 => if (hI h 66 a_6_2) ≤ x1 then (some ((0 : Int32), h)) else (some ((1 : Int32), h)))
set_option maxRecDepth 100000 in
set_option maxHeartbeats 4000000 in
theorem e_WM_isUnit {G : Gl} {F : Nat} {r : Int32} {h' : Hp} {x0 : Nat} {x1 : Int32} {h : Hp} (hf : f_WM_isUnit F x0 x1 h = some (r, h')) : Ex G mi_WM_isUnit [.ref x0, .int x1] h (pI r h') := by
  unfold f_WM_isUnit at hf
  refine Ex.of nmI (by decide) (Nat.le_of_ble_eq_true rfl) ?_
  show Go G mi_WM_isUnit h _ h 0 [(0, .ref x0), (1, .int x1)] []
  refine g_iload_n d_WM_isUnit_0 rfl ?_
  refine g_if_lt 19 d_WM_isUnit_1 (by decide) (fun c_1 => ?_) (fun c_1 => ?_)
  · have hf := ifp hf c_1
    refine g_iconst 0 d_WM_isUnit_19 (by decide) ?_
    exact Go.ret (some _) rOk_b0 rfl d_WM_isUnit_20 (pI_of hf)
  · have hf := ifn hf c_1
    refine g_iload_n d_WM_isUnit_4 rfl ?_
    refine g_aload_n d_WM_isUnit_5 rfl ?_
    obtain ⟨k_6, hf⟩ := gd_s hf
    obtain ⟨a_6_2, e_6_2, k_6_2, hf⟩ := rq_s hf
    refine fgs_WM_sizes lf_WM_10 d_WM_isUnit_6 k_6 e_6_2 ?_
    refine fg_Sizes_units lf_WM_180 d_WM_isUnit_9 k_6_2 ?_
    refine g_icmp_ge 19 d_WM_isUnit_12 (by decide) (fun c_12 => ?_) (fun c_12 => ?_)
    · have hf := ifp hf c_12
      refine g_iconst 0 d_WM_isUnit_19 (by decide) ?_
      exact Go.ret (some _) rOk_b0 rfl d_WM_isUnit_20 (pI_of hf)
    · have hf := ifn hf c_12
      refine g_iconst 1 d_WM_isUnit_15 (by decide) ?_
      refine g_goto 20 d_WM_isUnit_16 (by decide) ?_
      exact Go.ret (some _) rOk_b1 rfl d_WM_isUnit_20 (pI_of hf)
abbrev mi_Unit_tell : MI := (⟨"WarpMill$Unit", "tell", "(I)I"⟩, prog_9_method_10_code, 2, some .int, 0, 0)
def it_Unit_tell_0 : List (Nat × ClassFile.Instr × Nat) := [(0, .iload_n 1, 1), (1, .tableswitch (51) (0) (3) #[(31), (36), (41), (46)], 31), (32, .aload_n 0, 1), (33, .getfield 34, 3), (36, .ireturn, 1), (37, .aload_n 0, 1), (38, .getfield 37, 3), (41, .ireturn, 1), (42, .aload_n 0, 1), (43, .getfield 28, 3), (46, .ireturn, 1), (47, .aload_n 0, 1), (48, .getfield 31, 3), (51, .ireturn, 1), (52, .iconst (-1), 1), (53, .ireturn, 1)]
theorem id_Unit_tell_0 : ∀ q ∈ it_Unit_tell_0, decode prog_9_method_10_code q.1 = .ok q.2 := by decide +kernel
theorem d_Unit_tell_0 : decode prog_9_method_10_code 0 = .ok (.iload_n 1, 1) := id_Unit_tell_0 (0, .iload_n 1, 1) (List.mem_of_getElem? (i := 0) rfl)
theorem d_Unit_tell_1 : decode prog_9_method_10_code 1 = .ok (.tableswitch (51) (0) (3) #[(31), (36), (41), (46)], 31) := id_Unit_tell_0 (1, .tableswitch (51) (0) (3) #[(31), (36), (41), (46)], 31) (List.mem_of_getElem? (i := 1) rfl)
theorem d_Unit_tell_32 : decode prog_9_method_10_code 32 = .ok (.aload_n 0, 1) := id_Unit_tell_0 (32, .aload_n 0, 1) (List.mem_of_getElem? (i := 2) rfl)
theorem d_Unit_tell_33 : decode prog_9_method_10_code 33 = .ok (.getfield 34, 3) := id_Unit_tell_0 (33, .getfield 34, 3) (List.mem_of_getElem? (i := 3) rfl)
theorem d_Unit_tell_36 : decode prog_9_method_10_code 36 = .ok (.ireturn, 1) := id_Unit_tell_0 (36, .ireturn, 1) (List.mem_of_getElem? (i := 4) rfl)
theorem d_Unit_tell_37 : decode prog_9_method_10_code 37 = .ok (.aload_n 0, 1) := id_Unit_tell_0 (37, .aload_n 0, 1) (List.mem_of_getElem? (i := 5) rfl)
theorem d_Unit_tell_38 : decode prog_9_method_10_code 38 = .ok (.getfield 37, 3) := id_Unit_tell_0 (38, .getfield 37, 3) (List.mem_of_getElem? (i := 6) rfl)
theorem d_Unit_tell_41 : decode prog_9_method_10_code 41 = .ok (.ireturn, 1) := id_Unit_tell_0 (41, .ireturn, 1) (List.mem_of_getElem? (i := 7) rfl)
theorem d_Unit_tell_42 : decode prog_9_method_10_code 42 = .ok (.aload_n 0, 1) := id_Unit_tell_0 (42, .aload_n 0, 1) (List.mem_of_getElem? (i := 8) rfl)
theorem d_Unit_tell_43 : decode prog_9_method_10_code 43 = .ok (.getfield 28, 3) := id_Unit_tell_0 (43, .getfield 28, 3) (List.mem_of_getElem? (i := 9) rfl)
theorem d_Unit_tell_46 : decode prog_9_method_10_code 46 = .ok (.ireturn, 1) := id_Unit_tell_0 (46, .ireturn, 1) (List.mem_of_getElem? (i := 10) rfl)
theorem d_Unit_tell_47 : decode prog_9_method_10_code 47 = .ok (.aload_n 0, 1) := id_Unit_tell_0 (47, .aload_n 0, 1) (List.mem_of_getElem? (i := 11) rfl)
theorem d_Unit_tell_48 : decode prog_9_method_10_code 48 = .ok (.getfield 31, 3) := id_Unit_tell_0 (48, .getfield 31, 3) (List.mem_of_getElem? (i := 12) rfl)
theorem d_Unit_tell_51 : decode prog_9_method_10_code 51 = .ok (.ireturn, 1) := id_Unit_tell_0 (51, .ireturn, 1) (List.mem_of_getElem? (i := 13) rfl)
theorem d_Unit_tell_52 : decode prog_9_method_10_code 52 = .ok (.iconst (-1), 1) := id_Unit_tell_0 (52, .iconst (-1), 1) (List.mem_of_getElem? (i := 14) rfl)
theorem d_Unit_tell_53 : decode prog_9_method_10_code 53 = .ok (.ireturn, 1) := id_Unit_tell_0 (53, .ireturn, 1) (List.mem_of_getElem? (i := 15) rfl)
theorem wC_Unit_tell : Cond.code ⟨"WarpMill$Unit", "tell", "(I)I"⟩ prog_9_method_10_code 2 (some .int) ∈ lw_tb := mem_tb 513 (by decide +kernel) rfl
def f_Unit_tell (F : Nat) (x0 : Nat) (x1 : Int32) (h : Hp) : Option (Int32 × Hp) := if x1 = 0 then (gd (hK h x0 = 7) <| some ((hI h 390 x0), h)) else if x1 = 1 then (gd (hK h x0 = 7) <| some ((hI h 391 x0), h)) else if x1 = 2 then (gd (hK h x0 = 7) <| some ((hI h 388 x0), h)) else if x1 = 3 then (gd (hK h x0 = 7) <| some ((hI h 389 x0), h)) else (some ((-1 : Int32), h))
set_option maxRecDepth 100000 in
set_option maxHeartbeats 4000000 in
theorem e_Unit_tell {G : Gl} {F : Nat} {r : Int32} {h' : Hp} {x0 : Nat} {x1 : Int32} {h : Hp} (hf : f_Unit_tell F x0 x1 h = some (r, h')) : Ex G mi_Unit_tell [.ref x0, .int x1] h (pI r h') := by
  unfold f_Unit_tell at hf
  refine Ex.of nmI (by decide) (Nat.le_of_ble_eq_true rfl) ?_
  show Go G mi_Unit_tell h _ h 0 [(0, .ref x0), (1, .int x1)] []
  refine g_iload_n d_Unit_tell_0 rfl ?_
  refine g_sw sw_0_3 (fun hs_1 => ?_)
  rcases hs_1 with hs_1 | hs_1 | hs_1 | hs_1 | hs_1
  · refine g_tableOut 52 d_Unit_tell_1 hs_1 (by decide) ?_
    have hf := ifn hf (sw_ne hs_1 0 (by decide) (by decide))
    have hf := ifn hf (sw_ne hs_1 1 (by decide) (by decide))
    have hf := ifn hf (sw_ne hs_1 2 (by decide) (by decide))
    have hf := ifn hf (sw_ne hs_1 3 (by decide) (by decide))
    refine g_iconst (-1) d_Unit_tell_52 (by decide) ?_
    exact Go.ret (some _) (rOk_i _) rfl d_Unit_tell_53 (pI_of hf)
  · refine g_tableIn 32 d_Unit_tell_1 (by rw [hs_1]; decide) (by rw [hs_1]; decide) (by rw [hs_1]; rfl) (by decide) ?_
    have hf := ifp hf hs_1
    refine g_aload_n d_Unit_tell_32 rfl ?_
    obtain ⟨k_33, hf⟩ := gd_s hf
    refine fg_Unit_dividerTick lf_Unit_34 d_Unit_tell_33 k_33 ?_
    exact Go.ret (some _) (rOk_i _) rfl d_Unit_tell_36 (pI_of hf)
  · refine g_tableIn 37 d_Unit_tell_1 (by rw [hs_1]; decide) (by rw [hs_1]; decide) (by rw [hs_1]; rfl) (by decide) ?_
    have hf := ifn hf (sw_d hs_1 (by decide))
    have hf := ifp hf hs_1
    refine g_aload_n d_Unit_tell_37 rfl ?_
    obtain ⟨k_38, hf⟩ := gd_s hf
    refine fg_Unit_sharedTick lf_Unit_37 d_Unit_tell_38 k_38 ?_
    exact Go.ret (some _) (rOk_i _) rfl d_Unit_tell_41 (pI_of hf)
  · refine g_tableIn 42 d_Unit_tell_1 (by rw [hs_1]; decide) (by rw [hs_1]; decide) (by rw [hs_1]; rfl) (by decide) ?_
    have hf := ifn hf (sw_d hs_1 (by decide))
    have hf := ifn hf (sw_d hs_1 (by decide))
    have hf := ifp hf hs_1
    refine g_aload_n d_Unit_tell_42 rfl ?_
    obtain ⟨k_43, hf⟩ := gd_s hf
    refine fg_Unit_last lf_Unit_28 d_Unit_tell_43 k_43 ?_
    exact Go.ret (some _) (rOk_i _) rfl d_Unit_tell_46 (pI_of hf)
  · refine g_tableIn 47 d_Unit_tell_1 (by rw [hs_1]; decide) (by rw [hs_1]; decide) (by rw [hs_1]; rfl) (by decide) ?_
    have hf := ifn hf (sw_d hs_1 (by decide))
    have hf := ifn hf (sw_d hs_1 (by decide))
    have hf := ifn hf (sw_d hs_1 (by decide))
    have hf := ifp hf hs_1
    refine g_aload_n d_Unit_tell_47 rfl ?_
    obtain ⟨k_48, hf⟩ := gd_s hf
    refine fg_Unit_went lf_Unit_31 d_Unit_tell_48 k_48 ?_
    exact Go.ret (some _) (rOk_i _) rfl d_Unit_tell_51 (pI_of hf)
abbrev mi_WM_unit : MI := (⟨"WarpMill", "unit", "(II)I"⟩, prog_1_method_10_code, 3, some .int, 1, 21)
def it_WM_unit_0 : List (Nat × ClassFile.Instr × Nat) := [(0, .aload_n 0, 1), (1, .iload_n 1, 1), (2, .invokevirtual 148, 3), (5, .ifCond .eq (16), 3), (8, .aload_n 0, 1), (9, .getfield 38, 3), (12, .iload_n 1, 1), (13, .aaload, 1), (14, .iload_n 2, 1), (15, .invokevirtual 151, 3), (18, .goto (4), 3), (21, .iconst (-1), 1), (22, .ireturn, 1)]
theorem id_WM_unit_0 : ∀ q ∈ it_WM_unit_0, decode prog_1_method_10_code q.1 = .ok q.2 := by decide +kernel
theorem d_WM_unit_0 : decode prog_1_method_10_code 0 = .ok (.aload_n 0, 1) := id_WM_unit_0 (0, .aload_n 0, 1) (List.mem_of_getElem? (i := 0) rfl)
theorem d_WM_unit_1 : decode prog_1_method_10_code 1 = .ok (.iload_n 1, 1) := id_WM_unit_0 (1, .iload_n 1, 1) (List.mem_of_getElem? (i := 1) rfl)
theorem d_WM_unit_2 : decode prog_1_method_10_code 2 = .ok (.invokevirtual 148, 3) := id_WM_unit_0 (2, .invokevirtual 148, 3) (List.mem_of_getElem? (i := 2) rfl)
theorem d_WM_unit_5 : decode prog_1_method_10_code 5 = .ok (.ifCond .eq (16), 3) := id_WM_unit_0 (5, .ifCond .eq (16), 3) (List.mem_of_getElem? (i := 3) rfl)
theorem d_WM_unit_8 : decode prog_1_method_10_code 8 = .ok (.aload_n 0, 1) := id_WM_unit_0 (8, .aload_n 0, 1) (List.mem_of_getElem? (i := 4) rfl)
theorem d_WM_unit_9 : decode prog_1_method_10_code 9 = .ok (.getfield 38, 3) := id_WM_unit_0 (9, .getfield 38, 3) (List.mem_of_getElem? (i := 5) rfl)
theorem d_WM_unit_12 : decode prog_1_method_10_code 12 = .ok (.iload_n 1, 1) := id_WM_unit_0 (12, .iload_n 1, 1) (List.mem_of_getElem? (i := 6) rfl)
theorem d_WM_unit_13 : decode prog_1_method_10_code 13 = .ok (.aaload, 1) := id_WM_unit_0 (13, .aaload, 1) (List.mem_of_getElem? (i := 7) rfl)
theorem d_WM_unit_14 : decode prog_1_method_10_code 14 = .ok (.iload_n 2, 1) := id_WM_unit_0 (14, .iload_n 2, 1) (List.mem_of_getElem? (i := 8) rfl)
theorem d_WM_unit_15 : decode prog_1_method_10_code 15 = .ok (.invokevirtual 151, 3) := id_WM_unit_0 (15, .invokevirtual 151, 3) (List.mem_of_getElem? (i := 9) rfl)
theorem d_WM_unit_18 : decode prog_1_method_10_code 18 = .ok (.goto (4), 3) := id_WM_unit_0 (18, .goto (4), 3) (List.mem_of_getElem? (i := 10) rfl)
theorem d_WM_unit_21 : decode prog_1_method_10_code 21 = .ok (.iconst (-1), 1) := id_WM_unit_0 (21, .iconst (-1), 1) (List.mem_of_getElem? (i := 11) rfl)
theorem d_WM_unit_22 : decode prog_1_method_10_code 22 = .ok (.ireturn, 1) := id_WM_unit_0 (22, .ireturn, 1) (List.mem_of_getElem? (i := 12) rfl)
theorem wC_WM_unit : Cond.code ⟨"WarpMill", "unit", "(II)I"⟩ prog_1_method_10_code 3 (some .int) ∈ lw_tb := mem_tb 505 (by decide +kernel) rfl
theorem cw_WM_unit_WM_isUnit : cW mi_WM_unit mi_WM_isUnit 1 := ⟨wC_WM_isUnit, wi_WM, ⟨by decide, by decide, by decide +kernel⟩, by decide, by decide⟩
theorem cw_WM_unit_Unit_tell : cW mi_WM_unit mi_Unit_tell 1 := ⟨wC_Unit_tell, wi_Unit, ⟨by decide, by decide, by decide +kernel⟩, by decide, by decide⟩
def f_WM_unit (F : Nat) (x0 : Nat) (x1 : Int32) (x2 : Int32) (h : Hp) : Option (Int32 × Hp) := gd (hK h x0 = 1) <| cl (f_WM_isUnit F x0 x1 h) fun v_2_2 h_2_2 => if v_2_2 = 0 then (some ((-1 : Int32), h_2_2)) else (gd (hK h_2_2 x0 = 1) <| rq h_2_2 (hR h_2_2 4 x0) 121 fun a_9_2 => ix x1 (hN h_2_2 a_9_2) fun j_13 => rq h_2_2 (hQ h_2_2 a_9_2 j_13) 7 fun a_13_2 => cl (f_Unit_tell F a_13_2 x2 h_2_2) fun v_15 h_15 => some (v_15, h_15))
set_option maxRecDepth 100000 in
set_option maxHeartbeats 4000000 in
theorem e_WM_unit {G : Gl} {F : Nat} {r : Int32} {h' : Hp} {x0 : Nat} {x1 : Int32} {x2 : Int32} {h : Hp} (hf : f_WM_unit F x0 x1 x2 h = some (r, h')) : Ex G mi_WM_unit [.ref x0, .int x1, .int x2] h (pI r h') := by
  unfold f_WM_unit at hf
  refine Ex.of nmI (by decide) (Nat.le_of_ble_eq_true rfl) ?_
  show Go G mi_WM_unit h _ h 0 [(0, .ref x0), (1, .int x1), (2, .int x2)] []
  refine g_aload_n d_WM_unit_0 rfl ?_
  refine g_iload_n d_WM_unit_1 rfl ?_
  obtain ⟨k_2, hf⟩ := gd_s hf
  obtain ⟨v_2_2, h_2_2, e_2_2, hf⟩ := cl_s hf
  refine g_callV (mz := mi_WM_isUnit) (e_WM_isUnit e_2_2) cw_WM_unit_WM_isUnit lm_WM_148 wI_WM_isUnit wV_WM_isUnit (ci := 0) k_2 (by decide) rfl rfl d_WM_unit_2 rfl rfl (by first | exact Nat.le_of_ble_eq_true rfl | simp [cat_rf, Value.category]) (fun r1 h1 hp hro => ?_)
  obtain ⟨rfl, rfl⟩ := hp
  dsimp only [Option.toList_some, Option.toList_none, List.cons_append, List.nil_append]
  refine g_if_eq 21 d_WM_unit_5 (by decide) (fun c_5 => ?_) (fun c_5 => ?_)
  · have hf := ifp hf c_5
    refine g_iconst (-1) d_WM_unit_21 (by decide) ?_
    exact Go.ret (some _) (rOk_i _) rfl d_WM_unit_22 (pI_of hf)
  · have hf := ifn hf c_5
    refine g_aload_n d_WM_unit_8 rfl ?_
    obtain ⟨k_9, hf⟩ := gd_s hf
    obtain ⟨a_9_2, e_9_2, k_9_2, hf⟩ := rq_s hf
    refine fgs_WM_units lf_WM_38 d_WM_unit_9 k_9 e_9_2 ?_
    refine g_iload_n d_WM_unit_12 rfl ?_
    obtain ⟨i_13, hf⟩ := ix_s hf
    refine g_aald k_9_2 (by decide) rfl rfl i_13 d_WM_unit_13 ?_
    obtain ⟨a_13_2, e_13_2, k_13_2, hf⟩ := rq_s hf
    refine Go.vs e_13_2 ?_
    refine g_iload_n d_WM_unit_14 rfl ?_
    obtain ⟨v_15, h_15, e_15, hf⟩ := cl_s hf
    refine g_callV (mz := mi_Unit_tell) (e_Unit_tell e_15) cw_WM_unit_Unit_tell lm_WM_151 wI_Unit_tell wV_Unit_tell (ci := 6) k_13_2 (by decide) rfl rfl d_WM_unit_15 rfl rfl (by first | exact Nat.le_of_ble_eq_true rfl | simp [cat_rf, Value.category]) (fun r1 h1 hp hro => ?_)
    obtain ⟨rfl, rfl⟩ := hp
    dsimp only [Option.toList_some, Option.toList_none, List.cons_append, List.nil_append]
    refine g_goto 22 d_WM_unit_18 (by decide) ?_
    exact Go.ret (some _) (rOk_i _) rfl d_WM_unit_22 (pI_of hf)
abbrev mi_Mod_unit : MI := (⟨"WarpMillModel", "unit", "(II)I"⟩, prog_13_method_65_code, 3, some .int, 0, 0)
def it_Mod_unit_0 : List (Nat × ClassFile.Instr × Nat) := [(0, .aload_n 0, 1), (1, .iconst 0, 1), (2, .putfield 120, 3), (5, .iload_n 1, 1), (6, .ifCond .lt (11), 3), (9, .iload_n 1, 1), (10, .aload_n 0, 1), (11, .getfield 16, 3), (14, .if_icmp .lt (5), 3), (17, .iconst (-1), 1), (18, .ireturn, 1), (19, .iload_n 2, 1), (20, .tableswitch (60) (0) (3) #[(32), (39), (46), (53)], 32), (52, .aload_n 0, 1), (53, .getfield 42, 3), (56, .iload_n 1, 1), (57, .iaload, 1), (58, .ireturn, 1), (59, .aload_n 0, 1), (60, .getfield 45, 3), (63, .iload_n 1, 1), (64, .iaload, 1), (65, .ireturn, 1), (66, .aload_n 0, 1)]
theorem id_Mod_unit_0 : ∀ q ∈ it_Mod_unit_0, decode prog_13_method_65_code q.1 = .ok q.2 := by decide +kernel
theorem d_Mod_unit_0 : decode prog_13_method_65_code 0 = .ok (.aload_n 0, 1) := id_Mod_unit_0 (0, .aload_n 0, 1) (List.mem_of_getElem? (i := 0) rfl)
theorem d_Mod_unit_1 : decode prog_13_method_65_code 1 = .ok (.iconst 0, 1) := id_Mod_unit_0 (1, .iconst 0, 1) (List.mem_of_getElem? (i := 1) rfl)
theorem d_Mod_unit_2 : decode prog_13_method_65_code 2 = .ok (.putfield 120, 3) := id_Mod_unit_0 (2, .putfield 120, 3) (List.mem_of_getElem? (i := 2) rfl)
theorem d_Mod_unit_5 : decode prog_13_method_65_code 5 = .ok (.iload_n 1, 1) := id_Mod_unit_0 (5, .iload_n 1, 1) (List.mem_of_getElem? (i := 3) rfl)
theorem d_Mod_unit_6 : decode prog_13_method_65_code 6 = .ok (.ifCond .lt (11), 3) := id_Mod_unit_0 (6, .ifCond .lt (11), 3) (List.mem_of_getElem? (i := 4) rfl)
theorem d_Mod_unit_9 : decode prog_13_method_65_code 9 = .ok (.iload_n 1, 1) := id_Mod_unit_0 (9, .iload_n 1, 1) (List.mem_of_getElem? (i := 5) rfl)
theorem d_Mod_unit_10 : decode prog_13_method_65_code 10 = .ok (.aload_n 0, 1) := id_Mod_unit_0 (10, .aload_n 0, 1) (List.mem_of_getElem? (i := 6) rfl)
theorem d_Mod_unit_11 : decode prog_13_method_65_code 11 = .ok (.getfield 16, 3) := id_Mod_unit_0 (11, .getfield 16, 3) (List.mem_of_getElem? (i := 7) rfl)
theorem d_Mod_unit_14 : decode prog_13_method_65_code 14 = .ok (.if_icmp .lt (5), 3) := id_Mod_unit_0 (14, .if_icmp .lt (5), 3) (List.mem_of_getElem? (i := 8) rfl)
theorem d_Mod_unit_17 : decode prog_13_method_65_code 17 = .ok (.iconst (-1), 1) := id_Mod_unit_0 (17, .iconst (-1), 1) (List.mem_of_getElem? (i := 9) rfl)
theorem d_Mod_unit_18 : decode prog_13_method_65_code 18 = .ok (.ireturn, 1) := id_Mod_unit_0 (18, .ireturn, 1) (List.mem_of_getElem? (i := 10) rfl)
theorem d_Mod_unit_19 : decode prog_13_method_65_code 19 = .ok (.iload_n 2, 1) := id_Mod_unit_0 (19, .iload_n 2, 1) (List.mem_of_getElem? (i := 11) rfl)
theorem d_Mod_unit_20 : decode prog_13_method_65_code 20 = .ok (.tableswitch (60) (0) (3) #[(32), (39), (46), (53)], 32) := id_Mod_unit_0 (20, .tableswitch (60) (0) (3) #[(32), (39), (46), (53)], 32) (List.mem_of_getElem? (i := 12) rfl)
theorem d_Mod_unit_52 : decode prog_13_method_65_code 52 = .ok (.aload_n 0, 1) := id_Mod_unit_0 (52, .aload_n 0, 1) (List.mem_of_getElem? (i := 13) rfl)
theorem d_Mod_unit_53 : decode prog_13_method_65_code 53 = .ok (.getfield 42, 3) := id_Mod_unit_0 (53, .getfield 42, 3) (List.mem_of_getElem? (i := 14) rfl)
theorem d_Mod_unit_56 : decode prog_13_method_65_code 56 = .ok (.iload_n 1, 1) := id_Mod_unit_0 (56, .iload_n 1, 1) (List.mem_of_getElem? (i := 15) rfl)
theorem d_Mod_unit_57 : decode prog_13_method_65_code 57 = .ok (.iaload, 1) := id_Mod_unit_0 (57, .iaload, 1) (List.mem_of_getElem? (i := 16) rfl)
theorem d_Mod_unit_58 : decode prog_13_method_65_code 58 = .ok (.ireturn, 1) := id_Mod_unit_0 (58, .ireturn, 1) (List.mem_of_getElem? (i := 17) rfl)
theorem d_Mod_unit_59 : decode prog_13_method_65_code 59 = .ok (.aload_n 0, 1) := id_Mod_unit_0 (59, .aload_n 0, 1) (List.mem_of_getElem? (i := 18) rfl)
theorem d_Mod_unit_60 : decode prog_13_method_65_code 60 = .ok (.getfield 45, 3) := id_Mod_unit_0 (60, .getfield 45, 3) (List.mem_of_getElem? (i := 19) rfl)
theorem d_Mod_unit_63 : decode prog_13_method_65_code 63 = .ok (.iload_n 1, 1) := id_Mod_unit_0 (63, .iload_n 1, 1) (List.mem_of_getElem? (i := 20) rfl)
theorem d_Mod_unit_64 : decode prog_13_method_65_code 64 = .ok (.iaload, 1) := id_Mod_unit_0 (64, .iaload, 1) (List.mem_of_getElem? (i := 21) rfl)
theorem d_Mod_unit_65 : decode prog_13_method_65_code 65 = .ok (.ireturn, 1) := id_Mod_unit_0 (65, .ireturn, 1) (List.mem_of_getElem? (i := 22) rfl)
theorem d_Mod_unit_66 : decode prog_13_method_65_code 66 = .ok (.aload_n 0, 1) := id_Mod_unit_0 (66, .aload_n 0, 1) (List.mem_of_getElem? (i := 23) rfl)
def it_Mod_unit_1 : List (Nat × ClassFile.Instr × Nat) := [(67, .getfield 48, 3), (70, .iload_n 1, 1), (71, .iaload, 1), (72, .ireturn, 1), (73, .aload_n 0, 1), (74, .getfield 51, 3), (77, .iload_n 1, 1), (78, .iaload, 1), (79, .ireturn, 1), (80, .iconst (-1), 1), (81, .ireturn, 1)]
theorem id_Mod_unit_1 : ∀ q ∈ it_Mod_unit_1, decode prog_13_method_65_code q.1 = .ok q.2 := by decide +kernel
theorem d_Mod_unit_67 : decode prog_13_method_65_code 67 = .ok (.getfield 48, 3) := id_Mod_unit_1 (67, .getfield 48, 3) (List.mem_of_getElem? (i := 0) rfl)
theorem d_Mod_unit_70 : decode prog_13_method_65_code 70 = .ok (.iload_n 1, 1) := id_Mod_unit_1 (70, .iload_n 1, 1) (List.mem_of_getElem? (i := 1) rfl)
theorem d_Mod_unit_71 : decode prog_13_method_65_code 71 = .ok (.iaload, 1) := id_Mod_unit_1 (71, .iaload, 1) (List.mem_of_getElem? (i := 2) rfl)
theorem d_Mod_unit_72 : decode prog_13_method_65_code 72 = .ok (.ireturn, 1) := id_Mod_unit_1 (72, .ireturn, 1) (List.mem_of_getElem? (i := 3) rfl)
theorem d_Mod_unit_73 : decode prog_13_method_65_code 73 = .ok (.aload_n 0, 1) := id_Mod_unit_1 (73, .aload_n 0, 1) (List.mem_of_getElem? (i := 4) rfl)
theorem d_Mod_unit_74 : decode prog_13_method_65_code 74 = .ok (.getfield 51, 3) := id_Mod_unit_1 (74, .getfield 51, 3) (List.mem_of_getElem? (i := 5) rfl)
theorem d_Mod_unit_77 : decode prog_13_method_65_code 77 = .ok (.iload_n 1, 1) := id_Mod_unit_1 (77, .iload_n 1, 1) (List.mem_of_getElem? (i := 6) rfl)
theorem d_Mod_unit_78 : decode prog_13_method_65_code 78 = .ok (.iaload, 1) := id_Mod_unit_1 (78, .iaload, 1) (List.mem_of_getElem? (i := 7) rfl)
theorem d_Mod_unit_79 : decode prog_13_method_65_code 79 = .ok (.ireturn, 1) := id_Mod_unit_1 (79, .ireturn, 1) (List.mem_of_getElem? (i := 8) rfl)
theorem d_Mod_unit_80 : decode prog_13_method_65_code 80 = .ok (.iconst (-1), 1) := id_Mod_unit_1 (80, .iconst (-1), 1) (List.mem_of_getElem? (i := 9) rfl)
theorem d_Mod_unit_81 : decode prog_13_method_65_code 81 = .ok (.ireturn, 1) := id_Mod_unit_1 (81, .ireturn, 1) (List.mem_of_getElem? (i := 10) rfl)
theorem wC_Mod_unit : Cond.code ⟨"WarpMillModel", "unit", "(II)I"⟩ prog_13_method_65_code 3 (some .int) ∈ lw_tb := mem_tb 1488 (by decide +kernel) rfl
def f_Mod_unit (F : Nat) (x0 : Nat) (x1 : Int32) (x2 : Int32) (h : Hp) : Option (Int32 × Hp) := gd (hK h x0 = 12) <| pw (sI h 704 x0 (0 : Int32)) fun h_2_2 => if x1 < 0 then (some ((-1 : Int32), h_2_2)) else (if x1 < (hI h_2_2 707 x0) then (if x2 = 0 then (rq h_2_2 (hR h_2_2 731 x0) 100 fun a_53 => ix x1 (hN h_2_2 a_53) fun j_57 => some ((hA h_2_2 a_53 j_57), h_2_2)) else if x2 = 1 then (rq h_2_2 (hR h_2_2 732 x0) 100 fun a_60 => ix x1 (hN h_2_2 a_60) fun j_64 => some ((hA h_2_2 a_60 j_64), h_2_2)) else if x2 = 2 then (rq h_2_2 (hR h_2_2 733 x0) 100 fun a_67 => ix x1 (hN h_2_2 a_67) fun j_71 => some ((hA h_2_2 a_67 j_71), h_2_2)) else if x2 = 3 then (rq h_2_2 (hR h_2_2 734 x0) 100 fun a_74 => ix x1 (hN h_2_2 a_74) fun j_78 => some ((hA h_2_2 a_74 j_78), h_2_2)) else (some ((-1 : Int32), h_2_2))) else (some ((-1 : Int32), h_2_2)))
set_option maxRecDepth 100000 in
set_option maxHeartbeats 4000000 in
theorem e_Mod_unit {G : Gl} (hw : gF G) {F : Nat} {r : Int32} {h' : Hp} {x0 : Nat} {x1 : Int32} {x2 : Int32} {h : Hp} (hf : f_Mod_unit F x0 x1 x2 h = some (r, h')) : Ex G mi_Mod_unit [.ref x0, .int x1, .int x2] h (pI r h') := by
  unfold f_Mod_unit at hf
  refine Ex.of nmI (by decide) (Nat.le_of_ble_eq_true rfl) ?_
  show Go G mi_Mod_unit h _ h 0 [(0, .ref x0), (1, .int x1), (2, .int x2)] []
  refine g_aload_n d_Mod_unit_0 rfl ?_
  refine g_iconst 0 d_Mod_unit_1 (by decide) ?_
  obtain ⟨k_2, hf⟩ := gd_s hf
  refine fp_Mod_thrown hw lf_Mod_120 d_Mod_unit_2 k_2 ?_
  have hf := pw_b hf
  refine g_iload_n d_Mod_unit_5 rfl ?_
  refine g_if_lt 17 d_Mod_unit_6 (by decide) (fun c_6 => ?_) (fun c_6 => ?_)
  · have hf := ifp hf c_6
    refine g_iconst (-1) d_Mod_unit_17 (by decide) ?_
    exact Go.ret (some _) (rOk_i _) rfl d_Mod_unit_18 (pI_of hf)
  · have hf := ifn hf c_6
    refine g_iload_n d_Mod_unit_9 rfl ?_
    refine g_aload_n d_Mod_unit_10 rfl ?_
    refine fg_Mod_units lf_Mod_16 d_Mod_unit_11 (kksI k_2) ?_
    refine g_icmp_lt 19 d_Mod_unit_14 (by decide) (fun c_14 => ?_) (fun c_14 => ?_)
    · have hf := ifp hf c_14
      refine g_iload_n d_Mod_unit_19 rfl ?_
      refine g_sw sw_0_3 (fun hs_20 => ?_)
      rcases hs_20 with hs_20 | hs_20 | hs_20 | hs_20 | hs_20
      · refine g_tableOut 80 d_Mod_unit_20 hs_20 (by decide) ?_
        have hf := ifn hf (sw_ne hs_20 0 (by decide) (by decide))
        have hf := ifn hf (sw_ne hs_20 1 (by decide) (by decide))
        have hf := ifn hf (sw_ne hs_20 2 (by decide) (by decide))
        have hf := ifn hf (sw_ne hs_20 3 (by decide) (by decide))
        refine g_iconst (-1) d_Mod_unit_80 (by decide) ?_
        exact Go.ret (some _) (rOk_i _) rfl d_Mod_unit_81 (pI_of hf)
      · refine g_tableIn 52 d_Mod_unit_20 (by rw [hs_20]; decide) (by rw [hs_20]; decide) (by rw [hs_20]; rfl) (by decide) ?_
        have hf := ifp hf hs_20
        refine g_aload_n d_Mod_unit_52 rfl ?_
        obtain ⟨a_53, e_53, k_53, hf⟩ := rq_s hf
        refine fgs_Mod_divider lf_Mod_42 d_Mod_unit_53 (kksI k_2) e_53 ?_
        refine g_iload_n d_Mod_unit_56 rfl ?_
        obtain ⟨i_57, hf⟩ := ix_s hf
        refine g_iald k_53 i_57 d_Mod_unit_57 ?_
        exact Go.ret (some _) (rOk_i _) rfl d_Mod_unit_58 (pI_of hf)
      · refine g_tableIn 59 d_Mod_unit_20 (by rw [hs_20]; decide) (by rw [hs_20]; decide) (by rw [hs_20]; rfl) (by decide) ?_
        have hf := ifn hf (sw_d hs_20 (by decide))
        have hf := ifp hf hs_20
        refine g_aload_n d_Mod_unit_59 rfl ?_
        obtain ⟨a_60, e_60, k_60, hf⟩ := rq_s hf
        refine fgs_Mod_sharedTick lf_Mod_45 d_Mod_unit_60 (kksI k_2) e_60 ?_
        refine g_iload_n d_Mod_unit_63 rfl ?_
        obtain ⟨i_64, hf⟩ := ix_s hf
        refine g_iald k_60 i_64 d_Mod_unit_64 ?_
        exact Go.ret (some _) (rOk_i _) rfl d_Mod_unit_65 (pI_of hf)
      · refine g_tableIn 66 d_Mod_unit_20 (by rw [hs_20]; decide) (by rw [hs_20]; decide) (by rw [hs_20]; rfl) (by decide) ?_
        have hf := ifn hf (sw_d hs_20 (by decide))
        have hf := ifn hf (sw_d hs_20 (by decide))
        have hf := ifp hf hs_20
        refine g_aload_n d_Mod_unit_66 rfl ?_
        obtain ⟨a_67, e_67, k_67, hf⟩ := rq_s hf
        refine fgs_Mod_latest lf_Mod_48 d_Mod_unit_67 (kksI k_2) e_67 ?_
        refine g_iload_n d_Mod_unit_70 rfl ?_
        obtain ⟨i_71, hf⟩ := ix_s hf
        refine g_iald k_67 i_71 d_Mod_unit_71 ?_
        exact Go.ret (some _) (rOk_i _) rfl d_Mod_unit_72 (pI_of hf)
      · refine g_tableIn 73 d_Mod_unit_20 (by rw [hs_20]; decide) (by rw [hs_20]; decide) (by rw [hs_20]; rfl) (by decide) ?_
        have hf := ifn hf (sw_d hs_20 (by decide))
        have hf := ifn hf (sw_d hs_20 (by decide))
        have hf := ifn hf (sw_d hs_20 (by decide))
        have hf := ifp hf hs_20
        refine g_aload_n d_Mod_unit_73 rfl ?_
        obtain ⟨a_74, e_74, k_74, hf⟩ := rq_s hf
        refine fgs_Mod_unitWords lf_Mod_51 d_Mod_unit_74 (kksI k_2) e_74 ?_
        refine g_iload_n d_Mod_unit_77 rfl ?_
        obtain ⟨i_78, hf⟩ := ix_s hf
        refine g_iald k_74 i_78 d_Mod_unit_78 ?_
        exact Go.ret (some _) (rOk_i _) rfl d_Mod_unit_79 (pI_of hf)
    · have hf := ifn hf c_14
      refine g_iconst (-1) d_Mod_unit_17 (by decide) ?_
      exact Go.ret (some _) (rOk_i _) rfl d_Mod_unit_18 (pI_of hf)
abbrev mi_Cache_tell : MI := (⟨"WarpMill$Cache", "tell", "(II)I"⟩, prog_4_method_5_code, 3, some .int, 0, 0)
def it_Cache_tell_0 : List (Nat × ClassFile.Instr × Nat) := [(0, .iload_n 1, 1), (1, .ifCond .lt (18), 3), (4, .iload_n 1, 1), (5, .bipush (8), 2), (7, .if_icmp .ge (12), 3), (10, .iload_n 2, 1), (11, .ifCond .lt (8), 3), (14, .iload_n 2, 1), (15, .iconst 4, 1), (16, .if_icmp .le (5), 3), (19, .iconst (-1), 1), (20, .ireturn, 1), (21, .iload_n 2, 1), (22, .iconst 4, 1), (23, .if_icmp .ne (12), 3), (26, .aload_n 0, 1), (27, .getfield 15, 3), (30, .iload_n 1, 1), (31, .iaload, 1), (32, .goto (13), 3), (35, .aload_n 0, 1), (36, .getfield 9, 3), (39, .iload_n 1, 1), (40, .iconst 4, 1)]
theorem id_Cache_tell_0 : ∀ q ∈ it_Cache_tell_0, decode prog_4_method_5_code q.1 = .ok q.2 := by decide +kernel
theorem d_Cache_tell_0 : decode prog_4_method_5_code 0 = .ok (.iload_n 1, 1) := id_Cache_tell_0 (0, .iload_n 1, 1) (List.mem_of_getElem? (i := 0) rfl)
theorem d_Cache_tell_1 : decode prog_4_method_5_code 1 = .ok (.ifCond .lt (18), 3) := id_Cache_tell_0 (1, .ifCond .lt (18), 3) (List.mem_of_getElem? (i := 1) rfl)
theorem d_Cache_tell_4 : decode prog_4_method_5_code 4 = .ok (.iload_n 1, 1) := id_Cache_tell_0 (4, .iload_n 1, 1) (List.mem_of_getElem? (i := 2) rfl)
theorem d_Cache_tell_5 : decode prog_4_method_5_code 5 = .ok (.bipush (8), 2) := id_Cache_tell_0 (5, .bipush (8), 2) (List.mem_of_getElem? (i := 3) rfl)
theorem d_Cache_tell_7 : decode prog_4_method_5_code 7 = .ok (.if_icmp .ge (12), 3) := id_Cache_tell_0 (7, .if_icmp .ge (12), 3) (List.mem_of_getElem? (i := 4) rfl)
theorem d_Cache_tell_10 : decode prog_4_method_5_code 10 = .ok (.iload_n 2, 1) := id_Cache_tell_0 (10, .iload_n 2, 1) (List.mem_of_getElem? (i := 5) rfl)
theorem d_Cache_tell_11 : decode prog_4_method_5_code 11 = .ok (.ifCond .lt (8), 3) := id_Cache_tell_0 (11, .ifCond .lt (8), 3) (List.mem_of_getElem? (i := 6) rfl)
theorem d_Cache_tell_14 : decode prog_4_method_5_code 14 = .ok (.iload_n 2, 1) := id_Cache_tell_0 (14, .iload_n 2, 1) (List.mem_of_getElem? (i := 7) rfl)
theorem d_Cache_tell_15 : decode prog_4_method_5_code 15 = .ok (.iconst 4, 1) := id_Cache_tell_0 (15, .iconst 4, 1) (List.mem_of_getElem? (i := 8) rfl)
theorem d_Cache_tell_16 : decode prog_4_method_5_code 16 = .ok (.if_icmp .le (5), 3) := id_Cache_tell_0 (16, .if_icmp .le (5), 3) (List.mem_of_getElem? (i := 9) rfl)
theorem d_Cache_tell_19 : decode prog_4_method_5_code 19 = .ok (.iconst (-1), 1) := id_Cache_tell_0 (19, .iconst (-1), 1) (List.mem_of_getElem? (i := 10) rfl)
theorem d_Cache_tell_20 : decode prog_4_method_5_code 20 = .ok (.ireturn, 1) := id_Cache_tell_0 (20, .ireturn, 1) (List.mem_of_getElem? (i := 11) rfl)
theorem d_Cache_tell_21 : decode prog_4_method_5_code 21 = .ok (.iload_n 2, 1) := id_Cache_tell_0 (21, .iload_n 2, 1) (List.mem_of_getElem? (i := 12) rfl)
theorem d_Cache_tell_22 : decode prog_4_method_5_code 22 = .ok (.iconst 4, 1) := id_Cache_tell_0 (22, .iconst 4, 1) (List.mem_of_getElem? (i := 13) rfl)
theorem d_Cache_tell_23 : decode prog_4_method_5_code 23 = .ok (.if_icmp .ne (12), 3) := id_Cache_tell_0 (23, .if_icmp .ne (12), 3) (List.mem_of_getElem? (i := 14) rfl)
theorem d_Cache_tell_26 : decode prog_4_method_5_code 26 = .ok (.aload_n 0, 1) := id_Cache_tell_0 (26, .aload_n 0, 1) (List.mem_of_getElem? (i := 15) rfl)
theorem d_Cache_tell_27 : decode prog_4_method_5_code 27 = .ok (.getfield 15, 3) := id_Cache_tell_0 (27, .getfield 15, 3) (List.mem_of_getElem? (i := 16) rfl)
theorem d_Cache_tell_30 : decode prog_4_method_5_code 30 = .ok (.iload_n 1, 1) := id_Cache_tell_0 (30, .iload_n 1, 1) (List.mem_of_getElem? (i := 17) rfl)
theorem d_Cache_tell_31 : decode prog_4_method_5_code 31 = .ok (.iaload, 1) := id_Cache_tell_0 (31, .iaload, 1) (List.mem_of_getElem? (i := 18) rfl)
theorem d_Cache_tell_32 : decode prog_4_method_5_code 32 = .ok (.goto (13), 3) := id_Cache_tell_0 (32, .goto (13), 3) (List.mem_of_getElem? (i := 19) rfl)
theorem d_Cache_tell_35 : decode prog_4_method_5_code 35 = .ok (.aload_n 0, 1) := id_Cache_tell_0 (35, .aload_n 0, 1) (List.mem_of_getElem? (i := 20) rfl)
theorem d_Cache_tell_36 : decode prog_4_method_5_code 36 = .ok (.getfield 9, 3) := id_Cache_tell_0 (36, .getfield 9, 3) (List.mem_of_getElem? (i := 21) rfl)
theorem d_Cache_tell_39 : decode prog_4_method_5_code 39 = .ok (.iload_n 1, 1) := id_Cache_tell_0 (39, .iload_n 1, 1) (List.mem_of_getElem? (i := 22) rfl)
theorem d_Cache_tell_40 : decode prog_4_method_5_code 40 = .ok (.iconst 4, 1) := id_Cache_tell_0 (40, .iconst 4, 1) (List.mem_of_getElem? (i := 23) rfl)
def it_Cache_tell_1 : List (Nat × ClassFile.Instr × Nat) := [(41, .imul, 1), (42, .iload_n 2, 1), (43, .iadd, 1), (44, .iaload, 1), (45, .ireturn, 1)]
theorem id_Cache_tell_1 : ∀ q ∈ it_Cache_tell_1, decode prog_4_method_5_code q.1 = .ok q.2 := by decide +kernel
theorem d_Cache_tell_41 : decode prog_4_method_5_code 41 = .ok (.imul, 1) := id_Cache_tell_1 (41, .imul, 1) (List.mem_of_getElem? (i := 0) rfl)
theorem d_Cache_tell_42 : decode prog_4_method_5_code 42 = .ok (.iload_n 2, 1) := id_Cache_tell_1 (42, .iload_n 2, 1) (List.mem_of_getElem? (i := 1) rfl)
theorem d_Cache_tell_43 : decode prog_4_method_5_code 43 = .ok (.iadd, 1) := id_Cache_tell_1 (43, .iadd, 1) (List.mem_of_getElem? (i := 2) rfl)
theorem d_Cache_tell_44 : decode prog_4_method_5_code 44 = .ok (.iaload, 1) := id_Cache_tell_1 (44, .iaload, 1) (List.mem_of_getElem? (i := 3) rfl)
theorem d_Cache_tell_45 : decode prog_4_method_5_code 45 = .ok (.ireturn, 1) := id_Cache_tell_1 (45, .ireturn, 1) (List.mem_of_getElem? (i := 4) rfl)
theorem wC_Cache_tell : Cond.code ⟨"WarpMill$Cache", "tell", "(II)I"⟩ prog_4_method_5_code 3 (some .int) ∈ lw_tb := mem_tb 521 (by decide +kernel) rfl
def f_Cache_tell (F : Nat) (x0 : Nat) (x1 : Int32) (x2 : Int32) (h : Hp) : Option (Int32 × Hp) := if x1 < 0 then (some ((-1 : Int32), h)) else (if (8 : Int32) ≤ x1 then (some ((-1 : Int32), h)) else (if x2 < 0 then (some ((-1 : Int32), h)) else (if x2 ≤ (4 : Int32) then (if x2 = (4 : Int32) then (gd (hK h x0 = 4) <| rq h (hR h 193 x0) 100 fun a_27_2 => ix x1 (hN h a_27_2) fun j_31 => some ((hA h a_27_2 j_31), h)) else (gd (hK h x0 = 4) <| rq h (hR h 192 x0) 100 fun a_36_2 => ix ((x1 * (4 : Int32)) + x2) (hN h a_36_2) fun j_44 => some ((hA h a_36_2 j_44), h))) else (some ((-1 : Int32), h)))))
set_option maxRecDepth 100000 in
set_option maxHeartbeats 4000000 in
theorem e_Cache_tell {G : Gl} {F : Nat} {r : Int32} {h' : Hp} {x0 : Nat} {x1 : Int32} {x2 : Int32} {h : Hp} (hf : f_Cache_tell F x0 x1 x2 h = some (r, h')) : Ex G mi_Cache_tell [.ref x0, .int x1, .int x2] h (pI r h') := by
  unfold f_Cache_tell at hf
  refine Ex.of nmI (by decide) (Nat.le_of_ble_eq_true rfl) ?_
  show Go G mi_Cache_tell h _ h 0 [(0, .ref x0), (1, .int x1), (2, .int x2)] []
  refine g_iload_n d_Cache_tell_0 rfl ?_
  refine g_if_lt 19 d_Cache_tell_1 (by decide) (fun c_1 => ?_) (fun c_1 => ?_)
  · have hf := ifp hf c_1
    refine g_iconst (-1) d_Cache_tell_19 (by decide) ?_
    exact Go.ret (some _) (rOk_i _) rfl d_Cache_tell_20 (pI_of hf)
  · have hf := ifn hf c_1
    refine g_iload_n d_Cache_tell_4 rfl ?_
    refine g_bipush (8) d_Cache_tell_5 (by decide) ?_
    refine g_icmp_ge 19 d_Cache_tell_7 (by decide) (fun c_7 => ?_) (fun c_7 => ?_)
    · have hf := ifp hf c_7
      refine g_iconst (-1) d_Cache_tell_19 (by decide) ?_
      exact Go.ret (some _) (rOk_i _) rfl d_Cache_tell_20 (pI_of hf)
    · have hf := ifn hf c_7
      refine g_iload_n d_Cache_tell_10 rfl ?_
      refine g_if_lt 19 d_Cache_tell_11 (by decide) (fun c_11 => ?_) (fun c_11 => ?_)
      · have hf := ifp hf c_11
        refine g_iconst (-1) d_Cache_tell_19 (by decide) ?_
        exact Go.ret (some _) (rOk_i _) rfl d_Cache_tell_20 (pI_of hf)
      · have hf := ifn hf c_11
        refine g_iload_n d_Cache_tell_14 rfl ?_
        refine g_iconst 4 d_Cache_tell_15 (by decide) ?_
        refine g_icmp_le 21 d_Cache_tell_16 (by decide) (fun c_16 => ?_) (fun c_16 => ?_)
        · have hf := ifp hf c_16
          refine g_iload_n d_Cache_tell_21 rfl ?_
          refine g_iconst 4 d_Cache_tell_22 (by decide) ?_
          refine g_icmp_ne 35 d_Cache_tell_23 (by decide) (fun c_23 => ?_) (fun c_23 => ?_)
          · have hf := ifn hf c_23
            refine g_aload_n d_Cache_tell_35 rfl ?_
            obtain ⟨k_36, hf⟩ := gd_s hf
            obtain ⟨a_36_2, e_36_2, k_36_2, hf⟩ := rq_s hf
            refine fgs_Cache_lines lf_Cache_9 d_Cache_tell_36 k_36 e_36_2 ?_
            refine g_iload_n d_Cache_tell_39 rfl ?_
            refine g_iconst 4 d_Cache_tell_40 (by decide) ?_
            refine g_imul d_Cache_tell_41 ?_
            refine g_iload_n d_Cache_tell_42 rfl ?_
            refine g_iadd d_Cache_tell_43 ?_
            obtain ⟨i_44, hf⟩ := ix_s hf
            refine g_iald k_36_2 i_44 d_Cache_tell_44 ?_
            exact Go.ret (some _) (rOk_i _) rfl d_Cache_tell_45 (pI_of hf)
          · have hf := ifp hf c_23
            refine g_aload_n d_Cache_tell_26 rfl ?_
            obtain ⟨k_27, hf⟩ := gd_s hf
            obtain ⟨a_27_2, e_27_2, k_27_2, hf⟩ := rq_s hf
            refine fgs_Cache_ticks lf_Cache_15 d_Cache_tell_27 k_27 e_27_2 ?_
            refine g_iload_n d_Cache_tell_30 rfl ?_
            obtain ⟨i_31, hf⟩ := ix_s hf
            refine g_iald k_27_2 i_31 d_Cache_tell_31 ?_
            refine g_goto 45 d_Cache_tell_32 (by decide) ?_
            exact Go.ret (some _) (rOk_i _) rfl d_Cache_tell_45 (pI_of hf)
        · have hf := ifn hf c_16
          refine g_iconst (-1) d_Cache_tell_19 (by decide) ?_
          exact Go.ret (some _) (rOk_i _) rfl d_Cache_tell_20 (pI_of hf)
abbrev mi_WM_cached : MI := (⟨"WarpMill", "cached", "(II)I"⟩, prog_1_method_11_code, 3, some .int, 1, 22)
def it_WM_cached_0 : List (Nat × ClassFile.Instr × Nat) := [(0, .iload_n 1, 1), (1, .ifCond .lt (29), 3), (4, .iload_n 1, 1), (5, .aload_n 0, 1), (6, .getfield 10, 3), (9, .getfield 152, 3), (12, .if_icmp .ge (18), 3), (15, .aload_n 0, 1), (16, .getfield 25, 3), (19, .getfield 69, 3), (22, .iload_n 1, 1), (23, .iload_n 2, 1), (24, .invokevirtual 155, 3), (27, .goto (4), 3), (30, .iconst (-1), 1), (31, .ireturn, 1)]
theorem id_WM_cached_0 : ∀ q ∈ it_WM_cached_0, decode prog_1_method_11_code q.1 = .ok q.2 := by decide +kernel
theorem d_WM_cached_0 : decode prog_1_method_11_code 0 = .ok (.iload_n 1, 1) := id_WM_cached_0 (0, .iload_n 1, 1) (List.mem_of_getElem? (i := 0) rfl)
theorem d_WM_cached_1 : decode prog_1_method_11_code 1 = .ok (.ifCond .lt (29), 3) := id_WM_cached_0 (1, .ifCond .lt (29), 3) (List.mem_of_getElem? (i := 1) rfl)
theorem d_WM_cached_4 : decode prog_1_method_11_code 4 = .ok (.iload_n 1, 1) := id_WM_cached_0 (4, .iload_n 1, 1) (List.mem_of_getElem? (i := 2) rfl)
theorem d_WM_cached_5 : decode prog_1_method_11_code 5 = .ok (.aload_n 0, 1) := id_WM_cached_0 (5, .aload_n 0, 1) (List.mem_of_getElem? (i := 3) rfl)
theorem d_WM_cached_6 : decode prog_1_method_11_code 6 = .ok (.getfield 10, 3) := id_WM_cached_0 (6, .getfield 10, 3) (List.mem_of_getElem? (i := 4) rfl)
theorem d_WM_cached_9 : decode prog_1_method_11_code 9 = .ok (.getfield 152, 3) := id_WM_cached_0 (9, .getfield 152, 3) (List.mem_of_getElem? (i := 5) rfl)
theorem d_WM_cached_12 : decode prog_1_method_11_code 12 = .ok (.if_icmp .ge (18), 3) := id_WM_cached_0 (12, .if_icmp .ge (18), 3) (List.mem_of_getElem? (i := 6) rfl)
theorem d_WM_cached_15 : decode prog_1_method_11_code 15 = .ok (.aload_n 0, 1) := id_WM_cached_0 (15, .aload_n 0, 1) (List.mem_of_getElem? (i := 7) rfl)
theorem d_WM_cached_16 : decode prog_1_method_11_code 16 = .ok (.getfield 25, 3) := id_WM_cached_0 (16, .getfield 25, 3) (List.mem_of_getElem? (i := 8) rfl)
theorem d_WM_cached_19 : decode prog_1_method_11_code 19 = .ok (.getfield 69, 3) := id_WM_cached_0 (19, .getfield 69, 3) (List.mem_of_getElem? (i := 9) rfl)
theorem d_WM_cached_22 : decode prog_1_method_11_code 22 = .ok (.iload_n 1, 1) := id_WM_cached_0 (22, .iload_n 1, 1) (List.mem_of_getElem? (i := 10) rfl)
theorem d_WM_cached_23 : decode prog_1_method_11_code 23 = .ok (.iload_n 2, 1) := id_WM_cached_0 (23, .iload_n 2, 1) (List.mem_of_getElem? (i := 11) rfl)
theorem d_WM_cached_24 : decode prog_1_method_11_code 24 = .ok (.invokevirtual 155, 3) := id_WM_cached_0 (24, .invokevirtual 155, 3) (List.mem_of_getElem? (i := 12) rfl)
theorem d_WM_cached_27 : decode prog_1_method_11_code 27 = .ok (.goto (4), 3) := id_WM_cached_0 (27, .goto (4), 3) (List.mem_of_getElem? (i := 13) rfl)
theorem d_WM_cached_30 : decode prog_1_method_11_code 30 = .ok (.iconst (-1), 1) := id_WM_cached_0 (30, .iconst (-1), 1) (List.mem_of_getElem? (i := 14) rfl)
theorem d_WM_cached_31 : decode prog_1_method_11_code 31 = .ok (.ireturn, 1) := id_WM_cached_0 (31, .ireturn, 1) (List.mem_of_getElem? (i := 15) rfl)
theorem wC_WM_cached : Cond.code ⟨"WarpMill", "cached", "(II)I"⟩ prog_1_method_11_code 3 (some .int) ∈ lw_tb := mem_tb 517 (by decide +kernel) rfl
theorem cw_WM_cached_Cache_tell : cW mi_WM_cached mi_Cache_tell 2 := ⟨wC_Cache_tell, wi_Cache, ⟨by decide, by decide, by decide +kernel⟩, by decide, by decide⟩
def f_WM_cached (F : Nat) (x0 : Nat) (x1 : Int32) (x2 : Int32) (h : Hp) : Option (Int32 × Hp) := if x1 < 0 then (some ((-1 : Int32), h)) else (gd (hK h x0 = 1) <| rq h (hR h 0 x0) 2 fun a_6_2 => if (hI h 68 a_6_2) ≤ x1 then (some ((-1 : Int32), h)) else (rq h (hR h 2 x0) 3 fun a_16 => rq h (hR h 129 a_16) 4 fun a_19 => cl (f_Cache_tell F a_19 x1 x2 h) fun v_24 h_24 => some (v_24, h_24)))
set_option maxRecDepth 100000 in
set_option maxHeartbeats 4000000 in
theorem e_WM_cached {G : Gl} {F : Nat} {r : Int32} {h' : Hp} {x0 : Nat} {x1 : Int32} {x2 : Int32} {h : Hp} (hf : f_WM_cached F x0 x1 x2 h = some (r, h')) : Ex G mi_WM_cached [.ref x0, .int x1, .int x2] h (pI r h') := by
  unfold f_WM_cached at hf
  refine Ex.of nmI (by decide) (Nat.le_of_ble_eq_true rfl) ?_
  show Go G mi_WM_cached h _ h 0 [(0, .ref x0), (1, .int x1), (2, .int x2)] []
  refine g_iload_n d_WM_cached_0 rfl ?_
  refine g_if_lt 30 d_WM_cached_1 (by decide) (fun c_1 => ?_) (fun c_1 => ?_)
  · have hf := ifp hf c_1
    refine g_iconst (-1) d_WM_cached_30 (by decide) ?_
    exact Go.ret (some _) (rOk_i _) rfl d_WM_cached_31 (pI_of hf)
  · have hf := ifn hf c_1
    refine g_iload_n d_WM_cached_4 rfl ?_
    refine g_aload_n d_WM_cached_5 rfl ?_
    obtain ⟨k_6, hf⟩ := gd_s hf
    obtain ⟨a_6_2, e_6_2, k_6_2, hf⟩ := rq_s hf
    refine fgs_WM_sizes lf_WM_10 d_WM_cached_6 k_6 e_6_2 ?_
    refine fg_Sizes_gates lf_WM_152 d_WM_cached_9 k_6_2 ?_
    refine g_icmp_ge 30 d_WM_cached_12 (by decide) (fun c_12 => ?_) (fun c_12 => ?_)
    · have hf := ifp hf c_12
      refine g_iconst (-1) d_WM_cached_30 (by decide) ?_
      exact Go.ret (some _) (rOk_i _) rfl d_WM_cached_31 (pI_of hf)
    · have hf := ifn hf c_12
      refine g_aload_n d_WM_cached_15 rfl ?_
      obtain ⟨a_16, e_16, k_16, hf⟩ := rq_s hf
      refine fgs_WM_memory lf_WM_25 d_WM_cached_16 k_6 e_16 ?_
      obtain ⟨a_19, e_19, k_19, hf⟩ := rq_s hf
      refine fgs_Memory_cache lf_WM_69 d_WM_cached_19 k_16 e_19 ?_
      refine g_iload_n d_WM_cached_22 rfl ?_
      refine g_iload_n d_WM_cached_23 rfl ?_
      obtain ⟨v_24, h_24, e_24, hf⟩ := cl_s hf
      refine g_callV (mz := mi_Cache_tell) (e_Cache_tell e_24) cw_WM_cached_Cache_tell lm_WM_155 wI_Cache_tell wV_Cache_tell (ci := 3) k_19 (by decide) rfl rfl d_WM_cached_24 rfl rfl (by first | exact Nat.le_of_ble_eq_true rfl | simp [cat_rf, Value.category]) (fun r1 h1 hp hro => ?_)
      obtain ⟨rfl, rfl⟩ := hp
      dsimp only [Option.toList_some, Option.toList_none, List.cons_append, List.nil_append]
      refine g_goto 31 d_WM_cached_27 (by decide) ?_
      exact Go.ret (some _) (rOk_i _) rfl d_WM_cached_31 (pI_of hf)
