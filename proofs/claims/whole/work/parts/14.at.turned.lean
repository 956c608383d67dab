abbrev mi_WM_shared : MI := (⟨"WarpMill", "shared", "(II)I"⟩, prog_1_method_14_code, 4, some .int, 6, 128)
def it_WM_shared_0 : List (Nat × ClassFile.Instr × Nat) := [(0, .iload_n 1, 1), (1, .ifCond .lt (21), 3), (4, .iload_n 1, 1), (5, .aload_n 0, 1), (6, .getfield 44, 3), (9, .arraylength, 1), (10, .if_icmp .ge (12), 3), (13, .aload_n 0, 1), (14, .getfield 44, 3), (17, .iload_n 1, 1), (18, .aaload, 1), (19, .goto (4), 3), (22, .aconst_null, 1), (23, .astore_n 3, 1), (24, .aload_n 3, 1), (25, .ifnull (20), 3), (28, .aload_n 3, 1), (29, .getfield 173, 3), (32, .ifnull (13), 3), (35, .iload_n 2, 1), (36, .ifCond .lt (9), 3), (39, .iload_n 2, 1), (40, .bipush (64), 2), (42, .if_icmp .lt (13), 3)]
theorem id_WM_shared_0 : ∀ q ∈ it_WM_shared_0, decode prog_1_method_14_code q.1 = .ok q.2 := by decide +kernel
theorem d_WM_shared_0 : decode prog_1_method_14_code 0 = .ok (.iload_n 1, 1) := id_WM_shared_0 (0, .iload_n 1, 1) (List.mem_of_getElem? (i := 0) rfl)
theorem d_WM_shared_1 : decode prog_1_method_14_code 1 = .ok (.ifCond .lt (21), 3) := id_WM_shared_0 (1, .ifCond .lt (21), 3) (List.mem_of_getElem? (i := 1) rfl)
theorem d_WM_shared_4 : decode prog_1_method_14_code 4 = .ok (.iload_n 1, 1) := id_WM_shared_0 (4, .iload_n 1, 1) (List.mem_of_getElem? (i := 2) rfl)
theorem d_WM_shared_5 : decode prog_1_method_14_code 5 = .ok (.aload_n 0, 1) := id_WM_shared_0 (5, .aload_n 0, 1) (List.mem_of_getElem? (i := 3) rfl)
theorem d_WM_shared_6 : decode prog_1_method_14_code 6 = .ok (.getfield 44, 3) := id_WM_shared_0 (6, .getfield 44, 3) (List.mem_of_getElem? (i := 4) rfl)
theorem d_WM_shared_9 : decode prog_1_method_14_code 9 = .ok (.arraylength, 1) := id_WM_shared_0 (9, .arraylength, 1) (List.mem_of_getElem? (i := 5) rfl)
theorem d_WM_shared_10 : decode prog_1_method_14_code 10 = .ok (.if_icmp .ge (12), 3) := id_WM_shared_0 (10, .if_icmp .ge (12), 3) (List.mem_of_getElem? (i := 6) rfl)
theorem d_WM_shared_13 : decode prog_1_method_14_code 13 = .ok (.aload_n 0, 1) := id_WM_shared_0 (13, .aload_n 0, 1) (List.mem_of_getElem? (i := 7) rfl)
theorem d_WM_shared_14 : decode prog_1_method_14_code 14 = .ok (.getfield 44, 3) := id_WM_shared_0 (14, .getfield 44, 3) (List.mem_of_getElem? (i := 8) rfl)
theorem d_WM_shared_17 : decode prog_1_method_14_code 17 = .ok (.iload_n 1, 1) := id_WM_shared_0 (17, .iload_n 1, 1) (List.mem_of_getElem? (i := 9) rfl)
theorem d_WM_shared_18 : decode prog_1_method_14_code 18 = .ok (.aaload, 1) := id_WM_shared_0 (18, .aaload, 1) (List.mem_of_getElem? (i := 10) rfl)
theorem d_WM_shared_19 : decode prog_1_method_14_code 19 = .ok (.goto (4), 3) := id_WM_shared_0 (19, .goto (4), 3) (List.mem_of_getElem? (i := 11) rfl)
theorem d_WM_shared_22 : decode prog_1_method_14_code 22 = .ok (.aconst_null, 1) := id_WM_shared_0 (22, .aconst_null, 1) (List.mem_of_getElem? (i := 12) rfl)
theorem d_WM_shared_23 : decode prog_1_method_14_code 23 = .ok (.astore_n 3, 1) := id_WM_shared_0 (23, .astore_n 3, 1) (List.mem_of_getElem? (i := 13) rfl)
theorem d_WM_shared_24 : decode prog_1_method_14_code 24 = .ok (.aload_n 3, 1) := id_WM_shared_0 (24, .aload_n 3, 1) (List.mem_of_getElem? (i := 14) rfl)
theorem d_WM_shared_25 : decode prog_1_method_14_code 25 = .ok (.ifnull (20), 3) := id_WM_shared_0 (25, .ifnull (20), 3) (List.mem_of_getElem? (i := 15) rfl)
theorem d_WM_shared_28 : decode prog_1_method_14_code 28 = .ok (.aload_n 3, 1) := id_WM_shared_0 (28, .aload_n 3, 1) (List.mem_of_getElem? (i := 16) rfl)
theorem d_WM_shared_29 : decode prog_1_method_14_code 29 = .ok (.getfield 173, 3) := id_WM_shared_0 (29, .getfield 173, 3) (List.mem_of_getElem? (i := 17) rfl)
theorem d_WM_shared_32 : decode prog_1_method_14_code 32 = .ok (.ifnull (13), 3) := id_WM_shared_0 (32, .ifnull (13), 3) (List.mem_of_getElem? (i := 18) rfl)
theorem d_WM_shared_35 : decode prog_1_method_14_code 35 = .ok (.iload_n 2, 1) := id_WM_shared_0 (35, .iload_n 2, 1) (List.mem_of_getElem? (i := 19) rfl)
theorem d_WM_shared_36 : decode prog_1_method_14_code 36 = .ok (.ifCond .lt (9), 3) := id_WM_shared_0 (36, .ifCond .lt (9), 3) (List.mem_of_getElem? (i := 20) rfl)
theorem d_WM_shared_39 : decode prog_1_method_14_code 39 = .ok (.iload_n 2, 1) := id_WM_shared_0 (39, .iload_n 2, 1) (List.mem_of_getElem? (i := 21) rfl)
theorem d_WM_shared_40 : decode prog_1_method_14_code 40 = .ok (.bipush (64), 2) := id_WM_shared_0 (40, .bipush (64), 2) (List.mem_of_getElem? (i := 22) rfl)
theorem d_WM_shared_42 : decode prog_1_method_14_code 42 = .ok (.if_icmp .lt (13), 3) := id_WM_shared_0 (42, .if_icmp .lt (13), 3) (List.mem_of_getElem? (i := 23) rfl)
def it_WM_shared_1 : List (Nat × ClassFile.Instr × Nat) := [(45, .new 129, 3), (48, .dup, 1), (49, .ldc 177, 2), (51, .invokespecial 133, 3), (54, .athrow, 1), (55, .aload_n 3, 1), (56, .getfield 179, 3), (59, .iload_n 2, 1), (60, .iaload, 1), (61, .ireturn, 1)]
theorem id_WM_shared_1 : ∀ q ∈ it_WM_shared_1, decode prog_1_method_14_code q.1 = .ok q.2 := by decide +kernel
theorem d_WM_shared_45 : decode prog_1_method_14_code 45 = .ok (.new 129, 3) := id_WM_shared_1 (45, .new 129, 3) (List.mem_of_getElem? (i := 0) rfl)
theorem d_WM_shared_48 : decode prog_1_method_14_code 48 = .ok (.dup, 1) := id_WM_shared_1 (48, .dup, 1) (List.mem_of_getElem? (i := 1) rfl)
theorem d_WM_shared_49 : decode prog_1_method_14_code 49 = .ok (.ldc 177, 2) := id_WM_shared_1 (49, .ldc 177, 2) (List.mem_of_getElem? (i := 2) rfl)
theorem d_WM_shared_51 : decode prog_1_method_14_code 51 = .ok (.invokespecial 133, 3) := id_WM_shared_1 (51, .invokespecial 133, 3) (List.mem_of_getElem? (i := 3) rfl)
theorem d_WM_shared_54 : decode prog_1_method_14_code 54 = .ok (.athrow, 1) := id_WM_shared_1 (54, .athrow, 1) (List.mem_of_getElem? (i := 4) rfl)
theorem d_WM_shared_55 : decode prog_1_method_14_code 55 = .ok (.aload_n 3, 1) := id_WM_shared_1 (55, .aload_n 3, 1) (List.mem_of_getElem? (i := 5) rfl)
theorem d_WM_shared_56 : decode prog_1_method_14_code 56 = .ok (.getfield 179, 3) := id_WM_shared_1 (56, .getfield 179, 3) (List.mem_of_getElem? (i := 6) rfl)
theorem d_WM_shared_59 : decode prog_1_method_14_code 59 = .ok (.iload_n 2, 1) := id_WM_shared_1 (59, .iload_n 2, 1) (List.mem_of_getElem? (i := 7) rfl)
theorem d_WM_shared_60 : decode prog_1_method_14_code 60 = .ok (.iaload, 1) := id_WM_shared_1 (60, .iaload, 1) (List.mem_of_getElem? (i := 8) rfl)
theorem d_WM_shared_61 : decode prog_1_method_14_code 61 = .ok (.ireturn, 1) := id_WM_shared_1 (61, .ireturn, 1) (List.mem_of_getElem? (i := 9) rfl)
theorem wC_WM_shared : Cond.code ⟨"WarpMill", "shared", "(II)I"⟩ prog_1_method_14_code 4 (some .int) ∈ lw_tb := mem_tb 1040 (by decide +kernel) rfl
def b_WM_shared_23 (F : Nat) (x2 : Int32) (s0 : Option Nat) (h : Hp) : Option (Int32 × Hp) := nu s0 (none) fun a_25 => (gd (hK h a_25 = 8) <| pw (hR h 450 a_25) fun o_29_2 => nu o_29_2 (none) fun a_32 => (if x2 < 0 then (none) else (if x2 < (64 : Int32) then (rq h (hR h 449 a_25) 100 fun a_56 => ix x2 (hN h a_56) fun j_60 => some ((hA h a_56 j_60), h)) else (none))))
set_option maxRecDepth 100000 in
set_option maxHeartbeats 4000000 in
theorem e_WM_shared_23 {G : Gl} {h0 : Hp} {F : Nat} {r : Int32} {h' : Hp}   {x2 : Int32} {s0 : Option Nat} {h : Hp} (hf : b_WM_shared_23 F x2 s0 h = some (r, h')) : Go G mi_WM_shared h0 (pI r h') h 23 [(2, .int x2)] [va_rf s0] := by
  unfold b_WM_shared_23 at hf
  refine g_astore_nq (r := s0) d_WM_shared_23 (by decide) ?_
  show Go _ _ _ _ _ _ [(2, _), (3, _)] _
  refine g_aload_nq (r := s0) d_WM_shared_24 rfl ?_
  refine g_ifnull (r := s0) 45 d_WM_shared_25 (by decide) (fun c_25 => ?_) (fun a_25 c_25 => ?_)
  · subst c_25
    have hf := nu_n hf
    exact nm_s hf
  · subst c_25
    have hf := nu_s hf
    refine g_aload_n d_WM_shared_28 rfl ?_
    obtain ⟨k_29, hf⟩ := gd_s hf
    obtain ⟨o_29_2, e_29_2, hf⟩ := pw_s hf
    refine fg_Block_unit lf_WM_173 d_WM_shared_29 k_29 ?_
    refine Go.vr e_29_2 ?_
    refine g_ifnull (r := o_29_2) 45 d_WM_shared_32 (by decide) (fun c_32 => ?_) (fun a_32 c_32 => ?_)
    · subst c_32
      have hf := nu_n hf
      exact nm_s hf
    · subst c_32
      have hf := nu_s hf
      refine g_iload_n d_WM_shared_35 rfl ?_
      refine g_if_lt 45 d_WM_shared_36 (by decide) (fun c_36 => ?_) (fun c_36 => ?_)
      · have hf := ifp hf c_36
        exact nm_s hf
      · have hf := ifn hf c_36
        refine g_iload_n d_WM_shared_39 rfl ?_
        refine g_bipush (64) d_WM_shared_40 (by decide) ?_
        refine g_icmp_lt 55 d_WM_shared_42 (by decide) (fun c_42 => ?_) (fun c_42 => ?_)
        · have hf := ifp hf c_42
          refine g_aload_n d_WM_shared_55 rfl ?_
          obtain ⟨a_56, e_56, k_56, hf⟩ := rq_s hf
          refine fgs_Block_ints lf_WM_179 d_WM_shared_56 k_29 e_56 ?_
          refine g_iload_n d_WM_shared_59 rfl ?_
          obtain ⟨i_60, hf⟩ := ix_s hf
          refine g_iald k_56 i_60 d_WM_shared_60 ?_
          exact Go.ret (some _) (rOk_i _) rfl d_WM_shared_61 (pI_of hf)
        · have hf := ifn hf c_42
          exact nm_s hf
def b_WM_shared_22 (F : Nat) (x2 : Int32) (h : Hp) : Option (Int32 × Hp) := b_WM_shared_23 F x2 none h
set_option maxRecDepth 100000 in
set_option maxHeartbeats 4000000 in
theorem e_WM_shared_22 {G : Gl} {h0 : Hp} {F : Nat} {r : Int32} {h' : Hp}   {x2 : Int32} {h : Hp} (hf : b_WM_shared_22 F x2 h = some (r, h')) : Go G mi_WM_shared h0 (pI r h') h 22 [(2, .int x2)] [] := by
  unfold b_WM_shared_22 at hf
  refine g_null d_WM_shared_22 ?_
  have key := e_WM_shared_23 (G := G) (h0 := h0)  hf
  exact key
def f_WM_shared (F : Nat) (x0 : Nat) (x1 : Int32) (x2 : Int32) (h : Hp) : Option (Int32 × Hp) := if x1 < 0 then (b_WM_shared_22 F x2 h) else (gd (hK h x0 = 1) <| rq h (hR h 5 x0) 122 fun a_6_2 => if (nI (hN h a_6_2)) ≤ x1 then (b_WM_shared_22 F x2 h) else (ix x1 (hN h a_6_2) fun j_18 => pw (hQ h a_6_2 j_18) fun o_18_2 => b_WM_shared_23 F x2 o_18_2 h))
set_option maxRecDepth 100000 in
set_option maxHeartbeats 4000000 in
theorem e_WM_shared {G : Gl} {F : Nat} {r : Int32} {h' : Hp} {x0 : Nat} {x1 : Int32} {x2 : Int32} {h : Hp} (hf : f_WM_shared F x0 x1 x2 h = some (r, h')) : Ex G mi_WM_shared [.ref x0, .int x1, .int x2] h (pI r h') := by
  unfold f_WM_shared at hf
  refine Ex.of nmI (by decide) (Nat.le_of_ble_eq_true rfl) ?_
  show Go G mi_WM_shared h _ h 0 [(0, .ref x0), (1, .int x1), (2, .int x2)] []
  refine g_iload_n d_WM_shared_0 rfl ?_
  refine g_if_lt 22 d_WM_shared_1 (by decide) (fun c_1 => ?_) (fun c_1 => ?_)
  · have hf := ifp hf c_1
    refine Go.locals [2] rfl ?_
    have key := e_WM_shared_22 (G := G) (h0 := h)  hf
    exact key
  · have hf := ifn hf c_1
    refine g_iload_n d_WM_shared_4 rfl ?_
    refine g_aload_n d_WM_shared_5 rfl ?_
    obtain ⟨k_6, hf⟩ := gd_s hf
    obtain ⟨a_6_2, e_6_2, k_6_2, hf⟩ := rq_s hf
    refine fgs_WM_blocks lf_WM_44 d_WM_shared_6 k_6 e_6_2 ?_
    refine g_alen k_6_2 (by decide) rfl d_WM_shared_9 ?_
    refine g_icmp_ge 22 d_WM_shared_10 (by decide) (fun c_10 => ?_) (fun c_10 => ?_)
    · have hf := ifp hf c_10
      refine Go.locals [2] rfl ?_
      have key := e_WM_shared_22 (G := G) (h0 := h)  hf
      exact key
    · have hf := ifn hf c_10
      refine g_aload_n d_WM_shared_13 rfl ?_
      refine fgs_WM_blocks lf_WM_44 d_WM_shared_14 k_6 e_6_2 ?_
      refine g_iload_n d_WM_shared_17 rfl ?_
      obtain ⟨i_18, hf⟩ := ix_s hf
      refine g_aald k_6_2 (by decide) rfl rfl i_18 d_WM_shared_18 ?_
      obtain ⟨o_18_2, e_18_2, hf⟩ := pw_s hf
      refine Go.vr e_18_2 ?_
      refine g_goto 23 d_WM_shared_19 (by decide) ?_
      refine Go.locals [2] rfl ?_
      have key := e_WM_shared_23 (G := G) (h0 := h)  hf
      exact key
abbrev mi_Mod_shared : MI := (⟨"WarpMillModel", "shared", "(II)I"⟩, prog_13_method_70_code, 5, some .int, 0, 0)
def it_Mod_shared_0 : List (Nat × ClassFile.Instr × Nat) := [(0, .iconst 0, 1), (1, .istore_n 3, 1), (2, .iconst 0, 1), (3, .istore 4, 2), (5, .iload 4, 2), (7, .sipush (128), 3), (10, .if_icmp .ge (34), 3), (13, .iload_n 3, 1), (14, .ifCond .ne (18), 3), (17, .iload_n 1, 1), (18, .ifCond .lt (18), 3), (21, .aload_n 0, 1), (22, .getfield 54, 3), (25, .iload 4, 2), (27, .iaload, 1), (28, .iload_n 1, 1), (29, .if_icmp .ne (7), 3), (32, .iconst 1, 1), (33, .goto (4), 3), (36, .iconst 0, 1), (37, .istore_n 3, 1), (38, .iinc 4 (1), 3), (41, .goto (-36), 3), (44, .aload_n 0, 1)]
theorem id_Mod_shared_0 : ∀ q ∈ it_Mod_shared_0, decode prog_13_method_70_code q.1 = .ok q.2 := by decide +kernel
theorem d_Mod_shared_0 : decode prog_13_method_70_code 0 = .ok (.iconst 0, 1) := id_Mod_shared_0 (0, .iconst 0, 1) (List.mem_of_getElem? (i := 0) rfl)
theorem d_Mod_shared_1 : decode prog_13_method_70_code 1 = .ok (.istore_n 3, 1) := id_Mod_shared_0 (1, .istore_n 3, 1) (List.mem_of_getElem? (i := 1) rfl)
theorem d_Mod_shared_2 : decode prog_13_method_70_code 2 = .ok (.iconst 0, 1) := id_Mod_shared_0 (2, .iconst 0, 1) (List.mem_of_getElem? (i := 2) rfl)
theorem d_Mod_shared_3 : decode prog_13_method_70_code 3 = .ok (.istore 4, 2) := id_Mod_shared_0 (3, .istore 4, 2) (List.mem_of_getElem? (i := 3) rfl)
theorem d_Mod_shared_5 : decode prog_13_method_70_code 5 = .ok (.iload 4, 2) := id_Mod_shared_0 (5, .iload 4, 2) (List.mem_of_getElem? (i := 4) rfl)
theorem d_Mod_shared_7 : decode prog_13_method_70_code 7 = .ok (.sipush (128), 3) := id_Mod_shared_0 (7, .sipush (128), 3) (List.mem_of_getElem? (i := 5) rfl)
theorem d_Mod_shared_10 : decode prog_13_method_70_code 10 = .ok (.if_icmp .ge (34), 3) := id_Mod_shared_0 (10, .if_icmp .ge (34), 3) (List.mem_of_getElem? (i := 6) rfl)
theorem d_Mod_shared_13 : decode prog_13_method_70_code 13 = .ok (.iload_n 3, 1) := id_Mod_shared_0 (13, .iload_n 3, 1) (List.mem_of_getElem? (i := 7) rfl)
theorem d_Mod_shared_14 : decode prog_13_method_70_code 14 = .ok (.ifCond .ne (18), 3) := id_Mod_shared_0 (14, .ifCond .ne (18), 3) (List.mem_of_getElem? (i := 8) rfl)
theorem d_Mod_shared_17 : decode prog_13_method_70_code 17 = .ok (.iload_n 1, 1) := id_Mod_shared_0 (17, .iload_n 1, 1) (List.mem_of_getElem? (i := 9) rfl)
theorem d_Mod_shared_18 : decode prog_13_method_70_code 18 = .ok (.ifCond .lt (18), 3) := id_Mod_shared_0 (18, .ifCond .lt (18), 3) (List.mem_of_getElem? (i := 10) rfl)
theorem d_Mod_shared_21 : decode prog_13_method_70_code 21 = .ok (.aload_n 0, 1) := id_Mod_shared_0 (21, .aload_n 0, 1) (List.mem_of_getElem? (i := 11) rfl)
theorem d_Mod_shared_22 : decode prog_13_method_70_code 22 = .ok (.getfield 54, 3) := id_Mod_shared_0 (22, .getfield 54, 3) (List.mem_of_getElem? (i := 12) rfl)
theorem d_Mod_shared_25 : decode prog_13_method_70_code 25 = .ok (.iload 4, 2) := id_Mod_shared_0 (25, .iload 4, 2) (List.mem_of_getElem? (i := 13) rfl)
theorem d_Mod_shared_27 : decode prog_13_method_70_code 27 = .ok (.iaload, 1) := id_Mod_shared_0 (27, .iaload, 1) (List.mem_of_getElem? (i := 14) rfl)
theorem d_Mod_shared_28 : decode prog_13_method_70_code 28 = .ok (.iload_n 1, 1) := id_Mod_shared_0 (28, .iload_n 1, 1) (List.mem_of_getElem? (i := 15) rfl)
theorem d_Mod_shared_29 : decode prog_13_method_70_code 29 = .ok (.if_icmp .ne (7), 3) := id_Mod_shared_0 (29, .if_icmp .ne (7), 3) (List.mem_of_getElem? (i := 16) rfl)
theorem d_Mod_shared_32 : decode prog_13_method_70_code 32 = .ok (.iconst 1, 1) := id_Mod_shared_0 (32, .iconst 1, 1) (List.mem_of_getElem? (i := 17) rfl)
theorem d_Mod_shared_33 : decode prog_13_method_70_code 33 = .ok (.goto (4), 3) := id_Mod_shared_0 (33, .goto (4), 3) (List.mem_of_getElem? (i := 18) rfl)
theorem d_Mod_shared_36 : decode prog_13_method_70_code 36 = .ok (.iconst 0, 1) := id_Mod_shared_0 (36, .iconst 0, 1) (List.mem_of_getElem? (i := 19) rfl)
theorem d_Mod_shared_37 : decode prog_13_method_70_code 37 = .ok (.istore_n 3, 1) := id_Mod_shared_0 (37, .istore_n 3, 1) (List.mem_of_getElem? (i := 20) rfl)
theorem d_Mod_shared_38 : decode prog_13_method_70_code 38 = .ok (.iinc 4 (1), 3) := id_Mod_shared_0 (38, .iinc 4 (1), 3) (List.mem_of_getElem? (i := 21) rfl)
theorem d_Mod_shared_41 : decode prog_13_method_70_code 41 = .ok (.goto (-36), 3) := id_Mod_shared_0 (41, .goto (-36), 3) (List.mem_of_getElem? (i := 22) rfl)
theorem d_Mod_shared_44 : decode prog_13_method_70_code 44 = .ok (.aload_n 0, 1) := id_Mod_shared_0 (44, .aload_n 0, 1) (List.mem_of_getElem? (i := 23) rfl)
def it_Mod_shared_1 : List (Nat × ClassFile.Instr × Nat) := [(45, .iload_n 3, 1), (46, .ifCond .eq (17), 3), (49, .iload_n 2, 1), (50, .ifCond .lt (13), 3), (53, .iload_n 2, 1), (54, .bipush (64), 2), (56, .if_icmp .ge (7), 3), (59, .iconst 0, 1), (60, .goto (4), 3), (63, .iconst 1, 1), (64, .putfield 120, 3), (67, .aload_n 0, 1), (68, .getfield 120, 3), (71, .ifCond .ne (17), 3), (74, .aload_n 0, 1), (75, .getfield 83, 3), (78, .bipush (64), 2), (80, .iload_n 1, 1), (81, .imul, 1), (82, .iload_n 2, 1), (83, .iadd, 1), (84, .iaload, 1), (85, .goto (4), 3), (88, .iconst 0, 1)]
theorem id_Mod_shared_1 : ∀ q ∈ it_Mod_shared_1, decode prog_13_method_70_code q.1 = .ok q.2 := by decide +kernel
theorem d_Mod_shared_45 : decode prog_13_method_70_code 45 = .ok (.iload_n 3, 1) := id_Mod_shared_1 (45, .iload_n 3, 1) (List.mem_of_getElem? (i := 0) rfl)
theorem d_Mod_shared_46 : decode prog_13_method_70_code 46 = .ok (.ifCond .eq (17), 3) := id_Mod_shared_1 (46, .ifCond .eq (17), 3) (List.mem_of_getElem? (i := 1) rfl)
theorem d_Mod_shared_49 : decode prog_13_method_70_code 49 = .ok (.iload_n 2, 1) := id_Mod_shared_1 (49, .iload_n 2, 1) (List.mem_of_getElem? (i := 2) rfl)
theorem d_Mod_shared_50 : decode prog_13_method_70_code 50 = .ok (.ifCond .lt (13), 3) := id_Mod_shared_1 (50, .ifCond .lt (13), 3) (List.mem_of_getElem? (i := 3) rfl)
theorem d_Mod_shared_53 : decode prog_13_method_70_code 53 = .ok (.iload_n 2, 1) := id_Mod_shared_1 (53, .iload_n 2, 1) (List.mem_of_getElem? (i := 4) rfl)
theorem d_Mod_shared_54 : decode prog_13_method_70_code 54 = .ok (.bipush (64), 2) := id_Mod_shared_1 (54, .bipush (64), 2) (List.mem_of_getElem? (i := 5) rfl)
theorem d_Mod_shared_56 : decode prog_13_method_70_code 56 = .ok (.if_icmp .ge (7), 3) := id_Mod_shared_1 (56, .if_icmp .ge (7), 3) (List.mem_of_getElem? (i := 6) rfl)
theorem d_Mod_shared_59 : decode prog_13_method_70_code 59 = .ok (.iconst 0, 1) := id_Mod_shared_1 (59, .iconst 0, 1) (List.mem_of_getElem? (i := 7) rfl)
theorem d_Mod_shared_60 : decode prog_13_method_70_code 60 = .ok (.goto (4), 3) := id_Mod_shared_1 (60, .goto (4), 3) (List.mem_of_getElem? (i := 8) rfl)
theorem d_Mod_shared_63 : decode prog_13_method_70_code 63 = .ok (.iconst 1, 1) := id_Mod_shared_1 (63, .iconst 1, 1) (List.mem_of_getElem? (i := 9) rfl)
theorem d_Mod_shared_64 : decode prog_13_method_70_code 64 = .ok (.putfield 120, 3) := id_Mod_shared_1 (64, .putfield 120, 3) (List.mem_of_getElem? (i := 10) rfl)
theorem d_Mod_shared_67 : decode prog_13_method_70_code 67 = .ok (.aload_n 0, 1) := id_Mod_shared_1 (67, .aload_n 0, 1) (List.mem_of_getElem? (i := 11) rfl)
theorem d_Mod_shared_68 : decode prog_13_method_70_code 68 = .ok (.getfield 120, 3) := id_Mod_shared_1 (68, .getfield 120, 3) (List.mem_of_getElem? (i := 12) rfl)
theorem d_Mod_shared_71 : decode prog_13_method_70_code 71 = .ok (.ifCond .ne (17), 3) := id_Mod_shared_1 (71, .ifCond .ne (17), 3) (List.mem_of_getElem? (i := 13) rfl)
theorem d_Mod_shared_74 : decode prog_13_method_70_code 74 = .ok (.aload_n 0, 1) := id_Mod_shared_1 (74, .aload_n 0, 1) (List.mem_of_getElem? (i := 14) rfl)
theorem d_Mod_shared_75 : decode prog_13_method_70_code 75 = .ok (.getfield 83, 3) := id_Mod_shared_1 (75, .getfield 83, 3) (List.mem_of_getElem? (i := 15) rfl)
theorem d_Mod_shared_78 : decode prog_13_method_70_code 78 = .ok (.bipush (64), 2) := id_Mod_shared_1 (78, .bipush (64), 2) (List.mem_of_getElem? (i := 16) rfl)
theorem d_Mod_shared_80 : decode prog_13_method_70_code 80 = .ok (.iload_n 1, 1) := id_Mod_shared_1 (80, .iload_n 1, 1) (List.mem_of_getElem? (i := 17) rfl)
theorem d_Mod_shared_81 : decode prog_13_method_70_code 81 = .ok (.imul, 1) := id_Mod_shared_1 (81, .imul, 1) (List.mem_of_getElem? (i := 18) rfl)
theorem d_Mod_shared_82 : decode prog_13_method_70_code 82 = .ok (.iload_n 2, 1) := id_Mod_shared_1 (82, .iload_n 2, 1) (List.mem_of_getElem? (i := 19) rfl)
theorem d_Mod_shared_83 : decode prog_13_method_70_code 83 = .ok (.iadd, 1) := id_Mod_shared_1 (83, .iadd, 1) (List.mem_of_getElem? (i := 20) rfl)
theorem d_Mod_shared_84 : decode prog_13_method_70_code 84 = .ok (.iaload, 1) := id_Mod_shared_1 (84, .iaload, 1) (List.mem_of_getElem? (i := 21) rfl)
theorem d_Mod_shared_85 : decode prog_13_method_70_code 85 = .ok (.goto (4), 3) := id_Mod_shared_1 (85, .goto (4), 3) (List.mem_of_getElem? (i := 22) rfl)
theorem d_Mod_shared_88 : decode prog_13_method_70_code 88 = .ok (.iconst 0, 1) := id_Mod_shared_1 (88, .iconst 0, 1) (List.mem_of_getElem? (i := 23) rfl)
def it_Mod_shared_2 : List (Nat × ClassFile.Instr × Nat) := [(89, .ireturn, 1)]
theorem id_Mod_shared_2 : ∀ q ∈ it_Mod_shared_2, decode prog_13_method_70_code q.1 = .ok q.2 := by decide +kernel
theorem d_Mod_shared_89 : decode prog_13_method_70_code 89 = .ok (.ireturn, 1) := id_Mod_shared_2 (89, .ireturn, 1) (List.mem_of_getElem? (i := 0) rfl)
theorem wC_Mod_shared : Cond.code ⟨"WarpMillModel", "shared", "(II)I"⟩ prog_13_method_70_code 5 (some .int) ∈ lw_tb := mem_tb 1508 (by decide +kernel) rfl
def b_Mod_shared_32 (F : Nat) (k5 : Nat → Int32 → Int32 → Int32 → Int32 → Hp → Option (Int32 × Hp)) (x0 : Nat) (x1 : Int32) (x2 : Int32) (x4 : Int32) (h : Hp) : Option (Int32 × Hp) := k5 x0 x1 x2 (1 : Int32) (x4 + 1) h
set_option maxRecDepth 100000 in
set_option maxHeartbeats 4000000 in
theorem e_Mod_shared_32 {G : Gl} (hw : gF G) {h0 : Hp} {F : Nat} {r : Int32} {h' : Hp} {k5 : Nat → Int32 → Int32 → Int32 → Int32 → Hp → Option (Int32 × Hp)} (hk5 : ∀ (y0 : Nat) (y1 : Int32) (y2 : Int32) (y3 : Int32) (y4 : Int32) (hh : Hp), k5 y0 y1 y2 y3 y4 hh = some (r, h') → Go G mi_Mod_shared h0 (pI r h') hh 5 [(0, .ref y0), (1, .int y1), (2, .int y2), (3, .int y3), (4, .int y4)] []) {x0 : Nat} {x1 : Int32} {x2 : Int32} {x4 : Int32} {h : Hp} (hf : b_Mod_shared_32 F k5 x0 x1 x2 x4 h = some (r, h')) : Go G mi_Mod_shared h0 (pI r h') h 32 [(0, .ref x0), (1, .int x1), (2, .int x2), (4, .int x4)] [] := by
  unfold b_Mod_shared_32 at hf
  refine g_iconst 1 d_Mod_shared_32 (by decide) ?_
  refine g_goto 37 d_Mod_shared_33 (by decide) ?_
  refine g_istore_n d_Mod_shared_37 (by decide) ?_
  show Go _ _ _ _ _ _ [(0, _), (1, _), (2, _), (3, _), (4, _)] _
  refine g_iinc (_ + 1) d_Mod_shared_38 rfl (by rfl) (by decide) ?_
  show Go _ _ _ _ _ _ [(0, _), (1, _), (2, _), (3, _), (4, _)] _
  refine g_goto 5 d_Mod_shared_41 (by decide) ?_
  exact hk5 _ _ _ _ _ _ hf
def b_Mod_shared_64 (F : Nat) (x0 : Nat) (x1 : Int32) (x2 : Int32) (s0 : Nat) (s1 : Int32) (h : Hp) : Option (Int32 × Hp) := gd (hK h s0 = 12) <| pw (sI h 704 s0 s1) fun h_64_2 => gd (hK h_64_2 x0 = 12) <| if (hI h_64_2 704 x0) = 0 then (rq h_64_2 (hR h_64_2 744 x0) 100 fun a_75 => ix (((64 : Int32) * x1) + x2) (hN h_64_2 a_75) fun j_84 => some ((hA h_64_2 a_75 j_84), h_64_2)) else (some ((0 : Int32), h_64_2))
set_option maxRecDepth 100000 in
set_option maxHeartbeats 4000000 in
theorem e_Mod_shared_64 {G : Gl} (hw : gF G) {h0 : Hp} {F : Nat} {r : Int32} {h' : Hp}   {x0 : Nat} {x1 : Int32} {x2 : Int32} {s0 : Nat} {s1 : Int32} {h : Hp} (hf : b_Mod_shared_64 F x0 x1 x2 s0 s1 h = some (r, h')) : Go G mi_Mod_shared h0 (pI r h') h 64 [(0, .ref x0), (1, .int x1), (2, .int x2)] [.int s1, .ref s0] := by
  unfold b_Mod_shared_64 at hf
  obtain ⟨k_64, hf⟩ := gd_s hf
  refine fp_Mod_thrown hw lf_Mod_120 d_Mod_shared_64 k_64 ?_
  have hf := pw_b hf
  refine g_aload_n d_Mod_shared_67 rfl ?_
  obtain ⟨k_68, hf⟩ := gd_s hf
  refine fg_Mod_thrown lf_Mod_120 d_Mod_shared_68 k_68 ?_
  refine g_if_ne 88 d_Mod_shared_71 (by decide) (fun c_71 => ?_) (fun c_71 => ?_)
  · have hf := ifn hf c_71
    refine g_iconst 0 d_Mod_shared_88 (by decide) ?_
    exact Go.ret (some _) (rOk_i _) rfl d_Mod_shared_89 (pI_of hf)
  · have hf := ifp hf c_71
    refine g_aload_n d_Mod_shared_74 rfl ?_
    obtain ⟨a_75, e_75, k_75, hf⟩ := rq_s hf
    refine fgs_Mod_shared lf_Mod_83 d_Mod_shared_75 k_68 e_75 ?_
    refine g_bipush (64) d_Mod_shared_78 (by decide) ?_
    refine g_iload_n d_Mod_shared_80 rfl ?_
    refine g_imul d_Mod_shared_81 ?_
    refine g_iload_n d_Mod_shared_82 rfl ?_
    refine g_iadd d_Mod_shared_83 ?_
    obtain ⟨i_84, hf⟩ := ix_s hf
    refine g_iald k_75 i_84 d_Mod_shared_84 ?_
    refine g_goto 89 d_Mod_shared_85 (by decide) ?_
    exact Go.ret (some _) (rOk_i _) rfl d_Mod_shared_89 (pI_of hf)
def b_Mod_shared_63 (F : Nat) (x0 : Nat) (x1 : Int32) (x2 : Int32) (s0 : Nat) (h : Hp) : Option (Int32 × Hp) := b_Mod_shared_64 F x0 x1 x2 s0 (1 : Int32) h
set_option maxRecDepth 100000 in
set_option maxHeartbeats 4000000 in
theorem e_Mod_shared_63 {G : Gl} (hw : gF G) {h0 : Hp} {F : Nat} {r : Int32} {h' : Hp}   {x0 : Nat} {x1 : Int32} {x2 : Int32} {s0 : Nat} {h : Hp} (hf : b_Mod_shared_63 F x0 x1 x2 s0 h = some (r, h')) : Go G mi_Mod_shared h0 (pI r h') h 63 [(0, .ref x0), (1, .int x1), (2, .int x2)] [.ref s0] := by
  unfold b_Mod_shared_63 at hf
  refine g_iconst 1 d_Mod_shared_63 (by decide) ?_
  have key := e_Mod_shared_64 hw (G := G) (h0 := h0)  hf
  exact key
def b_Mod_shared_5 (F : Nat) : Nat → Nat → Int32 → Int32 → Int32 → Int32 → Hp → Option (Int32 × Hp)
  | 0 => fun _ _ _ _ _ _ => none
  | n + 1 => fun x0 x1 x2 x3 x4 h => if (128 : Int32) ≤ x4 then (if x3 = 0 then (b_Mod_shared_63 F x0 x1 x2 x0 h) else (if x2 < 0 then (b_Mod_shared_63 F x0 x1 x2 x0 h) else (if (64 : Int32) ≤ x2 then (b_Mod_shared_63 F x0 x1 x2 x0 h) else (b_Mod_shared_64 F x0 x1 x2 x0 (0 : Int32) h)))) else (if x3 = 0 then (if x1 < 0 then (b_Mod_shared_5 F n x0 x1 x2 (0 : Int32) (x4 + 1) h) else (gd (hK h x0 = 12) <| rq h (hR h 735 x0) 100 fun a_22_2 => ix x4 (hN h a_22_2) fun j_27 => if (hA h a_22_2 j_27) = x1 then (b_Mod_shared_32 F (b_Mod_shared_5 F n) x0 x1 x2 x4 h) else (b_Mod_shared_5 F n x0 x1 x2 (0 : Int32) (x4 + 1) h))) else (b_Mod_shared_32 F (b_Mod_shared_5 F n) x0 x1 x2 x4 h))
set_option maxRecDepth 100000 in
set_option maxHeartbeats 4000000 in
theorem e_Mod_shared_5 {G : Gl} (hw : gF G) {h0 : Hp} {F : Nat} {r : Int32} {h' : Hp}   : ∀ (n : Nat) (x0 : Nat) (x1 : Int32) (x2 : Int32) (x3 : Int32) (x4 : Int32) (h : Hp), b_Mod_shared_5 F n x0 x1 x2 x3 x4 h = some (r, h') → Go G mi_Mod_shared h0 (pI r h') h 5 [(0, .ref x0), (1, .int x1), (2, .int x2), (3, .int x3), (4, .int x4)] [] := by
  intro n
  induction n with
  | zero =>
    intro _ _ _ _ _ _ hf
    exact nm_s hf
  | succ n ih =>
    intro x0 x1 x2 x3 x4 h hf
    unfold b_Mod_shared_5 at hf
    refine g_iload d_Mod_shared_5 rfl ?_
    refine g_sipush (128) d_Mod_shared_7 (by decide) ?_
    refine g_icmp_ge 44 d_Mod_shared_10 (by decide) (fun c_10 => ?_) (fun c_10 => ?_)
    · have hf := ifp hf c_10
      refine g_aload_n d_Mod_shared_44 rfl ?_
      refine g_iload_n d_Mod_shared_45 rfl ?_
      refine g_if_eq 63 d_Mod_shared_46 (by decide) (fun c_46 => ?_) (fun c_46 => ?_)
      · have hf := ifp hf c_46
        refine Go.locals [0, 1, 2] rfl ?_
        have key := e_Mod_shared_63 hw (G := G) (h0 := h0)  hf
        exact key
      · have hf := ifn hf c_46
        refine g_iload_n d_Mod_shared_49 rfl ?_
        refine g_if_lt 63 d_Mod_shared_50 (by decide) (fun c_50 => ?_) (fun c_50 => ?_)
        · have hf := ifp hf c_50
          refine Go.locals [0, 1, 2] rfl ?_
          have key := e_Mod_shared_63 hw (G := G) (h0 := h0)  hf
          exact key
        · have hf := ifn hf c_50
          refine g_iload_n d_Mod_shared_53 rfl ?_
          refine g_bipush (64) d_Mod_shared_54 (by decide) ?_
          refine g_icmp_ge 63 d_Mod_shared_56 (by decide) (fun c_56 => ?_) (fun c_56 => ?_)
          · have hf := ifp hf c_56
            refine Go.locals [0, 1, 2] rfl ?_
            have key := e_Mod_shared_63 hw (G := G) (h0 := h0)  hf
            exact key
          · have hf := ifn hf c_56
            refine g_iconst 0 d_Mod_shared_59 (by decide) ?_
            refine g_goto 64 d_Mod_shared_60 (by decide) ?_
            refine Go.locals [0, 1, 2] rfl ?_
            have key := e_Mod_shared_64 hw (G := G) (h0 := h0)  hf
            exact key
    · have hf := ifn hf c_10
      refine g_iload_n d_Mod_shared_13 rfl ?_
      refine g_if_ne 32 d_Mod_shared_14 (by decide) (fun c_14 => ?_) (fun c_14 => ?_)
      · have hf := ifn hf c_14
        refine Go.locals [0, 1, 2, 4] rfl ?_
        have key := e_Mod_shared_32 hw (G := G) (h0 := h0) (fun _ _ _ _ _ _ q => ih _ _ _ _ _ _ q) hf
        exact key
      · have hf := ifp hf c_14
        refine g_iload_n d_Mod_shared_17 rfl ?_
        refine g_if_lt 36 d_Mod_shared_18 (by decide) (fun c_18 => ?_) (fun c_18 => ?_)
        · have hf := ifp hf c_18
          refine g_iconst 0 d_Mod_shared_36 (by decide) ?_
          refine g_istore_n d_Mod_shared_37 (by decide) ?_
          show Go _ _ _ _ _ _ [(0, _), (1, _), (2, _), (3, _), (4, _)] _
          refine g_iinc (_ + 1) d_Mod_shared_38 rfl (by rfl) (by decide) ?_
          show Go _ _ _ _ _ _ [(0, _), (1, _), (2, _), (3, _), (4, _)] _
          refine g_goto 5 d_Mod_shared_41 (by decide) ?_
          exact ih _ _ _ _ _ _ hf
        · have hf := ifn hf c_18
          refine g_aload_n d_Mod_shared_21 rfl ?_
          obtain ⟨k_22, hf⟩ := gd_s hf
          obtain ⟨a_22_2, e_22_2, k_22_2, hf⟩ := rq_s hf
          refine fgs_Mod_slotBlock lf_Mod_54 d_Mod_shared_22 k_22 e_22_2 ?_
          refine g_iload d_Mod_shared_25 rfl ?_
          obtain ⟨i_27, hf⟩ := ix_s hf
          refine g_iald k_22_2 i_27 d_Mod_shared_27 ?_
          refine g_iload_n d_Mod_shared_28 rfl ?_
          refine g_icmp_ne 36 d_Mod_shared_29 (by decide) (fun c_29 => ?_) (fun c_29 => ?_)
          · have hf := ifn hf c_29
            refine g_iconst 0 d_Mod_shared_36 (by decide) ?_
            refine g_istore_n d_Mod_shared_37 (by decide) ?_
            show Go _ _ _ _ _ _ [(0, _), (1, _), (2, _), (3, _), (4, _)] _
            refine g_iinc (_ + 1) d_Mod_shared_38 rfl (by rfl) (by decide) ?_
            show Go _ _ _ _ _ _ [(0, _), (1, _), (2, _), (3, _), (4, _)] _
            refine g_goto 5 d_Mod_shared_41 (by decide) ?_
            exact ih _ _ _ _ _ _ hf
          · have hf := ifp hf c_29
            refine Go.locals [0, 1, 2, 4] rfl ?_
            have key := e_Mod_shared_32 hw (G := G) (h0 := h0) (fun _ _ _ _ _ _ q => ih _ _ _ _ _ _ q) hf
            exact key
def f_Mod_shared (F : Nat) (x0 : Nat) (x1 : Int32) (x2 : Int32) (h : Hp) : Option (Int32 × Hp) := b_Mod_shared_5 F F x0 x1 x2 (0 : Int32) (0 : Int32) h
set_option maxRecDepth 100000 in
set_option maxHeartbeats 4000000 in
theorem e_Mod_shared {G : Gl} (hw : gF G) {F : Nat} {r : Int32} {h' : Hp} {x0 : Nat} {x1 : Int32} {x2 : Int32} {h : Hp} (hf : f_Mod_shared F x0 x1 x2 h = some (r, h')) : Ex G mi_Mod_shared [.ref x0, .int x1, .int x2] h (pI r h') := by
  unfold f_Mod_shared at hf
  refine Ex.of nmI (by decide) (Nat.le_of_ble_eq_true rfl) ?_
  show Go G mi_Mod_shared h _ h 0 [(0, .ref x0), (1, .int x1), (2, .int x2)] []
  refine g_iconst 0 d_Mod_shared_0 (by decide) ?_
  refine g_istore_n d_Mod_shared_1 (by decide) ?_
  show Go _ _ _ _ _ _ [(0, _), (1, _), (2, _), (3, _)] _
  refine g_iconst 0 d_Mod_shared_2 (by decide) ?_
  refine g_istore d_Mod_shared_3 (by decide) ?_
  show Go _ _ _ _ _ _ [(0, _), (1, _), (2, _), (3, _), (4, _)] _
  have key := e_Mod_shared_5 hw (G := G) (h0 := h)  F _ _ _ _ _ _ hf
  exact key
