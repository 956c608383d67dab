abbrev mi_Mod_cached : MI := (⟨"WarpMillModel", "cached", "(II)I"⟩, prog_13_method_66_code, 3, some .int, 0, 0)
def it_Mod_cached_0 : List (Nat × ClassFile.Instr × Nat) := [(0, .aload_n 0, 1), (1, .iconst 0, 1), (2, .putfield 120, 3), (5, .iload_n 1, 1), (6, .ifCond .lt (20), 3), (9, .iload_n 1, 1), (10, .aload_n 0, 1), (11, .getfield 22, 3), (14, .if_icmp .ge (12), 3), (17, .iload_n 2, 1), (18, .ifCond .lt (8), 3), (21, .iload_n 2, 1), (22, .iconst 4, 1), (23, .if_icmp .le (5), 3), (26, .iconst (-1), 1), (27, .ireturn, 1), (28, .iload_n 2, 1), (29, .iconst 4, 1), (30, .if_icmp .ne (12), 3), (33, .aload_n 0, 1), (34, .getfield 39, 3), (37, .iload_n 1, 1), (38, .iaload, 1), (39, .goto (13), 3)]
theorem id_Mod_cached_0 : ∀ q ∈ it_Mod_cached_0, decode prog_13_method_66_code q.1 = .ok q.2 := by decide +kernel
theorem d_Mod_cached_0 : decode prog_13_method_66_code 0 = .ok (.aload_n 0, 1) := id_Mod_cached_0 (0, .aload_n 0, 1) (List.mem_of_getElem? (i := 0) rfl)
theorem d_Mod_cached_1 : decode prog_13_method_66_code 1 = .ok (.iconst 0, 1) := id_Mod_cached_0 (1, .iconst 0, 1) (List.mem_of_getElem? (i := 1) rfl)
theorem d_Mod_cached_2 : decode prog_13_method_66_code 2 = .ok (.putfield 120, 3) := id_Mod_cached_0 (2, .putfield 120, 3) (List.mem_of_getElem? (i := 2) rfl)
theorem d_Mod_cached_5 : decode prog_13_method_66_code 5 = .ok (.iload_n 1, 1) := id_Mod_cached_0 (5, .iload_n 1, 1) (List.mem_of_getElem? (i := 3) rfl)
theorem d_Mod_cached_6 : decode prog_13_method_66_code 6 = .ok (.ifCond .lt (20), 3) := id_Mod_cached_0 (6, .ifCond .lt (20), 3) (List.mem_of_getElem? (i := 4) rfl)
theorem d_Mod_cached_9 : decode prog_13_method_66_code 9 = .ok (.iload_n 1, 1) := id_Mod_cached_0 (9, .iload_n 1, 1) (List.mem_of_getElem? (i := 5) rfl)
theorem d_Mod_cached_10 : decode prog_13_method_66_code 10 = .ok (.aload_n 0, 1) := id_Mod_cached_0 (10, .aload_n 0, 1) (List.mem_of_getElem? (i := 6) rfl)
theorem d_Mod_cached_11 : decode prog_13_method_66_code 11 = .ok (.getfield 22, 3) := id_Mod_cached_0 (11, .getfield 22, 3) (List.mem_of_getElem? (i := 7) rfl)
theorem d_Mod_cached_14 : decode prog_13_method_66_code 14 = .ok (.if_icmp .ge (12), 3) := id_Mod_cached_0 (14, .if_icmp .ge (12), 3) (List.mem_of_getElem? (i := 8) rfl)
theorem d_Mod_cached_17 : decode prog_13_method_66_code 17 = .ok (.iload_n 2, 1) := id_Mod_cached_0 (17, .iload_n 2, 1) (List.mem_of_getElem? (i := 9) rfl)
theorem d_Mod_cached_18 : decode prog_13_method_66_code 18 = .ok (.ifCond .lt (8), 3) := id_Mod_cached_0 (18, .ifCond .lt (8), 3) (List.mem_of_getElem? (i := 10) rfl)
theorem d_Mod_cached_21 : decode prog_13_method_66_code 21 = .ok (.iload_n 2, 1) := id_Mod_cached_0 (21, .iload_n 2, 1) (List.mem_of_getElem? (i := 11) rfl)
theorem d_Mod_cached_22 : decode prog_13_method_66_code 22 = .ok (.iconst 4, 1) := id_Mod_cached_0 (22, .iconst 4, 1) (List.mem_of_getElem? (i := 12) rfl)
theorem d_Mod_cached_23 : decode prog_13_method_66_code 23 = .ok (.if_icmp .le (5), 3) := id_Mod_cached_0 (23, .if_icmp .le (5), 3) (List.mem_of_getElem? (i := 13) rfl)
theorem d_Mod_cached_26 : decode prog_13_method_66_code 26 = .ok (.iconst (-1), 1) := id_Mod_cached_0 (26, .iconst (-1), 1) (List.mem_of_getElem? (i := 14) rfl)
theorem d_Mod_cached_27 : decode prog_13_method_66_code 27 = .ok (.ireturn, 1) := id_Mod_cached_0 (27, .ireturn, 1) (List.mem_of_getElem? (i := 15) rfl)
theorem d_Mod_cached_28 : decode prog_13_method_66_code 28 = .ok (.iload_n 2, 1) := id_Mod_cached_0 (28, .iload_n 2, 1) (List.mem_of_getElem? (i := 16) rfl)
theorem d_Mod_cached_29 : decode prog_13_method_66_code 29 = .ok (.iconst 4, 1) := id_Mod_cached_0 (29, .iconst 4, 1) (List.mem_of_getElem? (i := 17) rfl)
theorem d_Mod_cached_30 : decode prog_13_method_66_code 30 = .ok (.if_icmp .ne (12), 3) := id_Mod_cached_0 (30, .if_icmp .ne (12), 3) (List.mem_of_getElem? (i := 18) rfl)
theorem d_Mod_cached_33 : decode prog_13_method_66_code 33 = .ok (.aload_n 0, 1) := id_Mod_cached_0 (33, .aload_n 0, 1) (List.mem_of_getElem? (i := 19) rfl)
theorem d_Mod_cached_34 : decode prog_13_method_66_code 34 = .ok (.getfield 39, 3) := id_Mod_cached_0 (34, .getfield 39, 3) (List.mem_of_getElem? (i := 20) rfl)
theorem d_Mod_cached_37 : decode prog_13_method_66_code 37 = .ok (.iload_n 1, 1) := id_Mod_cached_0 (37, .iload_n 1, 1) (List.mem_of_getElem? (i := 21) rfl)
theorem d_Mod_cached_38 : decode prog_13_method_66_code 38 = .ok (.iaload, 1) := id_Mod_cached_0 (38, .iaload, 1) (List.mem_of_getElem? (i := 22) rfl)
theorem d_Mod_cached_39 : decode prog_13_method_66_code 39 = .ok (.goto (13), 3) := id_Mod_cached_0 (39, .goto (13), 3) (List.mem_of_getElem? (i := 23) rfl)
def it_Mod_cached_1 : List (Nat × ClassFile.Instr × Nat) := [(42, .aload_n 0, 1), (43, .getfield 36, 3), (46, .iconst 4, 1), (47, .iload_n 1, 1), (48, .imul, 1), (49, .iload_n 2, 1), (50, .iadd, 1), (51, .iaload, 1), (52, .ireturn, 1)]
theorem id_Mod_cached_1 : ∀ q ∈ it_Mod_cached_1, decode prog_13_method_66_code q.1 = .ok q.2 := by decide +kernel
theorem d_Mod_cached_42 : decode prog_13_method_66_code 42 = .ok (.aload_n 0, 1) := id_Mod_cached_1 (42, .aload_n 0, 1) (List.mem_of_getElem? (i := 0) rfl)
theorem d_Mod_cached_43 : decode prog_13_method_66_code 43 = .ok (.getfield 36, 3) := id_Mod_cached_1 (43, .getfield 36, 3) (List.mem_of_getElem? (i := 1) rfl)
theorem d_Mod_cached_46 : decode prog_13_method_66_code 46 = .ok (.iconst 4, 1) := id_Mod_cached_1 (46, .iconst 4, 1) (List.mem_of_getElem? (i := 2) rfl)
theorem d_Mod_cached_47 : decode prog_13_method_66_code 47 = .ok (.iload_n 1, 1) := id_Mod_cached_1 (47, .iload_n 1, 1) (List.mem_of_getElem? (i := 3) rfl)
theorem d_Mod_cached_48 : decode prog_13_method_66_code 48 = .ok (.imul, 1) := id_Mod_cached_1 (48, .imul, 1) (List.mem_of_getElem? (i := 4) rfl)
theorem d_Mod_cached_49 : decode prog_13_method_66_code 49 = .ok (.iload_n 2, 1) := id_Mod_cached_1 (49, .iload_n 2, 1) (List.mem_of_getElem? (i := 5) rfl)
theorem d_Mod_cached_50 : decode prog_13_method_66_code 50 = .ok (.iadd, 1) := id_Mod_cached_1 (50, .iadd, 1) (List.mem_of_getElem? (i := 6) rfl)
theorem d_Mod_cached_51 : decode prog_13_method_66_code 51 = .ok (.iaload, 1) := id_Mod_cached_1 (51, .iaload, 1) (List.mem_of_getElem? (i := 7) rfl)
theorem d_Mod_cached_52 : decode prog_13_method_66_code 52 = .ok (.ireturn, 1) := id_Mod_cached_1 (52, .ireturn, 1) (List.mem_of_getElem? (i := 8) rfl)
theorem wC_Mod_cached : Cond.code ⟨"WarpMillModel", "cached", "(II)I"⟩ prog_13_method_66_code 3 (some .int) ∈ lw_tb := mem_tb 1492 (by decide +kernel) rfl
def f_Mod_cached (F : Nat) (x0 : Nat) (x1 : Int32) (x2 : Int32) (h : Hp) : Option (Int32 × Hp) := gd (hK h x0 = 12) <| pw (sI h 704 x0 (0 : Int32)) fun h_2_2 => if x1 < 0 then (some ((-1 : Int32), h_2_2)) else (if (hI h_2_2 709 x0) ≤ x1 then (some ((-1 : Int32), h_2_2)) else (if x2 < 0 then (some ((-1 : Int32), h_2_2)) else (if x2 ≤ (4 : Int32) then (if x2 = (4 : Int32) then (rq h_2_2 (hR h_2_2 714 x0) 100 fun a_34 => ix x1 (hN h_2_2 a_34) fun j_38 => some ((hA h_2_2 a_34 j_38), h_2_2)) else (rq h_2_2 (hR h_2_2 713 x0) 100 fun a_43 => ix (((4 : Int32) * x1) + x2) (hN h_2_2 a_43) fun j_51 => some ((hA h_2_2 a_43 j_51), h_2_2))) else (some ((-1 : Int32), h_2_2)))))
set_option maxRecDepth 100000 in
set_option maxHeartbeats 4000000 in
theorem e_Mod_cached {G : Gl} (hw : gF G) {F : Nat} {r : Int32} {h' : Hp} {x0 : Nat} {x1 : Int32} {x2 : Int32} {h : Hp} (hf : f_Mod_cached F x0 x1 x2 h = some (r, h')) : Ex G mi_Mod_cached [.ref x0, .int x1, .int x2] h (pI r h') := by
  unfold f_Mod_cached at hf
  refine Ex.of nmI (by decide) (Nat.le_of_ble_eq_true rfl) ?_
  show Go G mi_Mod_cached h _ h 0 [(0, .ref x0), (1, .int x1), (2, .int x2)] []
  refine g_aload_n d_Mod_cached_0 rfl ?_
  refine g_iconst 0 d_Mod_cached_1 (by decide) ?_
  obtain ⟨k_2, hf⟩ := gd_s hf
  refine fp_Mod_thrown hw lf_Mod_120 d_Mod_cached_2 k_2 ?_
  have hf := pw_b hf
  refine g_iload_n d_Mod_cached_5 rfl ?_
  refine g_if_lt 26 d_Mod_cached_6 (by decide) (fun c_6 => ?_) (fun c_6 => ?_)
  · have hf := ifp hf c_6
    refine g_iconst (-1) d_Mod_cached_26 (by decide) ?_
    exact Go.ret (some _) (rOk_i _) rfl d_Mod_cached_27 (pI_of hf)
  · have hf := ifn hf c_6
    refine g_iload_n d_Mod_cached_9 rfl ?_
    refine g_aload_n d_Mod_cached_10 rfl ?_
    refine fg_Mod_gates lf_Mod_22 d_Mod_cached_11 (kksI k_2) ?_
    refine g_icmp_ge 26 d_Mod_cached_14 (by decide) (fun c_14 => ?_) (fun c_14 => ?_)
    · have hf := ifp hf c_14
      refine g_iconst (-1) d_Mod_cached_26 (by decide) ?_
      exact Go.ret (some _) (rOk_i _) rfl d_Mod_cached_27 (pI_of hf)
    · have hf := ifn hf c_14
      refine g_iload_n d_Mod_cached_17 rfl ?_
      refine g_if_lt 26 d_Mod_cached_18 (by decide) (fun c_18 => ?_) (fun c_18 => ?_)
      · have hf := ifp hf c_18
        refine g_iconst (-1) d_Mod_cached_26 (by decide) ?_
        exact Go.ret (some _) (rOk_i _) rfl d_Mod_cached_27 (pI_of hf)
      · have hf := ifn hf c_18
        refine g_iload_n d_Mod_cached_21 rfl ?_
        refine g_iconst 4 d_Mod_cached_22 (by decide) ?_
        refine g_icmp_le 28 d_Mod_cached_23 (by decide) (fun c_23 => ?_) (fun c_23 => ?_)
        · have hf := ifp hf c_23
          refine g_iload_n d_Mod_cached_28 rfl ?_
          refine g_iconst 4 d_Mod_cached_29 (by decide) ?_
          refine g_icmp_ne 42 d_Mod_cached_30 (by decide) (fun c_30 => ?_) (fun c_30 => ?_)
          · have hf := ifn hf c_30
            refine g_aload_n d_Mod_cached_42 rfl ?_
            obtain ⟨a_43, e_43, k_43, hf⟩ := rq_s hf
            refine fgs_Mod_cache lf_Mod_36 d_Mod_cached_43 (kksI k_2) e_43 ?_
            refine g_iconst 4 d_Mod_cached_46 (by decide) ?_
            refine g_iload_n d_Mod_cached_47 rfl ?_
            refine g_imul d_Mod_cached_48 ?_
            refine g_iload_n d_Mod_cached_49 rfl ?_
            refine g_iadd d_Mod_cached_50 ?_
            obtain ⟨i_51, hf⟩ := ix_s hf
            refine g_iald k_43 i_51 d_Mod_cached_51 ?_
            exact Go.ret (some _) (rOk_i _) rfl d_Mod_cached_52 (pI_of hf)
          · have hf := ifp hf c_30
            refine g_aload_n d_Mod_cached_33 rfl ?_
            obtain ⟨a_34, e_34, k_34, hf⟩ := rq_s hf
            refine fgs_Mod_gateTick lf_Mod_39 d_Mod_cached_34 (kksI k_2) e_34 ?_
            refine g_iload_n d_Mod_cached_37 rfl ?_
            obtain ⟨i_38, hf⟩ := ix_s hf
            refine g_iald k_34 i_38 d_Mod_cached_38 ?_
            refine g_goto 52 d_Mod_cached_39 (by decide) ?_
            exact Go.ret (some _) (rOk_i _) rfl d_Mod_cached_52 (pI_of hf)
        · have hf := ifn hf c_23
          refine g_iconst (-1) d_Mod_cached_26 (by decide) ?_
          exact Go.ret (some _) (rOk_i _) rfl d_Mod_cached_27 (pI_of hf)
abbrev mi_Warp_tell : MI := (⟨"WarpMill$Warp", "tell", "(I)I"⟩, prog_10_method_22_code, 2, some .int, 1, 20)
def it_Warp_tell_0 : List (Nat × ClassFile.Instr × Nat) := [(0, .iload_n 1, 1), (1, .tableswitch (69) (0) (4) #[(35), (43), (48), (56), (64)], 35), (36, .aload_n 0, 1), (37, .getfield 27, 3), (40, .getfield 164, 3), (43, .ireturn, 1), (44, .aload_n 0, 1), (45, .getfield 31, 3), (48, .ireturn, 1), (49, .aload_n 0, 1), (50, .getfield 52, 3), (53, .invokestatic 130, 3), (56, .ireturn, 1), (57, .aload_n 0, 1), (58, .getfield 55, 3), (61, .invokestatic 130, 3), (64, .ireturn, 1), (65, .aload_n 0, 1), (66, .getfield 58, 3), (69, .ireturn, 1), (70, .iload_n 1, 1), (71, .iconst 5, 1), (72, .if_icmp .lt (25), 3), (75, .iload_n 1, 1)]
theorem id_Warp_tell_0 : ∀ q ∈ it_Warp_tell_0, decode prog_10_method_22_code q.1 = .ok q.2 := by decide +kernel
theorem d_Warp_tell_0 : decode prog_10_method_22_code 0 = .ok (.iload_n 1, 1) := id_Warp_tell_0 (0, .iload_n 1, 1) (List.mem_of_getElem? (i := 0) rfl)
theorem d_Warp_tell_1 : decode prog_10_method_22_code 1 = .ok (.tableswitch (69) (0) (4) #[(35), (43), (48), (56), (64)], 35) := id_Warp_tell_0 (1, .tableswitch (69) (0) (4) #[(35), (43), (48), (56), (64)], 35) (List.mem_of_getElem? (i := 1) rfl)
theorem d_Warp_tell_36 : decode prog_10_method_22_code 36 = .ok (.aload_n 0, 1) := id_Warp_tell_0 (36, .aload_n 0, 1) (List.mem_of_getElem? (i := 2) rfl)
theorem d_Warp_tell_37 : decode prog_10_method_22_code 37 = .ok (.getfield 27, 3) := id_Warp_tell_0 (37, .getfield 27, 3) (List.mem_of_getElem? (i := 3) rfl)
theorem d_Warp_tell_40 : decode prog_10_method_22_code 40 = .ok (.getfield 164, 3) := id_Warp_tell_0 (40, .getfield 164, 3) (List.mem_of_getElem? (i := 4) rfl)
theorem d_Warp_tell_43 : decode prog_10_method_22_code 43 = .ok (.ireturn, 1) := id_Warp_tell_0 (43, .ireturn, 1) (List.mem_of_getElem? (i := 5) rfl)
theorem d_Warp_tell_44 : decode prog_10_method_22_code 44 = .ok (.aload_n 0, 1) := id_Warp_tell_0 (44, .aload_n 0, 1) (List.mem_of_getElem? (i := 6) rfl)
theorem d_Warp_tell_45 : decode prog_10_method_22_code 45 = .ok (.getfield 31, 3) := id_Warp_tell_0 (45, .getfield 31, 3) (List.mem_of_getElem? (i := 7) rfl)
theorem d_Warp_tell_48 : decode prog_10_method_22_code 48 = .ok (.ireturn, 1) := id_Warp_tell_0 (48, .ireturn, 1) (List.mem_of_getElem? (i := 8) rfl)
theorem d_Warp_tell_49 : decode prog_10_method_22_code 49 = .ok (.aload_n 0, 1) := id_Warp_tell_0 (49, .aload_n 0, 1) (List.mem_of_getElem? (i := 9) rfl)
theorem d_Warp_tell_50 : decode prog_10_method_22_code 50 = .ok (.getfield 52, 3) := id_Warp_tell_0 (50, .getfield 52, 3) (List.mem_of_getElem? (i := 10) rfl)
theorem d_Warp_tell_53 : decode prog_10_method_22_code 53 = .ok (.invokestatic 130, 3) := id_Warp_tell_0 (53, .invokestatic 130, 3) (List.mem_of_getElem? (i := 11) rfl)
theorem d_Warp_tell_56 : decode prog_10_method_22_code 56 = .ok (.ireturn, 1) := id_Warp_tell_0 (56, .ireturn, 1) (List.mem_of_getElem? (i := 12) rfl)
theorem d_Warp_tell_57 : decode prog_10_method_22_code 57 = .ok (.aload_n 0, 1) := id_Warp_tell_0 (57, .aload_n 0, 1) (List.mem_of_getElem? (i := 13) rfl)
theorem d_Warp_tell_58 : decode prog_10_method_22_code 58 = .ok (.getfield 55, 3) := id_Warp_tell_0 (58, .getfield 55, 3) (List.mem_of_getElem? (i := 14) rfl)
theorem d_Warp_tell_61 : decode prog_10_method_22_code 61 = .ok (.invokestatic 130, 3) := id_Warp_tell_0 (61, .invokestatic 130, 3) (List.mem_of_getElem? (i := 15) rfl)
theorem d_Warp_tell_64 : decode prog_10_method_22_code 64 = .ok (.ireturn, 1) := id_Warp_tell_0 (64, .ireturn, 1) (List.mem_of_getElem? (i := 16) rfl)
theorem d_Warp_tell_65 : decode prog_10_method_22_code 65 = .ok (.aload_n 0, 1) := id_Warp_tell_0 (65, .aload_n 0, 1) (List.mem_of_getElem? (i := 17) rfl)
theorem d_Warp_tell_66 : decode prog_10_method_22_code 66 = .ok (.getfield 58, 3) := id_Warp_tell_0 (66, .getfield 58, 3) (List.mem_of_getElem? (i := 18) rfl)
theorem d_Warp_tell_69 : decode prog_10_method_22_code 69 = .ok (.ireturn, 1) := id_Warp_tell_0 (69, .ireturn, 1) (List.mem_of_getElem? (i := 19) rfl)
theorem d_Warp_tell_70 : decode prog_10_method_22_code 70 = .ok (.iload_n 1, 1) := id_Warp_tell_0 (70, .iload_n 1, 1) (List.mem_of_getElem? (i := 20) rfl)
theorem d_Warp_tell_71 : decode prog_10_method_22_code 71 = .ok (.iconst 5, 1) := id_Warp_tell_0 (71, .iconst 5, 1) (List.mem_of_getElem? (i := 21) rfl)
theorem d_Warp_tell_72 : decode prog_10_method_22_code 72 = .ok (.if_icmp .lt (25), 3) := id_Warp_tell_0 (72, .if_icmp .lt (25), 3) (List.mem_of_getElem? (i := 22) rfl)
theorem d_Warp_tell_75 : decode prog_10_method_22_code 75 = .ok (.iload_n 1, 1) := id_Warp_tell_0 (75, .iload_n 1, 1) (List.mem_of_getElem? (i := 23) rfl)
def it_Warp_tell_1 : List (Nat × ClassFile.Instr × Nat) := [(76, .iconst 5, 1), (77, .aload_n 0, 1), (78, .getfield 15, 3), (81, .arraylength, 1), (82, .iadd, 1), (83, .if_icmp .ge (14), 3), (86, .aload_n 0, 1), (87, .getfield 15, 3), (90, .iload_n 1, 1), (91, .iconst 5, 1), (92, .isub, 1), (93, .iaload, 1), (94, .goto (4), 3), (97, .iconst (-1), 1), (98, .ireturn, 1)]
theorem id_Warp_tell_1 : ∀ q ∈ it_Warp_tell_1, decode prog_10_method_22_code q.1 = .ok q.2 := by decide +kernel
theorem d_Warp_tell_76 : decode prog_10_method_22_code 76 = .ok (.iconst 5, 1) := id_Warp_tell_1 (76, .iconst 5, 1) (List.mem_of_getElem? (i := 0) rfl)
theorem d_Warp_tell_77 : decode prog_10_method_22_code 77 = .ok (.aload_n 0, 1) := id_Warp_tell_1 (77, .aload_n 0, 1) (List.mem_of_getElem? (i := 1) rfl)
theorem d_Warp_tell_78 : decode prog_10_method_22_code 78 = .ok (.getfield 15, 3) := id_Warp_tell_1 (78, .getfield 15, 3) (List.mem_of_getElem? (i := 2) rfl)
theorem d_Warp_tell_81 : decode prog_10_method_22_code 81 = .ok (.arraylength, 1) := id_Warp_tell_1 (81, .arraylength, 1) (List.mem_of_getElem? (i := 3) rfl)
theorem d_Warp_tell_82 : decode prog_10_method_22_code 82 = .ok (.iadd, 1) := id_Warp_tell_1 (82, .iadd, 1) (List.mem_of_getElem? (i := 4) rfl)
theorem d_Warp_tell_83 : decode prog_10_method_22_code 83 = .ok (.if_icmp .ge (14), 3) := id_Warp_tell_1 (83, .if_icmp .ge (14), 3) (List.mem_of_getElem? (i := 5) rfl)
theorem d_Warp_tell_86 : decode prog_10_method_22_code 86 = .ok (.aload_n 0, 1) := id_Warp_tell_1 (86, .aload_n 0, 1) (List.mem_of_getElem? (i := 6) rfl)
theorem d_Warp_tell_87 : decode prog_10_method_22_code 87 = .ok (.getfield 15, 3) := id_Warp_tell_1 (87, .getfield 15, 3) (List.mem_of_getElem? (i := 7) rfl)
theorem d_Warp_tell_90 : decode prog_10_method_22_code 90 = .ok (.iload_n 1, 1) := id_Warp_tell_1 (90, .iload_n 1, 1) (List.mem_of_getElem? (i := 8) rfl)
theorem d_Warp_tell_91 : decode prog_10_method_22_code 91 = .ok (.iconst 5, 1) := id_Warp_tell_1 (91, .iconst 5, 1) (List.mem_of_getElem? (i := 9) rfl)
theorem d_Warp_tell_92 : decode prog_10_method_22_code 92 = .ok (.isub, 1) := id_Warp_tell_1 (92, .isub, 1) (List.mem_of_getElem? (i := 10) rfl)
theorem d_Warp_tell_93 : decode prog_10_method_22_code 93 = .ok (.iaload, 1) := id_Warp_tell_1 (93, .iaload, 1) (List.mem_of_getElem? (i := 11) rfl)
theorem d_Warp_tell_94 : decode prog_10_method_22_code 94 = .ok (.goto (4), 3) := id_Warp_tell_1 (94, .goto (4), 3) (List.mem_of_getElem? (i := 12) rfl)
theorem d_Warp_tell_97 : decode prog_10_method_22_code 97 = .ok (.iconst (-1), 1) := id_Warp_tell_1 (97, .iconst (-1), 1) (List.mem_of_getElem? (i := 13) rfl)
theorem d_Warp_tell_98 : decode prog_10_method_22_code 98 = .ok (.ireturn, 1) := id_Warp_tell_1 (98, .ireturn, 1) (List.mem_of_getElem? (i := 14) rfl)
theorem wC_Warp_tell : Cond.code ⟨"WarpMill$Warp", "tell", "(I)I"⟩ prog_10_method_22_code 2 (some .int) ∈ lw_tb := mem_tb 530 (by decide +kernel) rfl
theorem cw_Warp_tell_Integer_bitCount : cW mi_Warp_tell mi_Integer_bitCount 1 := ⟨wC_Integer_bitCount, wi_Integer, ⟨by decide, by decide, by decide +kernel⟩, by decide, by decide⟩
def f_Warp_tell (F : Nat) (x0 : Nat) (x1 : Int32) (h : Hp) : Option (Int32 × Hp) := if x1 = 0 then (gd (hK h x0 = 9) <| rq h (hR h 512 x0) 8 fun a_37_2 => some ((hI h 448 a_37_2), h)) else if x1 = 1 then (gd (hK h x0 = 9) <| some ((hI h 513 x0), h)) else if x1 = 2 then (gd (hK h x0 = 9) <| cl (f_Integer_bitCount F (hI h 516 x0) h) fun v_53 h_53 => some (v_53, h_53)) else if x1 = 3 then (gd (hK h x0 = 9) <| cl (f_Integer_bitCount F (hI h 517 x0) h) fun v_61 h_61 => some (v_61, h_61)) else if x1 = 4 then (gd (hK h x0 = 9) <| some ((hI h 522 x0), h)) else (if x1 < (5 : Int32) then (some ((-1 : Int32), h)) else (gd (hK h x0 = 9) <| rq h (hR h 527 x0) 100 fun a_78_2 => if ((5 : Int32) + (nI (hN h a_78_2))) ≤ x1 then (some ((-1 : Int32), h)) else (ix (x1 - (5 : Int32)) (hN h a_78_2) fun j_93 => some ((hA h a_78_2 j_93), h))))
set_option maxRecDepth 100000 in
set_option maxHeartbeats 4000000 in
theorem e_Warp_tell {G : Gl} {F : Nat} {r : Int32} {h' : Hp} {x0 : Nat} {x1 : Int32} {h : Hp} (hf : f_Warp_tell F x0 x1 h = some (r, h')) : Ex G mi_Warp_tell [.ref x0, .int x1] h (pI r h') := by
  unfold f_Warp_tell at hf
  refine Ex.of nmI (by decide) (Nat.le_of_ble_eq_true rfl) ?_
  show Go G mi_Warp_tell h _ h 0 [(0, .ref x0), (1, .int x1)] []
  refine g_iload_n d_Warp_tell_0 rfl ?_
  refine g_sw sw_0_4 (fun hs_1 => ?_)
  rcases hs_1 with hs_1 | hs_1 | hs_1 | hs_1 | hs_1 | hs_1
  · refine g_tableOut 70 d_Warp_tell_1 hs_1 (by decide) ?_
    have hf := ifn hf (sw_ne hs_1 0 (by decide) (by decide))
    have hf := ifn hf (sw_ne hs_1 1 (by decide) (by decide))
    have hf := ifn hf (sw_ne hs_1 2 (by decide) (by decide))
    have hf := ifn hf (sw_ne hs_1 3 (by decide) (by decide))
    have hf := ifn hf (sw_ne hs_1 4 (by decide) (by decide))
    refine g_iload_n d_Warp_tell_70 rfl ?_
    refine g_iconst 5 d_Warp_tell_71 (by decide) ?_
    refine g_icmp_lt 97 d_Warp_tell_72 (by decide) (fun c_72 => ?_) (fun c_72 => ?_)
    · have hf := ifp hf c_72
      refine g_iconst (-1) d_Warp_tell_97 (by decide) ?_
      exact Go.ret (some _) (rOk_i _) rfl d_Warp_tell_98 (pI_of hf)
    · have hf := ifn hf c_72
      refine g_iload_n d_Warp_tell_75 rfl ?_
      refine g_iconst 5 d_Warp_tell_76 (by decide) ?_
      refine g_aload_n d_Warp_tell_77 rfl ?_
      obtain ⟨k_78, hf⟩ := gd_s hf
      obtain ⟨a_78_2, e_78_2, k_78_2, hf⟩ := rq_s hf
      refine fgs_Warp_ticks lf_Warp_15 d_Warp_tell_78 k_78 e_78_2 ?_
      refine g_alen k_78_2 (by decide) rfl d_Warp_tell_81 ?_
      refine g_iadd d_Warp_tell_82 ?_
      refine g_icmp_ge 97 d_Warp_tell_83 (by decide) (fun c_83 => ?_) (fun c_83 => ?_)
      · have hf := ifp hf c_83
        refine g_iconst (-1) d_Warp_tell_97 (by decide) ?_
        exact Go.ret (some _) (rOk_i _) rfl d_Warp_tell_98 (pI_of hf)
      · have hf := ifn hf c_83
        refine g_aload_n d_Warp_tell_86 rfl ?_
        refine fgs_Warp_ticks lf_Warp_15 d_Warp_tell_87 k_78 e_78_2 ?_
        refine g_iload_n d_Warp_tell_90 rfl ?_
        refine g_iconst 5 d_Warp_tell_91 (by decide) ?_
        refine g_isub d_Warp_tell_92 ?_
        obtain ⟨i_93, hf⟩ := ix_s hf
        refine g_iald k_78_2 i_93 d_Warp_tell_93 ?_
        refine g_goto 98 d_Warp_tell_94 (by decide) ?_
        exact Go.ret (some _) (rOk_i _) rfl d_Warp_tell_98 (pI_of hf)
  · refine g_tableIn 36 d_Warp_tell_1 (by rw [hs_1]; decide) (by rw [hs_1]; decide) (by rw [hs_1]; rfl) (by decide) ?_
    have hf := ifp hf hs_1
    refine g_aload_n d_Warp_tell_36 rfl ?_
    obtain ⟨k_37, hf⟩ := gd_s hf
    obtain ⟨a_37_2, e_37_2, k_37_2, hf⟩ := rq_s hf
    refine fgs_Warp_block lf_Warp_27 d_Warp_tell_37 k_37 e_37_2 ?_
    refine fg_Block_number lf_Warp_164 d_Warp_tell_40 k_37_2 ?_
    exact Go.ret (some _) (rOk_i _) rfl d_Warp_tell_43 (pI_of hf)
  · refine g_tableIn 44 d_Warp_tell_1 (by rw [hs_1]; decide) (by rw [hs_1]; decide) (by rw [hs_1]; rfl) (by decide) ?_
    have hf := ifn hf (sw_d hs_1 (by decide))
    have hf := ifp hf hs_1
    refine g_aload_n d_Warp_tell_44 rfl ?_
    obtain ⟨k_45, hf⟩ := gd_s hf
    refine fg_Warp_number lf_Warp_31 d_Warp_tell_45 k_45 ?_
    exact Go.ret (some _) (rOk_i _) rfl d_Warp_tell_48 (pI_of hf)
  · refine g_tableIn 49 d_Warp_tell_1 (by rw [hs_1]; decide) (by rw [hs_1]; decide) (by rw [hs_1]; rfl) (by decide) ?_
    have hf := ifn hf (sw_d hs_1 (by decide))
    have hf := ifn hf (sw_d hs_1 (by decide))
    have hf := ifp hf hs_1
    refine g_aload_n d_Warp_tell_49 rfl ?_
    obtain ⟨k_50, hf⟩ := gd_s hf
    refine fg_Warp_ended lf_Warp_52 d_Warp_tell_50 k_50 ?_
    obtain ⟨v_53, h_53, e_53, hf⟩ := cl_s hf
    refine g_callS (mz := mi_Integer_bitCount) (e_Integer_bitCount e_53) cw_Warp_tell_Integer_bitCount lm_Warp_130 wS_Integer_bitCount d_Warp_tell_53 rfl rfl (by first | exact Nat.le_of_ble_eq_true rfl | simp [cat_rf, Value.category]) (fun r1 h1 hp hro => ?_)
    obtain ⟨rfl, rfl⟩ := hp
    dsimp only [Option.toList_some, Option.toList_none, List.cons_append, List.nil_append]
    exact Go.ret (some _) (rOk_i _) rfl d_Warp_tell_56 (pI_of hf)
  · refine g_tableIn 57 d_Warp_tell_1 (by rw [hs_1]; decide) (by rw [hs_1]; decide) (by rw [hs_1]; rfl) (by decide) ?_
    have hf := ifn hf (sw_d hs_1 (by decide))
    have hf := ifn hf (sw_d hs_1 (by decide))
    have hf := ifn hf (sw_d hs_1 (by decide))
    have hf := ifp hf hs_1
    refine g_aload_n d_Warp_tell_57 rfl ?_
    obtain ⟨k_58, hf⟩ := gd_s hf
    refine fg_Warp_waiting lf_Warp_55 d_Warp_tell_58 k_58 ?_
    obtain ⟨v_61, h_61, e_61, hf⟩ := cl_s hf
    refine g_callS (mz := mi_Integer_bitCount) (e_Integer_bitCount e_61) cw_Warp_tell_Integer_bitCount lm_Warp_130 wS_Integer_bitCount d_Warp_tell_61 rfl rfl (by first | exact Nat.le_of_ble_eq_true rfl | simp [cat_rf, Value.category]) (fun r1 h1 hp hro => ?_)
    obtain ⟨rfl, rfl⟩ := hp
    dsimp only [Option.toList_some, Option.toList_none, List.cons_append, List.nil_append]
    exact Go.ret (some _) (rOk_i _) rfl d_Warp_tell_64 (pI_of hf)
  · refine g_tableIn 65 d_Warp_tell_1 (by rw [hs_1]; decide) (by rw [hs_1]; decide) (by rw [hs_1]; rfl) (by decide) ?_
    have hf := ifn hf (sw_d hs_1 (by decide))
    have hf := ifn hf (sw_d hs_1 (by decide))
    have hf := ifn hf (sw_d hs_1 (by decide))
    have hf := ifn hf (sw_d hs_1 (by decide))
    have hf := ifp hf hs_1
    refine g_aload_n d_Warp_tell_65 rfl ?_
    obtain ⟨k_66, hf⟩ := gd_s hf
    refine fg_Warp_memoryTick lf_Warp_58 d_Warp_tell_66 k_66 ?_
    exact Go.ret (some _) (rOk_i _) rfl d_Warp_tell_69 (pI_of hf)
abbrev mi_WM_slot : MI := (⟨"WarpMill", "slot", "(III)I"⟩, prog_1_method_12_code, 5, some .int, 2, 41)
def it_WM_slot_0 : List (Nat × ClassFile.Instr × Nat) := [(0, .aload_n 0, 1), (1, .iload_n 1, 1), (2, .invokevirtual 148, 3), (5, .ifCond .eq (28), 3), (8, .iload_n 2, 1), (9, .ifCond .lt (24), 3), (12, .iload_n 2, 1), (13, .aload_n 0, 1), (14, .getfield 10, 3), (17, .getfield 51, 3), (20, .if_icmp .ge (13), 3), (23, .iload_n 3, 1), (24, .ifCond .lt (9), 3), (27, .iload_n 3, 1), (28, .bipush (24), 2), (30, .if_icmp .le (5), 3), (33, .iconst (-1), 1), (34, .ireturn, 1), (35, .aload_n 0, 1), (36, .getfield 38, 3), (39, .iload_n 1, 1), (40, .aaload, 1), (41, .iload_n 2, 1), (42, .invokevirtual 158, 3)]
theorem id_WM_slot_0 : ∀ q ∈ it_WM_slot_0, decode prog_1_method_12_code q.1 = .ok q.2 := by decide +kernel
theorem d_WM_slot_0 : decode prog_1_method_12_code 0 = .ok (.aload_n 0, 1) := id_WM_slot_0 (0, .aload_n 0, 1) (List.mem_of_getElem? (i := 0) rfl)
theorem d_WM_slot_1 : decode prog_1_method_12_code 1 = .ok (.iload_n 1, 1) := id_WM_slot_0 (1, .iload_n 1, 1) (List.mem_of_getElem? (i := 1) rfl)
theorem d_WM_slot_2 : decode prog_1_method_12_code 2 = .ok (.invokevirtual 148, 3) := id_WM_slot_0 (2, .invokevirtual 148, 3) (List.mem_of_getElem? (i := 2) rfl)
theorem d_WM_slot_5 : decode prog_1_method_12_code 5 = .ok (.ifCond .eq (28), 3) := id_WM_slot_0 (5, .ifCond .eq (28), 3) (List.mem_of_getElem? (i := 3) rfl)
theorem d_WM_slot_8 : decode prog_1_method_12_code 8 = .ok (.iload_n 2, 1) := id_WM_slot_0 (8, .iload_n 2, 1) (List.mem_of_getElem? (i := 4) rfl)
theorem d_WM_slot_9 : decode prog_1_method_12_code 9 = .ok (.ifCond .lt (24), 3) := id_WM_slot_0 (9, .ifCond .lt (24), 3) (List.mem_of_getElem? (i := 5) rfl)
theorem d_WM_slot_12 : decode prog_1_method_12_code 12 = .ok (.iload_n 2, 1) := id_WM_slot_0 (12, .iload_n 2, 1) (List.mem_of_getElem? (i := 6) rfl)
theorem d_WM_slot_13 : decode prog_1_method_12_code 13 = .ok (.aload_n 0, 1) := id_WM_slot_0 (13, .aload_n 0, 1) (List.mem_of_getElem? (i := 7) rfl)
theorem d_WM_slot_14 : decode prog_1_method_12_code 14 = .ok (.getfield 10, 3) := id_WM_slot_0 (14, .getfield 10, 3) (List.mem_of_getElem? (i := 8) rfl)
theorem d_WM_slot_17 : decode prog_1_method_12_code 17 = .ok (.getfield 51, 3) := id_WM_slot_0 (17, .getfield 51, 3) (List.mem_of_getElem? (i := 9) rfl)
theorem d_WM_slot_20 : decode prog_1_method_12_code 20 = .ok (.if_icmp .ge (13), 3) := id_WM_slot_0 (20, .if_icmp .ge (13), 3) (List.mem_of_getElem? (i := 10) rfl)
theorem d_WM_slot_23 : decode prog_1_method_12_code 23 = .ok (.iload_n 3, 1) := id_WM_slot_0 (23, .iload_n 3, 1) (List.mem_of_getElem? (i := 11) rfl)
theorem d_WM_slot_24 : decode prog_1_method_12_code 24 = .ok (.ifCond .lt (9), 3) := id_WM_slot_0 (24, .ifCond .lt (9), 3) (List.mem_of_getElem? (i := 12) rfl)
theorem d_WM_slot_27 : decode prog_1_method_12_code 27 = .ok (.iload_n 3, 1) := id_WM_slot_0 (27, .iload_n 3, 1) (List.mem_of_getElem? (i := 13) rfl)
theorem d_WM_slot_28 : decode prog_1_method_12_code 28 = .ok (.bipush (24), 2) := id_WM_slot_0 (28, .bipush (24), 2) (List.mem_of_getElem? (i := 14) rfl)
theorem d_WM_slot_30 : decode prog_1_method_12_code 30 = .ok (.if_icmp .le (5), 3) := id_WM_slot_0 (30, .if_icmp .le (5), 3) (List.mem_of_getElem? (i := 15) rfl)
theorem d_WM_slot_33 : decode prog_1_method_12_code 33 = .ok (.iconst (-1), 1) := id_WM_slot_0 (33, .iconst (-1), 1) (List.mem_of_getElem? (i := 16) rfl)
theorem d_WM_slot_34 : decode prog_1_method_12_code 34 = .ok (.ireturn, 1) := id_WM_slot_0 (34, .ireturn, 1) (List.mem_of_getElem? (i := 17) rfl)
theorem d_WM_slot_35 : decode prog_1_method_12_code 35 = .ok (.aload_n 0, 1) := id_WM_slot_0 (35, .aload_n 0, 1) (List.mem_of_getElem? (i := 18) rfl)
theorem d_WM_slot_36 : decode prog_1_method_12_code 36 = .ok (.getfield 38, 3) := id_WM_slot_0 (36, .getfield 38, 3) (List.mem_of_getElem? (i := 19) rfl)
theorem d_WM_slot_39 : decode prog_1_method_12_code 39 = .ok (.iload_n 1, 1) := id_WM_slot_0 (39, .iload_n 1, 1) (List.mem_of_getElem? (i := 20) rfl)
theorem d_WM_slot_40 : decode prog_1_method_12_code 40 = .ok (.aaload, 1) := id_WM_slot_0 (40, .aaload, 1) (List.mem_of_getElem? (i := 21) rfl)
theorem d_WM_slot_41 : decode prog_1_method_12_code 41 = .ok (.iload_n 2, 1) := id_WM_slot_0 (41, .iload_n 2, 1) (List.mem_of_getElem? (i := 22) rfl)
theorem d_WM_slot_42 : decode prog_1_method_12_code 42 = .ok (.invokevirtual 158, 3) := id_WM_slot_0 (42, .invokevirtual 158, 3) (List.mem_of_getElem? (i := 23) rfl)
def it_WM_slot_1 : List (Nat × ClassFile.Instr × Nat) := [(45, .astore 4, 2), (47, .aload 4, 2), (49, .ifnonnull (14), 3), (52, .iload_n 3, 1), (53, .iconst 1, 1), (54, .if_icmp .gt (7), 3), (57, .iconst (-1), 1), (58, .goto (4), 3), (61, .iconst 0, 1), (62, .ireturn, 1), (63, .aload 4, 2), (65, .iload_n 3, 1), (66, .invokevirtual 162, 3), (69, .ireturn, 1)]
theorem id_WM_slot_1 : ∀ q ∈ it_WM_slot_1, decode prog_1_method_12_code q.1 = .ok q.2 := by decide +kernel
theorem d_WM_slot_45 : decode prog_1_method_12_code 45 = .ok (.astore 4, 2) := id_WM_slot_1 (45, .astore 4, 2) (List.mem_of_getElem? (i := 0) rfl)
theorem d_WM_slot_47 : decode prog_1_method_12_code 47 = .ok (.aload 4, 2) := id_WM_slot_1 (47, .aload 4, 2) (List.mem_of_getElem? (i := 1) rfl)
theorem d_WM_slot_49 : decode prog_1_method_12_code 49 = .ok (.ifnonnull (14), 3) := id_WM_slot_1 (49, .ifnonnull (14), 3) (List.mem_of_getElem? (i := 2) rfl)
theorem d_WM_slot_52 : decode prog_1_method_12_code 52 = .ok (.iload_n 3, 1) := id_WM_slot_1 (52, .iload_n 3, 1) (List.mem_of_getElem? (i := 3) rfl)
theorem d_WM_slot_53 : decode prog_1_method_12_code 53 = .ok (.iconst 1, 1) := id_WM_slot_1 (53, .iconst 1, 1) (List.mem_of_getElem? (i := 4) rfl)
theorem d_WM_slot_54 : decode prog_1_method_12_code 54 = .ok (.if_icmp .gt (7), 3) := id_WM_slot_1 (54, .if_icmp .gt (7), 3) (List.mem_of_getElem? (i := 5) rfl)
theorem d_WM_slot_57 : decode prog_1_method_12_code 57 = .ok (.iconst (-1), 1) := id_WM_slot_1 (57, .iconst (-1), 1) (List.mem_of_getElem? (i := 6) rfl)
theorem d_WM_slot_58 : decode prog_1_method_12_code 58 = .ok (.goto (4), 3) := id_WM_slot_1 (58, .goto (4), 3) (List.mem_of_getElem? (i := 7) rfl)
theorem d_WM_slot_61 : decode prog_1_method_12_code 61 = .ok (.iconst 0, 1) := id_WM_slot_1 (61, .iconst 0, 1) (List.mem_of_getElem? (i := 8) rfl)
theorem d_WM_slot_62 : decode prog_1_method_12_code 62 = .ok (.ireturn, 1) := id_WM_slot_1 (62, .ireturn, 1) (List.mem_of_getElem? (i := 9) rfl)
theorem d_WM_slot_63 : decode prog_1_method_12_code 63 = .ok (.aload 4, 2) := id_WM_slot_1 (63, .aload 4, 2) (List.mem_of_getElem? (i := 10) rfl)
theorem d_WM_slot_65 : decode prog_1_method_12_code 65 = .ok (.iload_n 3, 1) := id_WM_slot_1 (65, .iload_n 3, 1) (List.mem_of_getElem? (i := 11) rfl)
theorem d_WM_slot_66 : decode prog_1_method_12_code 66 = .ok (.invokevirtual 162, 3) := id_WM_slot_1 (66, .invokevirtual 162, 3) (List.mem_of_getElem? (i := 12) rfl)
theorem d_WM_slot_69 : decode prog_1_method_12_code 69 = .ok (.ireturn, 1) := id_WM_slot_1 (69, .ireturn, 1) (List.mem_of_getElem? (i := 13) rfl)
theorem wC_WM_slot : Cond.code ⟨"WarpMill", "slot", "(III)I"⟩ prog_1_method_12_code 5 (some .int) ∈ lw_tb := mem_tb 525 (by decide +kernel) rfl
theorem cw_WM_slot_WM_isUnit : cW mi_WM_slot mi_WM_isUnit 1 := ⟨wC_WM_isUnit, wi_WM, ⟨by decide, by decide, by decide +kernel⟩, by decide, by decide⟩
theorem cw_WM_slot_Unit_busy : cW mi_WM_slot mi_Unit_busy 1 := ⟨wC_Unit_busy, wi_Unit, ⟨by decide, by decide, by decide +kernel⟩, by decide, by decide⟩
theorem cw_WM_slot_Warp_tell : cW mi_WM_slot mi_Warp_tell 1 := ⟨wC_Warp_tell, wi_Warp, ⟨by decide, by decide, by decide +kernel⟩, by decide, by decide⟩
def f_WM_slot (F : Nat) (x0 : Nat) (x1 : Int32) (x2 : Int32) (x3 : Int32) (h : Hp) : Option (Int32 × Hp) := gd (hK h x0 = 1) <| cl (f_WM_isUnit F x0 x1 h) fun v_2_2 h_2_2 => if v_2_2 = 0 then (some ((-1 : Int32), h_2_2)) else (if x2 < 0 then (some ((-1 : Int32), h_2_2)) else (gd (hK h_2_2 x0 = 1) <| rq h_2_2 (hR h_2_2 0 x0) 2 fun a_14_2 => if (hI h_2_2 65 a_14_2) ≤ x2 then (some ((-1 : Int32), h_2_2)) else (if x3 < 0 then (some ((-1 : Int32), h_2_2)) else (if x3 ≤ (24 : Int32) then (rq h_2_2 (hR h_2_2 4 x0) 121 fun a_36 => ix x1 (hN h_2_2 a_36) fun j_40 => rq h_2_2 (hQ h_2_2 a_36 j_40) 7 fun a_40_2 => cl (f_Unit_busy F a_40_2 x2 h_2_2) fun o_42 h_42 => nu o_42 (if (1 : Int32) < x3 then (some ((0 : Int32), h_42)) else (some ((-1 : Int32), h_42))) fun a_49 => (gd (hK h_42 a_49 = 9) <| cl (f_Warp_tell F a_49 x3 h_42) fun v_66_2 h_66_2 => some (v_66_2, h_66_2))) else (some ((-1 : Int32), h_2_2))))))
set_option maxRecDepth 100000 in
set_option maxHeartbeats 4000000 in
theorem e_WM_slot {G : Gl} {F : Nat} {r : Int32} {h' : Hp} {x0 : Nat} {x1 : Int32} {x2 : Int32} {x3 : Int32} {h : Hp} (hf : f_WM_slot F x0 x1 x2 x3 h = some (r, h')) : Ex G mi_WM_slot [.ref x0, .int x1, .int x2, .int x3] h (pI r h') := by
  unfold f_WM_slot at hf
  refine Ex.of nmI (by decide) (Nat.le_of_ble_eq_true rfl) ?_
  show Go G mi_WM_slot h _ h 0 [(0, .ref x0), (1, .int x1), (2, .int x2), (3, .int x3)] []
  refine g_aload_n d_WM_slot_0 rfl ?_
  refine g_iload_n d_WM_slot_1 rfl ?_
  obtain ⟨k_2, hf⟩ := gd_s hf
  obtain ⟨v_2_2, h_2_2, e_2_2, hf⟩ := cl_s hf
  refine g_callV (mz := mi_WM_isUnit) (e_WM_isUnit e_2_2) cw_WM_slot_WM_isUnit lm_WM_148 wI_WM_isUnit wV_WM_isUnit (ci := 0) k_2 (by decide) rfl rfl d_WM_slot_2 rfl rfl (by first | exact Nat.le_of_ble_eq_true rfl | simp [cat_rf, Value.category]) (fun r1 h1 hp hro => ?_)
  obtain ⟨rfl, rfl⟩ := hp
  dsimp only [Option.toList_some, Option.toList_none, List.cons_append, List.nil_append]
  refine g_if_eq 33 d_WM_slot_5 (by decide) (fun c_5 => ?_) (fun c_5 => ?_)
  · have hf := ifp hf c_5
    refine g_iconst (-1) d_WM_slot_33 (by decide) ?_
    exact Go.ret (some _) (rOk_i _) rfl d_WM_slot_34 (pI_of hf)
  · have hf := ifn hf c_5
    refine g_iload_n d_WM_slot_8 rfl ?_
    refine g_if_lt 33 d_WM_slot_9 (by decide) (fun c_9 => ?_) (fun c_9 => ?_)
    · have hf := ifp hf c_9
      refine g_iconst (-1) d_WM_slot_33 (by decide) ?_
      exact Go.ret (some _) (rOk_i _) rfl d_WM_slot_34 (pI_of hf)
    · have hf := ifn hf c_9
      refine g_iload_n d_WM_slot_12 rfl ?_
      refine g_aload_n d_WM_slot_13 rfl ?_
      obtain ⟨k_14, hf⟩ := gd_s hf
      obtain ⟨a_14_2, e_14_2, k_14_2, hf⟩ := rq_s hf
      refine fgs_WM_sizes lf_WM_10 d_WM_slot_14 k_14 e_14_2 ?_
      refine fg_Sizes_slots lf_WM_51 d_WM_slot_17 k_14_2 ?_
      refine g_icmp_ge 33 d_WM_slot_20 (by decide) (fun c_20 => ?_) (fun c_20 => ?_)
      · have hf := ifp hf c_20
        refine g_iconst (-1) d_WM_slot_33 (by decide) ?_
        exact Go.ret (some _) (rOk_i _) rfl d_WM_slot_34 (pI_of hf)
      · have hf := ifn hf c_20
        refine g_iload_n d_WM_slot_23 rfl ?_
        refine g_if_lt 33 d_WM_slot_24 (by decide) (fun c_24 => ?_) (fun c_24 => ?_)
        · have hf := ifp hf c_24
          refine g_iconst (-1) d_WM_slot_33 (by decide) ?_
          exact Go.ret (some _) (rOk_i _) rfl d_WM_slot_34 (pI_of hf)
        · have hf := ifn hf c_24
          refine g_iload_n d_WM_slot_27 rfl ?_
          refine g_bipush (24) d_WM_slot_28 (by decide) ?_
          refine g_icmp_le 35 d_WM_slot_30 (by decide) (fun c_30 => ?_) (fun c_30 => ?_)
          · have hf := ifp hf c_30
            refine g_aload_n d_WM_slot_35 rfl ?_
            obtain ⟨a_36, e_36, k_36, hf⟩ := rq_s hf
            refine fgs_WM_units lf_WM_38 d_WM_slot_36 k_14 e_36 ?_
            refine g_iload_n d_WM_slot_39 rfl ?_
            obtain ⟨i_40, hf⟩ := ix_s hf
            refine g_aald k_36 (by decide) rfl rfl i_40 d_WM_slot_40 ?_
            obtain ⟨a_40_2, e_40_2, k_40_2, hf⟩ := rq_s hf
            refine Go.vs e_40_2 ?_
            refine g_iload_n d_WM_slot_41 rfl ?_
            obtain ⟨o_42, h_42, e_42, hf⟩ := cl_s hf
            refine g_callV (mz := mi_Unit_busy) (e_Unit_busy e_42) cw_WM_slot_Unit_busy lm_WM_158 wI_Unit_busy wV_Unit_busy (ci := 6) k_40_2 (by decide) rfl rfl d_WM_slot_42 rfl rfl (by first | exact Nat.le_of_ble_eq_true rfl | simp [cat_rf, Value.category]) (fun r1 h1 hp hro => ?_)
            obtain ⟨rfl, rfl⟩ := hp
            dsimp only [Option.toList_some, Option.toList_none, List.cons_append, List.nil_append]
            refine g_astoreq (r := o_42) d_WM_slot_45 (by decide) ?_
            show Go _ _ _ _ _ _ [(0, _), (1, _), (2, _), (3, _), (4, _)] _
            refine g_aloadq (r := o_42) d_WM_slot_47 rfl ?_
            refine g_ifnonnull (r := o_42) 63 d_WM_slot_49 (by decide) (fun a_49 c_49 => ?_) (fun c_49 => ?_)
            · subst c_49
              have hf := nu_s hf
              refine g_aload d_WM_slot_63 rfl ?_
              refine g_iload_n d_WM_slot_65 rfl ?_
              obtain ⟨k_66, hf⟩ := gd_s hf
              obtain ⟨v_66_2, h_66_2, e_66_2, hf⟩ := cl_s hf
              refine g_callV (mz := mi_Warp_tell) (e_Warp_tell e_66_2) cw_WM_slot_Warp_tell lm_WM_162 wI_Warp_tell wV_Warp_tell (ci := 8) k_66 (by decide) rfl rfl d_WM_slot_66 rfl rfl (by first | exact Nat.le_of_ble_eq_true rfl | simp [cat_rf, Value.category]) (fun r1 h1 hp hro => ?_)
              obtain ⟨rfl, rfl⟩ := hp
              dsimp only [Option.toList_some, Option.toList_none, List.cons_append, List.nil_append]
              exact Go.ret (some _) (rOk_i _) rfl d_WM_slot_69 (pI_of hf)
            · subst c_49
              have hf := nu_n hf
              refine g_iload_n d_WM_slot_52 rfl ?_
              refine g_iconst 1 d_WM_slot_53 (by decide) ?_
              refine g_icmp_gt 61 d_WM_slot_54 (by decide) (fun c_54 => ?_) (fun c_54 => ?_)
              · have hf := ifp hf c_54
                refine g_iconst 0 d_WM_slot_61 (by decide) ?_
                exact Go.ret (some _) (rOk_i _) rfl d_WM_slot_62 (pI_of hf)
              · have hf := ifn hf c_54
                refine g_iconst (-1) d_WM_slot_57 (by decide) ?_
                refine g_goto 62 d_WM_slot_58 (by decide) ?_
                exact Go.ret (some _) (rOk_i _) rfl d_WM_slot_62 (pI_of hf)
          · have hf := ifn hf c_30
            refine g_iconst (-1) d_WM_slot_33 (by decide) ?_
            exact Go.ret (some _) (rOk_i _) rfl d_WM_slot_34 (pI_of hf)
abbrev mi_Mod_isSlot : MI := (⟨"WarpMillModel", "isSlot", "(II)Z"⟩, prog_13_method_67_code, 3, some .boolean, 0, 0)
def it_Mod_isSlot_0 : List (Nat × ClassFile.Instr × Nat) := [(0, .iload_n 1, 1), (1, .ifCond .lt (27), 3), (4, .iload_n 1, 1), (5, .aload_n 0, 1), (6, .getfield 16, 3), (9, .if_icmp .ge (19), 3), (12, .iload_n 2, 1), (13, .ifCond .lt (15), 3), (16, .iload_n 2, 1), (17, .aload_n 0, 1), (18, .getfield 13, 3), (21, .if_icmp .ge (7), 3), (24, .iconst 1, 1), (25, .goto (4), 3), (28, .iconst 0, 1), (29, .ireturn, 1)]
theorem id_Mod_isSlot_0 : ∀ q ∈ it_Mod_isSlot_0, decode prog_13_method_67_code q.1 = .ok q.2 := by decide +kernel
theorem d_Mod_isSlot_0 : decode prog_13_method_67_code 0 = .ok (.iload_n 1, 1) := id_Mod_isSlot_0 (0, .iload_n 1, 1) (List.mem_of_getElem? (i := 0) rfl)
theorem d_Mod_isSlot_1 : decode prog_13_method_67_code 1 = .ok (.ifCond .lt (27), 3) := id_Mod_isSlot_0 (1, .ifCond .lt (27), 3) (List.mem_of_getElem? (i := 1) rfl)
theorem d_Mod_isSlot_4 : decode prog_13_method_67_code 4 = .ok (.iload_n 1, 1) := id_Mod_isSlot_0 (4, .iload_n 1, 1) (List.mem_of_getElem? (i := 2) rfl)
theorem d_Mod_isSlot_5 : decode prog_13_method_67_code 5 = .ok (.aload_n 0, 1) := id_Mod_isSlot_0 (5, .aload_n 0, 1) (List.mem_of_getElem? (i := 3) rfl)
theorem d_Mod_isSlot_6 : decode prog_13_method_67_code 6 = .ok (.getfield 16, 3) := id_Mod_isSlot_0 (6, .getfield 16, 3) (List.mem_of_getElem? (i := 4) rfl)
theorem d_Mod_isSlot_9 : decode prog_13_method_67_code 9 = .ok (.if_icmp .ge (19), 3) := id_Mod_isSlot_0 (9, .if_icmp .ge (19), 3) (List.mem_of_getElem? (i := 5) rfl)
theorem d_Mod_isSlot_12 : decode prog_13_method_67_code 12 = .ok (.iload_n 2, 1) := id_Mod_isSlot_0 (12, .iload_n 2, 1) (List.mem_of_getElem? (i := 6) rfl)
theorem d_Mod_isSlot_13 : decode prog_13_method_67_code 13 = .ok (.ifCond .lt (15), 3) := id_Mod_isSlot_0 (13, .ifCond .lt (15), 3) (List.mem_of_getElem? (i := 7) rfl)
theorem d_Mod_isSlot_16 : decode prog_13_method_67_code 16 = .ok (.iload_n 2, 1) := id_Mod_isSlot_0 (16, .iload_n 2, 1) (List.mem_of_getElem? (i := 8) rfl)
theorem d_Mod_isSlot_17 : decode prog_13_method_67_code 17 = .ok (.aload_n 0, 1) := id_Mod_isSlot_0 (17, .aload_n 0, 1) (List.mem_of_getElem? (i := 9) rfl)
theorem d_Mod_isSlot_18 : decode prog_13_method_67_code 18 = .ok (.getfield 13, 3) := id_Mod_isSlot_0 (18, .getfield 13, 3) (List.mem_of_getElem? (i := 10) rfl)
theorem d_Mod_isSlot_21 : decode prog_13_method_67_code 21 = .ok (.if_icmp .ge (7), 3) := id_Mod_isSlot_0 (21, .if_icmp .ge (7), 3) (List.mem_of_getElem? (i := 11) rfl)
theorem d_Mod_isSlot_24 : decode prog_13_method_67_code 24 = .ok (.iconst 1, 1) := id_Mod_isSlot_0 (24, .iconst 1, 1) (List.mem_of_getElem? (i := 12) rfl)
theorem d_Mod_isSlot_25 : decode prog_13_method_67_code 25 = .ok (.goto (4), 3) := id_Mod_isSlot_0 (25, .goto (4), 3) (List.mem_of_getElem? (i := 13) rfl)
theorem d_Mod_isSlot_28 : decode prog_13_method_67_code 28 = .ok (.iconst 0, 1) := id_Mod_isSlot_0 (28, .iconst 0, 1) (List.mem_of_getElem? (i := 14) rfl)
theorem d_Mod_isSlot_29 : decode prog_13_method_67_code 29 = .ok (.ireturn, 1) := id_Mod_isSlot_0 (29, .ireturn, 1) (List.mem_of_getElem? (i := 15) rfl)
theorem wC_Mod_isSlot : Cond.code ⟨"WarpMillModel", "isSlot", "(II)Z"⟩ prog_13_method_67_code 3 (some .boolean) ∈ lw_tb := mem_tb 1500 (by decide +kernel) rfl
def f_Mod_isSlot (F : Nat) (x0 : Nat) (x1 : Int32) (x2 : Int32) (h : Hp) : Option (Int32 × Hp) := if x1 < 0 then (some ((0 : Int32), h)) else (gd (hK h x0 = 12) <| if (hI h 707 x0) ≤ x1 then (some ((0 : Int32), h)) else (if x2 < 0 then (some ((0 : Int32), h)) else (if (hI h 706 x0) ≤ x2 then (some ((0 : Int32), h)) else (some ((1 : Int32), h)))))
set_option maxRecDepth 100000 in
set_option maxHeartbeats 4000000 in
theorem e_Mod_isSlot {G : Gl} {F : Nat} {r : Int32} {h' : Hp} {x0 : Nat} {x1 : Int32} {x2 : Int32} {h : Hp} (hf : f_Mod_isSlot F x0 x1 x2 h = some (r, h')) : Ex G mi_Mod_isSlot [.ref x0, .int x1, .int x2] h (pI r h') := by
  unfold f_Mod_isSlot at hf
  refine Ex.of nmI (by decide) (Nat.le_of_ble_eq_true rfl) ?_
  show Go G mi_Mod_isSlot h _ h 0 [(0, .ref x0), (1, .int x1), (2, .int x2)] []
  refine g_iload_n d_Mod_isSlot_0 rfl ?_
  refine g_if_lt 28 d_Mod_isSlot_1 (by decide) (fun c_1 => ?_) (fun c_1 => ?_)
  · have hf := ifp hf c_1
    refine g_iconst 0 d_Mod_isSlot_28 (by decide) ?_
    exact Go.ret (some _) rOk_b0 rfl d_Mod_isSlot_29 (pI_of hf)
  · have hf := ifn hf c_1
    refine g_iload_n d_Mod_isSlot_4 rfl ?_
    refine g_aload_n d_Mod_isSlot_5 rfl ?_
    obtain ⟨k_6, hf⟩ := gd_s hf
    refine fg_Mod_units lf_Mod_16 d_Mod_isSlot_6 k_6 ?_
    refine g_icmp_ge 28 d_Mod_isSlot_9 (by decide) (fun c_9 => ?_) (fun c_9 => ?_)
    · have hf := ifp hf c_9
      refine g_iconst 0 d_Mod_isSlot_28 (by decide) ?_
      exact Go.ret (some _) rOk_b0 rfl d_Mod_isSlot_29 (pI_of hf)
    · have hf := ifn hf c_9
      refine g_iload_n d_Mod_isSlot_12 rfl ?_
      refine g_if_lt 28 d_Mod_isSlot_13 (by decide) (fun c_13 => ?_) (fun c_13 => ?_)
      · have hf := ifp hf c_13
        refine g_iconst 0 d_Mod_isSlot_28 (by decide) ?_
        exact Go.ret (some _) rOk_b0 rfl d_Mod_isSlot_29 (pI_of hf)
      · have hf := ifn hf c_13
        refine g_iload_n d_Mod_isSlot_16 rfl ?_
        refine g_aload_n d_Mod_isSlot_17 rfl ?_
        refine fg_Mod_slots lf_Mod_13 d_Mod_isSlot_18 k_6 ?_
        refine g_icmp_ge 28 d_Mod_isSlot_21 (by decide) (fun c_21 => ?_) (fun c_21 => ?_)
        · have hf := ifp hf c_21
          refine g_iconst 0 d_Mod_isSlot_28 (by decide) ?_
          exact Go.ret (some _) rOk_b0 rfl d_Mod_isSlot_29 (pI_of hf)
        · have hf := ifn hf c_21
          refine g_iconst 1 d_Mod_isSlot_24 (by decide) ?_
          refine g_goto 29 d_Mod_isSlot_25 (by decide) ?_
          exact Go.ret (some _) rOk_b1 rfl d_Mod_isSlot_29 (pI_of hf)
abbrev mi_Mod_slot : MI := (⟨"WarpMillModel", "slot", "(III)I"⟩, prog_13_method_68_code, 8, some .int, 1, 22)
def it_Mod_slot_0 : List (Nat × ClassFile.Instr × Nat) := [(0, .aload_n 0, 1), (1, .iconst 0, 1), (2, .putfield 120, 3), (5, .aload_n 0, 1), (6, .iload_n 1, 1), (7, .iload_n 2, 1), (8, .invokevirtual 377, 3), (11, .ifCond .eq (13), 3), (14, .iload_n 3, 1), (15, .ifCond .lt (9), 3), (18, .iload_n 3, 1), (19, .bipush (24), 2), (21, .if_icmp .le (5), 3), (24, .iconst (-1), 1), (25, .ireturn, 1), (26, .bipush (16), 2), (28, .iload_n 1, 1), (29, .imul, 1), (30, .iload_n 2, 1), (31, .iadd, 1), (32, .istore 4, 2), (34, .aload_n 0, 1), (35, .getfield 54, 3), (38, .iload 4, 2)]
theorem id_Mod_slot_0 : ∀ q ∈ it_Mod_slot_0, decode prog_13_method_68_code q.1 = .ok q.2 := by decide +kernel
theorem d_Mod_slot_0 : decode prog_13_method_68_code 0 = .ok (.aload_n 0, 1) := id_Mod_slot_0 (0, .aload_n 0, 1) (List.mem_of_getElem? (i := 0) rfl)
theorem d_Mod_slot_1 : decode prog_13_method_68_code 1 = .ok (.iconst 0, 1) := id_Mod_slot_0 (1, .iconst 0, 1) (List.mem_of_getElem? (i := 1) rfl)
theorem d_Mod_slot_2 : decode prog_13_method_68_code 2 = .ok (.putfield 120, 3) := id_Mod_slot_0 (2, .putfield 120, 3) (List.mem_of_getElem? (i := 2) rfl)
theorem d_Mod_slot_5 : decode prog_13_method_68_code 5 = .ok (.aload_n 0, 1) := id_Mod_slot_0 (5, .aload_n 0, 1) (List.mem_of_getElem? (i := 3) rfl)
theorem d_Mod_slot_6 : decode prog_13_method_68_code 6 = .ok (.iload_n 1, 1) := id_Mod_slot_0 (6, .iload_n 1, 1) (List.mem_of_getElem? (i := 4) rfl)
theorem d_Mod_slot_7 : decode prog_13_method_68_code 7 = .ok (.iload_n 2, 1) := id_Mod_slot_0 (7, .iload_n 2, 1) (List.mem_of_getElem? (i := 5) rfl)
theorem d_Mod_slot_8 : decode prog_13_method_68_code 8 = .ok (.invokevirtual 377, 3) := id_Mod_slot_0 (8, .invokevirtual 377, 3) (List.mem_of_getElem? (i := 6) rfl)
theorem d_Mod_slot_11 : decode prog_13_method_68_code 11 = .ok (.ifCond .eq (13), 3) := id_Mod_slot_0 (11, .ifCond .eq (13), 3) (List.mem_of_getElem? (i := 7) rfl)
theorem d_Mod_slot_14 : decode prog_13_method_68_code 14 = .ok (.iload_n 3, 1) := id_Mod_slot_0 (14, .iload_n 3, 1) (List.mem_of_getElem? (i := 8) rfl)
theorem d_Mod_slot_15 : decode prog_13_method_68_code 15 = .ok (.ifCond .lt (9), 3) := id_Mod_slot_0 (15, .ifCond .lt (9), 3) (List.mem_of_getElem? (i := 9) rfl)
theorem d_Mod_slot_18 : decode prog_13_method_68_code 18 = .ok (.iload_n 3, 1) := id_Mod_slot_0 (18, .iload_n 3, 1) (List.mem_of_getElem? (i := 10) rfl)
theorem d_Mod_slot_19 : decode prog_13_method_68_code 19 = .ok (.bipush (24), 2) := id_Mod_slot_0 (19, .bipush (24), 2) (List.mem_of_getElem? (i := 11) rfl)
theorem d_Mod_slot_21 : decode prog_13_method_68_code 21 = .ok (.if_icmp .le (5), 3) := id_Mod_slot_0 (21, .if_icmp .le (5), 3) (List.mem_of_getElem? (i := 12) rfl)
theorem d_Mod_slot_24 : decode prog_13_method_68_code 24 = .ok (.iconst (-1), 1) := id_Mod_slot_0 (24, .iconst (-1), 1) (List.mem_of_getElem? (i := 13) rfl)
theorem d_Mod_slot_25 : decode prog_13_method_68_code 25 = .ok (.ireturn, 1) := id_Mod_slot_0 (25, .ireturn, 1) (List.mem_of_getElem? (i := 14) rfl)
theorem d_Mod_slot_26 : decode prog_13_method_68_code 26 = .ok (.bipush (16), 2) := id_Mod_slot_0 (26, .bipush (16), 2) (List.mem_of_getElem? (i := 15) rfl)
theorem d_Mod_slot_28 : decode prog_13_method_68_code 28 = .ok (.iload_n 1, 1) := id_Mod_slot_0 (28, .iload_n 1, 1) (List.mem_of_getElem? (i := 16) rfl)
theorem d_Mod_slot_29 : decode prog_13_method_68_code 29 = .ok (.imul, 1) := id_Mod_slot_0 (29, .imul, 1) (List.mem_of_getElem? (i := 17) rfl)
theorem d_Mod_slot_30 : decode prog_13_method_68_code 30 = .ok (.iload_n 2, 1) := id_Mod_slot_0 (30, .iload_n 2, 1) (List.mem_of_getElem? (i := 18) rfl)
theorem d_Mod_slot_31 : decode prog_13_method_68_code 31 = .ok (.iadd, 1) := id_Mod_slot_0 (31, .iadd, 1) (List.mem_of_getElem? (i := 19) rfl)
theorem d_Mod_slot_32 : decode prog_13_method_68_code 32 = .ok (.istore 4, 2) := id_Mod_slot_0 (32, .istore 4, 2) (List.mem_of_getElem? (i := 20) rfl)
theorem d_Mod_slot_34 : decode prog_13_method_68_code 34 = .ok (.aload_n 0, 1) := id_Mod_slot_0 (34, .aload_n 0, 1) (List.mem_of_getElem? (i := 21) rfl)
theorem d_Mod_slot_35 : decode prog_13_method_68_code 35 = .ok (.getfield 54, 3) := id_Mod_slot_0 (35, .getfield 54, 3) (List.mem_of_getElem? (i := 22) rfl)
theorem d_Mod_slot_38 : decode prog_13_method_68_code 38 = .ok (.iload 4, 2) := id_Mod_slot_0 (38, .iload 4, 2) (List.mem_of_getElem? (i := 23) rfl)
def it_Mod_slot_1 : List (Nat × ClassFile.Instr × Nat) := [(40, .iaload, 1), (41, .iconst (-1), 1), (42, .if_icmp .ne (14), 3), (45, .iload_n 3, 1), (46, .iconst 2, 1), (47, .if_icmp .ge (7), 3), (50, .iconst (-1), 1), (51, .goto (4), 3), (54, .iconst 0, 1), (55, .ireturn, 1), (56, .iconst 0, 1), (57, .istore 5, 2), (59, .iconst 0, 1), (60, .istore 6, 2), (62, .iconst 0, 1), (63, .istore 7, 2), (65, .iload 7, 2), (67, .aload_n 0, 1), (68, .getfield 7, 3), (71, .if_icmp .ge (73), 3), (74, .aload_n 0, 1), (75, .iload 4, 2), (77, .iload 7, 2), (79, .invokevirtual 208, 3)]
theorem id_Mod_slot_1 : ∀ q ∈ it_Mod_slot_1, decode prog_13_method_68_code q.1 = .ok q.2 := by decide +kernel
theorem d_Mod_slot_40 : decode prog_13_method_68_code 40 = .ok (.iaload, 1) := id_Mod_slot_1 (40, .iaload, 1) (List.mem_of_getElem? (i := 0) rfl)
theorem d_Mod_slot_41 : decode prog_13_method_68_code 41 = .ok (.iconst (-1), 1) := id_Mod_slot_1 (41, .iconst (-1), 1) (List.mem_of_getElem? (i := 1) rfl)
theorem d_Mod_slot_42 : decode prog_13_method_68_code 42 = .ok (.if_icmp .ne (14), 3) := id_Mod_slot_1 (42, .if_icmp .ne (14), 3) (List.mem_of_getElem? (i := 2) rfl)
theorem d_Mod_slot_45 : decode prog_13_method_68_code 45 = .ok (.iload_n 3, 1) := id_Mod_slot_1 (45, .iload_n 3, 1) (List.mem_of_getElem? (i := 3) rfl)
theorem d_Mod_slot_46 : decode prog_13_method_68_code 46 = .ok (.iconst 2, 1) := id_Mod_slot_1 (46, .iconst 2, 1) (List.mem_of_getElem? (i := 4) rfl)
theorem d_Mod_slot_47 : decode prog_13_method_68_code 47 = .ok (.if_icmp .ge (7), 3) := id_Mod_slot_1 (47, .if_icmp .ge (7), 3) (List.mem_of_getElem? (i := 5) rfl)
theorem d_Mod_slot_50 : decode prog_13_method_68_code 50 = .ok (.iconst (-1), 1) := id_Mod_slot_1 (50, .iconst (-1), 1) (List.mem_of_getElem? (i := 6) rfl)
theorem d_Mod_slot_51 : decode prog_13_method_68_code 51 = .ok (.goto (4), 3) := id_Mod_slot_1 (51, .goto (4), 3) (List.mem_of_getElem? (i := 7) rfl)
theorem d_Mod_slot_54 : decode prog_13_method_68_code 54 = .ok (.iconst 0, 1) := id_Mod_slot_1 (54, .iconst 0, 1) (List.mem_of_getElem? (i := 8) rfl)
theorem d_Mod_slot_55 : decode prog_13_method_68_code 55 = .ok (.ireturn, 1) := id_Mod_slot_1 (55, .ireturn, 1) (List.mem_of_getElem? (i := 9) rfl)
theorem d_Mod_slot_56 : decode prog_13_method_68_code 56 = .ok (.iconst 0, 1) := id_Mod_slot_1 (56, .iconst 0, 1) (List.mem_of_getElem? (i := 10) rfl)
theorem d_Mod_slot_57 : decode prog_13_method_68_code 57 = .ok (.istore 5, 2) := id_Mod_slot_1 (57, .istore 5, 2) (List.mem_of_getElem? (i := 11) rfl)
theorem d_Mod_slot_59 : decode prog_13_method_68_code 59 = .ok (.iconst 0, 1) := id_Mod_slot_1 (59, .iconst 0, 1) (List.mem_of_getElem? (i := 12) rfl)
theorem d_Mod_slot_60 : decode prog_13_method_68_code 60 = .ok (.istore 6, 2) := id_Mod_slot_1 (60, .istore 6, 2) (List.mem_of_getElem? (i := 13) rfl)
theorem d_Mod_slot_62 : decode prog_13_method_68_code 62 = .ok (.iconst 0, 1) := id_Mod_slot_1 (62, .iconst 0, 1) (List.mem_of_getElem? (i := 14) rfl)
theorem d_Mod_slot_63 : decode prog_13_method_68_code 63 = .ok (.istore 7, 2) := id_Mod_slot_1 (63, .istore 7, 2) (List.mem_of_getElem? (i := 15) rfl)
theorem d_Mod_slot_65 : decode prog_13_method_68_code 65 = .ok (.iload 7, 2) := id_Mod_slot_1 (65, .iload 7, 2) (List.mem_of_getElem? (i := 16) rfl)
theorem d_Mod_slot_67 : decode prog_13_method_68_code 67 = .ok (.aload_n 0, 1) := id_Mod_slot_1 (67, .aload_n 0, 1) (List.mem_of_getElem? (i := 17) rfl)
theorem d_Mod_slot_68 : decode prog_13_method_68_code 68 = .ok (.getfield 7, 3) := id_Mod_slot_1 (68, .getfield 7, 3) (List.mem_of_getElem? (i := 18) rfl)
theorem d_Mod_slot_71 : decode prog_13_method_68_code 71 = .ok (.if_icmp .ge (73), 3) := id_Mod_slot_1 (71, .if_icmp .ge (73), 3) (List.mem_of_getElem? (i := 19) rfl)
theorem d_Mod_slot_74 : decode prog_13_method_68_code 74 = .ok (.aload_n 0, 1) := id_Mod_slot_1 (74, .aload_n 0, 1) (List.mem_of_getElem? (i := 20) rfl)
theorem d_Mod_slot_75 : decode prog_13_method_68_code 75 = .ok (.iload 4, 2) := id_Mod_slot_1 (75, .iload 4, 2) (List.mem_of_getElem? (i := 21) rfl)
theorem d_Mod_slot_77 : decode prog_13_method_68_code 77 = .ok (.iload 7, 2) := id_Mod_slot_1 (77, .iload 7, 2) (List.mem_of_getElem? (i := 22) rfl)
theorem d_Mod_slot_79 : decode prog_13_method_68_code 79 = .ok (.invokevirtual 208, 3) := id_Mod_slot_1 (79, .invokevirtual 208, 3) (List.mem_of_getElem? (i := 23) rfl)
def it_Mod_slot_2 : List (Nat × ClassFile.Instr × Nat) := [(82, .ifCond .ne (6), 3), (85, .goto (53), 3), (88, .iload 5, 2), (90, .aload_n 0, 1), (91, .getfield 76, 3), (94, .iload 4, 2), (96, .iload 7, 2), (98, .invokestatic 211, 3), (101, .baload, 1), (102, .ifCond .eq (7), 3), (105, .iconst 1, 1), (106, .goto (4), 3), (109, .iconst 0, 1), (110, .iadd, 1), (111, .istore 5, 2), (113, .iload 6, 2), (115, .aload_n 0, 1), (116, .getfield 80, 3), (119, .iload 4, 2), (121, .iload 7, 2), (123, .invokestatic 211, 3), (126, .baload, 1), (127, .ifCond .eq (7), 3), (130, .iconst 1, 1)]
theorem id_Mod_slot_2 : ∀ q ∈ it_Mod_slot_2, decode prog_13_method_68_code q.1 = .ok q.2 := by decide +kernel
theorem d_Mod_slot_82 : decode prog_13_method_68_code 82 = .ok (.ifCond .ne (6), 3) := id_Mod_slot_2 (82, .ifCond .ne (6), 3) (List.mem_of_getElem? (i := 0) rfl)
theorem d_Mod_slot_85 : decode prog_13_method_68_code 85 = .ok (.goto (53), 3) := id_Mod_slot_2 (85, .goto (53), 3) (List.mem_of_getElem? (i := 1) rfl)
theorem d_Mod_slot_88 : decode prog_13_method_68_code 88 = .ok (.iload 5, 2) := id_Mod_slot_2 (88, .iload 5, 2) (List.mem_of_getElem? (i := 2) rfl)
theorem d_Mod_slot_90 : decode prog_13_method_68_code 90 = .ok (.aload_n 0, 1) := id_Mod_slot_2 (90, .aload_n 0, 1) (List.mem_of_getElem? (i := 3) rfl)
theorem d_Mod_slot_91 : decode prog_13_method_68_code 91 = .ok (.getfield 76, 3) := id_Mod_slot_2 (91, .getfield 76, 3) (List.mem_of_getElem? (i := 4) rfl)
theorem d_Mod_slot_94 : decode prog_13_method_68_code 94 = .ok (.iload 4, 2) := id_Mod_slot_2 (94, .iload 4, 2) (List.mem_of_getElem? (i := 5) rfl)
theorem d_Mod_slot_96 : decode prog_13_method_68_code 96 = .ok (.iload 7, 2) := id_Mod_slot_2 (96, .iload 7, 2) (List.mem_of_getElem? (i := 6) rfl)
theorem d_Mod_slot_98 : decode prog_13_method_68_code 98 = .ok (.invokestatic 211, 3) := id_Mod_slot_2 (98, .invokestatic 211, 3) (List.mem_of_getElem? (i := 7) rfl)
theorem d_Mod_slot_101 : decode prog_13_method_68_code 101 = .ok (.baload, 1) := id_Mod_slot_2 (101, .baload, 1) (List.mem_of_getElem? (i := 8) rfl)
theorem d_Mod_slot_102 : decode prog_13_method_68_code 102 = .ok (.ifCond .eq (7), 3) := id_Mod_slot_2 (102, .ifCond .eq (7), 3) (List.mem_of_getElem? (i := 9) rfl)
theorem d_Mod_slot_105 : decode prog_13_method_68_code 105 = .ok (.iconst 1, 1) := id_Mod_slot_2 (105, .iconst 1, 1) (List.mem_of_getElem? (i := 10) rfl)
theorem d_Mod_slot_106 : decode prog_13_method_68_code 106 = .ok (.goto (4), 3) := id_Mod_slot_2 (106, .goto (4), 3) (List.mem_of_getElem? (i := 11) rfl)
theorem d_Mod_slot_109 : decode prog_13_method_68_code 109 = .ok (.iconst 0, 1) := id_Mod_slot_2 (109, .iconst 0, 1) (List.mem_of_getElem? (i := 12) rfl)
theorem d_Mod_slot_110 : decode prog_13_method_68_code 110 = .ok (.iadd, 1) := id_Mod_slot_2 (110, .iadd, 1) (List.mem_of_getElem? (i := 13) rfl)
theorem d_Mod_slot_111 : decode prog_13_method_68_code 111 = .ok (.istore 5, 2) := id_Mod_slot_2 (111, .istore 5, 2) (List.mem_of_getElem? (i := 14) rfl)
theorem d_Mod_slot_113 : decode prog_13_method_68_code 113 = .ok (.iload 6, 2) := id_Mod_slot_2 (113, .iload 6, 2) (List.mem_of_getElem? (i := 15) rfl)
theorem d_Mod_slot_115 : decode prog_13_method_68_code 115 = .ok (.aload_n 0, 1) := id_Mod_slot_2 (115, .aload_n 0, 1) (List.mem_of_getElem? (i := 16) rfl)
theorem d_Mod_slot_116 : decode prog_13_method_68_code 116 = .ok (.getfield 80, 3) := id_Mod_slot_2 (116, .getfield 80, 3) (List.mem_of_getElem? (i := 17) rfl)
theorem d_Mod_slot_119 : decode prog_13_method_68_code 119 = .ok (.iload 4, 2) := id_Mod_slot_2 (119, .iload 4, 2) (List.mem_of_getElem? (i := 18) rfl)
theorem d_Mod_slot_121 : decode prog_13_method_68_code 121 = .ok (.iload 7, 2) := id_Mod_slot_2 (121, .iload 7, 2) (List.mem_of_getElem? (i := 19) rfl)
theorem d_Mod_slot_123 : decode prog_13_method_68_code 123 = .ok (.invokestatic 211, 3) := id_Mod_slot_2 (123, .invokestatic 211, 3) (List.mem_of_getElem? (i := 20) rfl)
theorem d_Mod_slot_126 : decode prog_13_method_68_code 126 = .ok (.baload, 1) := id_Mod_slot_2 (126, .baload, 1) (List.mem_of_getElem? (i := 21) rfl)
theorem d_Mod_slot_127 : decode prog_13_method_68_code 127 = .ok (.ifCond .eq (7), 3) := id_Mod_slot_2 (127, .ifCond .eq (7), 3) (List.mem_of_getElem? (i := 22) rfl)
theorem d_Mod_slot_130 : decode prog_13_method_68_code 130 = .ok (.iconst 1, 1) := id_Mod_slot_2 (130, .iconst 1, 1) (List.mem_of_getElem? (i := 23) rfl)
def it_Mod_slot_3 : List (Nat × ClassFile.Instr × Nat) := [(131, .goto (4), 3), (134, .iconst 0, 1), (135, .iadd, 1), (136, .istore 6, 2), (138, .iinc 7 (1), 3), (141, .goto (-76), 3), (144, .iload_n 3, 1), (145, .tableswitch (65) (0) (4) #[(35), (43), (51), (54), (57)], 35), (180, .aload_n 0, 1), (181, .getfield 54, 3), (184, .iload 4, 2), (186, .iaload, 1), (187, .ireturn, 1), (188, .aload_n 0, 1), (189, .getfield 57, 3), (192, .iload 4, 2), (194, .iaload, 1), (195, .ireturn, 1), (196, .iload 5, 2), (198, .ireturn, 1), (199, .iload 6, 2), (201, .ireturn, 1), (202, .aload_n 0, 1), (203, .getfield 60, 3)]
theorem id_Mod_slot_3 : ∀ q ∈ it_Mod_slot_3, decode prog_13_method_68_code q.1 = .ok q.2 := by decide +kernel
theorem d_Mod_slot_131 : decode prog_13_method_68_code 131 = .ok (.goto (4), 3) := id_Mod_slot_3 (131, .goto (4), 3) (List.mem_of_getElem? (i := 0) rfl)
theorem d_Mod_slot_134 : decode prog_13_method_68_code 134 = .ok (.iconst 0, 1) := id_Mod_slot_3 (134, .iconst 0, 1) (List.mem_of_getElem? (i := 1) rfl)
theorem d_Mod_slot_135 : decode prog_13_method_68_code 135 = .ok (.iadd, 1) := id_Mod_slot_3 (135, .iadd, 1) (List.mem_of_getElem? (i := 2) rfl)
theorem d_Mod_slot_136 : decode prog_13_method_68_code 136 = .ok (.istore 6, 2) := id_Mod_slot_3 (136, .istore 6, 2) (List.mem_of_getElem? (i := 3) rfl)
theorem d_Mod_slot_138 : decode prog_13_method_68_code 138 = .ok (.iinc 7 (1), 3) := id_Mod_slot_3 (138, .iinc 7 (1), 3) (List.mem_of_getElem? (i := 4) rfl)
theorem d_Mod_slot_141 : decode prog_13_method_68_code 141 = .ok (.goto (-76), 3) := id_Mod_slot_3 (141, .goto (-76), 3) (List.mem_of_getElem? (i := 5) rfl)
theorem d_Mod_slot_144 : decode prog_13_method_68_code 144 = .ok (.iload_n 3, 1) := id_Mod_slot_3 (144, .iload_n 3, 1) (List.mem_of_getElem? (i := 6) rfl)
theorem d_Mod_slot_145 : decode prog_13_method_68_code 145 = .ok (.tableswitch (65) (0) (4) #[(35), (43), (51), (54), (57)], 35) := id_Mod_slot_3 (145, .tableswitch (65) (0) (4) #[(35), (43), (51), (54), (57)], 35) (List.mem_of_getElem? (i := 7) rfl)
theorem d_Mod_slot_180 : decode prog_13_method_68_code 180 = .ok (.aload_n 0, 1) := id_Mod_slot_3 (180, .aload_n 0, 1) (List.mem_of_getElem? (i := 8) rfl)
theorem d_Mod_slot_181 : decode prog_13_method_68_code 181 = .ok (.getfield 54, 3) := id_Mod_slot_3 (181, .getfield 54, 3) (List.mem_of_getElem? (i := 9) rfl)
theorem d_Mod_slot_184 : decode prog_13_method_68_code 184 = .ok (.iload 4, 2) := id_Mod_slot_3 (184, .iload 4, 2) (List.mem_of_getElem? (i := 10) rfl)
theorem d_Mod_slot_186 : decode prog_13_method_68_code 186 = .ok (.iaload, 1) := id_Mod_slot_3 (186, .iaload, 1) (List.mem_of_getElem? (i := 11) rfl)
theorem d_Mod_slot_187 : decode prog_13_method_68_code 187 = .ok (.ireturn, 1) := id_Mod_slot_3 (187, .ireturn, 1) (List.mem_of_getElem? (i := 12) rfl)
theorem d_Mod_slot_188 : decode prog_13_method_68_code 188 = .ok (.aload_n 0, 1) := id_Mod_slot_3 (188, .aload_n 0, 1) (List.mem_of_getElem? (i := 13) rfl)
theorem d_Mod_slot_189 : decode prog_13_method_68_code 189 = .ok (.getfield 57, 3) := id_Mod_slot_3 (189, .getfield 57, 3) (List.mem_of_getElem? (i := 14) rfl)
theorem d_Mod_slot_192 : decode prog_13_method_68_code 192 = .ok (.iload 4, 2) := id_Mod_slot_3 (192, .iload 4, 2) (List.mem_of_getElem? (i := 15) rfl)
theorem d_Mod_slot_194 : decode prog_13_method_68_code 194 = .ok (.iaload, 1) := id_Mod_slot_3 (194, .iaload, 1) (List.mem_of_getElem? (i := 16) rfl)
theorem d_Mod_slot_195 : decode prog_13_method_68_code 195 = .ok (.ireturn, 1) := id_Mod_slot_3 (195, .ireturn, 1) (List.mem_of_getElem? (i := 17) rfl)
theorem d_Mod_slot_196 : decode prog_13_method_68_code 196 = .ok (.iload 5, 2) := id_Mod_slot_3 (196, .iload 5, 2) (List.mem_of_getElem? (i := 18) rfl)
theorem d_Mod_slot_198 : decode prog_13_method_68_code 198 = .ok (.ireturn, 1) := id_Mod_slot_3 (198, .ireturn, 1) (List.mem_of_getElem? (i := 19) rfl)
theorem d_Mod_slot_199 : decode prog_13_method_68_code 199 = .ok (.iload 6, 2) := id_Mod_slot_3 (199, .iload 6, 2) (List.mem_of_getElem? (i := 20) rfl)
theorem d_Mod_slot_201 : decode prog_13_method_68_code 201 = .ok (.ireturn, 1) := id_Mod_slot_3 (201, .ireturn, 1) (List.mem_of_getElem? (i := 21) rfl)
theorem d_Mod_slot_202 : decode prog_13_method_68_code 202 = .ok (.aload_n 0, 1) := id_Mod_slot_3 (202, .aload_n 0, 1) (List.mem_of_getElem? (i := 22) rfl)
theorem d_Mod_slot_203 : decode prog_13_method_68_code 203 = .ok (.getfield 60, 3) := id_Mod_slot_3 (203, .getfield 60, 3) (List.mem_of_getElem? (i := 23) rfl)
def it_Mod_slot_4 : List (Nat × ClassFile.Instr × Nat) := [(206, .iload 4, 2), (208, .iaload, 1), (209, .ireturn, 1), (210, .aload_n 0, 1), (211, .getfield 63, 3), (214, .bipush (20), 2), (216, .iload 4, 2), (218, .imul, 1), (219, .iload_n 3, 1), (220, .iadd, 1), (221, .iconst 5, 1), (222, .isub, 1), (223, .iaload, 1), (224, .ireturn, 1)]
theorem id_Mod_slot_4 : ∀ q ∈ it_Mod_slot_4, decode prog_13_method_68_code q.1 = .ok q.2 := by decide +kernel
theorem d_Mod_slot_206 : decode prog_13_method_68_code 206 = .ok (.iload 4, 2) := id_Mod_slot_4 (206, .iload 4, 2) (List.mem_of_getElem? (i := 0) rfl)
theorem d_Mod_slot_208 : decode prog_13_method_68_code 208 = .ok (.iaload, 1) := id_Mod_slot_4 (208, .iaload, 1) (List.mem_of_getElem? (i := 1) rfl)
theorem d_Mod_slot_209 : decode prog_13_method_68_code 209 = .ok (.ireturn, 1) := id_Mod_slot_4 (209, .ireturn, 1) (List.mem_of_getElem? (i := 2) rfl)
theorem d_Mod_slot_210 : decode prog_13_method_68_code 210 = .ok (.aload_n 0, 1) := id_Mod_slot_4 (210, .aload_n 0, 1) (List.mem_of_getElem? (i := 3) rfl)
theorem d_Mod_slot_211 : decode prog_13_method_68_code 211 = .ok (.getfield 63, 3) := id_Mod_slot_4 (211, .getfield 63, 3) (List.mem_of_getElem? (i := 4) rfl)
theorem d_Mod_slot_214 : decode prog_13_method_68_code 214 = .ok (.bipush (20), 2) := id_Mod_slot_4 (214, .bipush (20), 2) (List.mem_of_getElem? (i := 5) rfl)
theorem d_Mod_slot_216 : decode prog_13_method_68_code 216 = .ok (.iload 4, 2) := id_Mod_slot_4 (216, .iload 4, 2) (List.mem_of_getElem? (i := 6) rfl)
theorem d_Mod_slot_218 : decode prog_13_method_68_code 218 = .ok (.imul, 1) := id_Mod_slot_4 (218, .imul, 1) (List.mem_of_getElem? (i := 7) rfl)
theorem d_Mod_slot_219 : decode prog_13_method_68_code 219 = .ok (.iload_n 3, 1) := id_Mod_slot_4 (219, .iload_n 3, 1) (List.mem_of_getElem? (i := 8) rfl)
theorem d_Mod_slot_220 : decode prog_13_method_68_code 220 = .ok (.iadd, 1) := id_Mod_slot_4 (220, .iadd, 1) (List.mem_of_getElem? (i := 9) rfl)
theorem d_Mod_slot_221 : decode prog_13_method_68_code 221 = .ok (.iconst 5, 1) := id_Mod_slot_4 (221, .iconst 5, 1) (List.mem_of_getElem? (i := 10) rfl)
theorem d_Mod_slot_222 : decode prog_13_method_68_code 222 = .ok (.isub, 1) := id_Mod_slot_4 (222, .isub, 1) (List.mem_of_getElem? (i := 11) rfl)
theorem d_Mod_slot_223 : decode prog_13_method_68_code 223 = .ok (.iaload, 1) := id_Mod_slot_4 (223, .iaload, 1) (List.mem_of_getElem? (i := 12) rfl)
theorem d_Mod_slot_224 : decode prog_13_method_68_code 224 = .ok (.ireturn, 1) := id_Mod_slot_4 (224, .ireturn, 1) (List.mem_of_getElem? (i := 13) rfl)
theorem wC_Mod_slot : Cond.code ⟨"WarpMillModel", "slot", "(III)I"⟩ prog_13_method_68_code 8 (some .int) ∈ lw_tb := mem_tb 1496 (by decide +kernel) rfl
theorem cw_Mod_slot_Mod_isSlot : cW mi_Mod_slot mi_Mod_isSlot 2 := ⟨wC_Mod_isSlot, wi_Mod, ⟨by decide, by decide, by decide +kernel⟩, by decide, by decide⟩
theorem cw_Mod_slot_Mod_isLane : cW mi_Mod_slot mi_Mod_isLane 2 := ⟨wC_Mod_isLane, wi_Mod, ⟨by decide, by decide, by decide +kernel⟩, by decide, by decide⟩
theorem cw_Mod_slot_Mod_thread : cW mi_Mod_slot mi_Mod_thread 2 := ⟨wC_Mod_thread, wi_Mod, ⟨by decide, by decide, by decide +kernel⟩, by decide, by decide⟩
def b_Mod_slot_110 (F : Nat) (k65 : Nat → Int32 → Int32 → Int32 → Int32 → Int32 → Hp → Option (Int32 × Hp)) (x0 : Nat) (x3 : Int32) (x4 : Int32) (x6 : Int32) (x7 : Int32) (s0 : Int32) (s1 : Int32) (h : Hp) : Option (Int32 × Hp) := gd (hK h x0 = 12) <| rq h (hR h 743 x0) 101 fun a_116_2 => cl (f_Mod_thread F x4 x7 h) fun v_123 h_123 => gd (hK h_123 a_116_2 = 101) <| ix v_123 (hN h_123 a_116_2) fun j_126_2 => if (hA h_123 a_116_2 j_126_2) = 0 then (k65 x0 x3 x4 (s0 + s1) (x6 + (0 : Int32)) (x7 + 1) h_123) else (k65 x0 x3 x4 (s0 + s1) (x6 + (1 : Int32)) (x7 + 1) h_123)
set_option maxRecDepth 100000 in
set_option maxHeartbeats 4000000 in
theorem e_Mod_slot_110 {G : Gl} (hw : gF G) {h0 : Hp} {F : Nat} {r : Int32} {h' : Hp} {k65 : Nat → Int32 → Int32 → Int32 → Int32 → Int32 → Hp → Option (Int32 × Hp)} (hk65 : ∀ (y0 : Nat) (y3 : Int32) (y4 : Int32) (y5 : Int32) (y6 : Int32) (y7 : Int32) (hh : Hp), k65 y0 y3 y4 y5 y6 y7 hh = some (r, h') → Go G mi_Mod_slot h0 (pI r h') hh 65 [(0, .ref y0), (3, .int y3), (4, .int y4), (5, .int y5), (6, .int y6), (7, .int y7)] []) {x0 : Nat} {x3 : Int32} {x4 : Int32} {x6 : Int32} {x7 : Int32} {s0 : Int32} {s1 : Int32} {h : Hp} (hf : b_Mod_slot_110 F k65 x0 x3 x4 x6 x7 s0 s1 h = some (r, h')) : Go G mi_Mod_slot h0 (pI r h') h 110 [(0, .ref x0), (3, .int x3), (4, .int x4), (6, .int x6), (7, .int x7)] [.int s1, .int s0] := by
  unfold b_Mod_slot_110 at hf
  refine g_iadd d_Mod_slot_110 ?_
  refine g_istore d_Mod_slot_111 (by decide) ?_
  show Go _ _ _ _ _ _ [(0, _), (3, _), (4, _), (5, _), (6, _), (7, _)] _
  refine g_iload d_Mod_slot_113 rfl ?_
  refine g_aload_n d_Mod_slot_115 rfl ?_
  obtain ⟨k_116, hf⟩ := gd_s hf
  obtain ⟨a_116_2, e_116_2, k_116_2, hf⟩ := rq_s hf
  refine fgs_Mod_waits lf_Mod_80 d_Mod_slot_116 k_116 e_116_2 ?_
  refine g_iload d_Mod_slot_119 rfl ?_
  refine g_iload d_Mod_slot_121 rfl ?_
  obtain ⟨v_123, h_123, e_123, hf⟩ := cl_s hf
  refine g_callS (mz := mi_Mod_thread) (e_Mod_thread e_123) cw_Mod_slot_Mod_thread lm_Mod_211 wS_Mod_thread d_Mod_slot_123 rfl rfl (by first | exact Nat.le_of_ble_eq_true rfl | simp [cat_rf, Value.category]) (fun r1 h1 hp hro => ?_)
  obtain ⟨rfl, rfl⟩ := hp
  dsimp only [Option.toList_some, Option.toList_none, List.cons_append, List.nil_append]
  obtain ⟨k_126, hf⟩ := gd_s hf
  obtain ⟨i_126_2, hf⟩ := ix_s hf
  refine g_zald k_126 i_126_2 d_Mod_slot_126 ?_
  refine g_if_eq 134 d_Mod_slot_127 (by decide) (fun c_127 => ?_) (fun c_127 => ?_)
  · have hf := ifp hf c_127
    refine g_iconst 0 d_Mod_slot_134 (by decide) ?_
    refine g_iadd d_Mod_slot_135 ?_
    refine g_istore d_Mod_slot_136 (by decide) ?_
    show Go _ _ _ _ _ _ [(0, _), (3, _), (4, _), (5, _), (6, _), (7, _)] _
    refine g_iinc (_ + 1) d_Mod_slot_138 rfl (by rfl) (by decide) ?_
    show Go _ _ _ _ _ _ [(0, _), (3, _), (4, _), (5, _), (6, _), (7, _)] _
    refine g_goto 65 d_Mod_slot_141 (by decide) ?_
    exact hk65 _ _ _ _ _ _ _ hf
  · have hf := ifn hf c_127
    refine g_iconst 1 d_Mod_slot_130 (by decide) ?_
    refine g_goto 135 d_Mod_slot_131 (by decide) ?_
    refine g_iadd d_Mod_slot_135 ?_
    refine g_istore d_Mod_slot_136 (by decide) ?_
    show Go _ _ _ _ _ _ [(0, _), (3, _), (4, _), (5, _), (6, _), (7, _)] _
    refine g_iinc (_ + 1) d_Mod_slot_138 rfl (by rfl) (by decide) ?_
    show Go _ _ _ _ _ _ [(0, _), (3, _), (4, _), (5, _), (6, _), (7, _)] _
    refine g_goto 65 d_Mod_slot_141 (by decide) ?_
    exact hk65 _ _ _ _ _ _ _ hf
def b_Mod_slot_65 (F : Nat) : Nat → Nat → Int32 → Int32 → Int32 → Int32 → Int32 → Hp → Option (Int32 × Hp)
  | 0 => fun _ _ _ _ _ _ _ => none
  | n + 1 => fun x0 x3 x4 x5 x6 x7 h => gd (hK h x0 = 12) <| if (hI h 705 x0) ≤ x7 then (if x3 = 0 then (rq h (hR h 735 x0) 100 fun a_181 => ix x4 (hN h a_181) fun j_186 => some ((hA h a_181 j_186), h)) else if x3 = 1 then (rq h (hR h 736 x0) 100 fun a_189 => ix x4 (hN h a_189) fun j_194 => some ((hA h a_189 j_194), h)) else if x3 = 2 then (some (x5, h)) else if x3 = 3 then (some (x6, h)) else if x3 = 4 then (rq h (hR h 737 x0) 100 fun a_203 => ix x4 (hN h a_203) fun j_208 => some ((hA h a_203 j_208), h)) else (rq h (hR h 738 x0) 100 fun a_211 => ix ((((20 : Int32) * x4) + x3) - (5 : Int32)) (hN h a_211) fun j_223 => some ((hA h a_211 j_223), h))) else (cl (f_Mod_isLane F x0 x4 x7 h) fun v_79 h_79 => if v_79 = 0 then (b_Mod_slot_65 F n x0 x3 x4 x5 x6 (x7 + 1) h_79) else (gd (hK h_79 x0 = 12) <| rq h_79 (hR h_79 742 x0) 101 fun a_91_2 => cl (f_Mod_thread F x4 x7 h_79) fun v_98 h_98 => gd (hK h_98 a_91_2 = 101) <| ix v_98 (hN h_98 a_91_2) fun j_101_2 => if (hA h_98 a_91_2 j_101_2) = 0 then (b_Mod_slot_110 F (b_Mod_slot_65 F n) x0 x3 x4 x6 x7 x5 (0 : Int32) h_98) else (b_Mod_slot_110 F (b_Mod_slot_65 F n) x0 x3 x4 x6 x7 x5 (1 : Int32) h_98)))
set_option maxRecDepth 100000 in
set_option maxHeartbeats 4000000 in
theorem e_Mod_slot_65 {G : Gl} (hw : gF G) {h0 : Hp} {F : Nat} {r : Int32} {h' : Hp}   : ∀ (n : Nat) (x0 : Nat) (x3 : Int32) (x4 : Int32) (x5 : Int32) (x6 : Int32) (x7 : Int32) (h : Hp), b_Mod_slot_65 F n x0 x3 x4 x5 x6 x7 h = some (r, h') → Go G mi_Mod_slot h0 (pI r h') h 65 [(0, .ref x0), (3, .int x3), (4, .int x4), (5, .int x5), (6, .int x6), (7, .int x7)] [] := by
  intro n
  induction n with
  | zero =>
    intro _ _ _ _ _ _ _ hf
    exact nm_s hf
  | succ n ih =>
    intro x0 x3 x4 x5 x6 x7 h hf
    unfold b_Mod_slot_65 at hf
    refine g_iload d_Mod_slot_65 rfl ?_
    refine g_aload_n d_Mod_slot_67 rfl ?_
    obtain ⟨k_68, hf⟩ := gd_s hf
    refine fg_Mod_lanes lf_Mod_7 d_Mod_slot_68 k_68 ?_
    refine g_icmp_ge 144 d_Mod_slot_71 (by decide) (fun c_71 => ?_) (fun c_71 => ?_)
    · have hf := ifp hf c_71
      refine g_iload_n d_Mod_slot_144 rfl ?_
      refine g_sw sw_0_4 (fun hs_145 => ?_)
      rcases hs_145 with hs_145 | hs_145 | hs_145 | hs_145 | hs_145 | hs_145
      · refine g_tableOut 210 d_Mod_slot_145 hs_145 (by decide) ?_
        have hf := ifn hf (sw_ne hs_145 0 (by decide) (by decide))
        have hf := ifn hf (sw_ne hs_145 1 (by decide) (by decide))
        have hf := ifn hf (sw_ne hs_145 2 (by decide) (by decide))
        have hf := ifn hf (sw_ne hs_145 3 (by decide) (by decide))
        have hf := ifn hf (sw_ne hs_145 4 (by decide) (by decide))
        refine g_aload_n d_Mod_slot_210 rfl ?_
        obtain ⟨a_211, e_211, k_211, hf⟩ := rq_s hf
        refine fgs_Mod_ticks lf_Mod_63 d_Mod_slot_211 k_68 e_211 ?_
        refine g_bipush (20) d_Mod_slot_214 (by decide) ?_
        refine g_iload d_Mod_slot_216 rfl ?_
        refine g_imul d_Mod_slot_218 ?_
        refine g_iload_n d_Mod_slot_219 rfl ?_
        refine g_iadd d_Mod_slot_220 ?_
        refine g_iconst 5 d_Mod_slot_221 (by decide) ?_
        refine g_isub d_Mod_slot_222 ?_
        obtain ⟨i_223, hf⟩ := ix_s hf
        refine g_iald k_211 i_223 d_Mod_slot_223 ?_
        exact Go.ret (some _) (rOk_i _) rfl d_Mod_slot_224 (pI_of hf)
      · refine g_tableIn 180 d_Mod_slot_145 (by rw [hs_145]; decide) (by rw [hs_145]; decide) (by rw [hs_145]; rfl) (by decide) ?_
        have hf := ifp hf hs_145
        refine g_aload_n d_Mod_slot_180 rfl ?_
        obtain ⟨a_181, e_181, k_181, hf⟩ := rq_s hf
        refine fgs_Mod_slotBlock lf_Mod_54 d_Mod_slot_181 k_68 e_181 ?_
        refine g_iload d_Mod_slot_184 rfl ?_
        obtain ⟨i_186, hf⟩ := ix_s hf
        refine g_iald k_181 i_186 d_Mod_slot_186 ?_
        exact Go.ret (some _) (rOk_i _) rfl d_Mod_slot_187 (pI_of hf)
      · refine g_tableIn 188 d_Mod_slot_145 (by rw [hs_145]; decide) (by rw [hs_145]; decide) (by rw [hs_145]; rfl) (by decide) ?_
        have hf := ifn hf (sw_d hs_145 (by decide))
        have hf := ifp hf hs_145
        refine g_aload_n d_Mod_slot_188 rfl ?_
        obtain ⟨a_189, e_189, k_189, hf⟩ := rq_s hf
        refine fgs_Mod_slotWarp lf_Mod_57 d_Mod_slot_189 k_68 e_189 ?_
        refine g_iload d_Mod_slot_192 rfl ?_
        obtain ⟨i_194, hf⟩ := ix_s hf
        refine g_iald k_189 i_194 d_Mod_slot_194 ?_
        exact Go.ret (some _) (rOk_i _) rfl d_Mod_slot_195 (pI_of hf)
      · refine g_tableIn 196 d_Mod_slot_145 (by rw [hs_145]; decide) (by rw [hs_145]; decide) (by rw [hs_145]; rfl) (by decide) ?_
        have hf := ifn hf (sw_d hs_145 (by decide))
        have hf := ifn hf (sw_d hs_145 (by decide))
        have hf := ifp hf hs_145
        refine g_iload d_Mod_slot_196 rfl ?_
        exact Go.ret (some _) (rOk_i _) rfl d_Mod_slot_198 (pI_of hf)
      · refine g_tableIn 199 d_Mod_slot_145 (by rw [hs_145]; decide) (by rw [hs_145]; decide) (by rw [hs_145]; rfl) (by decide) ?_
        have hf := ifn hf (sw_d hs_145 (by decide))
        have hf := ifn hf (sw_d hs_145 (by decide))
        have hf := ifn hf (sw_d hs_145 (by decide))
        have hf := ifp hf hs_145
        refine g_iload d_Mod_slot_199 rfl ?_
        exact Go.ret (some _) (rOk_i _) rfl d_Mod_slot_201 (pI_of hf)
      · refine g_tableIn 202 d_Mod_slot_145 (by rw [hs_145]; decide) (by rw [hs_145]; decide) (by rw [hs_145]; rfl) (by decide) ?_
        have hf := ifn hf (sw_d hs_145 (by decide))
        have hf := ifn hf (sw_d hs_145 (by decide))
        have hf := ifn hf (sw_d hs_145 (by decide))
        have hf := ifn hf (sw_d hs_145 (by decide))
        have hf := ifp hf hs_145
        refine g_aload_n d_Mod_slot_202 rfl ?_
        obtain ⟨a_203, e_203, k_203, hf⟩ := rq_s hf
        refine fgs_Mod_memoryTick lf_Mod_60 d_Mod_slot_203 k_68 e_203 ?_
        refine g_iload d_Mod_slot_206 rfl ?_
        obtain ⟨i_208, hf⟩ := ix_s hf
        refine g_iald k_203 i_208 d_Mod_slot_208 ?_
        exact Go.ret (some _) (rOk_i _) rfl d_Mod_slot_209 (pI_of hf)
    · have hf := ifn hf c_71
      refine g_aload_n d_Mod_slot_74 rfl ?_
      refine g_iload d_Mod_slot_75 rfl ?_
      refine g_iload d_Mod_slot_77 rfl ?_
      obtain ⟨v_79, h_79, e_79, hf⟩ := cl_s hf
      refine g_callV (mz := mi_Mod_isLane) (e_Mod_isLane e_79) cw_Mod_slot_Mod_isLane lm_Mod_208 wI_Mod_isLane wV_Mod_isLane (ci := 11) k_68 (by decide) rfl rfl d_Mod_slot_79 rfl rfl (by first | exact Nat.le_of_ble_eq_true rfl | simp [cat_rf, Value.category]) (fun r1 h1 hp hro => ?_)
      obtain ⟨rfl, rfl⟩ := hp
      dsimp only [Option.toList_some, Option.toList_none, List.cons_append, List.nil_append]
      refine g_if_ne 88 d_Mod_slot_82 (by decide) (fun c_82 => ?_) (fun c_82 => ?_)
      · have hf := ifn hf c_82
        refine g_iload d_Mod_slot_88 rfl ?_
        refine g_aload_n d_Mod_slot_90 rfl ?_
        obtain ⟨k_91, hf⟩ := gd_s hf
        obtain ⟨a_91_2, e_91_2, k_91_2, hf⟩ := rq_s hf
        refine fgs_Mod_isEnded lf_Mod_76 d_Mod_slot_91 k_91 e_91_2 ?_
        refine g_iload d_Mod_slot_94 rfl ?_
        refine g_iload d_Mod_slot_96 rfl ?_
        obtain ⟨v_98, h_98, e_98, hf⟩ := cl_s hf
        refine g_callS (mz := mi_Mod_thread) (e_Mod_thread e_98) cw_Mod_slot_Mod_thread lm_Mod_211 wS_Mod_thread d_Mod_slot_98 rfl rfl (by first | exact Nat.le_of_ble_eq_true rfl | simp [cat_rf, Value.category]) (fun r1 h1 hp hro => ?_)
        obtain ⟨rfl, rfl⟩ := hp
        dsimp only [Option.toList_some, Option.toList_none, List.cons_append, List.nil_append]
        obtain ⟨k_101, hf⟩ := gd_s hf
        obtain ⟨i_101_2, hf⟩ := ix_s hf
        refine g_zald k_101 i_101_2 d_Mod_slot_101 ?_
        refine g_if_eq 109 d_Mod_slot_102 (by decide) (fun c_102 => ?_) (fun c_102 => ?_)
        · have hf := ifp hf c_102
          refine g_iconst 0 d_Mod_slot_109 (by decide) ?_
          refine Go.locals [0, 1, 2, 4, 5] rfl ?_
          have key := e_Mod_slot_110 hw (G := G) (h0 := h0) (fun _ _ _ _ _ _ _ q => ih _ _ _ _ _ _ _ q) hf
          exact key
        · have hf := ifn hf c_102
          refine g_iconst 1 d_Mod_slot_105 (by decide) ?_
          refine g_goto 110 d_Mod_slot_106 (by decide) ?_
          refine Go.locals [0, 1, 2, 4, 5] rfl ?_
          have key := e_Mod_slot_110 hw (G := G) (h0 := h0) (fun _ _ _ _ _ _ _ q => ih _ _ _ _ _ _ _ q) hf
          exact key
      · have hf := ifp hf c_82
        refine g_goto 138 d_Mod_slot_85 (by decide) ?_
        refine g_iinc (_ + 1) d_Mod_slot_138 rfl (by rfl) (by decide) ?_
        show Go _ _ _ _ _ _ [(0, _), (3, _), (4, _), (5, _), (6, _), (7, _)] _
        refine g_goto 65 d_Mod_slot_141 (by decide) ?_
        exact ih _ _ _ _ _ _ _ hf
def f_Mod_slot (F : Nat) (x0 : Nat) (x1 : Int32) (x2 : Int32) (x3 : Int32) (h : Hp) : Option (Int32 × Hp) := gd (hK h x0 = 12) <| pw (sI h 704 x0 (0 : Int32)) fun h_2_2 => cl (f_Mod_isSlot F x0 x1 x2 h_2_2) fun v_8 h_8 => if v_8 = 0 then (some ((-1 : Int32), h_8)) else (if x3 < 0 then (some ((-1 : Int32), h_8)) else (if x3 ≤ (24 : Int32) then (gd (hK h_8 x0 = 12) <| rq h_8 (hR h_8 735 x0) 100 fun a_35_2 => ix (((16 : Int32) * x1) + x2) (hN h_8 a_35_2) fun j_40 => if (hA h_8 a_35_2 j_40) = (-1 : Int32) then (if (2 : Int32) ≤ x3 then (some ((0 : Int32), h_8)) else (some ((-1 : Int32), h_8))) else (b_Mod_slot_65 F F x0 x3 (((16 : Int32) * x1) + x2) (0 : Int32) (0 : Int32) (0 : Int32) h_8)) else (some ((-1 : Int32), h_8))))
set_option maxRecDepth 100000 in
set_option maxHeartbeats 4000000 in
theorem e_Mod_slot {G : Gl} (hw : gF G) {F : Nat} {r : Int32} {h' : Hp} {x0 : Nat} {x1 : Int32} {x2 : Int32} {x3 : Int32} {h : Hp} (hf : f_Mod_slot F x0 x1 x2 x3 h = some (r, h')) : Ex G mi_Mod_slot [.ref x0, .int x1, .int x2, .int x3] h (pI r h') := by
  unfold f_Mod_slot at hf
  refine Ex.of nmI (by decide) (Nat.le_of_ble_eq_true rfl) ?_
  show Go G mi_Mod_slot h _ h 0 [(0, .ref x0), (1, .int x1), (2, .int x2), (3, .int x3)] []
  refine g_aload_n d_Mod_slot_0 rfl ?_
  refine g_iconst 0 d_Mod_slot_1 (by decide) ?_
  obtain ⟨k_2, hf⟩ := gd_s hf
  refine fp_Mod_thrown hw lf_Mod_120 d_Mod_slot_2 k_2 ?_
  have hf := pw_b hf
  refine g_aload_n d_Mod_slot_5 rfl ?_
  refine g_iload_n d_Mod_slot_6 rfl ?_
  refine g_iload_n d_Mod_slot_7 rfl ?_
  obtain ⟨v_8, h_8, e_8, hf⟩ := cl_s hf
  refine g_callV (mz := mi_Mod_isSlot) (e_Mod_isSlot e_8) cw_Mod_slot_Mod_isSlot lm_Mod_377 wI_Mod_isSlot wV_Mod_isSlot (ci := 11) (kksI k_2) (by decide) rfl rfl d_Mod_slot_8 rfl rfl (by first | exact Nat.le_of_ble_eq_true rfl | simp [cat_rf, Value.category]) (fun r1 h1 hp hro => ?_)
  obtain ⟨rfl, rfl⟩ := hp
  dsimp only [Option.toList_some, Option.toList_none, List.cons_append, List.nil_append]
  refine g_if_eq 24 d_Mod_slot_11 (by decide) (fun c_11 => ?_) (fun c_11 => ?_)
  · have hf := ifp hf c_11
    refine g_iconst (-1) d_Mod_slot_24 (by decide) ?_
    exact Go.ret (some _) (rOk_i _) rfl d_Mod_slot_25 (pI_of hf)
  · have hf := ifn hf c_11
    refine g_iload_n d_Mod_slot_14 rfl ?_
    refine g_if_lt 24 d_Mod_slot_15 (by decide) (fun c_15 => ?_) (fun c_15 => ?_)
    · have hf := ifp hf c_15
      refine g_iconst (-1) d_Mod_slot_24 (by decide) ?_
      exact Go.ret (some _) (rOk_i _) rfl d_Mod_slot_25 (pI_of hf)
    · have hf := ifn hf c_15
      refine g_iload_n d_Mod_slot_18 rfl ?_
      refine g_bipush (24) d_Mod_slot_19 (by decide) ?_
      refine g_icmp_le 26 d_Mod_slot_21 (by decide) (fun c_21 => ?_) (fun c_21 => ?_)
      · have hf := ifp hf c_21
        refine g_bipush (16) d_Mod_slot_26 (by decide) ?_
        refine g_iload_n d_Mod_slot_28 rfl ?_
        refine g_imul d_Mod_slot_29 ?_
        refine g_iload_n d_Mod_slot_30 rfl ?_
        refine g_iadd d_Mod_slot_31 ?_
        refine g_istore d_Mod_slot_32 (by decide) ?_
        show Go _ _ _ _ _ _ [(0, _), (1, _), (2, _), (3, _), (4, _)] _
        refine g_aload_n d_Mod_slot_34 rfl ?_
        obtain ⟨k_35, hf⟩ := gd_s hf
        obtain ⟨a_35_2, e_35_2, k_35_2, hf⟩ := rq_s hf
        refine fgs_Mod_slotBlock lf_Mod_54 d_Mod_slot_35 k_35 e_35_2 ?_
        refine g_iload d_Mod_slot_38 rfl ?_
        obtain ⟨i_40, hf⟩ := ix_s hf
        refine g_iald k_35_2 i_40 d_Mod_slot_40 ?_
        refine g_iconst (-1) d_Mod_slot_41 (by decide) ?_
        refine g_icmp_ne 56 d_Mod_slot_42 (by decide) (fun c_42 => ?_) (fun c_42 => ?_)
        · have hf := ifn hf c_42
          refine g_iconst 0 d_Mod_slot_56 (by decide) ?_
          refine g_istore d_Mod_slot_57 (by decide) ?_
          show Go _ _ _ _ _ _ [(0, _), (1, _), (2, _), (3, _), (4, _), (5, _)] _
          refine g_iconst 0 d_Mod_slot_59 (by decide) ?_
          refine g_istore d_Mod_slot_60 (by decide) ?_
          show Go _ _ _ _ _ _ [(0, _), (1, _), (2, _), (3, _), (4, _), (5, _), (6, _)] _
          refine g_iconst 0 d_Mod_slot_62 (by decide) ?_
          refine g_istore d_Mod_slot_63 (by decide) ?_
          show Go _ _ _ _ _ _ [(0, _), (1, _), (2, _), (3, _), (4, _), (5, _), (6, _), (7, _)] _
          refine Go.locals [0, 3, 4, 5, 6, 7] rfl ?_
          have key := e_Mod_slot_65 hw (G := G) (h0 := h)  F _ _ _ _ _ _ _ hf
          exact key
        · have hf := ifp hf c_42
          refine g_iload_n d_Mod_slot_45 rfl ?_
          refine g_iconst 2 d_Mod_slot_46 (by decide) ?_
          refine g_icmp_ge 54 d_Mod_slot_47 (by decide) (fun c_47 => ?_) (fun c_47 => ?_)
          · have hf := ifp hf c_47
            refine g_iconst 0 d_Mod_slot_54 (by decide) ?_
            exact Go.ret (some _) (rOk_i _) rfl d_Mod_slot_55 (pI_of hf)
          · have hf := ifn hf c_47
            refine g_iconst (-1) d_Mod_slot_50 (by decide) ?_
            refine g_goto 55 d_Mod_slot_51 (by decide) ?_
            exact Go.ret (some _) (rOk_i _) rfl d_Mod_slot_55 (pI_of hf)
      · have hf := ifn hf c_21
        refine g_iconst (-1) d_Mod_slot_24 (by decide) ?_
        exact Go.ret (some _) (rOk_i _) rfl d_Mod_slot_25 (pI_of hf)
abbrev mi_Warp_hasThread : MI := (⟨"WarpMill$Warp", "hasThread", "(I)Z"⟩, prog_10_method_21_code, 2, some .boolean, 1, 21)
def it_Warp_hasThread_0 : List (Nat × ClassFile.Instr × Nat) := [(0, .iload_n 1, 1), (1, .ifCond .lt (26), 3), (4, .iload_n 1, 1), (5, .aload_n 0, 1), (6, .getfield 35, 3), (9, .if_icmp .ge (18), 3), (12, .aload_n 0, 1), (13, .getfield 49, 3), (16, .iload_n 1, 1), (17, .invokestatic 73, 3), (20, .ifCond .eq (7), 3), (23, .iconst 1, 1), (24, .goto (4), 3), (27, .iconst 0, 1), (28, .ireturn, 1)]
theorem id_Warp_hasThread_0 : ∀ q ∈ it_Warp_hasThread_0, decode prog_10_method_21_code q.1 = .ok q.2 := by decide +kernel
theorem d_Warp_hasThread_0 : decode prog_10_method_21_code 0 = .ok (.iload_n 1, 1) := id_Warp_hasThread_0 (0, .iload_n 1, 1) (List.mem_of_getElem? (i := 0) rfl)
theorem d_Warp_hasThread_1 : decode prog_10_method_21_code 1 = .ok (.ifCond .lt (26), 3) := id_Warp_hasThread_0 (1, .ifCond .lt (26), 3) (List.mem_of_getElem? (i := 1) rfl)
theorem d_Warp_hasThread_4 : decode prog_10_method_21_code 4 = .ok (.iload_n 1, 1) := id_Warp_hasThread_0 (4, .iload_n 1, 1) (List.mem_of_getElem? (i := 2) rfl)
theorem d_Warp_hasThread_5 : decode prog_10_method_21_code 5 = .ok (.aload_n 0, 1) := id_Warp_hasThread_0 (5, .aload_n 0, 1) (List.mem_of_getElem? (i := 3) rfl)
theorem d_Warp_hasThread_6 : decode prog_10_method_21_code 6 = .ok (.getfield 35, 3) := id_Warp_hasThread_0 (6, .getfield 35, 3) (List.mem_of_getElem? (i := 4) rfl)
theorem d_Warp_hasThread_9 : decode prog_10_method_21_code 9 = .ok (.if_icmp .ge (18), 3) := id_Warp_hasThread_0 (9, .if_icmp .ge (18), 3) (List.mem_of_getElem? (i := 5) rfl)
theorem d_Warp_hasThread_12 : decode prog_10_method_21_code 12 = .ok (.aload_n 0, 1) := id_Warp_hasThread_0 (12, .aload_n 0, 1) (List.mem_of_getElem? (i := 6) rfl)
theorem d_Warp_hasThread_13 : decode prog_10_method_21_code 13 = .ok (.getfield 49, 3) := id_Warp_hasThread_0 (13, .getfield 49, 3) (List.mem_of_getElem? (i := 7) rfl)
theorem d_Warp_hasThread_16 : decode prog_10_method_21_code 16 = .ok (.iload_n 1, 1) := id_Warp_hasThread_0 (16, .iload_n 1, 1) (List.mem_of_getElem? (i := 8) rfl)
theorem d_Warp_hasThread_17 : decode prog_10_method_21_code 17 = .ok (.invokestatic 73, 3) := id_Warp_hasThread_0 (17, .invokestatic 73, 3) (List.mem_of_getElem? (i := 9) rfl)
theorem d_Warp_hasThread_20 : decode prog_10_method_21_code 20 = .ok (.ifCond .eq (7), 3) := id_Warp_hasThread_0 (20, .ifCond .eq (7), 3) (List.mem_of_getElem? (i := 10) rfl)
theorem d_Warp_hasThread_23 : decode prog_10_method_21_code 23 = .ok (.iconst 1, 1) := id_Warp_hasThread_0 (23, .iconst 1, 1) (List.mem_of_getElem? (i := 11) rfl)
theorem d_Warp_hasThread_24 : decode prog_10_method_21_code 24 = .ok (.goto (4), 3) := id_Warp_hasThread_0 (24, .goto (4), 3) (List.mem_of_getElem? (i := 12) rfl)
theorem d_Warp_hasThread_27 : decode prog_10_method_21_code 27 = .ok (.iconst 0, 1) := id_Warp_hasThread_0 (27, .iconst 0, 1) (List.mem_of_getElem? (i := 13) rfl)
theorem d_Warp_hasThread_28 : decode prog_10_method_21_code 28 = .ok (.ireturn, 1) := id_Warp_hasThread_0 (28, .ireturn, 1) (List.mem_of_getElem? (i := 14) rfl)
theorem wC_Warp_hasThread : Cond.code ⟨"WarpMill$Warp", "hasThread", "(I)Z"⟩ prog_10_method_21_code 2 (some .boolean) ∈ lw_tb := mem_tb 1028 (by decide +kernel) rfl
theorem cw_Warp_hasThread_WM_in : cW mi_Warp_hasThread mi_WM_in 2 := ⟨wC_WM_in, wi_WM, ⟨by decide, by decide, by decide +kernel⟩, by decide, by decide⟩
def f_Warp_hasThread (F : Nat) (x0 : Nat) (x1 : Int32) (h : Hp) : Option (Int32 × Hp) := if x1 < 0 then (some ((0 : Int32), h)) else (gd (hK h x0 = 9) <| if (hI h 514 x0) ≤ x1 then (some ((0 : Int32), h)) else (cl (f_WM_in F (hI h 515 x0) x1 h) fun v_17 h_17 => if v_17 = 0 then (some ((0 : Int32), h_17)) else (some ((1 : Int32), h_17))))
set_option maxRecDepth 100000 in
set_option maxHeartbeats 4000000 in
theorem e_Warp_hasThread {G : Gl} {F : Nat} {r : Int32} {h' : Hp} {x0 : Nat} {x1 : Int32} {h : Hp} (hf : f_Warp_hasThread F x0 x1 h = some (r, h')) : Ex G mi_Warp_hasThread [.ref x0, .int x1] h (pI r h') := by
  unfold f_Warp_hasThread at hf
  refine Ex.of nmI (by decide) (Nat.le_of_ble_eq_true rfl) ?_
  show Go G mi_Warp_hasThread h _ h 0 [(0, .ref x0), (1, .int x1)] []
  refine g_iload_n d_Warp_hasThread_0 rfl ?_
  refine g_if_lt 27 d_Warp_hasThread_1 (by decide) (fun c_1 => ?_) (fun c_1 => ?_)
  · have hf := ifp hf c_1
    refine g_iconst 0 d_Warp_hasThread_27 (by decide) ?_
    exact Go.ret (some _) rOk_b0 rfl d_Warp_hasThread_28 (pI_of hf)
  · have hf := ifn hf c_1
    refine g_iload_n d_Warp_hasThread_4 rfl ?_
    refine g_aload_n d_Warp_hasThread_5 rfl ?_
    obtain ⟨k_6, hf⟩ := gd_s hf
    refine fg_Warp_lanes lf_Warp_35 d_Warp_hasThread_6 k_6 ?_
    refine g_icmp_ge 27 d_Warp_hasThread_9 (by decide) (fun c_9 => ?_) (fun c_9 => ?_)
    · have hf := ifp hf c_9
      refine g_iconst 0 d_Warp_hasThread_27 (by decide) ?_
      exact Go.ret (some _) rOk_b0 rfl d_Warp_hasThread_28 (pI_of hf)
    · have hf := ifn hf c_9
      refine g_aload_n d_Warp_hasThread_12 rfl ?_
      refine fg_Warp_present lf_Warp_49 d_Warp_hasThread_13 k_6 ?_
      refine g_iload_n d_Warp_hasThread_16 rfl ?_
      obtain ⟨v_17, h_17, e_17, hf⟩ := cl_s hf
      refine g_callSN (mz := mi_WM_in) (e_WM_in e_17) cw_Warp_hasThread_WM_in (host := "WarpMill") (by decide +kernel) wS_WM_in d_Warp_hasThread_17 rfl rfl (by first | exact Nat.le_of_ble_eq_true rfl | simp [cat_rf, Value.category]) (fun r1 h1 hp hro => ?_)
      obtain ⟨rfl, rfl⟩ := hp
      dsimp only [Option.toList_some, Option.toList_none, List.cons_append, List.nil_append]
      refine g_if_eq 27 d_Warp_hasThread_20 (by decide) (fun c_20 => ?_) (fun c_20 => ?_)
      · have hf := ifp hf c_20
        refine g_iconst 0 d_Warp_hasThread_27 (by decide) ?_
        exact Go.ret (some _) rOk_b0 rfl d_Warp_hasThread_28 (pI_of hf)
      · have hf := ifn hf c_20
        refine g_iconst 1 d_Warp_hasThread_23 (by decide) ?_
        refine g_goto 28 d_Warp_hasThread_24 (by decide) ?_
        exact Go.ret (some _) rOk_b1 rfl d_Warp_hasThread_28 (pI_of hf)
abbrev mi_Warp_tellLane : MI := (⟨"WarpMill$Warp", "tellLane", "(II)I"⟩, prog_10_method_23_code, 3, some .int, 1, 22)
def it_Warp_tellLane_0 : List (Nat × ClassFile.Instr × Nat) := [(0, .iload_n 2, 1), (1, .bipush (16), 2), (3, .if_icmp .ge (10), 3), (6, .aload_n 0, 1), (7, .iload_n 1, 1), (8, .iload_n 2, 1), (9, .invokevirtual 109, 3), (12, .ireturn, 1), (13, .iload_n 2, 1), (14, .bipush (16), 2), (16, .if_icmp .ne (10), 3), (19, .aload_n 0, 1), (20, .getfield 21, 3), (23, .iload_n 1, 1), (24, .iaload, 1), (25, .ireturn, 1), (26, .aload_n 0, 1), (27, .getfield 9, 3), (30, .iload_n 2, 1), (31, .bipush (17), 2), (33, .isub, 1), (34, .iconst 3, 1), (35, .iand, 1), (36, .iaload, 1)]
theorem id_Warp_tellLane_0 : ∀ q ∈ it_Warp_tellLane_0, decode prog_10_method_23_code q.1 = .ok q.2 := by decide +kernel
theorem d_Warp_tellLane_0 : decode prog_10_method_23_code 0 = .ok (.iload_n 2, 1) := id_Warp_tellLane_0 (0, .iload_n 2, 1) (List.mem_of_getElem? (i := 0) rfl)
theorem d_Warp_tellLane_1 : decode prog_10_method_23_code 1 = .ok (.bipush (16), 2) := id_Warp_tellLane_0 (1, .bipush (16), 2) (List.mem_of_getElem? (i := 1) rfl)
theorem d_Warp_tellLane_3 : decode prog_10_method_23_code 3 = .ok (.if_icmp .ge (10), 3) := id_Warp_tellLane_0 (3, .if_icmp .ge (10), 3) (List.mem_of_getElem? (i := 2) rfl)
theorem d_Warp_tellLane_6 : decode prog_10_method_23_code 6 = .ok (.aload_n 0, 1) := id_Warp_tellLane_0 (6, .aload_n 0, 1) (List.mem_of_getElem? (i := 3) rfl)
theorem d_Warp_tellLane_7 : decode prog_10_method_23_code 7 = .ok (.iload_n 1, 1) := id_Warp_tellLane_0 (7, .iload_n 1, 1) (List.mem_of_getElem? (i := 4) rfl)
theorem d_Warp_tellLane_8 : decode prog_10_method_23_code 8 = .ok (.iload_n 2, 1) := id_Warp_tellLane_0 (8, .iload_n 2, 1) (List.mem_of_getElem? (i := 5) rfl)
theorem d_Warp_tellLane_9 : decode prog_10_method_23_code 9 = .ok (.invokevirtual 109, 3) := id_Warp_tellLane_0 (9, .invokevirtual 109, 3) (List.mem_of_getElem? (i := 6) rfl)
theorem d_Warp_tellLane_12 : decode prog_10_method_23_code 12 = .ok (.ireturn, 1) := id_Warp_tellLane_0 (12, .ireturn, 1) (List.mem_of_getElem? (i := 7) rfl)
theorem d_Warp_tellLane_13 : decode prog_10_method_23_code 13 = .ok (.iload_n 2, 1) := id_Warp_tellLane_0 (13, .iload_n 2, 1) (List.mem_of_getElem? (i := 8) rfl)
theorem d_Warp_tellLane_14 : decode prog_10_method_23_code 14 = .ok (.bipush (16), 2) := id_Warp_tellLane_0 (14, .bipush (16), 2) (List.mem_of_getElem? (i := 9) rfl)
theorem d_Warp_tellLane_16 : decode prog_10_method_23_code 16 = .ok (.if_icmp .ne (10), 3) := id_Warp_tellLane_0 (16, .if_icmp .ne (10), 3) (List.mem_of_getElem? (i := 10) rfl)
theorem d_Warp_tellLane_19 : decode prog_10_method_23_code 19 = .ok (.aload_n 0, 1) := id_Warp_tellLane_0 (19, .aload_n 0, 1) (List.mem_of_getElem? (i := 11) rfl)
theorem d_Warp_tellLane_20 : decode prog_10_method_23_code 20 = .ok (.getfield 21, 3) := id_Warp_tellLane_0 (20, .getfield 21, 3) (List.mem_of_getElem? (i := 12) rfl)
theorem d_Warp_tellLane_23 : decode prog_10_method_23_code 23 = .ok (.iload_n 1, 1) := id_Warp_tellLane_0 (23, .iload_n 1, 1) (List.mem_of_getElem? (i := 13) rfl)
theorem d_Warp_tellLane_24 : decode prog_10_method_23_code 24 = .ok (.iaload, 1) := id_Warp_tellLane_0 (24, .iaload, 1) (List.mem_of_getElem? (i := 14) rfl)
theorem d_Warp_tellLane_25 : decode prog_10_method_23_code 25 = .ok (.ireturn, 1) := id_Warp_tellLane_0 (25, .ireturn, 1) (List.mem_of_getElem? (i := 15) rfl)
theorem d_Warp_tellLane_26 : decode prog_10_method_23_code 26 = .ok (.aload_n 0, 1) := id_Warp_tellLane_0 (26, .aload_n 0, 1) (List.mem_of_getElem? (i := 16) rfl)
theorem d_Warp_tellLane_27 : decode prog_10_method_23_code 27 = .ok (.getfield 9, 3) := id_Warp_tellLane_0 (27, .getfield 9, 3) (List.mem_of_getElem? (i := 17) rfl)
theorem d_Warp_tellLane_30 : decode prog_10_method_23_code 30 = .ok (.iload_n 2, 1) := id_Warp_tellLane_0 (30, .iload_n 2, 1) (List.mem_of_getElem? (i := 18) rfl)
theorem d_Warp_tellLane_31 : decode prog_10_method_23_code 31 = .ok (.bipush (17), 2) := id_Warp_tellLane_0 (31, .bipush (17), 2) (List.mem_of_getElem? (i := 19) rfl)
theorem d_Warp_tellLane_33 : decode prog_10_method_23_code 33 = .ok (.isub, 1) := id_Warp_tellLane_0 (33, .isub, 1) (List.mem_of_getElem? (i := 20) rfl)
theorem d_Warp_tellLane_34 : decode prog_10_method_23_code 34 = .ok (.iconst 3, 1) := id_Warp_tellLane_0 (34, .iconst 3, 1) (List.mem_of_getElem? (i := 21) rfl)
theorem d_Warp_tellLane_35 : decode prog_10_method_23_code 35 = .ok (.iand, 1) := id_Warp_tellLane_0 (35, .iand, 1) (List.mem_of_getElem? (i := 22) rfl)
theorem d_Warp_tellLane_36 : decode prog_10_method_23_code 36 = .ok (.iaload, 1) := id_Warp_tellLane_0 (36, .iaload, 1) (List.mem_of_getElem? (i := 23) rfl)
def it_Warp_tellLane_1 : List (Nat × ClassFile.Instr × Nat) := [(37, .iload_n 1, 1), (38, .invokestatic 73, 3), (41, .ifCond .eq (7), 3), (44, .iconst 1, 1), (45, .goto (4), 3), (48, .iconst 0, 1), (49, .ireturn, 1)]
theorem id_Warp_tellLane_1 : ∀ q ∈ it_Warp_tellLane_1, decode prog_10_method_23_code q.1 = .ok q.2 := by decide +kernel
theorem d_Warp_tellLane_37 : decode prog_10_method_23_code 37 = .ok (.iload_n 1, 1) := id_Warp_tellLane_1 (37, .iload_n 1, 1) (List.mem_of_getElem? (i := 0) rfl)
theorem d_Warp_tellLane_38 : decode prog_10_method_23_code 38 = .ok (.invokestatic 73, 3) := id_Warp_tellLane_1 (38, .invokestatic 73, 3) (List.mem_of_getElem? (i := 1) rfl)
theorem d_Warp_tellLane_41 : decode prog_10_method_23_code 41 = .ok (.ifCond .eq (7), 3) := id_Warp_tellLane_1 (41, .ifCond .eq (7), 3) (List.mem_of_getElem? (i := 2) rfl)
theorem d_Warp_tellLane_44 : decode prog_10_method_23_code 44 = .ok (.iconst 1, 1) := id_Warp_tellLane_1 (44, .iconst 1, 1) (List.mem_of_getElem? (i := 3) rfl)
theorem d_Warp_tellLane_45 : decode prog_10_method_23_code 45 = .ok (.goto (4), 3) := id_Warp_tellLane_1 (45, .goto (4), 3) (List.mem_of_getElem? (i := 4) rfl)
theorem d_Warp_tellLane_48 : decode prog_10_method_23_code 48 = .ok (.iconst 0, 1) := id_Warp_tellLane_1 (48, .iconst 0, 1) (List.mem_of_getElem? (i := 5) rfl)
theorem d_Warp_tellLane_49 : decode prog_10_method_23_code 49 = .ok (.ireturn, 1) := id_Warp_tellLane_1 (49, .ireturn, 1) (List.mem_of_getElem? (i := 6) rfl)
theorem wC_Warp_tellLane : Cond.code ⟨"WarpMill$Warp", "tellLane", "(II)I"⟩ prog_10_method_23_code 3 (some .int) ∈ lw_tb := mem_tb 1033 (by decide +kernel) rfl
theorem cw_Warp_tellLane_Warp_register : cW mi_Warp_tellLane mi_Warp_register 2 := ⟨wC_Warp_register, wi_Warp, ⟨by decide, by decide, by decide +kernel⟩, by decide, by decide⟩
theorem cw_Warp_tellLane_WM_in : cW mi_Warp_tellLane mi_WM_in 2 := ⟨wC_WM_in, wi_WM, ⟨by decide, by decide, by decide +kernel⟩, by decide, by decide⟩
def f_Warp_tellLane (F : Nat) (x0 : Nat) (x1 : Int32) (x2 : Int32) (h : Hp) : Option (Int32 × Hp) := if (16 : Int32) ≤ x2 then (if x2 = (16 : Int32) then (gd (hK h x0 = 9) <| rq h (hR h 524 x0) 100 fun a_20_2 => ix x1 (hN h a_20_2) fun j_24 => some ((hA h a_20_2 j_24), h)) else (gd (hK h x0 = 9) <| rq h (hR h 526 x0) 100 fun a_27_2 => ix ((x2 - (17 : Int32)) &&& (3 : Int32)) (hN h a_27_2) fun j_36 => cl (f_WM_in F (hA h a_27_2 j_36) x1 h) fun v_38 h_38 => if v_38 = 0 then (some ((0 : Int32), h_38)) else (some ((1 : Int32), h_38)))) else (gd (hK h x0 = 9) <| cl (f_Warp_register F x0 x1 x2 h) fun v_9_2 h_9_2 => some (v_9_2, h_9_2))
set_option maxRecDepth 100000 in
set_option maxHeartbeats 4000000 in
theorem e_Warp_tellLane {G : Gl} {F : Nat} {r : Int32} {h' : Hp} {x0 : Nat} {x1 : Int32} {x2 : Int32} {h : Hp} (hf : f_Warp_tellLane F x0 x1 x2 h = some (r, h')) : Ex G mi_Warp_tellLane [.ref x0, .int x1, .int x2] h (pI r h') := by
  unfold f_Warp_tellLane at hf
  refine Ex.of nmI (by decide) (Nat.le_of_ble_eq_true rfl) ?_
  show Go G mi_Warp_tellLane h _ h 0 [(0, .ref x0), (1, .int x1), (2, .int x2)] []
  refine g_iload_n d_Warp_tellLane_0 rfl ?_
  refine g_bipush (16) d_Warp_tellLane_1 (by decide) ?_
  refine g_icmp_ge 13 d_Warp_tellLane_3 (by decide) (fun c_3 => ?_) (fun c_3 => ?_)
  · have hf := ifp hf c_3
    refine g_iload_n d_Warp_tellLane_13 rfl ?_
    refine g_bipush (16) d_Warp_tellLane_14 (by decide) ?_
    refine g_icmp_ne 26 d_Warp_tellLane_16 (by decide) (fun c_16 => ?_) (fun c_16 => ?_)
    · have hf := ifn hf c_16
      refine g_aload_n d_Warp_tellLane_26 rfl ?_
      obtain ⟨k_27, hf⟩ := gd_s hf
      obtain ⟨a_27_2, e_27_2, k_27_2, hf⟩ := rq_s hf
      refine fgs_Warp_predicates lf_Warp_9 d_Warp_tellLane_27 k_27 e_27_2 ?_
      refine g_iload_n d_Warp_tellLane_30 rfl ?_
      refine g_bipush (17) d_Warp_tellLane_31 (by decide) ?_
      refine g_isub d_Warp_tellLane_33 ?_
      refine g_iconst 3 d_Warp_tellLane_34 (by decide) ?_
      refine g_iand d_Warp_tellLane_35 ?_
      obtain ⟨i_36, hf⟩ := ix_s hf
      refine g_iald k_27_2 i_36 d_Warp_tellLane_36 ?_
      refine g_iload_n d_Warp_tellLane_37 rfl ?_
      obtain ⟨v_38, h_38, e_38, hf⟩ := cl_s hf
      refine g_callSN (mz := mi_WM_in) (e_WM_in e_38) cw_Warp_tellLane_WM_in (host := "WarpMill") (by decide +kernel) wS_WM_in d_Warp_tellLane_38 rfl rfl (by first | exact Nat.le_of_ble_eq_true rfl | simp [cat_rf, Value.category]) (fun r1 h1 hp hro => ?_)
      obtain ⟨rfl, rfl⟩ := hp
      dsimp only [Option.toList_some, Option.toList_none, List.cons_append, List.nil_append]
      refine g_if_eq 48 d_Warp_tellLane_41 (by decide) (fun c_41 => ?_) (fun c_41 => ?_)
      · have hf := ifp hf c_41
        refine g_iconst 0 d_Warp_tellLane_48 (by decide) ?_
        exact Go.ret (some _) (rOk_i _) rfl d_Warp_tellLane_49 (pI_of hf)
      · have hf := ifn hf c_41
        refine g_iconst 1 d_Warp_tellLane_44 (by decide) ?_
        refine g_goto 49 d_Warp_tellLane_45 (by decide) ?_
        exact Go.ret (some _) (rOk_i _) rfl d_Warp_tellLane_49 (pI_of hf)
    · have hf := ifp hf c_16
      refine g_aload_n d_Warp_tellLane_19 rfl ?_
      obtain ⟨k_20, hf⟩ := gd_s hf
      obtain ⟨a_20_2, e_20_2, k_20_2, hf⟩ := rq_s hf
      refine fgs_Warp_places lf_Warp_21 d_Warp_tellLane_20 k_20 e_20_2 ?_
      refine g_iload_n d_Warp_tellLane_23 rfl ?_
      obtain ⟨i_24, hf⟩ := ix_s hf
      refine g_iald k_20_2 i_24 d_Warp_tellLane_24 ?_
      exact Go.ret (some _) (rOk_i _) rfl d_Warp_tellLane_25 (pI_of hf)
  · have hf := ifn hf c_3
    refine g_aload_n d_Warp_tellLane_6 rfl ?_
    refine g_iload_n d_Warp_tellLane_7 rfl ?_
    refine g_iload_n d_Warp_tellLane_8 rfl ?_
    obtain ⟨k_9, hf⟩ := gd_s hf
    obtain ⟨v_9_2, h_9_2, e_9_2, hf⟩ := cl_s hf
    refine g_callV (mz := mi_Warp_register) (e_Warp_register e_9_2) cw_Warp_tellLane_Warp_register lm_Warp_109 wI_Warp_register wV_Warp_register (ci := 8) k_9 (by decide) rfl rfl d_Warp_tellLane_9 rfl rfl (by first | exact Nat.le_of_ble_eq_true rfl | simp [cat_rf, Value.category]) (fun r1 h1 hp hro => ?_)
    obtain ⟨rfl, rfl⟩ := hp
    dsimp only [Option.toList_some, Option.toList_none, List.cons_append, List.nil_append]
    exact Go.ret (some _) (rOk_i _) rfl d_Warp_tellLane_12 (pI_of hf)
abbrev mi_WM_lane : MI := (⟨"WarpMill", "lane", "(IIII)I"⟩, prog_1_method_13_code, 6, some .int, 6, 128)
def it_WM_lane_0 : List (Nat × ClassFile.Instr × Nat) := [(0, .aload_n 0, 1), (1, .iload_n 1, 1), (2, .invokevirtual 148, 3), (5, .ifCond .eq (16), 3), (8, .aload_n 0, 1), (9, .getfield 38, 3), (12, .iload_n 1, 1), (13, .aaload, 1), (14, .iload_n 2, 1), (15, .invokevirtual 158, 3), (18, .goto (4), 3), (21, .aconst_null, 1), (22, .astore 5, 2), (24, .aload 5, 2), (26, .ifnull (24), 3), (29, .aload 5, 2), (31, .iload_n 3, 1), (32, .invokevirtual 165, 3), (35, .ifCond .eq (15), 3), (38, .iload 4, 2), (40, .ifCond .lt (10), 3), (43, .iload 4, 2), (45, .bipush (20), 2), (47, .if_icmp .le (13), 3)]
theorem id_WM_lane_0 : ∀ q ∈ it_WM_lane_0, decode prog_1_method_13_code q.1 = .ok q.2 := by decide +kernel
theorem d_WM_lane_0 : decode prog_1_method_13_code 0 = .ok (.aload_n 0, 1) := id_WM_lane_0 (0, .aload_n 0, 1) (List.mem_of_getElem? (i := 0) rfl)
theorem d_WM_lane_1 : decode prog_1_method_13_code 1 = .ok (.iload_n 1, 1) := id_WM_lane_0 (1, .iload_n 1, 1) (List.mem_of_getElem? (i := 1) rfl)
theorem d_WM_lane_2 : decode prog_1_method_13_code 2 = .ok (.invokevirtual 148, 3) := id_WM_lane_0 (2, .invokevirtual 148, 3) (List.mem_of_getElem? (i := 2) rfl)
theorem d_WM_lane_5 : decode prog_1_method_13_code 5 = .ok (.ifCond .eq (16), 3) := id_WM_lane_0 (5, .ifCond .eq (16), 3) (List.mem_of_getElem? (i := 3) rfl)
theorem d_WM_lane_8 : decode prog_1_method_13_code 8 = .ok (.aload_n 0, 1) := id_WM_lane_0 (8, .aload_n 0, 1) (List.mem_of_getElem? (i := 4) rfl)
theorem d_WM_lane_9 : decode prog_1_method_13_code 9 = .ok (.getfield 38, 3) := id_WM_lane_0 (9, .getfield 38, 3) (List.mem_of_getElem? (i := 5) rfl)
theorem d_WM_lane_12 : decode prog_1_method_13_code 12 = .ok (.iload_n 1, 1) := id_WM_lane_0 (12, .iload_n 1, 1) (List.mem_of_getElem? (i := 6) rfl)
theorem d_WM_lane_13 : decode prog_1_method_13_code 13 = .ok (.aaload, 1) := id_WM_lane_0 (13, .aaload, 1) (List.mem_of_getElem? (i := 7) rfl)
theorem d_WM_lane_14 : decode prog_1_method_13_code 14 = .ok (.iload_n 2, 1) := id_WM_lane_0 (14, .iload_n 2, 1) (List.mem_of_getElem? (i := 8) rfl)
theorem d_WM_lane_15 : decode prog_1_method_13_code 15 = .ok (.invokevirtual 158, 3) := id_WM_lane_0 (15, .invokevirtual 158, 3) (List.mem_of_getElem? (i := 9) rfl)
theorem d_WM_lane_18 : decode prog_1_method_13_code 18 = .ok (.goto (4), 3) := id_WM_lane_0 (18, .goto (4), 3) (List.mem_of_getElem? (i := 10) rfl)
theorem d_WM_lane_21 : decode prog_1_method_13_code 21 = .ok (.aconst_null, 1) := id_WM_lane_0 (21, .aconst_null, 1) (List.mem_of_getElem? (i := 11) rfl)
theorem d_WM_lane_22 : decode prog_1_method_13_code 22 = .ok (.astore 5, 2) := id_WM_lane_0 (22, .astore 5, 2) (List.mem_of_getElem? (i := 12) rfl)
theorem d_WM_lane_24 : decode prog_1_method_13_code 24 = .ok (.aload 5, 2) := id_WM_lane_0 (24, .aload 5, 2) (List.mem_of_getElem? (i := 13) rfl)
theorem d_WM_lane_26 : decode prog_1_method_13_code 26 = .ok (.ifnull (24), 3) := id_WM_lane_0 (26, .ifnull (24), 3) (List.mem_of_getElem? (i := 14) rfl)
theorem d_WM_lane_29 : decode prog_1_method_13_code 29 = .ok (.aload 5, 2) := id_WM_lane_0 (29, .aload 5, 2) (List.mem_of_getElem? (i := 15) rfl)
theorem d_WM_lane_31 : decode prog_1_method_13_code 31 = .ok (.iload_n 3, 1) := id_WM_lane_0 (31, .iload_n 3, 1) (List.mem_of_getElem? (i := 16) rfl)
theorem d_WM_lane_32 : decode prog_1_method_13_code 32 = .ok (.invokevirtual 165, 3) := id_WM_lane_0 (32, .invokevirtual 165, 3) (List.mem_of_getElem? (i := 17) rfl)
theorem d_WM_lane_35 : decode prog_1_method_13_code 35 = .ok (.ifCond .eq (15), 3) := id_WM_lane_0 (35, .ifCond .eq (15), 3) (List.mem_of_getElem? (i := 18) rfl)
theorem d_WM_lane_38 : decode prog_1_method_13_code 38 = .ok (.iload 4, 2) := id_WM_lane_0 (38, .iload 4, 2) (List.mem_of_getElem? (i := 19) rfl)
theorem d_WM_lane_40 : decode prog_1_method_13_code 40 = .ok (.ifCond .lt (10), 3) := id_WM_lane_0 (40, .ifCond .lt (10), 3) (List.mem_of_getElem? (i := 20) rfl)
theorem d_WM_lane_43 : decode prog_1_method_13_code 43 = .ok (.iload 4, 2) := id_WM_lane_0 (43, .iload 4, 2) (List.mem_of_getElem? (i := 21) rfl)
theorem d_WM_lane_45 : decode prog_1_method_13_code 45 = .ok (.bipush (20), 2) := id_WM_lane_0 (45, .bipush (20), 2) (List.mem_of_getElem? (i := 22) rfl)
theorem d_WM_lane_47 : decode prog_1_method_13_code 47 = .ok (.if_icmp .le (13), 3) := id_WM_lane_0 (47, .if_icmp .le (13), 3) (List.mem_of_getElem? (i := 23) rfl)
def it_WM_lane_1 : List (Nat × ClassFile.Instr × Nat) := [(50, .new 129, 3), (53, .dup, 1), (54, .ldc 168, 2), (56, .invokespecial 133, 3), (59, .athrow, 1), (60, .aload 5, 2), (62, .iload_n 3, 1), (63, .iload 4, 2), (65, .invokevirtual 170, 3), (68, .ireturn, 1)]
theorem id_WM_lane_1 : ∀ q ∈ it_WM_lane_1, decode prog_1_method_13_code q.1 = .ok q.2 := by decide +kernel
theorem d_WM_lane_50 : decode prog_1_method_13_code 50 = .ok (.new 129, 3) := id_WM_lane_1 (50, .new 129, 3) (List.mem_of_getElem? (i := 0) rfl)
theorem d_WM_lane_53 : decode prog_1_method_13_code 53 = .ok (.dup, 1) := id_WM_lane_1 (53, .dup, 1) (List.mem_of_getElem? (i := 1) rfl)
theorem d_WM_lane_54 : decode prog_1_method_13_code 54 = .ok (.ldc 168, 2) := id_WM_lane_1 (54, .ldc 168, 2) (List.mem_of_getElem? (i := 2) rfl)
theorem d_WM_lane_56 : decode prog_1_method_13_code 56 = .ok (.invokespecial 133, 3) := id_WM_lane_1 (56, .invokespecial 133, 3) (List.mem_of_getElem? (i := 3) rfl)
theorem d_WM_lane_59 : decode prog_1_method_13_code 59 = .ok (.athrow, 1) := id_WM_lane_1 (59, .athrow, 1) (List.mem_of_getElem? (i := 4) rfl)
theorem d_WM_lane_60 : decode prog_1_method_13_code 60 = .ok (.aload 5, 2) := id_WM_lane_1 (60, .aload 5, 2) (List.mem_of_getElem? (i := 5) rfl)
theorem d_WM_lane_62 : decode prog_1_method_13_code 62 = .ok (.iload_n 3, 1) := id_WM_lane_1 (62, .iload_n 3, 1) (List.mem_of_getElem? (i := 6) rfl)
theorem d_WM_lane_63 : decode prog_1_method_13_code 63 = .ok (.iload 4, 2) := id_WM_lane_1 (63, .iload 4, 2) (List.mem_of_getElem? (i := 7) rfl)
theorem d_WM_lane_65 : decode prog_1_method_13_code 65 = .ok (.invokevirtual 170, 3) := id_WM_lane_1 (65, .invokevirtual 170, 3) (List.mem_of_getElem? (i := 8) rfl)
theorem d_WM_lane_68 : decode prog_1_method_13_code 68 = .ok (.ireturn, 1) := id_WM_lane_1 (68, .ireturn, 1) (List.mem_of_getElem? (i := 9) rfl)
theorem wC_WM_lane : Cond.code ⟨"WarpMill", "lane", "(IIII)I"⟩ prog_1_method_13_code 6 (some .int) ∈ lw_tb := mem_tb 1024 (by decide +kernel) rfl
theorem cw_WM_lane_WM_isUnit : cW mi_WM_lane mi_WM_isUnit 1 := ⟨wC_WM_isUnit, wi_WM, ⟨by decide, by decide, by decide +kernel⟩, by decide, by decide⟩
theorem cw_WM_lane_Unit_busy : cW mi_WM_lane mi_Unit_busy 1 := ⟨wC_Unit_busy, wi_Unit, ⟨by decide, by decide, by decide +kernel⟩, by decide, by decide⟩
theorem cw_WM_lane_Warp_hasThread : cW mi_WM_lane mi_Warp_hasThread 1 := ⟨wC_Warp_hasThread, wi_Warp, ⟨by decide, by decide, by decide +kernel⟩, by decide, by decide⟩
theorem cw_WM_lane_Warp_tellLane : cW mi_WM_lane mi_Warp_tellLane 2 := ⟨wC_Warp_tellLane, wi_Warp, ⟨by decide, by decide, by decide +kernel⟩, by decide, by decide⟩
def b_WM_lane_22 (F : Nat) (x3 : Int32) (x4 : Int32) (s0 : Option Nat) (h : Hp) : Option (Int32 × Hp) := nu s0 (none) fun a_26 => (gd (hK h a_26 = 9) <| cl (f_Warp_hasThread F a_26 x3 h) fun v_32_2 h_32_2 => if v_32_2 = 0 then (none) else (if x4 < 0 then (none) else (if x4 ≤ (20 : Int32) then (gd (hK h_32_2 a_26 = 9) <| cl (f_Warp_tellLane F a_26 x3 x4 h_32_2) fun v_65_2 h_65_2 => some (v_65_2, h_65_2)) else (none))))
set_option maxRecDepth 100000 in
set_option maxHeartbeats 4000000 in
theorem e_WM_lane_22 {G : Gl} {h0 : Hp} {F : Nat} {r : Int32} {h' : Hp}   {x3 : Int32} {x4 : Int32} {s0 : Option Nat} {h : Hp} (hf : b_WM_lane_22 F x3 x4 s0 h = some (r, h')) : Go G mi_WM_lane h0 (pI r h') h 22 [(3, .int x3), (4, .int x4)] [va_rf s0] := by
  unfold b_WM_lane_22 at hf
  refine g_astoreq (r := s0) d_WM_lane_22 (by decide) ?_
  show Go _ _ _ _ _ _ [(3, _), (4, _), (5, _)] _
  refine g_aloadq (r := s0) d_WM_lane_24 rfl ?_
  refine g_ifnull (r := s0) 50 d_WM_lane_26 (by decide) (fun c_26 => ?_) (fun a_26 c_26 => ?_)
  · subst c_26
    have hf := nu_n hf
    exact nm_s hf
  · subst c_26
    have hf := nu_s hf
    refine g_aload d_WM_lane_29 rfl ?_
    refine g_iload_n d_WM_lane_31 rfl ?_
    obtain ⟨k_32, hf⟩ := gd_s hf
    obtain ⟨v_32_2, h_32_2, e_32_2, hf⟩ := cl_s hf
    refine g_callV (mz := mi_Warp_hasThread) (e_Warp_hasThread e_32_2) cw_WM_lane_Warp_hasThread lm_WM_165 wI_Warp_hasThread wV_Warp_hasThread (ci := 8) k_32 (by decide) rfl rfl d_WM_lane_32 rfl rfl (by first | exact Nat.le_of_ble_eq_true rfl | simp [cat_rf, Value.category]) (fun r1 h1 hp hro => ?_)
    obtain ⟨rfl, rfl⟩ := hp
    dsimp only [Option.toList_some, Option.toList_none, List.cons_append, List.nil_append]
    refine g_if_eq 50 d_WM_lane_35 (by decide) (fun c_35 => ?_) (fun c_35 => ?_)
    · have hf := ifp hf c_35
      exact nm_s hf
    · have hf := ifn hf c_35
      refine g_iload d_WM_lane_38 rfl ?_
      refine g_if_lt 50 d_WM_lane_40 (by decide) (fun c_40 => ?_) (fun c_40 => ?_)
      · have hf := ifp hf c_40
        exact nm_s hf
      · have hf := ifn hf c_40
        refine g_iload d_WM_lane_43 rfl ?_
        refine g_bipush (20) d_WM_lane_45 (by decide) ?_
        refine g_icmp_le 60 d_WM_lane_47 (by decide) (fun c_47 => ?_) (fun c_47 => ?_)
        · have hf := ifp hf c_47
          refine g_aload d_WM_lane_60 rfl ?_
          refine g_iload_n d_WM_lane_62 rfl ?_
          refine g_iload d_WM_lane_63 rfl ?_
          obtain ⟨k_65, hf⟩ := gd_s hf
          obtain ⟨v_65_2, h_65_2, e_65_2, hf⟩ := cl_s hf
          refine g_callV (mz := mi_Warp_tellLane) (e_Warp_tellLane e_65_2) cw_WM_lane_Warp_tellLane lm_WM_170 wI_Warp_tellLane wV_Warp_tellLane (ci := 8) k_65 (by decide) rfl rfl d_WM_lane_65 rfl rfl (by first | exact Nat.le_of_ble_eq_true rfl | simp [cat_rf, Value.category]) (fun r1 h1 hp hro => ?_)
          obtain ⟨rfl, rfl⟩ := hp
          dsimp only [Option.toList_some, Option.toList_none, List.cons_append, List.nil_append]
          exact Go.ret (some _) (rOk_i _) rfl d_WM_lane_68 (pI_of hf)
        · have hf := ifn hf c_47
          exact nm_s hf
def f_WM_lane (F : Nat) (x0 : Nat) (x1 : Int32) (x2 : Int32) (x3 : Int32) (x4 : Int32) (h : Hp) : Option (Int32 × Hp) := gd (hK h x0 = 1) <| cl (f_WM_isUnit F x0 x1 h) fun v_2_2 h_2_2 => if v_2_2 = 0 then (b_WM_lane_22 F x3 x4 none h_2_2) else (gd (hK h_2_2 x0 = 1) <| rq h_2_2 (hR h_2_2 4 x0) 121 fun a_9_2 => ix x1 (hN h_2_2 a_9_2) fun j_13 => rq h_2_2 (hQ h_2_2 a_9_2 j_13) 7 fun a_13_2 => cl (f_Unit_busy F a_13_2 x2 h_2_2) fun o_15 h_15 => b_WM_lane_22 F x3 x4 o_15 h_15)
set_option maxRecDepth 100000 in
set_option maxHeartbeats 4000000 in
theorem e_WM_lane {G : Gl} {F : Nat} {r : Int32} {h' : Hp} {x0 : Nat} {x1 : Int32} {x2 : Int32} {x3 : Int32} {x4 : Int32} {h : Hp} (hf : f_WM_lane F x0 x1 x2 x3 x4 h = some (r, h')) : Ex G mi_WM_lane [.ref x0, .int x1, .int x2, .int x3, .int x4] h (pI r h') := by
  unfold f_WM_lane at hf
  refine Ex.of nmI (by decide) (Nat.le_of_ble_eq_true rfl) ?_
  show Go G mi_WM_lane h _ h 0 [(0, .ref x0), (1, .int x1), (2, .int x2), (3, .int x3), (4, .int x4)] []
  refine g_aload_n d_WM_lane_0 rfl ?_
  refine g_iload_n d_WM_lane_1 rfl ?_
  obtain ⟨k_2, hf⟩ := gd_s hf
  obtain ⟨v_2_2, h_2_2, e_2_2, hf⟩ := cl_s hf
  refine g_callV (mz := mi_WM_isUnit) (e_WM_isUnit e_2_2) cw_WM_lane_WM_isUnit lm_WM_148 wI_WM_isUnit wV_WM_isUnit (ci := 0) k_2 (by decide) rfl rfl d_WM_lane_2 rfl rfl (by first | exact Nat.le_of_ble_eq_true rfl | simp [cat_rf, Value.category]) (fun r1 h1 hp hro => ?_)
  obtain ⟨rfl, rfl⟩ := hp
  dsimp only [Option.toList_some, Option.toList_none, List.cons_append, List.nil_append]
  refine g_if_eq 21 d_WM_lane_5 (by decide) (fun c_5 => ?_) (fun c_5 => ?_)
  · have hf := ifp hf c_5
    refine g_null d_WM_lane_21 ?_
    refine Go.locals [3, 4] rfl ?_
    have key := e_WM_lane_22 (G := G) (h0 := h)  hf
    exact key
  · have hf := ifn hf c_5
    refine g_aload_n d_WM_lane_8 rfl ?_
    obtain ⟨k_9, hf⟩ := gd_s hf
    obtain ⟨a_9_2, e_9_2, k_9_2, hf⟩ := rq_s hf
    refine fgs_WM_units lf_WM_38 d_WM_lane_9 k_9 e_9_2 ?_
    refine g_iload_n d_WM_lane_12 rfl ?_
    obtain ⟨i_13, hf⟩ := ix_s hf
    refine g_aald k_9_2 (by decide) rfl rfl i_13 d_WM_lane_13 ?_
    obtain ⟨a_13_2, e_13_2, k_13_2, hf⟩ := rq_s hf
    refine Go.vs e_13_2 ?_
    refine g_iload_n d_WM_lane_14 rfl ?_
    obtain ⟨o_15, h_15, e_15, hf⟩ := cl_s hf
    refine g_callV (mz := mi_Unit_busy) (e_Unit_busy e_15) cw_WM_lane_Unit_busy lm_WM_158 wI_Unit_busy wV_Unit_busy (ci := 6) k_13_2 (by decide) rfl rfl d_WM_lane_15 rfl rfl (by first | exact Nat.le_of_ble_eq_true rfl | simp [cat_rf, Value.category]) (fun r1 h1 hp hro => ?_)
    obtain ⟨rfl, rfl⟩ := hp
    dsimp only [Option.toList_some, Option.toList_none, List.cons_append, List.nil_append]
    refine g_goto 22 d_WM_lane_18 (by decide) ?_
    refine Go.locals [3, 4] rfl ?_
    have key := e_WM_lane_22 (G := G) (h0 := h)  hf
    exact key
abbrev mi_Mod_lane : MI := (⟨"WarpMillModel", "lane", "(IIII)I"⟩, prog_13_method_69_code, 8, some .int, 1, 22)
def it_Mod_lane_0 : List (Nat × ClassFile.Instr × Nat) := [(0, .bipush (16), 2), (2, .iload_n 1, 1), (3, .imul, 1), (4, .iload_n 2, 1), (5, .iadd, 1), (6, .istore 5, 2), (8, .aload_n 0, 1), (9, .iload_n 1, 1), (10, .iload_n 2, 1), (11, .invokevirtual 377, 3), (14, .ifCond .eq (44), 3), (17, .aload_n 0, 1), (18, .getfield 54, 3), (21, .iload 5, 2), (23, .iaload, 1), (24, .iconst (-1), 1), (25, .if_icmp .eq (33), 3), (28, .iload_n 3, 1), (29, .ifCond .lt (29), 3), (32, .aload_n 0, 1), (33, .iload 5, 2), (35, .iload_n 3, 1), (36, .invokevirtual 208, 3), (39, .ifCond .eq (19), 3)]
theorem id_Mod_lane_0 : ∀ q ∈ it_Mod_lane_0, decode prog_13_method_69_code q.1 = .ok q.2 := by decide +kernel
theorem d_Mod_lane_0 : decode prog_13_method_69_code 0 = .ok (.bipush (16), 2) := id_Mod_lane_0 (0, .bipush (16), 2) (List.mem_of_getElem? (i := 0) rfl)
theorem d_Mod_lane_2 : decode prog_13_method_69_code 2 = .ok (.iload_n 1, 1) := id_Mod_lane_0 (2, .iload_n 1, 1) (List.mem_of_getElem? (i := 1) rfl)
theorem d_Mod_lane_3 : decode prog_13_method_69_code 3 = .ok (.imul, 1) := id_Mod_lane_0 (3, .imul, 1) (List.mem_of_getElem? (i := 2) rfl)
theorem d_Mod_lane_4 : decode prog_13_method_69_code 4 = .ok (.iload_n 2, 1) := id_Mod_lane_0 (4, .iload_n 2, 1) (List.mem_of_getElem? (i := 3) rfl)
theorem d_Mod_lane_5 : decode prog_13_method_69_code 5 = .ok (.iadd, 1) := id_Mod_lane_0 (5, .iadd, 1) (List.mem_of_getElem? (i := 4) rfl)
theorem d_Mod_lane_6 : decode prog_13_method_69_code 6 = .ok (.istore 5, 2) := id_Mod_lane_0 (6, .istore 5, 2) (List.mem_of_getElem? (i := 5) rfl)
theorem d_Mod_lane_8 : decode prog_13_method_69_code 8 = .ok (.aload_n 0, 1) := id_Mod_lane_0 (8, .aload_n 0, 1) (List.mem_of_getElem? (i := 6) rfl)
theorem d_Mod_lane_9 : decode prog_13_method_69_code 9 = .ok (.iload_n 1, 1) := id_Mod_lane_0 (9, .iload_n 1, 1) (List.mem_of_getElem? (i := 7) rfl)
theorem d_Mod_lane_10 : decode prog_13_method_69_code 10 = .ok (.iload_n 2, 1) := id_Mod_lane_0 (10, .iload_n 2, 1) (List.mem_of_getElem? (i := 8) rfl)
theorem d_Mod_lane_11 : decode prog_13_method_69_code 11 = .ok (.invokevirtual 377, 3) := id_Mod_lane_0 (11, .invokevirtual 377, 3) (List.mem_of_getElem? (i := 9) rfl)
theorem d_Mod_lane_14 : decode prog_13_method_69_code 14 = .ok (.ifCond .eq (44), 3) := id_Mod_lane_0 (14, .ifCond .eq (44), 3) (List.mem_of_getElem? (i := 10) rfl)
theorem d_Mod_lane_17 : decode prog_13_method_69_code 17 = .ok (.aload_n 0, 1) := id_Mod_lane_0 (17, .aload_n 0, 1) (List.mem_of_getElem? (i := 11) rfl)
theorem d_Mod_lane_18 : decode prog_13_method_69_code 18 = .ok (.getfield 54, 3) := id_Mod_lane_0 (18, .getfield 54, 3) (List.mem_of_getElem? (i := 12) rfl)
theorem d_Mod_lane_21 : decode prog_13_method_69_code 21 = .ok (.iload 5, 2) := id_Mod_lane_0 (21, .iload 5, 2) (List.mem_of_getElem? (i := 13) rfl)
theorem d_Mod_lane_23 : decode prog_13_method_69_code 23 = .ok (.iaload, 1) := id_Mod_lane_0 (23, .iaload, 1) (List.mem_of_getElem? (i := 14) rfl)
theorem d_Mod_lane_24 : decode prog_13_method_69_code 24 = .ok (.iconst (-1), 1) := id_Mod_lane_0 (24, .iconst (-1), 1) (List.mem_of_getElem? (i := 15) rfl)
theorem d_Mod_lane_25 : decode prog_13_method_69_code 25 = .ok (.if_icmp .eq (33), 3) := id_Mod_lane_0 (25, .if_icmp .eq (33), 3) (List.mem_of_getElem? (i := 16) rfl)
theorem d_Mod_lane_28 : decode prog_13_method_69_code 28 = .ok (.iload_n 3, 1) := id_Mod_lane_0 (28, .iload_n 3, 1) (List.mem_of_getElem? (i := 17) rfl)
theorem d_Mod_lane_29 : decode prog_13_method_69_code 29 = .ok (.ifCond .lt (29), 3) := id_Mod_lane_0 (29, .ifCond .lt (29), 3) (List.mem_of_getElem? (i := 18) rfl)
theorem d_Mod_lane_32 : decode prog_13_method_69_code 32 = .ok (.aload_n 0, 1) := id_Mod_lane_0 (32, .aload_n 0, 1) (List.mem_of_getElem? (i := 19) rfl)
theorem d_Mod_lane_33 : decode prog_13_method_69_code 33 = .ok (.iload 5, 2) := id_Mod_lane_0 (33, .iload 5, 2) (List.mem_of_getElem? (i := 20) rfl)
theorem d_Mod_lane_35 : decode prog_13_method_69_code 35 = .ok (.iload_n 3, 1) := id_Mod_lane_0 (35, .iload_n 3, 1) (List.mem_of_getElem? (i := 21) rfl)
theorem d_Mod_lane_36 : decode prog_13_method_69_code 36 = .ok (.invokevirtual 208, 3) := id_Mod_lane_0 (36, .invokevirtual 208, 3) (List.mem_of_getElem? (i := 22) rfl)
theorem d_Mod_lane_39 : decode prog_13_method_69_code 39 = .ok (.ifCond .eq (19), 3) := id_Mod_lane_0 (39, .ifCond .eq (19), 3) (List.mem_of_getElem? (i := 23) rfl)
def it_Mod_lane_1 : List (Nat × ClassFile.Instr × Nat) := [(42, .iload 4, 2), (44, .ifCond .lt (14), 3), (47, .iload 4, 2), (49, .bipush (20), 2), (51, .if_icmp .gt (7), 3), (54, .iconst 1, 1), (55, .goto (4), 3), (58, .iconst 0, 1), (59, .istore 6, 2), (61, .aload_n 0, 1), (62, .iload 6, 2), (64, .ifCond .eq (7), 3), (67, .iconst 0, 1), (68, .goto (4), 3), (71, .iconst 1, 1), (72, .putfield 120, 3), (75, .iload 6, 2), (77, .ifCond .ne (5), 3), (80, .iconst 0, 1), (81, .ireturn, 1), (82, .iload 5, 2), (84, .iload_n 3, 1), (85, .invokestatic 211, 3), (88, .istore 7, 2)]
theorem id_Mod_lane_1 : ∀ q ∈ it_Mod_lane_1, decode prog_13_method_69_code q.1 = .ok q.2 := by decide +kernel
theorem d_Mod_lane_42 : decode prog_13_method_69_code 42 = .ok (.iload 4, 2) := id_Mod_lane_1 (42, .iload 4, 2) (List.mem_of_getElem? (i := 0) rfl)
theorem d_Mod_lane_44 : decode prog_13_method_69_code 44 = .ok (.ifCond .lt (14), 3) := id_Mod_lane_1 (44, .ifCond .lt (14), 3) (List.mem_of_getElem? (i := 1) rfl)
theorem d_Mod_lane_47 : decode prog_13_method_69_code 47 = .ok (.iload 4, 2) := id_Mod_lane_1 (47, .iload 4, 2) (List.mem_of_getElem? (i := 2) rfl)
theorem d_Mod_lane_49 : decode prog_13_method_69_code 49 = .ok (.bipush (20), 2) := id_Mod_lane_1 (49, .bipush (20), 2) (List.mem_of_getElem? (i := 3) rfl)
theorem d_Mod_lane_51 : decode prog_13_method_69_code 51 = .ok (.if_icmp .gt (7), 3) := id_Mod_lane_1 (51, .if_icmp .gt (7), 3) (List.mem_of_getElem? (i := 4) rfl)
theorem d_Mod_lane_54 : decode prog_13_method_69_code 54 = .ok (.iconst 1, 1) := id_Mod_lane_1 (54, .iconst 1, 1) (List.mem_of_getElem? (i := 5) rfl)
theorem d_Mod_lane_55 : decode prog_13_method_69_code 55 = .ok (.goto (4), 3) := id_Mod_lane_1 (55, .goto (4), 3) (List.mem_of_getElem? (i := 6) rfl)
theorem d_Mod_lane_58 : decode prog_13_method_69_code 58 = .ok (.iconst 0, 1) := id_Mod_lane_1 (58, .iconst 0, 1) (List.mem_of_getElem? (i := 7) rfl)
theorem d_Mod_lane_59 : decode prog_13_method_69_code 59 = .ok (.istore 6, 2) := id_Mod_lane_1 (59, .istore 6, 2) (List.mem_of_getElem? (i := 8) rfl)
theorem d_Mod_lane_61 : decode prog_13_method_69_code 61 = .ok (.aload_n 0, 1) := id_Mod_lane_1 (61, .aload_n 0, 1) (List.mem_of_getElem? (i := 9) rfl)
theorem d_Mod_lane_62 : decode prog_13_method_69_code 62 = .ok (.iload 6, 2) := id_Mod_lane_1 (62, .iload 6, 2) (List.mem_of_getElem? (i := 10) rfl)
theorem d_Mod_lane_64 : decode prog_13_method_69_code 64 = .ok (.ifCond .eq (7), 3) := id_Mod_lane_1 (64, .ifCond .eq (7), 3) (List.mem_of_getElem? (i := 11) rfl)
theorem d_Mod_lane_67 : decode prog_13_method_69_code 67 = .ok (.iconst 0, 1) := id_Mod_lane_1 (67, .iconst 0, 1) (List.mem_of_getElem? (i := 12) rfl)
theorem d_Mod_lane_68 : decode prog_13_method_69_code 68 = .ok (.goto (4), 3) := id_Mod_lane_1 (68, .goto (4), 3) (List.mem_of_getElem? (i := 13) rfl)
theorem d_Mod_lane_71 : decode prog_13_method_69_code 71 = .ok (.iconst 1, 1) := id_Mod_lane_1 (71, .iconst 1, 1) (List.mem_of_getElem? (i := 14) rfl)
theorem d_Mod_lane_72 : decode prog_13_method_69_code 72 = .ok (.putfield 120, 3) := id_Mod_lane_1 (72, .putfield 120, 3) (List.mem_of_getElem? (i := 15) rfl)
theorem d_Mod_lane_75 : decode prog_13_method_69_code 75 = .ok (.iload 6, 2) := id_Mod_lane_1 (75, .iload 6, 2) (List.mem_of_getElem? (i := 16) rfl)
theorem d_Mod_lane_77 : decode prog_13_method_69_code 77 = .ok (.ifCond .ne (5), 3) := id_Mod_lane_1 (77, .ifCond .ne (5), 3) (List.mem_of_getElem? (i := 17) rfl)
theorem d_Mod_lane_80 : decode prog_13_method_69_code 80 = .ok (.iconst 0, 1) := id_Mod_lane_1 (80, .iconst 0, 1) (List.mem_of_getElem? (i := 18) rfl)
theorem d_Mod_lane_81 : decode prog_13_method_69_code 81 = .ok (.ireturn, 1) := id_Mod_lane_1 (81, .ireturn, 1) (List.mem_of_getElem? (i := 19) rfl)
theorem d_Mod_lane_82 : decode prog_13_method_69_code 82 = .ok (.iload 5, 2) := id_Mod_lane_1 (82, .iload 5, 2) (List.mem_of_getElem? (i := 20) rfl)
theorem d_Mod_lane_84 : decode prog_13_method_69_code 84 = .ok (.iload_n 3, 1) := id_Mod_lane_1 (84, .iload_n 3, 1) (List.mem_of_getElem? (i := 21) rfl)
theorem d_Mod_lane_85 : decode prog_13_method_69_code 85 = .ok (.invokestatic 211, 3) := id_Mod_lane_1 (85, .invokestatic 211, 3) (List.mem_of_getElem? (i := 22) rfl)
theorem d_Mod_lane_88 : decode prog_13_method_69_code 88 = .ok (.istore 7, 2) := id_Mod_lane_1 (88, .istore 7, 2) (List.mem_of_getElem? (i := 23) rfl)
def it_Mod_lane_2 : List (Nat × ClassFile.Instr × Nat) := [(90, .iload 4, 2), (92, .bipush (16), 2), (94, .if_icmp .le (23), 3), (97, .aload_n 0, 1), (98, .iload 7, 2), (100, .iload 4, 2), (102, .bipush (17), 2), (104, .isub, 1), (105, .invokevirtual 291, 3), (108, .ifCond .eq (7), 3), (111, .iconst 1, 1), (112, .goto (4), 3), (115, .iconst 0, 1), (116, .ireturn, 1), (117, .iload 4, 2), (119, .bipush (16), 2), (121, .if_icmp .ne (13), 3), (124, .aload_n 0, 1), (125, .getfield 73, 3), (128, .iload 7, 2), (130, .iaload, 1), (131, .goto (11), 3), (134, .aload_n 0, 1), (135, .iload 7, 2)]
theorem id_Mod_lane_2 : ∀ q ∈ it_Mod_lane_2, decode prog_13_method_69_code q.1 = .ok q.2 := by decide +kernel
theorem d_Mod_lane_90 : decode prog_13_method_69_code 90 = .ok (.iload 4, 2) := id_Mod_lane_2 (90, .iload 4, 2) (List.mem_of_getElem? (i := 0) rfl)
theorem d_Mod_lane_92 : decode prog_13_method_69_code 92 = .ok (.bipush (16), 2) := id_Mod_lane_2 (92, .bipush (16), 2) (List.mem_of_getElem? (i := 1) rfl)
theorem d_Mod_lane_94 : decode prog_13_method_69_code 94 = .ok (.if_icmp .le (23), 3) := id_Mod_lane_2 (94, .if_icmp .le (23), 3) (List.mem_of_getElem? (i := 2) rfl)
theorem d_Mod_lane_97 : decode prog_13_method_69_code 97 = .ok (.aload_n 0, 1) := id_Mod_lane_2 (97, .aload_n 0, 1) (List.mem_of_getElem? (i := 3) rfl)
theorem d_Mod_lane_98 : decode prog_13_method_69_code 98 = .ok (.iload 7, 2) := id_Mod_lane_2 (98, .iload 7, 2) (List.mem_of_getElem? (i := 4) rfl)
theorem d_Mod_lane_100 : decode prog_13_method_69_code 100 = .ok (.iload 4, 2) := id_Mod_lane_2 (100, .iload 4, 2) (List.mem_of_getElem? (i := 5) rfl)
theorem d_Mod_lane_102 : decode prog_13_method_69_code 102 = .ok (.bipush (17), 2) := id_Mod_lane_2 (102, .bipush (17), 2) (List.mem_of_getElem? (i := 6) rfl)
theorem d_Mod_lane_104 : decode prog_13_method_69_code 104 = .ok (.isub, 1) := id_Mod_lane_2 (104, .isub, 1) (List.mem_of_getElem? (i := 7) rfl)
theorem d_Mod_lane_105 : decode prog_13_method_69_code 105 = .ok (.invokevirtual 291, 3) := id_Mod_lane_2 (105, .invokevirtual 291, 3) (List.mem_of_getElem? (i := 8) rfl)
theorem d_Mod_lane_108 : decode prog_13_method_69_code 108 = .ok (.ifCond .eq (7), 3) := id_Mod_lane_2 (108, .ifCond .eq (7), 3) (List.mem_of_getElem? (i := 9) rfl)
theorem d_Mod_lane_111 : decode prog_13_method_69_code 111 = .ok (.iconst 1, 1) := id_Mod_lane_2 (111, .iconst 1, 1) (List.mem_of_getElem? (i := 10) rfl)
theorem d_Mod_lane_112 : decode prog_13_method_69_code 112 = .ok (.goto (4), 3) := id_Mod_lane_2 (112, .goto (4), 3) (List.mem_of_getElem? (i := 11) rfl)
theorem d_Mod_lane_115 : decode prog_13_method_69_code 115 = .ok (.iconst 0, 1) := id_Mod_lane_2 (115, .iconst 0, 1) (List.mem_of_getElem? (i := 12) rfl)
theorem d_Mod_lane_116 : decode prog_13_method_69_code 116 = .ok (.ireturn, 1) := id_Mod_lane_2 (116, .ireturn, 1) (List.mem_of_getElem? (i := 13) rfl)
theorem d_Mod_lane_117 : decode prog_13_method_69_code 117 = .ok (.iload 4, 2) := id_Mod_lane_2 (117, .iload 4, 2) (List.mem_of_getElem? (i := 14) rfl)
theorem d_Mod_lane_119 : decode prog_13_method_69_code 119 = .ok (.bipush (16), 2) := id_Mod_lane_2 (119, .bipush (16), 2) (List.mem_of_getElem? (i := 15) rfl)
theorem d_Mod_lane_121 : decode prog_13_method_69_code 121 = .ok (.if_icmp .ne (13), 3) := id_Mod_lane_2 (121, .if_icmp .ne (13), 3) (List.mem_of_getElem? (i := 16) rfl)
theorem d_Mod_lane_124 : decode prog_13_method_69_code 124 = .ok (.aload_n 0, 1) := id_Mod_lane_2 (124, .aload_n 0, 1) (List.mem_of_getElem? (i := 17) rfl)
theorem d_Mod_lane_125 : decode prog_13_method_69_code 125 = .ok (.getfield 73, 3) := id_Mod_lane_2 (125, .getfield 73, 3) (List.mem_of_getElem? (i := 18) rfl)
theorem d_Mod_lane_128 : decode prog_13_method_69_code 128 = .ok (.iload 7, 2) := id_Mod_lane_2 (128, .iload 7, 2) (List.mem_of_getElem? (i := 19) rfl)
theorem d_Mod_lane_130 : decode prog_13_method_69_code 130 = .ok (.iaload, 1) := id_Mod_lane_2 (130, .iaload, 1) (List.mem_of_getElem? (i := 20) rfl)
theorem d_Mod_lane_131 : decode prog_13_method_69_code 131 = .ok (.goto (11), 3) := id_Mod_lane_2 (131, .goto (11), 3) (List.mem_of_getElem? (i := 21) rfl)
theorem d_Mod_lane_134 : decode prog_13_method_69_code 134 = .ok (.aload_n 0, 1) := id_Mod_lane_2 (134, .aload_n 0, 1) (List.mem_of_getElem? (i := 22) rfl)
theorem d_Mod_lane_135 : decode prog_13_method_69_code 135 = .ok (.iload 7, 2) := id_Mod_lane_2 (135, .iload 7, 2) (List.mem_of_getElem? (i := 23) rfl)
def it_Mod_lane_3 : List (Nat × ClassFile.Instr × Nat) := [(137, .iload 4, 2), (139, .invokevirtual 284, 3), (142, .ireturn, 1)]
theorem id_Mod_lane_3 : ∀ q ∈ it_Mod_lane_3, decode prog_13_method_69_code q.1 = .ok q.2 := by decide +kernel
theorem d_Mod_lane_137 : decode prog_13_method_69_code 137 = .ok (.iload 4, 2) := id_Mod_lane_3 (137, .iload 4, 2) (List.mem_of_getElem? (i := 0) rfl)
theorem d_Mod_lane_139 : decode prog_13_method_69_code 139 = .ok (.invokevirtual 284, 3) := id_Mod_lane_3 (139, .invokevirtual 284, 3) (List.mem_of_getElem? (i := 1) rfl)
theorem d_Mod_lane_142 : decode prog_13_method_69_code 142 = .ok (.ireturn, 1) := id_Mod_lane_3 (142, .ireturn, 1) (List.mem_of_getElem? (i := 2) rfl)
theorem wC_Mod_lane : Cond.code ⟨"WarpMillModel", "lane", "(IIII)I"⟩ prog_13_method_69_code 8 (some .int) ∈ lw_tb := mem_tb 1504 (by decide +kernel) rfl
theorem cw_Mod_lane_Mod_isSlot : cW mi_Mod_lane mi_Mod_isSlot 2 := ⟨wC_Mod_isSlot, wi_Mod, ⟨by decide, by decide, by decide +kernel⟩, by decide, by decide⟩
theorem cw_Mod_lane_Mod_isLane : cW mi_Mod_lane mi_Mod_isLane 2 := ⟨wC_Mod_isLane, wi_Mod, ⟨by decide, by decide, by decide +kernel⟩, by decide, by decide⟩
theorem cw_Mod_lane_Mod_thread : cW mi_Mod_lane mi_Mod_thread 2 := ⟨wC_Mod_thread, wi_Mod, ⟨by decide, by decide, by decide +kernel⟩, by decide, by decide⟩
theorem cw_Mod_lane_Mod_has : cW mi_Mod_lane mi_Mod_has 2 := ⟨wC_Mod_has, wi_Mod, ⟨by decide, by decide, by decide +kernel⟩, by decide, by decide⟩
theorem cw_Mod_lane_Mod_reg : cW mi_Mod_lane mi_Mod_reg 2 := ⟨wC_Mod_reg, wi_Mod, ⟨by decide, by decide, by decide +kernel⟩, by decide, by decide⟩
def b_Mod_lane_72 (F : Nat) (x0 : Nat) (x3 : Int32) (x4 : Int32) (x5 : Int32) (x6 : Int32) (s0 : Nat) (s1 : Int32) (h : Hp) : Option (Int32 × Hp) := gd (hK h s0 = 12) <| pw (sI h 704 s0 s1) fun h_72_2 => if x6 = 0 then (some ((0 : Int32), h_72_2)) else (cl (f_Mod_thread F x5 x3 h_72_2) fun v_85 h_85 => if x4 ≤ (16 : Int32) then (if x4 = (16 : Int32) then (gd (hK h_85 x0 = 12) <| rq h_85 (hR h_85 741 x0) 100 fun a_125_2 => ix v_85 (hN h_85 a_125_2) fun j_130 => some ((hA h_85 a_125_2 j_130), h_85)) else (gd (hK h_85 x0 = 12) <| cl (f_Mod_reg F x0 v_85 x4 h_85) fun v_139_2 h_139_2 => some (v_139_2, h_139_2))) else (gd (hK h_85 x0 = 12) <| cl (f_Mod_has F x0 v_85 (x4 - (17 : Int32)) h_85) fun v_105_2 h_105_2 => if v_105_2 = 0 then (some ((0 : Int32), h_105_2)) else (some ((1 : Int32), h_105_2))))
set_option maxRecDepth 100000 in
set_option maxHeartbeats 4000000 in
theorem e_Mod_lane_72 {G : Gl} (hw : gF G) {h0 : Hp} {F : Nat} {r : Int32} {h' : Hp}   {x0 : Nat} {x3 : Int32} {x4 : Int32} {x5 : Int32} {x6 : Int32} {s0 : Nat} {s1 : Int32} {h : Hp} (hf : b_Mod_lane_72 F x0 x3 x4 x5 x6 s0 s1 h = some (r, h')) : Go G mi_Mod_lane h0 (pI r h') h 72 [(0, .ref x0), (3, .int x3), (4, .int x4), (5, .int x5), (6, .int x6)] [.int s1, .ref s0] := by
  unfold b_Mod_lane_72 at hf
  obtain ⟨k_72, hf⟩ := gd_s hf
  refine fp_Mod_thrown hw lf_Mod_120 d_Mod_lane_72 k_72 ?_
  have hf := pw_b hf
  refine g_iload d_Mod_lane_75 rfl ?_
  refine g_if_ne 82 d_Mod_lane_77 (by decide) (fun c_77 => ?_) (fun c_77 => ?_)
  · have hf := ifn hf c_77
    refine g_iload d_Mod_lane_82 rfl ?_
    refine g_iload_n d_Mod_lane_84 rfl ?_
    obtain ⟨v_85, h_85, e_85, hf⟩ := cl_s hf
    refine g_callS (mz := mi_Mod_thread) (e_Mod_thread e_85) cw_Mod_lane_Mod_thread lm_Mod_211 wS_Mod_thread d_Mod_lane_85 rfl rfl (by first | exact Nat.le_of_ble_eq_true rfl | simp [cat_rf, Value.category]) (fun r1 h1 hp hro => ?_)
    obtain ⟨rfl, rfl⟩ := hp
    dsimp only [Option.toList_some, Option.toList_none, List.cons_append, List.nil_append]
    refine g_istore d_Mod_lane_88 (by decide) ?_
    show Go _ _ _ _ _ _ [(0, _), (3, _), (4, _), (5, _), (6, _), (7, _)] _
    refine g_iload d_Mod_lane_90 rfl ?_
    refine g_bipush (16) d_Mod_lane_92 (by decide) ?_
    refine g_icmp_le 117 d_Mod_lane_94 (by decide) (fun c_94 => ?_) (fun c_94 => ?_)
    · have hf := ifp hf c_94
      refine g_iload d_Mod_lane_117 rfl ?_
      refine g_bipush (16) d_Mod_lane_119 (by decide) ?_
      refine g_icmp_ne 134 d_Mod_lane_121 (by decide) (fun c_121 => ?_) (fun c_121 => ?_)
      · have hf := ifn hf c_121
        refine g_aload_n d_Mod_lane_134 rfl ?_
        refine g_iload d_Mod_lane_135 rfl ?_
        refine g_iload d_Mod_lane_137 rfl ?_
        obtain ⟨k_139, hf⟩ := gd_s hf
        obtain ⟨v_139_2, h_139_2, e_139_2, hf⟩ := cl_s hf
        refine g_callV (mz := mi_Mod_reg) (e_Mod_reg e_139_2) cw_Mod_lane_Mod_reg lm_Mod_284 wI_Mod_reg wV_Mod_reg (ci := 11) k_139 (by decide) rfl rfl d_Mod_lane_139 rfl rfl (by first | exact Nat.le_of_ble_eq_true rfl | simp [cat_rf, Value.category]) (fun r1 h1 hp hro => ?_)
        obtain ⟨rfl, rfl⟩ := hp
        dsimp only [Option.toList_some, Option.toList_none, List.cons_append, List.nil_append]
        exact Go.ret (some _) (rOk_i _) rfl d_Mod_lane_142 (pI_of hf)
      · have hf := ifp hf c_121
        refine g_aload_n d_Mod_lane_124 rfl ?_
        obtain ⟨k_125, hf⟩ := gd_s hf
        obtain ⟨a_125_2, e_125_2, k_125_2, hf⟩ := rq_s hf
        refine fgs_Mod_place lf_Mod_73 d_Mod_lane_125 k_125 e_125_2 ?_
        refine g_iload d_Mod_lane_128 rfl ?_
        obtain ⟨i_130, hf⟩ := ix_s hf
        refine g_iald k_125_2 i_130 d_Mod_lane_130 ?_
        refine g_goto 142 d_Mod_lane_131 (by decide) ?_
        exact Go.ret (some _) (rOk_i _) rfl d_Mod_lane_142 (pI_of hf)
    · have hf := ifn hf c_94
      refine g_aload_n d_Mod_lane_97 rfl ?_
      refine g_iload d_Mod_lane_98 rfl ?_
      refine g_iload d_Mod_lane_100 rfl ?_
      refine g_bipush (17) d_Mod_lane_102 (by decide) ?_
      refine g_isub d_Mod_lane_104 ?_
      obtain ⟨k_105, hf⟩ := gd_s hf
      obtain ⟨v_105_2, h_105_2, e_105_2, hf⟩ := cl_s hf
      refine g_callV (mz := mi_Mod_has) (e_Mod_has e_105_2) cw_Mod_lane_Mod_has lm_Mod_291 wI_Mod_has wV_Mod_has (ci := 11) k_105 (by decide) rfl rfl d_Mod_lane_105 rfl rfl (by first | exact Nat.le_of_ble_eq_true rfl | simp [cat_rf, Value.category]) (fun r1 h1 hp hro => ?_)
      obtain ⟨rfl, rfl⟩ := hp
      dsimp only [Option.toList_some, Option.toList_none, List.cons_append, List.nil_append]
      refine g_if_eq 115 d_Mod_lane_108 (by decide) (fun c_108 => ?_) (fun c_108 => ?_)
      · have hf := ifp hf c_108
        refine g_iconst 0 d_Mod_lane_115 (by decide) ?_
        exact Go.ret (some _) (rOk_i _) rfl d_Mod_lane_116 (pI_of hf)
      · have hf := ifn hf c_108
        refine g_iconst 1 d_Mod_lane_111 (by decide) ?_
        refine g_goto 116 d_Mod_lane_112 (by decide) ?_
        exact Go.ret (some _) (rOk_i _) rfl d_Mod_lane_116 (pI_of hf)
  · have hf := ifp hf c_77
    refine g_iconst 0 d_Mod_lane_80 (by decide) ?_
    exact Go.ret (some _) (rOk_i _) rfl d_Mod_lane_81 (pI_of hf)
def b_Mod_lane_59 (F : Nat) (x0 : Nat) (x3 : Int32) (x4 : Int32) (x5 : Int32) (s0 : Int32) (h : Hp) : Option (Int32 × Hp) := if s0 = 0 then (b_Mod_lane_72 F x0 x3 x4 x5 s0 x0 (1 : Int32) h) else (b_Mod_lane_72 F x0 x3 x4 x5 s0 x0 (0 : Int32) h)
set_option maxRecDepth 100000 in
set_option maxHeartbeats 4000000 in
theorem e_Mod_lane_59 {G : Gl} (hw : gF G) {h0 : Hp} {F : Nat} {r : Int32} {h' : Hp}   {x0 : Nat} {x3 : Int32} {x4 : Int32} {x5 : Int32} {s0 : Int32} {h : Hp} (hf : b_Mod_lane_59 F x0 x3 x4 x5 s0 h = some (r, h')) : Go G mi_Mod_lane h0 (pI r h') h 59 [(0, .ref x0), (3, .int x3), (4, .int x4), (5, .int x5)] [.int s0] := by
  unfold b_Mod_lane_59 at hf
  refine g_istore d_Mod_lane_59 (by decide) ?_
  show Go _ _ _ _ _ _ [(0, _), (3, _), (4, _), (5, _), (6, _)] _
  refine g_aload_n d_Mod_lane_61 rfl ?_
  refine g_iload d_Mod_lane_62 rfl ?_
  refine g_if_eq 71 d_Mod_lane_64 (by decide) (fun c_64 => ?_) (fun c_64 => ?_)
  · have hf := ifp hf c_64
    refine g_iconst 1 d_Mod_lane_71 (by decide) ?_
    have key := e_Mod_lane_72 hw (G := G) (h0 := h0)  hf
    exact key
  · have hf := ifn hf c_64
    refine g_iconst 0 d_Mod_lane_67 (by decide) ?_
    refine g_goto 72 d_Mod_lane_68 (by decide) ?_
    have key := e_Mod_lane_72 hw (G := G) (h0 := h0)  hf
    exact key
def b_Mod_lane_58 (F : Nat) (x0 : Nat) (x3 : Int32) (x4 : Int32) (x5 : Int32) (h : Hp) : Option (Int32 × Hp) := b_Mod_lane_59 F x0 x3 x4 x5 (0 : Int32) h
set_option maxRecDepth 100000 in
set_option maxHeartbeats 4000000 in
theorem e_Mod_lane_58 {G : Gl} (hw : gF G) {h0 : Hp} {F : Nat} {r : Int32} {h' : Hp}   {x0 : Nat} {x3 : Int32} {x4 : Int32} {x5 : Int32} {h : Hp} (hf : b_Mod_lane_58 F x0 x3 x4 x5 h = some (r, h')) : Go G mi_Mod_lane h0 (pI r h') h 58 [(0, .ref x0), (3, .int x3), (4, .int x4), (5, .int x5)] [] := by
  unfold b_Mod_lane_58 at hf
  refine g_iconst 0 d_Mod_lane_58 (by decide) ?_
  have key := e_Mod_lane_59 hw (G := G) (h0 := h0)  hf
  exact key
def f_Mod_lane (F : Nat) (x0 : Nat) (x1 : Int32) (x2 : Int32) (x3 : Int32) (x4 : Int32) (h : Hp) : Option (Int32 × Hp) := gd (hK h x0 = 12) <| cl (f_Mod_isSlot F x0 x1 x2 h) fun v_11_2 h_11_2 => if v_11_2 = 0 then (b_Mod_lane_58 F x0 x3 x4 (((16 : Int32) * x1) + x2) h_11_2) else (gd (hK h_11_2 x0 = 12) <| rq h_11_2 (hR h_11_2 735 x0) 100 fun a_18_2 => ix (((16 : Int32) * x1) + x2) (hN h_11_2 a_18_2) fun j_23 => if (hA h_11_2 a_18_2 j_23) = (-1 : Int32) then (b_Mod_lane_58 F x0 x3 x4 (((16 : Int32) * x1) + x2) h_11_2) else (if x3 < 0 then (b_Mod_lane_58 F x0 x3 x4 (((16 : Int32) * x1) + x2) h_11_2) else (cl (f_Mod_isLane F x0 (((16 : Int32) * x1) + x2) x3 h_11_2) fun v_36 h_36 => if v_36 = 0 then (b_Mod_lane_58 F x0 x3 x4 (((16 : Int32) * x1) + x2) h_36) else (if x4 < 0 then (b_Mod_lane_58 F x0 x3 x4 (((16 : Int32) * x1) + x2) h_36) else (if (20 : Int32) < x4 then (b_Mod_lane_58 F x0 x3 x4 (((16 : Int32) * x1) + x2) h_36) else (b_Mod_lane_59 F x0 x3 x4 (((16 : Int32) * x1) + x2) (1 : Int32) h_36))))))
set_option maxRecDepth 100000 in
set_option maxHeartbeats 4000000 in
theorem e_Mod_lane {G : Gl} (hw : gF G) {F : Nat} {r : Int32} {h' : Hp} {x0 : Nat} {x1 : Int32} {x2 : Int32} {x3 : Int32} {x4 : Int32} {h : Hp} (hf : f_Mod_lane F x0 x1 x2 x3 x4 h = some (r, h')) : Ex G mi_Mod_lane [.ref x0, .int x1, .int x2, .int x3, .int x4] h (pI r h') := by
  unfold f_Mod_lane at hf
  refine Ex.of nmI (by decide) (Nat.le_of_ble_eq_true rfl) ?_
  show Go G mi_Mod_lane h _ h 0 [(0, .ref x0), (1, .int x1), (2, .int x2), (3, .int x3), (4, .int x4)] []
  refine g_bipush (16) d_Mod_lane_0 (by decide) ?_
  refine g_iload_n d_Mod_lane_2 rfl ?_
  refine g_imul d_Mod_lane_3 ?_
  refine g_iload_n d_Mod_lane_4 rfl ?_
  refine g_iadd d_Mod_lane_5 ?_
  refine g_istore d_Mod_lane_6 (by decide) ?_
  show Go _ _ _ _ _ _ [(0, _), (1, _), (2, _), (3, _), (4, _), (5, _)] _
  refine g_aload_n d_Mod_lane_8 rfl ?_
  refine g_iload_n d_Mod_lane_9 rfl ?_
  refine g_iload_n d_Mod_lane_10 rfl ?_
  obtain ⟨k_11, hf⟩ := gd_s hf
  obtain ⟨v_11_2, h_11_2, e_11_2, hf⟩ := cl_s hf
  refine g_callV (mz := mi_Mod_isSlot) (e_Mod_isSlot e_11_2) cw_Mod_lane_Mod_isSlot lm_Mod_377 wI_Mod_isSlot wV_Mod_isSlot (ci := 11) k_11 (by decide) rfl rfl d_Mod_lane_11 rfl rfl (by first | exact Nat.le_of_ble_eq_true rfl | simp [cat_rf, Value.category]) (fun r1 h1 hp hro => ?_)
  obtain ⟨rfl, rfl⟩ := hp
  dsimp only [Option.toList_some, Option.toList_none, List.cons_append, List.nil_append]
  refine g_if_eq 58 d_Mod_lane_14 (by decide) (fun c_14 => ?_) (fun c_14 => ?_)
  · have hf := ifp hf c_14
    refine Go.locals [0, 3, 4, 5] rfl ?_
    have key := e_Mod_lane_58 hw (G := G) (h0 := h)  hf
    exact key
  · have hf := ifn hf c_14
    refine g_aload_n d_Mod_lane_17 rfl ?_
    obtain ⟨k_18, hf⟩ := gd_s hf
    obtain ⟨a_18_2, e_18_2, k_18_2, hf⟩ := rq_s hf
    refine fgs_Mod_slotBlock lf_Mod_54 d_Mod_lane_18 k_18 e_18_2 ?_
    refine g_iload d_Mod_lane_21 rfl ?_
    obtain ⟨i_23, hf⟩ := ix_s hf
    refine g_iald k_18_2 i_23 d_Mod_lane_23 ?_
    refine g_iconst (-1) d_Mod_lane_24 (by decide) ?_
    refine g_icmp_eq 58 d_Mod_lane_25 (by decide) (fun c_25 => ?_) (fun c_25 => ?_)
    · have hf := ifp hf c_25
      refine Go.locals [0, 3, 4, 5] rfl ?_
      have key := e_Mod_lane_58 hw (G := G) (h0 := h)  hf
      exact key
    · have hf := ifn hf c_25
      refine g_iload_n d_Mod_lane_28 rfl ?_
      refine g_if_lt 58 d_Mod_lane_29 (by decide) (fun c_29 => ?_) (fun c_29 => ?_)
      · have hf := ifp hf c_29
        refine Go.locals [0, 3, 4, 5] rfl ?_
        have key := e_Mod_lane_58 hw (G := G) (h0 := h)  hf
        exact key
      · have hf := ifn hf c_29
        refine g_aload_n d_Mod_lane_32 rfl ?_
        refine g_iload d_Mod_lane_33 rfl ?_
        refine g_iload_n d_Mod_lane_35 rfl ?_
        obtain ⟨v_36, h_36, e_36, hf⟩ := cl_s hf
        refine g_callV (mz := mi_Mod_isLane) (e_Mod_isLane e_36) cw_Mod_lane_Mod_isLane lm_Mod_208 wI_Mod_isLane wV_Mod_isLane (ci := 11) k_18 (by decide) rfl rfl d_Mod_lane_36 rfl rfl (by first | exact Nat.le_of_ble_eq_true rfl | simp [cat_rf, Value.category]) (fun r1 h1 hp hro => ?_)
        obtain ⟨rfl, rfl⟩ := hp
        dsimp only [Option.toList_some, Option.toList_none, List.cons_append, List.nil_append]
        refine g_if_eq 58 d_Mod_lane_39 (by decide) (fun c_39 => ?_) (fun c_39 => ?_)
        · have hf := ifp hf c_39
          refine Go.locals [0, 3, 4, 5] rfl ?_
          have key := e_Mod_lane_58 hw (G := G) (h0 := h)  hf
          exact key
        · have hf := ifn hf c_39
          refine g_iload d_Mod_lane_42 rfl ?_
          refine g_if_lt 58 d_Mod_lane_44 (by decide) (fun c_44 => ?_) (fun c_44 => ?_)
          · have hf := ifp hf c_44
            refine Go.locals [0, 3, 4, 5] rfl ?_
            have key := e_Mod_lane_58 hw (G := G) (h0 := h)  hf
            exact key
          · have hf := ifn hf c_44
            refine g_iload d_Mod_lane_47 rfl ?_
            refine g_bipush (20) d_Mod_lane_49 (by decide) ?_
            refine g_icmp_gt 58 d_Mod_lane_51 (by decide) (fun c_51 => ?_) (fun c_51 => ?_)
            · have hf := ifp hf c_51
              refine Go.locals [0, 3, 4, 5] rfl ?_
              have key := e_Mod_lane_58 hw (G := G) (h0 := h)  hf
              exact key
            · have hf := ifn hf c_51
              refine g_iconst 1 d_Mod_lane_54 (by decide) ?_
              refine g_goto 59 d_Mod_lane_55 (by decide) ?_
              refine Go.locals [0, 3, 4, 5] rfl ?_
              have key := e_Mod_lane_59 hw (G := G) (h0 := h)  hf
              exact key
