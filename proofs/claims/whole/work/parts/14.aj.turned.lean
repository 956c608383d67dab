abbrev mi_WM_meet : MI := (⟨"WarpMill", "meet", "(LWarpMill$Block;)V"⟩, prog_1_method_24_code, 3, none, 4, 90)
def it_WM_meet_0 : List (Nat × ClassFile.Instr × Nat) := [(0, .aload_n 1, 1), (1, .getfield 173, 3), (4, .astore_n 2, 1), (5, .aload_n 2, 1), (6, .ifnonnull (4), 3), (9, .return_, 1), (10, .aload_n 1, 1), (11, .getfield 334, 3), (14, .ifCond .ne (24), 3), (17, .aload_n 2, 1), (18, .aload_n 1, 1), (19, .invokevirtual 186, 3), (22, .aload_n 0, 1), (23, .getfield 32, 3), (26, .dup, 1), (27, .getfield 337, 3), (30, .iconst 1, 1), (31, .iadd, 1), (32, .putfield 337, 3), (35, .goto (28), 3), (38, .aload_n 1, 1), (39, .getfield 340, 3), (42, .aload_n 1, 1), (43, .getfield 334, 3)]
theorem id_WM_meet_0 : ∀ q ∈ it_WM_meet_0, decode prog_1_method_24_code q.1 = .ok q.2 := by decide +kernel
theorem d_WM_meet_0 : decode prog_1_method_24_code 0 = .ok (.aload_n 1, 1) := id_WM_meet_0 (0, .aload_n 1, 1) (List.mem_of_getElem? (i := 0) rfl)
theorem d_WM_meet_1 : decode prog_1_method_24_code 1 = .ok (.getfield 173, 3) := id_WM_meet_0 (1, .getfield 173, 3) (List.mem_of_getElem? (i := 1) rfl)
theorem d_WM_meet_4 : decode prog_1_method_24_code 4 = .ok (.astore_n 2, 1) := id_WM_meet_0 (4, .astore_n 2, 1) (List.mem_of_getElem? (i := 2) rfl)
theorem d_WM_meet_5 : decode prog_1_method_24_code 5 = .ok (.aload_n 2, 1) := id_WM_meet_0 (5, .aload_n 2, 1) (List.mem_of_getElem? (i := 3) rfl)
theorem d_WM_meet_6 : decode prog_1_method_24_code 6 = .ok (.ifnonnull (4), 3) := id_WM_meet_0 (6, .ifnonnull (4), 3) (List.mem_of_getElem? (i := 4) rfl)
theorem d_WM_meet_9 : decode prog_1_method_24_code 9 = .ok (.return_, 1) := id_WM_meet_0 (9, .return_, 1) (List.mem_of_getElem? (i := 5) rfl)
theorem d_WM_meet_10 : decode prog_1_method_24_code 10 = .ok (.aload_n 1, 1) := id_WM_meet_0 (10, .aload_n 1, 1) (List.mem_of_getElem? (i := 6) rfl)
theorem d_WM_meet_11 : decode prog_1_method_24_code 11 = .ok (.getfield 334, 3) := id_WM_meet_0 (11, .getfield 334, 3) (List.mem_of_getElem? (i := 7) rfl)
theorem d_WM_meet_14 : decode prog_1_method_24_code 14 = .ok (.ifCond .ne (24), 3) := id_WM_meet_0 (14, .ifCond .ne (24), 3) (List.mem_of_getElem? (i := 8) rfl)
theorem d_WM_meet_17 : decode prog_1_method_24_code 17 = .ok (.aload_n 2, 1) := id_WM_meet_0 (17, .aload_n 2, 1) (List.mem_of_getElem? (i := 9) rfl)
theorem d_WM_meet_18 : decode prog_1_method_24_code 18 = .ok (.aload_n 1, 1) := id_WM_meet_0 (18, .aload_n 1, 1) (List.mem_of_getElem? (i := 10) rfl)
theorem d_WM_meet_19 : decode prog_1_method_24_code 19 = .ok (.invokevirtual 186, 3) := id_WM_meet_0 (19, .invokevirtual 186, 3) (List.mem_of_getElem? (i := 11) rfl)
theorem d_WM_meet_22 : decode prog_1_method_24_code 22 = .ok (.aload_n 0, 1) := id_WM_meet_0 (22, .aload_n 0, 1) (List.mem_of_getElem? (i := 12) rfl)
theorem d_WM_meet_23 : decode prog_1_method_24_code 23 = .ok (.getfield 32, 3) := id_WM_meet_0 (23, .getfield 32, 3) (List.mem_of_getElem? (i := 13) rfl)
theorem d_WM_meet_26 : decode prog_1_method_24_code 26 = .ok (.dup, 1) := id_WM_meet_0 (26, .dup, 1) (List.mem_of_getElem? (i := 14) rfl)
theorem d_WM_meet_27 : decode prog_1_method_24_code 27 = .ok (.getfield 337, 3) := id_WM_meet_0 (27, .getfield 337, 3) (List.mem_of_getElem? (i := 15) rfl)
theorem d_WM_meet_30 : decode prog_1_method_24_code 30 = .ok (.iconst 1, 1) := id_WM_meet_0 (30, .iconst 1, 1) (List.mem_of_getElem? (i := 16) rfl)
theorem d_WM_meet_31 : decode prog_1_method_24_code 31 = .ok (.iadd, 1) := id_WM_meet_0 (31, .iadd, 1) (List.mem_of_getElem? (i := 17) rfl)
theorem d_WM_meet_32 : decode prog_1_method_24_code 32 = .ok (.putfield 337, 3) := id_WM_meet_0 (32, .putfield 337, 3) (List.mem_of_getElem? (i := 18) rfl)
theorem d_WM_meet_35 : decode prog_1_method_24_code 35 = .ok (.goto (28), 3) := id_WM_meet_0 (35, .goto (28), 3) (List.mem_of_getElem? (i := 19) rfl)
theorem d_WM_meet_38 : decode prog_1_method_24_code 38 = .ok (.aload_n 1, 1) := id_WM_meet_0 (38, .aload_n 1, 1) (List.mem_of_getElem? (i := 20) rfl)
theorem d_WM_meet_39 : decode prog_1_method_24_code 39 = .ok (.getfield 340, 3) := id_WM_meet_0 (39, .getfield 340, 3) (List.mem_of_getElem? (i := 21) rfl)
theorem d_WM_meet_42 : decode prog_1_method_24_code 42 = .ok (.aload_n 1, 1) := id_WM_meet_0 (42, .aload_n 1, 1) (List.mem_of_getElem? (i := 22) rfl)
theorem d_WM_meet_43 : decode prog_1_method_24_code 43 = .ok (.getfield 334, 3) := id_WM_meet_0 (43, .getfield 334, 3) (List.mem_of_getElem? (i := 23) rfl)
def it_WM_meet_1 : List (Nat × ClassFile.Instr × Nat) := [(46, .if_icmp .ne (17), 3), (49, .aload_n 1, 1), (50, .iconst 0, 1), (51, .putfield 340, 3), (54, .aload_n 2, 1), (55, .aload_n 1, 1), (56, .aload_n 0, 1), (57, .getfield 18, 3), (60, .invokevirtual 343, 3), (63, .return_, 1)]
theorem id_WM_meet_1 : ∀ q ∈ it_WM_meet_1, decode prog_1_method_24_code q.1 = .ok q.2 := by decide +kernel
theorem d_WM_meet_46 : decode prog_1_method_24_code 46 = .ok (.if_icmp .ne (17), 3) := id_WM_meet_1 (46, .if_icmp .ne (17), 3) (List.mem_of_getElem? (i := 0) rfl)
theorem d_WM_meet_49 : decode prog_1_method_24_code 49 = .ok (.aload_n 1, 1) := id_WM_meet_1 (49, .aload_n 1, 1) (List.mem_of_getElem? (i := 1) rfl)
theorem d_WM_meet_50 : decode prog_1_method_24_code 50 = .ok (.iconst 0, 1) := id_WM_meet_1 (50, .iconst 0, 1) (List.mem_of_getElem? (i := 2) rfl)
theorem d_WM_meet_51 : decode prog_1_method_24_code 51 = .ok (.putfield 340, 3) := id_WM_meet_1 (51, .putfield 340, 3) (List.mem_of_getElem? (i := 3) rfl)
theorem d_WM_meet_54 : decode prog_1_method_24_code 54 = .ok (.aload_n 2, 1) := id_WM_meet_1 (54, .aload_n 2, 1) (List.mem_of_getElem? (i := 4) rfl)
theorem d_WM_meet_55 : decode prog_1_method_24_code 55 = .ok (.aload_n 1, 1) := id_WM_meet_1 (55, .aload_n 1, 1) (List.mem_of_getElem? (i := 5) rfl)
theorem d_WM_meet_56 : decode prog_1_method_24_code 56 = .ok (.aload_n 0, 1) := id_WM_meet_1 (56, .aload_n 0, 1) (List.mem_of_getElem? (i := 6) rfl)
theorem d_WM_meet_57 : decode prog_1_method_24_code 57 = .ok (.getfield 18, 3) := id_WM_meet_1 (57, .getfield 18, 3) (List.mem_of_getElem? (i := 7) rfl)
theorem d_WM_meet_60 : decode prog_1_method_24_code 60 = .ok (.invokevirtual 343, 3) := id_WM_meet_1 (60, .invokevirtual 343, 3) (List.mem_of_getElem? (i := 8) rfl)
theorem d_WM_meet_63 : decode prog_1_method_24_code 63 = .ok (.return_, 1) := id_WM_meet_1 (63, .return_, 1) (List.mem_of_getElem? (i := 9) rfl)
theorem wC_WM_meet : Cond.code ⟨"WarpMill", "meet", "(LWarpMill$Block;)V"⟩ prog_1_method_24_code 3 (none) ∈ lw_tb := mem_tb 984 (by decide +kernel) rfl
theorem cw_WM_meet_Unit_free : cW mi_WM_meet mi_Unit_free 1 := ⟨wC_Unit_free, wi_Unit, ⟨by decide, by decide, by decide +kernel⟩, by decide, by decide⟩
theorem cw_WM_meet_Unit_wake : cW mi_WM_meet mi_Unit_wake 2 := ⟨wC_Unit_wake, wi_Unit, ⟨by decide, by decide, by decide +kernel⟩, by decide, by decide⟩
def f_WM_meet (F : Nat) (x0 : Nat) (x1 : Option Nat) (h : Hp) : Option Hp := rq h x1 8 fun a_1 => pw (hR h 450 a_1) fun o_1_2 => nu o_1_2 (some h) fun a_6 => (if (hI h 453 a_1) = 0 then (gd (hK h a_6 = 7) <| clv (f_Unit_free F a_6 (some a_1) h) fun h_19_2 => gd (hK h_19_2 x0 = 1) <| rq h_19_2 (hR h_19_2 3 x0) 6 fun a_23_2 => pw (sI h_19_2 324 a_23_2 ((hI h_19_2 324 a_23_2) + (1 : Int32))) fun h_32 => some h_32) else (if (hI h 454 a_1) = (hI h 453 a_1) then (pw (sI h 454 a_1 (0 : Int32)) fun h_51 => gd (hK h_51 x0 = 1) <| rq h_51 (hR h_51 1 x0) 120 fun a_57_2 => gd (hK h_51 a_6 = 7) <| clv (f_Unit_wake F a_6 (some a_1) (some a_57_2) h_51) fun h_60_2 => some h_60_2) else (some h)))
set_option maxRecDepth 100000 in
set_option maxHeartbeats 4000000 in
theorem e_WM_meet {G : Gl} (hw : gF G) {F : Nat} {h' : Hp} {x0 : Nat} {x1 : Option Nat} {h : Hp} (hf : f_WM_meet F x0 x1 h = some h') : Ex G mi_WM_meet [.ref x0, va_rf x1] h (pV h') := by
  unfold f_WM_meet at hf
  refine Ex.of nmV (by decide) (by cases x1 <;> exact Nat.le_of_ble_eq_true rfl) ?_
  rw [show lv_args 0 [.ref x0, va_rf x1] = [(0, .ref x0), (1, va_rf x1)] from by cases x1 <;> rfl]
  show Go G mi_WM_meet h _ h 0 [(0, .ref x0), (1, va_rf x1)] []
  refine g_aload_nq (r := x1) d_WM_meet_0 rfl ?_
  obtain ⟨a_1, rfl, k_1, hf⟩ := rq_s hf
  obtain ⟨o_1_2, e_1_2, hf⟩ := pw_s hf
  refine fg_Block_unit lf_WM_173 d_WM_meet_1 k_1 ?_
  refine Go.vr e_1_2 ?_
  refine g_astore_nq (r := o_1_2) d_WM_meet_4 (by decide) ?_
  show Go _ _ _ _ _ _ [(0, _), (1, _), (2, _)] _
  refine g_aload_nq (r := o_1_2) d_WM_meet_5 rfl ?_
  refine g_ifnonnull (r := o_1_2) 10 d_WM_meet_6 (by decide) (fun a_6 c_6 => ?_) (fun c_6 => ?_)
  · subst c_6
    have hf := nu_s hf
    refine g_aload_n d_WM_meet_10 rfl ?_
    refine fg_Block_alive lf_WM_334 d_WM_meet_11 k_1 ?_
    refine g_if_ne 38 d_WM_meet_14 (by decide) (fun c_14 => ?_) (fun c_14 => ?_)
    · have hf := ifn hf c_14
      refine g_aload_n d_WM_meet_38 rfl ?_
      refine fg_Block_waiting lf_WM_340 d_WM_meet_39 k_1 ?_
      refine g_aload_n d_WM_meet_42 rfl ?_
      refine fg_Block_alive lf_WM_334 d_WM_meet_43 k_1 ?_
      refine g_icmp_ne 63 d_WM_meet_46 (by decide) (fun c_46 => ?_) (fun c_46 => ?_)
      · have hf := ifn hf c_46
        exact Go.ret none trivial rfl d_WM_meet_63 (pV_of hf)
      · have hf := ifp hf c_46
        refine g_aload_n d_WM_meet_49 rfl ?_
        refine g_iconst 0 d_WM_meet_50 (by decide) ?_
        refine fp_Block_waiting hw lf_WM_340 d_WM_meet_51 k_1 ?_
        have hf := pw_b hf
        refine g_aload_n d_WM_meet_54 rfl ?_
        refine g_aload_n d_WM_meet_55 rfl ?_
        refine g_aload_n d_WM_meet_56 rfl ?_
        obtain ⟨k_57, hf⟩ := gd_s hf
        obtain ⟨a_57_2, e_57_2, k_57_2, hf⟩ := rq_s hf
        refine fgs_WM_kernel lf_WM_18 d_WM_meet_57 k_57 e_57_2 ?_
        obtain ⟨k_60, hf⟩ := gd_s hf
        obtain ⟨h_60_2, e_60_2, hf⟩ := clv_s hf
        refine g_callV (mz := mi_Unit_wake) (e_Unit_wake hw e_60_2) cw_WM_meet_Unit_wake lm_WM_343 wI_Unit_wake wV_Unit_wake (ci := 6) k_60 (by decide) rfl rfl d_WM_meet_60 rfl rfl (by first | exact Nat.le_of_ble_eq_true rfl | simp [cat_rf, Value.category]) (fun r1 h1 hp hro => ?_)
        obtain ⟨rfl, rfl⟩ := hp
        dsimp only [Option.toList_some, Option.toList_none, List.cons_append, List.nil_append]
        exact Go.ret none trivial rfl d_WM_meet_63 (pV_of hf)
    · have hf := ifp hf c_14
      refine g_aload_n d_WM_meet_17 rfl ?_
      refine g_aload_n d_WM_meet_18 rfl ?_
      obtain ⟨k_19, hf⟩ := gd_s hf
      obtain ⟨h_19_2, e_19_2, hf⟩ := clv_s hf
      refine g_callV (mz := mi_Unit_free) (e_Unit_free hw e_19_2) cw_WM_meet_Unit_free lm_WM_186 wI_Unit_free wV_Unit_free (ci := 6) k_19 (by decide) rfl rfl d_WM_meet_19 rfl rfl (by first | exact Nat.le_of_ble_eq_true rfl | simp [cat_rf, Value.category]) (fun r1 h1 hp hro => ?_)
      obtain ⟨rfl, rfl⟩ := hp
      dsimp only [Option.toList_some, Option.toList_none, List.cons_append, List.nil_append]
      refine g_aload_n d_WM_meet_22 rfl ?_
      obtain ⟨k_23, hf⟩ := gd_s hf
      obtain ⟨a_23_2, e_23_2, k_23_2, hf⟩ := rq_s hf
      refine fgs_WM_tally lf_WM_32 d_WM_meet_23 k_23 e_23_2 ?_
      refine g_dup (by first | rfl | exact cat_rf _) d_WM_meet_26 ?_
      refine fg_Tally_ended lf_WM_337 d_WM_meet_27 k_23_2 ?_
      refine g_iconst 1 d_WM_meet_30 (by decide) ?_
      refine g_iadd d_WM_meet_31 ?_
      refine fp_Tally_ended hw lf_WM_337 d_WM_meet_32 k_23_2 ?_
      have hf := pw_b hf
      refine g_goto 63 d_WM_meet_35 (by decide) ?_
      exact Go.ret none trivial rfl d_WM_meet_63 (pV_of hf)
  · subst c_6
    have hf := nu_n hf
    exact Go.ret none trivial rfl d_WM_meet_9 (pV_of hf)
abbrev mi_WM_go : MI := (⟨"WarpMill", "go", "(LWarpMill$Unit;LWarpMill$Warp;I)V"⟩, prog_1_method_22_code, 8, none, 5, 126)
def it_WM_go_0 : List (Nat × ClassFile.Instr × Nat) := [(0, .aload_n 2, 1), (1, .getfield 244, 3), (4, .astore 4, 2), (6, .aload 4, 2), (8, .ifnull (11), 3), (11, .aload 4, 2), (13, .getfield 248, 3), (16, .ifCond .ne (29), 3), (19, .aload_n 0, 1), (20, .getfield 32, 3), (23, .aload 4, 2), (25, .ifnonnull (7), 3), (28, .iconst 1, 1), (29, .goto (4), 3), (32, .iconst 2, 1), (33, .aload_n 2, 1), (34, .aload_n 2, 1), (35, .getfield 252, 3), (38, .invokestatic 255, 3), (41, .invokevirtual 258, 3), (44, .return_, 1), (45, .aload_n 2, 1), (46, .invokevirtual 262, 3), (49, .istore 5, 2)]
theorem id_WM_go_0 : ∀ q ∈ it_WM_go_0, decode prog_1_method_22_code q.1 = .ok q.2 := by decide +kernel
theorem d_WM_go_0 : decode prog_1_method_22_code 0 = .ok (.aload_n 2, 1) := id_WM_go_0 (0, .aload_n 2, 1) (List.mem_of_getElem? (i := 0) rfl)
theorem d_WM_go_1 : decode prog_1_method_22_code 1 = .ok (.getfield 244, 3) := id_WM_go_0 (1, .getfield 244, 3) (List.mem_of_getElem? (i := 1) rfl)
theorem d_WM_go_4 : decode prog_1_method_22_code 4 = .ok (.astore 4, 2) := id_WM_go_0 (4, .astore 4, 2) (List.mem_of_getElem? (i := 2) rfl)
theorem d_WM_go_6 : decode prog_1_method_22_code 6 = .ok (.aload 4, 2) := id_WM_go_0 (6, .aload 4, 2) (List.mem_of_getElem? (i := 3) rfl)
theorem d_WM_go_8 : decode prog_1_method_22_code 8 = .ok (.ifnull (11), 3) := id_WM_go_0 (8, .ifnull (11), 3) (List.mem_of_getElem? (i := 4) rfl)
theorem d_WM_go_11 : decode prog_1_method_22_code 11 = .ok (.aload 4, 2) := id_WM_go_0 (11, .aload 4, 2) (List.mem_of_getElem? (i := 5) rfl)
theorem d_WM_go_13 : decode prog_1_method_22_code 13 = .ok (.getfield 248, 3) := id_WM_go_0 (13, .getfield 248, 3) (List.mem_of_getElem? (i := 6) rfl)
theorem d_WM_go_16 : decode prog_1_method_22_code 16 = .ok (.ifCond .ne (29), 3) := id_WM_go_0 (16, .ifCond .ne (29), 3) (List.mem_of_getElem? (i := 7) rfl)
theorem d_WM_go_19 : decode prog_1_method_22_code 19 = .ok (.aload_n 0, 1) := id_WM_go_0 (19, .aload_n 0, 1) (List.mem_of_getElem? (i := 8) rfl)
theorem d_WM_go_20 : decode prog_1_method_22_code 20 = .ok (.getfield 32, 3) := id_WM_go_0 (20, .getfield 32, 3) (List.mem_of_getElem? (i := 9) rfl)
theorem d_WM_go_23 : decode prog_1_method_22_code 23 = .ok (.aload 4, 2) := id_WM_go_0 (23, .aload 4, 2) (List.mem_of_getElem? (i := 10) rfl)
theorem d_WM_go_25 : decode prog_1_method_22_code 25 = .ok (.ifnonnull (7), 3) := id_WM_go_0 (25, .ifnonnull (7), 3) (List.mem_of_getElem? (i := 11) rfl)
theorem d_WM_go_28 : decode prog_1_method_22_code 28 = .ok (.iconst 1, 1) := id_WM_go_0 (28, .iconst 1, 1) (List.mem_of_getElem? (i := 12) rfl)
theorem d_WM_go_29 : decode prog_1_method_22_code 29 = .ok (.goto (4), 3) := id_WM_go_0 (29, .goto (4), 3) (List.mem_of_getElem? (i := 13) rfl)
theorem d_WM_go_32 : decode prog_1_method_22_code 32 = .ok (.iconst 2, 1) := id_WM_go_0 (32, .iconst 2, 1) (List.mem_of_getElem? (i := 14) rfl)
theorem d_WM_go_33 : decode prog_1_method_22_code 33 = .ok (.aload_n 2, 1) := id_WM_go_0 (33, .aload_n 2, 1) (List.mem_of_getElem? (i := 15) rfl)
theorem d_WM_go_34 : decode prog_1_method_22_code 34 = .ok (.aload_n 2, 1) := id_WM_go_0 (34, .aload_n 2, 1) (List.mem_of_getElem? (i := 16) rfl)
theorem d_WM_go_35 : decode prog_1_method_22_code 35 = .ok (.getfield 252, 3) := id_WM_go_0 (35, .getfield 252, 3) (List.mem_of_getElem? (i := 17) rfl)
theorem d_WM_go_38 : decode prog_1_method_22_code 38 = .ok (.invokestatic 255, 3) := id_WM_go_0 (38, .invokestatic 255, 3) (List.mem_of_getElem? (i := 18) rfl)
theorem d_WM_go_41 : decode prog_1_method_22_code 41 = .ok (.invokevirtual 258, 3) := id_WM_go_0 (41, .invokevirtual 258, 3) (List.mem_of_getElem? (i := 19) rfl)
theorem d_WM_go_44 : decode prog_1_method_22_code 44 = .ok (.return_, 1) := id_WM_go_0 (44, .return_, 1) (List.mem_of_getElem? (i := 20) rfl)
theorem d_WM_go_45 : decode prog_1_method_22_code 45 = .ok (.aload_n 2, 1) := id_WM_go_0 (45, .aload_n 2, 1) (List.mem_of_getElem? (i := 21) rfl)
theorem d_WM_go_46 : decode prog_1_method_22_code 46 = .ok (.invokevirtual 262, 3) := id_WM_go_0 (46, .invokevirtual 262, 3) (List.mem_of_getElem? (i := 22) rfl)
theorem d_WM_go_49 : decode prog_1_method_22_code 49 = .ok (.istore 5, 2) := id_WM_go_0 (49, .istore 5, 2) (List.mem_of_getElem? (i := 23) rfl)
def it_WM_go_1 : List (Nat × ClassFile.Instr × Nat) := [(51, .aload_n 0, 1), (52, .aload_n 2, 1), (53, .aload 4, 2), (55, .iload 5, 2), (57, .invokevirtual 265, 3), (60, .istore 6, 2), (62, .iload 6, 2), (64, .ifCond .eq (30), 3), (67, .aload_n 0, 1), (68, .getfield 32, 3), (71, .aload 4, 2), (73, .getfield 269, 3), (76, .ifCond .eq (7), 3), (79, .iconst 3, 1), (80, .goto (4), 3), (83, .iconst 4, 1), (84, .aload_n 2, 1), (85, .iload 6, 2), (87, .invokestatic 255, 3), (90, .invokevirtual 258, 3), (93, .return_, 1), (94, .aload_n 0, 1), (95, .getfield 32, 3), (98, .aload_n 2, 1)]
theorem id_WM_go_1 : ∀ q ∈ it_WM_go_1, decode prog_1_method_22_code q.1 = .ok q.2 := by decide +kernel
theorem d_WM_go_51 : decode prog_1_method_22_code 51 = .ok (.aload_n 0, 1) := id_WM_go_1 (51, .aload_n 0, 1) (List.mem_of_getElem? (i := 0) rfl)
theorem d_WM_go_52 : decode prog_1_method_22_code 52 = .ok (.aload_n 2, 1) := id_WM_go_1 (52, .aload_n 2, 1) (List.mem_of_getElem? (i := 1) rfl)
theorem d_WM_go_53 : decode prog_1_method_22_code 53 = .ok (.aload 4, 2) := id_WM_go_1 (53, .aload 4, 2) (List.mem_of_getElem? (i := 2) rfl)
theorem d_WM_go_55 : decode prog_1_method_22_code 55 = .ok (.iload 5, 2) := id_WM_go_1 (55, .iload 5, 2) (List.mem_of_getElem? (i := 3) rfl)
theorem d_WM_go_57 : decode prog_1_method_22_code 57 = .ok (.invokevirtual 265, 3) := id_WM_go_1 (57, .invokevirtual 265, 3) (List.mem_of_getElem? (i := 4) rfl)
theorem d_WM_go_60 : decode prog_1_method_22_code 60 = .ok (.istore 6, 2) := id_WM_go_1 (60, .istore 6, 2) (List.mem_of_getElem? (i := 5) rfl)
theorem d_WM_go_62 : decode prog_1_method_22_code 62 = .ok (.iload 6, 2) := id_WM_go_1 (62, .iload 6, 2) (List.mem_of_getElem? (i := 6) rfl)
theorem d_WM_go_64 : decode prog_1_method_22_code 64 = .ok (.ifCond .eq (30), 3) := id_WM_go_1 (64, .ifCond .eq (30), 3) (List.mem_of_getElem? (i := 7) rfl)
theorem d_WM_go_67 : decode prog_1_method_22_code 67 = .ok (.aload_n 0, 1) := id_WM_go_1 (67, .aload_n 0, 1) (List.mem_of_getElem? (i := 8) rfl)
theorem d_WM_go_68 : decode prog_1_method_22_code 68 = .ok (.getfield 32, 3) := id_WM_go_1 (68, .getfield 32, 3) (List.mem_of_getElem? (i := 9) rfl)
theorem d_WM_go_71 : decode prog_1_method_22_code 71 = .ok (.aload 4, 2) := id_WM_go_1 (71, .aload 4, 2) (List.mem_of_getElem? (i := 10) rfl)
theorem d_WM_go_73 : decode prog_1_method_22_code 73 = .ok (.getfield 269, 3) := id_WM_go_1 (73, .getfield 269, 3) (List.mem_of_getElem? (i := 11) rfl)
theorem d_WM_go_76 : decode prog_1_method_22_code 76 = .ok (.ifCond .eq (7), 3) := id_WM_go_1 (76, .ifCond .eq (7), 3) (List.mem_of_getElem? (i := 12) rfl)
theorem d_WM_go_79 : decode prog_1_method_22_code 79 = .ok (.iconst 3, 1) := id_WM_go_1 (79, .iconst 3, 1) (List.mem_of_getElem? (i := 13) rfl)
theorem d_WM_go_80 : decode prog_1_method_22_code 80 = .ok (.goto (4), 3) := id_WM_go_1 (80, .goto (4), 3) (List.mem_of_getElem? (i := 14) rfl)
theorem d_WM_go_83 : decode prog_1_method_22_code 83 = .ok (.iconst 4, 1) := id_WM_go_1 (83, .iconst 4, 1) (List.mem_of_getElem? (i := 15) rfl)
theorem d_WM_go_84 : decode prog_1_method_22_code 84 = .ok (.aload_n 2, 1) := id_WM_go_1 (84, .aload_n 2, 1) (List.mem_of_getElem? (i := 16) rfl)
theorem d_WM_go_85 : decode prog_1_method_22_code 85 = .ok (.iload 6, 2) := id_WM_go_1 (85, .iload 6, 2) (List.mem_of_getElem? (i := 17) rfl)
theorem d_WM_go_87 : decode prog_1_method_22_code 87 = .ok (.invokestatic 255, 3) := id_WM_go_1 (87, .invokestatic 255, 3) (List.mem_of_getElem? (i := 18) rfl)
theorem d_WM_go_90 : decode prog_1_method_22_code 90 = .ok (.invokevirtual 258, 3) := id_WM_go_1 (90, .invokevirtual 258, 3) (List.mem_of_getElem? (i := 19) rfl)
theorem d_WM_go_93 : decode prog_1_method_22_code 93 = .ok (.return_, 1) := id_WM_go_1 (93, .return_, 1) (List.mem_of_getElem? (i := 20) rfl)
theorem d_WM_go_94 : decode prog_1_method_22_code 94 = .ok (.aload_n 0, 1) := id_WM_go_1 (94, .aload_n 0, 1) (List.mem_of_getElem? (i := 21) rfl)
theorem d_WM_go_95 : decode prog_1_method_22_code 95 = .ok (.getfield 32, 3) := id_WM_go_1 (95, .getfield 32, 3) (List.mem_of_getElem? (i := 22) rfl)
theorem d_WM_go_98 : decode prog_1_method_22_code 98 = .ok (.aload_n 2, 1) := id_WM_go_1 (98, .aload_n 2, 1) (List.mem_of_getElem? (i := 23) rfl)
def it_WM_go_2 : List (Nat × ClassFile.Instr × Nat) := [(99, .getfield 252, 3), (102, .iload 5, 2), (104, .invokevirtual 272, 3), (107, .aload_n 1, 1), (108, .dup, 1), (109, .getfield 275, 3), (112, .iconst 1, 1), (113, .iadd, 1), (114, .putfield 275, 3), (117, .aload_n 2, 1), (118, .iload 5, 2), (120, .invokevirtual 278, 3), (123, .aload 4, 2), (125, .getfield 281, 3), (128, .istore 7, 2), (130, .aload 4, 2), (132, .getfield 284, 3), (135, .ifCond .eq (29), 3), (138, .aload_n 2, 1), (139, .iload 5, 2), (141, .invokevirtual 287, 3), (144, .aload_n 1, 1), (145, .aload_n 2, 1), (146, .iload 5, 2)]
theorem id_WM_go_2 : ∀ q ∈ it_WM_go_2, decode prog_1_method_22_code q.1 = .ok q.2 := by decide +kernel
theorem d_WM_go_99 : decode prog_1_method_22_code 99 = .ok (.getfield 252, 3) := id_WM_go_2 (99, .getfield 252, 3) (List.mem_of_getElem? (i := 0) rfl)
theorem d_WM_go_102 : decode prog_1_method_22_code 102 = .ok (.iload 5, 2) := id_WM_go_2 (102, .iload 5, 2) (List.mem_of_getElem? (i := 1) rfl)
theorem d_WM_go_104 : decode prog_1_method_22_code 104 = .ok (.invokevirtual 272, 3) := id_WM_go_2 (104, .invokevirtual 272, 3) (List.mem_of_getElem? (i := 2) rfl)
theorem d_WM_go_107 : decode prog_1_method_22_code 107 = .ok (.aload_n 1, 1) := id_WM_go_2 (107, .aload_n 1, 1) (List.mem_of_getElem? (i := 3) rfl)
theorem d_WM_go_108 : decode prog_1_method_22_code 108 = .ok (.dup, 1) := id_WM_go_2 (108, .dup, 1) (List.mem_of_getElem? (i := 4) rfl)
theorem d_WM_go_109 : decode prog_1_method_22_code 109 = .ok (.getfield 275, 3) := id_WM_go_2 (109, .getfield 275, 3) (List.mem_of_getElem? (i := 5) rfl)
theorem d_WM_go_112 : decode prog_1_method_22_code 112 = .ok (.iconst 1, 1) := id_WM_go_2 (112, .iconst 1, 1) (List.mem_of_getElem? (i := 6) rfl)
theorem d_WM_go_113 : decode prog_1_method_22_code 113 = .ok (.iadd, 1) := id_WM_go_2 (113, .iadd, 1) (List.mem_of_getElem? (i := 7) rfl)
theorem d_WM_go_114 : decode prog_1_method_22_code 114 = .ok (.putfield 275, 3) := id_WM_go_2 (114, .putfield 275, 3) (List.mem_of_getElem? (i := 8) rfl)
theorem d_WM_go_117 : decode prog_1_method_22_code 117 = .ok (.aload_n 2, 1) := id_WM_go_2 (117, .aload_n 2, 1) (List.mem_of_getElem? (i := 9) rfl)
theorem d_WM_go_118 : decode prog_1_method_22_code 118 = .ok (.iload 5, 2) := id_WM_go_2 (118, .iload 5, 2) (List.mem_of_getElem? (i := 10) rfl)
theorem d_WM_go_120 : decode prog_1_method_22_code 120 = .ok (.invokevirtual 278, 3) := id_WM_go_2 (120, .invokevirtual 278, 3) (List.mem_of_getElem? (i := 11) rfl)
theorem d_WM_go_123 : decode prog_1_method_22_code 123 = .ok (.aload 4, 2) := id_WM_go_2 (123, .aload 4, 2) (List.mem_of_getElem? (i := 12) rfl)
theorem d_WM_go_125 : decode prog_1_method_22_code 125 = .ok (.getfield 281, 3) := id_WM_go_2 (125, .getfield 281, 3) (List.mem_of_getElem? (i := 13) rfl)
theorem d_WM_go_128 : decode prog_1_method_22_code 128 = .ok (.istore 7, 2) := id_WM_go_2 (128, .istore 7, 2) (List.mem_of_getElem? (i := 14) rfl)
theorem d_WM_go_130 : decode prog_1_method_22_code 130 = .ok (.aload 4, 2) := id_WM_go_2 (130, .aload 4, 2) (List.mem_of_getElem? (i := 15) rfl)
theorem d_WM_go_132 : decode prog_1_method_22_code 132 = .ok (.getfield 284, 3) := id_WM_go_2 (132, .getfield 284, 3) (List.mem_of_getElem? (i := 16) rfl)
theorem d_WM_go_135 : decode prog_1_method_22_code 135 = .ok (.ifCond .eq (29), 3) := id_WM_go_2 (135, .ifCond .eq (29), 3) (List.mem_of_getElem? (i := 17) rfl)
theorem d_WM_go_138 : decode prog_1_method_22_code 138 = .ok (.aload_n 2, 1) := id_WM_go_2 (138, .aload_n 2, 1) (List.mem_of_getElem? (i := 18) rfl)
theorem d_WM_go_139 : decode prog_1_method_22_code 139 = .ok (.iload 5, 2) := id_WM_go_2 (139, .iload 5, 2) (List.mem_of_getElem? (i := 19) rfl)
theorem d_WM_go_141 : decode prog_1_method_22_code 141 = .ok (.invokevirtual 287, 3) := id_WM_go_2 (141, .invokevirtual 287, 3) (List.mem_of_getElem? (i := 20) rfl)
theorem d_WM_go_144 : decode prog_1_method_22_code 144 = .ok (.aload_n 1, 1) := id_WM_go_2 (144, .aload_n 1, 1) (List.mem_of_getElem? (i := 21) rfl)
theorem d_WM_go_145 : decode prog_1_method_22_code 145 = .ok (.aload_n 2, 1) := id_WM_go_2 (145, .aload_n 2, 1) (List.mem_of_getElem? (i := 22) rfl)
theorem d_WM_go_146 : decode prog_1_method_22_code 146 = .ok (.iload 5, 2) := id_WM_go_2 (146, .iload 5, 2) (List.mem_of_getElem? (i := 23) rfl)
def it_WM_go_3 : List (Nat × ClassFile.Instr × Nat) := [(148, .aload_n 0, 1), (149, .getfield 10, 3), (152, .getfield 290, 3), (155, .iload_n 3, 1), (156, .invokevirtual 293, 3), (159, .istore 7, 2), (161, .goto (40), 3), (164, .aload 4, 2), (166, .getfield 297, 3), (169, .ifCond .eq (26), 3), (172, .aload_n 0, 1), (173, .getfield 25, 3), (176, .aload_n 2, 1), (177, .iload 5, 2), (179, .iload_n 3, 1), (180, .aload_n 0, 1), (181, .getfield 10, 3), (184, .getfield 152, 3), (187, .invokevirtual 300, 3), (190, .istore 7, 2), (192, .goto (9), 3), (195, .aload_n 2, 1), (196, .iload 5, 2), (198, .invokevirtual 303, 3)]
theorem id_WM_go_3 : ∀ q ∈ it_WM_go_3, decode prog_1_method_22_code q.1 = .ok q.2 := by decide +kernel
theorem d_WM_go_148 : decode prog_1_method_22_code 148 = .ok (.aload_n 0, 1) := id_WM_go_3 (148, .aload_n 0, 1) (List.mem_of_getElem? (i := 0) rfl)
theorem d_WM_go_149 : decode prog_1_method_22_code 149 = .ok (.getfield 10, 3) := id_WM_go_3 (149, .getfield 10, 3) (List.mem_of_getElem? (i := 1) rfl)
theorem d_WM_go_152 : decode prog_1_method_22_code 152 = .ok (.getfield 290, 3) := id_WM_go_3 (152, .getfield 290, 3) (List.mem_of_getElem? (i := 2) rfl)
theorem d_WM_go_155 : decode prog_1_method_22_code 155 = .ok (.iload_n 3, 1) := id_WM_go_3 (155, .iload_n 3, 1) (List.mem_of_getElem? (i := 3) rfl)
theorem d_WM_go_156 : decode prog_1_method_22_code 156 = .ok (.invokevirtual 293, 3) := id_WM_go_3 (156, .invokevirtual 293, 3) (List.mem_of_getElem? (i := 4) rfl)
theorem d_WM_go_159 : decode prog_1_method_22_code 159 = .ok (.istore 7, 2) := id_WM_go_3 (159, .istore 7, 2) (List.mem_of_getElem? (i := 5) rfl)
theorem d_WM_go_161 : decode prog_1_method_22_code 161 = .ok (.goto (40), 3) := id_WM_go_3 (161, .goto (40), 3) (List.mem_of_getElem? (i := 6) rfl)
theorem d_WM_go_164 : decode prog_1_method_22_code 164 = .ok (.aload 4, 2) := id_WM_go_3 (164, .aload 4, 2) (List.mem_of_getElem? (i := 7) rfl)
theorem d_WM_go_166 : decode prog_1_method_22_code 166 = .ok (.getfield 297, 3) := id_WM_go_3 (166, .getfield 297, 3) (List.mem_of_getElem? (i := 8) rfl)
theorem d_WM_go_169 : decode prog_1_method_22_code 169 = .ok (.ifCond .eq (26), 3) := id_WM_go_3 (169, .ifCond .eq (26), 3) (List.mem_of_getElem? (i := 9) rfl)
theorem d_WM_go_172 : decode prog_1_method_22_code 172 = .ok (.aload_n 0, 1) := id_WM_go_3 (172, .aload_n 0, 1) (List.mem_of_getElem? (i := 10) rfl)
theorem d_WM_go_173 : decode prog_1_method_22_code 173 = .ok (.getfield 25, 3) := id_WM_go_3 (173, .getfield 25, 3) (List.mem_of_getElem? (i := 11) rfl)
theorem d_WM_go_176 : decode prog_1_method_22_code 176 = .ok (.aload_n 2, 1) := id_WM_go_3 (176, .aload_n 2, 1) (List.mem_of_getElem? (i := 12) rfl)
theorem d_WM_go_177 : decode prog_1_method_22_code 177 = .ok (.iload 5, 2) := id_WM_go_3 (177, .iload 5, 2) (List.mem_of_getElem? (i := 13) rfl)
theorem d_WM_go_179 : decode prog_1_method_22_code 179 = .ok (.iload_n 3, 1) := id_WM_go_3 (179, .iload_n 3, 1) (List.mem_of_getElem? (i := 14) rfl)
theorem d_WM_go_180 : decode prog_1_method_22_code 180 = .ok (.aload_n 0, 1) := id_WM_go_3 (180, .aload_n 0, 1) (List.mem_of_getElem? (i := 15) rfl)
theorem d_WM_go_181 : decode prog_1_method_22_code 181 = .ok (.getfield 10, 3) := id_WM_go_3 (181, .getfield 10, 3) (List.mem_of_getElem? (i := 16) rfl)
theorem d_WM_go_184 : decode prog_1_method_22_code 184 = .ok (.getfield 152, 3) := id_WM_go_3 (184, .getfield 152, 3) (List.mem_of_getElem? (i := 17) rfl)
theorem d_WM_go_187 : decode prog_1_method_22_code 187 = .ok (.invokevirtual 300, 3) := id_WM_go_3 (187, .invokevirtual 300, 3) (List.mem_of_getElem? (i := 18) rfl)
theorem d_WM_go_190 : decode prog_1_method_22_code 190 = .ok (.istore 7, 2) := id_WM_go_3 (190, .istore 7, 2) (List.mem_of_getElem? (i := 19) rfl)
theorem d_WM_go_192 : decode prog_1_method_22_code 192 = .ok (.goto (9), 3) := id_WM_go_3 (192, .goto (9), 3) (List.mem_of_getElem? (i := 20) rfl)
theorem d_WM_go_195 : decode prog_1_method_22_code 195 = .ok (.aload_n 2, 1) := id_WM_go_3 (195, .aload_n 2, 1) (List.mem_of_getElem? (i := 21) rfl)
theorem d_WM_go_196 : decode prog_1_method_22_code 196 = .ok (.iload 5, 2) := id_WM_go_3 (196, .iload 5, 2) (List.mem_of_getElem? (i := 22) rfl)
theorem d_WM_go_198 : decode prog_1_method_22_code 198 = .ok (.invokevirtual 303, 3) := id_WM_go_3 (198, .invokevirtual 303, 3) (List.mem_of_getElem? (i := 23) rfl)
def it_WM_go_4 : List (Nat × ClassFile.Instr × Nat) := [(201, .aload_n 2, 1), (202, .iload_n 3, 1), (203, .iload 7, 2), (205, .iadd, 1), (206, .invokevirtual 306, 3), (209, .aload 4, 2), (211, .getfield 269, 3), (214, .ifCond .eq (11), 3), (217, .aload_n 1, 1), (218, .iload_n 3, 1), (219, .iload 7, 2), (221, .iadd, 1), (222, .putfield 309, 3), (225, .aload_n 0, 1), (226, .aload_n 2, 1), (227, .getfield 312, 3), (230, .invokevirtual 316, 3), (233, .aload_n 2, 1), (234, .aload_n 0, 1), (235, .getfield 18, 3), (238, .invokevirtual 319, 3), (241, .return_, 1)]
theorem id_WM_go_4 : ∀ q ∈ it_WM_go_4, decode prog_1_method_22_code q.1 = .ok q.2 := by decide +kernel
theorem d_WM_go_201 : decode prog_1_method_22_code 201 = .ok (.aload_n 2, 1) := id_WM_go_4 (201, .aload_n 2, 1) (List.mem_of_getElem? (i := 0) rfl)
theorem d_WM_go_202 : decode prog_1_method_22_code 202 = .ok (.iload_n 3, 1) := id_WM_go_4 (202, .iload_n 3, 1) (List.mem_of_getElem? (i := 1) rfl)
theorem d_WM_go_203 : decode prog_1_method_22_code 203 = .ok (.iload 7, 2) := id_WM_go_4 (203, .iload 7, 2) (List.mem_of_getElem? (i := 2) rfl)
theorem d_WM_go_205 : decode prog_1_method_22_code 205 = .ok (.iadd, 1) := id_WM_go_4 (205, .iadd, 1) (List.mem_of_getElem? (i := 3) rfl)
theorem d_WM_go_206 : decode prog_1_method_22_code 206 = .ok (.invokevirtual 306, 3) := id_WM_go_4 (206, .invokevirtual 306, 3) (List.mem_of_getElem? (i := 4) rfl)
theorem d_WM_go_209 : decode prog_1_method_22_code 209 = .ok (.aload 4, 2) := id_WM_go_4 (209, .aload 4, 2) (List.mem_of_getElem? (i := 5) rfl)
theorem d_WM_go_211 : decode prog_1_method_22_code 211 = .ok (.getfield 269, 3) := id_WM_go_4 (211, .getfield 269, 3) (List.mem_of_getElem? (i := 6) rfl)
theorem d_WM_go_214 : decode prog_1_method_22_code 214 = .ok (.ifCond .eq (11), 3) := id_WM_go_4 (214, .ifCond .eq (11), 3) (List.mem_of_getElem? (i := 7) rfl)
theorem d_WM_go_217 : decode prog_1_method_22_code 217 = .ok (.aload_n 1, 1) := id_WM_go_4 (217, .aload_n 1, 1) (List.mem_of_getElem? (i := 8) rfl)
theorem d_WM_go_218 : decode prog_1_method_22_code 218 = .ok (.iload_n 3, 1) := id_WM_go_4 (218, .iload_n 3, 1) (List.mem_of_getElem? (i := 9) rfl)
theorem d_WM_go_219 : decode prog_1_method_22_code 219 = .ok (.iload 7, 2) := id_WM_go_4 (219, .iload 7, 2) (List.mem_of_getElem? (i := 10) rfl)
theorem d_WM_go_221 : decode prog_1_method_22_code 221 = .ok (.iadd, 1) := id_WM_go_4 (221, .iadd, 1) (List.mem_of_getElem? (i := 11) rfl)
theorem d_WM_go_222 : decode prog_1_method_22_code 222 = .ok (.putfield 309, 3) := id_WM_go_4 (222, .putfield 309, 3) (List.mem_of_getElem? (i := 12) rfl)
theorem d_WM_go_225 : decode prog_1_method_22_code 225 = .ok (.aload_n 0, 1) := id_WM_go_4 (225, .aload_n 0, 1) (List.mem_of_getElem? (i := 13) rfl)
theorem d_WM_go_226 : decode prog_1_method_22_code 226 = .ok (.aload_n 2, 1) := id_WM_go_4 (226, .aload_n 2, 1) (List.mem_of_getElem? (i := 14) rfl)
theorem d_WM_go_227 : decode prog_1_method_22_code 227 = .ok (.getfield 312, 3) := id_WM_go_4 (227, .getfield 312, 3) (List.mem_of_getElem? (i := 15) rfl)
theorem d_WM_go_230 : decode prog_1_method_22_code 230 = .ok (.invokevirtual 316, 3) := id_WM_go_4 (230, .invokevirtual 316, 3) (List.mem_of_getElem? (i := 16) rfl)
theorem d_WM_go_233 : decode prog_1_method_22_code 233 = .ok (.aload_n 2, 1) := id_WM_go_4 (233, .aload_n 2, 1) (List.mem_of_getElem? (i := 17) rfl)
theorem d_WM_go_234 : decode prog_1_method_22_code 234 = .ok (.aload_n 0, 1) := id_WM_go_4 (234, .aload_n 0, 1) (List.mem_of_getElem? (i := 18) rfl)
theorem d_WM_go_235 : decode prog_1_method_22_code 235 = .ok (.getfield 18, 3) := id_WM_go_4 (235, .getfield 18, 3) (List.mem_of_getElem? (i := 19) rfl)
theorem d_WM_go_238 : decode prog_1_method_22_code 238 = .ok (.invokevirtual 319, 3) := id_WM_go_4 (238, .invokevirtual 319, 3) (List.mem_of_getElem? (i := 20) rfl)
theorem d_WM_go_241 : decode prog_1_method_22_code 241 = .ok (.return_, 1) := id_WM_go_4 (241, .return_, 1) (List.mem_of_getElem? (i := 21) rfl)
theorem wC_WM_go : Cond.code ⟨"WarpMill", "go", "(LWarpMill$Unit;LWarpMill$Warp;I)V"⟩ prog_1_method_22_code 8 (none) ∈ lw_tb := mem_tb 832 (by decide +kernel) rfl
theorem cw_WM_go_WM_leastOf : cW mi_WM_go mi_WM_leastOf 1 := ⟨wC_WM_leastOf, wi_WM, ⟨by decide, by decide, by decide +kernel⟩, by decide, by decide⟩
theorem cw_WM_go_Tally_trap : cW mi_WM_go mi_Tally_trap 3 := ⟨wC_Tally_trap, wi_Tally, ⟨by decide, by decide, by decide +kernel⟩, by decide, by decide⟩
theorem cw_WM_go_Warp_doing : cW mi_WM_go mi_Warp_doing 0 := ⟨wC_Warp_doing, wi_Warp, ⟨by decide, by decide, by decide +kernel⟩, by decide, by decide⟩
theorem cw_WM_go_WM_unableOf : cW mi_WM_go mi_WM_unableOf 3 := ⟨wC_WM_unableOf, wi_WM, ⟨by decide, by decide, by decide +kernel⟩, by decide, by decide⟩
theorem cw_WM_go_Tally_count : cW mi_WM_go mi_Tally_count 2 := ⟨wC_Tally_count, wi_Tally, ⟨by decide, by decide, by decide +kernel⟩, by decide, by decide⟩
theorem cw_WM_go_Warp_advance : cW mi_WM_go mi_Warp_advance 1 := ⟨wC_Warp_advance, wi_Warp, ⟨by decide, by decide, by decide +kernel⟩, by decide, by decide⟩
theorem cw_WM_go_Warp_useShared : cW mi_WM_go mi_Warp_useShared 1 := ⟨wC_Warp_useShared, wi_Warp, ⟨by decide, by decide, by decide +kernel⟩, by decide, by decide⟩
theorem cw_WM_go_Unit_crowd : cW mi_WM_go mi_Unit_crowd 4 := ⟨wC_Unit_crowd, wi_Unit, ⟨by decide, by decide, by decide +kernel⟩, by decide, by decide⟩
theorem cw_WM_go_Memory_ask : cW mi_WM_go mi_Memory_ask 4 := ⟨wC_Memory_ask, wi_Memory, ⟨by decide, by decide, by decide +kernel⟩, by decide, by decide⟩
theorem cw_WM_go_Warp_act : cW mi_WM_go mi_Warp_act 1 := ⟨wC_Warp_act, wi_Warp, ⟨by decide, by decide, by decide +kernel⟩, by decide, by decide⟩
theorem cw_WM_go_Warp_mark : cW mi_WM_go mi_Warp_mark 1 := ⟨wC_Warp_mark, wi_Warp, ⟨by decide, by decide, by decide +kernel⟩, by decide, by decide⟩
theorem cw_WM_go_WM_meet : cW mi_WM_go mi_WM_meet 1 := ⟨wC_WM_meet, wi_WM, ⟨by decide, by decide, by decide +kernel⟩, by decide, by decide⟩
theorem cw_WM_go_Warp_gather : cW mi_WM_go mi_Warp_gather 1 := ⟨wC_Warp_gather, wi_Warp, ⟨by decide, by decide, by decide +kernel⟩, by decide, by decide⟩
def b_WM_go_33 (F : Nat) (x2 : Nat) (s0 : Nat) (s1 : Int32) (h : Hp) : Option Hp := gd (hK h x2 = 9) <| cl (f_WM_leastOf F (hI h 518 x2) h) fun v_38 h_38 => gd (hK h_38 s0 = 6) <| clv (f_Tally_trap F s0 s1 (some x2) v_38 h_38) fun h_41_2 => some h_41_2
set_option maxRecDepth 100000 in
set_option maxHeartbeats 4000000 in
theorem e_WM_go_33 {G : Gl} (hw : gF G) {h0 : Hp} {F : Nat} {h' : Hp}   {x2 : Nat} {s0 : Nat} {s1 : Int32} {h : Hp} (hf : b_WM_go_33 F x2 s0 s1 h = some h') : Go G mi_WM_go h0 (pV h') h 33 [(2, .ref x2)] [.int s1, .ref s0] := by
  unfold b_WM_go_33 at hf
  refine g_aload_n d_WM_go_33 rfl ?_
  refine g_aload_n d_WM_go_34 rfl ?_
  obtain ⟨k_35, hf⟩ := gd_s hf
  refine fg_Warp_group lf_WM_252 d_WM_go_35 k_35 ?_
  obtain ⟨v_38, h_38, e_38, hf⟩ := cl_s hf
  refine g_callS (mz := mi_WM_leastOf) (e_WM_leastOf e_38) cw_WM_go_WM_leastOf lm_WM_255 wS_WM_leastOf d_WM_go_38 rfl rfl (by first | exact Nat.le_of_ble_eq_true rfl | simp [cat_rf, Value.category]) (fun r1 h1 hp hro => ?_)
  obtain ⟨rfl, rfl⟩ := hp
  dsimp only [Option.toList_some, Option.toList_none, List.cons_append, List.nil_append]
  obtain ⟨k_41, hf⟩ := gd_s hf
  obtain ⟨h_41_2, e_41_2, hf⟩ := clv_s hf
  refine g_callV (mz := mi_Tally_trap) (e_Tally_trap hw e_41_2) cw_WM_go_Tally_trap lm_WM_258 wI_Tally_trap wV_Tally_trap (ci := 5) k_41 (by decide) rfl rfl d_WM_go_41 rfl rfl (by first | exact Nat.le_of_ble_eq_true rfl | simp [cat_rf, Value.category]) (fun r1 h1 hp hro => ?_)
  obtain ⟨rfl, rfl⟩ := hp
  dsimp only [Option.toList_some, Option.toList_none, List.cons_append, List.nil_append]
  exact Go.ret none trivial rfl d_WM_go_44 (pV_of hf)
def b_WM_go_19 (F : Nat) (x0 : Nat) (x2 : Nat) (x4 : Option Nat) (h : Hp) : Option Hp := gd (hK h x0 = 1) <| rq h (hR h 3 x0) 6 fun a_20_2 => nu x4 (b_WM_go_33 F x2 a_20_2 (1 : Int32) h) fun a_25 => (b_WM_go_33 F x2 a_20_2 (2 : Int32) h)
set_option maxRecDepth 100000 in
set_option maxHeartbeats 4000000 in
theorem e_WM_go_19 {G : Gl} (hw : gF G) {h0 : Hp} {F : Nat} {h' : Hp}   {x0 : Nat} {x2 : Nat} {x4 : Option Nat} {h : Hp} (hf : b_WM_go_19 F x0 x2 x4 h = some h') : Go G mi_WM_go h0 (pV h') h 19 [(0, .ref x0), (2, .ref x2), (4, va_rf x4)] [] := by
  unfold b_WM_go_19 at hf
  refine g_aload_n d_WM_go_19 rfl ?_
  obtain ⟨k_20, hf⟩ := gd_s hf
  obtain ⟨a_20_2, e_20_2, k_20_2, hf⟩ := rq_s hf
  refine fgs_WM_tally lf_WM_32 d_WM_go_20 k_20 e_20_2 ?_
  refine g_aloadq (r := x4) d_WM_go_23 rfl ?_
  refine g_ifnonnull (r := x4) 32 d_WM_go_25 (by decide) (fun a_25 c_25 => ?_) (fun c_25 => ?_)
  · subst c_25
    have hf := nu_s hf
    refine g_iconst 2 d_WM_go_32 (by decide) ?_
    refine Go.locals [1] rfl ?_
    have key := e_WM_go_33 hw (G := G) (h0 := h0)  hf
    exact key
  · subst c_25
    have hf := nu_n hf
    refine g_iconst 1 d_WM_go_28 (by decide) ?_
    refine g_goto 33 d_WM_go_29 (by decide) ?_
    refine Go.locals [1] rfl ?_
    have key := e_WM_go_33 hw (G := G) (h0 := h0)  hf
    exact key
def b_WM_go_84 (F : Nat) (x2 : Nat) (x6 : Int32) (s0 : Nat) (s1 : Int32) (h : Hp) : Option Hp := cl (f_WM_leastOf F x6 h) fun v_87 h_87 => gd (hK h_87 s0 = 6) <| clv (f_Tally_trap F s0 s1 (some x2) v_87 h_87) fun h_90_2 => some h_90_2
set_option maxRecDepth 100000 in
set_option maxHeartbeats 4000000 in
theorem e_WM_go_84 {G : Gl} (hw : gF G) {h0 : Hp} {F : Nat} {h' : Hp}   {x2 : Nat} {x6 : Int32} {s0 : Nat} {s1 : Int32} {h : Hp} (hf : b_WM_go_84 F x2 x6 s0 s1 h = some h') : Go G mi_WM_go h0 (pV h') h 84 [(2, .ref x2), (6, .int x6)] [.int s1, .ref s0] := by
  unfold b_WM_go_84 at hf
  refine g_aload_n d_WM_go_84 rfl ?_
  refine g_iload d_WM_go_85 rfl ?_
  obtain ⟨v_87, h_87, e_87, hf⟩ := cl_s hf
  refine g_callS (mz := mi_WM_leastOf) (e_WM_leastOf e_87) cw_WM_go_WM_leastOf lm_WM_255 wS_WM_leastOf d_WM_go_87 rfl rfl (by first | exact Nat.le_of_ble_eq_true rfl | simp [cat_rf, Value.category]) (fun r1 h1 hp hro => ?_)
  obtain ⟨rfl, rfl⟩ := hp
  dsimp only [Option.toList_some, Option.toList_none, List.cons_append, List.nil_append]
  obtain ⟨k_90, hf⟩ := gd_s hf
  obtain ⟨h_90_2, e_90_2, hf⟩ := clv_s hf
  refine g_callV (mz := mi_Tally_trap) (e_Tally_trap hw e_90_2) cw_WM_go_Tally_trap lm_WM_258 wI_Tally_trap wV_Tally_trap (ci := 5) k_90 (by decide) rfl rfl d_WM_go_90 rfl rfl (by first | exact Nat.le_of_ble_eq_true rfl | simp [cat_rf, Value.category]) (fun r1 h1 hp hro => ?_)
  obtain ⟨rfl, rfl⟩ := hp
  dsimp only [Option.toList_some, Option.toList_none, List.cons_append, List.nil_append]
  exact Go.ret none trivial rfl d_WM_go_93 (pV_of hf)
def b_WM_go_225 (F : Nat) (x0 : Nat) (x2 : Nat) (h : Hp) : Option Hp := gd (hK h x2 = 9) <| pw (hR h 512 x2) fun o_227_2 => gd (hK h x0 = 1) <| clv (f_WM_meet F x0 o_227_2 h) fun h_230_2 => gd (hK h_230_2 x0 = 1) <| rq h_230_2 (hR h_230_2 1 x0) 120 fun a_235_2 => gd (hK h_230_2 x2 = 9) <| clv (f_Warp_gather F x2 (some a_235_2) h_230_2) fun h_238_2 => some h_238_2
set_option maxRecDepth 100000 in
set_option maxHeartbeats 4000000 in
theorem e_WM_go_225 {G : Gl} (hw : gF G) {h0 : Hp} {F : Nat} {h' : Hp}   {x0 : Nat} {x2 : Nat} {h : Hp} (hf : b_WM_go_225 F x0 x2 h = some h') : Go G mi_WM_go h0 (pV h') h 225 [(0, .ref x0), (2, .ref x2)] [] := by
  unfold b_WM_go_225 at hf
  refine g_aload_n d_WM_go_225 rfl ?_
  refine g_aload_n d_WM_go_226 rfl ?_
  obtain ⟨k_227, hf⟩ := gd_s hf
  obtain ⟨o_227_2, e_227_2, hf⟩ := pw_s hf
  refine fg_Warp_block lf_WM_312 d_WM_go_227 k_227 ?_
  refine Go.vr e_227_2 ?_
  obtain ⟨k_230, hf⟩ := gd_s hf
  obtain ⟨h_230_2, e_230_2, hf⟩ := clv_s hf
  refine g_callV (mz := mi_WM_meet) (e_WM_meet hw e_230_2) cw_WM_go_WM_meet lm_WM_316 wI_WM_meet wV_WM_meet (ci := 0) k_230 (by decide) rfl rfl d_WM_go_230 rfl rfl (by first | exact Nat.le_of_ble_eq_true rfl | simp [cat_rf, Value.category]) (fun r1 h1 hp hro => ?_)
  obtain ⟨rfl, rfl⟩ := hp
  dsimp only [Option.toList_some, Option.toList_none, List.cons_append, List.nil_append]
  refine g_aload_n d_WM_go_233 rfl ?_
  refine g_aload_n d_WM_go_234 rfl ?_
  obtain ⟨k_235, hf⟩ := gd_s hf
  obtain ⟨a_235_2, e_235_2, k_235_2, hf⟩ := rq_s hf
  refine fgs_WM_kernel lf_WM_18 d_WM_go_235 k_235 e_235_2 ?_
  obtain ⟨k_238, hf⟩ := gd_s hf
  obtain ⟨h_238_2, e_238_2, hf⟩ := clv_s hf
  refine g_callV (mz := mi_Warp_gather) (e_Warp_gather hw e_238_2) cw_WM_go_Warp_gather lm_WM_319 wI_Warp_gather wV_Warp_gather (ci := 8) k_238 (by decide) rfl rfl d_WM_go_238 rfl rfl (by first | exact Nat.le_of_ble_eq_true rfl | simp [cat_rf, Value.category]) (fun r1 h1 hp hro => ?_)
  obtain ⟨rfl, rfl⟩ := hp
  dsimp only [Option.toList_some, Option.toList_none, List.cons_append, List.nil_append]
  exact Go.ret none trivial rfl d_WM_go_241 (pV_of hf)
def b_WM_go_201 (F : Nat) (x0 : Nat) (x1 : Nat) (x2 : Nat) (x3 : Int32) (x4 : Nat) (x7 : Int32) (h : Hp) : Option Hp := gd (hK h x2 = 9) <| clv (f_Warp_mark F x2 (x3 + x7) h) fun h_206_2 => gd (hK h_206_2 x4 = 10) <| if (hI h_206_2 584 x4) = 0 then (b_WM_go_225 F x0 x2 h_206_2) else (gd (hK h_206_2 x1 = 7) <| pw (sI h_206_2 390 x1 (x3 + x7)) fun h_222_2 => b_WM_go_225 F x0 x2 h_222_2)
set_option maxRecDepth 100000 in
set_option maxHeartbeats 4000000 in
theorem e_WM_go_201 {G : Gl} (hw : gF G) {h0 : Hp} {F : Nat} {h' : Hp}   {x0 : Nat} {x1 : Nat} {x2 : Nat} {x3 : Int32} {x4 : Nat} {x7 : Int32} {h : Hp} (hf : b_WM_go_201 F x0 x1 x2 x3 x4 x7 h = some h') : Go G mi_WM_go h0 (pV h') h 201 [(0, .ref x0), (1, .ref x1), (2, .ref x2), (3, .int x3), (4, .ref x4), (7, .int x7)] [] := by
  unfold b_WM_go_201 at hf
  refine g_aload_n d_WM_go_201 rfl ?_
  refine g_iload_n d_WM_go_202 rfl ?_
  refine g_iload d_WM_go_203 rfl ?_
  refine g_iadd d_WM_go_205 ?_
  obtain ⟨k_206, hf⟩ := gd_s hf
  obtain ⟨h_206_2, e_206_2, hf⟩ := clv_s hf
  refine g_callV (mz := mi_Warp_mark) (e_Warp_mark hw e_206_2) cw_WM_go_Warp_mark lm_WM_306 wI_Warp_mark wV_Warp_mark (ci := 8) k_206 (by decide) rfl rfl d_WM_go_206 rfl rfl (by first | exact Nat.le_of_ble_eq_true rfl | simp [cat_rf, Value.category]) (fun r1 h1 hp hro => ?_)
  obtain ⟨rfl, rfl⟩ := hp
  dsimp only [Option.toList_some, Option.toList_none, List.cons_append, List.nil_append]
  refine g_aload d_WM_go_209 rfl ?_
  obtain ⟨k_211, hf⟩ := gd_s hf
  refine fg_Word_divides lf_WM_269 d_WM_go_211 k_211 ?_
  refine g_if_eq 225 d_WM_go_214 (by decide) (fun c_214 => ?_) (fun c_214 => ?_)
  · have hf := ifp hf c_214
    refine Go.locals [0, 2] rfl ?_
    have key := e_WM_go_225 hw (G := G) (h0 := h0)  hf
    exact key
  · have hf := ifn hf c_214
    refine g_aload_n d_WM_go_217 rfl ?_
    refine g_iload_n d_WM_go_218 rfl ?_
    refine g_iload d_WM_go_219 rfl ?_
    refine g_iadd d_WM_go_221 ?_
    obtain ⟨k_222, hf⟩ := gd_s hf
    refine fp_Unit_dividerTick hw lf_WM_309 d_WM_go_222 k_222 ?_
    have hf := pw_b hf
    refine Go.locals [0, 2] rfl ?_
    have key := e_WM_go_225 hw (G := G) (h0 := h0)  hf
    exact key
def f_WM_go (F : Nat) (x0 : Nat) (x1 : Option Nat) (x2 : Option Nat) (x3 : Int32) (h : Hp) : Option Hp := rq h x2 9 fun a_1 => pw (hR h 520 a_1) fun o_1_2 => nu o_1_2 (b_WM_go_19 F x0 a_1 none h) fun a_8 => (gd (hK h a_8 = 10) <| if (hI h 581 a_8) = 0 then (b_WM_go_19 F x0 a_1 (some a_8) h) else (cl (f_Warp_doing F a_1 h) fun v_46 h_46 => gd (hK h_46 x0 = 1) <| cl (f_WM_unableOf F x0 (some a_1) (some a_8) v_46 h_46) fun v_57_2 h_57_2 => if v_57_2 = 0 then (gd (hK h_57_2 x0 = 1) <| rq h_57_2 (hR h_57_2 3 x0) 6 fun a_95_2 => gd (hK h_57_2 a_1 = 9) <| clv (f_Tally_count F a_95_2 (hI h_57_2 518 a_1) v_46 h_57_2) fun h_104 => rq h_104 x1 7 fun a_109 => pw (sI h_104 389 a_109 ((hI h_104 389 a_109) + (1 : Int32))) fun h_114 => gd (hK h_114 a_1 = 9) <| clv (f_Warp_advance F a_1 v_46 h_114) fun h_120_2 => gd (hK h_120_2 a_8 = 10) <| if (hI h_120_2 586 a_8) = 0 then (if (hI h_120_2 585 a_8) = 0 then (gd (hK h_120_2 a_1 = 9) <| clv (f_Warp_act F a_1 v_46 h_120_2) fun h_198_2 => b_WM_go_201 F x0 a_109 a_1 x3 a_8 (hI h_120_2 590 a_8) h_198_2) else (gd (hK h_120_2 x0 = 1) <| rq h_120_2 (hR h_120_2 2 x0) 3 fun a_173_2 => rq h_120_2 (hR h_120_2 0 x0) 2 fun a_181 => cl (f_Memory_ask F a_173_2 (some a_1) v_46 x3 (hI h_120_2 68 a_181) h_120_2) fun v_187 h_187 => b_WM_go_201 F x0 a_109 a_1 x3 a_8 v_187 h_187)) else (gd (hK h_120_2 a_1 = 9) <| clv (f_Warp_useShared F a_1 v_46 h_120_2) fun h_141_2 => gd (hK h_141_2 x0 = 1) <| rq h_141_2 (hR h_141_2 0 x0) 2 fun a_149_2 => gd (hK h_141_2 a_109 = 7) <| cl (f_Unit_crowd F a_109 (some a_1) v_46 (hI h_141_2 67 a_149_2) x3 h_141_2) fun v_156_2 h_156_2 => b_WM_go_201 F x0 a_109 a_1 x3 a_8 v_156_2 h_156_2)) else (gd (hK h_57_2 x0 = 1) <| rq h_57_2 (hR h_57_2 3 x0) 6 fun a_68_2 => gd (hK h_57_2 a_8 = 10) <| if (hI h_57_2 584 a_8) = 0 then (b_WM_go_84 F a_1 v_57_2 a_68_2 (4 : Int32) h_57_2) else (b_WM_go_84 F a_1 v_57_2 a_68_2 (3 : Int32) h_57_2))))
set_option maxRecDepth 100000 in
set_option maxHeartbeats 4000000 in
theorem e_WM_go {G : Gl} (hw : gF G) {F : Nat} {h' : Hp} {x0 : Nat} {x1 : Option Nat} {x2 : Option Nat} {x3 : Int32} {h : Hp} (hf : f_WM_go F x0 x1 x2 x3 h = some h') : Ex G mi_WM_go [.ref x0, va_rf x1, va_rf x2, .int x3] h (pV h') := by
  unfold f_WM_go at hf
  refine Ex.of nmV (by decide) (by cases x1 <;> cases x2 <;> exact Nat.le_of_ble_eq_true rfl) ?_
  rw [show lv_args 0 [.ref x0, va_rf x1, va_rf x2, .int x3] = [(0, .ref x0), (1, va_rf x1), (2, va_rf x2), (3, .int x3)] from by cases x1 <;> cases x2 <;> rfl]
  show Go G mi_WM_go h _ h 0 [(0, .ref x0), (1, va_rf x1), (2, va_rf x2), (3, .int x3)] []
  refine g_aload_nq (r := x2) d_WM_go_0 rfl ?_
  obtain ⟨a_1, rfl, k_1, hf⟩ := rq_s hf
  obtain ⟨o_1_2, e_1_2, hf⟩ := pw_s hf
  refine fg_Warp_word lf_WM_244 d_WM_go_1 k_1 ?_
  refine Go.vr e_1_2 ?_
  refine g_astoreq (r := o_1_2) d_WM_go_4 (by decide) ?_
  show Go _ _ _ _ _ _ [(0, _), (1, _), (2, _), (3, _), (4, _)] _
  refine g_aloadq (r := o_1_2) d_WM_go_6 rfl ?_
  refine g_ifnull (r := o_1_2) 19 d_WM_go_8 (by decide) (fun c_8 => ?_) (fun a_8 c_8 => ?_)
  · subst c_8
    have hf := nu_n hf
    refine Go.locals [0, 2, 4] rfl ?_
    have key := e_WM_go_19 hw (G := G) (h0 := h)  hf
    exact key
  · subst c_8
    have hf := nu_s hf
    refine g_aload d_WM_go_11 rfl ?_
    obtain ⟨k_13, hf⟩ := gd_s hf
    refine fg_Word_known lf_WM_248 d_WM_go_13 k_13 ?_
    refine g_if_ne 45 d_WM_go_16 (by decide) (fun c_16 => ?_) (fun c_16 => ?_)
    · have hf := ifn hf c_16
      refine g_aload_n d_WM_go_45 rfl ?_
      obtain ⟨v_46, h_46, e_46, hf⟩ := cl_s hf
      refine g_callV (mz := mi_Warp_doing) (e_Warp_doing e_46) cw_WM_go_Warp_doing lm_WM_262 wI_Warp_doing wV_Warp_doing (ci := 8) k_1 (by decide) rfl rfl d_WM_go_46 rfl rfl (by first | exact Nat.le_of_ble_eq_true rfl | simp [cat_rf, Value.category]) (fun r1 h1 hp hro => ?_)
      obtain ⟨rfl, rfl⟩ := hp
      dsimp only [Option.toList_some, Option.toList_none, List.cons_append, List.nil_append]
      refine g_istore d_WM_go_49 (by decide) ?_
      show Go _ _ _ _ _ _ [(0, _), (1, _), (2, _), (3, _), (4, _), (5, _)] _
      refine g_aload_n d_WM_go_51 rfl ?_
      refine g_aload_n d_WM_go_52 rfl ?_
      refine g_aload d_WM_go_53 rfl ?_
      refine g_iload d_WM_go_55 rfl ?_
      obtain ⟨k_57, hf⟩ := gd_s hf
      obtain ⟨v_57_2, h_57_2, e_57_2, hf⟩ := cl_s hf
      refine g_callV (mz := mi_WM_unableOf) (e_WM_unableOf hw e_57_2) cw_WM_go_WM_unableOf lm_WM_265 wI_WM_unableOf wV_WM_unableOf (ci := 0) k_57 (by decide) rfl rfl d_WM_go_57 rfl rfl (by first | exact Nat.le_of_ble_eq_true rfl | simp [cat_rf, Value.category]) (fun r1 h1 hp hro => ?_)
      obtain ⟨rfl, rfl⟩ := hp
      dsimp only [Option.toList_some, Option.toList_none, List.cons_append, List.nil_append]
      refine g_istore d_WM_go_60 (by decide) ?_
      show Go _ _ _ _ _ _ [(0, _), (1, _), (2, _), (3, _), (4, _), (5, _), (6, _)] _
      refine g_iload d_WM_go_62 rfl ?_
      refine g_if_eq 94 d_WM_go_64 (by decide) (fun c_64 => ?_) (fun c_64 => ?_)
      · have hf := ifp hf c_64
        refine g_aload_n d_WM_go_94 rfl ?_
        obtain ⟨k_95, hf⟩ := gd_s hf
        obtain ⟨a_95_2, e_95_2, k_95_2, hf⟩ := rq_s hf
        refine fgs_WM_tally lf_WM_32 d_WM_go_95 k_95 e_95_2 ?_
        refine g_aload_n d_WM_go_98 rfl ?_
        obtain ⟨k_99, hf⟩ := gd_s hf
        refine fg_Warp_group lf_WM_252 d_WM_go_99 k_99 ?_
        refine g_iload d_WM_go_102 rfl ?_
        obtain ⟨h_104, e_104, hf⟩ := clv_s hf
        refine g_callV (mz := mi_Tally_count) (e_Tally_count hw e_104) cw_WM_go_Tally_count lm_WM_272 wI_Tally_count wV_Tally_count (ci := 5) k_95_2 (by decide) rfl rfl d_WM_go_104 rfl rfl (by first | exact Nat.le_of_ble_eq_true rfl | simp [cat_rf, Value.category]) (fun r1 h1 hp hro => ?_)
        obtain ⟨rfl, rfl⟩ := hp
        dsimp only [Option.toList_some, Option.toList_none, List.cons_append, List.nil_append]
        refine g_aload_nq (r := x1) d_WM_go_107 rfl ?_
        refine g_dup (by first | rfl | exact cat_rf _) d_WM_go_108 ?_
        obtain ⟨a_109, rfl, k_109, hf⟩ := rq_s hf
        refine fg_Unit_went lf_WM_275 d_WM_go_109 k_109 ?_
        refine g_iconst 1 d_WM_go_112 (by decide) ?_
        refine g_iadd d_WM_go_113 ?_
        refine fp_Unit_went hw lf_WM_275 d_WM_go_114 k_109 ?_
        have hf := pw_b hf
        refine g_aload_n d_WM_go_117 rfl ?_
        refine g_iload d_WM_go_118 rfl ?_
        obtain ⟨k_120, hf⟩ := gd_s hf
        obtain ⟨h_120_2, e_120_2, hf⟩ := clv_s hf
        refine g_callV (mz := mi_Warp_advance) (e_Warp_advance hw e_120_2) cw_WM_go_Warp_advance lm_WM_278 wI_Warp_advance wV_Warp_advance (ci := 8) k_120 (by decide) rfl rfl d_WM_go_120 rfl rfl (by first | exact Nat.le_of_ble_eq_true rfl | simp [cat_rf, Value.category]) (fun r1 h1 hp hro => ?_)
        obtain ⟨rfl, rfl⟩ := hp
        dsimp only [Option.toList_some, Option.toList_none, List.cons_append, List.nil_append]
        refine g_aload d_WM_go_123 rfl ?_
        obtain ⟨k_125, hf⟩ := gd_s hf
        refine fg_Word_wait lf_WM_281 d_WM_go_125 k_125 ?_
        refine g_istore d_WM_go_128 (by decide) ?_
        show Go _ _ _ _ _ _ [(0, _), (1, _), (2, _), (3, _), (4, _), (5, _), (6, _), (7, _)] _
        refine g_aload d_WM_go_130 rfl ?_
        refine fg_Word_usesShared lf_WM_284 d_WM_go_132 k_125 ?_
        refine g_if_eq 164 d_WM_go_135 (by decide) (fun c_135 => ?_) (fun c_135 => ?_)
        · have hf := ifp hf c_135
          refine g_aload d_WM_go_164 rfl ?_
          refine fg_Word_usesMemory lf_WM_297 d_WM_go_166 k_125 ?_
          refine g_if_eq 195 d_WM_go_169 (by decide) (fun c_169 => ?_) (fun c_169 => ?_)
          · have hf := ifp hf c_169
            refine g_aload_n d_WM_go_195 rfl ?_
            refine g_iload d_WM_go_196 rfl ?_
            obtain ⟨k_198, hf⟩ := gd_s hf
            obtain ⟨h_198_2, e_198_2, hf⟩ := clv_s hf
            refine g_callV (mz := mi_Warp_act) (e_Warp_act hw e_198_2) cw_WM_go_Warp_act lm_WM_303 wI_Warp_act wV_Warp_act (ci := 8) k_198 (by decide) rfl rfl d_WM_go_198 rfl rfl (by first | exact Nat.le_of_ble_eq_true rfl | simp [cat_rf, Value.category]) (fun r1 h1 hp hro => ?_)
            obtain ⟨rfl, rfl⟩ := hp
            dsimp only [Option.toList_some, Option.toList_none, List.cons_append, List.nil_append]
            refine Go.locals [0, 1, 2, 3, 4, 7] rfl ?_
            have key := e_WM_go_201 hw (G := G) (h0 := h)  hf
            exact key
          · have hf := ifn hf c_169
            refine g_aload_n d_WM_go_172 rfl ?_
            obtain ⟨k_173, hf⟩ := gd_s hf
            obtain ⟨a_173_2, e_173_2, k_173_2, hf⟩ := rq_s hf
            refine fgs_WM_memory lf_WM_25 d_WM_go_173 k_173 e_173_2 ?_
            refine g_aload_n d_WM_go_176 rfl ?_
            refine g_iload d_WM_go_177 rfl ?_
            refine g_iload_n d_WM_go_179 rfl ?_
            refine g_aload_n d_WM_go_180 rfl ?_
            obtain ⟨a_181, e_181, k_181, hf⟩ := rq_s hf
            refine fgs_WM_sizes lf_WM_10 d_WM_go_181 k_173 e_181 ?_
            refine fg_Sizes_gates lf_WM_152 d_WM_go_184 k_181 ?_
            obtain ⟨v_187, h_187, e_187, hf⟩ := cl_s hf
            refine g_callV (mz := mi_Memory_ask) (e_Memory_ask hw e_187) cw_WM_go_Memory_ask lm_WM_300 wI_Memory_ask wV_Memory_ask (ci := 2) k_173_2 (by decide) rfl rfl d_WM_go_187 rfl rfl (by first | exact Nat.le_of_ble_eq_true rfl | simp [cat_rf, Value.category]) (fun r1 h1 hp hro => ?_)
            obtain ⟨rfl, rfl⟩ := hp
            dsimp only [Option.toList_some, Option.toList_none, List.cons_append, List.nil_append]
            refine g_istore d_WM_go_190 (by decide) ?_
            show Go _ _ _ _ _ _ [(0, _), (1, _), (2, _), (3, _), (4, _), (5, _), (6, _), (7, _)] _
            refine g_goto 201 d_WM_go_192 (by decide) ?_
            refine Go.locals [0, 1, 2, 3, 4, 7] rfl ?_
            have key := e_WM_go_201 hw (G := G) (h0 := h)  hf
            exact key
        · have hf := ifn hf c_135
          refine g_aload_n d_WM_go_138 rfl ?_
          refine g_iload d_WM_go_139 rfl ?_
          obtain ⟨k_141, hf⟩ := gd_s hf
          obtain ⟨h_141_2, e_141_2, hf⟩ := clv_s hf
          refine g_callV (mz := mi_Warp_useShared) (e_Warp_useShared hw e_141_2) cw_WM_go_Warp_useShared lm_WM_287 wI_Warp_useShared wV_Warp_useShared (ci := 8) k_141 (by decide) rfl rfl d_WM_go_141 rfl rfl (by first | exact Nat.le_of_ble_eq_true rfl | simp [cat_rf, Value.category]) (fun r1 h1 hp hro => ?_)
          obtain ⟨rfl, rfl⟩ := hp
          dsimp only [Option.toList_some, Option.toList_none, List.cons_append, List.nil_append]
          refine g_aload_n d_WM_go_144 rfl ?_
          refine g_aload_n d_WM_go_145 rfl ?_
          refine g_iload d_WM_go_146 rfl ?_
          refine g_aload_n d_WM_go_148 rfl ?_
          obtain ⟨k_149, hf⟩ := gd_s hf
          obtain ⟨a_149_2, e_149_2, k_149_2, hf⟩ := rq_s hf
          refine fgs_WM_sizes lf_WM_10 d_WM_go_149 k_149 e_149_2 ?_
          refine fg_Sizes_banks lf_WM_290 d_WM_go_152 k_149_2 ?_
          refine g_iload_n d_WM_go_155 rfl ?_
          obtain ⟨k_156, hf⟩ := gd_s hf
          obtain ⟨v_156_2, h_156_2, e_156_2, hf⟩ := cl_s hf
          refine g_callV (mz := mi_Unit_crowd) (e_Unit_crowd hw e_156_2) cw_WM_go_Unit_crowd lm_WM_293 wI_Unit_crowd wV_Unit_crowd (ci := 6) k_156 (by decide) rfl rfl d_WM_go_156 rfl rfl (by first | exact Nat.le_of_ble_eq_true rfl | simp [cat_rf, Value.category]) (fun r1 h1 hp hro => ?_)
          obtain ⟨rfl, rfl⟩ := hp
          dsimp only [Option.toList_some, Option.toList_none, List.cons_append, List.nil_append]
          refine g_istore d_WM_go_159 (by decide) ?_
          show Go _ _ _ _ _ _ [(0, _), (1, _), (2, _), (3, _), (4, _), (5, _), (6, _), (7, _)] _
          refine g_goto 201 d_WM_go_161 (by decide) ?_
          refine Go.locals [0, 1, 2, 3, 4, 7] rfl ?_
          have key := e_WM_go_201 hw (G := G) (h0 := h)  hf
          exact key
      · have hf := ifn hf c_64
        refine g_aload_n d_WM_go_67 rfl ?_
        obtain ⟨k_68, hf⟩ := gd_s hf
        obtain ⟨a_68_2, e_68_2, k_68_2, hf⟩ := rq_s hf
        refine fgs_WM_tally lf_WM_32 d_WM_go_68 k_68 e_68_2 ?_
        refine g_aload d_WM_go_71 rfl ?_
        obtain ⟨k_73, hf⟩ := gd_s hf
        refine fg_Word_divides lf_WM_269 d_WM_go_73 k_73 ?_
        refine g_if_eq 83 d_WM_go_76 (by decide) (fun c_76 => ?_) (fun c_76 => ?_)
        · have hf := ifp hf c_76
          refine g_iconst 4 d_WM_go_83 (by decide) ?_
          refine Go.locals [2, 6] rfl ?_
          have key := e_WM_go_84 hw (G := G) (h0 := h)  hf
          exact key
        · have hf := ifn hf c_76
          refine g_iconst 3 d_WM_go_79 (by decide) ?_
          refine g_goto 84 d_WM_go_80 (by decide) ?_
          refine Go.locals [2, 6] rfl ?_
          have key := e_WM_go_84 hw (G := G) (h0 := h)  hf
          exact key
    · have hf := ifp hf c_16
      refine Go.locals [0, 2, 4] rfl ?_
      have key := e_WM_go_19 hw (G := G) (h0 := h)  hf
      exact key
abbrev mi_Tally_endCycle : MI := (⟨"WarpMill$Tally", "endCycle", "(Z)V"⟩, prog_8_method_6_code, 2, none, 0, 0)
def it_Tally_endCycle_0 : List (Nat × ClassFile.Instr × Nat) := [(0, .aload_n 0, 1), (1, .dup, 1), (2, .getfield 27, 3), (5, .iconst 1, 1), (6, .iadd, 1), (7, .putfield 27, 3), (10, .aload_n 0, 1), (11, .dup, 1), (12, .getfield 75, 3), (15, .iconst 1, 1), (16, .iadd, 1), (17, .putfield 75, 3), (20, .aload_n 0, 1), (21, .getfield 39, 3), (24, .ifCond .eq (19), 3), (27, .aload_n 0, 1), (28, .iload_n 1, 1), (29, .ifCond .eq (7), 3), (32, .iconst 3, 1), (33, .goto (4), 3), (36, .iconst 4, 1), (37, .putfield 9, 3), (40, .goto (23), 3), (43, .aload_n 0, 1)]
theorem id_Tally_endCycle_0 : ∀ q ∈ it_Tally_endCycle_0, decode prog_8_method_6_code q.1 = .ok q.2 := by decide +kernel
theorem d_Tally_endCycle_0 : decode prog_8_method_6_code 0 = .ok (.aload_n 0, 1) := id_Tally_endCycle_0 (0, .aload_n 0, 1) (List.mem_of_getElem? (i := 0) rfl)
theorem d_Tally_endCycle_1 : decode prog_8_method_6_code 1 = .ok (.dup, 1) := id_Tally_endCycle_0 (1, .dup, 1) (List.mem_of_getElem? (i := 1) rfl)
theorem d_Tally_endCycle_2 : decode prog_8_method_6_code 2 = .ok (.getfield 27, 3) := id_Tally_endCycle_0 (2, .getfield 27, 3) (List.mem_of_getElem? (i := 2) rfl)
theorem d_Tally_endCycle_5 : decode prog_8_method_6_code 5 = .ok (.iconst 1, 1) := id_Tally_endCycle_0 (5, .iconst 1, 1) (List.mem_of_getElem? (i := 3) rfl)
theorem d_Tally_endCycle_6 : decode prog_8_method_6_code 6 = .ok (.iadd, 1) := id_Tally_endCycle_0 (6, .iadd, 1) (List.mem_of_getElem? (i := 4) rfl)
theorem d_Tally_endCycle_7 : decode prog_8_method_6_code 7 = .ok (.putfield 27, 3) := id_Tally_endCycle_0 (7, .putfield 27, 3) (List.mem_of_getElem? (i := 5) rfl)
theorem d_Tally_endCycle_10 : decode prog_8_method_6_code 10 = .ok (.aload_n 0, 1) := id_Tally_endCycle_0 (10, .aload_n 0, 1) (List.mem_of_getElem? (i := 6) rfl)
theorem d_Tally_endCycle_11 : decode prog_8_method_6_code 11 = .ok (.dup, 1) := id_Tally_endCycle_0 (11, .dup, 1) (List.mem_of_getElem? (i := 7) rfl)
theorem d_Tally_endCycle_12 : decode prog_8_method_6_code 12 = .ok (.getfield 75, 3) := id_Tally_endCycle_0 (12, .getfield 75, 3) (List.mem_of_getElem? (i := 8) rfl)
theorem d_Tally_endCycle_15 : decode prog_8_method_6_code 15 = .ok (.iconst 1, 1) := id_Tally_endCycle_0 (15, .iconst 1, 1) (List.mem_of_getElem? (i := 9) rfl)
theorem d_Tally_endCycle_16 : decode prog_8_method_6_code 16 = .ok (.iadd, 1) := id_Tally_endCycle_0 (16, .iadd, 1) (List.mem_of_getElem? (i := 10) rfl)
theorem d_Tally_endCycle_17 : decode prog_8_method_6_code 17 = .ok (.putfield 75, 3) := id_Tally_endCycle_0 (17, .putfield 75, 3) (List.mem_of_getElem? (i := 11) rfl)
theorem d_Tally_endCycle_20 : decode prog_8_method_6_code 20 = .ok (.aload_n 0, 1) := id_Tally_endCycle_0 (20, .aload_n 0, 1) (List.mem_of_getElem? (i := 12) rfl)
theorem d_Tally_endCycle_21 : decode prog_8_method_6_code 21 = .ok (.getfield 39, 3) := id_Tally_endCycle_0 (21, .getfield 39, 3) (List.mem_of_getElem? (i := 13) rfl)
theorem d_Tally_endCycle_24 : decode prog_8_method_6_code 24 = .ok (.ifCond .eq (19), 3) := id_Tally_endCycle_0 (24, .ifCond .eq (19), 3) (List.mem_of_getElem? (i := 14) rfl)
theorem d_Tally_endCycle_27 : decode prog_8_method_6_code 27 = .ok (.aload_n 0, 1) := id_Tally_endCycle_0 (27, .aload_n 0, 1) (List.mem_of_getElem? (i := 15) rfl)
theorem d_Tally_endCycle_28 : decode prog_8_method_6_code 28 = .ok (.iload_n 1, 1) := id_Tally_endCycle_0 (28, .iload_n 1, 1) (List.mem_of_getElem? (i := 16) rfl)
theorem d_Tally_endCycle_29 : decode prog_8_method_6_code 29 = .ok (.ifCond .eq (7), 3) := id_Tally_endCycle_0 (29, .ifCond .eq (7), 3) (List.mem_of_getElem? (i := 17) rfl)
theorem d_Tally_endCycle_32 : decode prog_8_method_6_code 32 = .ok (.iconst 3, 1) := id_Tally_endCycle_0 (32, .iconst 3, 1) (List.mem_of_getElem? (i := 18) rfl)
theorem d_Tally_endCycle_33 : decode prog_8_method_6_code 33 = .ok (.goto (4), 3) := id_Tally_endCycle_0 (33, .goto (4), 3) (List.mem_of_getElem? (i := 19) rfl)
theorem d_Tally_endCycle_36 : decode prog_8_method_6_code 36 = .ok (.iconst 4, 1) := id_Tally_endCycle_0 (36, .iconst 4, 1) (List.mem_of_getElem? (i := 20) rfl)
theorem d_Tally_endCycle_37 : decode prog_8_method_6_code 37 = .ok (.putfield 9, 3) := id_Tally_endCycle_0 (37, .putfield 9, 3) (List.mem_of_getElem? (i := 21) rfl)
theorem d_Tally_endCycle_40 : decode prog_8_method_6_code 40 = .ok (.goto (23), 3) := id_Tally_endCycle_0 (40, .goto (23), 3) (List.mem_of_getElem? (i := 22) rfl)
theorem d_Tally_endCycle_43 : decode prog_8_method_6_code 43 = .ok (.aload_n 0, 1) := id_Tally_endCycle_0 (43, .aload_n 0, 1) (List.mem_of_getElem? (i := 23) rfl)
def it_Tally_endCycle_1 : List (Nat × ClassFile.Instr × Nat) := [(44, .getfield 24, 3), (47, .aload_n 0, 1), (48, .getfield 15, 3), (51, .if_icmp .ne (12), 3), (54, .iload_n 1, 1), (55, .ifCond .eq (8), 3), (58, .aload_n 0, 1), (59, .iconst 2, 1), (60, .putfield 9, 3), (63, .return_, 1)]
theorem id_Tally_endCycle_1 : ∀ q ∈ it_Tally_endCycle_1, decode prog_8_method_6_code q.1 = .ok q.2 := by decide +kernel
theorem d_Tally_endCycle_44 : decode prog_8_method_6_code 44 = .ok (.getfield 24, 3) := id_Tally_endCycle_1 (44, .getfield 24, 3) (List.mem_of_getElem? (i := 0) rfl)
theorem d_Tally_endCycle_47 : decode prog_8_method_6_code 47 = .ok (.aload_n 0, 1) := id_Tally_endCycle_1 (47, .aload_n 0, 1) (List.mem_of_getElem? (i := 1) rfl)
theorem d_Tally_endCycle_48 : decode prog_8_method_6_code 48 = .ok (.getfield 15, 3) := id_Tally_endCycle_1 (48, .getfield 15, 3) (List.mem_of_getElem? (i := 2) rfl)
theorem d_Tally_endCycle_51 : decode prog_8_method_6_code 51 = .ok (.if_icmp .ne (12), 3) := id_Tally_endCycle_1 (51, .if_icmp .ne (12), 3) (List.mem_of_getElem? (i := 3) rfl)
theorem d_Tally_endCycle_54 : decode prog_8_method_6_code 54 = .ok (.iload_n 1, 1) := id_Tally_endCycle_1 (54, .iload_n 1, 1) (List.mem_of_getElem? (i := 4) rfl)
theorem d_Tally_endCycle_55 : decode prog_8_method_6_code 55 = .ok (.ifCond .eq (8), 3) := id_Tally_endCycle_1 (55, .ifCond .eq (8), 3) (List.mem_of_getElem? (i := 5) rfl)
theorem d_Tally_endCycle_58 : decode prog_8_method_6_code 58 = .ok (.aload_n 0, 1) := id_Tally_endCycle_1 (58, .aload_n 0, 1) (List.mem_of_getElem? (i := 6) rfl)
theorem d_Tally_endCycle_59 : decode prog_8_method_6_code 59 = .ok (.iconst 2, 1) := id_Tally_endCycle_1 (59, .iconst 2, 1) (List.mem_of_getElem? (i := 7) rfl)
theorem d_Tally_endCycle_60 : decode prog_8_method_6_code 60 = .ok (.putfield 9, 3) := id_Tally_endCycle_1 (60, .putfield 9, 3) (List.mem_of_getElem? (i := 8) rfl)
theorem d_Tally_endCycle_63 : decode prog_8_method_6_code 63 = .ok (.return_, 1) := id_Tally_endCycle_1 (63, .return_, 1) (List.mem_of_getElem? (i := 9) rfl)
theorem wC_Tally_endCycle : Cond.code ⟨"WarpMill$Tally", "endCycle", "(Z)V"⟩ prog_8_method_6_code 2 (none) ∈ lw_tb := mem_tb 993 (by decide +kernel) rfl
def b_Tally_endCycle_37 (F : Nat) (s0 : Nat) (s1 : Int32) (h : Hp) : Option Hp := gd (hK h s0 = 6) <| pw (sI h 320 s0 s1) fun h_37_2 => some h_37_2
set_option maxRecDepth 100000 in
set_option maxHeartbeats 4000000 in
theorem e_Tally_endCycle_37 {G : Gl} (hw : gF G) {h0 : Hp} {F : Nat} {h' : Hp}   {s0 : Nat} {s1 : Int32} {h : Hp} (hf : b_Tally_endCycle_37 F s0 s1 h = some h') : Go G mi_Tally_endCycle h0 (pV h') h 37 [] [.int s1, .ref s0] := by
  unfold b_Tally_endCycle_37 at hf
  obtain ⟨k_37, hf⟩ := gd_s hf
  refine fp_Tally_status hw lf_Tally_9 d_Tally_endCycle_37 k_37 ?_
  have hf := pw_b hf
  refine g_goto 63 d_Tally_endCycle_40 (by decide) ?_
  exact Go.ret none trivial rfl d_Tally_endCycle_63 (pV_of hf)
def f_Tally_endCycle (F : Nat) (x0 : Nat) (x1 : Int32) (h : Hp) : Option Hp := gd (hK h x0 = 6) <| pw (sI h 325 x0 ((hI h 325 x0) + (1 : Int32))) fun h_7 => pw (sI h_7 326 x0 ((hI h_7 326 x0) + (1 : Int32))) fun h_17 => if (hI h_17 330 x0) = 0 then (if (hI h_17 324 x0) = (hI h_17 321 x0) then (if x1 = 0 then (some h_17) else (pw (sI h_17 320 x0 (2 : Int32)) fun h_60 => some h_60)) else (some h_17)) else (if x1 = 0 then (b_Tally_endCycle_37 F x0 (4 : Int32) h_17) else (b_Tally_endCycle_37 F x0 (3 : Int32) h_17))
set_option maxRecDepth 100000 in
set_option maxHeartbeats 4000000 in
theorem e_Tally_endCycle {G : Gl} (hw : gF G) {F : Nat} {h' : Hp} {x0 : Nat} {x1 : Int32} {h : Hp} (hf : f_Tally_endCycle F x0 x1 h = some h') : Ex G mi_Tally_endCycle [.ref x0, .int x1] h (pV h') := by
  unfold f_Tally_endCycle at hf
  refine Ex.of nmV (by decide) (Nat.le_of_ble_eq_true rfl) ?_
  show Go G mi_Tally_endCycle h _ h 0 [(0, .ref x0), (1, .int x1)] []
  refine g_aload_n d_Tally_endCycle_0 rfl ?_
  refine g_dup (by first | rfl | exact cat_rf _) d_Tally_endCycle_1 ?_
  obtain ⟨k_2, hf⟩ := gd_s hf
  refine fg_Tally_cycles lf_Tally_27 d_Tally_endCycle_2 k_2 ?_
  refine g_iconst 1 d_Tally_endCycle_5 (by decide) ?_
  refine g_iadd d_Tally_endCycle_6 ?_
  refine fp_Tally_cycles hw lf_Tally_27 d_Tally_endCycle_7 k_2 ?_
  have hf := pw_b hf
  refine g_aload_n d_Tally_endCycle_10 rfl ?_
  refine g_dup (by first | rfl | exact cat_rf _) d_Tally_endCycle_11 ?_
  refine fg_Tally_allCycles lf_Tally_75 d_Tally_endCycle_12 (kksI k_2) ?_
  refine g_iconst 1 d_Tally_endCycle_15 (by decide) ?_
  refine g_iadd d_Tally_endCycle_16 ?_
  refine fp_Tally_allCycles hw lf_Tally_75 d_Tally_endCycle_17 (kksI k_2) ?_
  have hf := pw_b hf
  refine g_aload_n d_Tally_endCycle_20 rfl ?_
  refine fg_Tally_why lf_Tally_39 d_Tally_endCycle_21 (kksI (kksI k_2)) ?_
  refine g_if_eq 43 d_Tally_endCycle_24 (by decide) (fun c_24 => ?_) (fun c_24 => ?_)
  · have hf := ifp hf c_24
    refine g_aload_n d_Tally_endCycle_43 rfl ?_
    refine fg_Tally_ended lf_Tally_24 d_Tally_endCycle_44 (kksI (kksI k_2)) ?_
    refine g_aload_n d_Tally_endCycle_47 rfl ?_
    refine fg_Tally_blocks lf_Tally_15 d_Tally_endCycle_48 (kksI (kksI k_2)) ?_
    refine g_icmp_ne 63 d_Tally_endCycle_51 (by decide) (fun c_51 => ?_) (fun c_51 => ?_)
    · have hf := ifn hf c_51
      exact Go.ret none trivial rfl d_Tally_endCycle_63 (pV_of hf)
    · have hf := ifp hf c_51
      refine g_iload_n d_Tally_endCycle_54 rfl ?_
      refine g_if_eq 63 d_Tally_endCycle_55 (by decide) (fun c_55 => ?_) (fun c_55 => ?_)
      · have hf := ifp hf c_55
        exact Go.ret none trivial rfl d_Tally_endCycle_63 (pV_of hf)
      · have hf := ifn hf c_55
        refine g_aload_n d_Tally_endCycle_58 rfl ?_
        refine g_iconst 2 d_Tally_endCycle_59 (by decide) ?_
        refine fp_Tally_status hw lf_Tally_9 d_Tally_endCycle_60 (kksI (kksI k_2)) ?_
        have hf := pw_b hf
        exact Go.ret none trivial rfl d_Tally_endCycle_63 (pV_of hf)
  · have hf := ifn hf c_24
    refine g_aload_n d_Tally_endCycle_27 rfl ?_
    refine g_iload_n d_Tally_endCycle_28 rfl ?_
    refine g_if_eq 36 d_Tally_endCycle_29 (by decide) (fun c_29 => ?_) (fun c_29 => ?_)
    · have hf := ifp hf c_29
      refine g_iconst 4 d_Tally_endCycle_36 (by decide) ?_
      refine Go.locals [] rfl ?_
      have key := e_Tally_endCycle_37 hw (G := G) (h0 := h)  hf
      exact key
    · have hf := ifn hf c_29
      refine g_iconst 3 d_Tally_endCycle_32 (by decide) ?_
      refine g_goto 37 d_Tally_endCycle_33 (by decide) ?_
      refine Go.locals [] rfl ?_
      have key := e_Tally_endCycle_37 hw (G := G) (h0 := h)  hf
      exact key
abbrev mi_WM_doCycle : MI := (⟨"WarpMill", "doCycle", "()V"⟩, prog_1_method_18_code, 4, none, 6, 153)
def it_WM_doCycle_0 : List (Nat × ClassFile.Instr × Nat) := [(0, .aload_n 0, 1), (1, .getfield 32, 3), (4, .getfield 190, 3), (7, .istore_n 1, 1), (8, .aload_n 0, 1), (9, .getfield 25, 3), (12, .iload_n 1, 1), (13, .invokevirtual 193, 3), (16, .aload_n 0, 1), (17, .getfield 32, 3), (20, .getfield 196, 3), (23, .ifCond .ne (63), 3), (26, .aload_n 0, 1), (27, .invokevirtual 199, 3), (30, .iconst 0, 1), (31, .istore_n 2, 1), (32, .iload_n 2, 1), (33, .aload_n 0, 1), (34, .getfield 10, 3), (37, .getfield 180, 3), (40, .if_icmp .ge (46), 3), (43, .aload_n 0, 1), (44, .getfield 32, 3), (47, .getfield 196, 3)]
theorem id_WM_doCycle_0 : ∀ q ∈ it_WM_doCycle_0, decode prog_1_method_18_code q.1 = .ok q.2 := by decide +kernel
theorem d_WM_doCycle_0 : decode prog_1_method_18_code 0 = .ok (.aload_n 0, 1) := id_WM_doCycle_0 (0, .aload_n 0, 1) (List.mem_of_getElem? (i := 0) rfl)
theorem d_WM_doCycle_1 : decode prog_1_method_18_code 1 = .ok (.getfield 32, 3) := id_WM_doCycle_0 (1, .getfield 32, 3) (List.mem_of_getElem? (i := 1) rfl)
theorem d_WM_doCycle_4 : decode prog_1_method_18_code 4 = .ok (.getfield 190, 3) := id_WM_doCycle_0 (4, .getfield 190, 3) (List.mem_of_getElem? (i := 2) rfl)
theorem d_WM_doCycle_7 : decode prog_1_method_18_code 7 = .ok (.istore_n 1, 1) := id_WM_doCycle_0 (7, .istore_n 1, 1) (List.mem_of_getElem? (i := 3) rfl)
theorem d_WM_doCycle_8 : decode prog_1_method_18_code 8 = .ok (.aload_n 0, 1) := id_WM_doCycle_0 (8, .aload_n 0, 1) (List.mem_of_getElem? (i := 4) rfl)
theorem d_WM_doCycle_9 : decode prog_1_method_18_code 9 = .ok (.getfield 25, 3) := id_WM_doCycle_0 (9, .getfield 25, 3) (List.mem_of_getElem? (i := 5) rfl)
theorem d_WM_doCycle_12 : decode prog_1_method_18_code 12 = .ok (.iload_n 1, 1) := id_WM_doCycle_0 (12, .iload_n 1, 1) (List.mem_of_getElem? (i := 6) rfl)
theorem d_WM_doCycle_13 : decode prog_1_method_18_code 13 = .ok (.invokevirtual 193, 3) := id_WM_doCycle_0 (13, .invokevirtual 193, 3) (List.mem_of_getElem? (i := 7) rfl)
theorem d_WM_doCycle_16 : decode prog_1_method_18_code 16 = .ok (.aload_n 0, 1) := id_WM_doCycle_0 (16, .aload_n 0, 1) (List.mem_of_getElem? (i := 8) rfl)
theorem d_WM_doCycle_17 : decode prog_1_method_18_code 17 = .ok (.getfield 32, 3) := id_WM_doCycle_0 (17, .getfield 32, 3) (List.mem_of_getElem? (i := 9) rfl)
theorem d_WM_doCycle_20 : decode prog_1_method_18_code 20 = .ok (.getfield 196, 3) := id_WM_doCycle_0 (20, .getfield 196, 3) (List.mem_of_getElem? (i := 10) rfl)
theorem d_WM_doCycle_23 : decode prog_1_method_18_code 23 = .ok (.ifCond .ne (63), 3) := id_WM_doCycle_0 (23, .ifCond .ne (63), 3) (List.mem_of_getElem? (i := 11) rfl)
theorem d_WM_doCycle_26 : decode prog_1_method_18_code 26 = .ok (.aload_n 0, 1) := id_WM_doCycle_0 (26, .aload_n 0, 1) (List.mem_of_getElem? (i := 12) rfl)
theorem d_WM_doCycle_27 : decode prog_1_method_18_code 27 = .ok (.invokevirtual 199, 3) := id_WM_doCycle_0 (27, .invokevirtual 199, 3) (List.mem_of_getElem? (i := 13) rfl)
theorem d_WM_doCycle_30 : decode prog_1_method_18_code 30 = .ok (.iconst 0, 1) := id_WM_doCycle_0 (30, .iconst 0, 1) (List.mem_of_getElem? (i := 14) rfl)
theorem d_WM_doCycle_31 : decode prog_1_method_18_code 31 = .ok (.istore_n 2, 1) := id_WM_doCycle_0 (31, .istore_n 2, 1) (List.mem_of_getElem? (i := 15) rfl)
theorem d_WM_doCycle_32 : decode prog_1_method_18_code 32 = .ok (.iload_n 2, 1) := id_WM_doCycle_0 (32, .iload_n 2, 1) (List.mem_of_getElem? (i := 16) rfl)
theorem d_WM_doCycle_33 : decode prog_1_method_18_code 33 = .ok (.aload_n 0, 1) := id_WM_doCycle_0 (33, .aload_n 0, 1) (List.mem_of_getElem? (i := 17) rfl)
theorem d_WM_doCycle_34 : decode prog_1_method_18_code 34 = .ok (.getfield 10, 3) := id_WM_doCycle_0 (34, .getfield 10, 3) (List.mem_of_getElem? (i := 18) rfl)
theorem d_WM_doCycle_37 : decode prog_1_method_18_code 37 = .ok (.getfield 180, 3) := id_WM_doCycle_0 (37, .getfield 180, 3) (List.mem_of_getElem? (i := 19) rfl)
theorem d_WM_doCycle_40 : decode prog_1_method_18_code 40 = .ok (.if_icmp .ge (46), 3) := id_WM_doCycle_0 (40, .if_icmp .ge (46), 3) (List.mem_of_getElem? (i := 20) rfl)
theorem d_WM_doCycle_43 : decode prog_1_method_18_code 43 = .ok (.aload_n 0, 1) := id_WM_doCycle_0 (43, .aload_n 0, 1) (List.mem_of_getElem? (i := 21) rfl)
theorem d_WM_doCycle_44 : decode prog_1_method_18_code 44 = .ok (.getfield 32, 3) := id_WM_doCycle_0 (44, .getfield 32, 3) (List.mem_of_getElem? (i := 22) rfl)
theorem d_WM_doCycle_47 : decode prog_1_method_18_code 47 = .ok (.getfield 196, 3) := id_WM_doCycle_0 (47, .getfield 196, 3) (List.mem_of_getElem? (i := 23) rfl)
def it_WM_doCycle_1 : List (Nat × ClassFile.Instr × Nat) := [(50, .ifCond .ne (36), 3), (53, .aload_n 0, 1), (54, .getfield 38, 3), (57, .iload_n 2, 1), (58, .aaload, 1), (59, .iload_n 1, 1), (60, .invokevirtual 202, 3), (63, .astore_n 3, 1), (64, .aload_n 3, 1), (65, .ifnull (15), 3), (68, .aload_n 0, 1), (69, .aload_n 0, 1), (70, .getfield 38, 3), (73, .iload_n 2, 1), (74, .aaload, 1), (75, .aload_n 3, 1), (76, .iload_n 1, 1), (77, .invokevirtual 205, 3), (80, .iinc 2 (1), 3), (83, .goto (-51), 3), (86, .aload_n 0, 1), (87, .getfield 32, 3), (90, .aload_n 0, 1), (91, .getfield 25, 3)]
theorem id_WM_doCycle_1 : ∀ q ∈ it_WM_doCycle_1, decode prog_1_method_18_code q.1 = .ok q.2 := by decide +kernel
theorem d_WM_doCycle_50 : decode prog_1_method_18_code 50 = .ok (.ifCond .ne (36), 3) := id_WM_doCycle_1 (50, .ifCond .ne (36), 3) (List.mem_of_getElem? (i := 0) rfl)
theorem d_WM_doCycle_53 : decode prog_1_method_18_code 53 = .ok (.aload_n 0, 1) := id_WM_doCycle_1 (53, .aload_n 0, 1) (List.mem_of_getElem? (i := 1) rfl)
theorem d_WM_doCycle_54 : decode prog_1_method_18_code 54 = .ok (.getfield 38, 3) := id_WM_doCycle_1 (54, .getfield 38, 3) (List.mem_of_getElem? (i := 2) rfl)
theorem d_WM_doCycle_57 : decode prog_1_method_18_code 57 = .ok (.iload_n 2, 1) := id_WM_doCycle_1 (57, .iload_n 2, 1) (List.mem_of_getElem? (i := 3) rfl)
theorem d_WM_doCycle_58 : decode prog_1_method_18_code 58 = .ok (.aaload, 1) := id_WM_doCycle_1 (58, .aaload, 1) (List.mem_of_getElem? (i := 4) rfl)
theorem d_WM_doCycle_59 : decode prog_1_method_18_code 59 = .ok (.iload_n 1, 1) := id_WM_doCycle_1 (59, .iload_n 1, 1) (List.mem_of_getElem? (i := 5) rfl)
theorem d_WM_doCycle_60 : decode prog_1_method_18_code 60 = .ok (.invokevirtual 202, 3) := id_WM_doCycle_1 (60, .invokevirtual 202, 3) (List.mem_of_getElem? (i := 6) rfl)
theorem d_WM_doCycle_63 : decode prog_1_method_18_code 63 = .ok (.astore_n 3, 1) := id_WM_doCycle_1 (63, .astore_n 3, 1) (List.mem_of_getElem? (i := 7) rfl)
theorem d_WM_doCycle_64 : decode prog_1_method_18_code 64 = .ok (.aload_n 3, 1) := id_WM_doCycle_1 (64, .aload_n 3, 1) (List.mem_of_getElem? (i := 8) rfl)
theorem d_WM_doCycle_65 : decode prog_1_method_18_code 65 = .ok (.ifnull (15), 3) := id_WM_doCycle_1 (65, .ifnull (15), 3) (List.mem_of_getElem? (i := 9) rfl)
theorem d_WM_doCycle_68 : decode prog_1_method_18_code 68 = .ok (.aload_n 0, 1) := id_WM_doCycle_1 (68, .aload_n 0, 1) (List.mem_of_getElem? (i := 10) rfl)
theorem d_WM_doCycle_69 : decode prog_1_method_18_code 69 = .ok (.aload_n 0, 1) := id_WM_doCycle_1 (69, .aload_n 0, 1) (List.mem_of_getElem? (i := 11) rfl)
theorem d_WM_doCycle_70 : decode prog_1_method_18_code 70 = .ok (.getfield 38, 3) := id_WM_doCycle_1 (70, .getfield 38, 3) (List.mem_of_getElem? (i := 12) rfl)
theorem d_WM_doCycle_73 : decode prog_1_method_18_code 73 = .ok (.iload_n 2, 1) := id_WM_doCycle_1 (73, .iload_n 2, 1) (List.mem_of_getElem? (i := 13) rfl)
theorem d_WM_doCycle_74 : decode prog_1_method_18_code 74 = .ok (.aaload, 1) := id_WM_doCycle_1 (74, .aaload, 1) (List.mem_of_getElem? (i := 14) rfl)
theorem d_WM_doCycle_75 : decode prog_1_method_18_code 75 = .ok (.aload_n 3, 1) := id_WM_doCycle_1 (75, .aload_n 3, 1) (List.mem_of_getElem? (i := 15) rfl)
theorem d_WM_doCycle_76 : decode prog_1_method_18_code 76 = .ok (.iload_n 1, 1) := id_WM_doCycle_1 (76, .iload_n 1, 1) (List.mem_of_getElem? (i := 16) rfl)
theorem d_WM_doCycle_77 : decode prog_1_method_18_code 77 = .ok (.invokevirtual 205, 3) := id_WM_doCycle_1 (77, .invokevirtual 205, 3) (List.mem_of_getElem? (i := 17) rfl)
theorem d_WM_doCycle_80 : decode prog_1_method_18_code 80 = .ok (.iinc 2 (1), 3) := id_WM_doCycle_1 (80, .iinc 2 (1), 3) (List.mem_of_getElem? (i := 18) rfl)
theorem d_WM_doCycle_83 : decode prog_1_method_18_code 83 = .ok (.goto (-51), 3) := id_WM_doCycle_1 (83, .goto (-51), 3) (List.mem_of_getElem? (i := 19) rfl)
theorem d_WM_doCycle_86 : decode prog_1_method_18_code 86 = .ok (.aload_n 0, 1) := id_WM_doCycle_1 (86, .aload_n 0, 1) (List.mem_of_getElem? (i := 20) rfl)
theorem d_WM_doCycle_87 : decode prog_1_method_18_code 87 = .ok (.getfield 32, 3) := id_WM_doCycle_1 (87, .getfield 32, 3) (List.mem_of_getElem? (i := 21) rfl)
theorem d_WM_doCycle_90 : decode prog_1_method_18_code 90 = .ok (.aload_n 0, 1) := id_WM_doCycle_1 (90, .aload_n 0, 1) (List.mem_of_getElem? (i := 22) rfl)
theorem d_WM_doCycle_91 : decode prog_1_method_18_code 91 = .ok (.getfield 25, 3) := id_WM_doCycle_1 (91, .getfield 25, 3) (List.mem_of_getElem? (i := 23) rfl)
def it_WM_doCycle_2 : List (Nat × ClassFile.Instr × Nat) := [(94, .getfield 120, 3), (97, .getfield 140, 3), (100, .ifCond .ne (7), 3), (103, .iconst 1, 1), (104, .goto (4), 3), (107, .iconst 0, 1), (108, .invokevirtual 209, 3), (111, .return_, 1)]
theorem id_WM_doCycle_2 : ∀ q ∈ it_WM_doCycle_2, decode prog_1_method_18_code q.1 = .ok q.2 := by decide +kernel
theorem d_WM_doCycle_94 : decode prog_1_method_18_code 94 = .ok (.getfield 120, 3) := id_WM_doCycle_2 (94, .getfield 120, 3) (List.mem_of_getElem? (i := 0) rfl)
theorem d_WM_doCycle_97 : decode prog_1_method_18_code 97 = .ok (.getfield 140, 3) := id_WM_doCycle_2 (97, .getfield 140, 3) (List.mem_of_getElem? (i := 1) rfl)
theorem d_WM_doCycle_100 : decode prog_1_method_18_code 100 = .ok (.ifCond .ne (7), 3) := id_WM_doCycle_2 (100, .ifCond .ne (7), 3) (List.mem_of_getElem? (i := 2) rfl)
theorem d_WM_doCycle_103 : decode prog_1_method_18_code 103 = .ok (.iconst 1, 1) := id_WM_doCycle_2 (103, .iconst 1, 1) (List.mem_of_getElem? (i := 3) rfl)
theorem d_WM_doCycle_104 : decode prog_1_method_18_code 104 = .ok (.goto (4), 3) := id_WM_doCycle_2 (104, .goto (4), 3) (List.mem_of_getElem? (i := 4) rfl)
theorem d_WM_doCycle_107 : decode prog_1_method_18_code 107 = .ok (.iconst 0, 1) := id_WM_doCycle_2 (107, .iconst 0, 1) (List.mem_of_getElem? (i := 5) rfl)
theorem d_WM_doCycle_108 : decode prog_1_method_18_code 108 = .ok (.invokevirtual 209, 3) := id_WM_doCycle_2 (108, .invokevirtual 209, 3) (List.mem_of_getElem? (i := 6) rfl)
theorem d_WM_doCycle_111 : decode prog_1_method_18_code 111 = .ok (.return_, 1) := id_WM_doCycle_2 (111, .return_, 1) (List.mem_of_getElem? (i := 7) rfl)
theorem wC_WM_doCycle : Cond.code ⟨"WarpMill", "doCycle", "()V"⟩ prog_1_method_18_code 4 (none) ∈ lw_tb := mem_tb 633 (by decide +kernel) rfl
theorem cw_WM_doCycle_Memory_finish : cW mi_WM_doCycle mi_Memory_finish 1 := ⟨wC_Memory_finish, wi_Memory, ⟨by decide, by decide, by decide +kernel⟩, by decide, by decide⟩
theorem cw_WM_doCycle_WM_dispatch : cW mi_WM_doCycle mi_WM_dispatch 0 := ⟨wC_WM_dispatch, wi_WM, ⟨by decide, by decide, by decide +kernel⟩, by decide, by decide⟩
theorem cw_WM_doCycle_Unit_choose : cW mi_WM_doCycle mi_Unit_choose 1 := ⟨wC_Unit_choose, wi_Unit, ⟨by decide, by decide, by decide +kernel⟩, by decide, by decide⟩
theorem cw_WM_doCycle_WM_go : cW mi_WM_doCycle mi_WM_go 3 := ⟨wC_WM_go, wi_WM, ⟨by decide, by decide, by decide +kernel⟩, by decide, by decide⟩
theorem cw_WM_doCycle_Tally_endCycle : cW mi_WM_doCycle mi_Tally_endCycle 1 := ⟨wC_Tally_endCycle, wi_Tally, ⟨by decide, by decide, by decide +kernel⟩, by decide, by decide⟩
def b_WM_doCycle_108 (F : Nat) (s0 : Nat) (s1 : Int32) (h : Hp) : Option Hp := gd (hK h s0 = 6) <| clv (f_Tally_endCycle F s0 s1 h) fun h_108_2 => some h_108_2
set_option maxRecDepth 100000 in
set_option maxHeartbeats 4000000 in
theorem e_WM_doCycle_108 {G : Gl} (hw : gF G) {h0 : Hp} {F : Nat} {h' : Hp}   {s0 : Nat} {s1 : Int32} {h : Hp} (hf : b_WM_doCycle_108 F s0 s1 h = some h') : Go G mi_WM_doCycle h0 (pV h') h 108 [] [.int s1, .ref s0] := by
  unfold b_WM_doCycle_108 at hf
  obtain ⟨k_108, hf⟩ := gd_s hf
  obtain ⟨h_108_2, e_108_2, hf⟩ := clv_s hf
  refine g_callV (mz := mi_Tally_endCycle) (e_Tally_endCycle hw e_108_2) cw_WM_doCycle_Tally_endCycle lm_WM_209 wI_Tally_endCycle wV_Tally_endCycle (ci := 5) k_108 (by decide) rfl rfl d_WM_doCycle_108 rfl rfl (by first | exact Nat.le_of_ble_eq_true rfl | simp [cat_rf, Value.category]) (fun r1 h1 hp hro => ?_)
  obtain ⟨rfl, rfl⟩ := hp
  dsimp only [Option.toList_some, Option.toList_none, List.cons_append, List.nil_append]
  exact Go.ret none trivial rfl d_WM_doCycle_111 (pV_of hf)
def b_WM_doCycle_86 (F : Nat) (x0 : Nat) (h : Hp) : Option Hp := gd (hK h x0 = 1) <| rq h (hR h 3 x0) 6 fun a_87_2 => rq h (hR h 2 x0) 3 fun a_91 => rq h (hR h 130 a_91) 5 fun a_94 => if (hI h 259 a_94) = 0 then (b_WM_doCycle_108 F a_87_2 (1 : Int32) h) else (b_WM_doCycle_108 F a_87_2 (0 : Int32) h)
set_option maxRecDepth 100000 in
set_option maxHeartbeats 4000000 in
theorem e_WM_doCycle_86 {G : Gl} (hw : gF G) {h0 : Hp} {F : Nat} {h' : Hp}   {x0 : Nat} {h : Hp} (hf : b_WM_doCycle_86 F x0 h = some h') : Go G mi_WM_doCycle h0 (pV h') h 86 [(0, .ref x0)] [] := by
  unfold b_WM_doCycle_86 at hf
  refine g_aload_n d_WM_doCycle_86 rfl ?_
  obtain ⟨k_87, hf⟩ := gd_s hf
  obtain ⟨a_87_2, e_87_2, k_87_2, hf⟩ := rq_s hf
  refine fgs_WM_tally lf_WM_32 d_WM_doCycle_87 k_87 e_87_2 ?_
  refine g_aload_n d_WM_doCycle_90 rfl ?_
  obtain ⟨a_91, e_91, k_91, hf⟩ := rq_s hf
  refine fgs_WM_memory lf_WM_25 d_WM_doCycle_91 k_87 e_91 ?_
  obtain ⟨a_94, e_94, k_94, hf⟩ := rq_s hf
  refine fgs_Memory_pending lf_WM_120 d_WM_doCycle_94 k_91 e_94 ?_
  refine fg_Pending_count lf_WM_140 d_WM_doCycle_97 k_94 ?_
  refine g_if_ne 107 d_WM_doCycle_100 (by decide) (fun c_100 => ?_) (fun c_100 => ?_)
  · have hf := ifn hf c_100
    refine g_iconst 0 d_WM_doCycle_107 (by decide) ?_
    refine Go.locals [] rfl ?_
    have key := e_WM_doCycle_108 hw (G := G) (h0 := h0)  hf
    exact key
  · have hf := ifp hf c_100
    refine g_iconst 1 d_WM_doCycle_103 (by decide) ?_
    refine g_goto 108 d_WM_doCycle_104 (by decide) ?_
    refine Go.locals [] rfl ?_
    have key := e_WM_doCycle_108 hw (G := G) (h0 := h0)  hf
    exact key
def b_WM_doCycle_32 (F : Nat) : Nat → Nat → Int32 → Int32 → Hp → Option Hp
  | 0 => fun _ _ _ _ => none
  | n + 1 => fun x0 x1 x2 h => gd (hK h x0 = 1) <| rq h (hR h 0 x0) 2 fun a_34_2 => if (hI h 66 a_34_2) ≤ x2 then (b_WM_doCycle_86 F x0 h) else (rq h (hR h 3 x0) 6 fun a_44 => if (hI h 330 a_44) = 0 then (rq h (hR h 4 x0) 121 fun a_54 => ix x2 (hN h a_54) fun j_58 => rq h (hQ h a_54 j_58) 7 fun a_58_2 => cl (f_Unit_choose F a_58_2 x1 h) fun o_60 h_60 => nu o_60 (b_WM_doCycle_32 F n x0 x1 (x2 + 1) h_60) fun a_65 => (gd (hK h_60 x0 = 1) <| rq h_60 (hR h_60 4 x0) 121 fun a_70_2 => ix x2 (hN h_60 a_70_2) fun j_74 => pw (hQ h_60 a_70_2 j_74) fun o_74_2 => clv (f_WM_go F x0 o_74_2 (some a_65) x1 h_60) fun h_77 => b_WM_doCycle_32 F n x0 x1 (x2 + 1) h_77)) else (b_WM_doCycle_86 F x0 h))
set_option maxRecDepth 100000 in
set_option maxHeartbeats 4000000 in
theorem e_WM_doCycle_32 {G : Gl} (hw : gF G) {h0 : Hp} {F : Nat} {h' : Hp}   : ∀ (n : Nat) (x0 : Nat) (x1 : Int32) (x2 : Int32) (h : Hp), b_WM_doCycle_32 F n x0 x1 x2 h = some h' → Go G mi_WM_doCycle h0 (pV h') h 32 [(0, .ref x0), (1, .int x1), (2, .int x2)] [] := by
  intro n
  induction n with
  | zero =>
    intro _ _ _ _ hf
    exact nm_s hf
  | succ n ih =>
    intro x0 x1 x2 h hf
    unfold b_WM_doCycle_32 at hf
    refine g_iload_n d_WM_doCycle_32 rfl ?_
    refine g_aload_n d_WM_doCycle_33 rfl ?_
    obtain ⟨k_34, hf⟩ := gd_s hf
    obtain ⟨a_34_2, e_34_2, k_34_2, hf⟩ := rq_s hf
    refine fgs_WM_sizes lf_WM_10 d_WM_doCycle_34 k_34 e_34_2 ?_
    refine fg_Sizes_units lf_WM_180 d_WM_doCycle_37 k_34_2 ?_
    refine g_icmp_ge 86 d_WM_doCycle_40 (by decide) (fun c_40 => ?_) (fun c_40 => ?_)
    · have hf := ifp hf c_40
      refine Go.locals [0] rfl ?_
      have key := e_WM_doCycle_86 hw (G := G) (h0 := h0)  hf
      exact key
    · have hf := ifn hf c_40
      refine g_aload_n d_WM_doCycle_43 rfl ?_
      obtain ⟨a_44, e_44, k_44, hf⟩ := rq_s hf
      refine fgs_WM_tally lf_WM_32 d_WM_doCycle_44 k_34 e_44 ?_
      refine fg_Tally_why lf_WM_196 d_WM_doCycle_47 k_44 ?_
      refine g_if_ne 86 d_WM_doCycle_50 (by decide) (fun c_50 => ?_) (fun c_50 => ?_)
      · have hf := ifn hf c_50
        refine Go.locals [0] rfl ?_
        have key := e_WM_doCycle_86 hw (G := G) (h0 := h0)  hf
        exact key
      · have hf := ifp hf c_50
        refine g_aload_n d_WM_doCycle_53 rfl ?_
        obtain ⟨a_54, e_54, k_54, hf⟩ := rq_s hf
        refine fgs_WM_units lf_WM_38 d_WM_doCycle_54 k_34 e_54 ?_
        refine g_iload_n d_WM_doCycle_57 rfl ?_
        obtain ⟨i_58, hf⟩ := ix_s hf
        refine g_aald k_54 (by decide) rfl rfl i_58 d_WM_doCycle_58 ?_
        obtain ⟨a_58_2, e_58_2, k_58_2, hf⟩ := rq_s hf
        refine Go.vs e_58_2 ?_
        refine g_iload_n d_WM_doCycle_59 rfl ?_
        obtain ⟨o_60, h_60, e_60, hf⟩ := cl_s hf
        refine g_callV (mz := mi_Unit_choose) (e_Unit_choose hw e_60) cw_WM_doCycle_Unit_choose lm_WM_202 wI_Unit_choose wV_Unit_choose (ci := 6) k_58_2 (by decide) rfl rfl d_WM_doCycle_60 rfl rfl (by first | exact Nat.le_of_ble_eq_true rfl | simp [cat_rf, Value.category]) (fun r1 h1 hp hro => ?_)
        obtain ⟨rfl, rfl⟩ := hp
        dsimp only [Option.toList_some, Option.toList_none, List.cons_append, List.nil_append]
        refine g_astore_nq (r := o_60) d_WM_doCycle_63 (by decide) ?_
        show Go _ _ _ _ _ _ [(0, _), (1, _), (2, _), (3, _)] _
        refine g_aload_nq (r := o_60) d_WM_doCycle_64 rfl ?_
        refine g_ifnull (r := o_60) 80 d_WM_doCycle_65 (by decide) (fun c_65 => ?_) (fun a_65 c_65 => ?_)
        · subst c_65
          have hf := nu_n hf
          refine g_iinc (_ + 1) d_WM_doCycle_80 rfl (by rfl) (by decide) ?_
          show Go _ _ _ _ _ _ [(0, _), (1, _), (2, _), (3, _)] _
          refine g_goto 32 d_WM_doCycle_83 (by decide) ?_
          refine Go.locals [0, 1, 2] rfl ?_
          exact ih _ _ _ _ hf
        · subst c_65
          have hf := nu_s hf
          refine g_aload_n d_WM_doCycle_68 rfl ?_
          refine g_aload_n d_WM_doCycle_69 rfl ?_
          obtain ⟨k_70, hf⟩ := gd_s hf
          obtain ⟨a_70_2, e_70_2, k_70_2, hf⟩ := rq_s hf
          refine fgs_WM_units lf_WM_38 d_WM_doCycle_70 k_70 e_70_2 ?_
          refine g_iload_n d_WM_doCycle_73 rfl ?_
          obtain ⟨i_74, hf⟩ := ix_s hf
          refine g_aald k_70_2 (by decide) rfl rfl i_74 d_WM_doCycle_74 ?_
          obtain ⟨o_74_2, e_74_2, hf⟩ := pw_s hf
          refine Go.vr e_74_2 ?_
          refine g_aload_n d_WM_doCycle_75 rfl ?_
          refine g_iload_n d_WM_doCycle_76 rfl ?_
          obtain ⟨h_77, e_77, hf⟩ := clv_s hf
          refine g_callV (mz := mi_WM_go) (e_WM_go hw e_77) cw_WM_doCycle_WM_go lm_WM_205 wI_WM_go wV_WM_go (ci := 0) k_70 (by decide) rfl rfl d_WM_doCycle_77 rfl rfl (by first | exact Nat.le_of_ble_eq_true rfl | simp [cat_rf, Value.category]) (fun r1 h1 hp hro => ?_)
          obtain ⟨rfl, rfl⟩ := hp
          dsimp only [Option.toList_some, Option.toList_none, List.cons_append, List.nil_append]
          refine g_iinc (_ + 1) d_WM_doCycle_80 rfl (by rfl) (by decide) ?_
          show Go _ _ _ _ _ _ [(0, _), (1, _), (2, _), (3, _)] _
          refine g_goto 32 d_WM_doCycle_83 (by decide) ?_
          refine Go.locals [0, 1, 2] rfl ?_
          exact ih _ _ _ _ hf
def f_WM_doCycle (F : Nat) (x0 : Nat) (h : Hp) : Option Hp := gd (hK h x0 = 1) <| rq h (hR h 3 x0) 6 fun a_1_2 => rq h (hR h 2 x0) 3 fun a_9 => clv (f_Memory_finish F a_9 (hI h 325 a_1_2) h) fun h_13 => gd (hK h_13 x0 = 1) <| rq h_13 (hR h_13 3 x0) 6 fun a_17_2 => if (hI h_13 330 a_17_2) = 0 then (clv (f_WM_dispatch F x0 h_13) fun h_27 => b_WM_doCycle_32 F F x0 (hI h 325 a_1_2) (0 : Int32) h_27) else (b_WM_doCycle_86 F x0 h_13)
set_option maxRecDepth 100000 in
set_option maxHeartbeats 4000000 in
theorem e_WM_doCycle {G : Gl} (hw : gF G) {F : Nat} {h' : Hp} {x0 : Nat} {h : Hp} (hf : f_WM_doCycle F x0 h = some h') : Ex G mi_WM_doCycle [.ref x0] h (pV h') := by
  unfold f_WM_doCycle at hf
  refine Ex.of nmV (by decide) (Nat.le_of_ble_eq_true rfl) ?_
  show Go G mi_WM_doCycle h _ h 0 [(0, .ref x0)] []
  refine g_aload_n d_WM_doCycle_0 rfl ?_
  obtain ⟨k_1, hf⟩ := gd_s hf
  obtain ⟨a_1_2, e_1_2, k_1_2, hf⟩ := rq_s hf
  refine fgs_WM_tally lf_WM_32 d_WM_doCycle_1 k_1 e_1_2 ?_
  refine fg_Tally_cycles lf_WM_190 d_WM_doCycle_4 k_1_2 ?_
  refine g_istore_n d_WM_doCycle_7 (by decide) ?_
  show Go _ _ _ _ _ _ [(0, _), (1, _)] _
  refine g_aload_n d_WM_doCycle_8 rfl ?_
  obtain ⟨a_9, e_9, k_9, hf⟩ := rq_s hf
  refine fgs_WM_memory lf_WM_25 d_WM_doCycle_9 k_1 e_9 ?_
  refine g_iload_n d_WM_doCycle_12 rfl ?_
  obtain ⟨h_13, e_13, hf⟩ := clv_s hf
  refine g_callV (mz := mi_Memory_finish) (e_Memory_finish hw e_13) cw_WM_doCycle_Memory_finish lm_WM_193 wI_Memory_finish wV_Memory_finish (ci := 2) k_9 (by decide) rfl rfl d_WM_doCycle_13 rfl rfl (by first | exact Nat.le_of_ble_eq_true rfl | simp [cat_rf, Value.category]) (fun r1 h1 hp hro => ?_)
  obtain ⟨rfl, rfl⟩ := hp
  dsimp only [Option.toList_some, Option.toList_none, List.cons_append, List.nil_append]
  refine g_aload_n d_WM_doCycle_16 rfl ?_
  obtain ⟨k_17, hf⟩ := gd_s hf
  obtain ⟨a_17_2, e_17_2, k_17_2, hf⟩ := rq_s hf
  refine fgs_WM_tally lf_WM_32 d_WM_doCycle_17 k_17 e_17_2 ?_
  refine fg_Tally_why lf_WM_196 d_WM_doCycle_20 k_17_2 ?_
  refine g_if_ne 86 d_WM_doCycle_23 (by decide) (fun c_23 => ?_) (fun c_23 => ?_)
  · have hf := ifn hf c_23
    refine Go.locals [0] rfl ?_
    have key := e_WM_doCycle_86 hw (G := G) (h0 := h)  hf
    exact key
  · have hf := ifp hf c_23
    refine g_aload_n d_WM_doCycle_26 rfl ?_
    obtain ⟨h_27, e_27, hf⟩ := clv_s hf
    refine g_callV (mz := mi_WM_dispatch) (e_WM_dispatch hw e_27) cw_WM_doCycle_WM_dispatch lm_WM_199 wI_WM_dispatch wV_WM_dispatch (ci := 0) k_17 (by decide) rfl rfl d_WM_doCycle_27 rfl rfl (by first | exact Nat.le_of_ble_eq_true rfl | simp [cat_rf, Value.category]) (fun r1 h1 hp hro => ?_)
    obtain ⟨rfl, rfl⟩ := hp
    dsimp only [Option.toList_some, Option.toList_none, List.cons_append, List.nil_append]
    refine g_iconst 0 d_WM_doCycle_30 (by decide) ?_
    refine g_istore_n d_WM_doCycle_31 (by decide) ?_
    show Go _ _ _ _ _ _ [(0, _), (1, _), (2, _)] _
    have key := e_WM_doCycle_32 hw (G := G) (h0 := h)  F _ _ _ _ hf
    exact key
abbrev mi_WM_run : MI := (⟨"WarpMill", "run", "(I)I"⟩, prog_1_method_6_code, 3, some .int, 7, 176)
def it_WM_run_0 : List (Nat × ClassFile.Instr × Nat) := [(0, .iload_n 1, 1), (1, .iconst 1, 1), (2, .if_icmp .lt (10), 3), (5, .iload_n 1, 1), (6, .sipush (500), 3), (9, .if_icmp .le (13), 3), (12, .new 96, 3), (15, .dup, 1), (16, .ldc 98, 2), (18, .invokespecial 100, 3), (21, .athrow, 1), (22, .aload_n 0, 1), (23, .getfield 32, 3), (26, .getfield 103, 3), (29, .sipush (20000), 3), (32, .if_icmp .lt (13), 3), (35, .new 106, 3), (38, .dup, 1), (39, .ldc 108, 2), (41, .invokespecial 110, 3), (44, .athrow, 1), (45, .iconst 0, 1), (46, .istore_n 2, 1), (47, .iload_n 2, 1)]
theorem id_WM_run_0 : ∀ q ∈ it_WM_run_0, decode prog_1_method_6_code q.1 = .ok q.2 := by decide +kernel
theorem d_WM_run_0 : decode prog_1_method_6_code 0 = .ok (.iload_n 1, 1) := id_WM_run_0 (0, .iload_n 1, 1) (List.mem_of_getElem? (i := 0) rfl)
theorem d_WM_run_1 : decode prog_1_method_6_code 1 = .ok (.iconst 1, 1) := id_WM_run_0 (1, .iconst 1, 1) (List.mem_of_getElem? (i := 1) rfl)
theorem d_WM_run_2 : decode prog_1_method_6_code 2 = .ok (.if_icmp .lt (10), 3) := id_WM_run_0 (2, .if_icmp .lt (10), 3) (List.mem_of_getElem? (i := 2) rfl)
theorem d_WM_run_5 : decode prog_1_method_6_code 5 = .ok (.iload_n 1, 1) := id_WM_run_0 (5, .iload_n 1, 1) (List.mem_of_getElem? (i := 3) rfl)
theorem d_WM_run_6 : decode prog_1_method_6_code 6 = .ok (.sipush (500), 3) := id_WM_run_0 (6, .sipush (500), 3) (List.mem_of_getElem? (i := 4) rfl)
theorem d_WM_run_9 : decode prog_1_method_6_code 9 = .ok (.if_icmp .le (13), 3) := id_WM_run_0 (9, .if_icmp .le (13), 3) (List.mem_of_getElem? (i := 5) rfl)
theorem d_WM_run_12 : decode prog_1_method_6_code 12 = .ok (.new 96, 3) := id_WM_run_0 (12, .new 96, 3) (List.mem_of_getElem? (i := 6) rfl)
theorem d_WM_run_15 : decode prog_1_method_6_code 15 = .ok (.dup, 1) := id_WM_run_0 (15, .dup, 1) (List.mem_of_getElem? (i := 7) rfl)
theorem d_WM_run_16 : decode prog_1_method_6_code 16 = .ok (.ldc 98, 2) := id_WM_run_0 (16, .ldc 98, 2) (List.mem_of_getElem? (i := 8) rfl)
theorem d_WM_run_18 : decode prog_1_method_6_code 18 = .ok (.invokespecial 100, 3) := id_WM_run_0 (18, .invokespecial 100, 3) (List.mem_of_getElem? (i := 9) rfl)
theorem d_WM_run_21 : decode prog_1_method_6_code 21 = .ok (.athrow, 1) := id_WM_run_0 (21, .athrow, 1) (List.mem_of_getElem? (i := 10) rfl)
theorem d_WM_run_22 : decode prog_1_method_6_code 22 = .ok (.aload_n 0, 1) := id_WM_run_0 (22, .aload_n 0, 1) (List.mem_of_getElem? (i := 11) rfl)
theorem d_WM_run_23 : decode prog_1_method_6_code 23 = .ok (.getfield 32, 3) := id_WM_run_0 (23, .getfield 32, 3) (List.mem_of_getElem? (i := 12) rfl)
theorem d_WM_run_26 : decode prog_1_method_6_code 26 = .ok (.getfield 103, 3) := id_WM_run_0 (26, .getfield 103, 3) (List.mem_of_getElem? (i := 13) rfl)
theorem d_WM_run_29 : decode prog_1_method_6_code 29 = .ok (.sipush (20000), 3) := id_WM_run_0 (29, .sipush (20000), 3) (List.mem_of_getElem? (i := 14) rfl)
theorem d_WM_run_32 : decode prog_1_method_6_code 32 = .ok (.if_icmp .lt (13), 3) := id_WM_run_0 (32, .if_icmp .lt (13), 3) (List.mem_of_getElem? (i := 15) rfl)
theorem d_WM_run_35 : decode prog_1_method_6_code 35 = .ok (.new 106, 3) := id_WM_run_0 (35, .new 106, 3) (List.mem_of_getElem? (i := 16) rfl)
theorem d_WM_run_38 : decode prog_1_method_6_code 38 = .ok (.dup, 1) := id_WM_run_0 (38, .dup, 1) (List.mem_of_getElem? (i := 17) rfl)
theorem d_WM_run_39 : decode prog_1_method_6_code 39 = .ok (.ldc 108, 2) := id_WM_run_0 (39, .ldc 108, 2) (List.mem_of_getElem? (i := 18) rfl)
theorem d_WM_run_41 : decode prog_1_method_6_code 41 = .ok (.invokespecial 110, 3) := id_WM_run_0 (41, .invokespecial 110, 3) (List.mem_of_getElem? (i := 19) rfl)
theorem d_WM_run_44 : decode prog_1_method_6_code 44 = .ok (.athrow, 1) := id_WM_run_0 (44, .athrow, 1) (List.mem_of_getElem? (i := 20) rfl)
theorem d_WM_run_45 : decode prog_1_method_6_code 45 = .ok (.iconst 0, 1) := id_WM_run_0 (45, .iconst 0, 1) (List.mem_of_getElem? (i := 21) rfl)
theorem d_WM_run_46 : decode prog_1_method_6_code 46 = .ok (.istore_n 2, 1) := id_WM_run_0 (46, .istore_n 2, 1) (List.mem_of_getElem? (i := 22) rfl)
theorem d_WM_run_47 : decode prog_1_method_6_code 47 = .ok (.iload_n 2, 1) := id_WM_run_0 (47, .iload_n 2, 1) (List.mem_of_getElem? (i := 23) rfl)
def it_WM_run_1 : List (Nat × ClassFile.Instr × Nat) := [(48, .iload_n 1, 1), (49, .if_icmp .ge (36), 3), (52, .aload_n 0, 1), (53, .getfield 32, 3), (56, .invokevirtual 58, 3), (59, .ifCond .eq (26), 3), (62, .aload_n 0, 1), (63, .getfield 32, 3), (66, .getfield 103, 3), (69, .sipush (20000), 3), (72, .if_icmp .ge (13), 3), (75, .aload_n 0, 1), (76, .invokevirtual 111, 3), (79, .iinc 2 (1), 3), (82, .goto (-35), 3), (85, .aload_n 0, 1), (86, .getfield 32, 3), (89, .getfield 114, 3), (92, .ireturn, 1)]
theorem id_WM_run_1 : ∀ q ∈ it_WM_run_1, decode prog_1_method_6_code q.1 = .ok q.2 := by decide +kernel
theorem d_WM_run_48 : decode prog_1_method_6_code 48 = .ok (.iload_n 1, 1) := id_WM_run_1 (48, .iload_n 1, 1) (List.mem_of_getElem? (i := 0) rfl)
theorem d_WM_run_49 : decode prog_1_method_6_code 49 = .ok (.if_icmp .ge (36), 3) := id_WM_run_1 (49, .if_icmp .ge (36), 3) (List.mem_of_getElem? (i := 1) rfl)
theorem d_WM_run_52 : decode prog_1_method_6_code 52 = .ok (.aload_n 0, 1) := id_WM_run_1 (52, .aload_n 0, 1) (List.mem_of_getElem? (i := 2) rfl)
theorem d_WM_run_53 : decode prog_1_method_6_code 53 = .ok (.getfield 32, 3) := id_WM_run_1 (53, .getfield 32, 3) (List.mem_of_getElem? (i := 3) rfl)
theorem d_WM_run_56 : decode prog_1_method_6_code 56 = .ok (.invokevirtual 58, 3) := id_WM_run_1 (56, .invokevirtual 58, 3) (List.mem_of_getElem? (i := 4) rfl)
theorem d_WM_run_59 : decode prog_1_method_6_code 59 = .ok (.ifCond .eq (26), 3) := id_WM_run_1 (59, .ifCond .eq (26), 3) (List.mem_of_getElem? (i := 5) rfl)
theorem d_WM_run_62 : decode prog_1_method_6_code 62 = .ok (.aload_n 0, 1) := id_WM_run_1 (62, .aload_n 0, 1) (List.mem_of_getElem? (i := 6) rfl)
theorem d_WM_run_63 : decode prog_1_method_6_code 63 = .ok (.getfield 32, 3) := id_WM_run_1 (63, .getfield 32, 3) (List.mem_of_getElem? (i := 7) rfl)
theorem d_WM_run_66 : decode prog_1_method_6_code 66 = .ok (.getfield 103, 3) := id_WM_run_1 (66, .getfield 103, 3) (List.mem_of_getElem? (i := 8) rfl)
theorem d_WM_run_69 : decode prog_1_method_6_code 69 = .ok (.sipush (20000), 3) := id_WM_run_1 (69, .sipush (20000), 3) (List.mem_of_getElem? (i := 9) rfl)
theorem d_WM_run_72 : decode prog_1_method_6_code 72 = .ok (.if_icmp .ge (13), 3) := id_WM_run_1 (72, .if_icmp .ge (13), 3) (List.mem_of_getElem? (i := 10) rfl)
theorem d_WM_run_75 : decode prog_1_method_6_code 75 = .ok (.aload_n 0, 1) := id_WM_run_1 (75, .aload_n 0, 1) (List.mem_of_getElem? (i := 11) rfl)
theorem d_WM_run_76 : decode prog_1_method_6_code 76 = .ok (.invokevirtual 111, 3) := id_WM_run_1 (76, .invokevirtual 111, 3) (List.mem_of_getElem? (i := 12) rfl)
theorem d_WM_run_79 : decode prog_1_method_6_code 79 = .ok (.iinc 2 (1), 3) := id_WM_run_1 (79, .iinc 2 (1), 3) (List.mem_of_getElem? (i := 13) rfl)
theorem d_WM_run_82 : decode prog_1_method_6_code 82 = .ok (.goto (-35), 3) := id_WM_run_1 (82, .goto (-35), 3) (List.mem_of_getElem? (i := 14) rfl)
theorem d_WM_run_85 : decode prog_1_method_6_code 85 = .ok (.aload_n 0, 1) := id_WM_run_1 (85, .aload_n 0, 1) (List.mem_of_getElem? (i := 15) rfl)
theorem d_WM_run_86 : decode prog_1_method_6_code 86 = .ok (.getfield 32, 3) := id_WM_run_1 (86, .getfield 32, 3) (List.mem_of_getElem? (i := 16) rfl)
theorem d_WM_run_89 : decode prog_1_method_6_code 89 = .ok (.getfield 114, 3) := id_WM_run_1 (89, .getfield 114, 3) (List.mem_of_getElem? (i := 17) rfl)
theorem d_WM_run_92 : decode prog_1_method_6_code 92 = .ok (.ireturn, 1) := id_WM_run_1 (92, .ireturn, 1) (List.mem_of_getElem? (i := 18) rfl)
theorem wC_WM_run : Cond.code ⟨"WarpMill", "run", "(I)I"⟩ prog_1_method_6_code 3 (some .int) ∈ lw_tb := mem_tb 545 (by decide +kernel) rfl
theorem cw_WM_run_Tally_underWay : cW mi_WM_run mi_Tally_underWay 0 := ⟨wC_Tally_underWay, wi_Tally, ⟨by decide, by decide, by decide +kernel⟩, by decide, by decide⟩
theorem cw_WM_run_WM_doCycle : cW mi_WM_run mi_WM_doCycle 0 := ⟨wC_WM_doCycle, wi_WM, ⟨by decide, by decide, by decide +kernel⟩, by decide, by decide⟩
def b_WM_run_85 (F : Nat) (x0 : Nat) (h : Hp) : Option (Int32 × Hp) := gd (hK h x0 = 1) <| rq h (hR h 3 x0) 6 fun a_86_2 => some ((hI h 320 a_86_2), h)
set_option maxRecDepth 100000 in
set_option maxHeartbeats 4000000 in
theorem e_WM_run_85 {G : Gl} (hw : gF G) {h0 : Hp} {F : Nat} {r : Int32} {h' : Hp}   {x0 : Nat} {h : Hp} (hf : b_WM_run_85 F x0 h = some (r, h')) : Go G mi_WM_run h0 (pI r h') h 85 [(0, .ref x0)] [] := by
  unfold b_WM_run_85 at hf
  refine g_aload_n d_WM_run_85 rfl ?_
  obtain ⟨k_86, hf⟩ := gd_s hf
  obtain ⟨a_86_2, e_86_2, k_86_2, hf⟩ := rq_s hf
  refine fgs_WM_tally lf_WM_32 d_WM_run_86 k_86 e_86_2 ?_
  refine fg_Tally_status lf_WM_114 d_WM_run_89 k_86_2 ?_
  exact Go.ret (some _) (rOk_i _) rfl d_WM_run_92 (pI_of hf)
def b_WM_run_47 (F : Nat) : Nat → Nat → Int32 → Int32 → Hp → Option (Int32 × Hp)
  | 0 => fun _ _ _ _ => none
  | n + 1 => fun x0 x1 x2 h => if x1 ≤ x2 then (b_WM_run_85 F x0 h) else (gd (hK h x0 = 1) <| rq h (hR h 3 x0) 6 fun a_53_2 => cl (f_Tally_underWay F a_53_2 h) fun v_56 h_56 => if v_56 = 0 then (b_WM_run_85 F x0 h_56) else (gd (hK h_56 x0 = 1) <| rq h_56 (hR h_56 3 x0) 6 fun a_63_2 => if (20000 : Int32) ≤ (hI h_56 326 a_63_2) then (b_WM_run_85 F x0 h_56) else (clv (f_WM_doCycle F x0 h_56) fun h_76 => b_WM_run_47 F n x0 x1 (x2 + 1) h_76)))
set_option maxRecDepth 100000 in
set_option maxHeartbeats 4000000 in
theorem e_WM_run_47 {G : Gl} (hw : gF G) {h0 : Hp} {F : Nat} {r : Int32} {h' : Hp}   : ∀ (n : Nat) (x0 : Nat) (x1 : Int32) (x2 : Int32) (h : Hp), b_WM_run_47 F n x0 x1 x2 h = some (r, h') → Go G mi_WM_run h0 (pI r h') h 47 [(0, .ref x0), (1, .int x1), (2, .int x2)] [] := by
  intro n
  induction n with
  | zero =>
    intro _ _ _ _ hf
    exact nm_s hf
  | succ n ih =>
    intro x0 x1 x2 h hf
    unfold b_WM_run_47 at hf
    refine g_iload_n d_WM_run_47 rfl ?_
    refine g_iload_n d_WM_run_48 rfl ?_
    refine g_icmp_ge 85 d_WM_run_49 (by decide) (fun c_49 => ?_) (fun c_49 => ?_)
    · have hf := ifp hf c_49
      refine Go.locals [0] rfl ?_
      have key := e_WM_run_85 hw (G := G) (h0 := h0)  hf
      exact key
    · have hf := ifn hf c_49
      refine g_aload_n d_WM_run_52 rfl ?_
      obtain ⟨k_53, hf⟩ := gd_s hf
      obtain ⟨a_53_2, e_53_2, k_53_2, hf⟩ := rq_s hf
      refine fgs_WM_tally lf_WM_32 d_WM_run_53 k_53 e_53_2 ?_
      obtain ⟨v_56, h_56, e_56, hf⟩ := cl_s hf
      refine g_callV (mz := mi_Tally_underWay) (e_Tally_underWay e_56) cw_WM_run_Tally_underWay lm_WM_58 wI_Tally_underWay wV_Tally_underWay (ci := 5) k_53_2 (by decide) rfl rfl d_WM_run_56 rfl rfl (by first | exact Nat.le_of_ble_eq_true rfl | simp [cat_rf, Value.category]) (fun r1 h1 hp hro => ?_)
      obtain ⟨rfl, rfl⟩ := hp
      dsimp only [Option.toList_some, Option.toList_none, List.cons_append, List.nil_append]
      refine g_if_eq 85 d_WM_run_59 (by decide) (fun c_59 => ?_) (fun c_59 => ?_)
      · have hf := ifp hf c_59
        refine Go.locals [0] rfl ?_
        have key := e_WM_run_85 hw (G := G) (h0 := h0)  hf
        exact key
      · have hf := ifn hf c_59
        refine g_aload_n d_WM_run_62 rfl ?_
        obtain ⟨k_63, hf⟩ := gd_s hf
        obtain ⟨a_63_2, e_63_2, k_63_2, hf⟩ := rq_s hf
        refine fgs_WM_tally lf_WM_32 d_WM_run_63 k_63 e_63_2 ?_
        refine fg_Tally_allCycles lf_WM_103 d_WM_run_66 k_63_2 ?_
        refine g_sipush (20000) d_WM_run_69 (by decide) ?_
        refine g_icmp_ge 85 d_WM_run_72 (by decide) (fun c_72 => ?_) (fun c_72 => ?_)
        · have hf := ifp hf c_72
          refine Go.locals [0] rfl ?_
          have key := e_WM_run_85 hw (G := G) (h0 := h0)  hf
          exact key
        · have hf := ifn hf c_72
          refine g_aload_n d_WM_run_75 rfl ?_
          obtain ⟨h_76, e_76, hf⟩ := clv_s hf
          refine g_callV (mz := mi_WM_doCycle) (e_WM_doCycle hw e_76) cw_WM_run_WM_doCycle lm_WM_111 wI_WM_doCycle wV_WM_doCycle (ci := 0) k_63 (by decide) rfl rfl d_WM_run_76 rfl rfl (by first | exact Nat.le_of_ble_eq_true rfl | simp [cat_rf, Value.category]) (fun r1 h1 hp hro => ?_)
          obtain ⟨rfl, rfl⟩ := hp
          dsimp only [Option.toList_some, Option.toList_none, List.cons_append, List.nil_append]
          refine g_iinc (_ + 1) d_WM_run_79 rfl (by rfl) (by decide) ?_
          show Go _ _ _ _ _ _ [(0, _), (1, _), (2, _)] _
          refine g_goto 47 d_WM_run_82 (by decide) ?_
          exact ih _ _ _ _ hf
def f_WM_run (F : Nat) (x0 : Nat) (x1 : Int32) (h : Hp) : Option (Int32 × Hp) := if x1 < (1 : Int32) then (none) else (if x1 ≤ (500 : Int32) then (gd (hK h x0 = 1) <| rq h (hR h 3 x0) 6 fun a_23_2 => if (hI h 326 a_23_2) < (20000 : Int32) then (b_WM_run_47 F F x0 x1 (0 : Int32) h) else (none)) else (none))
set_option maxRecDepth 100000 in
set_option maxHeartbeats 4000000 in
theorem e_WM_run {G : Gl} (hw : gF G) {F : Nat} {r : Int32} {h' : Hp} {x0 : Nat} {x1 : Int32} {h : Hp} (hf : f_WM_run F x0 x1 h = some (r, h')) : Ex G mi_WM_run [.ref x0, .int x1] h (pI r h') := by
  unfold f_WM_run at hf
  refine Ex.of nmI (by decide) (Nat.le_of_ble_eq_true rfl) ?_
  show Go G mi_WM_run h _ h 0 [(0, .ref x0), (1, .int x1)] []
  refine g_iload_n d_WM_run_0 rfl ?_
  refine g_iconst 1 d_WM_run_1 (by decide) ?_
  refine g_icmp_lt 12 d_WM_run_2 (by decide) (fun c_2 => ?_) (fun c_2 => ?_)
  · have hf := ifp hf c_2
    exact nm_s hf
  · have hf := ifn hf c_2
    refine g_iload_n d_WM_run_5 rfl ?_
    refine g_sipush (500) d_WM_run_6 (by decide) ?_
    refine g_icmp_le 22 d_WM_run_9 (by decide) (fun c_9 => ?_) (fun c_9 => ?_)
    · have hf := ifp hf c_9
      refine g_aload_n d_WM_run_22 rfl ?_
      obtain ⟨k_23, hf⟩ := gd_s hf
      obtain ⟨a_23_2, e_23_2, k_23_2, hf⟩ := rq_s hf
      refine fgs_WM_tally lf_WM_32 d_WM_run_23 k_23 e_23_2 ?_
      refine fg_Tally_allCycles lf_WM_103 d_WM_run_26 k_23_2 ?_
      refine g_sipush (20000) d_WM_run_29 (by decide) ?_
      refine g_icmp_lt 45 d_WM_run_32 (by decide) (fun c_32 => ?_) (fun c_32 => ?_)
      · have hf := ifp hf c_32
        refine g_iconst 0 d_WM_run_45 (by decide) ?_
        refine g_istore_n d_WM_run_46 (by decide) ?_
        show Go _ _ _ _ _ _ [(0, _), (1, _), (2, _)] _
        have key := e_WM_run_47 hw (G := G) (h0 := h)  F _ _ _ _ hf
        exact key
      · have hf := ifn hf c_32
        exact nm_s hf
    · have hf := ifn hf c_9
      exact nm_s hf
abbrev mi_Mod_raise : MI := (⟨"WarpMillModel", "raise", "(I)I"⟩, prog_13_method_3_code, 2, some .int, 0, 0)
def it_Mod_raise_0 : List (Nat × ClassFile.Instr × Nat) := [(0, .aload_n 0, 1), (1, .iload_n 1, 1), (2, .putfield 120, 3), (5, .iconst 0, 1), (6, .ireturn, 1)]
theorem id_Mod_raise_0 : ∀ q ∈ it_Mod_raise_0, decode prog_13_method_3_code q.1 = .ok q.2 := by decide +kernel
theorem d_Mod_raise_0 : decode prog_13_method_3_code 0 = .ok (.aload_n 0, 1) := id_Mod_raise_0 (0, .aload_n 0, 1) (List.mem_of_getElem? (i := 0) rfl)
theorem d_Mod_raise_1 : decode prog_13_method_3_code 1 = .ok (.iload_n 1, 1) := id_Mod_raise_0 (1, .iload_n 1, 1) (List.mem_of_getElem? (i := 1) rfl)
theorem d_Mod_raise_2 : decode prog_13_method_3_code 2 = .ok (.putfield 120, 3) := id_Mod_raise_0 (2, .putfield 120, 3) (List.mem_of_getElem? (i := 2) rfl)
theorem d_Mod_raise_5 : decode prog_13_method_3_code 5 = .ok (.iconst 0, 1) := id_Mod_raise_0 (5, .iconst 0, 1) (List.mem_of_getElem? (i := 3) rfl)
theorem d_Mod_raise_6 : decode prog_13_method_3_code 6 = .ok (.ireturn, 1) := id_Mod_raise_0 (6, .ireturn, 1) (List.mem_of_getElem? (i := 4) rfl)
theorem wC_Mod_raise : Cond.code ⟨"WarpMillModel", "raise", "(I)I"⟩ prog_13_method_3_code 2 (some .int) ∈ lw_tb := mem_tb 1284 (by decide +kernel) rfl
def f_Mod_raise (F : Nat) (x0 : Nat) (x1 : Int32) (h : Hp) : Option (Int32 × Hp) := gd (hK h x0 = 12) <| pw (sI h 704 x0 x1) fun h_2_2 => some ((0 : Int32), h_2_2)
set_option maxRecDepth 100000 in
set_option maxHeartbeats 4000000 in
theorem e_Mod_raise {G : Gl} (hw : gF G) {F : Nat} {r : Int32} {h' : Hp} {x0 : Nat} {x1 : Int32} {h : Hp} (hf : f_Mod_raise F x0 x1 h = some (r, h')) : Ex G mi_Mod_raise [.ref x0, .int x1] h (pI r h') := by
  unfold f_Mod_raise at hf
  refine Ex.of nmI (by decide) (Nat.le_of_ble_eq_true rfl) ?_
  show Go G mi_Mod_raise h _ h 0 [(0, .ref x0), (1, .int x1)] []
  refine g_aload_n d_Mod_raise_0 rfl ?_
  refine g_iload_n d_Mod_raise_1 rfl ?_
  obtain ⟨k_2, hf⟩ := gd_s hf
  refine fp_Mod_thrown hw lf_Mod_120 d_Mod_raise_2 k_2 ?_
  have hf := pw_b hf
  refine g_iconst 0 d_Mod_raise_5 (by decide) ?_
  exact Go.ret (some _) (rOk_i _) rfl d_Mod_raise_6 (pI_of hf)
abbrev mi_Mod_left : MI := (⟨"WarpMillModel", "left", "(IIII)I"⟩, prog_13_method_54_code, 4, some .int, 0, 0)
def it_Mod_left_0 : List (Nat × ClassFile.Instr × Nat) := [(0, .iload_n 0, 1), (1, .tableswitch (79) (51) (59) #[(51), (79), (51), (53), (57), (51), (68), (53), (51)], 51), (52, .iload_n 2, 1), (53, .ireturn, 1), (54, .iload_n 1, 1), (55, .iload_n 2, 1), (56, .iadd, 1), (57, .ireturn, 1), (58, .iload_n 1, 1), (59, .iload_n 2, 1), (60, .if_icmp .le (7), 3), (63, .iload_n 1, 1), (64, .goto (4), 3), (67, .iload_n 2, 1), (68, .ireturn, 1), (69, .iload_n 1, 1), (70, .iload_n 3, 1), (71, .if_icmp .ne (7), 3), (74, .iload_n 2, 1), (75, .goto (4), 3), (78, .iload_n 1, 1), (79, .ireturn, 1), (80, .iload_n 1, 1), (81, .ireturn, 1)]
theorem id_Mod_left_0 : ∀ q ∈ it_Mod_left_0, decode prog_13_method_54_code q.1 = .ok q.2 := by decide +kernel
theorem d_Mod_left_0 : decode prog_13_method_54_code 0 = .ok (.iload_n 0, 1) := id_Mod_left_0 (0, .iload_n 0, 1) (List.mem_of_getElem? (i := 0) rfl)
theorem d_Mod_left_1 : decode prog_13_method_54_code 1 = .ok (.tableswitch (79) (51) (59) #[(51), (79), (51), (53), (57), (51), (68), (53), (51)], 51) := id_Mod_left_0 (1, .tableswitch (79) (51) (59) #[(51), (79), (51), (53), (57), (51), (68), (53), (51)], 51) (List.mem_of_getElem? (i := 1) rfl)
theorem d_Mod_left_52 : decode prog_13_method_54_code 52 = .ok (.iload_n 2, 1) := id_Mod_left_0 (52, .iload_n 2, 1) (List.mem_of_getElem? (i := 2) rfl)
theorem d_Mod_left_53 : decode prog_13_method_54_code 53 = .ok (.ireturn, 1) := id_Mod_left_0 (53, .ireturn, 1) (List.mem_of_getElem? (i := 3) rfl)
theorem d_Mod_left_54 : decode prog_13_method_54_code 54 = .ok (.iload_n 1, 1) := id_Mod_left_0 (54, .iload_n 1, 1) (List.mem_of_getElem? (i := 4) rfl)
theorem d_Mod_left_55 : decode prog_13_method_54_code 55 = .ok (.iload_n 2, 1) := id_Mod_left_0 (55, .iload_n 2, 1) (List.mem_of_getElem? (i := 5) rfl)
theorem d_Mod_left_56 : decode prog_13_method_54_code 56 = .ok (.iadd, 1) := id_Mod_left_0 (56, .iadd, 1) (List.mem_of_getElem? (i := 6) rfl)
theorem d_Mod_left_57 : decode prog_13_method_54_code 57 = .ok (.ireturn, 1) := id_Mod_left_0 (57, .ireturn, 1) (List.mem_of_getElem? (i := 7) rfl)
theorem d_Mod_left_58 : decode prog_13_method_54_code 58 = .ok (.iload_n 1, 1) := id_Mod_left_0 (58, .iload_n 1, 1) (List.mem_of_getElem? (i := 8) rfl)
theorem d_Mod_left_59 : decode prog_13_method_54_code 59 = .ok (.iload_n 2, 1) := id_Mod_left_0 (59, .iload_n 2, 1) (List.mem_of_getElem? (i := 9) rfl)
theorem d_Mod_left_60 : decode prog_13_method_54_code 60 = .ok (.if_icmp .le (7), 3) := id_Mod_left_0 (60, .if_icmp .le (7), 3) (List.mem_of_getElem? (i := 10) rfl)
theorem d_Mod_left_63 : decode prog_13_method_54_code 63 = .ok (.iload_n 1, 1) := id_Mod_left_0 (63, .iload_n 1, 1) (List.mem_of_getElem? (i := 11) rfl)
theorem d_Mod_left_64 : decode prog_13_method_54_code 64 = .ok (.goto (4), 3) := id_Mod_left_0 (64, .goto (4), 3) (List.mem_of_getElem? (i := 12) rfl)
theorem d_Mod_left_67 : decode prog_13_method_54_code 67 = .ok (.iload_n 2, 1) := id_Mod_left_0 (67, .iload_n 2, 1) (List.mem_of_getElem? (i := 13) rfl)
theorem d_Mod_left_68 : decode prog_13_method_54_code 68 = .ok (.ireturn, 1) := id_Mod_left_0 (68, .ireturn, 1) (List.mem_of_getElem? (i := 14) rfl)
theorem d_Mod_left_69 : decode prog_13_method_54_code 69 = .ok (.iload_n 1, 1) := id_Mod_left_0 (69, .iload_n 1, 1) (List.mem_of_getElem? (i := 15) rfl)
theorem d_Mod_left_70 : decode prog_13_method_54_code 70 = .ok (.iload_n 3, 1) := id_Mod_left_0 (70, .iload_n 3, 1) (List.mem_of_getElem? (i := 16) rfl)
theorem d_Mod_left_71 : decode prog_13_method_54_code 71 = .ok (.if_icmp .ne (7), 3) := id_Mod_left_0 (71, .if_icmp .ne (7), 3) (List.mem_of_getElem? (i := 17) rfl)
theorem d_Mod_left_74 : decode prog_13_method_54_code 74 = .ok (.iload_n 2, 1) := id_Mod_left_0 (74, .iload_n 2, 1) (List.mem_of_getElem? (i := 18) rfl)
theorem d_Mod_left_75 : decode prog_13_method_54_code 75 = .ok (.goto (4), 3) := id_Mod_left_0 (75, .goto (4), 3) (List.mem_of_getElem? (i := 19) rfl)
theorem d_Mod_left_78 : decode prog_13_method_54_code 78 = .ok (.iload_n 1, 1) := id_Mod_left_0 (78, .iload_n 1, 1) (List.mem_of_getElem? (i := 20) rfl)
theorem d_Mod_left_79 : decode prog_13_method_54_code 79 = .ok (.ireturn, 1) := id_Mod_left_0 (79, .ireturn, 1) (List.mem_of_getElem? (i := 21) rfl)
theorem d_Mod_left_80 : decode prog_13_method_54_code 80 = .ok (.iload_n 1, 1) := id_Mod_left_0 (80, .iload_n 1, 1) (List.mem_of_getElem? (i := 22) rfl)
theorem d_Mod_left_81 : decode prog_13_method_54_code 81 = .ok (.ireturn, 1) := id_Mod_left_0 (81, .ireturn, 1) (List.mem_of_getElem? (i := 23) rfl)
theorem wC_Mod_left : Cond.code ⟨"WarpMillModel", "left", "(IIII)I"⟩ prog_13_method_54_code 4 (some .int) ∈ lw_tb := mem_tb 1299 (by decide +kernel) rfl
def f_Mod_left (F : Nat) (x0 : Int32) (x1 : Int32) (x2 : Int32) (x3 : Int32) (h : Hp) : Option (Int32 × Hp) := if x0 = 51 then (some (x2, h)) else if x0 = 53 then (some (x2, h)) else if x0 = 54 then (some ((x1 + x2), h)) else if x0 = 55 then (if x1 ≤ x2 then (some (x2, h)) else (some (x1, h))) else if x0 = 56 then (some (x2, h)) else if x0 = 57 then (if x1 = x3 then (some (x2, h)) else (some (x1, h))) else if x0 = 58 then (some ((x1 + x2), h)) else if x0 = 59 then (some (x2, h)) else (some (x1, h))
set_option maxRecDepth 100000 in
set_option maxHeartbeats 4000000 in
theorem e_Mod_left {G : Gl} {F : Nat} {r : Int32} {h' : Hp} {x0 : Int32} {x1 : Int32} {x2 : Int32} {x3 : Int32} {h : Hp} (hf : f_Mod_left F x0 x1 x2 x3 h = some (r, h')) : Ex G mi_Mod_left [.int x0, .int x1, .int x2, .int x3] h (pI r h') := by
  unfold f_Mod_left at hf
  refine Ex.of nmI (by decide) (Nat.le_of_ble_eq_true rfl) ?_
  show Go G mi_Mod_left h _ h 0 [(0, .int x0), (1, .int x1), (2, .int x2), (3, .int x3)] []
  refine g_iload_n d_Mod_left_0 rfl ?_
  refine g_sw sw_51_59 (fun hs_1 => ?_)
  rcases hs_1 with hs_1 | hs_1 | hs_1 | hs_1 | hs_1 | hs_1 | hs_1 | hs_1 | hs_1 | hs_1
  · refine g_tableOut 80 d_Mod_left_1 hs_1 (by decide) ?_
    have hf := ifn hf (sw_ne hs_1 51 (by decide) (by decide))
    have hf := ifn hf (sw_ne hs_1 53 (by decide) (by decide))
    have hf := ifn hf (sw_ne hs_1 54 (by decide) (by decide))
    have hf := ifn hf (sw_ne hs_1 55 (by decide) (by decide))
    have hf := ifn hf (sw_ne hs_1 56 (by decide) (by decide))
    have hf := ifn hf (sw_ne hs_1 57 (by decide) (by decide))
    have hf := ifn hf (sw_ne hs_1 58 (by decide) (by decide))
    have hf := ifn hf (sw_ne hs_1 59 (by decide) (by decide))
    refine g_iload_n d_Mod_left_80 rfl ?_
    exact Go.ret (some _) (rOk_i _) rfl d_Mod_left_81 (pI_of hf)
  · refine g_tableIn 52 d_Mod_left_1 (by rw [hs_1]; decide) (by rw [hs_1]; decide) (by rw [hs_1]; rfl) (by decide) ?_
    have hf := ifp hf hs_1
    refine g_iload_n d_Mod_left_52 rfl ?_
    exact Go.ret (some _) (rOk_i _) rfl d_Mod_left_53 (pI_of hf)
  · refine g_tableIn 80 d_Mod_left_1 (by rw [hs_1]; decide) (by rw [hs_1]; decide) (by rw [hs_1]; rfl) (by decide) ?_
    have hf := ifn hf (sw_d hs_1 (by decide))
    have hf := ifn hf (sw_d hs_1 (by decide))
    have hf := ifn hf (sw_d hs_1 (by decide))
    have hf := ifn hf (sw_d hs_1 (by decide))
    have hf := ifn hf (sw_d hs_1 (by decide))
    have hf := ifn hf (sw_d hs_1 (by decide))
    have hf := ifn hf (sw_d hs_1 (by decide))
    have hf := ifn hf (sw_d hs_1 (by decide))
    refine g_iload_n d_Mod_left_80 rfl ?_
    exact Go.ret (some _) (rOk_i _) rfl d_Mod_left_81 (pI_of hf)
  · refine g_tableIn 52 d_Mod_left_1 (by rw [hs_1]; decide) (by rw [hs_1]; decide) (by rw [hs_1]; rfl) (by decide) ?_
    have hf := ifn hf (sw_d hs_1 (by decide))
    have hf := ifp hf hs_1
    refine g_iload_n d_Mod_left_52 rfl ?_
    exact Go.ret (some _) (rOk_i _) rfl d_Mod_left_53 (pI_of hf)
  · refine g_tableIn 54 d_Mod_left_1 (by rw [hs_1]; decide) (by rw [hs_1]; decide) (by rw [hs_1]; rfl) (by decide) ?_
    have hf := ifn hf (sw_d hs_1 (by decide))
    have hf := ifn hf (sw_d hs_1 (by decide))
    have hf := ifp hf hs_1
    refine g_iload_n d_Mod_left_54 rfl ?_
    refine g_iload_n d_Mod_left_55 rfl ?_
    refine g_iadd d_Mod_left_56 ?_
    exact Go.ret (some _) (rOk_i _) rfl d_Mod_left_57 (pI_of hf)
  · refine g_tableIn 58 d_Mod_left_1 (by rw [hs_1]; decide) (by rw [hs_1]; decide) (by rw [hs_1]; rfl) (by decide) ?_
    have hf := ifn hf (sw_d hs_1 (by decide))
    have hf := ifn hf (sw_d hs_1 (by decide))
    have hf := ifn hf (sw_d hs_1 (by decide))
    have hf := ifp hf hs_1
    refine g_iload_n d_Mod_left_58 rfl ?_
    refine g_iload_n d_Mod_left_59 rfl ?_
    refine g_icmp_le 67 d_Mod_left_60 (by decide) (fun c_60 => ?_) (fun c_60 => ?_)
    · have hf := ifp hf c_60
      refine g_iload_n d_Mod_left_67 rfl ?_
      exact Go.ret (some _) (rOk_i _) rfl d_Mod_left_68 (pI_of hf)
    · have hf := ifn hf c_60
      refine g_iload_n d_Mod_left_63 rfl ?_
      refine g_goto 68 d_Mod_left_64 (by decide) ?_
      exact Go.ret (some _) (rOk_i _) rfl d_Mod_left_68 (pI_of hf)
  · refine g_tableIn 52 d_Mod_left_1 (by rw [hs_1]; decide) (by rw [hs_1]; decide) (by rw [hs_1]; rfl) (by decide) ?_
    have hf := ifn hf (sw_d hs_1 (by decide))
    have hf := ifn hf (sw_d hs_1 (by decide))
    have hf := ifn hf (sw_d hs_1 (by decide))
    have hf := ifn hf (sw_d hs_1 (by decide))
    have hf := ifp hf hs_1
    refine g_iload_n d_Mod_left_52 rfl ?_
    exact Go.ret (some _) (rOk_i _) rfl d_Mod_left_53 (pI_of hf)
  · refine g_tableIn 69 d_Mod_left_1 (by rw [hs_1]; decide) (by rw [hs_1]; decide) (by rw [hs_1]; rfl) (by decide) ?_
    have hf := ifn hf (sw_d hs_1 (by decide))
    have hf := ifn hf (sw_d hs_1 (by decide))
    have hf := ifn hf (sw_d hs_1 (by decide))
    have hf := ifn hf (sw_d hs_1 (by decide))
    have hf := ifn hf (sw_d hs_1 (by decide))
    have hf := ifp hf hs_1
    refine g_iload_n d_Mod_left_69 rfl ?_
    refine g_iload_n d_Mod_left_70 rfl ?_
    refine g_icmp_ne 78 d_Mod_left_71 (by decide) (fun c_71 => ?_) (fun c_71 => ?_)
    · have hf := ifn hf c_71
      refine g_iload_n d_Mod_left_78 rfl ?_
      exact Go.ret (some _) (rOk_i _) rfl d_Mod_left_79 (pI_of hf)
    · have hf := ifp hf c_71
      refine g_iload_n d_Mod_left_74 rfl ?_
      refine g_goto 79 d_Mod_left_75 (by decide) ?_
      exact Go.ret (some _) (rOk_i _) rfl d_Mod_left_79 (pI_of hf)
  · refine g_tableIn 54 d_Mod_left_1 (by rw [hs_1]; decide) (by rw [hs_1]; decide) (by rw [hs_1]; rfl) (by decide) ?_
    have hf := ifn hf (sw_d hs_1 (by decide))
    have hf := ifn hf (sw_d hs_1 (by decide))
    have hf := ifn hf (sw_d hs_1 (by decide))
    have hf := ifn hf (sw_d hs_1 (by decide))
    have hf := ifn hf (sw_d hs_1 (by decide))
    have hf := ifn hf (sw_d hs_1 (by decide))
    have hf := ifp hf hs_1
    refine g_iload_n d_Mod_left_54 rfl ?_
    refine g_iload_n d_Mod_left_55 rfl ?_
    refine g_iadd d_Mod_left_56 ?_
    exact Go.ret (some _) (rOk_i _) rfl d_Mod_left_57 (pI_of hf)
  · refine g_tableIn 52 d_Mod_left_1 (by rw [hs_1]; decide) (by rw [hs_1]; decide) (by rw [hs_1]; rfl) (by decide) ?_
    have hf := ifn hf (sw_d hs_1 (by decide))
    have hf := ifn hf (sw_d hs_1 (by decide))
    have hf := ifn hf (sw_d hs_1 (by decide))
    have hf := ifn hf (sw_d hs_1 (by decide))
    have hf := ifn hf (sw_d hs_1 (by decide))
    have hf := ifn hf (sw_d hs_1 (by decide))
    have hf := ifn hf (sw_d hs_1 (by decide))
    have hf := ifp hf hs_1
    refine g_iload_n d_Mod_left_52 rfl ?_
    exact Go.ret (some _) (rOk_i _) rfl d_Mod_left_53 (pI_of hf)
abbrev mi_Mod_thread : MI := (⟨"WarpMillModel", "thread", "(II)I"⟩, prog_13_method_19_code, 2, some .int, 0, 0)
def it_Mod_thread_0 : List (Nat × ClassFile.Instr × Nat) := [(0, .bipush (32), 2), (2, .iload_n 0, 1), (3, .imul, 1), (4, .iload_n 1, 1), (5, .iadd, 1), (6, .ireturn, 1)]
theorem id_Mod_thread_0 : ∀ q ∈ it_Mod_thread_0, decode prog_13_method_19_code q.1 = .ok q.2 := by decide +kernel
theorem d_Mod_thread_0 : decode prog_13_method_19_code 0 = .ok (.bipush (32), 2) := id_Mod_thread_0 (0, .bipush (32), 2) (List.mem_of_getElem? (i := 0) rfl)
theorem d_Mod_thread_2 : decode prog_13_method_19_code 2 = .ok (.iload_n 0, 1) := id_Mod_thread_0 (2, .iload_n 0, 1) (List.mem_of_getElem? (i := 1) rfl)
theorem d_Mod_thread_3 : decode prog_13_method_19_code 3 = .ok (.imul, 1) := id_Mod_thread_0 (3, .imul, 1) (List.mem_of_getElem? (i := 2) rfl)
theorem d_Mod_thread_4 : decode prog_13_method_19_code 4 = .ok (.iload_n 1, 1) := id_Mod_thread_0 (4, .iload_n 1, 1) (List.mem_of_getElem? (i := 3) rfl)
theorem d_Mod_thread_5 : decode prog_13_method_19_code 5 = .ok (.iadd, 1) := id_Mod_thread_0 (5, .iadd, 1) (List.mem_of_getElem? (i := 4) rfl)
theorem d_Mod_thread_6 : decode prog_13_method_19_code 6 = .ok (.ireturn, 1) := id_Mod_thread_0 (6, .ireturn, 1) (List.mem_of_getElem? (i := 5) rfl)
theorem wC_Mod_thread : Cond.code ⟨"WarpMillModel", "thread", "(II)I"⟩ prog_13_method_19_code 2 (some .int) ∈ lw_tb := mem_tb 1302 (by decide +kernel) rfl
def f_Mod_thread (F : Nat) (x0 : Int32) (x1 : Int32) (h : Hp) : Option (Int32 × Hp) := some ((((32 : Int32) * x0) + x1), h)
set_option maxRecDepth 100000 in
set_option maxHeartbeats 4000000 in
theorem e_Mod_thread {G : Gl} {F : Nat} {r : Int32} {h' : Hp} {x0 : Int32} {x1 : Int32} {h : Hp} (hf : f_Mod_thread F x0 x1 h = some (r, h')) : Ex G mi_Mod_thread [.int x0, .int x1] h (pI r h') := by
  unfold f_Mod_thread at hf
  refine Ex.of nmI (by decide) (Nat.le_of_ble_eq_true rfl) ?_
  show Go G mi_Mod_thread h _ h 0 [(0, .int x0), (1, .int x1)] []
  refine g_bipush (32) d_Mod_thread_0 (by decide) ?_
  refine g_iload_n d_Mod_thread_2 rfl ?_
  refine g_imul d_Mod_thread_3 ?_
  refine g_iload_n d_Mod_thread_4 rfl ?_
  refine g_iadd d_Mod_thread_5 ?_
  exact Go.ret (some _) (rOk_i _) rfl d_Mod_thread_6 (pI_of hf)
abbrev mi_Mod_doOne : MI := (⟨"WarpMillModel", "doOne", "(I)V"⟩, prog_13_method_58_code, 5, none, 1, 23)
def it_Mod_doOne_0 : List (Nat × ClassFile.Instr × Nat) := [(0, .aload_n 0, 1), (1, .getfield 93, 3), (4, .iload_n 1, 1), (5, .iaload, 1), (6, .bipush (16), 2), (8, .idiv, 1), (9, .istore_n 2, 1), (10, .aload_n 0, 1), (11, .getfield 32, 3), (14, .aload_n 0, 1), (15, .getfield 96, 3), (18, .iload_n 1, 1), (19, .iaload, 1), (20, .iaload, 1), (21, .istore_n 3, 1), (22, .aload_n 0, 1), (23, .getfield 32, 3), (26, .aload_n 0, 1), (27, .getfield 96, 3), (30, .iload_n 1, 1), (31, .iaload, 1), (32, .iload_n 2, 1), (33, .iload_n 3, 1), (34, .aload_n 0, 1)]
theorem id_Mod_doOne_0 : ∀ q ∈ it_Mod_doOne_0, decode prog_13_method_58_code q.1 = .ok q.2 := by decide +kernel
theorem d_Mod_doOne_0 : decode prog_13_method_58_code 0 = .ok (.aload_n 0, 1) := id_Mod_doOne_0 (0, .aload_n 0, 1) (List.mem_of_getElem? (i := 0) rfl)
theorem d_Mod_doOne_1 : decode prog_13_method_58_code 1 = .ok (.getfield 93, 3) := id_Mod_doOne_0 (1, .getfield 93, 3) (List.mem_of_getElem? (i := 1) rfl)
theorem d_Mod_doOne_4 : decode prog_13_method_58_code 4 = .ok (.iload_n 1, 1) := id_Mod_doOne_0 (4, .iload_n 1, 1) (List.mem_of_getElem? (i := 2) rfl)
theorem d_Mod_doOne_5 : decode prog_13_method_58_code 5 = .ok (.iaload, 1) := id_Mod_doOne_0 (5, .iaload, 1) (List.mem_of_getElem? (i := 3) rfl)
theorem d_Mod_doOne_6 : decode prog_13_method_58_code 6 = .ok (.bipush (16), 2) := id_Mod_doOne_0 (6, .bipush (16), 2) (List.mem_of_getElem? (i := 4) rfl)
theorem d_Mod_doOne_8 : decode prog_13_method_58_code 8 = .ok (.idiv, 1) := id_Mod_doOne_0 (8, .idiv, 1) (List.mem_of_getElem? (i := 5) rfl)
theorem d_Mod_doOne_9 : decode prog_13_method_58_code 9 = .ok (.istore_n 2, 1) := id_Mod_doOne_0 (9, .istore_n 2, 1) (List.mem_of_getElem? (i := 6) rfl)
theorem d_Mod_doOne_10 : decode prog_13_method_58_code 10 = .ok (.aload_n 0, 1) := id_Mod_doOne_0 (10, .aload_n 0, 1) (List.mem_of_getElem? (i := 7) rfl)
theorem d_Mod_doOne_11 : decode prog_13_method_58_code 11 = .ok (.getfield 32, 3) := id_Mod_doOne_0 (11, .getfield 32, 3) (List.mem_of_getElem? (i := 8) rfl)
theorem d_Mod_doOne_14 : decode prog_13_method_58_code 14 = .ok (.aload_n 0, 1) := id_Mod_doOne_0 (14, .aload_n 0, 1) (List.mem_of_getElem? (i := 9) rfl)
theorem d_Mod_doOne_15 : decode prog_13_method_58_code 15 = .ok (.getfield 96, 3) := id_Mod_doOne_0 (15, .getfield 96, 3) (List.mem_of_getElem? (i := 10) rfl)
theorem d_Mod_doOne_18 : decode prog_13_method_58_code 18 = .ok (.iload_n 1, 1) := id_Mod_doOne_0 (18, .iload_n 1, 1) (List.mem_of_getElem? (i := 11) rfl)
theorem d_Mod_doOne_19 : decode prog_13_method_58_code 19 = .ok (.iaload, 1) := id_Mod_doOne_0 (19, .iaload, 1) (List.mem_of_getElem? (i := 12) rfl)
theorem d_Mod_doOne_20 : decode prog_13_method_58_code 20 = .ok (.iaload, 1) := id_Mod_doOne_0 (20, .iaload, 1) (List.mem_of_getElem? (i := 13) rfl)
theorem d_Mod_doOne_21 : decode prog_13_method_58_code 21 = .ok (.istore_n 3, 1) := id_Mod_doOne_0 (21, .istore_n 3, 1) (List.mem_of_getElem? (i := 14) rfl)
theorem d_Mod_doOne_22 : decode prog_13_method_58_code 22 = .ok (.aload_n 0, 1) := id_Mod_doOne_0 (22, .aload_n 0, 1) (List.mem_of_getElem? (i := 15) rfl)
theorem d_Mod_doOne_23 : decode prog_13_method_58_code 23 = .ok (.getfield 32, 3) := id_Mod_doOne_0 (23, .getfield 32, 3) (List.mem_of_getElem? (i := 16) rfl)
theorem d_Mod_doOne_26 : decode prog_13_method_58_code 26 = .ok (.aload_n 0, 1) := id_Mod_doOne_0 (26, .aload_n 0, 1) (List.mem_of_getElem? (i := 17) rfl)
theorem d_Mod_doOne_27 : decode prog_13_method_58_code 27 = .ok (.getfield 96, 3) := id_Mod_doOne_0 (27, .getfield 96, 3) (List.mem_of_getElem? (i := 18) rfl)
theorem d_Mod_doOne_30 : decode prog_13_method_58_code 30 = .ok (.iload_n 1, 1) := id_Mod_doOne_0 (30, .iload_n 1, 1) (List.mem_of_getElem? (i := 19) rfl)
theorem d_Mod_doOne_31 : decode prog_13_method_58_code 31 = .ok (.iaload, 1) := id_Mod_doOne_0 (31, .iaload, 1) (List.mem_of_getElem? (i := 20) rfl)
theorem d_Mod_doOne_32 : decode prog_13_method_58_code 32 = .ok (.iload_n 2, 1) := id_Mod_doOne_0 (32, .iload_n 2, 1) (List.mem_of_getElem? (i := 21) rfl)
theorem d_Mod_doOne_33 : decode prog_13_method_58_code 33 = .ok (.iload_n 3, 1) := id_Mod_doOne_0 (33, .iload_n 3, 1) (List.mem_of_getElem? (i := 22) rfl)
theorem d_Mod_doOne_34 : decode prog_13_method_58_code 34 = .ok (.aload_n 0, 1) := id_Mod_doOne_0 (34, .aload_n 0, 1) (List.mem_of_getElem? (i := 23) rfl)
def it_Mod_doOne_1 : List (Nat × ClassFile.Instr × Nat) := [(35, .getfield 99, 3), (38, .iload_n 1, 1), (39, .iaload, 1), (40, .aload_n 0, 1), (41, .getfield 102, 3), (44, .iload_n 1, 1), (45, .iaload, 1), (46, .invokestatic 352, 3), (49, .iastore, 1), (50, .aload_n 0, 1), (51, .getfield 90, 3), (54, .iload_n 1, 1), (55, .iaload, 1), (56, .bipush (32), 2), (58, .idiv, 1), (59, .sipush (128), 3), (62, .irem, 1), (63, .istore 4, 2), (65, .iload_n 2, 1), (66, .bipush (51), 2), (68, .if_icmp .eq (59), 3), (71, .aload_n 0, 1), (72, .getfield 54, 3), (75, .iload 4, 2)]
theorem id_Mod_doOne_1 : ∀ q ∈ it_Mod_doOne_1, decode prog_13_method_58_code q.1 = .ok q.2 := by decide +kernel
theorem d_Mod_doOne_35 : decode prog_13_method_58_code 35 = .ok (.getfield 99, 3) := id_Mod_doOne_1 (35, .getfield 99, 3) (List.mem_of_getElem? (i := 0) rfl)
theorem d_Mod_doOne_38 : decode prog_13_method_58_code 38 = .ok (.iload_n 1, 1) := id_Mod_doOne_1 (38, .iload_n 1, 1) (List.mem_of_getElem? (i := 1) rfl)
theorem d_Mod_doOne_39 : decode prog_13_method_58_code 39 = .ok (.iaload, 1) := id_Mod_doOne_1 (39, .iaload, 1) (List.mem_of_getElem? (i := 2) rfl)
theorem d_Mod_doOne_40 : decode prog_13_method_58_code 40 = .ok (.aload_n 0, 1) := id_Mod_doOne_1 (40, .aload_n 0, 1) (List.mem_of_getElem? (i := 3) rfl)
theorem d_Mod_doOne_41 : decode prog_13_method_58_code 41 = .ok (.getfield 102, 3) := id_Mod_doOne_1 (41, .getfield 102, 3) (List.mem_of_getElem? (i := 4) rfl)
theorem d_Mod_doOne_44 : decode prog_13_method_58_code 44 = .ok (.iload_n 1, 1) := id_Mod_doOne_1 (44, .iload_n 1, 1) (List.mem_of_getElem? (i := 5) rfl)
theorem d_Mod_doOne_45 : decode prog_13_method_58_code 45 = .ok (.iaload, 1) := id_Mod_doOne_1 (45, .iaload, 1) (List.mem_of_getElem? (i := 6) rfl)
theorem d_Mod_doOne_46 : decode prog_13_method_58_code 46 = .ok (.invokestatic 352, 3) := id_Mod_doOne_1 (46, .invokestatic 352, 3) (List.mem_of_getElem? (i := 7) rfl)
theorem d_Mod_doOne_49 : decode prog_13_method_58_code 49 = .ok (.iastore, 1) := id_Mod_doOne_1 (49, .iastore, 1) (List.mem_of_getElem? (i := 8) rfl)
theorem d_Mod_doOne_50 : decode prog_13_method_58_code 50 = .ok (.aload_n 0, 1) := id_Mod_doOne_1 (50, .aload_n 0, 1) (List.mem_of_getElem? (i := 9) rfl)
theorem d_Mod_doOne_51 : decode prog_13_method_58_code 51 = .ok (.getfield 90, 3) := id_Mod_doOne_1 (51, .getfield 90, 3) (List.mem_of_getElem? (i := 10) rfl)
theorem d_Mod_doOne_54 : decode prog_13_method_58_code 54 = .ok (.iload_n 1, 1) := id_Mod_doOne_1 (54, .iload_n 1, 1) (List.mem_of_getElem? (i := 11) rfl)
theorem d_Mod_doOne_55 : decode prog_13_method_58_code 55 = .ok (.iaload, 1) := id_Mod_doOne_1 (55, .iaload, 1) (List.mem_of_getElem? (i := 12) rfl)
theorem d_Mod_doOne_56 : decode prog_13_method_58_code 56 = .ok (.bipush (32), 2) := id_Mod_doOne_1 (56, .bipush (32), 2) (List.mem_of_getElem? (i := 13) rfl)
theorem d_Mod_doOne_58 : decode prog_13_method_58_code 58 = .ok (.idiv, 1) := id_Mod_doOne_1 (58, .idiv, 1) (List.mem_of_getElem? (i := 14) rfl)
theorem d_Mod_doOne_59 : decode prog_13_method_58_code 59 = .ok (.sipush (128), 3) := id_Mod_doOne_1 (59, .sipush (128), 3) (List.mem_of_getElem? (i := 15) rfl)
theorem d_Mod_doOne_62 : decode prog_13_method_58_code 62 = .ok (.irem, 1) := id_Mod_doOne_1 (62, .irem, 1) (List.mem_of_getElem? (i := 16) rfl)
theorem d_Mod_doOne_63 : decode prog_13_method_58_code 63 = .ok (.istore 4, 2) := id_Mod_doOne_1 (63, .istore 4, 2) (List.mem_of_getElem? (i := 17) rfl)
theorem d_Mod_doOne_65 : decode prog_13_method_58_code 65 = .ok (.iload_n 2, 1) := id_Mod_doOne_1 (65, .iload_n 2, 1) (List.mem_of_getElem? (i := 18) rfl)
theorem d_Mod_doOne_66 : decode prog_13_method_58_code 66 = .ok (.bipush (51), 2) := id_Mod_doOne_1 (66, .bipush (51), 2) (List.mem_of_getElem? (i := 19) rfl)
theorem d_Mod_doOne_68 : decode prog_13_method_58_code 68 = .ok (.if_icmp .eq (59), 3) := id_Mod_doOne_1 (68, .if_icmp .eq (59), 3) (List.mem_of_getElem? (i := 20) rfl)
theorem d_Mod_doOne_71 : decode prog_13_method_58_code 71 = .ok (.aload_n 0, 1) := id_Mod_doOne_1 (71, .aload_n 0, 1) (List.mem_of_getElem? (i := 21) rfl)
theorem d_Mod_doOne_72 : decode prog_13_method_58_code 72 = .ok (.getfield 54, 3) := id_Mod_doOne_1 (72, .getfield 54, 3) (List.mem_of_getElem? (i := 22) rfl)
theorem d_Mod_doOne_75 : decode prog_13_method_58_code 75 = .ok (.iload 4, 2) := id_Mod_doOne_1 (75, .iload 4, 2) (List.mem_of_getElem? (i := 23) rfl)
def it_Mod_doOne_2 : List (Nat × ClassFile.Instr × Nat) := [(77, .iaload, 1), (78, .aload_n 0, 1), (79, .getfield 90, 3), (82, .iload_n 1, 1), (83, .iaload, 1), (84, .bipush (32), 2), (86, .idiv, 1), (87, .sipush (128), 3), (90, .idiv, 1), (91, .if_icmp .ne (36), 3), (94, .aload_n 0, 1), (95, .getfield 67, 3), (98, .bipush (16), 2), (100, .iload 4, 2), (102, .aload_n 0, 1), (103, .getfield 90, 3), (106, .iload_n 1, 1), (107, .iaload, 1), (108, .bipush (32), 2), (110, .irem, 1), (111, .invokestatic 211, 3), (114, .imul, 1), (115, .aload_n 0, 1), (116, .getfield 93, 3)]
theorem id_Mod_doOne_2 : ∀ q ∈ it_Mod_doOne_2, decode prog_13_method_58_code q.1 = .ok q.2 := by decide +kernel
theorem d_Mod_doOne_77 : decode prog_13_method_58_code 77 = .ok (.iaload, 1) := id_Mod_doOne_2 (77, .iaload, 1) (List.mem_of_getElem? (i := 0) rfl)
theorem d_Mod_doOne_78 : decode prog_13_method_58_code 78 = .ok (.aload_n 0, 1) := id_Mod_doOne_2 (78, .aload_n 0, 1) (List.mem_of_getElem? (i := 1) rfl)
theorem d_Mod_doOne_79 : decode prog_13_method_58_code 79 = .ok (.getfield 90, 3) := id_Mod_doOne_2 (79, .getfield 90, 3) (List.mem_of_getElem? (i := 2) rfl)
theorem d_Mod_doOne_82 : decode prog_13_method_58_code 82 = .ok (.iload_n 1, 1) := id_Mod_doOne_2 (82, .iload_n 1, 1) (List.mem_of_getElem? (i := 3) rfl)
theorem d_Mod_doOne_83 : decode prog_13_method_58_code 83 = .ok (.iaload, 1) := id_Mod_doOne_2 (83, .iaload, 1) (List.mem_of_getElem? (i := 4) rfl)
theorem d_Mod_doOne_84 : decode prog_13_method_58_code 84 = .ok (.bipush (32), 2) := id_Mod_doOne_2 (84, .bipush (32), 2) (List.mem_of_getElem? (i := 5) rfl)
theorem d_Mod_doOne_86 : decode prog_13_method_58_code 86 = .ok (.idiv, 1) := id_Mod_doOne_2 (86, .idiv, 1) (List.mem_of_getElem? (i := 6) rfl)
theorem d_Mod_doOne_87 : decode prog_13_method_58_code 87 = .ok (.sipush (128), 3) := id_Mod_doOne_2 (87, .sipush (128), 3) (List.mem_of_getElem? (i := 7) rfl)
theorem d_Mod_doOne_90 : decode prog_13_method_58_code 90 = .ok (.idiv, 1) := id_Mod_doOne_2 (90, .idiv, 1) (List.mem_of_getElem? (i := 8) rfl)
theorem d_Mod_doOne_91 : decode prog_13_method_58_code 91 = .ok (.if_icmp .ne (36), 3) := id_Mod_doOne_2 (91, .if_icmp .ne (36), 3) (List.mem_of_getElem? (i := 9) rfl)
theorem d_Mod_doOne_94 : decode prog_13_method_58_code 94 = .ok (.aload_n 0, 1) := id_Mod_doOne_2 (94, .aload_n 0, 1) (List.mem_of_getElem? (i := 10) rfl)
theorem d_Mod_doOne_95 : decode prog_13_method_58_code 95 = .ok (.getfield 67, 3) := id_Mod_doOne_2 (95, .getfield 67, 3) (List.mem_of_getElem? (i := 11) rfl)
theorem d_Mod_doOne_98 : decode prog_13_method_58_code 98 = .ok (.bipush (16), 2) := id_Mod_doOne_2 (98, .bipush (16), 2) (List.mem_of_getElem? (i := 12) rfl)
theorem d_Mod_doOne_100 : decode prog_13_method_58_code 100 = .ok (.iload 4, 2) := id_Mod_doOne_2 (100, .iload 4, 2) (List.mem_of_getElem? (i := 13) rfl)
theorem d_Mod_doOne_102 : decode prog_13_method_58_code 102 = .ok (.aload_n 0, 1) := id_Mod_doOne_2 (102, .aload_n 0, 1) (List.mem_of_getElem? (i := 14) rfl)
theorem d_Mod_doOne_103 : decode prog_13_method_58_code 103 = .ok (.getfield 90, 3) := id_Mod_doOne_2 (103, .getfield 90, 3) (List.mem_of_getElem? (i := 15) rfl)
theorem d_Mod_doOne_106 : decode prog_13_method_58_code 106 = .ok (.iload_n 1, 1) := id_Mod_doOne_2 (106, .iload_n 1, 1) (List.mem_of_getElem? (i := 16) rfl)
theorem d_Mod_doOne_107 : decode prog_13_method_58_code 107 = .ok (.iaload, 1) := id_Mod_doOne_2 (107, .iaload, 1) (List.mem_of_getElem? (i := 17) rfl)
theorem d_Mod_doOne_108 : decode prog_13_method_58_code 108 = .ok (.bipush (32), 2) := id_Mod_doOne_2 (108, .bipush (32), 2) (List.mem_of_getElem? (i := 18) rfl)
theorem d_Mod_doOne_110 : decode prog_13_method_58_code 110 = .ok (.irem, 1) := id_Mod_doOne_2 (110, .irem, 1) (List.mem_of_getElem? (i := 19) rfl)
theorem d_Mod_doOne_111 : decode prog_13_method_58_code 111 = .ok (.invokestatic 211, 3) := id_Mod_doOne_2 (111, .invokestatic 211, 3) (List.mem_of_getElem? (i := 20) rfl)
theorem d_Mod_doOne_114 : decode prog_13_method_58_code 114 = .ok (.imul, 1) := id_Mod_doOne_2 (114, .imul, 1) (List.mem_of_getElem? (i := 21) rfl)
theorem d_Mod_doOne_115 : decode prog_13_method_58_code 115 = .ok (.aload_n 0, 1) := id_Mod_doOne_2 (115, .aload_n 0, 1) (List.mem_of_getElem? (i := 22) rfl)
theorem d_Mod_doOne_116 : decode prog_13_method_58_code 116 = .ok (.getfield 93, 3) := id_Mod_doOne_2 (116, .getfield 93, 3) (List.mem_of_getElem? (i := 23) rfl)
def it_Mod_doOne_3 : List (Nat × ClassFile.Instr × Nat) := [(119, .iload_n 1, 1), (120, .iaload, 1), (121, .bipush (16), 2), (123, .irem, 1), (124, .iadd, 1), (125, .iload_n 3, 1), (126, .iastore, 1), (127, .return_, 1)]
theorem id_Mod_doOne_3 : ∀ q ∈ it_Mod_doOne_3, decode prog_13_method_58_code q.1 = .ok q.2 := by decide +kernel
theorem d_Mod_doOne_119 : decode prog_13_method_58_code 119 = .ok (.iload_n 1, 1) := id_Mod_doOne_3 (119, .iload_n 1, 1) (List.mem_of_getElem? (i := 0) rfl)
theorem d_Mod_doOne_120 : decode prog_13_method_58_code 120 = .ok (.iaload, 1) := id_Mod_doOne_3 (120, .iaload, 1) (List.mem_of_getElem? (i := 1) rfl)
theorem d_Mod_doOne_121 : decode prog_13_method_58_code 121 = .ok (.bipush (16), 2) := id_Mod_doOne_3 (121, .bipush (16), 2) (List.mem_of_getElem? (i := 2) rfl)
theorem d_Mod_doOne_123 : decode prog_13_method_58_code 123 = .ok (.irem, 1) := id_Mod_doOne_3 (123, .irem, 1) (List.mem_of_getElem? (i := 3) rfl)
theorem d_Mod_doOne_124 : decode prog_13_method_58_code 124 = .ok (.iadd, 1) := id_Mod_doOne_3 (124, .iadd, 1) (List.mem_of_getElem? (i := 4) rfl)
theorem d_Mod_doOne_125 : decode prog_13_method_58_code 125 = .ok (.iload_n 3, 1) := id_Mod_doOne_3 (125, .iload_n 3, 1) (List.mem_of_getElem? (i := 5) rfl)
theorem d_Mod_doOne_126 : decode prog_13_method_58_code 126 = .ok (.iastore, 1) := id_Mod_doOne_3 (126, .iastore, 1) (List.mem_of_getElem? (i := 6) rfl)
theorem d_Mod_doOne_127 : decode prog_13_method_58_code 127 = .ok (.return_, 1) := id_Mod_doOne_3 (127, .return_, 1) (List.mem_of_getElem? (i := 7) rfl)
theorem wC_Mod_doOne : Cond.code ⟨"WarpMillModel", "doOne", "(I)V"⟩ prog_13_method_58_code 5 (none) ∈ lw_tb := mem_tb 1296 (by decide +kernel) rfl
theorem cw_Mod_doOne_Mod_left : cW mi_Mod_doOne mi_Mod_left 4 := ⟨wC_Mod_left, wi_Mod, ⟨by decide, by decide, by decide +kernel⟩, by decide, by decide⟩
theorem cw_Mod_doOne_Mod_thread : cW mi_Mod_doOne mi_Mod_thread 2 := ⟨wC_Mod_thread, wi_Mod, ⟨by decide, by decide, by decide +kernel⟩, by decide, by decide⟩
def f_Mod_doOne (F : Nat) (x0 : Nat) (x1 : Int32) (h : Hp) : Option Hp := gd (hK h x0 = 12) <| rq h (hR h 749 x0) 100 fun a_1_2 => ix x1 (hN h a_1_2) fun j_5 => gd (¬ (16 : Int32) = 0) <| rq h (hR h 712 x0) 100 fun a_11 => rq h (hR h 750 x0) 100 fun a_15 => ix x1 (hN h a_15) fun j_19 => ix (hA h a_15 j_19) (hN h a_11) fun j_20 => ix x1 (hN h a_15) fun j_31 => rq h (hR h 751 x0) 100 fun a_35 => ix x1 (hN h a_35) fun j_39 => rq h (hR h 752 x0) 100 fun a_41 => ix x1 (hN h a_41) fun j_45 => cl (f_Mod_left F ((hA h a_1_2 j_5) / (16 : Int32)) (hA h a_11 j_20) (hA h a_35 j_39) (hA h a_41 j_45) h) fun v_46 h_46 => gd (hK h_46 a_11 = 100) <| ix (hA h a_15 j_31) (hN h_46 a_11) fun j_49_2 => pw (sA h_46 a_11 j_49_2 v_46) fun h_49_3 => gd (hK h_49_3 x0 = 12) <| rq h_49_3 (hR h_49_3 748 x0) 100 fun a_51_2 => ix x1 (hN h_49_3 a_51_2) fun j_55 => gd (¬ (32 : Int32) = 0) <| gd (¬ (128 : Int32) = 0) <| if ((hA h a_1_2 j_5) / (16 : Int32)) = (51 : Int32) then (some h_49_3) else (rq h_49_3 (hR h_49_3 735 x0) 100 fun a_72 => ix (((hA h_49_3 a_51_2 j_55) / (32 : Int32)) - ((hA h_49_3 a_51_2 j_55) / (32 : Int32)) / (128 : Int32) * (128 : Int32)) (hN h_49_3 a_72) fun j_77 => ix x1 (hN h_49_3 a_51_2) fun j_83 => gd (¬ (32 : Int32) = 0) <| gd (¬ (128 : Int32) = 0) <| if (hA h_49_3 a_72 j_77) = (((hA h_49_3 a_51_2 j_83) / (32 : Int32)) / (128 : Int32)) then (rq h_49_3 (hR h_49_3 739 x0) 100 fun a_95 => ix x1 (hN h_49_3 a_51_2) fun j_107 => gd (¬ (32 : Int32) = 0) <| cl (f_Mod_thread F (((hA h_49_3 a_51_2 j_55) / (32 : Int32)) - ((hA h_49_3 a_51_2 j_55) / (32 : Int32)) / (128 : Int32) * (128 : Int32)) ((hA h_49_3 a_51_2 j_107) - (hA h_49_3 a_51_2 j_107) / (32 : Int32) * (32 : Int32)) h_49_3) fun v_111 h_111 => gd (hK h_111 x0 = 12) <| rq h_111 (hR h_111 749 x0) 100 fun a_116_2 => ix x1 (hN h_111 a_116_2) fun j_120 => gd (¬ (16 : Int32) = 0) <| gd (hK h_111 a_95 = 100) <| ix (((16 : Int32) * v_111) + ((hA h_111 a_116_2 j_120) - (hA h_111 a_116_2 j_120) / (16 : Int32) * (16 : Int32))) (hN h_111 a_95) fun j_126_2 => pw (sA h_111 a_95 j_126_2 (hA h a_11 j_20)) fun h_126_3 => some h_126_3) else (some h_49_3))
set_option maxRecDepth 100000 in
set_option maxHeartbeats 4000000 in
theorem e_Mod_doOne {G : Gl} (hw : gF G) {F : Nat} {h' : Hp} {x0 : Nat} {x1 : Int32} {h : Hp} (hf : f_Mod_doOne F x0 x1 h = some h') : Ex G mi_Mod_doOne [.ref x0, .int x1] h (pV h') := by
  unfold f_Mod_doOne at hf
  refine Ex.of nmV (by decide) (Nat.le_of_ble_eq_true rfl) ?_
  show Go G mi_Mod_doOne h _ h 0 [(0, .ref x0), (1, .int x1)] []
  refine g_aload_n d_Mod_doOne_0 rfl ?_
  obtain ⟨k_1, hf⟩ := gd_s hf
  obtain ⟨a_1_2, e_1_2, k_1_2, hf⟩ := rq_s hf
  refine fgs_Mod_what lf_Mod_93 d_Mod_doOne_1 k_1 e_1_2 ?_
  refine g_iload_n d_Mod_doOne_4 rfl ?_
  obtain ⟨i_5, hf⟩ := ix_s hf
  refine g_iald k_1_2 i_5 d_Mod_doOne_5 ?_
  refine g_bipush (16) d_Mod_doOne_6 (by decide) ?_
  obtain ⟨z_8, hf⟩ := gd_s hf
  refine g_idiv d_Mod_doOne_8 z_8 ?_
  refine g_istore_n d_Mod_doOne_9 (by decide) ?_
  show Go _ _ _ _ _ _ [(0, _), (1, _), (2, _)] _
  refine g_aload_n d_Mod_doOne_10 rfl ?_
  obtain ⟨a_11, e_11, k_11, hf⟩ := rq_s hf
  refine fgs_Mod_memory lf_Mod_32 d_Mod_doOne_11 k_1 e_11 ?_
  refine g_aload_n d_Mod_doOne_14 rfl ?_
  obtain ⟨a_15, e_15, k_15, hf⟩ := rq_s hf
  refine fgs_Mod_where lf_Mod_96 d_Mod_doOne_15 k_1 e_15 ?_
  refine g_iload_n d_Mod_doOne_18 rfl ?_
  obtain ⟨i_19, hf⟩ := ix_s hf
  refine g_iald k_15 i_19 d_Mod_doOne_19 ?_
  obtain ⟨i_20, hf⟩ := ix_s hf
  refine g_iald k_11 i_20 d_Mod_doOne_20 ?_
  refine g_istore_n d_Mod_doOne_21 (by decide) ?_
  show Go _ _ _ _ _ _ [(0, _), (1, _), (2, _), (3, _)] _
  refine g_aload_n d_Mod_doOne_22 rfl ?_
  refine fgs_Mod_memory lf_Mod_32 d_Mod_doOne_23 k_1 e_11 ?_
  refine g_aload_n d_Mod_doOne_26 rfl ?_
  refine fgs_Mod_where lf_Mod_96 d_Mod_doOne_27 k_1 e_15 ?_
  refine g_iload_n d_Mod_doOne_30 rfl ?_
  obtain ⟨i_31, hf⟩ := ix_s hf
  refine g_iald k_15 i_31 d_Mod_doOne_31 ?_
  refine g_iload_n d_Mod_doOne_32 rfl ?_
  refine g_iload_n d_Mod_doOne_33 rfl ?_
  refine g_aload_n d_Mod_doOne_34 rfl ?_
  obtain ⟨a_35, e_35, k_35, hf⟩ := rq_s hf
  refine fgs_Mod_with lf_Mod_99 d_Mod_doOne_35 k_1 e_35 ?_
  refine g_iload_n d_Mod_doOne_38 rfl ?_
  obtain ⟨i_39, hf⟩ := ix_s hf
  refine g_iald k_35 i_39 d_Mod_doOne_39 ?_
  refine g_aload_n d_Mod_doOne_40 rfl ?_
  obtain ⟨a_41, e_41, k_41, hf⟩ := rq_s hf
  refine fgs_Mod_old lf_Mod_102 d_Mod_doOne_41 k_1 e_41 ?_
  refine g_iload_n d_Mod_doOne_44 rfl ?_
  obtain ⟨i_45, hf⟩ := ix_s hf
  refine g_iald k_41 i_45 d_Mod_doOne_45 ?_
  obtain ⟨v_46, h_46, e_46, hf⟩ := cl_s hf
  refine g_callS (mz := mi_Mod_left) (e_Mod_left e_46) cw_Mod_doOne_Mod_left lm_Mod_352 wS_Mod_left d_Mod_doOne_46 rfl rfl (by first | exact Nat.le_of_ble_eq_true rfl | simp [cat_rf, Value.category]) (fun r1 h1 hp hro => ?_)
  obtain ⟨rfl, rfl⟩ := hp
  dsimp only [Option.toList_some, Option.toList_none, List.cons_append, List.nil_append]
  obtain ⟨k_49, hf⟩ := gd_s hf
  obtain ⟨i_49_2, hf⟩ := ix_s hf
  refine g_iast hw k_49 i_49_2 d_Mod_doOne_49 ?_
  have hf := pw_b hf
  refine g_aload_n d_Mod_doOne_50 rfl ?_
  obtain ⟨k_51, hf⟩ := gd_s hf
  obtain ⟨a_51_2, e_51_2, k_51_2, hf⟩ := rq_s hf
  refine fgs_Mod_who lf_Mod_90 d_Mod_doOne_51 k_51 e_51_2 ?_
  refine g_iload_n d_Mod_doOne_54 rfl ?_
  obtain ⟨i_55, hf⟩ := ix_s hf
  refine g_iald k_51_2 i_55 d_Mod_doOne_55 ?_
  refine g_bipush (32) d_Mod_doOne_56 (by decide) ?_
  obtain ⟨z_58, hf⟩ := gd_s hf
  refine g_idiv d_Mod_doOne_58 z_58 ?_
  refine g_sipush (128) d_Mod_doOne_59 (by decide) ?_
  obtain ⟨z_62, hf⟩ := gd_s hf
  refine g_irem d_Mod_doOne_62 z_62 ?_
  refine g_istore d_Mod_doOne_63 (by decide) ?_
  show Go _ _ _ _ _ _ [(0, _), (1, _), (2, _), (3, _), (4, _)] _
  refine g_iload_n d_Mod_doOne_65 rfl ?_
  refine g_bipush (51) d_Mod_doOne_66 (by decide) ?_
  refine g_icmp_eq 127 d_Mod_doOne_68 (by decide) (fun c_68 => ?_) (fun c_68 => ?_)
  · have hf := ifp hf c_68
    exact Go.ret none trivial rfl d_Mod_doOne_127 (pV_of hf)
  · have hf := ifn hf c_68
    refine g_aload_n d_Mod_doOne_71 rfl ?_
    obtain ⟨a_72, e_72, k_72, hf⟩ := rq_s hf
    refine fgs_Mod_slotBlock lf_Mod_54 d_Mod_doOne_72 k_51 e_72 ?_
    refine g_iload d_Mod_doOne_75 rfl ?_
    obtain ⟨i_77, hf⟩ := ix_s hf
    refine g_iald k_72 i_77 d_Mod_doOne_77 ?_
    refine g_aload_n d_Mod_doOne_78 rfl ?_
    refine fgs_Mod_who lf_Mod_90 d_Mod_doOne_79 k_51 e_51_2 ?_
    refine g_iload_n d_Mod_doOne_82 rfl ?_
    obtain ⟨i_83, hf⟩ := ix_s hf
    refine g_iald k_51_2 i_83 d_Mod_doOne_83 ?_
    refine g_bipush (32) d_Mod_doOne_84 (by decide) ?_
    obtain ⟨z_86, hf⟩ := gd_s hf
    refine g_idiv d_Mod_doOne_86 z_86 ?_
    refine g_sipush (128) d_Mod_doOne_87 (by decide) ?_
    obtain ⟨z_90, hf⟩ := gd_s hf
    refine g_idiv d_Mod_doOne_90 z_90 ?_
    refine g_icmp_ne 127 d_Mod_doOne_91 (by decide) (fun c_91 => ?_) (fun c_91 => ?_)
    · have hf := ifn hf c_91
      exact Go.ret none trivial rfl d_Mod_doOne_127 (pV_of hf)
    · have hf := ifp hf c_91
      refine g_aload_n d_Mod_doOne_94 rfl ?_
      obtain ⟨a_95, e_95, k_95, hf⟩ := rq_s hf
      refine fgs_Mod_register lf_Mod_67 d_Mod_doOne_95 k_51 e_95 ?_
      refine g_bipush (16) d_Mod_doOne_98 (by decide) ?_
      refine g_iload d_Mod_doOne_100 rfl ?_
      refine g_aload_n d_Mod_doOne_102 rfl ?_
      refine fgs_Mod_who lf_Mod_90 d_Mod_doOne_103 k_51 e_51_2 ?_
      refine g_iload_n d_Mod_doOne_106 rfl ?_
      obtain ⟨i_107, hf⟩ := ix_s hf
      refine g_iald k_51_2 i_107 d_Mod_doOne_107 ?_
      refine g_bipush (32) d_Mod_doOne_108 (by decide) ?_
      obtain ⟨z_110, hf⟩ := gd_s hf
      refine g_irem d_Mod_doOne_110 z_110 ?_
      obtain ⟨v_111, h_111, e_111, hf⟩ := cl_s hf
      refine g_callS (mz := mi_Mod_thread) (e_Mod_thread e_111) cw_Mod_doOne_Mod_thread lm_Mod_211 wS_Mod_thread d_Mod_doOne_111 rfl rfl (by first | exact Nat.le_of_ble_eq_true rfl | simp [cat_rf, Value.category]) (fun r1 h1 hp hro => ?_)
      obtain ⟨rfl, rfl⟩ := hp
      dsimp only [Option.toList_some, Option.toList_none, List.cons_append, List.nil_append]
      refine g_imul d_Mod_doOne_114 ?_
      refine g_aload_n d_Mod_doOne_115 rfl ?_
      obtain ⟨k_116, hf⟩ := gd_s hf
      obtain ⟨a_116_2, e_116_2, k_116_2, hf⟩ := rq_s hf
      refine fgs_Mod_what lf_Mod_93 d_Mod_doOne_116 k_116 e_116_2 ?_
      refine g_iload_n d_Mod_doOne_119 rfl ?_
      obtain ⟨i_120, hf⟩ := ix_s hf
      refine g_iald k_116_2 i_120 d_Mod_doOne_120 ?_
      refine g_bipush (16) d_Mod_doOne_121 (by decide) ?_
      obtain ⟨z_123, hf⟩ := gd_s hf
      refine g_irem d_Mod_doOne_123 z_123 ?_
      refine g_iadd d_Mod_doOne_124 ?_
      refine g_iload_n d_Mod_doOne_125 rfl ?_
      obtain ⟨k_126, hf⟩ := gd_s hf
      obtain ⟨i_126_2, hf⟩ := ix_s hf
      refine g_iast hw k_126 i_126_2 d_Mod_doOne_126 ?_
      have hf := pw_b hf
      exact Go.ret none trivial rfl d_Mod_doOne_127 (pV_of hf)
