def szTell (h : Hp) (x : Nat) (k : Int32) : Int32 := if k = 0 then hI h 64 x else if k = 1 then hI h 65 x else if k = 2 then hI h 66 x else if k = 3 then hI h 67 x else if k = 4 then hI h 68 x else hI h 69 x
def taTell (h : Hp) (x : Nat) (k : Int32) : Int32 := if k = 0 then hI h 320 x else if k = 1 then hI h 325 x else if k = 2 then hI h 327 x else if k = 3 then hI h 328 x else if k = 6 then hI h 324 x else if k = 7 then hI h 326 x else if k = 8 then hI h 330 x else if k = 9 then hI h 331 x else if k = 10 then hI h 332 x else if k = 11 then hI h 333 x else if k = 12 then hI h 329 x else -1
def unTell (h : Hp) (x : Nat) (k : Int32) : Int32 := if k = 0 then hI h 390 x else if k = 1 then hI h 391 x else if k = 2 then hI h 388 x else if k = 3 then hI h 389 x else -1
theorem sw_ne {x : Int32} {lo hi : Int} (h : x.toInt < lo ∨ hi < x.toInt) (k : Int32) (h1 : lo ≤ k.toInt) (h2 : k.toInt ≤ hi) : ¬ x = k := by
  intro q
  subst q
  omega
abbrev mi_Sizes_tell : MI := (⟨"WarpMill$Sizes", "tell", "(I)I"⟩, prog_7_method_4_code, 2, some .int, 0, 0)
def it_Sizes_tell_0 : List (Nat × ClassFile.Instr × Nat) := [(0, .iload_n 1, 1), (1, .tableswitch (60) (0) (4) #[(35), (40), (45), (50), (55)], 35), (36, .aload_n 0, 1), (37, .getfield 9, 3), (40, .ireturn, 1), (41, .aload_n 0, 1), (42, .getfield 15, 3), (45, .ireturn, 1), (46, .aload_n 0, 1), (47, .getfield 18, 3), (50, .ireturn, 1), (51, .aload_n 0, 1), (52, .getfield 21, 3), (55, .ireturn, 1), (56, .aload_n 0, 1), (57, .getfield 24, 3), (60, .ireturn, 1), (61, .aload_n 0, 1), (62, .getfield 27, 3), (65, .ireturn, 1)]
theorem id_Sizes_tell_0 : ∀ q ∈ it_Sizes_tell_0, decode prog_7_method_4_code q.1 = .ok q.2 := by decide +kernel
theorem d_Sizes_tell_0 : decode prog_7_method_4_code 0 = .ok (.iload_n 1, 1) := id_Sizes_tell_0 (0, .iload_n 1, 1) (List.mem_of_getElem? (i := 0) rfl)
theorem d_Sizes_tell_1 : decode prog_7_method_4_code 1 = .ok (.tableswitch (60) (0) (4) #[(35), (40), (45), (50), (55)], 35) := id_Sizes_tell_0 (1, .tableswitch (60) (0) (4) #[(35), (40), (45), (50), (55)], 35) (List.mem_of_getElem? (i := 1) rfl)
theorem d_Sizes_tell_36 : decode prog_7_method_4_code 36 = .ok (.aload_n 0, 1) := id_Sizes_tell_0 (36, .aload_n 0, 1) (List.mem_of_getElem? (i := 2) rfl)
theorem d_Sizes_tell_37 : decode prog_7_method_4_code 37 = .ok (.getfield 9, 3) := id_Sizes_tell_0 (37, .getfield 9, 3) (List.mem_of_getElem? (i := 3) rfl)
theorem d_Sizes_tell_40 : decode prog_7_method_4_code 40 = .ok (.ireturn, 1) := id_Sizes_tell_0 (40, .ireturn, 1) (List.mem_of_getElem? (i := 4) rfl)
theorem d_Sizes_tell_41 : decode prog_7_method_4_code 41 = .ok (.aload_n 0, 1) := id_Sizes_tell_0 (41, .aload_n 0, 1) (List.mem_of_getElem? (i := 5) rfl)
theorem d_Sizes_tell_42 : decode prog_7_method_4_code 42 = .ok (.getfield 15, 3) := id_Sizes_tell_0 (42, .getfield 15, 3) (List.mem_of_getElem? (i := 6) rfl)
theorem d_Sizes_tell_45 : decode prog_7_method_4_code 45 = .ok (.ireturn, 1) := id_Sizes_tell_0 (45, .ireturn, 1) (List.mem_of_getElem? (i := 7) rfl)
theorem d_Sizes_tell_46 : decode prog_7_method_4_code 46 = .ok (.aload_n 0, 1) := id_Sizes_tell_0 (46, .aload_n 0, 1) (List.mem_of_getElem? (i := 8) rfl)
theorem d_Sizes_tell_47 : decode prog_7_method_4_code 47 = .ok (.getfield 18, 3) := id_Sizes_tell_0 (47, .getfield 18, 3) (List.mem_of_getElem? (i := 9) rfl)
theorem d_Sizes_tell_50 : decode prog_7_method_4_code 50 = .ok (.ireturn, 1) := id_Sizes_tell_0 (50, .ireturn, 1) (List.mem_of_getElem? (i := 10) rfl)
theorem d_Sizes_tell_51 : decode prog_7_method_4_code 51 = .ok (.aload_n 0, 1) := id_Sizes_tell_0 (51, .aload_n 0, 1) (List.mem_of_getElem? (i := 11) rfl)
theorem d_Sizes_tell_52 : decode prog_7_method_4_code 52 = .ok (.getfield 21, 3) := id_Sizes_tell_0 (52, .getfield 21, 3) (List.mem_of_getElem? (i := 12) rfl)
theorem d_Sizes_tell_55 : decode prog_7_method_4_code 55 = .ok (.ireturn, 1) := id_Sizes_tell_0 (55, .ireturn, 1) (List.mem_of_getElem? (i := 13) rfl)
theorem d_Sizes_tell_56 : decode prog_7_method_4_code 56 = .ok (.aload_n 0, 1) := id_Sizes_tell_0 (56, .aload_n 0, 1) (List.mem_of_getElem? (i := 14) rfl)
theorem d_Sizes_tell_57 : decode prog_7_method_4_code 57 = .ok (.getfield 24, 3) := id_Sizes_tell_0 (57, .getfield 24, 3) (List.mem_of_getElem? (i := 15) rfl)
theorem d_Sizes_tell_60 : decode prog_7_method_4_code 60 = .ok (.ireturn, 1) := id_Sizes_tell_0 (60, .ireturn, 1) (List.mem_of_getElem? (i := 16) rfl)
theorem d_Sizes_tell_61 : decode prog_7_method_4_code 61 = .ok (.aload_n 0, 1) := id_Sizes_tell_0 (61, .aload_n 0, 1) (List.mem_of_getElem? (i := 17) rfl)
theorem d_Sizes_tell_62 : decode prog_7_method_4_code 62 = .ok (.getfield 27, 3) := id_Sizes_tell_0 (62, .getfield 27, 3) (List.mem_of_getElem? (i := 18) rfl)
theorem d_Sizes_tell_65 : decode prog_7_method_4_code 65 = .ok (.ireturn, 1) := id_Sizes_tell_0 (65, .ireturn, 1) (List.mem_of_getElem? (i := 19) rfl)
theorem wC_Sizes_tell : Cond.code ⟨"WarpMill$Sizes", "tell", "(I)I"⟩ prog_7_method_4_code 2 (some .int) ∈ lw_tb := mem_tb 496 (by decide +kernel) rfl
set_option maxRecDepth 100000 in
set_option maxHeartbeats 4000000 in
theorem sp_Sizes_tell {G : Gl} {h : Hp} (x : Nat) (k : Int32) (hx : hK h x = 2) : Ex G mi_Sizes_tell [.ref x, .int k] h (fun r h' => r = some (.int (szTell h x k)) ∧ h' = h) := by
  refine Ex.of (by decide) (Nat.le_of_ble_eq_true rfl) ?_
  show Go G mi_Sizes_tell h _ h 0 [(0, .ref x), (1, .int k)] []
  refine g_iload_n d_Sizes_tell_0 rfl ?_
  refine g_sw sw_0_4 (fun hs_1 => ?_)
  rcases hs_1 with hs_1 | hs_1 | hs_1 | hs_1 | hs_1 | hs_1
  · refine g_tableOut 61 d_Sizes_tell_1 hs_1 (by decide) ?_
    first | refine g_aload_n d_Sizes_tell_61 rfl ?_ | refine g_aload_nq d_Sizes_tell_61 rfl ?_
    refine fg_Sizes_ints lf_Sizes_27 d_Sizes_tell_62 (by first | (simp only [hK_sI, hK_sR, hK_sA, hK_sQ, hK_sL, hK_fillA]; assumption) | assumption) ?_
    refine Go.ret (some _) (rOk_i _) rfl d_Sizes_tell_65 ?_
    refine ⟨?_, rfl⟩
    first
      | (subst hs_1; rfl)
      | (have n0 := sw_ne hs_1 0 (by decide) (by decide); have n1 := sw_ne hs_1 1 (by decide) (by decide); have n2 := sw_ne hs_1 2 (by decide) (by decide); have n3 := sw_ne hs_1 3 (by decide) (by decide); have n4 := sw_ne hs_1 4 (by decide) (by decide); simp [szTell, n0, n1, n2, n3, n4])
  · refine g_tableIn 36 d_Sizes_tell_1 (by rw [hs_1]; decide) (by rw [hs_1]; decide) (by rw [hs_1]; rfl) (by decide) ?_
    first | refine g_aload_n d_Sizes_tell_36 rfl ?_ | refine g_aload_nq d_Sizes_tell_36 rfl ?_
    refine fg_Sizes_lanes lf_Sizes_9 d_Sizes_tell_37 (by first | (simp only [hK_sI, hK_sR, hK_sA, hK_sQ, hK_sL, hK_fillA]; assumption) | assumption) ?_
    refine Go.ret (some _) (rOk_i _) rfl d_Sizes_tell_40 ?_
    refine ⟨?_, rfl⟩
    first
      | (subst hs_1; rfl)
      | (have n0 := sw_ne hs_1 0 (by decide) (by decide); have n1 := sw_ne hs_1 1 (by decide) (by decide); have n2 := sw_ne hs_1 2 (by decide) (by decide); have n3 := sw_ne hs_1 3 (by decide) (by decide); have n4 := sw_ne hs_1 4 (by decide) (by decide); simp [szTell, n0, n1, n2, n3, n4])
  · refine g_tableIn 41 d_Sizes_tell_1 (by rw [hs_1]; decide) (by rw [hs_1]; decide) (by rw [hs_1]; rfl) (by decide) ?_
    first | refine g_aload_n d_Sizes_tell_41 rfl ?_ | refine g_aload_nq d_Sizes_tell_41 rfl ?_
    refine fg_Sizes_slots lf_Sizes_15 d_Sizes_tell_42 (by first | (simp only [hK_sI, hK_sR, hK_sA, hK_sQ, hK_sL, hK_fillA]; assumption) | assumption) ?_
    refine Go.ret (some _) (rOk_i _) rfl d_Sizes_tell_45 ?_
    refine ⟨?_, rfl⟩
    first
      | (subst hs_1; rfl)
      | (have n0 := sw_ne hs_1 0 (by decide) (by decide); have n1 := sw_ne hs_1 1 (by decide) (by decide); have n2 := sw_ne hs_1 2 (by decide) (by decide); have n3 := sw_ne hs_1 3 (by decide) (by decide); have n4 := sw_ne hs_1 4 (by decide) (by decide); simp [szTell, n0, n1, n2, n3, n4])
  · refine g_tableIn 46 d_Sizes_tell_1 (by rw [hs_1]; decide) (by rw [hs_1]; decide) (by rw [hs_1]; rfl) (by decide) ?_
    first | refine g_aload_n d_Sizes_tell_46 rfl ?_ | refine g_aload_nq d_Sizes_tell_46 rfl ?_
    refine fg_Sizes_units lf_Sizes_18 d_Sizes_tell_47 (by first | (simp only [hK_sI, hK_sR, hK_sA, hK_sQ, hK_sL, hK_fillA]; assumption) | assumption) ?_
    refine Go.ret (some _) (rOk_i _) rfl d_Sizes_tell_50 ?_
    refine ⟨?_, rfl⟩
    first
      | (subst hs_1; rfl)
      | (have n0 := sw_ne hs_1 0 (by decide) (by decide); have n1 := sw_ne hs_1 1 (by decide) (by decide); have n2 := sw_ne hs_1 2 (by decide) (by decide); have n3 := sw_ne hs_1 3 (by decide) (by decide); have n4 := sw_ne hs_1 4 (by decide) (by decide); simp [szTell, n0, n1, n2, n3, n4])
  · refine g_tableIn 51 d_Sizes_tell_1 (by rw [hs_1]; decide) (by rw [hs_1]; decide) (by rw [hs_1]; rfl) (by decide) ?_
    first | refine g_aload_n d_Sizes_tell_51 rfl ?_ | refine g_aload_nq d_Sizes_tell_51 rfl ?_
    refine fg_Sizes_banks lf_Sizes_21 d_Sizes_tell_52 (by first | (simp only [hK_sI, hK_sR, hK_sA, hK_sQ, hK_sL, hK_fillA]; assumption) | assumption) ?_
    refine Go.ret (some _) (rOk_i _) rfl d_Sizes_tell_55 ?_
    refine ⟨?_, rfl⟩
    first
      | (subst hs_1; rfl)
      | (have n0 := sw_ne hs_1 0 (by decide) (by decide); have n1 := sw_ne hs_1 1 (by decide) (by decide); have n2 := sw_ne hs_1 2 (by decide) (by decide); have n3 := sw_ne hs_1 3 (by decide) (by decide); have n4 := sw_ne hs_1 4 (by decide) (by decide); simp [szTell, n0, n1, n2, n3, n4])
  · refine g_tableIn 56 d_Sizes_tell_1 (by rw [hs_1]; decide) (by rw [hs_1]; decide) (by rw [hs_1]; rfl) (by decide) ?_
    first | refine g_aload_n d_Sizes_tell_56 rfl ?_ | refine g_aload_nq d_Sizes_tell_56 rfl ?_
    refine fg_Sizes_gates lf_Sizes_24 d_Sizes_tell_57 (by first | (simp only [hK_sI, hK_sR, hK_sA, hK_sQ, hK_sL, hK_fillA]; assumption) | assumption) ?_
    refine Go.ret (some _) (rOk_i _) rfl d_Sizes_tell_60 ?_
    refine ⟨?_, rfl⟩
    first
      | (subst hs_1; rfl)
      | (have n0 := sw_ne hs_1 0 (by decide) (by decide); have n1 := sw_ne hs_1 1 (by decide) (by decide); have n2 := sw_ne hs_1 2 (by decide) (by decide); have n3 := sw_ne hs_1 3 (by decide) (by decide); have n4 := sw_ne hs_1 4 (by decide) (by decide); simp [szTell, n0, n1, n2, n3, n4])
abbrev mi_Unit_tell : MI := (⟨"WarpMill$Unit", "tell", "(I)I"⟩, prog_9_method_10_code, 2, some .int, 0, 0)
def it_Unit_tell_0 : List (Nat × ClassFile.Instr × Nat) := [(0, .iload_n 1, 1), (1, .tableswitch (51) (0) (3) #[(31), (36), (41), (46)], 31), (32, .aload_n 0, 1), (33, .getfield 34, 3), (36, .ireturn, 1), (37, .aload_n 0, 1), (38, .getfield 37, 3), (41, .ireturn, 1), (42, .aload_n 0, 1), (43, .getfield 28, 3), (46, .ireturn, 1), (47, .aload_n 0, 1), (48, .getfield 31, 3), (51, .ireturn, 1), (52, .iconst (-1), 1), (53, .ireturn, 1)]
theorem id_Unit_tell_0 : ∀ q ∈ it_Unit_tell_0, decode prog_9_method_10_code q.1 = .ok q.2 := by decide +kernel
theorem d_Unit_tell_0 : decode prog_9_method_10_code 0 = .ok (.iload_n 1, 1) := id_Unit_tell_0 (0, .iload_n 1, 1) (List.mem_of_getElem? (i := 0) rfl)
theorem d_Unit_tell_1 : decode prog_9_method_10_code 1 = .ok (.tableswitch (51) (0) (3) #[(31), (36), (41), (46)], 31) := id_Unit_tell_0 (1, .tableswitch (51) (0) (3) #[(31), (36), (41), (46)], 31) (List.mem_of_getElem? (i := 1) rfl)
theorem d_Unit_tell_32 : decode prog_9_method_10_code 32 = .ok (.aload_n 0, 1) := id_Unit_tell_0 (32, .aload_n 0, 1) (List.mem_of_getElem? (i := 2) rfl)
theorem d_Unit_tell_33 : decode prog_9_method_10_code 33 = .ok (.getfield 34, 3) := id_Unit_tell_0 (33, .getfield 34, 3) (List.mem_of_getElem? (i := 3) rfl)
theorem d_Unit_tell_36 : decode prog_9_method_10_code 36 = .ok (.ireturn, 1) := id_Unit_tell_0 (36, .ireturn, 1) (List.mem_of_getElem? (i := 4) rfl)
theorem d_Unit_tell_37 : decode prog_9_method_10_code 37 = .ok (.aload_n 0, 1) := id_Unit_tell_0 (37, .aload_n 0, 1) (List.mem_of_getElem? (i := 5) rfl)
theorem d_Unit_tell_38 : decode prog_9_method_10_code 38 = .ok (.getfield 37, 3) := id_Unit_tell_0 (38, .getfield 37, 3) (List.mem_of_getElem? (i := 6) rfl)
theorem d_Unit_tell_41 : decode prog_9_method_10_code 41 = .ok (.ireturn, 1) := id_Unit_tell_0 (41, .ireturn, 1) (List.mem_of_getElem? (i := 7) rfl)
theorem d_Unit_tell_42 : decode prog_9_method_10_code 42 = .ok (.aload_n 0, 1) := id_Unit_tell_0 (42, .aload_n 0, 1) (List.mem_of_getElem? (i := 8) rfl)
theorem d_Unit_tell_43 : decode prog_9_method_10_code 43 = .ok (.getfield 28, 3) := id_Unit_tell_0 (43, .getfield 28, 3) (List.mem_of_getElem? (i := 9) rfl)
theorem d_Unit_tell_46 : decode prog_9_method_10_code 46 = .ok (.ireturn, 1) := id_Unit_tell_0 (46, .ireturn, 1) (List.mem_of_getElem? (i := 10) rfl)
theorem d_Unit_tell_47 : decode prog_9_method_10_code 47 = .ok (.aload_n 0, 1) := id_Unit_tell_0 (47, .aload_n 0, 1) (List.mem_of_getElem? (i := 11) rfl)
theorem d_Unit_tell_48 : decode prog_9_method_10_code 48 = .ok (.getfield 31, 3) := id_Unit_tell_0 (48, .getfield 31, 3) (List.mem_of_getElem? (i := 12) rfl)
theorem d_Unit_tell_51 : decode prog_9_method_10_code 51 = .ok (.ireturn, 1) := id_Unit_tell_0 (51, .ireturn, 1) (List.mem_of_getElem? (i := 13) rfl)
theorem d_Unit_tell_52 : decode prog_9_method_10_code 52 = .ok (.iconst (-1), 1) := id_Unit_tell_0 (52, .iconst (-1), 1) (List.mem_of_getElem? (i := 14) rfl)
theorem d_Unit_tell_53 : decode prog_9_method_10_code 53 = .ok (.ireturn, 1) := id_Unit_tell_0 (53, .ireturn, 1) (List.mem_of_getElem? (i := 15) rfl)
theorem wC_Unit_tell : Cond.code ⟨"WarpMill$Unit", "tell", "(I)I"⟩ prog_9_method_10_code 2 (some .int) ∈ lw_tb := mem_tb 512 (by decide +kernel) rfl
set_option maxRecDepth 100000 in
set_option maxHeartbeats 4000000 in
theorem sp_Unit_tell {G : Gl} {h : Hp} (x : Nat) (k : Int32) (hx : hK h x = 7) : Ex G mi_Unit_tell [.ref x, .int k] h (fun r h' => r = some (.int (unTell h x k)) ∧ h' = h) := by
  refine Ex.of (by decide) (Nat.le_of_ble_eq_true rfl) ?_
  show Go G mi_Unit_tell h _ h 0 [(0, .ref x), (1, .int k)] []
  refine g_iload_n d_Unit_tell_0 rfl ?_
  refine g_sw sw_0_3 (fun hs_1 => ?_)
  rcases hs_1 with hs_1 | hs_1 | hs_1 | hs_1 | hs_1
  · refine g_tableOut 52 d_Unit_tell_1 hs_1 (by decide) ?_
    refine g_iconst (-1) d_Unit_tell_52 (by decide) ?_
    refine Go.ret (some _) (rOk_i _) rfl d_Unit_tell_53 ?_
    refine ⟨?_, rfl⟩
    first
      | (subst hs_1; rfl)
      | (have n0 := sw_ne hs_1 0 (by decide) (by decide); have n1 := sw_ne hs_1 1 (by decide) (by decide); have n2 := sw_ne hs_1 2 (by decide) (by decide); have n3 := sw_ne hs_1 3 (by decide) (by decide); simp [unTell, n0, n1, n2, n3])
  · refine g_tableIn 32 d_Unit_tell_1 (by rw [hs_1]; decide) (by rw [hs_1]; decide) (by rw [hs_1]; rfl) (by decide) ?_
    first | refine g_aload_n d_Unit_tell_32 rfl ?_ | refine g_aload_nq d_Unit_tell_32 rfl ?_
    refine fg_Unit_dividerTick lf_Unit_34 d_Unit_tell_33 (by first | (simp only [hK_sI, hK_sR, hK_sA, hK_sQ, hK_sL, hK_fillA]; assumption) | assumption) ?_
    refine Go.ret (some _) (rOk_i _) rfl d_Unit_tell_36 ?_
    refine ⟨?_, rfl⟩
    first
      | (subst hs_1; rfl)
      | (have n0 := sw_ne hs_1 0 (by decide) (by decide); have n1 := sw_ne hs_1 1 (by decide) (by decide); have n2 := sw_ne hs_1 2 (by decide) (by decide); have n3 := sw_ne hs_1 3 (by decide) (by decide); simp [unTell, n0, n1, n2, n3])
  · refine g_tableIn 37 d_Unit_tell_1 (by rw [hs_1]; decide) (by rw [hs_1]; decide) (by rw [hs_1]; rfl) (by decide) ?_
    first | refine g_aload_n d_Unit_tell_37 rfl ?_ | refine g_aload_nq d_Unit_tell_37 rfl ?_
    refine fg_Unit_sharedTick lf_Unit_37 d_Unit_tell_38 (by first | (simp only [hK_sI, hK_sR, hK_sA, hK_sQ, hK_sL, hK_fillA]; assumption) | assumption) ?_
    refine Go.ret (some _) (rOk_i _) rfl d_Unit_tell_41 ?_
    refine ⟨?_, rfl⟩
    first
      | (subst hs_1; rfl)
      | (have n0 := sw_ne hs_1 0 (by decide) (by decide); have n1 := sw_ne hs_1 1 (by decide) (by decide); have n2 := sw_ne hs_1 2 (by decide) (by decide); have n3 := sw_ne hs_1 3 (by decide) (by decide); simp [unTell, n0, n1, n2, n3])
  · refine g_tableIn 42 d_Unit_tell_1 (by rw [hs_1]; decide) (by rw [hs_1]; decide) (by rw [hs_1]; rfl) (by decide) ?_
    first | refine g_aload_n d_Unit_tell_42 rfl ?_ | refine g_aload_nq d_Unit_tell_42 rfl ?_
    refine fg_Unit_last lf_Unit_28 d_Unit_tell_43 (by first | (simp only [hK_sI, hK_sR, hK_sA, hK_sQ, hK_sL, hK_fillA]; assumption) | assumption) ?_
    refine Go.ret (some _) (rOk_i _) rfl d_Unit_tell_46 ?_
    refine ⟨?_, rfl⟩
    first
      | (subst hs_1; rfl)
      | (have n0 := sw_ne hs_1 0 (by decide) (by decide); have n1 := sw_ne hs_1 1 (by decide) (by decide); have n2 := sw_ne hs_1 2 (by decide) (by decide); have n3 := sw_ne hs_1 3 (by decide) (by decide); simp [unTell, n0, n1, n2, n3])
  · refine g_tableIn 47 d_Unit_tell_1 (by rw [hs_1]; decide) (by rw [hs_1]; decide) (by rw [hs_1]; rfl) (by decide) ?_
    first | refine g_aload_n d_Unit_tell_47 rfl ?_ | refine g_aload_nq d_Unit_tell_47 rfl ?_
    refine fg_Unit_went lf_Unit_31 d_Unit_tell_48 (by first | (simp only [hK_sI, hK_sR, hK_sA, hK_sQ, hK_sL, hK_fillA]; assumption) | assumption) ?_
    refine Go.ret (some _) (rOk_i _) rfl d_Unit_tell_51 ?_
    refine ⟨?_, rfl⟩
    first
      | (subst hs_1; rfl)
      | (have n0 := sw_ne hs_1 0 (by decide) (by decide); have n1 := sw_ne hs_1 1 (by decide) (by decide); have n2 := sw_ne hs_1 2 (by decide) (by decide); have n3 := sw_ne hs_1 3 (by decide) (by decide); simp [unTell, n0, n1, n2, n3])
abbrev mi_Tally_tell : MI := (⟨"WarpMill$Tally", "tell", "(I)I"⟩, prog_8_method_7_code, 2, some .int, 0, 0)
def it_Tally_tell_0 : List (Nat × ClassFile.Instr × Nat) := [(0, .iload_n 1, 1), (1, .tableswitch (122) (0) (12) #[(67), (72), (77), (82), (122), (122), (87), (92), (97), (102), (107), (112), (117)], 67), (68, .aload_n 0, 1), (69, .getfield 9, 3), (72, .ireturn, 1), (73, .aload_n 0, 1), (74, .getfield 27, 3), (77, .ireturn, 1), (78, .aload_n 0, 1), (79, .getfield 30, 3), (82, .ireturn, 1), (83, .aload_n 0, 1), (84, .getfield 33, 3), (87, .ireturn, 1), (88, .aload_n 0, 1), (89, .getfield 24, 3), (92, .ireturn, 1), (93, .aload_n 0, 1), (94, .getfield 75, 3), (97, .ireturn, 1), (98, .aload_n 0, 1), (99, .getfield 39, 3), (102, .ireturn, 1), (103, .aload_n 0, 1)]
theorem id_Tally_tell_0 : ∀ q ∈ it_Tally_tell_0, decode prog_8_method_7_code q.1 = .ok q.2 := by decide +kernel
theorem d_Tally_tell_0 : decode prog_8_method_7_code 0 = .ok (.iload_n 1, 1) := id_Tally_tell_0 (0, .iload_n 1, 1) (List.mem_of_getElem? (i := 0) rfl)
theorem d_Tally_tell_1 : decode prog_8_method_7_code 1 = .ok (.tableswitch (122) (0) (12) #[(67), (72), (77), (82), (122), (122), (87), (92), (97), (102), (107), (112), (117)], 67) := id_Tally_tell_0 (1, .tableswitch (122) (0) (12) #[(67), (72), (77), (82), (122), (122), (87), (92), (97), (102), (107), (112), (117)], 67) (List.mem_of_getElem? (i := 1) rfl)
theorem d_Tally_tell_68 : decode prog_8_method_7_code 68 = .ok (.aload_n 0, 1) := id_Tally_tell_0 (68, .aload_n 0, 1) (List.mem_of_getElem? (i := 2) rfl)
theorem d_Tally_tell_69 : decode prog_8_method_7_code 69 = .ok (.getfield 9, 3) := id_Tally_tell_0 (69, .getfield 9, 3) (List.mem_of_getElem? (i := 3) rfl)
theorem d_Tally_tell_72 : decode prog_8_method_7_code 72 = .ok (.ireturn, 1) := id_Tally_tell_0 (72, .ireturn, 1) (List.mem_of_getElem? (i := 4) rfl)
theorem d_Tally_tell_73 : decode prog_8_method_7_code 73 = .ok (.aload_n 0, 1) := id_Tally_tell_0 (73, .aload_n 0, 1) (List.mem_of_getElem? (i := 5) rfl)
theorem d_Tally_tell_74 : decode prog_8_method_7_code 74 = .ok (.getfield 27, 3) := id_Tally_tell_0 (74, .getfield 27, 3) (List.mem_of_getElem? (i := 6) rfl)
theorem d_Tally_tell_77 : decode prog_8_method_7_code 77 = .ok (.ireturn, 1) := id_Tally_tell_0 (77, .ireturn, 1) (List.mem_of_getElem? (i := 7) rfl)
theorem d_Tally_tell_78 : decode prog_8_method_7_code 78 = .ok (.aload_n 0, 1) := id_Tally_tell_0 (78, .aload_n 0, 1) (List.mem_of_getElem? (i := 8) rfl)
theorem d_Tally_tell_79 : decode prog_8_method_7_code 79 = .ok (.getfield 30, 3) := id_Tally_tell_0 (79, .getfield 30, 3) (List.mem_of_getElem? (i := 9) rfl)
theorem d_Tally_tell_82 : decode prog_8_method_7_code 82 = .ok (.ireturn, 1) := id_Tally_tell_0 (82, .ireturn, 1) (List.mem_of_getElem? (i := 10) rfl)
theorem d_Tally_tell_83 : decode prog_8_method_7_code 83 = .ok (.aload_n 0, 1) := id_Tally_tell_0 (83, .aload_n 0, 1) (List.mem_of_getElem? (i := 11) rfl)
theorem d_Tally_tell_84 : decode prog_8_method_7_code 84 = .ok (.getfield 33, 3) := id_Tally_tell_0 (84, .getfield 33, 3) (List.mem_of_getElem? (i := 12) rfl)
theorem d_Tally_tell_87 : decode prog_8_method_7_code 87 = .ok (.ireturn, 1) := id_Tally_tell_0 (87, .ireturn, 1) (List.mem_of_getElem? (i := 13) rfl)
theorem d_Tally_tell_88 : decode prog_8_method_7_code 88 = .ok (.aload_n 0, 1) := id_Tally_tell_0 (88, .aload_n 0, 1) (List.mem_of_getElem? (i := 14) rfl)
theorem d_Tally_tell_89 : decode prog_8_method_7_code 89 = .ok (.getfield 24, 3) := id_Tally_tell_0 (89, .getfield 24, 3) (List.mem_of_getElem? (i := 15) rfl)
theorem d_Tally_tell_92 : decode prog_8_method_7_code 92 = .ok (.ireturn, 1) := id_Tally_tell_0 (92, .ireturn, 1) (List.mem_of_getElem? (i := 16) rfl)
theorem d_Tally_tell_93 : decode prog_8_method_7_code 93 = .ok (.aload_n 0, 1) := id_Tally_tell_0 (93, .aload_n 0, 1) (List.mem_of_getElem? (i := 17) rfl)
theorem d_Tally_tell_94 : decode prog_8_method_7_code 94 = .ok (.getfield 75, 3) := id_Tally_tell_0 (94, .getfield 75, 3) (List.mem_of_getElem? (i := 18) rfl)
theorem d_Tally_tell_97 : decode prog_8_method_7_code 97 = .ok (.ireturn, 1) := id_Tally_tell_0 (97, .ireturn, 1) (List.mem_of_getElem? (i := 19) rfl)
theorem d_Tally_tell_98 : decode prog_8_method_7_code 98 = .ok (.aload_n 0, 1) := id_Tally_tell_0 (98, .aload_n 0, 1) (List.mem_of_getElem? (i := 20) rfl)
theorem d_Tally_tell_99 : decode prog_8_method_7_code 99 = .ok (.getfield 39, 3) := id_Tally_tell_0 (99, .getfield 39, 3) (List.mem_of_getElem? (i := 21) rfl)
theorem d_Tally_tell_102 : decode prog_8_method_7_code 102 = .ok (.ireturn, 1) := id_Tally_tell_0 (102, .ireturn, 1) (List.mem_of_getElem? (i := 22) rfl)
theorem d_Tally_tell_103 : decode prog_8_method_7_code 103 = .ok (.aload_n 0, 1) := id_Tally_tell_0 (103, .aload_n 0, 1) (List.mem_of_getElem? (i := 23) rfl)
def it_Tally_tell_1 : List (Nat × ClassFile.Instr × Nat) := [(104, .getfield 42, 3), (107, .ireturn, 1), (108, .aload_n 0, 1), (109, .getfield 45, 3), (112, .ireturn, 1), (113, .aload_n 0, 1), (114, .getfield 48, 3), (117, .ireturn, 1), (118, .aload_n 0, 1), (119, .getfield 36, 3), (122, .ireturn, 1), (123, .iconst (-1), 1), (124, .ireturn, 1)]
theorem id_Tally_tell_1 : ∀ q ∈ it_Tally_tell_1, decode prog_8_method_7_code q.1 = .ok q.2 := by decide +kernel
theorem d_Tally_tell_104 : decode prog_8_method_7_code 104 = .ok (.getfield 42, 3) := id_Tally_tell_1 (104, .getfield 42, 3) (List.mem_of_getElem? (i := 0) rfl)
theorem d_Tally_tell_107 : decode prog_8_method_7_code 107 = .ok (.ireturn, 1) := id_Tally_tell_1 (107, .ireturn, 1) (List.mem_of_getElem? (i := 1) rfl)
theorem d_Tally_tell_108 : decode prog_8_method_7_code 108 = .ok (.aload_n 0, 1) := id_Tally_tell_1 (108, .aload_n 0, 1) (List.mem_of_getElem? (i := 2) rfl)
theorem d_Tally_tell_109 : decode prog_8_method_7_code 109 = .ok (.getfield 45, 3) := id_Tally_tell_1 (109, .getfield 45, 3) (List.mem_of_getElem? (i := 3) rfl)
theorem d_Tally_tell_112 : decode prog_8_method_7_code 112 = .ok (.ireturn, 1) := id_Tally_tell_1 (112, .ireturn, 1) (List.mem_of_getElem? (i := 4) rfl)
theorem d_Tally_tell_113 : decode prog_8_method_7_code 113 = .ok (.aload_n 0, 1) := id_Tally_tell_1 (113, .aload_n 0, 1) (List.mem_of_getElem? (i := 5) rfl)
theorem d_Tally_tell_114 : decode prog_8_method_7_code 114 = .ok (.getfield 48, 3) := id_Tally_tell_1 (114, .getfield 48, 3) (List.mem_of_getElem? (i := 6) rfl)
theorem d_Tally_tell_117 : decode prog_8_method_7_code 117 = .ok (.ireturn, 1) := id_Tally_tell_1 (117, .ireturn, 1) (List.mem_of_getElem? (i := 7) rfl)
theorem d_Tally_tell_118 : decode prog_8_method_7_code 118 = .ok (.aload_n 0, 1) := id_Tally_tell_1 (118, .aload_n 0, 1) (List.mem_of_getElem? (i := 8) rfl)
theorem d_Tally_tell_119 : decode prog_8_method_7_code 119 = .ok (.getfield 36, 3) := id_Tally_tell_1 (119, .getfield 36, 3) (List.mem_of_getElem? (i := 9) rfl)
theorem d_Tally_tell_122 : decode prog_8_method_7_code 122 = .ok (.ireturn, 1) := id_Tally_tell_1 (122, .ireturn, 1) (List.mem_of_getElem? (i := 10) rfl)
theorem d_Tally_tell_123 : decode prog_8_method_7_code 123 = .ok (.iconst (-1), 1) := id_Tally_tell_1 (123, .iconst (-1), 1) (List.mem_of_getElem? (i := 11) rfl)
theorem d_Tally_tell_124 : decode prog_8_method_7_code 124 = .ok (.ireturn, 1) := id_Tally_tell_1 (124, .ireturn, 1) (List.mem_of_getElem? (i := 12) rfl)
theorem wC_Tally_tell : Cond.code ⟨"WarpMill$Tally", "tell", "(I)I"⟩ prog_8_method_7_code 2 (some .int) ∈ lw_tb := mem_tb 500 (by decide +kernel) rfl
set_option maxRecDepth 100000 in
set_option maxHeartbeats 4000000 in
theorem sp_Tally_tell {G : Gl} {h : Hp} (x : Nat) (k : Int32) (hx : hK h x = 6) : Ex G mi_Tally_tell [.ref x, .int k] h (fun r h' => r = some (.int (taTell h x k)) ∧ h' = h) := by
  refine Ex.of (by decide) (Nat.le_of_ble_eq_true rfl) ?_
  show Go G mi_Tally_tell h _ h 0 [(0, .ref x), (1, .int k)] []
  refine g_iload_n d_Tally_tell_0 rfl ?_
  refine g_sw sw_0_12 (fun hs_1 => ?_)
  rcases hs_1 with hs_1 | hs_1 | hs_1 | hs_1 | hs_1 | hs_1 | hs_1 | hs_1 | hs_1 | hs_1 | hs_1 | hs_1 | hs_1 | hs_1
  · refine g_tableOut 123 d_Tally_tell_1 hs_1 (by decide) ?_
    refine g_iconst (-1) d_Tally_tell_123 (by decide) ?_
    refine Go.ret (some _) (rOk_i _) rfl d_Tally_tell_124 ?_
    refine ⟨?_, rfl⟩
    first
      | (subst hs_1; rfl)
      | (have n0 := sw_ne hs_1 0 (by decide) (by decide); have n1 := sw_ne hs_1 1 (by decide) (by decide); have n2 := sw_ne hs_1 2 (by decide) (by decide); have n3 := sw_ne hs_1 3 (by decide) (by decide); have n6 := sw_ne hs_1 6 (by decide) (by decide); have n7 := sw_ne hs_1 7 (by decide) (by decide); have n8 := sw_ne hs_1 8 (by decide) (by decide); have n9 := sw_ne hs_1 9 (by decide) (by decide); have n10 := sw_ne hs_1 10 (by decide) (by decide); have n11 := sw_ne hs_1 11 (by decide) (by decide); have n12 := sw_ne hs_1 12 (by decide) (by decide); simp [taTell, n0, n1, n2, n3, n6, n7, n8, n9, n10, n11, n12])
  · refine g_tableIn 68 d_Tally_tell_1 (by rw [hs_1]; decide) (by rw [hs_1]; decide) (by rw [hs_1]; rfl) (by decide) ?_
    first | refine g_aload_n d_Tally_tell_68 rfl ?_ | refine g_aload_nq d_Tally_tell_68 rfl ?_
    refine fg_Tally_status lf_Tally_9 d_Tally_tell_69 (by first | (simp only [hK_sI, hK_sR, hK_sA, hK_sQ, hK_sL, hK_fillA]; assumption) | assumption) ?_
    refine Go.ret (some _) (rOk_i _) rfl d_Tally_tell_72 ?_
    refine ⟨?_, rfl⟩
    first
      | (subst hs_1; rfl)
      | (have n0 := sw_ne hs_1 0 (by decide) (by decide); have n1 := sw_ne hs_1 1 (by decide) (by decide); have n2 := sw_ne hs_1 2 (by decide) (by decide); have n3 := sw_ne hs_1 3 (by decide) (by decide); have n6 := sw_ne hs_1 6 (by decide) (by decide); have n7 := sw_ne hs_1 7 (by decide) (by decide); have n8 := sw_ne hs_1 8 (by decide) (by decide); have n9 := sw_ne hs_1 9 (by decide) (by decide); have n10 := sw_ne hs_1 10 (by decide) (by decide); have n11 := sw_ne hs_1 11 (by decide) (by decide); have n12 := sw_ne hs_1 12 (by decide) (by decide); simp [taTell, n0, n1, n2, n3, n6, n7, n8, n9, n10, n11, n12])
  · refine g_tableIn 73 d_Tally_tell_1 (by rw [hs_1]; decide) (by rw [hs_1]; decide) (by rw [hs_1]; rfl) (by decide) ?_
    first | refine g_aload_n d_Tally_tell_73 rfl ?_ | refine g_aload_nq d_Tally_tell_73 rfl ?_
    refine fg_Tally_cycles lf_Tally_27 d_Tally_tell_74 (by first | (simp only [hK_sI, hK_sR, hK_sA, hK_sQ, hK_sL, hK_fillA]; assumption) | assumption) ?_
    refine Go.ret (some _) (rOk_i _) rfl d_Tally_tell_77 ?_
    refine ⟨?_, rfl⟩
    first
      | (subst hs_1; rfl)
      | (have n0 := sw_ne hs_1 0 (by decide) (by decide); have n1 := sw_ne hs_1 1 (by decide) (by decide); have n2 := sw_ne hs_1 2 (by decide) (by decide); have n3 := sw_ne hs_1 3 (by decide) (by decide); have n6 := sw_ne hs_1 6 (by decide) (by decide); have n7 := sw_ne hs_1 7 (by decide) (by decide); have n8 := sw_ne hs_1 8 (by decide) (by decide); have n9 := sw_ne hs_1 9 (by decide) (by decide); have n10 := sw_ne hs_1 10 (by decide) (by decide); have n11 := sw_ne hs_1 11 (by decide) (by decide); have n12 := sw_ne hs_1 12 (by decide) (by decide); simp [taTell, n0, n1, n2, n3, n6, n7, n8, n9, n10, n11, n12])
  · refine g_tableIn 78 d_Tally_tell_1 (by rw [hs_1]; decide) (by rw [hs_1]; decide) (by rw [hs_1]; rfl) (by decide) ?_
    first | refine g_aload_n d_Tally_tell_78 rfl ?_ | refine g_aload_nq d_Tally_tell_78 rfl ?_
    refine fg_Tally_went lf_Tally_30 d_Tally_tell_79 (by first | (simp only [hK_sI, hK_sR, hK_sA, hK_sQ, hK_sL, hK_fillA]; assumption) | assumption) ?_
    refine Go.ret (some _) (rOk_i _) rfl d_Tally_tell_82 ?_
    refine ⟨?_, rfl⟩
    first
      | (subst hs_1; rfl)
      | (have n0 := sw_ne hs_1 0 (by decide) (by decide); have n1 := sw_ne hs_1 1 (by decide) (by decide); have n2 := sw_ne hs_1 2 (by decide) (by decide); have n3 := sw_ne hs_1 3 (by decide) (by decide); have n6 := sw_ne hs_1 6 (by decide) (by decide); have n7 := sw_ne hs_1 7 (by decide) (by decide); have n8 := sw_ne hs_1 8 (by decide) (by decide); have n9 := sw_ne hs_1 9 (by decide) (by decide); have n10 := sw_ne hs_1 10 (by decide) (by decide); have n11 := sw_ne hs_1 11 (by decide) (by decide); have n12 := sw_ne hs_1 12 (by decide) (by decide); simp [taTell, n0, n1, n2, n3, n6, n7, n8, n9, n10, n11, n12])
  · refine g_tableIn 83 d_Tally_tell_1 (by rw [hs_1]; decide) (by rw [hs_1]; decide) (by rw [hs_1]; rfl) (by decide) ?_
    first | refine g_aload_n d_Tally_tell_83 rfl ?_ | refine g_aload_nq d_Tally_tell_83 rfl ?_
    refine fg_Tally_did lf_Tally_33 d_Tally_tell_84 (by first | (simp only [hK_sI, hK_sR, hK_sA, hK_sQ, hK_sL, hK_fillA]; assumption) | assumption) ?_
    refine Go.ret (some _) (rOk_i _) rfl d_Tally_tell_87 ?_
    refine ⟨?_, rfl⟩
    first
      | (subst hs_1; rfl)
      | (have n0 := sw_ne hs_1 0 (by decide) (by decide); have n1 := sw_ne hs_1 1 (by decide) (by decide); have n2 := sw_ne hs_1 2 (by decide) (by decide); have n3 := sw_ne hs_1 3 (by decide) (by decide); have n6 := sw_ne hs_1 6 (by decide) (by decide); have n7 := sw_ne hs_1 7 (by decide) (by decide); have n8 := sw_ne hs_1 8 (by decide) (by decide); have n9 := sw_ne hs_1 9 (by decide) (by decide); have n10 := sw_ne hs_1 10 (by decide) (by decide); have n11 := sw_ne hs_1 11 (by decide) (by decide); have n12 := sw_ne hs_1 12 (by decide) (by decide); simp [taTell, n0, n1, n2, n3, n6, n7, n8, n9, n10, n11, n12])
  · refine g_tableIn 123 d_Tally_tell_1 (by rw [hs_1]; decide) (by rw [hs_1]; decide) (by rw [hs_1]; rfl) (by decide) ?_
    refine g_iconst (-1) d_Tally_tell_123 (by decide) ?_
    refine Go.ret (some _) (rOk_i _) rfl d_Tally_tell_124 ?_
    refine ⟨?_, rfl⟩
    first
      | (subst hs_1; rfl)
      | (have n0 := sw_ne hs_1 0 (by decide) (by decide); have n1 := sw_ne hs_1 1 (by decide) (by decide); have n2 := sw_ne hs_1 2 (by decide) (by decide); have n3 := sw_ne hs_1 3 (by decide) (by decide); have n6 := sw_ne hs_1 6 (by decide) (by decide); have n7 := sw_ne hs_1 7 (by decide) (by decide); have n8 := sw_ne hs_1 8 (by decide) (by decide); have n9 := sw_ne hs_1 9 (by decide) (by decide); have n10 := sw_ne hs_1 10 (by decide) (by decide); have n11 := sw_ne hs_1 11 (by decide) (by decide); have n12 := sw_ne hs_1 12 (by decide) (by decide); simp [taTell, n0, n1, n2, n3, n6, n7, n8, n9, n10, n11, n12])
  · refine g_tableIn 123 d_Tally_tell_1 (by rw [hs_1]; decide) (by rw [hs_1]; decide) (by rw [hs_1]; rfl) (by decide) ?_
    refine g_iconst (-1) d_Tally_tell_123 (by decide) ?_
    refine Go.ret (some _) (rOk_i _) rfl d_Tally_tell_124 ?_
    refine ⟨?_, rfl⟩
    first
      | (subst hs_1; rfl)
      | (have n0 := sw_ne hs_1 0 (by decide) (by decide); have n1 := sw_ne hs_1 1 (by decide) (by decide); have n2 := sw_ne hs_1 2 (by decide) (by decide); have n3 := sw_ne hs_1 3 (by decide) (by decide); have n6 := sw_ne hs_1 6 (by decide) (by decide); have n7 := sw_ne hs_1 7 (by decide) (by decide); have n8 := sw_ne hs_1 8 (by decide) (by decide); have n9 := sw_ne hs_1 9 (by decide) (by decide); have n10 := sw_ne hs_1 10 (by decide) (by decide); have n11 := sw_ne hs_1 11 (by decide) (by decide); have n12 := sw_ne hs_1 12 (by decide) (by decide); simp [taTell, n0, n1, n2, n3, n6, n7, n8, n9, n10, n11, n12])
  · refine g_tableIn 88 d_Tally_tell_1 (by rw [hs_1]; decide) (by rw [hs_1]; decide) (by rw [hs_1]; rfl) (by decide) ?_
    first | refine g_aload_n d_Tally_tell_88 rfl ?_ | refine g_aload_nq d_Tally_tell_88 rfl ?_
    refine fg_Tally_ended lf_Tally_24 d_Tally_tell_89 (by first | (simp only [hK_sI, hK_sR, hK_sA, hK_sQ, hK_sL, hK_fillA]; assumption) | assumption) ?_
    refine Go.ret (some _) (rOk_i _) rfl d_Tally_tell_92 ?_
    refine ⟨?_, rfl⟩
    first
      | (subst hs_1; rfl)
      | (have n0 := sw_ne hs_1 0 (by decide) (by decide); have n1 := sw_ne hs_1 1 (by decide) (by decide); have n2 := sw_ne hs_1 2 (by decide) (by decide); have n3 := sw_ne hs_1 3 (by decide) (by decide); have n6 := sw_ne hs_1 6 (by decide) (by decide); have n7 := sw_ne hs_1 7 (by decide) (by decide); have n8 := sw_ne hs_1 8 (by decide) (by decide); have n9 := sw_ne hs_1 9 (by decide) (by decide); have n10 := sw_ne hs_1 10 (by decide) (by decide); have n11 := sw_ne hs_1 11 (by decide) (by decide); have n12 := sw_ne hs_1 12 (by decide) (by decide); simp [taTell, n0, n1, n2, n3, n6, n7, n8, n9, n10, n11, n12])
  · refine g_tableIn 93 d_Tally_tell_1 (by rw [hs_1]; decide) (by rw [hs_1]; decide) (by rw [hs_1]; rfl) (by decide) ?_
    first | refine g_aload_n d_Tally_tell_93 rfl ?_ | refine g_aload_nq d_Tally_tell_93 rfl ?_
    refine fg_Tally_allCycles lf_Tally_75 d_Tally_tell_94 (by first | (simp only [hK_sI, hK_sR, hK_sA, hK_sQ, hK_sL, hK_fillA]; assumption) | assumption) ?_
    refine Go.ret (some _) (rOk_i _) rfl d_Tally_tell_97 ?_
    refine ⟨?_, rfl⟩
    first
      | (subst hs_1; rfl)
      | (have n0 := sw_ne hs_1 0 (by decide) (by decide); have n1 := sw_ne hs_1 1 (by decide) (by decide); have n2 := sw_ne hs_1 2 (by decide) (by decide); have n3 := sw_ne hs_1 3 (by decide) (by decide); have n6 := sw_ne hs_1 6 (by decide) (by decide); have n7 := sw_ne hs_1 7 (by decide) (by decide); have n8 := sw_ne hs_1 8 (by decide) (by decide); have n9 := sw_ne hs_1 9 (by decide) (by decide); have n10 := sw_ne hs_1 10 (by decide) (by decide); have n11 := sw_ne hs_1 11 (by decide) (by decide); have n12 := sw_ne hs_1 12 (by decide) (by decide); simp [taTell, n0, n1, n2, n3, n6, n7, n8, n9, n10, n11, n12])
  · refine g_tableIn 98 d_Tally_tell_1 (by rw [hs_1]; decide) (by rw [hs_1]; decide) (by rw [hs_1]; rfl) (by decide) ?_
    first | refine g_aload_n d_Tally_tell_98 rfl ?_ | refine g_aload_nq d_Tally_tell_98 rfl ?_
    refine fg_Tally_why lf_Tally_39 d_Tally_tell_99 (by first | (simp only [hK_sI, hK_sR, hK_sA, hK_sQ, hK_sL, hK_fillA]; assumption) | assumption) ?_
    refine Go.ret (some _) (rOk_i _) rfl d_Tally_tell_102 ?_
    refine ⟨?_, rfl⟩
    first
      | (subst hs_1; rfl)
      | (have n0 := sw_ne hs_1 0 (by decide) (by decide); have n1 := sw_ne hs_1 1 (by decide) (by decide); have n2 := sw_ne hs_1 2 (by decide) (by decide); have n3 := sw_ne hs_1 3 (by decide) (by decide); have n6 := sw_ne hs_1 6 (by decide) (by decide); have n7 := sw_ne hs_1 7 (by decide) (by decide); have n8 := sw_ne hs_1 8 (by decide) (by decide); have n9 := sw_ne hs_1 9 (by decide) (by decide); have n10 := sw_ne hs_1 10 (by decide) (by decide); have n11 := sw_ne hs_1 11 (by decide) (by decide); have n12 := sw_ne hs_1 12 (by decide) (by decide); simp [taTell, n0, n1, n2, n3, n6, n7, n8, n9, n10, n11, n12])
  · refine g_tableIn 103 d_Tally_tell_1 (by rw [hs_1]; decide) (by rw [hs_1]; decide) (by rw [hs_1]; rfl) (by decide) ?_
    first | refine g_aload_n d_Tally_tell_103 rfl ?_ | refine g_aload_nq d_Tally_tell_103 rfl ?_
    refine fg_Tally_trapBlock lf_Tally_42 d_Tally_tell_104 (by first | (simp only [hK_sI, hK_sR, hK_sA, hK_sQ, hK_sL, hK_fillA]; assumption) | assumption) ?_
    refine Go.ret (some _) (rOk_i _) rfl d_Tally_tell_107 ?_
    refine ⟨?_, rfl⟩
    first
      | (subst hs_1; rfl)
      | (have n0 := sw_ne hs_1 0 (by decide) (by decide); have n1 := sw_ne hs_1 1 (by decide) (by decide); have n2 := sw_ne hs_1 2 (by decide) (by decide); have n3 := sw_ne hs_1 3 (by decide) (by decide); have n6 := sw_ne hs_1 6 (by decide) (by decide); have n7 := sw_ne hs_1 7 (by decide) (by decide); have n8 := sw_ne hs_1 8 (by decide) (by decide); have n9 := sw_ne hs_1 9 (by decide) (by decide); have n10 := sw_ne hs_1 10 (by decide) (by decide); have n11 := sw_ne hs_1 11 (by decide) (by decide); have n12 := sw_ne hs_1 12 (by decide) (by decide); simp [taTell, n0, n1, n2, n3, n6, n7, n8, n9, n10, n11, n12])
  · refine g_tableIn 108 d_Tally_tell_1 (by rw [hs_1]; decide) (by rw [hs_1]; decide) (by rw [hs_1]; rfl) (by decide) ?_
    first | refine g_aload_n d_Tally_tell_108 rfl ?_ | refine g_aload_nq d_Tally_tell_108 rfl ?_
    refine fg_Tally_trapThread lf_Tally_45 d_Tally_tell_109 (by first | (simp only [hK_sI, hK_sR, hK_sA, hK_sQ, hK_sL, hK_fillA]; assumption) | assumption) ?_
    refine Go.ret (some _) (rOk_i _) rfl d_Tally_tell_112 ?_
    refine ⟨?_, rfl⟩
    first
      | (subst hs_1; rfl)
      | (have n0 := sw_ne hs_1 0 (by decide) (by decide); have n1 := sw_ne hs_1 1 (by decide) (by decide); have n2 := sw_ne hs_1 2 (by decide) (by decide); have n3 := sw_ne hs_1 3 (by decide) (by decide); have n6 := sw_ne hs_1 6 (by decide) (by decide); have n7 := sw_ne hs_1 7 (by decide) (by decide); have n8 := sw_ne hs_1 8 (by decide) (by decide); have n9 := sw_ne hs_1 9 (by decide) (by decide); have n10 := sw_ne hs_1 10 (by decide) (by decide); have n11 := sw_ne hs_1 11 (by decide) (by decide); have n12 := sw_ne hs_1 12 (by decide) (by decide); simp [taTell, n0, n1, n2, n3, n6, n7, n8, n9, n10, n11, n12])
  · refine g_tableIn 113 d_Tally_tell_1 (by rw [hs_1]; decide) (by rw [hs_1]; decide) (by rw [hs_1]; rfl) (by decide) ?_
    first | refine g_aload_n d_Tally_tell_113 rfl ?_ | refine g_aload_nq d_Tally_tell_113 rfl ?_
    refine fg_Tally_trapPlace lf_Tally_48 d_Tally_tell_114 (by first | (simp only [hK_sI, hK_sR, hK_sA, hK_sQ, hK_sL, hK_fillA]; assumption) | assumption) ?_
    refine Go.ret (some _) (rOk_i _) rfl d_Tally_tell_117 ?_
    refine ⟨?_, rfl⟩
    first
      | (subst hs_1; rfl)
      | (have n0 := sw_ne hs_1 0 (by decide) (by decide); have n1 := sw_ne hs_1 1 (by decide) (by decide); have n2 := sw_ne hs_1 2 (by decide) (by decide); have n3 := sw_ne hs_1 3 (by decide) (by decide); have n6 := sw_ne hs_1 6 (by decide) (by decide); have n7 := sw_ne hs_1 7 (by decide) (by decide); have n8 := sw_ne hs_1 8 (by decide) (by decide); have n9 := sw_ne hs_1 9 (by decide) (by decide); have n10 := sw_ne hs_1 10 (by decide) (by decide); have n11 := sw_ne hs_1 11 (by decide) (by decide); have n12 := sw_ne hs_1 12 (by decide) (by decide); simp [taTell, n0, n1, n2, n3, n6, n7, n8, n9, n10, n11, n12])
  · refine g_tableIn 118 d_Tally_tell_1 (by rw [hs_1]; decide) (by rw [hs_1]; decide) (by rw [hs_1]; rfl) (by decide) ?_
    first | refine g_aload_n d_Tally_tell_118 rfl ?_ | refine g_aload_nq d_Tally_tell_118 rfl ?_
    refine fg_Tally_partly lf_Tally_36 d_Tally_tell_119 (by first | (simp only [hK_sI, hK_sR, hK_sA, hK_sQ, hK_sL, hK_fillA]; assumption) | assumption) ?_
    refine Go.ret (some _) (rOk_i _) rfl d_Tally_tell_122 ?_
    refine ⟨?_, rfl⟩
    first
      | (subst hs_1; rfl)
      | (have n0 := sw_ne hs_1 0 (by decide) (by decide); have n1 := sw_ne hs_1 1 (by decide) (by decide); have n2 := sw_ne hs_1 2 (by decide) (by decide); have n3 := sw_ne hs_1 3 (by decide) (by decide); have n6 := sw_ne hs_1 6 (by decide) (by decide); have n7 := sw_ne hs_1 7 (by decide) (by decide); have n8 := sw_ne hs_1 8 (by decide) (by decide); have n9 := sw_ne hs_1 9 (by decide) (by decide); have n10 := sw_ne hs_1 10 (by decide) (by decide); have n11 := sw_ne hs_1 11 (by decide) (by decide); have n12 := sw_ne hs_1 12 (by decide) (by decide); simp [taTell, n0, n1, n2, n3, n6, n7, n8, n9, n10, n11, n12])
def taBegin (h : Hp) (x : Nat) (s b t : Int32) : Hp := sI (sI (sI (sI (sI (sI (sI (sI (sI (sI (sI (sI (sI h 320 x s) 321 x b) 322 x t) 323 x 0) 324 x 0) 325 x 0) 327 x 0) 328 x 0) 329 x 0) 330 x 0) 331 x 0) 332 x 0) 333 x 0
def unBegin (h : Hp) (x : Nat) (s : Int32) : Hp := sI (sI (sI (sI (sI (sI h 386 x s) 387 x s) 388 x (s - 1)) 389 x 0) 390 x 0) 391 x 0
abbrev mi_Tally_begin : MI := (⟨"WarpMill$Tally", "begin", "(III)V"⟩, prog_8_method_3_code, 4, none, 0, 0)
def it_Tally_begin_0 : List (Nat × ClassFile.Instr × Nat) := [(0, .aload_n 0, 1), (1, .iload_n 1, 1), (2, .putfield 9, 3), (5, .aload_n 0, 1), (6, .iload_n 2, 1), (7, .putfield 15, 3), (10, .aload_n 0, 1), (11, .iload_n 3, 1), (12, .putfield 18, 3), (15, .aload_n 0, 1), (16, .iconst 0, 1), (17, .putfield 21, 3), (20, .aload_n 0, 1), (21, .iconst 0, 1), (22, .putfield 24, 3), (25, .aload_n 0, 1), (26, .iconst 0, 1), (27, .putfield 27, 3), (30, .aload_n 0, 1), (31, .iconst 0, 1), (32, .putfield 30, 3), (35, .aload_n 0, 1), (36, .iconst 0, 1), (37, .putfield 33, 3)]
theorem id_Tally_begin_0 : ∀ q ∈ it_Tally_begin_0, decode prog_8_method_3_code q.1 = .ok q.2 := by decide +kernel
theorem d_Tally_begin_0 : decode prog_8_method_3_code 0 = .ok (.aload_n 0, 1) := id_Tally_begin_0 (0, .aload_n 0, 1) (List.mem_of_getElem? (i := 0) rfl)
theorem d_Tally_begin_1 : decode prog_8_method_3_code 1 = .ok (.iload_n 1, 1) := id_Tally_begin_0 (1, .iload_n 1, 1) (List.mem_of_getElem? (i := 1) rfl)
theorem d_Tally_begin_2 : decode prog_8_method_3_code 2 = .ok (.putfield 9, 3) := id_Tally_begin_0 (2, .putfield 9, 3) (List.mem_of_getElem? (i := 2) rfl)
theorem d_Tally_begin_5 : decode prog_8_method_3_code 5 = .ok (.aload_n 0, 1) := id_Tally_begin_0 (5, .aload_n 0, 1) (List.mem_of_getElem? (i := 3) rfl)
theorem d_Tally_begin_6 : decode prog_8_method_3_code 6 = .ok (.iload_n 2, 1) := id_Tally_begin_0 (6, .iload_n 2, 1) (List.mem_of_getElem? (i := 4) rfl)
theorem d_Tally_begin_7 : decode prog_8_method_3_code 7 = .ok (.putfield 15, 3) := id_Tally_begin_0 (7, .putfield 15, 3) (List.mem_of_getElem? (i := 5) rfl)
theorem d_Tally_begin_10 : decode prog_8_method_3_code 10 = .ok (.aload_n 0, 1) := id_Tally_begin_0 (10, .aload_n 0, 1) (List.mem_of_getElem? (i := 6) rfl)
theorem d_Tally_begin_11 : decode prog_8_method_3_code 11 = .ok (.iload_n 3, 1) := id_Tally_begin_0 (11, .iload_n 3, 1) (List.mem_of_getElem? (i := 7) rfl)
theorem d_Tally_begin_12 : decode prog_8_method_3_code 12 = .ok (.putfield 18, 3) := id_Tally_begin_0 (12, .putfield 18, 3) (List.mem_of_getElem? (i := 8) rfl)
theorem d_Tally_begin_15 : decode prog_8_method_3_code 15 = .ok (.aload_n 0, 1) := id_Tally_begin_0 (15, .aload_n 0, 1) (List.mem_of_getElem? (i := 9) rfl)
theorem d_Tally_begin_16 : decode prog_8_method_3_code 16 = .ok (.iconst 0, 1) := id_Tally_begin_0 (16, .iconst 0, 1) (List.mem_of_getElem? (i := 10) rfl)
theorem d_Tally_begin_17 : decode prog_8_method_3_code 17 = .ok (.putfield 21, 3) := id_Tally_begin_0 (17, .putfield 21, 3) (List.mem_of_getElem? (i := 11) rfl)
theorem d_Tally_begin_20 : decode prog_8_method_3_code 20 = .ok (.aload_n 0, 1) := id_Tally_begin_0 (20, .aload_n 0, 1) (List.mem_of_getElem? (i := 12) rfl)
theorem d_Tally_begin_21 : decode prog_8_method_3_code 21 = .ok (.iconst 0, 1) := id_Tally_begin_0 (21, .iconst 0, 1) (List.mem_of_getElem? (i := 13) rfl)
theorem d_Tally_begin_22 : decode prog_8_method_3_code 22 = .ok (.putfield 24, 3) := id_Tally_begin_0 (22, .putfield 24, 3) (List.mem_of_getElem? (i := 14) rfl)
theorem d_Tally_begin_25 : decode prog_8_method_3_code 25 = .ok (.aload_n 0, 1) := id_Tally_begin_0 (25, .aload_n 0, 1) (List.mem_of_getElem? (i := 15) rfl)
theorem d_Tally_begin_26 : decode prog_8_method_3_code 26 = .ok (.iconst 0, 1) := id_Tally_begin_0 (26, .iconst 0, 1) (List.mem_of_getElem? (i := 16) rfl)
theorem d_Tally_begin_27 : decode prog_8_method_3_code 27 = .ok (.putfield 27, 3) := id_Tally_begin_0 (27, .putfield 27, 3) (List.mem_of_getElem? (i := 17) rfl)
theorem d_Tally_begin_30 : decode prog_8_method_3_code 30 = .ok (.aload_n 0, 1) := id_Tally_begin_0 (30, .aload_n 0, 1) (List.mem_of_getElem? (i := 18) rfl)
theorem d_Tally_begin_31 : decode prog_8_method_3_code 31 = .ok (.iconst 0, 1) := id_Tally_begin_0 (31, .iconst 0, 1) (List.mem_of_getElem? (i := 19) rfl)
theorem d_Tally_begin_32 : decode prog_8_method_3_code 32 = .ok (.putfield 30, 3) := id_Tally_begin_0 (32, .putfield 30, 3) (List.mem_of_getElem? (i := 20) rfl)
theorem d_Tally_begin_35 : decode prog_8_method_3_code 35 = .ok (.aload_n 0, 1) := id_Tally_begin_0 (35, .aload_n 0, 1) (List.mem_of_getElem? (i := 21) rfl)
theorem d_Tally_begin_36 : decode prog_8_method_3_code 36 = .ok (.iconst 0, 1) := id_Tally_begin_0 (36, .iconst 0, 1) (List.mem_of_getElem? (i := 22) rfl)
theorem d_Tally_begin_37 : decode prog_8_method_3_code 37 = .ok (.putfield 33, 3) := id_Tally_begin_0 (37, .putfield 33, 3) (List.mem_of_getElem? (i := 23) rfl)
def it_Tally_begin_1 : List (Nat × ClassFile.Instr × Nat) := [(40, .aload_n 0, 1), (41, .iconst 0, 1), (42, .putfield 36, 3), (45, .aload_n 0, 1), (46, .iconst 0, 1), (47, .putfield 39, 3), (50, .aload_n 0, 1), (51, .iconst 0, 1), (52, .putfield 42, 3), (55, .aload_n 0, 1), (56, .iconst 0, 1), (57, .putfield 45, 3), (60, .aload_n 0, 1), (61, .iconst 0, 1), (62, .putfield 48, 3), (65, .return_, 1)]
theorem id_Tally_begin_1 : ∀ q ∈ it_Tally_begin_1, decode prog_8_method_3_code q.1 = .ok q.2 := by decide +kernel
theorem d_Tally_begin_40 : decode prog_8_method_3_code 40 = .ok (.aload_n 0, 1) := id_Tally_begin_1 (40, .aload_n 0, 1) (List.mem_of_getElem? (i := 0) rfl)
theorem d_Tally_begin_41 : decode prog_8_method_3_code 41 = .ok (.iconst 0, 1) := id_Tally_begin_1 (41, .iconst 0, 1) (List.mem_of_getElem? (i := 1) rfl)
theorem d_Tally_begin_42 : decode prog_8_method_3_code 42 = .ok (.putfield 36, 3) := id_Tally_begin_1 (42, .putfield 36, 3) (List.mem_of_getElem? (i := 2) rfl)
theorem d_Tally_begin_45 : decode prog_8_method_3_code 45 = .ok (.aload_n 0, 1) := id_Tally_begin_1 (45, .aload_n 0, 1) (List.mem_of_getElem? (i := 3) rfl)
theorem d_Tally_begin_46 : decode prog_8_method_3_code 46 = .ok (.iconst 0, 1) := id_Tally_begin_1 (46, .iconst 0, 1) (List.mem_of_getElem? (i := 4) rfl)
theorem d_Tally_begin_47 : decode prog_8_method_3_code 47 = .ok (.putfield 39, 3) := id_Tally_begin_1 (47, .putfield 39, 3) (List.mem_of_getElem? (i := 5) rfl)
theorem d_Tally_begin_50 : decode prog_8_method_3_code 50 = .ok (.aload_n 0, 1) := id_Tally_begin_1 (50, .aload_n 0, 1) (List.mem_of_getElem? (i := 6) rfl)
theorem d_Tally_begin_51 : decode prog_8_method_3_code 51 = .ok (.iconst 0, 1) := id_Tally_begin_1 (51, .iconst 0, 1) (List.mem_of_getElem? (i := 7) rfl)
theorem d_Tally_begin_52 : decode prog_8_method_3_code 52 = .ok (.putfield 42, 3) := id_Tally_begin_1 (52, .putfield 42, 3) (List.mem_of_getElem? (i := 8) rfl)
theorem d_Tally_begin_55 : decode prog_8_method_3_code 55 = .ok (.aload_n 0, 1) := id_Tally_begin_1 (55, .aload_n 0, 1) (List.mem_of_getElem? (i := 9) rfl)
theorem d_Tally_begin_56 : decode prog_8_method_3_code 56 = .ok (.iconst 0, 1) := id_Tally_begin_1 (56, .iconst 0, 1) (List.mem_of_getElem? (i := 10) rfl)
theorem d_Tally_begin_57 : decode prog_8_method_3_code 57 = .ok (.putfield 45, 3) := id_Tally_begin_1 (57, .putfield 45, 3) (List.mem_of_getElem? (i := 11) rfl)
theorem d_Tally_begin_60 : decode prog_8_method_3_code 60 = .ok (.aload_n 0, 1) := id_Tally_begin_1 (60, .aload_n 0, 1) (List.mem_of_getElem? (i := 12) rfl)
theorem d_Tally_begin_61 : decode prog_8_method_3_code 61 = .ok (.iconst 0, 1) := id_Tally_begin_1 (61, .iconst 0, 1) (List.mem_of_getElem? (i := 13) rfl)
theorem d_Tally_begin_62 : decode prog_8_method_3_code 62 = .ok (.putfield 48, 3) := id_Tally_begin_1 (62, .putfield 48, 3) (List.mem_of_getElem? (i := 14) rfl)
theorem d_Tally_begin_65 : decode prog_8_method_3_code 65 = .ok (.return_, 1) := id_Tally_begin_1 (65, .return_, 1) (List.mem_of_getElem? (i := 15) rfl)
theorem wC_Tally_begin : Cond.code ⟨"WarpMill$Tally", "begin", "(III)V"⟩ prog_8_method_3_code 4 (none) ∈ lw_tb := mem_tb 440 (by decide +kernel) rfl
set_option maxRecDepth 100000 in
set_option maxHeartbeats 4000000 in
theorem sp_Tally_begin {G : Gl} {h : Hp} (x : Nat) (s b t : Int32) (hx : hK h x = 6) : Ex G mi_Tally_begin [.ref x, .int s, .int b, .int t] h (fun r h' => r = none ∧ h' = taBegin h x s b t) := by
  refine Ex.of (by decide) (Nat.le_of_ble_eq_true rfl) ?_
  show Go G mi_Tally_begin h _ h 0 [(0, .ref x), (1, .int s), (2, .int b), (3, .int t)] []
  first | refine g_aload_n d_Tally_begin_0 rfl ?_ | refine g_aload_nq d_Tally_begin_0 rfl ?_
  refine g_iload_n d_Tally_begin_1 rfl ?_
  refine fp_Tally_status lf_Tally_9 d_Tally_begin_2 (by first | (simp only [hK_sI, hK_sR, hK_sA, hK_sQ, hK_sL, hK_fillA]; assumption) | assumption) ?_
  first | refine g_aload_n d_Tally_begin_5 rfl ?_ | refine g_aload_nq d_Tally_begin_5 rfl ?_
  refine g_iload_n d_Tally_begin_6 rfl ?_
  refine fp_Tally_blocks lf_Tally_15 d_Tally_begin_7 (by first | (simp only [hK_sI, hK_sR, hK_sA, hK_sQ, hK_sL, hK_fillA]; assumption) | assumption) ?_
  first | refine g_aload_n d_Tally_begin_10 rfl ?_ | refine g_aload_nq d_Tally_begin_10 rfl ?_
  refine g_iload_n d_Tally_begin_11 rfl ?_
  refine fp_Tally_threads lf_Tally_18 d_Tally_begin_12 (by first | (simp only [hK_sI, hK_sR, hK_sA, hK_sQ, hK_sL, hK_fillA]; assumption) | assumption) ?_
  first | refine g_aload_n d_Tally_begin_15 rfl ?_ | refine g_aload_nq d_Tally_begin_15 rfl ?_
  refine g_iconst 0 d_Tally_begin_16 (by decide) ?_
  refine fp_Tally_dispatched lf_Tally_21 d_Tally_begin_17 (by first | (simp only [hK_sI, hK_sR, hK_sA, hK_sQ, hK_sL, hK_fillA]; assumption) | assumption) ?_
  first | refine g_aload_n d_Tally_begin_20 rfl ?_ | refine g_aload_nq d_Tally_begin_20 rfl ?_
  refine g_iconst 0 d_Tally_begin_21 (by decide) ?_
  refine fp_Tally_ended lf_Tally_24 d_Tally_begin_22 (by first | (simp only [hK_sI, hK_sR, hK_sA, hK_sQ, hK_sL, hK_fillA]; assumption) | assumption) ?_
  first | refine g_aload_n d_Tally_begin_25 rfl ?_ | refine g_aload_nq d_Tally_begin_25 rfl ?_
  refine g_iconst 0 d_Tally_begin_26 (by decide) ?_
  refine fp_Tally_cycles lf_Tally_27 d_Tally_begin_27 (by first | (simp only [hK_sI, hK_sR, hK_sA, hK_sQ, hK_sL, hK_fillA]; assumption) | assumption) ?_
  first | refine g_aload_n d_Tally_begin_30 rfl ?_ | refine g_aload_nq d_Tally_begin_30 rfl ?_
  refine g_iconst 0 d_Tally_begin_31 (by decide) ?_
  refine fp_Tally_went lf_Tally_30 d_Tally_begin_32 (by first | (simp only [hK_sI, hK_sR, hK_sA, hK_sQ, hK_sL, hK_fillA]; assumption) | assumption) ?_
  first | refine g_aload_n d_Tally_begin_35 rfl ?_ | refine g_aload_nq d_Tally_begin_35 rfl ?_
  refine g_iconst 0 d_Tally_begin_36 (by decide) ?_
  refine fp_Tally_did lf_Tally_33 d_Tally_begin_37 (by first | (simp only [hK_sI, hK_sR, hK_sA, hK_sQ, hK_sL, hK_fillA]; assumption) | assumption) ?_
  first | refine g_aload_n d_Tally_begin_40 rfl ?_ | refine g_aload_nq d_Tally_begin_40 rfl ?_
  refine g_iconst 0 d_Tally_begin_41 (by decide) ?_
  refine fp_Tally_partly lf_Tally_36 d_Tally_begin_42 (by first | (simp only [hK_sI, hK_sR, hK_sA, hK_sQ, hK_sL, hK_fillA]; assumption) | assumption) ?_
  first | refine g_aload_n d_Tally_begin_45 rfl ?_ | refine g_aload_nq d_Tally_begin_45 rfl ?_
  refine g_iconst 0 d_Tally_begin_46 (by decide) ?_
  refine fp_Tally_why lf_Tally_39 d_Tally_begin_47 (by first | (simp only [hK_sI, hK_sR, hK_sA, hK_sQ, hK_sL, hK_fillA]; assumption) | assumption) ?_
  first | refine g_aload_n d_Tally_begin_50 rfl ?_ | refine g_aload_nq d_Tally_begin_50 rfl ?_
  refine g_iconst 0 d_Tally_begin_51 (by decide) ?_
  refine fp_Tally_trapBlock lf_Tally_42 d_Tally_begin_52 (by first | (simp only [hK_sI, hK_sR, hK_sA, hK_sQ, hK_sL, hK_fillA]; assumption) | assumption) ?_
  first | refine g_aload_n d_Tally_begin_55 rfl ?_ | refine g_aload_nq d_Tally_begin_55 rfl ?_
  refine g_iconst 0 d_Tally_begin_56 (by decide) ?_
  refine fp_Tally_trapThread lf_Tally_45 d_Tally_begin_57 (by first | (simp only [hK_sI, hK_sR, hK_sA, hK_sQ, hK_sL, hK_fillA]; assumption) | assumption) ?_
  first | refine g_aload_n d_Tally_begin_60 rfl ?_ | refine g_aload_nq d_Tally_begin_60 rfl ?_
  refine g_iconst 0 d_Tally_begin_61 (by decide) ?_
  refine fp_Tally_trapPlace lf_Tally_48 d_Tally_begin_62 (by first | (simp only [hK_sI, hK_sR, hK_sA, hK_sQ, hK_sL, hK_fillA]; assumption) | assumption) ?_
  refine Go.ret none trivial rfl d_Tally_begin_65 ?_
  exact ⟨rfl, rfl⟩
abbrev mi_Unit_begin : MI := (⟨"WarpMill$Unit", "begin", "(I)V"⟩, prog_9_method_2_code, 2, none, 0, 0)
def it_Unit_begin_0 : List (Nat × ClassFile.Instr × Nat) := [(0, .aload_n 0, 1), (1, .iload_n 1, 1), (2, .putfield 21, 3), (5, .aload_n 0, 1), (6, .iload_n 1, 1), (7, .putfield 25, 3), (10, .aload_n 0, 1), (11, .iload_n 1, 1), (12, .iconst 1, 1), (13, .isub, 1), (14, .putfield 28, 3), (17, .aload_n 0, 1), (18, .iconst 0, 1), (19, .putfield 31, 3), (22, .aload_n 0, 1), (23, .iconst 0, 1), (24, .putfield 34, 3), (27, .aload_n 0, 1), (28, .iconst 0, 1), (29, .putfield 37, 3), (32, .return_, 1)]
theorem id_Unit_begin_0 : ∀ q ∈ it_Unit_begin_0, decode prog_9_method_2_code q.1 = .ok q.2 := by decide +kernel
theorem d_Unit_begin_0 : decode prog_9_method_2_code 0 = .ok (.aload_n 0, 1) := id_Unit_begin_0 (0, .aload_n 0, 1) (List.mem_of_getElem? (i := 0) rfl)
theorem d_Unit_begin_1 : decode prog_9_method_2_code 1 = .ok (.iload_n 1, 1) := id_Unit_begin_0 (1, .iload_n 1, 1) (List.mem_of_getElem? (i := 1) rfl)
theorem d_Unit_begin_2 : decode prog_9_method_2_code 2 = .ok (.putfield 21, 3) := id_Unit_begin_0 (2, .putfield 21, 3) (List.mem_of_getElem? (i := 2) rfl)
theorem d_Unit_begin_5 : decode prog_9_method_2_code 5 = .ok (.aload_n 0, 1) := id_Unit_begin_0 (5, .aload_n 0, 1) (List.mem_of_getElem? (i := 3) rfl)
theorem d_Unit_begin_6 : decode prog_9_method_2_code 6 = .ok (.iload_n 1, 1) := id_Unit_begin_0 (6, .iload_n 1, 1) (List.mem_of_getElem? (i := 4) rfl)
theorem d_Unit_begin_7 : decode prog_9_method_2_code 7 = .ok (.putfield 25, 3) := id_Unit_begin_0 (7, .putfield 25, 3) (List.mem_of_getElem? (i := 5) rfl)
theorem d_Unit_begin_10 : decode prog_9_method_2_code 10 = .ok (.aload_n 0, 1) := id_Unit_begin_0 (10, .aload_n 0, 1) (List.mem_of_getElem? (i := 6) rfl)
theorem d_Unit_begin_11 : decode prog_9_method_2_code 11 = .ok (.iload_n 1, 1) := id_Unit_begin_0 (11, .iload_n 1, 1) (List.mem_of_getElem? (i := 7) rfl)
theorem d_Unit_begin_12 : decode prog_9_method_2_code 12 = .ok (.iconst 1, 1) := id_Unit_begin_0 (12, .iconst 1, 1) (List.mem_of_getElem? (i := 8) rfl)
theorem d_Unit_begin_13 : decode prog_9_method_2_code 13 = .ok (.isub, 1) := id_Unit_begin_0 (13, .isub, 1) (List.mem_of_getElem? (i := 9) rfl)
theorem d_Unit_begin_14 : decode prog_9_method_2_code 14 = .ok (.putfield 28, 3) := id_Unit_begin_0 (14, .putfield 28, 3) (List.mem_of_getElem? (i := 10) rfl)
theorem d_Unit_begin_17 : decode prog_9_method_2_code 17 = .ok (.aload_n 0, 1) := id_Unit_begin_0 (17, .aload_n 0, 1) (List.mem_of_getElem? (i := 11) rfl)
theorem d_Unit_begin_18 : decode prog_9_method_2_code 18 = .ok (.iconst 0, 1) := id_Unit_begin_0 (18, .iconst 0, 1) (List.mem_of_getElem? (i := 12) rfl)
theorem d_Unit_begin_19 : decode prog_9_method_2_code 19 = .ok (.putfield 31, 3) := id_Unit_begin_0 (19, .putfield 31, 3) (List.mem_of_getElem? (i := 13) rfl)
theorem d_Unit_begin_22 : decode prog_9_method_2_code 22 = .ok (.aload_n 0, 1) := id_Unit_begin_0 (22, .aload_n 0, 1) (List.mem_of_getElem? (i := 14) rfl)
theorem d_Unit_begin_23 : decode prog_9_method_2_code 23 = .ok (.iconst 0, 1) := id_Unit_begin_0 (23, .iconst 0, 1) (List.mem_of_getElem? (i := 15) rfl)
theorem d_Unit_begin_24 : decode prog_9_method_2_code 24 = .ok (.putfield 34, 3) := id_Unit_begin_0 (24, .putfield 34, 3) (List.mem_of_getElem? (i := 16) rfl)
theorem d_Unit_begin_27 : decode prog_9_method_2_code 27 = .ok (.aload_n 0, 1) := id_Unit_begin_0 (27, .aload_n 0, 1) (List.mem_of_getElem? (i := 17) rfl)
theorem d_Unit_begin_28 : decode prog_9_method_2_code 28 = .ok (.iconst 0, 1) := id_Unit_begin_0 (28, .iconst 0, 1) (List.mem_of_getElem? (i := 18) rfl)
theorem d_Unit_begin_29 : decode prog_9_method_2_code 29 = .ok (.putfield 37, 3) := id_Unit_begin_0 (29, .putfield 37, 3) (List.mem_of_getElem? (i := 19) rfl)
theorem d_Unit_begin_32 : decode prog_9_method_2_code 32 = .ok (.return_, 1) := id_Unit_begin_0 (32, .return_, 1) (List.mem_of_getElem? (i := 20) rfl)
theorem wC_Unit_begin : Cond.code ⟨"WarpMill$Unit", "begin", "(I)V"⟩ prog_9_method_2_code 2 (none) ∈ lw_tb := mem_tb 460 (by decide +kernel) rfl
set_option maxRecDepth 100000 in
set_option maxHeartbeats 4000000 in
theorem sp_Unit_begin {G : Gl} {h : Hp} (x : Nat) (s : Int32) (hx : hK h x = 7) : Ex G mi_Unit_begin [.ref x, .int s] h (fun r h' => r = none ∧ h' = unBegin h x s) := by
  refine Ex.of (by decide) (Nat.le_of_ble_eq_true rfl) ?_
  show Go G mi_Unit_begin h _ h 0 [(0, .ref x), (1, .int s)] []
  first | refine g_aload_n d_Unit_begin_0 rfl ?_ | refine g_aload_nq d_Unit_begin_0 rfl ?_
  refine g_iload_n d_Unit_begin_1 rfl ?_
  refine fp_Unit_slots lf_Unit_21 d_Unit_begin_2 (by first | (simp only [hK_sI, hK_sR, hK_sA, hK_sQ, hK_sL, hK_fillA]; assumption) | assumption) ?_
  first | refine g_aload_n d_Unit_begin_5 rfl ?_ | refine g_aload_nq d_Unit_begin_5 rfl ?_
  refine g_iload_n d_Unit_begin_6 rfl ?_
  refine fp_Unit_free lf_Unit_25 d_Unit_begin_7 (by first | (simp only [hK_sI, hK_sR, hK_sA, hK_sQ, hK_sL, hK_fillA]; assumption) | assumption) ?_
  first | refine g_aload_n d_Unit_begin_10 rfl ?_ | refine g_aload_nq d_Unit_begin_10 rfl ?_
  refine g_iload_n d_Unit_begin_11 rfl ?_
  refine g_iconst 1 d_Unit_begin_12 (by decide) ?_
  refine g_isub d_Unit_begin_13 ?_
  refine fp_Unit_last lf_Unit_28 d_Unit_begin_14 (by first | (simp only [hK_sI, hK_sR, hK_sA, hK_sQ, hK_sL, hK_fillA]; assumption) | assumption) ?_
  first | refine g_aload_n d_Unit_begin_17 rfl ?_ | refine g_aload_nq d_Unit_begin_17 rfl ?_
  refine g_iconst 0 d_Unit_begin_18 (by decide) ?_
  refine fp_Unit_went lf_Unit_31 d_Unit_begin_19 (by first | (simp only [hK_sI, hK_sR, hK_sA, hK_sQ, hK_sL, hK_fillA]; assumption) | assumption) ?_
  first | refine g_aload_n d_Unit_begin_22 rfl ?_ | refine g_aload_nq d_Unit_begin_22 rfl ?_
  refine g_iconst 0 d_Unit_begin_23 (by decide) ?_
  refine fp_Unit_dividerTick lf_Unit_34 d_Unit_begin_24 (by first | (simp only [hK_sI, hK_sR, hK_sA, hK_sQ, hK_sL, hK_fillA]; assumption) | assumption) ?_
  first | refine g_aload_n d_Unit_begin_27 rfl ?_ | refine g_aload_nq d_Unit_begin_27 rfl ?_
  refine g_iconst 0 d_Unit_begin_28 (by decide) ?_
  refine fp_Unit_sharedTick lf_Unit_37 d_Unit_begin_29 (by first | (simp only [hK_sI, hK_sR, hK_sA, hK_sQ, hK_sL, hK_fillA]; assumption) | assumption) ?_
  refine Go.ret none trivial rfl d_Unit_begin_32 ?_
  exact ⟨rfl, rfl⟩
