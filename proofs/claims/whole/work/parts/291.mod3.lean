abbrev mi_Mod_unit : MI := (⟨"WarpMillModel", "unit", "(II)I"⟩, prog_13_method_65_code, 3, some .int, 0, 0)
def it_Mod_unit_0 : List (Nat × ClassFile.Instr × Nat) := [(0, .aload_n 0, 1), (1, .iconst 0, 1), (2, .putfield 120, 3), (5, .iload_n 1, 1), (6, .ifCond .lt (11), 3), (9, .iload_n 1, 1), (10, .aload_n 0, 1), (11, .getfield 16, 3), (14, .if_icmp .lt (5), 3), (17, .iconst (-1), 1), (18, .ireturn, 1), (19, .iload_n 2, 1), (20, .tableswitch (60) (0) (3) #[(32), (39), (46), (53)], 32), (52, .aload_n 0, 1), (53, .getfield 42, 3), (56, .iload_n 1, 1), (57, .iaload, 1), (58, .ireturn, 1), (59, .aload_n 0, 1), (60, .getfield 45, 3), (63, .iload_n 1, 1), (64, .iaload, 1), (65, .ireturn, 1), (66, .aload_n 0, 1)]
theorem id_Mod_unit_0 : ∀ q ∈ it_Mod_unit_0, decode prog_13_method_65_code q.1 = .ok q.2 := by decide +kernel
theorem d_Mod_unit_0 : decode prog_13_method_65_code 0 = .ok (.aload_n 0, 1) := id_Mod_unit_0 (0, .aload_n 0, 1) (List.mem_of_getElem? (i := 0) rfl)
theorem d_Mod_unit_1 : decode prog_13_method_65_code 1 = .ok (.iconst 0, 1) := id_Mod_unit_0 (1, .iconst 0, 1) (List.mem_of_getElem? (i := 1) rfl)
theorem d_Mod_unit_2 : decode prog_13_method_65_code 2 = .ok (.putfield 120, 3) := id_Mod_unit_0 (2, .putfield 120, 3) (List.mem_of_getElem? (i := 2) rfl)
theorem d_Mod_unit_5 : decode prog_13_method_65_code 5 = .ok (.iload_n 1, 1) := id_Mod_unit_0 (5, .iload_n 1, 1) (List.mem_of_getElem? (i := 3) rfl)
theorem d_Mod_unit_6 : decode prog_13_method_65_code 6 = .ok (.ifCond .lt (11), 3) := id_Mod_unit_0 (6, .ifCond .lt (11), 3) (List.mem_of_getElem? (i := 4) rfl)
theorem d_Mod_unit_9 : decode prog_13_method_65_code 9 = .ok (.iload_n 1, 1) := id_Mod_unit_0 (9, .iload_n 1, 1) (List.mem_of_getElem? (i := 5) rfl)
theorem d_Mod_unit_10 : decode prog_13_method_65_code 10 = .ok (.aload_n 0, 1) := id_Mod_unit_0 (10, .aload_n 0, 1) (List.mem_of_getElem? (i := 6) rfl)
theorem d_Mod_unit_11 : decode prog_13_method_65_code 11 = .ok (.getfield 16, 3) := id_Mod_unit_0 (11, .getfield 16, 3) (List.mem_of_getElem? (i := 7) rfl)
theorem d_Mod_unit_14 : decode prog_13_method_65_code 14 = .ok (.if_icmp .lt (5), 3) := id_Mod_unit_0 (14, .if_icmp .lt (5), 3) (List.mem_of_getElem? (i := 8) rfl)
theorem d_Mod_unit_17 : decode prog_13_method_65_code 17 = .ok (.iconst (-1), 1) := id_Mod_unit_0 (17, .iconst (-1), 1) (List.mem_of_getElem? (i := 9) rfl)
theorem d_Mod_unit_18 : decode prog_13_method_65_code 18 = .ok (.ireturn, 1) := id_Mod_unit_0 (18, .ireturn, 1) (List.mem_of_getElem? (i := 10) rfl)
theorem d_Mod_unit_19 : decode prog_13_method_65_code 19 = .ok (.iload_n 2, 1) := id_Mod_unit_0 (19, .iload_n 2, 1) (List.mem_of_getElem? (i := 11) rfl)
theorem d_Mod_unit_20 : decode prog_13_method_65_code 20 = .ok (.tableswitch (60) (0) (3) #[(32), (39), (46), (53)], 32) := id_Mod_unit_0 (20, .tableswitch (60) (0) (3) #[(32), (39), (46), (53)], 32) (List.mem_of_getElem? (i := 12) rfl)
theorem d_Mod_unit_52 : decode prog_13_method_65_code 52 = .ok (.aload_n 0, 1) := id_Mod_unit_0 (52, .aload_n 0, 1) (List.mem_of_getElem? (i := 13) rfl)
theorem d_Mod_unit_53 : decode prog_13_method_65_code 53 = .ok (.getfield 42, 3) := id_Mod_unit_0 (53, .getfield 42, 3) (List.mem_of_getElem? (i := 14) rfl)
theorem d_Mod_unit_56 : decode prog_13_method_65_code 56 = .ok (.iload_n 1, 1) := id_Mod_unit_0 (56, .iload_n 1, 1) (List.mem_of_getElem? (i := 15) rfl)
theorem d_Mod_unit_57 : decode prog_13_method_65_code 57 = .ok (.iaload, 1) := id_Mod_unit_0 (57, .iaload, 1) (List.mem_of_getElem? (i := 16) rfl)
theorem d_Mod_unit_58 : decode prog_13_method_65_code 58 = .ok (.ireturn, 1) := id_Mod_unit_0 (58, .ireturn, 1) (List.mem_of_getElem? (i := 17) rfl)
theorem d_Mod_unit_59 : decode prog_13_method_65_code 59 = .ok (.aload_n 0, 1) := id_Mod_unit_0 (59, .aload_n 0, 1) (List.mem_of_getElem? (i := 18) rfl)
theorem d_Mod_unit_60 : decode prog_13_method_65_code 60 = .ok (.getfield 45, 3) := id_Mod_unit_0 (60, .getfield 45, 3) (List.mem_of_getElem? (i := 19) rfl)
theorem d_Mod_unit_63 : decode prog_13_method_65_code 63 = .ok (.iload_n 1, 1) := id_Mod_unit_0 (63, .iload_n 1, 1) (List.mem_of_getElem? (i := 20) rfl)
theorem d_Mod_unit_64 : decode prog_13_method_65_code 64 = .ok (.iaload, 1) := id_Mod_unit_0 (64, .iaload, 1) (List.mem_of_getElem? (i := 21) rfl)
theorem d_Mod_unit_65 : decode prog_13_method_65_code 65 = .ok (.ireturn, 1) := id_Mod_unit_0 (65, .ireturn, 1) (List.mem_of_getElem? (i := 22) rfl)
theorem d_Mod_unit_66 : decode prog_13_method_65_code 66 = .ok (.aload_n 0, 1) := id_Mod_unit_0 (66, .aload_n 0, 1) (List.mem_of_getElem? (i := 23) rfl)
def it_Mod_unit_1 : List (Nat × ClassFile.Instr × Nat) := [(67, .getfield 48, 3), (70, .iload_n 1, 1), (71, .iaload, 1), (72, .ireturn, 1), (73, .aload_n 0, 1), (74, .getfield 51, 3), (77, .iload_n 1, 1), (78, .iaload, 1), (79, .ireturn, 1), (80, .iconst (-1), 1), (81, .ireturn, 1)]
theorem id_Mod_unit_1 : ∀ q ∈ it_Mod_unit_1, decode prog_13_method_65_code q.1 = .ok q.2 := by decide +kernel
theorem d_Mod_unit_67 : decode prog_13_method_65_code 67 = .ok (.getfield 48, 3) := id_Mod_unit_1 (67, .getfield 48, 3) (List.mem_of_getElem? (i := 0) rfl)
theorem d_Mod_unit_70 : decode prog_13_method_65_code 70 = .ok (.iload_n 1, 1) := id_Mod_unit_1 (70, .iload_n 1, 1) (List.mem_of_getElem? (i := 1) rfl)
theorem d_Mod_unit_71 : decode prog_13_method_65_code 71 = .ok (.iaload, 1) := id_Mod_unit_1 (71, .iaload, 1) (List.mem_of_getElem? (i := 2) rfl)
theorem d_Mod_unit_72 : decode prog_13_method_65_code 72 = .ok (.ireturn, 1) := id_Mod_unit_1 (72, .ireturn, 1) (List.mem_of_getElem? (i := 3) rfl)
theorem d_Mod_unit_73 : decode prog_13_method_65_code 73 = .ok (.aload_n 0, 1) := id_Mod_unit_1 (73, .aload_n 0, 1) (List.mem_of_getElem? (i := 4) rfl)
theorem d_Mod_unit_74 : decode prog_13_method_65_code 74 = .ok (.getfield 51, 3) := id_Mod_unit_1 (74, .getfield 51, 3) (List.mem_of_getElem? (i := 5) rfl)
theorem d_Mod_unit_77 : decode prog_13_method_65_code 77 = .ok (.iload_n 1, 1) := id_Mod_unit_1 (77, .iload_n 1, 1) (List.mem_of_getElem? (i := 6) rfl)
theorem d_Mod_unit_78 : decode prog_13_method_65_code 78 = .ok (.iaload, 1) := id_Mod_unit_1 (78, .iaload, 1) (List.mem_of_getElem? (i := 7) rfl)
theorem d_Mod_unit_79 : decode prog_13_method_65_code 79 = .ok (.ireturn, 1) := id_Mod_unit_1 (79, .ireturn, 1) (List.mem_of_getElem? (i := 8) rfl)
theorem d_Mod_unit_80 : decode prog_13_method_65_code 80 = .ok (.iconst (-1), 1) := id_Mod_unit_1 (80, .iconst (-1), 1) (List.mem_of_getElem? (i := 9) rfl)
theorem d_Mod_unit_81 : decode prog_13_method_65_code 81 = .ok (.ireturn, 1) := id_Mod_unit_1 (81, .ireturn, 1) (List.mem_of_getElem? (i := 10) rfl)
theorem wC_Mod_unit : Cond.code ⟨"WarpMillModel", "unit", "(II)I"⟩ prog_13_method_65_code 3 (some .int) ∈ lw_tb := mem_tb 1482 (by decide +kernel) rfl
set_option maxRecDepth 100000 in
set_option maxHeartbeats 4000000 in
theorem sp_Mod_unit {G : Gl} {h : Hp} (x a0 a1 a2 a3 : Nat) (u k : Int32) (hx : hK h x = 12) (hi : (hI h 707 x).toInt ≤ 8) (r0 : hR h 731 x = some a0) (k0 : hK h a0 = 100) (n0 : hN h a0 = 8) (r1 : hR h 732 x = some a1) (k1 : hK h a1 = 100) (n1 : hN h a1 = 8) (r2 : hR h 733 x = some a2) (k2 : hK h a2 = 100) (n2 : hN h a2 = 8) (r3 : hR h 734 x = some a3) (k3 : hK h a3 = 100) (n3 : hN h a3 = 8) : Ex G mi_Mod_unit [.ref x, .int u, .int k] h (fun r h' => r = some (.int (if u < 0 ∨ ¬ u < hI h 707 x then -1 else if k = 0 then hA h a0 u.toNatClampNeg else if k = 1 then hA h a1 u.toNatClampNeg else if k = 2 then hA h a2 u.toNatClampNeg else if k = 3 then hA h a3 u.toNatClampNeg else -1)) ∧ h' = sI h 704 x 0) := by
  refine Ex.of (by decide) (Nat.le_of_ble_eq_true rfl) ?_
  show Go G mi_Mod_unit h _ h 0 [(0, .ref x), (1, .int u), (2, .int k)] []
  first | refine g_aload_n d_Mod_unit_0 rfl ?_ | refine g_aload_nq d_Mod_unit_0 rfl ?_
  refine g_iconst 0 d_Mod_unit_1 (by decide) ?_
  refine fp_Mod_thrown lf_Mod_120 d_Mod_unit_2 (by first | (simp only [hK_sI, hK_sR, hK_sA, hK_sQ, hK_sL, hK_fillA]; assumption) | assumption) ?_
  refine g_iload_n d_Mod_unit_5 rfl ?_
  refine g_if_lt 17 d_Mod_unit_6 (by decide) (fun c_6 => ?_) (fun c_6 => ?_)
  · refine g_iconst (-1) d_Mod_unit_17 (by decide) ?_
    refine Go.ret (some _) (rOk_i _) rfl d_Mod_unit_18 ?_
    refine ⟨?_, rfl⟩
    first
      | (rw [if_pos (by first | exact Or.inl c_6 | exact Or.inr c_14)]; done)
      | (rw [if_neg (fun q => q.elim c_6 (fun z => z c_14))]; subst hs_20; rfl)
      | (rw [if_neg (fun q => q.elim c_6 (fun z => z c_14))]; have m0 := sw_ne hs_20 0 (by decide) (by decide); have m1 := sw_ne hs_20 1 (by decide) (by decide); have m2 := sw_ne hs_20 2 (by decide) (by decide); have m3 := sw_ne hs_20 3 (by decide) (by decide); simp [m0, m1, m2, m3])
  · refine g_iload_n d_Mod_unit_9 rfl ?_
    first | refine g_aload_n d_Mod_unit_10 rfl ?_ | refine g_aload_nq d_Mod_unit_10 rfl ?_
    refine fgv_Mod_units (hI h 707 x) lf_Mod_16 d_Mod_unit_11 (by first | (simp only [hK_sI, hK_sR, hK_sA, hK_sQ, hK_sL, hK_fillA]; assumption) | assumption) (by simp [hI_sI]) ?_
    refine g_icmp_lt 19 d_Mod_unit_14 (by decide) (fun c_14 => ?_) (fun c_14 => ?_)
    · refine g_iload_n d_Mod_unit_19 rfl ?_
      refine g_sw sw_0_3 (fun hs_20 => ?_)
      rcases hs_20 with hs_20 | hs_20 | hs_20 | hs_20 | hs_20
      · refine g_tableOut 80 d_Mod_unit_20 hs_20 (by decide) ?_
        refine g_iconst (-1) d_Mod_unit_80 (by decide) ?_
        refine Go.ret (some _) (rOk_i _) rfl d_Mod_unit_81 ?_
        refine ⟨?_, rfl⟩
        first
          | (rw [if_pos (by first | exact Or.inl c_6 | exact Or.inr c_14)]; done)
          | (rw [if_neg (fun q => q.elim c_6 (fun z => z c_14))]; subst hs_20; rfl)
          | (rw [if_neg (fun q => q.elim c_6 (fun z => z c_14))]; have m0 := sw_ne hs_20 0 (by decide) (by decide); have m1 := sw_ne hs_20 1 (by decide) (by decide); have m2 := sw_ne hs_20 2 (by decide) (by decide); have m3 := sw_ne hs_20 3 (by decide) (by decide); simp [m0, m1, m2, m3])
      · refine g_tableIn 52 d_Mod_unit_20 (by rw [hs_20]; decide) (by rw [hs_20]; decide) (by rw [hs_20]; rfl) (by decide) ?_
        first | refine g_aload_n d_Mod_unit_52 rfl ?_ | refine g_aload_nq d_Mod_unit_52 rfl ?_
        first | refine fgs_Mod_divider lf_Mod_42 d_Mod_unit_53 (by first | (simp only [hK_sI, hK_sR, hK_sA, hK_sQ, hK_sL, hK_fillA]; assumption) | assumption) (by first | (simp only [hR_sI, hR_sA, hR_sQ, hR_sL, hR_fillA]; assumption) | assumption) ?_ | refine fg_Mod_divider lf_Mod_42 d_Mod_unit_53 (by first | (simp only [hK_sI, hK_sR, hK_sA, hK_sQ, hK_sL, hK_fillA]; assumption) | assumption) ?_
        refine g_iload_n d_Mod_unit_56 rfl ?_
        refine g_iald (by simp only [hK_sI]; assumption) (by rw [hN_sI, n0]; exact vin_le hi c_6 (Int32.not_le.mpr c_14)) d_Mod_unit_57 ?_
        refine Go.ret (some _) (rOk_i _) rfl d_Mod_unit_58 ?_
        refine ⟨?_, rfl⟩
        first
          | (rw [if_pos (by first | exact Or.inl c_6 | exact Or.inr c_14)]; done)
          | (rw [if_neg (fun q => q.elim c_6 (fun z => z c_14))]; subst hs_20; rfl)
          | (rw [if_neg (fun q => q.elim c_6 (fun z => z c_14))]; have m0 := sw_ne hs_20 0 (by decide) (by decide); have m1 := sw_ne hs_20 1 (by decide) (by decide); have m2 := sw_ne hs_20 2 (by decide) (by decide); have m3 := sw_ne hs_20 3 (by decide) (by decide); simp [m0, m1, m2, m3])
      · refine g_tableIn 59 d_Mod_unit_20 (by rw [hs_20]; decide) (by rw [hs_20]; decide) (by rw [hs_20]; rfl) (by decide) ?_
        first | refine g_aload_n d_Mod_unit_59 rfl ?_ | refine g_aload_nq d_Mod_unit_59 rfl ?_
        first | refine fgs_Mod_sharedTick lf_Mod_45 d_Mod_unit_60 (by first | (simp only [hK_sI, hK_sR, hK_sA, hK_sQ, hK_sL, hK_fillA]; assumption) | assumption) (by first | (simp only [hR_sI, hR_sA, hR_sQ, hR_sL, hR_fillA]; assumption) | assumption) ?_ | refine fg_Mod_sharedTick lf_Mod_45 d_Mod_unit_60 (by first | (simp only [hK_sI, hK_sR, hK_sA, hK_sQ, hK_sL, hK_fillA]; assumption) | assumption) ?_
        refine g_iload_n d_Mod_unit_63 rfl ?_
        refine g_iald (by simp only [hK_sI]; assumption) (by rw [hN_sI, n1]; exact vin_le hi c_6 (Int32.not_le.mpr c_14)) d_Mod_unit_64 ?_
        refine Go.ret (some _) (rOk_i _) rfl d_Mod_unit_65 ?_
        refine ⟨?_, rfl⟩
        first
          | (rw [if_pos (by first | exact Or.inl c_6 | exact Or.inr c_14)]; done)
          | (rw [if_neg (fun q => q.elim c_6 (fun z => z c_14))]; subst hs_20; rfl)
          | (rw [if_neg (fun q => q.elim c_6 (fun z => z c_14))]; have m0 := sw_ne hs_20 0 (by decide) (by decide); have m1 := sw_ne hs_20 1 (by decide) (by decide); have m2 := sw_ne hs_20 2 (by decide) (by decide); have m3 := sw_ne hs_20 3 (by decide) (by decide); simp [m0, m1, m2, m3])
      · refine g_tableIn 66 d_Mod_unit_20 (by rw [hs_20]; decide) (by rw [hs_20]; decide) (by rw [hs_20]; rfl) (by decide) ?_
        first | refine g_aload_n d_Mod_unit_66 rfl ?_ | refine g_aload_nq d_Mod_unit_66 rfl ?_
        first | refine fgs_Mod_latest lf_Mod_48 d_Mod_unit_67 (by first | (simp only [hK_sI, hK_sR, hK_sA, hK_sQ, hK_sL, hK_fillA]; assumption) | assumption) (by first | (simp only [hR_sI, hR_sA, hR_sQ, hR_sL, hR_fillA]; assumption) | assumption) ?_ | refine fg_Mod_latest lf_Mod_48 d_Mod_unit_67 (by first | (simp only [hK_sI, hK_sR, hK_sA, hK_sQ, hK_sL, hK_fillA]; assumption) | assumption) ?_
        refine g_iload_n d_Mod_unit_70 rfl ?_
        refine g_iald (by simp only [hK_sI]; assumption) (by rw [hN_sI, n2]; exact vin_le hi c_6 (Int32.not_le.mpr c_14)) d_Mod_unit_71 ?_
        refine Go.ret (some _) (rOk_i _) rfl d_Mod_unit_72 ?_
        refine ⟨?_, rfl⟩
        first
          | (rw [if_pos (by first | exact Or.inl c_6 | exact Or.inr c_14)]; done)
          | (rw [if_neg (fun q => q.elim c_6 (fun z => z c_14))]; subst hs_20; rfl)
          | (rw [if_neg (fun q => q.elim c_6 (fun z => z c_14))]; have m0 := sw_ne hs_20 0 (by decide) (by decide); have m1 := sw_ne hs_20 1 (by decide) (by decide); have m2 := sw_ne hs_20 2 (by decide) (by decide); have m3 := sw_ne hs_20 3 (by decide) (by decide); simp [m0, m1, m2, m3])
      · refine g_tableIn 73 d_Mod_unit_20 (by rw [hs_20]; decide) (by rw [hs_20]; decide) (by rw [hs_20]; rfl) (by decide) ?_
        first | refine g_aload_n d_Mod_unit_73 rfl ?_ | refine g_aload_nq d_Mod_unit_73 rfl ?_
        first | refine fgs_Mod_unitWords lf_Mod_51 d_Mod_unit_74 (by first | (simp only [hK_sI, hK_sR, hK_sA, hK_sQ, hK_sL, hK_fillA]; assumption) | assumption) (by first | (simp only [hR_sI, hR_sA, hR_sQ, hR_sL, hR_fillA]; assumption) | assumption) ?_ | refine fg_Mod_unitWords lf_Mod_51 d_Mod_unit_74 (by first | (simp only [hK_sI, hK_sR, hK_sA, hK_sQ, hK_sL, hK_fillA]; assumption) | assumption) ?_
        refine g_iload_n d_Mod_unit_77 rfl ?_
        refine g_iald (by simp only [hK_sI]; assumption) (by rw [hN_sI, n3]; exact vin_le hi c_6 (Int32.not_le.mpr c_14)) d_Mod_unit_78 ?_
        refine Go.ret (some _) (rOk_i _) rfl d_Mod_unit_79 ?_
        refine ⟨?_, rfl⟩
        first
          | (rw [if_pos (by first | exact Or.inl c_6 | exact Or.inr c_14)]; done)
          | (rw [if_neg (fun q => q.elim c_6 (fun z => z c_14))]; subst hs_20; rfl)
          | (rw [if_neg (fun q => q.elim c_6 (fun z => z c_14))]; have m0 := sw_ne hs_20 0 (by decide) (by decide); have m1 := sw_ne hs_20 1 (by decide) (by decide); have m2 := sw_ne hs_20 2 (by decide) (by decide); have m3 := sw_ne hs_20 3 (by decide) (by decide); simp [m0, m1, m2, m3])
    · refine g_iconst (-1) d_Mod_unit_17 (by decide) ?_
      refine Go.ret (some _) (rOk_i _) rfl d_Mod_unit_18 ?_
      refine ⟨?_, rfl⟩
      first
        | (rw [if_pos (by first | exact Or.inl c_6 | exact Or.inr c_14)]; done)
        | (rw [if_neg (fun q => q.elim c_6 (fun z => z c_14))]; subst hs_20; rfl)
        | (rw [if_neg (fun q => q.elim c_6 (fun z => z c_14))]; have m0 := sw_ne hs_20 0 (by decide) (by decide); have m1 := sw_ne hs_20 1 (by decide) (by decide); have m2 := sw_ne hs_20 2 (by decide) (by decide); have m3 := sw_ne hs_20 3 (by decide) (by decide); simp [m0, m1, m2, m3])
