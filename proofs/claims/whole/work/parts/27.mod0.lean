abbrev mi_Mod_word : MI := (⟨"WarpMillModel", "word", "(IJ)Z"⟩, prog_13_method_10_code, 4, some .boolean, 1, 20)
def it_Mod_word_0 : List (Nat × ClassFile.Instr × Nat) := [(0, .aload_n 0, 1), (1, .iconst 0, 1), (2, .putfield 120, 3), (5, .iload_n 1, 1), (6, .ifCond .lt (17), 3), (9, .iload_n 1, 1), (10, .sipush (128), 3), (13, .if_icmp .ge (10), 3), (16, .aload_n 0, 1), (17, .invokevirtual 143, 3), (20, .ifCond .eq (5), 3), (23, .iconst 0, 1), (24, .ireturn, 1), (25, .aload_n 0, 1), (26, .getfield 28, 3), (29, .iload_n 1, 1), (30, .lload_n 2, 1), (31, .lastore, 1), (32, .iconst 1, 1), (33, .ireturn, 1)]
theorem id_Mod_word_0 : ∀ q ∈ it_Mod_word_0, decode prog_13_method_10_code q.1 = .ok q.2 := by decide +kernel
theorem d_Mod_word_0 : decode prog_13_method_10_code 0 = .ok (.aload_n 0, 1) := id_Mod_word_0 (0, .aload_n 0, 1) (List.mem_of_getElem? (i := 0) rfl)
theorem d_Mod_word_1 : decode prog_13_method_10_code 1 = .ok (.iconst 0, 1) := id_Mod_word_0 (1, .iconst 0, 1) (List.mem_of_getElem? (i := 1) rfl)
theorem d_Mod_word_2 : decode prog_13_method_10_code 2 = .ok (.putfield 120, 3) := id_Mod_word_0 (2, .putfield 120, 3) (List.mem_of_getElem? (i := 2) rfl)
theorem d_Mod_word_5 : decode prog_13_method_10_code 5 = .ok (.iload_n 1, 1) := id_Mod_word_0 (5, .iload_n 1, 1) (List.mem_of_getElem? (i := 3) rfl)
theorem d_Mod_word_6 : decode prog_13_method_10_code 6 = .ok (.ifCond .lt (17), 3) := id_Mod_word_0 (6, .ifCond .lt (17), 3) (List.mem_of_getElem? (i := 4) rfl)
theorem d_Mod_word_9 : decode prog_13_method_10_code 9 = .ok (.iload_n 1, 1) := id_Mod_word_0 (9, .iload_n 1, 1) (List.mem_of_getElem? (i := 5) rfl)
theorem d_Mod_word_10 : decode prog_13_method_10_code 10 = .ok (.sipush (128), 3) := id_Mod_word_0 (10, .sipush (128), 3) (List.mem_of_getElem? (i := 6) rfl)
theorem d_Mod_word_13 : decode prog_13_method_10_code 13 = .ok (.if_icmp .ge (10), 3) := id_Mod_word_0 (13, .if_icmp .ge (10), 3) (List.mem_of_getElem? (i := 7) rfl)
theorem d_Mod_word_16 : decode prog_13_method_10_code 16 = .ok (.aload_n 0, 1) := id_Mod_word_0 (16, .aload_n 0, 1) (List.mem_of_getElem? (i := 8) rfl)
theorem d_Mod_word_17 : decode prog_13_method_10_code 17 = .ok (.invokevirtual 143, 3) := id_Mod_word_0 (17, .invokevirtual 143, 3) (List.mem_of_getElem? (i := 9) rfl)
theorem d_Mod_word_20 : decode prog_13_method_10_code 20 = .ok (.ifCond .eq (5), 3) := id_Mod_word_0 (20, .ifCond .eq (5), 3) (List.mem_of_getElem? (i := 10) rfl)
theorem d_Mod_word_23 : decode prog_13_method_10_code 23 = .ok (.iconst 0, 1) := id_Mod_word_0 (23, .iconst 0, 1) (List.mem_of_getElem? (i := 11) rfl)
theorem d_Mod_word_24 : decode prog_13_method_10_code 24 = .ok (.ireturn, 1) := id_Mod_word_0 (24, .ireturn, 1) (List.mem_of_getElem? (i := 12) rfl)
theorem d_Mod_word_25 : decode prog_13_method_10_code 25 = .ok (.aload_n 0, 1) := id_Mod_word_0 (25, .aload_n 0, 1) (List.mem_of_getElem? (i := 13) rfl)
theorem d_Mod_word_26 : decode prog_13_method_10_code 26 = .ok (.getfield 28, 3) := id_Mod_word_0 (26, .getfield 28, 3) (List.mem_of_getElem? (i := 14) rfl)
theorem d_Mod_word_29 : decode prog_13_method_10_code 29 = .ok (.iload_n 1, 1) := id_Mod_word_0 (29, .iload_n 1, 1) (List.mem_of_getElem? (i := 15) rfl)
theorem d_Mod_word_30 : decode prog_13_method_10_code 30 = .ok (.lload_n 2, 1) := id_Mod_word_0 (30, .lload_n 2, 1) (List.mem_of_getElem? (i := 16) rfl)
theorem d_Mod_word_31 : decode prog_13_method_10_code 31 = .ok (.lastore, 1) := id_Mod_word_0 (31, .lastore, 1) (List.mem_of_getElem? (i := 17) rfl)
theorem d_Mod_word_32 : decode prog_13_method_10_code 32 = .ok (.iconst 1, 1) := id_Mod_word_0 (32, .iconst 1, 1) (List.mem_of_getElem? (i := 18) rfl)
theorem d_Mod_word_33 : decode prog_13_method_10_code 33 = .ok (.ireturn, 1) := id_Mod_word_0 (33, .ireturn, 1) (List.mem_of_getElem? (i := 19) rfl)
theorem wC_Mod_word : Cond.code ⟨"WarpMillModel", "word", "(IJ)Z"⟩ prog_13_method_10_code 4 (some .boolean) ∈ lw_tb := mem_tb 1262 (by decide +kernel) rfl
theorem cw_Mod_word_Mod_isUnder : cW mi_Mod_word mi_Mod_isUnder 0 := ⟨wC_Mod_isUnder, wi_Mod, ⟨by decide, by decide, by decide +kernel⟩, by decide, by decide⟩
set_option maxRecDepth 100000 in
set_option maxHeartbeats 4000000 in
theorem sp_Mod_word {G : Gl} {h : Hp} (x kn : Nat) (k : Int32) (w : Int64) (hx : hK h x = 12) (hk : hR h 711 x = some kn) (kk : hK h kn = 110) (nk : hN h kn = 128) : Ex G mi_Mod_word [.ref x, .int k, .long w] h (fun r h' => r = some (.int (bI (¬ k < 0 ∧ ¬ 128 ≤ k ∧ ¬ (hI h 715 x = 1 ∨ hI h 715 x = 4)))) ∧ h' = if (¬ k < 0 ∧ ¬ 128 ≤ k ∧ ¬ (hI h 715 x = 1 ∨ hI h 715 x = 4)) then sL (sI h 704 x 0) kn k.toNatClampNeg w else sI h 704 x 0) := by
  refine Ex.of (by decide) (Nat.le_of_ble_eq_true rfl) ?_
  show Go G mi_Mod_word h _ h 0 [(0, .ref x), (1, .int k), (2, .long w)] []
  first | refine g_aload_n d_Mod_word_0 rfl ?_ | refine g_aload_nq d_Mod_word_0 rfl ?_
  refine g_iconst 0 d_Mod_word_1 (by decide) ?_
  refine fp_Mod_thrown lf_Mod_120 d_Mod_word_2 (by first | (simp only [hK_sI, hK_sR, hK_sA, hK_sQ, hK_sL, hK_fillA]; assumption) | assumption) ?_
  refine g_iload_n d_Mod_word_5 rfl ?_
  refine g_if_lt 23 d_Mod_word_6 (by decide) (fun c_6 => ?_) (fun c_6 => ?_)
  · refine g_iconst 0 d_Mod_word_23 (by decide) ?_
    refine Go.ret (some _) (by first | exact rOk_bI _ | exact rOk_b0 | exact rOk_b1) rfl d_Mod_word_24 ?_
    have no : ¬ (¬ k < 0 ∧ ¬ 128 ≤ k ∧ ¬ (hI h 715 x = 1 ∨ hI h 715 x = 4)) := by
      intro q
      simp_all [bI_e0, hI_sI]
    rw [bI_f no, if_neg no]
    exact ⟨rfl, rfl⟩
  · refine g_iload_n d_Mod_word_9 rfl ?_
    refine g_sipush (128) d_Mod_word_10 (by decide) ?_
    refine g_icmp_ge 23 d_Mod_word_13 (by decide) (fun c_13 => ?_) (fun c_13 => ?_)
    · refine g_iconst 0 d_Mod_word_23 (by decide) ?_
      refine Go.ret (some _) (by first | exact rOk_bI _ | exact rOk_b0 | exact rOk_b1) rfl d_Mod_word_24 ?_
      have no : ¬ (¬ k < 0 ∧ ¬ 128 ≤ k ∧ ¬ (hI h 715 x = 1 ∨ hI h 715 x = 4)) := by
        intro q
        simp_all [bI_e0, hI_sI]
      rw [bI_f no, if_neg no]
      exact ⟨rfl, rfl⟩
    · first | refine g_aload_n d_Mod_word_16 rfl ?_ | refine g_aload_nq d_Mod_word_16 rfl ?_
      refine g_callV (mz := mi_Mod_isUnder) (sp_Mod_isUnder x (by simp only [hK_sI]; assumption)) cw_Mod_word_Mod_isUnder lm_Mod_143 wI_Mod_isUnder wV_Mod_isUnder (ci := 11) (by first | (simp only [hK_sI, hK_sR, hK_sA, hK_sQ, hK_sL, hK_fillA]; assumption) | assumption) (by decide) rfl rfl d_Mod_word_17 rfl rfl (Nat.le_of_ble_eq_true rfl) (fun r_17 h_17 hp_17 hro_17 => ?_)
      obtain ⟨rfl, rfl⟩ := hp_17
      clear hro_17
      dsimp only [Option.toList_some, Option.toList_none, List.cons_append, List.nil_append]
      refine g_if_eq 25 d_Mod_word_20 (by decide) (fun c_20 => ?_) (fun c_20 => ?_)
      · first | refine g_aload_n d_Mod_word_25 rfl ?_ | refine g_aload_nq d_Mod_word_25 rfl ?_
        first | refine fgs_Mod_kernel lf_Mod_28 d_Mod_word_26 (by first | (simp only [hK_sI, hK_sR, hK_sA, hK_sQ, hK_sL, hK_fillA]; assumption) | assumption) (by first | (simp only [hR_sI, hR_sA, hR_sQ, hR_sL, hR_fillA]; assumption) | assumption) ?_ | refine fg_Mod_kernel lf_Mod_28 d_Mod_word_26 (by first | (simp only [hK_sI, hK_sR, hK_sA, hK_sQ, hK_sL, hK_fillA]; assumption) | assumption) ?_
        refine g_iload_n d_Mod_word_29 rfl ?_
        refine g_lload_n d_Mod_word_30 rfl ?_
        refine g_last (by simp only [hK_sI]; assumption) (by rw [hN_sI, nk]; exact vin_of (m := 128) (by decide) c_6 c_13) d_Mod_word_31 ?_
        refine g_iconst 1 d_Mod_word_32 (by decide) ?_
        have ok : (¬ k < 0 ∧ ¬ 128 ≤ k ∧ ¬ (hI h 715 x = 1 ∨ hI h 715 x = 4)) := by simp_all [bI_e0, hI_sI]
        exact Go.ret (some _) rOk_b1 rfl d_Mod_word_33 ⟨by rw [bI_t ok], by rw [if_pos ok]⟩
      · refine g_iconst 0 d_Mod_word_23 (by decide) ?_
        refine Go.ret (some _) (by first | exact rOk_bI _ | exact rOk_b0 | exact rOk_b1) rfl d_Mod_word_24 ?_
        have no : ¬ (¬ k < 0 ∧ ¬ 128 ≤ k ∧ ¬ (hI h 715 x = 1 ∨ hI h 715 x = 4)) := by
          intro q
          simp_all [bI_e0, hI_sI]
        rw [bI_f no, if_neg no]
        exact ⟨rfl, rfl⟩
theorem vin_le {i m : Int32} {n : Nat} (hm : m.toInt ≤ n) (h0 : ¬ i < 0) (h1 : ¬ m ≤ i) : vp_in i n := by
  refine vp_in_iff.mpr ⟨?_, ?_⟩
  · rw [Int32.lt_iff_toInt_lt, Int32.toInt_zero] at h0
    omega
  · rw [Int32.le_iff_toInt_le] at h1
    omega
theorem vin_gp {g p : Int32} (hg : vp_in g 8) (h0 : ¬ p < 0) (h4 : p ≤ 4) (hn : ¬ p = 4) : vp_in (4 * g + p) 32 := by
  obtain ⟨a, ha, rfl⟩ := vp_in_of hg (by decide)
  obtain ⟨b, hb, rfl⟩ := nI_of2 (M := 4) (n := 4) (by decide) h0 h4
  have hb4 : b < 4 := by
    rcases Nat.lt_or_ge b 4 with q | q
    · exact q
    · exact absurd (by rw [show b = 4 by omega]; decide) hn
  rw [show (4 : Int32) = nI 4 by decide, pk_mul, nI_add]
  exact vp_in_nI (by omega) (by decide)
abbrev mi_Mod_set : MI := (⟨"WarpMillModel", "set", "(II)Z"⟩, prog_13_method_11_code, 3, some .boolean, 1, 20)
def it_Mod_set_0 : List (Nat × ClassFile.Instr × Nat) := [(0, .aload_n 0, 1), (1, .iconst 0, 1), (2, .putfield 120, 3), (5, .iload_n 1, 1), (6, .ifCond .lt (18), 3), (9, .iload_n 1, 1), (10, .aload_n 0, 1), (11, .getfield 25, 3), (14, .if_icmp .ge (10), 3), (17, .aload_n 0, 1), (18, .invokevirtual 143, 3), (21, .ifCond .eq (5), 3), (24, .iconst 0, 1), (25, .ireturn, 1), (26, .aload_n 0, 1), (27, .getfield 32, 3), (30, .iload_n 1, 1), (31, .iload_n 2, 1), (32, .iastore, 1), (33, .iconst 1, 1), (34, .ireturn, 1)]
theorem id_Mod_set_0 : ∀ q ∈ it_Mod_set_0, decode prog_13_method_11_code q.1 = .ok q.2 := by decide +kernel
theorem d_Mod_set_0 : decode prog_13_method_11_code 0 = .ok (.aload_n 0, 1) := id_Mod_set_0 (0, .aload_n 0, 1) (List.mem_of_getElem? (i := 0) rfl)
theorem d_Mod_set_1 : decode prog_13_method_11_code 1 = .ok (.iconst 0, 1) := id_Mod_set_0 (1, .iconst 0, 1) (List.mem_of_getElem? (i := 1) rfl)
theorem d_Mod_set_2 : decode prog_13_method_11_code 2 = .ok (.putfield 120, 3) := id_Mod_set_0 (2, .putfield 120, 3) (List.mem_of_getElem? (i := 2) rfl)
theorem d_Mod_set_5 : decode prog_13_method_11_code 5 = .ok (.iload_n 1, 1) := id_Mod_set_0 (5, .iload_n 1, 1) (List.mem_of_getElem? (i := 3) rfl)
theorem d_Mod_set_6 : decode prog_13_method_11_code 6 = .ok (.ifCond .lt (18), 3) := id_Mod_set_0 (6, .ifCond .lt (18), 3) (List.mem_of_getElem? (i := 4) rfl)
theorem d_Mod_set_9 : decode prog_13_method_11_code 9 = .ok (.iload_n 1, 1) := id_Mod_set_0 (9, .iload_n 1, 1) (List.mem_of_getElem? (i := 5) rfl)
theorem d_Mod_set_10 : decode prog_13_method_11_code 10 = .ok (.aload_n 0, 1) := id_Mod_set_0 (10, .aload_n 0, 1) (List.mem_of_getElem? (i := 6) rfl)
theorem d_Mod_set_11 : decode prog_13_method_11_code 11 = .ok (.getfield 25, 3) := id_Mod_set_0 (11, .getfield 25, 3) (List.mem_of_getElem? (i := 7) rfl)
theorem d_Mod_set_14 : decode prog_13_method_11_code 14 = .ok (.if_icmp .ge (10), 3) := id_Mod_set_0 (14, .if_icmp .ge (10), 3) (List.mem_of_getElem? (i := 8) rfl)
theorem d_Mod_set_17 : decode prog_13_method_11_code 17 = .ok (.aload_n 0, 1) := id_Mod_set_0 (17, .aload_n 0, 1) (List.mem_of_getElem? (i := 9) rfl)
theorem d_Mod_set_18 : decode prog_13_method_11_code 18 = .ok (.invokevirtual 143, 3) := id_Mod_set_0 (18, .invokevirtual 143, 3) (List.mem_of_getElem? (i := 10) rfl)
theorem d_Mod_set_21 : decode prog_13_method_11_code 21 = .ok (.ifCond .eq (5), 3) := id_Mod_set_0 (21, .ifCond .eq (5), 3) (List.mem_of_getElem? (i := 11) rfl)
theorem d_Mod_set_24 : decode prog_13_method_11_code 24 = .ok (.iconst 0, 1) := id_Mod_set_0 (24, .iconst 0, 1) (List.mem_of_getElem? (i := 12) rfl)
theorem d_Mod_set_25 : decode prog_13_method_11_code 25 = .ok (.ireturn, 1) := id_Mod_set_0 (25, .ireturn, 1) (List.mem_of_getElem? (i := 13) rfl)
theorem d_Mod_set_26 : decode prog_13_method_11_code 26 = .ok (.aload_n 0, 1) := id_Mod_set_0 (26, .aload_n 0, 1) (List.mem_of_getElem? (i := 14) rfl)
theorem d_Mod_set_27 : decode prog_13_method_11_code 27 = .ok (.getfield 32, 3) := id_Mod_set_0 (27, .getfield 32, 3) (List.mem_of_getElem? (i := 15) rfl)
theorem d_Mod_set_30 : decode prog_13_method_11_code 30 = .ok (.iload_n 1, 1) := id_Mod_set_0 (30, .iload_n 1, 1) (List.mem_of_getElem? (i := 16) rfl)
theorem d_Mod_set_31 : decode prog_13_method_11_code 31 = .ok (.iload_n 2, 1) := id_Mod_set_0 (31, .iload_n 2, 1) (List.mem_of_getElem? (i := 17) rfl)
theorem d_Mod_set_32 : decode prog_13_method_11_code 32 = .ok (.iastore, 1) := id_Mod_set_0 (32, .iastore, 1) (List.mem_of_getElem? (i := 18) rfl)
theorem d_Mod_set_33 : decode prog_13_method_11_code 33 = .ok (.iconst 1, 1) := id_Mod_set_0 (33, .iconst 1, 1) (List.mem_of_getElem? (i := 19) rfl)
theorem d_Mod_set_34 : decode prog_13_method_11_code 34 = .ok (.ireturn, 1) := id_Mod_set_0 (34, .ireturn, 1) (List.mem_of_getElem? (i := 20) rfl)
theorem wC_Mod_set : Cond.code ⟨"WarpMillModel", "set", "(II)Z"⟩ prog_13_method_11_code 3 (some .boolean) ∈ lw_tb := mem_tb 1266 (by decide +kernel) rfl
theorem cw_Mod_set_Mod_isUnder : cW mi_Mod_set mi_Mod_isUnder 0 := ⟨wC_Mod_isUnder, wi_Mod, ⟨by decide, by decide, by decide +kernel⟩, by decide, by decide⟩
set_option maxRecDepth 100000 in
set_option maxHeartbeats 4000000 in
theorem sp_Mod_set {G : Gl} {h : Hp} (x mm : Nat) (k v : Int32) (hx : hK h x = 12) (hk : hR h 712 x = some mm) (kk : hK h mm = 100) (nk : hN h mm = 4096) (hi : (hI h 710 x).toInt ≤ 4096) : Ex G mi_Mod_set [.ref x, .int k, .int v] h (fun r h' => r = some (.int (bI (¬ k < 0 ∧ ¬ hI h 710 x ≤ k ∧ ¬ (hI h 715 x = 1 ∨ hI h 715 x = 4)))) ∧ h' = if (¬ k < 0 ∧ ¬ hI h 710 x ≤ k ∧ ¬ (hI h 715 x = 1 ∨ hI h 715 x = 4)) then sA (sI h 704 x 0) mm k.toNatClampNeg v else sI h 704 x 0) := by
  refine Ex.of (by decide) (Nat.le_of_ble_eq_true rfl) ?_
  show Go G mi_Mod_set h _ h 0 [(0, .ref x), (1, .int k), (2, .int v)] []
  first | refine g_aload_n d_Mod_set_0 rfl ?_ | refine g_aload_nq d_Mod_set_0 rfl ?_
  refine g_iconst 0 d_Mod_set_1 (by decide) ?_
  refine fp_Mod_thrown lf_Mod_120 d_Mod_set_2 (by first | (simp only [hK_sI, hK_sR, hK_sA, hK_sQ, hK_sL, hK_fillA]; assumption) | assumption) ?_
  refine g_iload_n d_Mod_set_5 rfl ?_
  refine g_if_lt 24 d_Mod_set_6 (by decide) (fun c_6 => ?_) (fun c_6 => ?_)
  · refine g_iconst 0 d_Mod_set_24 (by decide) ?_
    refine Go.ret (some _) (by first | exact rOk_bI _ | exact rOk_b0 | exact rOk_b1) rfl d_Mod_set_25 ?_
    have no : ¬ (¬ k < 0 ∧ ¬ hI h 710 x ≤ k ∧ ¬ (hI h 715 x = 1 ∨ hI h 715 x = 4)) := by
      intro q
      simp_all [bI_e0, hI_sI]
    rw [bI_f no, if_neg no]
    exact ⟨rfl, rfl⟩
  · refine g_iload_n d_Mod_set_9 rfl ?_
    first | refine g_aload_n d_Mod_set_10 rfl ?_ | refine g_aload_nq d_Mod_set_10 rfl ?_
    refine fgv_Mod_ints (hI h 710 x) lf_Mod_25 d_Mod_set_11 (by first | (simp only [hK_sI, hK_sR, hK_sA, hK_sQ, hK_sL, hK_fillA]; assumption) | assumption) (by simp [hI_sI]) ?_
    refine g_icmp_ge 24 d_Mod_set_14 (by decide) (fun c_14 => ?_) (fun c_14 => ?_)
    · refine g_iconst 0 d_Mod_set_24 (by decide) ?_
      refine Go.ret (some _) (by first | exact rOk_bI _ | exact rOk_b0 | exact rOk_b1) rfl d_Mod_set_25 ?_
      have no : ¬ (¬ k < 0 ∧ ¬ hI h 710 x ≤ k ∧ ¬ (hI h 715 x = 1 ∨ hI h 715 x = 4)) := by
        intro q
        simp_all [bI_e0, hI_sI]
      rw [bI_f no, if_neg no]
      exact ⟨rfl, rfl⟩
    · first | refine g_aload_n d_Mod_set_17 rfl ?_ | refine g_aload_nq d_Mod_set_17 rfl ?_
      refine g_callV (mz := mi_Mod_isUnder) (sp_Mod_isUnder x (by simp only [hK_sI]; assumption)) cw_Mod_set_Mod_isUnder lm_Mod_143 wI_Mod_isUnder wV_Mod_isUnder (ci := 11) (by first | (simp only [hK_sI, hK_sR, hK_sA, hK_sQ, hK_sL, hK_fillA]; assumption) | assumption) (by decide) rfl rfl d_Mod_set_18 rfl rfl (Nat.le_of_ble_eq_true rfl) (fun r_18 h_18 hp_18 hro_18 => ?_)
      obtain ⟨rfl, rfl⟩ := hp_18
      clear hro_18
      dsimp only [Option.toList_some, Option.toList_none, List.cons_append, List.nil_append]
      refine g_if_eq 26 d_Mod_set_21 (by decide) (fun c_21 => ?_) (fun c_21 => ?_)
      · first | refine g_aload_n d_Mod_set_26 rfl ?_ | refine g_aload_nq d_Mod_set_26 rfl ?_
        first | refine fgs_Mod_memory lf_Mod_32 d_Mod_set_27 (by first | (simp only [hK_sI, hK_sR, hK_sA, hK_sQ, hK_sL, hK_fillA]; assumption) | assumption) (by first | (simp only [hR_sI, hR_sA, hR_sQ, hR_sL, hR_fillA]; assumption) | assumption) ?_ | refine fg_Mod_memory lf_Mod_32 d_Mod_set_27 (by first | (simp only [hK_sI, hK_sR, hK_sA, hK_sQ, hK_sL, hK_fillA]; assumption) | assumption) ?_
        refine g_iload_n d_Mod_set_30 rfl ?_
        refine g_iload_n d_Mod_set_31 rfl ?_
        refine g_iast (by simp only [hK_sI]; assumption) (by rw [hN_sI, nk]; exact vin_le hi c_6 c_14) d_Mod_set_32 ?_
        refine g_iconst 1 d_Mod_set_33 (by decide) ?_
        have ok : (¬ k < 0 ∧ ¬ hI h 710 x ≤ k ∧ ¬ (hI h 715 x = 1 ∨ hI h 715 x = 4)) := by simp_all [bI_e0, hI_sI]
        exact Go.ret (some _) rOk_b1 rfl d_Mod_set_34 ⟨by rw [bI_t ok], by rw [if_pos ok]⟩
      · refine g_iconst 0 d_Mod_set_24 (by decide) ?_
        refine Go.ret (some _) (by first | exact rOk_bI _ | exact rOk_b0 | exact rOk_b1) rfl d_Mod_set_25 ?_
        have no : ¬ (¬ k < 0 ∧ ¬ hI h 710 x ≤ k ∧ ¬ (hI h 715 x = 1 ∨ hI h 715 x = 4)) := by
          intro q
          simp_all [bI_e0, hI_sI]
        rw [bI_f no, if_neg no]
        exact ⟨rfl, rfl⟩
abbrev mi_Mod_cached : MI := (⟨"WarpMillModel", "cached", "(II)I"⟩, prog_13_method_66_code, 3, some .int, 0, 0)
def it_Mod_cached_0 : List (Nat × ClassFile.Instr × Nat) := [(0, .aload_n 0, 1), (1, .iconst 0, 1), (2, .putfield 120, 3), (5, .iload_n 1, 1), (6, .ifCond .lt (20), 3), (9, .iload_n 1, 1), (10, .aload_n 0, 1), (11, .getfield 22, 3), (14, .if_icmp .ge (12), 3), (17, .iload_n 2, 1), (18, .ifCond .lt (8), 3), (21, .iload_n 2, 1), (22, .iconst 4, 1), (23, .if_icmp .le (5), 3), (26, .iconst (-1), 1), (27, .ireturn, 1), (28, .iload_n 2, 1), (29, .iconst 4, 1), (30, .if_icmp .ne (12), 3), (33, .aload_n 0, 1), (34, .getfield 39, 3), (37, .iload_n 1, 1), (38, .iaload, 1), (39, .goto (13), 3)]
theorem id_Mod_cached_0 : ∀ q ∈ it_Mod_cached_0, decode prog_13_method_66_code q.1 = .ok q.2 := by decide +kernel
theorem d_Mod_cached_0 : decode prog_13_method_66_code 0 = .ok (.aload_n 0, 1) := id_Mod_cached_0 (0, .aload_n 0, 1) (List.mem_of_getElem? (i := 0) rfl)
theorem d_Mod_cached_1 : decode prog_13_method_66_code 1 = .ok (.iconst 0, 1) := id_Mod_cached_0 (1, .iconst 0, 1) (List.mem_of_getElem? (i := 1) rfl)
theorem d_Mod_cached_2 : decode prog_13_method_66_code 2 = .ok (.putfield 120, 3) := id_Mod_cached_0 (2, .putfield 120, 3) (List.mem_of_getElem? (i := 2) rfl)
theorem d_Mod_cached_5 : decode prog_13_method_66_code 5 = .ok (.iload_n 1, 1) := id_Mod_cached_0 (5, .iload_n 1, 1) (List.mem_of_getElem? (i := 3) rfl)
theorem d_Mod_cached_6 : decode prog_13_method_66_code 6 = .ok (.ifCond .lt (20), 3) := id_Mod_cached_0 (6, .ifCond .lt (20), 3) (List.mem_of_getElem? (i := 4) rfl)
theorem d_Mod_cached_9 : decode prog_13_method_66_code 9 = .ok (.iload_n 1, 1) := id_Mod_cached_0 (9, .iload_n 1, 1) (List.mem_of_getElem? (i := 5) rfl)
theorem d_Mod_cached_10 : decode prog_13_method_66_code 10 = .ok (.aload_n 0, 1) := id_Mod_cached_0 (10, .aload_n 0, 1) (List.mem_of_getElem? (i := 6) rfl)
theorem d_Mod_cached_11 : decode prog_13_method_66_code 11 = .ok (.getfield 22, 3) := id_Mod_cached_0 (11, .getfield 22, 3) (List.mem_of_getElem? (i := 7) rfl)
theorem d_Mod_cached_14 : decode prog_13_method_66_code 14 = .ok (.if_icmp .ge (12), 3) := id_Mod_cached_0 (14, .if_icmp .ge (12), 3) (List.mem_of_getElem? (i := 8) rfl)
theorem d_Mod_cached_17 : decode prog_13_method_66_code 17 = .ok (.iload_n 2, 1) := id_Mod_cached_0 (17, .iload_n 2, 1) (List.mem_of_getElem? (i := 9) rfl)
theorem d_Mod_cached_18 : decode prog_13_method_66_code 18 = .ok (.ifCond .lt (8), 3) := id_Mod_cached_0 (18, .ifCond .lt (8), 3) (List.mem_of_getElem? (i := 10) rfl)
theorem d_Mod_cached_21 : decode prog_13_method_66_code 21 = .ok (.iload_n 2, 1) := id_Mod_cached_0 (21, .iload_n 2, 1) (List.mem_of_getElem? (i := 11) rfl)
theorem d_Mod_cached_22 : decode prog_13_method_66_code 22 = .ok (.iconst 4, 1) := id_Mod_cached_0 (22, .iconst 4, 1) (List.mem_of_getElem? (i := 12) rfl)
theorem d_Mod_cached_23 : decode prog_13_method_66_code 23 = .ok (.if_icmp .le (5), 3) := id_Mod_cached_0 (23, .if_icmp .le (5), 3) (List.mem_of_getElem? (i := 13) rfl)
theorem d_Mod_cached_26 : decode prog_13_method_66_code 26 = .ok (.iconst (-1), 1) := id_Mod_cached_0 (26, .iconst (-1), 1) (List.mem_of_getElem? (i := 14) rfl)
theorem d_Mod_cached_27 : decode prog_13_method_66_code 27 = .ok (.ireturn, 1) := id_Mod_cached_0 (27, .ireturn, 1) (List.mem_of_getElem? (i := 15) rfl)
theorem d_Mod_cached_28 : decode prog_13_method_66_code 28 = .ok (.iload_n 2, 1) := id_Mod_cached_0 (28, .iload_n 2, 1) (List.mem_of_getElem? (i := 16) rfl)
theorem d_Mod_cached_29 : decode prog_13_method_66_code 29 = .ok (.iconst 4, 1) := id_Mod_cached_0 (29, .iconst 4, 1) (List.mem_of_getElem? (i := 17) rfl)
theorem d_Mod_cached_30 : decode prog_13_method_66_code 30 = .ok (.if_icmp .ne (12), 3) := id_Mod_cached_0 (30, .if_icmp .ne (12), 3) (List.mem_of_getElem? (i := 18) rfl)
theorem d_Mod_cached_33 : decode prog_13_method_66_code 33 = .ok (.aload_n 0, 1) := id_Mod_cached_0 (33, .aload_n 0, 1) (List.mem_of_getElem? (i := 19) rfl)
theorem d_Mod_cached_34 : decode prog_13_method_66_code 34 = .ok (.getfield 39, 3) := id_Mod_cached_0 (34, .getfield 39, 3) (List.mem_of_getElem? (i := 20) rfl)
theorem d_Mod_cached_37 : decode prog_13_method_66_code 37 = .ok (.iload_n 1, 1) := id_Mod_cached_0 (37, .iload_n 1, 1) (List.mem_of_getElem? (i := 21) rfl)
theorem d_Mod_cached_38 : decode prog_13_method_66_code 38 = .ok (.iaload, 1) := id_Mod_cached_0 (38, .iaload, 1) (List.mem_of_getElem? (i := 22) rfl)
theorem d_Mod_cached_39 : decode prog_13_method_66_code 39 = .ok (.goto (13), 3) := id_Mod_cached_0 (39, .goto (13), 3) (List.mem_of_getElem? (i := 23) rfl)
def it_Mod_cached_1 : List (Nat × ClassFile.Instr × Nat) := [(42, .aload_n 0, 1), (43, .getfield 36, 3), (46, .iconst 4, 1), (47, .iload_n 1, 1), (48, .imul, 1), (49, .iload_n 2, 1), (50, .iadd, 1), (51, .iaload, 1), (52, .ireturn, 1)]
theorem id_Mod_cached_1 : ∀ q ∈ it_Mod_cached_1, decode prog_13_method_66_code q.1 = .ok q.2 := by decide +kernel
theorem d_Mod_cached_42 : decode prog_13_method_66_code 42 = .ok (.aload_n 0, 1) := id_Mod_cached_1 (42, .aload_n 0, 1) (List.mem_of_getElem? (i := 0) rfl)
theorem d_Mod_cached_43 : decode prog_13_method_66_code 43 = .ok (.getfield 36, 3) := id_Mod_cached_1 (43, .getfield 36, 3) (List.mem_of_getElem? (i := 1) rfl)
theorem d_Mod_cached_46 : decode prog_13_method_66_code 46 = .ok (.iconst 4, 1) := id_Mod_cached_1 (46, .iconst 4, 1) (List.mem_of_getElem? (i := 2) rfl)
theorem d_Mod_cached_47 : decode prog_13_method_66_code 47 = .ok (.iload_n 1, 1) := id_Mod_cached_1 (47, .iload_n 1, 1) (List.mem_of_getElem? (i := 3) rfl)
theorem d_Mod_cached_48 : decode prog_13_method_66_code 48 = .ok (.imul, 1) := id_Mod_cached_1 (48, .imul, 1) (List.mem_of_getElem? (i := 4) rfl)
theorem d_Mod_cached_49 : decode prog_13_method_66_code 49 = .ok (.iload_n 2, 1) := id_Mod_cached_1 (49, .iload_n 2, 1) (List.mem_of_getElem? (i := 5) rfl)
theorem d_Mod_cached_50 : decode prog_13_method_66_code 50 = .ok (.iadd, 1) := id_Mod_cached_1 (50, .iadd, 1) (List.mem_of_getElem? (i := 6) rfl)
theorem d_Mod_cached_51 : decode prog_13_method_66_code 51 = .ok (.iaload, 1) := id_Mod_cached_1 (51, .iaload, 1) (List.mem_of_getElem? (i := 7) rfl)
theorem d_Mod_cached_52 : decode prog_13_method_66_code 52 = .ok (.ireturn, 1) := id_Mod_cached_1 (52, .ireturn, 1) (List.mem_of_getElem? (i := 8) rfl)
theorem wC_Mod_cached : Cond.code ⟨"WarpMillModel", "cached", "(II)I"⟩ prog_13_method_66_code 3 (some .int) ∈ lw_tb := mem_tb 1486 (by decide +kernel) rfl
set_option maxRecDepth 100000 in
set_option maxHeartbeats 4000000 in
theorem sp_Mod_cached {G : Gl} {h : Hp} (x ga ca : Nat) (g p : Int32) (hx : hK h x = 12) (hg : hR h 714 x = some ga) (kg : hK h ga = 100) (ng : hN h ga = 8) (hc : hR h 713 x = some ca) (kc : hK h ca = 100) (nc : hN h ca = 32) (hi : (hI h 709 x).toInt ≤ 8) : Ex G mi_Mod_cached [.ref x, .int g, .int p] h (fun r h' => r = some (.int (if g < 0 ∨ hI h 709 x ≤ g ∨ p < 0 ∨ 4 < p then -1 else if p = 4 then hA h ga g.toNatClampNeg else hA h ca (4 * g + p).toNatClampNeg)) ∧ h' = sI h 704 x 0) := by
  refine Ex.of (by decide) (Nat.le_of_ble_eq_true rfl) ?_
  show Go G mi_Mod_cached h _ h 0 [(0, .ref x), (1, .int g), (2, .int p)] []
  first | refine g_aload_n d_Mod_cached_0 rfl ?_ | refine g_aload_nq d_Mod_cached_0 rfl ?_
  refine g_iconst 0 d_Mod_cached_1 (by decide) ?_
  refine fp_Mod_thrown lf_Mod_120 d_Mod_cached_2 (by first | (simp only [hK_sI, hK_sR, hK_sA, hK_sQ, hK_sL, hK_fillA]; assumption) | assumption) ?_
  refine g_iload_n d_Mod_cached_5 rfl ?_
  refine g_if_lt 26 d_Mod_cached_6 (by decide) (fun c_6 => ?_) (fun c_6 => ?_)
  · refine g_iconst (-1) d_Mod_cached_26 (by decide) ?_
    refine Go.ret (some _) (rOk_i _) rfl d_Mod_cached_27 ?_
    refine ⟨?_, rfl⟩
    simp_all [hA_sI, -Int32.not_lt, -Int32.not_le, ← Int32.not_lt]
  · refine g_iload_n d_Mod_cached_9 rfl ?_
    first | refine g_aload_n d_Mod_cached_10 rfl ?_ | refine g_aload_nq d_Mod_cached_10 rfl ?_
    refine fgv_Mod_gates (hI h 709 x) lf_Mod_22 d_Mod_cached_11 (by first | (simp only [hK_sI, hK_sR, hK_sA, hK_sQ, hK_sL, hK_fillA]; assumption) | assumption) (by simp [hI_sI]) ?_
    refine g_icmp_ge 26 d_Mod_cached_14 (by decide) (fun c_14 => ?_) (fun c_14 => ?_)
    · refine g_iconst (-1) d_Mod_cached_26 (by decide) ?_
      refine Go.ret (some _) (rOk_i _) rfl d_Mod_cached_27 ?_
      refine ⟨?_, rfl⟩
      simp_all [hA_sI, -Int32.not_lt, -Int32.not_le, ← Int32.not_lt]
    · refine g_iload_n d_Mod_cached_17 rfl ?_
      refine g_if_lt 26 d_Mod_cached_18 (by decide) (fun c_18 => ?_) (fun c_18 => ?_)
      · refine g_iconst (-1) d_Mod_cached_26 (by decide) ?_
        refine Go.ret (some _) (rOk_i _) rfl d_Mod_cached_27 ?_
        refine ⟨?_, rfl⟩
        simp_all [hA_sI, -Int32.not_lt, -Int32.not_le, ← Int32.not_lt]
      · refine g_iload_n d_Mod_cached_21 rfl ?_
        refine g_iconst 4 d_Mod_cached_22 (by decide) ?_
        refine g_icmp_le 28 d_Mod_cached_23 (by decide) (fun c_23 => ?_) (fun c_23 => ?_)
        · refine g_iload_n d_Mod_cached_28 rfl ?_
          refine g_iconst 4 d_Mod_cached_29 (by decide) ?_
          refine g_icmp_ne 42 d_Mod_cached_30 (by decide) (fun c_30 => ?_) (fun c_30 => ?_)
          · first | refine g_aload_n d_Mod_cached_42 rfl ?_ | refine g_aload_nq d_Mod_cached_42 rfl ?_
            first | refine fgs_Mod_cache lf_Mod_36 d_Mod_cached_43 (by first | (simp only [hK_sI, hK_sR, hK_sA, hK_sQ, hK_sL, hK_fillA]; assumption) | assumption) (by first | (simp only [hR_sI, hR_sA, hR_sQ, hR_sL, hR_fillA]; assumption) | assumption) ?_ | refine fg_Mod_cache lf_Mod_36 d_Mod_cached_43 (by first | (simp only [hK_sI, hK_sR, hK_sA, hK_sQ, hK_sL, hK_fillA]; assumption) | assumption) ?_
            refine g_iconst 4 d_Mod_cached_46 (by decide) ?_
            refine g_iload_n d_Mod_cached_47 rfl ?_
            refine g_imul d_Mod_cached_48 ?_
            refine g_iload_n d_Mod_cached_49 rfl ?_
            refine g_iadd d_Mod_cached_50 ?_
            refine g_iald (by simp only [hK_sI]; assumption) (by rw [hN_sI, nc]; exact vin_gp (vin_le hi c_6 c_14) c_18 c_23 c_30) d_Mod_cached_51 ?_
            refine Go.ret (some _) (rOk_i _) rfl d_Mod_cached_52 ?_
            refine ⟨?_, rfl⟩
            simp_all [hA_sI, -Int32.not_lt, -Int32.not_le, ← Int32.not_lt]
          · first | refine g_aload_n d_Mod_cached_33 rfl ?_ | refine g_aload_nq d_Mod_cached_33 rfl ?_
            first | refine fgs_Mod_gateTick lf_Mod_39 d_Mod_cached_34 (by first | (simp only [hK_sI, hK_sR, hK_sA, hK_sQ, hK_sL, hK_fillA]; assumption) | assumption) (by first | (simp only [hR_sI, hR_sA, hR_sQ, hR_sL, hR_fillA]; assumption) | assumption) ?_ | refine fg_Mod_gateTick lf_Mod_39 d_Mod_cached_34 (by first | (simp only [hK_sI, hK_sR, hK_sA, hK_sQ, hK_sL, hK_fillA]; assumption) | assumption) ?_
            refine g_iload_n d_Mod_cached_37 rfl ?_
            refine g_iald (by simp only [hK_sI]; assumption) (by rw [hN_sI, ng]; exact vin_le hi c_6 c_14) d_Mod_cached_38 ?_
            refine g_goto 52 d_Mod_cached_39 (by decide) ?_
            refine Go.ret (some _) (rOk_i _) rfl d_Mod_cached_52 ?_
            refine ⟨?_, rfl⟩
            simp_all [hA_sI, -Int32.not_lt, -Int32.not_le, ← Int32.not_lt]
        · refine g_iconst (-1) d_Mod_cached_26 (by decide) ?_
          refine Go.ret (some _) (rOk_i _) rfl d_Mod_cached_27 ?_
          refine ⟨?_, rfl⟩
          simp_all [hA_sI, -Int32.not_lt, -Int32.not_le, ← Int32.not_lt]
