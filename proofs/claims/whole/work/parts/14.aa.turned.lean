abbrev mi_Sizes_init : MI := (⟨"WarpMill$Sizes", "<init>", "()V"⟩, prog_7_method_1_code, 1, none, 1, 21)
def it_Sizes_init_0 : List (Nat × ClassFile.Instr × Nat) := [(0, .aload_n 0, 1), (1, .invokespecial 3, 3), (4, .aload_n 0, 1), (5, .iconst 4, 1), (6, .putfield 9, 3), (9, .aload_n 0, 1), (10, .iconst 4, 1), (11, .putfield 15, 3), (14, .aload_n 0, 1), (15, .iconst 2, 1), (16, .putfield 18, 3), (19, .aload_n 0, 1), (20, .iconst 4, 1), (21, .putfield 21, 3), (24, .aload_n 0, 1), (25, .iconst 2, 1), (26, .putfield 24, 3), (29, .aload_n 0, 1), (30, .sipush (512), 3), (33, .putfield 27, 3), (36, .return_, 1)]
theorem id_Sizes_init_0 : ∀ q ∈ it_Sizes_init_0, decode prog_7_method_1_code q.1 = .ok q.2 := by decide +kernel
theorem d_Sizes_init_0 : decode prog_7_method_1_code 0 = .ok (.aload_n 0, 1) := id_Sizes_init_0 (0, .aload_n 0, 1) (List.mem_of_getElem? (i := 0) rfl)
theorem d_Sizes_init_1 : decode prog_7_method_1_code 1 = .ok (.invokespecial 3, 3) := id_Sizes_init_0 (1, .invokespecial 3, 3) (List.mem_of_getElem? (i := 1) rfl)
theorem d_Sizes_init_4 : decode prog_7_method_1_code 4 = .ok (.aload_n 0, 1) := id_Sizes_init_0 (4, .aload_n 0, 1) (List.mem_of_getElem? (i := 2) rfl)
theorem d_Sizes_init_5 : decode prog_7_method_1_code 5 = .ok (.iconst 4, 1) := id_Sizes_init_0 (5, .iconst 4, 1) (List.mem_of_getElem? (i := 3) rfl)
theorem d_Sizes_init_6 : decode prog_7_method_1_code 6 = .ok (.putfield 9, 3) := id_Sizes_init_0 (6, .putfield 9, 3) (List.mem_of_getElem? (i := 4) rfl)
theorem d_Sizes_init_9 : decode prog_7_method_1_code 9 = .ok (.aload_n 0, 1) := id_Sizes_init_0 (9, .aload_n 0, 1) (List.mem_of_getElem? (i := 5) rfl)
theorem d_Sizes_init_10 : decode prog_7_method_1_code 10 = .ok (.iconst 4, 1) := id_Sizes_init_0 (10, .iconst 4, 1) (List.mem_of_getElem? (i := 6) rfl)
theorem d_Sizes_init_11 : decode prog_7_method_1_code 11 = .ok (.putfield 15, 3) := id_Sizes_init_0 (11, .putfield 15, 3) (List.mem_of_getElem? (i := 7) rfl)
theorem d_Sizes_init_14 : decode prog_7_method_1_code 14 = .ok (.aload_n 0, 1) := id_Sizes_init_0 (14, .aload_n 0, 1) (List.mem_of_getElem? (i := 8) rfl)
theorem d_Sizes_init_15 : decode prog_7_method_1_code 15 = .ok (.iconst 2, 1) := id_Sizes_init_0 (15, .iconst 2, 1) (List.mem_of_getElem? (i := 9) rfl)
theorem d_Sizes_init_16 : decode prog_7_method_1_code 16 = .ok (.putfield 18, 3) := id_Sizes_init_0 (16, .putfield 18, 3) (List.mem_of_getElem? (i := 10) rfl)
theorem d_Sizes_init_19 : decode prog_7_method_1_code 19 = .ok (.aload_n 0, 1) := id_Sizes_init_0 (19, .aload_n 0, 1) (List.mem_of_getElem? (i := 11) rfl)
theorem d_Sizes_init_20 : decode prog_7_method_1_code 20 = .ok (.iconst 4, 1) := id_Sizes_init_0 (20, .iconst 4, 1) (List.mem_of_getElem? (i := 12) rfl)
theorem d_Sizes_init_21 : decode prog_7_method_1_code 21 = .ok (.putfield 21, 3) := id_Sizes_init_0 (21, .putfield 21, 3) (List.mem_of_getElem? (i := 13) rfl)
theorem d_Sizes_init_24 : decode prog_7_method_1_code 24 = .ok (.aload_n 0, 1) := id_Sizes_init_0 (24, .aload_n 0, 1) (List.mem_of_getElem? (i := 14) rfl)
theorem d_Sizes_init_25 : decode prog_7_method_1_code 25 = .ok (.iconst 2, 1) := id_Sizes_init_0 (25, .iconst 2, 1) (List.mem_of_getElem? (i := 15) rfl)
theorem d_Sizes_init_26 : decode prog_7_method_1_code 26 = .ok (.putfield 24, 3) := id_Sizes_init_0 (26, .putfield 24, 3) (List.mem_of_getElem? (i := 16) rfl)
theorem d_Sizes_init_29 : decode prog_7_method_1_code 29 = .ok (.aload_n 0, 1) := id_Sizes_init_0 (29, .aload_n 0, 1) (List.mem_of_getElem? (i := 17) rfl)
theorem d_Sizes_init_30 : decode prog_7_method_1_code 30 = .ok (.sipush (512), 3) := id_Sizes_init_0 (30, .sipush (512), 3) (List.mem_of_getElem? (i := 18) rfl)
theorem d_Sizes_init_33 : decode prog_7_method_1_code 33 = .ok (.putfield 27, 3) := id_Sizes_init_0 (33, .putfield 27, 3) (List.mem_of_getElem? (i := 19) rfl)
theorem d_Sizes_init_36 : decode prog_7_method_1_code 36 = .ok (.return_, 1) := id_Sizes_init_0 (36, .return_, 1) (List.mem_of_getElem? (i := 20) rfl)
theorem wC_Sizes_init : Cond.code ⟨"WarpMill$Sizes", "<init>", "()V"⟩ prog_7_method_1_code 1 (none) ∈ lw_tb := mem_tb 106 (by decide +kernel) rfl
def f_Sizes_init (F : Nat) (x0 : Nat) (h : Hp) : Option Hp := gd (hK h x0 = 2) <| pw (sI h 64 x0 (4 : Int32)) fun h_6_2 => pw (sI h_6_2 65 x0 (4 : Int32)) fun h_11 => pw (sI h_11 66 x0 (2 : Int32)) fun h_16 => pw (sI h_16 67 x0 (4 : Int32)) fun h_21 => pw (sI h_21 68 x0 (2 : Int32)) fun h_26 => pw (sI h_26 69 x0 (512 : Int32)) fun h_33 => some h_33
set_option maxRecDepth 100000 in
set_option maxHeartbeats 4000000 in
theorem e_Sizes_init {G : Gl} (hw : gF G) {F : Nat} {h' : Hp} {x0 : Nat} {h : Hp} (hf : f_Sizes_init F x0 h = some h') : Ex G mi_Sizes_init [.ref x0] h (pV h') := by
  unfold f_Sizes_init at hf
  refine Ex.of nmV (by decide) (Nat.le_of_ble_eq_true rfl) ?_
  show Go G mi_Sizes_init h _ h 0 [(0, .ref x0)] []
  refine g_aload_n d_Sizes_init_0 rfl ?_
  refine g_objInit lm_Sizes_3 wI_Object_init wC_obj (Nat.le_of_ble_eq_true rfl) (Nat.le_of_ble_eq_true rfl) d_Sizes_init_1 ?_
  refine g_aload_n d_Sizes_init_4 rfl ?_
  refine g_iconst 4 d_Sizes_init_5 (by decide) ?_
  obtain ⟨k_6, hf⟩ := gd_s hf
  refine fp_Sizes_lanes hw lf_Sizes_9 d_Sizes_init_6 k_6 ?_
  have hf := pw_b hf
  refine g_aload_n d_Sizes_init_9 rfl ?_
  refine g_iconst 4 d_Sizes_init_10 (by decide) ?_
  refine fp_Sizes_slots hw lf_Sizes_15 d_Sizes_init_11 (kksI k_6) ?_
  have hf := pw_b hf
  refine g_aload_n d_Sizes_init_14 rfl ?_
  refine g_iconst 2 d_Sizes_init_15 (by decide) ?_
  refine fp_Sizes_units hw lf_Sizes_18 d_Sizes_init_16 (kksI (kksI k_6)) ?_
  have hf := pw_b hf
  refine g_aload_n d_Sizes_init_19 rfl ?_
  refine g_iconst 4 d_Sizes_init_20 (by decide) ?_
  refine fp_Sizes_banks hw lf_Sizes_21 d_Sizes_init_21 (kksI (kksI (kksI k_6))) ?_
  have hf := pw_b hf
  refine g_aload_n d_Sizes_init_24 rfl ?_
  refine g_iconst 2 d_Sizes_init_25 (by decide) ?_
  refine fp_Sizes_gates hw lf_Sizes_24 d_Sizes_init_26 (kksI (kksI (kksI (kksI k_6)))) ?_
  have hf := pw_b hf
  refine g_aload_n d_Sizes_init_29 rfl ?_
  refine g_sipush (512) d_Sizes_init_30 (by decide) ?_
  refine fp_Sizes_ints hw lf_Sizes_27 d_Sizes_init_33 (kksI (kksI (kksI (kksI (kksI k_6))))) ?_
  have hf := pw_b hf
  exact Go.ret none trivial rfl d_Sizes_init_36 (pV_of hf)
abbrev mi_Arrays_fill : MI := (⟨"java/util/Arrays", "fill", "([II)V"⟩, prog_22_method_103_code, 4, none, 0, 0)
def it_Arrays_fill_0 : List (Nat × ClassFile.Instr × Nat) := [(0, .iconst 0, 1), (1, .istore_n 2, 1), (2, .aload_n 0, 1), (3, .arraylength, 1), (4, .istore_n 3, 1), (5, .iload_n 2, 1), (6, .iload_n 3, 1), (7, .if_icmp .ge (13), 3), (10, .aload_n 0, 1), (11, .iload_n 2, 1), (12, .iload_n 1, 1), (13, .iastore, 1), (14, .iinc 2 (1), 3), (17, .goto (-12), 3), (20, .return_, 1)]
theorem id_Arrays_fill_0 : ∀ q ∈ it_Arrays_fill_0, decode prog_22_method_103_code q.1 = .ok q.2 := by decide +kernel
theorem d_Arrays_fill_0 : decode prog_22_method_103_code 0 = .ok (.iconst 0, 1) := id_Arrays_fill_0 (0, .iconst 0, 1) (List.mem_of_getElem? (i := 0) rfl)
theorem d_Arrays_fill_1 : decode prog_22_method_103_code 1 = .ok (.istore_n 2, 1) := id_Arrays_fill_0 (1, .istore_n 2, 1) (List.mem_of_getElem? (i := 1) rfl)
theorem d_Arrays_fill_2 : decode prog_22_method_103_code 2 = .ok (.aload_n 0, 1) := id_Arrays_fill_0 (2, .aload_n 0, 1) (List.mem_of_getElem? (i := 2) rfl)
theorem d_Arrays_fill_3 : decode prog_22_method_103_code 3 = .ok (.arraylength, 1) := id_Arrays_fill_0 (3, .arraylength, 1) (List.mem_of_getElem? (i := 3) rfl)
theorem d_Arrays_fill_4 : decode prog_22_method_103_code 4 = .ok (.istore_n 3, 1) := id_Arrays_fill_0 (4, .istore_n 3, 1) (List.mem_of_getElem? (i := 4) rfl)
theorem d_Arrays_fill_5 : decode prog_22_method_103_code 5 = .ok (.iload_n 2, 1) := id_Arrays_fill_0 (5, .iload_n 2, 1) (List.mem_of_getElem? (i := 5) rfl)
theorem d_Arrays_fill_6 : decode prog_22_method_103_code 6 = .ok (.iload_n 3, 1) := id_Arrays_fill_0 (6, .iload_n 3, 1) (List.mem_of_getElem? (i := 6) rfl)
theorem d_Arrays_fill_7 : decode prog_22_method_103_code 7 = .ok (.if_icmp .ge (13), 3) := id_Arrays_fill_0 (7, .if_icmp .ge (13), 3) (List.mem_of_getElem? (i := 7) rfl)
theorem d_Arrays_fill_10 : decode prog_22_method_103_code 10 = .ok (.aload_n 0, 1) := id_Arrays_fill_0 (10, .aload_n 0, 1) (List.mem_of_getElem? (i := 8) rfl)
theorem d_Arrays_fill_11 : decode prog_22_method_103_code 11 = .ok (.iload_n 2, 1) := id_Arrays_fill_0 (11, .iload_n 2, 1) (List.mem_of_getElem? (i := 9) rfl)
theorem d_Arrays_fill_12 : decode prog_22_method_103_code 12 = .ok (.iload_n 1, 1) := id_Arrays_fill_0 (12, .iload_n 1, 1) (List.mem_of_getElem? (i := 10) rfl)
theorem d_Arrays_fill_13 : decode prog_22_method_103_code 13 = .ok (.iastore, 1) := id_Arrays_fill_0 (13, .iastore, 1) (List.mem_of_getElem? (i := 11) rfl)
theorem d_Arrays_fill_14 : decode prog_22_method_103_code 14 = .ok (.iinc 2 (1), 3) := id_Arrays_fill_0 (14, .iinc 2 (1), 3) (List.mem_of_getElem? (i := 12) rfl)
theorem d_Arrays_fill_17 : decode prog_22_method_103_code 17 = .ok (.goto (-12), 3) := id_Arrays_fill_0 (17, .goto (-12), 3) (List.mem_of_getElem? (i := 13) rfl)
theorem d_Arrays_fill_20 : decode prog_22_method_103_code 20 = .ok (.return_, 1) := id_Arrays_fill_0 (20, .return_, 1) (List.mem_of_getElem? (i := 14) rfl)
theorem wC_Arrays_fill : Cond.code ⟨"java/util/Arrays", "fill", "([II)V"⟩ prog_22_method_103_code 4 (none) ∈ lw_tb := mem_tb 149 (by decide +kernel) rfl
def b_Arrays_fill_5 (F : Nat) : Nat → Nat → Int32 → Int32 → Int32 → Hp → Option Hp
  | 0 => fun _ _ _ _ _ => none
  | n + 1 => fun x0 x1 x2 x3 h => if x3 ≤ x2 then (some h) else (gd (hK h x0 = 100) <| ix x2 (hN h x0) fun j_13_2 => pw (sA h x0 j_13_2 x1) fun h_13_3 => b_Arrays_fill_5 F n x0 x1 (x2 + 1) x3 h_13_3)
set_option maxRecDepth 100000 in
set_option maxHeartbeats 4000000 in
theorem e_Arrays_fill_5 {G : Gl} (hw : gF G) {h0 : Hp} {F : Nat} {h' : Hp}   : ∀ (n : Nat) (x0 : Nat) (x1 : Int32) (x2 : Int32) (x3 : Int32) (h : Hp), b_Arrays_fill_5 F n x0 x1 x2 x3 h = some h' → Go G mi_Arrays_fill h0 (pV h') h 5 [(0, .ref x0), (1, .int x1), (2, .int x2), (3, .int x3)] [] := by
  intro n
  induction n with
  | zero =>
    intro _ _ _ _ _ hf
    exact nm_s hf
  | succ n ih =>
    intro x0 x1 x2 x3 h hf
    unfold b_Arrays_fill_5 at hf
    refine g_iload_n d_Arrays_fill_5 rfl ?_
    refine g_iload_n d_Arrays_fill_6 rfl ?_
    refine g_icmp_ge 20 d_Arrays_fill_7 (by decide) (fun c_7 => ?_) (fun c_7 => ?_)
    · have hf := ifp hf c_7
      exact Go.ret none trivial rfl d_Arrays_fill_20 (pV_of hf)
    · have hf := ifn hf c_7
      refine g_aload_n d_Arrays_fill_10 rfl ?_
      refine g_iload_n d_Arrays_fill_11 rfl ?_
      refine g_iload_n d_Arrays_fill_12 rfl ?_
      obtain ⟨k_13, hf⟩ := gd_s hf
      obtain ⟨i_13_2, hf⟩ := ix_s hf
      refine g_iast hw k_13 i_13_2 d_Arrays_fill_13 ?_
      have hf := pw_b hf
      refine g_iinc (_ + 1) d_Arrays_fill_14 rfl (by rfl) (by decide) ?_
      show Go _ _ _ _ _ _ [(0, _), (1, _), (2, _), (3, _)] _
      refine g_goto 5 d_Arrays_fill_17 (by decide) ?_
      exact ih _ _ _ _ _ hf
def f_Arrays_fill (F : Nat) (x0 : Option Nat) (x1 : Int32) (h : Hp) : Option Hp := rq h x0 100 fun a_3 => b_Arrays_fill_5 F F a_3 x1 (0 : Int32) (nI (hN h a_3)) h
set_option maxRecDepth 100000 in
set_option maxHeartbeats 4000000 in
theorem e_Arrays_fill {G : Gl} (hw : gF G) {F : Nat} {h' : Hp} {x0 : Option Nat} {x1 : Int32} {h : Hp} (hf : f_Arrays_fill F x0 x1 h = some h') : Ex G mi_Arrays_fill [va_rf x0, .int x1] h (pV h') := by
  unfold f_Arrays_fill at hf
  refine Ex.ofF nmV (by decide +kernel) (by cases x0 <;> exact Nat.le_of_ble_eq_true rfl) ?_
  rw [show lv_args 0 [va_rf x0, .int x1] = [(0, va_rf x0), (1, .int x1)] from by cases x0 <;> rfl]
  show Go G mi_Arrays_fill h _ h 0 [(0, va_rf x0), (1, .int x1)] []
  refine g_iconst 0 d_Arrays_fill_0 (by decide) ?_
  refine g_istore_n d_Arrays_fill_1 (by decide) ?_
  show Go _ _ _ _ _ _ [(0, _), (1, _), (2, _)] _
  refine g_aload_nq (r := x0) d_Arrays_fill_2 rfl ?_
  obtain ⟨a_3, rfl, k_3, hf⟩ := rq_s hf
  refine g_alen k_3 (by decide) rfl d_Arrays_fill_3 ?_
  refine g_istore_n d_Arrays_fill_4 (by decide) ?_
  show Go _ _ _ _ _ _ [(0, _), (1, _), (2, _), (3, _)] _
  have key := e_Arrays_fill_5 hw (G := G) (h0 := h)  F _ _ _ _ _ hf
  exact key
abbrev mi_Cache_init : MI := (⟨"WarpMill$Cache", "<init>", "()V"⟩, prog_4_method_1_code, 1, none, 1, 23)
def it_Cache_init_0 : List (Nat × ClassFile.Instr × Nat) := [(0, .aload_n 0, 1), (1, .invokespecial 3, 3), (4, .aload_n 0, 1), (5, .bipush (32), 2), (7, .newarray .int, 2), (9, .putfield 9, 3), (12, .aload_n 0, 1), (13, .bipush (8), 2), (15, .newarray .int, 2), (17, .putfield 15, 3), (20, .aload_n 0, 1), (21, .getfield 9, 3), (24, .iconst (-1), 1), (25, .invokestatic 18, 3), (28, .return_, 1)]
theorem id_Cache_init_0 : ∀ q ∈ it_Cache_init_0, decode prog_4_method_1_code q.1 = .ok q.2 := by decide +kernel
theorem d_Cache_init_0 : decode prog_4_method_1_code 0 = .ok (.aload_n 0, 1) := id_Cache_init_0 (0, .aload_n 0, 1) (List.mem_of_getElem? (i := 0) rfl)
theorem d_Cache_init_1 : decode prog_4_method_1_code 1 = .ok (.invokespecial 3, 3) := id_Cache_init_0 (1, .invokespecial 3, 3) (List.mem_of_getElem? (i := 1) rfl)
theorem d_Cache_init_4 : decode prog_4_method_1_code 4 = .ok (.aload_n 0, 1) := id_Cache_init_0 (4, .aload_n 0, 1) (List.mem_of_getElem? (i := 2) rfl)
theorem d_Cache_init_5 : decode prog_4_method_1_code 5 = .ok (.bipush (32), 2) := id_Cache_init_0 (5, .bipush (32), 2) (List.mem_of_getElem? (i := 3) rfl)
theorem d_Cache_init_7 : decode prog_4_method_1_code 7 = .ok (.newarray .int, 2) := id_Cache_init_0 (7, .newarray .int, 2) (List.mem_of_getElem? (i := 4) rfl)
theorem d_Cache_init_9 : decode prog_4_method_1_code 9 = .ok (.putfield 9, 3) := id_Cache_init_0 (9, .putfield 9, 3) (List.mem_of_getElem? (i := 5) rfl)
theorem d_Cache_init_12 : decode prog_4_method_1_code 12 = .ok (.aload_n 0, 1) := id_Cache_init_0 (12, .aload_n 0, 1) (List.mem_of_getElem? (i := 6) rfl)
theorem d_Cache_init_13 : decode prog_4_method_1_code 13 = .ok (.bipush (8), 2) := id_Cache_init_0 (13, .bipush (8), 2) (List.mem_of_getElem? (i := 7) rfl)
theorem d_Cache_init_15 : decode prog_4_method_1_code 15 = .ok (.newarray .int, 2) := id_Cache_init_0 (15, .newarray .int, 2) (List.mem_of_getElem? (i := 8) rfl)
theorem d_Cache_init_17 : decode prog_4_method_1_code 17 = .ok (.putfield 15, 3) := id_Cache_init_0 (17, .putfield 15, 3) (List.mem_of_getElem? (i := 9) rfl)
theorem d_Cache_init_20 : decode prog_4_method_1_code 20 = .ok (.aload_n 0, 1) := id_Cache_init_0 (20, .aload_n 0, 1) (List.mem_of_getElem? (i := 10) rfl)
theorem d_Cache_init_21 : decode prog_4_method_1_code 21 = .ok (.getfield 9, 3) := id_Cache_init_0 (21, .getfield 9, 3) (List.mem_of_getElem? (i := 11) rfl)
theorem d_Cache_init_24 : decode prog_4_method_1_code 24 = .ok (.iconst (-1), 1) := id_Cache_init_0 (24, .iconst (-1), 1) (List.mem_of_getElem? (i := 12) rfl)
theorem d_Cache_init_25 : decode prog_4_method_1_code 25 = .ok (.invokestatic 18, 3) := id_Cache_init_0 (25, .invokestatic 18, 3) (List.mem_of_getElem? (i := 13) rfl)
theorem d_Cache_init_28 : decode prog_4_method_1_code 28 = .ok (.return_, 1) := id_Cache_init_0 (28, .return_, 1) (List.mem_of_getElem? (i := 14) rfl)
theorem wC_Cache_init : Cond.code ⟨"WarpMill$Cache", "<init>", "()V"⟩ prog_4_method_1_code 1 (none) ∈ lw_tb := mem_tb 145 (by decide +kernel) rfl
theorem cw_Cache_init_Arrays_fill : cW mi_Cache_init mi_Arrays_fill 2 := ⟨wC_Arrays_fill, wi_Arrays, ⟨by decide, by decide, by decide +kernel⟩, by decide, by decide⟩
def f_Cache_init (F : Nat) (x0 : Nat) (h : Hp) : Option Hp := pw (hT h) fun a_7 => pw (nw h 100 32 32) fun h_7_2 => gd (hK h_7_2 x0 = 4) <| pw (sR h_7_2 192 x0 (some a_7)) fun h_9_2 => pw (hT h_9_2) fun a_15 => pw (nw h_9_2 100 8 8) fun h_15_2 => gd (hK h_15_2 x0 = 4) <| pw (sR h_15_2 193 x0 (some a_15)) fun h_17_2 => rq h_17_2 (hR h_17_2 192 x0) 100 fun a_21 => clv (f_Arrays_fill F (some a_21) (-1 : Int32) h_17_2) fun h_25 => some h_25
set_option maxRecDepth 100000 in
set_option maxHeartbeats 4000000 in
theorem e_Cache_init {G : Gl} (hw : gF G) {F : Nat} {h' : Hp} {x0 : Nat} {h : Hp} (hf : f_Cache_init F x0 h = some h') : Ex G mi_Cache_init [.ref x0] h (pV h') := by
  unfold f_Cache_init at hf
  refine Ex.of nmV (by decide) (Nat.le_of_ble_eq_true rfl) ?_
  show Go G mi_Cache_init h _ h 0 [(0, .ref x0)] []
  refine g_aload_n d_Cache_init_0 rfl ?_
  refine g_objInit lm_Cache_3 wI_Object_init wC_obj (Nat.le_of_ble_eq_true rfl) (Nat.le_of_ble_eq_true rfl) d_Cache_init_1 ?_
  refine g_aload_n d_Cache_init_4 rfl ?_
  refine g_bipush (32) d_Cache_init_5 (by decide) ?_
  obtain ⟨a_7, e_7, hf⟩ := pw_s hf
  refine g_newai 32 (by decide) (by decide) (by decide) wA_int d_Cache_init_7 ?_
  refine Go.kn (fun k_7 => ?_)
  rw [← e_7] at k_7 ⊢
  have hf := pw_b hf
  obtain ⟨k_9, hf⟩ := gd_s hf
  refine fp_Cache_lines hw (some a_7) rfl lf_Cache_9 d_Cache_init_9 rfl rfl k_9 ?_
  have hf := pw_b hf
  refine g_aload_n d_Cache_init_12 rfl ?_
  refine g_bipush (8) d_Cache_init_13 (by decide) ?_
  obtain ⟨a_15, e_15, hf⟩ := pw_s hf
  refine g_newai 8 (by decide) (by decide) (by decide) wA_int d_Cache_init_15 ?_
  refine Go.kn (fun k_15 => ?_)
  rw [← e_15] at k_15 ⊢
  have hf := pw_b hf
  obtain ⟨k_17, hf⟩ := gd_s hf
  refine fp_Cache_ticks hw (some a_15) rfl lf_Cache_15 d_Cache_init_17 rfl rfl k_17 ?_
  have hf := pw_b hf
  refine g_aload_n d_Cache_init_20 rfl ?_
  obtain ⟨a_21, e_21, k_21, hf⟩ := rq_s hf
  refine fgs_Cache_lines lf_Cache_9 d_Cache_init_21 (kksR k_17) e_21 ?_
  refine g_iconst (-1) d_Cache_init_24 (by decide) ?_
  obtain ⟨h_25, e_25, hf⟩ := clv_s hf
  refine g_callS (mz := mi_Arrays_fill) (e_Arrays_fill hw e_25) cw_Cache_init_Arrays_fill lm_Cache_18 wS_Arrays_fill d_Cache_init_25 rfl rfl (by first | exact Nat.le_of_ble_eq_true rfl | simp [cat_rf, Value.category]) (fun r1 h1 hp hro => ?_)
  obtain ⟨rfl, rfl⟩ := hp
  dsimp only [Option.toList_some, Option.toList_none, List.cons_append, List.nil_append]
  exact Go.ret none trivial rfl d_Cache_init_28 (pV_of hf)
abbrev mi_Pending_init : MI := (⟨"WarpMill$Pending", "<init>", "()V"⟩, prog_6_method_1_code, 1, none, 1, 21)
def it_Pending_init_0 : List (Nat × ClassFile.Instr × Nat) := [(0, .aload_n 0, 1), (1, .invokespecial 1, 3), (4, .aload_n 0, 1), (5, .bipush (64), 2), (7, .anewarray 9, 3), (10, .putfield 11, 3), (13, .aload_n 0, 1), (14, .bipush (64), 2), (16, .anewarray 9, 3), (19, .putfield 15, 3), (22, .return_, 1)]
theorem id_Pending_init_0 : ∀ q ∈ it_Pending_init_0, decode prog_6_method_1_code q.1 = .ok q.2 := by decide +kernel
theorem d_Pending_init_0 : decode prog_6_method_1_code 0 = .ok (.aload_n 0, 1) := id_Pending_init_0 (0, .aload_n 0, 1) (List.mem_of_getElem? (i := 0) rfl)
theorem d_Pending_init_1 : decode prog_6_method_1_code 1 = .ok (.invokespecial 1, 3) := id_Pending_init_0 (1, .invokespecial 1, 3) (List.mem_of_getElem? (i := 1) rfl)
theorem d_Pending_init_4 : decode prog_6_method_1_code 4 = .ok (.aload_n 0, 1) := id_Pending_init_0 (4, .aload_n 0, 1) (List.mem_of_getElem? (i := 2) rfl)
theorem d_Pending_init_5 : decode prog_6_method_1_code 5 = .ok (.bipush (64), 2) := id_Pending_init_0 (5, .bipush (64), 2) (List.mem_of_getElem? (i := 3) rfl)
theorem d_Pending_init_7 : decode prog_6_method_1_code 7 = .ok (.anewarray 9, 3) := id_Pending_init_0 (7, .anewarray 9, 3) (List.mem_of_getElem? (i := 4) rfl)
theorem d_Pending_init_10 : decode prog_6_method_1_code 10 = .ok (.putfield 11, 3) := id_Pending_init_0 (10, .putfield 11, 3) (List.mem_of_getElem? (i := 5) rfl)
theorem d_Pending_init_13 : decode prog_6_method_1_code 13 = .ok (.aload_n 0, 1) := id_Pending_init_0 (13, .aload_n 0, 1) (List.mem_of_getElem? (i := 6) rfl)
theorem d_Pending_init_14 : decode prog_6_method_1_code 14 = .ok (.bipush (64), 2) := id_Pending_init_0 (14, .bipush (64), 2) (List.mem_of_getElem? (i := 7) rfl)
theorem d_Pending_init_16 : decode prog_6_method_1_code 16 = .ok (.anewarray 9, 3) := id_Pending_init_0 (16, .anewarray 9, 3) (List.mem_of_getElem? (i := 8) rfl)
theorem d_Pending_init_19 : decode prog_6_method_1_code 19 = .ok (.putfield 15, 3) := id_Pending_init_0 (19, .putfield 15, 3) (List.mem_of_getElem? (i := 9) rfl)
theorem d_Pending_init_22 : decode prog_6_method_1_code 22 = .ok (.return_, 1) := id_Pending_init_0 (22, .return_, 1) (List.mem_of_getElem? (i := 10) rfl)
theorem wC_Pending_init : Cond.code ⟨"WarpMill$Pending", "<init>", "()V"⟩ prog_6_method_1_code 1 (none) ∈ lw_tb := mem_tb 170 (by decide +kernel) rfl
def f_Pending_init (F : Nat) (x0 : Nat) (h : Hp) : Option Hp := pw (hT h) fun a_7 => pw (nw h 124 64 64) fun h_7_2 => gd (hK h_7_2 x0 = 5) <| pw (sR h_7_2 256 x0 (some a_7)) fun h_10_2 => pw (hT h_10_2) fun a_16 => pw (nw h_10_2 124 64 64) fun h_16_2 => gd (hK h_16_2 x0 = 5) <| pw (sR h_16_2 257 x0 (some a_16)) fun h_19_2 => some h_19_2
set_option maxRecDepth 100000 in
set_option maxHeartbeats 4000000 in
theorem e_Pending_init {G : Gl} (hw : gF G) {F : Nat} {h' : Hp} {x0 : Nat} {h : Hp} (hf : f_Pending_init F x0 h = some h') : Ex G mi_Pending_init [.ref x0] h (pV h') := by
  unfold f_Pending_init at hf
  refine Ex.of nmV (by decide) (Nat.le_of_ble_eq_true rfl) ?_
  show Go G mi_Pending_init h _ h 0 [(0, .ref x0)] []
  refine g_aload_n d_Pending_init_0 rfl ?_
  refine g_objInit lm_Pending_1 wI_Object_init wC_obj (Nat.le_of_ble_eq_true rfl) (Nat.le_of_ble_eq_true rfl) d_Pending_init_1 ?_
  refine g_aload_n d_Pending_init_4 rfl ?_
  refine g_bipush (64) d_Pending_init_5 (by decide) ?_
  obtain ⟨a_7, e_7, hf⟩ := pw_s hf
  refine g_anew 64 124 (by decide) rfl (by decide) (by decide) (by decide) lc_Pending_9 (by decide) d_Pending_init_7 ?_
  refine Go.kn (fun k_7 => ?_)
  rw [← e_7] at k_7 ⊢
  have hf := pw_b hf
  obtain ⟨k_10, hf⟩ := gd_s hf
  refine fp_Pending_first hw (some a_7) rfl lf_Pending_11 d_Pending_init_10 rfl rfl k_10 ?_
  have hf := pw_b hf
  refine g_aload_n d_Pending_init_13 rfl ?_
  refine g_bipush (64) d_Pending_init_14 (by decide) ?_
  obtain ⟨a_16, e_16, hf⟩ := pw_s hf
  refine g_anew 64 124 (by decide) rfl (by decide) (by decide) (by decide) lc_Pending_9 (by decide) d_Pending_init_16 ?_
  refine Go.kn (fun k_16 => ?_)
  rw [← e_16] at k_16 ⊢
  have hf := pw_b hf
  obtain ⟨k_19, hf⟩ := gd_s hf
  refine fp_Pending_last hw (some a_16) rfl lf_Pending_15 d_Pending_init_19 rfl rfl k_19 ?_
  have hf := pw_b hf
  exact Go.ret none trivial rfl d_Pending_init_22 (pV_of hf)
abbrev mi_Memory_init : MI := (⟨"WarpMill$Memory", "<init>", "()V"⟩, prog_5_method_1_code, 1, none, 2, 43)
def it_Memory_init_0 : List (Nat × ClassFile.Instr × Nat) := [(0, .aload_n 0, 1), (1, .invokespecial 3, 3), (4, .aload_n 0, 1), (5, .sipush (4096), 3), (8, .newarray .int, 2), (10, .putfield 9, 3), (13, .aload_n 0, 1), (14, .new 15, 3), (17, .dup, 1), (18, .invokespecial 17, 3), (21, .putfield 18, 3), (24, .aload_n 0, 1), (25, .new 22, 3), (28, .dup, 1), (29, .invokespecial 24, 3), (32, .putfield 25, 3), (35, .aload_n 0, 1), (36, .sipush (512), 3), (39, .putfield 29, 3), (42, .return_, 1)]
theorem id_Memory_init_0 : ∀ q ∈ it_Memory_init_0, decode prog_5_method_1_code q.1 = .ok q.2 := by decide +kernel
theorem d_Memory_init_0 : decode prog_5_method_1_code 0 = .ok (.aload_n 0, 1) := id_Memory_init_0 (0, .aload_n 0, 1) (List.mem_of_getElem? (i := 0) rfl)
theorem d_Memory_init_1 : decode prog_5_method_1_code 1 = .ok (.invokespecial 3, 3) := id_Memory_init_0 (1, .invokespecial 3, 3) (List.mem_of_getElem? (i := 1) rfl)
theorem d_Memory_init_4 : decode prog_5_method_1_code 4 = .ok (.aload_n 0, 1) := id_Memory_init_0 (4, .aload_n 0, 1) (List.mem_of_getElem? (i := 2) rfl)
theorem d_Memory_init_5 : decode prog_5_method_1_code 5 = .ok (.sipush (4096), 3) := id_Memory_init_0 (5, .sipush (4096), 3) (List.mem_of_getElem? (i := 3) rfl)
theorem d_Memory_init_8 : decode prog_5_method_1_code 8 = .ok (.newarray .int, 2) := id_Memory_init_0 (8, .newarray .int, 2) (List.mem_of_getElem? (i := 4) rfl)
theorem d_Memory_init_10 : decode prog_5_method_1_code 10 = .ok (.putfield 9, 3) := id_Memory_init_0 (10, .putfield 9, 3) (List.mem_of_getElem? (i := 5) rfl)
theorem d_Memory_init_13 : decode prog_5_method_1_code 13 = .ok (.aload_n 0, 1) := id_Memory_init_0 (13, .aload_n 0, 1) (List.mem_of_getElem? (i := 6) rfl)
theorem d_Memory_init_14 : decode prog_5_method_1_code 14 = .ok (.new 15, 3) := id_Memory_init_0 (14, .new 15, 3) (List.mem_of_getElem? (i := 7) rfl)
theorem d_Memory_init_17 : decode prog_5_method_1_code 17 = .ok (.dup, 1) := id_Memory_init_0 (17, .dup, 1) (List.mem_of_getElem? (i := 8) rfl)
theorem d_Memory_init_18 : decode prog_5_method_1_code 18 = .ok (.invokespecial 17, 3) := id_Memory_init_0 (18, .invokespecial 17, 3) (List.mem_of_getElem? (i := 9) rfl)
theorem d_Memory_init_21 : decode prog_5_method_1_code 21 = .ok (.putfield 18, 3) := id_Memory_init_0 (21, .putfield 18, 3) (List.mem_of_getElem? (i := 10) rfl)
theorem d_Memory_init_24 : decode prog_5_method_1_code 24 = .ok (.aload_n 0, 1) := id_Memory_init_0 (24, .aload_n 0, 1) (List.mem_of_getElem? (i := 11) rfl)
theorem d_Memory_init_25 : decode prog_5_method_1_code 25 = .ok (.new 22, 3) := id_Memory_init_0 (25, .new 22, 3) (List.mem_of_getElem? (i := 12) rfl)
theorem d_Memory_init_28 : decode prog_5_method_1_code 28 = .ok (.dup, 1) := id_Memory_init_0 (28, .dup, 1) (List.mem_of_getElem? (i := 13) rfl)
theorem d_Memory_init_29 : decode prog_5_method_1_code 29 = .ok (.invokespecial 24, 3) := id_Memory_init_0 (29, .invokespecial 24, 3) (List.mem_of_getElem? (i := 14) rfl)
theorem d_Memory_init_32 : decode prog_5_method_1_code 32 = .ok (.putfield 25, 3) := id_Memory_init_0 (32, .putfield 25, 3) (List.mem_of_getElem? (i := 15) rfl)
theorem d_Memory_init_35 : decode prog_5_method_1_code 35 = .ok (.aload_n 0, 1) := id_Memory_init_0 (35, .aload_n 0, 1) (List.mem_of_getElem? (i := 16) rfl)
theorem d_Memory_init_36 : decode prog_5_method_1_code 36 = .ok (.sipush (512), 3) := id_Memory_init_0 (36, .sipush (512), 3) (List.mem_of_getElem? (i := 17) rfl)
theorem d_Memory_init_39 : decode prog_5_method_1_code 39 = .ok (.putfield 29, 3) := id_Memory_init_0 (39, .putfield 29, 3) (List.mem_of_getElem? (i := 18) rfl)
theorem d_Memory_init_42 : decode prog_5_method_1_code 42 = .ok (.return_, 1) := id_Memory_init_0 (42, .return_, 1) (List.mem_of_getElem? (i := 19) rfl)
theorem wC_Memory_init : Cond.code ⟨"WarpMill$Memory", "<init>", "()V"⟩ prog_5_method_1_code 1 (none) ∈ lw_tb := mem_tb 139 (by decide +kernel) rfl
theorem cw_Memory_init_Cache_init : cW mi_Memory_init mi_Cache_init 0 := ⟨wC_Cache_init, wi_Cache, ⟨by decide, by decide, by decide +kernel⟩, by decide, by decide⟩
theorem cw_Memory_init_Pending_init : cW mi_Memory_init mi_Pending_init 0 := ⟨wC_Pending_init, wi_Pending, ⟨by decide, by decide, by decide +kernel⟩, by decide, by decide⟩
def f_Memory_init (F : Nat) (x0 : Nat) (h : Hp) : Option Hp := pw (hT h) fun a_8 => pw (nw h 100 4096 4096) fun h_8_2 => gd (hK h_8_2 x0 = 3) <| pw (sR h_8_2 128 x0 (some a_8)) fun h_10_2 => pw (hT h_10_2) fun a_14 => pw (nw h_10_2 4 0 4) fun h_14_2 => clv (f_Cache_init F a_14 h_14_2) fun h_18 => gd (hK h_18 x0 = 3) <| pw (sR h_18 129 x0 (some a_14)) fun h_21_2 => pw (hT h_21_2) fun a_25 => pw (nw h_21_2 5 0 4) fun h_25_2 => clv (f_Pending_init F a_25 h_25_2) fun h_29 => gd (hK h_29 x0 = 3) <| pw (sR h_29 130 x0 (some a_25)) fun h_32_2 => pw (sI h_32_2 131 x0 (512 : Int32)) fun h_39 => some h_39
set_option maxRecDepth 100000 in
set_option maxHeartbeats 4000000 in
theorem e_Memory_init {G : Gl} (hw : gF G) {F : Nat} {h' : Hp} {x0 : Nat} {h : Hp} (hf : f_Memory_init F x0 h = some h') : Ex G mi_Memory_init [.ref x0] h (pV h') := by
  unfold f_Memory_init at hf
  refine Ex.of nmV (by decide) (Nat.le_of_ble_eq_true rfl) ?_
  show Go G mi_Memory_init h _ h 0 [(0, .ref x0)] []
  refine g_aload_n d_Memory_init_0 rfl ?_
  refine g_objInit lm_Memory_3 wI_Object_init wC_obj (Nat.le_of_ble_eq_true rfl) (Nat.le_of_ble_eq_true rfl) d_Memory_init_1 ?_
  refine g_aload_n d_Memory_init_4 rfl ?_
  refine g_sipush (4096) d_Memory_init_5 (by decide) ?_
  obtain ⟨a_8, e_8, hf⟩ := pw_s hf
  refine g_newai 4096 (by decide) (by decide) (by decide) wA_int d_Memory_init_8 ?_
  refine Go.kn (fun k_8 => ?_)
  rw [← e_8] at k_8 ⊢
  have hf := pw_b hf
  obtain ⟨k_10, hf⟩ := gd_s hf
  refine fp_Memory_ints hw (some a_8) rfl lf_Memory_9 d_Memory_init_10 rfl rfl k_10 ?_
  have hf := pw_b hf
  refine g_aload_n d_Memory_init_13 rfl ?_
  obtain ⟨a_14, e_14, hf⟩ := pw_s hf
  refine g_newk 3 4 rfl okCache lc_Memory_15 wn_Cache wi_Cache d_Memory_init_14 ?_
  refine Go.kn (fun k_14 => ?_)
  rw [← e_14] at k_14 ⊢
  have hf := pw_b hf
  refine g_dup (by first | rfl | exact cat_rf _) d_Memory_init_17 ?_
  obtain ⟨h_18, e_18, hf⟩ := clv_s hf
  refine g_callI (mz := mi_Cache_init) (e_Cache_init hw e_18) cw_Memory_init_Cache_init lm_Memory_17 wI_Cache_init rfl rfl d_Memory_init_18 rfl rfl (by first | exact Nat.le_of_ble_eq_true rfl | simp [cat_rf, Value.category]) (fun r1 h1 hp hro => ?_)
  obtain ⟨rfl, rfl⟩ := hp
  dsimp only [Option.toList_some, Option.toList_none, List.cons_append, List.nil_append]
  obtain ⟨k_21, hf⟩ := gd_s hf
  refine fp_Memory_cache hw (some a_14) rfl lf_Memory_18 d_Memory_init_21 rfl rfl k_21 ?_
  have hf := pw_b hf
  refine g_aload_n d_Memory_init_24 rfl ?_
  obtain ⟨a_25, e_25, hf⟩ := pw_s hf
  refine g_newk 4 5 rfl okPending lc_Memory_22 wn_Pending wi_Pending d_Memory_init_25 ?_
  refine Go.kn (fun k_25 => ?_)
  rw [← e_25] at k_25 ⊢
  have hf := pw_b hf
  refine g_dup (by first | rfl | exact cat_rf _) d_Memory_init_28 ?_
  obtain ⟨h_29, e_29, hf⟩ := clv_s hf
  refine g_callIN (mz := mi_Pending_init) (e_Pending_init hw e_29) cw_Memory_init_Pending_init (host := "WarpMill") (by decide +kernel) wI_Pending_init rfl rfl d_Memory_init_29 rfl rfl (by first | exact Nat.le_of_ble_eq_true rfl | simp [cat_rf, Value.category]) (fun r1 h1 hp hro => ?_)
  obtain ⟨rfl, rfl⟩ := hp
  dsimp only [Option.toList_some, Option.toList_none, List.cons_append, List.nil_append]
  obtain ⟨k_32, hf⟩ := gd_s hf
  refine fp_Memory_pending hw (some a_25) rfl lf_Memory_25 d_Memory_init_32 rfl rfl k_32 ?_
  have hf := pw_b hf
  refine g_aload_n d_Memory_init_35 rfl ?_
  refine g_sipush (512) d_Memory_init_36 (by decide) ?_
  refine fp_Memory_size hw lf_Memory_29 d_Memory_init_39 (kksR k_32) ?_
  have hf := pw_b hf
  exact Go.ret none trivial rfl d_Memory_init_42 (pV_of hf)
abbrev mi_Tally_init : MI := (⟨"WarpMill$Tally", "<init>", "()V"⟩, prog_8_method_1_code, 1, none, 1, 21)
def it_Tally_init_0 : List (Nat × ClassFile.Instr × Nat) := [(0, .aload_n 0, 1), (1, .invokespecial 3, 3), (4, .aload_n 0, 1), (5, .iconst 0, 1), (6, .putfield 9, 3), (9, .return_, 1)]
theorem id_Tally_init_0 : ∀ q ∈ it_Tally_init_0, decode prog_8_method_1_code q.1 = .ok q.2 := by decide +kernel
theorem d_Tally_init_0 : decode prog_8_method_1_code 0 = .ok (.aload_n 0, 1) := id_Tally_init_0 (0, .aload_n 0, 1) (List.mem_of_getElem? (i := 0) rfl)
theorem d_Tally_init_1 : decode prog_8_method_1_code 1 = .ok (.invokespecial 3, 3) := id_Tally_init_0 (1, .invokespecial 3, 3) (List.mem_of_getElem? (i := 1) rfl)
theorem d_Tally_init_4 : decode prog_8_method_1_code 4 = .ok (.aload_n 0, 1) := id_Tally_init_0 (4, .aload_n 0, 1) (List.mem_of_getElem? (i := 2) rfl)
theorem d_Tally_init_5 : decode prog_8_method_1_code 5 = .ok (.iconst 0, 1) := id_Tally_init_0 (5, .iconst 0, 1) (List.mem_of_getElem? (i := 3) rfl)
theorem d_Tally_init_6 : decode prog_8_method_1_code 6 = .ok (.putfield 9, 3) := id_Tally_init_0 (6, .putfield 9, 3) (List.mem_of_getElem? (i := 4) rfl)
theorem d_Tally_init_9 : decode prog_8_method_1_code 9 = .ok (.return_, 1) := id_Tally_init_0 (9, .return_, 1) (List.mem_of_getElem? (i := 5) rfl)
theorem wC_Tally_init : Cond.code ⟨"WarpMill$Tally", "<init>", "()V"⟩ prog_8_method_1_code 1 (none) ∈ lw_tb := mem_tb 209 (by decide +kernel) rfl
def f_Tally_init (F : Nat) (x0 : Nat) (h : Hp) : Option Hp := gd (hK h x0 = 6) <| pw (sI h 320 x0 (0 : Int32)) fun h_6_2 => some h_6_2
set_option maxRecDepth 100000 in
set_option maxHeartbeats 4000000 in
theorem e_Tally_init {G : Gl} (hw : gF G) {F : Nat} {h' : Hp} {x0 : Nat} {h : Hp} (hf : f_Tally_init F x0 h = some h') : Ex G mi_Tally_init [.ref x0] h (pV h') := by
  unfold f_Tally_init at hf
  refine Ex.of nmV (by decide) (Nat.le_of_ble_eq_true rfl) ?_
  show Go G mi_Tally_init h _ h 0 [(0, .ref x0)] []
  refine g_aload_n d_Tally_init_0 rfl ?_
  refine g_objInit lm_Tally_3 wI_Object_init wC_obj (Nat.le_of_ble_eq_true rfl) (Nat.le_of_ble_eq_true rfl) d_Tally_init_1 ?_
  refine g_aload_n d_Tally_init_4 rfl ?_
  refine g_iconst 0 d_Tally_init_5 (by decide) ?_
  obtain ⟨k_6, hf⟩ := gd_s hf
  refine fp_Tally_status hw lf_Tally_9 d_Tally_init_6 k_6 ?_
  have hf := pw_b hf
  exact Go.ret none trivial rfl d_Tally_init_9 (pV_of hf)
abbrev mi_Word_isKnown : MI := (⟨"WarpMill$Word", "isKnown", "(II)Z"⟩, prog_11_method_2_code, 2, some .boolean, 0, 0)
def it_Word_isKnown_0 : List (Nat × ClassFile.Instr × Nat) := [(0, .iload_n 0, 1), (1, .iconst 3, 1), (2, .if_icmp .ne (19), 3), (5, .iload_n 1, 1), (6, .ifCond .lt (13), 3), (9, .iload_n 1, 1), (10, .bipush (6), 2), (12, .if_icmp .gt (7), 3), (15, .iconst 1, 1), (16, .goto (4), 3), (19, .iconst 0, 1), (20, .ireturn, 1), (21, .iload_n 0, 1), (22, .bipush (21), 2), (24, .if_icmp .le (51), 3), (27, .iload_n 0, 1), (28, .bipush (30), 2), (30, .if_icmp .lt (9), 3), (33, .iload_n 0, 1), (34, .bipush (36), 2), (36, .if_icmp .le (39), 3), (39, .iload_n 0, 1), (40, .bipush (40), 2), (42, .if_icmp .lt (9), 3)]
theorem id_Word_isKnown_0 : ∀ q ∈ it_Word_isKnown_0, decode prog_11_method_2_code q.1 = .ok q.2 := by decide +kernel
theorem d_Word_isKnown_0 : decode prog_11_method_2_code 0 = .ok (.iload_n 0, 1) := id_Word_isKnown_0 (0, .iload_n 0, 1) (List.mem_of_getElem? (i := 0) rfl)
theorem d_Word_isKnown_1 : decode prog_11_method_2_code 1 = .ok (.iconst 3, 1) := id_Word_isKnown_0 (1, .iconst 3, 1) (List.mem_of_getElem? (i := 1) rfl)
theorem d_Word_isKnown_2 : decode prog_11_method_2_code 2 = .ok (.if_icmp .ne (19), 3) := id_Word_isKnown_0 (2, .if_icmp .ne (19), 3) (List.mem_of_getElem? (i := 2) rfl)
theorem d_Word_isKnown_5 : decode prog_11_method_2_code 5 = .ok (.iload_n 1, 1) := id_Word_isKnown_0 (5, .iload_n 1, 1) (List.mem_of_getElem? (i := 3) rfl)
theorem d_Word_isKnown_6 : decode prog_11_method_2_code 6 = .ok (.ifCond .lt (13), 3) := id_Word_isKnown_0 (6, .ifCond .lt (13), 3) (List.mem_of_getElem? (i := 4) rfl)
theorem d_Word_isKnown_9 : decode prog_11_method_2_code 9 = .ok (.iload_n 1, 1) := id_Word_isKnown_0 (9, .iload_n 1, 1) (List.mem_of_getElem? (i := 5) rfl)
theorem d_Word_isKnown_10 : decode prog_11_method_2_code 10 = .ok (.bipush (6), 2) := id_Word_isKnown_0 (10, .bipush (6), 2) (List.mem_of_getElem? (i := 6) rfl)
theorem d_Word_isKnown_12 : decode prog_11_method_2_code 12 = .ok (.if_icmp .gt (7), 3) := id_Word_isKnown_0 (12, .if_icmp .gt (7), 3) (List.mem_of_getElem? (i := 7) rfl)
theorem d_Word_isKnown_15 : decode prog_11_method_2_code 15 = .ok (.iconst 1, 1) := id_Word_isKnown_0 (15, .iconst 1, 1) (List.mem_of_getElem? (i := 8) rfl)
theorem d_Word_isKnown_16 : decode prog_11_method_2_code 16 = .ok (.goto (4), 3) := id_Word_isKnown_0 (16, .goto (4), 3) (List.mem_of_getElem? (i := 9) rfl)
theorem d_Word_isKnown_19 : decode prog_11_method_2_code 19 = .ok (.iconst 0, 1) := id_Word_isKnown_0 (19, .iconst 0, 1) (List.mem_of_getElem? (i := 10) rfl)
theorem d_Word_isKnown_20 : decode prog_11_method_2_code 20 = .ok (.ireturn, 1) := id_Word_isKnown_0 (20, .ireturn, 1) (List.mem_of_getElem? (i := 11) rfl)
theorem d_Word_isKnown_21 : decode prog_11_method_2_code 21 = .ok (.iload_n 0, 1) := id_Word_isKnown_0 (21, .iload_n 0, 1) (List.mem_of_getElem? (i := 12) rfl)
theorem d_Word_isKnown_22 : decode prog_11_method_2_code 22 = .ok (.bipush (21), 2) := id_Word_isKnown_0 (22, .bipush (21), 2) (List.mem_of_getElem? (i := 13) rfl)
theorem d_Word_isKnown_24 : decode prog_11_method_2_code 24 = .ok (.if_icmp .le (51), 3) := id_Word_isKnown_0 (24, .if_icmp .le (51), 3) (List.mem_of_getElem? (i := 14) rfl)
theorem d_Word_isKnown_27 : decode prog_11_method_2_code 27 = .ok (.iload_n 0, 1) := id_Word_isKnown_0 (27, .iload_n 0, 1) (List.mem_of_getElem? (i := 15) rfl)
theorem d_Word_isKnown_28 : decode prog_11_method_2_code 28 = .ok (.bipush (30), 2) := id_Word_isKnown_0 (28, .bipush (30), 2) (List.mem_of_getElem? (i := 16) rfl)
theorem d_Word_isKnown_30 : decode prog_11_method_2_code 30 = .ok (.if_icmp .lt (9), 3) := id_Word_isKnown_0 (30, .if_icmp .lt (9), 3) (List.mem_of_getElem? (i := 17) rfl)
theorem d_Word_isKnown_33 : decode prog_11_method_2_code 33 = .ok (.iload_n 0, 1) := id_Word_isKnown_0 (33, .iload_n 0, 1) (List.mem_of_getElem? (i := 18) rfl)
theorem d_Word_isKnown_34 : decode prog_11_method_2_code 34 = .ok (.bipush (36), 2) := id_Word_isKnown_0 (34, .bipush (36), 2) (List.mem_of_getElem? (i := 19) rfl)
theorem d_Word_isKnown_36 : decode prog_11_method_2_code 36 = .ok (.if_icmp .le (39), 3) := id_Word_isKnown_0 (36, .if_icmp .le (39), 3) (List.mem_of_getElem? (i := 20) rfl)
theorem d_Word_isKnown_39 : decode prog_11_method_2_code 39 = .ok (.iload_n 0, 1) := id_Word_isKnown_0 (39, .iload_n 0, 1) (List.mem_of_getElem? (i := 21) rfl)
theorem d_Word_isKnown_40 : decode prog_11_method_2_code 40 = .ok (.bipush (40), 2) := id_Word_isKnown_0 (40, .bipush (40), 2) (List.mem_of_getElem? (i := 22) rfl)
theorem d_Word_isKnown_42 : decode prog_11_method_2_code 42 = .ok (.if_icmp .lt (9), 3) := id_Word_isKnown_0 (42, .if_icmp .lt (9), 3) (List.mem_of_getElem? (i := 23) rfl)
def it_Word_isKnown_1 : List (Nat × ClassFile.Instr × Nat) := [(45, .iload_n 0, 1), (46, .bipush (42), 2), (48, .if_icmp .le (27), 3), (51, .iload_n 0, 1), (52, .bipush (50), 2), (54, .if_icmp .lt (9), 3), (57, .iload_n 0, 1), (58, .bipush (59), 2), (60, .if_icmp .le (15), 3), (63, .iload_n 0, 1), (64, .bipush (70), 2), (66, .if_icmp .lt (13), 3), (69, .iload_n 0, 1), (70, .bipush (73), 2), (72, .if_icmp .gt (7), 3), (75, .iconst 1, 1), (76, .goto (4), 3), (79, .iconst 0, 1), (80, .ireturn, 1)]
theorem id_Word_isKnown_1 : ∀ q ∈ it_Word_isKnown_1, decode prog_11_method_2_code q.1 = .ok q.2 := by decide +kernel
theorem d_Word_isKnown_45 : decode prog_11_method_2_code 45 = .ok (.iload_n 0, 1) := id_Word_isKnown_1 (45, .iload_n 0, 1) (List.mem_of_getElem? (i := 0) rfl)
theorem d_Word_isKnown_46 : decode prog_11_method_2_code 46 = .ok (.bipush (42), 2) := id_Word_isKnown_1 (46, .bipush (42), 2) (List.mem_of_getElem? (i := 1) rfl)
theorem d_Word_isKnown_48 : decode prog_11_method_2_code 48 = .ok (.if_icmp .le (27), 3) := id_Word_isKnown_1 (48, .if_icmp .le (27), 3) (List.mem_of_getElem? (i := 2) rfl)
theorem d_Word_isKnown_51 : decode prog_11_method_2_code 51 = .ok (.iload_n 0, 1) := id_Word_isKnown_1 (51, .iload_n 0, 1) (List.mem_of_getElem? (i := 3) rfl)
theorem d_Word_isKnown_52 : decode prog_11_method_2_code 52 = .ok (.bipush (50), 2) := id_Word_isKnown_1 (52, .bipush (50), 2) (List.mem_of_getElem? (i := 4) rfl)
theorem d_Word_isKnown_54 : decode prog_11_method_2_code 54 = .ok (.if_icmp .lt (9), 3) := id_Word_isKnown_1 (54, .if_icmp .lt (9), 3) (List.mem_of_getElem? (i := 5) rfl)
theorem d_Word_isKnown_57 : decode prog_11_method_2_code 57 = .ok (.iload_n 0, 1) := id_Word_isKnown_1 (57, .iload_n 0, 1) (List.mem_of_getElem? (i := 6) rfl)
theorem d_Word_isKnown_58 : decode prog_11_method_2_code 58 = .ok (.bipush (59), 2) := id_Word_isKnown_1 (58, .bipush (59), 2) (List.mem_of_getElem? (i := 7) rfl)
theorem d_Word_isKnown_60 : decode prog_11_method_2_code 60 = .ok (.if_icmp .le (15), 3) := id_Word_isKnown_1 (60, .if_icmp .le (15), 3) (List.mem_of_getElem? (i := 8) rfl)
theorem d_Word_isKnown_63 : decode prog_11_method_2_code 63 = .ok (.iload_n 0, 1) := id_Word_isKnown_1 (63, .iload_n 0, 1) (List.mem_of_getElem? (i := 9) rfl)
theorem d_Word_isKnown_64 : decode prog_11_method_2_code 64 = .ok (.bipush (70), 2) := id_Word_isKnown_1 (64, .bipush (70), 2) (List.mem_of_getElem? (i := 10) rfl)
theorem d_Word_isKnown_66 : decode prog_11_method_2_code 66 = .ok (.if_icmp .lt (13), 3) := id_Word_isKnown_1 (66, .if_icmp .lt (13), 3) (List.mem_of_getElem? (i := 11) rfl)
theorem d_Word_isKnown_69 : decode prog_11_method_2_code 69 = .ok (.iload_n 0, 1) := id_Word_isKnown_1 (69, .iload_n 0, 1) (List.mem_of_getElem? (i := 12) rfl)
theorem d_Word_isKnown_70 : decode prog_11_method_2_code 70 = .ok (.bipush (73), 2) := id_Word_isKnown_1 (70, .bipush (73), 2) (List.mem_of_getElem? (i := 13) rfl)
theorem d_Word_isKnown_72 : decode prog_11_method_2_code 72 = .ok (.if_icmp .gt (7), 3) := id_Word_isKnown_1 (72, .if_icmp .gt (7), 3) (List.mem_of_getElem? (i := 14) rfl)
theorem d_Word_isKnown_75 : decode prog_11_method_2_code 75 = .ok (.iconst 1, 1) := id_Word_isKnown_1 (75, .iconst 1, 1) (List.mem_of_getElem? (i := 15) rfl)
theorem d_Word_isKnown_76 : decode prog_11_method_2_code 76 = .ok (.goto (4), 3) := id_Word_isKnown_1 (76, .goto (4), 3) (List.mem_of_getElem? (i := 16) rfl)
theorem d_Word_isKnown_79 : decode prog_11_method_2_code 79 = .ok (.iconst 0, 1) := id_Word_isKnown_1 (79, .iconst 0, 1) (List.mem_of_getElem? (i := 17) rfl)
theorem d_Word_isKnown_80 : decode prog_11_method_2_code 80 = .ok (.ireturn, 1) := id_Word_isKnown_1 (80, .ireturn, 1) (List.mem_of_getElem? (i := 18) rfl)
theorem wC_Word_isKnown : Cond.code ⟨"WarpMill$Word", "isKnown", "(II)Z"⟩ prog_11_method_2_code 2 (some .boolean) ∈ lw_tb := mem_tb 273 (by decide +kernel) rfl
def b_Word_isKnown_75 (F : Nat)  (h : Hp) : Option (Int32 × Hp) := some ((1 : Int32), h)
set_option maxRecDepth 100000 in
set_option maxHeartbeats 4000000 in
theorem e_Word_isKnown_75 {G : Gl} {h0 : Hp} {F : Nat} {r : Int32} {h' : Hp}    {h : Hp} (hf : b_Word_isKnown_75 F  h = some (r, h')) : Go G mi_Word_isKnown h0 (pI r h') h 75 [] [] := by
  unfold b_Word_isKnown_75 at hf
  refine g_iconst 1 d_Word_isKnown_75 (by decide) ?_
  refine g_goto 80 d_Word_isKnown_76 (by decide) ?_
  exact Go.ret (some _) rOk_b1 rfl d_Word_isKnown_80 (pI_of hf)
def b_Word_isKnown_63 (F : Nat) (x0 : Int32) (h : Hp) : Option (Int32 × Hp) := if x0 < (70 : Int32) then (some ((0 : Int32), h)) else (if (73 : Int32) < x0 then (some ((0 : Int32), h)) else (b_Word_isKnown_75 F h))
set_option maxRecDepth 100000 in
set_option maxHeartbeats 4000000 in
theorem e_Word_isKnown_63 {G : Gl} {h0 : Hp} {F : Nat} {r : Int32} {h' : Hp}   {x0 : Int32} {h : Hp} (hf : b_Word_isKnown_63 F x0 h = some (r, h')) : Go G mi_Word_isKnown h0 (pI r h') h 63 [(0, .int x0)] [] := by
  unfold b_Word_isKnown_63 at hf
  refine g_iload_n d_Word_isKnown_63 rfl ?_
  refine g_bipush (70) d_Word_isKnown_64 (by decide) ?_
  refine g_icmp_lt 79 d_Word_isKnown_66 (by decide) (fun c_66 => ?_) (fun c_66 => ?_)
  · have hf := ifp hf c_66
    refine g_iconst 0 d_Word_isKnown_79 (by decide) ?_
    exact Go.ret (some _) rOk_b0 rfl d_Word_isKnown_80 (pI_of hf)
  · have hf := ifn hf c_66
    refine g_iload_n d_Word_isKnown_69 rfl ?_
    refine g_bipush (73) d_Word_isKnown_70 (by decide) ?_
    refine g_icmp_gt 79 d_Word_isKnown_72 (by decide) (fun c_72 => ?_) (fun c_72 => ?_)
    · have hf := ifp hf c_72
      refine g_iconst 0 d_Word_isKnown_79 (by decide) ?_
      exact Go.ret (some _) rOk_b0 rfl d_Word_isKnown_80 (pI_of hf)
    · have hf := ifn hf c_72
      refine Go.locals [] rfl ?_
      have key := e_Word_isKnown_75 (G := G) (h0 := h0)  hf
      exact key
def b_Word_isKnown_51 (F : Nat) (x0 : Int32) (h : Hp) : Option (Int32 × Hp) := if x0 < (50 : Int32) then (b_Word_isKnown_63 F x0 h) else (if x0 ≤ (59 : Int32) then (b_Word_isKnown_75 F h) else (b_Word_isKnown_63 F x0 h))
set_option maxRecDepth 100000 in
set_option maxHeartbeats 4000000 in
theorem e_Word_isKnown_51 {G : Gl} {h0 : Hp} {F : Nat} {r : Int32} {h' : Hp}   {x0 : Int32} {h : Hp} (hf : b_Word_isKnown_51 F x0 h = some (r, h')) : Go G mi_Word_isKnown h0 (pI r h') h 51 [(0, .int x0)] [] := by
  unfold b_Word_isKnown_51 at hf
  refine g_iload_n d_Word_isKnown_51 rfl ?_
  refine g_bipush (50) d_Word_isKnown_52 (by decide) ?_
  refine g_icmp_lt 63 d_Word_isKnown_54 (by decide) (fun c_54 => ?_) (fun c_54 => ?_)
  · have hf := ifp hf c_54
    have key := e_Word_isKnown_63 (G := G) (h0 := h0)  hf
    exact key
  · have hf := ifn hf c_54
    refine g_iload_n d_Word_isKnown_57 rfl ?_
    refine g_bipush (59) d_Word_isKnown_58 (by decide) ?_
    refine g_icmp_le 75 d_Word_isKnown_60 (by decide) (fun c_60 => ?_) (fun c_60 => ?_)
    · have hf := ifp hf c_60
      refine Go.locals [] rfl ?_
      have key := e_Word_isKnown_75 (G := G) (h0 := h0)  hf
      exact key
    · have hf := ifn hf c_60
      have key := e_Word_isKnown_63 (G := G) (h0 := h0)  hf
      exact key
def b_Word_isKnown_39 (F : Nat) (x0 : Int32) (h : Hp) : Option (Int32 × Hp) := if x0 < (40 : Int32) then (b_Word_isKnown_51 F x0 h) else (if x0 ≤ (42 : Int32) then (b_Word_isKnown_75 F h) else (b_Word_isKnown_51 F x0 h))
set_option maxRecDepth 100000 in
set_option maxHeartbeats 4000000 in
theorem e_Word_isKnown_39 {G : Gl} {h0 : Hp} {F : Nat} {r : Int32} {h' : Hp}   {x0 : Int32} {h : Hp} (hf : b_Word_isKnown_39 F x0 h = some (r, h')) : Go G mi_Word_isKnown h0 (pI r h') h 39 [(0, .int x0)] [] := by
  unfold b_Word_isKnown_39 at hf
  refine g_iload_n d_Word_isKnown_39 rfl ?_
  refine g_bipush (40) d_Word_isKnown_40 (by decide) ?_
  refine g_icmp_lt 51 d_Word_isKnown_42 (by decide) (fun c_42 => ?_) (fun c_42 => ?_)
  · have hf := ifp hf c_42
    have key := e_Word_isKnown_51 (G := G) (h0 := h0)  hf
    exact key
  · have hf := ifn hf c_42
    refine g_iload_n d_Word_isKnown_45 rfl ?_
    refine g_bipush (42) d_Word_isKnown_46 (by decide) ?_
    refine g_icmp_le 75 d_Word_isKnown_48 (by decide) (fun c_48 => ?_) (fun c_48 => ?_)
    · have hf := ifp hf c_48
      refine Go.locals [] rfl ?_
      have key := e_Word_isKnown_75 (G := G) (h0 := h0)  hf
      exact key
    · have hf := ifn hf c_48
      have key := e_Word_isKnown_51 (G := G) (h0 := h0)  hf
      exact key
def f_Word_isKnown (F : Nat) (x0 : Int32) (x1 : Int32) (h : Hp) : Option (Int32 × Hp) := if x0 = (3 : Int32) then (if x1 < 0 then (some ((0 : Int32), h)) else (if (6 : Int32) < x1 then (some ((0 : Int32), h)) else (some ((1 : Int32), h)))) else (if x0 ≤ (21 : Int32) then (b_Word_isKnown_75 F h) else (if x0 < (30 : Int32) then (b_Word_isKnown_39 F x0 h) else (if x0 ≤ (36 : Int32) then (b_Word_isKnown_75 F h) else (b_Word_isKnown_39 F x0 h))))
set_option maxRecDepth 100000 in
set_option maxHeartbeats 4000000 in
theorem e_Word_isKnown {G : Gl} {F : Nat} {r : Int32} {h' : Hp} {x0 : Int32} {x1 : Int32} {h : Hp} (hf : f_Word_isKnown F x0 x1 h = some (r, h')) : Ex G mi_Word_isKnown [.int x0, .int x1] h (pI r h') := by
  unfold f_Word_isKnown at hf
  refine Ex.of nmI (by decide) (Nat.le_of_ble_eq_true rfl) ?_
  show Go G mi_Word_isKnown h _ h 0 [(0, .int x0), (1, .int x1)] []
  refine g_iload_n d_Word_isKnown_0 rfl ?_
  refine g_iconst 3 d_Word_isKnown_1 (by decide) ?_
  refine g_icmp_ne 21 d_Word_isKnown_2 (by decide) (fun c_2 => ?_) (fun c_2 => ?_)
  · have hf := ifn hf c_2
    refine g_iload_n d_Word_isKnown_21 rfl ?_
    refine g_bipush (21) d_Word_isKnown_22 (by decide) ?_
    refine g_icmp_le 75 d_Word_isKnown_24 (by decide) (fun c_24 => ?_) (fun c_24 => ?_)
    · have hf := ifp hf c_24
      refine Go.locals [] rfl ?_
      have key := e_Word_isKnown_75 (G := G) (h0 := h)  hf
      exact key
    · have hf := ifn hf c_24
      refine g_iload_n d_Word_isKnown_27 rfl ?_
      refine g_bipush (30) d_Word_isKnown_28 (by decide) ?_
      refine g_icmp_lt 39 d_Word_isKnown_30 (by decide) (fun c_30 => ?_) (fun c_30 => ?_)
      · have hf := ifp hf c_30
        refine Go.locals [0] rfl ?_
        have key := e_Word_isKnown_39 (G := G) (h0 := h)  hf
        exact key
      · have hf := ifn hf c_30
        refine g_iload_n d_Word_isKnown_33 rfl ?_
        refine g_bipush (36) d_Word_isKnown_34 (by decide) ?_
        refine g_icmp_le 75 d_Word_isKnown_36 (by decide) (fun c_36 => ?_) (fun c_36 => ?_)
        · have hf := ifp hf c_36
          refine Go.locals [] rfl ?_
          have key := e_Word_isKnown_75 (G := G) (h0 := h)  hf
          exact key
        · have hf := ifn hf c_36
          refine Go.locals [0] rfl ?_
          have key := e_Word_isKnown_39 (G := G) (h0 := h)  hf
          exact key
  · have hf := ifp hf c_2
    refine g_iload_n d_Word_isKnown_5 rfl ?_
    refine g_if_lt 19 d_Word_isKnown_6 (by decide) (fun c_6 => ?_) (fun c_6 => ?_)
    · have hf := ifp hf c_6
      refine g_iconst 0 d_Word_isKnown_19 (by decide) ?_
      exact Go.ret (some _) rOk_b0 rfl d_Word_isKnown_20 (pI_of hf)
    · have hf := ifn hf c_6
      refine g_iload_n d_Word_isKnown_9 rfl ?_
      refine g_bipush (6) d_Word_isKnown_10 (by decide) ?_
      refine g_icmp_gt 19 d_Word_isKnown_12 (by decide) (fun c_12 => ?_) (fun c_12 => ?_)
      · have hf := ifp hf c_12
        refine g_iconst 0 d_Word_isKnown_19 (by decide) ?_
        exact Go.ret (some _) rOk_b0 rfl d_Word_isKnown_20 (pI_of hf)
      · have hf := ifn hf c_12
        refine g_iconst 1 d_Word_isKnown_15 (by decide) ?_
        refine g_goto 20 d_Word_isKnown_16 (by decide) ?_
        exact Go.ret (some _) rOk_b1 rfl d_Word_isKnown_20 (pI_of hf)
abbrev mi_Word_writtenBy : MI := (⟨"WarpMill$Word", "writtenBy", "(II)I"⟩, prog_11_method_7_code, 3, some .int, 0, 0)
def it_Word_writtenBy_0 : List (Nat × ClassFile.Instr × Nat) := [(0, .iload_n 0, 1), (1, .bipush (30), 2), (3, .if_icmp .lt (9), 3), (6, .iload_n 0, 1), (7, .bipush (36), 2), (9, .if_icmp .le (15), 3), (12, .iload_n 0, 1), (13, .bipush (70), 2), (15, .if_icmp .eq (9), 3), (18, .iload_n 0, 1), (19, .bipush (71), 2), (21, .if_icmp .ne (10), 3), (24, .bipush (16), 2), (26, .iload_n 1, 1), (27, .iconst 3, 1), (28, .iand, 1), (29, .iadd, 1), (30, .ireturn, 1), (31, .iload_n 0, 1), (32, .iconst 2, 1), (33, .if_icmp .lt (9), 3), (36, .iload_n 0, 1), (37, .bipush (21), 2), (39, .if_icmp .le (45), 3)]
theorem id_Word_writtenBy_0 : ∀ q ∈ it_Word_writtenBy_0, decode prog_11_method_7_code q.1 = .ok q.2 := by decide +kernel
theorem d_Word_writtenBy_0 : decode prog_11_method_7_code 0 = .ok (.iload_n 0, 1) := id_Word_writtenBy_0 (0, .iload_n 0, 1) (List.mem_of_getElem? (i := 0) rfl)
theorem d_Word_writtenBy_1 : decode prog_11_method_7_code 1 = .ok (.bipush (30), 2) := id_Word_writtenBy_0 (1, .bipush (30), 2) (List.mem_of_getElem? (i := 1) rfl)
theorem d_Word_writtenBy_3 : decode prog_11_method_7_code 3 = .ok (.if_icmp .lt (9), 3) := id_Word_writtenBy_0 (3, .if_icmp .lt (9), 3) (List.mem_of_getElem? (i := 2) rfl)
theorem d_Word_writtenBy_6 : decode prog_11_method_7_code 6 = .ok (.iload_n 0, 1) := id_Word_writtenBy_0 (6, .iload_n 0, 1) (List.mem_of_getElem? (i := 3) rfl)
theorem d_Word_writtenBy_7 : decode prog_11_method_7_code 7 = .ok (.bipush (36), 2) := id_Word_writtenBy_0 (7, .bipush (36), 2) (List.mem_of_getElem? (i := 4) rfl)
theorem d_Word_writtenBy_9 : decode prog_11_method_7_code 9 = .ok (.if_icmp .le (15), 3) := id_Word_writtenBy_0 (9, .if_icmp .le (15), 3) (List.mem_of_getElem? (i := 5) rfl)
theorem d_Word_writtenBy_12 : decode prog_11_method_7_code 12 = .ok (.iload_n 0, 1) := id_Word_writtenBy_0 (12, .iload_n 0, 1) (List.mem_of_getElem? (i := 6) rfl)
theorem d_Word_writtenBy_13 : decode prog_11_method_7_code 13 = .ok (.bipush (70), 2) := id_Word_writtenBy_0 (13, .bipush (70), 2) (List.mem_of_getElem? (i := 7) rfl)
theorem d_Word_writtenBy_15 : decode prog_11_method_7_code 15 = .ok (.if_icmp .eq (9), 3) := id_Word_writtenBy_0 (15, .if_icmp .eq (9), 3) (List.mem_of_getElem? (i := 8) rfl)
theorem d_Word_writtenBy_18 : decode prog_11_method_7_code 18 = .ok (.iload_n 0, 1) := id_Word_writtenBy_0 (18, .iload_n 0, 1) (List.mem_of_getElem? (i := 9) rfl)
theorem d_Word_writtenBy_19 : decode prog_11_method_7_code 19 = .ok (.bipush (71), 2) := id_Word_writtenBy_0 (19, .bipush (71), 2) (List.mem_of_getElem? (i := 10) rfl)
theorem d_Word_writtenBy_21 : decode prog_11_method_7_code 21 = .ok (.if_icmp .ne (10), 3) := id_Word_writtenBy_0 (21, .if_icmp .ne (10), 3) (List.mem_of_getElem? (i := 11) rfl)
theorem d_Word_writtenBy_24 : decode prog_11_method_7_code 24 = .ok (.bipush (16), 2) := id_Word_writtenBy_0 (24, .bipush (16), 2) (List.mem_of_getElem? (i := 12) rfl)
theorem d_Word_writtenBy_26 : decode prog_11_method_7_code 26 = .ok (.iload_n 1, 1) := id_Word_writtenBy_0 (26, .iload_n 1, 1) (List.mem_of_getElem? (i := 13) rfl)
theorem d_Word_writtenBy_27 : decode prog_11_method_7_code 27 = .ok (.iconst 3, 1) := id_Word_writtenBy_0 (27, .iconst 3, 1) (List.mem_of_getElem? (i := 14) rfl)
theorem d_Word_writtenBy_28 : decode prog_11_method_7_code 28 = .ok (.iand, 1) := id_Word_writtenBy_0 (28, .iand, 1) (List.mem_of_getElem? (i := 15) rfl)
theorem d_Word_writtenBy_29 : decode prog_11_method_7_code 29 = .ok (.iadd, 1) := id_Word_writtenBy_0 (29, .iadd, 1) (List.mem_of_getElem? (i := 16) rfl)
theorem d_Word_writtenBy_30 : decode prog_11_method_7_code 30 = .ok (.ireturn, 1) := id_Word_writtenBy_0 (30, .ireturn, 1) (List.mem_of_getElem? (i := 17) rfl)
theorem d_Word_writtenBy_31 : decode prog_11_method_7_code 31 = .ok (.iload_n 0, 1) := id_Word_writtenBy_0 (31, .iload_n 0, 1) (List.mem_of_getElem? (i := 18) rfl)
theorem d_Word_writtenBy_32 : decode prog_11_method_7_code 32 = .ok (.iconst 2, 1) := id_Word_writtenBy_0 (32, .iconst 2, 1) (List.mem_of_getElem? (i := 19) rfl)
theorem d_Word_writtenBy_33 : decode prog_11_method_7_code 33 = .ok (.if_icmp .lt (9), 3) := id_Word_writtenBy_0 (33, .if_icmp .lt (9), 3) (List.mem_of_getElem? (i := 20) rfl)
theorem d_Word_writtenBy_36 : decode prog_11_method_7_code 36 = .ok (.iload_n 0, 1) := id_Word_writtenBy_0 (36, .iload_n 0, 1) (List.mem_of_getElem? (i := 21) rfl)
theorem d_Word_writtenBy_37 : decode prog_11_method_7_code 37 = .ok (.bipush (21), 2) := id_Word_writtenBy_0 (37, .bipush (21), 2) (List.mem_of_getElem? (i := 22) rfl)
theorem d_Word_writtenBy_39 : decode prog_11_method_7_code 39 = .ok (.if_icmp .le (45), 3) := id_Word_writtenBy_0 (39, .if_icmp .le (45), 3) (List.mem_of_getElem? (i := 23) rfl)
def it_Word_writtenBy_1 : List (Nat × ClassFile.Instr × Nat) := [(42, .iload_n 0, 1), (43, .bipush (41), 2), (45, .if_icmp .eq (39), 3), (48, .iload_n 0, 1), (49, .bipush (50), 2), (51, .if_icmp .eq (33), 3), (54, .iload_n 0, 1), (55, .bipush (52), 2), (57, .if_icmp .eq (27), 3), (60, .iload_n 0, 1), (61, .bipush (54), 2), (63, .if_icmp .lt (9), 3), (66, .iload_n 0, 1), (67, .bipush (59), 2), (69, .if_icmp .le (15), 3), (72, .iload_n 0, 1), (73, .bipush (72), 2), (75, .if_icmp .eq (9), 3), (78, .iload_n 0, 1), (79, .bipush (73), 2), (81, .if_icmp .ne (7), 3), (84, .iconst 1, 1), (85, .goto (4), 3), (88, .iconst 0, 1)]
theorem id_Word_writtenBy_1 : ∀ q ∈ it_Word_writtenBy_1, decode prog_11_method_7_code q.1 = .ok q.2 := by decide +kernel
theorem d_Word_writtenBy_42 : decode prog_11_method_7_code 42 = .ok (.iload_n 0, 1) := id_Word_writtenBy_1 (42, .iload_n 0, 1) (List.mem_of_getElem? (i := 0) rfl)
theorem d_Word_writtenBy_43 : decode prog_11_method_7_code 43 = .ok (.bipush (41), 2) := id_Word_writtenBy_1 (43, .bipush (41), 2) (List.mem_of_getElem? (i := 1) rfl)
theorem d_Word_writtenBy_45 : decode prog_11_method_7_code 45 = .ok (.if_icmp .eq (39), 3) := id_Word_writtenBy_1 (45, .if_icmp .eq (39), 3) (List.mem_of_getElem? (i := 2) rfl)
theorem d_Word_writtenBy_48 : decode prog_11_method_7_code 48 = .ok (.iload_n 0, 1) := id_Word_writtenBy_1 (48, .iload_n 0, 1) (List.mem_of_getElem? (i := 3) rfl)
theorem d_Word_writtenBy_49 : decode prog_11_method_7_code 49 = .ok (.bipush (50), 2) := id_Word_writtenBy_1 (49, .bipush (50), 2) (List.mem_of_getElem? (i := 4) rfl)
theorem d_Word_writtenBy_51 : decode prog_11_method_7_code 51 = .ok (.if_icmp .eq (33), 3) := id_Word_writtenBy_1 (51, .if_icmp .eq (33), 3) (List.mem_of_getElem? (i := 5) rfl)
theorem d_Word_writtenBy_54 : decode prog_11_method_7_code 54 = .ok (.iload_n 0, 1) := id_Word_writtenBy_1 (54, .iload_n 0, 1) (List.mem_of_getElem? (i := 6) rfl)
theorem d_Word_writtenBy_55 : decode prog_11_method_7_code 55 = .ok (.bipush (52), 2) := id_Word_writtenBy_1 (55, .bipush (52), 2) (List.mem_of_getElem? (i := 7) rfl)
theorem d_Word_writtenBy_57 : decode prog_11_method_7_code 57 = .ok (.if_icmp .eq (27), 3) := id_Word_writtenBy_1 (57, .if_icmp .eq (27), 3) (List.mem_of_getElem? (i := 8) rfl)
theorem d_Word_writtenBy_60 : decode prog_11_method_7_code 60 = .ok (.iload_n 0, 1) := id_Word_writtenBy_1 (60, .iload_n 0, 1) (List.mem_of_getElem? (i := 9) rfl)
theorem d_Word_writtenBy_61 : decode prog_11_method_7_code 61 = .ok (.bipush (54), 2) := id_Word_writtenBy_1 (61, .bipush (54), 2) (List.mem_of_getElem? (i := 10) rfl)
theorem d_Word_writtenBy_63 : decode prog_11_method_7_code 63 = .ok (.if_icmp .lt (9), 3) := id_Word_writtenBy_1 (63, .if_icmp .lt (9), 3) (List.mem_of_getElem? (i := 11) rfl)
theorem d_Word_writtenBy_66 : decode prog_11_method_7_code 66 = .ok (.iload_n 0, 1) := id_Word_writtenBy_1 (66, .iload_n 0, 1) (List.mem_of_getElem? (i := 12) rfl)
theorem d_Word_writtenBy_67 : decode prog_11_method_7_code 67 = .ok (.bipush (59), 2) := id_Word_writtenBy_1 (67, .bipush (59), 2) (List.mem_of_getElem? (i := 13) rfl)
theorem d_Word_writtenBy_69 : decode prog_11_method_7_code 69 = .ok (.if_icmp .le (15), 3) := id_Word_writtenBy_1 (69, .if_icmp .le (15), 3) (List.mem_of_getElem? (i := 14) rfl)
theorem d_Word_writtenBy_72 : decode prog_11_method_7_code 72 = .ok (.iload_n 0, 1) := id_Word_writtenBy_1 (72, .iload_n 0, 1) (List.mem_of_getElem? (i := 15) rfl)
theorem d_Word_writtenBy_73 : decode prog_11_method_7_code 73 = .ok (.bipush (72), 2) := id_Word_writtenBy_1 (73, .bipush (72), 2) (List.mem_of_getElem? (i := 16) rfl)
theorem d_Word_writtenBy_75 : decode prog_11_method_7_code 75 = .ok (.if_icmp .eq (9), 3) := id_Word_writtenBy_1 (75, .if_icmp .eq (9), 3) (List.mem_of_getElem? (i := 17) rfl)
theorem d_Word_writtenBy_78 : decode prog_11_method_7_code 78 = .ok (.iload_n 0, 1) := id_Word_writtenBy_1 (78, .iload_n 0, 1) (List.mem_of_getElem? (i := 18) rfl)
theorem d_Word_writtenBy_79 : decode prog_11_method_7_code 79 = .ok (.bipush (73), 2) := id_Word_writtenBy_1 (79, .bipush (73), 2) (List.mem_of_getElem? (i := 19) rfl)
theorem d_Word_writtenBy_81 : decode prog_11_method_7_code 81 = .ok (.if_icmp .ne (7), 3) := id_Word_writtenBy_1 (81, .if_icmp .ne (7), 3) (List.mem_of_getElem? (i := 20) rfl)
theorem d_Word_writtenBy_84 : decode prog_11_method_7_code 84 = .ok (.iconst 1, 1) := id_Word_writtenBy_1 (84, .iconst 1, 1) (List.mem_of_getElem? (i := 21) rfl)
theorem d_Word_writtenBy_85 : decode prog_11_method_7_code 85 = .ok (.goto (4), 3) := id_Word_writtenBy_1 (85, .goto (4), 3) (List.mem_of_getElem? (i := 22) rfl)
theorem d_Word_writtenBy_88 : decode prog_11_method_7_code 88 = .ok (.iconst 0, 1) := id_Word_writtenBy_1 (88, .iconst 0, 1) (List.mem_of_getElem? (i := 23) rfl)
def it_Word_writtenBy_2 : List (Nat × ClassFile.Instr × Nat) := [(89, .istore_n 2, 1), (90, .iload_n 2, 1), (91, .ifCond .eq (7), 3), (94, .iload_n 1, 1), (95, .goto (4), 3), (98, .iconst (-1), 1), (99, .ireturn, 1)]
theorem id_Word_writtenBy_2 : ∀ q ∈ it_Word_writtenBy_2, decode prog_11_method_7_code q.1 = .ok q.2 := by decide +kernel
theorem d_Word_writtenBy_89 : decode prog_11_method_7_code 89 = .ok (.istore_n 2, 1) := id_Word_writtenBy_2 (89, .istore_n 2, 1) (List.mem_of_getElem? (i := 0) rfl)
theorem d_Word_writtenBy_90 : decode prog_11_method_7_code 90 = .ok (.iload_n 2, 1) := id_Word_writtenBy_2 (90, .iload_n 2, 1) (List.mem_of_getElem? (i := 1) rfl)
theorem d_Word_writtenBy_91 : decode prog_11_method_7_code 91 = .ok (.ifCond .eq (7), 3) := id_Word_writtenBy_2 (91, .ifCond .eq (7), 3) (List.mem_of_getElem? (i := 2) rfl)
theorem d_Word_writtenBy_94 : decode prog_11_method_7_code 94 = .ok (.iload_n 1, 1) := id_Word_writtenBy_2 (94, .iload_n 1, 1) (List.mem_of_getElem? (i := 3) rfl)
theorem d_Word_writtenBy_95 : decode prog_11_method_7_code 95 = .ok (.goto (4), 3) := id_Word_writtenBy_2 (95, .goto (4), 3) (List.mem_of_getElem? (i := 4) rfl)
theorem d_Word_writtenBy_98 : decode prog_11_method_7_code 98 = .ok (.iconst (-1), 1) := id_Word_writtenBy_2 (98, .iconst (-1), 1) (List.mem_of_getElem? (i := 5) rfl)
theorem d_Word_writtenBy_99 : decode prog_11_method_7_code 99 = .ok (.ireturn, 1) := id_Word_writtenBy_2 (99, .ireturn, 1) (List.mem_of_getElem? (i := 6) rfl)
theorem wC_Word_writtenBy : Cond.code ⟨"WarpMill$Word", "writtenBy", "(II)I"⟩ prog_11_method_7_code 3 (some .int) ∈ lw_tb := mem_tb 276 (by decide +kernel) rfl
def b_Word_writtenBy_89 (F : Nat) (x1 : Int32) (s0 : Int32) (h : Hp) : Option (Int32 × Hp) := if s0 = 0 then (some ((-1 : Int32), h)) else (some (x1, h))
set_option maxRecDepth 100000 in
set_option maxHeartbeats 4000000 in
theorem e_Word_writtenBy_89 {G : Gl} {h0 : Hp} {F : Nat} {r : Int32} {h' : Hp}   {x1 : Int32} {s0 : Int32} {h : Hp} (hf : b_Word_writtenBy_89 F x1 s0 h = some (r, h')) : Go G mi_Word_writtenBy h0 (pI r h') h 89 [(1, .int x1)] [.int s0] := by
  unfold b_Word_writtenBy_89 at hf
  refine g_istore_n d_Word_writtenBy_89 (by decide) ?_
  show Go _ _ _ _ _ _ [(1, _), (2, _)] _
  refine g_iload_n d_Word_writtenBy_90 rfl ?_
  refine g_if_eq 98 d_Word_writtenBy_91 (by decide) (fun c_91 => ?_) (fun c_91 => ?_)
  · have hf := ifp hf c_91
    refine g_iconst (-1) d_Word_writtenBy_98 (by decide) ?_
    exact Go.ret (some _) (rOk_i _) rfl d_Word_writtenBy_99 (pI_of hf)
  · have hf := ifn hf c_91
    refine g_iload_n d_Word_writtenBy_94 rfl ?_
    refine g_goto 99 d_Word_writtenBy_95 (by decide) ?_
    exact Go.ret (some _) (rOk_i _) rfl d_Word_writtenBy_99 (pI_of hf)
def b_Word_writtenBy_84 (F : Nat) (x1 : Int32) (h : Hp) : Option (Int32 × Hp) := b_Word_writtenBy_89 F x1 (1 : Int32) h
set_option maxRecDepth 100000 in
set_option maxHeartbeats 4000000 in
theorem e_Word_writtenBy_84 {G : Gl} {h0 : Hp} {F : Nat} {r : Int32} {h' : Hp}   {x1 : Int32} {h : Hp} (hf : b_Word_writtenBy_84 F x1 h = some (r, h')) : Go G mi_Word_writtenBy h0 (pI r h') h 84 [(1, .int x1)] [] := by
  unfold b_Word_writtenBy_84 at hf
  refine g_iconst 1 d_Word_writtenBy_84 (by decide) ?_
  refine g_goto 89 d_Word_writtenBy_85 (by decide) ?_
  have key := e_Word_writtenBy_89 (G := G) (h0 := h0)  hf
  exact key
def b_Word_writtenBy_72 (F : Nat) (x0 : Int32) (x1 : Int32) (h : Hp) : Option (Int32 × Hp) := if x0 = (72 : Int32) then (b_Word_writtenBy_84 F x1 h) else (if x0 = (73 : Int32) then (b_Word_writtenBy_84 F x1 h) else (b_Word_writtenBy_89 F x1 (0 : Int32) h))
set_option maxRecDepth 100000 in
set_option maxHeartbeats 4000000 in
theorem e_Word_writtenBy_72 {G : Gl} {h0 : Hp} {F : Nat} {r : Int32} {h' : Hp}   {x0 : Int32} {x1 : Int32} {h : Hp} (hf : b_Word_writtenBy_72 F x0 x1 h = some (r, h')) : Go G mi_Word_writtenBy h0 (pI r h') h 72 [(0, .int x0), (1, .int x1)] [] := by
  unfold b_Word_writtenBy_72 at hf
  refine g_iload_n d_Word_writtenBy_72 rfl ?_
  refine g_bipush (72) d_Word_writtenBy_73 (by decide) ?_
  refine g_icmp_eq 84 d_Word_writtenBy_75 (by decide) (fun c_75 => ?_) (fun c_75 => ?_)
  · have hf := ifp hf c_75
    refine Go.locals [1] rfl ?_
    have key := e_Word_writtenBy_84 (G := G) (h0 := h0)  hf
    exact key
  · have hf := ifn hf c_75
    refine g_iload_n d_Word_writtenBy_78 rfl ?_
    refine g_bipush (73) d_Word_writtenBy_79 (by decide) ?_
    refine g_icmp_ne 88 d_Word_writtenBy_81 (by decide) (fun c_81 => ?_) (fun c_81 => ?_)
    · have hf := ifn hf c_81
      refine g_iconst 0 d_Word_writtenBy_88 (by decide) ?_
      refine Go.locals [1] rfl ?_
      have key := e_Word_writtenBy_89 (G := G) (h0 := h0)  hf
      exact key
    · have hf := ifp hf c_81
      refine Go.locals [1] rfl ?_
      have key := e_Word_writtenBy_84 (G := G) (h0 := h0)  hf
      exact key
def b_Word_writtenBy_42 (F : Nat) (x0 : Int32) (x1 : Int32) (h : Hp) : Option (Int32 × Hp) := if x0 = (41 : Int32) then (b_Word_writtenBy_84 F x1 h) else (if x0 = (50 : Int32) then (b_Word_writtenBy_84 F x1 h) else (if x0 = (52 : Int32) then (b_Word_writtenBy_84 F x1 h) else (if x0 < (54 : Int32) then (b_Word_writtenBy_72 F x0 x1 h) else (if x0 ≤ (59 : Int32) then (b_Word_writtenBy_84 F x1 h) else (b_Word_writtenBy_72 F x0 x1 h)))))
set_option maxRecDepth 100000 in
set_option maxHeartbeats 4000000 in
theorem e_Word_writtenBy_42 {G : Gl} {h0 : Hp} {F : Nat} {r : Int32} {h' : Hp}   {x0 : Int32} {x1 : Int32} {h : Hp} (hf : b_Word_writtenBy_42 F x0 x1 h = some (r, h')) : Go G mi_Word_writtenBy h0 (pI r h') h 42 [(0, .int x0), (1, .int x1)] [] := by
  unfold b_Word_writtenBy_42 at hf
  refine g_iload_n d_Word_writtenBy_42 rfl ?_
  refine g_bipush (41) d_Word_writtenBy_43 (by decide) ?_
  refine g_icmp_eq 84 d_Word_writtenBy_45 (by decide) (fun c_45 => ?_) (fun c_45 => ?_)
  · have hf := ifp hf c_45
    refine Go.locals [1] rfl ?_
    have key := e_Word_writtenBy_84 (G := G) (h0 := h0)  hf
    exact key
  · have hf := ifn hf c_45
    refine g_iload_n d_Word_writtenBy_48 rfl ?_
    refine g_bipush (50) d_Word_writtenBy_49 (by decide) ?_
    refine g_icmp_eq 84 d_Word_writtenBy_51 (by decide) (fun c_51 => ?_) (fun c_51 => ?_)
    · have hf := ifp hf c_51
      refine Go.locals [1] rfl ?_
      have key := e_Word_writtenBy_84 (G := G) (h0 := h0)  hf
      exact key
    · have hf := ifn hf c_51
      refine g_iload_n d_Word_writtenBy_54 rfl ?_
      refine g_bipush (52) d_Word_writtenBy_55 (by decide) ?_
      refine g_icmp_eq 84 d_Word_writtenBy_57 (by decide) (fun c_57 => ?_) (fun c_57 => ?_)
      · have hf := ifp hf c_57
        refine Go.locals [1] rfl ?_
        have key := e_Word_writtenBy_84 (G := G) (h0 := h0)  hf
        exact key
      · have hf := ifn hf c_57
        refine g_iload_n d_Word_writtenBy_60 rfl ?_
        refine g_bipush (54) d_Word_writtenBy_61 (by decide) ?_
        refine g_icmp_lt 72 d_Word_writtenBy_63 (by decide) (fun c_63 => ?_) (fun c_63 => ?_)
        · have hf := ifp hf c_63
          have key := e_Word_writtenBy_72 (G := G) (h0 := h0)  hf
          exact key
        · have hf := ifn hf c_63
          refine g_iload_n d_Word_writtenBy_66 rfl ?_
          refine g_bipush (59) d_Word_writtenBy_67 (by decide) ?_
          refine g_icmp_le 84 d_Word_writtenBy_69 (by decide) (fun c_69 => ?_) (fun c_69 => ?_)
          · have hf := ifp hf c_69
            refine Go.locals [1] rfl ?_
            have key := e_Word_writtenBy_84 (G := G) (h0 := h0)  hf
            exact key
          · have hf := ifn hf c_69
            have key := e_Word_writtenBy_72 (G := G) (h0 := h0)  hf
            exact key
def b_Word_writtenBy_12 (F : Nat) (x0 : Int32) (x1 : Int32) (h : Hp) : Option (Int32 × Hp) := if x0 = (70 : Int32) then (some (((16 : Int32) + (x1 &&& (3 : Int32))), h)) else (if x0 = (71 : Int32) then (some (((16 : Int32) + (x1 &&& (3 : Int32))), h)) else (if x0 < (2 : Int32) then (b_Word_writtenBy_42 F x0 x1 h) else (if x0 ≤ (21 : Int32) then (b_Word_writtenBy_84 F x1 h) else (b_Word_writtenBy_42 F x0 x1 h))))
set_option maxRecDepth 100000 in
set_option maxHeartbeats 4000000 in
theorem e_Word_writtenBy_12 {G : Gl} {h0 : Hp} {F : Nat} {r : Int32} {h' : Hp}   {x0 : Int32} {x1 : Int32} {h : Hp} (hf : b_Word_writtenBy_12 F x0 x1 h = some (r, h')) : Go G mi_Word_writtenBy h0 (pI r h') h 12 [(0, .int x0), (1, .int x1)] [] := by
  unfold b_Word_writtenBy_12 at hf
  refine g_iload_n d_Word_writtenBy_12 rfl ?_
  refine g_bipush (70) d_Word_writtenBy_13 (by decide) ?_
  refine g_icmp_eq 24 d_Word_writtenBy_15 (by decide) (fun c_15 => ?_) (fun c_15 => ?_)
  · have hf := ifp hf c_15
    refine g_bipush (16) d_Word_writtenBy_24 (by decide) ?_
    refine g_iload_n d_Word_writtenBy_26 rfl ?_
    refine g_iconst 3 d_Word_writtenBy_27 (by decide) ?_
    refine g_iand d_Word_writtenBy_28 ?_
    refine g_iadd d_Word_writtenBy_29 ?_
    exact Go.ret (some _) (rOk_i _) rfl d_Word_writtenBy_30 (pI_of hf)
  · have hf := ifn hf c_15
    refine g_iload_n d_Word_writtenBy_18 rfl ?_
    refine g_bipush (71) d_Word_writtenBy_19 (by decide) ?_
    refine g_icmp_ne 31 d_Word_writtenBy_21 (by decide) (fun c_21 => ?_) (fun c_21 => ?_)
    · have hf := ifn hf c_21
      refine g_iload_n d_Word_writtenBy_31 rfl ?_
      refine g_iconst 2 d_Word_writtenBy_32 (by decide) ?_
      refine g_icmp_lt 42 d_Word_writtenBy_33 (by decide) (fun c_33 => ?_) (fun c_33 => ?_)
      · have hf := ifp hf c_33
        have key := e_Word_writtenBy_42 (G := G) (h0 := h0)  hf
        exact key
      · have hf := ifn hf c_33
        refine g_iload_n d_Word_writtenBy_36 rfl ?_
        refine g_bipush (21) d_Word_writtenBy_37 (by decide) ?_
        refine g_icmp_le 84 d_Word_writtenBy_39 (by decide) (fun c_39 => ?_) (fun c_39 => ?_)
        · have hf := ifp hf c_39
          refine Go.locals [1] rfl ?_
          have key := e_Word_writtenBy_84 (G := G) (h0 := h0)  hf
          exact key
        · have hf := ifn hf c_39
          have key := e_Word_writtenBy_42 (G := G) (h0 := h0)  hf
          exact key
    · have hf := ifp hf c_21
      refine g_bipush (16) d_Word_writtenBy_24 (by decide) ?_
      refine g_iload_n d_Word_writtenBy_26 rfl ?_
      refine g_iconst 3 d_Word_writtenBy_27 (by decide) ?_
      refine g_iand d_Word_writtenBy_28 ?_
      refine g_iadd d_Word_writtenBy_29 ?_
      exact Go.ret (some _) (rOk_i _) rfl d_Word_writtenBy_30 (pI_of hf)
def f_Word_writtenBy (F : Nat) (x0 : Int32) (x1 : Int32) (h : Hp) : Option (Int32 × Hp) := if x0 < (30 : Int32) then (b_Word_writtenBy_12 F x0 x1 h) else (if x0 ≤ (36 : Int32) then (some (((16 : Int32) + (x1 &&& (3 : Int32))), h)) else (b_Word_writtenBy_12 F x0 x1 h))
set_option maxRecDepth 100000 in
set_option maxHeartbeats 4000000 in
theorem e_Word_writtenBy {G : Gl} {F : Nat} {r : Int32} {h' : Hp} {x0 : Int32} {x1 : Int32} {h : Hp} (hf : f_Word_writtenBy F x0 x1 h = some (r, h')) : Ex G mi_Word_writtenBy [.int x0, .int x1] h (pI r h') := by
  unfold f_Word_writtenBy at hf
  refine Ex.of nmI (by decide) (Nat.le_of_ble_eq_true rfl) ?_
  show Go G mi_Word_writtenBy h _ h 0 [(0, .int x0), (1, .int x1)] []
  refine g_iload_n d_Word_writtenBy_0 rfl ?_
  refine g_bipush (30) d_Word_writtenBy_1 (by decide) ?_
  refine g_icmp_lt 12 d_Word_writtenBy_3 (by decide) (fun c_3 => ?_) (fun c_3 => ?_)
  · have hf := ifp hf c_3
    have key := e_Word_writtenBy_12 (G := G) (h0 := h)  hf
    exact key
  · have hf := ifn hf c_3
    refine g_iload_n d_Word_writtenBy_6 rfl ?_
    refine g_bipush (36) d_Word_writtenBy_7 (by decide) ?_
    refine g_icmp_le 24 d_Word_writtenBy_9 (by decide) (fun c_9 => ?_) (fun c_9 => ?_)
    · have hf := ifp hf c_9
      refine g_bipush (16) d_Word_writtenBy_24 (by decide) ?_
      refine g_iload_n d_Word_writtenBy_26 rfl ?_
      refine g_iconst 3 d_Word_writtenBy_27 (by decide) ?_
      refine g_iand d_Word_writtenBy_28 ?_
      refine g_iadd d_Word_writtenBy_29 ?_
      exact Go.ret (some _) (rOk_i _) rfl d_Word_writtenBy_30 (pI_of hf)
    · have hf := ifn hf c_9
      have key := e_Word_writtenBy_12 (G := G) (h0 := h)  hf
      exact key
abbrev mi_Word_tickOf : MI := (⟨"WarpMill$Word", "tickOf", "(I)I"⟩, prog_11_method_6_code, 1, some .int, 0, 0)
def it_Word_tickOf_0 : List (Nat × ClassFile.Instr × Nat) := [(0, .iconst 1, 1), (1, .bipush (16), 2), (3, .iload_n 0, 1), (4, .iconst 3, 1), (5, .iand, 1), (6, .iadd, 1), (7, .ishl, 1), (8, .ireturn, 1)]
theorem id_Word_tickOf_0 : ∀ q ∈ it_Word_tickOf_0, decode prog_11_method_6_code q.1 = .ok q.2 := by decide +kernel
theorem d_Word_tickOf_0 : decode prog_11_method_6_code 0 = .ok (.iconst 1, 1) := id_Word_tickOf_0 (0, .iconst 1, 1) (List.mem_of_getElem? (i := 0) rfl)
theorem d_Word_tickOf_1 : decode prog_11_method_6_code 1 = .ok (.bipush (16), 2) := id_Word_tickOf_0 (1, .bipush (16), 2) (List.mem_of_getElem? (i := 1) rfl)
theorem d_Word_tickOf_3 : decode prog_11_method_6_code 3 = .ok (.iload_n 0, 1) := id_Word_tickOf_0 (3, .iload_n 0, 1) (List.mem_of_getElem? (i := 2) rfl)
theorem d_Word_tickOf_4 : decode prog_11_method_6_code 4 = .ok (.iconst 3, 1) := id_Word_tickOf_0 (4, .iconst 3, 1) (List.mem_of_getElem? (i := 3) rfl)
theorem d_Word_tickOf_5 : decode prog_11_method_6_code 5 = .ok (.iand, 1) := id_Word_tickOf_0 (5, .iand, 1) (List.mem_of_getElem? (i := 4) rfl)
theorem d_Word_tickOf_6 : decode prog_11_method_6_code 6 = .ok (.iadd, 1) := id_Word_tickOf_0 (6, .iadd, 1) (List.mem_of_getElem? (i := 5) rfl)
theorem d_Word_tickOf_7 : decode prog_11_method_6_code 7 = .ok (.ishl, 1) := id_Word_tickOf_0 (7, .ishl, 1) (List.mem_of_getElem? (i := 6) rfl)
theorem d_Word_tickOf_8 : decode prog_11_method_6_code 8 = .ok (.ireturn, 1) := id_Word_tickOf_0 (8, .ireturn, 1) (List.mem_of_getElem? (i := 7) rfl)
theorem wC_Word_tickOf : Cond.code ⟨"WarpMill$Word", "tickOf", "(I)I"⟩ prog_11_method_6_code 1 (some .int) ∈ lw_tb := mem_tb 282 (by decide +kernel) rfl
def f_Word_tickOf (F : Nat) (x0 : Int32) (h : Hp) : Option (Int32 × Hp) := some (((1 : Int32) <<< (((16 : Int32) + (x0 &&& (3 : Int32))) &&& 31)), h)
set_option maxRecDepth 100000 in
set_option maxHeartbeats 4000000 in
theorem e_Word_tickOf {G : Gl} {F : Nat} {r : Int32} {h' : Hp} {x0 : Int32} {h : Hp} (hf : f_Word_tickOf F x0 h = some (r, h')) : Ex G mi_Word_tickOf [.int x0] h (pI r h') := by
  unfold f_Word_tickOf at hf
  refine Ex.of nmI (by decide) (Nat.le_of_ble_eq_true rfl) ?_
  show Go G mi_Word_tickOf h _ h 0 [(0, .int x0)] []
  refine g_iconst 1 d_Word_tickOf_0 (by decide) ?_
  refine g_bipush (16) d_Word_tickOf_1 (by decide) ?_
  refine g_iload_n d_Word_tickOf_3 rfl ?_
  refine g_iconst 3 d_Word_tickOf_4 (by decide) ?_
  refine g_iand d_Word_tickOf_5 ?_
  refine g_iadd d_Word_tickOf_6 ?_
  refine g_ishl d_Word_tickOf_7 ?_
  exact Go.ret (some _) (rOk_i _) rfl d_Word_tickOf_8 (pI_of hf)
abbrev mi_Word_predicatesReadBy : MI := (⟨"WarpMill$Word", "predicatesReadBy", "(IIII)I"⟩, prog_11_method_5_code, 4, some .int, 1, 20)
def it_Word_predicatesReadBy_0 : List (Nat × ClassFile.Instr × Nat) := [(0, .iload_n 0, 1), (1, .bipush (21), 2), (3, .if_icmp .ne (8), 3), (6, .iload_n 3, 1), (7, .invokestatic 71, 3), (10, .ireturn, 1), (11, .iload_n 0, 1), (12, .bipush (34), 2), (14, .if_icmp .eq (9), 3), (17, .iload_n 0, 1), (18, .bipush (35), 2), (20, .if_icmp .ne (13), 3), (23, .iload_n 1, 1), (24, .invokestatic 71, 3), (27, .iload_n 2, 1), (28, .invokestatic 71, 3), (31, .ior, 1), (32, .ireturn, 1), (33, .iload_n 0, 1), (34, .bipush (36), 2), (36, .if_icmp .eq (15), 3), (39, .iload_n 0, 1), (40, .bipush (70), 2), (42, .if_icmp .lt (16), 3)]
theorem id_Word_predicatesReadBy_0 : ∀ q ∈ it_Word_predicatesReadBy_0, decode prog_11_method_5_code q.1 = .ok q.2 := by decide +kernel
theorem d_Word_predicatesReadBy_0 : decode prog_11_method_5_code 0 = .ok (.iload_n 0, 1) := id_Word_predicatesReadBy_0 (0, .iload_n 0, 1) (List.mem_of_getElem? (i := 0) rfl)
theorem d_Word_predicatesReadBy_1 : decode prog_11_method_5_code 1 = .ok (.bipush (21), 2) := id_Word_predicatesReadBy_0 (1, .bipush (21), 2) (List.mem_of_getElem? (i := 1) rfl)
theorem d_Word_predicatesReadBy_3 : decode prog_11_method_5_code 3 = .ok (.if_icmp .ne (8), 3) := id_Word_predicatesReadBy_0 (3, .if_icmp .ne (8), 3) (List.mem_of_getElem? (i := 2) rfl)
theorem d_Word_predicatesReadBy_6 : decode prog_11_method_5_code 6 = .ok (.iload_n 3, 1) := id_Word_predicatesReadBy_0 (6, .iload_n 3, 1) (List.mem_of_getElem? (i := 3) rfl)
theorem d_Word_predicatesReadBy_7 : decode prog_11_method_5_code 7 = .ok (.invokestatic 71, 3) := id_Word_predicatesReadBy_0 (7, .invokestatic 71, 3) (List.mem_of_getElem? (i := 4) rfl)
theorem d_Word_predicatesReadBy_10 : decode prog_11_method_5_code 10 = .ok (.ireturn, 1) := id_Word_predicatesReadBy_0 (10, .ireturn, 1) (List.mem_of_getElem? (i := 5) rfl)
theorem d_Word_predicatesReadBy_11 : decode prog_11_method_5_code 11 = .ok (.iload_n 0, 1) := id_Word_predicatesReadBy_0 (11, .iload_n 0, 1) (List.mem_of_getElem? (i := 6) rfl)
theorem d_Word_predicatesReadBy_12 : decode prog_11_method_5_code 12 = .ok (.bipush (34), 2) := id_Word_predicatesReadBy_0 (12, .bipush (34), 2) (List.mem_of_getElem? (i := 7) rfl)
theorem d_Word_predicatesReadBy_14 : decode prog_11_method_5_code 14 = .ok (.if_icmp .eq (9), 3) := id_Word_predicatesReadBy_0 (14, .if_icmp .eq (9), 3) (List.mem_of_getElem? (i := 8) rfl)
theorem d_Word_predicatesReadBy_17 : decode prog_11_method_5_code 17 = .ok (.iload_n 0, 1) := id_Word_predicatesReadBy_0 (17, .iload_n 0, 1) (List.mem_of_getElem? (i := 9) rfl)
theorem d_Word_predicatesReadBy_18 : decode prog_11_method_5_code 18 = .ok (.bipush (35), 2) := id_Word_predicatesReadBy_0 (18, .bipush (35), 2) (List.mem_of_getElem? (i := 10) rfl)
theorem d_Word_predicatesReadBy_20 : decode prog_11_method_5_code 20 = .ok (.if_icmp .ne (13), 3) := id_Word_predicatesReadBy_0 (20, .if_icmp .ne (13), 3) (List.mem_of_getElem? (i := 11) rfl)
theorem d_Word_predicatesReadBy_23 : decode prog_11_method_5_code 23 = .ok (.iload_n 1, 1) := id_Word_predicatesReadBy_0 (23, .iload_n 1, 1) (List.mem_of_getElem? (i := 12) rfl)
theorem d_Word_predicatesReadBy_24 : decode prog_11_method_5_code 24 = .ok (.invokestatic 71, 3) := id_Word_predicatesReadBy_0 (24, .invokestatic 71, 3) (List.mem_of_getElem? (i := 13) rfl)
theorem d_Word_predicatesReadBy_27 : decode prog_11_method_5_code 27 = .ok (.iload_n 2, 1) := id_Word_predicatesReadBy_0 (27, .iload_n 2, 1) (List.mem_of_getElem? (i := 14) rfl)
theorem d_Word_predicatesReadBy_28 : decode prog_11_method_5_code 28 = .ok (.invokestatic 71, 3) := id_Word_predicatesReadBy_0 (28, .invokestatic 71, 3) (List.mem_of_getElem? (i := 15) rfl)
theorem d_Word_predicatesReadBy_31 : decode prog_11_method_5_code 31 = .ok (.ior, 1) := id_Word_predicatesReadBy_0 (31, .ior, 1) (List.mem_of_getElem? (i := 16) rfl)
theorem d_Word_predicatesReadBy_32 : decode prog_11_method_5_code 32 = .ok (.ireturn, 1) := id_Word_predicatesReadBy_0 (32, .ireturn, 1) (List.mem_of_getElem? (i := 17) rfl)
theorem d_Word_predicatesReadBy_33 : decode prog_11_method_5_code 33 = .ok (.iload_n 0, 1) := id_Word_predicatesReadBy_0 (33, .iload_n 0, 1) (List.mem_of_getElem? (i := 18) rfl)
theorem d_Word_predicatesReadBy_34 : decode prog_11_method_5_code 34 = .ok (.bipush (36), 2) := id_Word_predicatesReadBy_0 (34, .bipush (36), 2) (List.mem_of_getElem? (i := 19) rfl)
theorem d_Word_predicatesReadBy_36 : decode prog_11_method_5_code 36 = .ok (.if_icmp .eq (15), 3) := id_Word_predicatesReadBy_0 (36, .if_icmp .eq (15), 3) (List.mem_of_getElem? (i := 20) rfl)
theorem d_Word_predicatesReadBy_39 : decode prog_11_method_5_code 39 = .ok (.iload_n 0, 1) := id_Word_predicatesReadBy_0 (39, .iload_n 0, 1) (List.mem_of_getElem? (i := 21) rfl)
theorem d_Word_predicatesReadBy_40 : decode prog_11_method_5_code 40 = .ok (.bipush (70), 2) := id_Word_predicatesReadBy_0 (40, .bipush (70), 2) (List.mem_of_getElem? (i := 22) rfl)
theorem d_Word_predicatesReadBy_42 : decode prog_11_method_5_code 42 = .ok (.if_icmp .lt (16), 3) := id_Word_predicatesReadBy_0 (42, .if_icmp .lt (16), 3) (List.mem_of_getElem? (i := 23) rfl)
def it_Word_predicatesReadBy_1 : List (Nat × ClassFile.Instr × Nat) := [(45, .iload_n 0, 1), (46, .bipush (72), 2), (48, .if_icmp .gt (10), 3), (51, .iload_n 1, 1), (52, .invokestatic 71, 3), (55, .goto (4), 3), (58, .iconst 0, 1), (59, .ireturn, 1)]
theorem id_Word_predicatesReadBy_1 : ∀ q ∈ it_Word_predicatesReadBy_1, decode prog_11_method_5_code q.1 = .ok q.2 := by decide +kernel
theorem d_Word_predicatesReadBy_45 : decode prog_11_method_5_code 45 = .ok (.iload_n 0, 1) := id_Word_predicatesReadBy_1 (45, .iload_n 0, 1) (List.mem_of_getElem? (i := 0) rfl)
theorem d_Word_predicatesReadBy_46 : decode prog_11_method_5_code 46 = .ok (.bipush (72), 2) := id_Word_predicatesReadBy_1 (46, .bipush (72), 2) (List.mem_of_getElem? (i := 1) rfl)
theorem d_Word_predicatesReadBy_48 : decode prog_11_method_5_code 48 = .ok (.if_icmp .gt (10), 3) := id_Word_predicatesReadBy_1 (48, .if_icmp .gt (10), 3) (List.mem_of_getElem? (i := 2) rfl)
theorem d_Word_predicatesReadBy_51 : decode prog_11_method_5_code 51 = .ok (.iload_n 1, 1) := id_Word_predicatesReadBy_1 (51, .iload_n 1, 1) (List.mem_of_getElem? (i := 3) rfl)
theorem d_Word_predicatesReadBy_52 : decode prog_11_method_5_code 52 = .ok (.invokestatic 71, 3) := id_Word_predicatesReadBy_1 (52, .invokestatic 71, 3) (List.mem_of_getElem? (i := 4) rfl)
theorem d_Word_predicatesReadBy_55 : decode prog_11_method_5_code 55 = .ok (.goto (4), 3) := id_Word_predicatesReadBy_1 (55, .goto (4), 3) (List.mem_of_getElem? (i := 5) rfl)
theorem d_Word_predicatesReadBy_58 : decode prog_11_method_5_code 58 = .ok (.iconst 0, 1) := id_Word_predicatesReadBy_1 (58, .iconst 0, 1) (List.mem_of_getElem? (i := 6) rfl)
theorem d_Word_predicatesReadBy_59 : decode prog_11_method_5_code 59 = .ok (.ireturn, 1) := id_Word_predicatesReadBy_1 (59, .ireturn, 1) (List.mem_of_getElem? (i := 7) rfl)
theorem wC_Word_predicatesReadBy : Cond.code ⟨"WarpMill$Word", "predicatesReadBy", "(IIII)I"⟩ prog_11_method_5_code 4 (some .int) ∈ lw_tb := mem_tb 279 (by decide +kernel) rfl
theorem cw_Word_predicatesReadBy_Word_tickOf : cW mi_Word_predicatesReadBy mi_Word_tickOf 1 := ⟨wC_Word_tickOf, wi_Word, ⟨by decide, by decide, by decide +kernel⟩, by decide, by decide⟩
def b_Word_predicatesReadBy_23 (F : Nat) (x1 : Int32) (x2 : Int32) (h : Hp) : Option (Int32 × Hp) := cl (f_Word_tickOf F x1 h) fun v_24 h_24 => cl (f_Word_tickOf F x2 h_24) fun v_28 h_28 => some ((v_24 ||| v_28), h_28)
set_option maxRecDepth 100000 in
set_option maxHeartbeats 4000000 in
theorem e_Word_predicatesReadBy_23 {G : Gl} {h0 : Hp} {F : Nat} {r : Int32} {h' : Hp}   {x1 : Int32} {x2 : Int32} {h : Hp} (hf : b_Word_predicatesReadBy_23 F x1 x2 h = some (r, h')) : Go G mi_Word_predicatesReadBy h0 (pI r h') h 23 [(1, .int x1), (2, .int x2)] [] := by
  unfold b_Word_predicatesReadBy_23 at hf
  refine g_iload_n d_Word_predicatesReadBy_23 rfl ?_
  obtain ⟨v_24, h_24, e_24, hf⟩ := cl_s hf
  refine g_callS (mz := mi_Word_tickOf) (e_Word_tickOf e_24) cw_Word_predicatesReadBy_Word_tickOf lm_Word_71 wS_Word_tickOf d_Word_predicatesReadBy_24 rfl rfl (by first | exact Nat.le_of_ble_eq_true rfl | simp [cat_rf, Value.category]) (fun r1 h1 hp hro => ?_)
  obtain ⟨rfl, rfl⟩ := hp
  dsimp only [Option.toList_some, Option.toList_none, List.cons_append, List.nil_append]
  refine g_iload_n d_Word_predicatesReadBy_27 rfl ?_
  obtain ⟨v_28, h_28, e_28, hf⟩ := cl_s hf
  refine g_callS (mz := mi_Word_tickOf) (e_Word_tickOf e_28) cw_Word_predicatesReadBy_Word_tickOf lm_Word_71 wS_Word_tickOf d_Word_predicatesReadBy_28 rfl rfl (by first | exact Nat.le_of_ble_eq_true rfl | simp [cat_rf, Value.category]) (fun r1 h1 hp hro => ?_)
  obtain ⟨rfl, rfl⟩ := hp
  dsimp only [Option.toList_some, Option.toList_none, List.cons_append, List.nil_append]
  refine g_ior d_Word_predicatesReadBy_31 ?_
  exact Go.ret (some _) (rOk_i _) rfl d_Word_predicatesReadBy_32 (pI_of hf)
def b_Word_predicatesReadBy_51 (F : Nat) (x1 : Int32) (h : Hp) : Option (Int32 × Hp) := cl (f_Word_tickOf F x1 h) fun v_52 h_52 => some (v_52, h_52)
set_option maxRecDepth 100000 in
set_option maxHeartbeats 4000000 in
theorem e_Word_predicatesReadBy_51 {G : Gl} {h0 : Hp} {F : Nat} {r : Int32} {h' : Hp}   {x1 : Int32} {h : Hp} (hf : b_Word_predicatesReadBy_51 F x1 h = some (r, h')) : Go G mi_Word_predicatesReadBy h0 (pI r h') h 51 [(1, .int x1)] [] := by
  unfold b_Word_predicatesReadBy_51 at hf
  refine g_iload_n d_Word_predicatesReadBy_51 rfl ?_
  obtain ⟨v_52, h_52, e_52, hf⟩ := cl_s hf
  refine g_callS (mz := mi_Word_tickOf) (e_Word_tickOf e_52) cw_Word_predicatesReadBy_Word_tickOf lm_Word_71 wS_Word_tickOf d_Word_predicatesReadBy_52 rfl rfl (by first | exact Nat.le_of_ble_eq_true rfl | simp [cat_rf, Value.category]) (fun r1 h1 hp hro => ?_)
  obtain ⟨rfl, rfl⟩ := hp
  dsimp only [Option.toList_some, Option.toList_none, List.cons_append, List.nil_append]
  refine g_goto 59 d_Word_predicatesReadBy_55 (by decide) ?_
  exact Go.ret (some _) (rOk_i _) rfl d_Word_predicatesReadBy_59 (pI_of hf)
def f_Word_predicatesReadBy (F : Nat) (x0 : Int32) (x1 : Int32) (x2 : Int32) (x3 : Int32) (h : Hp) : Option (Int32 × Hp) := if x0 = (21 : Int32) then (cl (f_Word_tickOf F x3 h) fun v_7 h_7 => some (v_7, h_7)) else (if x0 = (34 : Int32) then (b_Word_predicatesReadBy_23 F x1 x2 h) else (if x0 = (35 : Int32) then (b_Word_predicatesReadBy_23 F x1 x2 h) else (if x0 = (36 : Int32) then (b_Word_predicatesReadBy_51 F x1 h) else (if x0 < (70 : Int32) then (some ((0 : Int32), h)) else (if (72 : Int32) < x0 then (some ((0 : Int32), h)) else (b_Word_predicatesReadBy_51 F x1 h))))))
set_option maxRecDepth 100000 in
set_option maxHeartbeats 4000000 in
theorem e_Word_predicatesReadBy {G : Gl} {F : Nat} {r : Int32} {h' : Hp} {x0 : Int32} {x1 : Int32} {x2 : Int32} {x3 : Int32} {h : Hp} (hf : f_Word_predicatesReadBy F x0 x1 x2 x3 h = some (r, h')) : Ex G mi_Word_predicatesReadBy [.int x0, .int x1, .int x2, .int x3] h (pI r h') := by
  unfold f_Word_predicatesReadBy at hf
  refine Ex.of nmI (by decide) (Nat.le_of_ble_eq_true rfl) ?_
  show Go G mi_Word_predicatesReadBy h _ h 0 [(0, .int x0), (1, .int x1), (2, .int x2), (3, .int x3)] []
  refine g_iload_n d_Word_predicatesReadBy_0 rfl ?_
  refine g_bipush (21) d_Word_predicatesReadBy_1 (by decide) ?_
  refine g_icmp_ne 11 d_Word_predicatesReadBy_3 (by decide) (fun c_3 => ?_) (fun c_3 => ?_)
  · have hf := ifn hf c_3
    refine g_iload_n d_Word_predicatesReadBy_11 rfl ?_
    refine g_bipush (34) d_Word_predicatesReadBy_12 (by decide) ?_
    refine g_icmp_eq 23 d_Word_predicatesReadBy_14 (by decide) (fun c_14 => ?_) (fun c_14 => ?_)
    · have hf := ifp hf c_14
      refine Go.locals [1, 2] rfl ?_
      have key := e_Word_predicatesReadBy_23 (G := G) (h0 := h)  hf
      exact key
    · have hf := ifn hf c_14
      refine g_iload_n d_Word_predicatesReadBy_17 rfl ?_
      refine g_bipush (35) d_Word_predicatesReadBy_18 (by decide) ?_
      refine g_icmp_ne 33 d_Word_predicatesReadBy_20 (by decide) (fun c_20 => ?_) (fun c_20 => ?_)
      · have hf := ifn hf c_20
        refine g_iload_n d_Word_predicatesReadBy_33 rfl ?_
        refine g_bipush (36) d_Word_predicatesReadBy_34 (by decide) ?_
        refine g_icmp_eq 51 d_Word_predicatesReadBy_36 (by decide) (fun c_36 => ?_) (fun c_36 => ?_)
        · have hf := ifp hf c_36
          refine Go.locals [1] rfl ?_
          have key := e_Word_predicatesReadBy_51 (G := G) (h0 := h)  hf
          exact key
        · have hf := ifn hf c_36
          refine g_iload_n d_Word_predicatesReadBy_39 rfl ?_
          refine g_bipush (70) d_Word_predicatesReadBy_40 (by decide) ?_
          refine g_icmp_lt 58 d_Word_predicatesReadBy_42 (by decide) (fun c_42 => ?_) (fun c_42 => ?_)
          · have hf := ifp hf c_42
            refine g_iconst 0 d_Word_predicatesReadBy_58 (by decide) ?_
            exact Go.ret (some _) (rOk_i _) rfl d_Word_predicatesReadBy_59 (pI_of hf)
          · have hf := ifn hf c_42
            refine g_iload_n d_Word_predicatesReadBy_45 rfl ?_
            refine g_bipush (72) d_Word_predicatesReadBy_46 (by decide) ?_
            refine g_icmp_gt 58 d_Word_predicatesReadBy_48 (by decide) (fun c_48 => ?_) (fun c_48 => ?_)
            · have hf := ifp hf c_48
              refine g_iconst 0 d_Word_predicatesReadBy_58 (by decide) ?_
              exact Go.ret (some _) (rOk_i _) rfl d_Word_predicatesReadBy_59 (pI_of hf)
            · have hf := ifn hf c_48
              refine Go.locals [1] rfl ?_
              have key := e_Word_predicatesReadBy_51 (G := G) (h0 := h)  hf
              exact key
      · have hf := ifp hf c_20
        refine Go.locals [1, 2] rfl ?_
        have key := e_Word_predicatesReadBy_23 (G := G) (h0 := h)  hf
        exact key
  · have hf := ifp hf c_3
    refine g_iload_n d_Word_predicatesReadBy_6 rfl ?_
    obtain ⟨v_7, h_7, e_7, hf⟩ := cl_s hf
    refine g_callS (mz := mi_Word_tickOf) (e_Word_tickOf e_7) cw_Word_predicatesReadBy_Word_tickOf lm_Word_71 wS_Word_tickOf d_Word_predicatesReadBy_7 rfl rfl (by first | exact Nat.le_of_ble_eq_true rfl | simp [cat_rf, Value.category]) (fun r1 h1 hp hro => ?_)
    obtain ⟨rfl, rfl⟩ := hp
    dsimp only [Option.toList_some, Option.toList_none, List.cons_append, List.nil_append]
    exact Go.ret (some _) (rOk_i _) rfl d_Word_predicatesReadBy_10 (pI_of hf)
abbrev mi_Word_readsA : MI := (⟨"WarpMill$Word", "readsA", "(I)Z"⟩, prog_11_method_3_code, 1, some .boolean, 0, 0)
def it_Word_readsA_0 : List (Nat × ClassFile.Instr × Nat) := [(0, .iload_n 0, 1), (1, .iconst 4, 1), (2, .if_icmp .lt (9), 3), (5, .iload_n 0, 1), (6, .bipush (21), 2), (8, .if_icmp .le (39), 3), (11, .iload_n 0, 1), (12, .bipush (30), 2), (14, .if_icmp .lt (9), 3), (17, .iload_n 0, 1), (18, .bipush (33), 2), (20, .if_icmp .le (27), 3), (23, .iload_n 0, 1), (24, .bipush (42), 2), (26, .if_icmp .eq (21), 3), (29, .iload_n 0, 1), (30, .bipush (50), 2), (32, .if_icmp .lt (9), 3), (35, .iload_n 0, 1), (36, .bipush (59), 2), (38, .if_icmp .le (9), 3), (41, .iload_n 0, 1), (42, .bipush (73), 2), (44, .if_icmp .ne (7), 3)]
theorem id_Word_readsA_0 : ∀ q ∈ it_Word_readsA_0, decode prog_11_method_3_code q.1 = .ok q.2 := by decide +kernel
theorem d_Word_readsA_0 : decode prog_11_method_3_code 0 = .ok (.iload_n 0, 1) := id_Word_readsA_0 (0, .iload_n 0, 1) (List.mem_of_getElem? (i := 0) rfl)
theorem d_Word_readsA_1 : decode prog_11_method_3_code 1 = .ok (.iconst 4, 1) := id_Word_readsA_0 (1, .iconst 4, 1) (List.mem_of_getElem? (i := 1) rfl)
theorem d_Word_readsA_2 : decode prog_11_method_3_code 2 = .ok (.if_icmp .lt (9), 3) := id_Word_readsA_0 (2, .if_icmp .lt (9), 3) (List.mem_of_getElem? (i := 2) rfl)
theorem d_Word_readsA_5 : decode prog_11_method_3_code 5 = .ok (.iload_n 0, 1) := id_Word_readsA_0 (5, .iload_n 0, 1) (List.mem_of_getElem? (i := 3) rfl)
theorem d_Word_readsA_6 : decode prog_11_method_3_code 6 = .ok (.bipush (21), 2) := id_Word_readsA_0 (6, .bipush (21), 2) (List.mem_of_getElem? (i := 4) rfl)
theorem d_Word_readsA_8 : decode prog_11_method_3_code 8 = .ok (.if_icmp .le (39), 3) := id_Word_readsA_0 (8, .if_icmp .le (39), 3) (List.mem_of_getElem? (i := 5) rfl)
theorem d_Word_readsA_11 : decode prog_11_method_3_code 11 = .ok (.iload_n 0, 1) := id_Word_readsA_0 (11, .iload_n 0, 1) (List.mem_of_getElem? (i := 6) rfl)
theorem d_Word_readsA_12 : decode prog_11_method_3_code 12 = .ok (.bipush (30), 2) := id_Word_readsA_0 (12, .bipush (30), 2) (List.mem_of_getElem? (i := 7) rfl)
theorem d_Word_readsA_14 : decode prog_11_method_3_code 14 = .ok (.if_icmp .lt (9), 3) := id_Word_readsA_0 (14, .if_icmp .lt (9), 3) (List.mem_of_getElem? (i := 8) rfl)
theorem d_Word_readsA_17 : decode prog_11_method_3_code 17 = .ok (.iload_n 0, 1) := id_Word_readsA_0 (17, .iload_n 0, 1) (List.mem_of_getElem? (i := 9) rfl)
theorem d_Word_readsA_18 : decode prog_11_method_3_code 18 = .ok (.bipush (33), 2) := id_Word_readsA_0 (18, .bipush (33), 2) (List.mem_of_getElem? (i := 10) rfl)
theorem d_Word_readsA_20 : decode prog_11_method_3_code 20 = .ok (.if_icmp .le (27), 3) := id_Word_readsA_0 (20, .if_icmp .le (27), 3) (List.mem_of_getElem? (i := 11) rfl)
theorem d_Word_readsA_23 : decode prog_11_method_3_code 23 = .ok (.iload_n 0, 1) := id_Word_readsA_0 (23, .iload_n 0, 1) (List.mem_of_getElem? (i := 12) rfl)
theorem d_Word_readsA_24 : decode prog_11_method_3_code 24 = .ok (.bipush (42), 2) := id_Word_readsA_0 (24, .bipush (42), 2) (List.mem_of_getElem? (i := 13) rfl)
theorem d_Word_readsA_26 : decode prog_11_method_3_code 26 = .ok (.if_icmp .eq (21), 3) := id_Word_readsA_0 (26, .if_icmp .eq (21), 3) (List.mem_of_getElem? (i := 14) rfl)
theorem d_Word_readsA_29 : decode prog_11_method_3_code 29 = .ok (.iload_n 0, 1) := id_Word_readsA_0 (29, .iload_n 0, 1) (List.mem_of_getElem? (i := 15) rfl)
theorem d_Word_readsA_30 : decode prog_11_method_3_code 30 = .ok (.bipush (50), 2) := id_Word_readsA_0 (30, .bipush (50), 2) (List.mem_of_getElem? (i := 16) rfl)
theorem d_Word_readsA_32 : decode prog_11_method_3_code 32 = .ok (.if_icmp .lt (9), 3) := id_Word_readsA_0 (32, .if_icmp .lt (9), 3) (List.mem_of_getElem? (i := 17) rfl)
theorem d_Word_readsA_35 : decode prog_11_method_3_code 35 = .ok (.iload_n 0, 1) := id_Word_readsA_0 (35, .iload_n 0, 1) (List.mem_of_getElem? (i := 18) rfl)
theorem d_Word_readsA_36 : decode prog_11_method_3_code 36 = .ok (.bipush (59), 2) := id_Word_readsA_0 (36, .bipush (59), 2) (List.mem_of_getElem? (i := 19) rfl)
theorem d_Word_readsA_38 : decode prog_11_method_3_code 38 = .ok (.if_icmp .le (9), 3) := id_Word_readsA_0 (38, .if_icmp .le (9), 3) (List.mem_of_getElem? (i := 20) rfl)
theorem d_Word_readsA_41 : decode prog_11_method_3_code 41 = .ok (.iload_n 0, 1) := id_Word_readsA_0 (41, .iload_n 0, 1) (List.mem_of_getElem? (i := 21) rfl)
theorem d_Word_readsA_42 : decode prog_11_method_3_code 42 = .ok (.bipush (73), 2) := id_Word_readsA_0 (42, .bipush (73), 2) (List.mem_of_getElem? (i := 22) rfl)
theorem d_Word_readsA_44 : decode prog_11_method_3_code 44 = .ok (.if_icmp .ne (7), 3) := id_Word_readsA_0 (44, .if_icmp .ne (7), 3) (List.mem_of_getElem? (i := 23) rfl)
def it_Word_readsA_1 : List (Nat × ClassFile.Instr × Nat) := [(47, .iconst 1, 1), (48, .goto (4), 3), (51, .iconst 0, 1), (52, .ireturn, 1)]
theorem id_Word_readsA_1 : ∀ q ∈ it_Word_readsA_1, decode prog_11_method_3_code q.1 = .ok q.2 := by decide +kernel
theorem d_Word_readsA_47 : decode prog_11_method_3_code 47 = .ok (.iconst 1, 1) := id_Word_readsA_1 (47, .iconst 1, 1) (List.mem_of_getElem? (i := 0) rfl)
theorem d_Word_readsA_48 : decode prog_11_method_3_code 48 = .ok (.goto (4), 3) := id_Word_readsA_1 (48, .goto (4), 3) (List.mem_of_getElem? (i := 1) rfl)
theorem d_Word_readsA_51 : decode prog_11_method_3_code 51 = .ok (.iconst 0, 1) := id_Word_readsA_1 (51, .iconst 0, 1) (List.mem_of_getElem? (i := 2) rfl)
theorem d_Word_readsA_52 : decode prog_11_method_3_code 52 = .ok (.ireturn, 1) := id_Word_readsA_1 (52, .ireturn, 1) (List.mem_of_getElem? (i := 3) rfl)
theorem wC_Word_readsA : Cond.code ⟨"WarpMill$Word", "readsA", "(I)Z"⟩ prog_11_method_3_code 1 (some .boolean) ∈ lw_tb := mem_tb 285 (by decide +kernel) rfl
def b_Word_readsA_47 (F : Nat)  (h : Hp) : Option (Int32 × Hp) := some ((1 : Int32), h)
set_option maxRecDepth 100000 in
set_option maxHeartbeats 4000000 in
theorem e_Word_readsA_47 {G : Gl} {h0 : Hp} {F : Nat} {r : Int32} {h' : Hp}    {h : Hp} (hf : b_Word_readsA_47 F  h = some (r, h')) : Go G mi_Word_readsA h0 (pI r h') h 47 [] [] := by
  unfold b_Word_readsA_47 at hf
  refine g_iconst 1 d_Word_readsA_47 (by decide) ?_
  refine g_goto 52 d_Word_readsA_48 (by decide) ?_
  exact Go.ret (some _) rOk_b1 rfl d_Word_readsA_52 (pI_of hf)
def b_Word_readsA_41 (F : Nat) (x0 : Int32) (h : Hp) : Option (Int32 × Hp) := if x0 = (73 : Int32) then (b_Word_readsA_47 F h) else (some ((0 : Int32), h))
set_option maxRecDepth 100000 in
set_option maxHeartbeats 4000000 in
theorem e_Word_readsA_41 {G : Gl} {h0 : Hp} {F : Nat} {r : Int32} {h' : Hp}   {x0 : Int32} {h : Hp} (hf : b_Word_readsA_41 F x0 h = some (r, h')) : Go G mi_Word_readsA h0 (pI r h') h 41 [(0, .int x0)] [] := by
  unfold b_Word_readsA_41 at hf
  refine g_iload_n d_Word_readsA_41 rfl ?_
  refine g_bipush (73) d_Word_readsA_42 (by decide) ?_
  refine g_icmp_ne 51 d_Word_readsA_44 (by decide) (fun c_44 => ?_) (fun c_44 => ?_)
  · have hf := ifn hf c_44
    refine g_iconst 0 d_Word_readsA_51 (by decide) ?_
    exact Go.ret (some _) rOk_b0 rfl d_Word_readsA_52 (pI_of hf)
  · have hf := ifp hf c_44
    refine Go.locals [] rfl ?_
    have key := e_Word_readsA_47 (G := G) (h0 := h0)  hf
    exact key
def b_Word_readsA_23 (F : Nat) (x0 : Int32) (h : Hp) : Option (Int32 × Hp) := if x0 = (42 : Int32) then (b_Word_readsA_47 F h) else (if x0 < (50 : Int32) then (b_Word_readsA_41 F x0 h) else (if x0 ≤ (59 : Int32) then (b_Word_readsA_47 F h) else (b_Word_readsA_41 F x0 h)))
set_option maxRecDepth 100000 in
set_option maxHeartbeats 4000000 in
theorem e_Word_readsA_23 {G : Gl} {h0 : Hp} {F : Nat} {r : Int32} {h' : Hp}   {x0 : Int32} {h : Hp} (hf : b_Word_readsA_23 F x0 h = some (r, h')) : Go G mi_Word_readsA h0 (pI r h') h 23 [(0, .int x0)] [] := by
  unfold b_Word_readsA_23 at hf
  refine g_iload_n d_Word_readsA_23 rfl ?_
  refine g_bipush (42) d_Word_readsA_24 (by decide) ?_
  refine g_icmp_eq 47 d_Word_readsA_26 (by decide) (fun c_26 => ?_) (fun c_26 => ?_)
  · have hf := ifp hf c_26
    refine Go.locals [] rfl ?_
    have key := e_Word_readsA_47 (G := G) (h0 := h0)  hf
    exact key
  · have hf := ifn hf c_26
    refine g_iload_n d_Word_readsA_29 rfl ?_
    refine g_bipush (50) d_Word_readsA_30 (by decide) ?_
    refine g_icmp_lt 41 d_Word_readsA_32 (by decide) (fun c_32 => ?_) (fun c_32 => ?_)
    · have hf := ifp hf c_32
      have key := e_Word_readsA_41 (G := G) (h0 := h0)  hf
      exact key
    · have hf := ifn hf c_32
      refine g_iload_n d_Word_readsA_35 rfl ?_
      refine g_bipush (59) d_Word_readsA_36 (by decide) ?_
      refine g_icmp_le 47 d_Word_readsA_38 (by decide) (fun c_38 => ?_) (fun c_38 => ?_)
      · have hf := ifp hf c_38
        refine Go.locals [] rfl ?_
        have key := e_Word_readsA_47 (G := G) (h0 := h0)  hf
        exact key
      · have hf := ifn hf c_38
        have key := e_Word_readsA_41 (G := G) (h0 := h0)  hf
        exact key
def b_Word_readsA_11 (F : Nat) (x0 : Int32) (h : Hp) : Option (Int32 × Hp) := if x0 < (30 : Int32) then (b_Word_readsA_23 F x0 h) else (if x0 ≤ (33 : Int32) then (b_Word_readsA_47 F h) else (b_Word_readsA_23 F x0 h))
set_option maxRecDepth 100000 in
set_option maxHeartbeats 4000000 in
theorem e_Word_readsA_11 {G : Gl} {h0 : Hp} {F : Nat} {r : Int32} {h' : Hp}   {x0 : Int32} {h : Hp} (hf : b_Word_readsA_11 F x0 h = some (r, h')) : Go G mi_Word_readsA h0 (pI r h') h 11 [(0, .int x0)] [] := by
  unfold b_Word_readsA_11 at hf
  refine g_iload_n d_Word_readsA_11 rfl ?_
  refine g_bipush (30) d_Word_readsA_12 (by decide) ?_
  refine g_icmp_lt 23 d_Word_readsA_14 (by decide) (fun c_14 => ?_) (fun c_14 => ?_)
  · have hf := ifp hf c_14
    have key := e_Word_readsA_23 (G := G) (h0 := h0)  hf
    exact key
  · have hf := ifn hf c_14
    refine g_iload_n d_Word_readsA_17 rfl ?_
    refine g_bipush (33) d_Word_readsA_18 (by decide) ?_
    refine g_icmp_le 47 d_Word_readsA_20 (by decide) (fun c_20 => ?_) (fun c_20 => ?_)
    · have hf := ifp hf c_20
      refine Go.locals [] rfl ?_
      have key := e_Word_readsA_47 (G := G) (h0 := h0)  hf
      exact key
    · have hf := ifn hf c_20
      have key := e_Word_readsA_23 (G := G) (h0 := h0)  hf
      exact key
def f_Word_readsA (F : Nat) (x0 : Int32) (h : Hp) : Option (Int32 × Hp) := if x0 < (4 : Int32) then (b_Word_readsA_11 F x0 h) else (if x0 ≤ (21 : Int32) then (b_Word_readsA_47 F h) else (b_Word_readsA_11 F x0 h))
set_option maxRecDepth 100000 in
set_option maxHeartbeats 4000000 in
theorem e_Word_readsA {G : Gl} {F : Nat} {r : Int32} {h' : Hp} {x0 : Int32} {h : Hp} (hf : f_Word_readsA F x0 h = some (r, h')) : Ex G mi_Word_readsA [.int x0] h (pI r h') := by
  unfold f_Word_readsA at hf
  refine Ex.of nmI (by decide) (Nat.le_of_ble_eq_true rfl) ?_
  show Go G mi_Word_readsA h _ h 0 [(0, .int x0)] []
  refine g_iload_n d_Word_readsA_0 rfl ?_
  refine g_iconst 4 d_Word_readsA_1 (by decide) ?_
  refine g_icmp_lt 11 d_Word_readsA_2 (by decide) (fun c_2 => ?_) (fun c_2 => ?_)
  · have hf := ifp hf c_2
    have key := e_Word_readsA_11 (G := G) (h0 := h)  hf
    exact key
  · have hf := ifn hf c_2
    refine g_iload_n d_Word_readsA_5 rfl ?_
    refine g_bipush (21) d_Word_readsA_6 (by decide) ?_
    refine g_icmp_le 47 d_Word_readsA_8 (by decide) (fun c_8 => ?_) (fun c_8 => ?_)
    · have hf := ifp hf c_8
      refine Go.locals [] rfl ?_
      have key := e_Word_readsA_47 (G := G) (h0 := h)  hf
      exact key
    · have hf := ifn hf c_8
      have key := e_Word_readsA_11 (G := G) (h0 := h)  hf
      exact key
abbrev mi_Word_readsB : MI := (⟨"WarpMill$Word", "readsB", "(I)Z"⟩, prog_11_method_4_code, 1, some .boolean, 0, 0)
def it_Word_readsB_0 : List (Nat × ClassFile.Instr × Nat) := [(0, .iload_n 0, 1), (1, .iconst 4, 1), (2, .if_icmp .lt (9), 3), (5, .iload_n 0, 1), (6, .bipush (17), 2), (8, .if_icmp .le (39), 3), (11, .iload_n 0, 1), (12, .bipush (21), 2), (14, .if_icmp .eq (33), 3), (17, .iload_n 0, 1), (18, .bipush (30), 2), (20, .if_icmp .eq (27), 3), (23, .iload_n 0, 1), (24, .bipush (31), 2), (26, .if_icmp .eq (21), 3), (29, .iload_n 0, 1), (30, .bipush (51), 2), (32, .if_icmp .eq (15), 3), (35, .iload_n 0, 1), (36, .bipush (53), 2), (38, .if_icmp .lt (13), 3), (41, .iload_n 0, 1), (42, .bipush (59), 2), (44, .if_icmp .gt (7), 3)]
theorem id_Word_readsB_0 : ∀ q ∈ it_Word_readsB_0, decode prog_11_method_4_code q.1 = .ok q.2 := by decide +kernel
theorem d_Word_readsB_0 : decode prog_11_method_4_code 0 = .ok (.iload_n 0, 1) := id_Word_readsB_0 (0, .iload_n 0, 1) (List.mem_of_getElem? (i := 0) rfl)
theorem d_Word_readsB_1 : decode prog_11_method_4_code 1 = .ok (.iconst 4, 1) := id_Word_readsB_0 (1, .iconst 4, 1) (List.mem_of_getElem? (i := 1) rfl)
theorem d_Word_readsB_2 : decode prog_11_method_4_code 2 = .ok (.if_icmp .lt (9), 3) := id_Word_readsB_0 (2, .if_icmp .lt (9), 3) (List.mem_of_getElem? (i := 2) rfl)
theorem d_Word_readsB_5 : decode prog_11_method_4_code 5 = .ok (.iload_n 0, 1) := id_Word_readsB_0 (5, .iload_n 0, 1) (List.mem_of_getElem? (i := 3) rfl)
theorem d_Word_readsB_6 : decode prog_11_method_4_code 6 = .ok (.bipush (17), 2) := id_Word_readsB_0 (6, .bipush (17), 2) (List.mem_of_getElem? (i := 4) rfl)
theorem d_Word_readsB_8 : decode prog_11_method_4_code 8 = .ok (.if_icmp .le (39), 3) := id_Word_readsB_0 (8, .if_icmp .le (39), 3) (List.mem_of_getElem? (i := 5) rfl)
theorem d_Word_readsB_11 : decode prog_11_method_4_code 11 = .ok (.iload_n 0, 1) := id_Word_readsB_0 (11, .iload_n 0, 1) (List.mem_of_getElem? (i := 6) rfl)
theorem d_Word_readsB_12 : decode prog_11_method_4_code 12 = .ok (.bipush (21), 2) := id_Word_readsB_0 (12, .bipush (21), 2) (List.mem_of_getElem? (i := 7) rfl)
theorem d_Word_readsB_14 : decode prog_11_method_4_code 14 = .ok (.if_icmp .eq (33), 3) := id_Word_readsB_0 (14, .if_icmp .eq (33), 3) (List.mem_of_getElem? (i := 8) rfl)
theorem d_Word_readsB_17 : decode prog_11_method_4_code 17 = .ok (.iload_n 0, 1) := id_Word_readsB_0 (17, .iload_n 0, 1) (List.mem_of_getElem? (i := 9) rfl)
theorem d_Word_readsB_18 : decode prog_11_method_4_code 18 = .ok (.bipush (30), 2) := id_Word_readsB_0 (18, .bipush (30), 2) (List.mem_of_getElem? (i := 10) rfl)
theorem d_Word_readsB_20 : decode prog_11_method_4_code 20 = .ok (.if_icmp .eq (27), 3) := id_Word_readsB_0 (20, .if_icmp .eq (27), 3) (List.mem_of_getElem? (i := 11) rfl)
theorem d_Word_readsB_23 : decode prog_11_method_4_code 23 = .ok (.iload_n 0, 1) := id_Word_readsB_0 (23, .iload_n 0, 1) (List.mem_of_getElem? (i := 12) rfl)
theorem d_Word_readsB_24 : decode prog_11_method_4_code 24 = .ok (.bipush (31), 2) := id_Word_readsB_0 (24, .bipush (31), 2) (List.mem_of_getElem? (i := 13) rfl)
theorem d_Word_readsB_26 : decode prog_11_method_4_code 26 = .ok (.if_icmp .eq (21), 3) := id_Word_readsB_0 (26, .if_icmp .eq (21), 3) (List.mem_of_getElem? (i := 14) rfl)
theorem d_Word_readsB_29 : decode prog_11_method_4_code 29 = .ok (.iload_n 0, 1) := id_Word_readsB_0 (29, .iload_n 0, 1) (List.mem_of_getElem? (i := 15) rfl)
theorem d_Word_readsB_30 : decode prog_11_method_4_code 30 = .ok (.bipush (51), 2) := id_Word_readsB_0 (30, .bipush (51), 2) (List.mem_of_getElem? (i := 16) rfl)
theorem d_Word_readsB_32 : decode prog_11_method_4_code 32 = .ok (.if_icmp .eq (15), 3) := id_Word_readsB_0 (32, .if_icmp .eq (15), 3) (List.mem_of_getElem? (i := 17) rfl)
theorem d_Word_readsB_35 : decode prog_11_method_4_code 35 = .ok (.iload_n 0, 1) := id_Word_readsB_0 (35, .iload_n 0, 1) (List.mem_of_getElem? (i := 18) rfl)
theorem d_Word_readsB_36 : decode prog_11_method_4_code 36 = .ok (.bipush (53), 2) := id_Word_readsB_0 (36, .bipush (53), 2) (List.mem_of_getElem? (i := 19) rfl)
theorem d_Word_readsB_38 : decode prog_11_method_4_code 38 = .ok (.if_icmp .lt (13), 3) := id_Word_readsB_0 (38, .if_icmp .lt (13), 3) (List.mem_of_getElem? (i := 20) rfl)
theorem d_Word_readsB_41 : decode prog_11_method_4_code 41 = .ok (.iload_n 0, 1) := id_Word_readsB_0 (41, .iload_n 0, 1) (List.mem_of_getElem? (i := 21) rfl)
theorem d_Word_readsB_42 : decode prog_11_method_4_code 42 = .ok (.bipush (59), 2) := id_Word_readsB_0 (42, .bipush (59), 2) (List.mem_of_getElem? (i := 22) rfl)
theorem d_Word_readsB_44 : decode prog_11_method_4_code 44 = .ok (.if_icmp .gt (7), 3) := id_Word_readsB_0 (44, .if_icmp .gt (7), 3) (List.mem_of_getElem? (i := 23) rfl)
def it_Word_readsB_1 : List (Nat × ClassFile.Instr × Nat) := [(47, .iconst 1, 1), (48, .goto (4), 3), (51, .iconst 0, 1), (52, .ireturn, 1)]
theorem id_Word_readsB_1 : ∀ q ∈ it_Word_readsB_1, decode prog_11_method_4_code q.1 = .ok q.2 := by decide +kernel
theorem d_Word_readsB_47 : decode prog_11_method_4_code 47 = .ok (.iconst 1, 1) := id_Word_readsB_1 (47, .iconst 1, 1) (List.mem_of_getElem? (i := 0) rfl)
theorem d_Word_readsB_48 : decode prog_11_method_4_code 48 = .ok (.goto (4), 3) := id_Word_readsB_1 (48, .goto (4), 3) (List.mem_of_getElem? (i := 1) rfl)
theorem d_Word_readsB_51 : decode prog_11_method_4_code 51 = .ok (.iconst 0, 1) := id_Word_readsB_1 (51, .iconst 0, 1) (List.mem_of_getElem? (i := 2) rfl)
theorem d_Word_readsB_52 : decode prog_11_method_4_code 52 = .ok (.ireturn, 1) := id_Word_readsB_1 (52, .ireturn, 1) (List.mem_of_getElem? (i := 3) rfl)
theorem wC_Word_readsB : Cond.code ⟨"WarpMill$Word", "readsB", "(I)Z"⟩ prog_11_method_4_code 1 (some .boolean) ∈ lw_tb := mem_tb 288 (by decide +kernel) rfl
def b_Word_readsB_47 (F : Nat)  (h : Hp) : Option (Int32 × Hp) := some ((1 : Int32), h)
set_option maxRecDepth 100000 in
set_option maxHeartbeats 4000000 in
theorem e_Word_readsB_47 {G : Gl} {h0 : Hp} {F : Nat} {r : Int32} {h' : Hp}    {h : Hp} (hf : b_Word_readsB_47 F  h = some (r, h')) : Go G mi_Word_readsB h0 (pI r h') h 47 [] [] := by
  unfold b_Word_readsB_47 at hf
  refine g_iconst 1 d_Word_readsB_47 (by decide) ?_
  refine g_goto 52 d_Word_readsB_48 (by decide) ?_
  exact Go.ret (some _) rOk_b1 rfl d_Word_readsB_52 (pI_of hf)
def b_Word_readsB_11 (F : Nat) (x0 : Int32) (h : Hp) : Option (Int32 × Hp) := if x0 = (21 : Int32) then (b_Word_readsB_47 F h) else (if x0 = (30 : Int32) then (b_Word_readsB_47 F h) else (if x0 = (31 : Int32) then (b_Word_readsB_47 F h) else (if x0 = (51 : Int32) then (b_Word_readsB_47 F h) else (if x0 < (53 : Int32) then (some ((0 : Int32), h)) else (if (59 : Int32) < x0 then (some ((0 : Int32), h)) else (b_Word_readsB_47 F h))))))
set_option maxRecDepth 100000 in
set_option maxHeartbeats 4000000 in
theorem e_Word_readsB_11 {G : Gl} {h0 : Hp} {F : Nat} {r : Int32} {h' : Hp}   {x0 : Int32} {h : Hp} (hf : b_Word_readsB_11 F x0 h = some (r, h')) : Go G mi_Word_readsB h0 (pI r h') h 11 [(0, .int x0)] [] := by
  unfold b_Word_readsB_11 at hf
  refine g_iload_n d_Word_readsB_11 rfl ?_
  refine g_bipush (21) d_Word_readsB_12 (by decide) ?_
  refine g_icmp_eq 47 d_Word_readsB_14 (by decide) (fun c_14 => ?_) (fun c_14 => ?_)
  · have hf := ifp hf c_14
    refine Go.locals [] rfl ?_
    have key := e_Word_readsB_47 (G := G) (h0 := h0)  hf
    exact key
  · have hf := ifn hf c_14
    refine g_iload_n d_Word_readsB_17 rfl ?_
    refine g_bipush (30) d_Word_readsB_18 (by decide) ?_
    refine g_icmp_eq 47 d_Word_readsB_20 (by decide) (fun c_20 => ?_) (fun c_20 => ?_)
    · have hf := ifp hf c_20
      refine Go.locals [] rfl ?_
      have key := e_Word_readsB_47 (G := G) (h0 := h0)  hf
      exact key
    · have hf := ifn hf c_20
      refine g_iload_n d_Word_readsB_23 rfl ?_
      refine g_bipush (31) d_Word_readsB_24 (by decide) ?_
      refine g_icmp_eq 47 d_Word_readsB_26 (by decide) (fun c_26 => ?_) (fun c_26 => ?_)
      · have hf := ifp hf c_26
        refine Go.locals [] rfl ?_
        have key := e_Word_readsB_47 (G := G) (h0 := h0)  hf
        exact key
      · have hf := ifn hf c_26
        refine g_iload_n d_Word_readsB_29 rfl ?_
        refine g_bipush (51) d_Word_readsB_30 (by decide) ?_
        refine g_icmp_eq 47 d_Word_readsB_32 (by decide) (fun c_32 => ?_) (fun c_32 => ?_)
        · have hf := ifp hf c_32
          refine Go.locals [] rfl ?_
          have key := e_Word_readsB_47 (G := G) (h0 := h0)  hf
          exact key
        · have hf := ifn hf c_32
          refine g_iload_n d_Word_readsB_35 rfl ?_
          refine g_bipush (53) d_Word_readsB_36 (by decide) ?_
          refine g_icmp_lt 51 d_Word_readsB_38 (by decide) (fun c_38 => ?_) (fun c_38 => ?_)
          · have hf := ifp hf c_38
            refine g_iconst 0 d_Word_readsB_51 (by decide) ?_
            exact Go.ret (some _) rOk_b0 rfl d_Word_readsB_52 (pI_of hf)
          · have hf := ifn hf c_38
            refine g_iload_n d_Word_readsB_41 rfl ?_
            refine g_bipush (59) d_Word_readsB_42 (by decide) ?_
            refine g_icmp_gt 51 d_Word_readsB_44 (by decide) (fun c_44 => ?_) (fun c_44 => ?_)
            · have hf := ifp hf c_44
              refine g_iconst 0 d_Word_readsB_51 (by decide) ?_
              exact Go.ret (some _) rOk_b0 rfl d_Word_readsB_52 (pI_of hf)
            · have hf := ifn hf c_44
              refine Go.locals [] rfl ?_
              have key := e_Word_readsB_47 (G := G) (h0 := h0)  hf
              exact key
def f_Word_readsB (F : Nat) (x0 : Int32) (h : Hp) : Option (Int32 × Hp) := if x0 < (4 : Int32) then (b_Word_readsB_11 F x0 h) else (if x0 ≤ (17 : Int32) then (b_Word_readsB_47 F h) else (b_Word_readsB_11 F x0 h))
set_option maxRecDepth 100000 in
set_option maxHeartbeats 4000000 in
theorem e_Word_readsB {G : Gl} {F : Nat} {r : Int32} {h' : Hp} {x0 : Int32} {h : Hp} (hf : f_Word_readsB F x0 h = some (r, h')) : Ex G mi_Word_readsB [.int x0] h (pI r h') := by
  unfold f_Word_readsB at hf
  refine Ex.of nmI (by decide) (Nat.le_of_ble_eq_true rfl) ?_
  show Go G mi_Word_readsB h _ h 0 [(0, .int x0)] []
  refine g_iload_n d_Word_readsB_0 rfl ?_
  refine g_iconst 4 d_Word_readsB_1 (by decide) ?_
  refine g_icmp_lt 11 d_Word_readsB_2 (by decide) (fun c_2 => ?_) (fun c_2 => ?_)
  · have hf := ifp hf c_2
    have key := e_Word_readsB_11 (G := G) (h0 := h)  hf
    exact key
  · have hf := ifn hf c_2
    refine g_iload_n d_Word_readsB_5 rfl ?_
    refine g_bipush (17) d_Word_readsB_6 (by decide) ?_
    refine g_icmp_le 47 d_Word_readsB_8 (by decide) (fun c_8 => ?_) (fun c_8 => ?_)
    · have hf := ifp hf c_8
      refine Go.locals [] rfl ?_
      have key := e_Word_readsB_47 (G := G) (h0 := h)  hf
      exact key
    · have hf := ifn hf c_8
      have key := e_Word_readsB_11 (G := G) (h0 := h)  hf
      exact key
abbrev mi_Word_waitOf : MI := (⟨"WarpMill$Word", "waitOf", "(I)I"⟩, prog_11_method_8_code, 1, some .int, 0, 0)
def it_Word_waitOf_0 : List (Nat × ClassFile.Instr × Nat) := [(0, .iload_n 0, 1), (1, .bipush (7), 2), (3, .if_icmp .eq (9), 3), (6, .iload_n 0, 1), (7, .bipush (8), 2), (9, .if_icmp .ne (6), 3), (12, .bipush (8), 2), (14, .ireturn, 1), (15, .iload_n 0, 1), (16, .bipush (6), 2), (18, .if_icmp .eq (15), 3), (21, .iload_n 0, 1), (22, .bipush (17), 2), (24, .if_icmp .eq (9), 3), (27, .iload_n 0, 1), (28, .bipush (19), 2), (30, .if_icmp .ne (5), 3), (33, .iconst 3, 1), (34, .ireturn, 1), (35, .iload_n 0, 1), (36, .bipush (70), 2), (38, .if_icmp .lt (7), 3), (41, .iconst 2, 1), (42, .goto (4), 3)]
theorem id_Word_waitOf_0 : ∀ q ∈ it_Word_waitOf_0, decode prog_11_method_8_code q.1 = .ok q.2 := by decide +kernel
theorem d_Word_waitOf_0 : decode prog_11_method_8_code 0 = .ok (.iload_n 0, 1) := id_Word_waitOf_0 (0, .iload_n 0, 1) (List.mem_of_getElem? (i := 0) rfl)
theorem d_Word_waitOf_1 : decode prog_11_method_8_code 1 = .ok (.bipush (7), 2) := id_Word_waitOf_0 (1, .bipush (7), 2) (List.mem_of_getElem? (i := 1) rfl)
theorem d_Word_waitOf_3 : decode prog_11_method_8_code 3 = .ok (.if_icmp .eq (9), 3) := id_Word_waitOf_0 (3, .if_icmp .eq (9), 3) (List.mem_of_getElem? (i := 2) rfl)
theorem d_Word_waitOf_6 : decode prog_11_method_8_code 6 = .ok (.iload_n 0, 1) := id_Word_waitOf_0 (6, .iload_n 0, 1) (List.mem_of_getElem? (i := 3) rfl)
theorem d_Word_waitOf_7 : decode prog_11_method_8_code 7 = .ok (.bipush (8), 2) := id_Word_waitOf_0 (7, .bipush (8), 2) (List.mem_of_getElem? (i := 4) rfl)
theorem d_Word_waitOf_9 : decode prog_11_method_8_code 9 = .ok (.if_icmp .ne (6), 3) := id_Word_waitOf_0 (9, .if_icmp .ne (6), 3) (List.mem_of_getElem? (i := 5) rfl)
theorem d_Word_waitOf_12 : decode prog_11_method_8_code 12 = .ok (.bipush (8), 2) := id_Word_waitOf_0 (12, .bipush (8), 2) (List.mem_of_getElem? (i := 6) rfl)
theorem d_Word_waitOf_14 : decode prog_11_method_8_code 14 = .ok (.ireturn, 1) := id_Word_waitOf_0 (14, .ireturn, 1) (List.mem_of_getElem? (i := 7) rfl)
theorem d_Word_waitOf_15 : decode prog_11_method_8_code 15 = .ok (.iload_n 0, 1) := id_Word_waitOf_0 (15, .iload_n 0, 1) (List.mem_of_getElem? (i := 8) rfl)
theorem d_Word_waitOf_16 : decode prog_11_method_8_code 16 = .ok (.bipush (6), 2) := id_Word_waitOf_0 (16, .bipush (6), 2) (List.mem_of_getElem? (i := 9) rfl)
theorem d_Word_waitOf_18 : decode prog_11_method_8_code 18 = .ok (.if_icmp .eq (15), 3) := id_Word_waitOf_0 (18, .if_icmp .eq (15), 3) (List.mem_of_getElem? (i := 10) rfl)
theorem d_Word_waitOf_21 : decode prog_11_method_8_code 21 = .ok (.iload_n 0, 1) := id_Word_waitOf_0 (21, .iload_n 0, 1) (List.mem_of_getElem? (i := 11) rfl)
theorem d_Word_waitOf_22 : decode prog_11_method_8_code 22 = .ok (.bipush (17), 2) := id_Word_waitOf_0 (22, .bipush (17), 2) (List.mem_of_getElem? (i := 12) rfl)
theorem d_Word_waitOf_24 : decode prog_11_method_8_code 24 = .ok (.if_icmp .eq (9), 3) := id_Word_waitOf_0 (24, .if_icmp .eq (9), 3) (List.mem_of_getElem? (i := 13) rfl)
theorem d_Word_waitOf_27 : decode prog_11_method_8_code 27 = .ok (.iload_n 0, 1) := id_Word_waitOf_0 (27, .iload_n 0, 1) (List.mem_of_getElem? (i := 14) rfl)
theorem d_Word_waitOf_28 : decode prog_11_method_8_code 28 = .ok (.bipush (19), 2) := id_Word_waitOf_0 (28, .bipush (19), 2) (List.mem_of_getElem? (i := 15) rfl)
theorem d_Word_waitOf_30 : decode prog_11_method_8_code 30 = .ok (.if_icmp .ne (5), 3) := id_Word_waitOf_0 (30, .if_icmp .ne (5), 3) (List.mem_of_getElem? (i := 16) rfl)
theorem d_Word_waitOf_33 : decode prog_11_method_8_code 33 = .ok (.iconst 3, 1) := id_Word_waitOf_0 (33, .iconst 3, 1) (List.mem_of_getElem? (i := 17) rfl)
theorem d_Word_waitOf_34 : decode prog_11_method_8_code 34 = .ok (.ireturn, 1) := id_Word_waitOf_0 (34, .ireturn, 1) (List.mem_of_getElem? (i := 18) rfl)
theorem d_Word_waitOf_35 : decode prog_11_method_8_code 35 = .ok (.iload_n 0, 1) := id_Word_waitOf_0 (35, .iload_n 0, 1) (List.mem_of_getElem? (i := 19) rfl)
theorem d_Word_waitOf_36 : decode prog_11_method_8_code 36 = .ok (.bipush (70), 2) := id_Word_waitOf_0 (36, .bipush (70), 2) (List.mem_of_getElem? (i := 20) rfl)
theorem d_Word_waitOf_38 : decode prog_11_method_8_code 38 = .ok (.if_icmp .lt (7), 3) := id_Word_waitOf_0 (38, .if_icmp .lt (7), 3) (List.mem_of_getElem? (i := 21) rfl)
theorem d_Word_waitOf_41 : decode prog_11_method_8_code 41 = .ok (.iconst 2, 1) := id_Word_waitOf_0 (41, .iconst 2, 1) (List.mem_of_getElem? (i := 22) rfl)
theorem d_Word_waitOf_42 : decode prog_11_method_8_code 42 = .ok (.goto (4), 3) := id_Word_waitOf_0 (42, .goto (4), 3) (List.mem_of_getElem? (i := 23) rfl)
def it_Word_waitOf_1 : List (Nat × ClassFile.Instr × Nat) := [(45, .iconst 1, 1), (46, .ireturn, 1)]
theorem id_Word_waitOf_1 : ∀ q ∈ it_Word_waitOf_1, decode prog_11_method_8_code q.1 = .ok q.2 := by decide +kernel
theorem d_Word_waitOf_45 : decode prog_11_method_8_code 45 = .ok (.iconst 1, 1) := id_Word_waitOf_1 (45, .iconst 1, 1) (List.mem_of_getElem? (i := 0) rfl)
theorem d_Word_waitOf_46 : decode prog_11_method_8_code 46 = .ok (.ireturn, 1) := id_Word_waitOf_1 (46, .ireturn, 1) (List.mem_of_getElem? (i := 1) rfl)
theorem wC_Word_waitOf : Cond.code ⟨"WarpMill$Word", "waitOf", "(I)I"⟩ prog_11_method_8_code 1 (some .int) ∈ lw_tb := mem_tb 291 (by decide +kernel) rfl
def f_Word_waitOf (F : Nat) (x0 : Int32) (h : Hp) : Option (Int32 × Hp) := if x0 = (7 : Int32) then (some ((8 : Int32), h)) else (if x0 = (8 : Int32) then (some ((8 : Int32), h)) else (if x0 = (6 : Int32) then (some ((3 : Int32), h)) else (if x0 = (17 : Int32) then (some ((3 : Int32), h)) else (if x0 = (19 : Int32) then (some ((3 : Int32), h)) else (if x0 < (70 : Int32) then (some ((1 : Int32), h)) else (some ((2 : Int32), h)))))))
set_option maxRecDepth 100000 in
set_option maxHeartbeats 4000000 in
theorem e_Word_waitOf {G : Gl} {F : Nat} {r : Int32} {h' : Hp} {x0 : Int32} {h : Hp} (hf : f_Word_waitOf F x0 h = some (r, h')) : Ex G mi_Word_waitOf [.int x0] h (pI r h') := by
  unfold f_Word_waitOf at hf
  refine Ex.of nmI (by decide) (Nat.le_of_ble_eq_true rfl) ?_
  show Go G mi_Word_waitOf h _ h 0 [(0, .int x0)] []
  refine g_iload_n d_Word_waitOf_0 rfl ?_
  refine g_bipush (7) d_Word_waitOf_1 (by decide) ?_
  refine g_icmp_eq 12 d_Word_waitOf_3 (by decide) (fun c_3 => ?_) (fun c_3 => ?_)
  · have hf := ifp hf c_3
    refine g_bipush (8) d_Word_waitOf_12 (by decide) ?_
    exact Go.ret (some _) (rOk_i _) rfl d_Word_waitOf_14 (pI_of hf)
  · have hf := ifn hf c_3
    refine g_iload_n d_Word_waitOf_6 rfl ?_
    refine g_bipush (8) d_Word_waitOf_7 (by decide) ?_
    refine g_icmp_ne 15 d_Word_waitOf_9 (by decide) (fun c_9 => ?_) (fun c_9 => ?_)
    · have hf := ifn hf c_9
      refine g_iload_n d_Word_waitOf_15 rfl ?_
      refine g_bipush (6) d_Word_waitOf_16 (by decide) ?_
      refine g_icmp_eq 33 d_Word_waitOf_18 (by decide) (fun c_18 => ?_) (fun c_18 => ?_)
      · have hf := ifp hf c_18
        refine g_iconst 3 d_Word_waitOf_33 (by decide) ?_
        exact Go.ret (some _) (rOk_i _) rfl d_Word_waitOf_34 (pI_of hf)
      · have hf := ifn hf c_18
        refine g_iload_n d_Word_waitOf_21 rfl ?_
        refine g_bipush (17) d_Word_waitOf_22 (by decide) ?_
        refine g_icmp_eq 33 d_Word_waitOf_24 (by decide) (fun c_24 => ?_) (fun c_24 => ?_)
        · have hf := ifp hf c_24
          refine g_iconst 3 d_Word_waitOf_33 (by decide) ?_
          exact Go.ret (some _) (rOk_i _) rfl d_Word_waitOf_34 (pI_of hf)
        · have hf := ifn hf c_24
          refine g_iload_n d_Word_waitOf_27 rfl ?_
          refine g_bipush (19) d_Word_waitOf_28 (by decide) ?_
          refine g_icmp_ne 35 d_Word_waitOf_30 (by decide) (fun c_30 => ?_) (fun c_30 => ?_)
          · have hf := ifn hf c_30
            refine g_iload_n d_Word_waitOf_35 rfl ?_
            refine g_bipush (70) d_Word_waitOf_36 (by decide) ?_
            refine g_icmp_lt 45 d_Word_waitOf_38 (by decide) (fun c_38 => ?_) (fun c_38 => ?_)
            · have hf := ifp hf c_38
              refine g_iconst 1 d_Word_waitOf_45 (by decide) ?_
              exact Go.ret (some _) (rOk_i _) rfl d_Word_waitOf_46 (pI_of hf)
            · have hf := ifn hf c_38
              refine g_iconst 2 d_Word_waitOf_41 (by decide) ?_
              refine g_goto 46 d_Word_waitOf_42 (by decide) ?_
              exact Go.ret (some _) (rOk_i _) rfl d_Word_waitOf_46 (pI_of hf)
          · have hf := ifp hf c_30
            refine g_iconst 3 d_Word_waitOf_33 (by decide) ?_
            exact Go.ret (some _) (rOk_i _) rfl d_Word_waitOf_34 (pI_of hf)
    · have hf := ifp hf c_9
      refine g_bipush (8) d_Word_waitOf_12 (by decide) ?_
      exact Go.ret (some _) (rOk_i _) rfl d_Word_waitOf_14 (pI_of hf)
