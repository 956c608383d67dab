abbrev mi_Arrays_fill : MI := (⟨"java/util/Arrays", "fill", "([II)V"⟩, prog_22_method_103_code, 4, none, 0, 0)
def it_Arrays_fill_0 : List (Nat × ClassFile.Instr × Nat) := [(0, .iconst 0, 1), (1, .istore_n 2, 1), (2, .aload_n 0, 1), (3, .arraylength, 1), (4, .istore_n 3, 1), (5, .iload_n 2, 1), (6, .iload_n 3, 1), (7, .if_icmp .ge (13), 3), (10, .aload_n 0, 1), (11, .iload_n 2, 1), (12, .iload_n 1, 1), (13, .iastore, 1), (14, .iinc 2 (1), 3), (17, .goto (-12), 3), (20, .return_, 1)]
theorem id_Arrays_fill_0 : ∀ q ∈ it_Arrays_fill_0, decode prog_22_method_103_code q.1 = .ok q.2 := by decide +kernel
theorem d_Arrays_fill_0 : decode prog_22_method_103_code 0 = .ok (.iconst 0, 1) := id_Arrays_fill_0 (0, .iconst 0, 1) (List.mem_of_getElem? (i := 0) rfl)
theorem d_Arrays_fill_1 : decode prog_22_method_103_code 1 = .ok (.istore_n 2, 1) := id_Arrays_fill_0 (1, .istore_n 2, 1) (List.mem_of_getElem? (i := 1) rfl)
theorem d_Arrays_fill_2 : decode prog_22_method_103_code 2 = .ok (.aload_n 0, 1) := id_Arrays_fill_0 (2, .aload_n 0, 1) (List.mem_of_getElem? (i := 2) rfl)
theorem d_Arrays_fill_3 : decode prog_22_method_103_code 3 = .ok (.arraylength, 1) := id_Arrays_fill_0 (3, .arraylength, 1) (List.mem_of_getElem? (i := 3) rfl)
theorem d_Arrays_fill_4 : decode prog_22_method_103_code 4 = .ok (.istore_n 3, 1) := id_Arrays_fill_0 (4, .istore_n 3, 1) (List.mem_of_getElem? (i := 4) rfl)
theorem d_Arrays_fill_5 : decode prog_22_method_103_code 5 = .ok (.iload_n 2, 1) := id_Arrays_fill_0 (5, .iload_n 2, 1) (List.mem_of_getElem? (i := 5) rfl)
theorem d_Arrays_fill_6 : decode prog_22_method_103_code 6 = .ok (.iload_n 3, 1) := id_Arrays_fill_0 (6, .iload_n 3, 1) (List.mem_of_getElem? (i := 6) rfl)
theorem d_Arrays_fill_7 : decode prog_22_method_103_code 7 = .ok (.if_icmp .ge (13), 3) := id_Arrays_fill_0 (7, .if_icmp .ge (13), 3) (List.mem_of_getElem? (i := 7) rfl)
theorem d_Arrays_fill_10 : decode prog_22_method_103_code 10 = .ok (.aload_n 0, 1) := id_Arrays_fill_0 (10, .aload_n 0, 1) (List.mem_of_getElem? (i := 8) rfl)
theorem d_Arrays_fill_11 : decode prog_22_method_103_code 11 = .ok (.iload_n 2, 1) := id_Arrays_fill_0 (11, .iload_n 2, 1) (List.mem_of_getElem? (i := 9) rfl)
theorem d_Arrays_fill_12 : decode prog_22_method_103_code 12 = .ok (.iload_n 1, 1) := id_Arrays_fill_0 (12, .iload_n 1, 1) (List.mem_of_getElem? (i := 10) rfl)
theorem d_Arrays_fill_13 : decode prog_22_method_103_code 13 = .ok (.iastore, 1) := id_Arrays_fill_0 (13, .iastore, 1) (List.mem_of_getElem? (i := 11) rfl)
theorem d_Arrays_fill_14 : decode prog_22_method_103_code 14 = .ok (.iinc 2 (1), 3) := id_Arrays_fill_0 (14, .iinc 2 (1), 3) (List.mem_of_getElem? (i := 12) rfl)
theorem d_Arrays_fill_17 : decode prog_22_method_103_code 17 = .ok (.goto (-12), 3) := id_Arrays_fill_0 (17, .goto (-12), 3) (List.mem_of_getElem? (i := 13) rfl)
theorem d_Arrays_fill_20 : decode prog_22_method_103_code 20 = .ok (.return_, 1) := id_Arrays_fill_0 (20, .return_, 1) (List.mem_of_getElem? (i := 14) rfl)
theorem wC_Arrays_fill : Cond.code ⟨"java/util/Arrays", "fill", "([II)V"⟩ prog_22_method_103_code 4 (none) ∈ lw_tb := mem_tb 148 (by decide +kernel) rfl
set_option maxRecDepth 100000 in
theorem lp_Arrays_fill {G : Gl} {h : Hp} (a : Nat) (v : Int32) (ha : hK h a = 100) (hn : hN h a < 2 ^ 31) : ∀ n i : Nat, i + n = hN h a → Go G mi_Arrays_fill h (fun r h' => r = none ∧ h' = fillA h a (hN h a) v) (fillA h a i v) 5 [(0, .ref a), (1, .int v), (2, .int (nI i)), (3, .int (nI (hN h a)))] [] := by
  intro n
  induction n with
  | zero =>
    intro i hi
    have hiN : i = hN h a := by omega
    subst hiN
    refine g_iload_n d_Arrays_fill_5 rfl ?_
    refine g_iload_n d_Arrays_fill_6 rfl ?_
    refine g_icmp_ge 20 d_Arrays_fill_7 (by decide) (fun c_7 => ?_) (fun c_7 => ?_)
    · refine Go.ret none trivial rfl d_Arrays_fill_20 ?_
      exact ⟨rfl, rfl⟩
    · exact absurd (nI_le (Nat.le_refl _) hn) c_7
  | succ n ih =>
    intro i hi
    have hlt : i < hN h a := by omega
    have ha2 : hK (fillA h a i v) a = 100 := ha
    have hin : vp_in (nI i) (hN (fillA h a i v) a) := vp_in_nI hlt hn
    refine g_iload_n d_Arrays_fill_5 rfl ?_
    refine g_iload_n d_Arrays_fill_6 rfl ?_
    refine g_icmp_ge 20 d_Arrays_fill_7 (by decide) (fun c_7 => ?_) (fun c_7 => ?_)
    · exact absurd c_7 (nI_ge hlt hn)
    · first | refine g_aload_n d_Arrays_fill_10 rfl ?_ | refine g_aload_nq d_Arrays_fill_10 rfl ?_
      refine g_iload_n d_Arrays_fill_11 rfl ?_
      refine g_iload_n d_Arrays_fill_12 rfl ?_
      refine g_iast (by first | (simp only [hK_sI, hK_sR, hK_sA, hK_sQ, hK_sL, hK_fillA]; assumption) | assumption) (by assumption) d_Arrays_fill_13 ?_
      refine g_iinc _ d_Arrays_fill_14 rfl rfl (by decide) ?_
      show Go _ _ _ _ _ _ [(0, _), (1, _), (2, _), (3, _)] _
      refine g_goto 5 d_Arrays_fill_17 (by decide) ?_
      rw [nI_clamp (by omega), fillA_s]
      exact Go.eq (by rw [show (nI i + Int32.ofInt 1) = nI (i + 1) from nI_1 i]) rfl (ih (i + 1) (by omega))
set_option maxRecDepth 100000 in
theorem sp_Arrays_fill {G : Gl} {h : Hp} (a : Nat) (v : Int32) (ha : hK h a = 100) (hn : hN h a < 2 ^ 31) : Ex G mi_Arrays_fill [.ref a, .int v] h (fun r h' => r = none ∧ h' = fillA h a (hN h a) v) := by
  refine Ex.ofF (by decide +kernel) (Nat.le_of_ble_eq_true rfl) ?_
  show Go G mi_Arrays_fill h _ h 0 [(0, .ref a), (1, .int v)] []
  refine g_iconst 0 d_Arrays_fill_0 (by decide) ?_
  refine g_istore_n d_Arrays_fill_1 (by decide) ?_
  show Go _ _ _ _ _ _ [(0, _), (1, _), (2, _)] _
  first | refine g_aload_n d_Arrays_fill_2 rfl ?_ | refine g_aload_nq d_Arrays_fill_2 rfl ?_
  refine g_alen (by first | (simp only [hK_sI, hK_sR, hK_sA, hK_sQ, hK_sL, hK_fillA]; assumption) | assumption) (by decide) rfl d_Arrays_fill_3 ?_
  refine g_istore_n d_Arrays_fill_4 (by decide) ?_
  show Go _ _ _ _ _ _ [(0, _), (1, _), (2, _), (3, _)] _
  have key := lp_Arrays_fill (G := G) a v ha hn (hN h a) 0 (by omega)
  rw [fillA_0, nI_0] at key
  exact key
