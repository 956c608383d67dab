/-! what a word says -/
def tk (k : Int32) : Int32 := 1 <<< ((16 + (k &&& 3)) &&& 31)
def wOp (w : Int64) : Int32 := w.toInt32 &&& 255
def wD (w : Int64) : Int32 := (w >>> ((8 : Int32).toInt64 &&& 63)).toInt32 &&& 15
def wA (w : Int64) : Int32 := (w >>> ((12 : Int32).toInt64 &&& 63)).toInt32 &&& 15
def wB (w : Int64) : Int32 := (w >>> ((16 : Int32).toInt64 &&& 63)).toInt32 &&& 15
def wG (w : Int64) : Int32 := (w >>> ((20 : Int32).toInt64 &&& 63)).toInt32 &&& 15
def wN (w : Int64) : Int32 := (w >>> ((32 : Int32).toInt64 &&& 63)).toInt32
abbrev kKnown (op n : Int32) : Prop := if op = 3 then 0 ≤ n ∧ n ≤ 6 else op ≤ 21 ∨ 30 ≤ op ∧ op ≤ 36 ∨ 40 ≤ op ∧ op ≤ 42 ∨ 50 ≤ op ∧ op ≤ 59 ∨ 70 ≤ op ∧ op ≤ 73
abbrev kRA (op : Int32) : Prop := 4 ≤ op ∧ op ≤ 21 ∨ 30 ≤ op ∧ op ≤ 33 ∨ op = 42 ∨ 50 ≤ op ∧ op ≤ 59 ∨ op = 73
abbrev kRB (op : Int32) : Prop := 4 ≤ op ∧ op ≤ 17 ∨ op = 21 ∨ op = 30 ∨ op = 31 ∨ op = 51 ∨ 53 ≤ op ∧ op ≤ 59
abbrev kWP (op : Int32) : Prop := 30 ≤ op ∧ op ≤ 36 ∨ op = 70 ∨ op = 71
abbrev kWD (op : Int32) : Prop := 2 ≤ op ∧ op ≤ 21 ∨ op = 41 ∨ op = 50 ∨ op = 52 ∨ 54 ≤ op ∧ op ≤ 59 ∨ op = 72 ∨ op = 73
def kWr (op d : Int32) : Int32 := if kWP op then 16 + (d &&& 3) else if kWD op then d else -1
def kPr (op a b n : Int32) : Int32 := if op = 21 then tk n else if op = 34 ∨ op = 35 then tk a ||| tk b else if op = 36 ∨ 70 ≤ op ∧ op ≤ 72 then tk a else 0
def kWait (op : Int32) : Int32 := if op = 7 ∨ op = 8 then 8 else if op = 6 ∨ op = 17 ∨ op = 19 then 3 else if 70 ≤ op then 2 else 1
abbrev mi_Word_readsA : MI := (⟨"WarpMill$Word", "readsA", "(I)Z"⟩, prog_11_method_3_code, 1, some .boolean, 0, 0)
def it_Word_readsA_0 : List (Nat × ClassFile.Instr × Nat) := [(0, .iload_n 0, 1), (1, .iconst 4, 1), (2, .if_icmp .lt (9), 3), (5, .iload_n 0, 1), (6, .bipush (21), 2), (8, .if_icmp .le (39), 3), (11, .iload_n 0, 1), (12, .bipush (30), 2), (14, .if_icmp .lt (9), 3), (17, .iload_n 0, 1), (18, .bipush (33), 2), (20, .if_icmp .le (27), 3), (23, .iload_n 0, 1), (24, .bipush (42), 2), (26, .if_icmp .eq (21), 3), (29, .iload_n 0, 1), (30, .bipush (50), 2), (32, .if_icmp .lt (9), 3), (35, .iload_n 0, 1), (36, .bipush (59), 2), (38, .if_icmp .le (9), 3), (41, .iload_n 0, 1), (42, .bipush (73), 2), (44, .if_icmp .ne (7), 3)]
theorem id_Word_readsA_0 : ∀ q ∈ it_Word_readsA_0, decode prog_11_method_3_code q.1 = .ok q.2 := by decide +kernel
theorem d_Word_readsA_0 : decode prog_11_method_3_code 0 = .ok (.iload_n 0, 1) := id_Word_readsA_0 (0, .iload_n 0, 1) (List.mem_of_getElem? (i := 0) rfl)
theorem d_Word_readsA_1 : decode prog_11_method_3_code 1 = .ok (.iconst 4, 1) := id_Word_readsA_0 (1, .iconst 4, 1) (List.mem_of_getElem? (i := 1) rfl)
theorem d_Word_readsA_2 : decode prog_11_method_3_code 2 = .ok (.if_icmp .lt (9), 3) := id_Word_readsA_0 (2, .if_icmp .lt (9), 3) (List.mem_of_getElem? (i := 2) rfl)
theorem d_Word_readsA_5 : decode prog_11_method_3_code 5 = .ok (.iload_n 0, 1) := id_Word_readsA_0 (5, .iload_n 0, 1) (List.mem_of_getElem? (i := 3) rfl)
theorem d_Word_readsA_6 : decode prog_11_method_3_code 6 = .ok (.bipush (21), 2) := id_Word_readsA_0 (6, .bipush (21), 2) (List.mem_of_getElem? (i := 4) rfl)
theorem d_Word_readsA_8 : decode prog_11_method_3_code 8 = .ok (.if_icmp .le (39), 3) := id_Word_readsA_0 (8, .if_icmp .le (39), 3) (List.mem_of_getElem? (i := 5) rfl)
theorem d_Word_readsA_11 : decode prog_11_method_3_code 11 = .ok (.iload_n 0, 1) := id_Word_readsA_0 (11, .iload_n 0, 1) (List.mem_of_getElem? (i := 6) rfl)
theorem d_Word_readsA_12 : decode prog_11_method_3_code 12 = .ok (.bipush (30), 2) := id_Word_readsA_0 (12, .bipush (30), 2) (List.mem_of_getElem? (i := 7) rfl)
theorem d_Word_readsA_14 : decode prog_11_method_3_code 14 = .ok (.if_icmp .lt (9), 3) := id_Word_readsA_0 (14, .if_icmp .lt (9), 3) (List.mem_of_getElem? (i := 8) rfl)
theorem d_Word_readsA_17 : decode prog_11_method_3_code 17 = .ok (.iload_n 0, 1) := id_Word_readsA_0 (17, .iload_n 0, 1) (List.mem_of_getElem? (i := 9) rfl)
theorem d_Word_readsA_18 : decode prog_11_method_3_code 18 = .ok (.bipush (33), 2) := id_Word_readsA_0 (18, .bipush (33), 2) (List.mem_of_getElem? (i := 10) rfl)
theorem d_Word_readsA_20 : decode prog_11_method_3_code 20 = .ok (.if_icmp .le (27), 3) := id_Word_readsA_0 (20, .if_icmp .le (27), 3) (List.mem_of_getElem? (i := 11) rfl)
theorem d_Word_readsA_23 : decode prog_11_method_3_code 23 = .ok (.iload_n 0, 1) := id_Word_readsA_0 (23, .iload_n 0, 1) (List.mem_of_getElem? (i := 12) rfl)
theorem d_Word_readsA_24 : decode prog_11_method_3_code 24 = .ok (.bipush (42), 2) := id_Word_readsA_0 (24, .bipush (42), 2) (List.mem_of_getElem? (i := 13) rfl)
theorem d_Word_readsA_26 : decode prog_11_method_3_code 26 = .ok (.if_icmp .eq (21), 3) := id_Word_readsA_0 (26, .if_icmp .eq (21), 3) (List.mem_of_getElem? (i := 14) rfl)
theorem d_Word_readsA_29 : decode prog_11_method_3_code 29 = .ok (.iload_n 0, 1) := id_Word_readsA_0 (29, .iload_n 0, 1) (List.mem_of_getElem? (i := 15) rfl)
theorem d_Word_readsA_30 : decode prog_11_method_3_code 30 = .ok (.bipush (50), 2) := id_Word_readsA_0 (30, .bipush (50), 2) (List.mem_of_getElem? (i := 16) rfl)
theorem d_Word_readsA_32 : decode prog_11_method_3_code 32 = .ok (.if_icmp .lt (9), 3) := id_Word_readsA_0 (32, .if_icmp .lt (9), 3) (List.mem_of_getElem? (i := 17) rfl)
theorem d_Word_readsA_35 : decode prog_11_method_3_code 35 = .ok (.iload_n 0, 1) := id_Word_readsA_0 (35, .iload_n 0, 1) (List.mem_of_getElem? (i := 18) rfl)
theorem d_Word_readsA_36 : decode prog_11_method_3_code 36 = .ok (.bipush (59), 2) := id_Word_readsA_0 (36, .bipush (59), 2) (List.mem_of_getElem? (i := 19) rfl)
theorem d_Word_readsA_38 : decode prog_11_method_3_code 38 = .ok (.if_icmp .le (9), 3) := id_Word_readsA_0 (38, .if_icmp .le (9), 3) (List.mem_of_getElem? (i := 20) rfl)
theorem d_Word_readsA_41 : decode prog_11_method_3_code 41 = .ok (.iload_n 0, 1) := id_Word_readsA_0 (41, .iload_n 0, 1) (List.mem_of_getElem? (i := 21) rfl)
theorem d_Word_readsA_42 : decode prog_11_method_3_code 42 = .ok (.bipush (73), 2) := id_Word_readsA_0 (42, .bipush (73), 2) (List.mem_of_getElem? (i := 22) rfl)
theorem d_Word_readsA_44 : decode prog_11_method_3_code 44 = .ok (.if_icmp .ne (7), 3) := id_Word_readsA_0 (44, .if_icmp .ne (7), 3) (List.mem_of_getElem? (i := 23) rfl)
def it_Word_readsA_1 : List (Nat × ClassFile.Instr × Nat) := [(47, .iconst 1, 1), (48, .goto (4), 3), (51, .iconst 0, 1), (52, .ireturn, 1)]
theorem id_Word_readsA_1 : ∀ q ∈ it_Word_readsA_1, decode prog_11_method_3_code q.1 = .ok q.2 := by decide +kernel
theorem d_Word_readsA_47 : decode prog_11_method_3_code 47 = .ok (.iconst 1, 1) := id_Word_readsA_1 (47, .iconst 1, 1) (List.mem_of_getElem? (i := 0) rfl)
theorem d_Word_readsA_48 : decode prog_11_method_3_code 48 = .ok (.goto (4), 3) := id_Word_readsA_1 (48, .goto (4), 3) (List.mem_of_getElem? (i := 1) rfl)
theorem d_Word_readsA_51 : decode prog_11_method_3_code 51 = .ok (.iconst 0, 1) := id_Word_readsA_1 (51, .iconst 0, 1) (List.mem_of_getElem? (i := 2) rfl)
theorem d_Word_readsA_52 : decode prog_11_method_3_code 52 = .ok (.ireturn, 1) := id_Word_readsA_1 (52, .ireturn, 1) (List.mem_of_getElem? (i := 3) rfl)
theorem wC_Word_readsA : Cond.code ⟨"WarpMill$Word", "readsA", "(I)Z"⟩ prog_11_method_3_code 1 (some .boolean) ∈ lw_tb := mem_tb 284 (by decide +kernel) rfl
set_option maxRecDepth 100000 in
set_option maxHeartbeats 4000000 in
theorem sp_Word_readsA {G : Gl} {h : Hp} (op : Int32)  : Ex G mi_Word_readsA [.int op] h (fun r h' => r = some (.int (bI (kRA op))) ∧ h' = h) := by
  refine Ex.of (by decide) (Nat.le_of_ble_eq_true rfl) ?_
  show Go G mi_Word_readsA h _ h 0 [(0, .int op)] []
  refine g_iload_n d_Word_readsA_0 rfl ?_
  refine g_iconst 4 d_Word_readsA_1 (by decide) ?_
  refine g_icmp_lt 11 d_Word_readsA_2 (by decide) (fun c_2 => ?_) (fun c_2 => ?_)
  · refine g_iload_n d_Word_readsA_11 rfl ?_
    refine g_bipush (30) d_Word_readsA_12 (by decide) ?_
    refine g_icmp_lt 23 d_Word_readsA_14 (by decide) (fun c_14 => ?_) (fun c_14 => ?_)
    · refine g_iload_n d_Word_readsA_23 rfl ?_
      refine g_bipush (42) d_Word_readsA_24 (by decide) ?_
      refine g_icmp_eq 47 d_Word_readsA_26 (by decide) (fun c_26 => ?_) (fun c_26 => ?_)
      · refine g_iconst 1 d_Word_readsA_47 (by decide) ?_
        refine g_goto 52 d_Word_readsA_48 (by decide) ?_
        refine Go.ret (some _) (by first | exact rOk_bI _ | exact rOk_b0 | exact rOk_b1) rfl d_Word_readsA_52 ?_
        refine ⟨?_, rfl⟩
        simp_all [kWr, kPr, kWait, kKnown, kRA, kRB, kWP, kWD, bI, tk, -Int32.not_lt, -Int32.not_le, ← Int32.not_lt]
      · refine g_iload_n d_Word_readsA_29 rfl ?_
        refine g_bipush (50) d_Word_readsA_30 (by decide) ?_
        refine g_icmp_lt 41 d_Word_readsA_32 (by decide) (fun c_32 => ?_) (fun c_32 => ?_)
        · refine g_iload_n d_Word_readsA_41 rfl ?_
          refine g_bipush (73) d_Word_readsA_42 (by decide) ?_
          refine g_icmp_ne 51 d_Word_readsA_44 (by decide) (fun c_44 => ?_) (fun c_44 => ?_)
          · refine g_iconst 0 d_Word_readsA_51 (by decide) ?_
            refine Go.ret (some _) (by first | exact rOk_bI _ | exact rOk_b0 | exact rOk_b1) rfl d_Word_readsA_52 ?_
            refine ⟨?_, rfl⟩
            simp_all [kWr, kPr, kWait, kKnown, kRA, kRB, kWP, kWD, bI, tk, -Int32.not_lt, -Int32.not_le, ← Int32.not_lt]
          · refine g_iconst 1 d_Word_readsA_47 (by decide) ?_
            refine g_goto 52 d_Word_readsA_48 (by decide) ?_
            refine Go.ret (some _) (by first | exact rOk_bI _ | exact rOk_b0 | exact rOk_b1) rfl d_Word_readsA_52 ?_
            refine ⟨?_, rfl⟩
            simp_all [kWr, kPr, kWait, kKnown, kRA, kRB, kWP, kWD, bI, tk, -Int32.not_lt, -Int32.not_le, ← Int32.not_lt]
        · refine g_iload_n d_Word_readsA_35 rfl ?_
          refine g_bipush (59) d_Word_readsA_36 (by decide) ?_
          refine g_icmp_le 47 d_Word_readsA_38 (by decide) (fun c_38 => ?_) (fun c_38 => ?_)
          · refine g_iconst 1 d_Word_readsA_47 (by decide) ?_
            refine g_goto 52 d_Word_readsA_48 (by decide) ?_
            refine Go.ret (some _) (by first | exact rOk_bI _ | exact rOk_b0 | exact rOk_b1) rfl d_Word_readsA_52 ?_
            refine ⟨?_, rfl⟩
            simp_all [kWr, kPr, kWait, kKnown, kRA, kRB, kWP, kWD, bI, tk, -Int32.not_lt, -Int32.not_le, ← Int32.not_lt]
          · refine g_iload_n d_Word_readsA_41 rfl ?_
            refine g_bipush (73) d_Word_readsA_42 (by decide) ?_
            refine g_icmp_ne 51 d_Word_readsA_44 (by decide) (fun c_44 => ?_) (fun c_44 => ?_)
            · refine g_iconst 0 d_Word_readsA_51 (by decide) ?_
              refine Go.ret (some _) (by first | exact rOk_bI _ | exact rOk_b0 | exact rOk_b1) rfl d_Word_readsA_52 ?_
              refine ⟨?_, rfl⟩
              simp_all [kWr, kPr, kWait, kKnown, kRA, kRB, kWP, kWD, bI, tk, -Int32.not_lt, -Int32.not_le, ← Int32.not_lt]
            · refine g_iconst 1 d_Word_readsA_47 (by decide) ?_
              refine g_goto 52 d_Word_readsA_48 (by decide) ?_
              refine Go.ret (some _) (by first | exact rOk_bI _ | exact rOk_b0 | exact rOk_b1) rfl d_Word_readsA_52 ?_
              refine ⟨?_, rfl⟩
              simp_all [kWr, kPr, kWait, kKnown, kRA, kRB, kWP, kWD, bI, tk, -Int32.not_lt, -Int32.not_le, ← Int32.not_lt]
    · refine g_iload_n d_Word_readsA_17 rfl ?_
      refine g_bipush (33) d_Word_readsA_18 (by decide) ?_
      refine g_icmp_le 47 d_Word_readsA_20 (by decide) (fun c_20 => ?_) (fun c_20 => ?_)
      · refine g_iconst 1 d_Word_readsA_47 (by decide) ?_
        refine g_goto 52 d_Word_readsA_48 (by decide) ?_
        refine Go.ret (some _) (by first | exact rOk_bI _ | exact rOk_b0 | exact rOk_b1) rfl d_Word_readsA_52 ?_
        refine ⟨?_, rfl⟩
        simp_all [kWr, kPr, kWait, kKnown, kRA, kRB, kWP, kWD, bI, tk, -Int32.not_lt, -Int32.not_le, ← Int32.not_lt]
      · refine g_iload_n d_Word_readsA_23 rfl ?_
        refine g_bipush (42) d_Word_readsA_24 (by decide) ?_
        refine g_icmp_eq 47 d_Word_readsA_26 (by decide) (fun c_26 => ?_) (fun c_26 => ?_)
        · refine g_iconst 1 d_Word_readsA_47 (by decide) ?_
          refine g_goto 52 d_Word_readsA_48 (by decide) ?_
          refine Go.ret (some _) (by first | exact rOk_bI _ | exact rOk_b0 | exact rOk_b1) rfl d_Word_readsA_52 ?_
          refine ⟨?_, rfl⟩
          simp_all [kWr, kPr, kWait, kKnown, kRA, kRB, kWP, kWD, bI, tk, -Int32.not_lt, -Int32.not_le, ← Int32.not_lt]
        · refine g_iload_n d_Word_readsA_29 rfl ?_
          refine g_bipush (50) d_Word_readsA_30 (by decide) ?_
          refine g_icmp_lt 41 d_Word_readsA_32 (by decide) (fun c_32 => ?_) (fun c_32 => ?_)
          · refine g_iload_n d_Word_readsA_41 rfl ?_
            refine g_bipush (73) d_Word_readsA_42 (by decide) ?_
            refine g_icmp_ne 51 d_Word_readsA_44 (by decide) (fun c_44 => ?_) (fun c_44 => ?_)
            · refine g_iconst 0 d_Word_readsA_51 (by decide) ?_
              refine Go.ret (some _) (by first | exact rOk_bI _ | exact rOk_b0 | exact rOk_b1) rfl d_Word_readsA_52 ?_
              refine ⟨?_, rfl⟩
              simp_all [kWr, kPr, kWait, kKnown, kRA, kRB, kWP, kWD, bI, tk, -Int32.not_lt, -Int32.not_le, ← Int32.not_lt]
            · refine g_iconst 1 d_Word_readsA_47 (by decide) ?_
              refine g_goto 52 d_Word_readsA_48 (by decide) ?_
              refine Go.ret (some _) (by first | exact rOk_bI _ | exact rOk_b0 | exact rOk_b1) rfl d_Word_readsA_52 ?_
              refine ⟨?_, rfl⟩
              simp_all [kWr, kPr, kWait, kKnown, kRA, kRB, kWP, kWD, bI, tk, -Int32.not_lt, -Int32.not_le, ← Int32.not_lt]
          · refine g_iload_n d_Word_readsA_35 rfl ?_
            refine g_bipush (59) d_Word_readsA_36 (by decide) ?_
            refine g_icmp_le 47 d_Word_readsA_38 (by decide) (fun c_38 => ?_) (fun c_38 => ?_)
            · refine g_iconst 1 d_Word_readsA_47 (by decide) ?_
              refine g_goto 52 d_Word_readsA_48 (by decide) ?_
              refine Go.ret (some _) (by first | exact rOk_bI _ | exact rOk_b0 | exact rOk_b1) rfl d_Word_readsA_52 ?_
              refine ⟨?_, rfl⟩
              simp_all [kWr, kPr, kWait, kKnown, kRA, kRB, kWP, kWD, bI, tk, -Int32.not_lt, -Int32.not_le, ← Int32.not_lt]
            · refine g_iload_n d_Word_readsA_41 rfl ?_
              refine g_bipush (73) d_Word_readsA_42 (by decide) ?_
              refine g_icmp_ne 51 d_Word_readsA_44 (by decide) (fun c_44 => ?_) (fun c_44 => ?_)
              · refine g_iconst 0 d_Word_readsA_51 (by decide) ?_
                refine Go.ret (some _) (by first | exact rOk_bI _ | exact rOk_b0 | exact rOk_b1) rfl d_Word_readsA_52 ?_
                refine ⟨?_, rfl⟩
                simp_all [kWr, kPr, kWait, kKnown, kRA, kRB, kWP, kWD, bI, tk, -Int32.not_lt, -Int32.not_le, ← Int32.not_lt]
              · refine g_iconst 1 d_Word_readsA_47 (by decide) ?_
                refine g_goto 52 d_Word_readsA_48 (by decide) ?_
                refine Go.ret (some _) (by first | exact rOk_bI _ | exact rOk_b0 | exact rOk_b1) rfl d_Word_readsA_52 ?_
                refine ⟨?_, rfl⟩
                simp_all [kWr, kPr, kWait, kKnown, kRA, kRB, kWP, kWD, bI, tk, -Int32.not_lt, -Int32.not_le, ← Int32.not_lt]
  · refine g_iload_n d_Word_readsA_5 rfl ?_
    refine g_bipush (21) d_Word_readsA_6 (by decide) ?_
    refine g_icmp_le 47 d_Word_readsA_8 (by decide) (fun c_8 => ?_) (fun c_8 => ?_)
    · refine g_iconst 1 d_Word_readsA_47 (by decide) ?_
      refine g_goto 52 d_Word_readsA_48 (by decide) ?_
      refine Go.ret (some _) (by first | exact rOk_bI _ | exact rOk_b0 | exact rOk_b1) rfl d_Word_readsA_52 ?_
      refine ⟨?_, rfl⟩
      simp_all [kWr, kPr, kWait, kKnown, kRA, kRB, kWP, kWD, bI, tk, -Int32.not_lt, -Int32.not_le, ← Int32.not_lt]
    · refine g_iload_n d_Word_readsA_11 rfl ?_
      refine g_bipush (30) d_Word_readsA_12 (by decide) ?_
      refine g_icmp_lt 23 d_Word_readsA_14 (by decide) (fun c_14 => ?_) (fun c_14 => ?_)
      · refine g_iload_n d_Word_readsA_23 rfl ?_
        refine g_bipush (42) d_Word_readsA_24 (by decide) ?_
        refine g_icmp_eq 47 d_Word_readsA_26 (by decide) (fun c_26 => ?_) (fun c_26 => ?_)
        · refine g_iconst 1 d_Word_readsA_47 (by decide) ?_
          refine g_goto 52 d_Word_readsA_48 (by decide) ?_
          refine Go.ret (some _) (by first | exact rOk_bI _ | exact rOk_b0 | exact rOk_b1) rfl d_Word_readsA_52 ?_
          refine ⟨?_, rfl⟩
          simp_all [kWr, kPr, kWait, kKnown, kRA, kRB, kWP, kWD, bI, tk, -Int32.not_lt, -Int32.not_le, ← Int32.not_lt]
        · refine g_iload_n d_Word_readsA_29 rfl ?_
          refine g_bipush (50) d_Word_readsA_30 (by decide) ?_
          refine g_icmp_lt 41 d_Word_readsA_32 (by decide) (fun c_32 => ?_) (fun c_32 => ?_)
          · refine g_iload_n d_Word_readsA_41 rfl ?_
            refine g_bipush (73) d_Word_readsA_42 (by decide) ?_
            refine g_icmp_ne 51 d_Word_readsA_44 (by decide) (fun c_44 => ?_) (fun c_44 => ?_)
            · refine g_iconst 0 d_Word_readsA_51 (by decide) ?_
              refine Go.ret (some _) (by first | exact rOk_bI _ | exact rOk_b0 | exact rOk_b1) rfl d_Word_readsA_52 ?_
              refine ⟨?_, rfl⟩
              simp_all [kWr, kPr, kWait, kKnown, kRA, kRB, kWP, kWD, bI, tk, -Int32.not_lt, -Int32.not_le, ← Int32.not_lt]
            · refine g_iconst 1 d_Word_readsA_47 (by decide) ?_
              refine g_goto 52 d_Word_readsA_48 (by decide) ?_
              refine Go.ret (some _) (by first | exact rOk_bI _ | exact rOk_b0 | exact rOk_b1) rfl d_Word_readsA_52 ?_
              refine ⟨?_, rfl⟩
              simp_all [kWr, kPr, kWait, kKnown, kRA, kRB, kWP, kWD, bI, tk, -Int32.not_lt, -Int32.not_le, ← Int32.not_lt]
          · refine g_iload_n d_Word_readsA_35 rfl ?_
            refine g_bipush (59) d_Word_readsA_36 (by decide) ?_
            refine g_icmp_le 47 d_Word_readsA_38 (by decide) (fun c_38 => ?_) (fun c_38 => ?_)
            · refine g_iconst 1 d_Word_readsA_47 (by decide) ?_
              refine g_goto 52 d_Word_readsA_48 (by decide) ?_
              refine Go.ret (some _) (by first | exact rOk_bI _ | exact rOk_b0 | exact rOk_b1) rfl d_Word_readsA_52 ?_
              refine ⟨?_, rfl⟩
              simp_all [kWr, kPr, kWait, kKnown, kRA, kRB, kWP, kWD, bI, tk, -Int32.not_lt, -Int32.not_le, ← Int32.not_lt]
            · refine g_iload_n d_Word_readsA_41 rfl ?_
              refine g_bipush (73) d_Word_readsA_42 (by decide) ?_
              refine g_icmp_ne 51 d_Word_readsA_44 (by decide) (fun c_44 => ?_) (fun c_44 => ?_)
              · refine g_iconst 0 d_Word_readsA_51 (by decide) ?_
                refine Go.ret (some _) (by first | exact rOk_bI _ | exact rOk_b0 | exact rOk_b1) rfl d_Word_readsA_52 ?_
                refine ⟨?_, rfl⟩
                simp_all [kWr, kPr, kWait, kKnown, kRA, kRB, kWP, kWD, bI, tk, -Int32.not_lt, -Int32.not_le, ← Int32.not_lt]
              · refine g_iconst 1 d_Word_readsA_47 (by decide) ?_
                refine g_goto 52 d_Word_readsA_48 (by decide) ?_
                refine Go.ret (some _) (by first | exact rOk_bI _ | exact rOk_b0 | exact rOk_b1) rfl d_Word_readsA_52 ?_
                refine ⟨?_, rfl⟩
                simp_all [kWr, kPr, kWait, kKnown, kRA, kRB, kWP, kWD, bI, tk, -Int32.not_lt, -Int32.not_le, ← Int32.not_lt]
      · refine g_iload_n d_Word_readsA_17 rfl ?_
        refine g_bipush (33) d_Word_readsA_18 (by decide) ?_
        refine g_icmp_le 47 d_Word_readsA_20 (by decide) (fun c_20 => ?_) (fun c_20 => ?_)
        · refine g_iconst 1 d_Word_readsA_47 (by decide) ?_
          refine g_goto 52 d_Word_readsA_48 (by decide) ?_
          refine Go.ret (some _) (by first | exact rOk_bI _ | exact rOk_b0 | exact rOk_b1) rfl d_Word_readsA_52 ?_
          refine ⟨?_, rfl⟩
          simp_all [kWr, kPr, kWait, kKnown, kRA, kRB, kWP, kWD, bI, tk, -Int32.not_lt, -Int32.not_le, ← Int32.not_lt]
        · refine g_iload_n d_Word_readsA_23 rfl ?_
          refine g_bipush (42) d_Word_readsA_24 (by decide) ?_
          refine g_icmp_eq 47 d_Word_readsA_26 (by decide) (fun c_26 => ?_) (fun c_26 => ?_)
          · refine g_iconst 1 d_Word_readsA_47 (by decide) ?_
            refine g_goto 52 d_Word_readsA_48 (by decide) ?_
            refine Go.ret (some _) (by first | exact rOk_bI _ | exact rOk_b0 | exact rOk_b1) rfl d_Word_readsA_52 ?_
            refine ⟨?_, rfl⟩
            simp_all [kWr, kPr, kWait, kKnown, kRA, kRB, kWP, kWD, bI, tk, -Int32.not_lt, -Int32.not_le, ← Int32.not_lt]
          · refine g_iload_n d_Word_readsA_29 rfl ?_
            refine g_bipush (50) d_Word_readsA_30 (by decide) ?_
            refine g_icmp_lt 41 d_Word_readsA_32 (by decide) (fun c_32 => ?_) (fun c_32 => ?_)
            · refine g_iload_n d_Word_readsA_41 rfl ?_
              refine g_bipush (73) d_Word_readsA_42 (by decide) ?_
              refine g_icmp_ne 51 d_Word_readsA_44 (by decide) (fun c_44 => ?_) (fun c_44 => ?_)
              · refine g_iconst 0 d_Word_readsA_51 (by decide) ?_
                refine Go.ret (some _) (by first | exact rOk_bI _ | exact rOk_b0 | exact rOk_b1) rfl d_Word_readsA_52 ?_
                refine ⟨?_, rfl⟩
                simp_all [kWr, kPr, kWait, kKnown, kRA, kRB, kWP, kWD, bI, tk, -Int32.not_lt, -Int32.not_le, ← Int32.not_lt]
              · refine g_iconst 1 d_Word_readsA_47 (by decide) ?_
                refine g_goto 52 d_Word_readsA_48 (by decide) ?_
                refine Go.ret (some _) (by first | exact rOk_bI _ | exact rOk_b0 | exact rOk_b1) rfl d_Word_readsA_52 ?_
                refine ⟨?_, rfl⟩
                simp_all [kWr, kPr, kWait, kKnown, kRA, kRB, kWP, kWD, bI, tk, -Int32.not_lt, -Int32.not_le, ← Int32.not_lt]
            · refine g_iload_n d_Word_readsA_35 rfl ?_
              refine g_bipush (59) d_Word_readsA_36 (by decide) ?_
              refine g_icmp_le 47 d_Word_readsA_38 (by decide) (fun c_38 => ?_) (fun c_38 => ?_)
              · refine g_iconst 1 d_Word_readsA_47 (by decide) ?_
                refine g_goto 52 d_Word_readsA_48 (by decide) ?_
                refine Go.ret (some _) (by first | exact rOk_bI _ | exact rOk_b0 | exact rOk_b1) rfl d_Word_readsA_52 ?_
                refine ⟨?_, rfl⟩
                simp_all [kWr, kPr, kWait, kKnown, kRA, kRB, kWP, kWD, bI, tk, -Int32.not_lt, -Int32.not_le, ← Int32.not_lt]
              · refine g_iload_n d_Word_readsA_41 rfl ?_
                refine g_bipush (73) d_Word_readsA_42 (by decide) ?_
                refine g_icmp_ne 51 d_Word_readsA_44 (by decide) (fun c_44 => ?_) (fun c_44 => ?_)
                · refine g_iconst 0 d_Word_readsA_51 (by decide) ?_
                  refine Go.ret (some _) (by first | exact rOk_bI _ | exact rOk_b0 | exact rOk_b1) rfl d_Word_readsA_52 ?_
                  refine ⟨?_, rfl⟩
                  simp_all [kWr, kPr, kWait, kKnown, kRA, kRB, kWP, kWD, bI, tk, -Int32.not_lt, -Int32.not_le, ← Int32.not_lt]
                · refine g_iconst 1 d_Word_readsA_47 (by decide) ?_
                  refine g_goto 52 d_Word_readsA_48 (by decide) ?_
                  refine Go.ret (some _) (by first | exact rOk_bI _ | exact rOk_b0 | exact rOk_b1) rfl d_Word_readsA_52 ?_
                  refine ⟨?_, rfl⟩
                  simp_all [kWr, kPr, kWait, kKnown, kRA, kRB, kWP, kWD, bI, tk, -Int32.not_lt, -Int32.not_le, ← Int32.not_lt]
abbrev mi_Word_readsB : MI := (⟨"WarpMill$Word", "readsB", "(I)Z"⟩, prog_11_method_4_code, 1, some .boolean, 0, 0)
def it_Word_readsB_0 : List (Nat × ClassFile.Instr × Nat) := [(0, .iload_n 0, 1), (1, .iconst 4, 1), (2, .if_icmp .lt (9), 3), (5, .iload_n 0, 1), (6, .bipush (17), 2), (8, .if_icmp .le (39), 3), (11, .iload_n 0, 1), (12, .bipush (21), 2), (14, .if_icmp .eq (33), 3), (17, .iload_n 0, 1), (18, .bipush (30), 2), (20, .if_icmp .eq (27), 3), (23, .iload_n 0, 1), (24, .bipush (31), 2), (26, .if_icmp .eq (21), 3), (29, .iload_n 0, 1), (30, .bipush (51), 2), (32, .if_icmp .eq (15), 3), (35, .iload_n 0, 1), (36, .bipush (53), 2), (38, .if_icmp .lt (13), 3), (41, .iload_n 0, 1), (42, .bipush (59), 2), (44, .if_icmp .gt (7), 3)]
theorem id_Word_readsB_0 : ∀ q ∈ it_Word_readsB_0, decode prog_11_method_4_code q.1 = .ok q.2 := by decide +kernel
theorem d_Word_readsB_0 : decode prog_11_method_4_code 0 = .ok (.iload_n 0, 1) := id_Word_readsB_0 (0, .iload_n 0, 1) (List.mem_of_getElem? (i := 0) rfl)
theorem d_Word_readsB_1 : decode prog_11_method_4_code 1 = .ok (.iconst 4, 1) := id_Word_readsB_0 (1, .iconst 4, 1) (List.mem_of_getElem? (i := 1) rfl)
theorem d_Word_readsB_2 : decode prog_11_method_4_code 2 = .ok (.if_icmp .lt (9), 3) := id_Word_readsB_0 (2, .if_icmp .lt (9), 3) (List.mem_of_getElem? (i := 2) rfl)
theorem d_Word_readsB_5 : decode prog_11_method_4_code 5 = .ok (.iload_n 0, 1) := id_Word_readsB_0 (5, .iload_n 0, 1) (List.mem_of_getElem? (i := 3) rfl)
theorem d_Word_readsB_6 : decode prog_11_method_4_code 6 = .ok (.bipush (17), 2) := id_Word_readsB_0 (6, .bipush (17), 2) (List.mem_of_getElem? (i := 4) rfl)
theorem d_Word_readsB_8 : decode prog_11_method_4_code 8 = .ok (.if_icmp .le (39), 3) := id_Word_readsB_0 (8, .if_icmp .le (39), 3) (List.mem_of_getElem? (i := 5) rfl)
theorem d_Word_readsB_11 : decode prog_11_method_4_code 11 = .ok (.iload_n 0, 1) := id_Word_readsB_0 (11, .iload_n 0, 1) (List.mem_of_getElem? (i := 6) rfl)
theorem d_Word_readsB_12 : decode prog_11_method_4_code 12 = .ok (.bipush (21), 2) := id_Word_readsB_0 (12, .bipush (21), 2) (List.mem_of_getElem? (i := 7) rfl)
theorem d_Word_readsB_14 : decode prog_11_method_4_code 14 = .ok (.if_icmp .eq (33), 3) := id_Word_readsB_0 (14, .if_icmp .eq (33), 3) (List.mem_of_getElem? (i := 8) rfl)
theorem d_Word_readsB_17 : decode prog_11_method_4_code 17 = .ok (.iload_n 0, 1) := id_Word_readsB_0 (17, .iload_n 0, 1) (List.mem_of_getElem? (i := 9) rfl)
theorem d_Word_readsB_18 : decode prog_11_method_4_code 18 = .ok (.bipush (30), 2) := id_Word_readsB_0 (18, .bipush (30), 2) (List.mem_of_getElem? (i := 10) rfl)
theorem d_Word_readsB_20 : decode prog_11_method_4_code 20 = .ok (.if_icmp .eq (27), 3) := id_Word_readsB_0 (20, .if_icmp .eq (27), 3) (List.mem_of_getElem? (i := 11) rfl)
theorem d_Word_readsB_23 : decode prog_11_method_4_code 23 = .ok (.iload_n 0, 1) := id_Word_readsB_0 (23, .iload_n 0, 1) (List.mem_of_getElem? (i := 12) rfl)
theorem d_Word_readsB_24 : decode prog_11_method_4_code 24 = .ok (.bipush (31), 2) := id_Word_readsB_0 (24, .bipush (31), 2) (List.mem_of_getElem? (i := 13) rfl)
theorem d_Word_readsB_26 : decode prog_11_method_4_code 26 = .ok (.if_icmp .eq (21), 3) := id_Word_readsB_0 (26, .if_icmp .eq (21), 3) (List.mem_of_getElem? (i := 14) rfl)
theorem d_Word_readsB_29 : decode prog_11_method_4_code 29 = .ok (.iload_n 0, 1) := id_Word_readsB_0 (29, .iload_n 0, 1) (List.mem_of_getElem? (i := 15) rfl)
theorem d_Word_readsB_30 : decode prog_11_method_4_code 30 = .ok (.bipush (51), 2) := id_Word_readsB_0 (30, .bipush (51), 2) (List.mem_of_getElem? (i := 16) rfl)
theorem d_Word_readsB_32 : decode prog_11_method_4_code 32 = .ok (.if_icmp .eq (15), 3) := id_Word_readsB_0 (32, .if_icmp .eq (15), 3) (List.mem_of_getElem? (i := 17) rfl)
theorem d_Word_readsB_35 : decode prog_11_method_4_code 35 = .ok (.iload_n 0, 1) := id_Word_readsB_0 (35, .iload_n 0, 1) (List.mem_of_getElem? (i := 18) rfl)
theorem d_Word_readsB_36 : decode prog_11_method_4_code 36 = .ok (.bipush (53), 2) := id_Word_readsB_0 (36, .bipush (53), 2) (List.mem_of_getElem? (i := 19) rfl)
theorem d_Word_readsB_38 : decode prog_11_method_4_code 38 = .ok (.if_icmp .lt (13), 3) := id_Word_readsB_0 (38, .if_icmp .lt (13), 3) (List.mem_of_getElem? (i := 20) rfl)
theorem d_Word_readsB_41 : decode prog_11_method_4_code 41 = .ok (.iload_n 0, 1) := id_Word_readsB_0 (41, .iload_n 0, 1) (List.mem_of_getElem? (i := 21) rfl)
theorem d_Word_readsB_42 : decode prog_11_method_4_code 42 = .ok (.bipush (59), 2) := id_Word_readsB_0 (42, .bipush (59), 2) (List.mem_of_getElem? (i := 22) rfl)
theorem d_Word_readsB_44 : decode prog_11_method_4_code 44 = .ok (.if_icmp .gt (7), 3) := id_Word_readsB_0 (44, .if_icmp .gt (7), 3) (List.mem_of_getElem? (i := 23) rfl)
def it_Word_readsB_1 : List (Nat × ClassFile.Instr × Nat) := [(47, .iconst 1, 1), (48, .goto (4), 3), (51, .iconst 0, 1), (52, .ireturn, 1)]
theorem id_Word_readsB_1 : ∀ q ∈ it_Word_readsB_1, decode prog_11_method_4_code q.1 = .ok q.2 := by decide +kernel
theorem d_Word_readsB_47 : decode prog_11_method_4_code 47 = .ok (.iconst 1, 1) := id_Word_readsB_1 (47, .iconst 1, 1) (List.mem_of_getElem? (i := 0) rfl)
theorem d_Word_readsB_48 : decode prog_11_method_4_code 48 = .ok (.goto (4), 3) := id_Word_readsB_1 (48, .goto (4), 3) (List.mem_of_getElem? (i := 1) rfl)
theorem d_Word_readsB_51 : decode prog_11_method_4_code 51 = .ok (.iconst 0, 1) := id_Word_readsB_1 (51, .iconst 0, 1) (List.mem_of_getElem? (i := 2) rfl)
theorem d_Word_readsB_52 : decode prog_11_method_4_code 52 = .ok (.ireturn, 1) := id_Word_readsB_1 (52, .ireturn, 1) (List.mem_of_getElem? (i := 3) rfl)
theorem wC_Word_readsB : Cond.code ⟨"WarpMill$Word", "readsB", "(I)Z"⟩ prog_11_method_4_code 1 (some .boolean) ∈ lw_tb := mem_tb 287 (by decide +kernel) rfl
set_option maxRecDepth 100000 in
set_option maxHeartbeats 4000000 in
theorem sp_Word_readsB {G : Gl} {h : Hp} (op : Int32)  : Ex G mi_Word_readsB [.int op] h (fun r h' => r = some (.int (bI (kRB op))) ∧ h' = h) := by
  refine Ex.of (by decide) (Nat.le_of_ble_eq_true rfl) ?_
  show Go G mi_Word_readsB h _ h 0 [(0, .int op)] []
  refine g_iload_n d_Word_readsB_0 rfl ?_
  refine g_iconst 4 d_Word_readsB_1 (by decide) ?_
  refine g_icmp_lt 11 d_Word_readsB_2 (by decide) (fun c_2 => ?_) (fun c_2 => ?_)
  · refine g_iload_n d_Word_readsB_11 rfl ?_
    refine g_bipush (21) d_Word_readsB_12 (by decide) ?_
    refine g_icmp_eq 47 d_Word_readsB_14 (by decide) (fun c_14 => ?_) (fun c_14 => ?_)
    · refine g_iconst 1 d_Word_readsB_47 (by decide) ?_
      refine g_goto 52 d_Word_readsB_48 (by decide) ?_
      refine Go.ret (some _) (by first | exact rOk_bI _ | exact rOk_b0 | exact rOk_b1) rfl d_Word_readsB_52 ?_
      refine ⟨?_, rfl⟩
      simp_all [kWr, kPr, kWait, kKnown, kRA, kRB, kWP, kWD, bI, tk, -Int32.not_lt, -Int32.not_le, ← Int32.not_lt]
    · refine g_iload_n d_Word_readsB_17 rfl ?_
      refine g_bipush (30) d_Word_readsB_18 (by decide) ?_
      refine g_icmp_eq 47 d_Word_readsB_20 (by decide) (fun c_20 => ?_) (fun c_20 => ?_)
      · refine g_iconst 1 d_Word_readsB_47 (by decide) ?_
        refine g_goto 52 d_Word_readsB_48 (by decide) ?_
        refine Go.ret (some _) (by first | exact rOk_bI _ | exact rOk_b0 | exact rOk_b1) rfl d_Word_readsB_52 ?_
        refine ⟨?_, rfl⟩
        simp_all [kWr, kPr, kWait, kKnown, kRA, kRB, kWP, kWD, bI, tk, -Int32.not_lt, -Int32.not_le, ← Int32.not_lt]
      · refine g_iload_n d_Word_readsB_23 rfl ?_
        refine g_bipush (31) d_Word_readsB_24 (by decide) ?_
        refine g_icmp_eq 47 d_Word_readsB_26 (by decide) (fun c_26 => ?_) (fun c_26 => ?_)
        · refine g_iconst 1 d_Word_readsB_47 (by decide) ?_
          refine g_goto 52 d_Word_readsB_48 (by decide) ?_
          refine Go.ret (some _) (by first | exact rOk_bI _ | exact rOk_b0 | exact rOk_b1) rfl d_Word_readsB_52 ?_
          refine ⟨?_, rfl⟩
          simp_all [kWr, kPr, kWait, kKnown, kRA, kRB, kWP, kWD, bI, tk, -Int32.not_lt, -Int32.not_le, ← Int32.not_lt]
        · refine g_iload_n d_Word_readsB_29 rfl ?_
          refine g_bipush (51) d_Word_readsB_30 (by decide) ?_
          refine g_icmp_eq 47 d_Word_readsB_32 (by decide) (fun c_32 => ?_) (fun c_32 => ?_)
          · refine g_iconst 1 d_Word_readsB_47 (by decide) ?_
            refine g_goto 52 d_Word_readsB_48 (by decide) ?_
            refine Go.ret (some _) (by first | exact rOk_bI _ | exact rOk_b0 | exact rOk_b1) rfl d_Word_readsB_52 ?_
            refine ⟨?_, rfl⟩
            simp_all [kWr, kPr, kWait, kKnown, kRA, kRB, kWP, kWD, bI, tk, -Int32.not_lt, -Int32.not_le, ← Int32.not_lt]
          · refine g_iload_n d_Word_readsB_35 rfl ?_
            refine g_bipush (53) d_Word_readsB_36 (by decide) ?_
            refine g_icmp_lt 51 d_Word_readsB_38 (by decide) (fun c_38 => ?_) (fun c_38 => ?_)
            · refine g_iconst 0 d_Word_readsB_51 (by decide) ?_
              refine Go.ret (some _) (by first | exact rOk_bI _ | exact rOk_b0 | exact rOk_b1) rfl d_Word_readsB_52 ?_
              refine ⟨?_, rfl⟩
              simp_all [kWr, kPr, kWait, kKnown, kRA, kRB, kWP, kWD, bI, tk, -Int32.not_lt, -Int32.not_le, ← Int32.not_lt]
            · refine g_iload_n d_Word_readsB_41 rfl ?_
              refine g_bipush (59) d_Word_readsB_42 (by decide) ?_
              refine g_icmp_gt 51 d_Word_readsB_44 (by decide) (fun c_44 => ?_) (fun c_44 => ?_)
              · refine g_iconst 0 d_Word_readsB_51 (by decide) ?_
                refine Go.ret (some _) (by first | exact rOk_bI _ | exact rOk_b0 | exact rOk_b1) rfl d_Word_readsB_52 ?_
                refine ⟨?_, rfl⟩
                simp_all [kWr, kPr, kWait, kKnown, kRA, kRB, kWP, kWD, bI, tk, -Int32.not_lt, -Int32.not_le, ← Int32.not_lt]
              · refine g_iconst 1 d_Word_readsB_47 (by decide) ?_
                refine g_goto 52 d_Word_readsB_48 (by decide) ?_
                refine Go.ret (some _) (by first | exact rOk_bI _ | exact rOk_b0 | exact rOk_b1) rfl d_Word_readsB_52 ?_
                refine ⟨?_, rfl⟩
                simp_all [kWr, kPr, kWait, kKnown, kRA, kRB, kWP, kWD, bI, tk, -Int32.not_lt, -Int32.not_le, ← Int32.not_lt]
  · refine g_iload_n d_Word_readsB_5 rfl ?_
    refine g_bipush (17) d_Word_readsB_6 (by decide) ?_
    refine g_icmp_le 47 d_Word_readsB_8 (by decide) (fun c_8 => ?_) (fun c_8 => ?_)
    · refine g_iconst 1 d_Word_readsB_47 (by decide) ?_
      refine g_goto 52 d_Word_readsB_48 (by decide) ?_
      refine Go.ret (some _) (by first | exact rOk_bI _ | exact rOk_b0 | exact rOk_b1) rfl d_Word_readsB_52 ?_
      refine ⟨?_, rfl⟩
      simp_all [kWr, kPr, kWait, kKnown, kRA, kRB, kWP, kWD, bI, tk, -Int32.not_lt, -Int32.not_le, ← Int32.not_lt]
    · refine g_iload_n d_Word_readsB_11 rfl ?_
      refine g_bipush (21) d_Word_readsB_12 (by decide) ?_
      refine g_icmp_eq 47 d_Word_readsB_14 (by decide) (fun c_14 => ?_) (fun c_14 => ?_)
      · refine g_iconst 1 d_Word_readsB_47 (by decide) ?_
        refine g_goto 52 d_Word_readsB_48 (by decide) ?_
        refine Go.ret (some _) (by first | exact rOk_bI _ | exact rOk_b0 | exact rOk_b1) rfl d_Word_readsB_52 ?_
        refine ⟨?_, rfl⟩
        simp_all [kWr, kPr, kWait, kKnown, kRA, kRB, kWP, kWD, bI, tk, -Int32.not_lt, -Int32.not_le, ← Int32.not_lt]
      · refine g_iload_n d_Word_readsB_17 rfl ?_
        refine g_bipush (30) d_Word_readsB_18 (by decide) ?_
        refine g_icmp_eq 47 d_Word_readsB_20 (by decide) (fun c_20 => ?_) (fun c_20 => ?_)
        · refine g_iconst 1 d_Word_readsB_47 (by decide) ?_
          refine g_goto 52 d_Word_readsB_48 (by decide) ?_
          refine Go.ret (some _) (by first | exact rOk_bI _ | exact rOk_b0 | exact rOk_b1) rfl d_Word_readsB_52 ?_
          refine ⟨?_, rfl⟩
          simp_all [kWr, kPr, kWait, kKnown, kRA, kRB, kWP, kWD, bI, tk, -Int32.not_lt, -Int32.not_le, ← Int32.not_lt]
        · refine g_iload_n d_Word_readsB_23 rfl ?_
          refine g_bipush (31) d_Word_readsB_24 (by decide) ?_
          refine g_icmp_eq 47 d_Word_readsB_26 (by decide) (fun c_26 => ?_) (fun c_26 => ?_)
          · refine g_iconst 1 d_Word_readsB_47 (by decide) ?_
            refine g_goto 52 d_Word_readsB_48 (by decide) ?_
            refine Go.ret (some _) (by first | exact rOk_bI _ | exact rOk_b0 | exact rOk_b1) rfl d_Word_readsB_52 ?_
            refine ⟨?_, rfl⟩
            simp_all [kWr, kPr, kWait, kKnown, kRA, kRB, kWP, kWD, bI, tk, -Int32.not_lt, -Int32.not_le, ← Int32.not_lt]
          · refine g_iload_n d_Word_readsB_29 rfl ?_
            refine g_bipush (51) d_Word_readsB_30 (by decide) ?_
            refine g_icmp_eq 47 d_Word_readsB_32 (by decide) (fun c_32 => ?_) (fun c_32 => ?_)
            · refine g_iconst 1 d_Word_readsB_47 (by decide) ?_
              refine g_goto 52 d_Word_readsB_48 (by decide) ?_
              refine Go.ret (some _) (by first | exact rOk_bI _ | exact rOk_b0 | exact rOk_b1) rfl d_Word_readsB_52 ?_
              refine ⟨?_, rfl⟩
              simp_all [kWr, kPr, kWait, kKnown, kRA, kRB, kWP, kWD, bI, tk, -Int32.not_lt, -Int32.not_le, ← Int32.not_lt]
            · refine g_iload_n d_Word_readsB_35 rfl ?_
              refine g_bipush (53) d_Word_readsB_36 (by decide) ?_
              refine g_icmp_lt 51 d_Word_readsB_38 (by decide) (fun c_38 => ?_) (fun c_38 => ?_)
              · refine g_iconst 0 d_Word_readsB_51 (by decide) ?_
                refine Go.ret (some _) (by first | exact rOk_bI _ | exact rOk_b0 | exact rOk_b1) rfl d_Word_readsB_52 ?_
                refine ⟨?_, rfl⟩
                simp_all [kWr, kPr, kWait, kKnown, kRA, kRB, kWP, kWD, bI, tk, -Int32.not_lt, -Int32.not_le, ← Int32.not_lt]
              · refine g_iload_n d_Word_readsB_41 rfl ?_
                refine g_bipush (59) d_Word_readsB_42 (by decide) ?_
                refine g_icmp_gt 51 d_Word_readsB_44 (by decide) (fun c_44 => ?_) (fun c_44 => ?_)
                · refine g_iconst 0 d_Word_readsB_51 (by decide) ?_
                  refine Go.ret (some _) (by first | exact rOk_bI _ | exact rOk_b0 | exact rOk_b1) rfl d_Word_readsB_52 ?_
                  refine ⟨?_, rfl⟩
                  simp_all [kWr, kPr, kWait, kKnown, kRA, kRB, kWP, kWD, bI, tk, -Int32.not_lt, -Int32.not_le, ← Int32.not_lt]
                · refine g_iconst 1 d_Word_readsB_47 (by decide) ?_
                  refine g_goto 52 d_Word_readsB_48 (by decide) ?_
                  refine Go.ret (some _) (by first | exact rOk_bI _ | exact rOk_b0 | exact rOk_b1) rfl d_Word_readsB_52 ?_
                  refine ⟨?_, rfl⟩
                  simp_all [kWr, kPr, kWait, kKnown, kRA, kRB, kWP, kWD, bI, tk, -Int32.not_lt, -Int32.not_le, ← Int32.not_lt]
abbrev mi_Word_waitOf : MI := (⟨"WarpMill$Word", "waitOf", "(I)I"⟩, prog_11_method_8_code, 1, some .int, 0, 0)
def it_Word_waitOf_0 : List (Nat × ClassFile.Instr × Nat) := [(0, .iload_n 0, 1), (1, .bipush (7), 2), (3, .if_icmp .eq (9), 3), (6, .iload_n 0, 1), (7, .bipush (8), 2), (9, .if_icmp .ne (6), 3), (12, .bipush (8), 2), (14, .ireturn, 1), (15, .iload_n 0, 1), (16, .bipush (6), 2), (18, .if_icmp .eq (15), 3), (21, .iload_n 0, 1), (22, .bipush (17), 2), (24, .if_icmp .eq (9), 3), (27, .iload_n 0, 1), (28, .bipush (19), 2), (30, .if_icmp .ne (5), 3), (33, .iconst 3, 1), (34, .ireturn, 1), (35, .iload_n 0, 1), (36, .bipush (70), 2), (38, .if_icmp .lt (7), 3), (41, .iconst 2, 1), (42, .goto (4), 3)]
theorem id_Word_waitOf_0 : ∀ q ∈ it_Word_waitOf_0, decode prog_11_method_8_code q.1 = .ok q.2 := by decide +kernel
theorem d_Word_waitOf_0 : decode prog_11_method_8_code 0 = .ok (.iload_n 0, 1) := id_Word_waitOf_0 (0, .iload_n 0, 1) (List.mem_of_getElem? (i := 0) rfl)
theorem d_Word_waitOf_1 : decode prog_11_method_8_code 1 = .ok (.bipush (7), 2) := id_Word_waitOf_0 (1, .bipush (7), 2) (List.mem_of_getElem? (i := 1) rfl)
theorem d_Word_waitOf_3 : decode prog_11_method_8_code 3 = .ok (.if_icmp .eq (9), 3) := id_Word_waitOf_0 (3, .if_icmp .eq (9), 3) (List.mem_of_getElem? (i := 2) rfl)
theorem d_Word_waitOf_6 : decode prog_11_method_8_code 6 = .ok (.iload_n 0, 1) := id_Word_waitOf_0 (6, .iload_n 0, 1) (List.mem_of_getElem? (i := 3) rfl)
theorem d_Word_waitOf_7 : decode prog_11_method_8_code 7 = .ok (.bipush (8), 2) := id_Word_waitOf_0 (7, .bipush (8), 2) (List.mem_of_getElem? (i := 4) rfl)
theorem d_Word_waitOf_9 : decode prog_11_method_8_code 9 = .ok (.if_icmp .ne (6), 3) := id_Word_waitOf_0 (9, .if_icmp .ne (6), 3) (List.mem_of_getElem? (i := 5) rfl)
theorem d_Word_waitOf_12 : decode prog_11_method_8_code 12 = .ok (.bipush (8), 2) := id_Word_waitOf_0 (12, .bipush (8), 2) (List.mem_of_getElem? (i := 6) rfl)
theorem d_Word_waitOf_14 : decode prog_11_method_8_code 14 = .ok (.ireturn, 1) := id_Word_waitOf_0 (14, .ireturn, 1) (List.mem_of_getElem? (i := 7) rfl)
theorem d_Word_waitOf_15 : decode prog_11_method_8_code 15 = .ok (.iload_n 0, 1) := id_Word_waitOf_0 (15, .iload_n 0, 1) (List.mem_of_getElem? (i := 8) rfl)
theorem d_Word_waitOf_16 : decode prog_11_method_8_code 16 = .ok (.bipush (6), 2) := id_Word_waitOf_0 (16, .bipush (6), 2) (List.mem_of_getElem? (i := 9) rfl)
theorem d_Word_waitOf_18 : decode prog_11_method_8_code 18 = .ok (.if_icmp .eq (15), 3) := id_Word_waitOf_0 (18, .if_icmp .eq (15), 3) (List.mem_of_getElem? (i := 10) rfl)
theorem d_Word_waitOf_21 : decode prog_11_method_8_code 21 = .ok (.iload_n 0, 1) := id_Word_waitOf_0 (21, .iload_n 0, 1) (List.mem_of_getElem? (i := 11) rfl)
theorem d_Word_waitOf_22 : decode prog_11_method_8_code 22 = .ok (.bipush (17), 2) := id_Word_waitOf_0 (22, .bipush (17), 2) (List.mem_of_getElem? (i := 12) rfl)
theorem d_Word_waitOf_24 : decode prog_11_method_8_code 24 = .ok (.if_icmp .eq (9), 3) := id_Word_waitOf_0 (24, .if_icmp .eq (9), 3) (List.mem_of_getElem? (i := 13) rfl)
theorem d_Word_waitOf_27 : decode prog_11_method_8_code 27 = .ok (.iload_n 0, 1) := id_Word_waitOf_0 (27, .iload_n 0, 1) (List.mem_of_getElem? (i := 14) rfl)
theorem d_Word_waitOf_28 : decode prog_11_method_8_code 28 = .ok (.bipush (19), 2) := id_Word_waitOf_0 (28, .bipush (19), 2) (List.mem_of_getElem? (i := 15) rfl)
theorem d_Word_waitOf_30 : decode prog_11_method_8_code 30 = .ok (.if_icmp .ne (5), 3) := id_Word_waitOf_0 (30, .if_icmp .ne (5), 3) (List.mem_of_getElem? (i := 16) rfl)
theorem d_Word_waitOf_33 : decode prog_11_method_8_code 33 = .ok (.iconst 3, 1) := id_Word_waitOf_0 (33, .iconst 3, 1) (List.mem_of_getElem? (i := 17) rfl)
theorem d_Word_waitOf_34 : decode prog_11_method_8_code 34 = .ok (.ireturn, 1) := id_Word_waitOf_0 (34, .ireturn, 1) (List.mem_of_getElem? (i := 18) rfl)
theorem d_Word_waitOf_35 : decode prog_11_method_8_code 35 = .ok (.iload_n 0, 1) := id_Word_waitOf_0 (35, .iload_n 0, 1) (List.mem_of_getElem? (i := 19) rfl)
theorem d_Word_waitOf_36 : decode prog_11_method_8_code 36 = .ok (.bipush (70), 2) := id_Word_waitOf_0 (36, .bipush (70), 2) (List.mem_of_getElem? (i := 20) rfl)
theorem d_Word_waitOf_38 : decode prog_11_method_8_code 38 = .ok (.if_icmp .lt (7), 3) := id_Word_waitOf_0 (38, .if_icmp .lt (7), 3) (List.mem_of_getElem? (i := 21) rfl)
theorem d_Word_waitOf_41 : decode prog_11_method_8_code 41 = .ok (.iconst 2, 1) := id_Word_waitOf_0 (41, .iconst 2, 1) (List.mem_of_getElem? (i := 22) rfl)
theorem d_Word_waitOf_42 : decode prog_11_method_8_code 42 = .ok (.goto (4), 3) := id_Word_waitOf_0 (42, .goto (4), 3) (List.mem_of_getElem? (i := 23) rfl)
def it_Word_waitOf_1 : List (Nat × ClassFile.Instr × Nat) := [(45, .iconst 1, 1), (46, .ireturn, 1)]
theorem id_Word_waitOf_1 : ∀ q ∈ it_Word_waitOf_1, decode prog_11_method_8_code q.1 = .ok q.2 := by decide +kernel
theorem d_Word_waitOf_45 : decode prog_11_method_8_code 45 = .ok (.iconst 1, 1) := id_Word_waitOf_1 (45, .iconst 1, 1) (List.mem_of_getElem? (i := 0) rfl)
theorem d_Word_waitOf_46 : decode prog_11_method_8_code 46 = .ok (.ireturn, 1) := id_Word_waitOf_1 (46, .ireturn, 1) (List.mem_of_getElem? (i := 1) rfl)
theorem wC_Word_waitOf : Cond.code ⟨"WarpMill$Word", "waitOf", "(I)I"⟩ prog_11_method_8_code 1 (some .int) ∈ lw_tb := mem_tb 290 (by decide +kernel) rfl
set_option maxRecDepth 100000 in
set_option maxHeartbeats 4000000 in
theorem sp_Word_waitOf {G : Gl} {h : Hp} (op : Int32)  : Ex G mi_Word_waitOf [.int op] h (fun r h' => r = some (.int (kWait op)) ∧ h' = h) := by
  refine Ex.of (by decide) (Nat.le_of_ble_eq_true rfl) ?_
  show Go G mi_Word_waitOf h _ h 0 [(0, .int op)] []
  refine g_iload_n d_Word_waitOf_0 rfl ?_
  refine g_bipush (7) d_Word_waitOf_1 (by decide) ?_
  refine g_icmp_eq 12 d_Word_waitOf_3 (by decide) (fun c_3 => ?_) (fun c_3 => ?_)
  · refine g_bipush (8) d_Word_waitOf_12 (by decide) ?_
    refine Go.ret (some _) (rOk_i _) rfl d_Word_waitOf_14 ?_
    refine ⟨?_, rfl⟩
    simp_all [kWr, kPr, kWait, kKnown, kRA, kRB, kWP, kWD, bI, tk, -Int32.not_lt, -Int32.not_le, ← Int32.not_lt]
  · refine g_iload_n d_Word_waitOf_6 rfl ?_
    refine g_bipush (8) d_Word_waitOf_7 (by decide) ?_
    refine g_icmp_ne 15 d_Word_waitOf_9 (by decide) (fun c_9 => ?_) (fun c_9 => ?_)
    · refine g_iload_n d_Word_waitOf_15 rfl ?_
      refine g_bipush (6) d_Word_waitOf_16 (by decide) ?_
      refine g_icmp_eq 33 d_Word_waitOf_18 (by decide) (fun c_18 => ?_) (fun c_18 => ?_)
      · refine g_iconst 3 d_Word_waitOf_33 (by decide) ?_
        refine Go.ret (some _) (rOk_i _) rfl d_Word_waitOf_34 ?_
        refine ⟨?_, rfl⟩
        simp_all [kWr, kPr, kWait, kKnown, kRA, kRB, kWP, kWD, bI, tk, -Int32.not_lt, -Int32.not_le, ← Int32.not_lt]
      · refine g_iload_n d_Word_waitOf_21 rfl ?_
        refine g_bipush (17) d_Word_waitOf_22 (by decide) ?_
        refine g_icmp_eq 33 d_Word_waitOf_24 (by decide) (fun c_24 => ?_) (fun c_24 => ?_)
        · refine g_iconst 3 d_Word_waitOf_33 (by decide) ?_
          refine Go.ret (some _) (rOk_i _) rfl d_Word_waitOf_34 ?_
          refine ⟨?_, rfl⟩
          simp_all [kWr, kPr, kWait, kKnown, kRA, kRB, kWP, kWD, bI, tk, -Int32.not_lt, -Int32.not_le, ← Int32.not_lt]
        · refine g_iload_n d_Word_waitOf_27 rfl ?_
          refine g_bipush (19) d_Word_waitOf_28 (by decide) ?_
          refine g_icmp_ne 35 d_Word_waitOf_30 (by decide) (fun c_30 => ?_) (fun c_30 => ?_)
          · refine g_iload_n d_Word_waitOf_35 rfl ?_
            refine g_bipush (70) d_Word_waitOf_36 (by decide) ?_
            refine g_icmp_lt 45 d_Word_waitOf_38 (by decide) (fun c_38 => ?_) (fun c_38 => ?_)
            · refine g_iconst 1 d_Word_waitOf_45 (by decide) ?_
              refine Go.ret (some _) (rOk_i _) rfl d_Word_waitOf_46 ?_
              refine ⟨?_, rfl⟩
              simp_all [kWr, kPr, kWait, kKnown, kRA, kRB, kWP, kWD, bI, tk, -Int32.not_lt, -Int32.not_le, ← Int32.not_lt]
            · refine g_iconst 2 d_Word_waitOf_41 (by decide) ?_
              refine g_goto 46 d_Word_waitOf_42 (by decide) ?_
              refine Go.ret (some _) (rOk_i _) rfl d_Word_waitOf_46 ?_
              refine ⟨?_, rfl⟩
              simp_all [kWr, kPr, kWait, kKnown, kRA, kRB, kWP, kWD, bI, tk, -Int32.not_lt, -Int32.not_le, ← Int32.not_lt]
          · refine g_iconst 3 d_Word_waitOf_33 (by decide) ?_
            refine Go.ret (some _) (rOk_i _) rfl d_Word_waitOf_34 ?_
            refine ⟨?_, rfl⟩
            simp_all [kWr, kPr, kWait, kKnown, kRA, kRB, kWP, kWD, bI, tk, -Int32.not_lt, -Int32.not_le, ← Int32.not_lt]
    · refine g_bipush (8) d_Word_waitOf_12 (by decide) ?_
      refine Go.ret (some _) (rOk_i _) rfl d_Word_waitOf_14 ?_
      refine ⟨?_, rfl⟩
      simp_all [kWr, kPr, kWait, kKnown, kRA, kRB, kWP, kWD, bI, tk, -Int32.not_lt, -Int32.not_le, ← Int32.not_lt]
abbrev mi_Word_isKnown : MI := (⟨"WarpMill$Word", "isKnown", "(II)Z"⟩, prog_11_method_2_code, 2, some .boolean, 0, 0)
def it_Word_isKnown_0 : List (Nat × ClassFile.Instr × Nat) := [(0, .iload_n 0, 1), (1, .iconst 3, 1), (2, .if_icmp .ne (19), 3), (5, .iload_n 1, 1), (6, .ifCond .lt (13), 3), (9, .iload_n 1, 1), (10, .bipush (6), 2), (12, .if_icmp .gt (7), 3), (15, .iconst 1, 1), (16, .goto (4), 3), (19, .iconst 0, 1), (20, .ireturn, 1), (21, .iload_n 0, 1), (22, .bipush (21), 2), (24, .if_icmp .le (51), 3), (27, .iload_n 0, 1), (28, .bipush (30), 2), (30, .if_icmp .lt (9), 3), (33, .iload_n 0, 1), (34, .bipush (36), 2), (36, .if_icmp .le (39), 3), (39, .iload_n 0, 1), (40, .bipush (40), 2), (42, .if_icmp .lt (9), 3)]
theorem id_Word_isKnown_0 : ∀ q ∈ it_Word_isKnown_0, decode prog_11_method_2_code q.1 = .ok q.2 := by decide +kernel
theorem d_Word_isKnown_0 : decode prog_11_method_2_code 0 = .ok (.iload_n 0, 1) := id_Word_isKnown_0 (0, .iload_n 0, 1) (List.mem_of_getElem? (i := 0) rfl)
theorem d_Word_isKnown_1 : decode prog_11_method_2_code 1 = .ok (.iconst 3, 1) := id_Word_isKnown_0 (1, .iconst 3, 1) (List.mem_of_getElem? (i := 1) rfl)
theorem d_Word_isKnown_2 : decode prog_11_method_2_code 2 = .ok (.if_icmp .ne (19), 3) := id_Word_isKnown_0 (2, .if_icmp .ne (19), 3) (List.mem_of_getElem? (i := 2) rfl)
theorem d_Word_isKnown_5 : decode prog_11_method_2_code 5 = .ok (.iload_n 1, 1) := id_Word_isKnown_0 (5, .iload_n 1, 1) (List.mem_of_getElem? (i := 3) rfl)
theorem d_Word_isKnown_6 : decode prog_11_method_2_code 6 = .ok (.ifCond .lt (13), 3) := id_Word_isKnown_0 (6, .ifCond .lt (13), 3) (List.mem_of_getElem? (i := 4) rfl)
theorem d_Word_isKnown_9 : decode prog_11_method_2_code 9 = .ok (.iload_n 1, 1) := id_Word_isKnown_0 (9, .iload_n 1, 1) (List.mem_of_getElem? (i := 5) rfl)
theorem d_Word_isKnown_10 : decode prog_11_method_2_code 10 = .ok (.bipush (6), 2) := id_Word_isKnown_0 (10, .bipush (6), 2) (List.mem_of_getElem? (i := 6) rfl)
theorem d_Word_isKnown_12 : decode prog_11_method_2_code 12 = .ok (.if_icmp .gt (7), 3) := id_Word_isKnown_0 (12, .if_icmp .gt (7), 3) (List.mem_of_getElem? (i := 7) rfl)
theorem d_Word_isKnown_15 : decode prog_11_method_2_code 15 = .ok (.iconst 1, 1) := id_Word_isKnown_0 (15, .iconst 1, 1) (List.mem_of_getElem? (i := 8) rfl)
theorem d_Word_isKnown_16 : decode prog_11_method_2_code 16 = .ok (.goto (4), 3) := id_Word_isKnown_0 (16, .goto (4), 3) (List.mem_of_getElem? (i := 9) rfl)
theorem d_Word_isKnown_19 : decode prog_11_method_2_code 19 = .ok (.iconst 0, 1) := id_Word_isKnown_0 (19, .iconst 0, 1) (List.mem_of_getElem? (i := 10) rfl)
theorem d_Word_isKnown_20 : decode prog_11_method_2_code 20 = .ok (.ireturn, 1) := id_Word_isKnown_0 (20, .ireturn, 1) (List.mem_of_getElem? (i := 11) rfl)
theorem d_Word_isKnown_21 : decode prog_11_method_2_code 21 = .ok (.iload_n 0, 1) := id_Word_isKnown_0 (21, .iload_n 0, 1) (List.mem_of_getElem? (i := 12) rfl)
theorem d_Word_isKnown_22 : decode prog_11_method_2_code 22 = .ok (.bipush (21), 2) := id_Word_isKnown_0 (22, .bipush (21), 2) (List.mem_of_getElem? (i := 13) rfl)
theorem d_Word_isKnown_24 : decode prog_11_method_2_code 24 = .ok (.if_icmp .le (51), 3) := id_Word_isKnown_0 (24, .if_icmp .le (51), 3) (List.mem_of_getElem? (i := 14) rfl)
theorem d_Word_isKnown_27 : decode prog_11_method_2_code 27 = .ok (.iload_n 0, 1) := id_Word_isKnown_0 (27, .iload_n 0, 1) (List.mem_of_getElem? (i := 15) rfl)
theorem d_Word_isKnown_28 : decode prog_11_method_2_code 28 = .ok (.bipush (30), 2) := id_Word_isKnown_0 (28, .bipush (30), 2) (List.mem_of_getElem? (i := 16) rfl)
theorem d_Word_isKnown_30 : decode prog_11_method_2_code 30 = .ok (.if_icmp .lt (9), 3) := id_Word_isKnown_0 (30, .if_icmp .lt (9), 3) (List.mem_of_getElem? (i := 17) rfl)
theorem d_Word_isKnown_33 : decode prog_11_method_2_code 33 = .ok (.iload_n 0, 1) := id_Word_isKnown_0 (33, .iload_n 0, 1) (List.mem_of_getElem? (i := 18) rfl)
theorem d_Word_isKnown_34 : decode prog_11_method_2_code 34 = .ok (.bipush (36), 2) := id_Word_isKnown_0 (34, .bipush (36), 2) (List.mem_of_getElem? (i := 19) rfl)
theorem d_Word_isKnown_36 : decode prog_11_method_2_code 36 = .ok (.if_icmp .le (39), 3) := id_Word_isKnown_0 (36, .if_icmp .le (39), 3) (List.mem_of_getElem? (i := 20) rfl)
theorem d_Word_isKnown_39 : decode prog_11_method_2_code 39 = .ok (.iload_n 0, 1) := id_Word_isKnown_0 (39, .iload_n 0, 1) (List.mem_of_getElem? (i := 21) rfl)
theorem d_Word_isKnown_40 : decode prog_11_method_2_code 40 = .ok (.bipush (40), 2) := id_Word_isKnown_0 (40, .bipush (40), 2) (List.mem_of_getElem? (i := 22) rfl)
theorem d_Word_isKnown_42 : decode prog_11_method_2_code 42 = .ok (.if_icmp .lt (9), 3) := id_Word_isKnown_0 (42, .if_icmp .lt (9), 3) (List.mem_of_getElem? (i := 23) rfl)
def it_Word_isKnown_1 : List (Nat × ClassFile.Instr × Nat) := [(45, .iload_n 0, 1), (46, .bipush (42), 2), (48, .if_icmp .le (27), 3), (51, .iload_n 0, 1), (52, .bipush (50), 2), (54, .if_icmp .lt (9), 3), (57, .iload_n 0, 1), (58, .bipush (59), 2), (60, .if_icmp .le (15), 3), (63, .iload_n 0, 1), (64, .bipush (70), 2), (66, .if_icmp .lt (13), 3), (69, .iload_n 0, 1), (70, .bipush (73), 2), (72, .if_icmp .gt (7), 3), (75, .iconst 1, 1), (76, .goto (4), 3), (79, .iconst 0, 1), (80, .ireturn, 1)]
theorem id_Word_isKnown_1 : ∀ q ∈ it_Word_isKnown_1, decode prog_11_method_2_code q.1 = .ok q.2 := by decide +kernel
theorem d_Word_isKnown_45 : decode prog_11_method_2_code 45 = .ok (.iload_n 0, 1) := id_Word_isKnown_1 (45, .iload_n 0, 1) (List.mem_of_getElem? (i := 0) rfl)
theorem d_Word_isKnown_46 : decode prog_11_method_2_code 46 = .ok (.bipush (42), 2) := id_Word_isKnown_1 (46, .bipush (42), 2) (List.mem_of_getElem? (i := 1) rfl)
theorem d_Word_isKnown_48 : decode prog_11_method_2_code 48 = .ok (.if_icmp .le (27), 3) := id_Word_isKnown_1 (48, .if_icmp .le (27), 3) (List.mem_of_getElem? (i := 2) rfl)
theorem d_Word_isKnown_51 : decode prog_11_method_2_code 51 = .ok (.iload_n 0, 1) := id_Word_isKnown_1 (51, .iload_n 0, 1) (List.mem_of_getElem? (i := 3) rfl)
theorem d_Word_isKnown_52 : decode prog_11_method_2_code 52 = .ok (.bipush (50), 2) := id_Word_isKnown_1 (52, .bipush (50), 2) (List.mem_of_getElem? (i := 4) rfl)
theorem d_Word_isKnown_54 : decode prog_11_method_2_code 54 = .ok (.if_icmp .lt (9), 3) := id_Word_isKnown_1 (54, .if_icmp .lt (9), 3) (List.mem_of_getElem? (i := 5) rfl)
theorem d_Word_isKnown_57 : decode prog_11_method_2_code 57 = .ok (.iload_n 0, 1) := id_Word_isKnown_1 (57, .iload_n 0, 1) (List.mem_of_getElem? (i := 6) rfl)
theorem d_Word_isKnown_58 : decode prog_11_method_2_code 58 = .ok (.bipush (59), 2) := id_Word_isKnown_1 (58, .bipush (59), 2) (List.mem_of_getElem? (i := 7) rfl)
theorem d_Word_isKnown_60 : decode prog_11_method_2_code 60 = .ok (.if_icmp .le (15), 3) := id_Word_isKnown_1 (60, .if_icmp .le (15), 3) (List.mem_of_getElem? (i := 8) rfl)
theorem d_Word_isKnown_63 : decode prog_11_method_2_code 63 = .ok (.iload_n 0, 1) := id_Word_isKnown_1 (63, .iload_n 0, 1) (List.mem_of_getElem? (i := 9) rfl)
theorem d_Word_isKnown_64 : decode prog_11_method_2_code 64 = .ok (.bipush (70), 2) := id_Word_isKnown_1 (64, .bipush (70), 2) (List.mem_of_getElem? (i := 10) rfl)
theorem d_Word_isKnown_66 : decode prog_11_method_2_code 66 = .ok (.if_icmp .lt (13), 3) := id_Word_isKnown_1 (66, .if_icmp .lt (13), 3) (List.mem_of_getElem? (i := 11) rfl)
theorem d_Word_isKnown_69 : decode prog_11_method_2_code 69 = .ok (.iload_n 0, 1) := id_Word_isKnown_1 (69, .iload_n 0, 1) (List.mem_of_getElem? (i := 12) rfl)
theorem d_Word_isKnown_70 : decode prog_11_method_2_code 70 = .ok (.bipush (73), 2) := id_Word_isKnown_1 (70, .bipush (73), 2) (List.mem_of_getElem? (i := 13) rfl)
theorem d_Word_isKnown_72 : decode prog_11_method_2_code 72 = .ok (.if_icmp .gt (7), 3) := id_Word_isKnown_1 (72, .if_icmp .gt (7), 3) (List.mem_of_getElem? (i := 14) rfl)
theorem d_Word_isKnown_75 : decode prog_11_method_2_code 75 = .ok (.iconst 1, 1) := id_Word_isKnown_1 (75, .iconst 1, 1) (List.mem_of_getElem? (i := 15) rfl)
theorem d_Word_isKnown_76 : decode prog_11_method_2_code 76 = .ok (.goto (4), 3) := id_Word_isKnown_1 (76, .goto (4), 3) (List.mem_of_getElem? (i := 16) rfl)
theorem d_Word_isKnown_79 : decode prog_11_method_2_code 79 = .ok (.iconst 0, 1) := id_Word_isKnown_1 (79, .iconst 0, 1) (List.mem_of_getElem? (i := 17) rfl)
theorem d_Word_isKnown_80 : decode prog_11_method_2_code 80 = .ok (.ireturn, 1) := id_Word_isKnown_1 (80, .ireturn, 1) (List.mem_of_getElem? (i := 18) rfl)
theorem wC_Word_isKnown : Cond.code ⟨"WarpMill$Word", "isKnown", "(II)Z"⟩ prog_11_method_2_code 2 (some .boolean) ∈ lw_tb := mem_tb 272 (by decide +kernel) rfl
set_option maxRecDepth 100000 in
set_option maxHeartbeats 4000000 in
theorem sp_Word_isKnown {G : Gl} {h : Hp} (op n : Int32)  : Ex G mi_Word_isKnown [.int op, .int n] h (fun r h' => r = some (.int (bI (kKnown op n))) ∧ h' = h) := by
  refine Ex.of (by decide) (Nat.le_of_ble_eq_true rfl) ?_
  show Go G mi_Word_isKnown h _ h 0 [(0, .int op), (1, .int n)] []
  refine g_iload_n d_Word_isKnown_0 rfl ?_
  refine g_iconst 3 d_Word_isKnown_1 (by decide) ?_
  refine g_icmp_ne 21 d_Word_isKnown_2 (by decide) (fun c_2 => ?_) (fun c_2 => ?_)
  · refine g_iload_n d_Word_isKnown_21 rfl ?_
    refine g_bipush (21) d_Word_isKnown_22 (by decide) ?_
    refine g_icmp_le 75 d_Word_isKnown_24 (by decide) (fun c_24 => ?_) (fun c_24 => ?_)
    · refine g_iconst 1 d_Word_isKnown_75 (by decide) ?_
      refine g_goto 80 d_Word_isKnown_76 (by decide) ?_
      refine Go.ret (some _) (by first | exact rOk_bI _ | exact rOk_b0 | exact rOk_b1) rfl d_Word_isKnown_80 ?_
      refine ⟨?_, rfl⟩
      simp_all [kWr, kPr, kWait, kKnown, kRA, kRB, kWP, kWD, bI, tk, -Int32.not_lt, -Int32.not_le, ← Int32.not_lt]
    · refine g_iload_n d_Word_isKnown_27 rfl ?_
      refine g_bipush (30) d_Word_isKnown_28 (by decide) ?_
      refine g_icmp_lt 39 d_Word_isKnown_30 (by decide) (fun c_30 => ?_) (fun c_30 => ?_)
      · refine g_iload_n d_Word_isKnown_39 rfl ?_
        refine g_bipush (40) d_Word_isKnown_40 (by decide) ?_
        refine g_icmp_lt 51 d_Word_isKnown_42 (by decide) (fun c_42 => ?_) (fun c_42 => ?_)
        · refine g_iload_n d_Word_isKnown_51 rfl ?_
          refine g_bipush (50) d_Word_isKnown_52 (by decide) ?_
          refine g_icmp_lt 63 d_Word_isKnown_54 (by decide) (fun c_54 => ?_) (fun c_54 => ?_)
          · refine g_iload_n d_Word_isKnown_63 rfl ?_
            refine g_bipush (70) d_Word_isKnown_64 (by decide) ?_
            refine g_icmp_lt 79 d_Word_isKnown_66 (by decide) (fun c_66 => ?_) (fun c_66 => ?_)
            · refine g_iconst 0 d_Word_isKnown_79 (by decide) ?_
              refine Go.ret (some _) (by first | exact rOk_bI _ | exact rOk_b0 | exact rOk_b1) rfl d_Word_isKnown_80 ?_
              refine ⟨?_, rfl⟩
              simp_all [kWr, kPr, kWait, kKnown, kRA, kRB, kWP, kWD, bI, tk, -Int32.not_lt, -Int32.not_le, ← Int32.not_lt]
            · refine g_iload_n d_Word_isKnown_69 rfl ?_
              refine g_bipush (73) d_Word_isKnown_70 (by decide) ?_
              refine g_icmp_gt 79 d_Word_isKnown_72 (by decide) (fun c_72 => ?_) (fun c_72 => ?_)
              · refine g_iconst 0 d_Word_isKnown_79 (by decide) ?_
                refine Go.ret (some _) (by first | exact rOk_bI _ | exact rOk_b0 | exact rOk_b1) rfl d_Word_isKnown_80 ?_
                refine ⟨?_, rfl⟩
                simp_all [kWr, kPr, kWait, kKnown, kRA, kRB, kWP, kWD, bI, tk, -Int32.not_lt, -Int32.not_le, ← Int32.not_lt]
              · refine g_iconst 1 d_Word_isKnown_75 (by decide) ?_
                refine g_goto 80 d_Word_isKnown_76 (by decide) ?_
                refine Go.ret (some _) (by first | exact rOk_bI _ | exact rOk_b0 | exact rOk_b1) rfl d_Word_isKnown_80 ?_
                refine ⟨?_, rfl⟩
                simp_all [kWr, kPr, kWait, kKnown, kRA, kRB, kWP, kWD, bI, tk, -Int32.not_lt, -Int32.not_le, ← Int32.not_lt]
          · refine g_iload_n d_Word_isKnown_57 rfl ?_
            refine g_bipush (59) d_Word_isKnown_58 (by decide) ?_
            refine g_icmp_le 75 d_Word_isKnown_60 (by decide) (fun c_60 => ?_) (fun c_60 => ?_)
            · refine g_iconst 1 d_Word_isKnown_75 (by decide) ?_
              refine g_goto 80 d_Word_isKnown_76 (by decide) ?_
              refine Go.ret (some _) (by first | exact rOk_bI _ | exact rOk_b0 | exact rOk_b1) rfl d_Word_isKnown_80 ?_
              refine ⟨?_, rfl⟩
              simp_all [kWr, kPr, kWait, kKnown, kRA, kRB, kWP, kWD, bI, tk, -Int32.not_lt, -Int32.not_le, ← Int32.not_lt]
            · refine g_iload_n d_Word_isKnown_63 rfl ?_
              refine g_bipush (70) d_Word_isKnown_64 (by decide) ?_
              refine g_icmp_lt 79 d_Word_isKnown_66 (by decide) (fun c_66 => ?_) (fun c_66 => ?_)
              · refine g_iconst 0 d_Word_isKnown_79 (by decide) ?_
                refine Go.ret (some _) (by first | exact rOk_bI _ | exact rOk_b0 | exact rOk_b1) rfl d_Word_isKnown_80 ?_
                refine ⟨?_, rfl⟩
                simp_all [kWr, kPr, kWait, kKnown, kRA, kRB, kWP, kWD, bI, tk, -Int32.not_lt, -Int32.not_le, ← Int32.not_lt]
              · refine g_iload_n d_Word_isKnown_69 rfl ?_
                refine g_bipush (73) d_Word_isKnown_70 (by decide) ?_
                refine g_icmp_gt 79 d_Word_isKnown_72 (by decide) (fun c_72 => ?_) (fun c_72 => ?_)
                · refine g_iconst 0 d_Word_isKnown_79 (by decide) ?_
                  refine Go.ret (some _) (by first | exact rOk_bI _ | exact rOk_b0 | exact rOk_b1) rfl d_Word_isKnown_80 ?_
                  refine ⟨?_, rfl⟩
                  simp_all [kWr, kPr, kWait, kKnown, kRA, kRB, kWP, kWD, bI, tk, -Int32.not_lt, -Int32.not_le, ← Int32.not_lt]
                · refine g_iconst 1 d_Word_isKnown_75 (by decide) ?_
                  refine g_goto 80 d_Word_isKnown_76 (by decide) ?_
                  refine Go.ret (some _) (by first | exact rOk_bI _ | exact rOk_b0 | exact rOk_b1) rfl d_Word_isKnown_80 ?_
                  refine ⟨?_, rfl⟩
                  simp_all [kWr, kPr, kWait, kKnown, kRA, kRB, kWP, kWD, bI, tk, -Int32.not_lt, -Int32.not_le, ← Int32.not_lt]
        · refine g_iload_n d_Word_isKnown_45 rfl ?_
          refine g_bipush (42) d_Word_isKnown_46 (by decide) ?_
          refine g_icmp_le 75 d_Word_isKnown_48 (by decide) (fun c_48 => ?_) (fun c_48 => ?_)
          · refine g_iconst 1 d_Word_isKnown_75 (by decide) ?_
            refine g_goto 80 d_Word_isKnown_76 (by decide) ?_
            refine Go.ret (some _) (by first | exact rOk_bI _ | exact rOk_b0 | exact rOk_b1) rfl d_Word_isKnown_80 ?_
            refine ⟨?_, rfl⟩
            simp_all [kWr, kPr, kWait, kKnown, kRA, kRB, kWP, kWD, bI, tk, -Int32.not_lt, -Int32.not_le, ← Int32.not_lt]
          · refine g_iload_n d_Word_isKnown_51 rfl ?_
            refine g_bipush (50) d_Word_isKnown_52 (by decide) ?_
            refine g_icmp_lt 63 d_Word_isKnown_54 (by decide) (fun c_54 => ?_) (fun c_54 => ?_)
            · refine g_iload_n d_Word_isKnown_63 rfl ?_
              refine g_bipush (70) d_Word_isKnown_64 (by decide) ?_
              refine g_icmp_lt 79 d_Word_isKnown_66 (by decide) (fun c_66 => ?_) (fun c_66 => ?_)
              · refine g_iconst 0 d_Word_isKnown_79 (by decide) ?_
                refine Go.ret (some _) (by first | exact rOk_bI _ | exact rOk_b0 | exact rOk_b1) rfl d_Word_isKnown_80 ?_
                refine ⟨?_, rfl⟩
                simp_all [kWr, kPr, kWait, kKnown, kRA, kRB, kWP, kWD, bI, tk, -Int32.not_lt, -Int32.not_le, ← Int32.not_lt]
              · refine g_iload_n d_Word_isKnown_69 rfl ?_
                refine g_bipush (73) d_Word_isKnown_70 (by decide) ?_
                refine g_icmp_gt 79 d_Word_isKnown_72 (by decide) (fun c_72 => ?_) (fun c_72 => ?_)
                · refine g_iconst 0 d_Word_isKnown_79 (by decide) ?_
                  refine Go.ret (some _) (by first | exact rOk_bI _ | exact rOk_b0 | exact rOk_b1) rfl d_Word_isKnown_80 ?_
                  refine ⟨?_, rfl⟩
                  simp_all [kWr, kPr, kWait, kKnown, kRA, kRB, kWP, kWD, bI, tk, -Int32.not_lt, -Int32.not_le, ← Int32.not_lt]
                · refine g_iconst 1 d_Word_isKnown_75 (by decide) ?_
                  refine g_goto 80 d_Word_isKnown_76 (by decide) ?_
                  refine Go.ret (some _) (by first | exact rOk_bI _ | exact rOk_b0 | exact rOk_b1) rfl d_Word_isKnown_80 ?_
                  refine ⟨?_, rfl⟩
                  simp_all [kWr, kPr, kWait, kKnown, kRA, kRB, kWP, kWD, bI, tk, -Int32.not_lt, -Int32.not_le, ← Int32.not_lt]
            · refine g_iload_n d_Word_isKnown_57 rfl ?_
              refine g_bipush (59) d_Word_isKnown_58 (by decide) ?_
              refine g_icmp_le 75 d_Word_isKnown_60 (by decide) (fun c_60 => ?_) (fun c_60 => ?_)
              · refine g_iconst 1 d_Word_isKnown_75 (by decide) ?_
                refine g_goto 80 d_Word_isKnown_76 (by decide) ?_
                refine Go.ret (some _) (by first | exact rOk_bI _ | exact rOk_b0 | exact rOk_b1) rfl d_Word_isKnown_80 ?_
                refine ⟨?_, rfl⟩
                simp_all [kWr, kPr, kWait, kKnown, kRA, kRB, kWP, kWD, bI, tk, -Int32.not_lt, -Int32.not_le, ← Int32.not_lt]
              · refine g_iload_n d_Word_isKnown_63 rfl ?_
                refine g_bipush (70) d_Word_isKnown_64 (by decide) ?_
                refine g_icmp_lt 79 d_Word_isKnown_66 (by decide) (fun c_66 => ?_) (fun c_66 => ?_)
                · refine g_iconst 0 d_Word_isKnown_79 (by decide) ?_
                  refine Go.ret (some _) (by first | exact rOk_bI _ | exact rOk_b0 | exact rOk_b1) rfl d_Word_isKnown_80 ?_
                  refine ⟨?_, rfl⟩
                  simp_all [kWr, kPr, kWait, kKnown, kRA, kRB, kWP, kWD, bI, tk, -Int32.not_lt, -Int32.not_le, ← Int32.not_lt]
                · refine g_iload_n d_Word_isKnown_69 rfl ?_
                  refine g_bipush (73) d_Word_isKnown_70 (by decide) ?_
                  refine g_icmp_gt 79 d_Word_isKnown_72 (by decide) (fun c_72 => ?_) (fun c_72 => ?_)
                  · refine g_iconst 0 d_Word_isKnown_79 (by decide) ?_
                    refine Go.ret (some _) (by first | exact rOk_bI _ | exact rOk_b0 | exact rOk_b1) rfl d_Word_isKnown_80 ?_
                    refine ⟨?_, rfl⟩
                    simp_all [kWr, kPr, kWait, kKnown, kRA, kRB, kWP, kWD, bI, tk, -Int32.not_lt, -Int32.not_le, ← Int32.not_lt]
                  · refine g_iconst 1 d_Word_isKnown_75 (by decide) ?_
                    refine g_goto 80 d_Word_isKnown_76 (by decide) ?_
                    refine Go.ret (some _) (by first | exact rOk_bI _ | exact rOk_b0 | exact rOk_b1) rfl d_Word_isKnown_80 ?_
                    refine ⟨?_, rfl⟩
                    simp_all [kWr, kPr, kWait, kKnown, kRA, kRB, kWP, kWD, bI, tk, -Int32.not_lt, -Int32.not_le, ← Int32.not_lt]
      · refine g_iload_n d_Word_isKnown_33 rfl ?_
        refine g_bipush (36) d_Word_isKnown_34 (by decide) ?_
        refine g_icmp_le 75 d_Word_isKnown_36 (by decide) (fun c_36 => ?_) (fun c_36 => ?_)
        · refine g_iconst 1 d_Word_isKnown_75 (by decide) ?_
          refine g_goto 80 d_Word_isKnown_76 (by decide) ?_
          refine Go.ret (some _) (by first | exact rOk_bI _ | exact rOk_b0 | exact rOk_b1) rfl d_Word_isKnown_80 ?_
          refine ⟨?_, rfl⟩
          simp_all [kWr, kPr, kWait, kKnown, kRA, kRB, kWP, kWD, bI, tk, -Int32.not_lt, -Int32.not_le, ← Int32.not_lt]
        · refine g_iload_n d_Word_isKnown_39 rfl ?_
          refine g_bipush (40) d_Word_isKnown_40 (by decide) ?_
          refine g_icmp_lt 51 d_Word_isKnown_42 (by decide) (fun c_42 => ?_) (fun c_42 => ?_)
          · refine g_iload_n d_Word_isKnown_51 rfl ?_
            refine g_bipush (50) d_Word_isKnown_52 (by decide) ?_
            refine g_icmp_lt 63 d_Word_isKnown_54 (by decide) (fun c_54 => ?_) (fun c_54 => ?_)
            · refine g_iload_n d_Word_isKnown_63 rfl ?_
              refine g_bipush (70) d_Word_isKnown_64 (by decide) ?_
              refine g_icmp_lt 79 d_Word_isKnown_66 (by decide) (fun c_66 => ?_) (fun c_66 => ?_)
              · refine g_iconst 0 d_Word_isKnown_79 (by decide) ?_
                refine Go.ret (some _) (by first | exact rOk_bI _ | exact rOk_b0 | exact rOk_b1) rfl d_Word_isKnown_80 ?_
                refine ⟨?_, rfl⟩
                simp_all [kWr, kPr, kWait, kKnown, kRA, kRB, kWP, kWD, bI, tk, -Int32.not_lt, -Int32.not_le, ← Int32.not_lt]
              · refine g_iload_n d_Word_isKnown_69 rfl ?_
                refine g_bipush (73) d_Word_isKnown_70 (by decide) ?_
                refine g_icmp_gt 79 d_Word_isKnown_72 (by decide) (fun c_72 => ?_) (fun c_72 => ?_)
                · refine g_iconst 0 d_Word_isKnown_79 (by decide) ?_
                  refine Go.ret (some _) (by first | exact rOk_bI _ | exact rOk_b0 | exact rOk_b1) rfl d_Word_isKnown_80 ?_
                  refine ⟨?_, rfl⟩
                  simp_all [kWr, kPr, kWait, kKnown, kRA, kRB, kWP, kWD, bI, tk, -Int32.not_lt, -Int32.not_le, ← Int32.not_lt]
                · refine g_iconst 1 d_Word_isKnown_75 (by decide) ?_
                  refine g_goto 80 d_Word_isKnown_76 (by decide) ?_
                  refine Go.ret (some _) (by first | exact rOk_bI _ | exact rOk_b0 | exact rOk_b1) rfl d_Word_isKnown_80 ?_
                  refine ⟨?_, rfl⟩
                  simp_all [kWr, kPr, kWait, kKnown, kRA, kRB, kWP, kWD, bI, tk, -Int32.not_lt, -Int32.not_le, ← Int32.not_lt]
            · refine g_iload_n d_Word_isKnown_57 rfl ?_
              refine g_bipush (59) d_Word_isKnown_58 (by decide) ?_
              refine g_icmp_le 75 d_Word_isKnown_60 (by decide) (fun c_60 => ?_) (fun c_60 => ?_)
              · refine g_iconst 1 d_Word_isKnown_75 (by decide) ?_
                refine g_goto 80 d_Word_isKnown_76 (by decide) ?_
                refine Go.ret (some _) (by first | exact rOk_bI _ | exact rOk_b0 | exact rOk_b1) rfl d_Word_isKnown_80 ?_
                refine ⟨?_, rfl⟩
                simp_all [kWr, kPr, kWait, kKnown, kRA, kRB, kWP, kWD, bI, tk, -Int32.not_lt, -Int32.not_le, ← Int32.not_lt]
              · refine g_iload_n d_Word_isKnown_63 rfl ?_
                refine g_bipush (70) d_Word_isKnown_64 (by decide) ?_
                refine g_icmp_lt 79 d_Word_isKnown_66 (by decide) (fun c_66 => ?_) (fun c_66 => ?_)
                · refine g_iconst 0 d_Word_isKnown_79 (by decide) ?_
                  refine Go.ret (some _) (by first | exact rOk_bI _ | exact rOk_b0 | exact rOk_b1) rfl d_Word_isKnown_80 ?_
                  refine ⟨?_, rfl⟩
                  simp_all [kWr, kPr, kWait, kKnown, kRA, kRB, kWP, kWD, bI, tk, -Int32.not_lt, -Int32.not_le, ← Int32.not_lt]
                · refine g_iload_n d_Word_isKnown_69 rfl ?_
                  refine g_bipush (73) d_Word_isKnown_70 (by decide) ?_
                  refine g_icmp_gt 79 d_Word_isKnown_72 (by decide) (fun c_72 => ?_) (fun c_72 => ?_)
                  · refine g_iconst 0 d_Word_isKnown_79 (by decide) ?_
                    refine Go.ret (some _) (by first | exact rOk_bI _ | exact rOk_b0 | exact rOk_b1) rfl d_Word_isKnown_80 ?_
                    refine ⟨?_, rfl⟩
                    simp_all [kWr, kPr, kWait, kKnown, kRA, kRB, kWP, kWD, bI, tk, -Int32.not_lt, -Int32.not_le, ← Int32.not_lt]
                  · refine g_iconst 1 d_Word_isKnown_75 (by decide) ?_
                    refine g_goto 80 d_Word_isKnown_76 (by decide) ?_
                    refine Go.ret (some _) (by first | exact rOk_bI _ | exact rOk_b0 | exact rOk_b1) rfl d_Word_isKnown_80 ?_
                    refine ⟨?_, rfl⟩
                    simp_all [kWr, kPr, kWait, kKnown, kRA, kRB, kWP, kWD, bI, tk, -Int32.not_lt, -Int32.not_le, ← Int32.not_lt]
          · refine g_iload_n d_Word_isKnown_45 rfl ?_
            refine g_bipush (42) d_Word_isKnown_46 (by decide) ?_
            refine g_icmp_le 75 d_Word_isKnown_48 (by decide) (fun c_48 => ?_) (fun c_48 => ?_)
            · refine g_iconst 1 d_Word_isKnown_75 (by decide) ?_
              refine g_goto 80 d_Word_isKnown_76 (by decide) ?_
              refine Go.ret (some _) (by first | exact rOk_bI _ | exact rOk_b0 | exact rOk_b1) rfl d_Word_isKnown_80 ?_
              refine ⟨?_, rfl⟩
              simp_all [kWr, kPr, kWait, kKnown, kRA, kRB, kWP, kWD, bI, tk, -Int32.not_lt, -Int32.not_le, ← Int32.not_lt]
            · refine g_iload_n d_Word_isKnown_51 rfl ?_
              refine g_bipush (50) d_Word_isKnown_52 (by decide) ?_
              refine g_icmp_lt 63 d_Word_isKnown_54 (by decide) (fun c_54 => ?_) (fun c_54 => ?_)
              · refine g_iload_n d_Word_isKnown_63 rfl ?_
                refine g_bipush (70) d_Word_isKnown_64 (by decide) ?_
                refine g_icmp_lt 79 d_Word_isKnown_66 (by decide) (fun c_66 => ?_) (fun c_66 => ?_)
                · refine g_iconst 0 d_Word_isKnown_79 (by decide) ?_
                  refine Go.ret (some _) (by first | exact rOk_bI _ | exact rOk_b0 | exact rOk_b1) rfl d_Word_isKnown_80 ?_
                  refine ⟨?_, rfl⟩
                  simp_all [kWr, kPr, kWait, kKnown, kRA, kRB, kWP, kWD, bI, tk, -Int32.not_lt, -Int32.not_le, ← Int32.not_lt]
                · refine g_iload_n d_Word_isKnown_69 rfl ?_
                  refine g_bipush (73) d_Word_isKnown_70 (by decide) ?_
                  refine g_icmp_gt 79 d_Word_isKnown_72 (by decide) (fun c_72 => ?_) (fun c_72 => ?_)
                  · refine g_iconst 0 d_Word_isKnown_79 (by decide) ?_
                    refine Go.ret (some _) (by first | exact rOk_bI _ | exact rOk_b0 | exact rOk_b1) rfl d_Word_isKnown_80 ?_
                    refine ⟨?_, rfl⟩
                    simp_all [kWr, kPr, kWait, kKnown, kRA, kRB, kWP, kWD, bI, tk, -Int32.not_lt, -Int32.not_le, ← Int32.not_lt]
                  · refine g_iconst 1 d_Word_isKnown_75 (by decide) ?_
                    refine g_goto 80 d_Word_isKnown_76 (by decide) ?_
                    refine Go.ret (some _) (by first | exact rOk_bI _ | exact rOk_b0 | exact rOk_b1) rfl d_Word_isKnown_80 ?_
                    refine ⟨?_, rfl⟩
                    simp_all [kWr, kPr, kWait, kKnown, kRA, kRB, kWP, kWD, bI, tk, -Int32.not_lt, -Int32.not_le, ← Int32.not_lt]
              · refine g_iload_n d_Word_isKnown_57 rfl ?_
                refine g_bipush (59) d_Word_isKnown_58 (by decide) ?_
                refine g_icmp_le 75 d_Word_isKnown_60 (by decide) (fun c_60 => ?_) (fun c_60 => ?_)
                · refine g_iconst 1 d_Word_isKnown_75 (by decide) ?_
                  refine g_goto 80 d_Word_isKnown_76 (by decide) ?_
                  refine Go.ret (some _) (by first | exact rOk_bI _ | exact rOk_b0 | exact rOk_b1) rfl d_Word_isKnown_80 ?_
                  refine ⟨?_, rfl⟩
                  simp_all [kWr, kPr, kWait, kKnown, kRA, kRB, kWP, kWD, bI, tk, -Int32.not_lt, -Int32.not_le, ← Int32.not_lt]
                · refine g_iload_n d_Word_isKnown_63 rfl ?_
                  refine g_bipush (70) d_Word_isKnown_64 (by decide) ?_
                  refine g_icmp_lt 79 d_Word_isKnown_66 (by decide) (fun c_66 => ?_) (fun c_66 => ?_)
                  · refine g_iconst 0 d_Word_isKnown_79 (by decide) ?_
                    refine Go.ret (some _) (by first | exact rOk_bI _ | exact rOk_b0 | exact rOk_b1) rfl d_Word_isKnown_80 ?_
                    refine ⟨?_, rfl⟩
                    simp_all [kWr, kPr, kWait, kKnown, kRA, kRB, kWP, kWD, bI, tk, -Int32.not_lt, -Int32.not_le, ← Int32.not_lt]
                  · refine g_iload_n d_Word_isKnown_69 rfl ?_
                    refine g_bipush (73) d_Word_isKnown_70 (by decide) ?_
                    refine g_icmp_gt 79 d_Word_isKnown_72 (by decide) (fun c_72 => ?_) (fun c_72 => ?_)
                    · refine g_iconst 0 d_Word_isKnown_79 (by decide) ?_
                      refine Go.ret (some _) (by first | exact rOk_bI _ | exact rOk_b0 | exact rOk_b1) rfl d_Word_isKnown_80 ?_
                      refine ⟨?_, rfl⟩
                      simp_all [kWr, kPr, kWait, kKnown, kRA, kRB, kWP, kWD, bI, tk, -Int32.not_lt, -Int32.not_le, ← Int32.not_lt]
                    · refine g_iconst 1 d_Word_isKnown_75 (by decide) ?_
                      refine g_goto 80 d_Word_isKnown_76 (by decide) ?_
                      refine Go.ret (some _) (by first | exact rOk_bI _ | exact rOk_b0 | exact rOk_b1) rfl d_Word_isKnown_80 ?_
                      refine ⟨?_, rfl⟩
                      simp_all [kWr, kPr, kWait, kKnown, kRA, kRB, kWP, kWD, bI, tk, -Int32.not_lt, -Int32.not_le, ← Int32.not_lt]
  · refine g_iload_n d_Word_isKnown_5 rfl ?_
    refine g_if_lt 19 d_Word_isKnown_6 (by decide) (fun c_6 => ?_) (fun c_6 => ?_)
    · refine g_iconst 0 d_Word_isKnown_19 (by decide) ?_
      refine Go.ret (some _) (by first | exact rOk_bI _ | exact rOk_b0 | exact rOk_b1) rfl d_Word_isKnown_20 ?_
      refine ⟨?_, rfl⟩
      simp_all [kWr, kPr, kWait, kKnown, kRA, kRB, kWP, kWD, bI, tk, -Int32.not_lt, -Int32.not_le, ← Int32.not_lt]
    · refine g_iload_n d_Word_isKnown_9 rfl ?_
      refine g_bipush (6) d_Word_isKnown_10 (by decide) ?_
      refine g_icmp_gt 19 d_Word_isKnown_12 (by decide) (fun c_12 => ?_) (fun c_12 => ?_)
      · refine g_iconst 0 d_Word_isKnown_19 (by decide) ?_
        refine Go.ret (some _) (by first | exact rOk_bI _ | exact rOk_b0 | exact rOk_b1) rfl d_Word_isKnown_20 ?_
        refine ⟨?_, rfl⟩
        simp_all [kWr, kPr, kWait, kKnown, kRA, kRB, kWP, kWD, bI, tk, -Int32.not_lt, -Int32.not_le, ← Int32.not_lt]
      · refine g_iconst 1 d_Word_isKnown_15 (by decide) ?_
        refine g_goto 20 d_Word_isKnown_16 (by decide) ?_
        refine Go.ret (some _) (by first | exact rOk_bI _ | exact rOk_b0 | exact rOk_b1) rfl d_Word_isKnown_20 ?_
        refine ⟨?_, rfl⟩
        simp_all [kWr, kPr, kWait, kKnown, kRA, kRB, kWP, kWD, bI, tk, -Int32.not_lt, -Int32.not_le, ← Int32.not_lt]
abbrev mi_Word_writtenBy : MI := (⟨"WarpMill$Word", "writtenBy", "(II)I"⟩, prog_11_method_7_code, 3, some .int, 0, 0)
def it_Word_writtenBy_0 : List (Nat × ClassFile.Instr × Nat) := [(0, .iload_n 0, 1), (1, .bipush (30), 2), (3, .if_icmp .lt (9), 3), (6, .iload_n 0, 1), (7, .bipush (36), 2), (9, .if_icmp .le (15), 3), (12, .iload_n 0, 1), (13, .bipush (70), 2), (15, .if_icmp .eq (9), 3), (18, .iload_n 0, 1), (19, .bipush (71), 2), (21, .if_icmp .ne (10), 3), (24, .bipush (16), 2), (26, .iload_n 1, 1), (27, .iconst 3, 1), (28, .iand, 1), (29, .iadd, 1), (30, .ireturn, 1), (31, .iload_n 0, 1), (32, .iconst 2, 1), (33, .if_icmp .lt (9), 3), (36, .iload_n 0, 1), (37, .bipush (21), 2), (39, .if_icmp .le (45), 3)]
theorem id_Word_writtenBy_0 : ∀ q ∈ it_Word_writtenBy_0, decode prog_11_method_7_code q.1 = .ok q.2 := by decide +kernel
theorem d_Word_writtenBy_0 : decode prog_11_method_7_code 0 = .ok (.iload_n 0, 1) := id_Word_writtenBy_0 (0, .iload_n 0, 1) (List.mem_of_getElem? (i := 0) rfl)
theorem d_Word_writtenBy_1 : decode prog_11_method_7_code 1 = .ok (.bipush (30), 2) := id_Word_writtenBy_0 (1, .bipush (30), 2) (List.mem_of_getElem? (i := 1) rfl)
theorem d_Word_writtenBy_3 : decode prog_11_method_7_code 3 = .ok (.if_icmp .lt (9), 3) := id_Word_writtenBy_0 (3, .if_icmp .lt (9), 3) (List.mem_of_getElem? (i := 2) rfl)
theorem d_Word_writtenBy_6 : decode prog_11_method_7_code 6 = .ok (.iload_n 0, 1) := id_Word_writtenBy_0 (6, .iload_n 0, 1) (List.mem_of_getElem? (i := 3) rfl)
theorem d_Word_writtenBy_7 : decode prog_11_method_7_code 7 = .ok (.bipush (36), 2) := id_Word_writtenBy_0 (7, .bipush (36), 2) (List.mem_of_getElem? (i := 4) rfl)
theorem d_Word_writtenBy_9 : decode prog_11_method_7_code 9 = .ok (.if_icmp .le (15), 3) := id_Word_writtenBy_0 (9, .if_icmp .le (15), 3) (List.mem_of_getElem? (i := 5) rfl)
theorem d_Word_writtenBy_12 : decode prog_11_method_7_code 12 = .ok (.iload_n 0, 1) := id_Word_writtenBy_0 (12, .iload_n 0, 1) (List.mem_of_getElem? (i := 6) rfl)
theorem d_Word_writtenBy_13 : decode prog_11_method_7_code 13 = .ok (.bipush (70), 2) := id_Word_writtenBy_0 (13, .bipush (70), 2) (List.mem_of_getElem? (i := 7) rfl)
theorem d_Word_writtenBy_15 : decode prog_11_method_7_code 15 = .ok (.if_icmp .eq (9), 3) := id_Word_writtenBy_0 (15, .if_icmp .eq (9), 3) (List.mem_of_getElem? (i := 8) rfl)
theorem d_Word_writtenBy_18 : decode prog_11_method_7_code 18 = .ok (.iload_n 0, 1) := id_Word_writtenBy_0 (18, .iload_n 0, 1) (List.mem_of_getElem? (i := 9) rfl)
theorem d_Word_writtenBy_19 : decode prog_11_method_7_code 19 = .ok (.bipush (71), 2) := id_Word_writtenBy_0 (19, .bipush (71), 2) (List.mem_of_getElem? (i := 10) rfl)
theorem d_Word_writtenBy_21 : decode prog_11_method_7_code 21 = .ok (.if_icmp .ne (10), 3) := id_Word_writtenBy_0 (21, .if_icmp .ne (10), 3) (List.mem_of_getElem? (i := 11) rfl)
theorem d_Word_writtenBy_24 : decode prog_11_method_7_code 24 = .ok (.bipush (16), 2) := id_Word_writtenBy_0 (24, .bipush (16), 2) (List.mem_of_getElem? (i := 12) rfl)
theorem d_Word_writtenBy_26 : decode prog_11_method_7_code 26 = .ok (.iload_n 1, 1) := id_Word_writtenBy_0 (26, .iload_n 1, 1) (List.mem_of_getElem? (i := 13) rfl)
theorem d_Word_writtenBy_27 : decode prog_11_method_7_code 27 = .ok (.iconst 3, 1) := id_Word_writtenBy_0 (27, .iconst 3, 1) (List.mem_of_getElem? (i := 14) rfl)
theorem d_Word_writtenBy_28 : decode prog_11_method_7_code 28 = .ok (.iand, 1) := id_Word_writtenBy_0 (28, .iand, 1) (List.mem_of_getElem? (i := 15) rfl)
theorem d_Word_writtenBy_29 : decode prog_11_method_7_code 29 = .ok (.iadd, 1) := id_Word_writtenBy_0 (29, .iadd, 1) (List.mem_of_getElem? (i := 16) rfl)
theorem d_Word_writtenBy_30 : decode prog_11_method_7_code 30 = .ok (.ireturn, 1) := id_Word_writtenBy_0 (30, .ireturn, 1) (List.mem_of_getElem? (i := 17) rfl)
theorem d_Word_writtenBy_31 : decode prog_11_method_7_code 31 = .ok (.iload_n 0, 1) := id_Word_writtenBy_0 (31, .iload_n 0, 1) (List.mem_of_getElem? (i := 18) rfl)
theorem d_Word_writtenBy_32 : decode prog_11_method_7_code 32 = .ok (.iconst 2, 1) := id_Word_writtenBy_0 (32, .iconst 2, 1) (List.mem_of_getElem? (i := 19) rfl)
theorem d_Word_writtenBy_33 : decode prog_11_method_7_code 33 = .ok (.if_icmp .lt (9), 3) := id_Word_writtenBy_0 (33, .if_icmp .lt (9), 3) (List.mem_of_getElem? (i := 20) rfl)
theorem d_Word_writtenBy_36 : decode prog_11_method_7_code 36 = .ok (.iload_n 0, 1) := id_Word_writtenBy_0 (36, .iload_n 0, 1) (List.mem_of_getElem? (i := 21) rfl)
theorem d_Word_writtenBy_37 : decode prog_11_method_7_code 37 = .ok (.bipush (21), 2) := id_Word_writtenBy_0 (37, .bipush (21), 2) (List.mem_of_getElem? (i := 22) rfl)
theorem d_Word_writtenBy_39 : decode prog_11_method_7_code 39 = .ok (.if_icmp .le (45), 3) := id_Word_writtenBy_0 (39, .if_icmp .le (45), 3) (List.mem_of_getElem? (i := 23) rfl)
def it_Word_writtenBy_1 : List (Nat × ClassFile.Instr × Nat) := [(42, .iload_n 0, 1), (43, .bipush (41), 2), (45, .if_icmp .eq (39), 3), (48, .iload_n 0, 1), (49, .bipush (50), 2), (51, .if_icmp .eq (33), 3), (54, .iload_n 0, 1), (55, .bipush (52), 2), (57, .if_icmp .eq (27), 3), (60, .iload_n 0, 1), (61, .bipush (54), 2), (63, .if_icmp .lt (9), 3), (66, .iload_n 0, 1), (67, .bipush (59), 2), (69, .if_icmp .le (15), 3), (72, .iload_n 0, 1), (73, .bipush (72), 2), (75, .if_icmp .eq (9), 3), (78, .iload_n 0, 1), (79, .bipush (73), 2), (81, .if_icmp .ne (7), 3), (84, .iconst 1, 1), (85, .goto (4), 3), (88, .iconst 0, 1)]
theorem id_Word_writtenBy_1 : ∀ q ∈ it_Word_writtenBy_1, decode prog_11_method_7_code q.1 = .ok q.2 := by decide +kernel
theorem d_Word_writtenBy_42 : decode prog_11_method_7_code 42 = .ok (.iload_n 0, 1) := id_Word_writtenBy_1 (42, .iload_n 0, 1) (List.mem_of_getElem? (i := 0) rfl)
theorem d_Word_writtenBy_43 : decode prog_11_method_7_code 43 = .ok (.bipush (41), 2) := id_Word_writtenBy_1 (43, .bipush (41), 2) (List.mem_of_getElem? (i := 1) rfl)
theorem d_Word_writtenBy_45 : decode prog_11_method_7_code 45 = .ok (.if_icmp .eq (39), 3) := id_Word_writtenBy_1 (45, .if_icmp .eq (39), 3) (List.mem_of_getElem? (i := 2) rfl)
theorem d_Word_writtenBy_48 : decode prog_11_method_7_code 48 = .ok (.iload_n 0, 1) := id_Word_writtenBy_1 (48, .iload_n 0, 1) (List.mem_of_getElem? (i := 3) rfl)
theorem d_Word_writtenBy_49 : decode prog_11_method_7_code 49 = .ok (.bipush (50), 2) := id_Word_writtenBy_1 (49, .bipush (50), 2) (List.mem_of_getElem? (i := 4) rfl)
theorem d_Word_writtenBy_51 : decode prog_11_method_7_code 51 = .ok (.if_icmp .eq (33), 3) := id_Word_writtenBy_1 (51, .if_icmp .eq (33), 3) (List.mem_of_getElem? (i := 5) rfl)
theorem d_Word_writtenBy_54 : decode prog_11_method_7_code 54 = .ok (.iload_n 0, 1) := id_Word_writtenBy_1 (54, .iload_n 0, 1) (List.mem_of_getElem? (i := 6) rfl)
theorem d_Word_writtenBy_55 : decode prog_11_method_7_code 55 = .ok (.bipush (52), 2) := id_Word_writtenBy_1 (55, .bipush (52), 2) (List.mem_of_getElem? (i := 7) rfl)
theorem d_Word_writtenBy_57 : decode prog_11_method_7_code 57 = .ok (.if_icmp .eq (27), 3) := id_Word_writtenBy_1 (57, .if_icmp .eq (27), 3) (List.mem_of_getElem? (i := 8) rfl)
theorem d_Word_writtenBy_60 : decode prog_11_method_7_code 60 = .ok (.iload_n 0, 1) := id_Word_writtenBy_1 (60, .iload_n 0, 1) (List.mem_of_getElem? (i := 9) rfl)
theorem d_Word_writtenBy_61 : decode prog_11_method_7_code 61 = .ok (.bipush (54), 2) := id_Word_writtenBy_1 (61, .bipush (54), 2) (List.mem_of_getElem? (i := 10) rfl)
theorem d_Word_writtenBy_63 : decode prog_11_method_7_code 63 = .ok (.if_icmp .lt (9), 3) := id_Word_writtenBy_1 (63, .if_icmp .lt (9), 3) (List.mem_of_getElem? (i := 11) rfl)
theorem d_Word_writtenBy_66 : decode prog_11_method_7_code 66 = .ok (.iload_n 0, 1) := id_Word_writtenBy_1 (66, .iload_n 0, 1) (List.mem_of_getElem? (i := 12) rfl)
theorem d_Word_writtenBy_67 : decode prog_11_method_7_code 67 = .ok (.bipush (59), 2) := id_Word_writtenBy_1 (67, .bipush (59), 2) (List.mem_of_getElem? (i := 13) rfl)
theorem d_Word_writtenBy_69 : decode prog_11_method_7_code 69 = .ok (.if_icmp .le (15), 3) := id_Word_writtenBy_1 (69, .if_icmp .le (15), 3) (List.mem_of_getElem? (i := 14) rfl)
theorem d_Word_writtenBy_72 : decode prog_11_method_7_code 72 = .ok (.iload_n 0, 1) := id_Word_writtenBy_1 (72, .iload_n 0, 1) (List.mem_of_getElem? (i := 15) rfl)
theorem d_Word_writtenBy_73 : decode prog_11_method_7_code 73 = .ok (.bipush (72), 2) := id_Word_writtenBy_1 (73, .bipush (72), 2) (List.mem_of_getElem? (i := 16) rfl)
theorem d_Word_writtenBy_75 : decode prog_11_method_7_code 75 = .ok (.if_icmp .eq (9), 3) := id_Word_writtenBy_1 (75, .if_icmp .eq (9), 3) (List.mem_of_getElem? (i := 17) rfl)
theorem d_Word_writtenBy_78 : decode prog_11_method_7_code 78 = .ok (.iload_n 0, 1) := id_Word_writtenBy_1 (78, .iload_n 0, 1) (List.mem_of_getElem? (i := 18) rfl)
theorem d_Word_writtenBy_79 : decode prog_11_method_7_code 79 = .ok (.bipush (73), 2) := id_Word_writtenBy_1 (79, .bipush (73), 2) (List.mem_of_getElem? (i := 19) rfl)
theorem d_Word_writtenBy_81 : decode prog_11_method_7_code 81 = .ok (.if_icmp .ne (7), 3) := id_Word_writtenBy_1 (81, .if_icmp .ne (7), 3) (List.mem_of_getElem? (i := 20) rfl)
theorem d_Word_writtenBy_84 : decode prog_11_method_7_code 84 = .ok (.iconst 1, 1) := id_Word_writtenBy_1 (84, .iconst 1, 1) (List.mem_of_getElem? (i := 21) rfl)
theorem d_Word_writtenBy_85 : decode prog_11_method_7_code 85 = .ok (.goto (4), 3) := id_Word_writtenBy_1 (85, .goto (4), 3) (List.mem_of_getElem? (i := 22) rfl)
theorem d_Word_writtenBy_88 : decode prog_11_method_7_code 88 = .ok (.iconst 0, 1) := id_Word_writtenBy_1 (88, .iconst 0, 1) (List.mem_of_getElem? (i := 23) rfl)
def it_Word_writtenBy_2 : List (Nat × ClassFile.Instr × Nat) := [(89, .istore_n 2, 1), (90, .iload_n 2, 1), (91, .ifCond .eq (7), 3), (94, .iload_n 1, 1), (95, .goto (4), 3), (98, .iconst (-1), 1), (99, .ireturn, 1)]
theorem id_Word_writtenBy_2 : ∀ q ∈ it_Word_writtenBy_2, decode prog_11_method_7_code q.1 = .ok q.2 := by decide +kernel
theorem d_Word_writtenBy_89 : decode prog_11_method_7_code 89 = .ok (.istore_n 2, 1) := id_Word_writtenBy_2 (89, .istore_n 2, 1) (List.mem_of_getElem? (i := 0) rfl)
theorem d_Word_writtenBy_90 : decode prog_11_method_7_code 90 = .ok (.iload_n 2, 1) := id_Word_writtenBy_2 (90, .iload_n 2, 1) (List.mem_of_getElem? (i := 1) rfl)
theorem d_Word_writtenBy_91 : decode prog_11_method_7_code 91 = .ok (.ifCond .eq (7), 3) := id_Word_writtenBy_2 (91, .ifCond .eq (7), 3) (List.mem_of_getElem? (i := 2) rfl)
theorem d_Word_writtenBy_94 : decode prog_11_method_7_code 94 = .ok (.iload_n 1, 1) := id_Word_writtenBy_2 (94, .iload_n 1, 1) (List.mem_of_getElem? (i := 3) rfl)
theorem d_Word_writtenBy_95 : decode prog_11_method_7_code 95 = .ok (.goto (4), 3) := id_Word_writtenBy_2 (95, .goto (4), 3) (List.mem_of_getElem? (i := 4) rfl)
theorem d_Word_writtenBy_98 : decode prog_11_method_7_code 98 = .ok (.iconst (-1), 1) := id_Word_writtenBy_2 (98, .iconst (-1), 1) (List.mem_of_getElem? (i := 5) rfl)
theorem d_Word_writtenBy_99 : decode prog_11_method_7_code 99 = .ok (.ireturn, 1) := id_Word_writtenBy_2 (99, .ireturn, 1) (List.mem_of_getElem? (i := 6) rfl)
theorem wC_Word_writtenBy : Cond.code ⟨"WarpMill$Word", "writtenBy", "(II)I"⟩ prog_11_method_7_code 3 (some .int) ∈ lw_tb := mem_tb 275 (by decide +kernel) rfl
set_option maxRecDepth 100000 in
set_option maxHeartbeats 4000000 in
theorem sp_Word_writtenBy {G : Gl} {h : Hp} (op d : Int32)  : Ex G mi_Word_writtenBy [.int op, .int d] h (fun r h' => r = some (.int (kWr op d)) ∧ h' = h) := by
  refine Ex.of (by decide) (Nat.le_of_ble_eq_true rfl) ?_
  show Go G mi_Word_writtenBy h _ h 0 [(0, .int op), (1, .int d)] []
  refine g_iload_n d_Word_writtenBy_0 rfl ?_
  refine g_bipush (30) d_Word_writtenBy_1 (by decide) ?_
  refine g_icmp_lt 12 d_Word_writtenBy_3 (by decide) (fun c_3 => ?_) (fun c_3 => ?_)
  · refine g_iload_n d_Word_writtenBy_12 rfl ?_
    refine g_bipush (70) d_Word_writtenBy_13 (by decide) ?_
    refine g_icmp_eq 24 d_Word_writtenBy_15 (by decide) (fun c_15 => ?_) (fun c_15 => ?_)
    · refine g_bipush (16) d_Word_writtenBy_24 (by decide) ?_
      refine g_iload_n d_Word_writtenBy_26 rfl ?_
      refine g_iconst 3 d_Word_writtenBy_27 (by decide) ?_
      refine g_iand d_Word_writtenBy_28 ?_
      refine g_iadd d_Word_writtenBy_29 ?_
      refine Go.ret (some _) (rOk_i _) rfl d_Word_writtenBy_30 ?_
      refine ⟨?_, rfl⟩
      simp_all [kWr, kPr, kWait, kKnown, kRA, kRB, kWP, kWD, bI, tk, -Int32.not_lt, -Int32.not_le, ← Int32.not_lt]
    · refine g_iload_n d_Word_writtenBy_18 rfl ?_
      refine g_bipush (71) d_Word_writtenBy_19 (by decide) ?_
      refine g_icmp_ne 31 d_Word_writtenBy_21 (by decide) (fun c_21 => ?_) (fun c_21 => ?_)
      · refine g_iload_n d_Word_writtenBy_31 rfl ?_
        refine g_iconst 2 d_Word_writtenBy_32 (by decide) ?_
        refine g_icmp_lt 42 d_Word_writtenBy_33 (by decide) (fun c_33 => ?_) (fun c_33 => ?_)
        · refine g_iload_n d_Word_writtenBy_42 rfl ?_
          refine g_bipush (41) d_Word_writtenBy_43 (by decide) ?_
          refine g_icmp_eq 84 d_Word_writtenBy_45 (by decide) (fun c_45 => ?_) (fun c_45 => ?_)
          · refine g_iconst 1 d_Word_writtenBy_84 (by decide) ?_
            refine g_goto 89 d_Word_writtenBy_85 (by decide) ?_
            refine g_istore_n d_Word_writtenBy_89 (by decide) ?_
            show Go _ _ _ _ _ _ [(0, _), (1, _), (2, _)] _
            refine g_iload_n d_Word_writtenBy_90 rfl ?_
            refine g_if_eq 98 d_Word_writtenBy_91 (by decide) (fun c_91 => ?_) (fun c_91 => ?_)
            · refine g_iconst (-1) d_Word_writtenBy_98 (by decide) ?_
              refine Go.ret (some _) (rOk_i _) rfl d_Word_writtenBy_99 ?_
              refine ⟨?_, rfl⟩
              simp_all [kWr, kPr, kWait, kKnown, kRA, kRB, kWP, kWD, bI, tk, -Int32.not_lt, -Int32.not_le, ← Int32.not_lt]
            · refine g_iload_n d_Word_writtenBy_94 rfl ?_
              refine g_goto 99 d_Word_writtenBy_95 (by decide) ?_
              refine Go.ret (some _) (rOk_i _) rfl d_Word_writtenBy_99 ?_
              refine ⟨?_, rfl⟩
              simp_all [kWr, kPr, kWait, kKnown, kRA, kRB, kWP, kWD, bI, tk, -Int32.not_lt, -Int32.not_le, ← Int32.not_lt]
          · refine g_iload_n d_Word_writtenBy_48 rfl ?_
            refine g_bipush (50) d_Word_writtenBy_49 (by decide) ?_
            refine g_icmp_eq 84 d_Word_writtenBy_51 (by decide) (fun c_51 => ?_) (fun c_51 => ?_)
            · refine g_iconst 1 d_Word_writtenBy_84 (by decide) ?_
              refine g_goto 89 d_Word_writtenBy_85 (by decide) ?_
              refine g_istore_n d_Word_writtenBy_89 (by decide) ?_
              show Go _ _ _ _ _ _ [(0, _), (1, _), (2, _)] _
              refine g_iload_n d_Word_writtenBy_90 rfl ?_
              refine g_if_eq 98 d_Word_writtenBy_91 (by decide) (fun c_91 => ?_) (fun c_91 => ?_)
              · refine g_iconst (-1) d_Word_writtenBy_98 (by decide) ?_
                refine Go.ret (some _) (rOk_i _) rfl d_Word_writtenBy_99 ?_
                refine ⟨?_, rfl⟩
                simp_all [kWr, kPr, kWait, kKnown, kRA, kRB, kWP, kWD, bI, tk, -Int32.not_lt, -Int32.not_le, ← Int32.not_lt]
              · refine g_iload_n d_Word_writtenBy_94 rfl ?_
                refine g_goto 99 d_Word_writtenBy_95 (by decide) ?_
                refine Go.ret (some _) (rOk_i _) rfl d_Word_writtenBy_99 ?_
                refine ⟨?_, rfl⟩
                simp_all [kWr, kPr, kWait, kKnown, kRA, kRB, kWP, kWD, bI, tk, -Int32.not_lt, -Int32.not_le, ← Int32.not_lt]
            · refine g_iload_n d_Word_writtenBy_54 rfl ?_
              refine g_bipush (52) d_Word_writtenBy_55 (by decide) ?_
              refine g_icmp_eq 84 d_Word_writtenBy_57 (by decide) (fun c_57 => ?_) (fun c_57 => ?_)
              · refine g_iconst 1 d_Word_writtenBy_84 (by decide) ?_
                refine g_goto 89 d_Word_writtenBy_85 (by decide) ?_
                refine g_istore_n d_Word_writtenBy_89 (by decide) ?_
                show Go _ _ _ _ _ _ [(0, _), (1, _), (2, _)] _
                refine g_iload_n d_Word_writtenBy_90 rfl ?_
                refine g_if_eq 98 d_Word_writtenBy_91 (by decide) (fun c_91 => ?_) (fun c_91 => ?_)
                · refine g_iconst (-1) d_Word_writtenBy_98 (by decide) ?_
                  refine Go.ret (some _) (rOk_i _) rfl d_Word_writtenBy_99 ?_
                  refine ⟨?_, rfl⟩
                  simp_all [kWr, kPr, kWait, kKnown, kRA, kRB, kWP, kWD, bI, tk, -Int32.not_lt, -Int32.not_le, ← Int32.not_lt]
                · refine g_iload_n d_Word_writtenBy_94 rfl ?_
                  refine g_goto 99 d_Word_writtenBy_95 (by decide) ?_
                  refine Go.ret (some _) (rOk_i _) rfl d_Word_writtenBy_99 ?_
                  refine ⟨?_, rfl⟩
                  simp_all [kWr, kPr, kWait, kKnown, kRA, kRB, kWP, kWD, bI, tk, -Int32.not_lt, -Int32.not_le, ← Int32.not_lt]
              · refine g_iload_n d_Word_writtenBy_60 rfl ?_
                refine g_bipush (54) d_Word_writtenBy_61 (by decide) ?_
                refine g_icmp_lt 72 d_Word_writtenBy_63 (by decide) (fun c_63 => ?_) (fun c_63 => ?_)
                · refine g_iload_n d_Word_writtenBy_72 rfl ?_
                  refine g_bipush (72) d_Word_writtenBy_73 (by decide) ?_
                  refine g_icmp_eq 84 d_Word_writtenBy_75 (by decide) (fun c_75 => ?_) (fun c_75 => ?_)
                  · refine g_iconst 1 d_Word_writtenBy_84 (by decide) ?_
                    refine g_goto 89 d_Word_writtenBy_85 (by decide) ?_
                    refine g_istore_n d_Word_writtenBy_89 (by decide) ?_
                    show Go _ _ _ _ _ _ [(0, _), (1, _), (2, _)] _
                    refine g_iload_n d_Word_writtenBy_90 rfl ?_
                    refine g_if_eq 98 d_Word_writtenBy_91 (by decide) (fun c_91 => ?_) (fun c_91 => ?_)
                    · refine g_iconst (-1) d_Word_writtenBy_98 (by decide) ?_
                      refine Go.ret (some _) (rOk_i _) rfl d_Word_writtenBy_99 ?_
                      refine ⟨?_, rfl⟩
                      simp_all [kWr, kPr, kWait, kKnown, kRA, kRB, kWP, kWD, bI, tk, -Int32.not_lt, -Int32.not_le, ← Int32.not_lt]
                    · refine g_iload_n d_Word_writtenBy_94 rfl ?_
                      refine g_goto 99 d_Word_writtenBy_95 (by decide) ?_
                      refine Go.ret (some _) (rOk_i _) rfl d_Word_writtenBy_99 ?_
                      refine ⟨?_, rfl⟩
                      simp_all [kWr, kPr, kWait, kKnown, kRA, kRB, kWP, kWD, bI, tk, -Int32.not_lt, -Int32.not_le, ← Int32.not_lt]
                  · refine g_iload_n d_Word_writtenBy_78 rfl ?_
                    refine g_bipush (73) d_Word_writtenBy_79 (by decide) ?_
                    refine g_icmp_ne 88 d_Word_writtenBy_81 (by decide) (fun c_81 => ?_) (fun c_81 => ?_)
                    · refine g_iconst 0 d_Word_writtenBy_88 (by decide) ?_
                      refine g_istore_n d_Word_writtenBy_89 (by decide) ?_
                      show Go _ _ _ _ _ _ [(0, _), (1, _), (2, _)] _
                      refine g_iload_n d_Word_writtenBy_90 rfl ?_
                      refine g_if_eq 98 d_Word_writtenBy_91 (by decide) (fun c_91 => ?_) (fun c_91 => ?_)
                      · refine g_iconst (-1) d_Word_writtenBy_98 (by decide) ?_
                        refine Go.ret (some _) (rOk_i _) rfl d_Word_writtenBy_99 ?_
                        refine ⟨?_, rfl⟩
                        simp_all [kWr, kPr, kWait, kKnown, kRA, kRB, kWP, kWD, bI, tk, -Int32.not_lt, -Int32.not_le, ← Int32.not_lt]
                      · refine g_iload_n d_Word_writtenBy_94 rfl ?_
                        refine g_goto 99 d_Word_writtenBy_95 (by decide) ?_
                        refine Go.ret (some _) (rOk_i _) rfl d_Word_writtenBy_99 ?_
                        refine ⟨?_, rfl⟩
                        simp_all [kWr, kPr, kWait, kKnown, kRA, kRB, kWP, kWD, bI, tk, -Int32.not_lt, -Int32.not_le, ← Int32.not_lt]
                    · refine g_iconst 1 d_Word_writtenBy_84 (by decide) ?_
                      refine g_goto 89 d_Word_writtenBy_85 (by decide) ?_
                      refine g_istore_n d_Word_writtenBy_89 (by decide) ?_
                      show Go _ _ _ _ _ _ [(0, _), (1, _), (2, _)] _
                      refine g_iload_n d_Word_writtenBy_90 rfl ?_
                      refine g_if_eq 98 d_Word_writtenBy_91 (by decide) (fun c_91 => ?_) (fun c_91 => ?_)
                      · refine g_iconst (-1) d_Word_writtenBy_98 (by decide) ?_
                        refine Go.ret (some _) (rOk_i _) rfl d_Word_writtenBy_99 ?_
                        refine ⟨?_, rfl⟩
                        simp_all [kWr, kPr, kWait, kKnown, kRA, kRB, kWP, kWD, bI, tk, -Int32.not_lt, -Int32.not_le, ← Int32.not_lt]
                      · refine g_iload_n d_Word_writtenBy_94 rfl ?_
                        refine g_goto 99 d_Word_writtenBy_95 (by decide) ?_
                        refine Go.ret (some _) (rOk_i _) rfl d_Word_writtenBy_99 ?_
                        refine ⟨?_, rfl⟩
                        simp_all [kWr, kPr, kWait, kKnown, kRA, kRB, kWP, kWD, bI, tk, -Int32.not_lt, -Int32.not_le, ← Int32.not_lt]
                · refine g_iload_n d_Word_writtenBy_66 rfl ?_
                  refine g_bipush (59) d_Word_writtenBy_67 (by decide) ?_
                  refine g_icmp_le 84 d_Word_writtenBy_69 (by decide) (fun c_69 => ?_) (fun c_69 => ?_)
                  · refine g_iconst 1 d_Word_writtenBy_84 (by decide) ?_
                    refine g_goto 89 d_Word_writtenBy_85 (by decide) ?_
                    refine g_istore_n d_Word_writtenBy_89 (by decide) ?_
                    show Go _ _ _ _ _ _ [(0, _), (1, _), (2, _)] _
                    refine g_iload_n d_Word_writtenBy_90 rfl ?_
                    refine g_if_eq 98 d_Word_writtenBy_91 (by decide) (fun c_91 => ?_) (fun c_91 => ?_)
                    · refine g_iconst (-1) d_Word_writtenBy_98 (by decide) ?_
                      refine Go.ret (some _) (rOk_i _) rfl d_Word_writtenBy_99 ?_
                      refine ⟨?_, rfl⟩
                      simp_all [kWr, kPr, kWait, kKnown, kRA, kRB, kWP, kWD, bI, tk, -Int32.not_lt, -Int32.not_le, ← Int32.not_lt]
                    · refine g_iload_n d_Word_writtenBy_94 rfl ?_
                      refine g_goto 99 d_Word_writtenBy_95 (by decide) ?_
                      refine Go.ret (some _) (rOk_i _) rfl d_Word_writtenBy_99 ?_
                      refine ⟨?_, rfl⟩
                      simp_all [kWr, kPr, kWait, kKnown, kRA, kRB, kWP, kWD, bI, tk, -Int32.not_lt, -Int32.not_le, ← Int32.not_lt]
                  · refine g_iload_n d_Word_writtenBy_72 rfl ?_
                    refine g_bipush (72) d_Word_writtenBy_73 (by decide) ?_
                    refine g_icmp_eq 84 d_Word_writtenBy_75 (by decide) (fun c_75 => ?_) (fun c_75 => ?_)
                    · refine g_iconst 1 d_Word_writtenBy_84 (by decide) ?_
                      refine g_goto 89 d_Word_writtenBy_85 (by decide) ?_
                      refine g_istore_n d_Word_writtenBy_89 (by decide) ?_
                      show Go _ _ _ _ _ _ [(0, _), (1, _), (2, _)] _
                      refine g_iload_n d_Word_writtenBy_90 rfl ?_
                      refine g_if_eq 98 d_Word_writtenBy_91 (by decide) (fun c_91 => ?_) (fun c_91 => ?_)
                      · refine g_iconst (-1) d_Word_writtenBy_98 (by decide) ?_
                        refine Go.ret (some _) (rOk_i _) rfl d_Word_writtenBy_99 ?_
                        refine ⟨?_, rfl⟩
                        simp_all [kWr, kPr, kWait, kKnown, kRA, kRB, kWP, kWD, bI, tk, -Int32.not_lt, -Int32.not_le, ← Int32.not_lt]
                      · refine g_iload_n d_Word_writtenBy_94 rfl ?_
                        refine g_goto 99 d_Word_writtenBy_95 (by decide) ?_
                        refine Go.ret (some _) (rOk_i _) rfl d_Word_writtenBy_99 ?_
                        refine ⟨?_, rfl⟩
                        simp_all [kWr, kPr, kWait, kKnown, kRA, kRB, kWP, kWD, bI, tk, -Int32.not_lt, -Int32.not_le, ← Int32.not_lt]
                    · refine g_iload_n d_Word_writtenBy_78 rfl ?_
                      refine g_bipush (73) d_Word_writtenBy_79 (by decide) ?_
                      refine g_icmp_ne 88 d_Word_writtenBy_81 (by decide) (fun c_81 => ?_) (fun c_81 => ?_)
                      · refine g_iconst 0 d_Word_writtenBy_88 (by decide) ?_
                        refine g_istore_n d_Word_writtenBy_89 (by decide) ?_
                        show Go _ _ _ _ _ _ [(0, _), (1, _), (2, _)] _
                        refine g_iload_n d_Word_writtenBy_90 rfl ?_
                        refine g_if_eq 98 d_Word_writtenBy_91 (by decide) (fun c_91 => ?_) (fun c_91 => ?_)
                        · refine g_iconst (-1) d_Word_writtenBy_98 (by decide) ?_
                          refine Go.ret (some _) (rOk_i _) rfl d_Word_writtenBy_99 ?_
                          refine ⟨?_, rfl⟩
                          simp_all [kWr, kPr, kWait, kKnown, kRA, kRB, kWP, kWD, bI, tk, -Int32.not_lt, -Int32.not_le, ← Int32.not_lt]
                        · refine g_iload_n d_Word_writtenBy_94 rfl ?_
                          refine g_goto 99 d_Word_writtenBy_95 (by decide) ?_
                          refine Go.ret (some _) (rOk_i _) rfl d_Word_writtenBy_99 ?_
                          refine ⟨?_, rfl⟩
                          simp_all [kWr, kPr, kWait, kKnown, kRA, kRB, kWP, kWD, bI, tk, -Int32.not_lt, -Int32.not_le, ← Int32.not_lt]
                      · refine g_iconst 1 d_Word_writtenBy_84 (by decide) ?_
                        refine g_goto 89 d_Word_writtenBy_85 (by decide) ?_
                        refine g_istore_n d_Word_writtenBy_89 (by decide) ?_
                        show Go _ _ _ _ _ _ [(0, _), (1, _), (2, _)] _
                        refine g_iload_n d_Word_writtenBy_90 rfl ?_
                        refine g_if_eq 98 d_Word_writtenBy_91 (by decide) (fun c_91 => ?_) (fun c_91 => ?_)
                        · refine g_iconst (-1) d_Word_writtenBy_98 (by decide) ?_
                          refine Go.ret (some _) (rOk_i _) rfl d_Word_writtenBy_99 ?_
                          refine ⟨?_, rfl⟩
                          simp_all [kWr, kPr, kWait, kKnown, kRA, kRB, kWP, kWD, bI, tk, -Int32.not_lt, -Int32.not_le, ← Int32.not_lt]
                        · refine g_iload_n d_Word_writtenBy_94 rfl ?_
                          refine g_goto 99 d_Word_writtenBy_95 (by decide) ?_
                          refine Go.ret (some _) (rOk_i _) rfl d_Word_writtenBy_99 ?_
                          refine ⟨?_, rfl⟩
                          simp_all [kWr, kPr, kWait, kKnown, kRA, kRB, kWP, kWD, bI, tk, -Int32.not_lt, -Int32.not_le, ← Int32.not_lt]
        · refine g_iload_n d_Word_writtenBy_36 rfl ?_
          refine g_bipush (21) d_Word_writtenBy_37 (by decide) ?_
          refine g_icmp_le 84 d_Word_writtenBy_39 (by decide) (fun c_39 => ?_) (fun c_39 => ?_)
          · refine g_iconst 1 d_Word_writtenBy_84 (by decide) ?_
            refine g_goto 89 d_Word_writtenBy_85 (by decide) ?_
            refine g_istore_n d_Word_writtenBy_89 (by decide) ?_
            show Go _ _ _ _ _ _ [(0, _), (1, _), (2, _)] _
            refine g_iload_n d_Word_writtenBy_90 rfl ?_
            refine g_if_eq 98 d_Word_writtenBy_91 (by decide) (fun c_91 => ?_) (fun c_91 => ?_)
            · refine g_iconst (-1) d_Word_writtenBy_98 (by decide) ?_
              refine Go.ret (some _) (rOk_i _) rfl d_Word_writtenBy_99 ?_
              refine ⟨?_, rfl⟩
              simp_all [kWr, kPr, kWait, kKnown, kRA, kRB, kWP, kWD, bI, tk, -Int32.not_lt, -Int32.not_le, ← Int32.not_lt]
            · refine g_iload_n d_Word_writtenBy_94 rfl ?_
              refine g_goto 99 d_Word_writtenBy_95 (by decide) ?_
              refine Go.ret (some _) (rOk_i _) rfl d_Word_writtenBy_99 ?_
              refine ⟨?_, rfl⟩
              simp_all [kWr, kPr, kWait, kKnown, kRA, kRB, kWP, kWD, bI, tk, -Int32.not_lt, -Int32.not_le, ← Int32.not_lt]
          · refine g_iload_n d_Word_writtenBy_42 rfl ?_
            refine g_bipush (41) d_Word_writtenBy_43 (by decide) ?_
            refine g_icmp_eq 84 d_Word_writtenBy_45 (by decide) (fun c_45 => ?_) (fun c_45 => ?_)
            · refine g_iconst 1 d_Word_writtenBy_84 (by decide) ?_
              refine g_goto 89 d_Word_writtenBy_85 (by decide) ?_
              refine g_istore_n d_Word_writtenBy_89 (by decide) ?_
              show Go _ _ _ _ _ _ [(0, _), (1, _), (2, _)] _
              refine g_iload_n d_Word_writtenBy_90 rfl ?_
              refine g_if_eq 98 d_Word_writtenBy_91 (by decide) (fun c_91 => ?_) (fun c_91 => ?_)
              · refine g_iconst (-1) d_Word_writtenBy_98 (by decide) ?_
                refine Go.ret (some _) (rOk_i _) rfl d_Word_writtenBy_99 ?_
                refine ⟨?_, rfl⟩
                simp_all [kWr, kPr, kWait, kKnown, kRA, kRB, kWP, kWD, bI, tk, -Int32.not_lt, -Int32.not_le, ← Int32.not_lt]
              · refine g_iload_n d_Word_writtenBy_94 rfl ?_
                refine g_goto 99 d_Word_writtenBy_95 (by decide) ?_
                refine Go.ret (some _) (rOk_i _) rfl d_Word_writtenBy_99 ?_
                refine ⟨?_, rfl⟩
                simp_all [kWr, kPr, kWait, kKnown, kRA, kRB, kWP, kWD, bI, tk, -Int32.not_lt, -Int32.not_le, ← Int32.not_lt]
            · refine g_iload_n d_Word_writtenBy_48 rfl ?_
              refine g_bipush (50) d_Word_writtenBy_49 (by decide) ?_
              refine g_icmp_eq 84 d_Word_writtenBy_51 (by decide) (fun c_51 => ?_) (fun c_51 => ?_)
              · refine g_iconst 1 d_Word_writtenBy_84 (by decide) ?_
                refine g_goto 89 d_Word_writtenBy_85 (by decide) ?_
                refine g_istore_n d_Word_writtenBy_89 (by decide) ?_
                show Go _ _ _ _ _ _ [(0, _), (1, _), (2, _)] _
                refine g_iload_n d_Word_writtenBy_90 rfl ?_
                refine g_if_eq 98 d_Word_writtenBy_91 (by decide) (fun c_91 => ?_) (fun c_91 => ?_)
                · refine g_iconst (-1) d_Word_writtenBy_98 (by decide) ?_
                  refine Go.ret (some _) (rOk_i _) rfl d_Word_writtenBy_99 ?_
                  refine ⟨?_, rfl⟩
                  simp_all [kWr, kPr, kWait, kKnown, kRA, kRB, kWP, kWD, bI, tk, -Int32.not_lt, -Int32.not_le, ← Int32.not_lt]
                · refine g_iload_n d_Word_writtenBy_94 rfl ?_
                  refine g_goto 99 d_Word_writtenBy_95 (by decide) ?_
                  refine Go.ret (some _) (rOk_i _) rfl d_Word_writtenBy_99 ?_
                  refine ⟨?_, rfl⟩
                  simp_all [kWr, kPr, kWait, kKnown, kRA, kRB, kWP, kWD, bI, tk, -Int32.not_lt, -Int32.not_le, ← Int32.not_lt]
              · refine g_iload_n d_Word_writtenBy_54 rfl ?_
                refine g_bipush (52) d_Word_writtenBy_55 (by decide) ?_
                refine g_icmp_eq 84 d_Word_writtenBy_57 (by decide) (fun c_57 => ?_) (fun c_57 => ?_)
                · refine g_iconst 1 d_Word_writtenBy_84 (by decide) ?_
                  refine g_goto 89 d_Word_writtenBy_85 (by decide) ?_
                  refine g_istore_n d_Word_writtenBy_89 (by decide) ?_
                  show Go _ _ _ _ _ _ [(0, _), (1, _), (2, _)] _
                  refine g_iload_n d_Word_writtenBy_90 rfl ?_
                  refine g_if_eq 98 d_Word_writtenBy_91 (by decide) (fun c_91 => ?_) (fun c_91 => ?_)
                  · refine g_iconst (-1) d_Word_writtenBy_98 (by decide) ?_
                    refine Go.ret (some _) (rOk_i _) rfl d_Word_writtenBy_99 ?_
                    refine ⟨?_, rfl⟩
                    simp_all [kWr, kPr, kWait, kKnown, kRA, kRB, kWP, kWD, bI, tk, -Int32.not_lt, -Int32.not_le, ← Int32.not_lt]
                  · refine g_iload_n d_Word_writtenBy_94 rfl ?_
                    refine g_goto 99 d_Word_writtenBy_95 (by decide) ?_
                    refine Go.ret (some _) (rOk_i _) rfl d_Word_writtenBy_99 ?_
                    refine ⟨?_, rfl⟩
                    simp_all [kWr, kPr, kWait, kKnown, kRA, kRB, kWP, kWD, bI, tk, -Int32.not_lt, -Int32.not_le, ← Int32.not_lt]
                · refine g_iload_n d_Word_writtenBy_60 rfl ?_
                  refine g_bipush (54) d_Word_writtenBy_61 (by decide) ?_
                  refine g_icmp_lt 72 d_Word_writtenBy_63 (by decide) (fun c_63 => ?_) (fun c_63 => ?_)
                  · refine g_iload_n d_Word_writtenBy_72 rfl ?_
                    refine g_bipush (72) d_Word_writtenBy_73 (by decide) ?_
                    refine g_icmp_eq 84 d_Word_writtenBy_75 (by decide) (fun c_75 => ?_) (fun c_75 => ?_)
                    · refine g_iconst 1 d_Word_writtenBy_84 (by decide) ?_
                      refine g_goto 89 d_Word_writtenBy_85 (by decide) ?_
                      refine g_istore_n d_Word_writtenBy_89 (by decide) ?_
                      show Go _ _ _ _ _ _ [(0, _), (1, _), (2, _)] _
                      refine g_iload_n d_Word_writtenBy_90 rfl ?_
                      refine g_if_eq 98 d_Word_writtenBy_91 (by decide) (fun c_91 => ?_) (fun c_91 => ?_)
                      · refine g_iconst (-1) d_Word_writtenBy_98 (by decide) ?_
                        refine Go.ret (some _) (rOk_i _) rfl d_Word_writtenBy_99 ?_
                        refine ⟨?_, rfl⟩
                        simp_all [kWr, kPr, kWait, kKnown, kRA, kRB, kWP, kWD, bI, tk, -Int32.not_lt, -Int32.not_le, ← Int32.not_lt]
                      · refine g_iload_n d_Word_writtenBy_94 rfl ?_
                        refine g_goto 99 d_Word_writtenBy_95 (by decide) ?_
                        refine Go.ret (some _) (rOk_i _) rfl d_Word_writtenBy_99 ?_
                        refine ⟨?_, rfl⟩
                        simp_all [kWr, kPr, kWait, kKnown, kRA, kRB, kWP, kWD, bI, tk, -Int32.not_lt, -Int32.not_le, ← Int32.not_lt]
                    · refine g_iload_n d_Word_writtenBy_78 rfl ?_
                      refine g_bipush (73) d_Word_writtenBy_79 (by decide) ?_
                      refine g_icmp_ne 88 d_Word_writtenBy_81 (by decide) (fun c_81 => ?_) (fun c_81 => ?_)
                      · refine g_iconst 0 d_Word_writtenBy_88 (by decide) ?_
                        refine g_istore_n d_Word_writtenBy_89 (by decide) ?_
                        show Go _ _ _ _ _ _ [(0, _), (1, _), (2, _)] _
                        refine g_iload_n d_Word_writtenBy_90 rfl ?_
                        refine g_if_eq 98 d_Word_writtenBy_91 (by decide) (fun c_91 => ?_) (fun c_91 => ?_)
                        · refine g_iconst (-1) d_Word_writtenBy_98 (by decide) ?_
                          refine Go.ret (some _) (rOk_i _) rfl d_Word_writtenBy_99 ?_
                          refine ⟨?_, rfl⟩
                          simp_all [kWr, kPr, kWait, kKnown, kRA, kRB, kWP, kWD, bI, tk, -Int32.not_lt, -Int32.not_le, ← Int32.not_lt]
                        · refine g_iload_n d_Word_writtenBy_94 rfl ?_
                          refine g_goto 99 d_Word_writtenBy_95 (by decide) ?_
                          refine Go.ret (some _) (rOk_i _) rfl d_Word_writtenBy_99 ?_
                          refine ⟨?_, rfl⟩
                          simp_all [kWr, kPr, kWait, kKnown, kRA, kRB, kWP, kWD, bI, tk, -Int32.not_lt, -Int32.not_le, ← Int32.not_lt]
                      · refine g_iconst 1 d_Word_writtenBy_84 (by decide) ?_
                        refine g_goto 89 d_Word_writtenBy_85 (by decide) ?_
                        refine g_istore_n d_Word_writtenBy_89 (by decide) ?_
                        show Go _ _ _ _ _ _ [(0, _), (1, _), (2, _)] _
                        refine g_iload_n d_Word_writtenBy_90 rfl ?_
                        refine g_if_eq 98 d_Word_writtenBy_91 (by decide) (fun c_91 => ?_) (fun c_91 => ?_)
                        · refine g_iconst (-1) d_Word_writtenBy_98 (by decide) ?_
                          refine Go.ret (some _) (rOk_i _) rfl d_Word_writtenBy_99 ?_
                          refine ⟨?_, rfl⟩
                          simp_all [kWr, kPr, kWait, kKnown, kRA, kRB, kWP, kWD, bI, tk, -Int32.not_lt, -Int32.not_le, ← Int32.not_lt]
                        · refine g_iload_n d_Word_writtenBy_94 rfl ?_
                          refine g_goto 99 d_Word_writtenBy_95 (by decide) ?_
                          refine Go.ret (some _) (rOk_i _) rfl d_Word_writtenBy_99 ?_
                          refine ⟨?_, rfl⟩
                          simp_all [kWr, kPr, kWait, kKnown, kRA, kRB, kWP, kWD, bI, tk, -Int32.not_lt, -Int32.not_le, ← Int32.not_lt]
                  · refine g_iload_n d_Word_writtenBy_66 rfl ?_
                    refine g_bipush (59) d_Word_writtenBy_67 (by decide) ?_
                    refine g_icmp_le 84 d_Word_writtenBy_69 (by decide) (fun c_69 => ?_) (fun c_69 => ?_)
                    · refine g_iconst 1 d_Word_writtenBy_84 (by decide) ?_
                      refine g_goto 89 d_Word_writtenBy_85 (by decide) ?_
                      refine g_istore_n d_Word_writtenBy_89 (by decide) ?_
                      show Go _ _ _ _ _ _ [(0, _), (1, _), (2, _)] _
                      refine g_iload_n d_Word_writtenBy_90 rfl ?_
                      refine g_if_eq 98 d_Word_writtenBy_91 (by decide) (fun c_91 => ?_) (fun c_91 => ?_)
                      · refine g_iconst (-1) d_Word_writtenBy_98 (by decide) ?_
                        refine Go.ret (some _) (rOk_i _) rfl d_Word_writtenBy_99 ?_
                        refine ⟨?_, rfl⟩
                        simp_all [kWr, kPr, kWait, kKnown, kRA, kRB, kWP, kWD, bI, tk, -Int32.not_lt, -Int32.not_le, ← Int32.not_lt]
                      · refine g_iload_n d_Word_writtenBy_94 rfl ?_
                        refine g_goto 99 d_Word_writtenBy_95 (by decide) ?_
                        refine Go.ret (some _) (rOk_i _) rfl d_Word_writtenBy_99 ?_
                        refine ⟨?_, rfl⟩
                        simp_all [kWr, kPr, kWait, kKnown, kRA, kRB, kWP, kWD, bI, tk, -Int32.not_lt, -Int32.not_le, ← Int32.not_lt]
                    · refine g_iload_n d_Word_writtenBy_72 rfl ?_
                      refine g_bipush (72) d_Word_writtenBy_73 (by decide) ?_
                      refine g_icmp_eq 84 d_Word_writtenBy_75 (by decide) (fun c_75 => ?_) (fun c_75 => ?_)
                      · refine g_iconst 1 d_Word_writtenBy_84 (by decide) ?_
                        refine g_goto 89 d_Word_writtenBy_85 (by decide) ?_
                        refine g_istore_n d_Word_writtenBy_89 (by decide) ?_
                        show Go _ _ _ _ _ _ [(0, _), (1, _), (2, _)] _
                        refine g_iload_n d_Word_writtenBy_90 rfl ?_
                        refine g_if_eq 98 d_Word_writtenBy_91 (by decide) (fun c_91 => ?_) (fun c_91 => ?_)
                        · refine g_iconst (-1) d_Word_writtenBy_98 (by decide) ?_
                          refine Go.ret (some _) (rOk_i _) rfl d_Word_writtenBy_99 ?_
                          refine ⟨?_, rfl⟩
                          simp_all [kWr, kPr, kWait, kKnown, kRA, kRB, kWP, kWD, bI, tk, -Int32.not_lt, -Int32.not_le, ← Int32.not_lt]
                        · refine g_iload_n d_Word_writtenBy_94 rfl ?_
                          refine g_goto 99 d_Word_writtenBy_95 (by decide) ?_
                          refine Go.ret (some _) (rOk_i _) rfl d_Word_writtenBy_99 ?_
                          refine ⟨?_, rfl⟩
                          simp_all [kWr, kPr, kWait, kKnown, kRA, kRB, kWP, kWD, bI, tk, -Int32.not_lt, -Int32.not_le, ← Int32.not_lt]
                      · refine g_iload_n d_Word_writtenBy_78 rfl ?_
                        refine g_bipush (73) d_Word_writtenBy_79 (by decide) ?_
                        refine g_icmp_ne 88 d_Word_writtenBy_81 (by decide) (fun c_81 => ?_) (fun c_81 => ?_)
                        · refine g_iconst 0 d_Word_writtenBy_88 (by decide) ?_
                          refine g_istore_n d_Word_writtenBy_89 (by decide) ?_
                          show Go _ _ _ _ _ _ [(0, _), (1, _), (2, _)] _
                          refine g_iload_n d_Word_writtenBy_90 rfl ?_
                          refine g_if_eq 98 d_Word_writtenBy_91 (by decide) (fun c_91 => ?_) (fun c_91 => ?_)
                          · refine g_iconst (-1) d_Word_writtenBy_98 (by decide) ?_
                            refine Go.ret (some _) (rOk_i _) rfl d_Word_writtenBy_99 ?_
                            refine ⟨?_, rfl⟩
                            simp_all [kWr, kPr, kWait, kKnown, kRA, kRB, kWP, kWD, bI, tk, -Int32.not_lt, -Int32.not_le, ← Int32.not_lt]
                          · refine g_iload_n d_Word_writtenBy_94 rfl ?_
                            refine g_goto 99 d_Word_writtenBy_95 (by decide) ?_
                            refine Go.ret (some _) (rOk_i _) rfl d_Word_writtenBy_99 ?_
                            refine ⟨?_, rfl⟩
                            simp_all [kWr, kPr, kWait, kKnown, kRA, kRB, kWP, kWD, bI, tk, -Int32.not_lt, -Int32.not_le, ← Int32.not_lt]
                        · refine g_iconst 1 d_Word_writtenBy_84 (by decide) ?_
                          refine g_goto 89 d_Word_writtenBy_85 (by decide) ?_
                          refine g_istore_n d_Word_writtenBy_89 (by decide) ?_
                          show Go _ _ _ _ _ _ [(0, _), (1, _), (2, _)] _
                          refine g_iload_n d_Word_writtenBy_90 rfl ?_
                          refine g_if_eq 98 d_Word_writtenBy_91 (by decide) (fun c_91 => ?_) (fun c_91 => ?_)
                          · refine g_iconst (-1) d_Word_writtenBy_98 (by decide) ?_
                            refine Go.ret (some _) (rOk_i _) rfl d_Word_writtenBy_99 ?_
                            refine ⟨?_, rfl⟩
                            simp_all [kWr, kPr, kWait, kKnown, kRA, kRB, kWP, kWD, bI, tk, -Int32.not_lt, -Int32.not_le, ← Int32.not_lt]
                          · refine g_iload_n d_Word_writtenBy_94 rfl ?_
                            refine g_goto 99 d_Word_writtenBy_95 (by decide) ?_
                            refine Go.ret (some _) (rOk_i _) rfl d_Word_writtenBy_99 ?_
                            refine ⟨?_, rfl⟩
                            simp_all [kWr, kPr, kWait, kKnown, kRA, kRB, kWP, kWD, bI, tk, -Int32.not_lt, -Int32.not_le, ← Int32.not_lt]
      · refine g_bipush (16) d_Word_writtenBy_24 (by decide) ?_
        refine g_iload_n d_Word_writtenBy_26 rfl ?_
        refine g_iconst 3 d_Word_writtenBy_27 (by decide) ?_
        refine g_iand d_Word_writtenBy_28 ?_
        refine g_iadd d_Word_writtenBy_29 ?_
        refine Go.ret (some _) (rOk_i _) rfl d_Word_writtenBy_30 ?_
        refine ⟨?_, rfl⟩
        simp_all [kWr, kPr, kWait, kKnown, kRA, kRB, kWP, kWD, bI, tk, -Int32.not_lt, -Int32.not_le, ← Int32.not_lt]
  · refine g_iload_n d_Word_writtenBy_6 rfl ?_
    refine g_bipush (36) d_Word_writtenBy_7 (by decide) ?_
    refine g_icmp_le 24 d_Word_writtenBy_9 (by decide) (fun c_9 => ?_) (fun c_9 => ?_)
    · refine g_bipush (16) d_Word_writtenBy_24 (by decide) ?_
      refine g_iload_n d_Word_writtenBy_26 rfl ?_
      refine g_iconst 3 d_Word_writtenBy_27 (by decide) ?_
      refine g_iand d_Word_writtenBy_28 ?_
      refine g_iadd d_Word_writtenBy_29 ?_
      refine Go.ret (some _) (rOk_i _) rfl d_Word_writtenBy_30 ?_
      refine ⟨?_, rfl⟩
      simp_all [kWr, kPr, kWait, kKnown, kRA, kRB, kWP, kWD, bI, tk, -Int32.not_lt, -Int32.not_le, ← Int32.not_lt]
    · refine g_iload_n d_Word_writtenBy_12 rfl ?_
      refine g_bipush (70) d_Word_writtenBy_13 (by decide) ?_
      refine g_icmp_eq 24 d_Word_writtenBy_15 (by decide) (fun c_15 => ?_) (fun c_15 => ?_)
      · refine g_bipush (16) d_Word_writtenBy_24 (by decide) ?_
        refine g_iload_n d_Word_writtenBy_26 rfl ?_
        refine g_iconst 3 d_Word_writtenBy_27 (by decide) ?_
        refine g_iand d_Word_writtenBy_28 ?_
        refine g_iadd d_Word_writtenBy_29 ?_
        refine Go.ret (some _) (rOk_i _) rfl d_Word_writtenBy_30 ?_
        refine ⟨?_, rfl⟩
        simp_all [kWr, kPr, kWait, kKnown, kRA, kRB, kWP, kWD, bI, tk, -Int32.not_lt, -Int32.not_le, ← Int32.not_lt]
      · refine g_iload_n d_Word_writtenBy_18 rfl ?_
        refine g_bipush (71) d_Word_writtenBy_19 (by decide) ?_
        refine g_icmp_ne 31 d_Word_writtenBy_21 (by decide) (fun c_21 => ?_) (fun c_21 => ?_)
        · refine g_iload_n d_Word_writtenBy_31 rfl ?_
          refine g_iconst 2 d_Word_writtenBy_32 (by decide) ?_
          refine g_icmp_lt 42 d_Word_writtenBy_33 (by decide) (fun c_33 => ?_) (fun c_33 => ?_)
          · refine g_iload_n d_Word_writtenBy_42 rfl ?_
            refine g_bipush (41) d_Word_writtenBy_43 (by decide) ?_
            refine g_icmp_eq 84 d_Word_writtenBy_45 (by decide) (fun c_45 => ?_) (fun c_45 => ?_)
            · refine g_iconst 1 d_Word_writtenBy_84 (by decide) ?_
              refine g_goto 89 d_Word_writtenBy_85 (by decide) ?_
              refine g_istore_n d_Word_writtenBy_89 (by decide) ?_
              show Go _ _ _ _ _ _ [(0, _), (1, _), (2, _)] _
              refine g_iload_n d_Word_writtenBy_90 rfl ?_
              refine g_if_eq 98 d_Word_writtenBy_91 (by decide) (fun c_91 => ?_) (fun c_91 => ?_)
              · refine g_iconst (-1) d_Word_writtenBy_98 (by decide) ?_
                refine Go.ret (some _) (rOk_i _) rfl d_Word_writtenBy_99 ?_
                refine ⟨?_, rfl⟩
                simp_all [kWr, kPr, kWait, kKnown, kRA, kRB, kWP, kWD, bI, tk, -Int32.not_lt, -Int32.not_le, ← Int32.not_lt]
              · refine g_iload_n d_Word_writtenBy_94 rfl ?_
                refine g_goto 99 d_Word_writtenBy_95 (by decide) ?_
                refine Go.ret (some _) (rOk_i _) rfl d_Word_writtenBy_99 ?_
                refine ⟨?_, rfl⟩
                simp_all [kWr, kPr, kWait, kKnown, kRA, kRB, kWP, kWD, bI, tk, -Int32.not_lt, -Int32.not_le, ← Int32.not_lt]
            · refine g_iload_n d_Word_writtenBy_48 rfl ?_
              refine g_bipush (50) d_Word_writtenBy_49 (by decide) ?_
              refine g_icmp_eq 84 d_Word_writtenBy_51 (by decide) (fun c_51 => ?_) (fun c_51 => ?_)
              · refine g_iconst 1 d_Word_writtenBy_84 (by decide) ?_
                refine g_goto 89 d_Word_writtenBy_85 (by decide) ?_
                refine g_istore_n d_Word_writtenBy_89 (by decide) ?_
                show Go _ _ _ _ _ _ [(0, _), (1, _), (2, _)] _
                refine g_iload_n d_Word_writtenBy_90 rfl ?_
                refine g_if_eq 98 d_Word_writtenBy_91 (by decide) (fun c_91 => ?_) (fun c_91 => ?_)
                · refine g_iconst (-1) d_Word_writtenBy_98 (by decide) ?_
                  refine Go.ret (some _) (rOk_i _) rfl d_Word_writtenBy_99 ?_
                  refine ⟨?_, rfl⟩
                  simp_all [kWr, kPr, kWait, kKnown, kRA, kRB, kWP, kWD, bI, tk, -Int32.not_lt, -Int32.not_le, ← Int32.not_lt]
                · refine g_iload_n d_Word_writtenBy_94 rfl ?_
                  refine g_goto 99 d_Word_writtenBy_95 (by decide) ?_
                  refine Go.ret (some _) (rOk_i _) rfl d_Word_writtenBy_99 ?_
                  refine ⟨?_, rfl⟩
                  simp_all [kWr, kPr, kWait, kKnown, kRA, kRB, kWP, kWD, bI, tk, -Int32.not_lt, -Int32.not_le, ← Int32.not_lt]
              · refine g_iload_n d_Word_writtenBy_54 rfl ?_
                refine g_bipush (52) d_Word_writtenBy_55 (by decide) ?_
                refine g_icmp_eq 84 d_Word_writtenBy_57 (by decide) (fun c_57 => ?_) (fun c_57 => ?_)
                · refine g_iconst 1 d_Word_writtenBy_84 (by decide) ?_
                  refine g_goto 89 d_Word_writtenBy_85 (by decide) ?_
                  refine g_istore_n d_Word_writtenBy_89 (by decide) ?_
                  show Go _ _ _ _ _ _ [(0, _), (1, _), (2, _)] _
                  refine g_iload_n d_Word_writtenBy_90 rfl ?_
                  refine g_if_eq 98 d_Word_writtenBy_91 (by decide) (fun c_91 => ?_) (fun c_91 => ?_)
                  · refine g_iconst (-1) d_Word_writtenBy_98 (by decide) ?_
                    refine Go.ret (some _) (rOk_i _) rfl d_Word_writtenBy_99 ?_
                    refine ⟨?_, rfl⟩
                    simp_all [kWr, kPr, kWait, kKnown, kRA, kRB, kWP, kWD, bI, tk, -Int32.not_lt, -Int32.not_le, ← Int32.not_lt]
                  · refine g_iload_n d_Word_writtenBy_94 rfl ?_
                    refine g_goto 99 d_Word_writtenBy_95 (by decide) ?_
                    refine Go.ret (some _) (rOk_i _) rfl d_Word_writtenBy_99 ?_
                    refine ⟨?_, rfl⟩
                    simp_all [kWr, kPr, kWait, kKnown, kRA, kRB, kWP, kWD, bI, tk, -Int32.not_lt, -Int32.not_le, ← Int32.not_lt]
                · refine g_iload_n d_Word_writtenBy_60 rfl ?_
                  refine g_bipush (54) d_Word_writtenBy_61 (by decide) ?_
                  refine g_icmp_lt 72 d_Word_writtenBy_63 (by decide) (fun c_63 => ?_) (fun c_63 => ?_)
                  · refine g_iload_n d_Word_writtenBy_72 rfl ?_
                    refine g_bipush (72) d_Word_writtenBy_73 (by decide) ?_
                    refine g_icmp_eq 84 d_Word_writtenBy_75 (by decide) (fun c_75 => ?_) (fun c_75 => ?_)
                    · refine g_iconst 1 d_Word_writtenBy_84 (by decide) ?_
                      refine g_goto 89 d_Word_writtenBy_85 (by decide) ?_
                      refine g_istore_n d_Word_writtenBy_89 (by decide) ?_
                      show Go _ _ _ _ _ _ [(0, _), (1, _), (2, _)] _
                      refine g_iload_n d_Word_writtenBy_90 rfl ?_
                      refine g_if_eq 98 d_Word_writtenBy_91 (by decide) (fun c_91 => ?_) (fun c_91 => ?_)
                      · refine g_iconst (-1) d_Word_writtenBy_98 (by decide) ?_
                        refine Go.ret (some _) (rOk_i _) rfl d_Word_writtenBy_99 ?_
                        refine ⟨?_, rfl⟩
                        simp_all [kWr, kPr, kWait, kKnown, kRA, kRB, kWP, kWD, bI, tk, -Int32.not_lt, -Int32.not_le, ← Int32.not_lt]
                      · refine g_iload_n d_Word_writtenBy_94 rfl ?_
                        refine g_goto 99 d_Word_writtenBy_95 (by decide) ?_
                        refine Go.ret (some _) (rOk_i _) rfl d_Word_writtenBy_99 ?_
                        refine ⟨?_, rfl⟩
                        simp_all [kWr, kPr, kWait, kKnown, kRA, kRB, kWP, kWD, bI, tk, -Int32.not_lt, -Int32.not_le, ← Int32.not_lt]
                    · refine g_iload_n d_Word_writtenBy_78 rfl ?_
                      refine g_bipush (73) d_Word_writtenBy_79 (by decide) ?_
                      refine g_icmp_ne 88 d_Word_writtenBy_81 (by decide) (fun c_81 => ?_) (fun c_81 => ?_)
                      · refine g_iconst 0 d_Word_writtenBy_88 (by decide) ?_
                        refine g_istore_n d_Word_writtenBy_89 (by decide) ?_
                        show Go _ _ _ _ _ _ [(0, _), (1, _), (2, _)] _
                        refine g_iload_n d_Word_writtenBy_90 rfl ?_
                        refine g_if_eq 98 d_Word_writtenBy_91 (by decide) (fun c_91 => ?_) (fun c_91 => ?_)
                        · refine g_iconst (-1) d_Word_writtenBy_98 (by decide) ?_
                          refine Go.ret (some _) (rOk_i _) rfl d_Word_writtenBy_99 ?_
                          refine ⟨?_, rfl⟩
                          simp_all [kWr, kPr, kWait, kKnown, kRA, kRB, kWP, kWD, bI, tk, -Int32.not_lt, -Int32.not_le, ← Int32.not_lt]
                        · refine g_iload_n d_Word_writtenBy_94 rfl ?_
                          refine g_goto 99 d_Word_writtenBy_95 (by decide) ?_
                          refine Go.ret (some _) (rOk_i _) rfl d_Word_writtenBy_99 ?_
                          refine ⟨?_, rfl⟩
                          simp_all [kWr, kPr, kWait, kKnown, kRA, kRB, kWP, kWD, bI, tk, -Int32.not_lt, -Int32.not_le, ← Int32.not_lt]
                      · refine g_iconst 1 d_Word_writtenBy_84 (by decide) ?_
                        refine g_goto 89 d_Word_writtenBy_85 (by decide) ?_
                        refine g_istore_n d_Word_writtenBy_89 (by decide) ?_
                        show Go _ _ _ _ _ _ [(0, _), (1, _), (2, _)] _
                        refine g_iload_n d_Word_writtenBy_90 rfl ?_
                        refine g_if_eq 98 d_Word_writtenBy_91 (by decide) (fun c_91 => ?_) (fun c_91 => ?_)
                        · refine g_iconst (-1) d_Word_writtenBy_98 (by decide) ?_
                          refine Go.ret (some _) (rOk_i _) rfl d_Word_writtenBy_99 ?_
                          refine ⟨?_, rfl⟩
                          simp_all [kWr, kPr, kWait, kKnown, kRA, kRB, kWP, kWD, bI, tk, -Int32.not_lt, -Int32.not_le, ← Int32.not_lt]
                        · refine g_iload_n d_Word_writtenBy_94 rfl ?_
                          refine g_goto 99 d_Word_writtenBy_95 (by decide) ?_
                          refine Go.ret (some _) (rOk_i _) rfl d_Word_writtenBy_99 ?_
                          refine ⟨?_, rfl⟩
                          simp_all [kWr, kPr, kWait, kKnown, kRA, kRB, kWP, kWD, bI, tk, -Int32.not_lt, -Int32.not_le, ← Int32.not_lt]
                  · refine g_iload_n d_Word_writtenBy_66 rfl ?_
                    refine g_bipush (59) d_Word_writtenBy_67 (by decide) ?_
                    refine g_icmp_le 84 d_Word_writtenBy_69 (by decide) (fun c_69 => ?_) (fun c_69 => ?_)
                    · refine g_iconst 1 d_Word_writtenBy_84 (by decide) ?_
                      refine g_goto 89 d_Word_writtenBy_85 (by decide) ?_
                      refine g_istore_n d_Word_writtenBy_89 (by decide) ?_
                      show Go _ _ _ _ _ _ [(0, _), (1, _), (2, _)] _
                      refine g_iload_n d_Word_writtenBy_90 rfl ?_
                      refine g_if_eq 98 d_Word_writtenBy_91 (by decide) (fun c_91 => ?_) (fun c_91 => ?_)
                      · refine g_iconst (-1) d_Word_writtenBy_98 (by decide) ?_
                        refine Go.ret (some _) (rOk_i _) rfl d_Word_writtenBy_99 ?_
                        refine ⟨?_, rfl⟩
                        simp_all [kWr, kPr, kWait, kKnown, kRA, kRB, kWP, kWD, bI, tk, -Int32.not_lt, -Int32.not_le, ← Int32.not_lt]
                      · refine g_iload_n d_Word_writtenBy_94 rfl ?_
                        refine g_goto 99 d_Word_writtenBy_95 (by decide) ?_
                        refine Go.ret (some _) (rOk_i _) rfl d_Word_writtenBy_99 ?_
                        refine ⟨?_, rfl⟩
                        simp_all [kWr, kPr, kWait, kKnown, kRA, kRB, kWP, kWD, bI, tk, -Int32.not_lt, -Int32.not_le, ← Int32.not_lt]
                    · refine g_iload_n d_Word_writtenBy_72 rfl ?_
                      refine g_bipush (72) d_Word_writtenBy_73 (by decide) ?_
                      refine g_icmp_eq 84 d_Word_writtenBy_75 (by decide) (fun c_75 => ?_) (fun c_75 => ?_)
                      · refine g_iconst 1 d_Word_writtenBy_84 (by decide) ?_
                        refine g_goto 89 d_Word_writtenBy_85 (by decide) ?_
                        refine g_istore_n d_Word_writtenBy_89 (by decide) ?_
                        show Go _ _ _ _ _ _ [(0, _), (1, _), (2, _)] _
                        refine g_iload_n d_Word_writtenBy_90 rfl ?_
                        refine g_if_eq 98 d_Word_writtenBy_91 (by decide) (fun c_91 => ?_) (fun c_91 => ?_)
                        · refine g_iconst (-1) d_Word_writtenBy_98 (by decide) ?_
                          refine Go.ret (some _) (rOk_i _) rfl d_Word_writtenBy_99 ?_
                          refine ⟨?_, rfl⟩
                          simp_all [kWr, kPr, kWait, kKnown, kRA, kRB, kWP, kWD, bI, tk, -Int32.not_lt, -Int32.not_le, ← Int32.not_lt]
                        · refine g_iload_n d_Word_writtenBy_94 rfl ?_
                          refine g_goto 99 d_Word_writtenBy_95 (by decide) ?_
                          refine Go.ret (some _) (rOk_i _) rfl d_Word_writtenBy_99 ?_
                          refine ⟨?_, rfl⟩
                          simp_all [kWr, kPr, kWait, kKnown, kRA, kRB, kWP, kWD, bI, tk, -Int32.not_lt, -Int32.not_le, ← Int32.not_lt]
                      · refine g_iload_n d_Word_writtenBy_78 rfl ?_
                        refine g_bipush (73) d_Word_writtenBy_79 (by decide) ?_
                        refine g_icmp_ne 88 d_Word_writtenBy_81 (by decide) (fun c_81 => ?_) (fun c_81 => ?_)
                        · refine g_iconst 0 d_Word_writtenBy_88 (by decide) ?_
                          refine g_istore_n d_Word_writtenBy_89 (by decide) ?_
                          show Go _ _ _ _ _ _ [(0, _), (1, _), (2, _)] _
                          refine g_iload_n d_Word_writtenBy_90 rfl ?_
                          refine g_if_eq 98 d_Word_writtenBy_91 (by decide) (fun c_91 => ?_) (fun c_91 => ?_)
                          · refine g_iconst (-1) d_Word_writtenBy_98 (by decide) ?_
                            refine Go.ret (some _) (rOk_i _) rfl d_Word_writtenBy_99 ?_
                            refine ⟨?_, rfl⟩
                            simp_all [kWr, kPr, kWait, kKnown, kRA, kRB, kWP, kWD, bI, tk, -Int32.not_lt, -Int32.not_le, ← Int32.not_lt]
                          · refine g_iload_n d_Word_writtenBy_94 rfl ?_
                            refine g_goto 99 d_Word_writtenBy_95 (by decide) ?_
                            refine Go.ret (some _) (rOk_i _) rfl d_Word_writtenBy_99 ?_
                            refine ⟨?_, rfl⟩
                            simp_all [kWr, kPr, kWait, kKnown, kRA, kRB, kWP, kWD, bI, tk, -Int32.not_lt, -Int32.not_le, ← Int32.not_lt]
                        · refine g_iconst 1 d_Word_writtenBy_84 (by decide) ?_
                          refine g_goto 89 d_Word_writtenBy_85 (by decide) ?_
                          refine g_istore_n d_Word_writtenBy_89 (by decide) ?_
                          show Go _ _ _ _ _ _ [(0, _), (1, _), (2, _)] _
                          refine g_iload_n d_Word_writtenBy_90 rfl ?_
                          refine g_if_eq 98 d_Word_writtenBy_91 (by decide) (fun c_91 => ?_) (fun c_91 => ?_)
                          · refine g_iconst (-1) d_Word_writtenBy_98 (by decide) ?_
                            refine Go.ret (some _) (rOk_i _) rfl d_Word_writtenBy_99 ?_
                            refine ⟨?_, rfl⟩
                            simp_all [kWr, kPr, kWait, kKnown, kRA, kRB, kWP, kWD, bI, tk, -Int32.not_lt, -Int32.not_le, ← Int32.not_lt]
                          · refine g_iload_n d_Word_writtenBy_94 rfl ?_
                            refine g_goto 99 d_Word_writtenBy_95 (by decide) ?_
                            refine Go.ret (some _) (rOk_i _) rfl d_Word_writtenBy_99 ?_
                            refine ⟨?_, rfl⟩
                            simp_all [kWr, kPr, kWait, kKnown, kRA, kRB, kWP, kWD, bI, tk, -Int32.not_lt, -Int32.not_le, ← Int32.not_lt]
          · refine g_iload_n d_Word_writtenBy_36 rfl ?_
            refine g_bipush (21) d_Word_writtenBy_37 (by decide) ?_
            refine g_icmp_le 84 d_Word_writtenBy_39 (by decide) (fun c_39 => ?_) (fun c_39 => ?_)
            · refine g_iconst 1 d_Word_writtenBy_84 (by decide) ?_
              refine g_goto 89 d_Word_writtenBy_85 (by decide) ?_
              refine g_istore_n d_Word_writtenBy_89 (by decide) ?_
              show Go _ _ _ _ _ _ [(0, _), (1, _), (2, _)] _
              refine g_iload_n d_Word_writtenBy_90 rfl ?_
              refine g_if_eq 98 d_Word_writtenBy_91 (by decide) (fun c_91 => ?_) (fun c_91 => ?_)
              · refine g_iconst (-1) d_Word_writtenBy_98 (by decide) ?_
                refine Go.ret (some _) (rOk_i _) rfl d_Word_writtenBy_99 ?_
                refine ⟨?_, rfl⟩
                simp_all [kWr, kPr, kWait, kKnown, kRA, kRB, kWP, kWD, bI, tk, -Int32.not_lt, -Int32.not_le, ← Int32.not_lt]
              · refine g_iload_n d_Word_writtenBy_94 rfl ?_
                refine g_goto 99 d_Word_writtenBy_95 (by decide) ?_
                refine Go.ret (some _) (rOk_i _) rfl d_Word_writtenBy_99 ?_
                refine ⟨?_, rfl⟩
                simp_all [kWr, kPr, kWait, kKnown, kRA, kRB, kWP, kWD, bI, tk, -Int32.not_lt, -Int32.not_le, ← Int32.not_lt]
            · refine g_iload_n d_Word_writtenBy_42 rfl ?_
              refine g_bipush (41) d_Word_writtenBy_43 (by decide) ?_
              refine g_icmp_eq 84 d_Word_writtenBy_45 (by decide) (fun c_45 => ?_) (fun c_45 => ?_)
              · refine g_iconst 1 d_Word_writtenBy_84 (by decide) ?_
                refine g_goto 89 d_Word_writtenBy_85 (by decide) ?_
                refine g_istore_n d_Word_writtenBy_89 (by decide) ?_
                show Go _ _ _ _ _ _ [(0, _), (1, _), (2, _)] _
                refine g_iload_n d_Word_writtenBy_90 rfl ?_
                refine g_if_eq 98 d_Word_writtenBy_91 (by decide) (fun c_91 => ?_) (fun c_91 => ?_)
                · refine g_iconst (-1) d_Word_writtenBy_98 (by decide) ?_
                  refine Go.ret (some _) (rOk_i _) rfl d_Word_writtenBy_99 ?_
                  refine ⟨?_, rfl⟩
                  simp_all [kWr, kPr, kWait, kKnown, kRA, kRB, kWP, kWD, bI, tk, -Int32.not_lt, -Int32.not_le, ← Int32.not_lt]
                · refine g_iload_n d_Word_writtenBy_94 rfl ?_
                  refine g_goto 99 d_Word_writtenBy_95 (by decide) ?_
                  refine Go.ret (some _) (rOk_i _) rfl d_Word_writtenBy_99 ?_
                  refine ⟨?_, rfl⟩
                  simp_all [kWr, kPr, kWait, kKnown, kRA, kRB, kWP, kWD, bI, tk, -Int32.not_lt, -Int32.not_le, ← Int32.not_lt]
              · refine g_iload_n d_Word_writtenBy_48 rfl ?_
                refine g_bipush (50) d_Word_writtenBy_49 (by decide) ?_
                refine g_icmp_eq 84 d_Word_writtenBy_51 (by decide) (fun c_51 => ?_) (fun c_51 => ?_)
                · refine g_iconst 1 d_Word_writtenBy_84 (by decide) ?_
                  refine g_goto 89 d_Word_writtenBy_85 (by decide) ?_
                  refine g_istore_n d_Word_writtenBy_89 (by decide) ?_
                  show Go _ _ _ _ _ _ [(0, _), (1, _), (2, _)] _
                  refine g_iload_n d_Word_writtenBy_90 rfl ?_
                  refine g_if_eq 98 d_Word_writtenBy_91 (by decide) (fun c_91 => ?_) (fun c_91 => ?_)
                  · refine g_iconst (-1) d_Word_writtenBy_98 (by decide) ?_
                    refine Go.ret (some _) (rOk_i _) rfl d_Word_writtenBy_99 ?_
                    refine ⟨?_, rfl⟩
                    simp_all [kWr, kPr, kWait, kKnown, kRA, kRB, kWP, kWD, bI, tk, -Int32.not_lt, -Int32.not_le, ← Int32.not_lt]
                  · refine g_iload_n d_Word_writtenBy_94 rfl ?_
                    refine g_goto 99 d_Word_writtenBy_95 (by decide) ?_
                    refine Go.ret (some _) (rOk_i _) rfl d_Word_writtenBy_99 ?_
                    refine ⟨?_, rfl⟩
                    simp_all [kWr, kPr, kWait, kKnown, kRA, kRB, kWP, kWD, bI, tk, -Int32.not_lt, -Int32.not_le, ← Int32.not_lt]
                · refine g_iload_n d_Word_writtenBy_54 rfl ?_
                  refine g_bipush (52) d_Word_writtenBy_55 (by decide) ?_
                  refine g_icmp_eq 84 d_Word_writtenBy_57 (by decide) (fun c_57 => ?_) (fun c_57 => ?_)
                  · refine g_iconst 1 d_Word_writtenBy_84 (by decide) ?_
                    refine g_goto 89 d_Word_writtenBy_85 (by decide) ?_
                    refine g_istore_n d_Word_writtenBy_89 (by decide) ?_
                    show Go _ _ _ _ _ _ [(0, _), (1, _), (2, _)] _
                    refine g_iload_n d_Word_writtenBy_90 rfl ?_
                    refine g_if_eq 98 d_Word_writtenBy_91 (by decide) (fun c_91 => ?_) (fun c_91 => ?_)
                    · refine g_iconst (-1) d_Word_writtenBy_98 (by decide) ?_
                      refine Go.ret (some _) (rOk_i _) rfl d_Word_writtenBy_99 ?_
                      refine ⟨?_, rfl⟩
                      simp_all [kWr, kPr, kWait, kKnown, kRA, kRB, kWP, kWD, bI, tk, -Int32.not_lt, -Int32.not_le, ← Int32.not_lt]
                    · refine g_iload_n d_Word_writtenBy_94 rfl ?_
                      refine g_goto 99 d_Word_writtenBy_95 (by decide) ?_
                      refine Go.ret (some _) (rOk_i _) rfl d_Word_writtenBy_99 ?_
                      refine ⟨?_, rfl⟩
                      simp_all [kWr, kPr, kWait, kKnown, kRA, kRB, kWP, kWD, bI, tk, -Int32.not_lt, -Int32.not_le, ← Int32.not_lt]
                  · refine g_iload_n d_Word_writtenBy_60 rfl ?_
                    refine g_bipush (54) d_Word_writtenBy_61 (by decide) ?_
                    refine g_icmp_lt 72 d_Word_writtenBy_63 (by decide) (fun c_63 => ?_) (fun c_63 => ?_)
                    · refine g_iload_n d_Word_writtenBy_72 rfl ?_
                      refine g_bipush (72) d_Word_writtenBy_73 (by decide) ?_
                      refine g_icmp_eq 84 d_Word_writtenBy_75 (by decide) (fun c_75 => ?_) (fun c_75 => ?_)
                      · refine g_iconst 1 d_Word_writtenBy_84 (by decide) ?_
                        refine g_goto 89 d_Word_writtenBy_85 (by decide) ?_
                        refine g_istore_n d_Word_writtenBy_89 (by decide) ?_
                        show Go _ _ _ _ _ _ [(0, _), (1, _), (2, _)] _
                        refine g_iload_n d_Word_writtenBy_90 rfl ?_
                        refine g_if_eq 98 d_Word_writtenBy_91 (by decide) (fun c_91 => ?_) (fun c_91 => ?_)
                        · refine g_iconst (-1) d_Word_writtenBy_98 (by decide) ?_
                          refine Go.ret (some _) (rOk_i _) rfl d_Word_writtenBy_99 ?_
                          refine ⟨?_, rfl⟩
                          simp_all [kWr, kPr, kWait, kKnown, kRA, kRB, kWP, kWD, bI, tk, -Int32.not_lt, -Int32.not_le, ← Int32.not_lt]
                        · refine g_iload_n d_Word_writtenBy_94 rfl ?_
                          refine g_goto 99 d_Word_writtenBy_95 (by decide) ?_
                          refine Go.ret (some _) (rOk_i _) rfl d_Word_writtenBy_99 ?_
                          refine ⟨?_, rfl⟩
                          simp_all [kWr, kPr, kWait, kKnown, kRA, kRB, kWP, kWD, bI, tk, -Int32.not_lt, -Int32.not_le, ← Int32.not_lt]
                      · refine g_iload_n d_Word_writtenBy_78 rfl ?_
                        refine g_bipush (73) d_Word_writtenBy_79 (by decide) ?_
                        refine g_icmp_ne 88 d_Word_writtenBy_81 (by decide) (fun c_81 => ?_) (fun c_81 => ?_)
                        · refine g_iconst 0 d_Word_writtenBy_88 (by decide) ?_
                          refine g_istore_n d_Word_writtenBy_89 (by decide) ?_
                          show Go _ _ _ _ _ _ [(0, _), (1, _), (2, _)] _
                          refine g_iload_n d_Word_writtenBy_90 rfl ?_
                          refine g_if_eq 98 d_Word_writtenBy_91 (by decide) (fun c_91 => ?_) (fun c_91 => ?_)
                          · refine g_iconst (-1) d_Word_writtenBy_98 (by decide) ?_
                            refine Go.ret (some _) (rOk_i _) rfl d_Word_writtenBy_99 ?_
                            refine ⟨?_, rfl⟩
                            simp_all [kWr, kPr, kWait, kKnown, kRA, kRB, kWP, kWD, bI, tk, -Int32.not_lt, -Int32.not_le, ← Int32.not_lt]
                          · refine g_iload_n d_Word_writtenBy_94 rfl ?_
                            refine g_goto 99 d_Word_writtenBy_95 (by decide) ?_
                            refine Go.ret (some _) (rOk_i _) rfl d_Word_writtenBy_99 ?_
                            refine ⟨?_, rfl⟩
                            simp_all [kWr, kPr, kWait, kKnown, kRA, kRB, kWP, kWD, bI, tk, -Int32.not_lt, -Int32.not_le, ← Int32.not_lt]
                        · refine g_iconst 1 d_Word_writtenBy_84 (by decide) ?_
                          refine g_goto 89 d_Word_writtenBy_85 (by decide) ?_
                          refine g_istore_n d_Word_writtenBy_89 (by decide) ?_
                          show Go _ _ _ _ _ _ [(0, _), (1, _), (2, _)] _
                          refine g_iload_n d_Word_writtenBy_90 rfl ?_
                          refine g_if_eq 98 d_Word_writtenBy_91 (by decide) (fun c_91 => ?_) (fun c_91 => ?_)
                          · refine g_iconst (-1) d_Word_writtenBy_98 (by decide) ?_
                            refine Go.ret (some _) (rOk_i _) rfl d_Word_writtenBy_99 ?_
                            refine ⟨?_, rfl⟩
                            simp_all [kWr, kPr, kWait, kKnown, kRA, kRB, kWP, kWD, bI, tk, -Int32.not_lt, -Int32.not_le, ← Int32.not_lt]
                          · refine g_iload_n d_Word_writtenBy_94 rfl ?_
                            refine g_goto 99 d_Word_writtenBy_95 (by decide) ?_
                            refine Go.ret (some _) (rOk_i _) rfl d_Word_writtenBy_99 ?_
                            refine ⟨?_, rfl⟩
                            simp_all [kWr, kPr, kWait, kKnown, kRA, kRB, kWP, kWD, bI, tk, -Int32.not_lt, -Int32.not_le, ← Int32.not_lt]
                    · refine g_iload_n d_Word_writtenBy_66 rfl ?_
                      refine g_bipush (59) d_Word_writtenBy_67 (by decide) ?_
                      refine g_icmp_le 84 d_Word_writtenBy_69 (by decide) (fun c_69 => ?_) (fun c_69 => ?_)
                      · refine g_iconst 1 d_Word_writtenBy_84 (by decide) ?_
                        refine g_goto 89 d_Word_writtenBy_85 (by decide) ?_
                        refine g_istore_n d_Word_writtenBy_89 (by decide) ?_
                        show Go _ _ _ _ _ _ [(0, _), (1, _), (2, _)] _
                        refine g_iload_n d_Word_writtenBy_90 rfl ?_
                        refine g_if_eq 98 d_Word_writtenBy_91 (by decide) (fun c_91 => ?_) (fun c_91 => ?_)
                        · refine g_iconst (-1) d_Word_writtenBy_98 (by decide) ?_
                          refine Go.ret (some _) (rOk_i _) rfl d_Word_writtenBy_99 ?_
                          refine ⟨?_, rfl⟩
                          simp_all [kWr, kPr, kWait, kKnown, kRA, kRB, kWP, kWD, bI, tk, -Int32.not_lt, -Int32.not_le, ← Int32.not_lt]
                        · refine g_iload_n d_Word_writtenBy_94 rfl ?_
                          refine g_goto 99 d_Word_writtenBy_95 (by decide) ?_
                          refine Go.ret (some _) (rOk_i _) rfl d_Word_writtenBy_99 ?_
                          refine ⟨?_, rfl⟩
                          simp_all [kWr, kPr, kWait, kKnown, kRA, kRB, kWP, kWD, bI, tk, -Int32.not_lt, -Int32.not_le, ← Int32.not_lt]
                      · refine g_iload_n d_Word_writtenBy_72 rfl ?_
                        refine g_bipush (72) d_Word_writtenBy_73 (by decide) ?_
                        refine g_icmp_eq 84 d_Word_writtenBy_75 (by decide) (fun c_75 => ?_) (fun c_75 => ?_)
                        · refine g_iconst 1 d_Word_writtenBy_84 (by decide) ?_
                          refine g_goto 89 d_Word_writtenBy_85 (by decide) ?_
                          refine g_istore_n d_Word_writtenBy_89 (by decide) ?_
                          show Go _ _ _ _ _ _ [(0, _), (1, _), (2, _)] _
                          refine g_iload_n d_Word_writtenBy_90 rfl ?_
                          refine g_if_eq 98 d_Word_writtenBy_91 (by decide) (fun c_91 => ?_) (fun c_91 => ?_)
                          · refine g_iconst (-1) d_Word_writtenBy_98 (by decide) ?_
                            refine Go.ret (some _) (rOk_i _) rfl d_Word_writtenBy_99 ?_
                            refine ⟨?_, rfl⟩
                            simp_all [kWr, kPr, kWait, kKnown, kRA, kRB, kWP, kWD, bI, tk, -Int32.not_lt, -Int32.not_le, ← Int32.not_lt]
                          · refine g_iload_n d_Word_writtenBy_94 rfl ?_
                            refine g_goto 99 d_Word_writtenBy_95 (by decide) ?_
                            refine Go.ret (some _) (rOk_i _) rfl d_Word_writtenBy_99 ?_
                            refine ⟨?_, rfl⟩
                            simp_all [kWr, kPr, kWait, kKnown, kRA, kRB, kWP, kWD, bI, tk, -Int32.not_lt, -Int32.not_le, ← Int32.not_lt]
                        · refine g_iload_n d_Word_writtenBy_78 rfl ?_
                          refine g_bipush (73) d_Word_writtenBy_79 (by decide) ?_
                          refine g_icmp_ne 88 d_Word_writtenBy_81 (by decide) (fun c_81 => ?_) (fun c_81 => ?_)
                          · refine g_iconst 0 d_Word_writtenBy_88 (by decide) ?_
                            refine g_istore_n d_Word_writtenBy_89 (by decide) ?_
                            show Go _ _ _ _ _ _ [(0, _), (1, _), (2, _)] _
                            refine g_iload_n d_Word_writtenBy_90 rfl ?_
                            refine g_if_eq 98 d_Word_writtenBy_91 (by decide) (fun c_91 => ?_) (fun c_91 => ?_)
                            · refine g_iconst (-1) d_Word_writtenBy_98 (by decide) ?_
                              refine Go.ret (some _) (rOk_i _) rfl d_Word_writtenBy_99 ?_
                              refine ⟨?_, rfl⟩
                              simp_all [kWr, kPr, kWait, kKnown, kRA, kRB, kWP, kWD, bI, tk, -Int32.not_lt, -Int32.not_le, ← Int32.not_lt]
                            · refine g_iload_n d_Word_writtenBy_94 rfl ?_
                              refine g_goto 99 d_Word_writtenBy_95 (by decide) ?_
                              refine Go.ret (some _) (rOk_i _) rfl d_Word_writtenBy_99 ?_
                              refine ⟨?_, rfl⟩
                              simp_all [kWr, kPr, kWait, kKnown, kRA, kRB, kWP, kWD, bI, tk, -Int32.not_lt, -Int32.not_le, ← Int32.not_lt]
                          · refine g_iconst 1 d_Word_writtenBy_84 (by decide) ?_
                            refine g_goto 89 d_Word_writtenBy_85 (by decide) ?_
                            refine g_istore_n d_Word_writtenBy_89 (by decide) ?_
                            show Go _ _ _ _ _ _ [(0, _), (1, _), (2, _)] _
                            refine g_iload_n d_Word_writtenBy_90 rfl ?_
                            refine g_if_eq 98 d_Word_writtenBy_91 (by decide) (fun c_91 => ?_) (fun c_91 => ?_)
                            · refine g_iconst (-1) d_Word_writtenBy_98 (by decide) ?_
                              refine Go.ret (some _) (rOk_i _) rfl d_Word_writtenBy_99 ?_
                              refine ⟨?_, rfl⟩
                              simp_all [kWr, kPr, kWait, kKnown, kRA, kRB, kWP, kWD, bI, tk, -Int32.not_lt, -Int32.not_le, ← Int32.not_lt]
                            · refine g_iload_n d_Word_writtenBy_94 rfl ?_
                              refine g_goto 99 d_Word_writtenBy_95 (by decide) ?_
                              refine Go.ret (some _) (rOk_i _) rfl d_Word_writtenBy_99 ?_
                              refine ⟨?_, rfl⟩
                              simp_all [kWr, kPr, kWait, kKnown, kRA, kRB, kWP, kWD, bI, tk, -Int32.not_lt, -Int32.not_le, ← Int32.not_lt]
        · refine g_bipush (16) d_Word_writtenBy_24 (by decide) ?_
          refine g_iload_n d_Word_writtenBy_26 rfl ?_
          refine g_iconst 3 d_Word_writtenBy_27 (by decide) ?_
          refine g_iand d_Word_writtenBy_28 ?_
          refine g_iadd d_Word_writtenBy_29 ?_
          refine Go.ret (some _) (rOk_i _) rfl d_Word_writtenBy_30 ?_
          refine ⟨?_, rfl⟩
          simp_all [kWr, kPr, kWait, kKnown, kRA, kRB, kWP, kWD, bI, tk, -Int32.not_lt, -Int32.not_le, ← Int32.not_lt]
abbrev mi_Word_predicatesReadBy : MI := (⟨"WarpMill$Word", "predicatesReadBy", "(IIII)I"⟩, prog_11_method_5_code, 4, some .int, 1, 20)
def it_Word_predicatesReadBy_0 : List (Nat × ClassFile.Instr × Nat) := [(0, .iload_n 0, 1), (1, .bipush (21), 2), (3, .if_icmp .ne (8), 3), (6, .iload_n 3, 1), (7, .invokestatic 71, 3), (10, .ireturn, 1), (11, .iload_n 0, 1), (12, .bipush (34), 2), (14, .if_icmp .eq (9), 3), (17, .iload_n 0, 1), (18, .bipush (35), 2), (20, .if_icmp .ne (13), 3), (23, .iload_n 1, 1), (24, .invokestatic 71, 3), (27, .iload_n 2, 1), (28, .invokestatic 71, 3), (31, .ior, 1), (32, .ireturn, 1), (33, .iload_n 0, 1), (34, .bipush (36), 2), (36, .if_icmp .eq (15), 3), (39, .iload_n 0, 1), (40, .bipush (70), 2), (42, .if_icmp .lt (16), 3)]
theorem id_Word_predicatesReadBy_0 : ∀ q ∈ it_Word_predicatesReadBy_0, decode prog_11_method_5_code q.1 = .ok q.2 := by decide +kernel
theorem d_Word_predicatesReadBy_0 : decode prog_11_method_5_code 0 = .ok (.iload_n 0, 1) := id_Word_predicatesReadBy_0 (0, .iload_n 0, 1) (List.mem_of_getElem? (i := 0) rfl)
theorem d_Word_predicatesReadBy_1 : decode prog_11_method_5_code 1 = .ok (.bipush (21), 2) := id_Word_predicatesReadBy_0 (1, .bipush (21), 2) (List.mem_of_getElem? (i := 1) rfl)
theorem d_Word_predicatesReadBy_3 : decode prog_11_method_5_code 3 = .ok (.if_icmp .ne (8), 3) := id_Word_predicatesReadBy_0 (3, .if_icmp .ne (8), 3) (List.mem_of_getElem? (i := 2) rfl)
theorem d_Word_predicatesReadBy_6 : decode prog_11_method_5_code 6 = .ok (.iload_n 3, 1) := id_Word_predicatesReadBy_0 (6, .iload_n 3, 1) (List.mem_of_getElem? (i := 3) rfl)
theorem d_Word_predicatesReadBy_7 : decode prog_11_method_5_code 7 = .ok (.invokestatic 71, 3) := id_Word_predicatesReadBy_0 (7, .invokestatic 71, 3) (List.mem_of_getElem? (i := 4) rfl)
theorem d_Word_predicatesReadBy_10 : decode prog_11_method_5_code 10 = .ok (.ireturn, 1) := id_Word_predicatesReadBy_0 (10, .ireturn, 1) (List.mem_of_getElem? (i := 5) rfl)
theorem d_Word_predicatesReadBy_11 : decode prog_11_method_5_code 11 = .ok (.iload_n 0, 1) := id_Word_predicatesReadBy_0 (11, .iload_n 0, 1) (List.mem_of_getElem? (i := 6) rfl)
theorem d_Word_predicatesReadBy_12 : decode prog_11_method_5_code 12 = .ok (.bipush (34), 2) := id_Word_predicatesReadBy_0 (12, .bipush (34), 2) (List.mem_of_getElem? (i := 7) rfl)
theorem d_Word_predicatesReadBy_14 : decode prog_11_method_5_code 14 = .ok (.if_icmp .eq (9), 3) := id_Word_predicatesReadBy_0 (14, .if_icmp .eq (9), 3) (List.mem_of_getElem? (i := 8) rfl)
theorem d_Word_predicatesReadBy_17 : decode prog_11_method_5_code 17 = .ok (.iload_n 0, 1) := id_Word_predicatesReadBy_0 (17, .iload_n 0, 1) (List.mem_of_getElem? (i := 9) rfl)
theorem d_Word_predicatesReadBy_18 : decode prog_11_method_5_code 18 = .ok (.bipush (35), 2) := id_Word_predicatesReadBy_0 (18, .bipush (35), 2) (List.mem_of_getElem? (i := 10) rfl)
theorem d_Word_predicatesReadBy_20 : decode prog_11_method_5_code 20 = .ok (.if_icmp .ne (13), 3) := id_Word_predicatesReadBy_0 (20, .if_icmp .ne (13), 3) (List.mem_of_getElem? (i := 11) rfl)
theorem d_Word_predicatesReadBy_23 : decode prog_11_method_5_code 23 = .ok (.iload_n 1, 1) := id_Word_predicatesReadBy_0 (23, .iload_n 1, 1) (List.mem_of_getElem? (i := 12) rfl)
theorem d_Word_predicatesReadBy_24 : decode prog_11_method_5_code 24 = .ok (.invokestatic 71, 3) := id_Word_predicatesReadBy_0 (24, .invokestatic 71, 3) (List.mem_of_getElem? (i := 13) rfl)
theorem d_Word_predicatesReadBy_27 : decode prog_11_method_5_code 27 = .ok (.iload_n 2, 1) := id_Word_predicatesReadBy_0 (27, .iload_n 2, 1) (List.mem_of_getElem? (i := 14) rfl)
theorem d_Word_predicatesReadBy_28 : decode prog_11_method_5_code 28 = .ok (.invokestatic 71, 3) := id_Word_predicatesReadBy_0 (28, .invokestatic 71, 3) (List.mem_of_getElem? (i := 15) rfl)
theorem d_Word_predicatesReadBy_31 : decode prog_11_method_5_code 31 = .ok (.ior, 1) := id_Word_predicatesReadBy_0 (31, .ior, 1) (List.mem_of_getElem? (i := 16) rfl)
theorem d_Word_predicatesReadBy_32 : decode prog_11_method_5_code 32 = .ok (.ireturn, 1) := id_Word_predicatesReadBy_0 (32, .ireturn, 1) (List.mem_of_getElem? (i := 17) rfl)
theorem d_Word_predicatesReadBy_33 : decode prog_11_method_5_code 33 = .ok (.iload_n 0, 1) := id_Word_predicatesReadBy_0 (33, .iload_n 0, 1) (List.mem_of_getElem? (i := 18) rfl)
theorem d_Word_predicatesReadBy_34 : decode prog_11_method_5_code 34 = .ok (.bipush (36), 2) := id_Word_predicatesReadBy_0 (34, .bipush (36), 2) (List.mem_of_getElem? (i := 19) rfl)
theorem d_Word_predicatesReadBy_36 : decode prog_11_method_5_code 36 = .ok (.if_icmp .eq (15), 3) := id_Word_predicatesReadBy_0 (36, .if_icmp .eq (15), 3) (List.mem_of_getElem? (i := 20) rfl)
theorem d_Word_predicatesReadBy_39 : decode prog_11_method_5_code 39 = .ok (.iload_n 0, 1) := id_Word_predicatesReadBy_0 (39, .iload_n 0, 1) (List.mem_of_getElem? (i := 21) rfl)
theorem d_Word_predicatesReadBy_40 : decode prog_11_method_5_code 40 = .ok (.bipush (70), 2) := id_Word_predicatesReadBy_0 (40, .bipush (70), 2) (List.mem_of_getElem? (i := 22) rfl)
theorem d_Word_predicatesReadBy_42 : decode prog_11_method_5_code 42 = .ok (.if_icmp .lt (16), 3) := id_Word_predicatesReadBy_0 (42, .if_icmp .lt (16), 3) (List.mem_of_getElem? (i := 23) rfl)
def it_Word_predicatesReadBy_1 : List (Nat × ClassFile.Instr × Nat) := [(45, .iload_n 0, 1), (46, .bipush (72), 2), (48, .if_icmp .gt (10), 3), (51, .iload_n 1, 1), (52, .invokestatic 71, 3), (55, .goto (4), 3), (58, .iconst 0, 1), (59, .ireturn, 1)]
theorem id_Word_predicatesReadBy_1 : ∀ q ∈ it_Word_predicatesReadBy_1, decode prog_11_method_5_code q.1 = .ok q.2 := by decide +kernel
theorem d_Word_predicatesReadBy_45 : decode prog_11_method_5_code 45 = .ok (.iload_n 0, 1) := id_Word_predicatesReadBy_1 (45, .iload_n 0, 1) (List.mem_of_getElem? (i := 0) rfl)
theorem d_Word_predicatesReadBy_46 : decode prog_11_method_5_code 46 = .ok (.bipush (72), 2) := id_Word_predicatesReadBy_1 (46, .bipush (72), 2) (List.mem_of_getElem? (i := 1) rfl)
theorem d_Word_predicatesReadBy_48 : decode prog_11_method_5_code 48 = .ok (.if_icmp .gt (10), 3) := id_Word_predicatesReadBy_1 (48, .if_icmp .gt (10), 3) (List.mem_of_getElem? (i := 2) rfl)
theorem d_Word_predicatesReadBy_51 : decode prog_11_method_5_code 51 = .ok (.iload_n 1, 1) := id_Word_predicatesReadBy_1 (51, .iload_n 1, 1) (List.mem_of_getElem? (i := 3) rfl)
theorem d_Word_predicatesReadBy_52 : decode prog_11_method_5_code 52 = .ok (.invokestatic 71, 3) := id_Word_predicatesReadBy_1 (52, .invokestatic 71, 3) (List.mem_of_getElem? (i := 4) rfl)
theorem d_Word_predicatesReadBy_55 : decode prog_11_method_5_code 55 = .ok (.goto (4), 3) := id_Word_predicatesReadBy_1 (55, .goto (4), 3) (List.mem_of_getElem? (i := 5) rfl)
theorem d_Word_predicatesReadBy_58 : decode prog_11_method_5_code 58 = .ok (.iconst 0, 1) := id_Word_predicatesReadBy_1 (58, .iconst 0, 1) (List.mem_of_getElem? (i := 6) rfl)
theorem d_Word_predicatesReadBy_59 : decode prog_11_method_5_code 59 = .ok (.ireturn, 1) := id_Word_predicatesReadBy_1 (59, .ireturn, 1) (List.mem_of_getElem? (i := 7) rfl)
theorem wC_Word_predicatesReadBy : Cond.code ⟨"WarpMill$Word", "predicatesReadBy", "(IIII)I"⟩ prog_11_method_5_code 4 (some .int) ∈ lw_tb := mem_tb 278 (by decide +kernel) rfl
theorem cw_Word_predicatesReadBy_Word_tickOf : cW mi_Word_predicatesReadBy mi_Word_tickOf 1 := ⟨wC_Word_tickOf, wi_Word, ⟨by decide, by decide, by decide +kernel⟩, by decide, by decide⟩
set_option maxRecDepth 100000 in
set_option maxHeartbeats 4000000 in
theorem sp_Word_predicatesReadBy {G : Gl} {h : Hp} (op a b n : Int32)  : Ex G mi_Word_predicatesReadBy [.int op, .int a, .int b, .int n] h (fun r h' => r = some (.int (kPr op a b n)) ∧ h' = h) := by
  refine Ex.of (by decide) (Nat.le_of_ble_eq_true rfl) ?_
  show Go G mi_Word_predicatesReadBy h _ h 0 [(0, .int op), (1, .int a), (2, .int b), (3, .int n)] []
  refine g_iload_n d_Word_predicatesReadBy_0 rfl ?_
  refine g_bipush (21) d_Word_predicatesReadBy_1 (by decide) ?_
  refine g_icmp_ne 11 d_Word_predicatesReadBy_3 (by decide) (fun c_3 => ?_) (fun c_3 => ?_)
  · refine g_iload_n d_Word_predicatesReadBy_11 rfl ?_
    refine g_bipush (34) d_Word_predicatesReadBy_12 (by decide) ?_
    refine g_icmp_eq 23 d_Word_predicatesReadBy_14 (by decide) (fun c_14 => ?_) (fun c_14 => ?_)
    · refine g_iload_n d_Word_predicatesReadBy_23 rfl ?_
      refine g_callS (mz := mi_Word_tickOf) (sp_Word_tickOf _) cw_Word_predicatesReadBy_Word_tickOf lm_Word_71 wS_Word_tickOf d_Word_predicatesReadBy_24 rfl rfl (Nat.le_of_ble_eq_true rfl) (fun r_24 h_24 hp_24 hro_24 => ?_)
      obtain ⟨rfl, rfl⟩ := hp_24
      dsimp only [Option.toList_some, Option.toList_none, List.cons_append, List.nil_append]
      refine g_iload_n d_Word_predicatesReadBy_27 rfl ?_
      refine g_callS (mz := mi_Word_tickOf) (sp_Word_tickOf _) cw_Word_predicatesReadBy_Word_tickOf lm_Word_71 wS_Word_tickOf d_Word_predicatesReadBy_28 rfl rfl (Nat.le_of_ble_eq_true rfl) (fun r_28 h_28 hp_28 hro_28 => ?_)
      obtain ⟨rfl, rfl⟩ := hp_28
      dsimp only [Option.toList_some, Option.toList_none, List.cons_append, List.nil_append]
      refine g_ior d_Word_predicatesReadBy_31 ?_
      refine Go.ret (some _) (rOk_i _) rfl d_Word_predicatesReadBy_32 ?_
      refine ⟨?_, rfl⟩
      simp_all [kWr, kPr, kWait, kKnown, kRA, kRB, kWP, kWD, bI, tk, -Int32.not_lt, -Int32.not_le, ← Int32.not_lt]
    · refine g_iload_n d_Word_predicatesReadBy_17 rfl ?_
      refine g_bipush (35) d_Word_predicatesReadBy_18 (by decide) ?_
      refine g_icmp_ne 33 d_Word_predicatesReadBy_20 (by decide) (fun c_20 => ?_) (fun c_20 => ?_)
      · refine g_iload_n d_Word_predicatesReadBy_33 rfl ?_
        refine g_bipush (36) d_Word_predicatesReadBy_34 (by decide) ?_
        refine g_icmp_eq 51 d_Word_predicatesReadBy_36 (by decide) (fun c_36 => ?_) (fun c_36 => ?_)
        · refine g_iload_n d_Word_predicatesReadBy_51 rfl ?_
          refine g_callS (mz := mi_Word_tickOf) (sp_Word_tickOf _) cw_Word_predicatesReadBy_Word_tickOf lm_Word_71 wS_Word_tickOf d_Word_predicatesReadBy_52 rfl rfl (Nat.le_of_ble_eq_true rfl) (fun r_52 h_52 hp_52 hro_52 => ?_)
          obtain ⟨rfl, rfl⟩ := hp_52
          dsimp only [Option.toList_some, Option.toList_none, List.cons_append, List.nil_append]
          refine g_goto 59 d_Word_predicatesReadBy_55 (by decide) ?_
          refine Go.ret (some _) (rOk_i _) rfl d_Word_predicatesReadBy_59 ?_
          refine ⟨?_, rfl⟩
          simp_all [kWr, kPr, kWait, kKnown, kRA, kRB, kWP, kWD, bI, tk, -Int32.not_lt, -Int32.not_le, ← Int32.not_lt]
        · refine g_iload_n d_Word_predicatesReadBy_39 rfl ?_
          refine g_bipush (70) d_Word_predicatesReadBy_40 (by decide) ?_
          refine g_icmp_lt 58 d_Word_predicatesReadBy_42 (by decide) (fun c_42 => ?_) (fun c_42 => ?_)
          · refine g_iconst 0 d_Word_predicatesReadBy_58 (by decide) ?_
            refine Go.ret (some _) (rOk_i _) rfl d_Word_predicatesReadBy_59 ?_
            refine ⟨?_, rfl⟩
            simp_all [kWr, kPr, kWait, kKnown, kRA, kRB, kWP, kWD, bI, tk, -Int32.not_lt, -Int32.not_le, ← Int32.not_lt]
          · refine g_iload_n d_Word_predicatesReadBy_45 rfl ?_
            refine g_bipush (72) d_Word_predicatesReadBy_46 (by decide) ?_
            refine g_icmp_gt 58 d_Word_predicatesReadBy_48 (by decide) (fun c_48 => ?_) (fun c_48 => ?_)
            · refine g_iconst 0 d_Word_predicatesReadBy_58 (by decide) ?_
              refine Go.ret (some _) (rOk_i _) rfl d_Word_predicatesReadBy_59 ?_
              refine ⟨?_, rfl⟩
              simp_all [kWr, kPr, kWait, kKnown, kRA, kRB, kWP, kWD, bI, tk, -Int32.not_lt, -Int32.not_le, ← Int32.not_lt]
            · refine g_iload_n d_Word_predicatesReadBy_51 rfl ?_
              refine g_callS (mz := mi_Word_tickOf) (sp_Word_tickOf _) cw_Word_predicatesReadBy_Word_tickOf lm_Word_71 wS_Word_tickOf d_Word_predicatesReadBy_52 rfl rfl (Nat.le_of_ble_eq_true rfl) (fun r_52 h_52 hp_52 hro_52 => ?_)
              obtain ⟨rfl, rfl⟩ := hp_52
              dsimp only [Option.toList_some, Option.toList_none, List.cons_append, List.nil_append]
              refine g_goto 59 d_Word_predicatesReadBy_55 (by decide) ?_
              refine Go.ret (some _) (rOk_i _) rfl d_Word_predicatesReadBy_59 ?_
              refine ⟨?_, rfl⟩
              simp_all [kWr, kPr, kWait, kKnown, kRA, kRB, kWP, kWD, bI, tk, -Int32.not_lt, -Int32.not_le, ← Int32.not_lt]
      · refine g_iload_n d_Word_predicatesReadBy_23 rfl ?_
        refine g_callS (mz := mi_Word_tickOf) (sp_Word_tickOf _) cw_Word_predicatesReadBy_Word_tickOf lm_Word_71 wS_Word_tickOf d_Word_predicatesReadBy_24 rfl rfl (Nat.le_of_ble_eq_true rfl) (fun r_24 h_24 hp_24 hro_24 => ?_)
        obtain ⟨rfl, rfl⟩ := hp_24
        dsimp only [Option.toList_some, Option.toList_none, List.cons_append, List.nil_append]
        refine g_iload_n d_Word_predicatesReadBy_27 rfl ?_
        refine g_callS (mz := mi_Word_tickOf) (sp_Word_tickOf _) cw_Word_predicatesReadBy_Word_tickOf lm_Word_71 wS_Word_tickOf d_Word_predicatesReadBy_28 rfl rfl (Nat.le_of_ble_eq_true rfl) (fun r_28 h_28 hp_28 hro_28 => ?_)
        obtain ⟨rfl, rfl⟩ := hp_28
        dsimp only [Option.toList_some, Option.toList_none, List.cons_append, List.nil_append]
        refine g_ior d_Word_predicatesReadBy_31 ?_
        refine Go.ret (some _) (rOk_i _) rfl d_Word_predicatesReadBy_32 ?_
        refine ⟨?_, rfl⟩
        simp_all [kWr, kPr, kWait, kKnown, kRA, kRB, kWP, kWD, bI, tk, -Int32.not_lt, -Int32.not_le, ← Int32.not_lt]
  · refine g_iload_n d_Word_predicatesReadBy_6 rfl ?_
    refine g_callS (mz := mi_Word_tickOf) (sp_Word_tickOf _) cw_Word_predicatesReadBy_Word_tickOf lm_Word_71 wS_Word_tickOf d_Word_predicatesReadBy_7 rfl rfl (Nat.le_of_ble_eq_true rfl) (fun r_7 h_7 hp_7 hro_7 => ?_)
    obtain ⟨rfl, rfl⟩ := hp_7
    dsimp only [Option.toList_some, Option.toList_none, List.cons_append, List.nil_append]
    refine Go.ret (some _) (rOk_i _) rfl d_Word_predicatesReadBy_10 ?_
    refine ⟨?_, rfl⟩
    simp_all [kWr, kPr, kWait, kKnown, kRA, kRB, kWP, kWD, bI, tk, -Int32.not_lt, -Int32.not_le, ← Int32.not_lt]
