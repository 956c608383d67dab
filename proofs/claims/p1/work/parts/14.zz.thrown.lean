def t_WM_run (F : Nat) (x0 : Nat) (x1 : Int32) (h : Hp) : Option (Nat × Hp) := if x1 < (1 : Int32) then (some (12, h)) else (if x1 ≤ (500 : Int32) then (gd (hK h x0 = 1) <| rq h (hR h 3 x0) 6 fun a_23_2 => if (hI h 326 a_23_2) < (20000 : Int32) then (none) else (some (35, h))) else (some (12, h)))
set_option maxRecDepth 100000 in
set_option maxHeartbeats 4000000 in
theorem et_WM_run {G : Gl} {F : Nat} {r : Nat} {h' : Hp} {x0 : Nat} {x1 : Int32} {h : Hp} (hf : t_WM_run F x0 x1 h = some (r, h')) : Go G mi_WM_run h (pT r h') h 0 [(0, .ref x0), (1, .int x1)] [] := by
  unfold t_WM_run at hf
  refine g_iload_n d_WM_run_0 rfl ?_
  refine g_iconst 1 d_WM_run_1 (by decide) ?_
  refine g_icmp_lt 12 d_WM_run_2 (by decide) (fun c_2 => ?_) (fun c_2 => ?_)
  · have hf := ifp hf c_2
    exact Go.stop (UInt32.ofNat 12) (by decide) (pT_of hf)
  · have hf := ifn hf c_2
    refine g_iload_n d_WM_run_5 rfl ?_
    refine g_sipush (500) d_WM_run_6 (by decide) ?_
    refine g_icmp_le 22 d_WM_run_9 (by decide) (fun c_9 => ?_) (fun c_9 => ?_)
    · have hf := ifp hf c_9
      refine g_aload_n d_WM_run_22 rfl ?_
      obtain ⟨k_23, hf⟩ := gd_s hf
      obtain ⟨a_23_2, e_23_2, k_23_2, hf⟩ := rq_s hf
      refine fgs_WM_tally lf_WM_32 d_WM_run_23 k_23 e_23_2 ?_
      refine fg_Tally_allCycles lf_WM_103 d_WM_run_26 k_23_2 ?_
      refine g_sipush (20000) d_WM_run_29 (by decide) ?_
      refine g_icmp_lt 45 d_WM_run_32 (by decide) (fun c_32 => ?_) (fun c_32 => ?_)
      · have hf := ifp hf c_32
        refine g_iconst 0 d_WM_run_45 (by decide) ?_
        refine g_istore_n d_WM_run_46 (by decide) ?_
        show Go _ _ _ _ _ _ [(0, _), (1, _), (2, _)] _
        exact nm_s hf
      · have hf := ifn hf c_32
        exact Go.stop (UInt32.ofNat 35) (by decide) (pT_of hf)
    · have hf := ifn hf c_9
      exact Go.stop (UInt32.ofNat 12) (by decide) (pT_of hf)
def t_WM_global (F : Nat) (x0 : Nat) (x1 : Int32) (h : Hp) : Option (Nat × Hp) := gd (hK h x0 = 1) <| rq h (hR h 2 x0) 3 fun a_1_2 => cl (f_Memory_has F a_1_2 x1 h) fun v_5 h_5 => if v_5 = 0 then (some (11, h_5)) else (gd (hK h_5 x0 = 1) <| rq h_5 (hR h_5 2 x0) 3 fun a_22_2 => rq h_5 (hR h_5 128 a_22_2) 100 fun a_25 => ix x1 (hN h_5 a_25) fun j_29 => none)
set_option maxRecDepth 100000 in
set_option maxHeartbeats 4000000 in
theorem et_WM_global {G : Gl} {F : Nat} {r : Nat} {h' : Hp} {x0 : Nat} {x1 : Int32} {h : Hp} (hf : t_WM_global F x0 x1 h = some (r, h')) : Go G mi_WM_global h (pT r h') h 0 [(0, .ref x0), (1, .int x1)] [] := by
  unfold t_WM_global at hf
  refine g_aload_n d_WM_global_0 rfl ?_
  obtain ⟨k_1, hf⟩ := gd_s hf
  obtain ⟨a_1_2, e_1_2, k_1_2, hf⟩ := rq_s hf
  refine fgs_WM_memory lf_WM_25 d_WM_global_1 k_1 e_1_2 ?_
  refine g_iload_n d_WM_global_4 rfl ?_
  obtain ⟨v_5, h_5, e_5, hf⟩ := cl_s hf
  refine g_callV (mz := mi_Memory_has) (e_Memory_has e_5) cw_WM_global_Memory_has lm_WM_85 wI_Memory_has wV_Memory_has (ci := 2) k_1_2 (by decide) rfl rfl d_WM_global_5 rfl rfl (by first | exact Nat.le_of_ble_eq_true rfl | simp [cat_rf, Value.category]) (fun r1 h1 hp hro => ?_)
  obtain ⟨rfl, rfl⟩ := hp
  dsimp only [Option.toList_some, Option.toList_none, List.cons_append, List.nil_append]
  refine g_if_ne 21 d_WM_global_8 (by decide) (fun c_8 => ?_) (fun c_8 => ?_)
  · have hf := ifn hf c_8
    refine g_aload_n d_WM_global_21 rfl ?_
    obtain ⟨k_22, hf⟩ := gd_s hf
    obtain ⟨a_22_2, e_22_2, k_22_2, hf⟩ := rq_s hf
    refine fgs_WM_memory lf_WM_25 d_WM_global_22 k_22 e_22_2 ?_
    obtain ⟨a_25, e_25, k_25, hf⟩ := rq_s hf
    refine fgs_Memory_ints lf_WM_89 d_WM_global_25 k_22_2 e_25 ?_
    refine g_iload_n d_WM_global_28 rfl ?_
    obtain ⟨i_29, hf⟩ := ix_s hf
    refine g_iald k_25 i_29 d_WM_global_29 ?_
    exact nm_s hf
  · have hf := ifp hf c_8
    exact Go.stop (UInt32.ofNat 11) (by decide) (pT_of hf)
def bt_WM_lane_22 (F : Nat) (x3 : Int32) (x4 : Int32) (s0 : Option Nat) (h : Hp) : Option (Nat × Hp) := nu s0 (some (50, h)) fun a_26 => (gd (hK h a_26 = 9) <| cl (f_Warp_hasThread F a_26 x3 h) fun v_32_2 h_32_2 => if v_32_2 = 0 then (some (50, h_32_2)) else (if x4 < 0 then (some (50, h_32_2)) else (if x4 ≤ (20 : Int32) then (gd (hK h_32_2 a_26 = 9) <| cl (f_Warp_tellLane F a_26 x3 x4 h_32_2) fun v_65_2 h_65_2 => none) else (some (50, h_32_2)))))
set_option maxRecDepth 100000 in
set_option maxHeartbeats 4000000 in
theorem et_WM_lane_22 {G : Gl} {h0 : Hp} {F : Nat} {r : Nat} {h' : Hp} {x3 : Int32} {x4 : Int32} {s0 : Option Nat} {h : Hp} (hf : bt_WM_lane_22 F x3 x4 s0 h = some (r, h')) : Go G mi_WM_lane h0 (pT r h') h 22 [(3, .int x3), (4, .int x4)] [va_rf s0] := by
  unfold bt_WM_lane_22 at hf
  refine g_astoreq (r := s0) d_WM_lane_22 (by decide) ?_
  show Go _ _ _ _ _ _ [(3, _), (4, _), (5, _)] _
  refine g_aloadq (r := s0) d_WM_lane_24 rfl ?_
  refine g_ifnull (r := s0) 50 d_WM_lane_26 (by decide) (fun c_26 => ?_) (fun a_26 c_26 => ?_)
  · subst c_26
    have hf := nu_n hf
    exact Go.stop (UInt32.ofNat 50) (by decide) (pT_of hf)
  · subst c_26
    have hf := nu_s hf
    refine g_aload d_WM_lane_29 rfl ?_
    refine g_iload_n d_WM_lane_31 rfl ?_
    obtain ⟨k_32, hf⟩ := gd_s hf
    obtain ⟨v_32_2, h_32_2, e_32_2, hf⟩ := cl_s hf
    refine g_callV (mz := mi_Warp_hasThread) (e_Warp_hasThread e_32_2) cw_WM_lane_Warp_hasThread lm_WM_165 wI_Warp_hasThread wV_Warp_hasThread (ci := 8) k_32 (by decide) rfl rfl d_WM_lane_32 rfl rfl (by first | exact Nat.le_of_ble_eq_true rfl | simp [cat_rf, Value.category]) (fun r1 h1 hp hro => ?_)
    obtain ⟨rfl, rfl⟩ := hp
    dsimp only [Option.toList_some, Option.toList_none, List.cons_append, List.nil_append]
    refine g_if_eq 50 d_WM_lane_35 (by decide) (fun c_35 => ?_) (fun c_35 => ?_)
    · have hf := ifp hf c_35
      exact Go.stop (UInt32.ofNat 50) (by decide) (pT_of hf)
    · have hf := ifn hf c_35
      refine g_iload d_WM_lane_38 rfl ?_
      refine g_if_lt 50 d_WM_lane_40 (by decide) (fun c_40 => ?_) (fun c_40 => ?_)
      · have hf := ifp hf c_40
        exact Go.stop (UInt32.ofNat 50) (by decide) (pT_of hf)
      · have hf := ifn hf c_40
        refine g_iload d_WM_lane_43 rfl ?_
        refine g_bipush (20) d_WM_lane_45 (by decide) ?_
        refine g_icmp_le 60 d_WM_lane_47 (by decide) (fun c_47 => ?_) (fun c_47 => ?_)
        · have hf := ifp hf c_47
          refine g_aload d_WM_lane_60 rfl ?_
          refine g_iload_n d_WM_lane_62 rfl ?_
          refine g_iload d_WM_lane_63 rfl ?_
          obtain ⟨k_65, hf⟩ := gd_s hf
          obtain ⟨v_65_2, h_65_2, e_65_2, hf⟩ := cl_s hf
          refine g_callV (mz := mi_Warp_tellLane) (e_Warp_tellLane e_65_2) cw_WM_lane_Warp_tellLane lm_WM_170 wI_Warp_tellLane wV_Warp_tellLane (ci := 8) k_65 (by decide) rfl rfl d_WM_lane_65 rfl rfl (by first | exact Nat.le_of_ble_eq_true rfl | simp [cat_rf, Value.category]) (fun r1 h1 hp hro => ?_)
          obtain ⟨rfl, rfl⟩ := hp
          dsimp only [Option.toList_some, Option.toList_none, List.cons_append, List.nil_append]
          exact nm_s hf
        · have hf := ifn hf c_47
          exact Go.stop (UInt32.ofNat 50) (by decide) (pT_of hf)
def t_WM_lane (F : Nat) (x0 : Nat) (x1 : Int32) (x2 : Int32) (x3 : Int32) (x4 : Int32) (h : Hp) : Option (Nat × Hp) := gd (hK h x0 = 1) <| cl (f_WM_isUnit F x0 x1 h) fun v_2_2 h_2_2 => if v_2_2 = 0 then (bt_WM_lane_22 F x3 x4 none h_2_2) else (gd (hK h_2_2 x0 = 1) <| rq h_2_2 (hR h_2_2 4 x0) 121 fun a_9_2 => ix x1 (hN h_2_2 a_9_2) fun j_13 => rq h_2_2 (hQ h_2_2 a_9_2 j_13) 7 fun a_13_2 => cl (f_Unit_busy F a_13_2 x2 h_2_2) fun o_15 h_15 => bt_WM_lane_22 F x3 x4 o_15 h_15)
set_option maxRecDepth 100000 in
set_option maxHeartbeats 4000000 in
theorem et_WM_lane {G : Gl} {F : Nat} {r : Nat} {h' : Hp} {x0 : Nat} {x1 : Int32} {x2 : Int32} {x3 : Int32} {x4 : Int32} {h : Hp} (hf : t_WM_lane F x0 x1 x2 x3 x4 h = some (r, h')) : Go G mi_WM_lane h (pT r h') h 0 [(0, .ref x0), (1, .int x1), (2, .int x2), (3, .int x3), (4, .int x4)] [] := by
  unfold t_WM_lane at hf
  refine g_aload_n d_WM_lane_0 rfl ?_
  refine g_iload_n d_WM_lane_1 rfl ?_
  obtain ⟨k_2, hf⟩ := gd_s hf
  obtain ⟨v_2_2, h_2_2, e_2_2, hf⟩ := cl_s hf
  refine g_callV (mz := mi_WM_isUnit) (e_WM_isUnit e_2_2) cw_WM_lane_WM_isUnit lm_WM_148 wI_WM_isUnit wV_WM_isUnit (ci := 0) k_2 (by decide) rfl rfl d_WM_lane_2 rfl rfl (by first | exact Nat.le_of_ble_eq_true rfl | simp [cat_rf, Value.category]) (fun r1 h1 hp hro => ?_)
  obtain ⟨rfl, rfl⟩ := hp
  dsimp only [Option.toList_some, Option.toList_none, List.cons_append, List.nil_append]
  refine g_if_eq 21 d_WM_lane_5 (by decide) (fun c_5 => ?_) (fun c_5 => ?_)
  · have hf := ifp hf c_5
    refine g_null d_WM_lane_21 ?_
    refine Go.locals [3, 4] rfl ?_
    have key := et_WM_lane_22 (G := G) (h0 := h)  hf
    exact key
  · have hf := ifn hf c_5
    refine g_aload_n d_WM_lane_8 rfl ?_
    obtain ⟨k_9, hf⟩ := gd_s hf
    obtain ⟨a_9_2, e_9_2, k_9_2, hf⟩ := rq_s hf
    refine fgs_WM_units lf_WM_38 d_WM_lane_9 k_9 e_9_2 ?_
    refine g_iload_n d_WM_lane_12 rfl ?_
    obtain ⟨i_13, hf⟩ := ix_s hf
    refine g_aald k_9_2 (by decide) rfl rfl i_13 d_WM_lane_13 ?_
    obtain ⟨a_13_2, e_13_2, k_13_2, hf⟩ := rq_s hf
    refine Go.vs e_13_2 ?_
    refine g_iload_n d_WM_lane_14 rfl ?_
    obtain ⟨o_15, h_15, e_15, hf⟩ := cl_s hf
    refine g_callV (mz := mi_Unit_busy) (e_Unit_busy e_15) cw_WM_lane_Unit_busy lm_WM_158 wI_Unit_busy wV_Unit_busy (ci := 6) k_13_2 (by decide) rfl rfl d_WM_lane_15 rfl rfl (by first | exact Nat.le_of_ble_eq_true rfl | simp [cat_rf, Value.category]) (fun r1 h1 hp hro => ?_)
    obtain ⟨rfl, rfl⟩ := hp
    dsimp only [Option.toList_some, Option.toList_none, List.cons_append, List.nil_append]
    refine g_goto 22 d_WM_lane_18 (by decide) ?_
    refine Go.locals [3, 4] rfl ?_
    have key := et_WM_lane_22 (G := G) (h0 := h)  hf
    exact key
def bt_WM_shared_23 (F : Nat) (x2 : Int32) (s0 : Option Nat) (h : Hp) : Option (Nat × Hp) := nu s0 (some (45, h)) fun a_25 => (gd (hK h a_25 = 8) <| pw (hR h 450 a_25) fun o_29_2 => nu o_29_2 (some (45, h)) fun a_32 => (if x2 < 0 then (some (45, h)) else (if x2 < (64 : Int32) then (rq h (hR h 449 a_25) 100 fun a_56 => ix x2 (hN h a_56) fun j_60 => none) else (some (45, h)))))
set_option maxRecDepth 100000 in
set_option maxHeartbeats 4000000 in
theorem et_WM_shared_23 {G : Gl} {h0 : Hp} {F : Nat} {r : Nat} {h' : Hp} {x2 : Int32} {s0 : Option Nat} {h : Hp} (hf : bt_WM_shared_23 F x2 s0 h = some (r, h')) : Go G mi_WM_shared h0 (pT r h') h 23 [(2, .int x2)] [va_rf s0] := by
  unfold bt_WM_shared_23 at hf
  refine g_astore_nq (r := s0) d_WM_shared_23 (by decide) ?_
  show Go _ _ _ _ _ _ [(2, _), (3, _)] _
  refine g_aload_nq (r := s0) d_WM_shared_24 rfl ?_
  refine g_ifnull (r := s0) 45 d_WM_shared_25 (by decide) (fun c_25 => ?_) (fun a_25 c_25 => ?_)
  · subst c_25
    have hf := nu_n hf
    exact Go.stop (UInt32.ofNat 45) (by decide) (pT_of hf)
  · subst c_25
    have hf := nu_s hf
    refine g_aload_n d_WM_shared_28 rfl ?_
    obtain ⟨k_29, hf⟩ := gd_s hf
    obtain ⟨o_29_2, e_29_2, hf⟩ := pw_s hf
    refine fg_Block_unit lf_WM_173 d_WM_shared_29 k_29 ?_
    refine Go.vr e_29_2 ?_
    refine g_ifnull (r := o_29_2) 45 d_WM_shared_32 (by decide) (fun c_32 => ?_) (fun a_32 c_32 => ?_)
    · subst c_32
      have hf := nu_n hf
      exact Go.stop (UInt32.ofNat 45) (by decide) (pT_of hf)
    · subst c_32
      have hf := nu_s hf
      refine g_iload_n d_WM_shared_35 rfl ?_
      refine g_if_lt 45 d_WM_shared_36 (by decide) (fun c_36 => ?_) (fun c_36 => ?_)
      · have hf := ifp hf c_36
        exact Go.stop (UInt32.ofNat 45) (by decide) (pT_of hf)
      · have hf := ifn hf c_36
        refine g_iload_n d_WM_shared_39 rfl ?_
        refine g_bipush (64) d_WM_shared_40 (by decide) ?_
        refine g_icmp_lt 55 d_WM_shared_42 (by decide) (fun c_42 => ?_) (fun c_42 => ?_)
        · have hf := ifp hf c_42
          refine g_aload_n d_WM_shared_55 rfl ?_
          obtain ⟨a_56, e_56, k_56, hf⟩ := rq_s hf
          refine fgs_Block_ints lf_WM_179 d_WM_shared_56 k_29 e_56 ?_
          refine g_iload_n d_WM_shared_59 rfl ?_
          obtain ⟨i_60, hf⟩ := ix_s hf
          refine g_iald k_56 i_60 d_WM_shared_60 ?_
          exact nm_s hf
        · have hf := ifn hf c_42
          exact Go.stop (UInt32.ofNat 45) (by decide) (pT_of hf)
def bt_WM_shared_22 (F : Nat) (x2 : Int32) (h : Hp) : Option (Nat × Hp) := bt_WM_shared_23 F x2 none h
set_option maxRecDepth 100000 in
set_option maxHeartbeats 4000000 in
theorem et_WM_shared_22 {G : Gl} {h0 : Hp} {F : Nat} {r : Nat} {h' : Hp} {x2 : Int32} {h : Hp} (hf : bt_WM_shared_22 F x2 h = some (r, h')) : Go G mi_WM_shared h0 (pT r h') h 22 [(2, .int x2)] [] := by
  unfold bt_WM_shared_22 at hf
  refine g_null d_WM_shared_22 ?_
  have key := et_WM_shared_23 (G := G) (h0 := h0)  hf
  exact key
def t_WM_shared (F : Nat) (x0 : Nat) (x1 : Int32) (x2 : Int32) (h : Hp) : Option (Nat × Hp) := if x1 < 0 then (bt_WM_shared_22 F x2 h) else (gd (hK h x0 = 1) <| rq h (hR h 5 x0) 122 fun a_6_2 => if (nI (hN h a_6_2)) ≤ x1 then (bt_WM_shared_22 F x2 h) else (ix x1 (hN h a_6_2) fun j_18 => pw (hQ h a_6_2 j_18) fun o_18_2 => bt_WM_shared_23 F x2 o_18_2 h))
set_option maxRecDepth 100000 in
set_option maxHeartbeats 4000000 in
theorem et_WM_shared {G : Gl} {F : Nat} {r : Nat} {h' : Hp} {x0 : Nat} {x1 : Int32} {x2 : Int32} {h : Hp} (hf : t_WM_shared F x0 x1 x2 h = some (r, h')) : Go G mi_WM_shared h (pT r h') h 0 [(0, .ref x0), (1, .int x1), (2, .int x2)] [] := by
  unfold t_WM_shared at hf
  refine g_iload_n d_WM_shared_0 rfl ?_
  refine g_if_lt 22 d_WM_shared_1 (by decide) (fun c_1 => ?_) (fun c_1 => ?_)
  · have hf := ifp hf c_1
    refine Go.locals [2] rfl ?_
    have key := et_WM_shared_22 (G := G) (h0 := h)  hf
    exact key
  · have hf := ifn hf c_1
    refine g_iload_n d_WM_shared_4 rfl ?_
    refine g_aload_n d_WM_shared_5 rfl ?_
    obtain ⟨k_6, hf⟩ := gd_s hf
    obtain ⟨a_6_2, e_6_2, k_6_2, hf⟩ := rq_s hf
    refine fgs_WM_blocks lf_WM_44 d_WM_shared_6 k_6 e_6_2 ?_
    refine g_alen k_6_2 (by decide) rfl d_WM_shared_9 ?_
    refine g_icmp_ge 22 d_WM_shared_10 (by decide) (fun c_10 => ?_) (fun c_10 => ?_)
    · have hf := ifp hf c_10
      refine Go.locals [2] rfl ?_
      have key := et_WM_shared_22 (G := G) (h0 := h)  hf
      exact key
    · have hf := ifn hf c_10
      refine g_aload_n d_WM_shared_13 rfl ?_
      refine fgs_WM_blocks lf_WM_44 d_WM_shared_14 k_6 e_6_2 ?_
      refine g_iload_n d_WM_shared_17 rfl ?_
      obtain ⟨i_18, hf⟩ := ix_s hf
      refine g_aald k_6_2 (by decide) rfl rfl i_18 d_WM_shared_18 ?_
      obtain ⟨o_18_2, e_18_2, hf⟩ := pw_s hf
      refine Go.vr e_18_2 ?_
      refine g_goto 23 d_WM_shared_19 (by decide) ?_
      refine Go.locals [2] rfl ?_
      have key := et_WM_shared_23 (G := G) (h0 := h)  hf
      exact key
