/-! the law's wrappers: a call that may throw -/
def tr {β : Type} (x : Option (Nat × Hp)) (A : Nat → Hp → Option β) (B : Option β) : Option β := match x with
  | some p => A p.1 p.2
  | none => B
theorem tr_s {β : Type} {x : Option (Nat × Hp)} {A : Nat → Hp → Option β} {B : Option β} {z : β} (h : tr x A B = some z) : (∃ k h1, x = some (k, h1) ∧ A k h1 = some z) ∨ (x = none ∧ B = some z) := by
  cases x with
  | none => exact Or.inr ⟨rfl, h⟩
  | some p => exact Or.inl ⟨p.1, p.2, rfl, h⟩
theorem oa_100 : ∀ w ∈ Bundle.ownAtoms "WarpMill" 100 "java/lang/IllegalArgumentException" upX, w ∈ lw_tb ∨ w ∈ xW := by decide +kernel
theorem oa_110 : ∀ w ∈ Bundle.ownAtoms "WarpMill" 110 "java/lang/IllegalStateException" upX, w ∈ lw_tb ∨ w ∈ xW := by decide +kernel
theorem oa_133 : (∀ w ∈ Bundle.ownAtoms "WarpMill" 133 "java/util/NoSuchElementException" upX, w ∈ lw_tb ∨ w ∈ xW) ∨ ∃ ix bytes, decode bytes 0 = .ok (.aload_n 0, 1) ∧ decode bytes 1 = .ok (.aload_n 1, 1) ∧ decode bytes 2 = .ok (.invokespecial ix, 3) ∧ decode bytes 5 = .ok (.return_, 1) ∧ ∀ w ∈ nAtoms "WarpMill" 133 "java/util/NoSuchElementException" ix bytes, w ∈ lw_tb ∨ w ∈ xW := Or.inr ⟨13, prog_23_method_4_code, by decide +kernel, by decide +kernel, by decide +kernel, by decide +kernel, by decide +kernel⟩
theorem pu_Memory_has {F : Nat} {x0 : Nat} {x1 : Int32} {h h1 : Hp} {r : Int32} (hf : f_Memory_has F x0 x1 h = some (r, h1)) : h1 = h := by
  simp only [f_Memory_has, pw, gd, rq, nu, ix, cl] at hf
  grind
theorem pu_WM_isUnit {F : Nat} {x0 : Nat} {x1 : Int32} {h h1 : Hp} {r : Int32} (hf : f_WM_isUnit F x0 x1 h = some (r, h1)) : h1 = h := by
  simp only [f_WM_isUnit, pw, gd, rq, nu, ix, cl] at hf
  grind
theorem pu_Unit_busy {F : Nat} {x0 : Nat} {x1 : Int32} {h h1 : Hp} {r : Option Nat} (hf : f_Unit_busy F x0 x1 h = some (r, h1)) : h1 = h := by
  simp only [f_Unit_busy, pw, gd, rq, nu, ix, cl] at hf
  grind
theorem pu_WM_in {F : Nat} {x0 : Int32} {x1 : Int32} {h h1 : Hp} {r : Int32} (hf : f_WM_in F x0 x1 h = some (r, h1)) : h1 = h := by
  simp only [f_WM_in, pw, gd, rq, nu, ix, cl] at hf
  grind
theorem pu_Warp_hasThread {F : Nat} {x0 : Nat} {x1 : Int32} {h h1 : Hp} {r : Int32} (hf : f_Warp_hasThread F x0 x1 h = some (r, h1)) : h1 = h := by
  simp only [f_Warp_hasThread, pw, gd, cl] at hf
  cases hq : f_WM_in F (hI h 515 x0) x1 h with
  | none => simp only [hq] at hf; grind
  | some p =>
    have e := pu_WM_in (r := p.1) (h1 := p.2) hq
    simp only [hq, e] at hf
    grind
theorem th_WM_global {F : Nat} {x0 : Nat} {x1 : Int32} {h h1 : Hp} {k : Nat} (hf : t_WM_global F x0 x1 h = some (k, h1)) : h1 = h ∧ k = 11 := by
  unfold t_WM_global at hf
  obtain ⟨-, hf⟩ := gd_s hf
  obtain ⟨a, -, -, hf⟩ := rq_s hf
  obtain ⟨v, h2, e, hf⟩ := cl_s hf
  have e2 := (pu_Memory_has e).symm
  subst e2
  by_cases c : v = 0
  · have hf2 := ifp hf c
    cases hf2
    exact ⟨rfl, rfl⟩
  · have hf2 := ifn hf c
    obtain ⟨-, hf3⟩ := gd_s hf2
    obtain ⟨_, -, -, hf4⟩ := rq_s hf3
    obtain ⟨_, -, -, hf5⟩ := rq_s hf4
    obtain ⟨-, hf6⟩ := ix_s hf5
    cases hf6
theorem th_WM_run {F : Nat} {x0 : Nat} {x1 : Int32} {h h1 : Hp} {k : Nat} (hf : t_WM_run F x0 x1 h = some (k, h1)) : h1 = h ∧ (k = 12 ∨ k = 35) := by
  simp only [t_WM_run, gd, rq] at hf
  grind
theorem thb_WM_lane {F : Nat} {x3 x4 : Int32} {s0 : Option Nat} {h h1 : Hp} {k : Nat} (hf : bt_WM_lane_22 F x3 x4 s0 h = some (k, h1)) : h1 = h ∧ k = 50 := by
  unfold bt_WM_lane_22 at hf
  cases s0 with
  | none =>
    have hf := nu_n hf
    cases hf
    exact ⟨rfl, rfl⟩
  | some a =>
    have hf := nu_s hf
    obtain ⟨-, hf⟩ := gd_s hf
    obtain ⟨v, h2, e, hf⟩ := cl_s hf
    have e2 := (pu_Warp_hasThread e).symm
    subst e2
    clear e
    simp only [gd, cl] at hf
    grind
theorem th_WM_lane {F : Nat} {x0 : Nat} {x1 x2 x3 x4 : Int32} {h h1 : Hp} {k : Nat} (hf : t_WM_lane F x0 x1 x2 x3 x4 h = some (k, h1)) : h1 = h ∧ k = 50 := by
  unfold t_WM_lane at hf
  obtain ⟨-, hf⟩ := gd_s hf
  obtain ⟨v, h2, e, hf⟩ := cl_s hf
  have e2 := (pu_WM_isUnit e).symm
  subst e2
  by_cases c : v = 0
  · exact thb_WM_lane (ifp hf c)
  · have hf := ifn hf c
    obtain ⟨-, hf⟩ := gd_s hf
    obtain ⟨a, -, -, hf⟩ := rq_s hf
    obtain ⟨-, hf⟩ := ix_s hf
    obtain ⟨b, -, -, hf⟩ := rq_s hf
    obtain ⟨v2, h3, e3, hf⟩ := cl_s hf
    have e4 := (pu_Unit_busy e3).symm
    subst e4
    exact thb_WM_lane hf
theorem th_WM_shared {F : Nat} {x0 : Nat} {x1 x2 : Int32} {h h1 : Hp} {k : Nat} (hf : t_WM_shared F x0 x1 x2 h = some (k, h1)) : h1 = h ∧ k = 45 := by
  have key : ∀ s0, bt_WM_shared_23 F x2 s0 h = some (k, h1) → h1 = h ∧ k = 45 := by
    intro s0 hf
    unfold bt_WM_shared_23 at hf
    cases s0 with
    | none =>
      have hf := nu_n hf
      cases hf
      exact ⟨rfl, rfl⟩
    | some a =>
      have hf := nu_s hf
      obtain ⟨-, hf⟩ := gd_s hf
      obtain ⟨o, -, hf⟩ := pw_s hf
      cases o with
      | none =>
        have hf := nu_n hf
        cases hf
        exact ⟨rfl, rfl⟩
      | some a2 =>
        have hf := nu_s hf
        by_cases c1 : x2 < 0
        · have hf := ifp hf c1
          cases hf
          exact ⟨rfl, rfl⟩
        · have hf := ifn hf c1
          by_cases c2 : x2 < 64
          · have hf := ifp hf c2
            obtain ⟨_, -, -, hf⟩ := rq_s hf
            obtain ⟨-, hf⟩ := ix_s hf
            cases hf
          · have hf := ifn hf c2
            cases hf
            exact ⟨rfl, rfl⟩
  unfold t_WM_shared at hf
  by_cases c1 : x1 < 0
  · exact key none (ifp hf c1)
  · have hf := ifn hf c1
    obtain ⟨-, hf⟩ := gd_s hf
    obtain ⟨a, -, -, hf⟩ := rq_s hf
    by_cases c2 : nI (hN h a) ≤ x1
    · exact key none (ifp hf c2)
    · have hf := ifn hf c2
      obtain ⟨-, hf⟩ := ix_s hf
      obtain ⟨o, -, hf⟩ := pw_s hf
      exact key o hf
abbrev mi_Law_run : MI := (⟨"WarpMillLaw", "run", "(LWarpMill;I[J)I"⟩, method_3_code, 4, some .int, 8, 198)
def it_Law_run_0 : List (Nat × ClassFile.Instr × Nat) := [(0, .aload_n 2, 1), (1, .iconst 0, 1), (2, .aload_n 0, 1), (3, .iload_n 1, 1), (4, .invokevirtual 7, 3), (7, .i2l, 1), (8, .lastore, 1), (9, .goto (9), 3), (12, .astore_n 3, 1), (13, .iconst 1, 1), (14, .ireturn, 1), (15, .astore_n 3, 1), (16, .iconst 2, 1), (17, .ireturn, 1), (18, .iconst 0, 1), (19, .ireturn, 1)]
theorem id_Law_run_0 : ∀ q ∈ it_Law_run_0, decode method_3_code q.1 = .ok q.2 := by decide +kernel
theorem d_Law_run_0 : decode method_3_code 0 = .ok (.aload_n 2, 1) := id_Law_run_0 (0, .aload_n 2, 1) (List.mem_of_getElem? (i := 0) rfl)
theorem d_Law_run_1 : decode method_3_code 1 = .ok (.iconst 0, 1) := id_Law_run_0 (1, .iconst 0, 1) (List.mem_of_getElem? (i := 1) rfl)
theorem d_Law_run_2 : decode method_3_code 2 = .ok (.aload_n 0, 1) := id_Law_run_0 (2, .aload_n 0, 1) (List.mem_of_getElem? (i := 2) rfl)
theorem d_Law_run_3 : decode method_3_code 3 = .ok (.iload_n 1, 1) := id_Law_run_0 (3, .iload_n 1, 1) (List.mem_of_getElem? (i := 3) rfl)
theorem d_Law_run_4 : decode method_3_code 4 = .ok (.invokevirtual 7, 3) := id_Law_run_0 (4, .invokevirtual 7, 3) (List.mem_of_getElem? (i := 4) rfl)
theorem d_Law_run_7 : decode method_3_code 7 = .ok (.i2l, 1) := id_Law_run_0 (7, .i2l, 1) (List.mem_of_getElem? (i := 5) rfl)
theorem d_Law_run_8 : decode method_3_code 8 = .ok (.lastore, 1) := id_Law_run_0 (8, .lastore, 1) (List.mem_of_getElem? (i := 6) rfl)
theorem d_Law_run_9 : decode method_3_code 9 = .ok (.goto (9), 3) := id_Law_run_0 (9, .goto (9), 3) (List.mem_of_getElem? (i := 7) rfl)
theorem d_Law_run_12 : decode method_3_code 12 = .ok (.astore_n 3, 1) := id_Law_run_0 (12, .astore_n 3, 1) (List.mem_of_getElem? (i := 8) rfl)
theorem d_Law_run_13 : decode method_3_code 13 = .ok (.iconst 1, 1) := id_Law_run_0 (13, .iconst 1, 1) (List.mem_of_getElem? (i := 9) rfl)
theorem d_Law_run_14 : decode method_3_code 14 = .ok (.ireturn, 1) := id_Law_run_0 (14, .ireturn, 1) (List.mem_of_getElem? (i := 10) rfl)
theorem d_Law_run_15 : decode method_3_code 15 = .ok (.astore_n 3, 1) := id_Law_run_0 (15, .astore_n 3, 1) (List.mem_of_getElem? (i := 11) rfl)
theorem d_Law_run_16 : decode method_3_code 16 = .ok (.iconst 2, 1) := id_Law_run_0 (16, .iconst 2, 1) (List.mem_of_getElem? (i := 12) rfl)
theorem d_Law_run_17 : decode method_3_code 17 = .ok (.ireturn, 1) := id_Law_run_0 (17, .ireturn, 1) (List.mem_of_getElem? (i := 13) rfl)
theorem d_Law_run_18 : decode method_3_code 18 = .ok (.iconst 0, 1) := id_Law_run_0 (18, .iconst 0, 1) (List.mem_of_getElem? (i := 14) rfl)
theorem d_Law_run_19 : decode method_3_code 19 = .ok (.ireturn, 1) := id_Law_run_0 (19, .ireturn, 1) (List.mem_of_getElem? (i := 15) rfl)
def hs_Law_run : List (Nat × Nat × Nat × Nat) := [(0, 9, 12, 13), (0, 9, 15, 15)]
theorem wCW_Law_run : Cond.codeWith ⟨"WarpMillLaw", "run", "(LWarpMill;I[J)I"⟩ method_3_code 4 (some .int) hs_Law_run ∈ lw_tb := mem_tb 539 (by decide +kernel) rfl
theorem cw_Law_run_WM_run : cW mi_Law_run mi_WM_run 1 := ⟨wC_WM_run, wi_WM, ⟨by decide, by decide, by decide +kernel⟩, by decide, by decide⟩
def f_Law_run (F : Nat) (x0 : Option Nat) (x1 : Int32) (x2 : Option Nat) (h : Hp) : Option (Int32 × Hp) := rq h x2 110 fun a_o => rq h x0 1 fun a_x => tr (t_WM_run F a_x x1 h) (fun k h1 => if k = 12 then some (1, nw h1 0 0 6) else some (2, nw h1 0 0 6)) (cl (f_WM_run F a_x x1 h) fun v h1 => gd (hK h1 a_o = 110) <| ix 0 (hN h1 a_o) fun j => some (0, sL h1 a_o j (Int32.toInt64 v)))
set_option maxRecDepth 100000 in
set_option maxHeartbeats 4000000 in
theorem e_Law_run {G : Gl} (hw : gF G) {F : Nat} {r : Int32} {h' : Hp} {x0 : Option Nat} {x1 : Int32} {x2 : Option Nat} {h : Hp} (hf : f_Law_run F x0 x1 x2 h = some (r, h')) : ExW G mi_Law_run hs_Law_run [va_rf x0, .int x1, va_rf x2] h (pI r h') := by
  unfold f_Law_run at hf
  obtain ⟨a_o, rfl, ko, hf⟩ := rq_s hf
  obtain ⟨a_x, rfl, kx, hf⟩ := rq_s hf
  refine ExW.of nmI (by decide) rfl (Nat.le_of_ble_eq_true rfl) ?_
  show Go G mi_Law_run h _ h 0 [(0, .ref a_x), (1, .int x1), (2, .ref a_o)] []
  refine g_aload_n d_Law_run_0 rfl ?_
  refine g_iconst 0 d_Law_run_1 (by decide) ?_
  refine g_aload_n d_Law_run_2 rfl ?_
  refine g_iload_n d_Law_run_3 rfl ?_
  rcases tr_s hf with ⟨k, h1, et, hf⟩ | ⟨en, hf⟩
  · obtain ⟨e1, e2⟩ := th_WM_run et
    have e3 := e1.symm
    subst e3
    rcases e2 with e2 | e2
    · subst e2
      have hf := ifp hf rfl
      refine g_throw (mz := mi_WM_run) (n := 1) (b := a_x) (As := [.int x1]) (rest := [.int 0, .ref a_o]) (X := "java/lang/IllegalArgumentException") (hs := hs_Law_run) (hpc := 12) (Tv.of (as := [.ref a_x, .int x1]) (ic0 := 96) (k := 98) (ic := 100) (pc := 12) (tx := "no such number of cycles") (by decide) (Nat.le_of_ble_eq_true rfl) (by decide) lc_WM_96 wn_IAE wi_IAE (by decide) (Or.inl oa_100) (by decide +kernel) d_WM_run_12 d_WM_run_15 d_WM_run_16 d_WM_run_18 d_WM_run_21 (by decide) (by decide) (et_WM_run (G := G0 G) et)) cw_Law_run_WM_run lm_Law_7 wI_WM_run wV_WM_run (ci := 0) kx (by decide) rfl rfl wCW_Law_run (Or.inl ⟨0, 9, 13, [(0, 9, 15, 15)], rfl, by decide, by decide, by decide, lc_Law_13⟩) (by decide) d_Law_run_4 rfl rfl (Nat.le_of_ble_eq_true rfl) ?_
      refine g_astore_n d_Law_run_12 (by decide) ?_
      show Go _ _ _ _ _ _ [(0, _), (1, _), (2, _), (3, _)] _
      refine g_iconst 1 d_Law_run_13 (by decide) ?_
      exact Go.ret (some _) (rOk_i _) rfl d_Law_run_14 (pI_of hf)
    · subst e2
      have hf := ifn hf (by decide)
      refine g_throw (mz := mi_WM_run) (n := 1) (b := a_x) (As := [.int x1]) (rest := [.int 0, .ref a_o]) (X := "java/lang/IllegalStateException") (hs := hs_Law_run) (hpc := 15) (Tv.of (as := [.ref a_x, .int x1]) (ic0 := 106) (k := 108) (ic := 110) (pc := 35) (tx := "all cycles have been") (by decide) (Nat.le_of_ble_eq_true rfl) (by decide) lc_WM_106 wn_ISE wi_ISE (by decide) (Or.inl oa_110) (by decide +kernel) d_WM_run_35 d_WM_run_38 d_WM_run_39 d_WM_run_41 d_WM_run_44 (by decide) (by decide) (et_WM_run (G := G0 G) et)) cw_Law_run_WM_run lm_Law_7 wI_WM_run wV_WM_run (ci := 0) kx (by decide) rfl rfl wCW_Law_run (Or.inr ⟨rfl, 0, 9, 12, 13, 0, 9, 15, rfl, by decide, by decide, by decide, lc_Law_13, by decide, by decide, by decide, lc_Law_15⟩) (by decide) d_Law_run_4 rfl rfl (Nat.le_of_ble_eq_true rfl) ?_
      refine g_astore_n d_Law_run_15 (by decide) ?_
      show Go _ _ _ _ _ _ [(0, _), (1, _), (2, _), (3, _)] _
      refine g_iconst 2 d_Law_run_16 (by decide) ?_
      exact Go.ret (some _) (rOk_i _) rfl d_Law_run_17 (pI_of hf)
  · obtain ⟨v, h1, e, hf⟩ := cl_s hf
    obtain ⟨ko1, hf⟩ := gd_s hf
    obtain ⟨i1, hf⟩ := ix_s hf
    refine g_callV (mz := mi_WM_run) (e_WM_run hw e) cw_Law_run_WM_run lm_Law_7 wI_WM_run wV_WM_run (ci := 0) kx (by decide) rfl rfl d_Law_run_4 rfl rfl (Nat.le_of_ble_eq_true rfl) (fun r1 h2 hp hro => ?_)
    obtain ⟨rfl, rfl⟩ := hp
    dsimp only [Option.toList_some, Option.toList_none, List.cons_append, List.nil_append]
    refine g_i2l d_Law_run_7 ?_
    refine g_last hw ko1 i1 d_Law_run_8 ?_
    refine g_goto 18 d_Law_run_9 (by decide) ?_
    refine g_iconst 0 d_Law_run_18 (by decide) ?_
    exact Go.ret (some _) (rOk_i _) rfl d_Law_run_19 (pI_of hf)
abbrev mi_Law_global : MI := (⟨"WarpMillLaw", "global", "(LWarpMill;I[J)I"⟩, method_4_code, 4, some .int, 7, 149)
def it_Law_global_0 : List (Nat × ClassFile.Instr × Nat) := [(0, .aload_n 2, 1), (1, .iconst 0, 1), (2, .aload_n 0, 1), (3, .iload_n 1, 1), (4, .invokevirtual 17, 3), (7, .i2l, 1), (8, .lastore, 1), (9, .goto (6), 3), (12, .astore_n 3, 1), (13, .iconst 1, 1), (14, .ireturn, 1), (15, .iconst 0, 1), (16, .ireturn, 1)]
theorem id_Law_global_0 : ∀ q ∈ it_Law_global_0, decode method_4_code q.1 = .ok q.2 := by decide +kernel
theorem d_Law_global_0 : decode method_4_code 0 = .ok (.aload_n 2, 1) := id_Law_global_0 (0, .aload_n 2, 1) (List.mem_of_getElem? (i := 0) rfl)
theorem d_Law_global_1 : decode method_4_code 1 = .ok (.iconst 0, 1) := id_Law_global_0 (1, .iconst 0, 1) (List.mem_of_getElem? (i := 1) rfl)
theorem d_Law_global_2 : decode method_4_code 2 = .ok (.aload_n 0, 1) := id_Law_global_0 (2, .aload_n 0, 1) (List.mem_of_getElem? (i := 2) rfl)
theorem d_Law_global_3 : decode method_4_code 3 = .ok (.iload_n 1, 1) := id_Law_global_0 (3, .iload_n 1, 1) (List.mem_of_getElem? (i := 3) rfl)
theorem d_Law_global_4 : decode method_4_code 4 = .ok (.invokevirtual 17, 3) := id_Law_global_0 (4, .invokevirtual 17, 3) (List.mem_of_getElem? (i := 4) rfl)
theorem d_Law_global_7 : decode method_4_code 7 = .ok (.i2l, 1) := id_Law_global_0 (7, .i2l, 1) (List.mem_of_getElem? (i := 5) rfl)
theorem d_Law_global_8 : decode method_4_code 8 = .ok (.lastore, 1) := id_Law_global_0 (8, .lastore, 1) (List.mem_of_getElem? (i := 6) rfl)
theorem d_Law_global_9 : decode method_4_code 9 = .ok (.goto (6), 3) := id_Law_global_0 (9, .goto (6), 3) (List.mem_of_getElem? (i := 7) rfl)
theorem d_Law_global_12 : decode method_4_code 12 = .ok (.astore_n 3, 1) := id_Law_global_0 (12, .astore_n 3, 1) (List.mem_of_getElem? (i := 8) rfl)
theorem d_Law_global_13 : decode method_4_code 13 = .ok (.iconst 1, 1) := id_Law_global_0 (13, .iconst 1, 1) (List.mem_of_getElem? (i := 9) rfl)
theorem d_Law_global_14 : decode method_4_code 14 = .ok (.ireturn, 1) := id_Law_global_0 (14, .ireturn, 1) (List.mem_of_getElem? (i := 10) rfl)
theorem d_Law_global_15 : decode method_4_code 15 = .ok (.iconst 0, 1) := id_Law_global_0 (15, .iconst 0, 1) (List.mem_of_getElem? (i := 11) rfl)
theorem d_Law_global_16 : decode method_4_code 16 = .ok (.ireturn, 1) := id_Law_global_0 (16, .ireturn, 1) (List.mem_of_getElem? (i := 12) rfl)
def hs_Law_global : List (Nat × Nat × Nat × Nat) := [(0, 9, 12, 20)]
theorem wCW_Law_global : Cond.codeWith ⟨"WarpMillLaw", "global", "(LWarpMill;I[J)I"⟩ method_4_code 4 (some .int) hs_Law_global ∈ lw_tb := mem_tb 996 (by decide +kernel) rfl
theorem cw_Law_global_WM_global : cW mi_Law_global mi_WM_global 1 := ⟨wC_WM_global, wi_WM, ⟨by decide, by decide, by decide +kernel⟩, by decide, by decide⟩
def f_Law_global (F : Nat) (x0 : Option Nat) (x1 : Int32) (x2 : Option Nat) (h : Hp) : Option (Int32 × Hp) := rq h x2 110 fun a_o => rq h x0 1 fun a_x => tr (t_WM_global F a_x x1 h) (fun k h1 => some (1, nw h1 0 0 6)) (cl (f_WM_global F a_x x1 h) fun v h1 => gd (hK h1 a_o = 110) <| ix 0 (hN h1 a_o) fun j => some (0, sL h1 a_o j (Int32.toInt64 v)))
set_option maxRecDepth 100000 in
set_option maxHeartbeats 4000000 in
theorem e_Law_global {G : Gl} (hw : gF G) {F : Nat} {r : Int32} {h' : Hp} {x0 : Option Nat} {x1 : Int32} {x2 : Option Nat} {h : Hp} (hf : f_Law_global F x0 x1 x2 h = some (r, h')) : ExW G mi_Law_global hs_Law_global [va_rf x0, .int x1, va_rf x2] h (pI r h') := by
  unfold f_Law_global at hf
  obtain ⟨a_o, rfl, ko, hf⟩ := rq_s hf
  obtain ⟨a_x, rfl, kx, hf⟩ := rq_s hf
  refine ExW.of nmI (by decide) rfl (Nat.le_of_ble_eq_true rfl) ?_
  show Go G mi_Law_global h _ h 0 [(0, .ref a_x), (1, .int x1), (2, .ref a_o)] []
  refine g_aload_n d_Law_global_0 rfl ?_
  refine g_iconst 0 d_Law_global_1 (by decide) ?_
  refine g_aload_n d_Law_global_2 rfl ?_
  refine g_iload_n d_Law_global_3 rfl ?_
  rcases tr_s hf with ⟨k, h1, et, hf⟩ | ⟨en, hf⟩
  · obtain ⟨e1, e2⟩ := th_WM_global et
    have e3 := e1.symm
    subst e3
    subst e2
    refine g_throw (mz := mi_WM_global) (n := 1) (b := a_x) (As := [.int x1]) (rest := [.int 0, .ref a_o]) (X := "java/util/NoSuchElementException") (hs := hs_Law_global) (hpc := 12) (Tv.of (as := [.ref a_x, .int x1]) (ic0 := 129) (k := 131) (ic := 133) (pc := 11) (tx := "no such int") (by decide) (Nat.le_of_ble_eq_true rfl) (by decide) lc_WM_129 wn_NSE wi_NSE (by decide) oa_133 (by decide +kernel) d_WM_global_11 d_WM_global_14 d_WM_global_15 d_WM_global_17 d_WM_global_20 (by decide) (by decide) (et_WM_global (G := G0 G) et)) cw_Law_global_WM_global lm_Law_17 wI_WM_global wV_WM_global (ci := 0) kx (by decide) rfl rfl wCW_Law_global (Or.inl ⟨0, 9, 20, [], rfl, by decide, by decide, by decide, lc_Law_20⟩) (by decide) d_Law_global_4 rfl rfl (Nat.le_of_ble_eq_true rfl) ?_
    refine g_astore_n d_Law_global_12 (by decide) ?_
    show Go _ _ _ _ _ _ [(0, _), (1, _), (2, _), (3, _)] _
    refine g_iconst 1 d_Law_global_13 (by decide) ?_
    exact Go.ret (some _) (rOk_i _) rfl d_Law_global_14 (pI_of hf)
  · obtain ⟨v, h1, e, hf⟩ := cl_s hf
    obtain ⟨ko1, hf⟩ := gd_s hf
    obtain ⟨i1, hf⟩ := ix_s hf
    refine g_callV (mz := mi_WM_global) (e_WM_global e) cw_Law_global_WM_global lm_Law_17 wI_WM_global wV_WM_global (ci := 0) kx (by decide) rfl rfl d_Law_global_4 rfl rfl (Nat.le_of_ble_eq_true rfl) (fun r1 h2 hp hro => ?_)
    obtain ⟨rfl, rfl⟩ := hp
    dsimp only [Option.toList_some, Option.toList_none, List.cons_append, List.nil_append]
    refine g_i2l d_Law_global_7 ?_
    refine g_last hw ko1 i1 d_Law_global_8 ?_
    refine g_goto 15 d_Law_global_9 (by decide) ?_
    refine g_iconst 0 d_Law_global_15 (by decide) ?_
    exact Go.ret (some _) (rOk_i _) rfl d_Law_global_16 (pI_of hf)
abbrev mi_Law_lane : MI := (⟨"WarpMillLaw", "lane", "(LWarpMill;IIII[J)I"⟩, method_5_code, 7, some .int, 7, 153)
def it_Law_lane_0 : List (Nat × ClassFile.Instr × Nat) := [(0, .aload 5, 2), (2, .iconst 0, 1), (3, .aload_n 0, 1), (4, .iload_n 1, 1), (5, .iload_n 2, 1), (6, .iload_n 3, 1), (7, .iload 4, 2), (9, .invokevirtual 22, 3), (12, .i2l, 1), (13, .lastore, 1), (14, .goto (7), 3), (17, .astore 6, 2), (19, .iconst 1, 1), (20, .ireturn, 1), (21, .iconst 0, 1), (22, .ireturn, 1)]
theorem id_Law_lane_0 : ∀ q ∈ it_Law_lane_0, decode method_5_code q.1 = .ok q.2 := by decide +kernel
theorem d_Law_lane_0 : decode method_5_code 0 = .ok (.aload 5, 2) := id_Law_lane_0 (0, .aload 5, 2) (List.mem_of_getElem? (i := 0) rfl)
theorem d_Law_lane_2 : decode method_5_code 2 = .ok (.iconst 0, 1) := id_Law_lane_0 (2, .iconst 0, 1) (List.mem_of_getElem? (i := 1) rfl)
theorem d_Law_lane_3 : decode method_5_code 3 = .ok (.aload_n 0, 1) := id_Law_lane_0 (3, .aload_n 0, 1) (List.mem_of_getElem? (i := 2) rfl)
theorem d_Law_lane_4 : decode method_5_code 4 = .ok (.iload_n 1, 1) := id_Law_lane_0 (4, .iload_n 1, 1) (List.mem_of_getElem? (i := 3) rfl)
theorem d_Law_lane_5 : decode method_5_code 5 = .ok (.iload_n 2, 1) := id_Law_lane_0 (5, .iload_n 2, 1) (List.mem_of_getElem? (i := 4) rfl)
theorem d_Law_lane_6 : decode method_5_code 6 = .ok (.iload_n 3, 1) := id_Law_lane_0 (6, .iload_n 3, 1) (List.mem_of_getElem? (i := 5) rfl)
theorem d_Law_lane_7 : decode method_5_code 7 = .ok (.iload 4, 2) := id_Law_lane_0 (7, .iload 4, 2) (List.mem_of_getElem? (i := 6) rfl)
theorem d_Law_lane_9 : decode method_5_code 9 = .ok (.invokevirtual 22, 3) := id_Law_lane_0 (9, .invokevirtual 22, 3) (List.mem_of_getElem? (i := 7) rfl)
theorem d_Law_lane_12 : decode method_5_code 12 = .ok (.i2l, 1) := id_Law_lane_0 (12, .i2l, 1) (List.mem_of_getElem? (i := 8) rfl)
theorem d_Law_lane_13 : decode method_5_code 13 = .ok (.lastore, 1) := id_Law_lane_0 (13, .lastore, 1) (List.mem_of_getElem? (i := 9) rfl)
theorem d_Law_lane_14 : decode method_5_code 14 = .ok (.goto (7), 3) := id_Law_lane_0 (14, .goto (7), 3) (List.mem_of_getElem? (i := 10) rfl)
theorem d_Law_lane_17 : decode method_5_code 17 = .ok (.astore 6, 2) := id_Law_lane_0 (17, .astore 6, 2) (List.mem_of_getElem? (i := 11) rfl)
theorem d_Law_lane_19 : decode method_5_code 19 = .ok (.iconst 1, 1) := id_Law_lane_0 (19, .iconst 1, 1) (List.mem_of_getElem? (i := 12) rfl)
theorem d_Law_lane_20 : decode method_5_code 20 = .ok (.ireturn, 1) := id_Law_lane_0 (20, .ireturn, 1) (List.mem_of_getElem? (i := 13) rfl)
theorem d_Law_lane_21 : decode method_5_code 21 = .ok (.iconst 0, 1) := id_Law_lane_0 (21, .iconst 0, 1) (List.mem_of_getElem? (i := 14) rfl)
theorem d_Law_lane_22 : decode method_5_code 22 = .ok (.ireturn, 1) := id_Law_lane_0 (22, .ireturn, 1) (List.mem_of_getElem? (i := 15) rfl)
def hs_Law_lane : List (Nat × Nat × Nat × Nat) := [(0, 14, 17, 20)]
theorem wCW_Law_lane : Cond.codeWith ⟨"WarpMillLaw", "lane", "(LWarpMill;IIII[J)I"⟩ method_5_code 7 (some .int) hs_Law_lane ∈ lw_tb := mem_tb 1020 (by decide +kernel) rfl
theorem cw_Law_lane_WM_lane : cW mi_Law_lane mi_WM_lane 4 := ⟨wC_WM_lane, wi_WM, ⟨by decide, by decide, by decide +kernel⟩, by decide, by decide⟩
def f_Law_lane (F : Nat) (x0 : Option Nat) (x1 : Int32) (x2 : Int32) (x3 : Int32) (x4 : Int32) (x5 : Option Nat) (h : Hp) : Option (Int32 × Hp) := rq h x5 110 fun a_o => rq h x0 1 fun a_x => tr (t_WM_lane F a_x x1 x2 x3 x4 h) (fun k h1 => some (1, nw h1 0 0 6)) (cl (f_WM_lane F a_x x1 x2 x3 x4 h) fun v h1 => gd (hK h1 a_o = 110) <| ix 0 (hN h1 a_o) fun j => some (0, sL h1 a_o j (Int32.toInt64 v)))
set_option maxRecDepth 100000 in
set_option maxHeartbeats 4000000 in
theorem e_Law_lane {G : Gl} (hw : gF G) {F : Nat} {r : Int32} {h' : Hp} {x0 : Option Nat} {x1 : Int32} {x2 : Int32} {x3 : Int32} {x4 : Int32} {x5 : Option Nat} {h : Hp} (hf : f_Law_lane F x0 x1 x2 x3 x4 x5 h = some (r, h')) : ExW G mi_Law_lane hs_Law_lane [va_rf x0, .int x1, .int x2, .int x3, .int x4, va_rf x5] h (pI r h') := by
  unfold f_Law_lane at hf
  obtain ⟨a_o, rfl, ko, hf⟩ := rq_s hf
  obtain ⟨a_x, rfl, kx, hf⟩ := rq_s hf
  refine ExW.of nmI (by decide) rfl (Nat.le_of_ble_eq_true rfl) ?_
  show Go G mi_Law_lane h _ h 0 [(0, .ref a_x), (1, .int x1), (2, .int x2), (3, .int x3), (4, .int x4), (5, .ref a_o)] []
  refine g_aload d_Law_lane_0 rfl ?_
  refine g_iconst 0 d_Law_lane_2 (by decide) ?_
  refine g_aload_n d_Law_lane_3 rfl ?_
  refine g_iload_n d_Law_lane_4 rfl ?_
  refine g_iload_n d_Law_lane_5 rfl ?_
  refine g_iload_n d_Law_lane_6 rfl ?_
  refine g_iload d_Law_lane_7 rfl ?_
  rcases tr_s hf with ⟨k, h1, et, hf⟩ | ⟨en, hf⟩
  · obtain ⟨e1, e2⟩ := th_WM_lane et
    have e3 := e1.symm
    subst e3
    subst e2
    refine g_throw (mz := mi_WM_lane) (n := 4) (b := a_x) (As := [.int x1, .int x2, .int x3, .int x4]) (rest := [.int 0, .ref a_o]) (X := "java/util/NoSuchElementException") (hs := hs_Law_lane) (hpc := 17) (Tv.of (as := [.ref a_x, .int x1, .int x2, .int x3, .int x4]) (ic0 := 129) (k := 168) (ic := 133) (pc := 50) (tx := "no such lane or register") (by decide) (Nat.le_of_ble_eq_true rfl) (by decide) lc_WM_129 wn_NSE wi_NSE (by decide) oa_133 (by decide +kernel) d_WM_lane_50 d_WM_lane_53 d_WM_lane_54 d_WM_lane_56 d_WM_lane_59 (by decide) (by decide) (et_WM_lane (G := G0 G) et)) cw_Law_lane_WM_lane lm_Law_22 wI_WM_lane wV_WM_lane (ci := 0) kx (by decide) rfl rfl wCW_Law_lane (Or.inl ⟨0, 14, 20, [], rfl, by decide, by decide, by decide, lc_Law_20⟩) (by decide) d_Law_lane_9 rfl rfl (Nat.le_of_ble_eq_true rfl) ?_
    refine g_astore d_Law_lane_17 (by decide) ?_
    show Go _ _ _ _ _ _ [(0, _), (1, _), (2, _), (3, _), (4, _), (5, _), (6, _)] _
    refine g_iconst 1 d_Law_lane_19 (by decide) ?_
    exact Go.ret (some _) (rOk_i _) rfl d_Law_lane_20 (pI_of hf)
  · obtain ⟨v, h1, e, hf⟩ := cl_s hf
    obtain ⟨ko1, hf⟩ := gd_s hf
    obtain ⟨i1, hf⟩ := ix_s hf
    refine g_callV (mz := mi_WM_lane) (e_WM_lane e) cw_Law_lane_WM_lane lm_Law_22 wI_WM_lane wV_WM_lane (ci := 0) kx (by decide) rfl rfl d_Law_lane_9 rfl rfl (Nat.le_of_ble_eq_true rfl) (fun r1 h2 hp hro => ?_)
    obtain ⟨rfl, rfl⟩ := hp
    dsimp only [Option.toList_some, Option.toList_none, List.cons_append, List.nil_append]
    refine g_i2l d_Law_lane_12 ?_
    refine g_last hw ko1 i1 d_Law_lane_13 ?_
    refine g_goto 21 d_Law_lane_14 (by decide) ?_
    refine g_iconst 0 d_Law_lane_21 (by decide) ?_
    exact Go.ret (some _) (rOk_i _) rfl d_Law_lane_22 (pI_of hf)
abbrev mi_Law_shared : MI := (⟨"WarpMillLaw", "shared", "(LWarpMill;II[J)I"⟩, method_6_code, 5, some .int, 7, 151)
def it_Law_shared_0 : List (Nat × ClassFile.Instr × Nat) := [(0, .aload_n 3, 1), (1, .iconst 0, 1), (2, .aload_n 0, 1), (3, .iload_n 1, 1), (4, .iload_n 2, 1), (5, .invokevirtual 26, 3), (8, .i2l, 1), (9, .lastore, 1), (10, .goto (7), 3), (13, .astore 4, 2), (15, .iconst 1, 1), (16, .ireturn, 1), (17, .iconst 0, 1), (18, .ireturn, 1)]
theorem id_Law_shared_0 : ∀ q ∈ it_Law_shared_0, decode method_6_code q.1 = .ok q.2 := by decide +kernel
theorem d_Law_shared_0 : decode method_6_code 0 = .ok (.aload_n 3, 1) := id_Law_shared_0 (0, .aload_n 3, 1) (List.mem_of_getElem? (i := 0) rfl)
theorem d_Law_shared_1 : decode method_6_code 1 = .ok (.iconst 0, 1) := id_Law_shared_0 (1, .iconst 0, 1) (List.mem_of_getElem? (i := 1) rfl)
theorem d_Law_shared_2 : decode method_6_code 2 = .ok (.aload_n 0, 1) := id_Law_shared_0 (2, .aload_n 0, 1) (List.mem_of_getElem? (i := 2) rfl)
theorem d_Law_shared_3 : decode method_6_code 3 = .ok (.iload_n 1, 1) := id_Law_shared_0 (3, .iload_n 1, 1) (List.mem_of_getElem? (i := 3) rfl)
theorem d_Law_shared_4 : decode method_6_code 4 = .ok (.iload_n 2, 1) := id_Law_shared_0 (4, .iload_n 2, 1) (List.mem_of_getElem? (i := 4) rfl)
theorem d_Law_shared_5 : decode method_6_code 5 = .ok (.invokevirtual 26, 3) := id_Law_shared_0 (5, .invokevirtual 26, 3) (List.mem_of_getElem? (i := 5) rfl)
theorem d_Law_shared_8 : decode method_6_code 8 = .ok (.i2l, 1) := id_Law_shared_0 (8, .i2l, 1) (List.mem_of_getElem? (i := 6) rfl)
theorem d_Law_shared_9 : decode method_6_code 9 = .ok (.lastore, 1) := id_Law_shared_0 (9, .lastore, 1) (List.mem_of_getElem? (i := 7) rfl)
theorem d_Law_shared_10 : decode method_6_code 10 = .ok (.goto (7), 3) := id_Law_shared_0 (10, .goto (7), 3) (List.mem_of_getElem? (i := 8) rfl)
theorem d_Law_shared_13 : decode method_6_code 13 = .ok (.astore 4, 2) := id_Law_shared_0 (13, .astore 4, 2) (List.mem_of_getElem? (i := 9) rfl)
theorem d_Law_shared_15 : decode method_6_code 15 = .ok (.iconst 1, 1) := id_Law_shared_0 (15, .iconst 1, 1) (List.mem_of_getElem? (i := 10) rfl)
theorem d_Law_shared_16 : decode method_6_code 16 = .ok (.ireturn, 1) := id_Law_shared_0 (16, .ireturn, 1) (List.mem_of_getElem? (i := 11) rfl)
theorem d_Law_shared_17 : decode method_6_code 17 = .ok (.iconst 0, 1) := id_Law_shared_0 (17, .iconst 0, 1) (List.mem_of_getElem? (i := 12) rfl)
theorem d_Law_shared_18 : decode method_6_code 18 = .ok (.ireturn, 1) := id_Law_shared_0 (18, .ireturn, 1) (List.mem_of_getElem? (i := 13) rfl)
def hs_Law_shared : List (Nat × Nat × Nat × Nat) := [(0, 10, 13, 20)]
theorem wCW_Law_shared : Cond.codeWith ⟨"WarpMillLaw", "shared", "(LWarpMill;II[J)I"⟩ method_6_code 5 (some .int) hs_Law_shared ∈ lw_tb := mem_tb 1036 (by decide +kernel) rfl
theorem cw_Law_shared_WM_shared : cW mi_Law_shared mi_WM_shared 2 := ⟨wC_WM_shared, wi_WM, ⟨by decide, by decide, by decide +kernel⟩, by decide, by decide⟩
def f_Law_shared (F : Nat) (x0 : Option Nat) (x1 : Int32) (x2 : Int32) (x3 : Option Nat) (h : Hp) : Option (Int32 × Hp) := rq h x3 110 fun a_o => rq h x0 1 fun a_x => tr (t_WM_shared F a_x x1 x2 h) (fun k h1 => some (1, nw h1 0 0 6)) (cl (f_WM_shared F a_x x1 x2 h) fun v h1 => gd (hK h1 a_o = 110) <| ix 0 (hN h1 a_o) fun j => some (0, sL h1 a_o j (Int32.toInt64 v)))
set_option maxRecDepth 100000 in
set_option maxHeartbeats 4000000 in
theorem e_Law_shared {G : Gl} (hw : gF G) {F : Nat} {r : Int32} {h' : Hp} {x0 : Option Nat} {x1 : Int32} {x2 : Int32} {x3 : Option Nat} {h : Hp} (hf : f_Law_shared F x0 x1 x2 x3 h = some (r, h')) : ExW G mi_Law_shared hs_Law_shared [va_rf x0, .int x1, .int x2, va_rf x3] h (pI r h') := by
  unfold f_Law_shared at hf
  obtain ⟨a_o, rfl, ko, hf⟩ := rq_s hf
  obtain ⟨a_x, rfl, kx, hf⟩ := rq_s hf
  refine ExW.of nmI (by decide) rfl (Nat.le_of_ble_eq_true rfl) ?_
  show Go G mi_Law_shared h _ h 0 [(0, .ref a_x), (1, .int x1), (2, .int x2), (3, .ref a_o)] []
  refine g_aload_n d_Law_shared_0 rfl ?_
  refine g_iconst 0 d_Law_shared_1 (by decide) ?_
  refine g_aload_n d_Law_shared_2 rfl ?_
  refine g_iload_n d_Law_shared_3 rfl ?_
  refine g_iload_n d_Law_shared_4 rfl ?_
  rcases tr_s hf with ⟨k, h1, et, hf⟩ | ⟨en, hf⟩
  · obtain ⟨e1, e2⟩ := th_WM_shared et
    have e3 := e1.symm
    subst e3
    subst e2
    refine g_throw (mz := mi_WM_shared) (n := 2) (b := a_x) (As := [.int x1, .int x2]) (rest := [.int 0, .ref a_o]) (X := "java/util/NoSuchElementException") (hs := hs_Law_shared) (hpc := 13) (Tv.of (as := [.ref a_x, .int x1, .int x2]) (ic0 := 129) (k := 177) (ic := 133) (pc := 45) (tx := "no such block or int") (by decide) (Nat.le_of_ble_eq_true rfl) (by decide) lc_WM_129 wn_NSE wi_NSE (by decide) oa_133 (by decide +kernel) d_WM_shared_45 d_WM_shared_48 d_WM_shared_49 d_WM_shared_51 d_WM_shared_54 (by decide) (by decide) (et_WM_shared (G := G0 G) et)) cw_Law_shared_WM_shared lm_Law_26 wI_WM_shared wV_WM_shared (ci := 0) kx (by decide) rfl rfl wCW_Law_shared (Or.inl ⟨0, 10, 20, [], rfl, by decide, by decide, by decide, lc_Law_20⟩) (by decide) d_Law_shared_5 rfl rfl (Nat.le_of_ble_eq_true rfl) ?_
    refine g_astore d_Law_shared_13 (by decide) ?_
    show Go _ _ _ _ _ _ [(0, _), (1, _), (2, _), (3, _), (4, _)] _
    refine g_iconst 1 d_Law_shared_15 (by decide) ?_
    exact Go.ret (some _) (rOk_i _) rfl d_Law_shared_16 (pI_of hf)
  · obtain ⟨v, h1, e, hf⟩ := cl_s hf
    obtain ⟨ko1, hf⟩ := gd_s hf
    obtain ⟨i1, hf⟩ := ix_s hf
    refine g_callV (mz := mi_WM_shared) (e_WM_shared e) cw_Law_shared_WM_shared lm_Law_26 wI_WM_shared wV_WM_shared (ci := 0) kx (by decide) rfl rfl d_Law_shared_5 rfl rfl (Nat.le_of_ble_eq_true rfl) (fun r1 h2 hp hro => ?_)
    obtain ⟨rfl, rfl⟩ := hp
    dsimp only [Option.toList_some, Option.toList_none, List.cons_append, List.nil_append]
    refine g_i2l d_Law_shared_8 ?_
    refine g_last hw ko1 i1 d_Law_shared_9 ?_
    refine g_goto 17 d_Law_shared_10 (by decide) ?_
    refine g_iconst 0 d_Law_shared_17 (by decide) ?_
    exact Go.ret (some _) (rOk_i _) rfl d_Law_shared_18 (pI_of hf)
