/-! calls that only tell, and run -/
def CallT (tc : Hp → Option (Nat × Hp)) (fc fr : Hp → Option (Int32 × Hp)) (cd : Nat → Int32) (x m lo U0 : Nat) : Prop := ∀ nC hc H, Jb hc H x m lo U0 nC → (∃ k w kr, tc hc = some (k, hc) ∧ fr H = some (w, kr) ∧ hI kr 704 m = cd k ∧ ¬ cd k = 0 ∧ Jb hc kr x m lo U0 nC ∧ RR m H kr) ∨ (∃ v kc kr, tc hc = none ∧ fc hc = some (v, kc) ∧ fr H = some (v, kr) ∧ hI kr 704 m = 0 ∧ Jb kc kr x m lo U0 nC ∧ RC m lo hc kc ∧ RR m H kr)
theorem SmB.th {o : Nat → Nat} {hc H : Hp} {x m lo ln sl nn bk ga sz c al U0 nC : Nat} {v : Int32} (S : SmB o hc H x m lo ln sl nn bk ga sz c al U0 nC) : SmB o hc (sI H 704 m v) x m lo ln sl nn bk ga sz c al U0 nC := S.ref S.m.1.tsI (fun f nf => by rw [qI_sI, if_neg (fun y => nf y.1)]) (fun a j _ _ => by rw [qA_sI]) (fun j => by rw [qL_sI])
theorem RR.th {m : Nat} {H : Hp} {v : Int32} : RR m H (sI H 704 m v) := ⟨⟨rfl, rfl, rfl, rfl, rfl, rfl⟩, fun f a n => by rw [qI_sI, if_neg (fun y => n y.2)], fun a j _ => by rw [qA_sI], fun a j _ => by rw [qL_sI]⟩
theorem Jb.th {hc H : Hp} {x m lo U0 nC : Nat} {v : Int32} (S : Jb hc H x m lo U0 nC) : Jb hc (sI H 704 m v) x m lo U0 nC := by
  obtain ⟨o, ln, sl, nn, bk, ga, sz, c, al, S⟩ := S
  exact ⟨o, ln, sl, nn, bk, ga, sz, c, al, S.th⟩
theorem Jb.nc {hc H : Hp} {x m lo U0 nC nD : Nat} (S : Jb hc H x m lo U0 nC) (h : nC ≤ nD) : Jb hc H x m lo U0 nD := by
  obtain ⟨o, ln, sl, nn, bk, ga, sz, c, al, S⟩ := S
  exact ⟨o, ln, sl, nn, bk, ga, sz, c, al, S.nc h⟩
/-- a call that only tells -/
theorem CallOk.tell {fc fr : Hp → Option (Int32 × Hp)} {x m lo U0 : Nat} (h : ∀ nC hc H, Jb hc H x m lo U0 nC → ∃ v, fc hc = some (v, hc) ∧ fr H = some (v, sI H 704 m 0)) : CallOk fc fr x m lo U0 := fun nC hc H J => by
  obtain ⟨v, e1, e2⟩ := h nC hc H J
  exact ⟨v, hc, _, e1, e2, J.th.nc (by omega), RC.refl _ _ _, RR.th⟩
theorem k_state {F x m lo U0 : Nat} (q : Int32) : CallOk (f_WM_state F x q) (f_Mod_state F m q) x m lo U0 := CallOk.tell fun nC hc H J => by
  obtain ⟨o, ln, sl, nn, bk, ga, sz, c, al, SB⟩ := J
  obtain ⟨C, T, ⟨i1, i2, i3, i4⟩, _, _, e259, M, _⟩ := SB.vw
  obtain ⟨_, s1, s2, s3, s4, s5⟩ := SB
  refine ⟨moTell H m q, ?_, c_Mod_state M.k q⟩
  have b95 : b_WM_state_95 F x q hc = some (taTell hc (x + 11) q, hc) := by
    rw [b_WM_state_95, gd_t C.k, rq_k C.r_tally C.k_tally, c_Tally_tell C.k_tally, cl_some]
  have c4 : (gd (hK hc x = 1) <| rq hc (hR hc 2 x) 3 fun a_37_2 => rq hc (hR hc 129 a_37_2) 4 fun a_40 => some ((hI hc 194 a_40), hc)) = some (hI H 723 m, hc) := by
    rw [gd_t C.k, rq_k C.r_memory C.k_memory, rq_k C.r_cache C.k_cache, i3]; rfl
  have c5 : (gd (hK hc x = 1) <| rq hc (hR hc 2 x) 3 fun a_37_2 => rq hc (hR hc 129 a_37_2) 4 fun a_40 => some ((hI hc 195 a_40), hc)) = some (hI H 724 m, hc) := by
    rw [gd_t C.k, rq_k C.r_memory C.k_memory, rq_k C.r_cache C.k_cache, i4]; rfl
  have c19 : (gd (hK hc x = 1) <| rq hc (hR hc 2 x) 3 fun a_59_2 => rq hc (hR hc 130 a_59_2) 5 fun a_62 => some ((hI hc 259 a_62), hc)) = some (hI H 745 m, hc) := by
    rw [gd_t C.k, rq_k C.r_memory C.k_memory, rq_k C.r_pending C.k_pending, e259]
  have csz : (gd (hK hc x = 1) <| rq hc (hR hc 0 x) 2 fun a_82_2 => cl (f_Sizes_tell F a_82_2 (q - (13 : Int32)) hc) fun v_89 h_89 => some (v_89, h_89)) = some (szTell hc (x + 1) (q - 13), hc) := by
    rw [gd_t C.k, rq_k C.r_sizes C.k_sizes, c_Sizes_tell C.k_sizes, cl_some]
  have z0 := T.sz 0 (by omega)
  have z1 := T.sz 1 (by omega)
  have z2 := T.sz 2 (by omega)
  have z3 := T.sz 3 (by omega)
  have z4 := T.sz 4 (by omega)
  have z5 := T.sz 5 (by omega)
  have w0 := T.wd 0 (by omega)
  have w1 := T.wd 1 (by omega)
  have w2 := T.wd 2 (by omega)
  have t0 := T.tr 0 (by omega)
  have t1 := T.tr 1 (by omega)
  have t2 := T.tr 2 (by omega)
  have t3 := T.tr 3 (by omega)
  have ecy := T.cy
  have een := T.en
  have eal := T.al
  rw [f_WM_state, c4, c5, c19, csz, b95]
  by_cases h0 : q = 0
  · subst h0; exact congrArg (fun v => some (v, hc)) s4
  by_cases h1 : q = 1
  · subst h1; exact congrArg (fun v => some (v, hc)) ecy
  by_cases h2 : q = 2
  · subst h2; exact congrArg (fun v => some (v, hc)) w0
  by_cases h3 : q = 3
  · subst h3; exact congrArg (fun v => some (v, hc)) w1
  by_cases h4 : q = 4
  · subst h4; rfl
  by_cases h5 : q = 5
  · subst h5; rfl
  by_cases h6 : q = 6
  · subst h6; exact congrArg (fun v => some (v, hc)) een
  by_cases h7 : q = 7
  · subst h7; exact congrArg (fun v => some (v, hc)) eal
  by_cases h8 : q = 8
  · subst h8; exact congrArg (fun v => some (v, hc)) t0
  by_cases h9 : q = 9
  · subst h9; exact congrArg (fun v => some (v, hc)) t1
  by_cases h10 : q = 10
  · subst h10; exact congrArg (fun v => some (v, hc)) t2
  by_cases h11 : q = 11
  · subst h11; exact congrArg (fun v => some (v, hc)) t3
  by_cases h12 : q = 12
  · subst h12; exact congrArg (fun v => some (v, hc)) w2
  by_cases h13 : q = 13
  · subst h13; exact congrArg (fun v => some (v, hc)) z0
  by_cases h14 : q = 14
  · subst h14; exact congrArg (fun v => some (v, hc)) z1
  by_cases h15 : q = 15
  · subst h15; exact congrArg (fun v => some (v, hc)) z2
  by_cases h16 : q = 16
  · subst h16; exact congrArg (fun v => some (v, hc)) z3
  by_cases h17 : q = 17
  · subst h17; exact congrArg (fun v => some (v, hc)) z4
  by_cases h18 : q = 18
  · subst h18; exact congrArg (fun v => some (v, hc)) z5
  by_cases h19 : q = 19
  · subst h19; rfl
  have n4 : ¬ (¬ q < 13 ∧ ¬ 18 < q) := fun y => by
    rcases pk_ix q (n := 20) (by decide) with z | z | ⟨j, hj, ej⟩
    · have a1 := Int32.lt_iff_toInt_lt.mp z
      have : q < 13 := Int32.lt_iff_toInt_lt.mpr (by rw [show (13 : Int32).toInt = 13 from rfl]; rw [show (0 : Int32).toInt = 0 from rfl] at a1; omega)
      exact y.1 this
    · have a1 := Int32.le_iff_toInt_le.mp z
      have : 18 < q := Int32.lt_iff_toInt_lt.mpr (by rw [show (18 : Int32).toInt = 18 from rfl]; rw [show (nI 20).toInt = 20 from rfl] at a1; omega)
      exact y.2 this
    · have : j = 0 ∨ j = 1 ∨ j = 2 ∨ j = 3 ∨ j = 4 ∨ j = 5 ∨ j = 6 ∨ j = 7 ∨ j = 8 ∨ j = 9 ∨ j = 10 ∨ j = 11 ∨ j = 12 ∨ j = 13 ∨ j = 14 ∨ j = 15 ∨ j = 16 ∨ j = 17 ∨ j = 18 ∨ j = 19 := by omega
      rcases this with z | z | z | z | z | z | z | z | z | z | z | z | z | z | z | z | z | z | z | z <;> rw [z] at ej
      · exact h0 ej
      · exact h1 ej
      · exact h2 ej
      · exact h3 ej
      · exact h4 ej
      · exact h5 ej
      · exact h6 ej
      · exact h7 ej
      · exact h8 ej
      · exact h9 ej
      · exact h10 ej
      · exact h11 ej
      · exact h12 ej
      · exact h13 ej
      · exact h14 ej
      · exact h15 ej
      · exact h16 ej
      · exact h17 ej
      · exact h18 ej
      · exact h19 ej
  rw [if_neg h4, if_neg h5, if_neg h19]
  have mo : moTell H m q = -1 := by
    unfold moTell
    rw [if_neg h0, if_neg h1, if_neg h2, if_neg h3, if_neg h4, if_neg h5, if_neg h6, if_neg h7, if_neg h8, if_neg h9, if_neg h10, if_neg h11, if_neg h12, if_neg h13, if_neg h14, if_neg h15, if_neg h16, if_neg h17, if_neg h18, if_neg h19]
  have ta : taTell hc (x + 11) q = -1 := by
    unfold taTell
    rw [if_neg h0, if_neg h1, if_neg h2, if_neg h3, if_neg h6, if_neg h7, if_neg h8, if_neg h9, if_neg h10, if_neg h11, if_neg h12]
  rw [mo, ta]
  by_cases y1 : q < 13
  · rw [if_pos y1]
  · rw [if_neg y1, if_pos (Decidable.not_not.mp (fun y2 => n4 ⟨y1, y2⟩))]
theorem nI_8 {n : Nat} (h : n ≤ 8) : (nI n).toInt ≤ 8 := by rw [nI_toInt (by omega)]; omega
theorem k_unit {F x m lo U0 : Nat} (u q : Int32) : CallOk (f_WM_unit F x u q) (f_Mod_unit F m u q) x m lo U0 := CallOk.tell fun nC hc H J => by
  obtain ⟨o, ln, sl, nn, bk, ga, sz, c, al, SB⟩ := J
  obtain ⟨C, T, _, _, _, _, M, Z, _⟩ := SB.vw
  have n8 := Z.u1.2
  have h66 : hI hc 66 (x + 1) = nI nn := by have := T.sz 2 (by omega); rw [this]; exact Z.nu
  have cm := c_Mod_unit (F := F) M (by rw [Z.nu]; exact nI_8 n8) u q
  rw [Z.nu] at cm
  refine ⟨_, ?_, cm⟩
  rw [f_WM_unit, gd_t C.k, c_WM_isUnit C.k C.r_sizes C.k_sizes, cl_some, h66]
  by_cases g : ¬ u < 0 ∧ ¬ nI nn ≤ u
  · obtain ⟨j, hj, ej⟩ : ∃ j : Nat, j < nn ∧ u = nI j := by
      rcases pk_ix u (n := nn) (by omega) with z | z | z
      · exact absurd z g.1
      · exact absurd z g.2
      · exact z
    obtain ⟨cu1, cu2, _⟩ := C.u j (by omega)
    obtain ⟨u1, u2, u3, u4⟩ := T.un j (by omega)
    rw [bI_t g, if_neg (by decide), gd_t C.k, rq_k C.r_units C.k_units, C.n_units, ej, ixn (by omega) (by decide), rq_k cu1 cu2, c_Unit_tell cu2, cl_some, if_pos ⟨nI_pos (by omega), nI_lt hj (by omega)⟩, nI_clamp (by omega)]
    unfold unTell
    rw [u1, u2, u3, u4]
  · have g2 : ¬ (¬ u < 0 ∧ u < nI nn) := fun y => g ⟨y.1, fun z => by
      have a1 := Int32.lt_iff_toInt_lt.mp y.2
      have a2 := Int32.le_iff_toInt_le.mp z
      omega⟩
    rw [bI_f g, if_pos rfl, if_neg g2]
theorem k_cached {F x m lo U0 : Nat} (g p : Int32) : CallOk (f_WM_cached F x g p) (f_Mod_cached F m g p) x m lo U0 := CallOk.tell fun nC hc H J => by
  obtain ⟨o, ln, sl, nn, bk, ga, sz, c, al, SB⟩ := J
  obtain ⟨C, T, ⟨i1, i2, i3, i4⟩, _, _, _, M, Z, _⟩ := SB.vw
  have g8 := Z.g1.2
  have h68 : hI hc 68 (x + 1) = nI ga := by have := T.sz 4 (by omega); rw [this]; exact Z.ga
  have r709 : hI (sI H 704 m 0) 709 m = nI ga := by rw [qI_sI, if_neg (fun z => by cases z.1)]; exact Z.ga
  rw [f_WM_cached, f_Mod_cached, gd_t M.k, pw_e, r709]
  by_cases a1 : g < 0
  · exact ⟨-1, by rw [if_pos a1], by rw [if_pos a1]⟩
  rw [if_neg a1, if_neg a1, gd_t C.k, rq_k C.r_sizes C.k_sizes, h68]
  by_cases a2 : nI ga ≤ g
  · exact ⟨-1, by rw [if_pos a2], by rw [if_pos a2]⟩
  rw [if_neg a2, if_neg a2, rq_k C.r_memory C.k_memory, rq_k C.r_cache C.k_cache, f_Cache_tell, if_neg a1]
  obtain ⟨j, hj, ej⟩ : ∃ j : Nat, j < ga ∧ g = nI j := by
    rcases pk_ix g (n := ga) (by omega) with z | z | z
    · exact absurd z a1
    · exact absurd z a2
    · exact z
  have a3 : ¬ (8 : Int32) ≤ g := by rw [ej]; exact nI_ge (b := 8) (show j < 8 by omega) (by decide)
  rw [if_neg a3]
  by_cases a4 : p < 0
  · exact ⟨-1, by rw [if_pos a4, cl_some], by rw [if_pos a4]⟩
  rw [if_neg a4, if_neg a4]
  by_cases a5 : p ≤ 4
  · rw [if_pos a5, if_pos a5]
    by_cases a6 : p = 4
    · refine ⟨hA H (m + 4) j, ?_, ?_⟩
      · rw [if_pos a6, gd_t C.k_cache, rq_k C.r_cticks C.k_cticks, C.n_cticks, ej, ixn (by omega) (by decide), cl_some, i2 j (by omega)]
        rfl
      · rw [if_pos a6, rq_k (by rw [qR_sI]; exact M.r_gateTick) (by rw [qK_sI]; exact M.k_gateTick), qN_sI, M.n_gateTick, ej, ixn (by omega) (by decide), qA_sI]
    · obtain ⟨r, hr, er⟩ : ∃ r : Nat, r < 4 ∧ p = nI r := by
        rcases pk_ix p (n := 4) (by decide) with z | z | z
        · exact absurd z a4
        · refine absurd ?_ a6
          have b1 := Int32.le_iff_toInt_le.mp z
          have b2 := Int32.le_iff_toInt_le.mp a5
          exact Int32.toInt_inj.mp (by rw [show (nI 4).toInt = 4 from rfl] at b1; rw [show (4 : Int32).toInt = 4 from rfl] at b2 ⊢; omega)
        · exact z
      refine ⟨hA H (m + 3) (4 * j + r), ?_, ?_⟩
      · rw [if_neg a6, gd_t C.k_cache, rq_k C.r_lines C.k_lines, C.n_lines, ej, er, show (4 : Int32) = nI 4 from rfl, pk_mul, nI_add, Nat.mul_comm, ixn (by omega) (by decide), cl_some, i1 _ (by omega)]
        rfl
      · rw [if_neg a6, rq_k (by rw [qR_sI]; exact M.r_cache) (by rw [qK_sI]; exact M.k_cache), qN_sI, M.n_cache, ej, er, n_4, nI_add, ixn (by omega) (by decide), qA_sI]
  · exact ⟨-1, by rw [if_neg a5, cl_some], by rw [if_neg a5]⟩
theorem k_global {F x m lo U0 : Nat} (k : Int32) : CallT (t_WM_global F x k) (f_WM_global F x k) (f_Mod_global F m k) (fun _ => 1) x m lo U0 := fun nC hc H J => by
  have J0 := J
  obtain ⟨o, ln, sl, nn, bk, ga, sz, c, al, SB⟩ := J0
  obtain ⟨C, T, _, ms, mm, _, M, Z, _⟩ := SB.vw
  have z4 := Z.i1.2
  have cm := c_Mod_global (F := F) M (by rw [Z.sz, nI_toInt (by omega)]; omega) k
  rw [Z.sz] at cm
  have hh := c_Memory_has (F := F) C.k_memory C.r_ints C.k_ints k
  rw [ms, C.n_ints] at hh
  by_cases g : ¬ k < 0 ∧ ¬ nI sz ≤ k ∧ ¬ nI 4096 ≤ k
  · obtain ⟨j, hj, ej⟩ : ∃ j : Nat, j < sz ∧ k = nI j := by
      rcases pk_ix k (n := sz) (by omega) with z | z | z
      · exact absurd z g.1
      · exact absurd z g.2.1
      · exact z
    rw [bI_t g] at hh
    rw [if_pos ⟨g.1, by rw [ej]; exact nI_lt hj (by omega)⟩, ej, nI_clamp (by omega), ← ej] at cm
    refine Or.inr ⟨hA H (m + 2) j, hc, _, ?_, ?_, cm, by rw [qI_sI, if_pos ⟨rfl, rfl⟩], J.th, RC.refl _ _ _, RR.th⟩
    · rw [t_WM_global, gd_t C.k, rq_k C.r_memory C.k_memory, hh, cl_some, if_neg (by decide), gd_t C.k, rq_k C.r_memory C.k_memory, rq_k C.r_ints C.k_ints, C.n_ints, ej, ixn (by omega) (by decide)]
    · rw [f_WM_global, gd_t C.k, rq_k C.r_memory C.k_memory, hh, cl_some, if_neg (by decide), gd_t C.k, rq_k C.r_memory C.k_memory, rq_k C.r_ints C.k_ints, C.n_ints, ej, ixn (by omega) (by decide), mm j hj]
  · have g2 : ¬ (¬ k < 0 ∧ k < nI sz) := fun y => g ⟨y.1, fun z => by
      have a1 := Int32.lt_iff_toInt_lt.mp y.2
      have a2 := Int32.le_iff_toInt_le.mp z
      omega, fun z => by
      have a1 := Int32.lt_iff_toInt_lt.mp y.2
      have a2 := Int32.le_iff_toInt_le.mp z
      rw [nI_toInt (by omega)] at a1 a2
      omega⟩
    rw [bI_f g] at hh
    rw [if_neg g2] at cm
    refine Or.inl ⟨11, _, _, ?_, cm, by rw [qI_sI, if_pos ⟨rfl, rfl⟩], by decide, J.th, RR.th⟩
    rw [t_WM_global, gd_t C.k, rq_k C.r_memory C.k_memory, hh, cl_some, if_pos rfl]
theorem run_loop {F x m lo U0 nC n : Nat} (hF : 40000 ≤ F) (n5 : n ≤ 500) : ∀ (d : Nat) (hc H : Hp) (k N N2 : Nat), n = k + d → d < N → d < N2 → Jb hc H x m lo U0 nC → ∃ v kc kr, b_WM_run_47 F N x (nI n) (nI k) hc = some (v, kc) ∧ b_Mod_run_41 F N2 m (nI n) (nI k) H = some (v, kr) ∧ Jb kc kr x m lo U0 nC ∧ RC m lo hc kc ∧ RR m H kr ∧ hI kr 704 m = hI H 704 m := by
  intro d
  induction d with
  | zero =>
    intro hc H k N N2 e1 e2 e3 J
    obtain ⟨N, rfl⟩ : ∃ k, N = k + 1 := ⟨N - 1, by omega⟩
    obtain ⟨N2, rfl⟩ : ∃ k, N2 = k + 1 := ⟨N2 - 1, by omega⟩
    have J0 := J
    obtain ⟨o, ln, sl, nn, bk, ga, sz, c, al, SB⟩ := J0
    obtain ⟨C, T, _, _, _, _, M, Z, _⟩ := SB.vw
    obtain ⟨_, s1, s2, s3, s4, s5⟩ := SB
    refine ⟨hI H 715 m, hc, H, ?_, ?_, J, RC.refl _ _ _, RR.refl _ _, rfl⟩
    · rw [b_WM_run_47]
      dsimp only
      rw [if_pos (by rw [e1]; exact i_le_refl _), b_WM_run_85, gd_t C.k, rq_k C.r_tally C.k_tally, s4]
    · rw [b_Mod_run_41]
      dsimp only
      rw [if_pos (by rw [e1]; exact i_le_refl _), b_Mod_run_73, gd_t M.k]
  | succ d ih =>
    intro hc H k N N2 e1 e2 e3 J
    obtain ⟨N, rfl⟩ : ∃ k, N = k + 1 := ⟨N - 1, by omega⟩
    obtain ⟨N2, rfl⟩ : ∃ k, N2 = k + 1 := ⟨N2 - 1, by omega⟩
    have J0 := J
    obtain ⟨o, ln, sl, nn, bk, ga, sz, c, al, SB⟩ := J0
    obtain ⟨C, T, _, _, _, _, M, Z, _⟩ := SB.vw
    have SB0 := SB
    obtain ⟨_, s1, s2, s3, s4, s5⟩ := SB0
    have c85 : b_WM_run_85 F x hc = some (hI H 715 m, hc) := by rw [b_WM_run_85, gd_t C.k, rq_k C.r_tally C.k_tally, s4]
    have r73 : b_Mod_run_73 F m H = some (hI H 715 m, H) := by rw [b_Mod_run_73, gd_t M.k]
    have al1 : hI hc 326 (x + 11) = nI al := by rw [T.al]; exact s1
    have cst : b_WM_run_47 F (N + 1) x (nI n) (nI k) hc = if rUn H m then (if (20000 : Int32) ≤ nI al then some (hI H 715 m, hc) else (clv (f_WM_doCycle F x hc) fun h_76 => b_WM_run_47 F N x (nI n) (nI (k + 1)) h_76)) else some (hI H 715 m, hc) := by
      rw [b_WM_run_47]
      dsimp only
      rw [if_neg (nI_ge (by omega) (by omega)), gd_t C.k, rq_k C.r_tally C.k_tally, c_Tally_underWay C.k_tally, cl_some, c85, gd_t C.k, rq_k C.r_tally C.k_tally, al1, nI_1, bI_ite]
      unfold tUn
      rw [s4]
    have rst : b_Mod_run_41 F (N2 + 1) m (nI n) (nI k) H = if rUn H m then (if (20000 : Int32) ≤ nI al then some (hI H 715 m, H) else (clv (f_Mod_oneCycle F m H) fun h_64 => b_Mod_run_41 F N2 m (nI n) (nI (k + 1)) h_64)) else some (hI H 715 m, H) := by
      rw [b_Mod_run_41]
      dsimp only
      rw [if_neg (nI_ge (by omega) (by omega)), gd_t M.k, c_Mod_isUnder M.k, cl_some, r73, gd_t M.k, s1, nI_1, bI_ite]
    rw [cst, rst]
    by_cases un : rUn H m
    · rw [if_pos un, if_pos un]
      by_cases a2 : (20000 : Int32) ≤ nI al
      · rw [if_pos a2, if_pos a2]
        exact ⟨_, hc, H, rfl, rfl, J, RC.refl _ _ _, RR.refl _ _, rfl⟩
      · have al2 : al < 20000 := by
          by_cases z : 20000 ≤ al
          · exact absurd (nI_le z (by omega)) a2
          · omega
        obtain ⟨o2, kc, kr, k1, k2, k3, k4, k5, k6⟩ := cycle_st (F := F) hF SB un al2
        obtain ⟨v, kc2, kr2, r1, r2, r3, r4, r5, r6⟩ := ih kc kr (k + 1) N N2 (by omega) (by omega) (by omega) ⟨o2, ln, sl, nn, bk, ga, sz, _, _, k3⟩
        rw [if_neg a2, if_neg a2, k1, k2, clv_some, clv_some]
        exact ⟨v, kc2, kr2, r1, r2, r3, k4.trans r4, k5.trans r5, by rw [r6, k6]⟩
    · rw [if_neg un, if_neg un]
      exact ⟨_, hc, H, rfl, rfl, J, RC.refl _ _ _, RR.refl _ _, rfl⟩
theorem k_run {F x m lo U0 : Nat} (hF : 40000 ≤ F) (q : Int32) : CallT (t_WM_run F x q) (f_WM_run F x q) (f_Mod_run F m q) (fun k => if k = 12 then 1 else 2) x m lo U0 := fun nC hc H J => by
  have J0 := J
  obtain ⟨o, ln, sl, nn, bk, ga, sz, c, al, SB⟩ := J0
  obtain ⟨C, T, _, _, _, _, M, Z, _⟩ := SB.vw
  obtain ⟨_, s1, s2, s3, s4, s5⟩ := SB
  have al1 : hI hc 326 (x + 11) = nI al := by rw [T.al]; exact s1
  rw [t_WM_run, f_WM_run, f_Mod_run]
  have r12 : b_Mod_run_12 F m H = some (0, sI H 704 m 1) := by rw [b_Mod_run_12, gd_t M.k, c_Mod_raise M.k, cl_some]
  by_cases a1 : q < 1
  · rw [if_pos a1, if_pos a1, if_pos a1, r12]
    exact Or.inl ⟨12, _, _, rfl, rfl, by rw [qI_sI, if_pos ⟨rfl, rfl⟩]; rfl, by decide, J.th, RR.th⟩
  rw [if_neg a1, if_neg a1, if_neg a1]
  by_cases a2 : q ≤ 500
  · rw [if_pos a2, if_pos a2, if_pos a2, gd_t C.k, rq_k C.r_tally C.k_tally, gd_t C.k, rq_k C.r_tally C.k_tally, gd_t M.k, al1, s1]
    by_cases a3 : nI al < 20000
    · rw [if_pos a3, if_pos a3, if_pos a3, pw_e]
      obtain ⟨n, hn, en⟩ : ∃ n : Nat, n ≤ 500 ∧ q = nI n := nI_of2 (M := 500) (n := 500) rfl (fun z => a1 (Int32.lt_iff_toInt_lt.mpr (by
        have b := Int32.lt_iff_toInt_lt.mp z
        rw [show (0 : Int32).toInt = 0 from rfl] at b
        rw [show (1 : Int32).toInt = 1 from rfl]
        omega))) a2
      obtain ⟨v, kc, kr, r1, r2, r3, r4, r5, r6⟩ := run_loop (F := F) (n := n) hF hn n hc (sI H 704 m 0) 0 F F (by omega) (by omega) (by omega) J.th
      refine Or.inr ⟨v, kc, kr, rfl, by rw [en]; exact r1, by rw [en]; exact r2, by rw [r6, qI_sI, if_pos ⟨rfl, rfl⟩], r3, r4, RR.th.trans r5⟩
    · rw [if_neg a3, if_neg a3, c_Mod_raise M.k, cl_some]
      exact Or.inl ⟨35, _, _, rfl, rfl, by rw [qI_sI, if_pos ⟨rfl, rfl⟩]; rfl, by decide, J.th, RR.th⟩
  · rw [if_neg a2, if_neg a2, if_neg a2, r12]
    exact Or.inl ⟨12, _, _, rfl, rfl, by rw [qI_sI, if_pos ⟨rfl, rfl⟩]; rfl, by decide, J.th, RR.th⟩
