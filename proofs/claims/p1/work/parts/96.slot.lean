/-! the calls slot, lane and shared -/
theorem VW.busy {F : Nat} {o : Nat → Nat} {hc H : Hp} {x m lo ln sl nn bk ga sz u k : Nat} (V : VW o hc H x m lo ln sl nn bk ga sz) (hu : u < 8) (hk : k < sl) : (f_Unit_busy F (x + 15 + 3 * u) (nI k) hc = some (none, hc) ∧ hA H (m + 9) (16 * u + k) = -1) ∨ ∃ w rg pl ro pr ti L b bl, f_Unit_busy F (x + 15 + 3 * u) (nI k) hc = some (some w, hc) ∧ Ws o lo hc (16 * u + k) w rg pl ro pr ti L ∧ Wb hc H x m (16 * u + k) ln b w rg pl pr ti L bl := by
  obtain ⟨C, _, _, _, _, _, M, Z, SL, BL, us, _⟩ := V
  have s16 := Z.s1.2
  obtain ⟨cu1, cu2, cu3, cu4, cu5, _⟩ := C.u u hu
  have s := SL (16 * u + k) (by omega)
  rw [show (16 * u + k) / 16 = u by omega, show (16 * u + k) % 16 = k by omega] at s
  have kk : ∀ w, hQ hc (x + 16 + 3 * u) k = some w → hK hc w = 9 := fun w e => by
    rcases s with ⟨z, _⟩ | ⟨w2, rg, pl, ro, pr, ti, L, z1, W, _⟩
    · rw [z] at e; cases e
    · rw [z1] at e; cases e; exact W.k
  rw [c_Unit_busy (F := F) cu2 cu3 cu4 cu5 (us u hu) s16 hk kk]
  rcases s with ⟨z, z2⟩ | ⟨w, rg, pl, ro, pr, ti, L, z1, W, _, z3⟩
  · exact Or.inl ⟨by unfold bz; rw [z], z2⟩
  · rcases z3 with ⟨z3, z4⟩ | ⟨b, bl, B⟩
    · refine Or.inl ⟨?_, z4⟩
      unfold bz
      rw [z1]
      simp only
      rw [z3]
    · exact Or.inr ⟨w, rg, pl, ro, pr, ti, L, b, bl, by rw [bz_some z1 B.blk], W, B⟩
theorem nI_j {a b : Nat} (ha : a < 2 ^ 31) (hb : b < 2 ^ 31) (e : nI a = nI b) : a = b := (nI_eq ha hb).mp e
def slV (H : Hp) (m s j : Nat) : Int32 := if j = 0 then hA H (m + 9) s else if j = 1 then hA H (m + 10) s else if j = 2 then nI (cn (fun i => decide (¬ hA H (m + 16) (32 * s + i) = 0)) 32) else if j = 3 then nI (cn (fun i => decide (¬ hA H (m + 17) (32 * s + i) = 0)) 32) else if j = 4 then hA H (m + 11) s else hA H (m + 12) (20 * s + (j - 5))
theorem tell_slot {F : Nat} {o : Nat → Nat} {hc H : Hp} {x m lo ln sl nn bk ga sz s w rg pl ro pr ti L b bl j : Nat} (V : VW o hc H x m lo ln sl nn bk ga sz) (W : Ws o lo hc s w rg pl ro pr ti L) (B : Wb hc H x m s ln b w rg pl pr ti L bl) (hj : j ≤ 24) : f_Warp_tell F w (nI j) hc = some (slV H m s j, hc) := by
  obtain ⟨C, _, _, _, _, _, M, Z, SL, BL, us, _⟩ := V
  have bb : hK hc bl = 8 ∧ hI hc 448 bl = nI b := by
    rcases BL b B.b64 with ⟨z, _⟩ | ⟨bl2, bi, z1, ⟨z2, z3, _⟩, _⟩
    · rw [B.bq] at z; cases z
    · rw [B.bq] at z1; cases z1; exact ⟨z2, z3⟩
  rw [f_Warp_tell]
  unfold slV
  by_cases h0 : j = 0
  · subst h0
    rw [if_pos (show nI 0 = (0 : Int32) from by decide), if_pos rfl, gd_t W.k, rq_k B.blk bb.1, bb.2, B.sb]
  rw [if_neg (show ¬ nI j = (0 : Int32) from fun y => h0 (nI_j (b := 0) (by omega) (by decide) y)), if_neg h0]
  by_cases h1 : j = 1
  · subst h1
    rw [if_pos (show nI 1 = (1 : Int32) from by decide), if_pos rfl, gd_t W.k, B.num]
  rw [if_neg (show ¬ nI j = (1 : Int32) from fun y => h1 (nI_j (b := 1) (by omega) (by decide) y)), if_neg h1]
  by_cases h2 : j = 2
  · subst h2
    rw [if_pos (show nI 2 = (2 : Int32) from by decide), if_pos rfl, gd_t W.k, c_Integer_bitCount, cl_some, cn_congr 32 (fun i hi => B.end_ i hi)]
  rw [if_neg (show ¬ nI j = (2 : Int32) from fun y => h2 (nI_j (b := 2) (by omega) (by decide) y)), if_neg h2]
  by_cases h3 : j = 3
  · subst h3
    rw [if_pos (show nI 3 = (3 : Int32) from by decide), if_pos rfl, gd_t W.k, c_Integer_bitCount, cl_some, cn_congr 32 (fun i hi => B.wai i hi)]
  rw [if_neg (show ¬ nI j = (3 : Int32) from fun y => h3 (nI_j (b := 3) (by omega) (by decide) y)), if_neg h3]
  by_cases h4 : j = 4
  · subst h4
    rw [if_pos (show nI 4 = (4 : Int32) from by decide), if_pos rfl, gd_t W.k, B.mem]
  rw [if_neg (show ¬ nI j = (4 : Int32) from fun y => h4 (nI_j (b := 4) (by omega) (by decide) y)), if_neg h4, if_neg (show ¬ nI j < (5 : Int32) from nI_nlt (b := 5) (by omega) (by omega)), gd_t W.k, rq_k W.r_ti W.k_ti, W.n_ti, if_neg (show ¬ ((5 : Int32) + nI 20 ≤ nI j) from by rw [show (5 : Int32) = nI 5 from rfl, nI_add]; exact nI_ge (by omega) (by omega)), show nI j - 5 = nI (j - 5) from pk_sub (b := 5) (by omega), ixn (by omega) (by decide), B.tic _ (by omega)]
/-- the counts of a slot -/
theorem slot_loop {F : Nat} {H : Hp} {m s ln j : Nat} (M : Md H m) (hs : s < 128) (l32 : ln ≤ 32) (e1 : hI H 705 m = nI ln) (hj : j ≤ 24) (le : ∀ i, i < 32 → ¬ hA H (m + 16) (32 * s + i) = 0 → rLn H m s i) (lw : ∀ i, i < 32 → ¬ hA H (m + 17) (32 * s + i) = 0 → rLn H m s i) : ∀ (d i N : Nat), i + d = ln → d < N → b_Mod_slot_65 F N m (nI j) (nI s) (nI (cn (fun i => decide (¬ hA H (m + 16) (32 * s + i) = 0)) i)) (nI (cn (fun i => decide (¬ hA H (m + 17) (32 * s + i) = 0)) i)) (nI i) H = some (slV H m s j, H) := by
  intro d
  induction d with
  | zero =>
    intro i N e2 e3
    obtain ⟨N, rfl⟩ : ∃ k, N = k + 1 := ⟨N - 1, by omega⟩
    have il : i = ln := by omega
    subst il
    have ex : ∀ a, (∀ k, k < 32 → ¬ hA H a (32 * s + k) = 0 → rLn H m s k) → cn (fun k => decide (¬ hA H a (32 * s + k) = 0)) 32 = cn (fun k => decide (¬ hA H a (32 * s + k) = 0)) i := fun a q => cn_ext l32 (fun k h1 h2 => decide_eq_false (fun z => (q k h2 z).1 (by rw [e1]; exact nI_le h1 (by omega))))
    rw [b_Mod_slot_65]
    dsimp only
    rw [gd_t M.k, e1, if_pos (i_le_refl _)]
    unfold slV
    by_cases h0 : j = 0
    · subst h0
      rw [if_pos (show nI 0 = (0 : Int32) from by decide), if_pos rfl, rq_k M.r_slotBlock M.k_slotBlock, M.n_slotBlock, ixn hs (by decide)]
    rw [if_neg (show ¬ nI j = (0 : Int32) from fun y => h0 (nI_j (b := 0) (by omega) (by decide) y)), if_neg h0]
    by_cases h1 : j = 1
    · subst h1
      rw [if_pos (show nI 1 = (1 : Int32) from by decide), if_pos rfl, rq_k M.r_slotWarp M.k_slotWarp, M.n_slotWarp, ixn hs (by decide)]
    rw [if_neg (show ¬ nI j = (1 : Int32) from fun y => h1 (nI_j (b := 1) (by omega) (by decide) y)), if_neg h1]
    by_cases h2 : j = 2
    · subst h2
      rw [if_pos (show nI 2 = (2 : Int32) from by decide), if_pos rfl, ex _ le]
    rw [if_neg (show ¬ nI j = (2 : Int32) from fun y => h2 (nI_j (b := 2) (by omega) (by decide) y)), if_neg h2]
    by_cases h3 : j = 3
    · subst h3
      rw [if_pos (show nI 3 = (3 : Int32) from by decide), if_pos rfl, ex _ lw]
    rw [if_neg (show ¬ nI j = (3 : Int32) from fun y => h3 (nI_j (b := 3) (by omega) (by decide) y)), if_neg h3]
    by_cases h4 : j = 4
    · subst h4
      rw [if_pos (show nI 4 = (4 : Int32) from by decide), if_pos rfl, rq_k M.r_memoryTick M.k_memoryTick, M.n_memoryTick, ixn hs (by decide)]
    rw [if_neg (show ¬ nI j = (4 : Int32) from fun y => h4 (nI_j (b := 4) (by omega) (by decide) y)), if_neg h4, rq_k M.r_ticks M.k_ticks, M.n_ticks, n_20, nI_add, show nI (20 * s + j) - 5 = nI (20 * s + j - 5) from pk_sub (b := 5) (by omega), ixn (by omega) (by decide), show 20 * s + j - 5 = 20 * s + (j - 5) by omega]
  | succ d ih =>
    intro i N e2 e3
    obtain ⟨N, rfl⟩ : ∃ k, N = k + 1 := ⟨N - 1, by omega⟩
    have next := ih (i + 1) N (by omega) (by omega)
    rw [← cn_s, ← cn_s] at next
    rw [b_Mod_slot_65]
    dsimp only
    rw [gd_t M.k, e1, if_neg (nI_ge (by omega) (by omega)), c_Mod_isLane M hs, cl_some, bI_ite, nI_1]
    by_cases r : rLn H m s i
    · rw [if_pos r, gd_t M.k, rq_k M.r_isEnded M.k_isEnded, c_Mod_thread, cl_some, gd_t M.k_isEnded, M.n_isEnded, ixn (by omega) (by decide)]
      have s2 : ∀ y : Int32, b_Mod_slot_110 F (b_Mod_slot_65 F N) m (nI j) (nI s) (nI (cn (fun i => decide (¬ hA H (m + 17) (32 * s + i) = 0)) i)) (nI i) (nI (cn (fun i => decide (¬ hA H (m + 16) (32 * s + i) = 0)) i)) y H = b_Mod_slot_65 F N m (nI j) (nI s) (nI (cn (fun i => decide (¬ hA H (m + 16) (32 * s + i) = 0)) i) + y) (nI (cn (fun i => decide (¬ hA H (m + 17) (32 * s + i) = 0)) i) + bI (decide (¬ hA H (m + 17) (32 * s + i) = 0) = true)) (nI (i + 1)) H := fun y => by
        rw [b_Mod_slot_110, gd_t M.k, rq_k M.r_waits M.k_waits, c_Mod_thread, cl_some, gd_t M.k_waits, M.n_waits, ixn (by omega) (by decide), nI_1]
        by_cases z : hA H (m + 17) (32 * s + i) = 0
        · rw [if_pos z, bI_f (fun y => absurd z (of_decide_eq_true y))]
        · rw [if_neg z, bI_t (decide_eq_true z)]
      rw [s2, s2]
      by_cases z : hA H (m + 16) (32 * s + i) = 0
      · rw [bI_f (p := decide (¬ hA H (m + 16) (32 * s + i) = 0) = true) (fun y => absurd z (of_decide_eq_true y))] at next
        rw [if_pos z]; exact next
      · rw [bI_t (p := decide (¬ hA H (m + 16) (32 * s + i) = 0) = true) (decide_eq_true z)] at next
        rw [if_neg z]; exact next
    · rw [if_neg r]
      rw [bI_f (p := decide (¬ hA H (m + 16) (32 * s + i) = 0) = true) (fun y => r (le i (by omega) (of_decide_eq_true y))), bI_f (p := decide (¬ hA H (m + 17) (32 * s + i) = 0) = true) (fun y => r (lw i (by omega) (of_decide_eq_true y))), Int32.add_zero, Int32.add_zero] at next
      exact next
theorem Sz.l32 {hr : Hp} {m ln sl nn bk ga sz : Nat} (X : Sz hr m ln sl nn bk ga sz) : ln ≤ 32 := by
  obtain ⟨k, hk, e⟩ := X.lp
  rw [e]
  exact Nat.pow_le_pow_right (n := 2) (by omega) hk
theorem k_slot {F x m lo U0 : Nat} (hF : 40000 ≤ F) (u k q : Int32) : CallOk (f_WM_slot F x u k q) (f_Mod_slot F m u k q) x m lo U0 := CallOk.tell fun nC hc H J => by
  obtain ⟨o, ln, sl, nn, bk, ga, sz, c, al, SB⟩ := J
  have V := SB.vw
  have V0 := V
  obtain ⟨C, T, _, _, _, _, M, Z, SL, BL, us, _⟩ := V0
  have n8 := Z.u1.2
  have s16 := Z.s1.2
  have h66 : hI hc 66 (x + 1) = nI nn := by have := T.sz 2 (by omega); rw [this]; exact Z.nu
  have h65 : hI hc 65 (x + 1) = nI sl := by have := T.sz 1 (by omega); rw [this]; exact Z.sl
  have M0 : Md (sI H 704 m 0) m := M.tsI
  have q7 : hI (sI H 704 m 0) 707 m = nI nn := by rw [qI_sI, if_neg (fun z => by cases z.1)]; exact Z.nu
  have q6 : hI (sI H 704 m 0) 706 m = nI sl := by rw [qI_sI, if_neg (fun z => by cases z.1)]; exact Z.sl
  have q5 : hI (sI H 704 m 0) 705 m = nI ln := by rw [qI_sI, if_neg (fun z => by cases z.1)]; exact Z.ln
  rw [f_WM_slot, gd_t C.k, c_WM_isUnit C.k C.r_sizes C.k_sizes, cl_some, h66, bI_ite, f_Mod_slot, gd_t M.k, pw_e, c_Mod_isSlot M0.k, cl_some, bI_ite, q7, q6]
  by_cases a1 : ¬ u < 0 ∧ ¬ nI nn ≤ u
  case neg => exact ⟨-1, by rw [if_neg a1], by rw [if_neg (fun y => a1 ⟨y.1, y.2.1⟩)]⟩
  rw [if_pos a1, gd_t C.k, rq_k C.r_sizes C.k_sizes, h65]
  by_cases a2 : k < 0
  · exact ⟨-1, by rw [if_pos a2], by rw [if_neg (fun y => y.2.2.1 a2)]⟩
  rw [if_neg a2]
  by_cases a3 : nI sl ≤ k
  · exact ⟨-1, by rw [if_pos a3], by rw [if_neg (fun y => y.2.2.2 a3)]⟩
  rw [if_neg a3, if_pos (show ¬ u < 0 ∧ ¬ nI nn ≤ u ∧ ¬ k < 0 ∧ ¬ nI sl ≤ k from ⟨a1.1, a1.2, a2, a3⟩)]
  by_cases a4 : q < 0
  · exact ⟨-1, by rw [if_pos a4], by rw [if_pos a4]⟩
  rw [if_neg a4, if_neg a4]
  by_cases a5 : q ≤ 24
  case neg => exact ⟨-1, by rw [if_neg a5], by rw [if_neg a5]⟩
  rw [if_pos a5, if_pos a5]
  obtain ⟨v, hv, ev⟩ : ∃ j : Nat, j < nn ∧ u = nI j := by
    rcases pk_ix u (n := nn) (by omega) with z | z | z
    · exact absurd z a1.1
    · exact absurd z a1.2
    · exact z
  obtain ⟨i, hi, ei⟩ : ∃ j : Nat, j < sl ∧ k = nI j := by
    rcases pk_ix k (n := sl) (by omega) with z | z | z
    · exact absurd z a2
    · exact absurd z a3
    · exact z
  obtain ⟨j, hj, ej⟩ : ∃ n : Nat, n ≤ 24 ∧ q = nI n := nI_of2 (M := 24) (n := 24) rfl a4 a5
  obtain ⟨cu1, cu2, _⟩ := C.u v (by omega)
  subst ev ei ej
  rw [rq_k C.r_units C.k_units, C.n_units, ixn (by omega) (by decide), rq_k cu1 cu2, gd_t M0.k, rq_k M0.r_slotBlock M0.k_slotBlock, M0.n_slotBlock, n_16, nI_add, ixn (by omega) (by decide), qA_sI]
  rcases V.busy (F := F) (u := v) (k := i) (by omega) hi with ⟨b1, b2⟩ | ⟨w, rg, pl, ro, pr, ti, L, b, bl, b1, W, B⟩
  · rw [b1, cl_some, nu_none, if_pos b2]
    by_cases y : 2 ≤ j
    · exact ⟨0, by rw [if_pos (show (1 : Int32) < nI j from nI_lt (a := 1) (by omega) (by omega))], by rw [if_pos (show (2 : Int32) ≤ nI j from nI_le (a := 2) y (by omega))]⟩
    · exact ⟨-1, by rw [if_neg (show ¬ (1 : Int32) < nI j from nI_nlt (a := 1) (by omega) (by omega))], by rw [if_neg (show ¬ (2 : Int32) ≤ nI j from nI_ge (b := 2) (by omega) (by omega))]⟩
  · rw [b1, cl_some, nu_some, gd_t W.k, tell_slot V W B hj, cl_some, if_neg (by rw [B.sb]; exact nI_m1 (by have := B.b64; omega))]
    refine ⟨_, rfl, ?_⟩
    have lp := slot_loop (F := F) (H := sI H 704 m 0) (s := 16 * v + i) M0 (by omega) Z.l32 q5 hj (fun i2 h2 z => by
      have := B.le i2 h2 (by rw [qA_sI] at z; exact z)
      unfold rLn at this ⊢
      rw [qI_sI, if_neg (fun z => by cases z.1), qI_sI, if_neg (fun z => by cases z.1), qA_sI]
      exact this) (fun i2 h2 z => by
      have := B.lwB i2 h2 (by rw [qA_sI] at z; exact z)
      unfold rLn at this ⊢
      rw [qI_sI, if_neg (fun z => by cases z.1), qI_sI, if_neg (fun z => by cases z.1), qA_sI]
      exact this) ln 0 F (by omega) (by have := Z.l32; omega)
    have ev : slV (sI H 704 m 0) m (16 * v + i) j = slV H m (16 * v + i) j := by unfold slV; simp only [qA_sI]
    rw [ev] at lp
    exact lp
theorem k_lane {F x m lo U0 : Nat} (hF : 40000 ≤ F) (u k i q : Int32) : CallT (t_WM_lane F x u k i q) (f_WM_lane F x u k i q) (f_Mod_lane F m u k i q) (fun _ => 1) x m lo U0 := fun nC hc H J => by
  have J0 := J
  obtain ⟨o, ln, sl, nn, bk, ga, sz, c, al, SB⟩ := J0
  have V := SB.vw
  have V0 := V
  obtain ⟨C, T, _, _, _, _, M, Z, SL, BL, us, _⟩ := V0
  have n8 := Z.u1.2
  have s16 := Z.s1.2
  have l32 := Z.l32
  have h66 : hI hc 66 (x + 1) = nI nn := by have := T.sz 2 (by omega); rw [this]; exact Z.nu
  have r58 : ∀ s, b_Mod_lane_58 F m i q s H = some (0, sI H 704 m 1) := fun s => by
    rw [b_Mod_lane_58, b_Mod_lane_59, if_pos rfl, b_Mod_lane_72, gd_t M.k, pw_e, if_pos rfl]
  have no : t_WM_lane F x u k i q hc = some (50, hc) → f_Mod_lane F m u k i q H = some (0, sI H 704 m 1) → _ := fun e1 e2 => (Or.inl ⟨50, 0, _, e1, e2, by rw [qI_sI, if_pos ⟨rfl, rfl⟩], by decide, J.th, RR.th⟩ : (∃ k_1 w kr, t_WM_lane F x u k i q hc = some (k_1, hc) ∧ f_Mod_lane F m u k i q H = some (w, kr) ∧ hI kr 704 m = (fun _ => 1) k_1 ∧ ¬ (fun _ => (1 : Int32)) k_1 = 0 ∧ Jb hc kr x m lo U0 nC ∧ RR m H kr) ∨ (∃ v kc kr, t_WM_lane F x u k i q hc = none ∧ f_WM_lane F x u k i q hc = some (v, kc) ∧ f_Mod_lane F m u k i q H = some (v, kr) ∧ hI kr 704 m = 0 ∧ Jb kc kr x m lo U0 nC ∧ RC m lo hc kc ∧ RR m H kr))
  have tst : t_WM_lane F x u k i q hc = if ¬ u < 0 ∧ ¬ nI nn ≤ u then (gd (hK hc x = 1) <| rq hc (hR hc 4 x) 121 fun a_9_2 => ix u (hN hc a_9_2) fun j_13 => rq hc (hQ hc a_9_2 j_13) 7 fun a_13_2 => cl (f_Unit_busy F a_13_2 k hc) fun o_15 h_15 => bt_WM_lane_22 F i q o_15 h_15) else bt_WM_lane_22 F i q none hc := by
    rw [t_WM_lane, gd_t C.k, c_WM_isUnit C.k C.r_sizes C.k_sizes, cl_some, h66, bI_ite]
  have fst_ : f_WM_lane F x u k i q hc = if ¬ u < 0 ∧ ¬ nI nn ≤ u then (gd (hK hc x = 1) <| rq hc (hR hc 4 x) 121 fun a_9_2 => ix u (hN hc a_9_2) fun j_13 => rq hc (hQ hc a_9_2 j_13) 7 fun a_13_2 => cl (f_Unit_busy F a_13_2 k hc) fun o_15 h_15 => b_WM_lane_22 F i q o_15 h_15) else b_WM_lane_22 F i q none hc := by
    rw [f_WM_lane, gd_t C.k, c_WM_isUnit C.k C.r_sizes C.k_sizes, cl_some, h66, bI_ite]
  have rst : f_Mod_lane F m u k i q H = if ¬ u < 0 ∧ ¬ nI nn ≤ u ∧ ¬ k < 0 ∧ ¬ nI sl ≤ k then (gd (hK H m = 12) <| rq H (hR H 735 m) 100 fun a_18_2 => ix (((16 : Int32) * u) + k) (hN H a_18_2) fun j_23 => if (hA H a_18_2 j_23) = (-1 : Int32) then some (0, sI H 704 m 1) else (if i < 0 then some (0, sI H 704 m 1) else (cl (f_Mod_isLane F m (((16 : Int32) * u) + k) i H) fun v_36 h_36 => if v_36 = 0 then (b_Mod_lane_58 F m i q (((16 : Int32) * u) + k) h_36) else (if q < 0 then (b_Mod_lane_58 F m i q (((16 : Int32) * u) + k) h_36) else (if (20 : Int32) < q then (b_Mod_lane_58 F m i q (((16 : Int32) * u) + k) h_36) else (b_Mod_lane_59 F m i q (((16 : Int32) * u) + k) (1 : Int32) h_36)))))) else some (0, sI H 704 m 1) := by
    rw [f_Mod_lane, gd_t M.k, c_Mod_isSlot M.k, cl_some, Z.nu, Z.sl, bI_ite, r58]
  have b22 : bt_WM_lane_22 F i q none hc = some (50, hc) := by rw [bt_WM_lane_22, nu_none]
  by_cases a1 : ¬ u < 0 ∧ ¬ nI nn ≤ u
  case neg => exact no (by rw [tst, if_neg a1, b22]) (by rw [rst, if_neg (fun y => a1 ⟨y.1, y.2.1⟩)])
  obtain ⟨v, hv, ev⟩ : ∃ j : Nat, j < nn ∧ u = nI j := by
    rcases pk_ix u (n := nn) (by omega) with z | z | z
    · exact absurd z a1.1
    · exact absurd z a1.2
    · exact z
  obtain ⟨cu1, cu2, _⟩ := C.u v (by omega)
  have t2 : t_WM_lane F x u k i q hc = cl (f_Unit_busy F (x + 15 + 3 * v) k hc) fun o_15 h_15 => bt_WM_lane_22 F i q o_15 h_15 := by
    rw [tst, if_pos a1, gd_t C.k, rq_k C.r_units C.k_units, C.n_units, ev, ixn (by omega) (by decide), rq_k cu1 cu2]
  have f2 : f_WM_lane F x u k i q hc = cl (f_Unit_busy F (x + 15 + 3 * v) k hc) fun o_15 h_15 => b_WM_lane_22 F i q o_15 h_15 := by
    rw [fst_, if_pos a1, gd_t C.k, rq_k C.r_units C.k_units, C.n_units, ev, ixn (by omega) (by decide), rq_k cu1 cu2]
  by_cases a2 : k < 0 ∨ nI sl ≤ k
  · exact no (by rw [t2, c_Unit_busy_o cu2 (us v (by omega)) a2, cl_some, b22]) (by rw [rst, if_neg (fun y => a2.elim y.2.2.1 y.2.2.2)])
  have a3 : ¬ k < 0 := fun z => a2 (Or.inl z)
  have a4 : ¬ nI sl ≤ k := fun z => a2 (Or.inr z)
  obtain ⟨p, hp, ep⟩ : ∃ j : Nat, j < sl ∧ k = nI j := by
    rcases pk_ix k (n := sl) (by omega) with z | z | z
    · exact absurd z a3
    · exact absurd z a4
    · exact z
  have r2 : f_Mod_lane F m u k i q H = if hA H (m + 9) (16 * v + p) = -1 then some (0, sI H 704 m 1) else (if i < 0 then some (0, sI H 704 m 1) else (cl (f_Mod_isLane F m (nI (16 * v + p)) i H) fun v_36 h_36 => if v_36 = 0 then (b_Mod_lane_58 F m i q (nI (16 * v + p)) h_36) else (if q < 0 then (b_Mod_lane_58 F m i q (nI (16 * v + p)) h_36) else (if (20 : Int32) < q then (b_Mod_lane_58 F m i q (nI (16 * v + p)) h_36) else (b_Mod_lane_59 F m i q (nI (16 * v + p)) (1 : Int32) h_36))))) := by
    rw [rst, if_pos ⟨a1.1, a1.2, a3, a4⟩, gd_t M.k, rq_k M.r_slotBlock M.k_slotBlock, M.n_slotBlock, ev, ep, n_16, nI_add, ixn (by omega) (by decide)]
  rcases V.busy (F := F) (u := v) (k := p) (by omega) hp with ⟨b1, b2⟩ | ⟨w, rg, pl, ro, pr, ti, L, b, bl, b1, W, B⟩
  · exact no (by rw [t2, ep, b1, cl_some, b22]) (by rw [r2, if_pos b2])
  have nb1 : ¬ hA H (m + 9) (16 * v + p) = -1 := by rw [B.sb]; exact nI_m1 (by have := B.b64; omega)
  rw [if_neg nb1] at r2
  rw [ep, b1, cl_some, ← ep, bt_WM_lane_22, nu_some, gd_t W.k] at t2
  rw [ep, b1, cl_some, ← ep, b_WM_lane_22, nu_some, gd_t W.k] at f2
  by_cases a5 : i < 0
  · exact no (by rw [t2, f_Warp_hasThread, if_pos a5, cl_some, if_pos rfl]) (by rw [r2, if_pos a5])
  rw [if_neg a5] at r2
  have ht : f_Warp_hasThread F w i hc = if nI ln ≤ i then some (0, hc) else (cl (f_WM_in F (hI hc 515 w) i hc) fun v_17 h_17 => if v_17 = 0 then (some ((0 : Int32), h_17)) else (some ((1 : Int32), h_17))) := by
    rw [f_Warp_hasThread, if_neg a5, gd_t W.k, B.lns]
  rw [ht] at t2 f2
  obtain ⟨g, _, eg⟩ := nI_of a5
  have il : f_Mod_isLane F m (nI (16 * v + p)) i H = some (bI (rLn H m (16 * v + p) g), H) := by rw [eg]; exact c_Mod_isLane M (by omega)
  rw [il, cl_some, bI_ite, r58] at r2
  by_cases a6 : nI ln ≤ i
  · exact no (by rw [t2, if_pos a6, cl_some, if_pos rfl]) (by rw [r2, if_neg (fun y => y.1 (by rw [Z.ln, ← eg]; exact a6))])
  have gl : g < ln := by
    by_cases z : ln ≤ g
    · exact absurd (by rw [eg]; exact nI_le z (by omega)) a6
    · omega
  have hin : (cl (f_WM_in F (hI hc 515 w) i hc) fun v_17 h_17 => if v_17 = 0 then (some ((0 : Int32), h_17)) else (some ((1 : Int32), h_17))) = if rLn H m (16 * v + p) g then some (1, hc) else some (0, hc) := by
    rw [c_WM_in, cl_some, bI_ite]
    by_cases z : rLn H m (16 * v + p) g
    · rw [if_pos z, if_pos (by rw [eg, in_iff _ (by omega), B.pre g (by omega)]; exact decide_eq_true z)]
    · rw [if_neg z, if_neg (by rw [eg, in_iff _ (by omega), B.pre g (by omega)]; exact fun y => z (of_decide_eq_true y))]
  rw [if_neg a6, hin] at t2 f2
  by_cases a7 : rLn H m (16 * v + p) g
  case neg => exact no (by rw [t2, if_neg a7, cl_some, if_pos rfl]) (by rw [r2, if_neg a7])
  rw [if_pos a7, cl_some, if_neg (by decide)] at t2 f2
  rw [if_pos a7] at r2
  by_cases a8 : q < 0
  · exact no (by rw [t2, if_pos a8]) (by rw [r2, if_pos a8])
  rw [if_neg a8] at t2 f2 r2
  by_cases a9 : q ≤ 20
  case neg => exact no (by rw [t2, if_neg a9]) (by rw [r2, if_pos (Int32.not_le.mp a9)])
  rw [if_pos a9, gd_t W.k] at t2 f2
  have th : f_Mod_thread F (nI (16 * v + p)) i (sI H 704 m 0) = some (nI (32 * (16 * v + p) + g), sI H 704 m 0) := by rw [eg]; exact c_Mod_thread _ _
  rw [if_neg (Int32.not_lt.mpr a9), b_Mod_lane_59, if_neg (by decide), b_Mod_lane_72, gd_t M.k, pw_e, if_neg (by decide), th, cl_some] at r2
  have M0 : Md (sI H 704 m 0) m := M.tsI
  obtain ⟨r, hr, er⟩ : ∃ n : Nat, n ≤ 20 ∧ q = nI n := nI_of2 (M := 20) (n := 20) rfl a8 a9
  have yes : ∀ z, f_Warp_tellLane F w i q hc = some (z, hc) → f_Mod_lane F m u k i q H = some (z, sI H 704 m 0) → _ := fun z e1 e2 => (Or.inr ⟨z, hc, _, by rw [t2, e1, cl_some], by rw [f2, e1, cl_some], e2, by rw [qI_sI, if_pos ⟨rfl, rfl⟩], J.th, RC.refl _ _ _, RR.th⟩ : (∃ k_1 w kr, t_WM_lane F x u k i q hc = some (k_1, hc) ∧ f_Mod_lane F m u k i q H = some (w, kr) ∧ hI kr 704 m = (fun _ => 1) k_1 ∧ ¬ (fun _ => (1 : Int32)) k_1 = 0 ∧ Jb hc kr x m lo U0 nC ∧ RR m H kr) ∨ (∃ v kc kr, t_WM_lane F x u k i q hc = none ∧ f_WM_lane F x u k i q hc = some (v, kc) ∧ f_Mod_lane F m u k i q H = some (v, kr) ∧ hI kr 704 m = 0 ∧ Jb kc kr x m lo U0 nC ∧ RC m lo hc kc ∧ RR m H kr))
  have s128 : 16 * v + p < 128 := by omega
  have L32 := W.l32
  have lnL := B.lnL
  by_cases b1 : r = 16
  · subst b1
    refine yes (hA H (m + 15) (32 * (16 * v + p) + g)) ?_ ?_
    · rw [f_Warp_tellLane, er, if_pos (show (16 : Int32) ≤ nI 16 from by decide), if_pos (show nI 16 = (16 : Int32) from by decide), gd_t W.k, rq_k W.r_pl W.k_pl, W.n_pl, eg, ixn (by omega) (by omega), B.pla g gl]
    · rw [r2, er, if_pos (show nI 16 ≤ (16 : Int32) from by decide), if_pos (show nI 16 = (16 : Int32) from by decide), gd_t M0.k, rq_k M0.r_place M0.k_place, M0.n_place, ixn (by omega) (by decide), qA_sI]
  by_cases b2 : r < 16
  · refine yes (hA H (m + 13) (16 * (32 * (16 * v + p) + g) + r)) ?_ ?_
    · rw [f_Warp_tellLane, er, if_neg (show ¬ (16 : Int32) ≤ nI r from nI_ge (b := 16) b2 (by omega)), gd_t W.k, eg, c_Warp_register (W.wp B.lns B.lnL) hF gl b2, cl_some, B.reg g r gl b2]
    · rw [r2, er, if_pos (show nI r ≤ (16 : Int32) from nI_le (b := 16) (by omega) (by omega)), if_neg (show ¬ nI r = (16 : Int32) from fun y => b1 (nI_j (b := 16) (by omega) (by decide) y)), gd_t M0.k, c_Mod_reg M0 (by omega) b2, cl_some, qA_sI]
  · have e17 : nI r - 17 = nI (r - 17) := pk_sub (b := 17) (by omega)
    have pe : pn (nI (r - 17)) = r - 17 := by
      have h1 := pn_is (nI (r - 17))
      have h2 : nI (r - 17) &&& 3 = nI (r - 17) := by
        rw [pk_andN (by omega) 2 (by decide)]
        exact congrArg nI (Nat.mod_eq_of_lt (by omega))
      rw [h2] at h1
      exact (nI_j (by omega) (by have := pn_lt (nI (r - 17)); omega) h1).symm
    have a17 : (nI r - 17) &&& 3 = nI (r - 17) := by rw [e17]; exact (pn_is (nI (r - 17))).trans (congrArg nI pe)
    have bb : (¬ (ushr (hA hc pr (r - 17)) (nI g) &&& 1) = 0) ↔ rHas (sI H 704 m 0) m (32 * (16 * v + p) + g) (nI (r - 17)) := by
      rw [in_iff _ (by omega), B.prd _ _ (by omega) (by omega)]
      have := hs3_bt (hA H (m + 14) (32 * (16 * v + p) + g)) (nI (r - 17))
      rw [pe] at this
      rw [← this]
      unfold rHas hs3
      rw [qA_sI]
    refine yes (bI (rHas (sI H 704 m 0) m (32 * (16 * v + p) + g) (nI (r - 17)))) ?_ ?_
    · rw [f_Warp_tellLane, er, if_pos (show (16 : Int32) ≤ nI r from nI_le (a := 16) (by omega) (by omega)), if_neg (show ¬ nI r = (16 : Int32) from fun y => b1 (nI_j (b := 16) (by omega) (by decide) y)), gd_t W.k, rq_k W.r_pr W.k_pr, W.n_pr, a17, ixn (by omega) (by decide), eg, c_WM_in, cl_some, bI_ite]
      by_cases y : rHas (sI H 704 m 0) m (32 * (16 * v + p) + g) (nI (r - 17))
      · rw [if_pos (bb.mpr y), bI_t y]
      · rw [if_neg (fun z => y (bb.mp z)), bI_f y]
    · rw [r2, er, if_neg (show ¬ nI r ≤ (16 : Int32) from nI_ge (a := 16) (by omega) (by omega)), gd_t M0.k, e17, c_Mod_has M0 (by omega), cl_some, bI_ite]
      by_cases y : rHas (sI H 704 m 0) m (32 * (16 * v + p) + g) (nI (r - 17))
      · rw [if_pos y, bI_t y]
      · rw [if_neg y, bI_f y]
theorem sh_found {F : Nat} {H : Hp} {m : Nat} {b j : Int32} (M : Md H m) : ∀ (d i N : Nat) (f : Int32), i + d = 128 → d < N → (f = 1 ∨ (f = 0 ∧ ¬ b < 0 ∧ ∃ s, i ≤ s ∧ s < 128 ∧ hA H (m + 9) s = b)) → b_Mod_shared_5 F N m b j f (nI i) H = if j < 0 then some (0, sI H 704 m 1) else (if (64 : Int32) ≤ j then some (0, sI H 704 m 1) else (b_Mod_shared_64 F m b j m (0 : Int32) H)) := by
  intro d
  have r63 : b_Mod_shared_63 F m b j m H = some (0, sI H 704 m 1) := by
    have q1 : hI (sI H 704 m 1) 704 m = 1 := by rw [qI_sI, if_pos ⟨rfl, rfl⟩]
    rw [b_Mod_shared_63, b_Mod_shared_64, gd_t M.k, pw_e, gd_t (by rw [qK_sI]; exact M.k), q1, if_neg (show ¬ (1 : Int32) = 0 by decide)]
  induction d with
  | zero =>
    intro i N f e1 e2 q
    obtain ⟨N, rfl⟩ : ∃ k, N = k + 1 := ⟨N - 1, by omega⟩
    have f1 : f = 1 := by
      rcases q with z | ⟨_, _, s, z1, z2, _⟩
      · exact z
      · omega
    rw [b_Mod_shared_5]
    dsimp only
    rw [if_pos (show (128 : Int32) ≤ nI i from nI_le (a := 128) (by omega) (by omega)), f1, if_neg (by decide), r63]
  | succ d ih =>
    intro i N f e1 e2 q
    obtain ⟨N, rfl⟩ : ∃ k, N = k + 1 := ⟨N - 1, by omega⟩
    rw [b_Mod_shared_5]
    dsimp only
    rw [if_neg (show ¬ (128 : Int32) ≤ nI i from nI_ge (b := 128) (by omega) (by omega)), nI_1, b_Mod_shared_32, nI_1]
    rcases q with z | ⟨z0, z1, s, z2, z3, z4⟩
    · rw [z, if_neg (by decide)]
      exact ih (i + 1) N 1 (by omega) (by omega) (Or.inl rfl)
    · rw [z0, if_pos rfl, if_neg z1, gd_t M.k, rq_k M.r_slotBlock M.k_slotBlock, M.n_slotBlock, ixn (by omega) (by decide)]
      by_cases y : hA H (m + 9) i = b
      · rw [if_pos y]
        exact ih (i + 1) N 1 (by omega) (by omega) (Or.inl rfl)
      · rw [if_neg y]
        have : ¬ s = i := fun w => y (by rw [← w]; exact z4)
        exact ih (i + 1) N 0 (by omega) (by omega) (Or.inr ⟨rfl, z1, s, by omega, z3, z4⟩)
theorem sh_none {F : Nat} {H : Hp} {m : Nat} {b j : Int32} (M : Md H m) (q : b < 0 ∨ ∀ s, s < 128 → ¬ hA H (m + 9) s = b) : ∀ (d i N : Nat), i + d = 128 → d < N → b_Mod_shared_5 F N m b j 0 (nI i) H = some (0, sI H 704 m 1) := by
  intro d
  have r63 : b_Mod_shared_63 F m b j m H = some (0, sI H 704 m 1) := by
    have q1 : hI (sI H 704 m 1) 704 m = 1 := by rw [qI_sI, if_pos ⟨rfl, rfl⟩]
    rw [b_Mod_shared_63, b_Mod_shared_64, gd_t M.k, pw_e, gd_t (by rw [qK_sI]; exact M.k), q1, if_neg (show ¬ (1 : Int32) = 0 by decide)]
  induction d with
  | zero =>
    intro i N e1 e2
    obtain ⟨N, rfl⟩ : ∃ k, N = k + 1 := ⟨N - 1, by omega⟩
    rw [b_Mod_shared_5]
    dsimp only
    rw [if_pos (show (128 : Int32) ≤ nI i from nI_le (a := 128) (by omega) (by omega)), if_pos rfl, r63]
  | succ d ih =>
    intro i N e1 e2
    obtain ⟨N, rfl⟩ : ∃ k, N = k + 1 := ⟨N - 1, by omega⟩
    have n := ih (i + 1) N (by omega) (by omega)
    rw [b_Mod_shared_5]
    dsimp only
    rw [if_neg (show ¬ (128 : Int32) ≤ nI i from nI_ge (b := 128) (by omega) (by omega)), nI_1, if_pos rfl, gd_t M.k, rq_k M.r_slotBlock M.k_slotBlock, M.n_slotBlock, ixn (by omega) (by decide), n]
    by_cases y : b < 0
    · rw [if_pos y]
    · rw [if_neg y, if_neg (q.resolve_left y i (by omega))]
theorem k_shared {F x m lo U0 : Nat} (hF : 40000 ≤ F) (b j : Int32) : CallT (t_WM_shared F x b j) (f_WM_shared F x b j) (f_Mod_shared F m b j) (fun _ => 1) x m lo U0 := fun nC hc H J => by
  have J0 := J
  obtain ⟨o, ln, sl, nn, bk, ga, sz, c, al, SB⟩ := J0
  have V := SB.vw
  have V0 := V
  obtain ⟨C, T, _, _, _, _, M, Z, SL, BL, us, _⟩ := V0
  have no : t_WM_shared F x b j hc = some (45, hc) → f_Mod_shared F m b j H = some (0, sI H 704 m 1) → _ := fun e1 e2 => (Or.inl ⟨45, 0, _, e1, e2, by rw [qI_sI, if_pos ⟨rfl, rfl⟩], by decide, J.th, RR.th⟩ : (∃ k_1 w kr, t_WM_shared F x b j hc = some (k_1, hc) ∧ f_Mod_shared F m b j H = some (w, kr) ∧ hI kr 704 m = (fun _ => 1) k_1 ∧ ¬ (fun _ => (1 : Int32)) k_1 = 0 ∧ Jb hc kr x m lo U0 nC ∧ RR m H kr) ∨ (∃ v kc kr, t_WM_shared F x b j hc = none ∧ f_WM_shared F x b j hc = some (v, kc) ∧ f_Mod_shared F m b j H = some (v, kr) ∧ hI kr 704 m = 0 ∧ Jb kc kr x m lo U0 nC ∧ RC m lo hc kc ∧ RR m H kr))
  have b22 : bt_WM_shared_22 F j hc = some (45, hc) := by rw [bt_WM_shared_22, bt_WM_shared_23, nu_none]
  have rn : (b < 0 ∨ ∀ s, s < 128 → ¬ hA H (m + 9) s = b) → f_Mod_shared F m b j H = some (0, sI H 704 m 1) := fun q => by
    rw [f_Mod_shared]
    exact sh_none (F := F) M q 128 0 F (by omega) (by omega)
  rcases pk_ix b (n := 64) (by decide) with z | z | ⟨e, he, eb⟩
  · exact no (by rw [t_WM_shared, if_pos z, b22]) (rn (Or.inl z))
  · have z0 : ¬ b < 0 := fun y => by
      have a1 := Int32.lt_iff_toInt_lt.mp y
      have a2 := Int32.le_iff_toInt_le.mp z
      rw [show (nI 64).toInt = 64 from rfl] at a2
      rw [show (0 : Int32).toInt = 0 from rfl] at a1
      omega
    refine no (by rw [t_WM_shared, if_neg z0, gd_t C.k, rq_k C.r_blocks C.k_blocks, C.n_blocks, if_pos z, b22]) (rn (Or.inr fun s hs y => ?_))
    rcases SL s hs with ⟨_, w⟩ | ⟨_, _, _, _, _, _, _, _, _, _, ⟨_, w⟩ | ⟨d, bl, B⟩⟩
    · rw [w] at y; rw [← y] at z0; exact z0 (by decide)
    · rw [w] at y; rw [← y] at z0; exact z0 (by decide)
    · have d64 := B.b64
      rw [← y, B.sb] at z
      exact absurd z (nI_ge d64 (by decide))
  subst eb
  have z0 : ¬ nI e < 0 := nI_pos (by omega)
  have t2 : t_WM_shared F x (nI e) j hc = bt_WM_shared_23 F j (hQ hc (x + 13) e) hc := by
    rw [t_WM_shared, if_neg z0, gd_t C.k, rq_k C.r_blocks C.k_blocks, C.n_blocks, if_neg (nI_ge he (by decide)), ixn he (by decide), pw_e]
  have f2 : f_WM_shared F x (nI e) j hc = b_WM_shared_23 F j (hQ hc (x + 13) e) hc := by
    rw [f_WM_shared, if_neg z0, gd_t C.k, rq_k C.r_blocks C.k_blocks, C.n_blocks, if_neg (nI_ge he (by decide)), ixn he (by decide), pw_e]
  rcases BL e he with ⟨b1, b2⟩ | ⟨bl, bi, b1, ⟨k1, k2, _⟩, ⟨d1, d2, d3, _⟩, ⟨b2, b3⟩ | ⟨w, B⟩⟩
  · exact no (by rw [t2, b1, bt_WM_shared_23, nu_none]) (rn (Or.inr b2))
  · exact no (by rw [t2, b1, bt_WM_shared_23, nu_some, gd_t k1, b2, pw_e, nu_none]) (rn (Or.inr b3))
  · obtain ⟨_, B2, ⟨s, s1, s2⟩, _, _, _, _, _, B9⟩ := B
    have fo := sh_found (F := F) (b := nI e) (j := j) M 128 0 F 0 (by omega) (by omega) (Or.inr ⟨rfl, z0, s, by omega, s1, s2⟩)
    rw [b1, bt_WM_shared_23, nu_some, gd_t k1, B2, pw_e, nu_some] at t2
    rw [b1, b_WM_shared_23, nu_some, gd_t k1, B2, pw_e, nu_some] at f2
    by_cases a1 : j < 0
    · exact no (by rw [t2, if_pos a1]) (by rw [f_Mod_shared]; rw [if_pos a1] at fo; exact fo)
    rw [if_neg a1] at t2 f2 fo
    by_cases a2 : j < 64
    case neg => exact no (by rw [t2, if_neg a2]) (by rw [f_Mod_shared]; rw [if_pos (Int32.not_lt.mp a2)] at fo; exact fo)
    rw [if_pos a2, rq_k d1 d2, d3] at t2 f2
    rw [if_neg (Int32.not_le.mpr a2)] at fo
    obtain ⟨r, hr, er⟩ : ∃ r : Nat, r < 64 ∧ j = nI r := by
      rcases pk_ix j (n := 64) (by decide) with y | y | y
      · exact absurd y a1
      · exact absurd a2 (Int32.not_lt.mpr y)
      · exact y
    subst er
    rw [ixn hr (by decide)] at t2 f2
    have M0 : Md (sI H 704 m 0) m := M.tsI
    have q1 : hI (sI H 704 m 0) 704 m = 0 := by rw [qI_sI, if_pos ⟨rfl, rfl⟩]
    rw [b_Mod_shared_64, gd_t M.k, pw_e, gd_t M0.k, q1, if_pos rfl, rq_k M0.r_shared M0.k_shared, M0.n_shared, n_64, nI_add, ixn (by omega) (by decide), qA_sI] at fo
    refine Or.inr ⟨hA H (m + 18) (64 * e + r), hc, _, t2, by rw [f2, B9 r hr], by rw [f_Mod_shared]; exact fo, by rw [qI_sI, if_pos ⟨rfl, rfl⟩], J.th, RC.refl _ _ _, RR.th⟩
