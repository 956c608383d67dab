/-! the dispatcher -/
theorem c_first {F : Nat} {o : Nat → Nat} {hc H : Hp} {x m lo ln sl nn wr : Nat} (hF : 40000 ≤ F) (X : Sx o hc H x m lo ln sl) (hn : hI hc 66 (x + 1) = nI nn) (n8 : nn ≤ 8) (w16 : wr ≤ 16) : ∀ k, k ≤ nn → (∀ u, u < k → frS H m u sl < wr) → f_WM_firstWithRoom F x (nI wr) hc = b_WM_firstWithRoom_2 F (F - k) x (nI wr) (nI k) hc := by
  intro k
  induction k with
  | zero => intro _ _; rw [f_WM_firstWithRoom, nI_0]; rfl
  | succ k ih =>
    intro hk h
    have C := X.C
    obtain ⟨c1, c2, _⟩ := C.u k (by omega)
    rw [ih (by omega) (fun u hu => h u (by omega))]
    obtain ⟨f, hf⟩ : ∃ f, F - k = f + 1 := ⟨F - k - 1, by omega⟩
    rw [hf, show F - (k + 1) = f by omega, b_WM_firstWithRoom_2]
    dsimp only
    have cnl : frS H m k sl ≤ sl := cn_le _ _
    have s16 := X.s16
    rw [gd_t C.k, rq_k C.r_sizes C.k_sizes, hn, if_neg (nI_ge (by omega) (by omega)), rq_k C.r_units C.k_units, C.n_units, ixn (by omega) (by decide), rq_k c1 c2, X.uf k (by omega), if_pos (nI_lt (h k (by omega)) (by omega)), nI_1]
theorem c_first_some {F : Nat} {o : Nat → Nat} {hc H : Hp} {x m lo ln sl nn wr u : Nat} (hF : 40000 ≤ F) (X : Sx o hc H x m lo ln sl) (hn : hI hc 66 (x + 1) = nI nn) (n8 : nn ≤ 8) (w16 : wr ≤ 16) (hu : u < nn) (h : ∀ u2, u2 < u → frS H m u2 sl < wr) (y : wr ≤ frS H m u sl) : f_WM_firstWithRoom F x (nI wr) hc = some (some (x + 15 + 3 * u), hc) := by
  have C := X.C
  obtain ⟨c1, c2, _⟩ := C.u u (by omega)
  obtain ⟨f, hf⟩ : ∃ f, F - u = f + 1 := ⟨F - u - 1, by omega⟩
  have cnl : frS H m u sl ≤ sl := cn_le _ _
  have s16 := X.s16
  rw [c_first hF X hn n8 w16 u (by omega) h, hf, b_WM_firstWithRoom_2]
  dsimp only
  rw [gd_t C.k, rq_k C.r_sizes C.k_sizes, hn, if_neg (nI_ge (by omega) (by omega)), rq_k C.r_units C.k_units, C.n_units, ixn (by omega) (by decide), rq_k c1 c2, X.uf u (by omega), if_neg (nI_nlt y (by omega)), ixn (by omega) (by decide), pw_e, c1]
theorem c_first_none {F : Nat} {o : Nat → Nat} {hc H : Hp} {x m lo ln sl nn wr : Nat} (hF : 40000 ≤ F) (X : Sx o hc H x m lo ln sl) (hn : hI hc 66 (x + 1) = nI nn) (n8 : nn ≤ 8) (w16 : wr ≤ 16) (h : ∀ u2, u2 < nn → frS H m u2 sl < wr) : f_WM_firstWithRoom F x (nI wr) hc = some (none, hc) := by
  have C := X.C
  obtain ⟨f, hf⟩ : ∃ f, F - nn = f + 1 := ⟨F - nn - 1, by omega⟩
  rw [c_first hF X hn n8 w16 nn (Nat.le_refl _) h, hf, b_WM_firstWithRoom_2]
  dsimp only
  rw [gd_t C.k, rq_k C.r_sizes C.k_sizes, hn, if_pos (i_le_refl _)]
theorem r_find {F : Nat} {H : Hp} {m ln sl nn th wr : Nat} (hF : 40000 ≤ F) (M : Md H m) (hn : hI H 707 m = nI nn) (n8 : nn ≤ 8) (hsl : hI H 706 m = nI sl) (s16 : sl ≤ 16) (hl : hI H 705 m = nI ln) (ht : hI H 717 m = nI th) (l0 : 0 < ln) (l32 : ln ≤ 32) (t5 : th ≤ 512) (ew : wr = (th + ln - 1) / ln) (w16 : wr ≤ 16) (k17 : Nat → Int32 → Hp → Option Hp) : ∀ k, k ≤ nn → (∀ u, u < k → frS H m u sl < wr) → b_Mod_dispatch_23 F k17 F m 0 H = b_Mod_dispatch_23 F k17 (F - k) m (nI k) H := by
  intro k
  induction k with
  | zero => intro _ _; rw [nI_0]; rfl
  | succ k ih =>
    intro hk h
    have cnl : frS H m k sl ≤ sl := cn_le _ _
    rw [ih (by omega) (fun u hu => h u (by omega))]
    obtain ⟨f, hf⟩ : ∃ f, F - k = f + 1 := ⟨F - k - 1, by omega⟩
    rw [hf, show F - (k + 1) = f by omega, b_Mod_dispatch_23]
    dsimp only
    rw [gd_t M.k, hn, if_neg (nI_ge (by omega) (by omega)), c_Mod_freeSlots M hF (by omega) s16 hsl, cl_some, gd_t M.k, c_Mod_warps2 M.k hl ht l0 l32 t5, cl_some, ← ew, if_neg (nI_ge (h k (by omega)) (by omega)), nI_1]
theorem r_find_some {F : Nat} {H : Hp} {m ln sl nn th wr u : Nat} (hF : 40000 ≤ F) (M : Md H m) (hn : hI H 707 m = nI nn) (n8 : nn ≤ 8) (hsl : hI H 706 m = nI sl) (s16 : sl ≤ 16) (hl : hI H 705 m = nI ln) (ht : hI H 717 m = nI th) (l0 : 0 < ln) (l32 : ln ≤ 32) (t5 : th ≤ 512) (ew : wr = (th + ln - 1) / ln) (w16 : wr ≤ 16) (k17 : Nat → Int32 → Hp → Option Hp) (hu : u < nn) (h : ∀ u2, u2 < u → frS H m u2 sl < wr) (y : wr ≤ frS H m u sl) : b_Mod_dispatch_23 F k17 F m 0 H = b_Mod_dispatch_62 F k17 m (nI u) 1 H := by
  have cnl : frS H m u sl ≤ sl := cn_le _ _
  obtain ⟨f, hf⟩ : ∃ f, F - u = f + 1 := ⟨F - u - 1, by omega⟩
  rw [r_find hF M hn n8 hsl s16 hl ht l0 l32 t5 ew w16 k17 u (by omega) h, hf, b_Mod_dispatch_23]
  dsimp only
  rw [gd_t M.k, hn, if_neg (nI_ge (by omega) (by omega)), c_Mod_freeSlots M hF (by omega) s16 hsl, cl_some, gd_t M.k, c_Mod_warps2 M.k hl ht l0 l32 t5, cl_some, ← ew, if_pos (nI_le y (by omega)), b_Mod_dispatch_49, gd_t M.k, hn, if_neg (nI_ge (by omega) (by omega))]
theorem r_find_none {F : Nat} {H : Hp} {m ln sl nn th wr : Nat} (hF : 40000 ≤ F) (M : Md H m) (hn : hI H 707 m = nI nn) (n8 : nn ≤ 8) (hsl : hI H 706 m = nI sl) (s16 : sl ≤ 16) (hl : hI H 705 m = nI ln) (ht : hI H 717 m = nI th) (l0 : 0 < ln) (l32 : ln ≤ 32) (t5 : th ≤ 512) (ew : wr = (th + ln - 1) / ln) (w16 : wr ≤ 16) (k17 : Nat → Int32 → Hp → Option Hp) (h : ∀ u2, u2 < nn → frS H m u2 sl < wr) : b_Mod_dispatch_23 F k17 F m 0 H = k17 m 0 H := by
  obtain ⟨f, hf⟩ : ∃ f, F - nn = f + 1 := ⟨F - nn - 1, by omega⟩
  rw [r_find hF M hn n8 hsl s16 hl ht l0 l32 t5 ew w16 k17 nn (Nat.le_refl _) h, hf, b_Mod_dispatch_23]
  dsimp only
  rw [gd_t M.k, hn, if_pos (i_le_refl _), b_Mod_dispatch_49, gd_t M.k, hn, if_pos (i_le_refl _), b_Mod_dispatch_62, if_pos rfl]
/-- the dispatcher's answer -/
def DiR (hc H kc kr : Hp) (x m lo ln sl nn bk ga sz c pc G U0 nC Ta nb th : Nat) : Prop := (∃ o nx, Sm o kc kr x m lo ln sl nn bk ga sz c pc G U0 nC Ta ∧ La kc kr x m nb th nx ln sl) ∧ RC m lo hc kc ∧ RR m H kr ∧ hI kc 320 (x + 11) = hI hc 320 (x + 11) ∧ hI kr 715 m = hI H 715 m ∧ hI kr 727 m = hI H 727 m ∧ ∀ f, f = 726 ∨ f = 704 → hI kr f m = hI H f m
theorem disp_loop {F : Nat} {x m lo ln sl nn bk ga sz c pc G U0 nC Ta nb th wr : Nat} (hF : 40000 ≤ F) (ew : wr = (th + ln - 1) / ln) : ∀ (d : Nat) (o : Nat → Nat) (hc H : Hp) (nx N N2 : Nat), nb = nx + d → d < N → d + 1 < N2 → Sm o hc H x m lo ln sl nn bk ga sz c pc G U0 nC Ta → La hc H x m nb th nx ln sl → ∃ kc kr, b_WM_dispatch_13 F N x (nI wr) (nI nx) hc = some kc ∧ b_Mod_dispatch_17 F N2 m (if nx < nb then 1 else 0) H = some kr ∧ DiR hc H kc kr x m lo ln sl nn bk ga sz c pc G U0 nC Ta nb th := by
  intro d
  induction d with
  | zero =>
    intro o hc H nx N N2 e1 e2 e3 S LA
    obtain ⟨N, rfl⟩ : ∃ k, N = k + 1 := ⟨N - 1, by omega⟩
    obtain ⟨N2, rfl⟩ : ∃ k, N2 = k + 1 := ⟨N2 - 1, by omega⟩
    have C := S.X.C
    refine ⟨hc, H, ?_, ?_, ⟨o, nx, S, LA⟩, RC.refl _ _ _, RR.refl _ _, rfl, rfl, rfl, fun _ _ => rfl⟩
    · rw [b_WM_dispatch_13]
      dsimp only
      rw [gd_t C.k, rq_k C.r_tally C.k_tally, LA.1, if_pos (by rw [e1]; exact i_le_refl _)]
    · rw [b_Mod_dispatch_17, if_neg (by omega)]
      dsimp only
      rw [if_pos rfl]
  | succ d ih =>
    intro o hc H nx N N2 e1 e2 e3 S LA
    obtain ⟨N, rfl⟩ : ∃ k, N = k + 1 := ⟨N - 1, by omega⟩
    obtain ⟨N2, rfl⟩ : ∃ k, N2 = k + 1 := ⟨N2 - 1, by omega⟩
    have X := S.X
    have C := X.C
    have Z := S.Z
    have LA0 := LA
    obtain ⟨la1, la2, la3, la4, la5, la6, ⟨nb1, nb64⟩, ⟨th1, thl⟩, nxn, lab⟩ := LA0
    have l32 := X.l32
    have s16 := X.s16
    have l0 : 0 < ln := by
      obtain ⟨e, _, h⟩ := Z.lp
      rw [h]; exact Nat.two_pow_pos e
    have t5 : th ≤ 512 := Nat.le_trans thl (Nat.le_trans (Nat.mul_le_mul l32 s16) (by decide))
    have w16 : wr ≤ 16 := by
      rw [ew]
      have h1 : th + ln - 1 < (sl + 1) * ln := by
        rw [Nat.succ_mul, Nat.mul_comm]
        omega
      have := (Nat.div_lt_iff_lt_mul l0).mpr h1
      omega
    have h66 : hI hc 66 (x + 1) = nI nn := by have := S.T.sz 2 (by omega); rw [this]; exact Z.nu
    have cst : b_WM_dispatch_13 F (N + 1) x (nI wr) (nI nx) hc = (cl (f_WM_firstWithRoom F x (nI wr) hc) fun o_56 h_56 => nu o_56 (some h_56) fun a_61 => (gd (hK h_56 x = 1) <| rq h_56 (hR h_56 5 x) 122 fun a_66_2 => ix (nI nx) (hN h_56 a_66_2) fun j_70 => pw (hQ h_56 a_66_2 j_70) fun o_70_2 => nu o_70_2 (pw (hT h_56) fun a_79 => pw (nw h_56 8 0 7) fun h_79_2 => clv (f_Block_init F a_79 (nI nx) h_79_2) fun h_84 => gd (hK h_84 a_66_2 = 122) <| gd (hK h_84 a_79 = 8) <| ix (nI nx) (hN h_84 a_66_2) fun j_87_3 => pw (sQ h_84 a_66_2 j_87_3 (some a_79)) fun h_87_4 => b_WM_dispatch_67 F (b_WM_dispatch_13 F N) x (nI wr) (nI nx) a_61 h_87_4) fun a_71 => (b_WM_dispatch_67 F (b_WM_dispatch_13 F N) x (nI wr) (nI nx) a_61 h_56))) := by
      rw [b_WM_dispatch_13]
      dsimp only
      rw [gd_t C.k, rq_k C.r_tally C.k_tally, la1, if_neg (nI_ge (by omega) (by omega)), rq_k C.r_blocks C.k_blocks, C.n_blocks, if_neg (nI_ge (by omega) (by omega))]
    have rst : b_Mod_dispatch_17 F (N2 + 1) m (if nx < nb then 1 else 0) H = b_Mod_dispatch_23 F (b_Mod_dispatch_17 F N2) F m 0 H := by
      rw [if_pos (by omega), b_Mod_dispatch_17]
      dsimp only
      rw [if_neg (by decide)]
    rw [cst, rst]
    by_cases any : ∃ u, u < nn ∧ wr ≤ frS H m u sl
    · obtain ⟨u, ⟨u1, u2⟩, u3⟩ := pk_least _ any
      have un : ∀ u2, u2 < u → frS H m u2 sl < wr := fun v hv => by
        have := u3 v hv
        by_cases z : wr ≤ frS H m v sl
        · exact absurd ⟨by omega, z⟩ this
        · omega
      have n8 := Z.u1.2
      obtain ⟨o2, kc, kr0, b1, b2, b3, b4, b5, b6, b7, b8, b9, b10, b11, b12⟩ := blk_step (F := F) hF S LA (show nx < nb by omega) (show u < 8 by omega) ew u2 (b_WM_dispatch_13 F N)
      obtain ⟨kc2, kr2, r1, r2, ⟨r3, r4, r5, r6, r7, r8, r9⟩⟩ := ih o2 kc _ (nx + 1) N N2 (by omega) (by omega) (by omega) b5 b6
      refine ⟨kc2, kr2, ?_, ?_, r3, b7.trans r4, b8.trans r5, by rw [r6, b9], by rw [r7, b10], by rw [r8, b11], fun f hf => by rw [r9 f hf, b12 f hf]⟩
      · rw [c_first_some hF X h66 n8 w16 u1 un u2, cl_some, nu_some, b1]
        exact r1
      · rw [r_find_some hF S.M Z.nu n8 Z.sl s16 X.hl la4 l0 l32 t5 ew w16 _ u1 un u2, b_Mod_dispatch_62, if_neg (by decide), gd_t S.M.k, la6, b2, clv_some, gd_t b4, pw_e, b3, nI_1, b6.2.1, b6.2.2.2.2.2.1]
        by_cases z : nx + 1 < nb
        · rw [if_pos z] at r2
          rw [if_neg (nI_ge z (by omega))]
          exact r2
        · rw [if_neg z] at r2
          rw [if_pos (nI_le (by omega) (by omega))]
          exact r2
    · have un : ∀ u2, u2 < nn → frS H m u2 sl < wr := fun v hv => by
        by_cases z : wr ≤ frS H m v sl
        · exact absurd ⟨v, hv, z⟩ any
        · omega
      have n8 := Z.u1.2
      obtain ⟨N3, rfl⟩ : ∃ k, N2 = k + 1 := ⟨N2 - 1, by omega⟩
      refine ⟨hc, H, ?_, ?_, ⟨o, nx, S, LA⟩, RC.refl _ _ _, RR.refl _ _, rfl, rfl, rfl, fun _ _ => rfl⟩
      · rw [c_first_none hF X h66 n8 w16 un, cl_some, nu_none]
      · rw [r_find_none hF S.M Z.nu n8 Z.sl s16 X.hl la4 l0 l32 t5 ew w16 _ un, b_Mod_dispatch_17]
        dsimp only
        rw [if_pos rfl]
theorem dispatch_st {F : Nat} {o : Nat → Nat} {hc H : Hp} {x m lo ln sl nn bk ga sz c pc G U0 nC Ta nb th nx : Nat} (hF : 40000 ≤ F) (S : Sm o hc H x m lo ln sl nn bk ga sz c pc G U0 nC Ta) (LA : La hc H x m nb th nx ln sl) : ∃ kc kr, f_WM_dispatch F x hc = some kc ∧ f_Mod_dispatch F m H = some kr ∧ DiR hc H kc kr x m lo ln sl nn bk ga sz c pc G U0 nC Ta nb th := by
  have X := S.X
  have C := X.C
  have Z := S.Z
  have LA0 := LA
  obtain ⟨la1, la2, la3, la4, la5, la6, ⟨nb1, nb64⟩, ⟨th1, thl⟩, nxn, lab⟩ := LA0
  have l32 := X.l32
  have s16 := X.s16
  have l0 : 0 < ln := by
    obtain ⟨e, _, h⟩ := Z.lp
    rw [h]; exact Nat.two_pow_pos e
  have t5 : th ≤ 512 := Nat.le_trans thl (Nat.le_trans (Nat.mul_le_mul l32 s16) (by decide))
  obtain ⟨kc, kr, r1, r2, r3⟩ := disp_loop (F := F) hF rfl (nb - nx) o hc H nx F F (by omega) (by omega) (by omega) S LA
  have h64 : hI hc 64 (x + 1) = nI ln := by have := S.T.sz 0 (by omega); rw [this]; exact Z.ln
  refine ⟨kc, kr, ?_, ?_, r3⟩
  · have hm : (if (1 : Int32) < nI ln then nI ln else (1 : Int32)) = nI ln := by
      by_cases z : 1 < ln
      · rw [if_pos (show (1 : Int32) < nI ln from by rw [show (1 : Int32) = nI 1 from rfl, Int32.lt_iff_toInt_lt, nI_toInt (by omega), nI_toInt (by omega)]; omega)]
      · rw [show ln = 1 by omega]; split <;> rfl
    have hw : f_WM_warpsOfABlock F x hc = some (nI ((th + ln - 1) / ln), hc) := by
      rw [f_WM_warpsOfABlock, gd_t C.k, rq_k C.r_sizes C.k_sizes, rq_k C.r_tally C.k_tally, h64, hm, gd_t (nI_ne0 l0 (by omega)), la3, nI_add, show (1 : Int32) = nI 1 from rfl, pk_sub (by omega), pk_div (by omega) l0 (by omega)]
    rw [f_WM_dispatch, gd_t C.k, hw, cl_some, gd_t C.k, rq_k C.r_tally C.k_tally, la5]
    exact r1
  · rw [f_Mod_dispatch, gd_t S.M.k, la2, la6, b_Mod_dispatch_16, b_Mod_dispatch_16]
    by_cases z : nx < nb
    · rw [if_pos z] at r2
      rw [if_neg (nI_ge z (by omega))]
      exact r2
    · rw [if_neg z] at r2
      rw [if_pos (nI_le (by omega) (by omega))]
      exact r2
