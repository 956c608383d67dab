/-! every slot is freed -/
def FS (o : Nat → Nat) (h : Hp) (x lo sl : Nat) : Prop := Cd h x ∧ (∀ t, t < 128 → hQ h (x + 16 + 3 * (t / 16)) (t % 16) = none ∨ ∃ w, hQ h (x + 16 + 3 * (t / 16)) (t % 16) = some w ∧ hK h w = 9 ∧ (lo ≤ w ∧ w < hT h) ∧ o w = 6 * t ∧ (hR h 512 w = none ∨ ∃ b bl, b < 64 ∧ hR h 512 w = some bl ∧ hQ h (x + 13) b = some bl ∧ hR h 450 bl = some (x + 15 + 3 * (t / 16)) ∧ t % 16 < sl)) ∧ (∀ b, b < 64 → hQ h (x + 13) b = none ∨ ∃ bl, hQ h (x + 13) b = some bl ∧ hK h bl = 8 ∧ (lo ≤ bl ∧ bl < hT h) ∧ o bl = 1000 + 2 * b ∧ (hR h 450 bl = none ∨ ∃ u, u < 8 ∧ hR h 450 bl = some (x + 15 + 3 * u))) ∧ (∀ u, u < 8 → hI h 386 (x + 15 + 3 * u) = nI sl) ∧ (∀ u, u < 8 → hI h 387 (x + 15 + 3 * u) = nI (cn (fun k => (bz h (x + 16 + 3 * u) k).isNone) sl)) ∧ sl ≤ 16 ∧ x + 38 < lo ∧ x + 38 < hT h
def PFR (x lo : Nat) (h : Hp) (f a : Nat) : Prop := (f = 512 ∧ lo ≤ a ∧ hK h a = 9) ∨ (f = 450 ∧ lo ≤ a ∧ hK h a = 8) ∨ (f = 387 ∧ x + 15 ≤ a ∧ a ≤ x + 38)
theorem FS.slot {o : Nat → Nat} {h : Hp} {x lo sl u k w : Nat} (S : FS o h x lo sl) (hu : u < 8) (hk : k < 16) (e : hQ h (x + 16 + 3 * u) k = some w) : hK h w = 9 ∧ (lo ≤ w ∧ w < hT h) ∧ o w = 6 * (16 * u + k) ∧ (hR h 512 w = none ∨ ∃ b bl, b < 64 ∧ hR h 512 w = some bl ∧ hQ h (x + 13) b = some bl ∧ hR h 450 bl = some (x + 15 + 3 * u) ∧ k < sl) := by
  have := S.2.1 (16 * u + k) (by omega)
  rw [show (16 * u + k) / 16 = u by omega, show (16 * u + k) % 16 = k by omega] at this
  rcases this with z | ⟨w2, z1, z2⟩
  · rw [e] at z; cases z
  · rw [e] at z1; cases z1; exact z2
theorem bz_cases (h : Hp) (wa k : Nat) : (bz h wa k = none ∧ ∀ w, hQ h wa k = some w → hR h 512 w = none) ∨ ∃ w b, bz h wa k = some w ∧ hQ h wa k = some w ∧ hR h 512 w = some b := by
  unfold bz
  cases e : hQ h wa k with
  | none => exact Or.inl ⟨rfl, fun w z => by cases z⟩
  | some w =>
    dsimp only
    cases e2 : hR h 512 w with
    | none => exact Or.inl ⟨rfl, fun w2 z => by cases z; exact e2⟩
    | some b => exact Or.inr ⟨w, b, rfl, rfl, e2⟩
/-- one warp is freed -/
theorem FS.one {o : Nat → Nat} {h : Hp} {x lo sl u k w bl : Nat} (S : FS o h x lo sl) (hu : u < 8) (hk : k < sl) (e : hQ h (x + 16 + 3 * u) k = some w) (e2 : hR h 512 w = some bl) : FS o (sI (sR h 512 w none) 387 (x + 15 + 3 * u) (hI h 387 (x + 15 + 3 * u) + 1)) x lo sl := by
  have S0 := S
  obtain ⟨C, s1, s2, s3, s4, s5, lx, hx⟩ := S
  obtain ⟨w1, w2, w3, _⟩ := S0.slot hu (by omega) e
  have bzw : ∀ v j, v < 8 → j < 16 → ¬ (v = u ∧ j = k) → bz (sI (sR h 512 w none) 387 (x + 15 + 3 * u) (hI h 387 (x + 15 + 3 * u) + 1)) (x + 16 + 3 * v) j = bz h (x + 16 + 3 * v) j := fun v j hv hj n => by
    unfold bz
    rw [qQ_sI, qQ_sR]
    cases e3 : hQ h (x + 16 + 3 * v) j with
    | none => rfl
    | some w4 =>
      dsimp only
      obtain ⟨_, _, w5, _⟩ := S0.slot hv hj e3
      rw [qR_sI, qR_sR, if_neg (fun y => by have := y.2; subst this; omega)]
  have bz1 : bz (sI (sR h 512 w none) 387 (x + 15 + 3 * u) (hI h 387 (x + 15 + 3 * u) + 1)) (x + 16 + 3 * u) k = none := by
    unfold bz
    rw [qQ_sI, qQ_sR, e]
    dsimp only
    rw [qR_sI, qR_sR, if_pos ⟨rfl, rfl⟩]
  refine ⟨C.same (by rw [qK_sI, qK_sR]) (by rw [qN_sI, qN_sR]) (fun f a hf => by rw [qR_sI, qR_sR, if_neg (fun y => by omega)]) (fun j => by rw [qQ_sI, qQ_sR]), fun t ht => ?_, fun b hb => ?_, fun v hv => ?_, fun v hv => ?_, s5, lx, hx⟩
  · rw [qQ_sI, qQ_sR, qK_sI, qK_sR]
    rcases s1 t ht with z | ⟨w4, z1, z2, z3, z4, z5⟩
    · exact Or.inl z
    · refine Or.inr ⟨w4, z1, z2, z3, z4, ?_⟩
      by_cases ew : w4 = w
      · subst ew
        exact Or.inl (by rw [qR_sI, qR_sR, if_pos ⟨rfl, rfl⟩])
      · rcases z5 with z5 | ⟨b, bl2, y1, y2, y3, y4, y5⟩
        · exact Or.inl (by rw [qR_sI, qR_sR, if_neg (fun y => ew y.2)]; exact z5)
        · exact Or.inr ⟨b, bl2, y1, by rw [qR_sI, qR_sR, if_neg (fun y => ew y.2)]; exact y2, y3, by rw [qR_sI, qR_sR, if_neg (fun y => by omega)]; exact y4, y5⟩
  · rw [qQ_sI, qQ_sR, qK_sI, qK_sR]
    rcases s2 b hb with z | ⟨bl2, z1, z2, z3, z4, z5⟩
    · exact Or.inl z
    · refine Or.inr ⟨bl2, z1, z2, z3, z4, ?_⟩
      rw [qR_sI, qR_sR, if_neg (fun y => by omega)]
      exact z5
  · rw [qI_sI, if_neg (fun y => by omega), qI_sR]; exact s3 v hv
  · rw [qI_sI]
    by_cases ev : v = u
    · subst ev
      rw [if_pos ⟨rfl, rfl⟩]
      refine Eq.trans (b := nI (cn (fun k => (bz h (x + 16 + 3 * v) k).isNone) sl) + 1) (by rw [← s4 v hv]) ?_
      rw [nI_1]
      refine congrArg nI (Eq.symm ?_)
      rw [cn_congr (P := fun k => (bz h (x + 16 + 3 * v) k).isNone) (Q := fun k => decide (k < sl) && (bz h (x + 16 + 3 * v) k).isNone) sl (fun i hi => by rw [decide_eq_true hi, Bool.true_and])]
      rw [cn_congr (P := fun k => (bz (sI (sR h 512 w none) 387 (x + 15 + 3 * v) (hI h 387 (x + 15 + 3 * v) + 1)) (x + 16 + 3 * v) k).isNone) (Q := fun k => decide (k < sl) && (bz (sI (sR h 512 w none) 387 (x + 15 + 3 * v) (hI h 387 (x + 15 + 3 * v) + 1)) (x + 16 + 3 * v) k).isNone) sl (fun i hi => by rw [decide_eq_true hi, Bool.true_and])]
      refine cn_up sl hk ?_ (by rw [bz1, decide_eq_true hk]; rfl) ?_
      · rw [bz_some e e2, decide_eq_true hk]; rfl
      · intro i ni
        by_cases hi : i < sl
        · rw [bzw v i hv (by omega) (fun y => ni y.2)]
        · rw [decide_eq_false hi, Bool.false_and, Bool.false_and]
    · rw [if_neg (fun y => ev (by have := y.2; omega)), qI_sR, s4 v hv]
      exact congrArg nI (cn_congr sl fun i hi => by rw [bzw v i hv (by omega) (fun y => ev y.1)])
/-- the warps of one block are freed -/
theorem free_blk {F : Nat} {o : Nat → Nat} {h0 : Hp} {x lo sl u b bl : Nat} (hF : 40000 ≤ F) (S0 : FS o h0 x lo sl) (hu : u < 8) (hb : b < 64) (eq : hQ h0 (x + 13) b = some bl) (eu : hR h0 450 bl = some (x + 15 + 3 * u)) : ∃ k, f_Unit_free F (x + 15 + 3 * u) (some bl) h0 = some k ∧ FS o k x lo sl ∧ Fr (PFR x lo h0) h0 k ∧ hT k = hT h0 ∧ hU k = hU h0 ∧ hR k 450 bl = none ∧ (∀ a, ¬ a = bl → hR k 450 a = hR h0 450 a) := by
  have lx : x + 38 < lo := S0.2.2.2.2.2.2.1
  have loop : ∀ (d k N : Nat) (h : Hp), k + d = sl → d < N → FS o h x lo sl → Fr (PFR x lo h0) h0 h → hT h = hT h0 → hU h = hU h0 → (∀ a, hR h 450 a = hR h0 450 a) → (∀ a, hQ h a = hQ h0 a) → (∀ j w, j < k → hQ h (x + 16 + 3 * u) j = some w → ¬ hR h 512 w = some bl) → ∃ k2, b_Unit_free_2 F N (x + 15 + 3 * u) (some bl) (nI k) h = some k2 ∧ FS o k2 x lo sl ∧ Fr (PFR x lo h0) h0 k2 ∧ hT k2 = hT h0 ∧ hU k2 = hU h0 ∧ hR k2 450 bl = none ∧ (∀ a, ¬ a = bl → hR k2 450 a = hR h0 450 a) := by
    intro d
    induction d with
    | zero =>
      intro k N h e1 e2 S A t1 t2 r4 q9 fr
      obtain ⟨N, rfl⟩ : ∃ k, N = k + 1 := ⟨N - 1, by omega⟩
      have ek : k = sl := by omega
      subst ek
      have S9 := S
      obtain ⟨C, s1, s2, s3, s4, s5, _, hx⟩ := S
      obtain ⟨cu1, cu2, cu3, cu4, cu5, _⟩ := C.u u hu
      obtain ⟨b1, b2, b3⟩ : hK h bl = 8 ∧ (lo ≤ bl ∧ bl < hT h) ∧ o bl = 1000 + 2 * b := by
        rcases s2 b hb with z | ⟨bl2, z1, z2, z3, z4, _⟩
        · rw [q9, eq] at z; cases z
        · rw [q9, eq] at z1; cases z1; exact ⟨z2, z3, z4⟩
      have A2 : Fr (PFR x lo h0) h0 (sR h 450 bl none) := A.cR (Or.inr (Or.inl ⟨rfl, b2.1, by rw [← (A.2 bl (by omega)).1]; exact b1⟩))
      have C2 : Cd (sR h 450 bl none) x := S0.1.frame A2 (by omega) (fun f _ z => by unfold PFR at z; omega) (fun f _ _ z => by unfold PFR at z; omega) (fun f _ _ z => by unfold PFR at z; omega) (fun f _ _ z => by unfold PFR at z; omega) (fun z => by unfold PFR at z; omega) (fun u f _ _ _ z => by unfold PFR at z; omega)
      refine ⟨sR h 450 bl none, ?_, ⟨C2, fun t ht => ?_, fun c hc => ?_, fun v hv => by rw [qI_sR]; exact s3 v hv, fun v hv => ?_, s5, lx, hx⟩, A2, t1, t2, by rw [qR_sR, if_pos ⟨rfl, rfl⟩], fun a na => by rw [qR_sR, if_neg (fun y => na y.2)]; exact r4 a⟩
      · rw [b_Unit_free_2]
        dsimp only
        rw [gd_t cu2, s3 u hu, if_pos (i_le_refl _), rq_k rfl b1, pw_e]
      · rw [qQ_sR, qK_sR]
        rcases s1 t ht with z | ⟨w4, z1, z2, z3, z4, z5⟩
        · exact Or.inl z
        · refine Or.inr ⟨w4, z1, z2, z3, z4, ?_⟩
          rw [qR_sR, if_neg (fun y => by omega)]
          rcases z5 with z5 | ⟨c, bl2, y1, y2, y3, y4, y5⟩
          · exact Or.inl z5
          · refine Or.inr ⟨c, bl2, y1, y2, y3, ?_, y5⟩
            by_cases e : bl2 = bl
            · exfalso
              subst e
              rw [r4, eu] at y4
              injection y4 with y4
              have : t / 16 = u := by omega
              rw [this] at z1
              exact fr (t % 16) w4 y5 z1 y2
            · rw [qR_sR, if_neg (fun y => e y.2)]; exact y4
      · rw [qQ_sR, qK_sR]
        rcases s2 c hc with z | ⟨bl2, z1, z2, z3, z4, z5⟩
        · exact Or.inl z
        · refine Or.inr ⟨bl2, z1, z2, z3, z4, ?_⟩
          by_cases e : bl2 = bl
          · exact Or.inl (by rw [qR_sR, if_pos ⟨rfl, e⟩])
          · rw [qR_sR, if_neg (fun y => e y.2)]; exact z5
      · rw [qI_sR, s4 v hv]
        refine congrArg nI (cn_congr _ fun i hi => ?_)
        unfold bz
        rw [qQ_sR]
        cases hQ h (x + 16 + 3 * v) i with
        | none => rfl
        | some w => dsimp only; rw [qR_sR, if_neg (fun y => by omega)]
    | succ d ih =>
      intro k N h e1 e2 S A t1 t2 r4 q9 fr
      obtain ⟨N, rfl⟩ : ∃ k, N = k + 1 := ⟨N - 1, by omega⟩
      have S9 := S
      obtain ⟨C, s1, s2, s3, s4, s5, _, hx⟩ := S9
      obtain ⟨cu1, cu2, cu3, cu4, cu5, _⟩ := C.u u hu
      have bu := c_Unit_busy (F := F) (k := k) cu2 cu3 cu4 cu5 (s3 u hu) s5 (by omega) (fun w e => (S.slot hu (by omega) e).1)
      rw [b_Unit_free_2]
      dsimp only
      rw [gd_t cu2, s3 u hu, if_neg (nI_ge (by omega) (by omega)), bu, cl_some, nI_1]
      rcases bz_cases h (x + 16 + 3 * u) k with ⟨z1, z2⟩ | ⟨w, c, z1, z2, z3⟩
      · rw [z1, nu_none]
        refine ih (k + 1) N h (by omega) (by omega) S A t1 t2 r4 q9 (fun j w hj e => ?_)
        by_cases ej : j = k
        · subst ej; rw [z2 w e]; exact fun y => by cases y
        · exact fr j w (by omega) e
      · obtain ⟨w1, w2, w3, w4⟩ := S.slot hu (by omega) z2
        rw [z1, nu_some, gd_t w1, pw_e, z3]
        by_cases ec : c = bl
        · subst ec
          rw [if_pos rfl, pw_e, gd_t (by rw [qK_sR]; exact cu2), pw_e, qI_sR]
          have S2 := S.one hu (by omega) z2 z3
          have x0 : hK h0 w = 9 := by rw [← (A.2 w (by omega)).1]; exact w1
          refine ih (k + 1) N _ (by omega) (by omega) S2 ((A.cR (Or.inl ⟨rfl, w2.1, x0⟩)).cI (Or.inr (Or.inr ⟨rfl, by omega, by omega⟩))) t1 t2 (fun a => by rw [qR_sI, qR_sR, if_neg (fun y => by omega)]; exact r4 a) (fun a => by rw [qQ_sI, qQ_sR]; exact q9 a) (fun j w5 hj e => ?_)
          rw [qQ_sI, qQ_sR] at e
          rw [qR_sI, qR_sR]
          by_cases ew : w5 = w
          · rw [if_pos ⟨rfl, ew⟩]; exact fun y => by cases y
          · rw [if_neg (fun y => ew y.2)]
            by_cases ej : j = k
            · subst ej; rw [z2] at e; cases e; exact absurd rfl ew
            · exact fr j w5 (by omega) e
        · rw [if_neg (fun y => ec (by injection y))]
          refine ih (k + 1) N h (by omega) (by omega) S A t1 t2 r4 q9 (fun j w5 hj e => ?_)
          by_cases ej : j = k
          · subst ej; rw [z2] at e; cases e; rw [z3]; exact fun y => ec (by injection y)
          · exact fr j w5 (by omega) e
  have s16 : sl ≤ 16 := S0.2.2.2.2.2.1
  exact loop sl 0 F h0 (by omega) (by omega) S0 (Fr.refl h0) rfl rfl (fun _ => rfl) (fun _ => rfl) (fun j w hj => by omega)
/-- every block's warps are freed -/
theorem free_all {F : Nat} {o : Nat → Nat} {h0 : Hp} {x lo sl : Nat} (hF : 40000 ≤ F) (S0 : FS o h0 x lo sl) : ∃ k, f_WM_freeAllSlots F x h0 = some k ∧ FS o k x lo sl ∧ Fr (PFR x lo h0) h0 k ∧ hT k = hT h0 ∧ hU k = hU h0 ∧ (∀ t w, t < 128 → hQ k (x + 16 + 3 * (t / 16)) (t % 16) = some w → hR k 512 w = none) ∧ (∀ b bl, b < 64 → hQ k (x + 13) b = some bl → hR k 450 bl = none) ∧ (∀ u, u < 8 → hI k 387 (x + 15 + 3 * u) = nI sl) := by
  have lx : x + 38 < lo := S0.2.2.2.2.2.2.1
  have loop : ∀ (d b N : Nat) (h : Hp), b + d = 64 → d < N → FS o h x lo sl → Fr (PFR x lo h0) h0 h → hT h = hT h0 → hU h = hU h0 → (∀ c bl, c < b → hQ h (x + 13) c = some bl → hR h 450 bl = none) → ∃ k, b_WM_freeAllSlots_2 F N x (nI b) h = some k ∧ FS o k x lo sl ∧ Fr (PFR x lo h0) h0 k ∧ hT k = hT h0 ∧ hU k = hU h0 ∧ (∀ c bl, c < 64 → hQ k (x + 13) c = some bl → hR k 450 bl = none) := by
    intro d
    induction d with
    | zero =>
      intro b N h e1 e2 S A t1 t2 q
      obtain ⟨N, rfl⟩ : ∃ k, N = k + 1 := ⟨N - 1, by omega⟩
      have C := S.1
      refine ⟨h, ?_, S, A, t1, t2, fun c bl hc => q c bl (by omega)⟩
      rw [b_WM_freeAllSlots_2]
      dsimp only
      rw [gd_t C.k, rq_k C.r_blocks C.k_blocks, C.n_blocks, if_pos (nI_le (by omega) (by omega))]
    | succ d ih =>
      intro b N h e1 e2 S A t1 t2 q
      obtain ⟨N, rfl⟩ : ∃ k, N = k + 1 := ⟨N - 1, by omega⟩
      have C := S.1
      have hx : x + 38 < hT h := S.2.2.2.2.2.2.2
      have nxt : (∀ bl, hQ h (x + 13) b = some bl → hR h 450 bl = none) → ∃ k, b_WM_freeAllSlots_2 F N x (nI (b + 1)) h = some k ∧ FS o k x lo sl ∧ Fr (PFR x lo h0) h0 k ∧ hT k = hT h0 ∧ hU k = hU h0 ∧ (∀ c bl, c < 64 → hQ k (x + 13) c = some bl → hR k 450 bl = none) := fun y => ih (b + 1) N h (by omega) (by omega) S A t1 t2 (fun c bl hc e => by
        by_cases z : c = b
        · subst z; exact y bl e
        · exact q c bl (by omega) e)
      rw [b_WM_freeAllSlots_2]
      dsimp only
      rw [gd_t C.k, rq_k C.r_blocks C.k_blocks, C.n_blocks, if_neg (nI_ge (by omega) (by omega)), ixn (by omega) (by decide), pw_e, nI_1]
      rcases S.2.2.1 b (by omega) with z | ⟨bl, z1, z2, z3, z4, z5⟩
      · rw [z, nu_none]
        exact nxt (fun bl e => by rw [z] at e; cases e)
      · rw [z1, nu_some, gd_t z2, pw_e]
        rcases z5 with z5 | ⟨u, hu, z5⟩
        · rw [z5, nu_none]
          exact nxt (fun bl2 e => by rw [z1] at e; cases e; exact z5)
        · obtain ⟨k, f1, f2, f3, f4, f5, f6, f7⟩ := free_blk (F := F) hF S hu (by omega) z1 z5
          rw [z5, nu_some, rq_k rfl (C.u u hu).2.1, f1, clv_some]
          have A3 : Fr (PFR x lo h0) h0 k := A.trans (f3.mono (fun f a ha y => by
            unfold PFR at y ⊢
            rw [(A.2 a (by omega)).1] at y
            exact y))
          have q13 : ∀ c, hQ k (x + 13) c = hQ h (x + 13) c := fun c => ((f3.2 (x + 13) (by omega)).2.2.2 (fun y => by unfold PFR at y; omega) c).2.1
          refine ih (b + 1) N k (by omega) (by omega) f2 A3 (f4.trans t1) (f5.trans t2) (fun c bl2 hc e => ?_)
          rw [q13] at e
          by_cases e9 : bl2 = bl
          · rw [e9]; exact f6
          · rw [f7 _ e9]
            have : ¬ c = b := fun y => by rw [y, z1] at e; cases e; exact e9 rfl
            exact q c bl2 (by omega) e
  obtain ⟨k, k1, k2, k3, k4, k5, k6⟩ := loop 64 0 F h0 (by omega) (by omega) S0 (Fr.refl h0) rfl rfl (fun c bl hc => by omega)
  have al : ∀ t w, t < 128 → hQ k (x + 16 + 3 * (t / 16)) (t % 16) = some w → hR k 512 w = none := fun t w ht e => by
    rcases k2.2.1 t ht with z | ⟨w2, z1, z2, z3, z4, z5⟩
    · rw [z] at e; cases e
    · rw [z1] at e; cases e
      rcases z5 with z5 | ⟨b, bl, y1, y2, y3, y4, _⟩
      · exact z5
      · rw [k6 b bl y1 y3] at y4; cases y4
  refine ⟨k, k1, k2, k3, k4, k5, al, k6, fun u hu => ?_⟩
  have s16 := k2.2.2.2.2.2.1
  rw [k2.2.2.2.2.1 u hu]
  refine congrArg nI ?_
  have e1 : cn (fun j => (bz k (x + 16 + 3 * u) j).isNone) sl = cn (fun _ => true) sl := cn_congr sl fun j hj => by
    rcases bz_cases k (x + 16 + 3 * u) j with ⟨z, _⟩ | ⟨w, c, z1, z2, z3⟩
    · rw [z]; rfl
    · have := al (16 * u + j) w (by omega) (by rw [show (16 * u + j) / 16 = u by omega, show (16 * u + j) % 16 = j by omega]; exact z2)
      rw [this] at z3; cases z3
  rw [e1]
  have : ∀ n, cn (fun _ => true) n = n := fun n => by
    induction n with
    | zero => rfl
    | succ n ih => rw [cn_snoc, ih, if_pos rfl]
  exact this sl
theorem VW.fs {o : Nat → Nat} {hc H : Hp} {x m lo ln sl nn bk ga sz : Nat} (V : VW o hc H x m lo ln sl nn bk ga sz) : FS o hc x lo sl := by
  obtain ⟨C, _, _, _, _, _, M, Z, SL, BL, us, hx, lx, Kk, nf, lh, uf⟩ := V
  have s16 := Z.s1.2
  have slot : ∀ t, t < 128 → hQ hc (x + 16 + 3 * (t / 16)) (t % 16) = none ∨ ∃ w, hQ hc (x + 16 + 3 * (t / 16)) (t % 16) = some w ∧ hK hc w = 9 ∧ (lo ≤ w ∧ w < hT hc) ∧ o w = 6 * t ∧ (hR hc 512 w = none ∨ ∃ b bl, b < 64 ∧ hR hc 512 w = some bl ∧ hQ hc (x + 13) b = some bl ∧ hR hc 450 bl = some (x + 15 + 3 * (t / 16)) ∧ t % 16 < sl) := fun t ht => by
    rcases SL t ht with ⟨z, _⟩ | ⟨w, rg, pl, ro, pr, ti, L, z1, W, _, z3⟩
    · exact Or.inl z
    · refine Or.inr ⟨w, z1, W.k, W.bw, W.tw, ?_⟩
      rcases z3 with ⟨z3, _⟩ | ⟨b, bl, B⟩
      · exact Or.inl z3
      · refine Or.inr ⟨b, bl, B.b64, B.blk, B.bq, ?_, nf t ht (by rw [B.sb]; exact nI_m1 (by have := B.b64; omega))⟩
        rcases BL b B.b64 with ⟨y, _⟩ | ⟨bl2, bi, y1, _, _, ⟨_, y2⟩ | ⟨u, I⟩⟩
        · rw [B.bq] at y; cases y
        · exact absurd B.sb (y2 t ht)
        · rw [B.bq] at y1; cases y1
          rw [I.2.2.2.1 t ht B.sb]; exact I.2.1
  refine ⟨C, slot, fun b hb => ?_, us, fun u hu => ?_, s16, lx, hx⟩
  · rcases BL b hb with ⟨y, _⟩ | ⟨bl2, bi, y1, ⟨y2, _, y3, y4⟩, _, ⟨y5, _⟩ | ⟨u, I⟩⟩
    · exact Or.inl y
    · exact Or.inr ⟨bl2, y1, y2, y4, y3, Or.inl y5⟩
    · exact Or.inr ⟨bl2, y1, y2, y4, y3, Or.inr ⟨u, I.1, I.2.1⟩⟩
  · rw [uf u hu]
    refine congrArg nI (cn_congr sl fun k hk => ?_)
    have := SL (16 * u + k) (by omega)
    rw [show (16 * u + k) / 16 = u by omega, show (16 * u + k) % 16 = k by omega] at this
    rcases this with ⟨z, z2⟩ | ⟨w, rg, pl, ro, pr, ti, L, z1, W, _, ⟨z3, z4⟩ | ⟨b, bl, B⟩⟩
    · rw [decide_eq_true z2]
      unfold bz
      rw [z]; rfl
    · rw [decide_eq_true z4]
      unfold bz
      rw [z1]
      dsimp only
      rw [z3]; rfl
    · rw [decide_eq_false (by rw [B.sb]; exact nI_m1 (by have := B.b64; omega)), bz_some z1 B.blk]; rfl
