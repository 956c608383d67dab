/-! the reference: whether a lane asks again; the banks -/
theorem c_Mod_isAgain {F : Nat} {h : Hp} {m s i a : Nat} (M : Md h m) (hF : 40000 ≤ F) (hs : s < 128) (hi : i < 32) (ha : hI h 758 m = nI a) (la : a < 16) : f_Mod_isAgain F m (nI s) (nI i) h = some (bI (exB (fun j => dsB h m j && decide (aS h m s a j = aS h m s a i)) i = true), h) := by
  have step : ∀ n j, j < i → (dsB h m j && decide (aS h m s a j = aS h m s a i)) = false → b_Mod_isAgain_2 F (n + 1) m (nI s) (nI i) (nI j) h = b_Mod_isAgain_2 F n m (nI s) (nI i) (nI (j + 1)) h := by
    intro n j hj q
    rw [b_Mod_isAgain_2]
    dsimp only
    rw [if_neg (nI_ge hj (by omega)), gd_t M.k, rq_k M.r_does M.k_does, M.n_does, ixn (by omega) (by decide), nI_1]
    by_cases d0 : hA h (m + 27) j = 0
    · rw [if_pos d0]
    · have d1 : dsB h m j = true := decide_eq_true d0
      rw [d1, Bool.true_and] at q
      have ne : ¬ aS h m s a j = aS h m s a i := of_decide_eq_false q
      rw [if_neg d0, c_Mod_asked M hs (by omega) ha la, cl_some, gd_t M.k, c_Mod_asked M hs hi ha la, cl_some, if_neg ne]
  by_cases c : exB (fun j => dsB h m j && decide (aS h m s a j = aS h m s a i)) i = true
  · obtain ⟨j0, k1, k2⟩ := (exB_iff _ _).mp c
    obtain ⟨j, q1, q2⟩ := pk_least (fun j => (dsB h m j && decide (aS h m s a j = aS h m s a i)) = true) ⟨j0, k2⟩
    have hj : j ≤ j0 := Nat.not_lt.mp fun z => q2 j0 z k2
    have st := iterF (fun n j => b_Mod_isAgain_2 F n m (nI s) (nI i) (nI j) h) j (fun l n hl => step n l (by omega) (by simpa using q2 l hl)) (F := F) (by omega)
    rw [nI_0] at st
    have d1 : dsB h m j = true := (Bool.and_eq_true_iff.mp q1).1
    have d0 : ¬ hA h (m + 27) j = 0 := of_decide_eq_true d1
    have e1 : aS h m s a j = aS h m s a i := of_decide_eq_true (Bool.and_eq_true_iff.mp q1).2
    rw [f_Mod_isAgain, st, b_Mod_isAgain_2]
    dsimp only
    rw [if_neg (nI_ge (show j < i by omega) (by omega)), gd_t M.k, rq_k M.r_does M.k_does, M.n_does, ixn (by omega) (by decide), if_neg d0, c_Mod_asked M hs (by omega) ha la, cl_some, gd_t M.k, c_Mod_asked M hs hi ha la, cl_some, if_pos e1, bI_t c]
  · have st := iterF (fun n j => b_Mod_isAgain_2 F n m (nI s) (nI i) (nI j) h) i (fun l n hl => step n l hl (by
      cases e : (dsB h m l && decide (aS h m s a l = aS h m s a i)) with
      | false => rfl
      | true => exact absurd ((exB_iff _ _).mpr ⟨l, hl, e⟩) c)) (F := F) (by omega)
    rw [nI_0] at st
    rw [f_Mod_isAgain, st, b_Mod_isAgain_2]
    dsimp only
    rw [if_pos (nI_le (Nat.le_refl _) (by omega)), bI_f c]
/-- the lines asked for -/
abbrev aL (h : Hp) (m s a i : Nat) : Int32 := aS h m s a i / 8
theorem c_Mod_isLineAgain {F : Nat} {h : Hp} {m s i a : Nat} (M : Md h m) (hF : 40000 ≤ F) (hs : s < 128) (hi : i < 32) (ha : hI h 758 m = nI a) (la : a < 16) : f_Mod_isLineAgain F m (nI s) (nI i) h = some (bI (exB (fun j => dsB h m j && decide (aL h m s a j = aL h m s a i)) i = true), h) := by
  have n8 : ¬ (8 : Int32) = 0 := by decide
  have step : ∀ n j, j < i → (dsB h m j && decide (aL h m s a j = aL h m s a i)) = false → b_Mod_isLineAgain_2 F (n + 1) m (nI s) (nI i) (nI j) h = b_Mod_isLineAgain_2 F n m (nI s) (nI i) (nI (j + 1)) h := by
    intro n j hj q
    rw [b_Mod_isLineAgain_2]
    dsimp only
    rw [if_neg (nI_ge hj (by omega)), gd_t M.k, rq_k M.r_does M.k_does, M.n_does, ixn (by omega) (by decide), nI_1]
    by_cases d0 : hA h (m + 27) j = 0
    · rw [if_pos d0]
    · have d1 : dsB h m j = true := decide_eq_true d0
      rw [d1, Bool.true_and] at q
      have ne : ¬ aL h m s a j = aL h m s a i := of_decide_eq_false q
      rw [if_neg d0, c_Mod_asked M hs (by omega) ha la, cl_some, gd_t n8, gd_t M.k, c_Mod_asked M hs hi ha la, cl_some, gd_t n8, if_neg ne]
  by_cases c : exB (fun j => dsB h m j && decide (aL h m s a j = aL h m s a i)) i = true
  · obtain ⟨j0, k1, k2⟩ := (exB_iff _ _).mp c
    obtain ⟨j, q1, q2⟩ := pk_least (fun j => (dsB h m j && decide (aL h m s a j = aL h m s a i)) = true) ⟨j0, k2⟩
    have hj : j ≤ j0 := Nat.not_lt.mp fun z => q2 j0 z k2
    have st := iterF (fun n j => b_Mod_isLineAgain_2 F n m (nI s) (nI i) (nI j) h) j (fun l n hl => step n l (by omega) (by simpa using q2 l hl)) (F := F) (by omega)
    rw [nI_0] at st
    have d1 : dsB h m j = true := (Bool.and_eq_true_iff.mp q1).1
    have d0 : ¬ hA h (m + 27) j = 0 := of_decide_eq_true d1
    have e1 : aL h m s a j = aL h m s a i := of_decide_eq_true (Bool.and_eq_true_iff.mp q1).2
    rw [f_Mod_isLineAgain, st, b_Mod_isLineAgain_2]
    dsimp only
    rw [if_neg (nI_ge (show j < i by omega) (by omega)), gd_t M.k, rq_k M.r_does M.k_does, M.n_does, ixn (by omega) (by decide), if_neg d0, c_Mod_asked M hs (by omega) ha la, cl_some, gd_t n8, gd_t M.k, c_Mod_asked M hs hi ha la, cl_some, gd_t n8, if_pos e1, bI_t c]
  · have st := iterF (fun n j => b_Mod_isLineAgain_2 F n m (nI s) (nI i) (nI j) h) i (fun l n hl => step n l hl (by
      cases e : (dsB h m l && decide (aL h m s a l = aL h m s a i)) with
      | false => rfl
      | true => exact absurd ((exB_iff _ _).mpr ⟨l, hl, e⟩) c)) (F := F) (by omega)
    rw [nI_0] at st
    rw [f_Mod_isLineAgain, st, b_Mod_isLineAgain_2]
    dsimp only
    rw [if_pos (nI_le (Nat.le_refl _) (by omega)), bI_f c]
theorem ag_eq {h : Hp} {m s a ln i : Nat} {K : Nat → Nat} (hK : ∀ i, i < ln → dsB h m i = true → aS h m s a i = nI (K i) ∧ K i < 4096) (hi : i < ln) (di : dsB h m i = true) : exB (fun j => dsB h m j && decide (aS h m s a j = aS h m s a i)) i = exB (fun j => dsB h m j && decide (K j = K i)) i := by
  refine exB_congr i fun j hj => ?_
  by_cases d : dsB h m j = true
  · obtain ⟨e1, l1⟩ := hK j (by omega) d
    obtain ⟨e2, l2⟩ := hK i hi di
    rw [e1, e2]
    congr 1
    by_cases z : K j = K i
    · rw [decide_eq_true z, decide_eq_true (by rw [z])]
    · rw [decide_eq_false z, decide_eq_false (fun y => z ((nI_eq (by omega) (by omega)).mp y))]
  · have d0 : dsB h m j = false := by simpa using d
    rw [d0, Bool.false_and, Bool.false_and]
theorem c_Mod_timeOfShared {F : Nat} {h : Hp} {m u s a ln bk : Nat} (M : Md h m) (hF : 40000 ≤ F) (hu : u < 8) (hs : s < 128) (ha : hI h 758 m = nI a) (la : a < 16) (hl : hI h 705 m = nI ln) (l32 : ln ≤ 32) (hb : hI h 708 m = nI bk) (b1 : 0 < bk) (b32 : bk ≤ 32) (K : Nat → Nat) (hK2 : ∀ i, i < ln → dsB h m i = true → aS h m s a i = nI (K i) ∧ K i < 4096) : f_Mod_timeOfShared F m (nI u) (nI s) h = some (2 + nI (mB (fun b => cn (fun j => ecB (decide (53 < hI h 756 m)) (dsB h m) K j && decide (K j % bk = b)) ln) bk), sA h (m + 6) u (hI h 719 m + nI (if mB (fun b => cn (fun j => ecB (decide (53 < hI h 756 m)) (dsB h m) K j && decide (K j % bk = b)) ln) bk = 0 then 1 else mB (fun b => cn (fun j => ecB (decide (53 < hI h 756 m)) (dsB h m) K j && decide (K j % bk = b)) ln) bk))) := by
  generalize hE : ecB (decide (53 < hI h 756 m)) (dsB h m) K = E
  have cL : nI ln ≤ nI ln := nI_le (Nat.le_refl _) (by omega)
  have nb : ¬ nI bk = 0 := nI_ne0 b1 (by omega)
  have inner : ∀ (k5 : Nat → Int32 → Int32 → Int32 → Int32 → Hp → Option (Int32 × Hp)) (x3 : Int32) (b : Nat), b < bk → b_Mod_timeOfShared_20 F k5 F m (nI u) (nI s) x3 (nI b) 0 0 h = if nI (cn (fun j => E j && decide (K j % bk = b)) ln) ≤ x3 then k5 m (nI u) (nI s) x3 (nI (b + 1)) h else k5 m (nI u) (nI s) (nI (cn (fun j => E j && decide (K j % bk = b)) ln)) (nI (b + 1)) h := by
    intro k5 x3 b hb2
    have st := iterF (fun n i => b_Mod_timeOfShared_20 F k5 n m (nI u) (nI s) x3 (nI b) (nI (cn (fun j => E j && decide (K j % bk = b)) i)) (nI i) h) ln (fun i n hi => by
      have c : ¬ nI ln ≤ nI i := nI_ge hi (by omega)
      rw [b_Mod_timeOfShared_20]
      dsimp only
      rw [gd_t M.k, hl, if_neg c, rq_k M.r_does M.k_does, M.n_does, ixn (by omega) (by decide)]
      have cs : cn (fun j => E j && decide (K j % bk = b)) (i + 1) = cn (fun j => E j && decide (K j % bk = b)) i + (if (E i && decide (K i % bk = b)) = true then 1 else 0) := rfl
      by_cases d0 : hA h (m + 27) i = 0
      · have e0 : E i = false := by rw [← hE]; unfold ecB; rw [show dsB h m i = false from decide_eq_false (fun z => z d0)]; rfl
        rw [if_pos d0, cs, e0, nI_1]
        rfl
      · have d1 : dsB h m i = true := decide_eq_true d0
        obtain ⟨k1, k2⟩ := hK2 i hi d1
        have er : nI (K i) - nI (K i) / nI bk * nI bk = nI (K i % bk) := pk_rem (by omega) b1 (by omega)
        have hm : K i % bk < bk := Nat.mod_lt _ b1
        have ei : E i = (decide (53 < hI h 756 m) || !(exB (fun j => dsB h m j && decide (aS h m s a j = aS h m s a i)) i)) := by
          rw [ag_eq hK2 hi d1, ← hE]
          unfold ecB
          rw [d1, Bool.true_and]
        rw [if_neg d0, c_Mod_asked M hs (by omega) ha la, cl_some, gd_t M.k, hb, gd_t nb, show hA h (m + 13) (16 * (32 * s + i) + a) + hI h 761 m = nI (K i) from k1, er]
        by_cases z : K i % bk = b
        · rw [if_pos (by rw [z])]
          by_cases c53 : (53 : Int32) < hI h 756 m
          · rw [if_pos c53, b_Mod_timeOfShared_80, nI_1, nI_1, cs, ei, decide_eq_true c53, decide_eq_true z]
            rfl
          · rw [if_neg c53, c_Mod_isAgain M hF hs (by omega) ha la, cl_some, bI_ite]
            by_cases ag : exB (fun j => dsB h m j && decide (aS h m s a j = aS h m s a i)) i = true
            · rw [if_pos ag, nI_1, cs, ei, decide_eq_false c53, ag, show (0 : Int32) = nI 0 from rfl, nI_add]
              rfl
            · have ag0 : exB (fun j => dsB h m j && decide (aS h m s a j = aS h m s a i)) i = false := by simpa using ag
              rw [if_neg ag, b_Mod_timeOfShared_80, nI_1, nI_1, cs, ei, ag0, decide_eq_true z]
              simp
        · rw [if_neg (fun y => z ((nI_eq (by omega) (by omega)).mp y)), cs, decide_eq_false z, Bool.and_false, nI_1]
          rfl) (F := F) (by omega)
    have e0 : nI (cn (fun j => E j && decide (K j % bk = b)) 0) = 0 := rfl
    rw [e0, nI_0] at st
    rw [st, b_Mod_timeOfShared_20]
    dsimp only
    rw [gd_t M.k, hl, if_pos cL, nI_1]
  generalize hc : (fun b => cn (fun j => E j && decide (K j % bk = b)) ln) = cnt at *
  have hcb : ∀ b, cn (fun j => E j && decide (K j % bk = b)) ln = cnt b := fun b => by rw [← hc]
  have cl32 : ∀ b, cnt b ≤ ln := fun b => by rw [← hcb]; exact cn_le _ _
  have ml : ∀ n, mB cnt n ≤ ln := fun n => (mB_le cnt ln n).mpr (fun b _ => cl32 b)
  have st := iterF (fun n b => b_Mod_timeOfShared_5 F n m (nI u) (nI s) (nI (mB cnt b)) (nI b) h) bk (fun b n hb2 => by
    rw [b_Mod_timeOfShared_5]
    dsimp only
    rw [gd_t M.k, hb, if_neg (nI_ge hb2 (by omega)), inner _ _ _ hb2, hcb]
    have m1 := ml b
    have m2 := cl32 b
    have em : mB cnt (b + 1) = if mB cnt b < cnt b then cnt b else mB cnt b := rfl
    by_cases z : mB cnt b < cnt b
    · rw [if_neg (nI_ge z (by omega)), em, if_pos z]
    · rw [if_pos (nI_le (by omega) (by omega)), em, if_neg z]) (F := F) (by omega)
  have e0 : nI (mB cnt 0) = 0 := rfl
  rw [e0, nI_0] at st
  have m1 := ml bk
  rw [f_Mod_timeOfShared, st, b_Mod_timeOfShared_5]
  dsimp only
  rw [gd_t M.k, hb, if_pos (nI_le (Nat.le_refl _) (by omega)), rq_k M.r_sharedTick M.k_sharedTick, b_Mod_timeOfShared_131, b_Mod_timeOfShared_131, gd_t M.k_sharedTick, gd_t M.k_sharedTick, M.n_sharedTick, ixn hu (by decide), ixn hu (by decide)]
  by_cases z : mB cnt bk = 0
  · rw [if_pos (by rw [z]; rfl), if_pos z]
    rfl
  · rw [if_neg (nI_ne0 (by omega) (by omega)), if_neg z]
    rfl
