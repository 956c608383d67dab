/-! a warp's group, its word, and when that is ready -/
theorem c_Warp_mark_n {F : Nat} {h : Hp} {w rg pl ro pr ti ln : Nat} (W : Wp h w rg pl ro pr ti ln) (hF : 40000 ≤ F) {wd : Nat} (hw : hR h 520 w = some wd) (hk : hK h wd = 10) (hv : hI h 588 wd = -1) (t : Int32) : f_Warp_mark F w t h = some (if hI h 585 wd = 0 then h else sI h 522 w t) := by
  obtain ⟨⟨wk, wl, hl⟩, ⟨r1, k1, n1, m1⟩, ⟨r2, k2, n2, m2⟩, ⟨r3, k3, n3, m3⟩, ⟨r4, k4, n4⟩, ⟨r5, k5, n5⟩, d1, d2, d3, d4, d5, d6, d7, d8, d9, d10⟩ := W
  simp only [f_Warp_mark, b_Warp_mark_24, pw, gd, rq_i, Bool.false_eq_true, eq_self, or_false, false_or, or_true, true_or, and_true, true_and, and_false, false_and, not_true_eq_false, not_false_eq_true, nu_none, nu_some, cl_some, clv_some, qK_sI, qK_sA, qK_sL, qR_sI, qR_sA, qR_sL, qN_sI, qN_sA, qN_sL, qK_oA, qR_oA, qN_oA, qI_oA, qI_sA, qI_sL, qL_sA, qL_sI, qL_oA, qA_sI, qA_sL, qA_oA, if_true, if_false, reduceIte, ixn, nI_add, nI_1, n_4, n_8, n_16, n_20, n_32, n_64, n_128, i_0, wk, hw, hk, hv]
  split <;> rfl
theorem nI_m1 {k : Nat} (hk : k < 2 ^ 31) : ¬ nI k = -1 := fun q => by
  have := congrArg Int32.toInt q
  rw [nI_toInt hk] at this
  have e : (-1 : Int32).toInt = -1 := by decide
  omega
theorem c_Warp_mark_s {F : Nat} {h : Hp} {w rg pl ro pr ti ln : Nat} (W : Wp h w rg pl ro pr ti ln) (hF : 40000 ≤ F) {wd : Nat} (hw : hR h 520 w = some wd) (hk : hK h wd = 10) {k : Nat} (hv : hI h 588 wd = nI k) (lk : k < 20) (t : Int32) : f_Warp_mark F w t h = some (if hI h 585 wd = 0 then sA h ti k t else sI (sA h ti k t) 522 w t) := by
  obtain ⟨⟨wk, wl, hl⟩, ⟨r1, k1, n1, m1⟩, ⟨r2, k2, n2, m2⟩, ⟨r3, k3, n3, m3⟩, ⟨r4, k4, n4⟩, ⟨r5, k5, n5⟩, d1, d2, d3, d4, d5, d6, d7, d8, d9, d10⟩ := W
  have ne := nI_m1 (show k < 2 ^ 31 by omega)
  simp (disch := omega) only [f_Warp_mark, b_Warp_mark_24, pw, gd, rq_i, Bool.false_eq_true, eq_self, or_false, false_or, or_true, true_or, and_true, true_and, and_false, false_and, not_true_eq_false, not_false_eq_true, nu_none, nu_some, cl_some, clv_some, qK_sI, qK_sA, qK_sL, qR_sI, qR_sA, qR_sL, qN_sI, qN_sA, qN_sL, qK_oA, qR_oA, qN_oA, qI_oA, qI_sA, qI_sL, qL_sA, qL_sI, qL_oA, qA_sI, qA_sL, qA_oA, if_true, if_false, reduceIte, ixn, nI_add, nI_1, n_4, n_8, n_16, n_20, n_32, n_64, n_128, i_0, wk, hw, hk, hv, ne, r5, k5, n5]
  split <;> rfl
/-- the greatest of the ticks that are needed -/
def tkm (nd : Int32) (T : Nat → Int32) (s : Int32) : Nat → Int32
  | 0 => s
  | n + 1 => if bt nd n = true then (if tkm nd T s n < T n then T n else tkm nd T s n) else tkm nd T s n
theorem tkm_le (nd : Int32) (T : Nat → Int32) (s c : Int32) : ∀ n, tkm nd T s n ≤ c ↔ s ≤ c ∧ ∀ k, k < n → bt nd k = true → T k ≤ c := by
  intro n
  induction n with
  | zero => simp [tkm]
  | succ n ih =>
    unfold tkm
    by_cases q : bt nd n = true
    · rw [if_pos q]
      constructor
      · intro z
        have hz : tkm nd T s n ≤ c ∧ T n ≤ c := by
          split at z
          · rename_i y
            exact ⟨Int32.le_trans (Int32.le_of_lt y) z, z⟩
          · rename_i y
            exact ⟨z, Int32.le_trans (Int32.not_lt.mp y) z⟩
        obtain ⟨a, b⟩ := ih.mp hz.1
        refine ⟨a, fun k hk bk => ?_⟩
        by_cases e : k = n
        · subst e; exact hz.2
        · exact b k (by omega) bk
      · intro ⟨a, b⟩
        have y := ih.mpr ⟨a, fun k hk => b k (by omega)⟩
        split
        · exact b n (by omega) q
        · exact y
    · rw [if_neg q, ih]
      constructor
      · intro ⟨a, b⟩
        refine ⟨a, fun k hk bk => ?_⟩
        by_cases e : k = n
        · subst e; exact absurd bk q
        · exact b k (by omega) bk
      · intro ⟨a, b⟩
        exact ⟨a, fun k hk => b k (by omega)⟩
theorem c_Warp_tickNeeded {F : Nat} {h : Hp} {w rg pl ro pr ti ln : Nat} (W : Wp h w rg pl ro pr ti ln) (hF : 40000 ≤ F) {wd : Nat} (hw : hR h 520 w = some wd) (hk : hK h wd = 10) : f_Warp_tickNeeded F w h = some (tkm (hI h 589 wd) (hA h ti) (if hI h 587 wd = 0 then 0 else hI h 522 w) 20, h) := by
  obtain ⟨⟨wk, wl, hl⟩, ⟨r1, k1, n1, m1⟩, ⟨r2, k2, n2, m2⟩, ⟨r3, k3, n3, m3⟩, ⟨r4, k4, n4⟩, ⟨r5, k5, n5⟩, d1, d2, d3, d4, d5, d6, d7, d8, d9, d10⟩ := W
  have key : ∀ s, b_Warp_tickNeeded_18 F w s h = some (tkm (hI h 589 wd) (hA h ti) s 20, h) := by
    intro s
    have st := iterF (fun n i => b_Warp_tickNeeded_21 F n w (tkm (hI h 589 wd) (hA h ti) s i) (nI i) h) 20 (fun i n hi => by
      have c : ¬ nI 20 ≤ nI i := nI_ge hi (by omega)
      have inn := in_iff (hI h 589 wd) (show i < 32 by omega)
      by_cases q : bt (hI h 589 wd) i = true
      · have z : ¬ (ushr (hI h 589 wd) (nI i) &&& 1) = 0 := inn.mpr q
        simp (disch := omega) only [b_Warp_tickNeeded_21, pw, gd, rq_i, Bool.false_eq_true, eq_self, or_false, false_or, or_true, true_or, and_true, true_and, and_false, false_and, not_true_eq_false, not_false_eq_true, nu_none, nu_some, cl_some, clv_some, qK_sI, qK_sA, qK_sL, qR_sI, qR_sA, qR_sL, qN_sI, qN_sA, qN_sL, qK_oA, qR_oA, qN_oA, qI_oA, qI_sA, qI_sL, qL_sA, qL_sI, qL_oA, qA_sI, qA_sL, qA_oA, if_true, if_false, reduceIte, ixn, nI_add, nI_1, n_4, n_8, n_16, n_20, n_32, n_64, n_128, i_0, wk, hw, hk, r5, k5, n5, c, z, tkm, q]
      · have z : (ushr (hI h 589 wd) (nI i) &&& 1) = 0 := Classical.byContradiction fun y => q (inn.mp y)
        simp (disch := omega) only [b_Warp_tickNeeded_21, pw, gd, rq_i, Bool.false_eq_true, eq_self, or_false, false_or, or_true, true_or, and_true, true_and, and_false, false_and, not_true_eq_false, not_false_eq_true, nu_none, nu_some, cl_some, clv_some, qK_sI, qK_sA, qK_sL, qR_sI, qR_sA, qR_sL, qN_sI, qN_sA, qN_sL, qK_oA, qR_oA, qN_oA, qI_oA, qI_sA, qI_sL, qL_sA, qL_sI, qL_oA, qA_sI, qA_sL, qA_oA, if_true, if_false, reduceIte, ixn, nI_add, nI_1, n_4, n_8, n_16, n_20, n_32, n_64, n_128, i_0, wk, hw, hk, r5, k5, n5, c, z, tkm, q]) (F := F) (by omega)
    have c : nI 20 ≤ nI 20 := by decide
    have e0 : tkm (hI h 589 wd) (hA h ti) s 0 = s := rfl
    simp only [nI_0, e0] at st
    rw [b_Warp_tickNeeded_18, st]
    simp only [b_Warp_tickNeeded_21, pw, gd, rq_i, Bool.false_eq_true, eq_self, or_false, false_or, or_true, true_or, and_true, true_and, and_false, false_and, not_true_eq_false, not_false_eq_true, nu_none, nu_some, cl_some, clv_some, qK_sI, qK_sA, qK_sL, qR_sI, qR_sA, qR_sL, qN_sI, qN_sA, qN_sL, qK_oA, qR_oA, qN_oA, qI_oA, qI_sA, qI_sL, qL_sA, qL_sI, qL_oA, qA_sI, qA_sL, qA_oA, if_true, if_false, reduceIte, ixn, nI_add, nI_1, n_4, n_8, n_16, n_20, n_32, n_64, n_128, i_0, wk, r5, k5, n5, c]
  simp only [f_Warp_tickNeeded, pw, gd, rq_i, Bool.false_eq_true, eq_self, or_false, false_or, or_true, true_or, and_true, true_and, and_false, false_and, not_true_eq_false, not_false_eq_true, nu_none, nu_some, cl_some, clv_some, qK_sI, qK_sA, qK_sL, qR_sI, qR_sA, qR_sL, qN_sI, qN_sA, qN_sL, qK_oA, qR_oA, qN_oA, qI_oA, qI_sA, qI_sL, qL_sA, qL_sI, qL_oA, qA_sI, qA_sL, qA_oA, if_true, if_false, reduceIte, ixn, nI_add, nI_1, n_4, n_8, n_16, n_20, n_32, n_64, n_128, i_0, wk, hw, hk, key]
  split <;> rfl
/-- the least place of those that A takes -/
def lp (A : Nat → Bool) (p : Nat → Int32) : Nat → Option Int32
  | 0 => none
  | n + 1 => if A n = true then (match lp A p n with
    | none => some (p n)
    | some q => if p n < q then some (p n) else some q) else lp A p n
theorem lp_none (A : Nat → Bool) (p : Nat → Int32) : ∀ n, lp A p n = none ↔ ∀ i, i < n → A i = false := by
  intro n
  induction n with
  | zero => simp [lp]
  | succ n ih =>
    unfold lp
    by_cases q : A n = true
    · rw [if_pos q]
      constructor
      · intro z
        split at z
        · cases z
        · split at z <;> cases z
      · intro z
        have := z n (by omega)
        rw [q] at this
        cases this
    · rw [if_neg q, ih]
      constructor
      · intro z i hi
        by_cases e : i = n
        · subst e; simpa using q
        · exact z i (by omega)
      · intro z i hi
        exact z i (by omega)
theorem lp_some (A : Nat → Bool) (p : Nat → Int32) : ∀ n v, lp A p n = some v → (∃ i, i < n ∧ A i = true ∧ p i = v) ∧ ∀ i, i < n → A i = true → v ≤ p i := by
  intro n
  induction n with
  | zero => intro v h; cases h
  | succ n ih =>
    intro v h
    unfold lp at h
    by_cases q : A n = true
    · rw [if_pos q] at h
      cases e : lp A p n with
      | none =>
        rw [e] at h
        cases h
        refine ⟨⟨n, by omega, q, rfl⟩, fun i hi ai => ?_⟩
        by_cases ei : i = n
        · subst ei; exact Int32.le_refl _
        · have := (lp_none A p n).mp e i (by omega)
          rw [ai] at this
          cases this
      | some u =>
        rw [e] at h
        obtain ⟨⟨i0, h1, h2, h3⟩, h4⟩ := ih u e
        simp only at h
        split at h
        · rename_i y
          cases h
          refine ⟨⟨n, by omega, q, rfl⟩, fun i hi ai => ?_⟩
          by_cases ei : i = n
          · subst ei; exact Int32.le_refl _
          · exact Int32.le_trans (Int32.le_of_lt y) (h4 i (by omega) ai)
        · rename_i y
          cases h
          refine ⟨⟨i0, by omega, h2, h3⟩, fun i hi ai => ?_⟩
          by_cases ei : i = n
          · subst ei; exact Int32.not_lt.mp y
          · exact h4 i (by omega) ai
    · rw [if_neg q] at h
      obtain ⟨⟨i0, h1, h2, h3⟩, h4⟩ := ih v h
      refine ⟨⟨i0, by omega, h2, h3⟩, fun i hi ai => ?_⟩
      by_cases ei : i = n
      · subst ei; exact absurd ai q
      · exact h4 i (by omega) ai
theorem lp_congr {A B : Nat → Bool} {p r : Nat → Int32} : ∀ n, (∀ i, i < n → A i = B i) → (∀ i, i < n → A i = true → p i = r i) → lp A p n = lp B r n := by
  intro n
  induction n with
  | zero => intro _ _; rfl
  | succ n ih =>
    intro h1 h2
    unfold lp
    rw [ih (fun i hi => h1 i (by omega)) (fun i hi => h2 i (by omega)), ← h1 n (by omega)]
    by_cases q : A n = true
    · rw [if_pos q, if_pos q, h2 n (by omega) q]
    · rw [if_neg q, if_neg q]
/-- those at the least place -/
def gB1 (A : Nat → Bool) (p : Nat → Int32) (n i : Nat) : Bool := A i && decide (lp A p n = some (p i))
theorem mkM_congr {P Q : Nat → Bool} : ∀ n, (∀ i, i < n → P i = Q i) → mkM P n = mkM Q n := by
  intro n
  induction n with
  | zero => intro _; rfl
  | succ n ih => intro h; unfold mkM; rw [ih (fun i hi => h i (by omega)), h n (by omega)]
theorem mkM_0 {P : Nat → Bool} : ∀ n, (∀ i, i < n → P i = false) → mkM P n = 0 := by
  intro n
  induction n with
  | zero => intro _; rfl
  | succ n ih => intro h; unfold mkM; rw [ih (fun i hi => h i (by omega)), h n (by omega)]; rfl
theorem mkM_ne {P : Nat → Bool} {n i : Nat} (hn : n ≤ 32) (hi : i < n) (q : P i = true) : ¬ mkM P n = 0 := fun z => by
  have := bt_mkM P n hn i (by omega)
  rw [z, b_0, q] at this
  simp [hi] at this
def gmk (A : Nat → Bool) (p : Nat → Int32) (n : Nat) : Int32 := mkM (gB1 A p n) n
def gpl (A : Nat → Bool) (p : Nat → Int32) (n : Nat) : Int32 := (lp A p n).getD 0
theorem gmk_0 {A : Nat → Bool} {p : Nat → Int32} {n : Nat} (hn : n ≤ 32) : gmk A p n = 0 ↔ lp A p n = none := by
  constructor
  · intro z
    cases e : lp A p n with
    | none => rfl
    | some v =>
      obtain ⟨⟨i, h1, h2, h3⟩, -⟩ := lp_some A p n v e
      exact absurd z (mkM_ne hn h1 (by unfold gB1; rw [h2, e, h3]; simp))
  · intro e
    exact mkM_0 n (fun i hi => by unfold gB1; rw [e]; simp)
theorem gmk_n {A : Nat → Bool} {p : Nat → Int32} {n : Nat} (q : A n = false) : gmk A p (n + 1) = gmk A p n ∧ gpl A p (n + 1) = gpl A p n := by
  have e : lp A p (n + 1) = lp A p n := by rw [lp, if_neg (by rw [q]; simp)]
  refine ⟨?_, by unfold gpl; rw [e]⟩
  unfold gmk
  rw [mkM, show gB1 A p (n + 1) n = false by unfold gB1; rw [q]; rfl]
  exact mkM_congr n fun i hi => by unfold gB1; rw [e]
theorem gmk_lt {A : Nat → Bool} {p : Nat → Int32} {n : Nat} (q : A n = true) (z : lp A p n = none ∨ p n < gpl A p n) : gmk A p (n + 1) = 0 ||| ((1 : Int32) <<< (nI n &&& 31)) ∧ gpl A p (n + 1) = p n := by
  have e : lp A p (n + 1) = some (p n) := by
    rw [lp, if_pos q]
    cases e : lp A p n with
    | none => rfl
    | some v =>
      have : p n < v := by
        rcases z with z | z
        · rw [e] at z; cases z
        · unfold gpl at z; rw [e] at z; exact z
      simp only [this, if_true]
  refine ⟨?_, by unfold gpl; rw [e]; rfl⟩
  unfold gmk
  rw [mkM, show gB1 A p (n + 1) n = true by unfold gB1; rw [q, e]; simp, if_pos rfl]
  congr 1
  refine mkM_0 n fun i hi => ?_
  unfold gB1
  rw [e]
  by_cases ai : A i = true
  · have : ¬ p n = p i := by
      intro y
      cases e2 : lp A p n with
      | none => have := (lp_none A p n).mp e2 i hi; rw [ai] at this; cases this
      | some v =>
        have hv := (lp_some A p n v e2).2 i hi ai
        rcases z with z | z
        · rw [e2] at z; cases z
        · unfold gpl at z
          rw [e2] at z
          have z2 : p n < v := z
          rw [y] at z2
          exact absurd hv (Int32.not_le.mpr z2)
    simp [this]
  · simp [ai]
theorem gmk_ge {A : Nat → Bool} {p : Nat → Int32} {n : Nat} (q : A n = true) {v : Int32} (e : lp A p n = some v) (z : ¬ p n < v) : gmk A p (n + 1) = (if p n = v then gmk A p n ||| ((1 : Int32) <<< (nI n &&& 31)) else gmk A p n) ∧ gpl A p (n + 1) = v ∧ gpl A p n = v := by
  have e2 : lp A p (n + 1) = some v := by
    rw [lp, if_pos q, e]
    simp only [z, if_false]
  refine ⟨?_, by unfold gpl; rw [e2]; rfl, by unfold gpl; rw [e]; rfl⟩
  unfold gmk
  have e3 : mkM (gB1 A p (n + 1)) n = mkM (gB1 A p n) n := mkM_congr n fun i hi => by unfold gB1; rw [e2, e]
  rw [mkM, e3, show gB1 A p (n + 1) n = decide (p n = v) by unfold gB1; rw [q, e2]; simp [eq_comm]]
  by_cases y : p n = v
  · simp [y]
  · simp [y]
def s2 (h : Hp) (w : Nat) (g p : Int32) : Hp := sI (sI h 518 w g) 519 w p
theorem up2_same {α : Type} (f : Nat → Nat → α) (i a : Nat) (x y : α) : up2 (up2 f i a x) i a y = up2 f i a y := by
  funext j b
  unfold up2
  split <;> rfl
theorem up2_comm {α : Type} (f : Nat → Nat → α) {i a j b : Nat} (x y : α) (n : ¬ (i = j ∧ a = b)) : up2 (up2 f i a x) j b y = up2 (up2 f j b y) i a x := by
  funext k c
  unfold up2
  by_cases h1 : k = i ∧ c = a
  · rw [if_pos h1]
    by_cases h2 : k = j ∧ c = b
    · exact absurd ⟨h1.1.symm.trans h2.1, h1.2.symm.trans h2.2⟩ n
    · rw [if_neg h2, if_pos h1]
  · rw [if_neg h1]
    rw [if_neg h1]
theorem sI_same (h : Hp) (f a : Nat) (x y : Int32) : sI (sI h f a x) f a y = sI h f a y := by
  show (hT h, hU h, hK h, hN h, up2 (up2 (hI h) f a x) f a y, hR h, hA h, hQ h, hL h) = _
  rw [up2_same]
  rfl
theorem sI_comm (h : Hp) {f a g b : Nat} (x y : Int32) (n : ¬ (f = g ∧ a = b)) : sI (sI h f a x) g b y = sI (sI h g b y) f a x := by
  show (hT h, hU h, hK h, hN h, up2 (up2 (hI h) f a x) g b y, hR h, hA h, hQ h, hL h) = _
  rw [up2_comm _ _ _ n]
  rfl
theorem s2_g (h : Hp) (w : Nat) (g p v : Int32) : sI (s2 h w g p) 518 w v = s2 h w v p := by
  unfold s2
  rw [sI_comm _ _ _ (by omega), sI_same]
theorem s2_p (h : Hp) (w : Nat) (g p v : Int32) : sI (s2 h w g p) 519 w v = s2 h w g v := sI_same _ _ _ _ _
theorem hK_s2 (h : Hp) (w : Nat) (g p : Int32) : hK (s2 h w g p) = hK h := rfl
theorem hN_s2 (h : Hp) (w : Nat) (g p : Int32) : hN (s2 h w g p) = hN h := rfl
theorem hR_s2 (h : Hp) (w : Nat) (g p : Int32) : hR (s2 h w g p) = hR h := rfl
theorem hA_s2 (h : Hp) (w : Nat) (g p : Int32) : hA (s2 h w g p) = hA h := rfl
theorem hQ_s2 (h : Hp) (w : Nat) (g p : Int32) : hQ (s2 h w g p) = hQ h := rfl
theorem hI_s2g (h : Hp) (w : Nat) (g p : Int32) : hI (s2 h w g p) 518 w = g := by simp [s2, qI_sI]
theorem hI_s2p (h : Hp) (w : Nat) (g p : Int32) : hI (s2 h w g p) 519 w = p := by simp [s2, qI_sI]
theorem hI_s2o (h : Hp) (w : Nat) (g p : Int32) {f a : Nat} (n1 : ¬ f = 518) (n2 : ¬ f = 519) : hI (s2 h w g p) f a = hI h f a := by simp [s2, qI_sI, n1, n2]
def gaW (h : Hp) (kn : Nat) (p : Int32) : Option Nat := if p < 0 ∨ 128 ≤ p then none else hQ h kn p.toNatClampNeg
def gaT (h : Hp) (w ti : Nat) (o : Option Nat) : Int32 := match o with
  | none => 0
  | some a => tkm (hI h 589 a) (hA h ti) (if hI h 587 a = 0 then 0 else hI h 522 w) 20
def gaH (h : Hp) (w ti : Nat) (g p : Int32) (o : Option Nat) : Hp := sI (sR (s2 h w g p) 520 w o) 521 w (gaT h w ti o)
theorem l_g82 {F : Nat} {h : Hp} {w rg pl ro pr ti ln : Nat} (W : Wp h w rg pl ro pr ti ln) (hF : 40000 ≤ F) {i : Nat} (hi : i < ln) (k31 : Nat → Option Nat → Int32 → Int32 → Hp → Option Hp) (x1 : Option Nat) (m g p : Int32) : b_Warp_gather_82 F k31 w x1 m (nI i) (s2 h w g p) = if hA h pl i = p then k31 w x1 m (nI (i + 1)) (s2 h w (g ||| ((1 : Int32) <<< (nI i &&& 31))) p) else k31 w x1 m (nI (i + 1)) (s2 h w g p) := by
  obtain ⟨⟨wk, wl, hl⟩, ⟨r1, k1, n1, m1⟩, ⟨r2, k2, n2, m2⟩, ⟨r3, k3, n3, m3⟩, ⟨r4, k4, n4⟩, ⟨r5, k5, n5⟩, d1, d2, d3, d4, d5, d6, d7, d8, d9, d10⟩ := W
  simp (disch := omega) only [b_Warp_gather_82, pw, gd, rq_i, Bool.false_eq_true, eq_self, or_false, false_or, or_true, true_or, and_true, true_and, and_false, false_and, not_true_eq_false, not_false_eq_true, nu_none, nu_some, cl_some, clv_some, qK_sI, qK_sA, qK_sL, qR_sI, qR_sA, qR_sL, qN_sI, qN_sA, qN_sL, qK_oA, qR_oA, qN_oA, qI_oA, qI_sA, qI_sL, qL_sA, qL_sI, qL_oA, qA_sI, qA_sL, qA_oA, if_true, if_false, reduceIte, ixn, nI_add, nI_1, n_4, n_8, n_16, n_20, n_32, n_64, n_128, i_0, hK_s2, hN_s2, hR_s2, hA_s2, wk, hI_s2g, hI_s2p, s2_g, r2, k2]
theorem l_g67 {F : Nat} {h : Hp} {w rg pl ro pr ti ln : Nat} (W : Wp h w rg pl ro pr ti ln) (hF : 40000 ≤ F) {i : Nat} (hi : i < ln) (k31 : Nat → Option Nat → Int32 → Int32 → Hp → Option Hp) (x1 : Option Nat) (m g p : Int32) : b_Warp_gather_67 F k31 w x1 m (nI i) (s2 h w g p) = k31 w x1 m (nI (i + 1)) (s2 h w (0 ||| ((1 : Int32) <<< (nI i &&& 31))) (hA h pl i)) := by
  have W2 := W
  obtain ⟨⟨wk, wl, hl⟩, ⟨r1, k1, n1, m1⟩, ⟨r2, k2, n2, m2⟩, ⟨r3, k3, n3, m3⟩, ⟨r4, k4, n4⟩, ⟨r5, k5, n5⟩, d1, d2, d3, d4, d5, d6, d7, d8, d9, d10⟩ := W
  unfold b_Warp_gather_67
  rw [gd_t (by rw [hK_s2]; exact wk)]
  show rq (sI (s2 h w g p) 518 w 0) (hR (sI (s2 h w g p) 518 w 0) 524 w) 100 _ = _
  rw [s2_g, hR_s2, r2, rq_some (by rw [hK_s2]; exact k2), hN_s2, hA_s2, ixn (by omega) (by omega)]
  show b_Warp_gather_82 F k31 w x1 m (nI i) (sI (s2 h w 0 p) 519 w (hA h pl i)) = _
  rw [s2_p, l_g82 W2 hF hi, if_pos rfl]
theorem l_gather {F : Nat} {h : Hp} {w rg pl ro pr ti ln : Nat} (W : Wp h w rg pl ro pr ti ln) (hF : 40000 ≤ F) {kn : Nat} (kk : hK h kn = 120) (kN : hN h kn = 128) (g p : Int32) (hq : ∀ a, gaW h kn p = some a → hK h a = 10) (n : Nat) (m : Int32) : b_Warp_gather_31 F (n + 1) w (some kn) m (nI ln) (s2 h w g p) = some (gaH h w ti g p (gaW h kn p)) := by
  have W2 := W
  obtain ⟨⟨wk, wl, hl⟩, ⟨r1, k1, n1, m1⟩, ⟨r2, k2, n2, m2⟩, ⟨r3, k3, n3, m3⟩, ⟨r4, k4, n4⟩, ⟨r5, k5, n5⟩, d1, d2, d3, d4, d5, d6, d7, d8, d9, d10⟩ := W
  have cL : nI ln ≤ nI ln := nI_le (Nat.le_refl _) (by omega)
  have k140 : ∀ o, (∀ a, o = some a → hK h a = 10) → b_Warp_gather_140 F w w o (s2 h w g p) = some (gaH h w ti g p o) := by
    intro o ho
    cases o with
    | none => simp only [b_Warp_gather_140, b_Warp_gather_159, pw, gd, rq_i, Bool.false_eq_true, eq_self, or_false, false_or, or_true, true_or, and_true, true_and, and_false, false_and, not_true_eq_false, not_false_eq_true, nu_none, nu_some, cl_some, clv_some, qK_sI, qK_sA, qK_sL, qR_sI, qR_sA, qR_sL, qN_sI, qN_sA, qN_sL, qK_oA, qR_oA, qN_oA, qI_oA, qI_sA, qI_sL, qL_sA, qL_sI, qL_oA, qA_sI, qA_sL, qA_oA, if_true, if_false, reduceIte, ixn, nI_add, nI_1, n_4, n_8, n_16, n_20, n_32, n_64, n_128, i_0, qK_sR, hK_s2, wk, qR_sR]; rfl
    | some a =>
      have W3 : Wp (sR (s2 h w g p) 520 w (some a)) w rg pl ro pr ti ln := W2.same rfl rfl (fun f n1 n2 => by rw [qR_sR]; simp [n1, hR_s2]) (by rw [qI_sR, hI_s2o h w g p (by decide) (by decide)])
      have ht := c_Warp_tickNeeded (F := F) W3 hF (wd := a) (by rw [qR_sR]; simp) (ho a rfl)
      simp only [b_Warp_gather_140, b_Warp_gather_159, pw, gd, rq_i, Bool.false_eq_true, eq_self, or_false, false_or, or_true, true_or, and_true, true_and, and_false, false_and, not_true_eq_false, not_false_eq_true, nu_none, nu_some, cl_some, clv_some, qK_sI, qK_sA, qK_sL, qR_sI, qR_sA, qR_sL, qN_sI, qN_sA, qN_sL, qK_oA, qR_oA, qN_oA, qI_oA, qI_sA, qI_sL, qL_sA, qL_sI, qL_oA, qA_sI, qA_sL, qA_oA, if_true, if_false, reduceIte, ixn, nI_add, nI_1, n_4, n_8, n_16, n_20, n_32, n_64, n_128, i_0, qK_sR, hK_s2, wk, qR_sR, ht]
      unfold gaH gaT
      rw [qI_sR, qA_sR, hA_s2, hI_s2o h w g p (by decide) (by decide), hI_s2o h w g p (by decide) (by decide), hI_s2o h w g p (by decide) (by decide)]
  have el : hI (s2 h w g p) 514 w = nI ln := by rw [hI_s2o h w g p (by decide) (by decide)]; exact wl
  simp only [b_Warp_gather_31, b_Warp_gather_139, pw, gd, rq_i, Bool.false_eq_true, eq_self, or_false, false_or, or_true, true_or, and_true, true_and, and_false, false_and, not_true_eq_false, not_false_eq_true, nu_none, nu_some, cl_some, clv_some, qK_sI, qK_sA, qK_sL, qR_sI, qR_sA, qR_sL, qN_sI, qN_sA, qN_sL, qK_oA, qR_oA, qN_oA, qI_oA, qI_sA, qI_sL, qL_sA, qL_sI, qL_oA, qA_sI, qA_sL, qA_oA, if_true, if_false, reduceIte, ixn, nI_add, nI_1, n_4, n_8, n_16, n_20, n_32, n_64, n_128, i_0, hK_s2, hN_s2, wk, el, cL, hI_s2p, kk, kN]
  by_cases c1 : p < 0
  · have e : gaW h kn p = none := if_pos (Or.inl c1)
    rw [if_pos c1, e, k140 none (fun a h => by cases h)]
  · rw [if_neg c1]
    by_cases c2 : (128 : Int32) ≤ p
    · have e : gaW h kn p = none := if_pos (Or.inr c2)
      rw [show nI 128 = (128 : Int32) from rfl, if_pos c2, e, k140 none (fun a h => by cases h)]
    · have e : gaW h kn p = hQ h kn p.toNatClampNeg := if_neg (fun z => z.elim c1 c2)
      have vi : vp_in p 128 := vin_of (m := 128) (by decide) c1 c2
      rw [show nI 128 = (128 : Int32) from rfl, if_neg c2, ixv vi]
      rw [e] at hq ⊢
      exact k140 _ hq
theorem c_Warp_gather {F : Nat} {h : Hp} {w rg pl ro pr ti ln : Nat} (W : Wp h w rg pl ro pr ti ln) (hF : 40000 ≤ F) {kn : Nat} (kk : hK h kn = 120) (kN : hN h kn = 128) {m : Int32} (em : ((hI h 515 w &&& (hI h 516 w ^^^ -1)) &&& (hI h 517 w ^^^ -1)) = m) (hq : ∀ a, gaW h kn (gpl (bt m) (hA h pl) ln) = some a → hK h a = 10) : f_Warp_gather F w (some kn) h = some (gaH h w ti (gmk (bt m) (hA h pl) ln) (gpl (bt m) (hA h pl) ln) (gaW h kn (gpl (bt m) (hA h pl) ln))) := by
  have W2 := W
  obtain ⟨⟨wk, wl, hl⟩, ⟨r1, k1, n1, m1⟩, ⟨r2, k2, n2, m2⟩, ⟨r3, k3, n3, m3⟩, ⟨r4, k4, n4⟩, ⟨r5, k5, n5⟩, d1, d2, d3, d4, d5, d6, d7, d8, d9, d10⟩ := W
  have st := iterF (fun n i => b_Warp_gather_31 F n w (some kn) m (nI i) (s2 h w (gmk (bt m) (hA h pl) i) (gpl (bt m) (hA h pl) i))) ln (fun i n hi => by
    have c : ¬ nI ln ≤ nI i := nI_ge hi (by omega)
    have el : ∀ g p, hI (s2 h w g p) 514 w = nI ln := fun g p => by rw [hI_s2o h w g p (by decide) (by decide)]; exact wl
    by_cases q : bt m i = true
    · by_cases g0 : gmk (bt m) (hA h pl) i = 0
      · obtain ⟨u1, u2⟩ := gmk_lt (A := bt m) (p := hA h pl) q (Or.inl ((gmk_0 (by omega)).mp g0))
        simp (disch := omega) only [b_Warp_gather_31, l_g67 W2 hF hi, pw, gd, rq_i, Bool.false_eq_true, eq_self, or_false, false_or, or_true, true_or, and_true, true_and, and_false, false_and, not_true_eq_false, not_false_eq_true, nu_none, nu_some, cl_some, clv_some, qK_sI, qK_sA, qK_sL, qR_sI, qR_sA, qR_sL, qN_sI, qN_sA, qN_sL, qK_oA, qR_oA, qN_oA, qI_oA, qI_sA, qI_sL, qL_sA, qL_sI, qL_oA, qA_sI, qA_sL, qA_oA, if_true, if_false, reduceIte, ixn, nI_add, nI_1, n_4, n_8, n_16, n_20, n_32, n_64, n_128, i_0, hK_s2, hN_s2, hR_s2, hA_s2, wk, el, c, c_in m (show i < 32 by omega), bI_ite, q, hI_s2g, hI_s2p, g0, s2_g, s2_p, r2, k2, u1, u2]
      · cases e : lp (bt m) (hA h pl) i with
        | none => exact absurd ((gmk_0 (by omega)).mpr e) g0
        | some v =>
          have ev : gpl (bt m) (hA h pl) i = v := by unfold gpl; rw [e]; rfl
          by_cases z : hA h pl i < v
          · obtain ⟨u1, u2⟩ := gmk_lt (A := bt m) (p := hA h pl) q (Or.inr (by rw [ev]; exact z))
            have z2 : ¬ v ≤ hA h pl i := Int32.not_le.mpr z
            simp (disch := omega) only [b_Warp_gather_31, l_g67 W2 hF hi, pw, gd, rq_i, Bool.false_eq_true, eq_self, or_false, false_or, or_true, true_or, and_true, true_and, and_false, false_and, not_true_eq_false, not_false_eq_true, nu_none, nu_some, cl_some, clv_some, qK_sI, qK_sA, qK_sL, qR_sI, qR_sA, qR_sL, qN_sI, qN_sA, qN_sL, qK_oA, qR_oA, qN_oA, qI_oA, qI_sA, qI_sL, qL_sA, qL_sI, qL_oA, qA_sI, qA_sL, qA_oA, if_true, if_false, reduceIte, ixn, nI_add, nI_1, n_4, n_8, n_16, n_20, n_32, n_64, n_128, i_0, hK_s2, hN_s2, hR_s2, hA_s2, wk, el, c, c_in m (show i < 32 by omega), bI_ite, q, hI_s2g, hI_s2p, g0, ev, z2, s2_g, s2_p, r2, k2, u1, u2]
          · obtain ⟨u1, u2, u3⟩ := gmk_ge (A := bt m) (p := hA h pl) q e z
            have z2 : v ≤ hA h pl i := Int32.not_lt.mp z
            by_cases y : hA h pl i = v
            · rw [if_pos y] at u1
              simp (disch := omega) only [b_Warp_gather_31, l_g82 W2 hF hi, pw, gd, rq_i, Bool.false_eq_true, eq_self, or_false, false_or, or_true, true_or, and_true, true_and, and_false, false_and, not_true_eq_false, not_false_eq_true, nu_none, nu_some, cl_some, clv_some, qK_sI, qK_sA, qK_sL, qR_sI, qR_sA, qR_sL, qN_sI, qN_sA, qN_sL, qK_oA, qR_oA, qN_oA, qI_oA, qI_sA, qI_sL, qL_sA, qL_sI, qL_oA, qA_sI, qA_sL, qA_oA, if_true, if_false, reduceIte, ixn, nI_add, nI_1, n_4, n_8, n_16, n_20, n_32, n_64, n_128, i_0, hK_s2, hN_s2, hR_s2, hA_s2, wk, el, c, c_in m (show i < 32 by omega), bI_ite, q, hI_s2g, hI_s2p, g0, ev, z2, y, s2_g, s2_p, r2, k2, u1, u2, Int32.le_refl]
            · rw [if_neg y] at u1
              simp (disch := omega) only [b_Warp_gather_31, l_g82 W2 hF hi, pw, gd, rq_i, Bool.false_eq_true, eq_self, or_false, false_or, or_true, true_or, and_true, true_and, and_false, false_and, not_true_eq_false, not_false_eq_true, nu_none, nu_some, cl_some, clv_some, qK_sI, qK_sA, qK_sL, qR_sI, qR_sA, qR_sL, qN_sI, qN_sA, qN_sL, qK_oA, qR_oA, qN_oA, qI_oA, qI_sA, qI_sL, qL_sA, qL_sI, qL_oA, qA_sI, qA_sL, qA_oA, if_true, if_false, reduceIte, ixn, nI_add, nI_1, n_4, n_8, n_16, n_20, n_32, n_64, n_128, i_0, hK_s2, hN_s2, hR_s2, hA_s2, wk, el, c, c_in m (show i < 32 by omega), bI_ite, q, hI_s2g, hI_s2p, g0, ev, z2, y, s2_g, s2_p, r2, k2, u1, u2]
    · obtain ⟨u1, u2⟩ := gmk_n (A := bt m) (p := hA h pl) (n := i) (by simpa using q)
      simp (disch := omega) only [b_Warp_gather_31, pw, gd, rq_i, Bool.false_eq_true, eq_self, or_false, false_or, or_true, true_or, and_true, true_and, and_false, false_and, not_true_eq_false, not_false_eq_true, nu_none, nu_some, cl_some, clv_some, qK_sI, qK_sA, qK_sL, qR_sI, qR_sA, qR_sL, qN_sI, qN_sA, qN_sL, qK_oA, qR_oA, qN_oA, qI_oA, qI_sA, qI_sL, qL_sA, qL_sI, qL_oA, qA_sI, qA_sL, qA_oA, if_true, if_false, reduceIte, ixn, nI_add, nI_1, n_4, n_8, n_16, n_20, n_32, n_64, n_128, i_0, hK_s2, wk, el, c, c_in m (show i < 32 by omega), bI_ite, q, u1, u2]
      all_goals simp) (F := F) (by omega)
  have e0 : gmk (bt m) (hA h pl) 0 = 0 := rfl
  have e1 : gpl (bt m) (hA h pl) 0 = 0 := rfl
  simp only [nI_0, e0, e1] at st
  simp only [f_Warp_gather, pw, gd, rq_i, Bool.false_eq_true, eq_self, or_false, false_or, or_true, true_or, and_true, true_and, and_false, false_and, not_true_eq_false, not_false_eq_true, nu_none, nu_some, cl_some, clv_some, qK_sI, qK_sA, qK_sL, qR_sI, qR_sA, qR_sL, qN_sI, qN_sA, qN_sL, qK_oA, qR_oA, qN_oA, qI_oA, qI_sA, qI_sL, qL_sA, qL_sI, qL_oA, qA_sI, qA_sL, qA_oA, if_true, if_false, reduceIte, ixn, nI_add, nI_1, n_4, n_8, n_16, n_20, n_32, n_64, n_128, i_0, wk, em]
  rw [show sI (sI h 518 w 0) 519 w 0 = s2 h w 0 0 from rfl, st]
  exact l_gather W2 hF kk kN _ _ hq _ m
