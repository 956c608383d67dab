/-! how crowded the banks are, in the class and in the reference; lanes that exchange -/
def exB (P : Nat → Bool) : Nat → Bool
  | 0 => false
  | n + 1 => exB P n || P n
theorem exB_iff (P : Nat → Bool) : ∀ n, exB P n = true ↔ ∃ j, j < n ∧ P j = true := by
  intro n
  induction n with
  | zero => simp [exB]
  | succ n ih =>
    unfold exB
    rw [Bool.or_eq_true, ih]
    constructor
    · intro z
      rcases z with ⟨j, h1, h2⟩ | z
      · exact ⟨j, by omega, h2⟩
      · exact ⟨n, by omega, z⟩
    · intro ⟨j, h1, h2⟩
      by_cases e : j = n
      · subst e; exact Or.inr h2
      · exact Or.inl ⟨j, by omega, h2⟩
theorem exB_congr {P Q : Nat → Bool} : ∀ n, (∀ i, i < n → P i = Q i) → exB P n = exB Q n := by
  intro n
  induction n with
  | zero => intro _; rfl
  | succ n ih => intro h; unfold exB; rw [ih (fun i hi => h i (by omega)), h n (by omega)]
/-- the greatest of numbers -/
def mB (c : Nat → Nat) : Nat → Nat
  | 0 => 0
  | n + 1 => if mB c n < c n then c n else mB c n
theorem mB_le (c : Nat → Nat) (z : Nat) : ∀ n, mB c n ≤ z ↔ ∀ b, b < n → c b ≤ z := by
  intro n
  induction n with
  | zero => simp [mB]
  | succ n ih =>
    unfold mB
    constructor
    · intro q b hb
      have h1 : mB c n ≤ z ∧ c n ≤ z := by split at q <;> omega
      by_cases e : b = n
      · subst e; exact h1.2
      · exact ih.mp h1.1 b (by omega)
    · intro q
      have h1 := ih.mpr (fun b hb => q b (by omega))
      have h2 := q n (by omega)
      split <;> omega
/-- lanes that count, and the fullest bank as they come -/
def mxc (E : Nat → Bool) (B : Nat → Nat) : Nat → Nat
  | 0 => 0
  | n + 1 => if E n = true then (if mxc E B n < cn (fun j => E j && decide (B j = B n)) (n + 1) then cn (fun j => E j && decide (B j = B n)) (n + 1) else mxc E B n) else mxc E B n
theorem mxc_le (E : Nat → Bool) (B : Nat → Nat) (k z : Nat) (hB : ∀ i, E i = true → B i < k) : ∀ n, mxc E B n ≤ z ↔ ∀ b, b < k → cn (fun j => E j && decide (B j = b)) n ≤ z := by
  intro n
  induction n with
  | zero => simp [mxc, cn]
  | succ n ih =>
    unfold mxc
    by_cases q : E n = true
    · rw [if_pos q]
      have mono : ∀ b, cn (fun j => E j && decide (B j = b)) n ≤ cn (fun j => E j && decide (B j = b)) (n + 1) := fun b => by
        conv => rhs; unfold cn
        omega
      constructor
      · intro y b hb
        have h1 : mxc E B n ≤ z ∧ cn (fun j => E j && decide (B j = B n)) (n + 1) ≤ z := by split at y <;> omega
        by_cases e : B n = b
        · subst e; exact h1.2
        · have h2 := ih.mp h1.1 b hb
          have e2 : cn (fun j => E j && decide (B j = b)) (n + 1) = cn (fun j => E j && decide (B j = b)) n := by
            conv => lhs; unfold cn
            simp [e]
          omega
      · intro y
        have h1 := ih.mpr (fun b hb => Nat.le_trans (mono b) (y b hb))
        have h2 := y (B n) (hB n q)
        split <;> omega
    · rw [if_neg q, ih]
      have e2 : ∀ b, cn (fun j => E j && decide (B j = b)) (n + 1) = cn (fun j => E j && decide (B j = b)) n := fun b => by
        conv => lhs; unfold cn
        simp [q]
      simp only [e2]
theorem mxc_mB (E : Nat → Bool) (B : Nat → Nat) (k : Nat) (hB : ∀ i, E i = true → B i < k) (n : Nat) : mxc E B n = mB (fun b => cn (fun j => E j && decide (B j = b)) n) k := by
  have h1 := (mxc_le E B k (mB (fun b => cn (fun j => E j && decide (B j = b)) n) k) hB n).mpr ((mB_le _ _ k).mp (Nat.le_refl _))
  have h2 := (mB_le (fun b => cn (fun j => E j && decide (B j = b)) n) (mxc E B n) k).mpr ((mxc_le E B k (mxc E B n) hB n).mp (Nat.le_refl _))
  omega
theorem mxc_n (E : Nat → Bool) (B : Nat → Nat) : ∀ n, mxc E B n ≤ n := by
  intro n
  induction n with
  | zero => exact Nat.le_refl _
  | succ n ih =>
    unfold mxc
    have := cn_le (fun j => E j && decide (B j = B n)) (n + 1)
    split
    · split <;> omega
    · omega
/-- a lane counts -/
def ecB (each : Bool) (D : Nat → Bool) (K : Nat → Nat) (i : Nat) : Bool := D i && (each || !(exB (fun j => D j && decide (K j = K i)) i))
/-! the class -/
def snM (m : Int32) (K : Nat → Nat) : Nat → Int64
  | 0 => 0
  | n + 1 => if bt m n = true then snM m K n ||| ((1 : Int64) <<< ((nI (K n)).toInt64 &&& 63)) else snM m K n
theorem snM_bt (m : Int32) (K : Nat → Nat) (hK : ∀ i, bt m i = true → K i < 64) {k : Nat} (hk : k < 64) : ∀ n, lt (snM m K n) k = exB (fun j => bt m j && decide (K j = k)) n := by
  intro n
  induction n with
  | zero => exact lt_z k
  | succ n ih =>
    unfold snM exB
    by_cases q : bt m n = true
    · rw [if_pos q, lt_or, ih, lt_one (hK n q) hk, q, Bool.true_and]
    · have q0 : bt m n = false := by simpa using q
      rw [if_neg q, ih, q0, Bool.false_and, Bool.or_false]
theorem bk_is {bk K : Nat} (hp : ∃ k, k ≤ 5 ∧ bk = 2 ^ k) (hK : K < 64) : (nI K &&& (nI bk - 1)) &&& 31 = nI (K % bk) ∧ K % bk < bk ∧ bk ≤ 32 := by
  obtain ⟨k, hk, rfl⟩ := hp
  have h2 : 2 ^ k ≤ 2 ^ 5 := Nat.pow_le_pow_right (by decide) hk
  have h1 : 0 < 2 ^ k := Nat.two_pow_pos k
  have h3 := Nat.mod_lt K h1
  have e : nI (2 ^ k) - 1 = nI (2 ^ k - 1) := by
    rw [show (1 : Int32) = nI 1 from rfl, pk_sub h1]
  refine ⟨?_, h3, h2⟩
  rw [e, pk_andN (by omega) k (pk_tn (by omega)), pk_andN (by omega) 5 (by decide), Nat.mod_eq_of_lt (show K % 2 ^ k < 2 ^ 5 by omega)]
theorem c_Unit_crowd {F : Nat} {h : Hp} {w rg pl ro pr ti ln : Nat} (W : Wp h w rg pl ro pr ti ln) (hF : 40000 ≤ F) {wd : Nat} (hw : hR h 520 w = some wd) (hk : hK h wd = 10) {u ld bk : Nat} {o : Int32} (ku : hK h u = 7) (rl : hR h 385 u = some ld) (kl : hK h ld = 100) (nl : hN h ld = 32) (dl : ¬ ld = ro) (ho : hI h 576 wd = o) (hp : ∃ k, k ≤ 5 ∧ bk = 2 ^ k) (m c0 : Int32) (K : Nat → Nat) (hK1 : ∀ i, bt m i = true → K i < 64) (hK2 : ∀ i, i < ln → bt m i = true → hA h ro i = nI (K i)) : f_Unit_crowd F u (some w) m (nI bk) c0 h = some (2 + nI (mxc (ecB (decide (¬ o < 58)) (bt m) K) (fun i => K i % bk) ln), sI (oA h (fr (hA h) ld 0 32 (fun b => nI (cn (fun j => ecB (decide (¬ o < 58)) (bt m) K j && decide (K j % bk = b)) ln)))) 391 u (c0 + nI (if mxc (ecB (decide (¬ o < 58)) (bt m) K) (fun i => K i % bk) ln = 0 then 1 else mxc (ecB (decide (¬ o < 58)) (bt m) K) (fun i => K i % bk) ln))) := by
  obtain ⟨⟨wk, wl, hl⟩, ⟨r1, k1, n1, m1⟩, ⟨r2, k2, n2, m2⟩, ⟨r3, k3, n3, m3⟩, ⟨r4, k4, n4⟩, ⟨r5, k5, n5⟩, d1, d2, d3, d4, d5, d6, d7, d8, d9, d10⟩ := W
  have key : ∀ (each : Int32), b_Unit_crowd_25 F u w m (nI bk) c0 each (oA h (fr (hA h) ld 0 32 (fun _ => 0))) = some (2 + nI (mxc (ecB (decide (¬ each = 0)) (bt m) K) (fun i => K i % bk) ln), sI (oA h (fr (hA h) ld 0 32 (fun b => nI (cn (fun j => ecB (decide (¬ each = 0)) (bt m) K j && decide (K j % bk = b)) ln)))) 391 u (c0 + nI (if mxc (ecB (decide (¬ each = 0)) (bt m) K) (fun i => K i % bk) ln = 0 then 1 else mxc (ecB (decide (¬ each = 0)) (bt m) K) (fun i => K i % bk) ln))) := by
    intro each
    generalize hE : ecB (decide (¬ each = 0)) (bt m) K = E
    generalize hB : (fun i => K i % bk) = B
    have hb : ∀ i, B i = K i % bk := fun i => by rw [← hB]
    have st := iterF (fun n i => b_Unit_crowd_36 F n u w m (nI bk) c0 each (snM m K i) (nI (mxc E B i)) (nI i) (oA h (fr (hA h) ld 0 32 (fun b => nI (cn (fun j => E j && decide (B j = b)) i))))) ln (fun i n hi => by
      have c : ¬ nI ln ≤ nI i := nI_ge hi (by omega)
      rw [b_Unit_crowd_36]
      dsimp only
      rw [gd_t (by rw [qK_oA]; exact wk), qI_oA, wl, if_neg c, c_in m (show i < 32 by omega), cl_some, bI_ite]
      by_cases q : bt m i = true
      · have q1 := hK2 i hi q
        have q2 := hK1 i q
        obtain ⟨b1, b2, b3⟩ := bk_is hp q2
        have sn : snM m K (i + 1) = snM m K i ||| ((1 : Int64) <<< ((nI (K i)).toInt64 &&& 63)) := by rw [snM, if_pos q]
        have f116 : ∀ v g, b_Unit_crowd_116 F (b_Unit_crowd_36 F n) u w m (nI bk) c0 each (snM m K i) v (nI i) (nI (K i)) g = b_Unit_crowd_36 F n u w m (nI bk) c0 each (snM m K (i + 1)) v (nI (i + 1)) g := fun v g => by rw [b_Unit_crowd_116, sn, nI_1]
        have hBi : B i < 32 := by rw [hb]; omega
        have f91 : E i = true → b_Unit_crowd_91 F (b_Unit_crowd_36 F n) u w m (nI bk) c0 each (snM m K i) (nI (mxc E B i)) (nI i) (nI (K i)) (nI (K i % bk)) (oA h (fr (hA h) ld 0 32 (fun b => nI (cn (fun j => E j && decide (B j = b)) i)))) = b_Unit_crowd_36 F n u w m (nI bk) c0 each (snM m K (i + 1)) (nI (mxc E B (i + 1))) (nI (i + 1)) (oA h (fr (hA h) ld 0 32 (fun b => nI (cn (fun j => E j && decide (B j = b)) (i + 1))))) := by
          intro ei
          have c1 : cn (fun j => E j && decide (B j = B i)) (i + 1) = cn (fun j => E j && decide (B j = B i)) i + 1 := by
            conv => lhs; unfold cn
            simp [ei]
          have l1 := cn_le (fun j => E j && decide (B j = B i)) (i + 1)
          have l2 := mxc_n E B i
          have up : up2 (fr (hA h) ld 0 32 (fun b => nI (cn (fun j => E j && decide (B j = b)) i))) ld (B i) (nI (cn (fun j => E j && decide (B j = B i)) (i + 1))) = fr (hA h) ld 0 32 (fun b => nI (cn (fun j => E j && decide (B j = b)) (i + 1))) := up2_fr_in hBi (fun k => by
            by_cases ek : k = B i
            · rw [if_pos ek, ek]
            · rw [if_neg ek]
              congr 1
              conv => lhs; unfold cn
              simp [show ¬ B i = k from fun z => ek z.symm])
          have em : mxc E B (i + 1) = if mxc E B i < cn (fun j => E j && decide (B j = B i)) (i + 1) then cn (fun j => E j && decide (B j = B i)) (i + 1) else mxc E B i := by rw [mxc, if_pos ei]
          rw [b_Unit_crowd_91, gd_t (by rw [qK_oA]; exact ku), rq_k (by rw [qR_oA]; exact rl) (by rw [qK_oA]; exact kl), qN_oA, nl, ← hb i, ixn hBi (by decide), ixn hBi (by decide), qA_oA, fr_i (by omega) hBi, nI_1, ← c1, pw_e, sA_oA, up, qN_oA, nl, ixn hBi (by decide), qA_oA, fr_i (by omega) hBi, f116, em]
          by_cases z : mxc E B i < cn (fun j => E j && decide (B j = B i)) (i + 1)
          · rw [if_pos (nI_lt z (by omega)), if_pos z]
          · rw [if_neg (nI_nlt (by omega) (by omega)), if_neg z]
        rw [if_pos q, gd_t (by rw [qK_oA]; exact wk), rq_k (by rw [qR_oA]; exact r3) (by rw [qK_oA]; exact k3), qN_oA, ixn (by omega) (by omega), qA_oA, fr_o (fun z => dl z.symm), q1, b1]
        have sb := snM_bt m K hK1 q2 i
        have ei : E i = (decide (¬ each = 0) || !(lt (snM m K i) (K i))) := by
          rw [← hE, sb]
          unfold ecB
          rw [q, Bool.true_and]
        by_cases e0 : each = 0
        · rw [if_pos e0]
          by_cases t : lt (snM m K i) (K i) = false
          · rw [if_pos ((lt_test _ q2).mpr t)]
            exact f91 (by rw [ei, t]; simp)
          · have t1 : lt (snM m K i) (K i) = true := by simpa using t
            have en : E i = false := by rw [ei, t1, e0]; rfl
            rw [if_neg (fun z => t ((lt_test _ q2).mp z)), f116]
            have em : mxc E B (i + 1) = mxc E B i := by rw [mxc, if_neg (by rw [en]; simp)]
            have ec : ∀ b, cn (fun j => E j && decide (B j = b)) (i + 1) = cn (fun j => E j && decide (B j = b)) i := fun b => by
              conv => lhs; unfold cn
              simp [en]
            simp only [em, ec]
        · rw [if_neg e0]
          exact f91 (by rw [ei]; simp [e0])
      · have q0 : bt m i = false := by simpa using q
        have en : E i = false := by rw [← hE]; unfold ecB; rw [q0]; rfl
        have em : mxc E B (i + 1) = mxc E B i := by rw [mxc, if_neg (by rw [en]; simp)]
        have ec : ∀ b, cn (fun j => E j && decide (B j = b)) (i + 1) = cn (fun j => E j && decide (B j = b)) i := fun b => by
          conv => lhs; unfold cn
          simp [en]
        have sn : snM m K (i + 1) = snM m K i := by rw [snM, if_neg q]
        rw [if_neg q, nI_1]
        simp only [em, ec, sn]) (F := F) (by omega)
    have cL : nI ln ≤ nI ln := nI_le (Nat.le_refl _) (by omega)
    have l2 := mxc_n E B ln
    have e0 : (fun b => nI (cn (fun j => E j && decide (B j = b)) 0)) = fun _ => (0 : Int32) := rfl
    have e1 : nI (mxc E B 0) = 0 := rfl
    have e2 : snM m K 0 = 0 := rfl
    rw [nI_0, e0, e1, e2] at st
    rw [b_Unit_crowd_25, st, b_Unit_crowd_36]
    dsimp only
    rw [gd_t (by rw [qK_oA]; exact wk), qI_oA, wl, if_pos cL, gd_t (by rw [qK_oA]; exact ku), pw_e]
    by_cases z : mxc E B ln = 0
    · rw [if_pos z, z, nI_0, if_pos (by decide)]
      simp only [hb]
      rfl
    · rw [if_neg z, if_neg (show ¬ nI (mxc E B ln) < (1 : Int32) from nI_nlt (b := 1) (by omega) (by omega))]
      simp only [hb]
  have cf := c_Arrays_fill (F := F) kl 0 (by omega) (by omega)
  rw [nl] at cf
  rw [f_Unit_crowd, gd_t ku, rq_k rl kl, cf, clv_some, rq_some (by rw [qK_oA]; exact wk), rq_k (by rw [qR_oA]; exact hw) (by rw [qK_oA]; exact hk), qI_oA, ho]
  by_cases c58 : o < 58
  · rw [if_pos c58, key 0]
    simp [c58]
  · rw [if_neg c58, key 1]
    simp [c58]
/-! lanes that exchange -/
theorem c_act_x {F : Nat} {h : Hp} {w rg pl ro pr ti ln : Nat} (W : Wp h w rg pl ro pr ti ln) (hF : 40000 ≤ F) {wd : Nat} (hw : hR h 520 w = some wd) (hk : hK h wd = 10) {a d : Nat} {nn : Int32} (ha : hI h 578 wd = nI a) (la : a < 16) (hd : hI h 577 wd = nI d) (ld : d < 16) (hn : hI h 580 wd = nn) (ho : hI h 576 wd = 73) (hp : ∃ k, k ≤ 5 ∧ ln = 2 ^ k) (m : Int32) : f_Warp_act F w m h = some (oA h (fx (fr (hA h) ro 0 ln (fun i => hA h rg (16 * i + a))) rg d 16 ln (bt m) (fun i => if bt m (oth ln nn i) = true then hA h rg (16 * oth ln nn i + a) else hA h rg (16 * i + a)))) := by
  have W2 := W
  obtain ⟨⟨wk, wl, hl⟩, ⟨r1, k1, n1, m1⟩, ⟨r2, k2, n2, m2⟩, ⟨r3, k3, n3, m3⟩, ⟨r4, k4, n4⟩, ⟨r5, k5, n5⟩, d1, d2, d3, d4, d5, d6, d7, d8, d9, d10⟩ := W
  have cL : nI ln ≤ nI ln := nI_le (Nat.le_refl _) (by omega)
  have st := iterF (fun n i => b_Warp_exchange_2 F n w m (nI i) (oA h (fr (hA h) ro 0 i (fun i => hA h rg (16 * i + a))))) ln (fun i n hi => by
    have c : ¬ nI ln ≤ nI i := nI_ge hi (by omega)
    have u := fr_up (hA h) ro 0 i (fun i => hA h rg (16 * i + a)) (by omega)
    have W3 : Wp (oA h (fr (hA h) ro 0 i (fun i => hA h rg (16 * i + a)))) w rg pl ro pr ti ln := W2.same (qK_oA _ _) (qN_oA _ _) (fun f _ _ => by rw [qR_oA]) (by rw [qI_oA])
    rw [b_Warp_exchange_2]
    dsimp only
    rw [gd_t (by rw [qK_oA]; exact wk), qI_oA, wl, if_neg c, rq_k (by rw [qR_oA]; exact r3) (by rw [qK_oA]; exact k3), rq_k (by rw [qR_oA]; exact hw) (by rw [qK_oA]; exact hk), ha, c_Warp_register W3 hF hi la, cl_some, gd_t (by rw [qK_oA]; exact k3), qN_oA, ixn (by omega) (by omega), pw_e, qA_oA, fr_o d2, sA_oA, nI_1, u]) (F := F) (by omega)
  rw [nI_0, fr_0, oA_self] at st
  generalize hR2 : (fun i => hA h rg (16 * i + a)) = R at *
  have s2 := iterF (fun n i => b_Warp_exchange_36 F n w m (nI i) (oA h (fx (fr (hA h) ro 0 ln R) rg d 16 i (bt m) (fun i => if bt m (oth ln nn i) = true then R (oth ln nn i) else R i)))) ln (fun i n hi => by
    have c : ¬ nI ln ≤ nI i := nI_ge hi (by omega)
    obtain ⟨o1, o2⟩ := oth_is hp nn hi
    have ro1 : ∀ j, j < ln → fx (fr (hA h) ro 0 ln R) rg d 16 i (bt m) (fun i => if bt m (oth ln nn i) = true then R (oth ln nn i) else R i) ro j = R j := fun j hj => by
      rw [fx_o (fun z => d2 z.symm), fr_i (by omega) hj]
    rw [b_Warp_exchange_36]
    dsimp only
    rw [gd_t (by rw [qK_oA]; exact wk), qI_oA, wl, if_neg c, c_in m (show i < 32 by omega), cl_some, bI_ite]
    by_cases q : bt m i = true
    · have u := fx_y (g := fr (hA h) ro 0 ln R) (a := rg) (c := d) (k := 16) (n := i) (j := 16 * i + d) (Q := bt m) (f := fun i => if bt m (oth ln nn i) = true then R (oth ln nn i) else R i) (by decide) (by omega) q
      generalize fx (fr (hA h) ro 0 ln R) rg d 16 i (bt m) (fun i => if bt m (oth ln nn i) = true then R (oth ln nn i) else R i) = g at *
      have W3 : Wp (oA h g) w rg pl ro pr ti ln := W2.same (qK_oA _ _) (qN_oA _ _) (fun f _ _ => by rw [qR_oA]) (by rw [qI_oA])
      have f119 : ∀ j, j < ln → b_Warp_exchange_119 F (b_Warp_exchange_36 F n) w m (nI i) w (nI i) (nI d) ro (nI j) (oA h g) = b_Warp_exchange_36 F n w m (nI (i + 1)) (oA h (up2 g rg (16 * i + d) (R j))) := fun j hj => by
        rw [b_Warp_exchange_119, gd_t (by rw [qK_oA]; exact k3), qN_oA, ixn (by omega) (by omega), gd_t (by rw [qK_oA]; exact wk), qA_oA, ro1 j hj, c_Warp_put W3 hF hi ld, clv_some, sA_oA, nI_1]
      have f94 : ∀ v, b_Warp_exchange_94 F (b_Warp_exchange_36 F n) w m (nI i) (nI (oth ln nn i)) v (oA h g) = b_Warp_exchange_36 F n w m (nI (i + 1)) (oA h (up2 g rg (16 * i + d) (if v = 0 then R i else R (oth ln nn i)))) := fun v => by
        rw [b_Warp_exchange_94, gd_t (by rw [qK_oA]; exact wk), rq_k (by rw [qR_oA]; exact hw) (by rw [qK_oA]; exact hk), rq_k (by rw [qR_oA]; exact r3) (by rw [qK_oA]; exact k3), qI_oA, hd, f119 _ hi, f119 _ o2]
        by_cases v0 : v = 0
        · rw [if_pos v0, if_pos v0]
        · rw [if_neg v0, if_neg v0]
      rw [if_pos q, gd_t (by rw [qK_oA]; exact wk), rq_k (by rw [qR_oA]; exact hw) (by rw [qK_oA]; exact hk), qI_oA, hn, wl, o1, if_neg (nI_pos (by omega)), if_neg (nI_ge o2 (by omega)), c_in m (show oth ln nn i < 32 by omega), cl_some, bI_ite, b_Warp_exchange_93, f94, f94]
      by_cases t : bt m (oth ln nn i) = true
      · rw [if_pos t] at u
        rw [if_pos t, if_neg (by decide), u]
      · rw [if_neg t] at u
        rw [if_neg t, if_pos rfl, u]
    · have u := fx_n (g := fr (hA h) ro 0 ln R) (a := rg) (c := d) (k := 16) (n := i) (Q := bt m) (f := fun i => if bt m (oth ln nn i) = true then R (oth ln nn i) else R i) (by simpa using q)
      rw [if_neg q, nI_1, u]) (F := F) (by omega)
  rw [nI_0, fx_0] at s2
  rw [f_Warp_act, gd_t wk, rq_k hw hk, ho, if_neg (by decide), if_neg (by decide), if_pos rfl, f_Warp_exchange, st, b_Warp_exchange_2]
  dsimp only
  rw [gd_t (by rw [qK_oA]; exact wk), qI_oA, wl, if_pos cL, s2, b_Warp_exchange_36]
  dsimp only
  rw [gd_t (by rw [qK_oA]; exact wk), qI_oA, wl, if_pos cL, clv_some, ← hR2]
