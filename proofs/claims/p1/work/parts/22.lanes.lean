/-! loops over lanes -/
theorem c_in {F : Nat} {h : Hp} (k : Int32) {i : Nat} (hi : i < 32) : f_WM_in F k (nI i) h = some (bI (bt k i = true), h) := by
  rw [c_WM_in]
  have := in_iff k hi
  unfold bI
  simp only [this]
theorem m_16 (a : Nat) : nI a * 16 = nI (16 * a) := by rw [show (16 : Int32) = nI 16 from rfl, pk_mul, Nat.mul_comm]
/-- places c, c + k, .. of the array a, those of n that Q takes -/
def fx (g : Nat → Nat → Int32) (a c k n : Nat) (Q : Nat → Bool) (f : Nat → Int32) : Nat → Nat → Int32 := fun b j => if b = a ∧ c ≤ j ∧ (j - c) % k = 0 ∧ (j - c) / k < n ∧ Q ((j - c) / k) = true then f ((j - c) / k) else g b j
theorem fx_0 (g : Nat → Nat → Int32) (a c k : Nat) (Q : Nat → Bool) (f : Nat → Int32) : fx g a c k 0 Q f = g := by
  funext b j
  exact if_neg (fun q => absurd q.2.2.2.1 (Nat.not_lt_zero _))
theorem fx_o {g : Nat → Nat → Int32} {a c k n b j : Nat} {Q : Nat → Bool} {f : Nat → Int32} (h : ¬ b = a) : fx g a c k n Q f b j = g b j := if_neg (fun q => h q.1)
theorem fx_i {g : Nat → Nat → Int32} {a c k n i j : Nat} {Q : Nat → Bool} {f : Nat → Int32} (hk : 0 < k) (e : j = c + k * i) : fx g a c k n Q f a j = if i < n ∧ Q i = true then f i else g a j := by
  subst e
  unfold fx
  rw [Nat.add_sub_cancel_left, Nat.mul_mod_right, Nat.mul_div_cancel_left i hk]
  simp
theorem fx_c {g : Nat → Nat → Int32} {a c k n b j : Nat} {Q : Nat → Bool} {f : Nat → Int32} (h : ∀ i, i < n → ¬ j = c + k * i) : fx g a c k n Q f b j = g b j := by
  refine if_neg (fun q => h _ q.2.2.2.1 ?_)
  have := Nat.div_add_mod (j - c) k
  rw [q.2.2.1] at this
  have := q.2.1
  omega
theorem fx_y {g : Nat → Nat → Int32} {a c k n j : Nat} {Q : Nat → Bool} {f : Nat → Int32} (hk : 0 < k) (e : j = c + k * n) (q : Q n = true) : up2 (fx g a c k n Q f) a j (f n) = fx g a c k (n + 1) Q f := by
  funext b l
  unfold up2
  by_cases hb : b = a
  · subst hb
    by_cases hl : l = j
    · subst hl
      rw [if_pos ⟨rfl, rfl⟩, fx_i hk e, if_pos ⟨Nat.lt_succ_self _, q⟩]
    · rw [if_neg (fun q => hl q.2)]
      unfold fx
      by_cases hc : c ≤ l ∧ (l - c) % k = 0
      · have hd : ¬ (l - c) / k = n := by
          intro hd
          apply hl
          have := Nat.div_add_mod (l - c) k
          rw [hd, hc.2] at this
          omega
        have : (l - c) / k < n + 1 ↔ (l - c) / k < n := by omega
        simp only [this]
      · rw [if_neg (fun q => hc ⟨q.2.1, q.2.2.1⟩), if_neg (fun q => hc ⟨q.2.1, q.2.2.1⟩)]
  · rw [if_neg (fun q => hb q.1), fx_o hb, fx_o hb]
theorem fx_n {g : Nat → Nat → Int32} {a c k n : Nat} {Q : Nat → Bool} {f : Nat → Int32} (q : Q n = false) : fx g a c k n Q f = fx g a c k (n + 1) Q f := by
  funext b l
  unfold fx
  by_cases hd : (l - c) / k = n
  · rw [if_neg (by omega), if_neg (fun z => by rw [hd, q] at z; exact absurd z.2.2.2.2 (by simp))]
  · have : (l - c) / k < n + 1 ↔ (l - c) / k < n := by omega
    simp only [this]
theorem fx_congr {g : Nat → Nat → Int32} {a c k n : Nat} {Q R : Nat → Bool} {f e : Nat → Int32} (h1 : ∀ i, i < n → Q i = R i) (h2 : ∀ i, i < n → Q i = true → f i = e i) : fx g a c k n Q f = fx g a c k n R e := by
  funext b l
  unfold fx
  by_cases hd : (l - c) / k < n
  · rw [h1 _ hd]
    by_cases hq : R ((l - c) / k) = true
    · rw [h2 _ hd (by rw [h1 _ hd]; exact hq)]
    · rw [if_neg (fun z => hq z.2.2.2.2), if_neg (fun z => hq z.2.2.2.2)]
  · rw [if_neg (fun z => hd z.2.2.2.1), if_neg (fun z => hd z.2.2.2.1)]
/-- a warp's cell and its arrays -/
def Wp (h : Hp) (w rg pl ro pr ti ln : Nat) : Prop := (hK h w = 9 ∧ hI h 514 w = nI ln ∧ ln ≤ 32) ∧ (hR h 523 w = some rg ∧ hK h rg = 100 ∧ 16 * ln ≤ hN h rg ∧ hN h rg ≤ 512) ∧ (hR h 524 w = some pl ∧ hK h pl = 100 ∧ ln ≤ hN h pl ∧ hN h pl ≤ 32) ∧ (hR h 525 w = some ro ∧ hK h ro = 100 ∧ ln ≤ hN h ro ∧ hN h ro ≤ 32) ∧ (hR h 526 w = some pr ∧ hK h pr = 100 ∧ hN h pr = 4) ∧ (hR h 527 w = some ti ∧ hK h ti = 100 ∧ hN h ti = 20) ∧ ¬ rg = pl ∧ ¬ rg = ro ∧ ¬ pl = ro ∧ ¬ pr = rg ∧ ¬ pr = pl ∧ ¬ pr = ro ∧ ¬ ti = rg ∧ ¬ ti = pl ∧ ¬ ti = ro ∧ ¬ ti = pr
theorem Wp.same {h h2 : Hp} {w rg pl ro pr ti ln : Nat} (W : Wp h w rg pl ro pr ti ln) (eK : hK h2 = hK h) (eN : hN h2 = hN h) (eR : ∀ f, ¬ f = 520 → ¬ f = 512 → hR h2 f w = hR h f w) (eI : hI h2 514 w = hI h 514 w) : Wp h2 w rg pl ro pr ti ln := by
  unfold Wp at *
  rw [eK, eN, eR _ (by decide) (by decide), eR _ (by decide) (by decide), eR _ (by decide) (by decide), eR _ (by decide) (by decide), eR _ (by decide) (by decide), eI]
  exact W
theorem c_Warp_register {F : Nat} {h : Hp} {w rg pl ro pr ti ln : Nat} (W : Wp h w rg pl ro pr ti ln) (hF : 40000 ≤ F) {i r : Nat} (hi : i < ln) (hr : r < 16) : f_Warp_register F w (nI i) (nI r) h = some (hA h rg (16 * i + r), h) := by
  obtain ⟨⟨wk, wl, hl⟩, ⟨r1, k1, n1, m1⟩, ⟨r2, k2, n2, m2⟩, ⟨r3, k3, n3, m3⟩, ⟨r4, k4, n4⟩, ⟨r5, k5, n5⟩, d1, d2, d3, d4, d5, d6, d7, d8, d9, d10⟩ := W
  simp (disch := omega) only [f_Warp_register, pw, gd, rq_i, Bool.false_eq_true, eq_self, or_false, false_or, or_true, true_or, and_true, true_and, and_false, false_and, not_true_eq_false, not_false_eq_true, nu_none, nu_some, cl_some, clv_some, qK_sI, qK_sA, qK_sL, qR_sI, qR_sA, qR_sL, qN_sI, qN_sA, qN_sL, qK_oA, qR_oA, qN_oA, qI_oA, qI_sA, qI_sL, qL_sA, qL_sI, qL_oA, qA_sI, qA_sL, qA_oA, if_true, if_false, reduceIte, ixn, nI_add, nI_1, n_4, n_8, n_16, n_20, n_32, n_64, n_128, i_0, wk, r1, k1, m_16]
theorem c_Warp_put {F : Nat} {h : Hp} {w rg pl ro pr ti ln : Nat} (W : Wp h w rg pl ro pr ti ln) (hF : 40000 ≤ F) {i r : Nat} (hi : i < ln) (hr : r < 16) (v : Int32) : f_Warp_put F w (nI i) (nI r) v h = some (sA h rg (16 * i + r) v) := by
  obtain ⟨⟨wk, wl, hl⟩, ⟨r1, k1, n1, m1⟩, ⟨r2, k2, n2, m2⟩, ⟨r3, k3, n3, m3⟩, ⟨r4, k4, n4⟩, ⟨r5, k5, n5⟩, d1, d2, d3, d4, d5, d6, d7, d8, d9, d10⟩ := W
  simp (disch := omega) only [f_Warp_put, pw, gd, rq_i, Bool.false_eq_true, eq_self, or_false, false_or, or_true, true_or, and_true, true_and, and_false, false_and, not_true_eq_false, not_false_eq_true, nu_none, nu_some, cl_some, clv_some, qK_sI, qK_sA, qK_sL, qR_sI, qR_sA, qR_sL, qN_sI, qN_sA, qN_sL, qK_oA, qR_oA, qN_oA, qI_oA, qI_sA, qI_sL, qL_sA, qL_sI, qL_oA, qA_sI, qA_sL, qA_oA, if_true, if_false, reduceIte, ixn, nI_add, nI_1, n_4, n_8, n_16, n_20, n_32, n_64, n_128, i_0, wk, r1, k1, m_16]
theorem c_Warp_dividingByZero {F : Nat} {h : Hp} {w rg pl ro pr ti ln : Nat} (W : Wp h w rg pl ro pr ti ln) (hF : 40000 ≤ F) {wd : Nat} (hw : hR h 520 w = some wd) (hk : hK h wd = 10) {b : Nat} (hb : hI h 579 wd = nI b) (lb : b < 16) (m : Int32) : f_Warp_dividingByZero F w m h = some (mkM (fun i => bt m i && decide (hA h rg (16 * i + b) = 0)) ln, h) := by
  have W2 := W
  obtain ⟨⟨wk, wl, hl⟩, ⟨r1, k1, n1, m1⟩, ⟨r2, k2, n2, m2⟩, ⟨r3, k3, n3, m3⟩, ⟨r4, k4, n4⟩, ⟨r5, k5, n5⟩, d1, d2, d3, d4, d5, d6, d7, d8, d9, d10⟩ := W
  have st := iterF (fun n i => b_Warp_dividingByZero_4 F n w m (mkM (fun i => bt m i && decide (hA h rg (16 * i + b) = 0)) i) (nI i) h) ln (fun i n hi => by
    have c : ¬ nI ln ≤ nI i := nI_ge hi (by omega)
    by_cases q : bt m i = true
    · simp (disch := omega) only [b_Warp_dividingByZero_4, pw, gd, rq_i, Bool.false_eq_true, eq_self, or_false, false_or, or_true, true_or, and_true, true_and, and_false, false_and, not_true_eq_false, not_false_eq_true, nu_none, nu_some, cl_some, clv_some, qK_sI, qK_sA, qK_sL, qR_sI, qR_sA, qR_sL, qN_sI, qN_sA, qN_sL, qK_oA, qR_oA, qN_oA, qI_oA, qI_sA, qI_sL, qL_sA, qL_sI, qL_oA, qA_sI, qA_sL, qA_oA, if_true, if_false, reduceIte, ixn, nI_add, nI_1, n_4, n_8, n_16, n_20, n_32, n_64, n_128, i_0, wk, wl, c, c_in m (show i < 32 by omega), bI_ite, hw, hk, hb, c_Warp_register W2 hF hi lb, mkM, q]
      by_cases z : hA h rg (16 * i + b) = 0
      · simp [z]
      · simp [z]
    · simp (disch := omega) only [b_Warp_dividingByZero_4, pw, gd, rq_i, Bool.false_eq_true, eq_self, or_false, false_or, or_true, true_or, and_true, true_and, and_false, false_and, not_true_eq_false, not_false_eq_true, nu_none, nu_some, cl_some, clv_some, qK_sI, qK_sA, qK_sL, qR_sI, qR_sA, qR_sL, qN_sI, qN_sA, qN_sL, qK_oA, qR_oA, qN_oA, qI_oA, qI_sA, qI_sL, qL_sA, qL_sI, qL_oA, qA_sI, qA_sL, qA_oA, if_true, if_false, reduceIte, ixn, nI_add, nI_1, n_4, n_8, n_16, n_20, n_32, n_64, n_128, i_0, wk, wl, c, c_in m (show i < 32 by omega), bI_ite, mkM, q]
      all_goals simp) (F := F) (by omega)
  have cL : nI ln ≤ nI ln := nI_le (Nat.le_refl _) (by omega)
  simp only [nI_0, mkM] at st
  rw [f_Warp_dividingByZero, st]
  simp only [b_Warp_dividingByZero_4, pw, gd, rq_i, Bool.false_eq_true, eq_self, or_false, false_or, or_true, true_or, and_true, true_and, and_false, false_and, not_true_eq_false, not_false_eq_true, nu_none, nu_some, cl_some, clv_some, qK_sI, qK_sA, qK_sL, qR_sI, qR_sA, qR_sL, qN_sI, qN_sA, qN_sL, qK_oA, qR_oA, qN_oA, qI_oA, qI_sA, qI_sL, qL_sA, qL_sI, qL_oA, qA_sI, qA_sL, qA_oA, if_true, if_false, reduceIte, ixn, nI_add, nI_1, n_4, n_8, n_16, n_20, n_32, n_64, n_128, i_0, wk, wl, cL]
theorem c_Warp_aim {F : Nat} {h : Hp} {w rg pl ro pr ti ln : Nat} (W : Wp h w rg pl ro pr ti ln) (hF : 40000 ≤ F) {wd : Nat} (hw : hR h 520 w = some wd) (hk : hK h wd = 10) {a : Nat} {nn : Int32} (ha : hI h 578 wd = nI a) (la : a < 16) (hn : hI h 580 wd = nn) (m : Int32) : f_Warp_aim F w m h = some (oA h (fx (hA h) ro 0 1 ln (fun i => bt m i) (fun i => hA h rg (16 * i + a) + nn))) := by
  obtain ⟨⟨wk, wl, hl⟩, ⟨r1, k1, n1, m1⟩, ⟨r2, k2, n2, m2⟩, ⟨r3, k3, n3, m3⟩, ⟨r4, k4, n4⟩, ⟨r5, k5, n5⟩, d1, d2, d3, d4, d5, d6, d7, d8, d9, d10⟩ := W
  have st := iterF (fun n i => b_Warp_aim_2 F n w m (nI i) (oA h (fx (hA h) ro 0 1 i (fun i => bt m i) (fun i => hA h rg (16 * i + a) + nn)))) ln (fun i n hi => by
    have c : ¬ nI ln ≤ nI i := nI_ge hi (by omega)
    by_cases q : bt m i = true
    · have u := fx_y (g := hA h) (a := ro) (c := 0) (k := 1) (n := i) (j := i) (Q := fun i => bt m i) (f := fun i => hA h rg (16 * i + a) + nn) (by decide) (by omega) q
      simp (disch := omega) only [b_Warp_aim_2, pw, gd, rq_i, Bool.false_eq_true, eq_self, or_false, false_or, or_true, true_or, and_true, true_and, and_false, false_and, not_true_eq_false, not_false_eq_true, nu_none, nu_some, cl_some, clv_some, qK_sI, qK_sA, qK_sL, qR_sI, qR_sA, qR_sL, qN_sI, qN_sA, qN_sL, qK_oA, qR_oA, qN_oA, qI_oA, qI_sA, qI_sL, qL_sA, qL_sI, qL_oA, qA_sI, qA_sL, qA_oA, if_true, if_false, reduceIte, ixn, nI_add, nI_1, n_4, n_8, n_16, n_20, n_32, n_64, n_128, i_0, wk, wl, c, c_in m (show i < 32 by omega), bI_ite, hw, hk, ha, hn, f_Warp_register, r1, k1, r3, k3, m_16, q, fx_o d2, sA_oA, u]
    · have u := fx_n (g := hA h) (a := ro) (c := 0) (k := 1) (n := i) (Q := fun i => bt m i) (f := fun i => hA h rg (16 * i + a) + nn) (by simpa using q)
      simp (disch := omega) only [b_Warp_aim_2, pw, gd, rq_i, Bool.false_eq_true, eq_self, or_false, false_or, or_true, true_or, and_true, true_and, and_false, false_and, not_true_eq_false, not_false_eq_true, nu_none, nu_some, cl_some, clv_some, qK_sI, qK_sA, qK_sL, qR_sI, qR_sA, qR_sL, qN_sI, qN_sA, qN_sL, qK_oA, qR_oA, qN_oA, qI_oA, qI_sA, qI_sL, qL_sA, qL_sI, qL_oA, qA_sI, qA_sL, qA_oA, if_true, if_false, reduceIte, ixn, nI_add, nI_1, n_4, n_8, n_16, n_20, n_32, n_64, n_128, i_0, wk, wl, c, c_in m (show i < 32 by omega), bI_ite, q, ← u]
      all_goals simp) (F := F) (by omega)
  have cL : nI ln ≤ nI ln := nI_le (Nat.le_refl _) (by omega)
  simp only [nI_0, fx_0, oA_self] at st
  rw [f_Warp_aim, st]
  simp only [b_Warp_aim_2, pw, gd, rq_i, Bool.false_eq_true, eq_self, or_false, false_or, or_true, true_or, and_true, true_and, and_false, false_and, not_true_eq_false, not_false_eq_true, nu_none, nu_some, cl_some, clv_some, qK_sI, qK_sA, qK_sL, qR_sI, qR_sA, qR_sL, qN_sI, qN_sA, qN_sL, qK_oA, qR_oA, qN_oA, qI_oA, qI_sA, qI_sL, qL_sA, qL_sI, qL_oA, qA_sI, qA_sL, qA_oA, if_true, if_false, reduceIte, ixn, nI_add, nI_1, n_4, n_8, n_16, n_20, n_32, n_64, n_128, i_0, wk, wl, cL]
theorem c_Warp_aimedBeyond {F : Nat} {h : Hp} {w rg pl ro pr ti ln : Nat} (W : Wp h w rg pl ro pr ti ln) (hF : 40000 ≤ F) (m bd : Int32) : f_Warp_aimedBeyond F w m bd h = some (mkM (fun i => bt m i && decide (hA h ro i < 0 ∨ ¬ hA h ro i < bd)) ln, h) := by
  obtain ⟨⟨wk, wl, hl⟩, ⟨r1, k1, n1, m1⟩, ⟨r2, k2, n2, m2⟩, ⟨r3, k3, n3, m3⟩, ⟨r4, k4, n4⟩, ⟨r5, k5, n5⟩, d1, d2, d3, d4, d5, d6, d7, d8, d9, d10⟩ := W
  have st := iterF (fun n i => b_Warp_aimedBeyond_5 F n w m bd (mkM (fun i => bt m i && decide (hA h ro i < 0 ∨ ¬ hA h ro i < bd)) i) (nI i) h) ln (fun i n hi => by
    have c : ¬ nI ln ≤ nI i := nI_ge hi (by omega)
    by_cases q : bt m i = true
    · simp (disch := omega) only [b_Warp_aimedBeyond_5, b_Warp_aimedBeyond_44, pw, gd, rq_i, Bool.false_eq_true, eq_self, or_false, false_or, or_true, true_or, and_true, true_and, and_false, false_and, not_true_eq_false, not_false_eq_true, nu_none, nu_some, cl_some, clv_some, qK_sI, qK_sA, qK_sL, qR_sI, qR_sA, qR_sL, qN_sI, qN_sA, qN_sL, qK_oA, qR_oA, qN_oA, qI_oA, qI_sA, qI_sL, qL_sA, qL_sI, qL_oA, qA_sI, qA_sL, qA_oA, if_true, if_false, reduceIte, ixn, nI_add, nI_1, n_4, n_8, n_16, n_20, n_32, n_64, n_128, i_0, wk, wl, c, c_in m (show i < 32 by omega), bI_ite, r3, k3, mkM, q]
      by_cases z : hA h ro i < 0
      · simp [z]
      · by_cases y : hA h ro i < bd
        · simp [z, y]
        · simp [z, y]
    · simp (disch := omega) only [b_Warp_aimedBeyond_5, pw, gd, rq_i, Bool.false_eq_true, eq_self, or_false, false_or, or_true, true_or, and_true, true_and, and_false, false_and, not_true_eq_false, not_false_eq_true, nu_none, nu_some, cl_some, clv_some, qK_sI, qK_sA, qK_sL, qR_sI, qR_sA, qR_sL, qN_sI, qN_sA, qN_sL, qK_oA, qR_oA, qN_oA, qI_oA, qI_sA, qI_sL, qL_sA, qL_sI, qL_oA, qA_sI, qA_sL, qA_oA, if_true, if_false, reduceIte, ixn, nI_add, nI_1, n_4, n_8, n_16, n_20, n_32, n_64, n_128, i_0, wk, wl, c, c_in m (show i < 32 by omega), bI_ite, mkM, q]
      all_goals simp) (F := F) (by omega)
  have cL : nI ln ≤ nI ln := nI_le (Nat.le_refl _) (by omega)
  simp only [nI_0, mkM] at st
  rw [f_Warp_aimedBeyond, st]
  simp only [b_Warp_aimedBeyond_5, pw, gd, rq_i, Bool.false_eq_true, eq_self, or_false, false_or, or_true, true_or, and_true, true_and, and_false, false_and, not_true_eq_false, not_false_eq_true, nu_none, nu_some, cl_some, clv_some, qK_sI, qK_sA, qK_sL, qR_sI, qR_sA, qR_sL, qN_sI, qN_sA, qN_sL, qK_oA, qR_oA, qN_oA, qI_oA, qI_sA, qI_sL, qL_sA, qL_sI, qL_oA, qA_sI, qA_sL, qA_oA, if_true, if_false, reduceIte, ixn, nI_add, nI_1, n_4, n_8, n_16, n_20, n_32, n_64, n_128, i_0, wk, wl, cL]
theorem c_WM_leastOf {F : Nat} {h : Hp} {m : Int32} {i : Nat} (hF : 40000 ≤ F) (hi : i < 32) (q : bt m i = true) (l : ∀ j, j < i → bt m j = false) : f_WM_leastOf F m h = some (nI i, h) := by
  have st := iterF (fun n j => b_WM_leastOf_2 F n m (nI j) h) i (fun j n hj => by
    have c : ¬ (32 : Int32) ≤ nI j := nI_ge (b := 32) (by omega) (by decide)
    simp only [b_WM_leastOf_2, pw, gd, rq_i, Bool.false_eq_true, eq_self, or_false, false_or, or_true, true_or, and_true, true_and, and_false, false_and, not_true_eq_false, not_false_eq_true, nu_none, nu_some, cl_some, clv_some, qK_sI, qK_sA, qK_sL, qR_sI, qR_sA, qR_sL, qN_sI, qN_sA, qN_sL, qK_oA, qR_oA, qN_oA, qI_oA, qI_sA, qI_sL, qL_sA, qL_sI, qL_oA, qA_sI, qA_sL, qA_oA, if_true, if_false, reduceIte, ixn, nI_add, nI_1, n_4, n_8, n_16, n_20, n_32, n_64, n_128, i_0, c, c_in m (show j < 32 by omega), bI_ite, l j hj]
    all_goals simp) (F := F) (by omega)
  have c : ¬ (32 : Int32) ≤ nI i := nI_ge (b := 32) hi (by decide)
  simp only [nI_0] at st
  rw [f_WM_leastOf, st]
  simp only [b_WM_leastOf_2, pw, gd, rq_i, Bool.false_eq_true, eq_self, or_false, false_or, or_true, true_or, and_true, true_and, and_false, false_and, not_true_eq_false, not_false_eq_true, nu_none, nu_some, cl_some, clv_some, qK_sI, qK_sA, qK_sL, qR_sI, qR_sA, qR_sL, qN_sI, qN_sA, qN_sL, qK_oA, qR_oA, qN_oA, qI_oA, qI_sA, qI_sL, qL_sA, qL_sI, qL_oA, qA_sI, qA_sL, qA_oA, if_true, if_false, reduceIte, ixn, nI_add, nI_1, n_4, n_8, n_16, n_20, n_32, n_64, n_128, i_0, c, c_in m hi, bI_ite, q]
theorem c_Warp_doing {F : Nat} {h : Hp} {w rg pl ro pr ti ln : Nat} (W : Wp h w rg pl ro pr ti ln) (hF : 40000 ≤ F) {wd : Nat} (hw : hR h 520 w = some wd) (hk : hK h wd = 10) {g gu : Int32} (hg : hI h 518 w = g) (hu : hI h 582 wd = gu) (ok : gu = -1 ∨ ∃ k, k < 4 ∧ gu = nI k) : f_Warp_doing F w h = some (if gu = -1 then g else if hI h 583 wd = 0 then g &&& hA h pr gu.toNatClampNeg else g &&& (hA h pr gu.toNatClampNeg ^^^ -1), h) := by
  obtain ⟨⟨wk, wl, hl⟩, ⟨r1, k1, n1, m1⟩, ⟨r2, k2, n2, m2⟩, ⟨r3, k3, n3, m3⟩, ⟨r4, k4, n4⟩, ⟨r5, k5, n5⟩, d1, d2, d3, d4, d5, d6, d7, d8, d9, d10⟩ := W
  rcases ok with rfl | ⟨k, hk4, rfl⟩
  · simp only [f_Warp_doing, pw, gd, rq_i, Bool.false_eq_true, eq_self, or_false, false_or, or_true, true_or, and_true, true_and, and_false, false_and, not_true_eq_false, not_false_eq_true, nu_none, nu_some, cl_some, clv_some, qK_sI, qK_sA, qK_sL, qR_sI, qR_sA, qR_sL, qN_sI, qN_sA, qN_sL, qK_oA, qR_oA, qN_oA, qI_oA, qI_sA, qI_sL, qL_sA, qL_sI, qL_oA, qA_sI, qA_sL, qA_oA, if_true, if_false, reduceIte, ixn, nI_add, nI_1, n_4, n_8, n_16, n_20, n_32, n_64, n_128, i_0, wk, hw, hk, hu, hg]
  · have ne : ¬ nI k = -1 := fun q => by
      have := congrArg Int32.toInt q
      rw [nI_toInt (by omega)] at this
      have e : (-1 : Int32).toInt = -1 := by decide
      omega
    have ec : (nI k).toNatClampNeg = k := nI_clamp (by omega)
    simp (disch := omega) only [f_Warp_doing, pw, gd, rq_i, Bool.false_eq_true, eq_self, or_false, false_or, or_true, true_or, and_true, true_and, and_false, false_and, not_true_eq_false, not_false_eq_true, nu_none, nu_some, cl_some, clv_some, qK_sI, qK_sA, qK_sL, qR_sI, qR_sA, qR_sL, qN_sI, qN_sA, qN_sL, qK_oA, qR_oA, qN_oA, qI_oA, qI_sA, qI_sL, qL_sA, qL_sI, qL_oA, qA_sI, qA_sL, qA_oA, if_true, if_false, reduceIte, ixn, nI_add, nI_1, n_4, n_8, n_16, n_20, n_32, n_64, n_128, i_0, wk, hw, hk, hu, hg, ne, r4, k4, n4, ec]
    split <;> rfl
/-- where lanes go on -/
def avQ (jf m g : Int32) (i : Nat) : Bool := (decide (¬ jf = 0) && bt m i) || bt g i
def avF (jf m o nn p : Int32) (R : Nat → Int32) (i : Nat) : Int32 := if (decide (¬ jf = 0) && bt m i) = true then (if o = 42 then R i else nn) else p + 1
theorem l_advance {F : Nat} {h : Hp} {w rg pl ro pr ti ln : Nat} (W : Wp h w rg pl ro pr ti ln) (hF : 40000 ≤ F) {wd : Nat} (hw : hR h 520 w = some wd) (hk : hK h wd = 10) {a : Nat} {o nn g p : Int32} (ho : hI h 576 wd = o) (ha : hI h 578 wd = nI a) (la : a < 16) (hn : hI h 580 wd = nn) (hg : hI h 518 w = g) (hp : hI h 519 w = p) (m jf : Int32) : b_Warp_advance_32 F F w m jf 0 h = some (oA h (fx (hA h) pl 0 1 ln (avQ jf m g) (avF jf m o nn p (fun i => hA h rg (16 * i + a))))) := by
  obtain ⟨⟨wk, wl, hl⟩, ⟨r1, k1, n1, m1⟩, ⟨r2, k2, n2, m2⟩, ⟨r3, k3, n3, m3⟩, ⟨r4, k4, n4⟩, ⟨r5, k5, n5⟩, d1, d2, d3, d4, d5, d6, d7, d8, d9, d10⟩ := W
  have st := iterF (fun n i => b_Warp_advance_32 F n w m jf (nI i) (oA h (fx (hA h) pl 0 1 i (avQ jf m g) (avF jf m o nn p (fun i => hA h rg (16 * i + a)))))) ln (fun i n hi => by
    have c : ¬ nI ln ≤ nI i := nI_ge hi (by omega)
    by_cases j1 : jf = 0
    · subst j1
      by_cases q3 : bt g i = true
      · have u := fx_y (g := hA h) (a := pl) (c := 0) (k := 1) (n := i) (j := i) (Q := avQ 0 m g) (f := avF 0 m o nn p (fun i => hA h rg (16 * i + a))) (by decide) (by omega) (by unfold avQ; simp [q3])
        rw [show avF 0 m o nn p (fun i => hA h rg (16 * i + a)) i = p + 1 by unfold avF; simp] at u
        simp (disch := omega) only [b_Warp_advance_32, b_Warp_advance_95, pw, gd, rq_i, Bool.false_eq_true, eq_self, or_false, false_or, or_true, true_or, and_true, true_and, and_false, false_and, not_true_eq_false, not_false_eq_true, nu_none, nu_some, cl_some, clv_some, qK_sI, qK_sA, qK_sL, qR_sI, qR_sA, qR_sL, qN_sI, qN_sA, qN_sL, qK_oA, qR_oA, qN_oA, qI_oA, qI_sA, qI_sL, qL_sA, qL_sI, qL_oA, qA_sI, qA_sL, qA_oA, if_true, if_false, reduceIte, ixn, nI_add, nI_1, n_4, n_8, n_16, n_20, n_32, n_64, n_128, i_0, wk, wl, c, c_in g (show i < 32 by omega), bI_ite, hg, hp, r2, k2, q3, sA_oA, u]
      · have u := fx_n (g := hA h) (a := pl) (c := 0) (k := 1) (n := i) (Q := avQ 0 m g) (f := avF 0 m o nn p (fun i => hA h rg (16 * i + a))) (by unfold avQ; simp [q3])
        simp (disch := omega) only [b_Warp_advance_32, b_Warp_advance_95, pw, gd, rq_i, Bool.false_eq_true, eq_self, or_false, false_or, or_true, true_or, and_true, true_and, and_false, false_and, not_true_eq_false, not_false_eq_true, nu_none, nu_some, cl_some, clv_some, qK_sI, qK_sA, qK_sL, qR_sI, qR_sA, qR_sL, qN_sI, qN_sA, qN_sL, qK_oA, qR_oA, qN_oA, qI_oA, qI_sA, qI_sL, qL_sA, qL_sI, qL_oA, qA_sI, qA_sL, qA_oA, if_true, if_false, reduceIte, ixn, nI_add, nI_1, n_4, n_8, n_16, n_20, n_32, n_64, n_128, i_0, wk, wl, c, c_in g (show i < 32 by omega), bI_ite, hg, q3]
        rw [u]
    · by_cases q2 : bt m i = true
      · by_cases o1 : o = 42
        · subst o1
          have u := fx_y (g := hA h) (a := pl) (c := 0) (k := 1) (n := i) (j := i) (Q := avQ jf m g) (f := avF jf m 42 nn p (fun i => hA h rg (16 * i + a))) (by decide) (by omega) (by unfold avQ; simp [j1, q2])
          rw [show avF jf m 42 nn p (fun i => hA h rg (16 * i + a)) i = hA h rg (16 * i + a) by unfold avF; simp [j1, q2]] at u
          simp (disch := omega) only [b_Warp_advance_32, b_Warp_advance_91, pw, gd, rq_i, Bool.false_eq_true, eq_self, or_false, false_or, or_true, true_or, and_true, true_and, and_false, false_and, not_true_eq_false, not_false_eq_true, nu_none, nu_some, cl_some, clv_some, qK_sI, qK_sA, qK_sL, qR_sI, qR_sA, qR_sL, qN_sI, qN_sA, qN_sL, qK_oA, qR_oA, qN_oA, qI_oA, qI_sA, qI_sL, qL_sA, qL_sI, qL_oA, qA_sI, qA_sL, qA_oA, if_true, if_false, reduceIte, ixn, nI_add, nI_1, n_4, n_8, n_16, n_20, n_32, n_64, n_128, i_0, wk, wl, c, c_in m (show i < 32 by omega), bI_ite, hw, hk, ha, ho, f_Warp_register, r1, k1, r2, k2, m_16, q2, j1, fx_o d1, sA_oA, u]
        · have u := fx_y (g := hA h) (a := pl) (c := 0) (k := 1) (n := i) (j := i) (Q := avQ jf m g) (f := avF jf m o nn p (fun i => hA h rg (16 * i + a))) (by decide) (by omega) (by unfold avQ; simp [j1, q2])
          rw [show avF jf m o nn p (fun i => hA h rg (16 * i + a)) i = nn by unfold avF; simp [j1, q2, o1]] at u
          simp (disch := omega) only [b_Warp_advance_32, b_Warp_advance_91, pw, gd, rq_i, Bool.false_eq_true, eq_self, or_false, false_or, or_true, true_or, and_true, true_and, and_false, false_and, not_true_eq_false, not_false_eq_true, nu_none, nu_some, cl_some, clv_some, qK_sI, qK_sA, qK_sL, qR_sI, qR_sA, qR_sL, qN_sI, qN_sA, qN_sL, qK_oA, qR_oA, qN_oA, qI_oA, qI_sA, qI_sL, qL_sA, qL_sI, qL_oA, qA_sI, qA_sL, qA_oA, if_true, if_false, reduceIte, ixn, nI_add, nI_1, n_4, n_8, n_16, n_20, n_32, n_64, n_128, i_0, wk, wl, c, c_in m (show i < 32 by omega), bI_ite, hw, hk, hn, ho, o1, r2, k2, q2, j1, sA_oA, u]
      · by_cases q3 : bt g i = true
        · have u := fx_y (g := hA h) (a := pl) (c := 0) (k := 1) (n := i) (j := i) (Q := avQ jf m g) (f := avF jf m o nn p (fun i => hA h rg (16 * i + a))) (by decide) (by omega) (by unfold avQ; simp [q3])
          rw [show avF jf m o nn p (fun i => hA h rg (16 * i + a)) i = p + 1 by unfold avF; simp [q2]] at u
          simp (disch := omega) only [b_Warp_advance_32, b_Warp_advance_95, pw, gd, rq_i, Bool.false_eq_true, eq_self, or_false, false_or, or_true, true_or, and_true, true_and, and_false, false_and, not_true_eq_false, not_false_eq_true, nu_none, nu_some, cl_some, clv_some, qK_sI, qK_sA, qK_sL, qR_sI, qR_sA, qR_sL, qN_sI, qN_sA, qN_sL, qK_oA, qR_oA, qN_oA, qI_oA, qI_sA, qI_sL, qL_sA, qL_sI, qL_oA, qA_sI, qA_sL, qA_oA, if_true, if_false, reduceIte, ixn, nI_add, nI_1, n_4, n_8, n_16, n_20, n_32, n_64, n_128, i_0, wk, wl, c, c_in m (show i < 32 by omega), c_in g (show i < 32 by omega), bI_ite, hg, hp, r2, k2, q2, q3, j1, sA_oA, u]
        · have u := fx_n (g := hA h) (a := pl) (c := 0) (k := 1) (n := i) (Q := avQ jf m g) (f := avF jf m o nn p (fun i => hA h rg (16 * i + a))) (by unfold avQ; simp [q2, q3])
          simp (disch := omega) only [b_Warp_advance_32, b_Warp_advance_95, pw, gd, rq_i, Bool.false_eq_true, eq_self, or_false, false_or, or_true, true_or, and_true, true_and, and_false, false_and, not_true_eq_false, not_false_eq_true, nu_none, nu_some, cl_some, clv_some, qK_sI, qK_sA, qK_sL, qR_sI, qR_sA, qR_sL, qN_sI, qN_sA, qN_sL, qK_oA, qR_oA, qN_oA, qI_oA, qI_sA, qI_sL, qL_sA, qL_sI, qL_oA, qA_sI, qA_sL, qA_oA, if_true, if_false, reduceIte, ixn, nI_add, nI_1, n_4, n_8, n_16, n_20, n_32, n_64, n_128, i_0, wk, wl, c, c_in m (show i < 32 by omega), c_in g (show i < 32 by omega), bI_ite, hg, q2, q3, j1]
          rw [u]) (F := F) (by omega)
  have cL : nI ln ≤ nI ln := nI_le (Nat.le_refl _) (by omega)
  simp only [nI_0, fx_0, oA_self] at st
  rw [st]
  simp only [b_Warp_advance_32, pw, gd, rq_i, Bool.false_eq_true, eq_self, or_false, false_or, or_true, true_or, and_true, true_and, and_false, false_and, not_true_eq_false, not_false_eq_true, nu_none, nu_some, cl_some, clv_some, qK_sI, qK_sA, qK_sL, qR_sI, qR_sA, qR_sL, qN_sI, qN_sA, qN_sL, qK_oA, qR_oA, qN_oA, qI_oA, qI_sA, qI_sL, qL_sA, qL_sI, qL_oA, qA_sI, qA_sL, qA_oA, if_true, if_false, reduceIte, ixn, nI_add, nI_1, n_4, n_8, n_16, n_20, n_32, n_64, n_128, i_0, wk, wl, cL]
theorem c_Warp_advance {F : Nat} {h : Hp} {w rg pl ro pr ti ln : Nat} (W : Wp h w rg pl ro pr ti ln) (hF : 40000 ≤ F) {wd : Nat} (hw : hR h 520 w = some wd) (hk : hK h wd = 10) {a : Nat} {o nn g p : Int32} (ho : hI h 576 wd = o) (ha : hI h 578 wd = nI a) (la : a < 16) (hn : hI h 580 wd = nn) (hg : hI h 518 w = g) (hp : hI h 519 w = p) (m : Int32) : f_Warp_advance F w m h = some (oA h (fx (hA h) pl 0 1 ln (avQ (bI (¬ o < 40 ∧ ¬ 42 < o)) m g) (avF (bI (¬ o < 40 ∧ ¬ 42 < o)) m o nn p (fun i => hA h rg (16 * i + a))))) := by
  have l0 := l_advance W hF hw hk ho ha la hn hg hp m 0
  have l1 := l_advance W hF hw hk ho ha la hn hg hp m 1
  have wk := W.1.1
  simp only [f_Warp_advance, b_Warp_advance_28, b_Warp_advance_29, pw, gd, rq_i, Bool.false_eq_true, eq_self, or_false, false_or, or_true, true_or, and_true, true_and, and_false, false_and, not_true_eq_false, not_false_eq_true, nu_none, nu_some, cl_some, clv_some, qK_sI, qK_sA, qK_sL, qR_sI, qR_sA, qR_sL, qN_sI, qN_sA, qN_sL, qK_oA, qR_oA, qN_oA, qI_oA, qI_sA, qI_sL, qL_sA, qL_sI, qL_oA, qA_sI, qA_sL, qA_oA, if_true, if_false, reduceIte, ixn, nI_add, nI_1, n_4, n_8, n_16, n_20, n_32, n_64, n_128, i_0, wk, hw, hk, ho, l0, l1]
  unfold bI
  by_cases c1 : o < 40
  · simp [c1]
  · by_cases c2 : 42 < o
    · simp [c1, c2]
    · simp [c1, c2]
