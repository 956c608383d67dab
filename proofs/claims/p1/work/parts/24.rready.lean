/-! the reference: its group, and whether that is ready -/
theorem fr_o {g : Nat → Nat → Int32} {a lo hi b j : Nat} {f : Nat → Int32} (h : ¬ b = a) : fr g a lo hi f b j = g b j := if_neg (fun q => h q.1)
theorem fr_i {g : Nat → Nat → Int32} {a lo hi j : Nat} {f : Nat → Int32} (h1 : lo ≤ j) (h2 : j < hi) : fr g a lo hi f a j = f j := if_pos ⟨rfl, h1, h2⟩
theorem rAw_same {h k : Hp} {m s i : Nat} (e1 : hI k 705 m = hI h 705 m) (e2 : hI k 717 m = hI h 717 m) (e3 : hA k (m + 10) s = hA h (m + 10) s) (e4 : hA k (m + 16) (32 * s + i) = hA h (m + 16) (32 * s + i)) (e5 : hA k (m + 17) (32 * s + i) = hA h (m + 17) (32 * s + i)) : rAw k m s i ↔ rAw h m s i := by
  unfold rAw rLn
  rw [e1, e2, e3, e4, e5]
abbrev aA (h : Hp) (m s : Nat) (i : Nat) : Bool := decide (rAw h m s i)
abbrev aP (h : Hp) (m s : Nat) (i : Nat) : Int32 := hA h (m + 15) (32 * s + i)
theorem bI_0 {p : Prop} [Decidable p] : bI p = 0 ↔ ¬ p := by unfold bI; split <;> simp [*]
def gG (h : Hp) (m s ln i : Nat) : Int32 := bI (gB1 (aA h m s) (aP h m s) ln i = true)
theorem c_Mod_group {F : Nat} {h : Hp} {m s ln : Nat} (M : Md h m) (hF : 40000 ≤ F) (hs : s < 128) (hl : hI h 705 m = nI ln) (l32 : ln ≤ 32) : f_Mod_group F m (nI s) h = some (bI (¬ lp (aA h m s) (aP h m s) ln = none), oA h (fr (hA h) (m + 26) 0 32 (gG h m s ln))) := by
  have st := iterF (fun n i => b_Mod_group_7 F n m (nI s) (bI (¬ lp (aA h m s) (aP h m s) i = none)) (gpl (aA h m s) (aP h m s) i) (nI i) h) ln (fun i n hi => by
    have c : ¬ nI ln ≤ nI i := nI_ge hi (by omega)
    have ca := c_Mod_isAwake (F := F) M hs (show i < 32 by omega)
    by_cases q : rAw h m s i
    · have qa : aA h m s i = true := decide_eq_true q
      simp (disch := omega) only [b_Mod_group_7, pw, gd, rq_i, Bool.false_eq_true, eq_self, or_false, false_or, or_true, true_or, and_true, true_and, and_false, false_and, not_true_eq_false, not_false_eq_true, nu_none, nu_some, cl_some, clv_some, qK_sI, qK_sA, qK_sL, qR_sI, qR_sA, qR_sL, qN_sI, qN_sA, qN_sL, qK_oA, qR_oA, qN_oA, qI_oA, qI_sA, qI_sL, qL_sA, qL_sI, qL_oA, qA_sI, qA_sL, qA_oA, if_true, if_false, reduceIte, ixn, nI_add, nI_1, n_4, n_8, n_16, n_20, n_32, n_64, n_128, i_0, Md.k M, Md.r_place M, Md.k_place M, Md.n_place M, hl, c, ca, bI_ite]
      rw [if_pos q]
      simp (disch := omega) only [pw, gd, rq_i, Bool.false_eq_true, eq_self, or_false, false_or, or_true, true_or, and_true, true_and, and_false, false_and, not_true_eq_false, not_false_eq_true, nu_none, nu_some, cl_some, clv_some, qK_sI, qK_sA, qK_sL, qR_sI, qR_sA, qR_sL, qN_sI, qN_sA, qN_sL, qK_oA, qR_oA, qN_oA, qI_oA, qI_sA, qI_sL, qL_sA, qL_sI, qL_oA, qA_sI, qA_sL, qA_oA, if_true, if_false, reduceIte, ixn, nI_add, nI_1, n_4, n_8, n_16, n_20, n_32, n_64, n_128, i_0, Md.k M, Md.r_place M, Md.k_place M, Md.n_place M, c_Mod_thread]
      cases e : lp (aA h m s) (aP h m s) i with
      | none =>
        have e2 : lp (aA h m s) (aP h m s) (i + 1) = some (aP h m s i) := by rw [lp, if_pos qa, e]
        simp only [gpl, e2, e]
        simp [bI]
      | some v =>
        by_cases z : aP h m s i < v
        · have e2 : lp (aA h m s) (aP h m s) (i + 1) = some (aP h m s i) := by rw [lp, if_pos qa, e]; simp only [z, if_true]
          have z2 : hA h (m + 15) (32 * s + i) < v := z
          simp only [gpl, e2, e]
          simp [bI, z2]
        · have e2 : lp (aA h m s) (aP h m s) (i + 1) = some v := by rw [lp, if_pos qa, e]; simp only [z, if_false]
          have z2 : ¬ hA h (m + 15) (32 * s + i) < v := z
          simp only [gpl, e2, e]
          simp [bI, z2]
    · have qa : ¬ aA h m s i = true := fun z => q (of_decide_eq_true z)
      have e2 : lp (aA h m s) (aP h m s) (i + 1) = lp (aA h m s) (aP h m s) i := by rw [lp, if_neg qa]
      simp (disch := omega) only [b_Mod_group_7, pw, gd, rq_i, Bool.false_eq_true, eq_self, or_false, false_or, or_true, true_or, and_true, true_and, and_false, false_and, not_true_eq_false, not_false_eq_true, nu_none, nu_some, cl_some, clv_some, qK_sI, qK_sA, qK_sL, qR_sI, qR_sA, qR_sL, qN_sI, qN_sA, qN_sL, qK_oA, qR_oA, qN_oA, qI_oA, qI_sA, qI_sL, qL_sA, qL_sI, qL_oA, qA_sI, qA_sL, qA_oA, if_true, if_false, reduceIte, ixn, nI_add, nI_1, n_4, n_8, n_16, n_20, n_32, n_64, n_128, i_0, Md.k M, hl, c, ca, bI_ite, gpl, e2]
      rw [if_neg q]) (F := F) (by omega)
  have s2 := iterF (fun n i => b_Mod_group_70 F n m (nI s) (bI (¬ lp (aA h m s) (aP h m s) ln = none)) (gpl (aA h m s) (aP h m s) ln) (nI i) (oA h (fr (hA h) (m + 26) 0 i (gG h m s ln)))) 32 (fun i n hi => by
    have c : ¬ (32 : Int32) ≤ nI i := nI_ge (b := 32) hi (by decide)
    have u := fr_up (hA h) (m + 26) 0 i (gG h m s ln) (by omega)
    cases e : lp (aA h m s) (aP h m s) ln with
    | none =>
      have g0 : gG h m s ln i = 0 := by unfold gG gB1; rw [e]; simp [bI]
      rw [g0] at u
      simp (disch := omega) only [b_Mod_group_70, b_Mod_group_116, b_Mod_group_117, pw, gd, rq_i, Bool.false_eq_true, eq_self, or_false, false_or, or_true, true_or, and_true, true_and, and_false, false_and, not_true_eq_false, not_false_eq_true, nu_none, nu_some, cl_some, clv_some, qK_sI, qK_sA, qK_sL, qR_sI, qR_sA, qR_sL, qN_sI, qN_sA, qN_sL, qK_oA, qR_oA, qN_oA, qI_oA, qI_sA, qI_sL, qL_sA, qL_sI, qL_oA, qA_sI, qA_sL, qA_oA, if_true, if_false, reduceIte, ixn, nI_add, nI_1, n_4, n_8, n_16, n_20, n_32, n_64, n_128, i_0, Md.k M, Md.r_inGroup M, Md.k_inGroup M, Md.n_inGroup M, c, bI_ite, sA_oA, u]
      all_goals simp
    | some v =>
      have ev : gpl (aA h m s) (aP h m s) ln = v := by unfold gpl; rw [e]; rfl
      have ca := c_Mod_isAwake (F := F) (h := oA h (fr (hA h) (m + 26) 0 i (gG h m s ln))) M.toA hs hi
      have eq : rAw (oA h (fr (hA h) (m + 26) 0 i (gG h m s ln))) m s i ↔ rAw h m s i := rAw_same rfl rfl (by rw [qA_oA, fr_o (by omega)]) (by rw [qA_oA, fr_o (by omega)]) (by rw [qA_oA, fr_o (by omega)])
      have ep : fr (hA h) (m + 26) 0 i (gG h m s ln) (m + 15) (32 * s + i) = hA h (m + 15) (32 * s + i) := fr_o (by omega)
      by_cases q : rAw h m s i
      · by_cases z : hA h (m + 15) (32 * s + i) = v
        · have g0 : gG h m s ln i = 1 := by
            have z3 : aP h m s i = v := z
            unfold gG gB1
            rw [e, z3, show aA h m s i = true from decide_eq_true q]
            simp [bI]
          rw [g0] at u
          simp (disch := omega) only [b_Mod_group_70, pw, gd, rq_i, Bool.false_eq_true, eq_self, or_false, false_or, or_true, true_or, and_true, true_and, and_false, false_and, not_true_eq_false, not_false_eq_true, nu_none, nu_some, cl_some, clv_some, qK_sI, qK_sA, qK_sL, qR_sI, qR_sA, qR_sL, qN_sI, qN_sA, qN_sL, qK_oA, qR_oA, qN_oA, qI_oA, qI_sA, qI_sL, qL_sA, qL_sI, qL_oA, qA_sI, qA_sL, qA_oA, if_true, if_false, reduceIte, ixn, nI_add, nI_1, n_4, n_8, n_16, n_20, n_32, n_64, n_128, i_0, Md.k M, Md.r_inGroup M, Md.k_inGroup M, Md.n_inGroup M, Md.r_place M, Md.k_place M, Md.n_place M, c, ca, bI_ite]
          rw [if_pos (eq.mpr q)]
          simp (disch := omega) only [b_Mod_group_117, pw, gd, rq_i, Bool.false_eq_true, eq_self, or_false, false_or, or_true, true_or, and_true, true_and, and_false, false_and, not_true_eq_false, not_false_eq_true, nu_none, nu_some, cl_some, clv_some, qK_sI, qK_sA, qK_sL, qR_sI, qR_sA, qR_sL, qN_sI, qN_sA, qN_sL, qK_oA, qR_oA, qN_oA, qI_oA, qI_sA, qI_sL, qL_sA, qL_sI, qL_oA, qA_sI, qA_sL, qA_oA, if_true, if_false, reduceIte, ixn, nI_add, nI_1, n_4, n_8, n_16, n_20, n_32, n_64, n_128, i_0, Md.k M, Md.r_inGroup M, Md.k_inGroup M, Md.n_inGroup M, Md.r_place M, Md.k_place M, Md.n_place M, ev, c_Mod_thread, ep, z, sA_oA, u, bI_t (show ¬ (some v : Option Int32) = none by simp), show ¬ (1 : Int32) = 0 by decide]
          all_goals simp
        · have g0 : gG h m s ln i = 0 := by
            have z3 : ¬ v = aP h m s i := fun y => z y.symm
            unfold gG gB1
            rw [e]
            simp [bI, z3]
          rw [g0] at u
          simp (disch := omega) only [b_Mod_group_70, pw, gd, rq_i, Bool.false_eq_true, eq_self, or_false, false_or, or_true, true_or, and_true, true_and, and_false, false_and, not_true_eq_false, not_false_eq_true, nu_none, nu_some, cl_some, clv_some, qK_sI, qK_sA, qK_sL, qR_sI, qR_sA, qR_sL, qN_sI, qN_sA, qN_sL, qK_oA, qR_oA, qN_oA, qI_oA, qI_sA, qI_sL, qL_sA, qL_sI, qL_oA, qA_sI, qA_sL, qA_oA, if_true, if_false, reduceIte, ixn, nI_add, nI_1, n_4, n_8, n_16, n_20, n_32, n_64, n_128, i_0, Md.k M, Md.r_inGroup M, Md.k_inGroup M, Md.n_inGroup M, Md.r_place M, Md.k_place M, Md.n_place M, c, ca, bI_ite]
          rw [if_pos (eq.mpr q)]
          simp (disch := omega) only [b_Mod_group_116, b_Mod_group_117, pw, gd, rq_i, Bool.false_eq_true, eq_self, or_false, false_or, or_true, true_or, and_true, true_and, and_false, false_and, not_true_eq_false, not_false_eq_true, nu_none, nu_some, cl_some, clv_some, qK_sI, qK_sA, qK_sL, qR_sI, qR_sA, qR_sL, qN_sI, qN_sA, qN_sL, qK_oA, qR_oA, qN_oA, qI_oA, qI_sA, qI_sL, qL_sA, qL_sI, qL_oA, qA_sI, qA_sL, qA_oA, if_true, if_false, reduceIte, ixn, nI_add, nI_1, n_4, n_8, n_16, n_20, n_32, n_64, n_128, i_0, Md.k M, Md.r_inGroup M, Md.k_inGroup M, Md.n_inGroup M, Md.r_place M, Md.k_place M, Md.n_place M, ev, c_Mod_thread, ep, z, sA_oA, u, bI_t (show ¬ (some v : Option Int32) = none by simp), show ¬ (1 : Int32) = 0 by decide]
          all_goals simp
      · have g0 : gG h m s ln i = 0 := by
          unfold gG gB1
          rw [show aA h m s i = false from decide_eq_false q]
          simp [bI]
        rw [g0] at u
        simp (disch := omega) only [b_Mod_group_70, pw, gd, rq_i, Bool.false_eq_true, eq_self, or_false, false_or, or_true, true_or, and_true, true_and, and_false, false_and, not_true_eq_false, not_false_eq_true, nu_none, nu_some, cl_some, clv_some, qK_sI, qK_sA, qK_sL, qR_sI, qR_sA, qR_sL, qN_sI, qN_sA, qN_sL, qK_oA, qR_oA, qN_oA, qI_oA, qI_sA, qI_sL, qL_sA, qL_sI, qL_oA, qA_sI, qA_sL, qA_oA, if_true, if_false, reduceIte, ixn, nI_add, nI_1, n_4, n_8, n_16, n_20, n_32, n_64, n_128, i_0, Md.k M, Md.r_inGroup M, Md.k_inGroup M, Md.n_inGroup M, c, ca, bI_ite]
        rw [if_neg (fun y => q (eq.mp y))]
        simp (disch := omega) only [b_Mod_group_116, b_Mod_group_117, pw, gd, rq_i, Bool.false_eq_true, eq_self, or_false, false_or, or_true, true_or, and_true, true_and, and_false, false_and, not_true_eq_false, not_false_eq_true, nu_none, nu_some, cl_some, clv_some, qK_sI, qK_sA, qK_sL, qR_sI, qR_sA, qR_sL, qN_sI, qN_sA, qN_sL, qK_oA, qR_oA, qN_oA, qI_oA, qI_sA, qI_sL, qL_sA, qL_sI, qL_oA, qA_sI, qA_sL, qA_oA, if_true, if_false, reduceIte, ixn, nI_add, nI_1, n_4, n_8, n_16, n_20, n_32, n_64, n_128, i_0, Md.k M, Md.r_inGroup M, Md.k_inGroup M, Md.n_inGroup M, sA_oA, u, bI_t (show ¬ (some v : Option Int32) = none by simp), show ¬ (1 : Int32) = 0 by decide]
        all_goals simp) (F := F) (by omega)
  have e0 : gpl (aA h m s) (aP h m s) 0 = 0 := rfl
  have e1 : bI (¬ lp (aA h m s) (aP h m s) 0 = none) = 0 := by simp [bI, lp]
  have cL : nI ln ≤ nI ln := nI_le (Nat.le_refl _) (by omega)
  have c2 : (32 : Int32) ≤ nI 32 := by decide
  have b1 := bI_01 (¬ lp (aA h m s) (aP h m s) ln = none)
  simp only [nI_0, e0, e1] at st
  simp only [nI_0, fr_0, oA_self] at s2
  rw [f_Mod_group, st]
  simp only [b_Mod_group_7, pw, gd, rq_i, Bool.false_eq_true, eq_self, or_false, false_or, or_true, true_or, and_true, true_and, and_false, false_and, not_true_eq_false, not_false_eq_true, nu_none, nu_some, cl_some, clv_some, qK_sI, qK_sA, qK_sL, qR_sI, qR_sA, qR_sL, qN_sI, qN_sA, qN_sL, qK_oA, qR_oA, qN_oA, qI_oA, qI_sA, qI_sL, qL_sA, qL_sI, qL_oA, qA_sI, qA_sL, qA_oA, if_true, if_false, reduceIte, ixn, nI_add, nI_1, n_4, n_8, n_16, n_20, n_32, n_64, n_128, i_0, Md.k M, hl, cL]
  rw [s2]
  simp only [b_Mod_group_70, pw, gd, rq_i, Bool.false_eq_true, eq_self, or_false, false_or, or_true, true_or, and_true, true_and, and_false, false_and, not_true_eq_false, not_false_eq_true, nu_none, nu_some, cl_some, clv_some, qK_sI, qK_sA, qK_sL, qR_sI, qR_sA, qR_sL, qN_sI, qN_sA, qN_sL, qK_oA, qR_oA, qN_oA, qI_oA, qI_sA, qI_sL, qL_sA, qL_sI, qL_oA, qA_sI, qA_sL, qA_oA, if_true, if_false, reduceIte, ixn, nI_add, nI_1, n_4, n_8, n_16, n_20, n_32, n_64, n_128, i_0, c2, b1]
theorem c_Mod_firstOfGroup {F : Nat} {h : Hp} {m i : Nat} (M : Md h m) (hF : 40000 ≤ F) (hi : i < 32) (q : ¬ hA h (m + 26) i = 0) (l : ∀ j, j < i → hA h (m + 26) j = 0) : f_Mod_firstOfGroup F m h = some (nI i, h) := by
  have st := iterF (fun n j => b_Mod_firstOfGroup_2 F n m (nI j) h) i (fun j n hj => by
    simp (disch := omega) only [b_Mod_firstOfGroup_2, pw, gd, rq_i, Bool.false_eq_true, eq_self, or_false, false_or, or_true, true_or, and_true, true_and, and_false, false_and, not_true_eq_false, not_false_eq_true, nu_none, nu_some, cl_some, clv_some, qK_sI, qK_sA, qK_sL, qR_sI, qR_sA, qR_sL, qN_sI, qN_sA, qN_sL, qK_oA, qR_oA, qN_oA, qI_oA, qI_sA, qI_sL, qL_sA, qL_sI, qL_oA, qA_sI, qA_sL, qA_oA, if_true, if_false, reduceIte, ixn, nI_add, nI_1, n_4, n_8, n_16, n_20, n_32, n_64, n_128, i_0, Md.k M, Md.r_inGroup M, Md.k_inGroup M, Md.n_inGroup M, l j hj]) (F := F) (by omega)
  simp only [nI_0] at st
  rw [f_Mod_firstOfGroup, st]
  simp (disch := omega) only [b_Mod_firstOfGroup_2, pw, gd, rq_i, Bool.false_eq_true, eq_self, or_false, false_or, or_true, true_or, and_true, true_and, and_false, false_and, not_true_eq_false, not_false_eq_true, nu_none, nu_some, cl_some, clv_some, qK_sI, qK_sA, qK_sL, qR_sI, qR_sA, qR_sL, qN_sI, qN_sA, qN_sL, qK_oA, qR_oA, qN_oA, qI_oA, qI_sA, qI_sL, qL_sA, qL_sI, qL_oA, qA_sI, qA_sL, qA_oA, if_true, if_false, reduceIte, ixn, nI_add, nI_1, n_4, n_8, n_16, n_20, n_32, n_64, n_128, i_0, Md.k M, Md.r_inGroup M, Md.k_inGroup M, Md.n_inGroup M, q]
/-! the word's conditions -/
abbrev rT (h : Hp) (m s r : Nat) : Prop := ¬ hI h 719 m < hA h (m + 12) (20 * s + r)
abbrev rP (h : Hp) (m s : Nat) (p : Int32) : Prop := rT h m s (16 + pn p)
abbrev rd1 (h : Hp) (m u : Nat) : Prop := ¬ kSh (hI h 756 m) ∨ ¬ hI h 719 m < hA h (m + 6) u
abbrev rd2 (h : Hp) (m u s : Nat) : Prop := (¬ (kMem (hI h 756 m) ∨ hI h 756 m = 0 ∨ hI h 756 m = 1) ∨ ¬ hI h 719 m < hA h (m + 11) s) ∧ rd1 h m u
abbrev rd3 (h : Hp) (m u s : Nat) : Prop := (¬ (hI h 756 m = 7 ∨ hI h 756 m = 8) ∨ ¬ hI h 719 m < hA h (m + 5) u) ∧ rd2 h m u s
abbrev rd4 (h : Hp) (m u s : Nat) : Prop := (¬ kWP (hI h 756 m) ∨ rP h m s (hI h 757 m)) ∧ rd3 h m u s
abbrev rd5 (h : Hp) (m u s : Nat) : Prop := (¬ (hI h 756 m = 36 ∨ hI h 756 m = 70 ∨ hI h 756 m = 71 ∨ hI h 756 m = 72) ∨ rP h m s (hI h 758 m)) ∧ rd4 h m u s
abbrev rd6 (h : Hp) (m u s : Nat) : Prop := (¬ (hI h 756 m = 34 ∨ hI h 756 m = 35) ∨ (rP h m s (hI h 758 m) ∧ rP h m s (hI h 759 m))) ∧ rd5 h m u s
abbrev rd7 (h : Hp) (m u s : Nat) : Prop := (¬ hI h 756 m = 21 ∨ rP h m s (hI h 761 m)) ∧ rd6 h m u s
abbrev rd8 (h : Hp) (m u s d : Nat) : Prop := (¬ (kWD (hI h 756 m) ∨ hI h 756 m = 57) ∨ rT h m s d) ∧ rd7 h m u s
abbrev rd9 (h : Hp) (m u s d b : Nat) : Prop := (¬ kRB (hI h 756 m) ∨ rT h m s b) ∧ rd8 h m u s d
abbrev rd10 (h : Hp) (m u s d b a : Nat) : Prop := (¬ kRA (hI h 756 m) ∨ rT h m s a) ∧ rd9 h m u s d b
abbrev rRd (h : Hp) (m u s d b a : Nat) : Prop := (hI h 760 m < 8 ∨ rP h m s (hI h 760 m)) ∧ rd10 h m u s d b a
theorem rb_402 {F : Nat} {h : Hp} {m u s : Nat} (M : Md h m) (hs : s < 128) (hu : u < 8) (v : Int32) : b_Mod_isReady_402 F m (nI u) v h = some (bI (¬ v = 0 ∧ rd1 h m u), h) := by
  simp (disch := omega) only [b_Mod_isReady_402, b_Mod_isReady_429, pw, gd, rq_i, Bool.false_eq_true, eq_self, or_false, false_or, or_true, true_or, and_true, true_and, and_false, false_and, not_true_eq_false, not_false_eq_true, nu_none, nu_some, cl_some, clv_some, qK_sI, qK_sA, qK_sL, qR_sI, qR_sA, qR_sL, qN_sI, qN_sA, qN_sL, qK_oA, qR_oA, qN_oA, qI_oA, qI_sA, qI_sL, qL_sA, qL_sI, qL_oA, qA_sI, qA_sL, qA_oA, if_true, if_false, reduceIte, ixn, nI_add, nI_1, n_4, n_8, n_16, n_20, n_32, n_64, n_128, i_0, Md.k M, Md.r_sharedTick M, Md.k_sharedTick M, Md.n_sharedTick M, c_Mod_isShared M.k, bI_ite]
  unfold bI rd1
  grind
theorem rb_384 {F : Nat} {h : Hp} {m u s : Nat} (M : Md h m) (hs : s < 128) (hu : u < 8) : b_Mod_isReady_384 F m (nI u) (nI s) h = some (bI (¬ hI h 719 m < hA h (m + 11) s ∧ rd1 h m u), h) := by
  simp (disch := omega) only [b_Mod_isReady_384, b_Mod_isReady_397, b_Mod_isReady_401, pw, gd, rq_i, Bool.false_eq_true, eq_self, or_false, false_or, or_true, true_or, and_true, true_and, and_false, false_and, not_true_eq_false, not_false_eq_true, nu_none, nu_some, cl_some, clv_some, qK_sI, qK_sA, qK_sL, qR_sI, qR_sA, qR_sL, qN_sI, qN_sA, qN_sL, qK_oA, qR_oA, qN_oA, qI_oA, qI_sA, qI_sL, qL_sA, qL_sI, qL_oA, qA_sI, qA_sL, qA_oA, if_true, if_false, reduceIte, ixn, nI_add, nI_1, n_4, n_8, n_16, n_20, n_32, n_64, n_128, i_0, Md.k M, Md.r_memoryTick M, Md.k_memoryTick M, Md.n_memoryTick M, rb_402 M hs hu]
  unfold bI
  grind
theorem rb_362 {F : Nat} {h : Hp} {m u s : Nat} (M : Md h m) (hs : s < 128) (hu : u < 8) : b_Mod_isReady_362 F m (nI u) (nI s) h = some (bI (rd2 h m u s), h) := by
  simp only [b_Mod_isReady_362, b_Mod_isReady_397, pw, gd, rq_i, Bool.false_eq_true, eq_self, or_false, false_or, or_true, true_or, and_true, true_and, and_false, false_and, not_true_eq_false, not_false_eq_true, nu_none, nu_some, cl_some, clv_some, qK_sI, qK_sA, qK_sL, qR_sI, qR_sA, qR_sL, qN_sI, qN_sA, qN_sL, qK_oA, qR_oA, qN_oA, qI_oA, qI_sA, qI_sL, qL_sA, qL_sI, qL_oA, qA_sI, qA_sL, qA_oA, if_true, if_false, reduceIte, ixn, nI_add, nI_1, n_4, n_8, n_16, n_20, n_32, n_64, n_128, i_0, Md.k M, c_Mod_isMemory M.k, bI_ite, rb_384 M hs hu, rb_402 M hs hu]
  unfold bI rd2
  grind
theorem rb_324 {F : Nat} {h : Hp} {m u s : Nat} (M : Md h m) (hs : s < 128) (hu : u < 8) (v : Int32) : b_Mod_isReady_324 F m (nI u) (nI s) v h = some (bI (¬ v = 0 ∧ rd3 h m u s), h) := by
  simp (disch := omega) only [b_Mod_isReady_324, b_Mod_isReady_349, b_Mod_isReady_401, pw, gd, rq_i, Bool.false_eq_true, eq_self, or_false, false_or, or_true, true_or, and_true, true_and, and_false, false_and, not_true_eq_false, not_false_eq_true, nu_none, nu_some, cl_some, clv_some, qK_sI, qK_sA, qK_sL, qR_sI, qR_sA, qR_sL, qN_sI, qN_sA, qN_sL, qK_oA, qR_oA, qN_oA, qI_oA, qI_sA, qI_sL, qL_sA, qL_sI, qL_oA, qA_sI, qA_sL, qA_oA, if_true, if_false, reduceIte, ixn, nI_add, nI_1, n_4, n_8, n_16, n_20, n_32, n_64, n_128, i_0, Md.k M, Md.r_divider M, Md.k_divider M, Md.n_divider M, rb_362 M hs hu, rb_402 M hs hu]
  unfold bI rd3
  grind
theorem rb_300 {F : Nat} {h : Hp} {m u s : Nat} (M : Md h m) (hs : s < 128) (hu : u < 8) : b_Mod_isReady_300 F m (nI u) (nI s) h = some (bI (rd4 h m u s), h) := by
  simp only [b_Mod_isReady_300, b_Mod_isReady_319, b_Mod_isReady_323, pw, gd, rq_i, Bool.false_eq_true, eq_self, or_false, false_or, or_true, true_or, and_true, true_and, and_false, false_and, not_true_eq_false, not_false_eq_true, nu_none, nu_some, cl_some, clv_some, qK_sI, qK_sA, qK_sL, qR_sI, qR_sA, qR_sL, qN_sI, qN_sA, qN_sL, qK_oA, qR_oA, qN_oA, qI_oA, qI_sA, qI_sL, qL_sA, qL_sI, qL_oA, qA_sI, qA_sL, qA_oA, if_true, if_false, reduceIte, ixn, nI_add, nI_1, n_4, n_8, n_16, n_20, n_32, n_64, n_128, i_0, Md.k M, c_Mod_writesPredicate M.k, c_Mod_isPredicateThere M hs, bI_ite, rb_324 M hs hu]
  unfold bI rd4 rP rT
  grind
theorem rb_245 {F : Nat} {h : Hp} {m u s : Nat} (M : Md h m) (hs : s < 128) (hu : u < 8) (v : Int32) : b_Mod_isReady_245 F m (nI u) (nI s) v h = some (bI (¬ v = 0 ∧ rd5 h m u s), h) := by
  simp only [b_Mod_isReady_245, b_Mod_isReady_288, b_Mod_isReady_323, pw, gd, rq_i, Bool.false_eq_true, eq_self, or_false, false_or, or_true, true_or, and_true, true_and, and_false, false_and, not_true_eq_false, not_false_eq_true, nu_none, nu_some, cl_some, clv_some, qK_sI, qK_sA, qK_sL, qR_sI, qR_sA, qR_sL, qN_sI, qN_sA, qN_sL, qK_oA, qR_oA, qN_oA, qI_oA, qI_sA, qI_sL, qL_sA, qL_sI, qL_oA, qA_sI, qA_sL, qA_oA, if_true, if_false, reduceIte, ixn, nI_add, nI_1, n_4, n_8, n_16, n_20, n_32, n_64, n_128, i_0, Md.k M, c_Mod_isPredicateThere M hs, bI_ite, rb_324 M hs hu, rb_300 M hs hu]
  unfold bI rd5 rP rT
  grind
theorem rb_198 {F : Nat} {h : Hp} {m u s : Nat} (M : Md h m) (hs : s < 128) (hu : u < 8) : b_Mod_isReady_198 F m (nI u) (nI s) h = some (bI (rd6 h m u s), h) := by
  simp only [b_Mod_isReady_198, b_Mod_isReady_216, b_Mod_isReady_240, b_Mod_isReady_244, pw, gd, rq_i, Bool.false_eq_true, eq_self, or_false, false_or, or_true, true_or, and_true, true_and, and_false, false_and, not_true_eq_false, not_false_eq_true, nu_none, nu_some, cl_some, clv_some, qK_sI, qK_sA, qK_sL, qR_sI, qR_sA, qR_sL, qN_sI, qN_sA, qN_sL, qK_oA, qR_oA, qN_oA, qI_oA, qI_sA, qI_sL, qL_sA, qL_sI, qL_oA, qA_sI, qA_sL, qA_oA, if_true, if_false, reduceIte, ixn, nI_add, nI_1, n_4, n_8, n_16, n_20, n_32, n_64, n_128, i_0, Md.k M, c_Mod_isPredicateThere M hs, bI_ite, rb_245 M hs hu]
  unfold bI rd6 rP rT
  grind
theorem rb_170 {F : Nat} {h : Hp} {m u s : Nat} (M : Md h m) (hs : s < 128) (hu : u < 8) (v : Int32) : b_Mod_isReady_170 F m (nI u) (nI s) v h = some (bI (¬ v = 0 ∧ rd7 h m u s), h) := by
  simp only [b_Mod_isReady_170, b_Mod_isReady_244, pw, gd, rq_i, Bool.false_eq_true, eq_self, or_false, false_or, or_true, true_or, and_true, true_and, and_false, false_and, not_true_eq_false, not_false_eq_true, nu_none, nu_some, cl_some, clv_some, qK_sI, qK_sA, qK_sL, qR_sI, qR_sA, qR_sL, qN_sI, qN_sA, qN_sL, qK_oA, qR_oA, qN_oA, qI_oA, qI_sA, qI_sL, qL_sA, qL_sI, qL_oA, qA_sI, qA_sL, qA_oA, if_true, if_false, reduceIte, ixn, nI_add, nI_1, n_4, n_8, n_16, n_20, n_32, n_64, n_128, i_0, Md.k M, c_Mod_isPredicateThere M hs, bI_ite, rb_245 M hs hu, rb_198 M hs hu]
  unfold bI rd7 rP rT
  grind
theorem bI_cs {p q : Prop} [Decidable p] (e : p ↔ q) : (bI p = 1 ∧ q) ∨ (bI p = 0 ∧ ¬ q) := by
  by_cases c : p
  · exact Or.inl ⟨bI_t c, e.mp c⟩
  · exact Or.inr ⟨bI_f c, fun z => c (e.mpr z)⟩
theorem rb_137 {F : Nat} {h : Hp} {m u s : Nat} (M : Md h m) (hs : s < 128) (hu : u < 8) {d : Nat} (hd : hI h 757 m = nI d) (ld : d < 16) : ∃ v, b_Mod_isReady_137 F m (nI u) (nI s) h = some (v, h) ∧ ((v = 1 ∧ rd8 h m u s d) ∨ (v = 0 ∧ ¬ rd8 h m u s d)) := by
  have t0 := rb_170 (F := F) M hs hu 0
  have t1 := rb_170 (F := F) M hs hu 1
  simp only [b_Mod_isReady_137, b_Mod_isReady_153, b_Mod_isReady_165, b_Mod_isReady_169, pw, gd, rq_i, Bool.false_eq_true, eq_self, or_false, false_or, or_true, true_or, and_true, true_and, and_false, false_and, not_true_eq_false, not_false_eq_true, nu_none, nu_some, cl_some, clv_some, qK_sI, qK_sA, qK_sL, qR_sI, qR_sA, qR_sL, qN_sI, qN_sA, qN_sL, qK_oA, qR_oA, qN_oA, qI_oA, qI_sA, qI_sL, qL_sA, qL_sI, qL_oA, qA_sI, qA_sL, qA_oA, if_true, if_false, reduceIte, ixn, nI_add, nI_1, n_4, n_8, n_16, n_20, n_32, n_64, n_128, i_0, Md.k M, c_Mod_writesD M.k, hd, c_Mod_isThere M hs (show d < 20 by omega), bI_ite, t0, t1]
  by_cases c1 : kWD (hI h 756 m)
  · rw [if_pos c1]
    by_cases c3 : rT h m s d
    · rw [if_pos c3]
      exact ⟨_, rfl, bI_cs ⟨fun z => ⟨Or.inr c3, z.2⟩, fun z => ⟨by decide, z.2⟩⟩⟩
    · rw [if_neg c3]
      exact ⟨_, rfl, bI_cs ⟨fun z => False.elim z, fun z => absurd z.1 (fun y => y.elim (fun n => n (Or.inl c1)) c3)⟩⟩
  · rw [if_neg c1]
    by_cases c2 : hI h 756 m = 57
    · rw [if_pos c2]
      by_cases c3 : rT h m s d
      · rw [if_pos c3]
        exact ⟨_, rfl, bI_cs ⟨fun z => ⟨Or.inr c3, z.2⟩, fun z => ⟨by decide, z.2⟩⟩⟩
      · rw [if_neg c3]
        exact ⟨_, rfl, bI_cs ⟨fun z => False.elim z, fun z => absurd z.1 (fun y => y.elim (fun n => n (Or.inr c2)) c3)⟩⟩
    · rw [if_neg c2]
      exact ⟨_, rfl, bI_cs ⟨fun z => ⟨Or.inl (fun y => y.elim c1 c2), z.2⟩, fun z => ⟨by decide, z.2⟩⟩⟩
theorem rb_118 {F : Nat} {h : Hp} {m u s : Nat} (M : Md h m) (hs : s < 128) (hu : u < 8) {d b : Nat} (hd : hI h 757 m = nI d) (ld : d < 16) (hb : hI h 759 m = nI b) (lb : b < 16) : ∃ v, b_Mod_isReady_118 F m (nI u) (nI s) h = some (v, h) ∧ ((v = 1 ∧ rd9 h m u s d b) ∨ (v = 0 ∧ ¬ rd9 h m u s d b)) := by
  have t0 := rb_170 (F := F) M hs hu 0
  obtain ⟨v, t1, tv⟩ := rb_137 (F := F) M hs hu hd ld
  simp only [b_Mod_isReady_118, b_Mod_isReady_169, pw, gd, rq_i, Bool.false_eq_true, eq_self, or_false, false_or, or_true, true_or, and_true, true_and, and_false, false_and, not_true_eq_false, not_false_eq_true, nu_none, nu_some, cl_some, clv_some, qK_sI, qK_sA, qK_sL, qR_sI, qR_sA, qR_sL, qN_sI, qN_sA, qN_sL, qK_oA, qR_oA, qN_oA, qI_oA, qI_sA, qI_sL, qL_sA, qL_sI, qL_oA, qA_sI, qA_sL, qA_oA, if_true, if_false, reduceIte, ixn, nI_add, nI_1, n_4, n_8, n_16, n_20, n_32, n_64, n_128, i_0, Md.k M, c_Mod_readsB M.k, hb, c_Mod_isThere M hs (show b < 20 by omega), bI_ite, t0, t1]
  by_cases c1 : kRB (hI h 756 m)
  · rw [if_pos c1]
    by_cases c3 : rT h m s b
    · rw [if_pos c3]
      exact ⟨v, rfl, tv.imp (fun z => ⟨z.1, Or.inr c3, z.2⟩) (fun z => ⟨z.1, fun y => z.2 y.2⟩)⟩
    · rw [if_neg c3]
      exact ⟨_, rfl, bI_cs ⟨fun z => False.elim z, fun z => absurd z.1 (fun y => y.elim (fun n => n c1) c3)⟩⟩
  · rw [if_neg c1]
    exact ⟨v, rfl, tv.imp (fun z => ⟨z.1, Or.inl c1, z.2⟩) (fun z => ⟨z.1, fun y => z.2 y.2⟩)⟩
theorem rb_92 {F : Nat} {h : Hp} {m u s : Nat} (M : Md h m) (hs : s < 128) (hu : u < 8) {d b a : Nat} (hd : hI h 757 m = nI d) (ld : d < 16) (hb : hI h 759 m = nI b) (lb : b < 16) (ha : hI h 758 m = nI a) (la : a < 16) : b_Mod_isReady_92 F m (nI u) (nI s) 0 h = some (0, h) ∧ ∃ v, b_Mod_isReady_92 F m (nI u) (nI s) 1 h = some (v, h) ∧ ((v = 1 ∧ rd10 h m u s d b a) ∨ (v = 0 ∧ ¬ rd10 h m u s d b a)) := by
  have t0 := rb_170 (F := F) M hs hu 0
  have tz : bI (¬ (0 : Int32) = 0 ∧ rd7 h m u s) = 0 := bI_f (fun z => z.1 rfl)
  rw [tz] at t0
  obtain ⟨v, t1, tv⟩ := rb_118 (F := F) M hs hu hd ld hb lb
  refine ⟨by simp only [b_Mod_isReady_92, b_Mod_isReady_169, pw, gd, rq_i, Bool.false_eq_true, eq_self, or_false, false_or, or_true, true_or, and_true, true_and, and_false, false_and, not_true_eq_false, not_false_eq_true, nu_none, nu_some, cl_some, clv_some, qK_sI, qK_sA, qK_sL, qR_sI, qR_sA, qR_sL, qN_sI, qN_sA, qN_sL, qK_oA, qR_oA, qN_oA, qI_oA, qI_sA, qI_sL, qL_sA, qL_sI, qL_oA, qA_sI, qA_sL, qA_oA, if_true, if_false, reduceIte, ixn, nI_add, nI_1, n_4, n_8, n_16, n_20, n_32, n_64, n_128, i_0, t0], ?_⟩
  simp only [b_Mod_isReady_92, b_Mod_isReady_169, pw, gd, rq_i, Bool.false_eq_true, eq_self, or_false, false_or, or_true, true_or, and_true, true_and, and_false, false_and, not_true_eq_false, not_false_eq_true, nu_none, nu_some, cl_some, clv_some, qK_sI, qK_sA, qK_sL, qR_sI, qR_sA, qR_sL, qN_sI, qN_sA, qN_sL, qK_oA, qR_oA, qN_oA, qI_oA, qI_sA, qI_sL, qL_sA, qL_sI, qL_oA, qA_sI, qA_sL, qA_oA, if_true, if_false, reduceIte, ixn, nI_add, nI_1, n_4, n_8, n_16, n_20, n_32, n_64, n_128, i_0, show ¬ (1 : Int32) = 0 by decide, Md.k M, c_Mod_readsA M.k, ha, c_Mod_isThere M hs (show a < 20 by omega), bI_ite, t0, t1]
  by_cases c1 : kRA (hI h 756 m)
  · rw [if_pos c1]
    by_cases c3 : rT h m s a
    · rw [if_pos c3]
      exact ⟨v, rfl, tv.imp (fun z => ⟨z.1, Or.inr c3, z.2⟩) (fun z => ⟨z.1, fun y => z.2 y.2⟩)⟩
    · rw [if_neg c3]
      exact ⟨0, rfl, Or.inr ⟨rfl, fun z => z.1.elim (fun n => n c1) c3⟩⟩
  · rw [if_neg c1]
    exact ⟨v, rfl, tv.imp (fun z => ⟨z.1, Or.inl c1, z.2⟩) (fun z => ⟨z.1, fun y => z.2 y.2⟩)⟩
