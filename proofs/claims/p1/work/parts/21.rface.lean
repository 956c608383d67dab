/-! the reference's face -/
def moTell (h : Hp) (x : Nat) (k : Int32) : Int32 := if k = 0 then hI h 715 x else if k = 1 then hI h 719 x else if k = 2 then hI h 720 x else if k = 3 then hI h 721 x else if k = 4 then hI h 723 x else if k = 5 then hI h 724 x else if k = 6 then hI h 725 x else if k = 7 then hI h 726 x else if k = 8 then hI h 727 x else if k = 9 then hI h 728 x else if k = 10 then hI h 729 x else if k = 11 then hI h 730 x else if k = 12 then hI h 722 x else if k = 13 then hI h 705 x else if k = 14 then hI h 706 x else if k = 15 then hI h 707 x else if k = 16 then hI h 708 x else if k = 17 then hI h 709 x else if k = 18 then hI h 710 x else if k = 19 then hI h 745 x else -1
theorem vin_lt {i m : Int32} {n : Nat} (hm : m.toInt ≤ n) (h0 : ¬ i < 0) (h1 : i < m) : vp_in i n := by
  refine vp_in_iff.mpr ⟨?_, ?_⟩
  · rw [Int32.lt_iff_toInt_lt, Int32.toInt_zero] at h0
    omega
  · rw [Int32.lt_iff_toInt_lt] at h1
    omega
theorem c_Mod_state {F : Nat} {h : Hp} {m : Nat} (k : hK h m = 12) (q : Int32) : f_Mod_state F m q h = some (moTell h m q, sI h 704 m 0) := by
  simp only [f_Mod_state, pw, gd, rq_i, Bool.false_eq_true, eq_self, or_false, false_or, or_true, true_or, and_true, true_and, and_false, false_and, not_true_eq_false, not_false_eq_true, nu_none, nu_some, cl_some, clv_some, qK_sI, qK_sA, qK_sL, qR_sI, qR_sA, qR_sL, qN_sI, qN_sA, qN_sL, qK_oA, qR_oA, qN_oA, qI_oA, qI_sA, qI_sL, qL_sA, qL_sI, qL_oA, qA_sI, qA_sL, qA_oA, if_true, if_false, reduceIte, ixn, nI_add, nI_1, n_4, n_8, n_16, n_20, n_32, n_64, n_128, i_0, qI_sI, Nat.reduceEqDiff, and_self, and_true, true_and, false_and, and_false, k, moTell]
  grind (splits := 60)
theorem c_Mod_set {F : Nat} {h : Hp} {m : Nat} (M : Md h m) (hi : (hI h 710 m).toInt ≤ 4096) (k v : Int32) : f_Mod_set F m k v h = if ¬ k < 0 ∧ k < hI h 710 m ∧ ¬ rUn h m then some (1, sA (sI h 704 m 0) (m + 2) k.toNatClampNeg v) else some (0, sI h 704 m 0) := by
  have e : ∀ x y, hI (sI h 704 m x) 715 y = hI h 715 y := fun x y => by simp [qI_sI]
  have e2 : ∀ x y, hI (sI h 704 m x) 710 y = hI h 710 y := fun x y => by simp [qI_sI]
  simp only [f_Mod_set, c_Mod_isUnder (show hK (sI h 704 m 0) m = 12 from M.k), rUn, e, e2, bI_ite, pw, gd, rq_i, Bool.false_eq_true, eq_self, or_false, false_or, or_true, true_or, and_true, true_and, and_false, false_and, not_true_eq_false, not_false_eq_true, nu_none, nu_some, cl_some, clv_some, qK_sI, qK_sA, qK_sL, qR_sI, qR_sA, qR_sL, qN_sI, qN_sA, qN_sL, qK_oA, qR_oA, qN_oA, qI_oA, qI_sA, qI_sL, qL_sA, qL_sI, qL_oA, qA_sI, qA_sL, qA_oA, if_true, if_false, reduceIte, ixn, nI_add, nI_1, n_4, n_8, n_16, n_20, n_32, n_64, n_128, i_0, Md.k M, Md.r_memory M, Md.k_memory M, Md.n_memory M]
  by_cases c1 : k < 0
  · simp [c1]
  · by_cases c2 : k < hI h 710 m
    · have vi : vp_in k 4096 := vin_lt hi c1 c2
      have c3 : ¬ hI h 710 m ≤ k := Int32.not_le.mpr c2
      simp only [ixv vi, c1, c2, c3, Bool.false_eq_true, if_true, if_false, reduceIte, or_false, false_or, or_true, true_or, and_true, true_and, and_false, false_and, not_true_eq_false, not_false_eq_true, or_self, and_self]
      grind
    · have c3 : hI h 710 m ≤ k := Int32.not_lt.mp c2
      simp [c1, c2, c3]
theorem c_Mod_launch {F : Nat} {h : Hp} {m : Nat} (M : Md h m) (hF : 40000 ≤ F) (nb nt : Int32) : f_Mod_launch F m nb nt h =
    if ¬ rUn h m ∧ ¬ nb < 1 ∧ ¬ 64 < nb ∧ ¬ nt < 1 ∧ nt ≤ hI h 705 m * hI h 706 m then
      some (1, rFreeAll (oA (rCounts (sI (sI (sI (sI (sI h 704 m 0) 716 m nb) 717 m nt) 715 m 1) 718 m 0) m) (rUnits (rCounts (sI (sI (sI (sI (sI h 704 m 0) 716 m nb) 717 m nt) 715 m 1) 718 m 0) m) m 8)) m)
    else some (0, sI h 704 m 0) := by
  have k1 : hK (sI h 704 m 0) m = 12 := M.k
  have M2 : Md (sI (sI (sI (sI (sI h 704 m 0) 716 m nb) 717 m nt) 715 m 1) 718 m 0) m := M.tsI.tsI.tsI.tsI.tsI
  simp only [f_Mod_launch, c_Mod_isUnder k1, rUn, bI_ite, pw, gd, rq_i, Bool.false_eq_true, eq_self, or_false, false_or, or_true, true_or, and_true, true_and, and_false, false_and, not_true_eq_false, not_false_eq_true, nu_none, nu_some, cl_some, clv_some, qK_sI, qK_sA, qK_sL, qR_sI, qR_sA, qR_sL, qN_sI, qN_sA, qN_sL, qK_oA, qR_oA, qN_oA, qI_oA, qI_sA, qI_sL, qL_sA, qL_sI, qL_oA, qA_sI, qA_sL, qA_oA, if_true, if_false, reduceIte, ixn, nI_add, nI_1, n_4, n_8, n_16, n_20, n_32, n_64, n_128, i_0, qI_sI, Nat.reduceEqDiff, and_self, and_true, true_and, false_and, and_false, Md.k M, c_Mod_clearCounts M2.k, gd_t M2.counts.k, c_Mod_clearUnits M2.counts hF]
  generalize rFreeAll _ _ = R
  by_cases c0 : hI h 715 m = 1 ∨ hI h 715 m = 4
  · simp only [c0, Bool.false_eq_true, if_true, if_false, reduceIte, or_false, false_or, or_true, true_or, and_true, true_and, and_false, false_and, not_true_eq_false, not_false_eq_true, or_self, and_self]
  · by_cases c1 : nb < 1
    · simp only [c0, c1, Bool.false_eq_true, if_true, if_false, reduceIte, or_false, false_or, or_true, true_or, and_true, true_and, and_false, false_and, not_true_eq_false, not_false_eq_true, or_self, and_self]
    · by_cases c2 : 64 < nb
      · simp only [c0, c1, c2, Bool.false_eq_true, if_true, if_false, reduceIte, or_false, false_or, or_true, true_or, and_true, true_and, and_false, false_and, not_true_eq_false, not_false_eq_true, or_self, and_self]
      · by_cases c3 : nt < 1
        · simp only [c0, c1, c2, c3, Bool.false_eq_true, if_true, if_false, reduceIte, or_false, false_or, or_true, true_or, and_true, true_and, and_false, false_and, not_true_eq_false, not_false_eq_true, or_self, and_self]
        · by_cases c4 : nt ≤ hI h 705 m * hI h 706 m
          · simp only [c0, c1, c2, c3, c4, Bool.false_eq_true, if_true, if_false, reduceIte, or_false, false_or, or_true, true_or, and_true, true_and, and_false, false_and, not_true_eq_false, not_false_eq_true, or_self, and_self, M2.counts.k]
          · simp only [c0, c1, c2, c3, c4, Bool.false_eq_true, if_true, if_false, reduceIte, or_false, false_or, or_true, true_or, and_true, true_and, and_false, false_and, not_true_eq_false, not_false_eq_true, or_self, and_self]
theorem c_Mod_unit {F : Nat} {h : Hp} {m : Nat} (M : Md h m) (hu : (hI h 707 m).toInt ≤ 8) (u q : Int32) : f_Mod_unit F m u q h = some (if ¬ u < 0 ∧ u < hI h 707 m then (if q = 0 then hA h (m + 5) u.toNatClampNeg else if q = 1 then hA h (m + 6) u.toNatClampNeg else if q = 2 then hA h (m + 7) u.toNatClampNeg else if q = 3 then hA h (m + 8) u.toNatClampNeg else -1) else -1, sI h 704 m 0) := by
  simp only [f_Mod_unit, pw, gd, rq_i, Bool.false_eq_true, eq_self, or_false, false_or, or_true, true_or, and_true, true_and, and_false, false_and, not_true_eq_false, not_false_eq_true, nu_none, nu_some, cl_some, clv_some, qK_sI, qK_sA, qK_sL, qR_sI, qR_sA, qR_sL, qN_sI, qN_sA, qN_sL, qK_oA, qR_oA, qN_oA, qI_oA, qI_sA, qI_sL, qL_sA, qL_sI, qL_oA, qA_sI, qA_sL, qA_oA, if_true, if_false, reduceIte, ixn, nI_add, nI_1, n_4, n_8, n_16, n_20, n_32, n_64, n_128, i_0, qI_sI, Nat.reduceEqDiff, and_self, and_true, true_and, false_and, and_false, Md.k M, Md.r_divider M, Md.k_divider M, Md.n_divider M, Md.r_sharedTick M, Md.k_sharedTick M, Md.n_sharedTick M, Md.r_latest M, Md.k_latest M, Md.n_latest M, Md.r_unitWords M, Md.k_unitWords M, Md.n_unitWords M]
  by_cases c1 : u < 0
  · simp [c1]
  · by_cases c2 : u < hI h 707 m
    · have vi : vp_in u 8 := vin_lt hu c1 c2
      simp only [ixv vi, c1, c2, Bool.false_eq_true, if_true, if_false, reduceIte, or_false, false_or, or_true, true_or, and_true, true_and, and_false, false_and, not_true_eq_false, not_false_eq_true, or_self, and_self]
      grind
    · simp [c1, c2]
