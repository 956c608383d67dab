/-! the reference: clearing, and its face -/
/-- places lo .. hi of the array a from a function -/
def fr (g : Nat → Nat → Int32) (a lo hi : Nat) (f : Nat → Int32) : Nat → Nat → Int32 := fun b j => if b = a ∧ lo ≤ j ∧ j < hi then f j else g b j
theorem fr_at (g : Nat → Nat → Int32) (a lo hi : Nat) (f : Nat → Int32) (b j : Nat) : fr g a lo hi f b j = if b = a ∧ lo ≤ j ∧ j < hi then f j else g b j := rfl
theorem fr_0 (g : Nat → Nat → Int32) (a lo : Nat) (f : Nat → Int32) : fr g a lo lo f = g := by
  funext b j
  unfold fr
  rw [if_neg (by omega)]
theorem fr_up (g : Nat → Nat → Int32) (a lo n : Nat) (f : Nat → Int32) (h : lo ≤ n) : up2 (fr g a lo n f) a n (f n) = fr g a lo (n + 1) f := by
  funext b j
  unfold up2 fr
  grind
theorem up2_fr {g : Nat → Nat → Int32} {a lo n b j : Nat} {f : Nat → Int32} {v : Int32} (h : ¬ b = a) : up2 (fr g a lo n f) b j v = fr (up2 g b j v) a lo n f := by
  funext c k
  unfold up2 fr
  grind
theorem c_Mod_raise {F : Nat} {h : Hp} {m : Nat} (k : hK h m = 12) (c : Int32) : f_Mod_raise F m c h = some (0, sI h 704 m c) := by
  simp only [f_Mod_raise, pw, gd, rq_i, Bool.false_eq_true, eq_self, or_false, false_or, or_true, true_or, and_true, true_and, and_false, false_and, not_true_eq_false, not_false_eq_true, nu_none, nu_some, cl_some, clv_some, qK_sI, qK_sA, qK_sL, qR_sI, qR_sA, qR_sL, qN_sI, qN_sA, qN_sL, qK_oA, qR_oA, qN_oA, qI_oA, qI_sA, qI_sL, qL_sA, qL_sI, qL_oA, qA_sI, qA_sL, qA_oA, if_true, if_false, reduceIte, ixn, nI_add, nI_1, n_4, n_8, n_16, n_20, n_32, n_64, n_128, i_0, k]
theorem c_Mod_thrown {F : Nat} {h : Hp} {m : Nat} (k : hK h m = 12) : f_Mod_thrown F m h = some (hI h 704 m, h) := by
  simp only [f_Mod_thrown, pw, gd, rq_i, Bool.false_eq_true, eq_self, or_false, false_or, or_true, true_or, and_true, true_and, and_false, false_and, not_true_eq_false, not_false_eq_true, nu_none, nu_some, cl_some, clv_some, qK_sI, qK_sA, qK_sL, qR_sI, qR_sA, qR_sL, qN_sI, qN_sA, qN_sL, qK_oA, qR_oA, qN_oA, qI_oA, qI_sA, qI_sL, qL_sA, qL_sI, qL_oA, qA_sI, qA_sL, qA_oA, if_true, if_false, reduceIte, ixn, nI_add, nI_1, n_4, n_8, n_16, n_20, n_32, n_64, n_128, i_0, k]
def rCounts (h : Hp) (m : Nat) : Hp := sI (sI (sI (sI (sI (sI (sI (sI (sI (sI (sI h 719 m 0) 720 m 0) 721 m 0) 722 m 0) 723 m 0) 724 m 0) 725 m 0) 727 m 0) 728 m 0) 729 m 0) 730 m 0
theorem c_Mod_clearCounts {F : Nat} {h : Hp} {m : Nat} (k : hK h m = 12) : f_Mod_clearCounts F m h = some (rCounts h m) := by
  simp only [f_Mod_clearCounts, pw, gd, rq_i, Bool.false_eq_true, eq_self, or_false, false_or, or_true, true_or, and_true, true_and, and_false, false_and, not_true_eq_false, not_false_eq_true, nu_none, nu_some, cl_some, clv_some, qK_sI, qK_sA, qK_sL, qR_sI, qR_sA, qR_sL, qN_sI, qN_sA, qN_sL, qK_oA, qR_oA, qN_oA, qI_oA, qI_sA, qI_sL, qL_sA, qL_sI, qL_oA, qA_sI, qA_sL, qA_oA, if_true, if_false, reduceIte, ixn, nI_add, nI_1, n_4, n_8, n_16, n_20, n_32, n_64, n_128, i_0, k, rCounts]
theorem c_Mod_warps {F : Nat} {h : Hp} {m : Nat} (k : hK h m = 12) (n : ¬ hI h 705 m = 0) : f_Mod_warps F m h = some ((hI h 717 m + hI h 705 m - 1) / hI h 705 m, h) := by
  simp only [f_Mod_warps, pw, gd, rq_i, Bool.false_eq_true, eq_self, or_false, false_or, or_true, true_or, and_true, true_and, and_false, false_and, not_true_eq_false, not_false_eq_true, nu_none, nu_some, cl_some, clv_some, qK_sI, qK_sA, qK_sL, qR_sI, qR_sA, qR_sL, qN_sI, qN_sA, qN_sL, qK_oA, qR_oA, qN_oA, qI_oA, qI_sA, qI_sL, qL_sA, qL_sI, qL_oA, qA_sI, qA_sL, qA_oA, if_true, if_false, reduceIte, ixn, nI_add, nI_1, n_4, n_8, n_16, n_20, n_32, n_64, n_128, i_0, k, n]
def rFreeAll (h : Hp) (m : Nat) : Hp := sI (sI (oA h (fr (hA h) (m + 9) 0 128 (fun _ => -1))) 745 m 0) 746 m 2147483647
theorem c_Mod_freeAll {F : Nat} {h : Hp} {m : Nat} (M : Md h m) (hF : 40000 ≤ F) : f_Mod_freeAll F m h = some (rFreeAll h m) := by
  have st := iterF (fun n i => b_Mod_freeAll_2 F n m (nI i) (oA h (fr (hA h) (m + 9) 0 i (fun _ => -1)))) 128 (fun i n hi => by
    have c : ¬ (128 : Int32) ≤ nI i := nI_ge hi (by decide)
    have u := fr_up (hA h) (m + 9) 0 i (fun _ => -1) (by omega)
    simp (disch := omega) only [b_Mod_freeAll_2, pw, gd, rq_i, Bool.false_eq_true, eq_self, or_false, false_or, or_true, true_or, and_true, true_and, and_false, false_and, not_true_eq_false, not_false_eq_true, nu_none, nu_some, cl_some, clv_some, qK_sI, qK_sA, qK_sL, qR_sI, qR_sA, qR_sL, qN_sI, qN_sA, qN_sL, qK_oA, qR_oA, qN_oA, qI_oA, qI_sA, qI_sL, qL_sA, qL_sI, qL_oA, qA_sI, qA_sL, qA_oA, if_true, if_false, reduceIte, ixn, nI_add, nI_1, n_4, n_8, n_16, n_20, n_32, n_64, n_128, i_0, Md.k M, Md.r_slotBlock M, Md.k_slotBlock M, Md.n_slotBlock M, c, sA_oA, u]) (F := F) (by omega)
  simp only [fr_0, oA_self, nI_0] at st
  have c : (128 : Int32) ≤ nI 128 := by decide
  rw [f_Mod_freeAll, st]
  simp only [b_Mod_freeAll_2, pw, gd, rq_i, Bool.false_eq_true, eq_self, or_false, false_or, or_true, true_or, and_true, true_and, and_false, false_and, not_true_eq_false, not_false_eq_true, nu_none, nu_some, cl_some, clv_some, qK_sI, qK_sA, qK_sL, qR_sI, qR_sA, qR_sL, qN_sI, qN_sA, qN_sL, qK_oA, qR_oA, qN_oA, qI_oA, qI_sA, qI_sL, qL_sA, qL_sI, qL_oA, qA_sI, qA_sL, qA_oA, if_true, if_false, reduceIte, ixn, nI_add, nI_1, n_4, n_8, n_16, n_20, n_32, n_64, n_128, i_0, Md.k M, c, rFreeAll]
def rUnits (h : Hp) (m i : Nat) : Nat → Nat → Int32 := fr (fr (fr (fr (fr (hA h) (m + 5) 0 i (fun _ => 0)) (m + 6) 0 i (fun _ => 0)) (m + 7) 0 i (fun _ => hI h 706 m - 1)) (m + 8) 0 i (fun _ => 0)) (m + 4) 0 i (fun _ => 0)
theorem c_Mod_clearUnits {F : Nat} {h : Hp} {m : Nat} (M : Md h m) (hF : 40000 ≤ F) : f_Mod_clearUnits F m h = some (rFreeAll (oA h (rUnits h m 8)) m) := by
  have st := iterF (fun n i => b_Mod_clearUnits_2 F n m (nI i) (oA h (rUnits h m i))) 8 (fun i n hi => by
    have c : ¬ (8 : Int32) ≤ nI i := nI_ge hi (by decide)
    simp (disch := omega) only [b_Mod_clearUnits_2, pw, gd, rq_i, Bool.false_eq_true, eq_self, or_false, false_or, or_true, true_or, and_true, true_and, and_false, false_and, not_true_eq_false, not_false_eq_true, nu_none, nu_some, cl_some, clv_some, qK_sI, qK_sA, qK_sL, qR_sI, qR_sA, qR_sL, qN_sI, qN_sA, qN_sL, qK_oA, qR_oA, qN_oA, qI_oA, qI_sA, qI_sL, qL_sA, qL_sI, qL_oA, qA_sI, qA_sL, qA_oA, if_true, if_false, reduceIte, ixn, nI_add, nI_1, n_4, n_8, n_16, n_20, n_32, n_64, n_128, i_0, Md.k M, Md.r_divider M, Md.k_divider M, Md.n_divider M, Md.r_sharedTick M, Md.k_sharedTick M, Md.n_sharedTick M, Md.r_latest M, Md.k_latest M, Md.n_latest M, Md.r_unitWords M, Md.k_unitWords M, Md.n_unitWords M, Md.r_gateTick M, Md.k_gateTick M, Md.n_gateTick M, c, sA_oA]
    congr 2
    simp (disch := omega) only [rUnits, up2_fr, fr_up]) (F := F) (by omega)
  have c : (8 : Int32) ≤ nI 8 := by decide
  have e0 : rUnits h m 0 = hA h := by simp only [rUnits, fr_0]
  simp only [e0, oA_self, nI_0] at st
  rw [f_Mod_clearUnits, st]
  simp only [b_Mod_clearUnits_2, c, pw, gd, rq_i, Bool.false_eq_true, eq_self, or_false, false_or, or_true, true_or, and_true, true_and, and_false, false_and, not_true_eq_false, not_false_eq_true, nu_none, nu_some, cl_some, clv_some, qK_sI, qK_sA, qK_sL, qR_sI, qR_sA, qR_sL, qN_sI, qN_sA, qN_sL, qK_oA, qR_oA, qN_oA, qI_oA, qI_sA, qI_sL, qL_sA, qL_sI, qL_oA, qA_sI, qA_sL, qA_oA, if_true, if_false, reduceIte, ixn, nI_add, nI_1, n_4, n_8, n_16, n_20, n_32, n_64, n_128, i_0, Md.k M, c_Mod_freeAll M.toA hF]
def rHouse (h : Hp) (m : Nat) : Hp := oA (rFreeAll (oA h (rUnits h m 8)) m) (fr (hA (rFreeAll (oA h (rUnits h m 8)) m)) (m + 3) 0 32 (fun _ => -1))
theorem Md.freeAll {h : Hp} {m : Nat} (M : Md h m) : Md (rFreeAll h m) m := M.same (by simp only [rFreeAll, qK_sI, qK_oA]) (by simp only [rFreeAll, qN_sI, qN_oA]) (by simp only [rFreeAll, qR_sI, qR_oA])
theorem Md.units {h : Hp} {m : Nat} (M : Md h m) : Md (rFreeAll (oA h (rUnits h m 8)) m) m := M.toA.freeAll
theorem Md.counts {h : Hp} {m : Nat} (M : Md h m) : Md (rCounts h m) m := M.same (by simp only [rCounts, qK_sI]) (by simp only [rCounts, qN_sI]) (by simp only [rCounts, qR_sI])
theorem l_clearHouse {F : Nat} {g : Hp} {m : Nat} (M2 : Md g m) (hF : 40000 ≤ F) : b_Mod_clearHouse_6 F F m 0 g = some (oA g (fr (hA g) (m + 3) 0 32 (fun _ => -1))) := by
  have st := iterF (fun n i => b_Mod_clearHouse_6 F n m (nI i) (oA g (fr (hA g) (m + 3) 0 i (fun _ => -1)))) 32 (fun i n hi => by
    have c : ¬ (32 : Int32) ≤ nI i := nI_ge hi (by decide)
    have u := fr_up (hA g) (m + 3) 0 i (fun _ => -1) (by omega)
    simp (disch := omega) only [b_Mod_clearHouse_6, pw, gd, rq_i, Bool.false_eq_true, eq_self, or_false, false_or, or_true, true_or, and_true, true_and, and_false, false_and, not_true_eq_false, not_false_eq_true, nu_none, nu_some, cl_some, clv_some, qK_sI, qK_sA, qK_sL, qR_sI, qR_sA, qR_sL, qN_sI, qN_sA, qN_sL, qK_oA, qR_oA, qN_oA, qI_oA, qI_sA, qI_sL, qL_sA, qL_sI, qL_oA, qA_sI, qA_sL, qA_oA, if_true, if_false, reduceIte, ixn, nI_add, nI_1, n_4, n_8, n_16, n_20, n_32, n_64, n_128, i_0, Md.k M2, Md.r_cache M2, Md.k_cache M2, Md.n_cache M2, c, sA_oA, u]) (F := F) (by omega)
  simp only [fr_0, oA_self, nI_0] at st
  have c : (32 : Int32) ≤ nI 32 := by decide
  rw [st]
  simp only [b_Mod_clearHouse_6, c, pw, gd, rq_i, Bool.false_eq_true, eq_self, or_false, false_or, or_true, true_or, and_true, true_and, and_false, false_and, not_true_eq_false, not_false_eq_true, nu_none, nu_some, cl_some, clv_some, qK_sI, qK_sA, qK_sL, qR_sI, qR_sA, qR_sL, qN_sI, qN_sA, qN_sL, qK_oA, qR_oA, qN_oA, qI_oA, qI_sA, qI_sL, qL_sA, qL_sI, qL_oA, qA_sI, qA_sL, qA_oA, if_true, if_false, reduceIte, ixn, nI_add, nI_1, n_4, n_8, n_16, n_20, n_32, n_64, n_128, i_0]
theorem c_Mod_clearHouse {F : Nat} {h : Hp} {m : Nat} (M : Md h m) (hF : 40000 ≤ F) : f_Mod_clearHouse F m h = some (rHouse h m) := by
  rw [f_Mod_clearHouse, gd_t M.k, c_Mod_clearUnits M hF, clv_some, l_clearHouse M.units hF, rHouse]
abbrev szP (v m : Int32) : Prop := 1 ≤ v ∧ v ≤ m ∧ (v &&& (v - 1)) = 0
theorem c_Mod_isPower {F : Nat} {h : Hp} (v m : Int32) : f_Mod_isPower F v m h = some (bI (szP v m), h) := by
  simp only [f_Mod_isPower, pw, gd, rq_i, Bool.false_eq_true, eq_self, or_false, false_or, or_true, true_or, and_true, true_and, and_false, false_and, not_true_eq_false, not_false_eq_true, nu_none, nu_some, cl_some, clv_some, qK_sI, qK_sA, qK_sL, qR_sI, qR_sA, qR_sL, qN_sI, qN_sA, qN_sL, qK_oA, qR_oA, qN_oA, qI_oA, qI_sA, qI_sL, qL_sA, qL_sI, qL_oA, qA_sI, qA_sL, qA_oA, if_true, if_false, reduceIte, ixn, nI_add, nI_1, n_4, n_8, n_16, n_20, n_32, n_64, n_128, i_0]
  unfold bI szP
  grind
abbrev szOk (l s u b g i : Int32) : Prop := szP l 32 ∧ (¬ s < 1 ∧ ¬ 16 < s) ∧ (¬ u < 1 ∧ ¬ 8 < u) ∧ szP b 32 ∧ szP g 8 ∧ szP i 4096 ∧ ¬ i < 512
theorem c_Mod_word {F : Nat} {h : Hp} {m : Nat} (M : Md h m) (k : Int32) (w : Int64) : f_Mod_word F m k w h = if ¬ k < 0 ∧ ¬ 128 ≤ k ∧ ¬ rUn h m then some (1, sL (sI h 704 m 0) (m + 1) k.toNatClampNeg w) else some (0, sI h 704 m 0) := by
  have e : ∀ x y, hI (sI h 704 m x) 715 y = hI h 715 y := fun x y => by simp [qI_sI]
  simp only [f_Mod_word, c_Mod_isUnder (show hK (sI h 704 m 0) m = 12 from M.k), rUn, e, bI_ite, pw, gd, rq_i, Bool.false_eq_true, eq_self, or_false, false_or, or_true, true_or, and_true, true_and, and_false, false_and, not_true_eq_false, not_false_eq_true, nu_none, nu_some, cl_some, clv_some, qK_sI, qK_sA, qK_sL, qR_sI, qR_sA, qR_sL, qN_sI, qN_sA, qN_sL, qK_oA, qR_oA, qN_oA, qI_oA, qI_sA, qI_sL, qL_sA, qL_sI, qL_oA, qA_sI, qA_sL, qA_oA, if_true, if_false, reduceIte, ixn, nI_add, nI_1, n_4, n_8, n_16, n_20, n_32, n_64, n_128, i_0, Md.k M, Md.r_kernel M, Md.k_kernel M, Md.n_kernel M]
  by_cases c1 : k < 0
  · simp [c1]
  · by_cases c2 : 128 ≤ k
    · simp [c1, c2]
    · have vi : vp_in k 128 := vin_of (m := 128) (by decide) c1 c2
      simp only [ixv vi, c1, c2, Bool.false_eq_true, if_true, if_false, reduceIte, or_false, false_or, or_true, true_or, and_true, true_and, and_false, false_and, not_true_eq_false, not_false_eq_true, or_self, and_self]
      grind
theorem c_Mod_global {F : Nat} {h : Hp} {m : Nat} (M : Md h m) (hi : (hI h 710 m).toInt ≤ 4096) (k : Int32) : f_Mod_global F m k h = if ¬ k < 0 ∧ k < hI h 710 m then some (hA h (m + 2) k.toNatClampNeg, sI h 704 m 0) else some (0, sI h 704 m 1) := by
  simp only [f_Mod_global, b_Mod_global_13, b_Mod_global_18, pw, gd, rq_i, Bool.false_eq_true, eq_self, or_false, false_or, or_true, true_or, and_true, true_and, and_false, false_and, not_true_eq_false, not_false_eq_true, nu_none, nu_some, cl_some, clv_some, qK_sI, qK_sA, qK_sL, qR_sI, qR_sA, qR_sL, qN_sI, qN_sA, qN_sL, qK_oA, qR_oA, qN_oA, qI_oA, qI_sA, qI_sL, qL_sA, qL_sI, qL_oA, qA_sI, qA_sL, qA_oA, if_true, if_false, reduceIte, ixn, nI_add, nI_1, n_4, n_8, n_16, n_20, n_32, n_64, n_128, i_0, Md.k M, Md.r_memory M, Md.k_memory M, Md.n_memory M, qI_sI]
  by_cases c1 : k < 0
  · simp [c1]
  · by_cases c2 : k < hI h 710 m
    · have vi : vp_in k 4096 := by
        refine vp_in_iff.mpr ⟨?_, ?_⟩
        · rw [Int32.lt_iff_toInt_lt, Int32.toInt_zero] at c1; omega
        · rw [Int32.lt_iff_toInt_lt] at c2; omega
      simp [ixv vi, c1, c2, qA_sI]
    · simp [c1, c2]
theorem c_Mod_isSlot {F : Nat} {h : Hp} {m : Nat} (k : hK h m = 12) (u s : Int32) : f_Mod_isSlot F m u s h = some (bI (¬ u < 0 ∧ ¬ hI h 707 m ≤ u ∧ ¬ s < 0 ∧ ¬ hI h 706 m ≤ s), h) := by
  simp only [f_Mod_isSlot, pw, gd, rq_i, Bool.false_eq_true, eq_self, or_false, false_or, or_true, true_or, and_true, true_and, and_false, false_and, not_true_eq_false, not_false_eq_true, nu_none, nu_some, cl_some, clv_some, qK_sI, qK_sA, qK_sL, qR_sI, qR_sA, qR_sL, qN_sI, qN_sA, qN_sL, qK_oA, qR_oA, qN_oA, qI_oA, qI_sA, qI_sL, qL_sA, qL_sI, qL_oA, qA_sI, qA_sL, qA_oA, if_true, if_false, reduceIte, ixn, nI_add, nI_1, n_4, n_8, n_16, n_20, n_32, n_64, n_128, i_0, k]
  unfold bI
  grind
theorem c_Mod_stop {F : Nat} {h : Hp} {m : Nat} (M : Md h m) (hF : 40000 ≤ F) : f_Mod_stop F m h = if rUn h m then some (1, rFreeAll (sI (sI h 704 m 0) 715 m 0) m) else some (0, sI h 704 m 0) := by
  have e : ∀ x y, hI (sI h 704 m x) 715 y = hI h 715 y := fun x y => by simp [qI_sI]
  simp only [f_Mod_stop, c_Mod_isUnder (show hK (sI h 704 m 0) m = 12 from M.k), rUn, e, bI_ite, pw, gd, rq_i, Bool.false_eq_true, eq_self, or_false, false_or, or_true, true_or, and_true, true_and, and_false, false_and, not_true_eq_false, not_false_eq_true, nu_none, nu_some, cl_some, clv_some, qK_sI, qK_sA, qK_sL, qR_sI, qR_sA, qR_sL, qN_sI, qN_sA, qN_sL, qK_oA, qR_oA, qN_oA, qI_oA, qI_sA, qI_sL, qL_sA, qL_sI, qL_oA, qA_sI, qA_sL, qA_oA, if_true, if_false, reduceIte, ixn, nI_add, nI_1, n_4, n_8, n_16, n_20, n_32, n_64, n_128, i_0, Md.k M, c_Mod_freeAll (M.tsI.tsI) hF]
