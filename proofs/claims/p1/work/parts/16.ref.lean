/-! the reference, read as functions of the heap -/
abbrev rLn (h : Hp) (m s i : Nat) : Prop := ¬ hI h 705 m ≤ nI i ∧ ¬ hI h 717 m ≤ hI h 705 m * hA h (m + 10) s + nI i
abbrev rAw (h : Hp) (m s i : Nat) : Prop := rLn h m s i ∧ hA h (m + 16) (32 * s + i) = 0 ∧ hA h (m + 17) (32 * s + i) = 0
abbrev kKnown (op n : Int32) : Prop := (¬ 21 < op ∧ (¬ op = 3 ∨ ¬ n < 0 ∧ n ≤ 6)) ∨ (¬ op < 30 ∧ op ≤ 36) ∨ (¬ op < 40 ∧ op ≤ 42) ∨ (¬ op < 50 ∧ op ≤ 59) ∨ (¬ op < 70 ∧ ¬ 73 < op)
abbrev kMem (op : Int32) : Prop := ¬ op < 50 ∧ ¬ 59 < op
abbrev kSh (op : Int32) : Prop := op = 52 ∨ op = 53 ∨ op = 58 ∨ op = 59
abbrev kRA (op : Int32) : Prop := (¬ op < 4 ∧ op ≤ 21) ∨ (¬ op < 30 ∧ op ≤ 33) ∨ op = 42 ∨ kMem op ∨ op = 73
abbrev kRB (op : Int32) : Prop := (¬ op < 4 ∧ op ≤ 17) ∨ op = 21 ∨ op = 30 ∨ op = 31 ∨ op = 51 ∨ (¬ op < 53 ∧ op ≤ 59)
abbrev kWP (op : Int32) : Prop := (¬ op < 30 ∧ op ≤ 36) ∨ op = 70 ∨ op = 71
abbrev kWD (op : Int32) : Prop := (¬ op < 2 ∧ op ≤ 21) ∨ op = 41 ∨ op = 50 ∨ op = 52 ∨ (¬ op < 54 ∧ op ≤ 59) ∨ op = 72 ∨ op = 73
abbrev rUn (h : Hp) (m : Nat) : Prop := hI h 715 m = 1 ∨ hI h 715 m = 4
theorem c_Mod_thread {F : Nat} {h : Hp} (s i : Nat) : f_Mod_thread F (nI s) (nI i) h = some (nI (32 * s + i), h) := by
  simp only [f_Mod_thread, n_32, nI_add]
theorem c_Mod_isLane {F : Nat} {h : Hp} {m : Nat} (M : Md h m) {s i : Nat} (hs : s < 128) : f_Mod_isLane F m (nI s) (nI i) h = some (bI (rLn h m s i), h) := by
  simp (disch := omega) only [f_Mod_isLane, pw, gd, rq_i, Bool.false_eq_true, eq_self, or_false, false_or, or_true, true_or, and_true, true_and, and_false, false_and, not_true_eq_false, not_false_eq_true, nu_none, nu_some, cl_some, clv_some, qK_sI, qK_sA, qK_sL, qR_sI, qR_sA, qR_sL, qN_sI, qN_sA, qN_sL, qK_oA, qR_oA, qN_oA, qI_oA, qI_sA, qI_sL, qL_sA, qL_sI, qL_oA, qA_sI, qA_sL, qA_oA, if_true, if_false, reduceIte, ixn, nI_add, nI_1, n_4, n_8, n_16, n_20, n_32, n_64, n_128, i_0, Md.k M, Md.r_slotWarp M, Md.k_slotWarp M, Md.n_slotWarp M]
  unfold bI
  grind
theorem c_Mod_isAwake {F : Nat} {h : Hp} {m : Nat} (M : Md h m) {s i : Nat} (hs : s < 128) (hi : i < 32) : f_Mod_isAwake F m (nI s) (nI i) h = some (bI (rAw h m s i), h) := by
  simp (disch := omega) only [f_Mod_isAwake, c_Mod_isLane M hs, c_Mod_thread, pw, gd, rq_i, Bool.false_eq_true, eq_self, or_false, false_or, or_true, true_or, and_true, true_and, and_false, false_and, not_true_eq_false, not_false_eq_true, nu_none, nu_some, cl_some, clv_some, qK_sI, qK_sA, qK_sL, qR_sI, qR_sA, qR_sL, qN_sI, qN_sA, qN_sL, qK_oA, qR_oA, qN_oA, qI_oA, qI_sA, qI_sL, qL_sA, qL_sI, qL_oA, qA_sI, qA_sL, qA_oA, if_true, if_false, reduceIte, ixn, nI_add, nI_1, n_4, n_8, n_16, n_20, n_32, n_64, n_128, i_0, Md.k M, Md.r_isEnded M, Md.k_isEnded M, Md.n_isEnded M, Md.r_waits M, Md.k_waits M, Md.n_waits M, bI_ite]
  unfold bI
  grind
theorem c_Mod_reg {F : Nat} {h : Hp} {m : Nat} (M : Md h m) {t r : Nat} (ht : t < 4096) (hr : r < 16) : f_Mod_reg F m (nI t) (nI r) h = some (hA h (m + 13) (16 * t + r), h) := by
  simp (disch := omega) only [f_Mod_reg, pw, gd, rq_i, Bool.false_eq_true, eq_self, or_false, false_or, or_true, true_or, and_true, true_and, and_false, false_and, not_true_eq_false, not_false_eq_true, nu_none, nu_some, cl_some, clv_some, qK_sI, qK_sA, qK_sL, qR_sI, qR_sA, qR_sL, qN_sI, qN_sA, qN_sL, qK_oA, qR_oA, qN_oA, qI_oA, qI_sA, qI_sL, qL_sA, qL_sI, qL_oA, qA_sI, qA_sL, qA_oA, if_true, if_false, reduceIte, ixn, nI_add, nI_1, n_4, n_8, n_16, n_20, n_32, n_64, n_128, i_0, Md.k M, Md.r_register M, Md.k_register M, Md.n_register M]
abbrev rHas (h : Hp) (m t : Nat) (p : Int32) : Prop := ((hA h (m + 14) t >>> ((p &&& 3) &&& 31)) &&& 1) = 1
theorem c_Mod_has {F : Nat} {h : Hp} {m : Nat} (M : Md h m) {t : Nat} (ht : t < 4096) (p : Int32) : f_Mod_has F m (nI t) p h = some (bI (rHas h m t p), h) := by
  simp (disch := omega) only [f_Mod_has, pw, gd, rq_i, Bool.false_eq_true, eq_self, or_false, false_or, or_true, true_or, and_true, true_and, and_false, false_and, not_true_eq_false, not_false_eq_true, nu_none, nu_some, cl_some, clv_some, qK_sI, qK_sA, qK_sL, qR_sI, qR_sA, qR_sL, qN_sI, qN_sA, qN_sL, qK_oA, qR_oA, qN_oA, qI_oA, qI_sA, qI_sL, qL_sA, qL_sI, qL_oA, qA_sI, qA_sL, qA_oA, if_true, if_false, reduceIte, ixn, nI_add, nI_1, n_4, n_8, n_16, n_20, n_32, n_64, n_128, i_0, Md.k M, Md.r_predicate M, Md.k_predicate M, Md.n_predicate M]
  unfold bI
  grind
theorem c_Mod_isThere {F : Nat} {h : Hp} {m : Nat} (M : Md h m) {s r : Nat} (hs : s < 128) (hr : r < 20) : f_Mod_isThere F m (nI s) (nI r) h = some (bI (¬ hI h 719 m < hA h (m + 12) (20 * s + r)), h) := by
  simp (disch := omega) only [f_Mod_isThere, pw, gd, rq_i, Bool.false_eq_true, eq_self, or_false, false_or, or_true, true_or, and_true, true_and, and_false, false_and, not_true_eq_false, not_false_eq_true, nu_none, nu_some, cl_some, clv_some, qK_sI, qK_sA, qK_sL, qR_sI, qR_sA, qR_sL, qN_sI, qN_sA, qN_sL, qK_oA, qR_oA, qN_oA, qI_oA, qI_sA, qI_sL, qL_sA, qL_sI, qL_oA, qA_sI, qA_sL, qA_oA, if_true, if_false, reduceIte, ixn, nI_add, nI_1, n_4, n_8, n_16, n_20, n_32, n_64, n_128, i_0, Md.k M, Md.r_ticks M, Md.k_ticks M, Md.n_ticks M]
  unfold bI
  grind
theorem and3 (p : Int32) : ∃ k : Nat, k < 4 ∧ p &&& 3 = nI k := pk_andE p 2 (by decide)
/-- the number of a predicate -/
def pn (p : Int32) : Nat := p.toBitVec.toNat % 4
theorem pn_lt (p : Int32) : pn p < 4 := Nat.mod_lt _ (by decide)
theorem pn_is (p : Int32) : p &&& 3 = nI (pn p) := pk_and p 2 (by decide)
theorem c_Mod_isPredicateThere {F : Nat} {h : Hp} {m : Nat} (M : Md h m) {s : Nat} (hs : s < 128) (p : Int32) : f_Mod_isPredicateThere F m (nI s) p h = some (bI (¬ hI h 719 m < hA h (m + 12) (20 * s + (16 + pn p))), h) := by
  have hp := pn_lt p
  have e : (16 : Int32) + nI (pn p) = nI (16 + pn p) := nI_add 16 (pn p)
  simp (disch := omega) only [f_Mod_isPredicateThere, pn_is, e, c_Mod_isThere M hs (show 16 + pn p < 20 by omega), pw, gd, rq_i, Bool.false_eq_true, eq_self, or_false, false_or, or_true, true_or, and_true, true_and, and_false, false_and, not_true_eq_false, not_false_eq_true, nu_none, nu_some, cl_some, clv_some, qK_sI, qK_sA, qK_sL, qR_sI, qR_sA, qR_sL, qN_sI, qN_sA, qN_sL, qK_oA, qR_oA, qN_oA, qI_oA, qI_sA, qI_sL, qL_sA, qL_sI, qL_oA, qA_sI, qA_sL, qA_oA, if_true, if_false, reduceIte, ixn, nI_add, nI_1, n_4, n_8, n_16, n_20, n_32, n_64, n_128, i_0, Md.k M]
  rw [if_pos (bI_01 _)]
theorem c_Mod_isMemory {F : Nat} {h : Hp} {m : Nat} (k : hK h m = 12) : f_Mod_isMemory F m h = some (bI (kMem (hI h 756 m)), h) := by
  simp only [f_Mod_isMemory, pw, gd, rq_i, Bool.false_eq_true, eq_self, or_false, false_or, or_true, true_or, and_true, true_and, and_false, false_and, not_true_eq_false, not_false_eq_true, nu_none, nu_some, cl_some, clv_some, qK_sI, qK_sA, qK_sL, qR_sI, qR_sA, qR_sL, qN_sI, qN_sA, qN_sL, qK_oA, qR_oA, qN_oA, qI_oA, qI_sA, qI_sL, qL_sA, qL_sI, qL_oA, qA_sI, qA_sL, qA_oA, if_true, if_false, reduceIte, ixn, nI_add, nI_1, n_4, n_8, n_16, n_20, n_32, n_64, n_128, i_0, k]
  unfold bI
  grind
theorem c_Mod_isShared {F : Nat} {h : Hp} {m : Nat} (k : hK h m = 12) : f_Mod_isShared F m h = some (bI (kSh (hI h 756 m)), h) := by
  simp only [f_Mod_isShared, b_Mod_isShared_36, pw, gd, rq_i, Bool.false_eq_true, eq_self, or_false, false_or, or_true, true_or, and_true, true_and, and_false, false_and, not_true_eq_false, not_false_eq_true, nu_none, nu_some, cl_some, clv_some, qK_sI, qK_sA, qK_sL, qR_sI, qR_sA, qR_sL, qN_sI, qN_sA, qN_sL, qK_oA, qR_oA, qN_oA, qI_oA, qI_sA, qI_sL, qL_sA, qL_sI, qL_oA, qA_sI, qA_sL, qA_oA, if_true, if_false, reduceIte, ixn, nI_add, nI_1, n_4, n_8, n_16, n_20, n_32, n_64, n_128, i_0, k]
  unfold bI
  grind
theorem c_Mod_isWord {F : Nat} {h : Hp} {m : Nat} (k : hK h m = 12) : f_Mod_isWord F m h = some (bI (kKnown (hI h 756 m) (hI h 761 m)), h) := by
  simp only [f_Mod_isWord, b_Mod_isWord_33, b_Mod_isWord_51, b_Mod_isWord_69, b_Mod_isWord_87, b_Mod_isWord_105, pw, gd, rq_i, Bool.false_eq_true, eq_self, or_false, false_or, or_true, true_or, and_true, true_and, and_false, false_and, not_true_eq_false, not_false_eq_true, nu_none, nu_some, cl_some, clv_some, qK_sI, qK_sA, qK_sL, qR_sI, qR_sA, qR_sL, qN_sI, qN_sA, qN_sL, qK_oA, qR_oA, qN_oA, qI_oA, qI_sA, qI_sL, qL_sA, qL_sI, qL_oA, qA_sI, qA_sL, qA_oA, if_true, if_false, reduceIte, ixn, nI_add, nI_1, n_4, n_8, n_16, n_20, n_32, n_64, n_128, i_0, k]
  unfold bI
  grind
theorem c_Mod_readsA {F : Nat} {h : Hp} {m : Nat} (k : hK h m = 12) : f_Mod_readsA F m h = some (bI (kRA (hI h 756 m)), h) := by
  simp only [f_Mod_readsA, b_Mod_readsA_17, b_Mod_readsA_35, b_Mod_readsA_60, c_Mod_isMemory k, bI_ite, pw, gd, rq_i, Bool.false_eq_true, eq_self, or_false, false_or, or_true, true_or, and_true, true_and, and_false, false_and, not_true_eq_false, not_false_eq_true, nu_none, nu_some, cl_some, clv_some, qK_sI, qK_sA, qK_sL, qR_sI, qR_sA, qR_sL, qN_sI, qN_sA, qN_sL, qK_oA, qR_oA, qN_oA, qI_oA, qI_sA, qI_sL, qL_sA, qL_sI, qL_oA, qA_sI, qA_sL, qA_oA, if_true, if_false, reduceIte, ixn, nI_add, nI_1, n_4, n_8, n_16, n_20, n_32, n_64, n_128, i_0, k]
  unfold bI
  grind
theorem c_Mod_writesPredicate {F : Nat} {h : Hp} {m : Nat} (k : hK h m = 12) : f_Mod_writesPredicate F m h = some (bI (kWP (hI h 756 m)), h) := by
  simp only [f_Mod_writesPredicate, b_Mod_writesPredicate_18, b_Mod_writesPredicate_36, pw, gd, rq_i, Bool.false_eq_true, eq_self, or_false, false_or, or_true, true_or, and_true, true_and, and_false, false_and, not_true_eq_false, not_false_eq_true, nu_none, nu_some, cl_some, clv_some, qK_sI, qK_sA, qK_sL, qR_sI, qR_sA, qR_sL, qN_sI, qN_sA, qN_sL, qK_oA, qR_oA, qN_oA, qI_oA, qI_sA, qI_sL, qL_sA, qL_sI, qL_oA, qA_sI, qA_sL, qA_oA, if_true, if_false, reduceIte, ixn, nI_add, nI_1, n_4, n_8, n_16, n_20, n_32, n_64, n_128, i_0, k]
  unfold bI
  grind
theorem c_Mod_writesD {F : Nat} {h : Hp} {m : Nat} (k : hK h m = 12) : f_Mod_writesD F m h = some (bI (kWD (hI h 756 m)), h) := by
  simp only [f_Mod_writesD, b_Mod_writesD_17, b_Mod_writesD_62, b_Mod_writesD_80, pw, gd, rq_i, Bool.false_eq_true, eq_self, or_false, false_or, or_true, true_or, and_true, true_and, and_false, false_and, not_true_eq_false, not_false_eq_true, nu_none, nu_some, cl_some, clv_some, qK_sI, qK_sA, qK_sL, qR_sI, qR_sA, qR_sL, qN_sI, qN_sA, qN_sL, qK_oA, qR_oA, qN_oA, qI_oA, qI_sA, qI_sL, qL_sA, qL_sI, qL_oA, qA_sI, qA_sL, qA_oA, if_true, if_false, reduceIte, ixn, nI_add, nI_1, n_4, n_8, n_16, n_20, n_32, n_64, n_128, i_0, k]
  unfold bI
  grind
theorem c_Mod_readsB {F : Nat} {h : Hp} {m : Nat} (k : hK h m = 12) : f_Mod_readsB F m h = some (bI (kRB (hI h 756 m)), h) := by
  simp only [f_Mod_readsB, b_Mod_readsB_17, b_Mod_readsB_71, pw, gd, rq_i, Bool.false_eq_true, eq_self, or_false, false_or, or_true, true_or, and_true, true_and, and_false, false_and, not_true_eq_false, not_false_eq_true, nu_none, nu_some, cl_some, clv_some, qK_sI, qK_sA, qK_sL, qR_sI, qR_sA, qR_sL, qN_sI, qN_sA, qN_sL, qK_oA, qR_oA, qN_oA, qI_oA, qI_sA, qI_sL, qL_sA, qL_sI, qL_oA, qA_sI, qA_sL, qA_oA, if_true, if_false, reduceIte, ixn, nI_add, nI_1, n_4, n_8, n_16, n_20, n_32, n_64, n_128, i_0, k]
  unfold bI
  grind
theorem c_Mod_isUnder {F : Nat} {h : Hp} {m : Nat} (k : hK h m = 12) : f_Mod_isUnder F m h = some (bI (rUn h m), h) := by
  simp only [f_Mod_isUnder, b_Mod_isUnder_16, pw, gd, rq_i, Bool.false_eq_true, eq_self, or_false, false_or, or_true, true_or, and_true, true_and, and_false, false_and, not_true_eq_false, not_false_eq_true, nu_none, nu_some, cl_some, clv_some, qK_sI, qK_sA, qK_sL, qR_sI, qR_sA, qR_sL, qN_sI, qN_sA, qN_sL, qK_oA, qR_oA, qN_oA, qI_oA, qI_sA, qI_sL, qL_sA, qL_sI, qL_oA, qA_sI, qA_sL, qA_oA, if_true, if_false, reduceIte, ixn, nI_add, nI_1, n_4, n_8, n_16, n_20, n_32, n_64, n_128, i_0, k]
  unfold bI
  grind
