/-! the class's small methods, as functions of the heap -/
def szTell (h : Hp) (x : Nat) (k : Int32) : Int32 := if k = 0 then hI h 64 x else if k = 1 then hI h 65 x else if k = 2 then hI h 66 x else if k = 3 then hI h 67 x else if k = 4 then hI h 68 x else hI h 69 x
def taTell (h : Hp) (x : Nat) (k : Int32) : Int32 := if k = 0 then hI h 320 x else if k = 1 then hI h 325 x else if k = 2 then hI h 327 x else if k = 3 then hI h 328 x else if k = 6 then hI h 324 x else if k = 7 then hI h 326 x else if k = 8 then hI h 330 x else if k = 9 then hI h 331 x else if k = 10 then hI h 332 x else if k = 11 then hI h 333 x else if k = 12 then hI h 329 x else -1
def unTell (h : Hp) (x : Nat) (k : Int32) : Int32 := if k = 0 then hI h 390 x else if k = 1 then hI h 391 x else if k = 2 then hI h 388 x else if k = 3 then hI h 389 x else -1
def taBegin (h : Hp) (x : Nat) (s b t : Int32) : Hp := sI (sI (sI (sI (sI (sI (sI (sI (sI (sI (sI (sI (sI h 320 x s) 321 x b) 322 x t) 323 x 0) 324 x 0) 325 x 0) 327 x 0) 328 x 0) 329 x 0) 330 x 0) 331 x 0) 332 x 0) 333 x 0
def unBegin (h : Hp) (x : Nat) (s : Int32) : Hp := sI (sI (sI (sI (sI (sI h 386 x s) 387 x s) 388 x (s - 1)) 389 x 0) 390 x 0) 391 x 0
def szSet (h : Hp) (x : Nat) (l s u b g i : Int32) : Hp := sI (sI (sI (sI (sI (sI h 64 x l) 65 x s) 66 x u) 67 x b) 68 x g) 69 x i
abbrev tUn (h : Hp) (x : Nat) : Prop := hI h 320 x = 1 ∨ hI h 320 x = 4
theorem c_Sizes_tell {F : Nat} {h : Hp} {x : Nat} (k : hK h x = 2) (q : Int32) : f_Sizes_tell F x q h = some (szTell h x q, h) := by
  simp only [f_Sizes_tell, pw, gd, rq_i, Bool.false_eq_true, eq_self, or_false, false_or, or_true, true_or, and_true, true_and, and_false, false_and, not_true_eq_false, not_false_eq_true, nu_none, nu_some, cl_some, clv_some, qK_sI, qK_sA, qK_sL, qR_sI, qR_sA, qR_sL, qN_sI, qN_sA, qN_sL, qK_oA, qR_oA, qN_oA, qI_oA, qI_sA, qI_sL, qL_sA, qL_sI, qL_oA, qA_sI, qA_sL, qA_oA, if_true, if_false, reduceIte, ixn, nI_add, nI_1, n_4, n_8, n_16, n_20, n_32, n_64, n_128, i_0, k, szTell]
  grind
theorem c_Tally_tell {F : Nat} {h : Hp} {x : Nat} (k : hK h x = 6) (q : Int32) : f_Tally_tell F x q h = some (taTell h x q, h) := by
  simp only [f_Tally_tell, pw, gd, rq_i, Bool.false_eq_true, eq_self, or_false, false_or, or_true, true_or, and_true, true_and, and_false, false_and, not_true_eq_false, not_false_eq_true, nu_none, nu_some, cl_some, clv_some, qK_sI, qK_sA, qK_sL, qR_sI, qR_sA, qR_sL, qN_sI, qN_sA, qN_sL, qK_oA, qR_oA, qN_oA, qI_oA, qI_sA, qI_sL, qL_sA, qL_sI, qL_oA, qA_sI, qA_sL, qA_oA, if_true, if_false, reduceIte, ixn, nI_add, nI_1, n_4, n_8, n_16, n_20, n_32, n_64, n_128, i_0, k, taTell]
  grind (splits := 40)
theorem c_Unit_tell {F : Nat} {h : Hp} {x : Nat} (k : hK h x = 7) (q : Int32) : f_Unit_tell F x q h = some (unTell h x q, h) := by
  simp only [f_Unit_tell, pw, gd, rq_i, Bool.false_eq_true, eq_self, or_false, false_or, or_true, true_or, and_true, true_and, and_false, false_and, not_true_eq_false, not_false_eq_true, nu_none, nu_some, cl_some, clv_some, qK_sI, qK_sA, qK_sL, qR_sI, qR_sA, qR_sL, qN_sI, qN_sA, qN_sL, qK_oA, qR_oA, qN_oA, qI_oA, qI_sA, qI_sL, qL_sA, qL_sI, qL_oA, qA_sI, qA_sL, qA_oA, if_true, if_false, reduceIte, ixn, nI_add, nI_1, n_4, n_8, n_16, n_20, n_32, n_64, n_128, i_0, k, unTell]
  grind
theorem c_Tally_underWay {F : Nat} {h : Hp} {x : Nat} (k : hK h x = 6) : f_Tally_underWay F x h = some (bI (tUn h x), h) := by
  simp only [f_Tally_underWay, b_Tally_underWay_16, pw, gd, rq_i, Bool.false_eq_true, eq_self, or_false, false_or, or_true, true_or, and_true, true_and, and_false, false_and, not_true_eq_false, not_false_eq_true, nu_none, nu_some, cl_some, clv_some, qK_sI, qK_sA, qK_sL, qR_sI, qR_sA, qR_sL, qN_sI, qN_sA, qN_sL, qK_oA, qR_oA, qN_oA, qI_oA, qI_sA, qI_sL, qL_sA, qL_sI, qL_oA, qA_sI, qA_sL, qA_oA, if_true, if_false, reduceIte, ixn, nI_add, nI_1, n_4, n_8, n_16, n_20, n_32, n_64, n_128, i_0, k]
  unfold bI
  grind
theorem c_Tally_begin {F : Nat} {h : Hp} {x : Nat} (k : hK h x = 6) (s b t : Int32) : f_Tally_begin F x s b t h = some (taBegin h x s b t) := by
  simp only [f_Tally_begin, pw, gd, rq_i, Bool.false_eq_true, eq_self, or_false, false_or, or_true, true_or, and_true, true_and, and_false, false_and, not_true_eq_false, not_false_eq_true, nu_none, nu_some, cl_some, clv_some, qK_sI, qK_sA, qK_sL, qR_sI, qR_sA, qR_sL, qN_sI, qN_sA, qN_sL, qK_oA, qR_oA, qN_oA, qI_oA, qI_sA, qI_sL, qL_sA, qL_sI, qL_oA, qA_sI, qA_sL, qA_oA, if_true, if_false, reduceIte, ixn, nI_add, nI_1, n_4, n_8, n_16, n_20, n_32, n_64, n_128, i_0, k, taBegin]
theorem c_Unit_begin {F : Nat} {h : Hp} {x : Nat} (k : hK h x = 7) (s : Int32) : f_Unit_begin F x s h = some (unBegin h x s) := by
  simp only [f_Unit_begin, pw, gd, rq_i, Bool.false_eq_true, eq_self, or_false, false_or, or_true, true_or, and_true, true_and, and_false, false_and, not_true_eq_false, not_false_eq_true, nu_none, nu_some, cl_some, clv_some, qK_sI, qK_sA, qK_sL, qR_sI, qR_sA, qR_sL, qN_sI, qN_sA, qN_sL, qK_oA, qR_oA, qN_oA, qI_oA, qI_sA, qI_sL, qL_sA, qL_sI, qL_oA, qA_sI, qA_sL, qA_oA, if_true, if_false, reduceIte, ixn, nI_add, nI_1, n_4, n_8, n_16, n_20, n_32, n_64, n_128, i_0, k, unBegin]
theorem c_Sizes_isPower {F : Nat} {h : Hp} (v m : Int32) : f_Sizes_isPower F v m h = some (bI (szP v m), h) := by
  simp only [f_Sizes_isPower, pw, gd, rq_i, Bool.false_eq_true, eq_self, or_false, false_or, or_true, true_or, and_true, true_and, and_false, false_and, not_true_eq_false, not_false_eq_true, nu_none, nu_some, cl_some, clv_some, qK_sI, qK_sA, qK_sL, qR_sI, qR_sA, qR_sL, qN_sI, qN_sA, qN_sL, qK_oA, qR_oA, qN_oA, qI_oA, qI_sA, qI_sL, qL_sA, qL_sI, qL_oA, qA_sI, qA_sL, qA_oA, if_true, if_false, reduceIte, ixn, nI_add, nI_1, n_4, n_8, n_16, n_20, n_32, n_64, n_128, i_0]
  unfold bI szP
  grind
theorem c_Sizes_become {F : Nat} {h : Hp} {x : Nat} (k : hK h x = 2) (l s u b g i : Int32) : f_Sizes_become F x l s u b g i h = if szOk l s u b g i then some (1, szSet h x l s u b g i) else some (0, h) := by
  simp only [f_Sizes_become, c_Sizes_isPower, bI_ite, pw, gd, rq_i, Bool.false_eq_true, eq_self, or_false, false_or, or_true, true_or, and_true, true_and, and_false, false_and, not_true_eq_false, not_false_eq_true, nu_none, nu_some, cl_some, clv_some, qK_sI, qK_sA, qK_sL, qR_sI, qR_sA, qR_sL, qN_sI, qN_sA, qN_sL, qK_oA, qR_oA, qN_oA, qI_oA, qI_sA, qI_sL, qL_sA, qL_sI, qL_oA, qA_sI, qA_sL, qA_oA, if_true, if_false, reduceIte, ixn, nI_add, nI_1, n_4, n_8, n_16, n_20, n_32, n_64, n_128, i_0, k, szSet]
  grind
theorem c_WM_in {F : Nat} {h : Hp} (k m : Int32) : f_WM_in F k m h = some (bI (¬ (ushr k m &&& 1) = 0), h) := by
  simp only [f_WM_in, pw, gd, rq_i, Bool.false_eq_true, eq_self, or_false, false_or, or_true, true_or, and_true, true_and, and_false, false_and, not_true_eq_false, not_false_eq_true, nu_none, nu_some, cl_some, clv_some, qK_sI, qK_sA, qK_sL, qR_sI, qR_sA, qR_sL, qN_sI, qN_sA, qN_sL, qK_oA, qR_oA, qN_oA, qI_oA, qI_sA, qI_sL, qL_sA, qL_sI, qL_oA, qA_sI, qA_sL, qA_oA, if_true, if_false, reduceIte, ixn, nI_add, nI_1, n_4, n_8, n_16, n_20, n_32, n_64, n_128, i_0]
  unfold bI
  grind
theorem c_Memory_has {F : Nat} {h : Hp} {x a : Nat} (k : hK h x = 3) (r : hR h 128 x = some a) (ka : hK h a = 100) (q : Int32) : f_Memory_has F x q h = some (bI (¬ q < 0 ∧ ¬ hI h 131 x ≤ q ∧ ¬ nI (hN h a) ≤ q), h) := by
  simp only [f_Memory_has, pw, gd, rq_i, Bool.false_eq_true, eq_self, or_false, false_or, or_true, true_or, and_true, true_and, and_false, false_and, not_true_eq_false, not_false_eq_true, nu_none, nu_some, cl_some, clv_some, qK_sI, qK_sA, qK_sL, qR_sI, qR_sA, qR_sL, qN_sI, qN_sA, qN_sL, qK_oA, qR_oA, qN_oA, qI_oA, qI_sA, qI_sL, qL_sA, qL_sI, qL_oA, qA_sI, qA_sL, qA_oA, if_true, if_false, reduceIte, ixn, nI_add, nI_1, n_4, n_8, n_16, n_20, n_32, n_64, n_128, i_0, k, r, ka]
  unfold bI
  grind
theorem c_WM_isUnit {F : Nat} {h : Hp} {x z : Nat} (k : hK h x = 1) (r : hR h 0 x = some z) (kz : hK h z = 2) (u : Int32) : f_WM_isUnit F x u h = some (bI (¬ u < 0 ∧ ¬ hI h 66 z ≤ u), h) := by
  simp only [f_WM_isUnit, pw, gd, rq_i, Bool.false_eq_true, eq_self, or_false, false_or, or_true, true_or, and_true, true_and, and_false, false_and, not_true_eq_false, not_false_eq_true, nu_none, nu_some, cl_some, clv_some, qK_sI, qK_sA, qK_sL, qR_sI, qR_sA, qR_sL, qN_sI, qN_sA, qN_sL, qK_oA, qR_oA, qN_oA, qI_oA, qI_sA, qI_sL, qL_sA, qL_sI, qL_oA, qA_sI, qA_sL, qA_oA, if_true, if_false, reduceIte, ixn, nI_add, nI_1, n_4, n_8, n_16, n_20, n_32, n_64, n_128, i_0, k, r, kz]
  unfold bI
  grind
theorem c_Arrays_fill {F : Nat} {h : Hp} {a : Nat} (k : hK h a = 100) (v : Int32) (hn : hN h a < 2 ^ 31) (hF : hN h a < F) : f_Arrays_fill F (some a) v h = some (oA h (fr (hA h) a 0 (hN h a) (fun _ => v))) := by
  have st := iterF (fun n i => b_Arrays_fill_5 F n a v (nI i) (nI (hN h a)) (oA h (fr (hA h) a 0 i (fun _ => v)))) (hN h a) (fun i n hi => by
    have c : ¬ nI (hN h a) ≤ nI i := nI_ge hi hn
    have u := fr_up (hA h) a 0 i (fun _ => v) (by omega)
    simp (disch := omega) only [b_Arrays_fill_5, pw, gd, rq_i, Bool.false_eq_true, eq_self, or_false, false_or, or_true, true_or, and_true, true_and, and_false, false_and, not_true_eq_false, not_false_eq_true, nu_none, nu_some, cl_some, clv_some, qK_sI, qK_sA, qK_sL, qR_sI, qR_sA, qR_sL, qN_sI, qN_sA, qN_sL, qK_oA, qR_oA, qN_oA, qI_oA, qI_sA, qI_sL, qL_sA, qL_sI, qL_oA, qA_sI, qA_sL, qA_oA, if_true, if_false, reduceIte, ixn, nI_add, nI_1, n_4, n_8, n_16, n_20, n_32, n_64, n_128, i_0, k, c, sA_oA, u]) (F := F) hF
  simp only [fr_0, oA_self, nI_0] at st
  have c : nI (hN h a) ≤ nI (hN h a) := nI_le (Nat.le_refl _) hn
  simp only [f_Arrays_fill, pw, gd, rq_i, Bool.false_eq_true, eq_self, or_false, false_or, or_true, true_or, and_true, true_and, and_false, false_and, not_true_eq_false, not_false_eq_true, nu_none, nu_some, cl_some, clv_some, qK_sI, qK_sA, qK_sL, qR_sI, qR_sA, qR_sL, qN_sI, qN_sA, qN_sL, qK_oA, qR_oA, qN_oA, qI_oA, qI_sA, qI_sL, qL_sA, qL_sI, qL_oA, qA_sI, qA_sL, qA_oA, if_true, if_false, reduceIte, ixn, nI_add, nI_1, n_4, n_8, n_16, n_20, n_32, n_64, n_128, i_0, k]
  rw [st]
  simp only [b_Arrays_fill_5, pw, gd, rq_i, Bool.false_eq_true, eq_self, or_false, false_or, or_true, true_or, and_true, true_and, and_false, false_and, not_true_eq_false, not_false_eq_true, nu_none, nu_some, cl_some, clv_some, qK_sI, qK_sA, qK_sL, qR_sI, qR_sA, qR_sL, qN_sI, qN_sA, qN_sL, qK_oA, qR_oA, qN_oA, qI_oA, qI_sA, qI_sL, qL_sA, qL_sI, qL_oA, qA_sI, qA_sL, qA_oA, if_true, if_false, reduceIte, ixn, nI_add, nI_1, n_4, n_8, n_16, n_20, n_32, n_64, n_128, i_0, c]
theorem c_Cache_empty {F : Nat} {h : Hp} {x a : Nat} (k : hK h x = 4) (r : hR h 192 x = some a) (ka : hK h a = 100) (na : hN h a = 32) (hF : 40000 ≤ F) : f_Cache_empty F x h = some (oA h (fr (hA h) a 0 32 (fun _ => -1))) := by
  have e := c_Arrays_fill (F := F) ka (-1) (by omega) (by omega)
  rw [na] at e
  simp only [f_Cache_empty, pw, gd, rq_i, Bool.false_eq_true, eq_self, or_false, false_or, or_true, true_or, and_true, true_and, and_false, false_and, not_true_eq_false, not_false_eq_true, nu_none, nu_some, cl_some, clv_some, qK_sI, qK_sA, qK_sL, qR_sI, qR_sA, qR_sL, qN_sI, qN_sA, qN_sL, qK_oA, qR_oA, qN_oA, qI_oA, qI_sA, qI_sL, qL_sA, qL_sI, qL_oA, qA_sI, qA_sL, qA_oA, if_true, if_false, reduceIte, ixn, nI_add, nI_1, n_4, n_8, n_16, n_20, n_32, n_64, n_128, i_0, k, r, ka, e]
theorem c_Cache_begin {F : Nat} {h : Hp} {x a : Nat} (k : hK h x = 4) (r : hR h 193 x = some a) (ka : hK h a = 100) (na : hN h a = 8) (hF : 40000 ≤ F) : f_Cache_begin F x h = some (sI (sI (oA h (fr (hA h) a 0 8 (fun _ => 0))) 194 x 0) 195 x 0) := by
  have e := c_Arrays_fill (F := F) ka 0 (by omega) (by omega)
  rw [na] at e
  simp only [f_Cache_begin, pw, gd, rq_i, Bool.false_eq_true, eq_self, or_false, false_or, or_true, true_or, and_true, true_and, and_false, false_and, not_true_eq_false, not_false_eq_true, nu_none, nu_some, cl_some, clv_some, qK_sI, qK_sA, qK_sL, qR_sI, qR_sA, qR_sL, qN_sI, qN_sA, qN_sL, qK_oA, qR_oA, qN_oA, qI_oA, qI_sA, qI_sL, qL_sA, qL_sI, qL_oA, qA_sI, qA_sL, qA_oA, if_true, if_false, reduceIte, ixn, nI_add, nI_1, n_4, n_8, n_16, n_20, n_32, n_64, n_128, i_0, k, r, ka, e]
/-- the class: what stands from its beginning -/
def Cd (h : Hp) (x : Nat) : Prop := hK h x = 1 ∧ (hR h 0 x = some (x + 1) ∧ hK h (x + 1) = 2) ∧ (hR h 1 x = some (x + 2) ∧ hK h (x + 2) = 120 ∧ hN h (x + 2) = 128) ∧ (hR h 2 x = some (x + 3) ∧ hK h (x + 3) = 3) ∧ (hR h 128 (x + 3) = some (x + 4) ∧ hK h (x + 4) = 100 ∧ hN h (x + 4) = 4096) ∧ (hR h 129 (x + 3) = some (x + 5) ∧ hK h (x + 5) = 4) ∧ (hR h 192 (x + 5) = some (x + 6) ∧ hK h (x + 6) = 100 ∧ hN h (x + 6) = 32) ∧ (hR h 193 (x + 5) = some (x + 7) ∧ hK h (x + 7) = 100 ∧ hN h (x + 7) = 8) ∧ (hR h 130 (x + 3) = some (x + 8) ∧ hK h (x + 8) = 5) ∧ (hR h 256 (x + 8) = some (x + 9) ∧ hK h (x + 9) = 124 ∧ hN h (x + 9) = 64) ∧ (hR h 257 (x + 8) = some (x + 10) ∧ hK h (x + 10) = 124 ∧ hN h (x + 10) = 64) ∧ (hR h 3 x = some (x + 11) ∧ hK h (x + 11) = 6) ∧ (hR h 4 x = some (x + 12) ∧ hK h (x + 12) = 121 ∧ hN h (x + 12) = 8) ∧ (hR h 5 x = some (x + 13) ∧ hK h (x + 13) = 122 ∧ hN h (x + 13) = 64) ∧ ∀ u, u < 8 → hQ h (x + 12) u = some (x + 15 + 3 * u) ∧ hK h (x + 15 + 3 * u) = 7 ∧ hR h 384 (x + 15 + 3 * u) = some (x + 16 + 3 * u) ∧ hK h (x + 16 + 3 * u) = 123 ∧ hN h (x + 16 + 3 * u) = 16 ∧ hR h 385 (x + 15 + 3 * u) = some (x + 17 + 3 * u) ∧ hK h (x + 17 + 3 * u) = 100 ∧ hN h (x + 17 + 3 * u) = 32
theorem Cd.k {h : Hp} {x : Nat} (C : Cd h x) : hK h x = 1 := C.1
theorem Cd.r_sizes {h : Hp} {x : Nat} (C : Cd h x) : hR h 0 x = some (x + 1) := C.2.1.1
theorem Cd.k_sizes {h : Hp} {x : Nat} (C : Cd h x) : hK h (x + 1) = 2 := C.2.1.2
theorem Cd.r_kernel {h : Hp} {x : Nat} (C : Cd h x) : hR h 1 x = some (x + 2) := C.2.2.1.1
theorem Cd.k_kernel {h : Hp} {x : Nat} (C : Cd h x) : hK h (x + 2) = 120 := C.2.2.1.2.1
theorem Cd.n_kernel {h : Hp} {x : Nat} (C : Cd h x) : hN h (x + 2) = 128 := C.2.2.1.2.2
theorem Cd.r_memory {h : Hp} {x : Nat} (C : Cd h x) : hR h 2 x = some (x + 3) := C.2.2.2.1.1
theorem Cd.k_memory {h : Hp} {x : Nat} (C : Cd h x) : hK h (x + 3) = 3 := C.2.2.2.1.2
theorem Cd.r_ints {h : Hp} {x : Nat} (C : Cd h x) : hR h 128 (x + 3) = some (x + 4) := C.2.2.2.2.1.1
theorem Cd.k_ints {h : Hp} {x : Nat} (C : Cd h x) : hK h (x + 4) = 100 := C.2.2.2.2.1.2.1
theorem Cd.n_ints {h : Hp} {x : Nat} (C : Cd h x) : hN h (x + 4) = 4096 := C.2.2.2.2.1.2.2
theorem Cd.r_cache {h : Hp} {x : Nat} (C : Cd h x) : hR h 129 (x + 3) = some (x + 5) := C.2.2.2.2.2.1.1
theorem Cd.k_cache {h : Hp} {x : Nat} (C : Cd h x) : hK h (x + 5) = 4 := C.2.2.2.2.2.1.2
theorem Cd.r_lines {h : Hp} {x : Nat} (C : Cd h x) : hR h 192 (x + 5) = some (x + 6) := C.2.2.2.2.2.2.1.1
theorem Cd.k_lines {h : Hp} {x : Nat} (C : Cd h x) : hK h (x + 6) = 100 := C.2.2.2.2.2.2.1.2.1
theorem Cd.n_lines {h : Hp} {x : Nat} (C : Cd h x) : hN h (x + 6) = 32 := C.2.2.2.2.2.2.1.2.2
theorem Cd.r_cticks {h : Hp} {x : Nat} (C : Cd h x) : hR h 193 (x + 5) = some (x + 7) := C.2.2.2.2.2.2.2.1.1
theorem Cd.k_cticks {h : Hp} {x : Nat} (C : Cd h x) : hK h (x + 7) = 100 := C.2.2.2.2.2.2.2.1.2.1
theorem Cd.n_cticks {h : Hp} {x : Nat} (C : Cd h x) : hN h (x + 7) = 8 := C.2.2.2.2.2.2.2.1.2.2
theorem Cd.r_pending {h : Hp} {x : Nat} (C : Cd h x) : hR h 130 (x + 3) = some (x + 8) := C.2.2.2.2.2.2.2.2.1.1
theorem Cd.k_pending {h : Hp} {x : Nat} (C : Cd h x) : hK h (x + 8) = 5 := C.2.2.2.2.2.2.2.2.1.2
theorem Cd.r_first {h : Hp} {x : Nat} (C : Cd h x) : hR h 256 (x + 8) = some (x + 9) := C.2.2.2.2.2.2.2.2.2.1.1
theorem Cd.k_first {h : Hp} {x : Nat} (C : Cd h x) : hK h (x + 9) = 124 := C.2.2.2.2.2.2.2.2.2.1.2.1
theorem Cd.n_first {h : Hp} {x : Nat} (C : Cd h x) : hN h (x + 9) = 64 := C.2.2.2.2.2.2.2.2.2.1.2.2
theorem Cd.r_last {h : Hp} {x : Nat} (C : Cd h x) : hR h 257 (x + 8) = some (x + 10) := C.2.2.2.2.2.2.2.2.2.2.1.1
theorem Cd.k_last {h : Hp} {x : Nat} (C : Cd h x) : hK h (x + 10) = 124 := C.2.2.2.2.2.2.2.2.2.2.1.2.1
theorem Cd.n_last {h : Hp} {x : Nat} (C : Cd h x) : hN h (x + 10) = 64 := C.2.2.2.2.2.2.2.2.2.2.1.2.2
theorem Cd.r_tally {h : Hp} {x : Nat} (C : Cd h x) : hR h 3 x = some (x + 11) := C.2.2.2.2.2.2.2.2.2.2.2.1.1
theorem Cd.k_tally {h : Hp} {x : Nat} (C : Cd h x) : hK h (x + 11) = 6 := C.2.2.2.2.2.2.2.2.2.2.2.1.2
theorem Cd.r_units {h : Hp} {x : Nat} (C : Cd h x) : hR h 4 x = some (x + 12) := C.2.2.2.2.2.2.2.2.2.2.2.2.1.1
theorem Cd.k_units {h : Hp} {x : Nat} (C : Cd h x) : hK h (x + 12) = 121 := C.2.2.2.2.2.2.2.2.2.2.2.2.1.2.1
theorem Cd.n_units {h : Hp} {x : Nat} (C : Cd h x) : hN h (x + 12) = 8 := C.2.2.2.2.2.2.2.2.2.2.2.2.1.2.2
theorem Cd.r_blocks {h : Hp} {x : Nat} (C : Cd h x) : hR h 5 x = some (x + 13) := C.2.2.2.2.2.2.2.2.2.2.2.2.2.1.1
theorem Cd.k_blocks {h : Hp} {x : Nat} (C : Cd h x) : hK h (x + 13) = 122 := C.2.2.2.2.2.2.2.2.2.2.2.2.2.1.2.1
theorem Cd.n_blocks {h : Hp} {x : Nat} (C : Cd h x) : hN h (x + 13) = 64 := C.2.2.2.2.2.2.2.2.2.2.2.2.2.1.2.2
theorem Cd.u {h : Hp} {x : Nat} (C : Cd h x) : ∀ u, u < 8 → hQ h (x + 12) u = some (x + 15 + 3 * u) ∧ hK h (x + 15 + 3 * u) = 7 ∧ hR h 384 (x + 15 + 3 * u) = some (x + 16 + 3 * u) ∧ hK h (x + 16 + 3 * u) = 123 ∧ hN h (x + 16 + 3 * u) = 16 ∧ hR h 385 (x + 15 + 3 * u) = some (x + 17 + 3 * u) ∧ hK h (x + 17 + 3 * u) = 100 ∧ hN h (x + 17 + 3 * u) = 32 := C.2.2.2.2.2.2.2.2.2.2.2.2.2.2
theorem c_WM_state {F : Nat} {h : Hp} {x : Nat} (C : Cd h x) (q : Int32) : f_WM_state F x q h = some (if q = 4 then hI h 194 (x + 5) else if q = 5 then hI h 195 (x + 5) else if q = 19 then hI h 259 (x + 8) else if ¬ q < 13 ∧ q ≤ 18 then szTell h (x + 1) (q - 13) else taTell h (x + 11) q, h) := by
  simp only [f_WM_state, b_WM_state_95, pw, gd, rq_i, Bool.false_eq_true, eq_self, or_false, false_or, or_true, true_or, and_true, true_and, and_false, false_and, not_true_eq_false, not_false_eq_true, nu_none, nu_some, cl_some, clv_some, qK_sI, qK_sA, qK_sL, qR_sI, qR_sA, qR_sL, qN_sI, qN_sA, qN_sL, qK_oA, qR_oA, qN_oA, qI_oA, qI_sA, qI_sL, qL_sA, qL_sI, qL_oA, qA_sI, qA_sL, qA_oA, if_true, if_false, reduceIte, ixn, nI_add, nI_1, n_4, n_8, n_16, n_20, n_32, n_64, n_128, i_0, Cd.k C, Cd.r_memory C, Cd.k_memory C, Cd.r_cache C, Cd.k_cache C, Cd.r_pending C, Cd.k_pending C, Cd.r_sizes C, Cd.k_sizes C, Cd.r_tally C, Cd.k_tally C, c_Sizes_tell (Cd.k_sizes C), c_Tally_tell (Cd.k_tally C)]
  grind
theorem c_WM_unit {F : Nat} {h : Hp} {x : Nat} (C : Cd h x) (hu : (hI h 66 (x + 1)).toInt ≤ 8) (u q : Int32) : f_WM_unit F x u q h = some (if ¬ u < 0 ∧ ¬ hI h 66 (x + 1) ≤ u then unTell h (x + 15 + 3 * u.toNatClampNeg) q else -1, h) := by
  simp only [f_WM_unit, pw, gd, rq_i, Bool.false_eq_true, eq_self, or_false, false_or, or_true, true_or, and_true, true_and, and_false, false_and, not_true_eq_false, not_false_eq_true, nu_none, nu_some, cl_some, clv_some, qK_sI, qK_sA, qK_sL, qR_sI, qR_sA, qR_sL, qN_sI, qN_sA, qN_sL, qK_oA, qR_oA, qN_oA, qI_oA, qI_sA, qI_sL, qL_sA, qL_sI, qL_oA, qA_sI, qA_sL, qA_oA, if_true, if_false, reduceIte, ixn, nI_add, nI_1, n_4, n_8, n_16, n_20, n_32, n_64, n_128, i_0, Cd.k C, Cd.r_sizes C, Cd.k_sizes C, Cd.r_units C, Cd.k_units C, Cd.n_units C, c_WM_isUnit (Cd.k C) (Cd.r_sizes C) (Cd.k_sizes C), bI_ite]
  by_cases c : ¬ u < 0 ∧ ¬ hI h 66 (x + 1) ≤ u
  · have vi : vp_in u 8 := by
      refine vp_in_iff.mpr ⟨?_, ?_⟩
      · have := c.1; rw [Int32.lt_iff_toInt_lt, Int32.toInt_zero] at this; omega
      · have := c.2; rw [Int32.le_iff_toInt_le] at this; omega
    have hj : u.toNatClampNeg < 8 := Nat.not_le.mp fun q => vi (Or.inr q)
    obtain ⟨q1, q2, -⟩ := Cd.u C u.toNatClampNeg hj
    simp only [ixv vi, q1, rq_i, q2, c_Unit_tell q2, cl_some, c, Bool.false_eq_true, if_true, if_false, reduceIte, or_false, false_or, or_true, true_or, and_true, true_and, and_false, false_and, not_true_eq_false, not_false_eq_true, or_self, and_self]
  · simp only [c, Bool.false_eq_true, if_true, if_false, reduceIte, or_false, false_or, or_true, true_or, and_true, true_and, and_false, false_and, not_true_eq_false, not_false_eq_true, or_self, and_self]
