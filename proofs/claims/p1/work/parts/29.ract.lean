/-! what a lane does, in the reference -/
theorem ite_sp {c : Prop} [Decidable c] {α : Type} {a b : α} {h : Hp} : (if c then some (a, h) else some (b, h)) = some (if c then a else b, h) := by split <;> rfl
theorem ite_sh {c : Prop} [Decidable c] {a b : Hp} : (if c then some a else some b) = some (if c then a else b) := by split <;> rfl
def tV (h : Hp) (m s i : Nat) (n : Int32) : Int32 := if n = 0 then hI h 705 m * hA h (m + 10) s + nI i else if n = 1 then hA h (m + 9) s else if n = 2 then hI h 717 m else if n = 3 then hI h 716 m else if n = 4 then nI i else if n = 5 then hA h (m + 10) s else hI h 705 m
theorem c_Mod_told {F : Nat} {h : Hp} {m s : Nat} (M : Md h m) (hs : s < 128) (i : Nat) : f_Mod_told F m (nI s) (nI i) h = some (tV h m s i (hI h 761 m), h) := by
  simp (disch := omega) only [f_Mod_told, pw, gd, rq_i, Bool.false_eq_true, eq_self, or_false, false_or, or_true, true_or, and_true, true_and, and_false, false_and, not_true_eq_false, not_false_eq_true, nu_none, nu_some, cl_some, clv_some, qK_sI, qK_sA, qK_sL, qR_sI, qR_sA, qR_sL, qN_sI, qN_sA, qN_sL, qK_oA, qR_oA, qN_oA, qI_oA, qI_sA, qI_sL, qL_sA, qL_sI, qL_oA, qA_sI, qA_sL, qA_oA, if_true, if_false, reduceIte, ixn, nI_add, nI_1, n_4, n_8, n_16, n_20, n_32, n_64, n_128, i_0, Md.k M, Md.r_slotWarp M, Md.k_slotWarp M, Md.n_slotWarp M, Md.r_slotBlock M, Md.k_slotBlock M, Md.n_slotBlock M, ite_sp, tV]
def kV (o x y n : Int32) (q : Prop) [Decidable q] : Int32 := if o = 4 then (x + y) else if o = 5 then (x - y) else if o = 6 then (x * y) else if o = 7 then (if y = -1 then -x else x / y) else if o = 8 then (if y = -1 then 0 else x - x / y * y) else if o = 9 then (x &&& y) else if o = 10 then (x ||| y) else if o = 11 then (x ^^^ y) else if o = 12 then (x <<< ((y &&& 31) &&& 31)) else if o = 13 then (ushr x (y &&& 31)) else if o = 14 then (x >>> ((y &&& 31) &&& 31)) else if o = 15 then (if y ≤ x then y else x) else if o = 16 then (if x ≤ y then y else x) else if o = 17 then (Int64.toInt32 ((Int32.toInt64 x * Int32.toInt64 y) >>> (Int32.toInt64 32 &&& 63))) else if o = 18 then (x + n) else if o = 19 then (x * n) else if o = 20 then (x &&& n) else if q then x else y
theorem c_Mod_reckon {F : Nat} {h : Hp} {m t : Nat} (M : Md h m) (ht : t < 4096) (x y : Int32) (hz : hI h 756 m = 7 ∨ hI h 756 m = 8 → ¬ y = 0) : f_Mod_reckon F m x y (nI t) h = some (kV (hI h 756 m) x y (hI h 761 m) (rHas h m t (hI h 761 m)), h) := by
  have ch := c_Mod_has (F := F) M ht (hI h 761 m)
  rw [f_Mod_reckon, gd_t M.k]
  by_cases y0 : y = 0
  · have n7 : ¬ hI h 756 m = 7 := fun e => hz (Or.inl e) y0
    have n8 : ¬ hI h 756 m = 8 := fun e => hz (Or.inr e) y0
    simp only [kV, n7, n8, ch, cl_some, bI_ite, if_false, reduceIte, ite_sp]
  · simp only [kV, ch, cl_some, bI_ite, gd, y0, not_false_eq_true, if_true, reduceIte, ite_sp]
theorem c_Mod_say {F : Nat} {h : Hp} {m t d : Nat} (M : Md h m) (ht : t < 4096) (hd : hI h 757 m = nI d) (v : Int32) : f_Mod_say F m (nI t) v h = some (sA h (m + 14) t (if v = 0 then hA h (m + 14) t &&& (((1 : Int32) <<< (nI (pn (nI d)) &&& 31)) ^^^ -1) else hA h (m + 14) t ||| ((1 : Int32) <<< (nI (pn (nI d)) &&& 31)))) := by
  rw [f_Mod_say, gd_t M.k, rq_k M.r_predicate M.k_predicate, M.n_predicate, ixn ht (by decide), ixn ht (by decide), hd, pn_is]
  by_cases c : v = 0
  · rw [if_pos c, if_pos c, b_Mod_say_39, gd_t M.k_predicate, M.n_predicate, ixn ht (by decide)]
    rfl
  · rw [if_neg c, if_neg c, b_Mod_say_39, gd_t M.k_predicate, M.n_predicate, ixn ht (by decide)]
    rfl
def lV (o v y was : Int32) : Int32 := if o = 51 then y else if o = 53 then y else if o = 54 then v + y else if o = 55 then (if v ≤ y then y else v) else if o = 56 then y else if o = 57 then (if v = was then y else v) else if o = 58 then v + y else if o = 59 then y else v
theorem c_Mod_left {F : Nat} {h : Hp} (o v y was : Int32) : f_Mod_left F o v y was h = some (lV o v y was, h) := by
  simp only [f_Mod_left, ite_sp, lV]
theorem c_Mod_trap {F : Nat} {h : Hp} {m s i : Nat} (M : Md h m) (hs : s < 128) (hi : i < 32) (k : Int32) : f_Mod_trap F m (nI s) (nI i) k h = some (sI (sI (sI (sI (sI h 715 m 4) 727 m k) 728 m (hA h (m + 9) s)) 729 m (hI h 705 m * hA h (m + 10) s + nI i)) 730 m (hA h (m + 15) (32 * s + i))) := by
  simp (disch := omega) only [f_Mod_trap, pw, gd, rq_i, Bool.false_eq_true, eq_self, or_false, false_or, or_true, true_or, and_true, true_and, and_false, false_and, not_true_eq_false, not_false_eq_true, nu_none, nu_some, cl_some, clv_some, qK_sI, qK_sA, qK_sL, qR_sI, qR_sA, qR_sL, qN_sI, qN_sA, qN_sL, qK_oA, qR_oA, qN_oA, qI_oA, qI_sA, qI_sL, qL_sA, qL_sI, qL_oA, qA_sI, qA_sL, qA_oA, if_true, if_false, reduceIte, ixn, nI_add, nI_1, n_4, n_8, n_16, n_20, n_32, n_64, n_128, i_0, qI_sI, Nat.reduceEqDiff, and_self, and_true, true_and, false_and, and_false, Md.k M, Md.r_slotWarp M, Md.k_slotWarp M, Md.n_slotWarp M, Md.r_slotBlock M, Md.k_slotBlock M, Md.n_slotBlock M, Md.r_place M, Md.k_place M, Md.n_place M, c_Mod_thread]
theorem c_Mod_asked {F : Nat} {h : Hp} {m s i a : Nat} (M : Md h m) (hs : s < 128) (hi : i < 32) (ha : hI h 758 m = nI a) (la : a < 16) : f_Mod_asked F m (nI s) (nI i) h = some (hA h (m + 13) (16 * (32 * s + i) + a) + hI h 761 m, h) := by
  rw [f_Mod_asked, c_Mod_thread, cl_some, gd_t M.k, ha, c_Mod_reg M (by omega) la, cl_some, gd_t M.k]
/-- where a lane asks -/
abbrev aS (h : Hp) (m s a i : Nat) : Int32 := hA h (m + 13) (16 * (32 * s + i) + a) + hI h 761 m
theorem c_Mod_whyNot {F : Nat} {h : Hp} {m t a b : Nat} (M : Md h m) (ht : t < 4096) (ha : hI h 758 m = nI a) (la : a < 16) (hb : hI h 759 m = nI b) (lb : b < 16) : f_Mod_whyNot F m (nI t) h = some (if (hI h 756 m = 7 ∨ hI h 756 m = 8) ∧ hA h (m + 13) (16 * t + b) = 0 then 3 else if kMem (hI h 756 m) ∧ (hA h (m + 13) (16 * t + a) + hI h 761 m < 0 ∨ ¬ hA h (m + 13) (16 * t + a) + hI h 761 m < (if kSh (hI h 756 m) then 64 else hI h 710 m)) then 4 else 0, h) := by
  have w32 : b_Mod_whyNot_32 F m (nI t) h = some (if kMem (hI h 756 m) ∧ (hA h (m + 13) (16 * t + a) + hI h 761 m < 0 ∨ ¬ hA h (m + 13) (16 * t + a) + hI h 761 m < (if kSh (hI h 756 m) then 64 else hI h 710 m)) then 4 else 0, h) := by
    rw [b_Mod_whyNot_32, gd_t M.k, ha, c_Mod_reg M ht la, cl_some, gd_t M.k, c_Mod_isMemory M.k, cl_some, bI_ite]
    by_cases c1 : kMem (hI h 756 m)
    · rw [if_pos c1]
      by_cases c2 : hA h (m + 13) (16 * t + a) + hI h 761 m < 0
      · rw [if_pos c2, if_pos ⟨c1, Or.inl c2⟩]
        rfl
      · rw [if_neg c2, gd_t M.k, c_Mod_isShared M.k, cl_some, bI_ite]
        by_cases c3 : kSh (hI h 756 m)
        · rw [if_pos c3, if_pos c3, b_Mod_whyNot_75]
          by_cases c4 : hA h (m + 13) (16 * t + a) + hI h 761 m < 64
          · rw [if_pos c4, if_neg (fun z => z.2.elim c2 (fun y => y c4))]
          · rw [if_neg c4, if_pos ⟨c1, Or.inr c4⟩]
            rfl
        · rw [if_neg c3, if_neg c3, gd_t M.k, b_Mod_whyNot_75]
          by_cases c4 : hA h (m + 13) (16 * t + a) + hI h 761 m < hI h 710 m
          · rw [if_pos c4, if_neg (fun z => z.2.elim c2 (fun y => y c4))]
          · rw [if_neg c4, if_pos ⟨c1, Or.inr c4⟩]
            rfl
    · rw [if_neg c1, if_neg (fun z => c1 z.1)]
  rw [f_Mod_whyNot, gd_t M.k, b_Mod_whyNot_18, gd_t M.k, hb, c_Mod_reg M ht lb, cl_some, w32]
  by_cases c1 : hI h 756 m = 7
  · rw [if_pos c1]
    by_cases c2 : hA h (m + 13) (16 * t + b) = 0
    · rw [if_pos c2, if_pos ⟨Or.inl c1, c2⟩]
    · rw [if_neg c2, if_neg (show ¬ ((hI h 756 m = 7 ∨ hI h 756 m = 8) ∧ hA h (m + 13) (16 * t + b) = 0) from fun z => c2 z.2)]
  · rw [if_neg c1]
    by_cases c3 : hI h 756 m = 8
    · rw [if_pos c3]
      by_cases c2 : hA h (m + 13) (16 * t + b) = 0
      · rw [if_pos c2, if_pos ⟨Or.inr c3, c2⟩]
      · rw [if_neg c2, if_neg (show ¬ ((hI h 756 m = 7 ∨ hI h 756 m = 8) ∧ hA h (m + 13) (16 * t + b) = 0) from fun z => c2 z.2)]
    · rw [if_neg c3, if_neg (show ¬ ((hI h 756 m = 7 ∨ hI h 756 m = 8) ∧ hA h (m + 13) (16 * t + b) = 0) from fun z => z.1.elim c1 c3)]
theorem ra_0 {F : Nat} {h : Hp} {m s i t a b d : Nat} {old : Int32} (M : Md h m) (hs : s < 128) (hi : i < 32) (et : t = 32 * s + i) (ha : hI h 758 m = nI a) (la : a < 16) (hb : hI h 759 m = nI b) (lb : b < 16) (hd : hI h 757 m = nI d) (ld : d < 16) (ho : hI h 756 m = 0) : f_Mod_act F m (nI s) (nI i) (nI t) old h = some (sA h (m + 16) t 1) := by
  have ht : t < 4096 := by omega
  rw [f_Mod_act, gd_t M.k, ha, c_Mod_reg M ht la, cl_some, gd_t M.k, hb, c_Mod_reg M ht lb, cl_some, gd_t M.k, ho, if_pos (by decide), rq_k M.r_isEnded M.k_isEnded, M.n_isEnded, ixn ht (by decide)]
  rfl
theorem ra_1 {F : Nat} {h : Hp} {m s i t a b d : Nat} {old : Int32} (M : Md h m) (hs : s < 128) (hi : i < 32) (et : t = 32 * s + i) (ha : hI h 758 m = nI a) (la : a < 16) (hb : hI h 759 m = nI b) (lb : b < 16) (hd : hI h 757 m = nI d) (ld : d < 16) (ho : hI h 756 m = 1) : f_Mod_act F m (nI s) (nI i) (nI t) old h = some (sA h (m + 17) t 1) := by
  have ht : t < 4096 := by omega
  rw [f_Mod_act, gd_t M.k, ha, c_Mod_reg M ht la, cl_some, gd_t M.k, hb, c_Mod_reg M ht lb, cl_some, gd_t M.k, ho, if_neg (by decide), if_pos (by decide), rq_k M.r_waits M.k_waits, M.n_waits, ixn ht (by decide)]
  rfl
theorem ra_2 {F : Nat} {h : Hp} {m s i t a b d : Nat} {old : Int32} (M : Md h m) (hs : s < 128) (hi : i < 32) (et : t = 32 * s + i) (ha : hI h 758 m = nI a) (la : a < 16) (hb : hI h 759 m = nI b) (lb : b < 16) (hd : hI h 757 m = nI d) (ld : d < 16) (ho : hI h 756 m = 2) : f_Mod_act F m (nI s) (nI i) (nI t) old h = some (sA h (m + 13) (16 * t + d) (hI h 761 m)) := by
  have ht : t < 4096 := by omega
  rw [f_Mod_act, gd_t M.k, ha, c_Mod_reg M ht la, cl_some, gd_t M.k, hb, c_Mod_reg M ht lb, cl_some, gd_t M.k, ho, if_neg (by decide), if_neg (by decide), if_pos (by decide), rq_k M.r_register M.k_register, M.n_register, hd, n_16, nI_add, ixn (by omega) (by decide)]
  rfl
theorem ra_3 {F : Nat} {h : Hp} {m s i t a b d : Nat} {old : Int32} (M : Md h m) (hs : s < 128) (hi : i < 32) (et : t = 32 * s + i) (ha : hI h 758 m = nI a) (la : a < 16) (hb : hI h 759 m = nI b) (lb : b < 16) (hd : hI h 757 m = nI d) (ld : d < 16) (ho : hI h 756 m = 3) : f_Mod_act F m (nI s) (nI i) (nI t) old h = some (sA h (m + 13) (16 * t + d) (tV h m s i (hI h 761 m))) := by
  have ht : t < 4096 := by omega
  rw [f_Mod_act, gd_t M.k, ha, c_Mod_reg M ht la, cl_some, gd_t M.k, hb, c_Mod_reg M ht lb, cl_some, gd_t M.k, ho, if_neg (by decide), if_neg (by decide), if_neg (by decide), if_pos (by decide), rq_k M.r_register M.k_register, c_Mod_told M hs, cl_some, gd_t M.k_register, M.n_register, hd, n_16, nI_add, ixn (by omega) (by decide)]
  rfl
theorem ra_k {F : Nat} {h : Hp} {m s i t a b d : Nat} {old : Int32} (M : Md h m) (hs : s < 128) (hi : i < 32) (et : t = 32 * s + i) (ha : hI h 758 m = nI a) (la : a < 16) (hb : hI h 759 m = nI b) (lb : b < 16) (hd : hI h 757 m = nI d) (ld : d < 16) (hz : hI h 756 m = 7 ∨ hI h 756 m = 8 → ¬ hA h (m + 13) (16 * t + b) = 0) (o0 : ¬ hI h 756 m = 0) (o1 : ¬ hI h 756 m = 1) (o2 : ¬ hI h 756 m = 2) (o3 : ¬ hI h 756 m = 3) (o4 : ¬ 21 < hI h 756 m) : f_Mod_act F m (nI s) (nI i) (nI t) old h = some (sA h (m + 13) (16 * t + d) (kV (hI h 756 m) (hA h (m + 13) (16 * t + a)) (hA h (m + 13) (16 * t + b)) (hI h 761 m) (rHas h m t (hI h 761 m)))) := by
  have ht : t < 4096 := by omega
  rw [f_Mod_act, gd_t M.k, ha, c_Mod_reg M ht la, cl_some, gd_t M.k, hb, c_Mod_reg M ht lb, cl_some, gd_t M.k, if_neg o0, if_neg o1, if_neg o2, if_neg o3, if_neg o4, rq_k M.r_register M.k_register, c_Mod_reckon M ht _ _ hz, cl_some, gd_t M.k_register, M.n_register, hd, n_16, nI_add, ixn (by omega) (by decide)]
  rfl
theorem ra_30 {F : Nat} {h : Hp} {m s i t a b d : Nat} {old : Int32} (M : Md h m) (hs : s < 128) (hi : i < 32) (et : t = 32 * s + i) (ha : hI h 758 m = nI a) (la : a < 16) (hb : hI h 759 m = nI b) (lb : b < 16) (hd : hI h 757 m = nI d) (ld : d < 16) (ho : hI h 756 m = 30) : f_Mod_act F m (nI s) (nI i) (nI t) old h = some (sA h (m + 14) t (if ¬ hA h (m + 13) (16 * t + b) ≤ hA h (m + 13) (16 * t + a) then hA h (m + 14) t ||| ((1 : Int32) <<< (nI (pn (nI d)) &&& 31)) else hA h (m + 14) t &&& (((1 : Int32) <<< (nI (pn (nI d)) &&& 31)) ^^^ -1))) := by
  have ht : t < 4096 := by omega
  have s0 := c_Mod_say (F := F) M ht hd 0
  have s1 := c_Mod_say (F := F) M ht hd 1
  rw [if_pos rfl] at s0
  rw [if_neg (by decide)] at s1
  rw [f_Mod_act, gd_t M.k, ha, c_Mod_reg M ht la, cl_some, gd_t M.k, hb, c_Mod_reg M ht lb, cl_some, gd_t M.k, ho, if_neg (by decide), if_neg (by decide), if_neg (by decide), if_neg (by decide), if_pos (by decide), if_neg (by decide), if_pos (by decide), b_Mod_act_241, b_Mod_act_241, gd_t M.k, gd_t M.k, s0, s1, clv_some, clv_some]
  by_cases c : hA h (m + 13) (16 * t + b) ≤ hA h (m + 13) (16 * t + a)
  · rw [if_pos c, if_neg (fun z => z c)]
  · rw [if_neg c, if_pos c]
theorem ra_31 {F : Nat} {h : Hp} {m s i t a b d : Nat} {old : Int32} (M : Md h m) (hs : s < 128) (hi : i < 32) (et : t = 32 * s + i) (ha : hI h 758 m = nI a) (la : a < 16) (hb : hI h 759 m = nI b) (lb : b < 16) (hd : hI h 757 m = nI d) (ld : d < 16) (ho : hI h 756 m = 31) : f_Mod_act F m (nI s) (nI i) (nI t) old h = some (sA h (m + 14) t (if hA h (m + 13) (16 * t + a) = hA h (m + 13) (16 * t + b) then hA h (m + 14) t ||| ((1 : Int32) <<< (nI (pn (nI d)) &&& 31)) else hA h (m + 14) t &&& (((1 : Int32) <<< (nI (pn (nI d)) &&& 31)) ^^^ -1))) := by
  have ht : t < 4096 := by omega
  have s0 := c_Mod_say (F := F) M ht hd 0
  have s1 := c_Mod_say (F := F) M ht hd 1
  rw [if_pos rfl] at s0
  rw [if_neg (by decide)] at s1
  rw [f_Mod_act, gd_t M.k, ha, c_Mod_reg M ht la, cl_some, gd_t M.k, hb, c_Mod_reg M ht lb, cl_some, gd_t M.k, ho, if_neg (by decide), if_neg (by decide), if_neg (by decide), if_neg (by decide), if_pos (by decide), if_neg (by decide), if_neg (by decide), if_pos (by decide), b_Mod_act_241, b_Mod_act_241, gd_t M.k, gd_t M.k, s0, s1, clv_some, clv_some]
  by_cases c : hA h (m + 13) (16 * t + a) = hA h (m + 13) (16 * t + b)
  · rw [if_pos c, if_pos c]
  · rw [if_neg c, if_neg c]
theorem ra_32 {F : Nat} {h : Hp} {m s i t a b d : Nat} {old : Int32} (M : Md h m) (hs : s < 128) (hi : i < 32) (et : t = 32 * s + i) (ha : hI h 758 m = nI a) (la : a < 16) (hb : hI h 759 m = nI b) (lb : b < 16) (hd : hI h 757 m = nI d) (ld : d < 16) (ho : hI h 756 m = 32) : f_Mod_act F m (nI s) (nI i) (nI t) old h = some (sA h (m + 14) t (if ¬ hI h 761 m ≤ hA h (m + 13) (16 * t + a) then hA h (m + 14) t ||| ((1 : Int32) <<< (nI (pn (nI d)) &&& 31)) else hA h (m + 14) t &&& (((1 : Int32) <<< (nI (pn (nI d)) &&& 31)) ^^^ -1))) := by
  have ht : t < 4096 := by omega
  have s0 := c_Mod_say (F := F) M ht hd 0
  have s1 := c_Mod_say (F := F) M ht hd 1
  rw [if_pos rfl] at s0
  rw [if_neg (by decide)] at s1
  rw [f_Mod_act, gd_t M.k, ha, c_Mod_reg M ht la, cl_some, gd_t M.k, hb, c_Mod_reg M ht lb, cl_some, gd_t M.k, ho, if_neg (by decide), if_neg (by decide), if_neg (by decide), if_neg (by decide), if_pos (by decide), if_neg (by decide), if_neg (by decide), if_neg (by decide), if_pos (by decide), b_Mod_act_241, b_Mod_act_241, gd_t M.k, gd_t M.k, s0, s1, clv_some, clv_some]
  by_cases c : hI h 761 m ≤ hA h (m + 13) (16 * t + a)
  · rw [if_pos c, if_neg (fun z => z c)]
  · rw [if_neg c, if_pos c]
theorem ra_33 {F : Nat} {h : Hp} {m s i t a b d : Nat} {old : Int32} (M : Md h m) (hs : s < 128) (hi : i < 32) (et : t = 32 * s + i) (ha : hI h 758 m = nI a) (la : a < 16) (hb : hI h 759 m = nI b) (lb : b < 16) (hd : hI h 757 m = nI d) (ld : d < 16) (ho : hI h 756 m = 33) : f_Mod_act F m (nI s) (nI i) (nI t) old h = some (sA h (m + 14) t (if hA h (m + 13) (16 * t + a) = hI h 761 m then hA h (m + 14) t ||| ((1 : Int32) <<< (nI (pn (nI d)) &&& 31)) else hA h (m + 14) t &&& (((1 : Int32) <<< (nI (pn (nI d)) &&& 31)) ^^^ -1))) := by
  have ht : t < 4096 := by omega
  have s0 := c_Mod_say (F := F) M ht hd 0
  have s1 := c_Mod_say (F := F) M ht hd 1
  rw [if_pos rfl] at s0
  rw [if_neg (by decide)] at s1
  rw [f_Mod_act, gd_t M.k, ha, c_Mod_reg M ht la, cl_some, gd_t M.k, hb, c_Mod_reg M ht lb, cl_some, gd_t M.k, ho, if_neg (by decide), if_neg (by decide), if_neg (by decide), if_neg (by decide), if_pos (by decide), if_neg (by decide), if_neg (by decide), if_neg (by decide), if_neg (by decide), b_Mod_act_241, b_Mod_act_241, gd_t M.k, gd_t M.k, s0, s1, clv_some, clv_some]
  by_cases c : hA h (m + 13) (16 * t + a) = hI h 761 m
  · rw [if_pos c, if_pos c]
  · rw [if_neg c, if_neg c]
theorem ra_34 {F : Nat} {h : Hp} {m s i t a b d : Nat} {old : Int32} (M : Md h m) (hs : s < 128) (hi : i < 32) (et : t = 32 * s + i) (ha : hI h 758 m = nI a) (la : a < 16) (hb : hI h 759 m = nI b) (lb : b < 16) (hd : hI h 757 m = nI d) (ld : d < 16) (ho : hI h 756 m = 34) : f_Mod_act F m (nI s) (nI i) (nI t) old h = some (sA h (m + 14) t (if rHas h m t (nI a) ∧ rHas h m t (nI b) then hA h (m + 14) t ||| ((1 : Int32) <<< (nI (pn (nI d)) &&& 31)) else hA h (m + 14) t &&& (((1 : Int32) <<< (nI (pn (nI d)) &&& 31)) ^^^ -1))) := by
  have ht : t < 4096 := by omega
  have s0 := c_Mod_say (F := F) M ht hd 0
  have s1 := c_Mod_say (F := F) M ht hd 1
  rw [if_pos rfl] at s0
  rw [if_neg (by decide)] at s1
  rw [f_Mod_act, gd_t M.k, ha, c_Mod_reg M ht la, cl_some, gd_t M.k, hb, c_Mod_reg M ht lb, cl_some, gd_t M.k, ho, if_neg (by decide), if_neg (by decide), if_neg (by decide), if_neg (by decide), if_pos (by decide), if_pos (by decide), if_neg (by decide), if_pos (by decide), ha, c_Mod_has M ht, cl_some, bI_ite]
  by_cases c1 : rHas h m t (nI a)
  · rw [if_pos c1, gd_t M.k, hb, c_Mod_has M ht, cl_some, bI_ite]
    by_cases c2 : rHas h m t (nI b)
    · rw [if_pos c2, if_pos ⟨c1, c2⟩, b_Mod_act_357, gd_t M.k, s1, clv_some]
    · rw [if_neg c2, if_neg (fun z => c2 z.2), b_Mod_act_295, b_Mod_act_357, gd_t M.k, s0, clv_some]
  · rw [if_neg c1, if_neg (fun z => c1 z.1), b_Mod_act_295, b_Mod_act_357, gd_t M.k, s0, clv_some]
theorem ra_35 {F : Nat} {h : Hp} {m s i t a b d : Nat} {old : Int32} (M : Md h m) (hs : s < 128) (hi : i < 32) (et : t = 32 * s + i) (ha : hI h 758 m = nI a) (la : a < 16) (hb : hI h 759 m = nI b) (lb : b < 16) (hd : hI h 757 m = nI d) (ld : d < 16) (ho : hI h 756 m = 35) : f_Mod_act F m (nI s) (nI i) (nI t) old h = some (sA h (m + 14) t (if rHas h m t (nI a) ∨ rHas h m t (nI b) then hA h (m + 14) t ||| ((1 : Int32) <<< (nI (pn (nI d)) &&& 31)) else hA h (m + 14) t &&& (((1 : Int32) <<< (nI (pn (nI d)) &&& 31)) ^^^ -1))) := by
  have ht : t < 4096 := by omega
  have s0 := c_Mod_say (F := F) M ht hd 0
  have s1 := c_Mod_say (F := F) M ht hd 1
  rw [if_pos rfl] at s0
  rw [if_neg (by decide)] at s1
  rw [f_Mod_act, gd_t M.k, ha, c_Mod_reg M ht la, cl_some, gd_t M.k, hb, c_Mod_reg M ht lb, cl_some, gd_t M.k, ho, if_neg (by decide), if_neg (by decide), if_neg (by decide), if_neg (by decide), if_pos (by decide), if_pos (by decide), if_neg (by decide), if_neg (by decide), if_pos (by decide), ha, c_Mod_has M ht, cl_some, bI_ite]
  by_cases c1 : rHas h m t (nI a)
  · rw [if_pos c1, if_pos (Or.inl c1), b_Mod_act_332, b_Mod_act_357, gd_t M.k, s1, clv_some]
  · rw [if_neg c1, gd_t M.k, hb, c_Mod_has M ht, cl_some, bI_ite]
    by_cases c2 : rHas h m t (nI b)
    · rw [if_pos c2, if_pos (Or.inr c2), b_Mod_act_332, b_Mod_act_357, gd_t M.k, s1, clv_some]
    · rw [if_neg c2, if_neg (fun z => z.elim c1 c2), b_Mod_act_357, gd_t M.k, s0, clv_some]
theorem ra_36 {F : Nat} {h : Hp} {m s i t a b d : Nat} {old : Int32} (M : Md h m) (hs : s < 128) (hi : i < 32) (et : t = 32 * s + i) (ha : hI h 758 m = nI a) (la : a < 16) (hb : hI h 759 m = nI b) (lb : b < 16) (hd : hI h 757 m = nI d) (ld : d < 16) (ho : hI h 756 m = 36) : f_Mod_act F m (nI s) (nI i) (nI t) old h = some (sA h (m + 14) t (if ¬ rHas h m t (nI a) then hA h (m + 14) t ||| ((1 : Int32) <<< (nI (pn (nI d)) &&& 31)) else hA h (m + 14) t &&& (((1 : Int32) <<< (nI (pn (nI d)) &&& 31)) ^^^ -1))) := by
  have ht : t < 4096 := by omega
  have s0 := c_Mod_say (F := F) M ht hd 0
  have s1 := c_Mod_say (F := F) M ht hd 1
  rw [if_pos rfl] at s0
  rw [if_neg (by decide)] at s1
  rw [f_Mod_act, gd_t M.k, ha, c_Mod_reg M ht la, cl_some, gd_t M.k, hb, c_Mod_reg M ht lb, cl_some, gd_t M.k, ho, if_neg (by decide), if_neg (by decide), if_neg (by decide), if_neg (by decide), if_pos (by decide), if_pos (by decide), if_neg (by decide), if_neg (by decide), if_neg (by decide), ha, c_Mod_has M ht, cl_some, bI_ite]
  by_cases c1 : rHas h m t (nI a)
  · rw [if_pos c1, if_neg (fun z => z c1), b_Mod_act_357, gd_t M.k, s0, clv_some]
  · rw [if_neg c1, if_pos c1, b_Mod_act_357, gd_t M.k, s1, clv_some]
theorem ra_40 {F : Nat} {h : Hp} {m s i t a b d : Nat} {old : Int32} (M : Md h m) (hs : s < 128) (hi : i < 32) (et : t = 32 * s + i) (ha : hI h 758 m = nI a) (la : a < 16) (hb : hI h 759 m = nI b) (lb : b < 16) (hd : hI h 757 m = nI d) (ld : d < 16) (ho : hI h 756 m = 40) : f_Mod_act F m (nI s) (nI i) (nI t) old h = some (sA h (m + 15) t (hI h 761 m)) := by
  have ht : t < 4096 := by omega
  have k1 : ∀ v, hK (sA h (m + 15) t v) m = 12 := fun _ => M.k
  rw [f_Mod_act, gd_t M.k, ha, c_Mod_reg M ht la, cl_some, gd_t M.k, hb, c_Mod_reg M ht lb, cl_some, gd_t M.k, ho, if_neg (by decide), if_neg (by decide), if_neg (by decide), if_neg (by decide), if_pos (by decide), if_pos (by decide), if_pos (by decide), if_neg (by decide), hd, n_16, nI_add, f_Mod_jump, gd_t M.k, rq_k M.r_place M.k_place, ho, if_neg (by decide), b_Mod_jump_22, gd_t M.k_place, M.n_place, ixn ht (by decide), pw_e, gd_t (k1 _), qI_sA, ho, if_neg (by decide)]
  rfl
theorem ra_41 {F : Nat} {h : Hp} {m s i t a b d : Nat} {old : Int32} (M : Md h m) (hs : s < 128) (hi : i < 32) (et : t = 32 * s + i) (ha : hI h 758 m = nI a) (la : a < 16) (hb : hI h 759 m = nI b) (lb : b < 16) (hd : hI h 757 m = nI d) (ld : d < 16) (ho : hI h 756 m = 41) : f_Mod_act F m (nI s) (nI i) (nI t) old h = some (sA (sA h (m + 15) t (hI h 761 m)) (m + 13) (16 * t + d) (old + 1)) := by
  have ht : t < 4096 := by omega
  have k1 : hK (sA h (m + 15) t (hI h 761 m)) m = 12 := M.k
  have M1 : Md (sA h (m + 15) t (hI h 761 m)) m := M.tsA
  rw [f_Mod_act, gd_t M.k, ha, c_Mod_reg M ht la, cl_some, gd_t M.k, hb, c_Mod_reg M ht lb, cl_some, gd_t M.k, ho, if_neg (by decide), if_neg (by decide), if_neg (by decide), if_neg (by decide), if_pos (by decide), if_pos (by decide), if_pos (by decide), if_neg (by decide), hd, n_16, nI_add, f_Mod_jump, gd_t M.k, rq_k M.r_place M.k_place, ho, if_neg (by decide), b_Mod_jump_22, gd_t M.k_place, M.n_place, ixn ht (by decide), pw_e, gd_t k1, qI_sA, ho, if_pos rfl, rq_k M1.r_register M1.k_register, M1.n_register, ixn (by omega) (by decide)]
  rfl
theorem ra_42 {F : Nat} {h : Hp} {m s i t a b d : Nat} {old : Int32} (M : Md h m) (hs : s < 128) (hi : i < 32) (et : t = 32 * s + i) (ha : hI h 758 m = nI a) (la : a < 16) (hb : hI h 759 m = nI b) (lb : b < 16) (hd : hI h 757 m = nI d) (ld : d < 16) (ho : hI h 756 m = 42) : f_Mod_act F m (nI s) (nI i) (nI t) old h = some (sA h (m + 15) t (hA h (m + 13) (16 * t + a))) := by
  have ht : t < 4096 := by omega
  have k1 : ∀ v, hK (sA h (m + 15) t v) m = 12 := fun _ => M.k
  rw [f_Mod_act, gd_t M.k, ha, c_Mod_reg M ht la, cl_some, gd_t M.k, hb, c_Mod_reg M ht lb, cl_some, gd_t M.k, ho, if_neg (by decide), if_neg (by decide), if_neg (by decide), if_neg (by decide), if_pos (by decide), if_pos (by decide), if_pos (by decide), if_neg (by decide), hd, n_16, nI_add, f_Mod_jump, gd_t M.k, rq_k M.r_place M.k_place, ho, if_pos (by decide), b_Mod_jump_22, gd_t M.k_place, M.n_place, ixn ht (by decide), pw_e, gd_t (k1 _), qI_sA, ho, if_neg (by decide)]
  rfl
