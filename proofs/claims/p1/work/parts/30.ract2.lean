/-! what a lane does, in the reference: memories, and lanes together -/
theorem nx_x (a b : Nat) : nI a ^^^ nI b = nI (a ^^^ b) := by
  apply Int32.toBitVec_inj.1
  show BitVec.ofNat 32 a ^^^ BitVec.ofNat 32 b = BitVec.ofNat 32 (a ^^^ b)
  apply BitVec.eq_of_toNat_eq
  rw [BitVec.toNat_xor, BitVec.toNat_ofNat, BitVec.toNat_ofNat, BitVec.toNat_ofNat, Nat.xor_mod_two_pow]
/-- the other lane -/
def oth (ln : Nat) (n : Int32) (i : Nat) : Nat := i ^^^ (n.toBitVec.toNat % ln)
theorem oth_is {ln : Nat} (hp : ∃ k, k ≤ 5 ∧ ln = 2 ^ k) (n : Int32) {i : Nat} (hi : i < ln) : nI i ^^^ (n &&& (nI ln - 1)) = nI (oth ln n i) ∧ oth ln n i < ln := by
  obtain ⟨k, hk, rfl⟩ := hp
  have h2 : 2 ^ k ≤ 2 ^ 5 := Nat.pow_le_pow_right (by decide) hk
  have h1 : 0 < 2 ^ k := Nat.two_pow_pos k
  have e : nI (2 ^ k) - 1 = nI (2 ^ k - 1) := by
    rw [show (1 : Int32) = nI 1 from rfl, pk_sub h1]
  refine ⟨?_, Nat.xor_lt_two_pow hi (Nat.mod_lt _ h1)⟩
  rw [e, pk_and n k (pk_tn (by omega)), nx_x]
  rfl
theorem c_Mod_from {F : Nat} {h : Hp} {m i ln : Nat} (M : Md h m) (hl : hI h 705 m = nI ln) (hp : ∃ k, k ≤ 5 ∧ ln = 2 ^ k) (hi : i < ln) : f_Mod_from F m (nI i) h = some (if hA h (m + 27) (oth ln (hI h 761 m) i) = 0 then hA h (m + 28) i else hA h (m + 28) (oth ln (hI h 761 m) i), h) := by
  obtain ⟨o1, o2⟩ := oth_is hp (hI h 761 m) hi
  have l32 : ln ≤ 32 := by
    obtain ⟨k, hk, rfl⟩ := hp
    exact Nat.pow_le_pow_right (n := 2) (by decide) hk
  rw [f_Mod_from, gd_t M.k, hl, o1, rq_k M.r_does M.k_does, M.n_does, ixn (by omega) (by decide), rq_k M.r_had M.k_had, rq_k M.r_had M.k_had, M.n_had, ixn (by omega) (by decide), ixn (by omega) (by decide), ite_sp]
def askH (h : Hp) (m s i q : Nat) (at_ y was : Int32) : Hp := sI (sA (sA (sA (sA (sA (sI (sA h (m + 19) q (hA h (m + 25) i)) 746 m (if hI h 746 m ≤ hA h (m + 25) i then hI h 746 m else hA h (m + 25) i)) (m + 20) q (32 * (128 * hA h (m + 9) s + nI s) + nI i)) (m + 21) q (16 * hI h 756 m + hI h 757 m)) (m + 22) q at_) (m + 23) q y) (m + 24) q was) 745 m (nI (q + 1))
theorem c_Mod_ask {F : Nat} {h : Hp} {m s i q : Nat} (M : Md h m) (hs : s < 128) (hi : i < 32) (hq : hI h 745 m = nI q) (lq : q < 32768) (at_ y was : Int32) : f_Mod_ask F m (nI s) (nI i) at_ y was h = some (askH h m s i q at_ y was) := by
  have a1 : ∀ v, hA (sA h (m + 19) q v) (m + 25) i = hA h (m + 25) i := fun v => by rw [qA_sA, if_neg (by omega)]
  have a2 : ∀ v, hA (sA h (m + 19) q v) (m + 9) s = hA h (m + 9) s := fun v => by rw [qA_sA, if_neg (by omega)]
  simp (disch := omega) only [f_Mod_ask, b_Mod_ask_42, pw, gd, rq_i, Bool.false_eq_true, eq_self, or_false, false_or, or_true, true_or, and_true, true_and, and_false, false_and, not_true_eq_false, not_false_eq_true, nu_none, nu_some, cl_some, clv_some, qK_sI, qK_sA, qK_sL, qR_sI, qR_sA, qR_sL, qN_sI, qN_sA, qN_sL, qK_oA, qR_oA, qN_oA, qI_oA, qI_sA, qI_sL, qL_sA, qL_sI, qL_oA, qA_sI, qA_sL, qA_oA, if_true, if_false, reduceIte, ixn, nI_add, nI_1, n_4, n_8, n_16, n_20, n_32, n_64, n_128, i_0, qI_sI, Nat.reduceEqDiff, and_self, and_true, true_and, false_and, and_false, Md.k M, Md.r_when M, Md.k_when M, Md.n_when M, Md.r_doneAt M, Md.k_doneAt M, Md.n_doneAt M, Md.r_who M, Md.k_who M, Md.n_who M, Md.r_slotBlock M, Md.k_slotBlock M, Md.n_slotBlock M, Md.r_what M, Md.k_what M, Md.n_what M, Md.r_where M, Md.k_where M, Md.n_where M, Md.r_with M, Md.k_with M, Md.n_with M, Md.r_old M, Md.k_old M, Md.n_old M, hq, a1, a2, ite_sh]
  unfold askH
  by_cases c : hI h 746 m ≤ hA h (m + 25) i
  · rw [if_pos c, if_pos c]
  · rw [if_neg c, if_neg c]
def tchH (h : Hp) (m s to_ : Nat) (o : Int32) (g b0 : Nat) (y : Int32) : Hp := sA (if o = 53 then h else sA h (m + 13) to_ (hA h (m + 18) (64 * b0 + g))) (m + 18) (64 * b0 + g) (lV o (hA h (m + 18) (64 * b0 + g)) y 0)
theorem c_Mod_touch {F : Nat} {h : Hp} {m s to_ g b0 : Nat} (M : Md h m) (hs : s < 128) (hsb : hA h (m + 9) s = nI b0) (l64 : b0 < 64) (lg : g < 64) (lt : to_ < 65536) (y : Int32) : f_Mod_touch F m (nI s) (nI to_) (nI g) y h = some (tchH h m s to_ (hI h 756 m) g b0 y) := by
  have M1 : ∀ v, Md (sA h (m + 13) to_ v) m := fun v => M.tsA
  rw [f_Mod_touch, gd_t M.k, rq_k M.r_slotBlock M.k_slotBlock, M.n_slotBlock, ixn hs (by decide), hsb, n_64, nI_add, rq_k M.r_shared M.k_shared, M.n_shared, ixn (by omega) (by decide)]
  unfold tchH
  by_cases c : hI h 756 m = 53
  · rw [if_pos c, if_pos c, b_Mod_touch_39, gd_t M.k, rq_k M.r_shared M.k_shared, c_Mod_left, cl_some, gd_t M.k_shared, M.n_shared, ixn (by omega) (by decide)]
    rfl
  · rw [if_neg c, if_neg c, rq_k M.r_register M.k_register, M.n_register, ixn lt (by decide), pw_e, b_Mod_touch_39, gd_t (M1 _).k, rq_k (M1 _).r_shared (M1 _).k_shared, c_Mod_left, cl_some, gd_t (M1 _).k_shared, (M1 _).n_shared, ixn (by omega) (by decide), qI_sA]
    rfl
theorem ra_70 {F : Nat} {h : Hp} {m s i t a b d : Nat} {old : Int32} (M : Md h m) (hs : s < 128) (hi : i < 32) (et : t = 32 * s + i) (ha : hI h 758 m = nI a) (la : a < 16) (hb : hI h 759 m = nI b) (lb : b < 16) (hd : hI h 757 m = nI d) (ld : d < 16) (ho : hI h 756 m = 70) : f_Mod_act F m (nI s) (nI i) (nI t) old h = some (sA h (m + 14) t (if hI h 762 m = 1 then hA h (m + 14) t ||| ((1 : Int32) <<< (nI (pn (nI d)) &&& 31)) else hA h (m + 14) t &&& (((1 : Int32) <<< (nI (pn (nI d)) &&& 31)) ^^^ -1))) := by
  have ht : t < 4096 := by omega
  have s0 := c_Mod_say (F := F) M ht hd 0
  have s1 := c_Mod_say (F := F) M ht hd 1
  rw [if_pos rfl] at s0
  rw [if_neg (by decide)] at s1
  have nm := c_Mod_isMemory (F := F) M.k
  rw [ho, bI_f (by unfold kMem; decide)] at nm
  rw [f_Mod_act, gd_t M.k, ha, c_Mod_reg M ht la, cl_some, gd_t M.k, hb, c_Mod_reg M ht lb, cl_some, gd_t M.k, ho, if_neg (by decide), if_neg (by decide), if_neg (by decide), if_neg (by decide), if_pos (by decide), if_pos (by decide), if_pos (by decide), if_pos (by decide), nm, cl_some, if_pos rfl, b_Mod_act_425, gd_t M.k, ho, if_pos (by decide), if_neg (by decide), b_Mod_act_477, b_Mod_act_477, gd_t M.k, gd_t M.k, s0, s1, clv_some, clv_some]
  by_cases c : hI h 762 m = 1
  · rw [if_pos c, if_pos c]
  · rw [if_neg c, if_neg c]
theorem ra_71 {F : Nat} {h : Hp} {m s i t a b d : Nat} {old : Int32} (M : Md h m) (hs : s < 128) (hi : i < 32) (et : t = 32 * s + i) (ha : hI h 758 m = nI a) (la : a < 16) (hb : hI h 759 m = nI b) (lb : b < 16) (hd : hI h 757 m = nI d) (ld : d < 16) (ho : hI h 756 m = 71) : f_Mod_act F m (nI s) (nI i) (nI t) old h = some (sA h (m + 14) t (if hI h 762 m = 1 then hA h (m + 14) t ||| ((1 : Int32) <<< (nI (pn (nI d)) &&& 31)) else hA h (m + 14) t &&& (((1 : Int32) <<< (nI (pn (nI d)) &&& 31)) ^^^ -1))) := by
  have ht : t < 4096 := by omega
  have s0 := c_Mod_say (F := F) M ht hd 0
  have s1 := c_Mod_say (F := F) M ht hd 1
  rw [if_pos rfl] at s0
  rw [if_neg (by decide)] at s1
  have nm := c_Mod_isMemory (F := F) M.k
  rw [ho, bI_f (by unfold kMem; decide)] at nm
  rw [f_Mod_act, gd_t M.k, ha, c_Mod_reg M ht la, cl_some, gd_t M.k, hb, c_Mod_reg M ht lb, cl_some, gd_t M.k, ho, if_neg (by decide), if_neg (by decide), if_neg (by decide), if_neg (by decide), if_pos (by decide), if_pos (by decide), if_pos (by decide), if_pos (by decide), nm, cl_some, if_pos rfl, b_Mod_act_425, gd_t M.k, ho, if_pos (by decide), if_neg (by decide), b_Mod_act_477, b_Mod_act_477, gd_t M.k, gd_t M.k, s0, s1, clv_some, clv_some]
  by_cases c : hI h 762 m = 1
  · rw [if_pos c, if_pos c]
  · rw [if_neg c, if_neg c]
theorem ra_72 {F : Nat} {h : Hp} {m s i t a b d : Nat} {old : Int32} (M : Md h m) (hs : s < 128) (hi : i < 32) (et : t = 32 * s + i) (ha : hI h 758 m = nI a) (la : a < 16) (hb : hI h 759 m = nI b) (lb : b < 16) (hd : hI h 757 m = nI d) (ld : d < 16) (ho : hI h 756 m = 72) : f_Mod_act F m (nI s) (nI i) (nI t) old h = some (sA h (m + 13) (16 * t + d) (hI h 762 m)) := by
  have ht : t < 4096 := by omega
  have nm := c_Mod_isMemory (F := F) M.k
  rw [ho, bI_f (by unfold kMem; decide)] at nm
  rw [f_Mod_act, gd_t M.k, ha, c_Mod_reg M ht la, cl_some, gd_t M.k, hb, c_Mod_reg M ht lb, cl_some, gd_t M.k, ho, if_neg (by decide), if_neg (by decide), if_neg (by decide), if_neg (by decide), if_pos (by decide), if_pos (by decide), if_pos (by decide), if_pos (by decide), nm, cl_some, if_pos rfl, hd, n_16, nI_add, b_Mod_act_425, gd_t M.k, ho, if_pos (by decide), if_pos (by decide), rq_k M.r_register M.k_register, if_pos rfl, b_Mod_act_510, gd_t M.k_register, M.n_register, ixn (by omega) (by decide)]
  rfl
theorem ra_73 {F : Nat} {h : Hp} {m s i t a b d : Nat} {old : Int32} (M : Md h m) (hs : s < 128) (hi : i < 32) (et : t = 32 * s + i) (ha : hI h 758 m = nI a) (la : a < 16) (hb : hI h 759 m = nI b) (lb : b < 16) (hd : hI h 757 m = nI d) (ld : d < 16) {ln : Nat} (hl : hI h 705 m = nI ln) (hp : ∃ k, k ≤ 5 ∧ ln = 2 ^ k) (hiL : i < ln) (ho : hI h 756 m = 73) : f_Mod_act F m (nI s) (nI i) (nI t) old h = some (sA h (m + 13) (16 * t + d) (if hA h (m + 27) (oth ln (hI h 761 m) i) = 0 then hA h (m + 28) i else hA h (m + 28) (oth ln (hI h 761 m) i))) := by
  have ht : t < 4096 := by omega
  have nm := c_Mod_isMemory (F := F) M.k
  rw [ho, bI_f (by unfold kMem; decide)] at nm
  rw [f_Mod_act, gd_t M.k, ha, c_Mod_reg M ht la, cl_some, gd_t M.k, hb, c_Mod_reg M ht lb, cl_some, gd_t M.k, ho, if_neg (by decide), if_neg (by decide), if_neg (by decide), if_neg (by decide), if_pos (by decide), if_pos (by decide), if_pos (by decide), if_pos (by decide), nm, cl_some, if_pos rfl, hd, n_16, nI_add, b_Mod_act_425, gd_t M.k, ho, if_pos (by decide), if_pos (by decide), rq_k M.r_register M.k_register, if_neg (by decide), c_Mod_from M hl hp hiL, cl_some, b_Mod_act_510, gd_t M.k_register, M.n_register, ixn (by omega) (by decide)]
  rfl
theorem ra_50 {F : Nat} {h : Hp} {m s i t a b d : Nat} {old : Int32} (M : Md h m) (hs : s < 128) (hi : i < 32) (et : t = 32 * s + i) (ha : hI h 758 m = nI a) (la : a < 16) (hb : hI h 759 m = nI b) (lb : b < 16) (hd : hI h 757 m = nI d) (ld : d < 16) {q : Nat} (hq : hI h 745 m = nI q) (lq : q < 32768) (ho : hI h 756 m = 50) : f_Mod_act F m (nI s) (nI i) (nI t) old h = some (askH h m s i q (aS h m s a i) (hA h (m + 13) (16 * t + b)) (hA h (m + 13) (16 * t + d))) := by
  have ht : t < 4096 := by omega
  have nm := c_Mod_isMemory (F := F) M.k
  rw [ho, bI_t (by unfold kMem; decide)] at nm
  have ns := c_Mod_isShared (F := F) M.k
  rw [ho, bI_f (by unfold kSh; decide)] at ns
  rw [f_Mod_act, gd_t M.k, ha, c_Mod_reg M ht la, cl_some, gd_t M.k, hb, c_Mod_reg M ht lb, cl_some, gd_t M.k, ho, if_neg (by decide), if_neg (by decide), if_neg (by decide), if_neg (by decide), if_pos (by decide), if_pos (by decide), if_pos (by decide), if_pos (by decide), nm, cl_some, if_neg (by decide), gd_t M.k, ns, cl_some, if_pos rfl, gd_t M.k, hd, n_16, nI_add, rq_k M.r_register M.k_register, M.n_register, ixn (by omega) (by decide), c_Mod_ask M hs hi hq lq, clv_some]
  subst et
  rfl
theorem ra_51 {F : Nat} {h : Hp} {m s i t a b d : Nat} {old : Int32} (M : Md h m) (hs : s < 128) (hi : i < 32) (et : t = 32 * s + i) (ha : hI h 758 m = nI a) (la : a < 16) (hb : hI h 759 m = nI b) (lb : b < 16) (hd : hI h 757 m = nI d) (ld : d < 16) {q : Nat} (hq : hI h 745 m = nI q) (lq : q < 32768) (ho : hI h 756 m = 51) : f_Mod_act F m (nI s) (nI i) (nI t) old h = some (askH h m s i q (aS h m s a i) (hA h (m + 13) (16 * t + b)) (hA h (m + 13) (16 * t + d))) := by
  have ht : t < 4096 := by omega
  have nm := c_Mod_isMemory (F := F) M.k
  rw [ho, bI_t (by unfold kMem; decide)] at nm
  have ns := c_Mod_isShared (F := F) M.k
  rw [ho, bI_f (by unfold kSh; decide)] at ns
  rw [f_Mod_act, gd_t M.k, ha, c_Mod_reg M ht la, cl_some, gd_t M.k, hb, c_Mod_reg M ht lb, cl_some, gd_t M.k, ho, if_neg (by decide), if_neg (by decide), if_neg (by decide), if_neg (by decide), if_pos (by decide), if_pos (by decide), if_pos (by decide), if_pos (by decide), nm, cl_some, if_neg (by decide), gd_t M.k, ns, cl_some, if_pos rfl, gd_t M.k, hd, n_16, nI_add, rq_k M.r_register M.k_register, M.n_register, ixn (by omega) (by decide), c_Mod_ask M hs hi hq lq, clv_some]
  subst et
  rfl
theorem ra_54 {F : Nat} {h : Hp} {m s i t a b d : Nat} {old : Int32} (M : Md h m) (hs : s < 128) (hi : i < 32) (et : t = 32 * s + i) (ha : hI h 758 m = nI a) (la : a < 16) (hb : hI h 759 m = nI b) (lb : b < 16) (hd : hI h 757 m = nI d) (ld : d < 16) {q : Nat} (hq : hI h 745 m = nI q) (lq : q < 32768) (ho : hI h 756 m = 54) : f_Mod_act F m (nI s) (nI i) (nI t) old h = some (askH h m s i q (aS h m s a i) (hA h (m + 13) (16 * t + b)) (hA h (m + 13) (16 * t + d))) := by
  have ht : t < 4096 := by omega
  have nm := c_Mod_isMemory (F := F) M.k
  rw [ho, bI_t (by unfold kMem; decide)] at nm
  have ns := c_Mod_isShared (F := F) M.k
  rw [ho, bI_f (by unfold kSh; decide)] at ns
  rw [f_Mod_act, gd_t M.k, ha, c_Mod_reg M ht la, cl_some, gd_t M.k, hb, c_Mod_reg M ht lb, cl_some, gd_t M.k, ho, if_neg (by decide), if_neg (by decide), if_neg (by decide), if_neg (by decide), if_pos (by decide), if_pos (by decide), if_pos (by decide), if_pos (by decide), nm, cl_some, if_neg (by decide), gd_t M.k, ns, cl_some, if_pos rfl, gd_t M.k, hd, n_16, nI_add, rq_k M.r_register M.k_register, M.n_register, ixn (by omega) (by decide), c_Mod_ask M hs hi hq lq, clv_some]
  subst et
  rfl
theorem ra_55 {F : Nat} {h : Hp} {m s i t a b d : Nat} {old : Int32} (M : Md h m) (hs : s < 128) (hi : i < 32) (et : t = 32 * s + i) (ha : hI h 758 m = nI a) (la : a < 16) (hb : hI h 759 m = nI b) (lb : b < 16) (hd : hI h 757 m = nI d) (ld : d < 16) {q : Nat} (hq : hI h 745 m = nI q) (lq : q < 32768) (ho : hI h 756 m = 55) : f_Mod_act F m (nI s) (nI i) (nI t) old h = some (askH h m s i q (aS h m s a i) (hA h (m + 13) (16 * t + b)) (hA h (m + 13) (16 * t + d))) := by
  have ht : t < 4096 := by omega
  have nm := c_Mod_isMemory (F := F) M.k
  rw [ho, bI_t (by unfold kMem; decide)] at nm
  have ns := c_Mod_isShared (F := F) M.k
  rw [ho, bI_f (by unfold kSh; decide)] at ns
  rw [f_Mod_act, gd_t M.k, ha, c_Mod_reg M ht la, cl_some, gd_t M.k, hb, c_Mod_reg M ht lb, cl_some, gd_t M.k, ho, if_neg (by decide), if_neg (by decide), if_neg (by decide), if_neg (by decide), if_pos (by decide), if_pos (by decide), if_pos (by decide), if_pos (by decide), nm, cl_some, if_neg (by decide), gd_t M.k, ns, cl_some, if_pos rfl, gd_t M.k, hd, n_16, nI_add, rq_k M.r_register M.k_register, M.n_register, ixn (by omega) (by decide), c_Mod_ask M hs hi hq lq, clv_some]
  subst et
  rfl
theorem ra_56 {F : Nat} {h : Hp} {m s i t a b d : Nat} {old : Int32} (M : Md h m) (hs : s < 128) (hi : i < 32) (et : t = 32 * s + i) (ha : hI h 758 m = nI a) (la : a < 16) (hb : hI h 759 m = nI b) (lb : b < 16) (hd : hI h 757 m = nI d) (ld : d < 16) {q : Nat} (hq : hI h 745 m = nI q) (lq : q < 32768) (ho : hI h 756 m = 56) : f_Mod_act F m (nI s) (nI i) (nI t) old h = some (askH h m s i q (aS h m s a i) (hA h (m + 13) (16 * t + b)) (hA h (m + 13) (16 * t + d))) := by
  have ht : t < 4096 := by omega
  have nm := c_Mod_isMemory (F := F) M.k
  rw [ho, bI_t (by unfold kMem; decide)] at nm
  have ns := c_Mod_isShared (F := F) M.k
  rw [ho, bI_f (by unfold kSh; decide)] at ns
  rw [f_Mod_act, gd_t M.k, ha, c_Mod_reg M ht la, cl_some, gd_t M.k, hb, c_Mod_reg M ht lb, cl_some, gd_t M.k, ho, if_neg (by decide), if_neg (by decide), if_neg (by decide), if_neg (by decide), if_pos (by decide), if_pos (by decide), if_pos (by decide), if_pos (by decide), nm, cl_some, if_neg (by decide), gd_t M.k, ns, cl_some, if_pos rfl, gd_t M.k, hd, n_16, nI_add, rq_k M.r_register M.k_register, M.n_register, ixn (by omega) (by decide), c_Mod_ask M hs hi hq lq, clv_some]
  subst et
  rfl
theorem ra_57 {F : Nat} {h : Hp} {m s i t a b d : Nat} {old : Int32} (M : Md h m) (hs : s < 128) (hi : i < 32) (et : t = 32 * s + i) (ha : hI h 758 m = nI a) (la : a < 16) (hb : hI h 759 m = nI b) (lb : b < 16) (hd : hI h 757 m = nI d) (ld : d < 16) {q : Nat} (hq : hI h 745 m = nI q) (lq : q < 32768) (ho : hI h 756 m = 57) : f_Mod_act F m (nI s) (nI i) (nI t) old h = some (askH h m s i q (aS h m s a i) (hA h (m + 13) (16 * t + b)) (hA h (m + 13) (16 * t + d))) := by
  have ht : t < 4096 := by omega
  have nm := c_Mod_isMemory (F := F) M.k
  rw [ho, bI_t (by unfold kMem; decide)] at nm
  have ns := c_Mod_isShared (F := F) M.k
  rw [ho, bI_f (by unfold kSh; decide)] at ns
  rw [f_Mod_act, gd_t M.k, ha, c_Mod_reg M ht la, cl_some, gd_t M.k, hb, c_Mod_reg M ht lb, cl_some, gd_t M.k, ho, if_neg (by decide), if_neg (by decide), if_neg (by decide), if_neg (by decide), if_pos (by decide), if_pos (by decide), if_pos (by decide), if_pos (by decide), nm, cl_some, if_neg (by decide), gd_t M.k, ns, cl_some, if_pos rfl, gd_t M.k, hd, n_16, nI_add, rq_k M.r_register M.k_register, M.n_register, ixn (by omega) (by decide), c_Mod_ask M hs hi hq lq, clv_some]
  subst et
  rfl
theorem ra_52 {F : Nat} {h : Hp} {m s i t a b d : Nat} {old : Int32} (M : Md h m) (hs : s < 128) (hi : i < 32) (et : t = 32 * s + i) (ha : hI h 758 m = nI a) (la : a < 16) (hb : hI h 759 m = nI b) (lb : b < 16) (hd : hI h 757 m = nI d) (ld : d < 16) {g b0 : Nat} (hg : hA h (m + 13) (16 * t + a) + hI h 761 m = nI g) (lg : g < 64) (hsb : hA h (m + 9) s = nI b0) (l64 : b0 < 64) (ho : hI h 756 m = 52) : f_Mod_act F m (nI s) (nI i) (nI t) old h = some (tchH h m s (16 * t + d) 52 g b0 (hA h (m + 13) (16 * t + b))) := by
  have ht : t < 4096 := by omega
  have nm := c_Mod_isMemory (F := F) M.k
  rw [ho, bI_t (by unfold kMem; decide)] at nm
  have ns := c_Mod_isShared (F := F) M.k
  rw [ho, bI_t (by unfold kSh; decide)] at ns
  rw [f_Mod_act, gd_t M.k, ha, c_Mod_reg M ht la, cl_some, gd_t M.k, hb, c_Mod_reg M ht lb, cl_some, gd_t M.k, ho, if_neg (by decide), if_neg (by decide), if_neg (by decide), if_neg (by decide), if_pos (by decide), if_pos (by decide), if_pos (by decide), if_pos (by decide), nm, cl_some, if_neg (by decide), gd_t M.k, ns, cl_some, if_neg (by decide), hd, n_16, nI_add, b_Mod_act_425, gd_t M.k, ho, if_neg (by decide), hg, c_Mod_touch M hs hsb l64 lg (by omega), clv_some, ho]
theorem ra_53 {F : Nat} {h : Hp} {m s i t a b d : Nat} {old : Int32} (M : Md h m) (hs : s < 128) (hi : i < 32) (et : t = 32 * s + i) (ha : hI h 758 m = nI a) (la : a < 16) (hb : hI h 759 m = nI b) (lb : b < 16) (hd : hI h 757 m = nI d) (ld : d < 16) {g b0 : Nat} (hg : hA h (m + 13) (16 * t + a) + hI h 761 m = nI g) (lg : g < 64) (hsb : hA h (m + 9) s = nI b0) (l64 : b0 < 64) (ho : hI h 756 m = 53) : f_Mod_act F m (nI s) (nI i) (nI t) old h = some (tchH h m s (16 * t + d) 53 g b0 (hA h (m + 13) (16 * t + b))) := by
  have ht : t < 4096 := by omega
  have nm := c_Mod_isMemory (F := F) M.k
  rw [ho, bI_t (by unfold kMem; decide)] at nm
  have ns := c_Mod_isShared (F := F) M.k
  rw [ho, bI_t (by unfold kSh; decide)] at ns
  rw [f_Mod_act, gd_t M.k, ha, c_Mod_reg M ht la, cl_some, gd_t M.k, hb, c_Mod_reg M ht lb, cl_some, gd_t M.k, ho, if_neg (by decide), if_neg (by decide), if_neg (by decide), if_neg (by decide), if_pos (by decide), if_pos (by decide), if_pos (by decide), if_pos (by decide), nm, cl_some, if_neg (by decide), gd_t M.k, ns, cl_some, if_neg (by decide), hd, n_16, nI_add, b_Mod_act_425, gd_t M.k, ho, if_neg (by decide), hg, c_Mod_touch M hs hsb l64 lg (by omega), clv_some, ho]
theorem ra_58 {F : Nat} {h : Hp} {m s i t a b d : Nat} {old : Int32} (M : Md h m) (hs : s < 128) (hi : i < 32) (et : t = 32 * s + i) (ha : hI h 758 m = nI a) (la : a < 16) (hb : hI h 759 m = nI b) (lb : b < 16) (hd : hI h 757 m = nI d) (ld : d < 16) {g b0 : Nat} (hg : hA h (m + 13) (16 * t + a) + hI h 761 m = nI g) (lg : g < 64) (hsb : hA h (m + 9) s = nI b0) (l64 : b0 < 64) (ho : hI h 756 m = 58) : f_Mod_act F m (nI s) (nI i) (nI t) old h = some (tchH h m s (16 * t + d) 58 g b0 (hA h (m + 13) (16 * t + b))) := by
  have ht : t < 4096 := by omega
  have nm := c_Mod_isMemory (F := F) M.k
  rw [ho, bI_t (by unfold kMem; decide)] at nm
  have ns := c_Mod_isShared (F := F) M.k
  rw [ho, bI_t (by unfold kSh; decide)] at ns
  rw [f_Mod_act, gd_t M.k, ha, c_Mod_reg M ht la, cl_some, gd_t M.k, hb, c_Mod_reg M ht lb, cl_some, gd_t M.k, ho, if_neg (by decide), if_neg (by decide), if_neg (by decide), if_neg (by decide), if_pos (by decide), if_pos (by decide), if_pos (by decide), if_pos (by decide), nm, cl_some, if_neg (by decide), gd_t M.k, ns, cl_some, if_neg (by decide), hd, n_16, nI_add, b_Mod_act_425, gd_t M.k, ho, if_neg (by decide), hg, c_Mod_touch M hs hsb l64 lg (by omega), clv_some, ho]
theorem ra_59 {F : Nat} {h : Hp} {m s i t a b d : Nat} {old : Int32} (M : Md h m) (hs : s < 128) (hi : i < 32) (et : t = 32 * s + i) (ha : hI h 758 m = nI a) (la : a < 16) (hb : hI h 759 m = nI b) (lb : b < 16) (hd : hI h 757 m = nI d) (ld : d < 16) {g b0 : Nat} (hg : hA h (m + 13) (16 * t + a) + hI h 761 m = nI g) (lg : g < 64) (hsb : hA h (m + 9) s = nI b0) (l64 : b0 < 64) (ho : hI h 756 m = 59) : f_Mod_act F m (nI s) (nI i) (nI t) old h = some (tchH h m s (16 * t + d) 59 g b0 (hA h (m + 13) (16 * t + b))) := by
  have ht : t < 4096 := by omega
  have nm := c_Mod_isMemory (F := F) M.k
  rw [ho, bI_t (by unfold kMem; decide)] at nm
  have ns := c_Mod_isShared (F := F) M.k
  rw [ho, bI_t (by unfold kSh; decide)] at ns
  rw [f_Mod_act, gd_t M.k, ha, c_Mod_reg M ht la, cl_some, gd_t M.k, hb, c_Mod_reg M ht lb, cl_some, gd_t M.k, ho, if_neg (by decide), if_neg (by decide), if_neg (by decide), if_neg (by decide), if_pos (by decide), if_pos (by decide), if_pos (by decide), if_pos (by decide), nm, cl_some, if_neg (by decide), gd_t M.k, ns, cl_some, if_neg (by decide), hd, n_16, nI_add, b_Mod_act_425, gd_t M.k, ho, if_neg (by decide), hg, c_Mod_touch M hs hsb l64 lg (by omega), clv_some, ho]
/-! lanes together -/
theorem sA_sI (h : Hp) (f a b j : Nat) (v w : Int32) : sA (sI h f a v) b j w = sI (sA h b j w) f a v := rfl
abbrev hdF (h : Hp) (m s a i : Nat) : Int32 := if rLn h m s i then hA h (m + 13) (16 * (32 * s + i) + a) else 0
abbrev vtB (h : Hp) (m s a i : Nat) : Bool := decide (¬ hA h (m + 27) i = 0) && decide (rHas h m (32 * s + i) (nI a))
abbrev dsB (h : Hp) (m i : Nat) : Bool := decide (¬ hA h (m + 27) i = 0)
theorem oA_sI (h : Hp) (f a : Nat) (v : Int32) (g : Nat → Nat → Int32) : oA (sI h f a v) g = sI (oA h g) f a v := rfl
def tgH (h : Hp) (m s a i : Nat) (v : Int32) : Hp := sI (oA h (fr (hA h) (m + 28) 0 i (hdF h m s a))) 762 m v
theorem rLn_same {h k : Hp} {m s i : Nat} (e1 : hI k 705 m = hI h 705 m) (e2 : hI k 717 m = hI h 717 m) (e3 : hA k (m + 10) s = hA h (m + 10) s) : rLn k m s i ↔ rLn h m s i := by
  unfold rLn
  rw [e1, e2, e3]
def vtF (o : Int32) (v d : Nat) : Int32 := if o = 70 then bI (0 < v) else if o = 71 then bI (v = d) else nI v
theorem c_Mod_together {F : Nat} {h : Hp} {m s ln a : Nat} (M : Md h m) (hF : 40000 ≤ F) (hs : s < 128) (hl : hI h 705 m = nI ln) (l32 : ln ≤ 32) (ha : hI h 758 m = nI a) (la : a < 16) : f_Mod_together F m (nI s) h = some (tgH h m s a ln (vtF (hI h 756 m) (cn (vtB h m s a) ln) (cn (dsB h m) ln))) := by
  have Mt : ∀ i v, Md (tgH h m s a i v) m := fun i v => (M.toA).tsI
  have rd : ∀ i v b j, ¬ b = (m + 28) → hA (tgH h m s a i v) b j = hA h b j := fun i v b j n => by
    unfold tgH
    rw [qA_sI, qA_oA, fr_o n]
  have ri : ∀ i v f, ¬ f = 762 → hI (tgH h m s a i v) f m = hI h f m := fun i v f n => by
    unfold tgH
    rw [qI_sI, if_neg (fun z => n z.1), qI_oA]
  have rv : ∀ i v, hI (tgH h m s a i v) 762 m = v := fun i v => by
    unfold tgH
    rw [qI_sI, if_pos ⟨rfl, rfl⟩]
  have wv : ∀ i v v', sI (tgH h m s a i v) 762 m v' = tgH h m s a i v' := fun i v v' => sI_same _ _ _ _ _
  have wh : ∀ i v, sA (tgH h m s a i v) (m + 28) i (hdF h m s a i) = tgH h m s a (i + 1) v := fun i v => by
    unfold tgH
    rw [sA_sI, sA_oA, fr_up _ _ _ _ _ (by omega)]
  have st := iterF (fun n i => b_Mod_together_9 F n m (nI s) (nI (cn (dsB h m) i)) (nI i) (tgH h m s a i (nI (cn (vtB h m s a) i)))) ln (fun i n hi => by
    have c : ¬ nI ln ≤ nI i := nI_ge hi (by omega)
    have M1 := Mt i (nI (cn (vtB h m s a) i))
    have M2 := Mt (i + 1) (nI (cn (vtB h m s a) i))
    have el : rLn (tgH h m s a i (nI (cn (vtB h m s a) i))) m s i ↔ rLn h m s i := rLn_same (ri _ _ _ (by decide)) (ri _ _ _ (by decide)) (rd _ _ _ _ (by omega))
    have t48 : b_Mod_together_48 F (b_Mod_together_9 F n) m (nI s) (nI (cn (dsB h m) i)) (nI i) (m + 28) (nI i) (hdF h m s a i) (tgH h m s a i (nI (cn (vtB h m s a) i))) = b_Mod_together_9 F n m (nI s) (nI (cn (dsB h m) (i + 1))) (nI (i + 1)) (tgH h m s a (i + 1) (nI (cn (vtB h m s a) (i + 1)))) := by
      rw [b_Mod_together_48, gd_t M1.k_had, M1.n_had, ixn (by omega) (by decide), pw_e, wh, gd_t M2.k, rq_k M2.r_does M2.k_does, M2.n_does, ixn (by omega) (by decide), rd _ _ _ _ (by omega)]
      by_cases d0 : hA h (m + 27) i = 0
      · have e1 : dsB h m i = false := decide_eq_false (fun z => z d0)
        have e2 : vtB h m s a i = false := by unfold vtB; rw [decide_eq_false (fun z => z d0)]; rfl
        rw [if_pos d0, cn, cn, e1, e2, nI_1]
        rfl
      · have e1 : dsB h m i = true := decide_eq_true d0
        have eh : rHas (tgH h m s a (i + 1) (nI (cn (vtB h m s a) i))) m (32 * s + i) (nI a) ↔ rHas h m (32 * s + i) (nI a) := by unfold rHas; rw [rd _ _ _ _ (by omega)]
        rw [if_neg d0, c_Mod_thread, cl_some, gd_t M2.k, ri _ _ _ (by decide), ha, c_Mod_has M2 (by omega), cl_some, bI_ite, rv, b_Mod_together_90, b_Mod_together_90, gd_t M2.k, gd_t M2.k, pw_e, pw_e, wv, wv, nI_1, nI_1]
        by_cases c1 : rHas h m (32 * s + i) (nI a)
        · have e2 : vtB h m s a i = true := by unfold vtB; rw [decide_eq_true d0, decide_eq_true c1]; rfl
          rw [if_pos (eh.mpr c1), cn, cn, e1, e2, if_pos rfl, nI_1]
        · have e2 : vtB h m s a i = false := by unfold vtB; rw [decide_eq_true d0, decide_eq_false c1]; rfl
          rw [if_neg (fun z => c1 (eh.mp z)), cn, cn, e1, e2, if_pos rfl, if_neg (by decide), show (0 : Int32) = nI 0 from rfl, nI_add]
    rw [b_Mod_together_9]
    dsimp only
    rw [gd_t M1.k, ri _ _ _ (by decide), hl, if_neg c, rq_k M1.r_had M1.k_had, c_Mod_isLane M1 hs, cl_some, bI_ite]
    by_cases c2 : rLn h m s i
    · rw [if_pos (el.mpr c2), c_Mod_thread, cl_some, gd_t M1.k, ri _ _ _ (by decide), ha, c_Mod_reg M1 (by omega) la, cl_some, rd _ _ _ _ (by omega)]
      rw [show hdF h m s a i = hA h (m + 13) (16 * (32 * s + i) + a) from if_pos c2] at t48
      exact t48
    · rw [show hdF h m s a i = 0 from if_neg c2] at t48
      rw [if_neg (fun z => c2 (el.mp z))]
      exact t48) (F := F) (by omega)
  have e0 : tgH h m s a 0 (nI (cn (vtB h m s a) 0)) = sI h 762 m 0 := by
    unfold tgH
    rw [fr_0, oA_self]
    rfl
  have c0 : nI (cn (dsB h m) 0) = 0 := rfl
  rw [e0, c0, nI_0] at st
  have cL : nI ln ≤ nI ln := nI_le (Nat.le_refl _) (by omega)
  rw [f_Mod_together, gd_t M.k, pw_e, st, b_Mod_together_9]
  dsimp only
  have M1 := Mt ln (nI (cn (vtB h m s a) ln))
  have v32 := cn_le (vtB h m s a) ln
  have d32 := cn_le (dsB h m) ln
  rw [gd_t M1.k, ri _ _ _ (by decide), hl, if_pos cL, ri _ _ _ (by decide), rv, b_Mod_together_122, b_Mod_together_122, gd_t M1.k, gd_t M1.k, pw_e, pw_e, wv, wv]
  unfold vtF
  by_cases o1 : hI h 756 m = 70
  · have n71 : ¬ hI h 756 m = 71 := by rw [o1]; decide
    rw [if_pos o1, if_pos o1]
    by_cases z : 0 < cn (vtB h m s a) ln
    · rw [if_neg (nI_nle z (by omega)), bI_t z, b_Mod_together_125, gd_t (Mt _ _).k, ri _ _ _ (by decide), if_neg n71]
    · have z0 : cn (vtB h m s a) ln = 0 := by omega
      rw [if_pos (by rw [z0]; decide), bI_f z, b_Mod_together_125, gd_t (Mt _ _).k, ri _ _ _ (by decide), if_neg n71]
  · rw [if_neg o1, if_neg o1, b_Mod_together_125, gd_t M1.k, ri _ _ _ (by decide), rv]
    by_cases o2 : hI h 756 m = 71
    · rw [if_pos o2, if_pos o2, b_Mod_together_148, b_Mod_together_148, gd_t M1.k, gd_t M1.k, pw_e, pw_e, wv, wv]
      by_cases z : cn (vtB h m s a) ln = cn (dsB h m) ln
      · rw [if_pos (by rw [z]), bI_t z]
      · rw [if_neg (fun y => z ((nI_eq (by omega) (by omega)).mp y)), bI_f z]
    · rw [if_neg o2, if_neg o2]
