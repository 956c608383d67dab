/-! the reference seats a block -/
theorem l_bw46 {F : Nat} {h : Hp} {m t : Nat} {x1 : Int32} (M : Md h m) (hF : 40000 ≤ F) (ht : t < 4096) (k5 : Nat → Int32 → Int32 → Hp → Option Hp) (g : Nat → Nat → Int32) : b_Mod_beginWarp_46 F k5 F m x1 (nI t) 0 (oA h g) = k5 m x1 (nI (t + 1)) (oA h (fr g (m + 13) (16 * t) (16 * t + 16) (fun _ => 0))) := by
  have st := iterF (fun n i => b_Mod_beginWarp_46 F k5 n m x1 (nI t) (nI i) (oA h (fr g (m + 13) (16 * t) (16 * t + i) (fun _ => 0)))) 16 (fun i n hi => by
    have c : ¬ (16 : Int32) ≤ nI i := nI_ge hi (by decide)
    have u := fr_up g (m + 13) (16 * t) (16 * t + i) (fun _ => 0) (by omega)
    simp (disch := omega) only [b_Mod_beginWarp_46, pw, gd, rq_i, Bool.false_eq_true, eq_self, or_false, false_or, or_true, true_or, and_true, true_and, and_false, false_and, not_true_eq_false, not_false_eq_true, nu_none, nu_some, cl_some, clv_some, qK_sI, qK_sA, qK_sL, qR_sI, qR_sA, qR_sL, qN_sI, qN_sA, qN_sL, qK_oA, qR_oA, qN_oA, qI_oA, qI_sA, qI_sL, qL_sA, qL_sI, qL_oA, qA_sI, qA_sL, qA_oA, if_true, if_false, reduceIte, ixn, nI_add, nI_1, n_4, n_8, n_16, n_20, n_32, n_64, n_128, i_0, Md.k M, Md.r_register M, Md.k_register M, Md.n_register M, c, sA_oA, u]
    rw [show 16 * t + i + 1 = 16 * t + (i + 1) by omega]) (F := F) (by omega)
  simp only [Nat.add_zero, fr_0, nI_0] at st
  have c : (16 : Int32) ≤ nI 16 := by decide
  rw [st]
  simp only [b_Mod_beginWarp_46, pw, gd, rq_i, Bool.false_eq_true, eq_self, or_false, false_or, or_true, true_or, and_true, true_and, and_false, false_and, not_true_eq_false, not_false_eq_true, nu_none, nu_some, cl_some, clv_some, qK_sI, qK_sA, qK_sL, qR_sI, qR_sA, qR_sL, qN_sI, qN_sA, qN_sL, qK_oA, qR_oA, qN_oA, qI_oA, qI_sA, qI_sL, qL_sA, qL_sI, qL_oA, qA_sI, qA_sL, qA_oA, if_true, if_false, reduceIte, ixn, nI_add, nI_1, n_4, n_8, n_16, n_20, n_32, n_64, n_128, i_0, c]
def bwG (h : Hp) (m s i : Nat) : Nat → Nat → Int32 := fun a j => if ((m + 14) ≤ a ∧ a ≤ (m + 17)) ∧ 32 * s ≤ j ∧ j < 32 * s + i then 0 else if a = m + 13 ∧ 512 * s ≤ j ∧ j < 512 * s + 16 * i then 0 else hA h a j
theorem bw_up (h : Hp) (m s i : Nat) : fr (up2 (up2 (up2 (up2 (bwG h m s i) (m + 15) (32 * s + i) 0) (m + 14) (32 * s + i) 0) (m + 16) (32 * s + i) 0) (m + 17) (32 * s + i) 0) (m + 13) (16 * (32 * s + i)) (16 * (32 * s + i) + 16) (fun _ => 0) = bwG h m s (i + 1) := by
  funext a j
  unfold fr up2 bwG
  by_cases c1 : ((m + 14) ≤ a ∧ a ≤ (m + 17)) ∧ 32 * s ≤ j ∧ j < 32 * s + (i + 1)
  · rw [if_pos c1, if_neg (by omega)]
    by_cases d : j = 32 * s + i
    · by_cases e4 : a = m + 17
      · rw [if_pos ⟨e4, d⟩]
      rw [if_neg (fun z => e4 z.1)]
      by_cases e3 : a = m + 16
      · rw [if_pos ⟨e3, d⟩]
      rw [if_neg (fun z => e3 z.1)]
      by_cases e2 : a = m + 14
      · rw [if_pos ⟨e2, d⟩]
      rw [if_neg (fun z => e2 z.1), if_pos ⟨by omega, d⟩]
    · rw [if_neg (fun z => d z.2), if_neg (fun z => d z.2), if_neg (fun z => d z.2), if_neg (fun z => d z.2), if_pos (by omega)]
  · rw [if_neg c1]
    by_cases c2 : a = m + 13 ∧ 512 * s ≤ j ∧ j < 512 * s + 16 * (i + 1)
    · rw [if_pos c2]
      by_cases d : a = m + 13 ∧ 16 * (32 * s + i) ≤ j ∧ j < 16 * (32 * s + i) + 16
      · rw [if_pos d]
      · rw [if_neg d, if_neg (by omega), if_neg (by omega), if_neg (by omega), if_neg (by omega), if_neg (by omega), if_pos (by omega)]
    · rw [if_neg c2, if_neg (by omega), if_neg (by omega), if_neg (by omega), if_neg (by omega), if_neg (by omega), if_neg (by omega), if_neg (by omega)]
theorem c_Mod_beginWarp {F : Nat} {h : Hp} {m s : Nat} (M : Md h m) (hF : 40000 ≤ F) (hs : s < 128) : f_Mod_beginWarp F m (nI s) h = some (oA h (bwG h m s 32)) := by
  have st := iterF (fun n i => b_Mod_beginWarp_5 F n m (nI s) (nI (32 * s + i)) (oA h (bwG h m s i))) 32 (fun i n hi => by
    have c : ¬ nI (32 * s + 32) ≤ nI (32 * s + i) := nI_ge (by omega) (by omega)
    have k := l_bw46 (x1 := nI s) M hF (show 32 * s + i < 4096 by omega) (b_Mod_beginWarp_5 F n) (up2 (up2 (up2 (up2 (bwG h m s i) (m + 15) (32 * s + i) 0) (m + 14) (32 * s + i) 0) (m + 16) (32 * s + i) 0) (m + 17) (32 * s + i) 0)
    rw [bw_up] at k
    have e32 : nI (32 * s) + 32 = nI (32 * s + 32) := nI_add _ 32
    simp (disch := omega) only [b_Mod_beginWarp_5, pw, gd, rq_i, Bool.false_eq_true, eq_self, or_false, false_or, or_true, true_or, and_true, true_and, and_false, false_and, not_true_eq_false, not_false_eq_true, nu_none, nu_some, cl_some, clv_some, qK_sI, qK_sA, qK_sL, qR_sI, qR_sA, qR_sL, qN_sI, qN_sA, qN_sL, qK_oA, qR_oA, qN_oA, qI_oA, qI_sA, qI_sL, qL_sA, qL_sI, qL_oA, qA_sI, qA_sL, qA_oA, if_true, if_false, reduceIte, ixn, nI_add, nI_1, n_4, n_8, n_16, n_20, n_32, n_64, n_128, i_0, Md.k M, Md.r_place M, Md.k_place M, Md.n_place M, Md.r_predicate M, Md.k_predicate M, Md.n_predicate M, Md.r_isEnded M, Md.k_isEnded M, Md.n_isEnded M, Md.r_waits M, Md.k_waits M, Md.n_waits M, e32, c, sA_oA, k]
    rw [show 32 * s + i + 1 = 32 * s + (i + 1) by omega]) (F := F) (by omega)
  have e0 : bwG h m s 0 = hA h := by
    funext a j
    unfold bwG
    rw [if_neg (by omega), if_neg (by omega)]
  simp only [Nat.add_zero, e0, oA_self] at st
  have c : nI (32 * s + 32) ≤ nI (32 * s + 32) := i_le_refl _
  have e32 : nI (32 * s) + 32 = nI (32 * s + 32) := nI_add _ 32
  rw [f_Mod_beginWarp, n_32, st]
  simp only [b_Mod_beginWarp_5, n_32, e32, c, if_true]
def rbG (h : Hp) (m s : Nat) (b n : Int32) : Nat → Nat → Int32 := fun a j => if a = m + 9 ∧ j = s then b else if a = m + 10 ∧ j = s then n else if a = m + 11 ∧ j = s then 0 else if a = m + 12 ∧ 20 * s ≤ j ∧ j < 20 * s + 20 then 0 else if ((m + 14) ≤ a ∧ a ≤ (m + 17)) ∧ 32 * s ≤ j ∧ j < 32 * s + 32 then 0 else if a = m + 13 ∧ 512 * s ≤ j ∧ j < 512 * s + 512 then 0 else hA h a j
def rbH (h : Hp) (m s : Nat) (b n : Int32) : Hp := oA h (rbG h m s b n)
theorem c_Mod_warps2 {F : Nat} {h : Hp} {m ln th : Nat} (k : hK h m = 12) (hl : hI h 705 m = nI ln) (ht : hI h 717 m = nI th) (l0 : 0 < ln) (l32 : ln ≤ 32) (t5 : th ≤ 512) : f_Mod_warps F m h = some (nI ((th + ln - 1) / ln), h) := by
  rw [c_Mod_warps k (by rw [hl]; exact nI_ne0 l0 (by omega)), hl, ht, nI_add, show (1 : Int32) = nI 1 from rfl, pk_sub (by omega), pk_div (by omega) l0 (by omega)]
theorem l_b71 {F : Nat} {h : Hp} {m s : Nat} {x1 x2 x3 : Int32} (M : Md h m) (hF : 40000 ≤ F) (hs : s < 128) (k8 : Nat → Int32 → Int32 → Int32 → Int32 → Hp → Option Hp) : b_Mod_begin_71 F k8 F m x1 x2 x3 (nI s) 0 h = k8 m x1 x2 (x3 + 1) (nI (s + 1)) (oA (oA h (fr (hA h) (m + 12) (20 * s) (20 * s + 20) (fun _ => 0))) (bwG (oA h (fr (hA h) (m + 12) (20 * s) (20 * s + 20) (fun _ => 0))) m s 32)) := by
  have st := iterF (fun n i => b_Mod_begin_71 F k8 n m x1 x2 x3 (nI s) (nI i) (oA h (fr (hA h) (m + 12) (20 * s) (20 * s + i) (fun _ => 0)))) 20 (fun i n hi => by
    have c : ¬ (20 : Int32) ≤ nI i := nI_ge hi (by decide)
    have u := fr_up (hA h) (m + 12) (20 * s) (20 * s + i) (fun _ => 0) (by omega)
    simp (disch := omega) only [b_Mod_begin_71, pw, gd, rq_i, Bool.false_eq_true, eq_self, or_false, false_or, or_true, true_or, and_true, true_and, and_false, false_and, not_true_eq_false, not_false_eq_true, nu_none, nu_some, cl_some, clv_some, qK_sI, qK_sA, qK_sL, qR_sI, qR_sA, qR_sL, qN_sI, qN_sA, qN_sL, qK_oA, qR_oA, qN_oA, qI_oA, qI_sA, qI_sL, qL_sA, qL_sI, qL_oA, qA_sI, qA_sL, qA_oA, if_true, if_false, reduceIte, ixn, nI_add, nI_1, n_4, n_8, n_16, n_20, n_32, n_64, n_128, i_0, Md.k M, Md.r_ticks M, Md.k_ticks M, Md.n_ticks M, c, sA_oA, u]
    rw [show 20 * s + i + 1 = 20 * s + (i + 1) by omega]) (F := F) (by omega)
  simp only [Nat.add_zero, fr_0, oA_self, nI_0] at st
  have c : (20 : Int32) ≤ nI 20 := by decide
  rw [st, b_Mod_begin_71]
  dsimp only
  rw [if_pos c, gd_t (by rw [qK_oA]; exact M.k), c_Mod_beginWarp M.toA hF hs, clv_some, nI_1]
theorem rb_eq (h : Hp) (m s : Nat) (b n : Int32) : oA (oA (sA (sA (sA h (m + 9) s b) (m + 10) s n) (m + 11) s 0) (fr (hA (sA (sA (sA h (m + 9) s b) (m + 10) s n) (m + 11) s 0)) (m + 12) (20 * s) (20 * s + 20) (fun _ => 0))) (bwG (oA (sA (sA (sA h (m + 9) s b) (m + 10) s n) (m + 11) s 0) (fr (hA (sA (sA (sA h (m + 9) s b) (m + 10) s n) (m + 11) s 0)) (m + 12) (20 * s) (20 * s + 20) (fun _ => 0))) m s 32) = rbH h m s b n := by
  simp only [sA_is, oA_oA, qA_oA]
  unfold rbH
  refine oA_eq fun a j => ?_
  unfold bwG rbG
  simp only [qA_oA]
  unfold fr up2
  by_cases c1 : ((m + 14) ≤ a ∧ a ≤ (m + 17)) ∧ 32 * s ≤ j ∧ j < 32 * s + 32
  · rw [if_pos c1, if_pos c1, if_neg (by omega), if_neg (by omega), if_neg (by omega), if_neg (by omega)]
  · rw [if_neg c1, if_neg c1]
    by_cases c2 : a = m + 13 ∧ 512 * s ≤ j ∧ j < 512 * s + 512
    · rw [if_pos (by omega), if_pos c2, if_neg (by omega), if_neg (by omega), if_neg (by omega), if_neg (by omega)]
    · rw [if_neg (by omega), if_neg c2]
      by_cases c3 : a = m + 12 ∧ 20 * s ≤ j ∧ j < 20 * s + 20
      · rw [if_pos c3, if_pos c3, if_neg (by omega), if_neg (by omega), if_neg (by omega)]
      · rw [if_neg c3, if_neg c3]
        by_cases c4 : a = m + 11 ∧ j = s
        · rw [if_pos c4, if_pos c4, if_neg (by omega), if_neg (by omega)]
        · rw [if_neg c4, if_neg c4]
          by_cases c5 : a = m + 10 ∧ j = s
          · rw [if_pos c5, if_pos c5, if_neg (by omega)]
          · rw [if_neg c5, if_neg c5]
theorem l_begin8y {F N : Nat} {h : Hp} {m u b n s sl ln th : Nat} (M : Md h m) (hF : 40000 ≤ F) (hu : u < 8) (s16 : sl ≤ 16) (hsl : hI h 706 m = nI sl) (hs : s < 16 * u + sl) (hl : hI h 705 m = nI ln) (ht : hI h 717 m = nI th) (l0 : 0 < ln) (l32 : ln ≤ 32) (t5 : th ≤ 512) (hn : n < (th + ln - 1) / ln) (nl : (th + ln - 1) / ln ≤ 600) (fr0 : hA h (m + 9) s = -1) : b_Mod_begin_8 F (N + 1) m (nI u) (nI b) (nI n) (nI s) h = b_Mod_begin_8 F N m (nI u) (nI b) (nI (n + 1)) (nI (s + 1)) (rbH h m s (nI b) (nI n)) := by
  have c1 : ¬ nI (16 * u + sl) ≤ nI s := nI_ge hs (by omega)
  have c2 : ¬ nI ((th + ln - 1) / ln) ≤ nI n := nI_ge hn (by omega)
  have lb := l_b71 (F := F) (x1 := nI u) (x2 := nI b) (x3 := nI n) ((M.tsA (a := s) (f := m + 9) (x := nI b)).tsA (f := m + 10) (a := s) (x := nI n) |>.tsA (f := m + 11) (a := s) (x := 0)) hF (show s < 128 by omega) (b_Mod_begin_8 F N)
  rw [rb_eq] at lb
  rw [b_Mod_begin_8]
  dsimp only
  rw [gd_t M.k, n_16, hsl, nI_add, if_neg c1, c_Mod_warps2 M.k hl ht l0 l32 t5, cl_some, if_neg c2, gd_t M.k, rq_k M.r_slotBlock M.k_slotBlock, M.n_slotBlock, ixn (by omega) (by decide), if_pos fr0, ixn (by omega) (by decide), pw_e, rq_k (show hR (sA h (m + 9) s (nI b)) 736 m = some (m + 10) from M.r_slotWarp) (show hK (sA h (m + 9) s (nI b)) (m + 10) = 100 from M.k_slotWarp), show hN (sA h (m + 9) s (nI b)) (m + 10) = 128 from M.n_slotWarp, ixn (by omega) (by decide), pw_e, rq_k (show hR (sA (sA h (m + 9) s (nI b)) (m + 10) s (nI n)) 737 m = some (m + 11) from M.r_memoryTick) (show hK (sA (sA h (m + 9) s (nI b)) (m + 10) s (nI n)) (m + 11) = 100 from M.k_memoryTick), show hN (sA (sA h (m + 9) s (nI b)) (m + 10) s (nI n)) (m + 11) = 128 from M.n_memoryTick, ixn (by omega) (by decide), pw_e, lb, nI_1]
theorem l_begin8n {F N : Nat} {h : Hp} {m u b n s sl ln th : Nat} (M : Md h m) (hu : u < 8) (s16 : sl ≤ 16) (hsl : hI h 706 m = nI sl) (hs : s < 16 * u + sl) (hl : hI h 705 m = nI ln) (ht : hI h 717 m = nI th) (l0 : 0 < ln) (l32 : ln ≤ 32) (t5 : th ≤ 512) (hn : n < (th + ln - 1) / ln) (nl : (th + ln - 1) / ln ≤ 600) (fr0 : ¬ hA h (m + 9) s = -1) : b_Mod_begin_8 F (N + 1) m (nI u) (nI b) (nI n) (nI s) h = b_Mod_begin_8 F N m (nI u) (nI b) (nI n) (nI (s + 1)) h := by
  have c1 : ¬ nI (16 * u + sl) ≤ nI s := nI_ge hs (by omega)
  have c2 : ¬ nI ((th + ln - 1) / ln) ≤ nI n := nI_ge hn (by omega)
  rw [b_Mod_begin_8]
  dsimp only
  rw [gd_t M.k, n_16, hsl, nI_add, if_neg c1, c_Mod_warps2 M.k hl ht l0 l32 t5, cl_some, if_neg c2, gd_t M.k, rq_k M.r_slotBlock M.k_slotBlock, M.n_slotBlock, ixn (by omega) (by decide), if_neg fr0, nI_1]
theorem l_begin113 {F : Nat} {h : Hp} {m b : Nat} (M : Md h m) (hF : 40000 ≤ F) (b64 : b < 64) : b_Mod_begin_113 F m (nI b) h = some (oA h (fr (hA h) (m + 18) (64 * b) (64 * b + 64) (fun _ => 0))) := by
  have st := iterF (fun n i => b_Mod_begin_116 F n m (nI b) (nI i) (oA h (fr (hA h) (m + 18) (64 * b) (64 * b + i) (fun _ => 0)))) 64 (fun i n hi => by
    have c : ¬ (64 : Int32) ≤ nI i := nI_ge hi (by decide)
    have u := fr_up (hA h) (m + 18) (64 * b) (64 * b + i) (fun _ => 0) (by omega)
    simp (disch := omega) only [b_Mod_begin_116, pw, gd, rq_i, Bool.false_eq_true, eq_self, or_false, false_or, or_true, true_or, and_true, true_and, and_false, false_and, not_true_eq_false, not_false_eq_true, nu_none, nu_some, cl_some, clv_some, qK_sI, qK_sA, qK_sL, qR_sI, qR_sA, qR_sL, qN_sI, qN_sA, qN_sL, qK_oA, qR_oA, qN_oA, qI_oA, qI_sA, qI_sL, qL_sA, qL_sI, qL_oA, qA_sI, qA_sL, qA_oA, if_true, if_false, reduceIte, ixn, nI_add, nI_1, n_4, n_8, n_16, n_20, n_32, n_64, n_128, i_0, Md.k M, Md.r_shared M, Md.k_shared M, Md.n_shared M, c, sA_oA, u]
    rw [show 64 * b + i + 1 = 64 * b + (i + 1) by omega]) (F := F) (by omega)
  simp only [Nat.add_zero, fr_0, oA_self, nI_0] at st
  have c : (64 : Int32) ≤ nI 64 := by decide
  rw [b_Mod_begin_113, st]
  simp only [b_Mod_begin_116, c, if_true]
theorem l_begin8e {F N : Nat} {h : Hp} {m u b n s sl ln th : Nat} (M : Md h m) (hF : 40000 ≤ F) (b64 : b < 64) (hu : u < 8) (s16 : sl ≤ 16) (hsl : hI h 706 m = nI sl) (hs : s ≤ 16 * u + sl) (hl : hI h 705 m = nI ln) (ht : hI h 717 m = nI th) (l0 : 0 < ln) (l32 : ln ≤ 32) (t5 : th ≤ 512) (hn : n = (th + ln - 1) / ln) (nl : (th + ln - 1) / ln ≤ 600) : b_Mod_begin_8 F (N + 1) m (nI u) (nI b) (nI n) (nI s) h = some (oA h (fr (hA h) (m + 18) (64 * b) (64 * b + 64) (fun _ => 0))) := by
  rw [b_Mod_begin_8]
  dsimp only
  rw [gd_t M.k, n_16, hsl, nI_add, l_begin113 M hF b64]
  by_cases c1 : nI (16 * u + sl) ≤ nI s
  · rw [if_pos c1]
  · rw [if_neg c1, c_Mod_warps2 M.k hl ht l0 l32 t5, cl_some, hn, if_pos (i_le_refl _), l_begin113 M hF b64]
theorem c_Mod_freeSlots {F : Nat} {h : Hp} {m u sl : Nat} (M : Md h m) (hF : 40000 ≤ F) (hu : u < 8) (s16 : sl ≤ 16) (hsl : hI h 706 m = nI sl) : f_Mod_freeSlots F m (nI u) h = some (nI (cn (fun k => decide (hA h (m + 9) (16 * u + k) = -1)) sl), h) := by
  have st := iterF (fun n i => b_Mod_freeSlots_7 F n m (nI u) (nI (cn (fun k => decide (hA h (m + 9) (16 * u + k) = -1)) i)) (nI (16 * u + i)) h) sl (fun i n hi => by
    have c : ¬ nI (16 * u + sl) ≤ nI (16 * u + i) := nI_ge (by omega) (by omega)
    rw [b_Mod_freeSlots_7]
    dsimp only
    rw [gd_t M.k, n_16, hsl, nI_add, if_neg c, rq_k M.r_slotBlock M.k_slotBlock, M.n_slotBlock, ixn (by omega) (by decide), cn_snoc]
    by_cases z : hA h (m + 9) (16 * u + i) = -1
    · rw [if_pos z, decide_eq_true z, if_pos rfl, nI_1, nI_1]
      rfl
    · rw [if_neg z, decide_eq_false z, if_neg (by decide), Int32.add_zero, nI_1]
      rfl) (F := F) (by omega)
  rw [f_Mod_freeSlots, n_16]
  rw [show b_Mod_freeSlots_7 F F m (nI u) 0 (nI (16 * u)) h = _ from st, b_Mod_freeSlots_7]
  dsimp only
  rw [gd_t M.k, n_16, hsl, nI_add, if_pos (i_le_refl _)]
