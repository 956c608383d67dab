/-! what lanes do, in the class -/
def sV (o x y : Int32) : Int32 := if o = 4 then (x + y) else if o = 5 then (x - y) else if o = 6 then (x * y) else if o = 7 then (if y = 0 then 0 else x / y) else if o = 8 then (if y = 0 then 0 else x - x / y * y) else if o = 9 then (x &&& y) else if o = 10 then (x ||| y) else if o = 11 then (x ^^^ y) else if o = 12 then (x <<< (y &&& 31)) else if o = 13 then (ushr x y) else if o = 14 then (x >>> (y &&& 31)) else if o = 15 then (if y < x then y else x) else if o = 16 then (if x < y then y else x) else Int64.toInt32 ((Int32.toInt64 x * Int32.toInt64 y) >>> (Int32.toInt64 32 &&& 63))
theorem c_Warp_sum {F : Nat} {h : Hp} (o x y : Int32) : f_Warp_sum F o x y h = some (sV o x y, h) := by
  by_cases y0 : y = 0
  · simp only [f_Warp_sum, sV, y0, if_true, reduceIte, ite_sp]
  · simp only [f_Warp_sum, sV, y0, gd, not_false_eq_true, if_true, if_false, reduceIte, ite_sp]
def abV (h : Hp) (w bl i : Nat) (n : Int32) : Int32 := if n = 0 then hI h 513 w * hI h 514 w + nI i else if n = 1 then hI h 448 bl else if n = 2 then hI h 452 bl else if n = 3 then hI h 451 bl else if n = 4 then nI i else if n = 5 then hI h 513 w else hI h 514 w
theorem c_Warp_about {F : Nat} {h : Hp} {w wd bl : Nat} (wk : hK h w = 9) (hw : hR h 520 w = some wd) (hk : hK h wd = 10) (hb : hR h 512 w = some bl) (kb : hK h bl = 8) (i : Nat) : f_Warp_about F w (nI i) h = some (abV h w bl i (hI h 580 wd), h) := by
  simp only [f_Warp_about, pw, gd, rq_i, Bool.false_eq_true, eq_self, or_false, false_or, or_true, true_or, and_true, true_and, and_false, false_and, not_true_eq_false, not_false_eq_true, nu_none, nu_some, cl_some, clv_some, qK_sI, qK_sA, qK_sL, qR_sI, qR_sA, qR_sL, qN_sI, qN_sA, qN_sL, qK_oA, qR_oA, qN_oA, qI_oA, qI_sA, qI_sL, qL_sA, qL_sI, qL_oA, qA_sI, qA_sL, qA_oA, if_true, if_false, reduceIte, ixn, nI_add, nI_1, n_4, n_8, n_16, n_20, n_32, n_64, n_128, i_0, wk, hw, hk, hb, kb, ite_sp, abV]
/-- a register's new value -/
def cV (h : Hp) (w bl rg pr i : Nat) (o n : Int32) (a b : Nat) : Int32 := if o = 2 then n else if o = 3 then abV h w bl i n else if o = 18 then hA h rg (16 * i + a) + n else if o = 19 then hA h rg (16 * i + a) * n else if o = 20 then hA h rg (16 * i + a) &&& n else if o = 21 then (if bt (hA h pr (pn n)) i = true then hA h rg (16 * i + a) else hA h rg (16 * i + b)) else if o = 41 then hI h 519 w + 1 else sV o (hA h rg (16 * i + a)) (hA h rg (16 * i + b))
theorem c_Warp_result {F : Nat} {h : Hp} {w rg pl ro pr ti ln : Nat} (W : Wp h w rg pl ro pr ti ln) (hF : 40000 ≤ F) {wd : Nat} (hw : hR h 520 w = some wd) (hk : hK h wd = 10) {bl a b i : Nat} (hbl : hR h 512 w = some bl) (kb : hK h bl = 8) (ha : hI h 578 wd = nI a) (la : a < 16) (hb : hI h 579 wd = nI b) (lb : b < 16) (hi : i < ln) : f_Warp_result F w (nI i) h = some (cV h w bl rg pr i (hI h 576 wd) (hI h 580 wd) a b, h) := by
  have W2 := W
  obtain ⟨⟨wk, wl, hl⟩, ⟨r1, k1, n1, m1⟩, ⟨r2, k2, n2, m2⟩, ⟨r3, k3, n3, m3⟩, ⟨r4, k4, n4⟩, ⟨r5, k5, n5⟩, d1, d2, d3, d4, d5, d6, d7, d8, d9, d10⟩ := W
  have hp := pn_lt (hI h 580 wd)
  rw [f_Warp_result, gd_t wk, rq_k hw hk, ha, c_Warp_register W2 hF hi la, cl_some, gd_t wk, rq_k hw hk, hb, c_Warp_register W2 hF hi lb, cl_some, gd_t wk, rq_k hw hk, c_Warp_about wk hw hk hbl kb, cl_some, rq_k r4 k4, n4, pn_is, ixn hp (by decide), c_in _ (show i < 32 by omega), cl_some, bI_ite, c_Warp_sum, cl_some]
  simp only [ite_sp, cV]
theorem c_Warp_compared {F : Nat} {h : Hp} {w rg pl ro pr ti ln : Nat} (W : Wp h w rg pl ro pr ti ln) (hF : 40000 ≤ F) {wd : Nat} (hw : hR h 520 w = some wd) (hk : hK h wd = 10) {a b : Nat} (ha : hI h 578 wd = nI a) (la : a < 16) (hb : hI h 579 wd = nI b) (lb : b < 16) (P : Nat → Bool) (hP : ∀ i, i < ln → P i = if hI h 576 wd = 30 then decide (hA h rg (16 * i + a) < hA h rg (16 * i + b)) else if hI h 576 wd = 32 then decide (hA h rg (16 * i + a) < hI h 580 wd) else if hI h 576 wd < 32 then decide (hA h rg (16 * i + a) = hA h rg (16 * i + b)) else decide (hA h rg (16 * i + a) = hI h 580 wd)) (m : Int32) : f_Warp_compared F w m h = some (mkM (fun i => bt m i && P i) ln, h) := by
  have W2 := W
  obtain ⟨⟨wk, wl, hl⟩, ⟨r1, k1, n1, m1⟩, ⟨r2, k2, n2, m2⟩, ⟨r3, k3, n3, m3⟩, ⟨r4, k4, n4⟩, ⟨r5, k5, n5⟩, d1, d2, d3, d4, d5, d6, d7, d8, d9, d10⟩ := W
  have st := iterF (fun n i => b_Warp_compared_4 F n w m (mkM (fun i => bt m i && P i) i) (nI i) h) ln (fun i n hi => by
    have c : ¬ nI ln ≤ nI i := nI_ge hi (by omega)
    have hp := hP i hi
    by_cases q : bt m i = true
    · rw [b_Warp_compared_4]
      dsimp only
      rw [gd_t wk, wl, if_neg c, c_in m (show i < 32 by omega), cl_some, bI_ite, if_pos q, gd_t wk, rq_k hw hk, ha, c_Warp_register W2 hF hi la, cl_some, gd_t wk, rq_k hw hk, hb, c_Warp_register W2 hF hi lb, cl_some]
      generalize hA h rg (16 * i + a) = x at *
      generalize hA h rg (16 * i + b) = y at *
      have f68 : ∀ z, b_Warp_compared_68 F (b_Warp_compared_4 F n) w m (mkM (fun i => bt m i && P i) i) (nI i) x z h = if (if hI h 576 wd = 30 ∨ hI h 576 wd = 32 then decide (x < z) else decide (x = z)) = true then b_Warp_compared_4 F n w m (mkM (fun i => bt m i && P i) i ||| ((1 : Int32) <<< (nI i &&& 31))) (nI (i + 1)) h else b_Warp_compared_4 F n w m (mkM (fun i => bt m i && P i) i) (nI (i + 1)) h := by
        intro z
        rw [b_Warp_compared_68, gd_t wk, rq_k hw hk, b_Warp_compared_94, b_Warp_compared_99, b_Warp_compared_99, b_Warp_compared_123, if_neg (show ¬ (1 : Int32) = 0 by decide), if_pos (show (0 : Int32) = 0 from rfl), nI_1]
        by_cases c1 : hI h 576 wd = 30
        · rw [if_pos c1, if_pos (Or.inl c1)]
          by_cases c2 : x < z
          · rw [if_neg (Int32.not_le.mpr c2), decide_eq_true c2, if_pos rfl]
          · rw [if_pos (Int32.not_lt.mp c2), decide_eq_false c2, if_neg (by decide)]
        · rw [if_neg c1]
          by_cases c3 : hI h 576 wd = 32
          · rw [if_pos c3, if_pos (Or.inr c3)]
            by_cases c2 : x < z
            · rw [if_neg (Int32.not_le.mpr c2), decide_eq_true c2, if_pos rfl]
            · rw [if_pos (Int32.not_lt.mp c2), decide_eq_false c2, if_neg (by decide)]
          · have n32 : ¬ (hI h 576 wd = 30 ∨ hI h 576 wd = 32) := fun z => z.elim c1 c3
            rw [if_neg c3, if_neg n32]
            by_cases c2 : x = z
            · rw [if_pos c2, decide_eq_true c2, if_pos rfl]
            · rw [if_neg c2, decide_eq_false c2, if_neg (by decide)]
      rw [f68, f68, mkM, q, Bool.true_and]
      have key : (if hI h 576 wd < 32 then (if hI h 576 wd = 30 ∨ hI h 576 wd = 32 then decide (x < y) else decide (x = y)) else (if hI h 576 wd = 30 ∨ hI h 576 wd = 32 then decide (x < hI h 580 wd) else decide (x = hI h 580 wd))) = P i := by
        rw [hp]
        by_cases c1 : hI h 576 wd = 30
        · rw [if_pos (by rw [c1]; decide), if_pos (Or.inl c1), if_pos c1]
        · rw [if_neg c1]
          by_cases c3 : hI h 576 wd = 32
          · rw [if_neg (by rw [c3]; decide), if_pos (Or.inr c3), if_pos c3]
          · have n32 : ¬ (hI h 576 wd = 30 ∨ hI h 576 wd = 32) := fun z => z.elim c1 c3
            rw [if_neg c3, if_neg n32, if_neg n32]
      by_cases c5 : hI h 576 wd < 32
      · rw [if_pos c5] at key
        rw [if_pos c5, key]
        split <;> rfl
      · rw [if_neg c5] at key
        rw [if_neg c5, key]
        split <;> rfl
    · have q0 : bt m i = false := by simpa using q
      rw [b_Warp_compared_4]
      dsimp only
      rw [gd_t wk, wl, if_neg c, c_in m (show i < 32 by omega), cl_some, bI_ite, if_neg q, nI_1, mkM, q0, Bool.false_and]
      rfl) (F := F) (by omega)
  have cL : nI ln ≤ nI ln := nI_le (Nat.le_refl _) (by omega)
  have e0 : mkM (fun i => bt m i && P i) 0 = 0 := rfl
  rw [nI_0, e0] at st
  rw [f_Warp_compared, st, b_Warp_compared_4]
  dsimp only
  rw [gd_t wk, wl, if_pos cL]
theorem bt_not (x : Int32) {i : Nat} (hi : i < 32) : bt (x ^^^ -1) i = !(bt x i) := by
  rw [b_xor, b_m1 i hi]
  cases bt x i <;> rfl
/-- the lanes for which a predicate becomes true -/
def trB (o : Int32) (A B C : Nat → Bool) (any all : Prop) [Decidable any] [Decidable all] (i : Nat) : Bool := if o = 34 then A i && B i else if o = 35 then A i || B i else if o = 36 then !(A i) else if o = 70 then decide any else if o = 71 then decide all else C i
theorem c_Warp_truths {F : Nat} {h : Hp} {w rg pl ro pr ti ln : Nat} (W : Wp h w rg pl ro pr ti ln) (hF : 40000 ≤ F) {wd : Nat} (hw : hR h 520 w = some wd) (hk : hK h wd = 10) {a b : Nat} (ha : hI h 578 wd = nI a) (la : a < 16) (hb : hI h 579 wd = nI b) (lb : b < 16) (P : Nat → Bool) (hP : ∀ i, i < ln → P i = if hI h 576 wd = 30 then decide (hA h rg (16 * i + a) < hA h rg (16 * i + b)) else if hI h 576 wd = 32 then decide (hA h rg (16 * i + a) < hI h 580 wd) else if hI h 576 wd < 32 then decide (hA h rg (16 * i + a) = hA h rg (16 * i + b)) else decide (hA h rg (16 * i + a) = hI h 580 wd)) (m : Int32) (hm : ∀ i, i < 32 → bt m i = true → i < ln) : ∃ v, f_Warp_truths F w m h = some (v, h) ∧ ∀ i, i < 32 → bt m i = true → bt v i = trB (hI h 576 wd) (bt (hA h pr (pn (nI a)))) (bt (hA h pr (pn (nI b)))) P (¬ (hA h pr (pn (nI a)) &&& m) = 0) ((hA h pr (pn (nI a)) &&& m) = m) i := by
  have cc := c_Warp_compared W hF hw hk ha la hb lb P hP m
  obtain ⟨⟨wk, wl, hl⟩, ⟨r1, k1, n1, m1⟩, ⟨r2, k2, n2, m2⟩, ⟨r3, k3, n3, m3⟩, ⟨r4, k4, n4⟩, ⟨r5, k5, n5⟩, d1, d2, d3, d4, d5, d6, d7, d8, d9, d10⟩ := W
  have p1 := pn_lt (nI a)
  have p2 := pn_lt (nI b)
  rw [f_Warp_truths, gd_t wk, rq_k r4 k4, rq_k hw hk, ha, hb, pn_is, pn_is (nI b), n4, ixn p1 (by decide), ixn p2 (by decide), cc, cl_some]
  unfold trB
  by_cases c1 : hI h 576 wd = 34
  · refine ⟨_, by rw [if_pos c1], fun i hi _ => ?_⟩
    rw [if_pos c1, b_and]
  · rw [if_neg c1]
    by_cases c2 : hI h 576 wd = 35
    · refine ⟨_, by rw [if_pos c2], fun i hi _ => ?_⟩
      rw [if_neg c1, if_pos c2, b_or]
    · rw [if_neg c2]
      by_cases c3 : hI h 576 wd = 36
      · refine ⟨_, by rw [if_pos c3], fun i hi _ => ?_⟩
        rw [if_neg c1, if_neg c2, if_pos c3, bt_not _ hi]
      · rw [if_neg c3]
        by_cases c4 : hI h 576 wd = 70
        · rw [if_pos c4]
          by_cases z : (hA h pr (pn (nI a)) &&& m) = 0
          · refine ⟨0, by rw [if_pos z], fun i hi _ => ?_⟩
            rw [if_neg c1, if_neg c2, if_neg c3, if_pos c4, b_0, decide_eq_false (fun y => y z)]
          · refine ⟨m, by rw [if_neg z], fun i hi q => ?_⟩
            rw [if_neg c1, if_neg c2, if_neg c3, if_pos c4, q, decide_eq_true z]
        · rw [if_neg c4]
          by_cases c5 : hI h 576 wd = 71
          · rw [if_pos c5]
            by_cases z : (hA h pr (pn (nI a)) &&& m) = m
            · refine ⟨m, by rw [if_pos z], fun i hi q => ?_⟩
              rw [if_neg c1, if_neg c2, if_neg c3, if_neg c4, if_pos c5, q, decide_eq_true z]
            · refine ⟨0, by rw [if_neg z], fun i hi _ => ?_⟩
              rw [if_neg c1, if_neg c2, if_neg c3, if_neg c4, if_pos c5, b_0, decide_eq_false z]
          · refine ⟨_, by rw [if_neg c5], fun i hi q => ?_⟩
            rw [if_neg c1, if_neg c2, if_neg c3, if_neg c4, if_neg c5, bt_mkM _ _ hl i hi, q, decide_eq_true (hm i hi q)]
            simp
/-! the whole act -/
theorem c_act_0 {F : Nat} {h : Hp} {w rg pl ro pr ti ln : Nat} (W : Wp h w rg pl ro pr ti ln) (hF : 40000 ≤ F) {wd : Nat} (hw : hR h 520 w = some wd) (hk : hK h wd = 10) {bl : Nat} (hbl : hR h 512 w = some bl) (kb : hK h bl = 8) (ho : hI h 576 wd = 0) (m : Int32) : f_Warp_act F w m h = some (sI (sI h 516 w (hI h 516 w ||| m)) 453 bl (hI h 453 bl - nI (cn (bt m) 32))) := by
  obtain ⟨⟨wk, wl, hl⟩, ⟨r1, k1, n1, m1⟩, ⟨r2, k2, n2, m2⟩, ⟨r3, k3, n3, m3⟩, ⟨r4, k4, n4⟩, ⟨r5, k5, n5⟩, d1, d2, d3, d4, d5, d6, d7, d8, d9, d10⟩ := W
  have e : hI (sI h 516 w (hI h 516 w ||| m)) 453 bl = hI h 453 bl := by rw [qI_sI, if_neg (by omega)]
  rw [f_Warp_act, gd_t wk, rq_k hw hk, ho, if_pos rfl, pw_e, rq_k (by rw [qR_sI]; exact hbl) (by rw [qK_sI]; exact kb), c_Integer_bitCount, cl_some, gd_t (by rw [qK_sI]; exact kb), e]
  rfl
theorem c_act_1 {F : Nat} {h : Hp} {w rg pl ro pr ti ln : Nat} (W : Wp h w rg pl ro pr ti ln) (hF : 40000 ≤ F) {wd : Nat} (hw : hR h 520 w = some wd) (hk : hK h wd = 10) {bl : Nat} (hbl : hR h 512 w = some bl) (kb : hK h bl = 8) (ho : hI h 576 wd = 1) (m : Int32) : f_Warp_act F w m h = some (sI (sI h 517 w (hI h 517 w ||| m)) 454 bl (hI h 454 bl + nI (cn (bt m) 32))) := by
  obtain ⟨⟨wk, wl, hl⟩, ⟨r1, k1, n1, m1⟩, ⟨r2, k2, n2, m2⟩, ⟨r3, k3, n3, m3⟩, ⟨r4, k4, n4⟩, ⟨r5, k5, n5⟩, d1, d2, d3, d4, d5, d6, d7, d8, d9, d10⟩ := W
  have e : hI (sI h 517 w (hI h 517 w ||| m)) 454 bl = hI h 454 bl := by rw [qI_sI, if_neg (by omega)]
  rw [f_Warp_act, gd_t wk, rq_k hw hk, ho, if_neg (by decide), if_pos rfl, pw_e, rq_k (by rw [qR_sI]; exact hbl) (by rw [qK_sI]; exact kb), c_Integer_bitCount, cl_some, gd_t (by rw [qK_sI]; exact kb), e]
  rfl
theorem c_act_p {F : Nat} {h : Hp} {w rg pl ro pr ti ln : Nat} (W : Wp h w rg pl ro pr ti ln) (hF : 40000 ≤ F) {wd : Nat} (hw : hR h 520 w = some wd) (hk : hK h wd = 10) {a b d : Nat} (ha : hI h 578 wd = nI a) (la : a < 16) (hb : hI h 579 wd = nI b) (lb : b < 16) (hd : hI h 577 wd = nI d) (hv : hI h 588 wd = nI (16 + pn (nI d))) (o0 : ¬ hI h 576 wd = 0) (o1 : ¬ hI h 576 wd = 1) (o73 : ¬ hI h 576 wd = 73) (P : Nat → Bool) (hP : ∀ i, i < ln → P i = if hI h 576 wd = 30 then decide (hA h rg (16 * i + a) < hA h rg (16 * i + b)) else if hI h 576 wd = 32 then decide (hA h rg (16 * i + a) < hI h 580 wd) else if hI h 576 wd < 32 then decide (hA h rg (16 * i + a) = hA h rg (16 * i + b)) else decide (hA h rg (16 * i + a) = hI h 580 wd)) (m : Int32) (hm : ∀ i, i < 32 → bt m i = true → i < ln) : ∃ v, f_Warp_act F w m h = some (sA h pr (pn (nI d)) v) ∧ ∀ i, i < 32 → bt v i = if bt m i = true then trB (hI h 576 wd) (bt (hA h pr (pn (nI a)))) (bt (hA h pr (pn (nI b)))) P (¬ (hA h pr (pn (nI a)) &&& m) = 0) ((hA h pr (pn (nI a)) &&& m) = m) i else bt (hA h pr (pn (nI d))) i := by
  obtain ⟨v, t1, t2⟩ := c_Warp_truths W hF hw hk ha la hb lb P hP m hm
  obtain ⟨⟨wk, wl, hl⟩, ⟨r1, k1, n1, m1⟩, ⟨r2, k2, n2, m2⟩, ⟨r3, k3, n3, m3⟩, ⟨r4, k4, n4⟩, ⟨r5, k5, n5⟩, d1, d2, d3, d4, d5, d6, d7, d8, d9, d10⟩ := W
  have p1 := pn_lt (nI d)
  refine ⟨(hA h pr (pn (nI d)) &&& (m ^^^ -1)) ||| (v &&& m), ?_, fun i hi => ?_⟩
  · rw [f_Warp_act, gd_t wk, rq_k hw hk, if_neg o0, if_neg o1, if_neg o73, hv, if_neg (show ¬ nI (16 + pn (nI d)) < (16 : Int32) from nI_nlt (b := 16) (by omega) (by omega)), rq_k r4 k4, hd, pn_is, n4, ixn p1 (by decide), t1, cl_some, gd_t k4, n4, ixn p1 (by decide)]
    rfl
  · rw [b_or, b_and, b_and, bt_not _ hi]
    by_cases q : bt m i = true
    · rw [if_pos q, q, t2 i hi q]
      simp
    · have q0 : bt m i = false := by simpa using q
      rw [if_neg q, q0]
      simp
theorem c_act_n {F : Nat} {h : Hp} {w rg pl ro pr ti ln : Nat} (W : Wp h w rg pl ro pr ti ln) (hF : 40000 ≤ F) {wd : Nat} (hw : hR h 520 w = some wd) (hk : hK h wd = 10) (o0 : ¬ hI h 576 wd = 0) (o1 : ¬ hI h 576 wd = 1) (o73 : ¬ hI h 576 wd = 73) (hv : hI h 588 wd = -1) (m : Int32) : f_Warp_act F w m h = some h := by
  obtain ⟨⟨wk, wl, hl⟩, ⟨r1, k1, n1, m1⟩, ⟨r2, k2, n2, m2⟩, ⟨r3, k3, n3, m3⟩, ⟨r4, k4, n4⟩, ⟨r5, k5, n5⟩, d1, d2, d3, d4, d5, d6, d7, d8, d9, d10⟩ := W
  rw [f_Warp_act, gd_t wk, rq_k hw hk, if_neg o0, if_neg o1, if_neg o73, hv, if_pos (by decide), if_pos rfl]
/-- registers of lanes -/
def rgF (o : Int32) (k : Nat) (f : Nat → Int32) (i : Nat) : Int32 := if o = 72 then nI k else f i
theorem c_act_r {F : Nat} {h : Hp} {w rg pl ro pr ti ln : Nat} (W : Wp h w rg pl ro pr ti ln) (hF : 40000 ≤ F) {wd : Nat} (hw : hR h 520 w = some wd) (hk : hK h wd = 10) {bl a b d : Nat} (hbl : hR h 512 w = some bl) (kb : hK h bl = 8) (ha : hI h 578 wd = nI a) (la : a < 16) (hb : hI h 579 wd = nI b) (lb : b < 16) (hd : hI h 577 wd = nI d) (ld : d < 16) (hv : hI h 588 wd = nI d) (o0 : ¬ hI h 576 wd = 0) (o1 : ¬ hI h 576 wd = 1) (o73 : ¬ hI h 576 wd = 73) (m : Int32) : f_Warp_act F w m h = some (oA h (fx (hA h) rg d 16 ln (bt m) (rgF (hI h 576 wd) (cn (bt (hA h pr (pn (nI a)) &&& m)) 32) (fun i => cV h w bl rg pr i (hI h 576 wd) (hI h 580 wd) a b)))) := by
  have W2 := W
  obtain ⟨⟨wk, wl, hl⟩, ⟨r1, k1, n1, m1⟩, ⟨r2, k2, n2, m2⟩, ⟨r3, k3, n3, m3⟩, ⟨r4, k4, n4⟩, ⟨r5, k5, n5⟩, d1, d2, d3, d4, d5, d6, d7, d8, d9, d10⟩ := W
  have p1 := pn_lt (nI a)
  generalize hk2 : cn (bt (hA h pr (pn (nI a)) &&& m)) 32 = k
  have st := iterF (fun n i => b_Warp_act_172 F n w m (hI h 576 wd) (nI k) (nI i) (oA h (fx (hA h) rg d 16 i (bt m) (rgF (hI h 576 wd) k (fun i => cV h w bl rg pr i (hI h 576 wd) (hI h 580 wd) a b))))) ln (fun i n hi => by
    have c : ¬ nI ln ≤ nI i := nI_ge hi (by omega)
    by_cases q : bt m i = true
    · have u := fx_y (g := hA h) (a := rg) (c := d) (k := 16) (n := i) (j := 16 * i + d) (Q := bt m) (f := rgF (hI h 576 wd) k (fun i => cV h w bl rg pr i (hI h 576 wd) (hI h 580 wd) a b)) (by decide) (by omega) q
      generalize eH : fx (hA h) rg d 16 i (bt m) (rgF (hI h 576 wd) k (fun i => cV h w bl rg pr i (hI h 576 wd) (hI h 580 wd) a b)) = g at *
      have W3 : Wp (oA h g) w rg pl ro pr ti ln := W2.same (qK_oA _ _) (qN_oA _ _) (fun f _ _ => by rw [qR_oA]) (by rw [qI_oA])
      have rr : ∀ r, r < 16 → g rg (16 * i + r) = hA h rg (16 * i + r) := fun r hr => by rw [← eH]; exact fx_c (fun j hj => by omega)
      have rp : ∀ j, g pr j = hA h pr j := fun j => by rw [← eH]; exact fx_o d4
      have cr := c_Warp_result (F := F) W3 hF (wd := wd) (bl := bl) (by rw [qR_oA]; exact hw) (by rw [qK_oA]; exact hk) (by rw [qR_oA]; exact hbl) (by rw [qK_oA]; exact kb) (by rw [qI_oA]; exact ha) la (by rw [qI_oA]; exact hb) lb hi
      have ev : cV (oA h g) w bl rg pr i (hI (oA h g) 576 wd) (hI (oA h g) 580 wd) a b = cV h w bl rg pr i (hI h 576 wd) (hI h 580 wd) a b := by
        unfold cV abV
        simp only [qI_oA, qA_oA, rr a la, rr b lb, rp]
      rw [ev] at cr
      have e216 : ∀ v, b_Warp_act_216 F (b_Warp_act_172 F n) w m (hI h 576 wd) (nI k) (nI i) w (nI i) (nI d) v (oA h g) = b_Warp_act_172 F n w m (hI h 576 wd) (nI k) (nI (i + 1)) (oA h (up2 g rg (16 * i + d) v)) := by
        intro v
        rw [b_Warp_act_216, gd_t (by rw [qK_oA]; exact wk), c_Warp_put W3 hF hi ld, clv_some, nI_1, sA_oA]
      rw [b_Warp_act_172]
      dsimp only
      rw [gd_t (by rw [qK_oA]; exact wk), qI_oA, wl, if_neg c, c_in m (show i < 32 by omega), cl_some, bI_ite, if_pos q, gd_t (by rw [qK_oA]; exact wk), rq_k (by rw [qR_oA]; exact hw) (by rw [qK_oA]; exact hk), qI_oA, hd, cr, cl_some, e216, e216]
      by_cases c72 : hI h 576 wd = 72
      · rw [if_pos c72]
        rw [show rgF (hI h 576 wd) k (fun i => cV h w bl rg pr i (hI h 576 wd) (hI h 580 wd) a b) i = nI k from if_pos c72] at u
        rw [u]
      · rw [if_neg c72]
        rw [show rgF (hI h 576 wd) k (fun i => cV h w bl rg pr i (hI h 576 wd) (hI h 580 wd) a b) i = cV h w bl rg pr i (hI h 576 wd) (hI h 580 wd) a b from if_neg c72] at u
        rw [u]
    · have u := fx_n (g := hA h) (a := rg) (c := d) (k := 16) (n := i) (Q := bt m) (f := rgF (hI h 576 wd) k (fun i => cV h w bl rg pr i (hI h 576 wd) (hI h 580 wd) a b)) (by simpa using q)
      rw [← u, b_Warp_act_172]
      dsimp only
      rw [gd_t (by rw [qK_oA]; exact wk), qI_oA, wl, if_neg c, c_in m (show i < 32 by omega), cl_some, bI_ite, if_neg q, nI_1]) (F := F) (by omega)
  have cL : nI ln ≤ nI ln := nI_le (Nat.le_refl _) (by omega)
  rw [nI_0, fx_0, oA_self] at st
  rw [f_Warp_act, gd_t wk, rq_k hw hk, if_neg o0, if_neg o1, if_neg o73, hv, if_pos (show nI d < (16 : Int32) from nI_lt (b := 16) ld (by decide)), if_neg (nI_m1 (by omega)), rq_k r4 k4, ha, pn_is, n4, ixn p1 (by decide), c_Integer_bitCount, cl_some, hk2, st, b_Warp_act_172]
  dsimp only
  rw [gd_t (by rw [qK_oA]; exact wk), qI_oA, wl, if_pos cL]
