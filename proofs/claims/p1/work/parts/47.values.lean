/-! values: the class's and the reference's -/
theorem and1 (y : Int32) : (y &&& 1) = 1 ↔ bt y 0 = true := by
  have e : y &&& 1 = nI (y.toBitVec.toNat % 2) := pk_and y 1 (by decide)
  rw [e, show (1 : Int32) = nI 1 from rfl, nI_eq (by omega) (by decide)]
  unfold bt
  rw [BitVec.getLsbD, Nat.testBit_zero]
  simp
theorem b_sshr (n : Nat) (hn : n < 32) (x : Int32) : bt (x >>> (nI n &&& 31)) 0 = bt x n := by
  show (x.toBitVec.sshiftRight' ((nI n &&& 31).toBitVec.smod 32)).getLsbD 0 = _
  rw [BitVec.sshiftRight_eq', BitVec.getLsbD_sshiftRight, s_l n hn]
  simp [hn, bt]
theorem hs3_bt (pr p : Int32) : hs3 pr p ↔ bt pr (pn p) = true := by
  unfold hs3
  have := pn_lt p
  rw [and1, pn_is, b_sshr _ (by omega)]
theorem div_m1 (x : Int32) : x / (-1) = -x := by
  rw [← Int32.toInt_inj, Int32.toInt_div, show (-1 : Int32).toInt = -1 from by decide, Int.tdiv_neg, Int.tdiv_one, Int32.toInt_neg]
theorem and31 (y : Int32) : (y &&& 31) &&& 31 = y &&& 31 := by
  rw [Int32.and_assoc]
  rfl
theorem kv_sv {o x y n : Int32} {q : Prop} [Decidable q] (h1 : ¬ o < 4) (h2 : ¬ 17 < o) (hz : o = 7 ∨ o = 8 → ¬ y = 0) : kV o x y n q = sV o x y := by
  unfold kV sV
  by_cases c4 : o = 4
  · rw [if_pos c4, if_pos c4]
  rw [if_neg c4, if_neg c4]
  by_cases c5 : o = 5
  · rw [if_pos c5, if_pos c5]
  rw [if_neg c5, if_neg c5]
  by_cases c6 : o = 6
  · rw [if_pos c6, if_pos c6]
  rw [if_neg c6, if_neg c6]
  by_cases c7 : o = 7
  · rw [if_pos c7, if_pos c7, if_neg (hz (Or.inl c7))]
    by_cases e : y = -1
    · rw [if_pos e, e, div_m1]
    · rw [if_neg e]
  rw [if_neg c7, if_neg c7]
  by_cases c8 : o = 8
  · rw [if_pos c8, if_pos c8, if_neg (hz (Or.inr c8))]
    by_cases e : y = -1
    · rw [if_pos e, e, div_m1]
      have : -x * -1 = x := by rw [Int32.mul_neg, Int32.mul_one, Int32.neg_neg]
      rw [this, Int32.sub_self]
    · rw [if_neg e]
  rw [if_neg c8, if_neg c8]
  by_cases c9 : o = 9
  · rw [if_pos c9, if_pos c9]
  rw [if_neg c9, if_neg c9]
  by_cases c10 : o = 10
  · rw [if_pos c10, if_pos c10]
  rw [if_neg c10, if_neg c10]
  by_cases c11 : o = 11
  · rw [if_pos c11, if_pos c11]
  rw [if_neg c11, if_neg c11]
  by_cases c12 : o = 12
  · rw [if_pos c12, if_pos c12, and31]
  rw [if_neg c12, if_neg c12]
  by_cases c13 : o = 13
  · rw [if_pos c13, if_pos c13]
    unfold ushr
    congr 2
    show (y &&& 31).toUInt32 &&& Int32.toUInt32 31 = y.toUInt32 &&& Int32.toUInt32 31
    rw [Int32.toUInt32_and, UInt32.and_assoc]
    rfl
  rw [if_neg c13, if_neg c13]
  by_cases c14 : o = 14
  · rw [if_pos c14, if_pos c14, and31]
  rw [if_neg c14, if_neg c14]
  by_cases c15 : o = 15
  · rw [if_pos c15, if_pos c15]
    by_cases e : y < x
    · have : y ≤ x := by rw [Int32.lt_iff_toInt_lt] at e; rw [Int32.le_iff_toInt_le]; omega
      rw [if_pos e, if_pos this]
    · rw [if_neg e]
      by_cases e2 : y ≤ x
      · have : y = x := by rw [Int32.lt_iff_toInt_lt] at e; rw [Int32.le_iff_toInt_le] at e2; rw [← Int32.toInt_inj]; omega
        rw [if_pos e2, this]
      · rw [if_neg e2]
  rw [if_neg c15, if_neg c15]
  by_cases c16 : o = 16
  · rw [if_pos c16, if_pos c16]
    by_cases e : x < y
    · have : x ≤ y := by rw [Int32.lt_iff_toInt_lt] at e; rw [Int32.le_iff_toInt_le]; omega
      rw [if_pos e, if_pos this]
    · rw [if_neg e]
      by_cases e2 : x ≤ y
      · have : x = y := by rw [Int32.lt_iff_toInt_lt] at e; rw [Int32.le_iff_toInt_le] at e2; rw [← Int32.toInt_inj]; omega
        rw [if_pos e2, this]
      · rw [if_neg e2]
  rw [if_neg c16, if_neg c16]
  have c17 : o = 17 := by
    simp only [Int32.lt_iff_toInt_lt, ← Int32.toInt_inj] at *
    simp only [show (2 : Int32).toInt = 2 by decide, show (3 : Int32).toInt = 3 by decide, show (4 : Int32).toInt = 4 by decide, show (5 : Int32).toInt = 5 by decide, show (6 : Int32).toInt = 6 by decide, show (7 : Int32).toInt = 7 by decide, show (8 : Int32).toInt = 8 by decide, show (9 : Int32).toInt = 9 by decide, show (10 : Int32).toInt = 10 by decide, show (11 : Int32).toInt = 11 by decide, show (12 : Int32).toInt = 12 by decide, show (13 : Int32).toInt = 13 by decide, show (14 : Int32).toInt = 14 by decide, show (15 : Int32).toInt = 15 by decide, show (16 : Int32).toInt = 16 by decide, show (17 : Int32).toInt = 17 by decide, show (18 : Int32).toInt = 18 by decide, show (19 : Int32).toInt = 19 by decide, show (20 : Int32).toInt = 20 by decide, show (21 : Int32).toInt = 21 by decide, show (30 : Int32).toInt = 30 by decide, show (31 : Int32).toInt = 31 by decide, show (32 : Int32).toInt = 32 by decide, show (33 : Int32).toInt = 33 by decide, show (34 : Int32).toInt = 34 by decide, show (35 : Int32).toInt = 35 by decide, show (36 : Int32).toInt = 36 by decide, show (41 : Int32).toInt = 41 by decide, show (50 : Int32).toInt = 50 by decide, show (52 : Int32).toInt = 52 by decide, show (54 : Int32).toInt = 54 by decide, show (59 : Int32).toInt = 59 by decide, show (70 : Int32).toInt = 70 by decide, show (71 : Int32).toInt = 71 by decide, show (72 : Int32).toInt = 72 by decide, show (73 : Int32).toInt = 73 by decide] at *
    omega
  rw [if_pos c17]
theorem kv_o {o x y n : Int32} {q : Prop} [Decidable q] (h1 : 17 < o) (h2 : ¬ 21 < o) : kV o x y n q = if o = 18 then x + n else if o = 19 then x * n else if o = 20 then x &&& n else if q then x else y := by
  have : ¬ o = 4 ∧ ¬ o = 5 ∧ ¬ o = 6 ∧ ¬ o = 7 ∧ ¬ o = 8 ∧ ¬ o = 9 ∧ ¬ o = 10 ∧ ¬ o = 11 ∧ ¬ o = 12 ∧ ¬ o = 13 ∧ ¬ o = 14 ∧ ¬ o = 15 ∧ ¬ o = 16 ∧ ¬ o = 17 := by
    simp only [Int32.lt_iff_toInt_lt, ← Int32.toInt_inj] at *
    simp only [show (2 : Int32).toInt = 2 by decide, show (3 : Int32).toInt = 3 by decide, show (4 : Int32).toInt = 4 by decide, show (5 : Int32).toInt = 5 by decide, show (6 : Int32).toInt = 6 by decide, show (7 : Int32).toInt = 7 by decide, show (8 : Int32).toInt = 8 by decide, show (9 : Int32).toInt = 9 by decide, show (10 : Int32).toInt = 10 by decide, show (11 : Int32).toInt = 11 by decide, show (12 : Int32).toInt = 12 by decide, show (13 : Int32).toInt = 13 by decide, show (14 : Int32).toInt = 14 by decide, show (15 : Int32).toInt = 15 by decide, show (16 : Int32).toInt = 16 by decide, show (17 : Int32).toInt = 17 by decide, show (18 : Int32).toInt = 18 by decide, show (19 : Int32).toInt = 19 by decide, show (20 : Int32).toInt = 20 by decide, show (21 : Int32).toInt = 21 by decide, show (30 : Int32).toInt = 30 by decide, show (31 : Int32).toInt = 31 by decide, show (32 : Int32).toInt = 32 by decide, show (33 : Int32).toInt = 33 by decide, show (34 : Int32).toInt = 34 by decide, show (35 : Int32).toInt = 35 by decide, show (36 : Int32).toInt = 36 by decide, show (41 : Int32).toInt = 41 by decide, show (50 : Int32).toInt = 50 by decide, show (52 : Int32).toInt = 52 by decide, show (54 : Int32).toInt = 54 by decide, show (59 : Int32).toInt = 59 by decide, show (70 : Int32).toInt = 70 by decide, show (71 : Int32).toInt = 71 by decide, show (72 : Int32).toInt = 72 by decide, show (73 : Int32).toInt = 73 by decide] at *
    omega
  obtain ⟨c4, c5, c6, c7, c8, c9, c10, c11, c12, c13, c14, c15, c16, c17⟩ := this
  unfold kV
  rw [if_neg c4, if_neg c5, if_neg c6, if_neg c7, if_neg c8, if_neg c9, if_neg c10, if_neg c11, if_neg c12, if_neg c13, if_neg c14, if_neg c15, if_neg c16, if_neg c17]
/-- a register's new value is the same -/
theorem cv_lr {hc : Hp} {w bl rg pr i a b kk : Nat} {o n x y old tv ex vo prd : Int32} (kk0 : kKnown o n) (km : ¬ kMem o) (o0 : 0 ≤ o.toInt) (kd : kWD o) (n73 : ¬ o = 73) (ex1 : hA hc rg (16 * i + a) = x) (ey : hA hc rg (16 * i + b) = y) (etv : abV hc w bl i n = tv) (eold : hI hc 519 w = old) (evo : o = 72 → nI kk = vo) (eq : bt (hA hc pr (pn n)) i = true ↔ hs3 prd n) (hz : o = 7 ∨ o = 8 → ¬ y = 0) : lR o n x y old tv ex vo (hs3 prd n) = some (rgF o kk (fun i => cV hc w bl rg pr i o n a b) i) := by
  unfold lR rgF cV
  dsimp only
  by_cases c2 : o = 2
  · rw [if_pos c2, if_neg (by rw [c2]; decide), if_pos c2]
  rw [if_neg c2, if_neg c2]
  by_cases c3 : o = 3
  · rw [if_pos c3, if_neg (by rw [c3]; decide), if_pos c3, etv]
  rw [if_neg c3, if_neg c3]
  by_cases c41 : o = 41
  · rw [if_pos c41, if_neg (by rw [c41]; decide), if_neg (by rw [c41]; decide), if_neg (by rw [c41]; decide), if_neg (by rw [c41]; decide), if_neg (by rw [c41]; decide), if_pos c41, eold]
  rw [if_neg c41, if_neg c41]
  by_cases c72 : o = 72
  · rw [if_pos c72, if_pos c72, evo c72]
  rw [if_neg c72, if_neg c72, if_neg n73]
  have rg2 : ¬ o < 4 ∧ ¬ 21 < o := by
    unfold kWD at kd
    unfold kMem at km
    simp only [Int32.lt_iff_toInt_lt, Int32.le_iff_toInt_le, ← Int32.toInt_inj] at *
    simp only [show (2 : Int32).toInt = 2 by decide, show (3 : Int32).toInt = 3 by decide, show (4 : Int32).toInt = 4 by decide, show (5 : Int32).toInt = 5 by decide, show (6 : Int32).toInt = 6 by decide, show (7 : Int32).toInt = 7 by decide, show (8 : Int32).toInt = 8 by decide, show (9 : Int32).toInt = 9 by decide, show (10 : Int32).toInt = 10 by decide, show (11 : Int32).toInt = 11 by decide, show (12 : Int32).toInt = 12 by decide, show (13 : Int32).toInt = 13 by decide, show (14 : Int32).toInt = 14 by decide, show (15 : Int32).toInt = 15 by decide, show (16 : Int32).toInt = 16 by decide, show (17 : Int32).toInt = 17 by decide, show (18 : Int32).toInt = 18 by decide, show (19 : Int32).toInt = 19 by decide, show (20 : Int32).toInt = 20 by decide, show (21 : Int32).toInt = 21 by decide, show (30 : Int32).toInt = 30 by decide, show (31 : Int32).toInt = 31 by decide, show (32 : Int32).toInt = 32 by decide, show (33 : Int32).toInt = 33 by decide, show (34 : Int32).toInt = 34 by decide, show (35 : Int32).toInt = 35 by decide, show (36 : Int32).toInt = 36 by decide, show (41 : Int32).toInt = 41 by decide, show (50 : Int32).toInt = 50 by decide, show (52 : Int32).toInt = 52 by decide, show (54 : Int32).toInt = 54 by decide, show (59 : Int32).toInt = 59 by decide, show (70 : Int32).toInt = 70 by decide, show (71 : Int32).toInt = 71 by decide, show (72 : Int32).toInt = 72 by decide, show (73 : Int32).toInt = 73 by decide] at *
    omega
  rw [if_pos rg2, ex1, ey]
  by_cases c17 : 17 < o
  · rw [kv_o c17 rg2.2]
    have n1 : o = 18 ∨ o = 19 ∨ o = 20 ∨ o = 21 := by
      have r2 := rg2.2
      simp only [Int32.lt_iff_toInt_lt, ← Int32.toInt_inj] at *
      simp only [show (2 : Int32).toInt = 2 by decide, show (3 : Int32).toInt = 3 by decide, show (4 : Int32).toInt = 4 by decide, show (5 : Int32).toInt = 5 by decide, show (6 : Int32).toInt = 6 by decide, show (7 : Int32).toInt = 7 by decide, show (8 : Int32).toInt = 8 by decide, show (9 : Int32).toInt = 9 by decide, show (10 : Int32).toInt = 10 by decide, show (11 : Int32).toInt = 11 by decide, show (12 : Int32).toInt = 12 by decide, show (13 : Int32).toInt = 13 by decide, show (14 : Int32).toInt = 14 by decide, show (15 : Int32).toInt = 15 by decide, show (16 : Int32).toInt = 16 by decide, show (17 : Int32).toInt = 17 by decide, show (18 : Int32).toInt = 18 by decide, show (19 : Int32).toInt = 19 by decide, show (20 : Int32).toInt = 20 by decide, show (21 : Int32).toInt = 21 by decide, show (30 : Int32).toInt = 30 by decide, show (31 : Int32).toInt = 31 by decide, show (32 : Int32).toInt = 32 by decide, show (33 : Int32).toInt = 33 by decide, show (34 : Int32).toInt = 34 by decide, show (35 : Int32).toInt = 35 by decide, show (36 : Int32).toInt = 36 by decide, show (41 : Int32).toInt = 41 by decide, show (50 : Int32).toInt = 50 by decide, show (52 : Int32).toInt = 52 by decide, show (54 : Int32).toInt = 54 by decide, show (59 : Int32).toInt = 59 by decide, show (70 : Int32).toInt = 70 by decide, show (71 : Int32).toInt = 71 by decide, show (72 : Int32).toInt = 72 by decide, show (73 : Int32).toInt = 73 by decide] at *
      omega
    rcases n1 with z | z | z | z
    · rw [if_pos z, if_pos z]
    · rw [if_neg (by rw [z]; decide), if_pos z, if_neg (by rw [z]; decide), if_pos z]
    · rw [if_neg (by rw [z]; decide), if_neg (by rw [z]; decide), if_pos z, if_neg (by rw [z]; decide), if_neg (by rw [z]; decide), if_pos z]
    · have n18 : ¬ o = 18 := by rw [z]; decide
      have n19 : ¬ o = 19 := by rw [z]; decide
      have n20 : ¬ o = 20 := by rw [z]; decide
      rw [if_neg n18, if_neg n19, if_neg n20, if_neg n18, if_neg n19, if_neg n20, if_pos z]
      by_cases q : hs3 prd n
      · rw [if_pos q, if_pos (eq.mpr q)]
      · rw [if_neg q, if_neg (fun y => q (eq.mp y))]
  · have n1 : ¬ o = 18 ∧ ¬ o = 19 ∧ ¬ o = 20 ∧ ¬ o = 21 := by
      simp only [Int32.lt_iff_toInt_lt, ← Int32.toInt_inj] at c17 ⊢
      simp only [show (2 : Int32).toInt = 2 by decide, show (3 : Int32).toInt = 3 by decide, show (4 : Int32).toInt = 4 by decide, show (5 : Int32).toInt = 5 by decide, show (6 : Int32).toInt = 6 by decide, show (7 : Int32).toInt = 7 by decide, show (8 : Int32).toInt = 8 by decide, show (9 : Int32).toInt = 9 by decide, show (10 : Int32).toInt = 10 by decide, show (11 : Int32).toInt = 11 by decide, show (12 : Int32).toInt = 12 by decide, show (13 : Int32).toInt = 13 by decide, show (14 : Int32).toInt = 14 by decide, show (15 : Int32).toInt = 15 by decide, show (16 : Int32).toInt = 16 by decide, show (17 : Int32).toInt = 17 by decide, show (18 : Int32).toInt = 18 by decide, show (19 : Int32).toInt = 19 by decide, show (20 : Int32).toInt = 20 by decide, show (21 : Int32).toInt = 21 by decide, show (30 : Int32).toInt = 30 by decide, show (31 : Int32).toInt = 31 by decide, show (32 : Int32).toInt = 32 by decide, show (33 : Int32).toInt = 33 by decide, show (34 : Int32).toInt = 34 by decide, show (35 : Int32).toInt = 35 by decide, show (36 : Int32).toInt = 36 by decide, show (41 : Int32).toInt = 41 by decide, show (50 : Int32).toInt = 50 by decide, show (52 : Int32).toInt = 52 by decide, show (54 : Int32).toInt = 54 by decide, show (59 : Int32).toInt = 59 by decide, show (70 : Int32).toInt = 70 by decide, show (71 : Int32).toInt = 71 by decide, show (72 : Int32).toInt = 72 by decide, show (73 : Int32).toInt = 73 by decide] at c17 ⊢
      omega
    rw [if_neg n1.1, if_neg n1.2.1, if_neg n1.2.2.1, if_neg n1.2.2.2, kv_sv rg2.1 c17 hz]
theorem lr_none {o n x y old tv ex vo : Int32} {q : Prop} [Decidable q] (h : ¬ kWD o) : lR o n x y old tv ex vo q = none := by
  have : ¬ o = 2 ∧ ¬ o = 3 ∧ ¬ o = 41 ∧ ¬ o = 72 ∧ ¬ o = 73 ∧ ¬ (¬ o < 4 ∧ ¬ 21 < o) := by
    unfold kWD at h
    simp only [Int32.lt_iff_toInt_lt, Int32.le_iff_toInt_le, ← Int32.toInt_inj] at *
    simp only [show (2 : Int32).toInt = 2 by decide, show (3 : Int32).toInt = 3 by decide, show (4 : Int32).toInt = 4 by decide, show (5 : Int32).toInt = 5 by decide, show (6 : Int32).toInt = 6 by decide, show (7 : Int32).toInt = 7 by decide, show (8 : Int32).toInt = 8 by decide, show (9 : Int32).toInt = 9 by decide, show (10 : Int32).toInt = 10 by decide, show (11 : Int32).toInt = 11 by decide, show (12 : Int32).toInt = 12 by decide, show (13 : Int32).toInt = 13 by decide, show (14 : Int32).toInt = 14 by decide, show (15 : Int32).toInt = 15 by decide, show (16 : Int32).toInt = 16 by decide, show (17 : Int32).toInt = 17 by decide, show (18 : Int32).toInt = 18 by decide, show (19 : Int32).toInt = 19 by decide, show (20 : Int32).toInt = 20 by decide, show (21 : Int32).toInt = 21 by decide, show (30 : Int32).toInt = 30 by decide, show (31 : Int32).toInt = 31 by decide, show (32 : Int32).toInt = 32 by decide, show (33 : Int32).toInt = 33 by decide, show (34 : Int32).toInt = 34 by decide, show (35 : Int32).toInt = 35 by decide, show (36 : Int32).toInt = 36 by decide, show (41 : Int32).toInt = 41 by decide, show (50 : Int32).toInt = 50 by decide, show (52 : Int32).toInt = 52 by decide, show (54 : Int32).toInt = 54 by decide, show (59 : Int32).toInt = 59 by decide, show (70 : Int32).toInt = 70 by decide, show (71 : Int32).toInt = 71 by decide, show (72 : Int32).toInt = 72 by decide, show (73 : Int32).toInt = 73 by decide] at *
    omega
  obtain ⟨c1, c2, c3, c4, c5, c6⟩ := this
  unfold lR
  rw [if_neg c1, if_neg c2, if_neg c3, if_neg c4, if_neg c5, if_neg c6]
/-- a predicate's truth is the same -/
theorem tr_lt {o n x y vo : Int32} {A B : Nat → Bool} {P : Nat → Bool} {any all : Prop} [Decidable any] [Decidable all] {i : Nat} {pa pb : Prop} [Decidable pa] [Decidable pb] (kp : kWP o) (eP : P i = if o = 30 then decide (x < y) else if o = 32 then decide (x < n) else if o < 32 then decide (x = y) else decide (x = n)) (eA : A i = true ↔ pa) (eB : B i = true ↔ pb) (v70 : o = 70 → (vo = 1 ↔ any)) (v71 : o = 71 → (vo = 1 ↔ all)) : trB o A B P any all i = decide (lT o n x y vo pa pb) := by
  have cs : o = 30 ∨ o = 31 ∨ o = 32 ∨ o = 33 ∨ o = 34 ∨ o = 35 ∨ o = 36 ∨ o = 70 ∨ o = 71 := by
    unfold kWP at kp
    simp only [Int32.lt_iff_toInt_lt, Int32.le_iff_toInt_le, ← Int32.toInt_inj] at kp ⊢
    simp only [show (2 : Int32).toInt = 2 by decide, show (3 : Int32).toInt = 3 by decide, show (4 : Int32).toInt = 4 by decide, show (5 : Int32).toInt = 5 by decide, show (6 : Int32).toInt = 6 by decide, show (7 : Int32).toInt = 7 by decide, show (8 : Int32).toInt = 8 by decide, show (9 : Int32).toInt = 9 by decide, show (10 : Int32).toInt = 10 by decide, show (11 : Int32).toInt = 11 by decide, show (12 : Int32).toInt = 12 by decide, show (13 : Int32).toInt = 13 by decide, show (14 : Int32).toInt = 14 by decide, show (15 : Int32).toInt = 15 by decide, show (16 : Int32).toInt = 16 by decide, show (17 : Int32).toInt = 17 by decide, show (18 : Int32).toInt = 18 by decide, show (19 : Int32).toInt = 19 by decide, show (20 : Int32).toInt = 20 by decide, show (21 : Int32).toInt = 21 by decide, show (30 : Int32).toInt = 30 by decide, show (31 : Int32).toInt = 31 by decide, show (32 : Int32).toInt = 32 by decide, show (33 : Int32).toInt = 33 by decide, show (34 : Int32).toInt = 34 by decide, show (35 : Int32).toInt = 35 by decide, show (36 : Int32).toInt = 36 by decide, show (41 : Int32).toInt = 41 by decide, show (50 : Int32).toInt = 50 by decide, show (52 : Int32).toInt = 52 by decide, show (54 : Int32).toInt = 54 by decide, show (59 : Int32).toInt = 59 by decide, show (70 : Int32).toInt = 70 by decide, show (71 : Int32).toInt = 71 by decide, show (72 : Int32).toInt = 72 by decide, show (73 : Int32).toInt = 73 by decide] at kp ⊢
    omega
  unfold trB lT
  rcases cs with z | z | z | z | z | z | z | z | z
  · subst z
    rw [if_neg (by decide), if_neg (by decide), if_neg (by decide), if_neg (by decide), if_neg (by decide), eP, if_pos rfl]
    simp only [if_true]
    exact decide_eq_decide.mpr Int32.not_le.symm
  · subst z
    rw [if_neg (by decide), if_neg (by decide), if_neg (by decide), if_neg (by decide), if_neg (by decide), eP, if_neg (by decide), if_neg (by decide), if_pos (by decide)]
    simp (decide := true) only [if_true, if_false]
  · subst z
    rw [if_neg (by decide), if_neg (by decide), if_neg (by decide), if_neg (by decide), if_neg (by decide), eP, if_neg (by decide), if_pos rfl]
    simp (decide := true) only [if_true, if_false]
    exact decide_eq_decide.mpr Int32.not_le.symm
  · subst z
    rw [if_neg (by decide), if_neg (by decide), if_neg (by decide), if_neg (by decide), if_neg (by decide), eP, if_neg (by decide), if_neg (by decide), if_neg (by decide)]
    simp (decide := true) only [if_true, if_false]
  · subst z
    rw [if_pos rfl]
    simp (decide := true) only [if_true, if_false]
    by_cases h1 : A i = true <;> by_cases h2 : B i = true
    · rw [h1, h2]; exact (decide_eq_true ⟨eA.mp h1, eB.mp h2⟩).symm
    · rw [h1, Bool.true_and, decide_eq_false (fun z => h2 (eB.mpr z.2))]; simpa using h2
    · rw [decide_eq_false (fun z => h1 (eA.mpr z.1))]; simp [h1]
    · rw [decide_eq_false (fun z => h1 (eA.mpr z.1))]; simp [h1]
  · subst z
    rw [if_neg (by decide), if_pos rfl]
    simp (decide := true) only [if_true, if_false]
    by_cases h1 : A i = true
    · rw [h1, Bool.true_or]; exact (decide_eq_true (Or.inl (eA.mp h1))).symm
    · by_cases h2 : B i = true
      · rw [h2, Bool.or_true]; exact (decide_eq_true (Or.inr (eB.mp h2))).symm
      · rw [decide_eq_false (fun z => z.elim (fun y => h1 (eA.mpr y)) (fun y => h2 (eB.mpr y)))]; simp [h1, h2]
  · subst z
    rw [if_neg (by decide), if_neg (by decide), if_pos rfl]
    simp (decide := true) only [if_true, if_false]
    by_cases h1 : A i = true
    · rw [h1, decide_eq_false (fun z => z (eA.mp h1))]; rfl
    · rw [decide_eq_true (show ¬ pa from fun z => h1 (eA.mpr z))]; simp [h1]
  · subst z
    rw [if_neg (by decide), if_neg (by decide), if_neg (by decide), if_pos rfl]
    simp (decide := true) only [if_true, if_false]
    exact decide_eq_decide.mpr (v70 rfl).symm
  · subst z
    rw [if_neg (by decide), if_neg (by decide), if_neg (by decide), if_neg (by decide), if_pos rfl]
    simp (decide := true) only [if_true, if_false]
    exact decide_eq_decide.mpr (v71 rfl).symm
/-- a predicate's bit -/
theorem bt_pr {pr : Int32} {d p : Nat} {c : Prop} [Decidable c] (hp : p < 4) : bt (if c then pr ||| ((1 : Int32) <<< (nI (pn (nI d)) &&& 31)) else pr &&& (((1 : Int32) <<< (nI (pn (nI d)) &&& 31)) ^^^ -1)) p = if p = pn (nI d) then decide c else bt pr p := by
  have l := pn_lt (nI d)
  by_cases h : c
  · rw [if_pos h, b_or, bt_one (by omega) (by omega), decide_eq_true h]
    by_cases z : p = pn (nI d)
    · rw [if_pos z, decide_eq_true z, Bool.or_true]
    · rw [if_neg z, decide_eq_false z, Bool.or_false]
  · rw [if_neg h, b_and, bt_not _ (by omega), bt_one (by omega) (by omega), decide_eq_false h]
    by_cases z : p = pn (nI d)
    · rw [if_pos z, decide_eq_true z]; simp
    · rw [if_neg z, decide_eq_false z]; simp
