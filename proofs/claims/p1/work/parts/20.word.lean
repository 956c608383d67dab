/-! a word, in the class and in the reference -/
def wOp (w : Int64) : Int32 := (Int64.toInt32 w) &&& 255
def wD (w : Int64) : Int32 := (Int64.toInt32 (w >>> (Int32.toInt64 8 &&& 63))) &&& 15
def wA (w : Int64) : Int32 := (Int64.toInt32 (w >>> (Int32.toInt64 12 &&& 63))) &&& 15
def wB (w : Int64) : Int32 := (Int64.toInt32 (w >>> (Int32.toInt64 16 &&& 63))) &&& 15
def wG (w : Int64) : Int32 := (Int64.toInt32 (w >>> (Int32.toInt64 20 &&& 63))) &&& 15
def wN (w : Int64) : Int32 := Int64.toInt32 (w >>> (Int32.toInt64 32 &&& 63))
def tk (k : Int32) : Int32 := (1 : Int32) <<< ((16 + (k &&& 3)) &&& 31)
def kWr (op d : Int32) : Int32 := if kWP op then 16 + (d &&& 3) else if kWD op then d else -1
def kPr (op a b n : Int32) : Int32 := if op = 21 then tk n else if op = 34 ∨ op = 35 then tk a ||| tk b else if op = 36 ∨ (¬ op < 70 ∧ ¬ 72 < op) then tk a else 0
def kWait (op : Int32) : Int32 := if op = 7 ∨ op = 8 then 8 else if op = 6 ∨ op = 17 ∨ op = 19 then 3 else if op < 70 then 1 else 2
def kGu (w : Int64) : Int32 := if wG w < 8 then -1 else wG w &&& 3
abbrev kWM (op : Int32) : Prop := op = 0 ∨ op = 1 ∨ kMem op
theorem c_Word_isKnown {F : Nat} {h : Hp} (op n : Int32) : f_Word_isKnown F op n h = some (bI (kKnown op n), h) := by
  by_cases c : op = 3
  · subst c
    simp only [f_Word_isKnown, b_Word_isKnown_39, b_Word_isKnown_51, b_Word_isKnown_63, b_Word_isKnown_75, pw, gd, rq_i, Bool.false_eq_true, eq_self, or_false, false_or, or_true, true_or, and_true, true_and, and_false, false_and, not_true_eq_false, not_false_eq_true, nu_none, nu_some, cl_some, clv_some, qK_sI, qK_sA, qK_sL, qR_sI, qR_sA, qR_sL, qN_sI, qN_sA, qN_sL, qK_oA, qR_oA, qN_oA, qI_oA, qI_sA, qI_sL, qL_sA, qL_sI, qL_oA, qA_sI, qA_sL, qA_oA, if_true, if_false, reduceIte, ixn, nI_add, nI_1, n_4, n_8, n_16, n_20, n_32, n_64, n_128, i_0]
    unfold bI kKnown
    have : ¬ (21 : Int32) < 3 := by decide
    have : ¬ ¬ (3 : Int32) < 30 := by decide
    have : ¬ ¬ (3 : Int32) < 40 := by decide
    have : ¬ ¬ (3 : Int32) < 50 := by decide
    have : ¬ ¬ (3 : Int32) < 70 := by decide
    grind
  · simp only [f_Word_isKnown, b_Word_isKnown_39, b_Word_isKnown_51, b_Word_isKnown_63, b_Word_isKnown_75, pw, gd, rq_i, Bool.false_eq_true, eq_self, or_false, false_or, or_true, true_or, and_true, true_and, and_false, false_and, not_true_eq_false, not_false_eq_true, nu_none, nu_some, cl_some, clv_some, qK_sI, qK_sA, qK_sL, qR_sI, qR_sA, qR_sL, qN_sI, qN_sA, qN_sL, qK_oA, qR_oA, qN_oA, qI_oA, qI_sA, qI_sL, qL_sA, qL_sI, qL_oA, qA_sI, qA_sL, qA_oA, if_true, if_false, reduceIte, ixn, nI_add, nI_1, n_4, n_8, n_16, n_20, n_32, n_64, n_128, i_0, c]
    unfold bI kKnown
    grind
theorem c_Word_readsA {F : Nat} {h : Hp} (op : Int32) : f_Word_readsA F op h = some (bI (kRA op), h) := by
  simp only [f_Word_readsA, b_Word_readsA_11, b_Word_readsA_23, b_Word_readsA_41, b_Word_readsA_47, pw, gd, rq_i, Bool.false_eq_true, eq_self, or_false, false_or, or_true, true_or, and_true, true_and, and_false, false_and, not_true_eq_false, not_false_eq_true, nu_none, nu_some, cl_some, clv_some, qK_sI, qK_sA, qK_sL, qR_sI, qR_sA, qR_sL, qN_sI, qN_sA, qN_sL, qK_oA, qR_oA, qN_oA, qI_oA, qI_sA, qI_sL, qL_sA, qL_sI, qL_oA, qA_sI, qA_sL, qA_oA, if_true, if_false, reduceIte, ixn, nI_add, nI_1, n_4, n_8, n_16, n_20, n_32, n_64, n_128, i_0]
  unfold bI
  grind
theorem c_Word_readsB {F : Nat} {h : Hp} (op : Int32) : f_Word_readsB F op h = some (bI (kRB op), h) := by
  simp only [f_Word_readsB, b_Word_readsB_11, b_Word_readsB_47, pw, gd, rq_i, Bool.false_eq_true, eq_self, or_false, false_or, or_true, true_or, and_true, true_and, and_false, false_and, not_true_eq_false, not_false_eq_true, nu_none, nu_some, cl_some, clv_some, qK_sI, qK_sA, qK_sL, qR_sI, qR_sA, qR_sL, qN_sI, qN_sA, qN_sL, qK_oA, qR_oA, qN_oA, qI_oA, qI_sA, qI_sL, qL_sA, qL_sI, qL_oA, qA_sI, qA_sL, qA_oA, if_true, if_false, reduceIte, ixn, nI_add, nI_1, n_4, n_8, n_16, n_20, n_32, n_64, n_128, i_0]
  unfold bI
  grind
theorem c_Word_tickOf {F : Nat} {h : Hp} (k : Int32) : f_Word_tickOf F k h = some (tk k, h) := rfl
theorem c_Word_waitOf {F : Nat} {h : Hp} (op : Int32) : f_Word_waitOf F op h = some (kWait op, h) := by
  simp only [f_Word_waitOf, kWait]
  grind
theorem c_Word_writtenBy {F : Nat} {h : Hp} (op d : Int32) : f_Word_writtenBy F op d h = some (kWr op d, h) := by
  simp only [f_Word_writtenBy, b_Word_writtenBy_12, b_Word_writtenBy_42, b_Word_writtenBy_72, b_Word_writtenBy_84, b_Word_writtenBy_89, pw, gd, rq_i, Bool.false_eq_true, eq_self, or_false, false_or, or_true, true_or, and_true, true_and, and_false, false_and, not_true_eq_false, not_false_eq_true, nu_none, nu_some, cl_some, clv_some, qK_sI, qK_sA, qK_sL, qR_sI, qR_sA, qR_sL, qN_sI, qN_sA, qN_sL, qK_oA, qR_oA, qN_oA, qI_oA, qI_sA, qI_sL, qL_sA, qL_sI, qL_oA, qA_sI, qA_sL, qA_oA, if_true, if_false, reduceIte, ixn, nI_add, nI_1, n_4, n_8, n_16, n_20, n_32, n_64, n_128, i_0, kWr]
  grind (splits := 60)
theorem c_Word_predicatesReadBy {F : Nat} {h : Hp} (op a b n : Int32) : f_Word_predicatesReadBy F op a b n h = some (kPr op a b n, h) := by
  simp only [f_Word_predicatesReadBy, b_Word_predicatesReadBy_23, b_Word_predicatesReadBy_51, c_Word_tickOf, pw, gd, rq_i, Bool.false_eq_true, eq_self, or_false, false_or, or_true, true_or, and_true, true_and, and_false, false_and, not_true_eq_false, not_false_eq_true, nu_none, nu_some, cl_some, clv_some, qK_sI, qK_sA, qK_sL, qR_sI, qR_sA, qR_sL, qN_sI, qN_sA, qN_sL, qK_oA, qR_oA, qN_oA, qI_oA, qI_sA, qI_sL, qL_sA, qL_sI, qL_oA, qA_sI, qA_sL, qA_oA, if_true, if_false, reduceIte, ixn, nI_add, nI_1, n_4, n_8, n_16, n_20, n_32, n_64, n_128, i_0, kPr]
  grind
theorem t_op (w : Int64) : Int64.toInt32 (w &&& 255) = wOp w := by unfold wOp; rw [Int64.toInt32_and]; rfl
theorem t_15 (v : Int64) : Int64.toInt32 (v &&& 15) = (Int64.toInt32 v) &&& 15 := by rw [Int64.toInt32_and]; rfl
def rTake (h : Hp) (m : Nat) (w : Int64) : Hp := sI (sI (sI (sI (sI (sI h 756 m (wOp w)) 757 m (wD w)) 758 m (wA w)) 759 m (wB w)) 760 m (wG w)) 761 m (wN w)
theorem c_Mod_take {F : Nat} {h : Hp} {m : Nat} (k : hK h m = 12) (w : Int64) : f_Mod_take F m w h = some (rTake h m w) := by
  simp only [f_Mod_take, pw, gd, rq_i, Bool.false_eq_true, eq_self, or_false, false_or, or_true, true_or, and_true, true_and, and_false, false_and, not_true_eq_false, not_false_eq_true, nu_none, nu_some, cl_some, clv_some, qK_sI, qK_sA, qK_sL, qR_sI, qR_sA, qR_sL, qN_sI, qN_sA, qN_sL, qK_oA, qR_oA, qN_oA, qI_oA, qI_sA, qI_sL, qL_sA, qL_sI, qL_oA, qA_sI, qA_sL, qA_oA, if_true, if_false, reduceIte, ixn, nI_add, nI_1, n_4, n_8, n_16, n_20, n_32, n_64, n_128, i_0, k, t_op, t_15]
  rfl
/-! the class's word, block by block from its end -/
theorem ite_b {α β : Type} {c : Prop} [Decidable c] (f : α → β) (a b : α) : (if c then f a else f b) = f (if c then a else b) := by split <;> rfl
theorem wi_392 {F : Nat} {h : Hp} {x : Nat} {o s1 : Int32} (k : hK h x = 10) (eo : hI h 576 x = o) : b_Word_init_392 F x x s1 h = some (sI (sI h 589 x s1) 590 x (kWait o)) := by
  simp only [b_Word_init_392, pw, gd, rq_i, Bool.false_eq_true, eq_self, or_false, false_or, or_true, true_or, and_true, true_and, and_false, false_and, not_true_eq_false, not_false_eq_true, nu_none, nu_some, cl_some, clv_some, qK_sI, qK_sA, qK_sL, qR_sI, qR_sA, qR_sL, qN_sI, qN_sA, qN_sL, qK_oA, qR_oA, qN_oA, qI_oA, qI_sA, qI_sL, qL_sA, qL_sI, qL_oA, qA_sI, qA_sL, qA_oA, if_true, if_false, reduceIte, ixn, nI_add, nI_1, n_4, n_8, n_16, n_20, n_32, n_64, n_128, i_0, k, c_Word_waitOf, qI_sI, eo]
  simp
theorem wi_375 {F : Nat} {h : Hp} {x : Nat} {o s0 s1 q : Int32} (k : hK h x = 10) (eo : hI h 576 x = o) (eq : hI h 581 x = q) : b_Word_init_375 F x s0 s1 h = some (sI (sI h 589 x (if q = 0 then 0 else s0 ||| s1)) 590 x (kWait o)) := by
  simp only [b_Word_init_375, pw, gd, rq_i, Bool.false_eq_true, eq_self, or_false, false_or, or_true, true_or, and_true, true_and, and_false, false_and, not_true_eq_false, not_false_eq_true, nu_none, nu_some, cl_some, clv_some, qK_sI, qK_sA, qK_sL, qR_sI, qR_sA, qR_sL, qN_sI, qN_sA, qN_sL, qK_oA, qR_oA, qN_oA, qI_oA, qI_sA, qI_sL, qL_sA, qL_sI, qL_oA, qA_sI, qA_sL, qA_oA, if_true, if_false, reduceIte, ixn, nI_add, nI_1, n_4, n_8, n_16, n_20, n_32, n_64, n_128, i_0, k, eq, wi_392 k eo]
  split <;> rfl
theorem wi_351 {F : Nat} {h : Hp} {x : Nat} {o s0 s1 q g : Int32} (k : hK h x = 10) (eo : hI h 576 x = o) (eq : hI h 581 x = q) (eg : hI h 582 x = g) : b_Word_init_351 F x s0 s1 h = some (sI (sI h 589 x (if q = 0 then 0 else (s0 ||| s1) ||| (if g = -1 then 0 else tk g))) 590 x (kWait o)) := by
  simp only [b_Word_init_351, pw, gd, rq_i, Bool.false_eq_true, eq_self, or_false, false_or, or_true, true_or, and_true, true_and, and_false, false_and, not_true_eq_false, not_false_eq_true, nu_none, nu_some, cl_some, clv_some, qK_sI, qK_sA, qK_sL, qR_sI, qR_sA, qR_sL, qN_sI, qN_sA, qN_sL, qK_oA, qR_oA, qN_oA, qI_oA, qI_sA, qI_sL, qL_sA, qL_sI, qL_oA, qA_sI, qA_sL, qA_oA, if_true, if_false, reduceIte, ixn, nI_add, nI_1, n_4, n_8, n_16, n_20, n_32, n_64, n_128, i_0, k, eg, c_Word_tickOf, wi_375 k eo eq]
  split <;> rfl
theorem wi_328 {F : Nat} {h : Hp} {x : Nat} {o s0 s1 q g v : Int32} (k : hK h x = 10) (eo : hI h 576 x = o) (eq : hI h 581 x = q) (eg : hI h 582 x = g) (ev : hI h 588 x = v) : b_Word_init_328 F x s0 s1 h = some (sI (sI h 589 x (if q = 0 then 0 else ((s0 ||| s1) ||| (if v = -1 then 0 else (1 : Int32) <<< (v &&& 31))) ||| (if g = -1 then 0 else tk g))) 590 x (kWait o)) := by
  simp only [b_Word_init_328, pw, gd, rq_i, Bool.false_eq_true, eq_self, or_false, false_or, or_true, true_or, and_true, true_and, and_false, false_and, not_true_eq_false, not_false_eq_true, nu_none, nu_some, cl_some, clv_some, qK_sI, qK_sA, qK_sL, qR_sI, qR_sA, qR_sL, qN_sI, qN_sA, qN_sL, qK_oA, qR_oA, qN_oA, qI_oA, qI_sA, qI_sL, qL_sA, qL_sI, qL_oA, qA_sI, qA_sL, qA_oA, if_true, if_false, reduceIte, ixn, nI_add, nI_1, n_4, n_8, n_16, n_20, n_32, n_64, n_128, i_0, k, ev, wi_351 k eo eq eg]
  split <;> rfl
theorem wi_303 {F : Nat} {h : Hp} {x : Nat} {o s0 s1 q g v b : Int32} (k : hK h x = 10) (eo : hI h 576 x = o) (eq : hI h 581 x = q) (eg : hI h 582 x = g) (ev : hI h 588 x = v) (eb : hI h 579 x = b) : b_Word_init_303 F x s0 s1 h = some (sI (sI h 589 x (if q = 0 then 0 else (((s0 ||| s1) ||| (if kRB o then (1 : Int32) <<< (b &&& 31) else 0)) ||| (if v = -1 then 0 else (1 : Int32) <<< (v &&& 31))) ||| (if g = -1 then 0 else tk g))) 590 x (kWait o)) := by
  simp only [b_Word_init_303, pw, gd, rq_i, Bool.false_eq_true, eq_self, or_false, false_or, or_true, true_or, and_true, true_and, and_false, false_and, not_true_eq_false, not_false_eq_true, nu_none, nu_some, cl_some, clv_some, qK_sI, qK_sA, qK_sL, qR_sI, qR_sA, qR_sL, qN_sI, qN_sA, qN_sL, qK_oA, qR_oA, qN_oA, qI_oA, qI_sA, qI_sL, qL_sA, qL_sI, qL_oA, qA_sI, qA_sL, qA_oA, if_true, if_false, reduceIte, ixn, nI_add, nI_1, n_4, n_8, n_16, n_20, n_32, n_64, n_128, i_0, k, eo, eb, c_Word_readsB, bI_ite, wi_328 k eo eq eg ev]
  split <;> rfl
/-- what a word needs -/
def kNd (o a b n v g q : Int32) : Int32 := if q = 0 then 0 else (((kPr o a b n ||| (if kRA o then (1 : Int32) <<< (a &&& 31) else 0)) ||| (if kRB o then (1 : Int32) <<< (b &&& 31) else 0)) ||| (if v = -1 then 0 else (1 : Int32) <<< (v &&& 31))) ||| (if g = -1 then 0 else tk g)
theorem wi_242 {F : Nat} {h : Hp} {x : Nat} {o d a b n q g s1 : Int32} (k : hK h x = 10) (eo : hI h 576 x = o) (ed : hI h 577 x = d) (ea : hI h 578 x = a) (eb : hI h 579 x = b) (en : hI h 580 x = n) (eq : hI h 581 x = q) (eg : hI h 582 x = g) (hs : s1 = 0 ∨ s1 = 1) :
    b_Word_init_242 F x x s1 h = some (sI (sI (sI (sI h 587 x s1) 588 x (kWr o d)) 589 x (kNd o a b n (kWr o d) g q)) 590 x (kWait o)) := by
  have k2 : hK (sI (sI h 587 x s1) 588 x (kWr o d)) x = 10 := k
  have r : ∀ s0 s2, b_Word_init_303 F x s0 s2 (sI (sI h 587 x s1) 588 x (kWr o d)) = _ := fun s0 s2 => wi_303 (o := o) (q := q) (g := g) (v := kWr o d) (b := b) k2 (by simp [qI_sI, eo]) (by simp [qI_sI, eq]) (by simp [qI_sI, eg]) (by simp [qI_sI]) (by simp [qI_sI, eb])
  simp only [b_Word_init_242, pw, gd, rq_i, Bool.false_eq_true, eq_self, or_false, false_or, or_true, true_or, and_true, true_and, and_false, false_and, not_true_eq_false, not_false_eq_true, nu_none, nu_some, cl_some, clv_some, qK_sI, qK_sA, qK_sL, qR_sI, qR_sA, qR_sL, qN_sI, qN_sA, qN_sL, qK_oA, qR_oA, qN_oA, qI_oA, qI_sA, qI_sL, qL_sA, qL_sI, qL_oA, qA_sI, qA_sL, qA_oA, if_true, if_false, reduceIte, ixn, nI_add, nI_1, n_4, n_8, n_16, n_20, n_32, n_64, n_128, i_0, qI_sI, Nat.reduceEqDiff, and_self, and_true, true_and, false_and, and_false, k, hs, eo, ed, ea, eb, en, c_Word_writtenBy, c_Word_predicatesReadBy, c_Word_readsA, bI_ite, r, kNd]
  split <;> rfl
theorem wi_211 {F : Nat} {h : Hp} {x : Nat} {o d a b n q g m s1 : Int32} (k : hK h x = 10) (eo : hI h 576 x = o) (ed : hI h 577 x = d) (ea : hI h 578 x = a) (eb : hI h 579 x = b) (en : hI h 580 x = n) (eq : hI h 581 x = q) (eg : hI h 582 x = g) (em : hI h 585 x = m) (hs : s1 = 0 ∨ s1 = 1) :
    b_Word_init_211 F x x s1 h = some (sI (sI (sI (sI (sI h 586 x s1) 587 x (bI (o = 0 ∨ o = 1 ∨ ¬ m = 0))) 588 x (kWr o d)) 589 x (kNd o a b n (kWr o d) g q)) 590 x (kWait o)) := by
  have k2 : hK (sI h 586 x s1) x = 10 := k
  have r : ∀ s2, (s2 = 0 ∨ s2 = 1) → b_Word_init_242 F x x s2 (sI h 586 x s1) = _ := fun s2 h2 => wi_242 (o := o) (d := d) (a := a) (b := b) (n := n) (q := q) (g := g) k2 (by simp [qI_sI, eo]) (by simp [qI_sI, ed]) (by simp [qI_sI, ea]) (by simp [qI_sI, eb]) (by simp [qI_sI, en]) (by simp [qI_sI, eq]) (by simp [qI_sI, eg]) h2
  simp only [b_Word_init_211, b_Word_init_237, pw, gd, rq_i, Bool.false_eq_true, eq_self, or_false, false_or, or_true, true_or, and_true, true_and, and_false, false_and, not_true_eq_false, not_false_eq_true, nu_none, nu_some, cl_some, clv_some, qK_sI, qK_sA, qK_sL, qR_sI, qR_sA, qR_sL, qN_sI, qN_sA, qN_sL, qK_oA, qR_oA, qN_oA, qI_oA, qI_sA, qI_sL, qL_sA, qL_sI, qL_oA, qA_sI, qA_sL, qA_oA, if_true, if_false, reduceIte, ixn, nI_add, nI_1, n_4, n_8, n_16, n_20, n_32, n_64, n_128, i_0, qI_sI, Nat.reduceEqDiff, and_self, and_true, true_and, false_and, and_false, k, hs, eo, em, r 0 (Or.inl rfl), r 1 (Or.inr rfl)]
  unfold bI
  grind
theorem wi_166 {F : Nat} {h : Hp} {x : Nat} {o d a b n q g s1 : Int32} (k : hK h x = 10) (eo : hI h 576 x = o) (ed : hI h 577 x = d) (ea : hI h 578 x = a) (eb : hI h 579 x = b) (en : hI h 580 x = n) (eq : hI h 581 x = q) (eg : hI h 582 x = g) (hs : s1 = 0 ∨ s1 = 1) :
    b_Word_init_166 F x x s1 h = some (sI (sI (sI (sI (sI (sI h 585 x s1) 586 x (bI (kSh o))) 587 x (bI (o = 0 ∨ o = 1 ∨ ¬ s1 = 0))) 588 x (kWr o d)) 589 x (kNd o a b n (kWr o d) g q)) 590 x (kWait o)) := by
  have k2 : hK (sI h 585 x s1) x = 10 := k
  have r : ∀ s2, (s2 = 0 ∨ s2 = 1) → b_Word_init_211 F x x s2 (sI h 585 x s1) = _ := fun s2 h2 => wi_211 (o := o) (d := d) (a := a) (b := b) (n := n) (q := q) (g := g) (m := s1) k2 (by simp [qI_sI, eo]) (by simp [qI_sI, ed]) (by simp [qI_sI, ea]) (by simp [qI_sI, eb]) (by simp [qI_sI, en]) (by simp [qI_sI, eq]) (by simp [qI_sI, eg]) (by simp [qI_sI]) h2
  simp only [b_Word_init_166, b_Word_init_206, pw, gd, rq_i, Bool.false_eq_true, eq_self, or_false, false_or, or_true, true_or, and_true, true_and, and_false, false_and, not_true_eq_false, not_false_eq_true, nu_none, nu_some, cl_some, clv_some, qK_sI, qK_sA, qK_sL, qR_sI, qR_sA, qR_sL, qN_sI, qN_sA, qN_sL, qK_oA, qR_oA, qN_oA, qI_oA, qI_sA, qI_sL, qL_sA, qL_sI, qL_oA, qA_sI, qA_sL, qA_oA, if_true, if_false, reduceIte, ixn, nI_add, nI_1, n_4, n_8, n_16, n_20, n_32, n_64, n_128, i_0, qI_sI, Nat.reduceEqDiff, and_self, and_true, true_and, false_and, and_false, k, hs, eo, r 0 (Or.inl rfl), r 1 (Or.inr rfl)]
  simp only [bI, kSh]
  grind
theorem wi_139 {F : Nat} {h : Hp} {x : Nat} {o d a b n q g s1 : Int32} (k : hK h x = 10) (eo : hI h 576 x = o) (ed : hI h 577 x = d) (ea : hI h 578 x = a) (eb : hI h 579 x = b) (en : hI h 580 x = n) (eq : hI h 581 x = q) (eg : hI h 582 x = g) (hs : s1 = 0 ∨ s1 = 1) :
    b_Word_init_139 F x x s1 h = some (sI (sI (sI (sI (sI (sI (sI h 584 x s1) 585 x (bI (kMem o))) 586 x (bI (kSh o))) 587 x (bI (kWM o))) 588 x (kWr o d)) 589 x (kNd o a b n (kWr o d) g q)) 590 x (kWait o)) := by
  have k2 : hK (sI h 584 x s1) x = 10 := k
  have r : ∀ s2, (s2 = 0 ∨ s2 = 1) → b_Word_init_166 F x x s2 (sI h 584 x s1) = _ := fun s2 h2 => wi_166 (o := o) (d := d) (a := a) (b := b) (n := n) (q := q) (g := g) k2 (by simp [qI_sI, eo]) (by simp [qI_sI, ed]) (by simp [qI_sI, ea]) (by simp [qI_sI, eb]) (by simp [qI_sI, en]) (by simp [qI_sI, eq]) (by simp [qI_sI, eg]) h2
  simp only [b_Word_init_139, b_Word_init_165, pw, gd, rq_i, Bool.false_eq_true, eq_self, or_false, false_or, or_true, true_or, and_true, true_and, and_false, false_and, not_true_eq_false, not_false_eq_true, nu_none, nu_some, cl_some, clv_some, qK_sI, qK_sA, qK_sL, qR_sI, qR_sA, qR_sL, qN_sI, qN_sA, qN_sL, qK_oA, qR_oA, qN_oA, qI_oA, qI_sA, qI_sL, qL_sA, qL_sI, qL_oA, qA_sI, qA_sL, qA_oA, if_true, if_false, reduceIte, ixn, nI_add, nI_1, n_4, n_8, n_16, n_20, n_32, n_64, n_128, i_0, qI_sI, Nat.reduceEqDiff, and_self, and_true, true_and, false_and, and_false, k, hs, eo, r 0 (Or.inl rfl), r 1 (Or.inr rfl)]
  simp only [bI, kMem, kWM]
  grind
theorem wi_97 {F : Nat} {h : Hp} {x : Nat} {o d a b n q g0 s1 : Int32} (k : hK h x = 10) (eo : hI h 576 x = o) (ed : hI h 577 x = d) (ea : hI h 578 x = a) (eb : hI h 579 x = b) (en : hI h 580 x = n) (eq : hI h 581 x = q) :
    b_Word_init_97 F x g0 x s1 h = some (sI (sI (sI (sI (sI (sI (sI (sI (sI h 582 x s1) 583 x (bI (¬ (g0 &&& 4) = 0))) 584 x (bI (o = 7 ∨ o = 8))) 585 x (bI (kMem o))) 586 x (bI (kSh o))) 587 x (bI (kWM o))) 588 x (kWr o d)) 589 x (kNd o a b n (kWr o d) s1 q)) 590 x (kWait o)) := by
  have r : ∀ s2 s3, (s3 = 0 ∨ s3 = 1) → b_Word_init_139 F x x s3 (sI (sI h 582 x s1) 583 x s2) = _ := fun s2 s3 h3 => wi_139 (h := sI (sI h 582 x s1) 583 x s2) (o := o) (d := d) (a := a) (b := b) (n := n) (q := q) (g := s1) k (by simp [qI_sI, eo]) (by simp [qI_sI, ed]) (by simp [qI_sI, ea]) (by simp [qI_sI, eb]) (by simp [qI_sI, en]) (by simp [qI_sI, eq]) (by simp [qI_sI]) h3
  have r2 : ∀ s2, (s2 = 0 ∨ s2 = 1) → b_Word_init_112 F x x s2 (sI h 582 x s1) = some (sI (sI (sI (sI (sI (sI (sI (sI (sI h 582 x s1) 583 x s2) 584 x (bI (o = 7 ∨ o = 8))) 585 x (bI (kMem o))) 586 x (bI (kSh o))) 587 x (bI (kWM o))) 588 x (kWr o d)) 589 x (kNd o a b n (kWr o d) s1 q)) 590 x (kWait o)) := by
    intro s2 h2
    simp only [b_Word_init_112, b_Word_init_134, pw, gd, rq_i, Bool.false_eq_true, eq_self, or_false, false_or, or_true, true_or, and_true, true_and, and_false, false_and, not_true_eq_false, not_false_eq_true, nu_none, nu_some, cl_some, clv_some, qK_sI, qK_sA, qK_sL, qR_sI, qR_sA, qR_sL, qN_sI, qN_sA, qN_sL, qK_oA, qR_oA, qN_oA, qI_oA, qI_sA, qI_sL, qL_sA, qL_sI, qL_oA, qA_sI, qA_sL, qA_oA, if_true, if_false, reduceIte, ixn, nI_add, nI_1, n_4, n_8, n_16, n_20, n_32, n_64, n_128, i_0, qI_sI, Nat.reduceEqDiff, and_self, and_true, true_and, false_and, and_false, k, h2, eo, r s2 0 (Or.inl rfl), r s2 1 (Or.inr rfl)]
    simp only [bI]
    grind
  simp only [b_Word_init_97, pw, gd, rq_i, Bool.false_eq_true, eq_self, or_false, false_or, or_true, true_or, and_true, true_and, and_false, false_and, not_true_eq_false, not_false_eq_true, nu_none, nu_some, cl_some, clv_some, qK_sI, qK_sA, qK_sL, qR_sI, qR_sA, qR_sL, qN_sI, qN_sA, qN_sL, qK_oA, qR_oA, qN_oA, qI_oA, qI_sA, qI_sL, qL_sA, qL_sI, qL_oA, qA_sI, qA_sL, qA_oA, if_true, if_false, reduceIte, ixn, nI_add, nI_1, n_4, n_8, n_16, n_20, n_32, n_64, n_128, i_0, qI_sI, Nat.reduceEqDiff, and_self, and_true, true_and, false_and, and_false, k, r2 0 (Or.inl rfl), r2 1 (Or.inr rfl)]
  simp only [bI]
  grind
/-- the cell of a word -/
def wSet (h : Hp) (x : Nat) (w : Int64) : Hp := sI (sI (sI (sI (sI (sI (sI (sI (sI (sI (sI (sI (sI (sI (sI h 576 x (wOp w)) 577 x (wD w)) 578 x (wA w)) 579 x (wB w)) 580 x (wN w)) 581 x (bI (kKnown (wOp w) (wN w)))) 582 x (kGu w)) 583 x (bI (¬ (wG w &&& 4) = 0))) 584 x (bI (wOp w = 7 ∨ wOp w = 8))) 585 x (bI (kMem (wOp w)))) 586 x (bI (kSh (wOp w)))) 587 x (bI (kWM (wOp w)))) 588 x (kWr (wOp w) (wD w))) 589 x (kNd (wOp w) (wA w) (wB w) (wN w) (kWr (wOp w) (wD w)) (kGu w) (bI (kKnown (wOp w) (wN w))))) 590 x (kWait (wOp w))
def wSix (h : Hp) (x : Nat) (o d a b n q : Int32) : Hp := sI (sI (sI (sI (sI (sI h 576 x o) 577 x d) 578 x a) 579 x b) 580 x n) 581 x q
theorem hK_wSix (h : Hp) (x : Nat) (o d a b n q : Int32) : hK (wSix h x o d a b n q) = hK h := by simp only [wSix, qK_sI]
theorem wSix_r (h : Hp) (x : Nat) (o d a b n q : Int32) : hI (wSix h x o d a b n q) 576 x = o ∧ hI (wSix h x o d a b n q) 577 x = d ∧ hI (wSix h x o d a b n q) 578 x = a ∧ hI (wSix h x o d a b n q) 579 x = b ∧ hI (wSix h x o d a b n q) 580 x = n ∧ hI (wSix h x o d a b n q) 581 x = q := by simp [wSix, qI_sI]
theorem wi_six {F : Nat} {h : Hp} {x : Nat} (k : hK h x = 10) (o d a b n q g0 s1 : Int32) : b_Word_init_97 F x g0 x s1 (wSix h x o d a b n q) = some (sI (sI (sI (sI (sI (sI (sI (sI (sI (wSix h x o d a b n q) 582 x s1) 583 x (bI (¬ (g0 &&& 4) = 0))) 584 x (bI (o = 7 ∨ o = 8))) 585 x (bI (kMem o))) 586 x (bI (kSh o))) 587 x (bI (kWM o))) 588 x (kWr o d)) 589 x (kNd o a b n (kWr o d) s1 q)) 590 x (kWait o)) := by
  obtain ⟨r1, r2, r3, r4, r5, r6⟩ := wSix_r h x o d a b n q
  exact wi_97 (by rw [hK_wSix]; exact k) r1 r2 r3 r4 r5 r6
theorem wi_start0 {F : Nat} {h : Hp} {x : Nat} (k : hK h x = 10) (v1 v2 v3 v4 v5 v6 : Int32) (w : Int64) (e1 : (Int64.toInt32 w) &&& 255 = v1) (e2 : (Int64.toInt32 (w >>> (Int32.toInt64 8 &&& 63))) &&& 15 = v2) (e3 : (Int64.toInt32 (w >>> (Int32.toInt64 12 &&& 63))) &&& 15 = v3) (e4 : (Int64.toInt32 (w >>> (Int32.toInt64 16 &&& 63))) &&& 15 = v4) (e5 : (Int64.toInt32 (w >>> (Int32.toInt64 20 &&& 63))) &&& 15 = v5) (e6 : Int64.toInt32 (w >>> (Int32.toInt64 32 &&& 63)) = v6) : f_Word_init F x w h = b_Word_init_97 F x v5 x (if v5 < 8 then -1 else v5 &&& 3) (wSix h x v1 v2 v3 v4 v6 (bI (kKnown v1 v6))) := by
  have b01 := bI_01 (kKnown v1 v6)
  unfold f_Word_init wSix
  rw [e1, e2, e3, e4, e5, e6]
  simp only [pw, gd, rq_i, Bool.false_eq_true, eq_self, or_false, false_or, or_true, true_or, and_true, true_and, and_false, false_and, not_true_eq_false, not_false_eq_true, nu_none, nu_some, cl_some, clv_some, qK_sI, qK_sA, qK_sL, qR_sI, qR_sA, qR_sL, qN_sI, qN_sA, qN_sL, qK_oA, qR_oA, qN_oA, qI_oA, qI_sA, qI_sL, qL_sA, qL_sI, qL_oA, qA_sI, qA_sL, qA_oA, if_true, if_false, reduceIte, ixn, nI_add, nI_1, n_4, n_8, n_16, n_20, n_32, n_64, n_128, i_0, qI_sI, Nat.reduceEqDiff, and_self, and_true, true_and, false_and, and_false, k, c_Word_isKnown, b01]
  by_cases c : v5 < 8
  · rw [if_pos c, if_pos c]
  · rw [if_neg c, if_neg c]
theorem c_Word_init {F : Nat} {h : Hp} {x : Nat} (k : hK h x = 10) (w : Int64) : f_Word_init F x w h = some (wSet h x w) := by
  have e := wi_start0 (F := F) k (wOp w) (wD w) (wA w) (wB w) (wG w) (wN w) w rfl rfl rfl rfl rfl rfl
  rw [e, wi_six k]
  unfold wSet wSix kGu
  exact rfl
