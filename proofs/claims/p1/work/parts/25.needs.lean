/-! what a word needs, in the class and in the reference -/
def nD (w : Int64) : Nat := (Int64.toInt32 (w >>> (Int32.toInt64 8 &&& 63))).toBitVec.toNat % 16
def nA (w : Int64) : Nat := (Int64.toInt32 (w >>> (Int32.toInt64 12 &&& 63))).toBitVec.toNat % 16
def nB (w : Int64) : Nat := (Int64.toInt32 (w >>> (Int32.toInt64 16 &&& 63))).toBitVec.toNat % 16
def nG (w : Int64) : Nat := (Int64.toInt32 (w >>> (Int32.toInt64 20 &&& 63))).toBitVec.toNat % 16
def nO (w : Int64) : Nat := (Int64.toInt32 w).toBitVec.toNat % 256
theorem nD_is (w : Int64) : wD w = nI (nD w) := pk_and _ 4 (by decide)
theorem nA_is (w : Int64) : wA w = nI (nA w) := pk_and _ 4 (by decide)
theorem nB_is (w : Int64) : wB w = nI (nB w) := pk_and _ 4 (by decide)
theorem nG_is (w : Int64) : wG w = nI (nG w) := pk_and _ 4 (by decide)
theorem nO_is (w : Int64) : wOp w = nI (nO w) := pk_and _ 8 (by decide)
theorem nD_lt (w : Int64) : nD w < 16 := Nat.mod_lt _ (by decide)
theorem nA_lt (w : Int64) : nA w < 16 := Nat.mod_lt _ (by decide)
theorem nB_lt (w : Int64) : nB w < 16 := Nat.mod_lt _ (by decide)
theorem nG_lt (w : Int64) : nG w < 16 := Nat.mod_lt _ (by decide)
theorem nO_lt (w : Int64) : nO w < 256 := Nat.mod_lt _ (by decide)
theorem bt_one {j k : Nat} (hj : j < 32) (hk : k < 32) : bt ((1 : Int32) <<< (nI j &&& 31)) k = decide (k = j) := by
  rw [b_shl j hj 1 hk, b_1]
  by_cases e : k = j
  · subst e; simp
  · simp [e]; omega
theorem tk_is (p : Int32) : tk p = (1 : Int32) <<< (nI (16 + pn p) &&& 31) := by
  unfold tk
  rw [pn_is, show (16 : Int32) + nI (pn p) = nI (16 + pn p) from nI_add 16 (pn p)]
theorem bt_tk (p : Int32) {k : Nat} (hk : k < 32) : bt (tk p) k = decide (k = 16 + pn p) := by
  have := pn_lt p
  rw [tk_is, bt_one (by omega) hk]
theorem bt_ite {c : Prop} [Decidable c] {x : Int32} {k : Nat} : bt (if c then x else 0) k = (decide c && bt x k) := by
  split
  · simp [*]
  · simp [*, b_0]
theorem bt_ite' {c : Prop} [Decidable c] {x : Int32} {k : Nat} : bt (if c then 0 else x) k = (decide (¬ c) && bt x k) := by
  split
  · simp [*, b_0]
  · simp [*]
theorem wWD (o : Int32) : kWP o → ¬ kWD o := by
  unfold kWP kWD
  simp only [Int32.lt_iff_toInt_lt, Int32.le_iff_toInt_le, ← Int32.toInt_inj]
  simp only [show (2 : Int32).toInt = 2 by decide, show (21 : Int32).toInt = 21 by decide, show (30 : Int32).toInt = 30 by decide, show (36 : Int32).toInt = 36 by decide, show (70 : Int32).toInt = 70 by decide, show (71 : Int32).toInt = 71 by decide, show (41 : Int32).toInt = 41 by decide, show (50 : Int32).toInt = 50 by decide, show (52 : Int32).toInt = 52 by decide, show (54 : Int32).toInt = 54 by decide, show (59 : Int32).toInt = 59 by decide, show (72 : Int32).toInt = 72 by decide, show (73 : Int32).toInt = 73 by decide]
  omega
theorem w57 : kWD 57 := by unfold kWD; decide
theorem pn_and (g : Int32) : pn (g &&& 3) = pn g := by
  have h := pn_lt g
  unfold pn
  rw [pn_is, pk_tn (by omega)]
  unfold pn
  omega
/-- all that a word waits for but memories and the divider -/
def kAll (w : Int64) (T : Nat → Prop) : Prop := (wG w < 8 ∨ T (16 + pn (wG w))) ∧ (¬ kRA (wOp w) ∨ T (nA w)) ∧ (¬ kRB (wOp w) ∨ T (nB w)) ∧ (¬ (kWD (wOp w) ∨ wOp w = 57) ∨ T (nD w)) ∧ (¬ wOp w = 21 ∨ T (16 + pn (wN w))) ∧ (¬ (wOp w = 34 ∨ wOp w = 35) ∨ (T (16 + pn (wA w)) ∧ T (16 + pn (wB w)))) ∧ (¬ (wOp w = 36 ∨ wOp w = 70 ∨ wOp w = 71 ∨ wOp w = 72) ∨ T (16 + pn (wA w))) ∧ (¬ kWP (wOp w) ∨ T (16 + pn (wD w)))
theorem op70 (o : Int32) : (o = 36 ∨ (¬ o < 70 ∧ ¬ 72 < o)) ↔ (o = 36 ∨ o = 70 ∨ o = 71 ∨ o = 72) := by
  simp only [Int32.lt_iff_toInt_lt, ← Int32.toInt_inj]
  simp only [show (36 : Int32).toInt = 36 by decide, show (70 : Int32).toInt = 70 by decide, show (71 : Int32).toInt = 71 by decide, show (72 : Int32).toInt = 72 by decide]
  omega
theorem need_iff (w : Int64) (T : Nat → Prop) : (∀ k, k < 20 → bt (kNd (wOp w) (wA w) (wB w) (wN w) (kWr (wOp w) (wD w)) (kGu w) 1) k = true → T k) ↔ kAll w T := by
  have hA := nA_lt w
  have hB := nB_lt w
  have hD := nD_lt w
  have p1 := pn_lt (wA w)
  have p2 := pn_lt (wB w)
  have p3 := pn_lt (wN w)
  have p4 := pn_lt (wD w)
  have p5 := pn_lt (wG w)
  have ev : ∀ k, k < 20 → bt (if kWr (wOp w) (wD w) = -1 then 0 else (1 : Int32) <<< (kWr (wOp w) (wD w) &&& 31)) k = ((decide (kWP (wOp w)) && decide (k = 16 + pn (wD w))) || (decide (kWD (wOp w)) && decide (k = nD w))) := by
    intro k hk
    unfold kWr
    by_cases c1 : kWP (wOp w)
    · have c2 := wWD _ c1
      rw [if_pos c1, pn_is, show (16 : Int32) + nI (pn (wD w)) = nI (16 + pn (wD w)) from nI_add 16 _, if_neg (nI_m1 (by omega)), bt_one (by omega) (by omega)]
      simp [c1, c2]
    · rw [if_neg c1]
      by_cases c2 : kWD (wOp w)
      · rw [if_pos c2, nD_is, if_neg (nI_m1 (by omega)), bt_one (by omega) (by omega)]
        simp [c1, c2]
      · rw [if_neg c2, if_pos rfl, b_0]
        simp [c1, c2]
  have eg : ∀ k, k < 20 → bt (if kGu w = -1 then 0 else tk (kGu w)) k = (decide (¬ wG w < 8) && decide (k = 16 + pn (wG w))) := by
    intro k hk
    unfold kGu
    by_cases c1 : wG w < 8
    · rw [if_pos c1, if_pos rfl, b_0]; simp [c1]
    · rw [if_neg c1]
      have : ¬ (wG w &&& 3) = -1 := by rw [pn_is]; exact nI_m1 (by omega)
      rw [if_neg this, bt_tk _ (by omega), pn_and]
      simp [c1]
  have ep : ∀ k, k < 20 → bt (kPr (wOp w) (wA w) (wB w) (wN w)) k = ((decide (wOp w = 21) && decide (k = 16 + pn (wN w))) || (decide (wOp w = 34 ∨ wOp w = 35) && (decide (k = 16 + pn (wA w)) || decide (k = 16 + pn (wB w)))) || (decide (wOp w = 36 ∨ wOp w = 70 ∨ wOp w = 71 ∨ wOp w = 72) && decide (k = 16 + pn (wA w)))) := by
    intro k hk
    unfold kPr
    by_cases c1 : wOp w = 21
    · rw [if_pos c1, bt_tk _ (by omega)]
      have n1 : ¬ (wOp w = 34 ∨ wOp w = 35) := by rw [c1]; decide
      have n2 : ¬ (wOp w = 36 ∨ wOp w = 70 ∨ wOp w = 71 ∨ wOp w = 72) := by rw [c1]; decide
      simp only [c1, n1, n2, decide_true, decide_false, Bool.true_and, Bool.false_and, Bool.or_false]
      simp
    · rw [if_neg c1]
      by_cases c2 : wOp w = 34 ∨ wOp w = 35
      · rw [if_pos c2, b_or, bt_tk _ (by omega), bt_tk _ (by omega)]
        have n2 : ¬ (wOp w = 36 ∨ wOp w = 70 ∨ wOp w = 71 ∨ wOp w = 72) := by rcases c2 with c | c <;> rw [c] <;> decide
        simp only [c1, c2, n2, decide_true, decide_false, Bool.true_and, Bool.false_and, Bool.or_false, Bool.false_or]
      · rw [if_neg c2]
        simp only [op70]
        rw [bt_ite, bt_tk _ (by omega)]
        simp only [c1, c2, decide_false, Bool.false_and, Bool.false_or]
  have ea : ∀ k, k < 20 → bt (if kRA (wOp w) then (1 : Int32) <<< (wA w &&& 31) else 0) k = (decide (kRA (wOp w)) && decide (k = nA w)) := by
    intro k hk
    rw [bt_ite, nA_is, bt_one (by omega) (by omega)]
  have eb : ∀ k, k < 20 → bt (if kRB (wOp w) then (1 : Int32) <<< (wB w &&& 31) else 0) k = (decide (kRB (wOp w)) && decide (k = nB w)) := by
    intro k hk
    rw [bt_ite, nB_is, bt_one (by omega) (by omega)]
  have all : ∀ k, k < 20 → (bt (kNd (wOp w) (wA w) (wB w) (wN w) (kWr (wOp w) (wD w)) (kGu w) 1) k = true ↔ ((((wOp w = 21 ∧ k = 16 + pn (wN w)) ∨ ((wOp w = 34 ∨ wOp w = 35) ∧ (k = 16 + pn (wA w) ∨ k = 16 + pn (wB w)))) ∨ ((wOp w = 36 ∨ wOp w = 70 ∨ wOp w = 71 ∨ wOp w = 72) ∧ k = 16 + pn (wA w))) ∨ (kRA (wOp w) ∧ k = nA w) ∨ (kRB (wOp w) ∧ k = nB w) ∨ ((kWP (wOp w) ∧ k = 16 + pn (wD w)) ∨ (kWD (wOp w) ∧ k = nD w)) ∨ (¬ wG w < 8 ∧ k = 16 + pn (wG w)))) := by
    intro k hk
    unfold kNd
    rw [if_neg (by decide), b_or, b_or, b_or, b_or, ep k hk, ea k hk, eb k hk, ev k hk, eg k hk]
    simp only [Bool.or_eq_true, Bool.and_eq_true, decide_eq_true_eq]
    simp only [or_assoc]
  have t57 : wOp w = 57 → kWD (wOp w) := fun e => by rw [e]; exact w57
  unfold kAll
  constructor
  · intro H
    have G : ∀ k, k < 20 → _ → T k := fun k hk z => H k hk ((all k hk).mpr z)
    refine ⟨?_, ?_, ?_, ?_, ?_, ?_, ?_, ?_⟩
    · by_cases c : wG w < 8
      · exact Or.inl c
      · exact Or.inr (G _ (by omega) (Or.inr (Or.inr (Or.inr (Or.inr ⟨c, rfl⟩)))))
    · by_cases c : kRA (wOp w)
      · exact Or.inr (G _ (by omega) (Or.inr (Or.inl ⟨c, rfl⟩)))
      · exact Or.inl c
    · by_cases c : kRB (wOp w)
      · exact Or.inr (G _ (by omega) (Or.inr (Or.inr (Or.inl ⟨c, rfl⟩))))
      · exact Or.inl c
    · by_cases c : kWD (wOp w)
      · exact Or.inr (G _ (by omega) (Or.inr (Or.inr (Or.inr (Or.inl (Or.inr ⟨c, rfl⟩))))))
      · exact Or.inl (fun z => z.elim c (fun e => c (t57 e)))
    · by_cases c : wOp w = 21
      · exact Or.inr (G _ (by omega) (Or.inl (Or.inl (Or.inl ⟨c, rfl⟩))))
      · exact Or.inl c
    · by_cases c : wOp w = 34 ∨ wOp w = 35
      · exact Or.inr ⟨G _ (by omega) (Or.inl (Or.inl (Or.inr ⟨c, Or.inl rfl⟩))), G _ (by omega) (Or.inl (Or.inl (Or.inr ⟨c, Or.inr rfl⟩)))⟩
      · exact Or.inl c
    · by_cases c : wOp w = 36 ∨ wOp w = 70 ∨ wOp w = 71 ∨ wOp w = 72
      · exact Or.inr (G _ (by omega) (Or.inl (Or.inr ⟨c, rfl⟩)))
      · exact Or.inl c
    · by_cases c : kWP (wOp w)
      · exact Or.inr (G _ (by omega) (Or.inr (Or.inr (Or.inr (Or.inl (Or.inl ⟨c, rfl⟩))))))
      · exact Or.inl c
  · intro ⟨g1, g2, g3, g4, g5, g6, g7, g8⟩ k hk z
    rcases (all k hk).mp z with ((⟨c, rfl⟩ | ⟨c, rfl | rfl⟩) | ⟨c, rfl⟩) | ⟨c, rfl⟩ | ⟨c, rfl⟩ | (⟨c, rfl⟩ | ⟨c, rfl⟩) | ⟨c, rfl⟩
    · exact g5.resolve_left (fun n => n c)
    · exact (g6.resolve_left (fun n => n c)).1
    · exact (g6.resolve_left (fun n => n c)).2
    · exact g7.resolve_left (fun n => n c)
    · exact g2.resolve_left (fun n => n c)
    · exact g3.resolve_left (fun n => n c)
    · exact g8.resolve_left (fun n => n c)
    · exact g4.resolve_left (fun n => n (Or.inl c))
    · exact g1.resolve_left c
