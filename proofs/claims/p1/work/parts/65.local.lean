/-! the class's heap before the meeting, after a word without a memory -/
def lmH (hk : Hp) (x u w ti : Nat) (v : Int64) (t : Int32) : Hp := if wOp v = 7 ∨ wOp v = 8 then sI (mrH hk w ti (kWr (wOp v) (wD v)) t (kMem (wOp v))) 390 (x + 15 + 3 * u) t else mrH hk w ti (kWr (wOp v) (wD v)) t (kMem (wOp v))
def LM (hc hm : Hp) (x u w rg pl ro pr ti bl : Nat) (o dm g t : Int32) : Prop := (hT hm = hT hc ∧ hU hm = hU hc ∧ hK hm = hK hc ∧ hN hm = hN hc ∧ hR hm = hR hc ∧ hQ hm = hQ hc ∧ hL hm = hL hc) ∧ (∀ f a, ¬ a = w → ¬ a = bl → ¬ a = x + 11 → ¬ a = x + 15 + 3 * u → hI hm f a = hI hc f a) ∧ (∀ f, ¬ f = 453 → ¬ f = 454 → hI hm f bl = hI hc f bl) ∧ (hI hm 453 bl = if o = 0 then hI hc 453 bl - nI (cn (bt dm) 32) else hI hc 453 bl) ∧ (hI hm 454 bl = if o = 1 then hI hc 454 bl + nI (cn (bt dm) 32) else hI hc 454 bl) ∧ (hI hm 327 (x + 11) = hI hc 327 (x + 11) + 1) ∧ (hI hm 328 (x + 11) = hI hc 328 (x + 11) + nI (cn (bt dm) 32)) ∧ (hI hm 329 (x + 11) = hI hc 329 (x + 11) + (if dm = g then 0 else 1)) ∧ (∀ f, ¬ f = 327 → ¬ f = 328 → ¬ f = 329 → hI hm f (x + 11) = hI hc f (x + 11)) ∧ (hI hm 389 (x + 15 + 3 * u) = hI hc 389 (x + 15 + 3 * u) + 1) ∧ (hI hm 390 (x + 15 + 3 * u) = if o = 7 ∨ o = 8 then t else hI hc 390 (x + 15 + 3 * u)) ∧ (∀ f, ¬ f = 389 → ¬ f = 390 → hI hm f (x + 15 + 3 * u) = hI hc f (x + 15 + 3 * u)) ∧ (∀ f, ¬ f = 516 → ¬ f = 517 → hI hm f w = hI hc f w) ∧ (hI hm 516 w = if o = 0 then hI hc 516 w ||| dm else hI hc 516 w) ∧ (hI hm 517 w = if o = 1 then hI hc 517 w ||| dm else hI hc 517 w) ∧ (∀ a j, ¬ a = pl → ¬ a = rg → ¬ a = pr → ¬ a = ro → ¬ a = ti → hA hm a j = hA hc a j)
theorem LM.same {hc hm : Hp} {x u w rg pl ro pr ti bl : Nat} {o dm g t : Int32} (X : LM hc hm x u w rg pl ro pr ti bl o dm g t) : hT hm = hT hc ∧ hU hm = hU hc ∧ hK hm = hK hc ∧ hN hm = hN hc ∧ hR hm = hR hc ∧ hQ hm = hQ hc ∧ hL hm = hL hc := X.1
theorem LM.oi {hc hm : Hp} {x u w rg pl ro pr ti bl : Nat} {o dm g t : Int32} (X : LM hc hm x u w rg pl ro pr ti bl o dm g t) : ∀ f a, ¬ a = w → ¬ a = bl → ¬ a = x + 11 → ¬ a = x + 15 + 3 * u → hI hm f a = hI hc f a := X.2.1
theorem LM.bo {hc hm : Hp} {x u w rg pl ro pr ti bl : Nat} {o dm g t : Int32} (X : LM hc hm x u w rg pl ro pr ti bl o dm g t) : ∀ f, ¬ f = 453 → ¬ f = 454 → hI hm f bl = hI hc f bl := X.2.2.1
theorem LM.al {hc hm : Hp} {x u w rg pl ro pr ti bl : Nat} {o dm g t : Int32} (X : LM hc hm x u w rg pl ro pr ti bl o dm g t) : hI hm 453 bl = if o = 0 then hI hc 453 bl - nI (cn (bt dm) 32) else hI hc 453 bl := X.2.2.2.1
theorem LM.wa {hc hm : Hp} {x u w rg pl ro pr ti bl : Nat} {o dm g t : Int32} (X : LM hc hm x u w rg pl ro pr ti bl o dm g t) : hI hm 454 bl = if o = 1 then hI hc 454 bl + nI (cn (bt dm) 32) else hI hc 454 bl := X.2.2.2.2.1
theorem LM.t1 {hc hm : Hp} {x u w rg pl ro pr ti bl : Nat} {o dm g t : Int32} (X : LM hc hm x u w rg pl ro pr ti bl o dm g t) : hI hm 327 (x + 11) = hI hc 327 (x + 11) + 1 := X.2.2.2.2.2.1
theorem LM.t2 {hc hm : Hp} {x u w rg pl ro pr ti bl : Nat} {o dm g t : Int32} (X : LM hc hm x u w rg pl ro pr ti bl o dm g t) : hI hm 328 (x + 11) = hI hc 328 (x + 11) + nI (cn (bt dm) 32) := X.2.2.2.2.2.2.1
theorem LM.t3 {hc hm : Hp} {x u w rg pl ro pr ti bl : Nat} {o dm g t : Int32} (X : LM hc hm x u w rg pl ro pr ti bl o dm g t) : hI hm 329 (x + 11) = hI hc 329 (x + 11) + (if dm = g then 0 else 1) := X.2.2.2.2.2.2.2.1
theorem LM.t4 {hc hm : Hp} {x u w rg pl ro pr ti bl : Nat} {o dm g t : Int32} (X : LM hc hm x u w rg pl ro pr ti bl o dm g t) : ∀ f, ¬ f = 327 → ¬ f = 328 → ¬ f = 329 → hI hm f (x + 11) = hI hc f (x + 11) := X.2.2.2.2.2.2.2.2.1
theorem LM.u1 {hc hm : Hp} {x u w rg pl ro pr ti bl : Nat} {o dm g t : Int32} (X : LM hc hm x u w rg pl ro pr ti bl o dm g t) : hI hm 389 (x + 15 + 3 * u) = hI hc 389 (x + 15 + 3 * u) + 1 := X.2.2.2.2.2.2.2.2.2.1
theorem LM.u2 {hc hm : Hp} {x u w rg pl ro pr ti bl : Nat} {o dm g t : Int32} (X : LM hc hm x u w rg pl ro pr ti bl o dm g t) : hI hm 390 (x + 15 + 3 * u) = if o = 7 ∨ o = 8 then t else hI hc 390 (x + 15 + 3 * u) := X.2.2.2.2.2.2.2.2.2.2.1
theorem LM.u3 {hc hm : Hp} {x u w rg pl ro pr ti bl : Nat} {o dm g t : Int32} (X : LM hc hm x u w rg pl ro pr ti bl o dm g t) : ∀ f, ¬ f = 389 → ¬ f = 390 → hI hm f (x + 15 + 3 * u) = hI hc f (x + 15 + 3 * u) := X.2.2.2.2.2.2.2.2.2.2.2.1
theorem LM.wo {hc hm : Hp} {x u w rg pl ro pr ti bl : Nat} {o dm g t : Int32} (X : LM hc hm x u w rg pl ro pr ti bl o dm g t) : ∀ f, ¬ f = 516 → ¬ f = 517 → hI hm f w = hI hc f w := X.2.2.2.2.2.2.2.2.2.2.2.2.1
theorem LM.we {hc hm : Hp} {x u w rg pl ro pr ti bl : Nat} {o dm g t : Int32} (X : LM hc hm x u w rg pl ro pr ti bl o dm g t) : hI hm 516 w = if o = 0 then hI hc 516 w ||| dm else hI hc 516 w := X.2.2.2.2.2.2.2.2.2.2.2.2.2.1
theorem LM.ww {hc hm : Hp} {x u w rg pl ro pr ti bl : Nat} {o dm g t : Int32} (X : LM hc hm x u w rg pl ro pr ti bl o dm g t) : hI hm 517 w = if o = 1 then hI hc 517 w ||| dm else hI hc 517 w := X.2.2.2.2.2.2.2.2.2.2.2.2.2.2.1
theorem LM.oa {hc hm : Hp} {x u w rg pl ro pr ti bl : Nat} {o dm g t : Int32} (X : LM hc hm x u w rg pl ro pr ti bl o dm g t) : ∀ a j, ¬ a = pl → ¬ a = rg → ¬ a = pr → ¬ a = ro → ¬ a = ti → hA hm a j = hA hc a j := X.2.2.2.2.2.2.2.2.2.2.2.2.2.2.2

theorem lm_ok {hc hk : Hp} {x u w rg pl ro pr ti ln bl : Nat} {v : Int64} {dm t : Int32} {RF : Nat → Option Int32} {TF : Nat → Bool} (hu : u < 8) (wx : x + 38 < w) (bx : x + 38 < bl) (wb : ¬ w = bl) (km : ¬ kMem (wOp v)) (A : AF (goH hc x (x + 15 + 3 * u) pl rg ln (nA v) (hI hc 518 w) dm (wOp v) (wN v) (hI hc 519 w)) hk w rg pl ro pr ti ln bl (nD v) (wOp v) dm RF TF) : LM hc (lmH hk x u w ti v t) x u w rg pl ro pr ti bl (wOp v) dm (hI hc 518 w) t := by
  obtain ⟨s1, s2, s3, s4, s5, s6, s7⟩ := A.same
  obtain ⟨m1, m2, m3, m4, m5, m6⟩ := mr_o (h := hk) (w := w) (ti := ti) (wr := kWr (wOp v) (wD v)) (t := t) (mem := kMem (wOp v))
  have mL : hL (mrH hk w ti (kWr (wOp v) (wD v)) t (kMem (wOp v))) = hL hk := by
    unfold mrH
    split <;> split <;> simp only [qL_sI, qL_sA]
  have mI : ∀ f a, hI (mrH hk w ti (kWr (wOp v) (wD v)) t (kMem (wOp v))) f a = hI hk f a := fun f a => by rw [mr_I, if_neg (fun z => km z.1)]
  have lI : ∀ f a, ¬ (f = 390 ∧ a = x + 15 + 3 * u) → hI (lmH hk x u w ti v t) f a = hI hk f a := fun f a z => by
    unfold lmH
    split
    · rw [qI_sI, if_neg z, mI]
    · rw [mI]
  have lA : ∀ a j, ¬ a = ti → hA (lmH hk x u w ti v t) a j = hA hk a j := fun a j z => by
    unfold lmH
    split
    · rw [qA_sI, mr_A, if_neg (fun y => z y.2.1)]
    · rw [mr_A, if_neg (fun y => z y.2.1)]
  generalize hGe : goH hc x (x + 15 + 3 * u) pl rg ln (nA v) (hI hc 518 w) dm (wOp v) (wN v) (hI hc 519 w) = hG at *
  have gI : ∀ f a, ¬ a = x + 11 → ¬ (f = 389 ∧ a = x + 15 + 3 * u) → hI hG f a = hI hc f a := fun f a z1 z2 => by rw [← hGe]; exact goH_I z1 z2
  have kI : ∀ f a, ¬ (f = 516 ∧ a = w) → ¬ (f = 517 ∧ a = w) → ¬ (f = 453 ∧ a = bl) → ¬ (f = 454 ∧ a = bl) → hI hk f a = hI hG f a := A.i5
  refine ⟨?_, fun f a z1 z2 z3 z4 => ?_, fun f z1 z2 => ?_, ?_, ?_, ?_, ?_, ?_, fun f z1 z2 z3 => ?_, ?_, ?_, fun f z1 z2 => ?_, fun f z1 z2 => ?_, ?_, ?_, fun a j z1 z2 z3 z4 z5 => ?_⟩
  · have gT := goH_T hc x (x + 15 + 3 * u) pl rg ln (nA v) (hI hc 518 w) dm (wOp v) (wN v) (hI hc 519 w)
    have gK := goH_K hc x (x + 15 + 3 * u) pl rg ln (nA v) (hI hc 518 w) dm (wOp v) (wN v) (hI hc 519 w)
    have gN := goH_N hc x (x + 15 + 3 * u) pl rg ln (nA v) (hI hc 518 w) dm (wOp v) (wN v) (hI hc 519 w)
    have gR := goH_R hc x (x + 15 + 3 * u) pl rg ln (nA v) (hI hc 518 w) dm (wOp v) (wN v) (hI hc 519 w)
    have gQ := goH_Q hc x (x + 15 + 3 * u) pl rg ln (nA v) (hI hc 518 w) dm (wOp v) (wN v) (hI hc 519 w)
    have gL : hL hG = hL hc := by rw [← hGe]; unfold goH cnH; simp only [qL_oA, qL_sI]
    rw [hGe] at gT gK gN gR gQ
    unfold lmH
    split
    · rw [qT_sI, qU_sI, qK_sI, qN_sI, qR_sI, qQ_sI, qL_sI, m1, m2, m3, m4, m5, m6, mL, s1, s2, s3, s4, s5, s6, s7]
      exact ⟨gT.1, gT.2, gK, gN, gR, gQ, gL⟩
    · rw [m1, m2, m3, m4, m5, m6, mL, s1, s2, s3, s4, s5, s6, s7]
      exact ⟨gT.1, gT.2, gK, gN, gR, gQ, gL⟩
  · rw [lI _ _ (fun y => z4 y.2), kI _ _ (fun y => z1 y.2) (fun y => z1 y.2) (fun y => z2 y.2) (fun y => z2 y.2), gI _ _ z3 (fun y => z4 y.2)]
  · rw [lI _ _ (fun y => by have := y.2; omega), kI _ _ (fun y => wb y.2.symm) (fun y => wb y.2.symm) (fun y => z1 y.1) (fun y => z2 y.1), gI _ _ (by omega) (by omega)]
  · rw [lI _ _ (fun y => by cases y.1), A.i3, gI _ _ (by omega) (by omega)]
  · rw [lI _ _ (fun y => by cases y.1), A.i4, gI _ _ (by omega) (by omega)]
  · rw [lI _ _ (fun y => by cases y.1), kI _ _ (fun y => by cases y.1) (fun y => by cases y.1) (fun y => by cases y.1) (fun y => by cases y.1), ← hGe]
    unfold goH cnH
    rw [qI_oA, qI_sI, if_neg (fun y => by cases y.1), qI_sI, if_neg (fun y => by cases y.1), qI_sI, if_neg (fun y => by cases y.1), qI_sI, if_pos ⟨rfl, rfl⟩]
  · rw [lI _ _ (fun y => by cases y.1), kI _ _ (fun y => by cases y.1) (fun y => by cases y.1) (fun y => by cases y.1) (fun y => by cases y.1), ← hGe]
    unfold goH cnH
    rw [qI_oA, qI_sI, if_neg (fun y => by cases y.1), qI_sI, if_neg (fun y => by cases y.1), qI_sI, if_pos ⟨rfl, rfl⟩]
  · rw [lI _ _ (fun y => by cases y.1), kI _ _ (fun y => by cases y.1) (fun y => by cases y.1) (fun y => by cases y.1) (fun y => by cases y.1), ← hGe]
    unfold goH cnH
    rw [qI_oA, qI_sI, if_neg (fun y => by cases y.1), qI_sI, if_pos ⟨rfl, rfl⟩]
  · rw [lI _ _ (fun y => by have := y.2; omega), kI _ _ (fun y => by have := y.2; omega) (fun y => by have := y.2; omega) (fun y => by have := y.2; omega) (fun y => by have := y.2; omega), ← hGe]
    unfold goH cnH
    rw [qI_oA, qI_sI, if_neg (fun y => by have := y.2; omega), qI_sI, if_neg (fun y => z3 y.1), qI_sI, if_neg (fun y => z2 y.1), qI_sI, if_neg (fun y => z1 y.1)]
  · rw [lI _ _ (fun y => by cases y.1), kI _ _ (fun y => by cases y.1) (fun y => by cases y.1) (fun y => by cases y.1) (fun y => by cases y.1), ← hGe]
    unfold goH cnH
    rw [qI_oA, qI_sI, if_pos ⟨rfl, rfl⟩]
  · have e2 : hI hk 390 (x + 15 + 3 * u) = hI hc 390 (x + 15 + 3 * u) := by rw [kI _ _ (fun y => by cases y.1) (fun y => by cases y.1) (fun y => by cases y.1) (fun y => by cases y.1), gI _ _ (by omega) (fun y => by cases y.1)]
    unfold lmH
    by_cases q : wOp v = 7 ∨ wOp v = 8
    · rw [if_pos q, if_pos q, qI_sI, if_pos ⟨rfl, rfl⟩]
    · rw [if_neg q, if_neg q, mI, e2]
  · rw [lI _ _ (fun y => z2 y.1), kI _ _ (fun y => by have := y.2; omega) (fun y => by have := y.2; omega) (fun y => by have := y.2; omega) (fun y => by have := y.2; omega), gI _ _ (by omega) (fun y => z1 y.1)]
  · rw [lI _ _ (fun y => by have := y.2; omega), kI _ _ (fun y => z1 y.1) (fun y => z2 y.1) (fun y => wb y.2) (fun y => wb y.2), gI _ _ (by omega) (by omega)]
  · rw [lI _ _ (fun y => by cases y.1), A.i1, gI _ _ (by omega) (by omega)]
  · rw [lI _ _ (fun y => by cases y.1), A.i2, gI _ _ (by omega) (by omega)]
  · rw [lA _ _ z5, A.oth _ _ z2 z3 z4, ← hGe, goH_A z1]
theorem LM.fr {hc hm : Hp} {x u w rg pl ro pr ti bl : Nat} {o dm g t : Int32} (X : LM hc hm x u w rg pl ro pr ti bl o dm g t) : Fr (fun f a => a = w ∨ a = rg ∨ a = pl ∨ a = ro ∨ a = pr ∨ a = ti ∨ a = bl ∨ a = x + 11 ∨ (a = x + 15 + 3 * u ∧ (f = 389 ∨ f = 390))) hc hm := by
  obtain ⟨s1, s2, s3, s4, s5, s6, s7⟩ := X.same
  refine ⟨by rw [s1]; exact Nat.le_refl _, fun a ha => ⟨by rw [s3], by rw [s4], fun f nP => ⟨?_, by rw [s5]⟩, fun nP j => ⟨?_, by rw [s6], by rw [s7]⟩⟩⟩
  · by_cases q : a = x + 15 + 3 * u
    · rw [q]
      exact X.u3 f (fun z => nP (Or.inr (Or.inr (Or.inr (Or.inr (Or.inr (Or.inr (Or.inr (Or.inr ⟨q, Or.inl z⟩))))))))) (fun z => nP (Or.inr (Or.inr (Or.inr (Or.inr (Or.inr (Or.inr (Or.inr (Or.inr ⟨q, Or.inr z⟩)))))))))
    · exact X.oi f a (fun z => nP (Or.inl z)) (fun z => nP (Or.inr (Or.inr (Or.inr (Or.inr (Or.inr (Or.inr (Or.inl z)))))))) (fun z => nP (Or.inr (Or.inr (Or.inr (Or.inr (Or.inr (Or.inr (Or.inr (Or.inl z))))))))) q
  · exact X.oa a j (fun z => nP (Or.inr (Or.inr (Or.inl z)))) (fun z => nP (Or.inr (Or.inl z))) (fun z => nP (Or.inr (Or.inr (Or.inr (Or.inr (Or.inl z)))))) (fun z => nP (Or.inr (Or.inr (Or.inr (Or.inl z))))) (fun z => nP (Or.inr (Or.inr (Or.inr (Or.inr (Or.inr (Or.inl z)))))))
