/-! words of the memories: both sides -/
theorem wb_mem {o : Nat → Nat} {lo : Nat} {hc hr hm hrT : Hp} {x m s ln b w rg pl ro pr ti L bl : Nat} {v : Int64} {t g : Int32} (W : Ws o lo hc s w rg pl ro pr ti L) (B : Wb hc hr x m s ln b w rg pl pr ti L bl) (l32 : ln ≤ 32) (km : kMem (wOp v))
    (cR : hR hm 512 w = hR hc 512 w) (cQ : hQ hm (x + 13) b = hQ hc (x + 13) b) (cI : ∀ f, ¬ f = 522 → hI hm f w = hI hc f w) (cM : hI hm 522 w = t) (cP : ∀ i, i < ln → hA hm pl i = if bt g i = true then hA hc pl i + 1 else hA hc pl i) (cp : ∀ p, hA hm pr p = hA hc pr p) (ct : ∀ r, r < 20 → hA hm ti r = if ¬ kWr (wOp v) (wD v) = -1 ∧ r = (kWr (wOp v) (wD v)).toNatClampNeg then t else hA hc ti r)
    (rI : hI hrT 705 m = hI hr 705 m ∧ hI hrT 717 m = hI hr 717 m) (rS : hA hrT (m + 9) s = hA hr (m + 9) s ∧ hA hrT (m + 10) s = hA hr (m + 10) s) (rM : hA hrT (m + 11) s = t) (rT : ∀ r, r < 20 → hA hrT (m + 12) (20 * s + r) = if (kWD (wOp v) ∧ 20 * s + r = 20 * s + nD v) ∨ (kWP (wOp v) ∧ 20 * s + r = 20 * s + (16 + pn (nI (nD v)))) then t else hA hr (m + 12) (20 * s + r)) (rO : ∀ i, i < 32 → hA hrT (m + 14) (32 * s + i) = hA hr (m + 14) (32 * s + i) ∧ hA hrT (m + 16) (32 * s + i) = hA hr (m + 16) (32 * s + i) ∧ hA hrT (m + 17) (32 * s + i) = hA hr (m + 17) (32 * s + i)) (rP : ∀ i, i < ln → hA hrT (m + 15) (32 * s + i) = if bt g i = true then hA hr (m + 15) (32 * s + i) + 1 else hA hr (m + 15) (32 * s + i)) (rG : ∀ i r, i < ln → r < 16 → hA hm rg (16 * i + r) = hA hrT (m + 13) (16 * (32 * s + i) + r)) : Wb hm hrT x m s ln b w rg pl pr ti L bl := by
  have rl : ∀ i, rLn hrT m s i ↔ rLn hr m s i := fun i => rLn_same rI.1 rI.2 rS.2
  refine ⟨by rw [cR]; exact B.blk, by rw [cQ]; exact B.bq, by rw [rS.1]; exact B.sb, B.b64, by rw [cI _ (by decide), rS.2]; exact B.num, by rw [rS.2]; exact B.wno, by rw [cI _ (by decide)]; exact B.lns, B.lnL, fun i hi => ?_, fun i hi => ?_, fun i hi => ?_, fun i hi => ?_, fun i hi => ?_, rG, fun i hi => ?_, fun p i hp hi => ?_, fun r hr2 => ?_, ?_⟩
  · rw [cI _ (by decide), B.pre i hi]
    exact decide_eq_decide.mpr (rl i).symm
  · rw [cI _ (by decide), (rO i hi).2.1]
    exact B.end_ i hi
  · rw [cI _ (by decide), (rO i hi).2.2]
    exact B.wai i hi
  · rw [(rO i hi).2.1]
    exact fun z => (rl i).mpr (B.le i hi z)
  · rw [(rO i hi).2.1, (rO i hi).2.2]
    exact fun z => ⟨(rl i).mpr (B.lw i hi z).1, (B.lw i hi z).2⟩
  · rw [cP i hi, rP i hi, B.pla i hi]
  · rw [cp, (rO i hi).1]
    exact B.prd p i hp hi
  · rw [ct r hr2, rT r hr2, B.tic r hr2]
    exact tk_tic (s := s) hr2
  · rw [cM, rM]
theorem av_np {o dm g n p : Int32} {R : Nat → Int32} {i : Nat} (km : kMem o) {old : Int32} (eo : bt g i = true → old = p) : (if avQ (bI (¬ o < 40 ∧ ¬ 42 < o)) dm g i = true then avF (bI (¬ o < 40 ∧ ¬ 42 < o)) dm o n p R i else old) = if bt g i = true then old + 1 else old := by
  have nj : ¬ (¬ o < 40 ∧ ¬ 42 < o) := by
    unfold kMem at km
    simp only [Int32.lt_iff_toInt_lt] at km ⊢
    simp only [show (40 : Int32).toInt = 40 by decide, show (42 : Int32).toInt = 42 by decide, show (50 : Int32).toInt = 50 by decide, show (59 : Int32).toInt = 59 by decide] at km ⊢
    omega
  unfold avQ avF
  rw [bI_f nj]
  by_cases q : bt g i = true
  · rw [if_pos q, q, Bool.or_true, if_pos rfl, if_neg (by simp), eo q]
  · have q0 : bt g i = false := by simpa using q
    rw [if_neg q, q0]
    rw [if_neg (by simp)]
