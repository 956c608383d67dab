/-! a word without a memory: both sides -/
abbrev RfG (m : Nat) (h k : Hp) : Prop := Rf m (fun f => (756 ≤ f ∧ f ≤ 762) ∨ (720 ≤ f ∧ f ≤ 724)) (fun a => ((m + 3) ≤ a ∧ a ≤ (m + 8)) ∨ ((m + 25) ≤ a ∧ a ≤ (m + 28))) h k
theorem RfG.rs {m s : Nat} {h k : Hp} (R : RfG m h k) : Rs m s h k := by
  have i : ∀ f, f < 720 → hI k f m = hI h f m := fun f hf => R.i (by omega)
  have a : ∀ c j, (m + 9) ≤ c → c ≤ (m + 17) → hA k c j = hA h c j := fun c j h1 h2 => R.a (by omega) j
  exact ⟨⟨i _ (by decide), i _ (by decide)⟩, ⟨a _ _ (by omega) (by omega), a _ _ (by omega) (by omega), a _ _ (by omega) (by omega)⟩, fun r _ => a _ _ (by omega) (by omega), fun i _ => ⟨a _ _ (by omega) (by omega), a _ _ (by omega) (by omega), a _ _ (by omega) (by omega), a _ _ (by omega) (by omega)⟩, fun j _ => a _ _ (by omega) (by omega)⟩
theorem cn_slot (P : Nat → Bool) {s : Nat} (hs : s < 128) : cn (fun t => decide (t / 32 = s) && P (t % 32)) 4096 = cn P 32 := by
  have e : 4096 = 32 * s + (32 + (4064 - 32 * s)) := by omega
  rw [e, cn_add, cn_add]
  have z1 : cn (fun t => decide (t / 32 = s) && P (t % 32)) (32 * s) = 0 := cn_0 _ fun i hi => by rw [decide_eq_false (by omega), Bool.false_and]
  have z2 : cn (fun i => decide ((32 * s + i) / 32 = s) && P ((32 * s + i) % 32)) 32 = cn P 32 := cn_congr _ fun i hi => by rw [decide_eq_true (by omega), Bool.true_and, show (32 * s + i) % 32 = i by omega]
  have z3 : cn (fun i => decide ((32 * s + (32 + i)) / 32 = s) && P ((32 * s + (32 + i)) % 32)) (4064 - 32 * s) = 0 := cn_0 _ fun i hi => by rw [decide_eq_false (by omega), Bool.false_and]
  rw [z1, z2, z3]
  omega
theorem bt_or_ite {c : Prop} [Decidable c] {x y : Int32} {i : Nat} : bt (if c then x ||| y else x) i = (bt x i || (decide c && bt y i)) := by
  by_cases h : c
  · rw [if_pos h, b_or, decide_eq_true h, Bool.true_and]
  · rw [if_neg h, decide_eq_false h, Bool.false_and, Bool.or_false]
/-- what the ticks are after a word -/
theorem tk_tic {v : Int64} {s r : Nat} {t old : Int32} (hr : r < 20) : (if ¬ kWr (wOp v) (wD v) = -1 ∧ r = (kWr (wOp v) (wD v)).toNatClampNeg then t else old) = if (kWD (wOp v) ∧ 20 * s + r = 20 * s + nD v) ∨ (kWP (wOp v) ∧ 20 * s + r = 20 * s + (16 + pn (nI (nD v)))) then t else old := by
  have ld := nD_lt v
  unfold kWr
  by_cases c : kWP (wOp v)
  · have nd := wWD _ c
    have lp := pn_lt (wD v)
    have e : (16 : Int32) + (wD v &&& 3) = nI (16 + pn (wD v)) := by rw [pn_is]; exact nI_add 16 _
    rw [if_pos c, e, nI_clamp (by omega), ← nD_is]
    by_cases z : r = 16 + pn (wD v)
    · rw [if_pos ⟨nI_m1 (by omega), z⟩, if_pos (Or.inr ⟨c, by omega⟩)]
    · rw [if_neg (fun y => z y.2), if_neg (fun y => y.elim (fun y => nd y.1) (fun y => z (by have := y.2; omega)))]
  · rw [if_neg c]
    by_cases e : kWD (wOp v)
    · rw [if_pos e, nD_is, nI_clamp (by omega)]
      by_cases z : r = nD v
      · rw [if_pos ⟨nI_m1 (by omega), z⟩, if_pos (Or.inl ⟨e, by omega⟩)]
      · rw [if_neg (fun y => z y.2), if_neg (fun y => y.elim (fun y => z (by have := y.2; omega)) (fun y => c y.1))]
    · rw [if_neg e, if_neg (fun y => y.1 rfl), if_neg (fun y => y.elim (fun y => e y.1) (fun y => c y.1))]
/-- jumps -/
theorem av_lp {o dm g n p : Int32} {R : Nat → Int32} {i : Nat} (kk : kKnown o n) (km : ¬ kMem o) (o0 : 0 ≤ o.toInt) (sub : bt dm i = true → bt g i = true) {old : Int32} (eo : bt g i = true → old = p) : (if avQ (bI (¬ o < 40 ∧ ¬ 42 < o)) dm g i = true then avF (bI (¬ o < 40 ∧ ¬ 42 < o)) dm o n p R i else old) = if bt g i = true then (if bt dm i = true then (lP o n (R i)).getD (old + 1) else old + 1) else old := by
  unfold avQ avF
  by_cases q : bt g i = true
  · rw [if_pos q, q, Bool.or_true, if_pos rfl, eo q]
    by_cases d : bt dm i = true
    · rw [if_pos d, d, Bool.and_true]
      unfold lP
      by_cases j : ¬ o < 40 ∧ ¬ 42 < o
      · rw [bI_t j, if_pos (by decide)]
        have : o = 40 ∨ o = 41 ∨ o = 42 := by
          simp only [Int32.lt_iff_toInt_lt, ← Int32.toInt_inj] at j ⊢
          simp only [show (40 : Int32).toInt = 40 by decide, show (41 : Int32).toInt = 41 by decide, show (42 : Int32).toInt = 42 by decide] at j ⊢
          omega
        rcases this with z | z | z
        · rw [if_neg (by rw [z]; decide), if_pos (Or.inl z)]; rfl
        · rw [if_neg (by rw [z]; decide), if_pos (Or.inr z)]; rfl
        · rw [if_pos z, if_neg (by rw [z]; decide), if_pos z]; rfl
      · rw [bI_f j, if_neg (by decide), if_neg (fun z => j (by rcases z with z | z <;> rw [z] <;> decide)), if_neg (fun z => j (by rw [z]; decide))]
        rfl
    · have d0 : bt dm i = false := by simpa using d
      rw [if_neg d, d0, Bool.and_false, if_neg (by decide)]
  · have q0 : bt g i = false := by simpa using q
    have d0 : bt dm i = false := by
      cases z : bt dm i with
      | false => rfl
      | true => exact absurd (sub z) q
    rw [if_neg q, q0, d0, Bool.and_false, Bool.or_false, if_neg (by decide)]
theorem wb_loc {o : Nat → Nat} {lo : Nat} {hc hr h2 hk hm hrT : Hp} {x m s ln b w rg pl ro pr ti L bl : Nat} {v : Int64} {dm t cy : Int32} (W : Ws o lo hc s w rg pl ro pr ti L) (B : Wb hc hr x m s ln b w rg pl pr ti L bl) (l32 : ln ≤ 32) (R2 : RfG m hr h2) (eg : ∀ i, i < 32 → bt (hI hc 518 w) i = gpB h2 m i) (ed : ∀ i, i < 32 → bt dm i = dsB h2 m i) (sub : ∀ i, i < 32 → bt dm i = true → bt (hI hc 518 w) i = true) (awk : ∀ i, i < 32 → bt (hI hc 518 w) i = true → i < ln ∧ rAw hr m s i ∧ hA hr (m + 15) (32 * s + i) = hI hc 519 w) (f1 : hI h2 756 m = wOp v) (f6 : hI h2 761 m = wN v) (kk : kKnown (wOp v) (wN v)) (km : ¬ kMem (wOp v)) (o0 : 0 ≤ (wOp v).toInt) {hG : Hp} (x4 : Nat) (eG : hG = goH hc x x4 pl rg ln (nA v) (hI hc 518 w) dm (wOp v) (wN v) (hI hc 519 w)) (gI : ∀ f, hI hG f w = hI hc f w) (A : AF hG hk w rg pl ro pr ti ln bl (nD v) (wOp v) dm (lcR h2 m s (nA v) (nB v) ln) (fun i => decide (lT (wOp v) (wN v) (aX h2 m s (nA v) i) (aX h2 m s (nB v) i) (hI h2 762 m) (hs3 (hA h2 (m + 14) (32 * s + i)) (nI (nA v))) (hs3 (hA h2 (m + 14) (32 * s + i)) (nI (nB v)))))) (bw : ¬ bl = w) (e1 : hm = mrH hk w ti (kWr (wOp v) (wD v)) t (kMem (wOp v))) (e2 : hrT = tkH (lcH h2 m s (nA v) (nB v) (nD v) ln ln) m s (nD v) t) : Wb hm hrT x m s ln b w rg pl pr ti L bl := by
  have Rr := R2.rs (s := s)
  obtain ⟨m1, m2, m3, m4, m5, m6⟩ := mr_o (h := hk) (w := w) (ti := ti) (wr := kWr (wOp v) (wD v)) (t := t) (mem := kMem (wOp v))
  obtain ⟨s1, s2, s3, s4, s5, s6, s7⟩ := A.same
  have Gr : hR hG = hR hc := by rw [eG, goH_R]
  have Gq : hQ hG = hQ hc := by rw [eG, goH_Q]
  have hmI : ∀ f, hI hm f w = hI hk f w := fun f => by rw [e1, mr_I, if_neg (fun z => km z.1)]
  have hkI : ∀ f, ¬ f = 516 → ¬ f = 517 → hI hk f w = hI hc f w := fun f z1 z2 => by rw [A.i5 _ _ (fun z => z1 z.1) (fun z => z2 z.1) (fun z => bw z.2.symm) (fun z => bw z.2.symm), gI]
  have hmA : ∀ c j, ¬ c = ti → hA hm c j = hA hk c j := fun c j z => by rw [e1, mr_A, if_neg (fun y => z y.2.1)]
  have tI : ∀ f, hI hrT f m = hI h2 f m := fun f => by rw [e2]; unfold tkH lcH; rw [qI_oA, qI_oA]
  have opl : hI (lcH h2 m s (nA v) (nB v) (nD v) ln ln) 756 m = wOp v := by unfold lcH; rw [qI_oA]; exact f1
  have tA : ∀ c j, ¬ c = (m + 12) → ¬ c = (m + 11) → hA hrT c j = lcN (hA h2) m s (nD v) ln (gpB h2 m) (dsB h2 m) (lcF h2 m s (nA v)) (lcR h2 m s (nA v) (nB v) ln) (lcQ h2 m s (nA v) (nB v) (nD v)) (lE (wOp v)) (lW (wOp v)) c j := fun c j z1 z2 => by
    rw [e2]
    unfold tkH
    rw [qA_oA]
    unfold tkG
    rw [if_neg (fun y => z1 y.1), if_neg (fun y => z2 y.1)]
    unfold lcH
    rw [qA_oA, f1]
  have tO : ∀ c j, ¬ c = (m + 12) → ¬ c = (m + 11) → ¬ ((m + 13) ≤ c ∧ c ≤ (m + 17)) → hA hrT c j = hA h2 c j := fun c j z1 z2 z3 => by rw [tA c j z1 z2, lcN_o z3]
  have sb2 : hA hrT (m + 9) s = hA hr (m + 9) s := by rw [tO _ _ (by omega) (by omega) (by omega)]; exact Rr.2.1.1
  have sw2 : hA hrT (m + 10) s = hA hr (m + 10) s := by rw [tO _ _ (by omega) (by omega) (by omega)]; exact Rr.2.1.2.1
  have rl : ∀ i, rLn hrT m s i ↔ rLn hr m s i := fun i => rLn_same (by rw [tI]; exact Rr.1.1) (by rw [tI]; exact Rr.1.2) sw2
  have enT : ∀ i, i < 32 → hA hrT (m + 16) (32 * s + i) = if i < ln ∧ bt dm i = true ∧ wOp v = 0 then 1 else hA hr (m + 16) (32 * s + i) := fun i hi => by
    rw [tA _ _ (by omega) (by omega)]
    unfold lcN
    rw [fo_o (by omega)]
    by_cases hL : i < ln
    · rw [fo_i (by decide) (by omega) hL, ← ed i hi, fo_o (by omega), fo_o (by omega), fx_o (by omega), (Rr.2.2.2.1 i hi).2.2.1]
      by_cases q : bt dm i = true
      · rw [if_pos q]
        unfold lE
        by_cases z : wOp v = 0
        · rw [if_pos z, if_pos ⟨hL, q, z⟩]; rfl
        · rw [if_neg z, if_neg (fun y => z y.2.2)]; rfl
      · rw [if_neg q, if_neg (fun y => q y.2.1)]
    · rw [fo_c (fun j hj => by omega), fo_o (by omega), fo_o (by omega), fx_o (by omega), (Rr.2.2.2.1 i hi).2.2.1, if_neg (fun y => hL y.1)]
  have waT : ∀ i, i < 32 → hA hrT (m + 17) (32 * s + i) = if i < ln ∧ bt dm i = true ∧ wOp v = 1 then 1 else hA hr (m + 17) (32 * s + i) := fun i hi => by
    rw [tA _ _ (by omega) (by omega)]
    unfold lcN
    by_cases hL : i < ln
    · rw [fo_i (by decide) (by omega) hL, ← ed i hi, fo_o (by omega), fo_o (by omega), fo_o (by omega), fx_o (by omega), (Rr.2.2.2.1 i hi).2.2.2]
      by_cases q : bt dm i = true
      · rw [if_pos q]
        unfold lW
        by_cases z : wOp v = 1
        · rw [if_pos z, if_pos ⟨hL, q, z⟩]; rfl
        · rw [if_neg z, if_neg (fun y => z y.2.2)]; rfl
      · rw [if_neg q, if_neg (fun y => q y.2.1)]
    · rw [fo_c (fun j hj => by omega), fo_o (by omega), fo_o (by omega), fo_o (by omega), fx_o (by omega), (Rr.2.2.2.1 i hi).2.2.2, if_neg (fun y => hL y.1)]
  have inL : ∀ i, i < 32 → bt dm i = true → i < ln ∧ rAw hr m s i := fun i hi q => ⟨(awk i hi (sub i hi q)).1, (awk i hi (sub i hi q)).2.1⟩
  refine ⟨?_, ?_, ?_, B.b64, ?_, ?_, ?_, B.lnL, fun i hi => ?_, fun i hi => ?_, fun i hi => ?_, fun i hi => ?_, fun i hi => ?_, fun i r hi hr2 => ?_, fun i hi => ?_, fun p i hp hi => ?_, fun r hr2 => ?_, ?_⟩
  · rw [e1, m5, s5, Gr]; exact B.blk
  · rw [e1, m6, s6, Gq]; exact B.bq
  · rw [sb2]; exact B.sb
  · rw [hmI, hkI _ (by decide) (by decide), sw2]; exact B.num
  · rw [sw2]; exact B.wno
  · rw [hmI, hkI _ (by decide) (by decide)]; exact B.lns
  · rw [hmI, hkI _ (by decide) (by decide), B.pre i hi]
    exact decide_eq_decide.mpr (rl i).symm
  · rw [hmI, A.i1, gI, bt_or_ite, B.end_ i hi, enT i hi]
    by_cases q : bt dm i = true
    · have := inL i hi q
      rw [q, Bool.and_true]
      by_cases z : wOp v = 0
      · rw [decide_eq_true z, Bool.or_true, if_pos ⟨this.1, rfl, z⟩]; rfl
      · rw [decide_eq_false z, Bool.or_false, if_neg (fun y => z y.2.2)]
    · have q0 : bt dm i = false := by simpa using q
      rw [q0, Bool.and_false, Bool.or_false, if_neg (fun y => by cases y.2.1)]
  · rw [hmI, A.i2, gI, bt_or_ite, B.wai i hi, waT i hi]
    by_cases q : bt dm i = true
    · have := inL i hi q
      rw [q, Bool.and_true]
      by_cases z : wOp v = 1
      · rw [decide_eq_true z, Bool.or_true, if_pos ⟨this.1, rfl, z⟩]; rfl
      · rw [decide_eq_false z, Bool.or_false, if_neg (fun y => z y.2.2)]
    · have q0 : bt dm i = false := by simpa using q
      rw [q0, Bool.and_false, Bool.or_false, if_neg (fun y => by cases y.2.1)]
  · rw [enT i hi]
    intro z
    rw [rl]
    by_cases y : i < ln ∧ bt dm i = true ∧ wOp v = 0
    · exact (inL i hi y.2.1).2.1
    · rw [if_neg y] at z
      exact B.le i hi z
  · rw [waT i hi, enT i hi]
    intro z
    rw [rl]
    by_cases y : i < ln ∧ bt dm i = true ∧ wOp v = 1
    · have := (inL i hi y.2.1).2
      exact ⟨this.1, by rw [if_neg (fun q => by rw [y.2.2] at q; exact absurd q.2.2 (by decide))]; exact this.2.1⟩
    · rw [if_neg y] at z
      obtain ⟨z1, z2⟩ := B.lw i hi z
      refine ⟨z1, ?_⟩
      rw [if_neg (fun q => z (inL i hi q.2.1).2.2.2)]
      exact z2
  · have ne : ¬ rg = ti := fun z => by have e1 := W.t_rg; have e2 := W.t_ti; subst z; omega
    have ne2 : ¬ rg = pl := fun z => by have e1 := W.t_rg; have e2 := W.t_pl; subst z; omega
    rw [hmA _ _ ne, A.rg i r hi hr2, eG, goH_A ne2, B.reg i r hi hr2, tA _ _ (by omega) (by omega)]
    unfold lcN
    rw [fo_o (by omega), fo_o (by omega), fo_o (by omega)]
    by_cases er : r = nD v
    · subst er
      rw [fo_i (i := i) (by decide) (by omega) hi, fx_o (by omega), ← ed i (by omega), show 16 * (32 * s + i) + nD v = 512 * s + (16 * i + nD v) by omega, Rr.2.2.2.2 _ (by have := nD_lt v; omega)]
      by_cases q : bt dm i = true
      · rw [if_pos ⟨q, rfl⟩, if_pos q]
      · rw [if_neg (fun y => q y.1), if_neg q]
    · rw [fo_c (fun j hj => by have := nD_lt v; omega), fx_o (by omega), if_neg (fun y => er y.2), show 16 * (32 * s + i) + r = 512 * s + (16 * i + r) by omega, Rr.2.2.2.2 _ (by omega)]
  · have ne : ¬ pl = ti := fun z => by have e1 := W.t_pl; have e2 := W.t_ti; subst z; omega
    have ne2 : ¬ pl = rg := fun z => by have e1 := W.t_rg; have e2 := W.t_pl; subst z; omega
    have ne3 : ¬ pl = pr := fun z => by have e1 := W.t_pr; have e2 := W.t_pl; subst z; omega
    have ne4 : ¬ pl = ro := fun z => by have e1 := W.t_ro; have e2 := W.t_pl; subst z; omega
    rw [hmA _ _ ne, A.oth _ _ ne2 ne3 ne4, eG, goH_p hi, av_lp kk km o0 (sub i (by omega)) (fun q => by rw [B.pla i hi]; exact (awk i (by omega) q).2.2), tA _ _ (by omega) (by omega)]
    unfold lcN
    rw [fo_o (by omega), fo_o (by omega), fo_o (by omega), fo_o (by omega), fx_i (i := i) (by decide) (by omega), ← eg i (by omega), (Rr.2.2.2.1 i (by omega)).2.1, B.pla i hi]
    by_cases q : bt (hI hc 518 w) i = true
    · rw [if_pos q, if_pos (show i < ln ∧ bt (hI hc 518 w) i = true from ⟨hi, q⟩)]
      unfold lcF
      rw [← ed i (by omega), f1, f6, (Rr.2.2.2.1 i (by omega)).2.1]
      by_cases d : bt dm i = true
      · rw [if_pos d, if_pos d, B.reg i (nA v) hi (nA_lt v)]
        unfold aX
        rw [show 16 * (32 * s + i) + nA v = 512 * s + (16 * i + nA v) by omega, Rr.2.2.2.2 _ (by have := nA_lt v; omega)]
      · rw [if_neg d, if_neg d]
    · rw [if_neg q, if_neg (fun y => q y.2)]
  · have ne : ¬ pr = ti := fun z => by have e1 := W.t_pr; have e2 := W.t_ti; subst z; omega
    have ne2 : ¬ pr = pl := fun z => by have e1 := W.t_pr; have e2 := W.t_pl; subst z; omega
    rw [hmA _ _ ne, A.pr p i hp hi, eG, goH_A ne2, B.prd p i hp hi, tA _ _ (by omega) (by omega)]
    unfold lcN
    rw [fo_o (by omega), fo_o (by omega)]
    by_cases hL : i < ln
    · rw [fo_i (i := i) (by decide) (by omega) hL, fo_o (by omega), fx_o (by omega), ← ed i hi, (Rr.2.2.2.1 i hi).1]
      by_cases q : bt dm i = true
      · rw [if_pos q]
        unfold lcQ lQ
        rw [f1]
        by_cases kp : kWP (wOp v)
        · rw [if_pos kp]
          show _ = bt (if _ then _ else _) p
          rw [bt_pr hp, f6, (Rr.2.2.2.1 i hi).1]
          by_cases ep : p = pn (nI (nD v))
          · rw [if_pos ⟨q, kp, ep⟩, if_pos ep]
          · rw [if_neg (fun y => ep y.2.2), if_neg ep]
        · rw [if_neg kp, if_neg (fun y => kp y.2.1)]
          rfl
      · rw [if_neg q, if_neg (fun y => q y.1)]
    · have q0 : ¬ bt dm i = true := fun q => hL (inL i hi q).1
      rw [fo_c (fun j hj => by omega), fo_o (by omega), fx_o (by omega), (Rr.2.2.2.1 i hi).1, if_neg (fun y => q0 y.1)]
  · have ne2 : ¬ ti = rg := fun z => by have e1 := W.t_rg; have e2 := W.t_ti; subst z; omega
    have ne3 : ¬ ti = pr := fun z => by have e1 := W.t_pr; have e2 := W.t_ti; subst z; omega
    have ne4 : ¬ ti = ro := fun z => by have e1 := W.t_ro; have e2 := W.t_ti; subst z; omega
    have ne5 : ¬ ti = pl := fun z => by have e1 := W.t_pl; have e2 := W.t_ti; subst z; omega
    rw [e1, mr_A, A.oth _ _ ne2 ne3 ne4, eG, goH_A ne5, B.tic r hr2, e2]
    unfold tkH
    rw [qA_oA]
    unfold tkG
    rw [opl]
    have n1 : ¬ ((m + 12) = (m + 11)) := by omega
    rw [if_neg (fun (y : (m + 12) = (m + 11) ∧ _) => n1 y.1)]
    have lo1 : hA (lcH h2 m s (nA v) (nB v) (nD v) ln ln) (m + 12) (20 * s + r) = hA hr (m + 12) (20 * s + r) := by
      unfold lcH
      rw [qA_oA, lcN_o (by omega)]
      exact Rr.2.2.1 r hr2
    rw [lo1]
    have := tk_tic (v := v) (s := s) (r := r) (t := t) (old := hA hr (m + 12) (20 * s + r)) hr2
    simp only [true_and, eq_self] at this ⊢
    exact this
  · rw [e1, mr_I, if_neg (fun z => km z.1), hkI _ (by decide) (by decide), e2]
    unfold tkH
    rw [qA_oA]
    unfold tkG
    rw [opl, if_neg (fun y => by have := y.1; omega), if_neg (fun y => km y.2.1)]
    unfold lcH
    rw [qA_oA, lcN_o (by omega), Rr.2.1.2.2]
    exact B.mem
