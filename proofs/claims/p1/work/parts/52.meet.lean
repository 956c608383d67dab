/-! blocks that meet: both sides -/
theorem CsS.of {P : Nat → Nat → Prop} {o : Nat → Nat} {h k : Hp} {x lo s : Nat} (A : Fr P h k) (hx : x + 38 < hT h) (hs : s < 128) (n1 : ¬ P 9999 (x + 16 + 3 * (s / 16))) (n2 : ¬ P 9999 (x + 13)) (n3 : ¬ P 9999 (x + 2)) (n4 : ∀ a f, lo ≤ a → a < hT h → 6 * s ≤ o a → o a ≤ 6 * s + 5 → (hK h a = 9 ∨ hK h a = 100) → ¬ P f a) (n5 : ∀ y f, y < hT h → hK h y = 10 → 576 ≤ f → f ≤ 590 → ¬ P f y) : CsS o x lo s h k := by
  refine ⟨⟨A.1, ((A.2 _ (by omega)).2.2.2 n1 _).2.1, fun b => ((A.2 _ (by omega)).2.2.2 n2 b).2.1, fun p => ((A.2 _ (by omega)).2.2.2 n3 p).2.1⟩, fun a h1 h2 h3 h4 h5 => ?_, fun y y1 y2 => ?_⟩
  · obtain ⟨a1, a2, a3, a4⟩ := A.2 a h2
    exact ⟨a1, a2, fun f _ _ => a3 f (n4 a f h1 h2 h3 h4 h5), fun j => (a4 (n4 a 9999 h1 h2 h3 h4 h5) j).1⟩
  · obtain ⟨a1, a2, a3, a4⟩ := A.2 y y1
    exact ⟨by rw [a1]; exact y2, fun f f1 f2 => (a3 f (n5 y f y1 y2 f1 f2)).1⟩
/-- a busy slot that need not be gathered -/
def SlotB (o : Nat → Nat) (hc hr : Hp) (x m lo ln s b : Nat) : Prop := ∃ w rg pl ro pr ti L bl, hQ hc (x + 16 + 3 * (s / 16)) (s % 16) = some w ∧ Ws o lo hc s w rg pl ro pr ti L ∧ (∃ e, e ≤ 5 ∧ L = 2 ^ e) ∧ Wb hc hr x m s ln b w rg pl pr ti L bl
theorem SlotB.fr {o : Nat → Nat} {hc hr kc kr : Hp} {x m lo ln s b : Nat} (S : SlotB o hc hr x m lo ln s b) (A : CsS o x lo s hc kc) (R : Rs m s hr kr) : SlotB o kc kr x m lo ln s b := by
  obtain ⟨⟨hT1, q1, q2, q3⟩, A2, A3⟩ := A
  obtain ⟨w, rg, pl, ro, pr, ti, L, bl, z1, W, e, B⟩ := S
  have t1 := W.tw
  have t2 := W.t_rg
  have t3 := W.t_pl
  have t5 := W.t_pr
  have t6 := W.t_ti
  have aw := A2 w W.bw.1 W.bw.2 (by omega) (by omega) (Or.inl W.k)
  have a1 := A2 rg W.b_rg.1 W.b_rg.2 (by omega) (by omega) (Or.inr W.k_rg)
  have a2 := A2 pl W.b_pl.1 W.b_pl.2 (by omega) (by omega) (Or.inr W.k_pl)
  have a4 := A2 pr W.b_pr.1 W.b_pr.2 (by omega) (by omega) (Or.inr W.k_pr)
  have a5 := A2 ti W.b_ti.1 W.b_ti.2 (by omega) (by omega) (Or.inr W.k_ti)
  have W2 : Ws o lo kc s w rg pl ro pr ti L := W.fr hT1 (fun a h1 h2 h3 h4 h5 => ⟨(A2 a h1 h2 h3 h4 h5).1, (A2 a h1 h2 h3 h4 h5).2.1, fun f f1 f2 => ((A2 a h1 h2 h3 h4 h5).2.2.1 f (by omega) (by omega)).2⟩)
  have lL := W.l32
  have lnL := B.lnL
  refine ⟨w, rg, pl, ro, pr, ti, L, bl, by rw [q1]; exact z1, W2, e, ?_⟩
  refine ⟨by rw [(aw.2.2.1 _ (by decide) (by decide)).2]; exact B.blk, by rw [q2]; exact B.bq, by rw [R.2.1.1]; exact B.sb, B.b64, by rw [(aw.2.2.1 _ (by decide) (by decide)).1, R.2.1.2.1]; exact B.num, by rw [R.2.1.2.1]; exact B.wno, by rw [(aw.2.2.1 _ (by decide) (by decide)).1]; exact B.lns, B.lnL, fun i hi => ?_, fun i hi => ?_, fun i hi => ?_, fun i hi => ?_, fun i hi => ?_, fun i r hi hr => ?_, fun i hi => ?_, fun p i hp hi => ?_, fun r hr => ?_, ?_⟩
  · rw [(aw.2.2.1 _ (by decide) (by decide)).1, B.pre i hi]
    exact decide_eq_decide.mpr (rLn_rs R).symm
  · rw [(aw.2.2.1 _ (by decide) (by decide)).1, (R.2.2.2.1 i hi).2.2.1]
    exact B.end_ i hi
  · rw [(aw.2.2.1 _ (by decide) (by decide)).1, (R.2.2.2.1 i hi).2.2.2]
    exact B.wai i hi
  · rw [(R.2.2.2.1 i hi).2.2.1]
    exact fun z => (rLn_rs R).mpr (B.le i hi z)
  · rw [(R.2.2.2.1 i hi).2.2.1, (R.2.2.2.1 i hi).2.2.2]
    exact fun z => ⟨(rLn_rs R).mpr (B.lw i hi z).1, (B.lw i hi z).2⟩
  · rw [a1.2.2.2, show 16 * (32 * s + i) + r = 512 * s + (16 * i + r) by omega, R.2.2.2.2 _ (by omega), show 512 * s + (16 * i + r) = 16 * (32 * s + i) + r by omega]
    exact B.reg i r hi hr
  · rw [a2.2.2.2, (R.2.2.2.1 i (by omega)).2.1]
    exact B.pla i hi
  · rw [a4.2.2.2, (R.2.2.2.1 i hi).1]
    exact B.prd p i hp hi
  · rw [a5.2.2.2, R.2.2.1 r hr]
    exact B.tic r hr
  · rw [(aw.2.2.1 _ (by decide) (by decide)).1, R.2.1.2.2]
    exact B.mem
/-- gathering makes a busy slot right -/
theorem c_gather_ok {F : Nat} {o : Nat → Nat} {hc hr : Hp} {x m lo ln s b w rg pl ro pr ti L bl : Nat} (hF : 40000 ≤ F) (C : Cd hc x) (K : Kn hc hr x m) (hx : x + 38 < hT hc) (lx : x + 38 < lo) (W : Ws o lo hc s w rg pl ro pr ti L) (B : Wb hc hr x m s ln b w rg pl pr ti L bl) (hl : hI hr 705 m = nI ln) (l32 : ln ≤ 32) : ∃ k, f_Warp_gather F w (some (x + 2)) hc = some k ∧ Fr (fun f a => a = w ∧ 518 ≤ f ∧ f ≤ 521) hc k ∧ hT k = hT hc ∧ hU k = hU hc ∧ Gt k hr x m s ln w ti := by
  have Wp1 := W.wp B.lns B.lnL
  have lnL := B.lnL
  have em : ∀ i, i < 32 → bt ((hI hc 515 w &&& (hI hc 516 w ^^^ -1)) &&& (hI hc 517 w ^^^ -1)) i = aA hr m s i := by
    intro i hi
    rw [b_and, b_and, bt_not _ hi, bt_not _ hi, B.pre i hi, B.end_ i hi, B.wai i hi]
    unfold aA
    by_cases z1 : rLn hr m s i
    · by_cases z2 : hA hr (m + 16) (32 * s + i) = 0
      · by_cases z3 : hA hr (m + 17) (32 * s + i) = 0
        · rw [decide_eq_true z1, decide_eq_false (fun y => y z2), decide_eq_false (fun y => y z3), decide_eq_true (show rAw hr m s i from ⟨z1, z2, z3⟩)]; rfl
        · rw [decide_eq_true (show ¬ hA hr (m + 17) (32 * s + i) = 0 from z3), decide_eq_false (show ¬ rAw hr m s i from fun y => z3 y.2.2)]; simp
      · rw [decide_eq_true (show ¬ hA hr (m + 16) (32 * s + i) = 0 from z2), decide_eq_false (show ¬ rAw hr m s i from fun y => z2 y.2.1)]; simp
    · rw [decide_eq_false z1, decide_eq_false (show ¬ rAw hr m s i from fun y => z1 y.1)]; simp
  have el : lp (bt ((hI hc 515 w &&& (hI hc 516 w ^^^ -1)) &&& (hI hc 517 w ^^^ -1))) (hA hc pl) ln = lp (aA hr m s) (aP hr m s) ln := lp_congr ln (fun i hi => em i (by omega)) (fun i hi _ => B.pla i hi)
  have eg : gmk (bt ((hI hc 515 w &&& (hI hc 516 w ^^^ -1)) &&& (hI hc 517 w ^^^ -1))) (hA hc pl) ln = gmk (aA hr m s) (aP hr m s) ln := by
    unfold gmk
    refine mkM_congr ln fun i hi => ?_
    unfold gB1
    rw [em i (by omega), el, B.pla i hi]
  have ep : gpl (bt ((hI hc 515 w &&& (hI hc 516 w ^^^ -1)) &&& (hI hc 517 w ^^^ -1))) (hA hc pl) ln = gpl (aA hr m s) (aP hr m s) ln := by
    unfold gpl
    rw [el]
  have ga := c_Warp_gather (F := F) Wp1 hF C.k_kernel C.n_kernel rfl (fun a ea => by
    unfold gaW at ea
    split at ea
    · cases ea
    · next nz =>
      obtain ⟨j, hj, ej⟩ : ∃ j : Nat, j < 128 ∧ gpl (bt ((hI hc 515 w &&& (hI hc 516 w ^^^ -1)) &&& (hI hc 517 w ^^^ -1))) (hA hc pl) ln = nI j := by
        rcases pk_ix (gpl (bt ((hI hc 515 w &&& (hI hc 516 w ^^^ -1)) &&& (hI hc 517 w ^^^ -1))) (hA hc pl) ln) (n := 128) (by decide) with z | z | z
        · exact absurd (Or.inl z) nz
        · exact absurd (Or.inr z) nz
        · exact z
      rw [ej, nI_clamp (by omega)] at ea
      obtain ⟨y2, k1, k2, k3⟩ := K j hj
      rw [k1] at ea
      injection ea with ea
      rw [← ea]
      exact k3.k)
  rw [eg, ep] at ga
  refine ⟨_, ga, ?_, ?_, ?_, ?_⟩
  · unfold gaH s2
    exact ((((Fr.refl hc).cI ⟨rfl, by decide, by decide⟩).cI ⟨rfl, by decide, by decide⟩).cR ⟨rfl, by decide, by decide⟩).cI ⟨rfl, by decide, by decide⟩
  · unfold gaH s2
    rw [qT_sI, qT_sR, qT_sI, qT_sI]
  · unfold gaH s2
    rw [qU_sI, qU_sR, qU_sI, qU_sI]
  · generalize hG : gpl (aA hr m s) (aP hr m s) ln = p at *
    have gw : gaW (gaH hc w ti (gmk (aA hr m s) (aP hr m s) ln) p (gaW hc (x + 2) p)) (x + 2) p = gaW hc (x + 2) p := by
      unfold gaW gaH s2
      simp only [qQ_sI, qQ_sR]
    have gi : ∀ f c, ¬ (518 ≤ f ∧ f ≤ 521 ∧ c = w) → hI (gaH hc w ti (gmk (aA hr m s) (aP hr m s) ln) p (gaW hc (x + 2) p)) f c = hI hc f c := fun f c z => by
      unfold gaH s2
      rw [qI_sI, if_neg (by omega), qI_sR, qI_sI, if_neg (by omega), qI_sI, if_neg (by omega)]
    have gaA : hA (gaH hc w ti (gmk (aA hr m s) (aP hr m s) ln) p (gaW hc (x + 2) p)) = hA hc := by
      unfold gaH s2
      simp only [qA_sI, qA_sR]
    have gt : ∀ q2, gaT (gaH hc w ti (gmk (aA hr m s) (aP hr m s) ln) p (gaW hc (x + 2) p)) w ti q2 = gaT hc w ti q2 := by
      intro q2
      cases q2 with
      | none => rfl
      | some y =>
        show tkm _ _ _ _ = tkm _ _ _ _
        rw [gi _ _ (by omega), gi _ _ (by omega), gi _ _ (by omega), gaA]
    unfold Gt
    rw [hG, gw, gt]
    refine ⟨?_, ?_, ?_, ?_⟩
    · unfold gaH s2
      rw [qI_sI, if_neg (fun z => by cases z.1), qI_sR, qI_sI, if_neg (fun z => by cases z.1), qI_sI, if_pos ⟨rfl, rfl⟩]
    · unfold gaH s2
      rw [qI_sI, if_neg (fun z => by cases z.1), qI_sR, qI_sI, if_pos ⟨rfl, rfl⟩]
    · unfold gaH s2
      rw [qR_sI, qR_sR, if_pos ⟨rfl, rfl⟩]
    · unfold gaH
      rw [qI_sI, if_pos ⟨rfl, rfl⟩]
/-! all ended, all waiting -/
theorem cn_eq0 {P : Nat → Bool} {n : Nat} : cn P n = 0 ↔ ∀ i, i < n → P i = false := by
  constructor
  · induction n with
    | zero => intro _ i hi; omega
    | succ n ih =>
      intro h i hi
      rw [cn_snoc] at h
      by_cases e : i = n
      · subst e
        cases z : P i with
        | false => rfl
        | true => rw [z] at h; simp at h
      · exact ih (by omega) i (by omega)
  · exact cn_0 n
theorem cn_sub_eq {P Q : Nat → Bool} : ∀ {n : Nat}, (∀ i, i < n → P i = true → Q i = true) → (cn P n ≤ cn Q n ∧ (cn P n = cn Q n ↔ ∀ i, i < n → Q i = true → P i = true)) := by
  intro n
  induction n with
  | zero => intro _; exact ⟨Nat.le_refl _, fun _ i hi => by omega, fun _ => rfl⟩
  | succ n ih =>
    intro h
    obtain ⟨i1, i2⟩ := ih (fun i hi => h i (by omega))
    rw [cn_snoc, cn_snoc]
    cases zp : P n with
    | true =>
      have zq := h n (by omega) zp
      rw [zq]
      refine ⟨by simp; omega, fun e i hi q => ?_, fun e => ?_⟩
      · by_cases z : i = n
        · rw [z]; exact zp
        · exact i2.mp (by simp at e; omega) i (by omega) q
      · have := i2.mpr (fun i hi q => e i (by omega) q)
        simp; omega
    | false =>
      cases zq : Q n with
      | true =>
        refine ⟨by simp; omega, fun e => ?_, fun e => ?_⟩
        · simp at e; omega
        · have := e n (by omega) zq
          rw [zp] at this
          cases this
      | false =>
        refine ⟨by simp; omega, fun e i hi q => ?_, fun e => ?_⟩
        · by_cases z : i = n
          · rw [z, zq] at q; cases q
          · exact i2.mp (by simp at e; omega) i (by omega) q
        · have := i2.mpr (fun i hi q => e i (by omega) q)
          simp; omega
theorem allE_iff {h : Hp} {m ln b : Nat} (hl : hI h 705 m = nI ln) (l32 : ln ≤ 32) : allE h m ln (nI b) = true ↔ cn (avB h m b) 4096 = 0 := by
  unfold allE
  rw [al_iff, cn_eq0]
  constructor
  · intro H t ht
    unfold avB
    by_cases z1 : hA h (m + 9) (t / 32) = nI b
    · by_cases z2 : rLn h m (t / 32) (t % 32)
      · have hb := H (t / 32) (by omega)
        unfold bE at hb
        rw [show inB h m (nI b) (t / 32) = true from decide_eq_true z1] at hb
        have h2 := (al_iff _ _).mp (by simpa using hb) (t % 32) (by
          have := z2.1
          rw [hl] at this
          exact Nat.not_le.mp (fun y => this (nI_le y (by omega))))
        unfold sE at h2
        rw [decide_eq_true z2, Bool.not_true, Bool.or_false, show 32 * (t / 32) + t % 32 = t by omega] at h2
        rw [decide_eq_false (of_decide_eq_true h2), Bool.and_false]
      · rw [decide_eq_false z2, Bool.and_false, Bool.false_and]
    · rw [decide_eq_false z1, Bool.false_and, Bool.false_and]
  · intro H s hs
    unfold bE
    by_cases z1 : hA h (m + 9) s = nI b
    · rw [show inB h m (nI b) s = true from decide_eq_true z1, Bool.not_true, Bool.false_or, al_iff]
      intro i hi
      have := H (32 * s + i) (by omega)
      unfold avB at this
      rw [show (32 * s + i) / 32 = s by omega, show (32 * s + i) % 32 = i by omega, decide_eq_true z1, Bool.true_and] at this
      unfold sE
      by_cases z2 : rLn h m s i
      · rw [decide_eq_true z2, Bool.true_and] at this
        rw [decide_eq_true (of_decide_eq_false this)]
        rfl
      · rw [decide_eq_false z2]
        simp
    · rw [show inB h m (nI b) s = false from decide_eq_false z1]
      rfl
theorem allW_iff {h : Hp} {m ln b : Nat} (hl : hI h 705 m = nI ln) (l32 : ln ≤ 32) (lw : ∀ s i, s < 128 → i < 32 → hA h (m + 9) s = nI b → ¬ hA h (m + 17) (32 * s + i) = 0 → rLn h m s i ∧ hA h (m + 16) (32 * s + i) = 0) : allW h m ln (nI b) = true ↔ cn (wtB h m b) 4096 = cn (avB h m b) 4096 := by
  have sub : ∀ t, t < 4096 → wtB h m b t = true → avB h m b t = true := by
    intro t ht q
    unfold wtB at q
    obtain ⟨q1, q2⟩ := Bool.and_eq_true_iff.mp q
    have := lw (t / 32) (t % 32) (by omega) (by omega) (of_decide_eq_true q1) (by rw [show 32 * (t / 32) + t % 32 = t by omega]; exact of_decide_eq_true q2)
    rw [show 32 * (t / 32) + t % 32 = t by omega] at this
    unfold avB
    rw [q1, decide_eq_true this.1, decide_eq_true this.2]
    rfl
  rw [(cn_sub_eq sub).2]
  unfold allW
  rw [al_iff]
  constructor
  · intro H t ht q
    unfold avB at q
    obtain ⟨q1, q3⟩ := Bool.and_eq_true_iff.mp q
    obtain ⟨q1, q2⟩ := Bool.and_eq_true_iff.mp q1
    have z1 := of_decide_eq_true q1
    have z2 := of_decide_eq_true q2
    have z3 := of_decide_eq_true q3
    have hb := H (t / 32) (by omega)
    unfold bW at hb
    rw [show inB h m (nI b) (t / 32) = true from q1] at hb
    have h2 := (al_iff _ _).mp (by simpa using hb) (t % 32) (by
      have := z2.1
      rw [hl] at this
      exact Nat.not_le.mp (fun y => this (nI_le y (by omega))))
    unfold sW at h2
    rw [show 32 * (t / 32) + t % 32 = t by omega, q2, decide_eq_false (fun y => y z3), Bool.not_true, Bool.or_false, Bool.false_or] at h2
    unfold wtB
    rw [q1, h2]
    rfl
  · intro H s hs
    unfold bW
    by_cases z1 : hA h (m + 9) s = nI b
    · rw [show inB h m (nI b) s = true from decide_eq_true z1, Bool.not_true, Bool.false_or, al_iff]
      intro i hi
      unfold sW
      by_cases z2 : rLn h m s i
      · by_cases z3 : hA h (m + 16) (32 * s + i) = 0
        · have := H (32 * s + i) (by omega) (by
            unfold avB
            rw [show (32 * s + i) / 32 = s by omega, show (32 * s + i) % 32 = i by omega, decide_eq_true z1, decide_eq_true z2, decide_eq_true z3]
            rfl)
          unfold wtB at this
          have := (Bool.and_eq_true_iff.mp this).2
          rw [this]
          simp
        · rw [decide_eq_true z3]
          rfl
      · rw [decide_eq_false z2]
        simp
    · rw [show inB h m (nI b) s = false from decide_eq_false z1]
      rfl
