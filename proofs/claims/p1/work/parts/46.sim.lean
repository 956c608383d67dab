/-! the class and the reference side by side -/
/-- a slot -/
def SlotOk (o : Nat → Nat) (hc hr : Hp) (x m lo ln s : Nat) : Prop := (hQ hc (x + 16 + 3 * (s / 16)) (s % 16) = none ∧ hA hr (m + 9) s = -1) ∨ ∃ w rg pl ro pr ti L, hQ hc (x + 16 + 3 * (s / 16)) (s % 16) = some w ∧ Ws o lo hc s w rg pl ro pr ti L ∧ (∃ e, e ≤ 5 ∧ L = 2 ^ e) ∧ ((hR hc 512 w = none ∧ hA hr (m + 9) s = -1) ∨ ∃ b bl, Wb hc hr x m s ln b w rg pl pr ti L bl ∧ Gt hc hr x m s ln w ti)
/-- the reference is the same where a slot looks -/
def Rs (m s : Nat) (h k : Hp) : Prop := (hI k 705 m = hI h 705 m ∧ hI k 717 m = hI h 717 m) ∧ (hA k (m + 9) s = hA h (m + 9) s ∧ hA k (m + 10) s = hA h (m + 10) s ∧ hA k (m + 11) s = hA h (m + 11) s) ∧ (∀ r, r < 20 → hA k (m + 12) (20 * s + r) = hA h (m + 12) (20 * s + r)) ∧ (∀ i, i < 32 → hA k (m + 14) (32 * s + i) = hA h (m + 14) (32 * s + i) ∧ hA k (m + 15) (32 * s + i) = hA h (m + 15) (32 * s + i) ∧ hA k (m + 16) (32 * s + i) = hA h (m + 16) (32 * s + i) ∧ hA k (m + 17) (32 * s + i) = hA h (m + 17) (32 * s + i)) ∧ ∀ j, j < 512 → hA k (m + 13) (512 * s + j) = hA h (m + 13) (512 * s + j)
/-- the class is the same where a slot looks -/
def CsS (o : Nat → Nat) (x lo s : Nat) (h k : Hp) : Prop := (hT h ≤ hT k ∧ hQ k (x + 16 + 3 * (s / 16)) (s % 16) = hQ h (x + 16 + 3 * (s / 16)) (s % 16) ∧ (∀ b, hQ k (x + 13) b = hQ h (x + 13) b) ∧ ∀ p, hQ k (x + 2) p = hQ h (x + 2) p) ∧ (∀ a, lo ≤ a → a < hT h → 6 * s ≤ o a → o a ≤ 6 * s + 5 → (hK h a = 9 ∨ hK h a = 100) → hK k a = hK h a ∧ hN k a = hN h a ∧ (∀ f, 512 ≤ f → f ≤ 527 → hI k f a = hI h f a ∧ hR k f a = hR h f a) ∧ ∀ j, hA k a j = hA h a j) ∧ ∀ y, y < hT h → hK h y = 10 → hK k y = 10 ∧ ∀ f, 576 ≤ f → f ≤ 590 → hI k f y = hI h f y
theorem rLn_rs {h k : Hp} {m s i : Nat} (R : Rs m s h k) : rLn k m s i ↔ rLn h m s i := rLn_same R.1.1 R.1.2 R.2.1.2.1
theorem aA_rs {h k : Hp} {m s : Nat} (R : Rs m s h k) {i : Nat} (hi : i < 32) : aA k m s i = aA h m s i := by
  obtain ⟨p1, p2, p3, p4⟩ := R.2.2.2.1 i hi
  unfold aA
  exact decide_eq_decide.mpr (rAw_same R.1.1 R.1.2 R.2.1.2.1 p3 p4)
theorem gt_rs {h k : Hp} {m s ln : Nat} (R : Rs m s h k) (l32 : ln ≤ 32) : gmk (aA k m s) (aP k m s) ln = gmk (aA h m s) (aP h m s) ln ∧ gpl (aA k m s) (aP k m s) ln = gpl (aA h m s) (aP h m s) ln := by
  have e1 : ∀ i, i < ln → aA k m s i = aA h m s i := fun i hi => aA_rs R (by omega)
  have e2 : ∀ i, i < ln → aP k m s i = aP h m s i := fun i hi => (R.2.2.2.1 i (by omega)).2.1
  have el : lp (aA k m s) (aP k m s) ln = lp (aA h m s) (aP h m s) ln := lp_congr ln e1 (fun i hi _ => e2 i hi)
  unfold gmk gpl
  refine ⟨mkM_congr ln fun i hi => ?_, by rw [el]⟩
  unfold gB1
  rw [e1 i hi, e2 i hi, el]
theorem Ws.fr {o : Nat → Nat} {lo : Nat} {h k : Hp} {s w rg pl ro pr ti L : Nat} (W : Ws o lo h s w rg pl ro pr ti L) (hT1 : hT h ≤ hT k) (A : ∀ a, lo ≤ a → a < hT h → 6 * s ≤ o a → o a ≤ 6 * s + 5 → (hK h a = 9 ∨ hK h a = 100) → hK k a = hK h a ∧ hN k a = hN h a ∧ ∀ f, 523 ≤ f → f ≤ 527 → hR k f a = hR h f a) : Ws o lo k s w rg pl ro pr ti L := by
  have t1 := W.tw
  have t2 := W.t_rg
  have t3 := W.t_pl
  have t4 := W.t_ro
  have t5 := W.t_pr
  have t6 := W.t_ti
  have aw := A w W.bw.1 W.bw.2 (by omega) (by omega) (Or.inl W.k)
  have a1 := A rg W.b_rg.1 W.b_rg.2 (by omega) (by omega) (Or.inr W.k_rg)
  have a2 := A pl W.b_pl.1 W.b_pl.2 (by omega) (by omega) (Or.inr W.k_pl)
  have a3 := A ro W.b_ro.1 W.b_ro.2 (by omega) (by omega) (Or.inr W.k_ro)
  have a4 := A pr W.b_pr.1 W.b_pr.2 (by omega) (by omega) (Or.inr W.k_pr)
  have a5 := A ti W.b_ti.1 W.b_ti.2 (by omega) (by omega) (Or.inr W.k_ti)
  unfold Ws
  rw [aw.1, aw.2.2 _ (by decide) (by decide), aw.2.2 _ (by decide) (by decide), aw.2.2 _ (by decide) (by decide), aw.2.2 _ (by decide) (by decide), aw.2.2 _ (by decide) (by decide), a1.1, a1.2.1, a2.1, a2.2.1, a3.1, a3.2.1, a4.1, a4.2.1, a5.1, a5.2.1]
  refine ⟨W.k, W.l32, t1, ⟨W.bw.1, by have := W.bw.2; omega⟩, W.r_rg, W.k_rg, W.n_rg, t2, ⟨W.b_rg.1, by have := W.b_rg.2; omega⟩, W.r_pl, W.k_pl, W.n_pl, t3, ⟨W.b_pl.1, by have := W.b_pl.2; omega⟩, W.r_ro, W.k_ro, W.n_ro, t4, ⟨W.b_ro.1, by have := W.b_ro.2; omega⟩, W.r_pr, W.k_pr, W.n_pr, t5, ⟨W.b_pr.1, by have := W.b_pr.2; omega⟩, W.r_ti, W.k_ti, W.n_ti, t6, ⟨W.b_ti.1, by have := W.b_ti.2; omega⟩⟩
theorem SlotOk.fr {o : Nat → Nat} {hc hr kc kr : Hp} {x m lo ln s : Nat} (S : SlotOk o hc hr x m lo ln s) (K : Kn hc hr x m) (l32 : ln ≤ 32) (A : CsS o x lo s hc kc) (R : Rs m s hr kr) : SlotOk o kc kr x m lo ln s := by
  obtain ⟨⟨hT1, q1, q2, q3⟩, A2, A3⟩ := A
  rcases S with ⟨z1, z2⟩ | ⟨w, rg, pl, ro, pr, ti, L, z1, W, e, z3⟩
  · exact Or.inl ⟨by rw [q1]; exact z1, by rw [R.2.1.1]; exact z2⟩
  · have t1 := W.tw
    have t2 := W.t_rg
    have t3 := W.t_pl
    have t5 := W.t_pr
    have t6 := W.t_ti
    have aw := A2 w W.bw.1 W.bw.2 (by omega) (by omega) (Or.inl W.k)
    have a1 := A2 rg W.b_rg.1 W.b_rg.2 (by omega) (by omega) (Or.inr W.k_rg)
    have a2 := A2 pl W.b_pl.1 W.b_pl.2 (by omega) (by omega) (Or.inr W.k_pl)
    have a4 := A2 pr W.b_pr.1 W.b_pr.2 (by omega) (by omega) (Or.inr W.k_pr)
    have a5 := A2 ti W.b_ti.1 W.b_ti.2 (by omega) (by omega) (Or.inr W.k_ti)
    have W2 : Ws o lo kc s w rg pl ro pr ti L := W.fr hT1 (fun a h1 h2 h3 h4 h5 => ⟨(A2 a h1 h2 h3 h4 h5).1, (A2 a h1 h2 h3 h4 h5).2.1, fun f f1 f2 => ((A2 a h1 h2 h3 h4 h5).2.2.1 f (by omega) (by omega)).2⟩)
    refine Or.inr ⟨w, rg, pl, ro, pr, ti, L, by rw [q1]; exact z1, W2, e, ?_⟩
    rcases z3 with ⟨z3, z4⟩ | ⟨b, bl, B, G⟩
    · exact Or.inl ⟨by rw [(aw.2.2.1 _ (by decide) (by decide)).2]; exact z3, by rw [R.2.1.1]; exact z4⟩
    · have eg := gt_rs R l32
      refine Or.inr ⟨b, bl, ?_, ?_⟩
      · refine ⟨by rw [(aw.2.2.1 _ (by decide) (by decide)).2]; exact B.blk, by rw [q2]; exact B.bq, by rw [R.2.1.1]; exact B.sb, B.b64, by rw [(aw.2.2.1 _ (by decide) (by decide)).1, R.2.1.2.1]; exact B.num, by rw [R.2.1.2.1]; exact B.wno, by rw [(aw.2.2.1 _ (by decide) (by decide)).1]; exact B.lns, B.lnL, fun i hi => ?_, fun i hi => ?_, fun i hi => ?_, fun i hi => ?_, fun i hi => ?_, fun i r hi hr => ?_, fun i hi => ?_, fun p i hp hi => ?_, fun r hr => ?_, ?_⟩
        · rw [(aw.2.2.1 _ (by decide) (by decide)).1, B.pre i hi]
          exact decide_eq_decide.mpr (rLn_rs R).symm
        · rw [(aw.2.2.1 _ (by decide) (by decide)).1, (R.2.2.2.1 i hi).2.2.1]
          exact B.end_ i hi
        · rw [(aw.2.2.1 _ (by decide) (by decide)).1, (R.2.2.2.1 i hi).2.2.2]
          exact B.wai i hi
        · rw [(R.2.2.2.1 i hi).2.2.1]
          exact fun z => (rLn_rs R).mpr (B.le i hi z)
        · rw [(R.2.2.2.1 i hi).2.2.1, (R.2.2.2.1 i hi).2.2.2]
          exact fun z => ⟨(rLn_rs R).mpr (B.lw i hi z).1, (B.lw i hi z).2⟩
        · rw [a1.2.2.2, show 16 * (32 * s + i) + r = 512 * s + (16 * i + r) by omega, R.2.2.2.2 _ (by omega), show 512 * s + (16 * i + r) = 16 * (32 * s + i) + r by omega]
          exact B.reg i r hi hr
        · rw [a2.2.2.2, (R.2.2.2.1 i (by omega)).2.1]
          exact B.pla i hi
        · rw [a4.2.2.2, (R.2.2.2.1 i hi).1]
          exact B.prd p i hp hi
        · rw [a5.2.2.2, R.2.2.1 r hr]
          exact B.tic r hr
        · rw [(aw.2.2.1 _ (by decide) (by decide)).1, R.2.1.2.2]
          exact B.mem
      · have ew : gaW kc (x + 2) (gpl (aA hr m s) (aP hr m s) ln) = gaW hc (x + 2) (gpl (aA hr m s) (aP hr m s) ln) := by
          unfold gaW
          rw [q3]
        have et : gaT kc w ti (gaW hc (x + 2) (gpl (aA hr m s) (aP hr m s) ln)) = gaT hc w ti (gaW hc (x + 2) (gpl (aA hr m s) (aP hr m s) ln)) := by
          cases eo : gaW hc (x + 2) (gpl (aA hr m s) (aP hr m s) ln) with
          | none => rfl
          | some y =>
            have : y < hT hc ∧ hK hc y = 10 := by
              unfold gaW at eo
              split at eo
              · cases eo
              · next nz =>
                obtain ⟨j, hj, ej⟩ : ∃ j : Nat, j < 128 ∧ gpl (aA hr m s) (aP hr m s) ln = nI j := by
                  rcases pk_ix (gpl (aA hr m s) (aP hr m s) ln) (n := 128) (by decide) with z | z | z
                  · exact absurd (Or.inl z) nz
                  · exact absurd (Or.inr z) nz
                  · exact z
                rw [ej, nI_clamp (by omega)] at eo
                obtain ⟨y2, k1, k2, k3⟩ := K j hj
                rw [k1] at eo
                injection eo with eo
                subst eo
                exact ⟨k2, k3.k⟩
            obtain ⟨_, w2⟩ := A3 y this.1 this.2
            show tkm _ _ _ _ = tkm _ _ _ _
            rw [w2 _ (by decide) (by decide), w2 _ (by decide) (by decide), (aw.2.2.1 _ (by decide) (by decide)).1]
            congr 1
            funext j
            exact a5.2.2.2 j
        unfold Gt
        rw [eg.1, eg.2, ew, et, (aw.2.2.1 _ (by decide) (by decide)).1, (aw.2.2.1 _ (by decide) (by decide)).1, (aw.2.2.1 _ (by decide) (by decide)).1, (aw.2.2.1 _ (by decide) (by decide)).2]
        exact G
/-- lanes of a block that have not ended, and those that wait -/
def avB (h : Hp) (m b t : Nat) : Bool := decide (hA h (m + 9) (t / 32) = nI b) && decide (rLn h m (t / 32) (t % 32)) && decide (hA h (m + 16) t = 0)
def wtB (h : Hp) (m b t : Nat) : Bool := decide (hA h (m + 9) (t / 32) = nI b) && decide (¬ hA h (m + 17) t = 0)
/-- a block that is in a unit -/
def BlIn (hc hr : Hp) (x m b bl bi u : Nat) : Prop := u < 8 ∧ hR hc 450 bl = some (x + 15 + 3 * u) ∧ (∃ s, s < 128 ∧ hA hr (m + 9) s = nI b) ∧ (∀ s, s < 128 → hA hr (m + 9) s = nI b → s / 16 = u) ∧ hI hc 451 bl = hI hr 716 m ∧ hI hc 452 bl = hI hr 717 m ∧ hI hc 453 bl = nI (cn (avB hr m b) 4096) ∧ hI hc 454 bl = nI (cn (wtB hr m b) 4096) ∧ ∀ k, k < 64 → hA hc bi k = hA hr (m + 18) (64 * b + k)
def BlockOk (o : Nat → Nat) (hc hr : Hp) (x m lo b : Nat) : Prop := (hQ hc (x + 13) b = none ∧ ∀ s, s < 128 → ¬ hA hr (m + 9) s = nI b) ∨ ∃ bl bi, hQ hc (x + 13) b = some bl ∧ (hK hc bl = 8 ∧ hI hc 448 bl = nI b ∧ o bl = 1000 + 2 * b ∧ lo ≤ bl ∧ bl < hT hc) ∧ (hR hc 449 bl = some bi ∧ hK hc bi = 100 ∧ hN hc bi = 64 ∧ o bi = 1001 + 2 * b ∧ lo ≤ bi ∧ bi < hT hc) ∧ ((hR hc 450 bl = none ∧ ∀ s, s < 128 → ¬ hA hr (m + 9) s = nI b) ∨ ∃ u, BlIn hc hr x m b bl bi u)
