/-! the meeting, whatever it is -/
theorem meet_all {o : Nat → Nat} {hc hr : Hp} {x m lo ln sl s b w rg pl ro pr ti L bl : Nat} {F : Nat} {kr : Hp} (hF : 40000 ≤ F) (E : ME o hc hr x m lo ln sl s b w rg pl ro pr ti L bl) (q : kr = seH hr m ln (nI b) (allW hr m ln (nI b)) (allE hr m ln (nI b)) ∨ (kr = hr ∧ ∃ i, i < 32 ∧ rAw hr m s i)) (td : hI hc 324 (x + 11) = hI hr 725 m) : ∃ kc, b_WM_go_225 F x w hc = some kc ∧ MR o hc kc kr x m lo ln sl ∧ hI kc 324 (x + 11) = hI kr 725 m := by
  obtain ⟨bi, u, ⟨k1, k2, k3, k4, k5⟩, i, u1, u2, u3, u4, u5, u6, u7, u8, u9⟩ := E.bl
  have iE := allE_iff (h := hr) (m := m) (b := b) E.hl E.l32
  have iW := allW_iff (h := hr) (m := m) (b := b) E.hl E.l32 E.lw
  have la := cn_le (avB hr m b) 4096
  have lw := cn_le (wtB hr m b) 4096
  have sub : ∀ t, t < 4096 → wtB hr m b t = true → avB hr m b t = true := by
    intro t ht z
    unfold wtB at z
    obtain ⟨q1, q2⟩ := Bool.and_eq_true_iff.mp z
    have := E.lw (t / 32) (t % 32) (by omega) (by omega) (of_decide_eq_true q1) (by rw [show 32 * (t / 32) + t % 32 = t by omega]; exact of_decide_eq_true q2)
    rw [show 32 * (t / 32) + t % 32 = t by omega] at this
    unfold avB
    rw [q1, decide_eq_true this.1, decide_eq_true this.2]
    rfl
  obtain ⟨le1, eq1⟩ := cn_sub_eq sub
  have hs := E.hs
  have aw : ∀ j, j < 32 → rAw hr m s j → avB hr m b (32 * s + j) = true ∧ wtB hr m b (32 * s + j) = false := by
    intro j hj z
    unfold avB wtB
    rw [show (32 * s + j) / 32 = s by omega, show (32 * s + j) % 32 = j by omega, decide_eq_true E.B.sb, decide_eq_true z.1, decide_eq_true z.2.1, decide_eq_false (fun y => y z.2.2)]
    exact ⟨rfl, rfl⟩
  have ee : ∀ p2 p3, hI (seH hr m ln (nI b) p2 p3) 725 m = hI hr 725 m + bI (p3 = true) := fun p2 p3 => by
    unfold seH
    rw [qI_sI, if_pos ⟨rfl, rfl⟩]
  by_cases h0 : cn (avB hr m b) 4096 = 0
  · have eE := iE.mpr h0
    have eW := iW.mpr (by omega)
    rcases q with q | ⟨_, j, hj, z⟩
    · rw [eE, eW] at q
      subst q
      obtain ⟨kc, g1, g2, g3⟩ := meetB hF E (by rw [u7, h0]; rfl)
      exact ⟨kc, g1, g2, by rw [g3, ee, td]; rfl⟩
    · have := cn_eq0.mp h0 (32 * s + j) (by omega)
      rw [(aw j hj z).1] at this
      cases this
  · have na : ¬ hI hc 453 bl = 0 := by rw [u7]; exact nI_ne0 (by omega) (by omega)
    have eE : allE hr m ln (nI b) = false := by
      cases z : allE hr m ln (nI b) with
      | false => rfl
      | true => exact absurd (iE.mp z) h0
    by_cases h1 : cn (wtB hr m b) 4096 = cn (avB hr m b) 4096
    · have eW := iW.mpr h1
      rcases q with q | ⟨_, j, hj, z⟩
      · rw [eE, eW] at q
        subst q
        obtain ⟨kc, g1, g2, g3⟩ := meetC hF E na (by rw [u7, u8, h1])
        exact ⟨kc, g1, g2, by rw [g3, ee, td]; exact (Int32.add_zero _).symm⟩
      · have := eq1.mp h1 (32 * s + j) (by omega) (aw j hj z).1
        rw [(aw j hj z).2] at this
        cases this
    · have nw : ¬ hI hc 454 bl = hI hc 453 bl := by
        rw [u7, u8]
        exact fun z => h1 ((nI_eq (by omega) (by omega)).mp z)
      have eW : allW hr m ln (nI b) = false := by
        cases z : allW hr m ln (nI b) with
        | false => rfl
        | true => exact absurd (iW.mp z) h1
      rcases q with q | ⟨q, _⟩
      · rw [eE, eW] at q
        subst q
        obtain ⟨kc, g1, g2, g3⟩ := meetA (kr := seH hr m ln (nI b) false false) hF E na nw (fun t ht => se_rs ht (Or.inr ⟨rfl, rfl⟩)) (se_I (by decide)) (fun j => by rw [se_A, stG_o (by omega) (by omega)]) (fun k _ => by unfold seH; rw [qL_sI, qL_oA])
        exact ⟨kc, g1, g2, by rw [g3, ee, td]; exact (Int32.add_zero _).symm⟩
      · subst q
        obtain ⟨kc, g1, g2, g3⟩ := meetA (kr := kr) hF E na nw (fun t _ => rs_refl ..) rfl (fun _ => rfl) (fun _ _ => rfl)
        exact ⟨kc, g1, g2, by rw [g3, td]⟩
