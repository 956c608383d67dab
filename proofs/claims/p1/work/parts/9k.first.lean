/-! the first state -/
theorem CIni.cd {k : Hp} {x : Nat} (I : CIni k x) : Cd k x := by
  obtain ⟨⟨p1, p2, p3, p4, _⟩, ⟨m1, m2, m3, m4, m5, m6, m7, _⟩, ⟨q1, q2, q3, q4, _⟩, _, _, u, _⟩ := I
  exact ⟨p1, p2, p3, ⟨q1, p4⟩, m1, m2, m3, m4, m5, m6, m7, q2, q3, q4, fun v hv => ⟨(u v hv).1, (u v hv).2.1.1, (u v hv).2.1.2.1, (u v hv).2.1.2.2.1, (u v hv).2.1.2.2.2.1, (u v hv).2.1.2.2.2.2.1, (u v hv).2.1.2.2.2.2.2.1, (u v hv).2.1.2.2.2.2.2.2⟩⟩
/-- what the reference's constructor leaves -/
def RIni (h : Hp) (m : Nat) : Prop := Md h m ∧ (hI h 705 m = 4 ∧ hI h 706 m = 4 ∧ hI h 707 m = 2 ∧ hI h 708 m = 4 ∧ hI h 709 m = 2 ∧ hI h 710 m = 512) ∧ (∀ f, 711 ≤ f → ¬ f = 746 → hI h f m = 0) ∧ (∀ j, hA h (m + 2) j = 0) ∧ (∀ j, hL h (m + 1) j = 0) ∧ (∀ t, t < 128 → hA h (m + 9) t = -1) ∧ (∀ j, j < 32 → hA h (m + 3) j = -1) ∧ (∀ u, u < 8 → hA h (m + 5) u = 0 ∧ hA h (m + 6) u = 0 ∧ hA h (m + 7) u = 3 ∧ hA h (m + 8) u = 0 ∧ hA h (m + 4) u = 0)
theorem first_sm {h : Hp} {x m : Nat} (C : CIni h x) (R : RIni h m) (em : m = x + 39) (t : hT h = m + 30) (nK : ∀ a, m ≤ a → a < m + 30 → 12 ≤ hK h a) (al0 : hI h 326 (x + 11) = 0) : Sm (fun _ => 0) h h x m (m + 30) 4 4 2 4 2 512 0 0 (1281 * 0) (hU h) 0 0 := by
  have Cd1 := C.cd
  obtain ⟨⟨p1, p2, p3, p4, z0, z1, z2, z3, z4, z5⟩, ⟨_, _, _, _, _, _, _, n1, n2, n3, n4, n5, n6, n7, n8, n9, n10⟩, ⟨_, _, _, _, _, q6, q7⟩, kn, W, U, _⟩ := C
  obtain ⟨M, ⟨y0, y1, y2, y3, y4, y5⟩, r1, r2, r3, r4, r5, r6⟩ := R
  have Z : Sz h m 4 4 2 4 2 512 := ⟨y0, y1, y2, y3, y4, y5, ⟨2, by omega, rfl⟩, by omega, by omega, ⟨2, by omega, rfl⟩, by omega, by omega⟩
  have sl : ∀ t, t < 128 → hQ h (x + 16 + 3 * (t / 16)) (t % 16) = none := fun t ht => (U (t / 16) (by omega)).2.2.2 _
  have X : Sx (fun _ => 0) h h x m (m + 30) 4 4 := ⟨Cd1, fun k hk => ⟨x + 14, kn k hk, by omega, by rw [r3]; exact W⟩, by omega, by omega, fun u hu => (U u hu).2.2.1.1, by omega, y0, by omega, fun t ht => Or.inl ⟨sl t ht, r4 t ht⟩, fun c hc => Or.inl ⟨q7 c, fun s hs e => by rw [r4 s hs] at e; exact nI_m1 (by omega) e.symm⟩, fun t ht n => absurd (r4 t ht) n, fun u hu => by rw [(U u hu).2.2.1.2.1, cn_true 4 (fun i hi => decide_eq_true (r4 _ (by omega)))]; rfl⟩
  have T : Ty h h x m := by
    refine ⟨fun j hj => ?_, by rw [q6, r1 _ (by omega) (by omega)], by rw [q6, r1 _ (by omega) (by omega)], by rw [q6, r1 _ (by omega) (by omega)], fun j hj => by rw [q6, r1 _ (by omega) (by omega)], fun j hj => by rw [q6, r1 _ (by omega) (by omega)], fun u hu => ?_⟩
    · have : j = 0 ∨ j = 1 ∨ j = 2 ∨ j = 3 ∨ j = 4 ∨ j = 5 := by omega
      rcases this with w | w | w | w | w | w <;> rw [w]
      · exact z0.trans y0.symm
      · exact z1.trans y1.symm
      · exact z2.trans y2.symm
      · exact z3.trans y3.symm
      · exact z4.trans y4.symm
      · exact z5.trans y5.symm
    · obtain ⟨_, _, v3, v4, v5, v6⟩ := (U u hu).2.2.1
      obtain ⟨w1, w2, w3, w4, w5⟩ := r6 u hu
      exact ⟨by rw [v3, w3], by rw [v4, w4], by rw [v5, w1], by rw [v6, w2]⟩
  have ca : CaIs h x (cs0 h m) := ⟨fun p hp => by rw [n7 p hp]; exact (r5 p hp).symm, fun g hg => by rw [n8]; exact (r6 g hg).2.2.2.2.symm, by rw [n3]; exact (r1 723 (by omega) (by omega)).symm, by rw [n4]; exact (r1 724 (by omega) (by omega)).symm⟩
  have pt : PT h x = 0 := by
    unfold PT
    have e1 : cn (potB h x) 64 = 0 := cn_0 64 (fun b hb => by unfold potB; rw [q7]; rfl)
    have e2 : sumN (potS h x) 128 = sumN (fun _ => 0) 128 := sumN_congr 128 (fun s hs => by unfold potS; rw [sl s hs])
    have e3 : ∀ n, sumN (fun _ => 0) n = 0 := fun n => by
      induction n with
      | zero => rfl
      | succ n ih => exact ih
    rw [e1, e2, e3]
  refine ⟨M, by omega, by omega, by omega, nK, X, Z, T, fun p _ => by rw [n6, r2], n1, fun p _ _ => r2 p, ca, fun g hg => ⟨0, by omega, (r6 g hg).2.2.2.2⟩, fun u hu => ⟨3, by omega, (r6 u hu).2.2.1⟩, r1 719 (by omega) (by omega), ⟨[], fun _ => [], [], fun _ => 0, ⟨r1 745 (by omega) (by omega), fun k r e => (by cases e), fun r hr => (by cases hr)⟩, ⟨fun r hr => n9 r, fun r hr => n10 r, fun r hr q hq => (by cases hq), fun r hr => List.nodup_nil, fun r hr q hq => (by cases hq)⟩, ⟨n2, List.nodup_nil, fun a ha => (by cases ha)⟩, fun r hr p => rfl, n5, List.nodup_nil, fun r hr => (by cases hr), rfl⟩, by rw [pt]; omega, by rw [t]; omega, by omega⟩
