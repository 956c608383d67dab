/-! the law's loop -/
theorem Jb.rc2 {hc H K : Hp} {x m lo U0 nC : Nat} (S : Jb hc H x m lo U0 nC) (R : RC m (m + 29) H K) : Jb hc K x m lo U0 nC := by
  obtain ⟨o, ln, sl, nn, bk, ga, sz, c, al, S⟩ := S
  have M := S.m.1
  exact ⟨o, ln, sl, nn, bk, ga, sz, c, al, S.ref (M.rc R (by omega)) (fun f _ => ((R m (Nat.le_refl _) (by omega)).2.2.1 f).1) (fun a j h1 h2 => ((R a (by omega) (by omega)).2.2.2 j).1) (fun j => ((R (m + 1) (by omega) (by omega)).2.2.2 j).2.2)⟩
theorem J1.k {h : Hp} {x m U0 nC : Nat} (J : J1 h x m U0 nC) : hK h x = 1 ∧ hK h m = 12 ∧ hK h (m + 29) = 110 ∧ hN h (m + 29) = 1 ∧ m + 30 ≤ hT h := by
  obtain ⟨⟨o, ln, sl, nn, bk, ga, sz, c, al, S⟩, j1, j2⟩ := J
  obtain ⟨C, _, _, _, _, _, M, _, _, _, _, _, _, _, _, lh, _⟩ := S.vw
  exact ⟨C.k, M.k, j1, j2, lh⟩
theorem CallT.one {tc : Hp → Option (Nat × Hp)} {fc fr : Hp → Option (Int32 × Hp)} {cd : Nat → Int32} {h : Hp} {x m U0 nC : Nat} (A : CallT tc fc fr cd x m (m + 30) U0) (J : J1 h x m U0 nC) : ∃ e h1 w h2, tr (tc h) (fun k h1 => some (cd k, nw h1 0 0 6)) (cl (fc h) fun v h1 => gd (hK h1 (m + 29) = 110) <| ix 0 (hN h1 (m + 29)) fun j => some (0, sL h1 (m + 29) j (Int32.toInt64 v))) = some (e, h1) ∧ fr h1 = some (w, h2) ∧ hI h2 704 m = e ∧ J1 h2 x m U0 (nC + 1) ∧ hK h1 m = 12 ∧ hK h2 m = 12 ∧ (e = 0 → hL h2 (m + 29) 0 = Int32.toInt64 w) := by
  have JK := J.k
  obtain ⟨J, j1, j2⟩ := J
  have ml : m + 28 < m + 30 := by omega
  rcases A nC h h J with ⟨k, w, kr0, e1, _⟩ | ⟨v, kc, kr0, e1, e2, _, _, _, R1, _⟩
  · have RN : RC m (m + 29) h (nw h 0 0 6) := fun a h1 h2 => by
      have n : ¬ a = hT h := by omega
      exact ⟨by rw [qK_nw, if_neg n], by rw [qN_nw, if_neg n], fun f => ⟨by rw [qI_nw, if_neg n], by rw [qR_nw, if_neg n]⟩, fun j => ⟨by rw [qA_nw, if_neg n], by rw [qQ_nw, if_neg n], by rw [qL_nw, if_neg n]⟩⟩
    have J2 := J.rc2 RN
    rcases A nC h (nw h 0 0 6) J2 with ⟨k2, w2, kr, e3, e4, e5, e6, J3, R3⟩ | ⟨v, kc, kr, e3, _⟩
    · rw [e1] at e3
      cases e3
      have A3 : Fr (fun f a => (m ≤ a ∧ a < m + 30) ∨ hT h ≤ a) h kr := ((Fr.refl h).cN 0 0 6).trans ((R3.fr ml).mono (fun f a ha y => by rw [qT_nw] at y; omega))
      have J4 : Jb kr kr x m (m + 30) U0 (nC + 1) := by
        obtain ⟨o, ln, sl, nn, bk, ga, sz, c, al, S⟩ := J3
        exact ⟨o, ln, sl, nn, bk, ga, sz, c, al, S.cls (d := 1) A3 (by rw [R3.1.1, qT_nw]) (by rw [R3.1.2.1, qU_nw]; omega)⟩
      have n29 : ¬ m + 29 = hT h := by omega
      refine ⟨cd k, nw h 0 0 6, w2, kr, by rw [e1]; rfl, e4, e5, ⟨J4, ?_, ?_⟩, ?_, ?_, fun z => absurd z e6⟩
      · rw [R3.1.2.2.1, qK_nw, if_neg n29]; exact j1
      · rw [R3.1.2.2.2.1, qN_nw, if_neg n29]; exact j2
      · rw [(RN m (by omega) (by omega)).1]; exact JK.2.1
      · rw [R3.1.2.2.1, (RN m (by omega) (by omega)).1]; exact JK.2.1
    · rw [e1] at e3; cases e3
  · have kK : hK kc (m + 29) = 110 := (R1 (m + 29) (by omega) (by omega)).1.trans j1
    have kN : hN kc (m + 29) = 1 := (R1 (m + 29) (by omega) (by omega)).2.1.trans j2
    have RN : RC m (m + 29) h (sL kc (m + 29) 0 (Int32.toInt64 v)) := fun a h1 h2 => by
      obtain ⟨r1, r2, r3, r4⟩ := R1 a h1 (by omega)
      exact ⟨by rw [qK_sL]; exact r1, by rw [qN_sL]; exact r2, fun f => ⟨by rw [qI_sL]; exact (r3 f).1, by rw [qR_sL]; exact (r3 f).2⟩, fun j => ⟨by rw [qA_sL]; exact (r4 j).1, by rw [qQ_sL]; exact (r4 j).2.1, by rw [qL_sL, if_neg (fun y => by omega)]; exact (r4 j).2.2⟩⟩
    have J2 := J.rc2 RN
    rcases A nC h _ J2 with ⟨k2, w2, kr, e3, _⟩ | ⟨v2, kc2, kr, _, e4, e5, e6, J3, R3, R4⟩
    · rw [e1] at e3; cases e3
    · rw [e2] at e4
      cases e4
      have A3 : Fr (fun f a => (m ≤ a ∧ a < m + 30) ∨ hT kc ≤ a) kc kr := ((Fr.refl kc).cL (Or.inl ⟨by omega, by omega⟩)).trans ((R4.fr ml).mono (fun f a ha y => by rw [qT_sL] at y; exact y))
      have J4 : Jb kr kr x m (m + 30) U0 (nC + 1) := by
        obtain ⟨o, ln, sl, nn, bk, ga, sz, c, al, S⟩ := J3
        exact ⟨o, ln, sl, nn, bk, ga, sz, c, al, (S.cls (d := 0) A3 (by rw [R4.1.1, qT_sL]; rfl) (by rw [R4.1.2.1, qU_sL]; omega)).nc (by omega)⟩
      refine ⟨0, sL kc (m + 29) 0 (Int32.toInt64 v), v, kr, ?_, e5, e6, ⟨J4, ?_, ?_⟩, ?_, ?_, fun _ => ?_⟩
      · rw [e1, e2]
        show (cl (some (v, kc)) fun v h1 => gd (hK h1 (m + 29) = 110) <| ix 0 (hN h1 (m + 29)) fun j => some (0, sL h1 (m + 29) j (Int32.toInt64 v))) = _
        rw [cl_some, gd_t kK, kN, show (0 : Int32) = nI 0 from rfl, ixn (by omega) (by decide)]
      · rw [R4.1.2.2.1, qK_sL]; exact kK
      · rw [R4.1.2.2.2.1, qN_sL]; exact kN
      · rw [(RN m (by omega) (by omega)).1]; exact JK.2.1
      · rw [R4.1.2.2.1, (RN m (by omega) (by omega)).1]; exact JK.2.1
      · rw [R4.2.2.2 (m + 29) 0 (by omega), qL_sL, if_pos ⟨rfl, rfl⟩]
theorem lg_eq (v : Int64) : lg_cmp v v = 0 := by
  unfold lg_cmp
  simp
theorem law_loop {F sl x m U0 : Nat} {sx : Nat → Int32} (hF : 40000 ≤ F) (hsl : sl ≤ 3584) : ∀ (d i N nC : Nat) (h : Hp), sl < i + 7 * (d + 1) → i ≤ sl → d < N → J1 h x m U0 nC → ∃ kr nD, b_Law_law_23 F sl sx N x m (m + 29) (nI i) h = some (1, kr) ∧ J1 kr x m U0 nD ∧ nD ≤ nC + d := by
  have dn : ∀ (i N nC : Nat) (h : Hp), sl < i + 7 → i ≤ sl → J1 h x m U0 nC → b_Law_law_23 F sl sx (N + 1) x m (m + 29) (nI i) h = some (1, h) := fun i N nC h e1 e2 J => by
    rw [b_Law_law_23]
    dsimp only
    rw [if_pos]
    refine Int32.lt_iff_toInt_lt.mpr ?_
    rw [show (7 : Int32) = nI 7 from rfl, pk_sub_toInt (by omega) (by omega), nI_toInt (by omega)]
    omega
  intro d
  induction d with
  | zero =>
    intro i N nC h e1 e2 e3 J
    obtain ⟨N, rfl⟩ : ∃ k, N = k + 1 := ⟨N - 1, by omega⟩
    exact ⟨h, nC, dn i N nC h (by omega) e2 J, J, by omega⟩
  | succ d ih =>
    intro i N nC h e1 e2 e3 J
    obtain ⟨N, rfl⟩ : ∃ k, N = k + 1 := ⟨N - 1, by omega⟩
    by_cases fin : sl < i + 7
    · exact ⟨h, nC, dn i N nC h fin e2 J, J, by omega⟩
    have JK := J.k
    have a1 : nI i + (1 : Int32) = nI (i + 1) := nI_add i 1
    have a2 : nI i + (2 : Int32) = nI (i + 2) := nI_add i 2
    have a3 : nI i + (3 : Int32) = nI (i + 3) := nI_add i 3
    have a4 : nI i + (4 : Int32) = nI (i + 4) := nI_add i 4
    have a5 : nI i + (5 : Int32) = nI (i + 5) := nI_add i 5
    have a6 : nI i + (6 : Int32) = nI (i + 6) := nI_add i 6
    have a7 : nI i + (7 : Int32) = nI (i + 7) := nI_add i 7
    have next : ∀ h2, J1 h2 x m U0 (nC + 1) → ∃ kr nD, b_Law_law_23 F sl sx N x m (m + 29) (nI (i + 7)) h2 = some (1, kr) ∧ J1 kr x m U0 nD ∧ nD ≤ nC + (d + 1) := fun h2 J2 => by
      obtain ⟨kr, nD, r1, r2, r3⟩ := ih (i + 7) N (nC + 1) h2 (by omega) (by omega) (by omega) J2
      exact ⟨kr, nD, r1, r2, by omega⟩
    rw [b_Law_law_23]
    dsimp only
    rw [if_neg (fun z => by
      have := Int32.lt_iff_toInt_lt.mp z
      rw [show (7 : Int32) = nI 7 from rfl, pk_sub_toInt (by omega) (by omega), nI_toInt (by omega)] at this
      omega), ixn (by omega) (by omega)]
    generalize sx i &&& (15 : Int32) = op
    rw [a1, a2, a3, a4, a5, a6, a7]
    by_cases q0 : op = 0
    · obtain ⟨v, h1, h2, c1, c2, J2, ck⟩ := (k_sizes (F := F) (x := x) (m := m) (lo := m + 30) (U0 := U0) hF (sx (i + 1)) (sx (i + 2)) (sx (i + 3)) (sx (i + 4)) (sx (i + 5)) (sx (i + 6))).one J
      rw [if_pos q0, ixn (by omega) (by omega), ixn (by omega) (by omega), ixn (by omega) (by omega), ixn (by omega) (by omega), ixn (by omega) (by omega), ixn (by omega) (by omega), gd_t JK.1, c1, cl_some, ixn (by omega) (by omega), ixn (by omega) (by omega), ixn (by omega) (by omega), ixn (by omega) (by omega), ixn (by omega) (by omega), ixn (by omega) (by omega), gd_t ck, c2, cl_some, if_pos rfl]
      exact next h2 J2
    rw [if_neg q0]
    by_cases q1 : op = 1
    · obtain ⟨v, h1, h2, c1, c2, J2, ck⟩ := (k_word (F := F) (x := x) (m := m) (lo := m + 30) (U0 := U0) (sx (i + 1)) (((Int32.toInt64 (sx (i + 2))) <<< (Int32.toInt64 (32 : Int32) &&& 63)) ||| ((Int32.toInt64 (sx (i + 3))) &&& (4294967295 : Int64)))).one J
      rw [if_pos q1, ixn (by omega) (by omega), ixn (by omega) (by omega), ixn (by omega) (by omega), gd_t JK.1, c1, cl_some, ixn (by omega) (by omega), ixn (by omega) (by omega), ixn (by omega) (by omega), gd_t ck, c2, cl_some, if_pos rfl]
      exact next h2 J2
    rw [if_neg q1]
    by_cases q2 : op = 2
    · obtain ⟨v, h1, h2, c1, c2, J2, ck⟩ := (k_set (F := F) (x := x) (m := m) (lo := m + 30) (U0 := U0) (sx (i + 1)) (sx (i + 2))).one J
      rw [if_pos q2, ixn (by omega) (by omega), ixn (by omega) (by omega), gd_t JK.1, c1, cl_some, ixn (by omega) (by omega), ixn (by omega) (by omega), gd_t ck, c2, cl_some, if_pos rfl]
      exact next h2 J2
    rw [if_neg q2]
    by_cases q3 : op = 3
    · obtain ⟨v, h1, h2, c1, c2, J2, ck⟩ := (k_launch (F := F) (x := x) (m := m) (lo := m + 30) (U0 := U0) hF (sx (i + 1)) (sx (i + 2))).one J
      rw [if_pos q3, ixn (by omega) (by omega), ixn (by omega) (by omega), gd_t JK.1, c1, cl_some, ixn (by omega) (by omega), ixn (by omega) (by omega), gd_t ck, c2, cl_some, if_pos rfl]
      exact next h2 J2
    rw [if_neg q3]
    by_cases q4 : op = 4
    · obtain ⟨e, h1, w, h2, c1, c2, c3, J2, ck, ck2, c5⟩ := (k_run (F := F) (x := x) (m := m) (lo := m + 30) (U0 := U0) hF (sx (i + 1))).one J
      have J2K := J2.k
      have lw : f_Law_run F (some x) (sx (i + 1)) (some (m + 29)) h = some (e, h1) := by
        rw [f_Law_run, rq_k rfl JK.2.2.1, rq_k rfl JK.1]
        have fe : (fun (k : Nat) (h1 : Hp) => if k = 12 then some ((1 : Int32), nw h1 0 0 6) else some (2, nw h1 0 0 6)) = (fun (k : Nat) (h1 : Hp) => some ((if k = 12 then (1 : Int32) else 2), nw h1 0 0 6)) := funext fun k => funext fun h1 => by
          by_cases z : k = 12
          · rw [if_pos z, if_pos z]
          · rw [if_neg z, if_neg z]
        rw [fe]
        exact c1
      rw [if_pos q4, ixn (by omega) (by omega), lw, cl_some, ixn (by omega) (by omega), gd_t ck, c2, cl_some, gd_t ck2, c_Mod_thrown ck2, cl_some, if_pos c3, b_Law_law_391, a7]
      by_cases z : e = 0
      · rw [if_pos z, gd_t J2K.2.2.1, J2K.2.2.2.1, show (0 : Int32) = nI 0 from rfl, ixn (by omega) (by decide), c5 z, lg_eq, if_pos (by decide)]
        exact next h2 J2
      · rw [if_neg z]
        exact next h2 J2
    rw [if_neg q4]
    by_cases q5 : op = 5
    · obtain ⟨v, h1, h2, c1, c2, J2, ck⟩ := (k_stop (F := F) (x := x) (m := m) (lo := m + 30) (U0 := U0) hF).one J
      rw [if_pos q5, gd_t JK.1, c1, cl_some, gd_t ck, c2, cl_some, if_pos rfl]
      exact next h2 J2
    rw [if_neg q5]
    by_cases q6 : op = 6
    · obtain ⟨e, h1, w, h2, c1, c2, c3, J2, ck, ck2, c5⟩ := (k_global (F := F) (x := x) (m := m) (lo := m + 30) (U0 := U0) (sx (i + 1))).one J
      have J2K := J2.k
      have lw : f_Law_global F (some x) (sx (i + 1)) (some (m + 29)) h = some (e, h1) := by
        rw [f_Law_global, rq_k rfl JK.2.2.1, rq_k rfl JK.1]
        exact c1
      rw [if_pos q6, ixn (by omega) (by omega), lw, cl_some, ixn (by omega) (by omega), gd_t ck, c2, cl_some, gd_t ck2, c_Mod_thrown ck2, cl_some, if_pos c3, b_Law_law_460, a7]
      by_cases z : e = 0
      · rw [if_pos z, gd_t J2K.2.2.1, J2K.2.2.2.1, show (0 : Int32) = nI 0 from rfl, ixn (by omega) (by decide), c5 z, lg_eq, if_pos (by decide)]
        exact next h2 J2
      · rw [if_neg z]
        exact next h2 J2
    rw [if_neg q6]
    by_cases q7 : op = 7
    · obtain ⟨v, h1, h2, c1, c2, J2, ck⟩ := (k_state (F := F) (x := x) (m := m) (lo := m + 30) (U0 := U0) (sx (i + 1))).one J
      rw [if_pos q7, ixn (by omega) (by omega), gd_t JK.1, c1, cl_some, ixn (by omega) (by omega), gd_t ck, c2, cl_some, if_pos rfl]
      exact next h2 J2
    rw [if_neg q7]
    by_cases q8 : op = 8
    · obtain ⟨v, h1, h2, c1, c2, J2, ck⟩ := (k_unit (F := F) (x := x) (m := m) (lo := m + 30) (U0 := U0) (sx (i + 1)) (sx (i + 2))).one J
      rw [if_pos q8, ixn (by omega) (by omega), ixn (by omega) (by omega), gd_t JK.1, c1, cl_some, ixn (by omega) (by omega), ixn (by omega) (by omega), gd_t ck, c2, cl_some, if_pos rfl]
      exact next h2 J2
    rw [if_neg q8]
    by_cases q9 : op = 9
    · obtain ⟨v, h1, h2, c1, c2, J2, ck⟩ := (k_cached (F := F) (x := x) (m := m) (lo := m + 30) (U0 := U0) (sx (i + 1)) (sx (i + 2))).one J
      rw [if_pos q9, ixn (by omega) (by omega), ixn (by omega) (by omega), gd_t JK.1, c1, cl_some, ixn (by omega) (by omega), ixn (by omega) (by omega), gd_t ck, c2, cl_some, if_pos rfl]
      exact next h2 J2
    rw [if_neg q9]
    by_cases q10 : op = 10
    · obtain ⟨v, h1, h2, c1, c2, J2, ck⟩ := (k_slot (F := F) (x := x) (m := m) (lo := m + 30) (U0 := U0) hF (sx (i + 1)) (sx (i + 2)) (sx (i + 3))).one J
      rw [if_pos q10, ixn (by omega) (by omega), ixn (by omega) (by omega), ixn (by omega) (by omega), gd_t JK.1, c1, cl_some, ixn (by omega) (by omega), ixn (by omega) (by omega), ixn (by omega) (by omega), gd_t ck, c2, cl_some, if_pos rfl]
      exact next h2 J2
    rw [if_neg q10]
    by_cases q11 : op = 11
    · obtain ⟨e, h1, w, h2, c1, c2, c3, J2, ck, ck2, c5⟩ := (k_lane (F := F) (x := x) (m := m) (lo := m + 30) (U0 := U0) hF (sx (i + 1)) (sx (i + 2)) (sx (i + 3)) (sx (i + 4))).one J
      have J2K := J2.k
      have lw : f_Law_lane F (some x) (sx (i + 1)) (sx (i + 2)) (sx (i + 3)) (sx (i + 4)) (some (m + 29)) h = some (e, h1) := by
        rw [f_Law_lane, rq_k rfl JK.2.2.1, rq_k rfl JK.1]
        exact c1
      rw [if_pos q11, ixn (by omega) (by omega), ixn (by omega) (by omega), ixn (by omega) (by omega), ixn (by omega) (by omega), lw, cl_some, ixn (by omega) (by omega), ixn (by omega) (by omega), ixn (by omega) (by omega), ixn (by omega) (by omega), gd_t ck, c2, cl_some, gd_t ck2, c_Mod_thrown ck2, cl_some, if_pos c3, b_Law_law_700, a7]
      by_cases z : e = 0
      · rw [if_pos z, gd_t J2K.2.2.1, J2K.2.2.2.1, show (0 : Int32) = nI 0 from rfl, ixn (by omega) (by decide), c5 z, lg_eq, if_pos (by decide)]
        exact next h2 J2
      · rw [if_neg z]
        exact next h2 J2
    rw [if_neg q11]
    by_cases q12 : op = 12
    · obtain ⟨e, h1, w, h2, c1, c2, c3, J2, ck, ck2, c5⟩ := (k_shared (F := F) (x := x) (m := m) (lo := m + 30) (U0 := U0) hF (sx (i + 1)) (sx (i + 2))).one J
      have J2K := J2.k
      have lw : f_Law_shared F (some x) (sx (i + 1)) (sx (i + 2)) (some (m + 29)) h = some (e, h1) := by
        rw [f_Law_shared, rq_k rfl JK.2.2.1, rq_k rfl JK.1]
        exact c1
      rw [if_pos q12, ixn (by omega) (by omega), ixn (by omega) (by omega), lw, cl_some, ixn (by omega) (by omega), ixn (by omega) (by omega), gd_t ck, c2, cl_some, gd_t ck2, c_Mod_thrown ck2, cl_some, if_pos c3, b_Law_law_768, a7]
      by_cases z : e = 0
      · rw [if_pos z, gd_t J2K.2.2.1, J2K.2.2.2.1, show (0 : Int32) = nI 0 from rfl, ixn (by omega) (by decide), c5 z, lg_eq, if_pos (by decide)]
        exact next h2 J2
      · rw [if_neg z]
        exact next h2 J2
    rw [if_neg q12]
    obtain ⟨kr, nD, r1, r2, r3⟩ := ih (i + 7) N nC h (by omega) (by omega) (by omega) J
    exact ⟨kr, nD, r1, r2, by omega⟩
