/-! traps, shared memory, global memory: the state again -/
theorem trap_st {o : Nat → Nat} {hc H k0 h0 kc kr : Hp} {x m lo ln sl nu bk ga sz c G U0 nC Ta s b w rg pl ro pr ti L bl i : Nat} {why : Int32} (S : Sm o hc H x m lo ln sl nu bk ga sz c (c + 1) G U0 nC Ta) (B : Wb hc H x m s ln b w rg pl pr ti L bl) (X2 : Sx o kc kr x m lo ln sl) (lr : lo ≤ ro) (kro : hK hc ro = 100) (e0 : hT k0 = hT hc ∧ hU k0 = hU hc ∧ hK k0 = hK hc ∧ hN k0 = hN hc ∧ hR k0 = hR hc ∧ hQ k0 = hQ hc ∧ hL k0 = hL hc ∧ hI k0 = hI hc) (a0 : ∀ a j, ¬ a = ro → hA k0 a j = hA hc a j) (R0 : Scr m H h0) (ekc : kc = tpH k0 x w bl why (nI i)) (ekr : kr = rTrap h0 m s i why) (bn : hI hc 448 bl = nI b) (pl2 : hI hc 519 w = hA H (m + 15) (32 * s + i)) (nw : ¬ why = 0) : GoR o hc H kc kr x m lo ln sl nu bk ga sz c G U0 nC := by
  have X := S.X
  have T := S.T
  have hx := X.hx
  have lx := X.lx
  have C := X.C
  obtain ⟨e1, e2, e3, e4, e5, e6, e7, e8⟩ := e0
  have cI : ∀ f a, ¬ (a = x + 11 ∧ 330 ≤ f ∧ f ≤ 333) → hI kc f a = hI hc f a := fun f a z => by
    rw [ekc]
    unfold tpH
    rw [qI_sI, if_neg (by omega), qI_sI, if_neg (by omega), qI_sI, if_neg (by omega), qI_sI, if_neg (by omega), e8]
  have cA : ∀ a j, ¬ a = ro → hA kc a j = hA hc a j := fun a j z => by
    rw [ekc]
    unfold tpH
    rw [qA_sI, qA_sI, qA_sI, qA_sI, a0 a j z]
  have cO : hT kc = hT hc ∧ hU kc = hU hc ∧ hK kc = hK hc ∧ hN kc = hN hc ∧ hR kc = hR hc ∧ hQ kc = hQ hc ∧ hL kc = hL hc := by
    rw [ekc]
    unfold tpH
    simp only [qT_sI, qU_sI, qK_sI, qN_sI, qR_sI, qQ_sI, qL_sI]
    exact ⟨e1, e2, e3, e4, e5, e6, e7⟩
  obtain ⟨o1, o2, o3, o4, o5, o6, o7⟩ := cO
  have FK : Fr (PZ x lo hc) hc kc := ⟨by rw [o1]; exact Nat.le_refl _, fun a ha => ⟨by rw [o3], by rw [o4], fun f nP => ⟨cI f a (fun y => nP (Or.inr (Or.inr (Or.inr (Or.inl y.1))))), by rw [o5]⟩, fun nP j => ⟨cA a j (fun y => nP (Or.inr (Or.inr (Or.inl ⟨by rw [y]; exact lr, by rw [y]; exact kro, rfl⟩)))), by rw [o6], by rw [o7]⟩⟩⟩
  have kI : ∀ f, ¬ f = 715 → ¬ (727 ≤ f ∧ f ≤ 730) → ¬ (756 ≤ f ∧ f ≤ 762) → hI kr f m = hI H f m := fun f n1 n2 n3 => by rw [ekr, tr_I n1 n2, R0.i n3]
  have kA : ∀ a j, ¬ ((m + 25) ≤ a ∧ a ≤ (m + 28)) → hA kr a j = hA H a j := fun a j n => by rw [ekr, tr_A, R0.a n]
  have RT : Rf m (fun f => f = 715 ∨ (727 ≤ f ∧ f ≤ 730) ∨ (756 ≤ f ∧ f ≤ 762)) (fun a => (m + 25) ≤ a ∧ a ≤ (m + 28)) H kr := by
    rw [ekr]
    unfold rTrap
    exact (((((R0.mono (fun f z => by omega) (fun a z => z)).cI (by omega)).cI (by omega)).cI (by omega)).cI (by omega)).cI (by omega)
  have T2 : Ty kc kr x m := by
    refine ⟨fun j hj => ?_, ?_, ?_, ?_, fun j hj => ?_, fun j hj => ?_, fun t ht => ?_⟩
    · rw [cI _ _ (by omega), kI _ (by omega) (by omega) (by omega)]; exact T.sz j hj
    · rw [cI _ _ (by omega), kI _ (by omega) (by omega) (by omega)]; exact T.en
    · rw [cI _ _ (by omega), kI _ (by omega) (by omega) (by omega)]; exact T.cy
    · rw [cI _ _ (by omega), kI _ (by omega) (by omega) (by omega)]; exact T.al
    · rw [cI _ _ (by omega), kI _ (by omega) (by omega) (by omega)]; exact T.wd j hj
    · rw [ekc, ekr]
      unfold tpH rTrap
      match j, hj with
      | 0, _ => rw [qI_sI, if_neg (fun z => by cases z.1), qI_sI, if_neg (fun z => by cases z.1), qI_sI, if_neg (fun z => by cases z.1), qI_sI, if_pos ⟨rfl, rfl⟩, qI_sI, if_neg (fun z => by cases z.1), qI_sI, if_neg (fun z => by cases z.1), qI_sI, if_neg (fun z => by cases z.1), qI_sI, if_pos ⟨rfl, rfl⟩]
      | 1, _ => rw [qI_sI, if_neg (fun z => by cases z.1), qI_sI, if_neg (fun z => by cases z.1), qI_sI, if_pos ⟨rfl, rfl⟩, qI_sI, if_neg (fun z => by cases z.1), qI_sI, if_neg (fun z => by cases z.1), qI_sI, if_pos ⟨rfl, rfl⟩, e8, bn, R0.a (by omega), B.sb]
      | 2, _ => rw [qI_sI, if_neg (fun z => by cases z.1), qI_sI, if_pos ⟨rfl, rfl⟩, qI_sI, if_neg (fun z => by cases z.1), qI_sI, if_pos ⟨rfl, rfl⟩, e8, B.num, B.lns, R0.i (f := 705) (by omega), S.Z.ln, R0.a (by omega), Int32.mul_comm]
      | 3, _ => rw [qI_sI, if_pos ⟨rfl, rfl⟩, qI_sI, if_pos ⟨rfl, rfl⟩, e8, pl2, R0.a (by omega)]
    · obtain ⟨u1, u2, u3, u4⟩ := T.un t ht
      rw [cI _ _ (by omega), cI _ _ (by omega), cI _ _ (by omega), cI _ _ (by omega), kA _ _ (by omega), kA _ _ (by omega), kA _ _ (by omega), kA _ _ (by omega)]
      exact ⟨u1, u2, u3, u4⟩
  have ec : cs0 kr m = cs0 H m := by
    unfold cs0
    rw [kI _ (by omega) (by omega) (by omega), kI _ (by omega) (by omega) (by omega), show hA kr (m + 3) = hA H (m + 3) from funext fun j => kA _ j (by omega), show hA kr (m + 4) = hA H (m + 4) from funext fun j => kA _ j (by omega)]
  have P2 : Pn kc kr x m lo sz (c + 1) Ta := S.P.step (fun tg Z2 RZ => PZ.rws RZ C FK hx lx) (fun tg sp SZ => PZ.spr SZ C FK hx lx) (fun L2 PL => PL.same (kI _ (by omega) (by omega) (by omega)) (kI _ (by omega) (by omega) (by omega)) (fun a j h1 h2 => kA _ _ (by omega))) (cI _ _ (by omega)) (fun r Q => Q.same (kI _ (by omega) (by omega) (by omega)) (kI _ (by omega) (by omega) (by omega)) (kA _ _ (by omega)) (kA _ _ (by omega)) (kA _ _ (by omega)) (kA _ _ (by omega)))
  have fin : Sm o kc kr x m lo ln sl nu bk ga sz c (c + 1) (G + 160) U0 nC Ta := by
    refine S.next (d := 0) X2 T2 FK RT (fun y => ?_) (fun y => ?_) (fun y => ?_) (fun u2 h8 y => ?_) (fun a h1 h2 h3 y => ?_) (fun f hf => by omega) (by omega) (fun u2 h8 => ?_) (by rw [ec]; exact PZ.ca S.ca FK hx lx) (by rw [ec]; exact S.gb.mono (by omega)) P2 o1 (by omega) rfl S.lg.2.2
    · unfold PZ at y; omega
    · unfold PZ at y; omega
    · unfold PZ at y; omega
    · unfold PZ at y; omega
    · unfold PZ at y; omega
    · rw [kA _ _ (by omega)]; exact S.lt u2 h8
  refine ⟨Ta, fin, RC.of (PY.z FK) S.lh (fun f a h1 h2 => PY_no S.nK S.xm S.lh h1 h2), RR.of RT (fun a ha => by omega), ⟨fun f h1 h2 => cI _ _ (by omega), fun f h1 h2 => kI _ (by omega) (by omega) (by omega), fun t _ => Or.inl (kA _ _ (by omega)), fun f hf => kI _ (by omega) (by omega) (by omega)⟩, Or.inr ⟨?_, ?_⟩⟩
  · rw [ekr]
    unfold rTrap
    rw [qI_sI, if_neg (fun z => by cases z.1), qI_sI, if_neg (fun z => by cases z.1), qI_sI, if_neg (fun z => by cases z.1), qI_sI, if_neg (fun z => by cases z.1), qI_sI, if_pos ⟨rfl, rfl⟩]
  · have : hI kr 727 m = why := by
      rw [ekr]
      unfold rTrap
      rw [qI_sI, if_neg (fun z => by cases z.1), qI_sI, if_neg (fun z => by cases z.1), qI_sI, if_neg (fun z => by cases z.1), qI_sI, if_pos ⟨rfl, rfl⟩]
    rw [this]
    exact nw
/-- tally from a word of a memory -/
theorem MT.tm {hc hm : Hp} {x u w rg pl ro ti bi lo : Nat} {dm t391 : Int32} (M : MT hc hm x u w dm t391) (A : Fr (PX x u w rg pl ro ti bi hc) hc hm) (C : Cd hc x) (hx : x + 38 < hT hc) (lx : x + 38 < lo) (hu : u < 8) (wl : lo ≤ w) (l1 : lo ≤ rg) (l2 : lo ≤ pl) (l3 : lo ≤ ro) (l4 : lo ≤ ti) (l5 : lo ≤ bi) : TmC hc hm x u dm (hI hc 518 w) (hI hc 390 (x + 15 + 3 * u)) t391 := by
  obtain ⟨m1, m2, m3, m4, m5, m6, m7⟩ := M
  refine ⟨m1, m2, m3, m4, m5, m7 _ (by omega) (by omega), m6, m7 _ (by omega) (by omega), fun f u2 h8 ne => ?_, fun f => ?_⟩
  · refine ((A.2 (x + 15 + 3 * u2) (by omega)).2.2.1 f (fun y => ?_)).1
    have := C.st (a := x + 15 + 3 * u2) (by omega) (by omega) (by omega)
    rcases y.e with y | y | y | y | y | y | y | y <;> omega
  · refine ((A.2 (x + 1) (by omega)).2.2.1 f (fun y => ?_)).1
    have := C.st (a := x + 1) (by omega) (by omega) (by omega)
    rcases y.e with y | y | y | y | y | y | y | y <;> omega
