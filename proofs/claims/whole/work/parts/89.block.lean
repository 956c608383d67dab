/-! a block is dispatched -/
def La (hc hr : Hp) (x m nb th nx ln sl : Nat) : Prop := hI hc 321 (x + 11) = nI nb ∧ hI hr 716 m = nI nb ∧ hI hc 322 (x + 11) = nI th ∧ hI hr 717 m = nI th ∧ hI hc 323 (x + 11) = nI nx ∧ hI hr 718 m = nI nx ∧ (1 ≤ nb ∧ nb ≤ 64) ∧ (1 ≤ th ∧ th ≤ ln * sl) ∧ nx ≤ nb ∧ ∀ s b, s < 128 → b < 64 → hA hr (m + 9) s = nI b → b < nx
def bbH (h : Hp) (bl bi ux : Nat) (nb th : Int32) : Hp := oA (sI (sI (sI (sI (sR h 450 bl (some ux)) 451 bl nb) 452 bl th) 453 bl th) 454 bl 0) (fr (hA h) bi 0 64 (fun _ => 0))
theorem c_Block_begin {F : Nat} {h : Hp} {bl bi ux : Nat} {nb th : Int32} (hF : 40000 ≤ F) (kb : hK h bl = 8) (ri : hR h 449 bl = some bi) (ki : hK h bi = 100) (ni : hN h bi = 64) : f_Block_begin F bl (some ux) nb th h = some (bbH h bl bi ux nb th) := by
  rw [f_Block_begin, gd_t kb, pw_e, pw_e, pw_e, pw_e, pw_e, rq_k (by simp only [qR_sI]; rw [qR_sR, if_neg (fun z => by cases z.1)]; exact ri) (by simp only [qK_sI, qK_sR]; exact ki), c_Arrays_fill (by simp only [qK_sI, qK_sR]; exact ki) 0 (by simp only [qN_sI, qN_sR]; omega) (by simp only [qN_sI, qN_sR]; omega), clv_some]
  simp only [qN_sI, qN_sR, qA_sI, qA_sR, ni]
  rfl
theorem bb_o (h : Hp) (bl bi ux : Nat) (nb th : Int32) : (hT (bbH h bl bi ux nb th) = hT h ∧ hU (bbH h bl bi ux nb th) = hU h ∧ hK (bbH h bl bi ux nb th) = hK h ∧ hN (bbH h bl bi ux nb th) = hN h ∧ hQ (bbH h bl bi ux nb th) = hQ h ∧ hL (bbH h bl bi ux nb th) = hL h) ∧ (∀ f a, ¬ (a = bl ∧ f = 450) → hR (bbH h bl bi ux nb th) f a = hR h f a) ∧ (∀ f a, ¬ (a = bl ∧ 451 ≤ f ∧ f ≤ 454) → hI (bbH h bl bi ux nb th) f a = hI h f a) ∧ (∀ a j, ¬ a = bi → hA (bbH h bl bi ux nb th) a j = hA h a j) ∧ (hR (bbH h bl bi ux nb th) 450 bl = some ux ∧ hI (bbH h bl bi ux nb th) 451 bl = nb ∧ hI (bbH h bl bi ux nb th) 452 bl = th ∧ hI (bbH h bl bi ux nb th) 453 bl = th ∧ hI (bbH h bl bi ux nb th) 454 bl = 0) ∧ ∀ j, j < 64 → hA (bbH h bl bi ux nb th) bi j = 0 := by
  unfold bbH
  refine ⟨⟨rfl, rfl, rfl, rfl, rfl, rfl⟩, fun f a z => ?_, fun f a z => ?_, fun a j z => by rw [qA_oA, fr_o z], ⟨?_, ?_, ?_, ?_, ?_⟩, fun j hj => by rw [qA_oA, fr_i (by omega) hj]⟩
  · rw [qR_oA, qR_sI, qR_sI, qR_sI, qR_sI, qR_sR, if_neg (fun y => z ⟨y.2, y.1⟩)]
  · rw [qI_oA, qI_sI, if_neg (by omega), qI_sI, if_neg (by omega), qI_sI, if_neg (by omega), qI_sI, if_neg (by omega), qI_sR]
  · rw [qR_oA, qR_sI, qR_sI, qR_sI, qR_sI, qR_sR, if_pos ⟨rfl, rfl⟩]
  · rw [qI_oA, qI_sI, if_neg (by omega), qI_sI, if_neg (by omega), qI_sI, if_neg (by omega), qI_sI, if_pos ⟨rfl, rfl⟩]
  · rw [qI_oA, qI_sI, if_neg (by omega), qI_sI, if_neg (by omega), qI_sI, if_pos ⟨rfl, rfl⟩]
  · rw [qI_oA, qI_sI, if_neg (by omega), qI_sI, if_pos ⟨rfl, rfl⟩]
  · rw [qI_oA, qI_sI, if_pos ⟨rfl, rfl⟩]
theorem blk_step {F : Nat} {o : Nat → Nat} {hc H : Hp} {x m lo ln sl nn bk ga sz c pc G U0 nC Ta nb th b u wr : Nat} (hF : 40000 ≤ F) (S : Sm o hc H x m lo ln sl nn bk ga sz c pc G U0 nC Ta) (LA : La hc H x m nb th b ln sl) (hb : b < nb) (hu : u < 8) (ew : wr = (th + ln - 1) / ln) (room : wr ≤ frS H m u sl) (k34 : Nat → Int32 → Int32 → Hp → Option Hp) : ∃ o2 kc kr0, (gd (hK hc x = 1) <| rq hc (hR hc 5 x) 122 fun a_66_2 => ix (nI b) (hN hc a_66_2) fun j_70 => pw (hQ hc a_66_2 j_70) fun o_70_2 => nu o_70_2 (pw (hT hc) fun a_79 => pw (nw hc 8 0 7) fun h_79_2 => clv (f_Block_init F a_79 (nI b) h_79_2) fun h_84 => gd (hK h_84 a_66_2 = 122) <| gd (hK h_84 a_79 = 8) <| ix (nI b) (hN h_84 a_66_2) fun j_87_3 => pw (sQ h_84 a_66_2 j_87_3 (some a_79)) fun h_87_4 => b_WM_dispatch_67 F k34 x (nI wr) (nI b) (x + 15 + 3 * u) h_87_4) fun a_71 => (b_WM_dispatch_67 F k34 x (nI wr) (nI b) (x + 15 + 3 * u) hc)) = k34 x (nI wr) (nI (b + 1)) kc ∧ f_Mod_begin F m (nI u) (nI b) H = some kr0 ∧ hI kr0 718 m = nI b ∧ hK kr0 m = 12 ∧ Sm o2 kc (sI kr0 718 m (nI (b + 1))) x m lo ln sl nn bk ga sz c pc G U0 nC Ta ∧ La kc (sI kr0 718 m (nI (b + 1))) x m nb th (b + 1) ln sl ∧ RC m lo hc kc ∧ RR m H (sI kr0 718 m (nI (b + 1))) ∧ hI kc 320 (x + 11) = hI hc 320 (x + 11) ∧ hI (sI kr0 718 m (nI (b + 1))) 715 m = hI H 715 m ∧ hI (sI kr0 718 m (nI (b + 1))) 727 m = hI H 727 m ∧ ∀ f, f = 726 ∨ f = 704 → hI (sI kr0 718 m (nI (b + 1))) f m = hI H f m := by
  have X := S.X
  have hx := X.hx
  have lx := X.lx
  have lh := S.lh
  have C := X.C
  have s16 := X.s16
  have l32 := X.l32
  obtain ⟨la1, la2, la3, la4, la5, la6, ⟨nb1, nb64⟩, ⟨th1, thl⟩, nxn, lab⟩ := LA
  have b64 : b < 64 := by omega
  have lp := S.Z.lp
  have l0 : 0 < ln := by
    obtain ⟨e, _, h⟩ := lp
    rw [h]; exact Nat.two_pow_pos e
  have t5 : th ≤ 512 := Nat.le_trans thl (Nat.le_trans (Nat.mul_le_mul l32 s16) (by decide))
  have w16 : wr ≤ 16 := by
    rw [ew]
    have h1 : th + ln - 1 < (sl + 1) * ln := by
      rw [Nat.succ_mul, Nat.mul_comm]
      omega
    have := (Nat.div_lt_iff_lt_mul l0).mpr h1
    omega
  have noB : ∀ s, s < 128 → ¬ hA H (m + 9) s = nI b := fun s hs z => by have := lab s b hs b64 z; omega
  obtain ⟨H1, o1, bl, bi, c1, q1, ⟨k1, k2, k3, k4, k5⟩, ⟨i1, i2, i3, i4, i5, i6⟩, t1, F1, j1, lg1, lu1⟩ := blk_cell (F := F) (u := u) (wr := wr) (N := 0) C hx lx lh b64 (X.B b b64) k34
  have hT1 := F1.1
  obtain ⟨⟨p1, p2, p3, p4, p5, p6⟩, pR, pI, pA, ⟨p7, p8, p9, p10, p11⟩, p12⟩ := bb_o H1 bl bi (x + 15 + 3 * u) (nI nb) (nI th)
  have bb := c_Block_begin (F := F) (ux := x + 15 + 3 * u) (nb := nI nb) (th := nI th) hF k1 i1 i2 i3
  obtain ⟨h0, eh0⟩ : ∃ h0, h0 = bbH H1 bl bi (x + 15 + 3 * u) (nI nb) (nI th) := ⟨_, rfl⟩
  rw [← eh0] at p1 p2 p3 p4 p5 p6 pR pI pA p7 p8 p9 p10 p11 p12 bb
  have F2 : Fr (fun f a => (a = bl ∧ 450 ≤ f ∧ f ≤ 454) ∨ (a = bi ∧ f = 9999)) H1 h0 := ⟨by rw [p1]; exact Nat.le_refl _, fun a ha => ⟨by rw [p3], by rw [p4], fun f nP => ⟨pI f a (fun y => nP (Or.inl ⟨y.1, by omega, by omega⟩)), pR f a (fun y => nP (Or.inl ⟨y.1, by omega, by omega⟩))⟩, fun nP j => ⟨pA a j (fun y => nP (Or.inr ⟨y, rfl⟩)), by rw [p5], by rw [p6]⟩⟩⟩
  have hT2 : hT h0 = hT H1 := p1
  have C1 : Cd H1 x := C.frame F1 hx (fun f _ y => by omega) (fun f _ _ y => by omega) (fun f _ _ y => by omega) (fun f _ _ y => by omega) (fun y => by omega) (fun u f _ _ _ y => by omega)
  have C0 : Cd h0 x := C1.frame F2 (by omega) (fun f _ y => by omega) (fun f _ _ y => by omega) (fun f _ _ y => by omega) (fun f _ _ y => by omega) (fun y => by omega) (fun u f _ _ _ y => by omega)
  have K1 : Kn H1 H x m := X.K.frame F1 (by omega) (fun y => by omega) (fun f y _ _ _ z => by omega) (fun _ _ => rfl)
  have K0 : Kn h0 H x m := K1.frame F2 (by omega) (fun y => by omega) (fun f y _ _ ky z => by omega) (fun _ _ => rfl)
  have grow13 : ∀ c2 y, hQ hc (x + 13) c2 = some y → hQ H1 (x + 13) c2 = some y := fun c2 y hy => by
    by_cases z : c2 = b
    · rw [z] at hy ⊢
      rcases lg1 with ⟨_, a2⟩ | ⟨_, a2, _⟩
      · rw [a2] at hy; rw [q1]; exact hy
      · rw [a2] at hy; cases hy
    · rw [j1 c2 z]; exact hy
  have slots0 : ∀ t, t < 128 → SlotOk o1 h0 H x m lo ln t := fun t ht => by
    have s1 := ((X.S t ht).tag t1).grow X.K l32 ht hx F1 (fun y => by omega) (fun y => by omega) (fun a f h1 h2 h3 h4 h5 y => by omega) (fun y f h1 h2 h3 h4 z => by omega) grow13
    refine s1.fr K1 l32 (CsS.of F2 (by omega) ht (fun y => by omega) (fun y => by omega) (fun y => by omega) (fun a f h1 h2 h3 h4 h5 y => ?_) (fun y f h1 h2 h3 h4 z => ?_)) (rs_refl m t H)
    · rcases y with y | y
      · rw [y.1] at h3 h4; omega
      · rw [y.1] at h3 h4; omega
    · omega
  have blocks0 : ∀ c2, c2 < 64 → ¬ c2 = b → BlockOk o1 h0 H x m lo c2 := fun c2 h64 ne => by
    refine ((X.B c2 h64).tag t1).fr (by omega) (by rw [p5, j1 c2 ne]) (fun a h1 h2 h3 h4 => ?_) (fun _ _ => Iff.rfl) rfl rfl rfl rfl (fun _ _ => rfl)
    have nb2 : ¬ a = bl := fun y => by rw [y] at h3; omega
    have nbi : ¬ a = bi := fun y => by rw [y] at h3; omega
    obtain ⟨v1, v2, v3, v4⟩ := F1.2 a h2
    refine ⟨by rw [p3]; exact v1, by rw [p4]; exact v2, fun f _ _ => ⟨?_, ?_⟩, fun j => ?_⟩
    · rw [pI f a (fun y => nb2 y.1)]; exact (v3 f (fun y => by omega)).1
    · rw [pR f a (fun y => nb2 y.1)]; exact (v3 f (fun y => by omega)).2
    · rw [pA a j nbi]; exact (v4 (fun y => by omega) j).1
  have us0 : ∀ f u2, u2 < 8 → hI h0 f (x + 15 + 3 * u2) = hI hc f (x + 15 + 3 * u2) := fun f u2 h8 => by
    rw [pI _ _ (fun y => by omega)]
    exact ((F1.2 (x + 15 + 3 * u2) (by omega)).2.2.1 f (fun y => by omega)).1
  have E0 : SE o1 o1 h0 H h0 H x m lo ln u b bl bi th 0 0 := by
    refine ⟨C0, K0, by omega, by omega, slots0, blocks0, Fr.refl _, fun _ _ _ _ h => h, fun _ => rfl, fun _ _ _ => ⟨rfl, rfl⟩, fun _ => rfl, fun _ _ _ _ => rfl, Rf.refl _, fun t _ _ => rs_refl m t H, fun t _ _ h => by omega, ?_, ?_, Nat.le_refl _, by omega, fun _ _ => rfl⟩
    · rw [if_neg (by omega), Nat.zero_mul]
      refine cn_eq0.mpr (fun t ht => ?_)
      unfold avB
      rw [decide_eq_false (noB (t / 32) (by omega))]
      rfl
    · refine cn_eq0.mpr (fun t ht => ?_)
      unfold wtB
      rw [decide_eq_false (noB (t / 32) (by omega))]
      rfl
  obtain ⟨o2, hE, rE, ks, s1, s2, E, ks1, ks2⟩ := seat_all (F := F) hF E0 S.M lx hu s16 (by rw [us0 _ u hu]; exact X.us u hu) S.Z.sl X.hl la4 lp l0 l32 th1 t5 b64 ew w16 room (by rw [p5]; exact q1) (by rw [p3]; exact k1) (by omega) p9 k3 i4 (by omega) i5 (by omega)
  have hTE := E.A.1
  obtain ⟨kc, ekc⟩ : ∃ kc, kc = sI (sI hE 387 (x + 15 + 3 * u) (hI hE 387 (x + 15 + 3 * u) - nI wr)) 323 (x + 11) (nI (b + 1)) := ⟨_, rfl⟩
  obtain ⟨kr, ekr⟩ : ∃ kr, kr = sI (oA rE (fr (hA rE) (m + 18) (64 * b) (64 * b + 64) (fun _ => 0))) 718 m (nI (b + 1)) := ⟨_, rfl⟩
  have CE := E.C
  have Ckc : hK (sI hE 387 (x + 15 + 3 * u) (hI hE 387 (x + 15 + 3 * u) - nI wr)) = hK hE := rfl
  have cls : (gd (hK hc x = 1) <| rq hc (hR hc 5 x) 122 fun a_66_2 => ix (nI b) (hN hc a_66_2) fun j_70 => pw (hQ hc a_66_2 j_70) fun o_70_2 => nu o_70_2 (pw (hT hc) fun a_79 => pw (nw hc 8 0 7) fun h_79_2 => clv (f_Block_init F a_79 (nI b) h_79_2) fun h_84 => gd (hK h_84 a_66_2 = 122) <| gd (hK h_84 a_79 = 8) <| ix (nI b) (hN h_84 a_66_2) fun j_87_3 => pw (sQ h_84 a_66_2 j_87_3 (some a_79)) fun h_87_4 => b_WM_dispatch_67 F k34 x (nI wr) (nI b) (x + 15 + 3 * u) h_87_4) fun a_71 => (b_WM_dispatch_67 F k34 x (nI wr) (nI b) (x + 15 + 3 * u) hc)) = k34 x (nI wr) (nI (b + 1)) kc := by
    have t321 : hI H1 321 (x + 11) = nI nb ∧ hI H1 322 (x + 11) = nI th := by
      rw [((F1.2 (x + 11) (by omega)).2.2.1 321 (fun y => by omega)).1, ((F1.2 (x + 11) (by omega)).2.2.1 322 (fun y => by omega)).1]
      exact ⟨la1, la3⟩
    have e64 : hI h0 64 (x + 1) = nI ln := by
      rw [pI _ _ (fun y => by omega), ((F1.2 (x + 1) (by omega)).2.2.1 64 (fun y => by omega)).1]
      have := S.T.sz 0 (by omega)
      rw [this]; exact S.Z.ln
    rw [c1, b_WM_dispatch_67, gd_t C1.k, rq_k C1.r_blocks C1.k_blocks, C1.n_blocks, ixn b64 (by decide), rq_k q1 k1, rq_k C1.r_tally C1.k_tally, t321.1, t321.2, bb, clv_some, gd_t C0.k, rq_k C0.r_blocks C0.k_blocks, C0.n_blocks, ixn b64 (by decide), pw_e, show hQ h0 (x + 13) b = some bl from by rw [p5]; exact q1, rq_k C0.r_sizes C0.k_sizes, rq_k C0.r_kernel C0.k_kernel, gd_t (C0.u u hu).2.1, e64, s1, clv_some, gd_t (by rw [qK_sI]; exact CE.k), rq_k (by rw [qR_sI]; exact CE.r_tally) (by rw [qK_sI]; exact CE.k_tally), pw_e, nI_1, ← ekc]
  /- frames -/
  have FE : Fr (fun f a => (a = x + 15 + 3 * u ∧ f = 387) ∨ (a = x + 11 ∧ f = 323)) hE kc := by
    rw [ekc]
    exact ((Fr.refl hE).cI (Or.inl ⟨rfl, rfl⟩)).cI (Or.inr ⟨rfl, rfl⟩)
  have hTk : hT kc = hT hE := by rw [ekc, qT_sI, qT_sI]
  have hUk : hU kc = hU hE := by rw [ekc, qU_sI, qU_sI]
  have A1 : Fr (PD x lo hc) hc H1 := F1.mono (fun f a _ z => by unfold PD; omega)
  have A2 : Fr (PD x lo H1) H1 h0 := F2.mono (fun f a _ z => by
    unfold PD
    rcases z with z | z
    · rw [z.1]; omega
    · rw [z.1]; omega)
  have A3 : Fr (PD x lo hE) hE kc := FE.mono (fun f a _ z => by unfold PD; omega)
  have AA : Fr (PD x lo hc) hc kc := PD.tr (PD.tr (PD.tr A1 A2) E.A) A3
  have rI : ∀ f, ¬ f = 718 → hI kr f m = hI H f m := fun f nf => by rw [ekr, qI_sI, if_neg (fun y => nf y.1), qI_oA, E.R.i (fun z => z)]
  have krA : ∀ a j, ¬ (a = m + 18 ∧ 64 * b ≤ j ∧ j < 64 * b + 64) → hA kr a j = hA rE a j := fun a j z => by rw [ekr, qA_sI, qA_oA, fr_at, if_neg z]
  have kr18 : ∀ k, k < 64 → hA kr (m + 18) (64 * b + k) = 0 := fun k hk => by rw [ekr, qA_sI, qA_oA, fr_i (by omega) (by omega)]
  have RT : Rf m (fun f => f = 718) (fun a => (m + 9) ≤ a ∧ a ≤ (m + 18)) H kr := by
    rw [ekr]
    exact ((E.R.mono (J := fun f => f = 718) (B := fun a => (m + 9) ≤ a ∧ a ≤ (m + 18)) (fun f z => z.elim) (fun a z => by omega)).cf ⟨by omega, by omega⟩).cI rfl
  have eLk : ∀ k, k < 128 → hL kr (m + 1) k = hL rE (m + 1) k := fun k _ => by rw [ekr, qL_sI, qL_oA]
  have RsE : ∀ t, Rs m t rE kr := fun t => ⟨⟨by rw [rI _ (by omega), E.R.i (fun z => z)], by rw [rI _ (by omega), E.R.i (fun z => z)]⟩, ⟨krA _ _ (by omega), krA _ _ (by omega), krA _ _ (by omega)⟩, fun r _ => krA _ _ (by omega), fun i _ => ⟨krA _ _ (by omega), krA _ _ (by omega), krA _ _ (by omega), krA _ _ (by omega)⟩, fun j _ => krA _ _ (by omega)⟩
  have Ck : Cd kc x := PD.cd CE A3 E.hx lx
  have Kk : Kn kc kr x m := PD.kn E.K A3 E.hx lx CE eLk
  have slots : ∀ t, t < 128 → SlotOk o2 kc kr x m lo ln t := fun t ht => (E.S t ht).fr E.K l32 (CsS.of FE E.hx ht (fun y => by omega) (fun y => by omega) (fun y => by omega) (fun a f h1 h2 h3 h4 h5 y => by omega) (fun y f h1 h2 h3 h4 z => by omega)) (RsE t)
  have sbk : ∀ t, t < 128 → (hA kr (m + 9) t = hA H (m + 9) t ∨ (hA H (m + 9) t = -1 ∧ t / 16 = u ∧ t % 16 < ks ∧ hA kr (m + 9) t = nI b)) := fun t ht => by
    rw [krA _ _ (by omega)]
    by_cases z : t / 16 = u ∧ t % 16 < ks ∧ hA H (m + 9) t = -1
    · exact Or.inr ⟨z.2.2, z.1, z.2.1, E.nb t ht z.1 z.2.1 z.2.2⟩
    · exact Or.inl (E.far t ht z).2.1.1
  have blocks : ∀ c2, c2 < 64 → BlockOk o2 kc kr x m lo c2 := fun c2 h64 => by
    by_cases z : c2 = b
    · rw [z]
      have fb : ∀ f, 448 ≤ f → f ≤ 454 → hI kc f bl = hI h0 f bl ∧ hR kc f bl = hR h0 f bl := fun f h1 h2 => by
        have := (FE.2 bl (by omega)).2.2.1 f (fun y => by omega)
        rw [this.1, this.2]
        exact E.bf f h1 h2
      have kk : ∀ a, a < hT h0 → hK kc a = hK h0 a ∧ hN kc a = hN h0 a := fun a ha => by
        rw [(FE.2 a (by omega)).1, (FE.2 a (by omega)).2.1, (E.A.2 a ha).1, (E.A.2 a ha).2.1]
        exact ⟨rfl, rfl⟩
      have wrl : th ≤ wr * ln := by
        have h1 := Nat.div_add_mod (th + ln - 1) ln
        have h2 := Nat.mod_lt (th + ln - 1) l0
        rw [← ew, Nat.mul_comm] at h1
        omega
      refine Or.inr ⟨bl, bi, ?_, ⟨by rw [(kk bl (by omega)).1, p3]; exact k1, by rw [(fb _ (by omega) (by omega)).1, pI _ _ (by omega)]; exact k2, by rw [E.ot bl (by omega)]; exact k3, k4, by omega⟩, ⟨by rw [(fb _ (by omega) (by omega)).2, pR _ _ (by omega)]; exact i1, by rw [(kk bi (by omega)).1, p3]; exact i2, by rw [(kk bi (by omega)).2, p4]; exact i3, by rw [E.ot bi (by omega)]; exact i4, i5, by omega⟩, Or.inr ⟨u, hu, by rw [(fb _ (by omega) (by omega)).2]; exact p7, ?_, fun t ht hy => ?_, by rw [(fb _ (by omega) (by omega)).1, p8, rI _ (by omega), la2], by rw [(fb _ (by omega) (by omega)).1, p9, rI _ (by omega), la4], ?_, ?_, fun k hk => ?_⟩⟩
      · rw [((FE.2 (x + 13) (by omega)).2.2.2 (fun y => by omega) b).2.1, E.q13, p5]; exact q1
      · have w0 : 0 < wr := by rw [ew]; exact Nat.div_pos (by omega) l0
        have ck : ¬ cn (fun j => decide (hA H (m + 9) (16 * u + j) = -1)) ks = 0 := by
          have : frS H m u ks = wr := ks2
          unfold frS at this
          omega
        obtain ⟨j, hj1, hj2⟩ : ∃ j, j < ks ∧ hA H (m + 9) (16 * u + j) = -1 := by
          by_cases y : ∃ j, j < ks ∧ hA H (m + 9) (16 * u + j) = -1
          · exact y
          · exact absurd (cn_eq0.mpr fun i hi => decide_eq_false (fun z => y ⟨i, hi, z⟩)) ck
        refine ⟨16 * u + j, by omega, ?_⟩
        rw [krA _ _ (by omega)]
        exact E.nb _ (by omega) (by omega) (by omega) hj2
      · rcases sbk t ht with y | y
        · rw [y] at hy; exact absurd hy (noB t ht)
        · exact y.2.1
      · rw [(fb _ (by omega) (by omega)).1, p10]
        have e2 : cn (avB rE m b) 4096 = th := by
          have := E.av
          split at this
          · exact this
          · omega
        rw [(cnt_rs (fun t _ => RsE t)).1, e2]
      · rw [(fb _ (by omega) (by omega)).1, p11, (cnt_rs (fun t _ => RsE t)).2, E.wt]; rfl
      · rw [((FE.2 bi (by omega)).2.2.2 (fun y => by omega) k).1, E.bi, p12 k hk, kr18 k hk]
    · refine (E.B c2 h64 z).fr (by omega) (((FE.2 (x + 13) (by omega)).2.2.2 (fun y => by omega) c2).2.1) (fun a h1 h2 h3 h4 => ?_) (fun t ht => by rw [(RsE t).2.1.1]) (by rw [rI _ (by omega), E.R.i (fun z => z)]) (RsE 0).1.2 (cnt_rs (fun t _ => RsE t)).1 (cnt_rs (fun t _ => RsE t)).2 (fun k hk => krA _ _ (by omega))
      obtain ⟨v1, v2, v3, v4⟩ := FE.2 a h2
      exact ⟨v1, v2, fun f _ _ => v3 f (fun y => by omega), fun j => (v4 (fun y => by omega) j).1⟩
  have X2 : Sx o2 kc kr x m lo ln sl := by
    refine ⟨Ck, Kk, by have := E.hx; omega, lx, fun u2 h8 => ?_, s16, by rw [rI _ (by omega)]; exact X.hl, l32, slots, blocks, fun t ht y => ?_, fun u2 h8 => ?_⟩
    · rw [((FE.2 (x + 15 + 3 * u2) (by have := E.hx; omega)).2.2.1 386 (fun y => by omega)).1, E.us _ u2 h8 (Or.inl rfl), us0 _ u2 h8]; exact X.us u2 h8
    · rcases sbk t ht with z | z
      · exact X.nf t ht (by rw [← z]; exact y)
      · omega
    · by_cases z : u2 = u
      · rw [z, ekc, qI_sI, if_neg (by omega), qI_sI, if_pos ⟨rfl, rfl⟩, E.us _ u hu (Or.inr rfl), us0 _ u hu, X.uf u hu]
        have e1 : cn (fun k => decide (hA H (m + 9) (16 * u + k) = -1)) sl = wr + cn (fun i => decide (hA H (m + 9) (16 * u + (ks + i)) = -1)) (sl - ks) := by
          have := cn_add (fun k => decide (hA H (m + 9) (16 * u + k) = -1)) ks (sl - ks)
          rw [show ks + (sl - ks) = sl by omega] at this
          rw [this]
          have : frS H m u ks = wr := ks2
          unfold frS at this
          rw [this]
        have e2 : cn (fun k => decide (hA kr (m + 9) (16 * u + k) = -1)) sl = cn (fun i => decide (hA H (m + 9) (16 * u + (ks + i)) = -1)) (sl - ks) := by
          have := cn_add (fun k => decide (hA kr (m + 9) (16 * u + k) = -1)) ks (sl - ks)
          rw [show ks + (sl - ks) = sl by omega] at this
          rw [this, cn_0 ks (fun i hi => ?_), Nat.zero_add]
          · refine cn_congr _ fun i hi => ?_
            rcases sbk (16 * u + (ks + i)) (by omega) with y | y
            · rw [y]
            · omega
          · refine decide_eq_false (fun y => ?_)
            rcases sbk (16 * u + i) (by omega) with k | k
            · rw [krA _ _ (by omega)] at y
              rw [krA _ _ (by omega)] at k
              rw [k] at y
              rw [E.nb (16 * u + i) (by omega) (by omega) (by omega) y, y] at k
              exact nI_m1 (by omega) k
            · rw [k.2.2.2] at y; exact nI_m1 (by omega) y
        rw [e1, e2, pk_sub (by omega), Nat.add_sub_cancel_left]
      · rw [((FE.2 (x + 15 + 3 * u2) (by have := E.hx; omega)).2.2.1 387 (fun y => by omega)).1, E.us _ u2 h8 (Or.inr rfl), us0 _ u2 h8, X.uf u2 h8]
        refine congrArg nI (cn_congr sl fun k hk => ?_)
        rcases sbk (16 * u2 + k) (by omega) with y | y
        · rw [y]
        · omega
  have pt0 : hT h0 + PT hc x = hT hc + PT h0 x := by
    have e2 : sumN (potS h0 x) 128 = sumN (potS hc x) 128 := sumN_congr 128 fun s hs => by
      unfold potS
      rw [p5, ((F1.2 (x + 16 + 3 * (s / 16)) (by omega)).2.2.2 (fun y => by omega) _).2.1]
      rcases X.S s hs with ⟨z, _⟩ | ⟨w, rg, pl, ro, pr, ti, L, z, W, _⟩
      · rw [z]
      · have wb := W.bw
        have pb := W.b_pl
        have wk := W.k
        rw [z]
        dsimp only
        rw [pR _ _ (by omega), ((F1.2 w wb.2).2.2.1 524 (fun y => by omega)).2, W.r_pl]
        dsimp only
        rw [p4, (F1.2 pl pb.2).2.1]
    unfold PT
    rw [e2]
    rcases lg1 with ⟨a1, a2⟩ | ⟨a1, a2, _⟩
    · have : cn (potB h0 x) 64 = cn (potB hc x) 64 := cn_congr 64 fun c2 _ => by
        unfold potB
        rw [p5]
        by_cases z : c2 = b
        · rw [z, q1, a2]
        · rw [j1 c2 z]
      rw [this]; omega
    · have : cn (potB h0 x) 64 = cn (potB hc x) 64 + 1 := cn_up (v := b) 64 b64 (by unfold potB; rw [a2]; rfl) (by unfold potB; rw [p5, q1]; rfl) (fun c2 z => by unfold potB; rw [p5, j1 c2 z])
      rw [this]; omega
  have ptk : PT kc x = PT hE x := PT.fr E.S FE E.hx (fun y => by omega) (fun u2 _ y => by omega) (fun a h1 h2 h3 y => by omega)
  have S2 : Sm o2 kc kr x m lo ln sl nn bk ga sz c pc G U0 nC Ta := by
    refine S.disp X2 AA (fun u2 j w h8 hw => ?_) (fun c2 y hy => ?_) RT (fun t ht hn => ?_) (by have := E.lt; omega) (by have := E.lu; omega)
    · rw [((FE.2 (x + 16 + 3 * u2) (by have := E.hx; omega)).2.2.2 (fun y => by omega) j).2.1]
      refine E.Q u2 j w h8 ?_
      rw [p5, ((F1.2 (x + 16 + 3 * u2) (by omega)).2.2.2 (fun y => by omega) j).2.1]
      exact hw
    · rw [((FE.2 (x + 13) (by have := E.hx; omega)).2.2.2 (fun y => by omega) c2).2.1, E.q13, p5]
      exact grow13 c2 y hy
    · exact (E.far t ht (fun y => hn y.2.2)).trans (RsE t)
  refine ⟨o2, kc, _, cls, s2, ?_, ?_, ?_⟩
  · rw [qI_oA, E.R.i (fun z => z)]; exact la6
  · rw [qK_oA]; exact (E.R.md S.M).k
  · rw [← ekr]
    have cT : ∀ f, ¬ f = 323 → hI kc f (x + 11) = hI hc f (x + 11) := fun f nf => ((AA.2 (x + 11) (by omega)).2.2.1 f (fun y => by unfold PD at y; omega)).1
    refine ⟨S2, ⟨by rw [cT _ (by omega)]; exact la1, by rw [rI _ (by omega)]; exact la2, by rw [cT _ (by omega)]; exact la3, by rw [rI _ (by omega)]; exact la4, by rw [ekc, qI_sI, if_pos ⟨rfl, rfl⟩], by rw [ekr, qI_sI, if_pos ⟨rfl, rfl⟩], ⟨nb1, nb64⟩, ⟨th1, thl⟩, by omega, fun s c2 hs h64 hy => ?_⟩, RC.of AA lh (fun f a h1 h2 y => ?_), RR.of RT (fun a z => by omega), cT _ (by omega), rI _ (by omega), rI _ (by omega), fun f hf => rI _ (by omega)⟩
    · rcases sbk s hs with y | y
      · rw [y] at hy; have := lab s c2 hs h64 hy; omega
      · rw [y.2.2.2] at hy; have := (nI_eq (by omega) (by omega)).mp hy; omega
    · have := S.xm
      unfold PD at y
      omega
