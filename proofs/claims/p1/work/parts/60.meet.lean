/-! waking and freeing, with the reference -/
theorem rs_refl (m s : Nat) (h : Hp) : Rs m s h h := ⟨⟨rfl, rfl⟩, ⟨rfl, rfl, rfl⟩, fun _ _ => rfl, fun _ _ => ⟨rfl, rfl, rfl, rfl⟩, fun _ _ => rfl⟩
/-- a field of a block changes: slots don't see it -/
theorem CsS.blk {o : Nat → Nat} {h : Hp} {x lo s f bl : Nat} {v : Int32} (hf : f ≤ 454) : CsS o x lo s h (sI h f bl v) := ⟨⟨by rw [qT_sI]; exact Nat.le_refl _, by rw [qQ_sI], fun b => by rw [qQ_sI], fun p => by rw [qQ_sI]⟩, fun a _ _ _ _ _ => ⟨by rw [qK_sI], by rw [qN_sI], fun g g1 g2 => ⟨by rw [qI_sI, if_neg (fun z => by have := z.1; omega)], by rw [qR_sI]⟩, fun j => by rw [qA_sI]⟩, fun y _ ky => ⟨by rw [qK_sI]; exact ky, fun g g1 g2 => by rw [qI_sI, if_neg (fun z => by have := z.1; omega)]⟩⟩
theorem Wb.lwB {hc hr : Hp} {x m s ln b w rg pl pr ti L bl : Nat} (B : Wb hc hr x m s ln b w rg pl pr ti L bl) : ∀ i, i < 32 → ¬ hA hr (m + 17) (32 * s + i) = 0 → rLn hr m s i := fun i hi z => (B.lw i hi z).1
theorem ME.lw {o : Nat → Nat} {hc hr : Hp} {x m lo ln sl s b w rg pl ro pr ti L bl : Nat} (E : ME o hc hr x m lo ln sl s b w rg pl ro pr ti L bl) : ∀ t i, t < 128 → i < 32 → hA hr (m + 9) t = nI b → ¬ hA hr (m + 17) (32 * t + i) = 0 → rLn hr m t i ∧ hA hr (m + 16) (32 * t + i) = 0 := by
  intro t i ht hi z q
  obtain ⟨w2, rg2, pl2, ro2, pr2, ti2, L2, bl2, z1, W2, e2, B2⟩ := (E.pre ht).1 z
  exact B2.lw i hi q
theorem meetC {o : Nat → Nat} {hc hr : Hp} {x m lo ln sl s b w rg pl ro pr ti L bl : Nat} {F : Nat} (hF : 40000 ≤ F) (E : ME o hc hr x m lo ln sl s b w rg pl ro pr ti L bl) (na : ¬ hI hc 453 bl = 0) (yw : hI hc 454 bl = hI hc 453 bl) : ∃ kc, b_WM_go_225 F x w hc = some kc ∧ MR o hc kc (seH hr m ln (nI b) true false) x m lo ln sl ∧ hI kc 324 (x + 11) = hI hc 324 (x + 11) := by
  obtain ⟨bi, u, ⟨k1, k2, k3, k4, k5⟩, ⟨i1, i2, i3, i4, i5, i6⟩, u1, u2, u3, u4, u5, u6, u7, u8, u9⟩ := E.bl
  have C := E.C
  have W := E.W
  have B := E.B
  have lx := E.lx
  have hx := E.hx
  have s16 := E.s16
  have hs := E.hs
  have su := u4 s hs B.sb
  have b64 := B.b64
  have ks : ¬ hA hr (m + 9) s = -1 := by rw [B.sb]; exact nI_m1 (by omega)
  have smod := E.nf s hs ks
  have C1 : Cd (sI hc 454 bl 0) x := C.same (qK_sI ..) (qN_sI ..) (fun f a _ => by rw [qR_sI]) (fun j => by rw [qQ_sI])
  have eL : ∀ k, k < 128 → hL (seH hr m ln (nI b) true false) (m + 1) k = hL hr (m + 1) k := fun k _ => by unfold seH; rw [qL_sI, qL_oA]
  have FB : Fr (fun f a => a = bl ∧ f = 454) hc (sI hc 454 bl 0) := (Fr.refl hc).cI ⟨rfl, rfl⟩
  have K1 : Kn (sI hc 454 bl 0) (seH hr m ln (nI b) true false) x m := E.K.frame FB (by omega) (fun z => by cases z.2) (fun f y f1 f2 ky z => by have := z.2; omega) eL
  have cs1 : ∀ t, CsS o x lo t hc (sI hc 454 bl 0) := fun t => CsS.blk (by decide)
  obtain ⟨H, e1, A, hT1, hU1, done, rest⟩ := wake_loop (F := F) (o := o) (hc := sI hc 454 bl 0) (hr := hr) (kr := seH hr m ln (nI b) true false) (x := x) (m := m) (lo := lo) (ln := ln) (sl := sl) (u := u) (b := b) (bl := bl) hF C1 K1 (by rw [qT_sI]; exact hx) lx u1 s16 (by rw [qI_sI, if_neg (fun z => by cases z.1)]; exact E.us u u1) (by rw [se_I (by decide)]; exact E.hl) E.l32 (fun k hk => by
    have ht : 16 * u + k < 128 := by omega
    have dv : (16 * u + k) / 16 = u := by omega
    have md : (16 * u + k) % 16 = k := by omega
    by_cases z : hA hr (m + 9) (16 * u + k) = nI b
    · exact Or.inl ⟨((E.pre ht).1 z).fr (cs1 _) (rs_refl ..), se_rw ht E.l32 z E.hl (fun i hi q => (E.lw _ i ht hi z q).1)⟩
    · obtain ⟨S, nb⟩ := (E.pre ht).2 z
      refine Or.inr ⟨S.fr E.K E.l32 (cs1 _) (se_rs ht (Or.inl z)), fun w2 hw2 => ?_⟩
      rw [qR_sI]
      have := bz_q hw2
      rw [qQ_sI] at this
      exact nb w2 (by rw [dv, md]; exact this)) (by rw [qQ_sI]; exact B.bq)
  have CH : Cd H x := PW.cd C1 A (by rw [qT_sI]; exact hx) lx
  have KH : Kn H (seH hr m ln (nI b) true false) x m := PW.kn K1 A (by rw [qT_sI]; exact hx) lx (fun _ _ => rfl)
  rw [qT_sI] at hT1
  rw [qU_sI] at hU1
  have Hs : ∀ t, t < 128 → SlotOk o H (seH hr m ln (nI b) true false) x m lo ln t := by
    intro t ht
    by_cases c : ¬ t / 16 = u ∨ 16 * u + sl ≤ t
    · have nb : ¬ hA hr (m + 9) t = nI b := fun z => by
        have y1 := u4 t ht z
        have y2 := E.nf t ht (by rw [z]; exact nI_m1 (by omega))
        omega
      exact ((E.pre ht).2 nb).1.fr E.K E.l32 ((cs1 t).trans (rest t ht c)) (se_rs ht (Or.inl nb))
    · have := done (t - 16 * u) (by omega)
      rw [show 16 * u + (t - 16 * u) = t by omega] at this
      exact this
  have n9 : ∀ a, ¬ PW (sI hc 454 bl 0) lo 9999 a := fun a z => by have := z.2.2; omega
  have hQH : ∀ a j, a < hT hc → hQ H a j = hQ hc a j := fun a j ha => by
    rw [((A.2 a (by rw [qT_sI]; exact ha)).2.2.2 (n9 a) j).2.1, qQ_sI]
  rcases Hs s hs with ⟨y, _⟩ | ⟨w2, rg2, pl2, ro2, pr2, ti2, L2, y1, W2, e2, y2⟩
  · rw [hQH _ _ (by omega), E.z1] at y; cases y
  · have ew : w2 = w := by
      rw [hQH _ _ (by omega), E.z1] at y1
      injection y1 with y1
      exact y1.symm
    subst ew
    have sbk : hA (seH hr m ln (nI b) true false) (m + 9) s = nI b := (sb_se hs b64 b64 (Or.inr rfl)).mpr B.sb
    rcases y2 with ⟨_, y2⟩ | ⟨b2, bl2, B2, _⟩
    · rw [sbk] at y2; exact absurd y2 (nI_m1 (by omega))
    · obtain ⟨kc, g1, g2, g3, g4, g5⟩ := gather_slot (F := F) hF CH KH (by omega) lx hs (by rw [se_I (by decide)]; exact E.hl) E.l32 y1 W2 e2 B2
      have A2 : Fr (fun f a => a = w2 ∧ 512 ≤ f ∧ f ≤ 521) H kc := g2.mono (fun f a _ z => ⟨z.1, by have := z.2.1; omega, z.2.2⟩)
      have wk := W.k
      have wl := W.bw
      have FP : Fr (PG hc x lo) hc kc := (((Fr.refl hc).cI (f := 454) (a := bl) (v := 0) (Or.inr (Or.inr (Or.inr ⟨k4, k1, Or.inr rfl⟩)))).trans (A.mono (fun f a _ z => Or.inl ⟨z.1, by have := z.2.1; rw [qK_sI] at this; exact this, z.2.2⟩))).trans (g2.mono (fun f a _ z => Or.inl ⟨by rw [z.1]; exact wl.1, by rw [z.1]; exact wk, Or.inr ⟨by have := z.2.1; omega, z.2.2⟩⟩))
      have me : f_WM_meet F x (some bl) hc = some H := by
        rw [f_WM_meet, rq_some k1, pw_e, u2, nu_some, if_neg na, if_pos yw, pw_e, gd_t C1.k, rq_k C1.r_kernel C1.k_kernel, gd_t (C1.u u u1).2.1, e1, clv_some]
      refine ⟨kc, ?_, ⟨FP, by omega, by omega, fun t ht => ?_, fun c hc2 => ?_, fun v hv => ?_⟩, ?_⟩
      · rw [b_WM_go_225, gd_t wk, pw_e, B.blk, gd_t C.k, me, clv_some, gd_t CH.k, rq_k CH.r_kernel CH.k_kernel, gd_t W2.k, g1, clv_some]
      · by_cases et : t = s
        · rw [et]; exact g5
        · exact (Hs t ht).fr KH E.l32 (CsS.one CH A2 (by omega) lx ht W2.tw W2.bw.1 W2.k et) (rs_refl ..)
      · have nG : ∀ a f, lo ≤ a → a < hT hc → (hK hc a = 8 ∨ hK hc a = 100) → ¬ (a = bl ∧ f = 454) → (¬ a = bl ∨ ¬ f = 450) → 448 ≤ f → f ≤ 454 → hI kc f a = hI hc f a ∧ hR kc f a = hR hc f a := fun a f h1 h2 h4 h5 h6 h7 h8 => by
          have na2 : ¬ a = w2 := fun z => by rw [z, wk] at h4; rcases h4 with h4 | h4 <;> cases h4
          have s1 := (g2.2 a (by omega)).2.2.1 f (fun z => na2 z.1)
          have s2 := (A.2 a (by rw [qT_sI]; exact h2)).2.2.1 f (fun z => by have z1 := z.2.1; rw [qK_sI] at z1; rw [z1] at h4; rcases h4 with h4 | h4 <;> cases h4)
          rw [s1.1, s1.2, s2.1, s2.2, qI_sI, if_neg (fun z => h5 ⟨z.2, z.1⟩), qR_sI]
          exact ⟨rfl, rfl⟩
        have nGA : ∀ a j, a < hT hc → (hK hc a = 8 ∨ hK hc a = 100) → hA kc a j = hA hc a j := fun a j h2 h4 => by
          have na2 : ¬ a = w2 := fun z => by rw [z, wk] at h4; rcases h4 with h4 | h4 <;> cases h4
          rw [((g2.2 a (by omega)).2.2.2 (fun z => na2 z.1) j).1, ((A.2 a (by rw [qT_sI]; exact h2)).2.2.2 (n9 a) j).1, qA_sI]
        by_cases ec : c = b
        · subst ec
          have kk : ∀ a, a < hT hc → hK kc a = hK hc a ∧ hN kc a = hN hc a := fun a ha => ⟨(FP.2 a ha).1, (FP.2 a ha).2.1⟩
          have qb : hQ kc (x + 13) c = hQ hc (x + 13) c := by
            rw [((g2.2 (x + 13) (by omega)).2.2.2 (fun z => by have := z.1; have := wl.1; omega) c).2.1]
            exact hQH _ _ (by omega)
          have f1 := nG bl 448 k4 k5 (Or.inl k1) (fun z => by cases z.2) (Or.inr (by decide)) (by decide) (by decide)
          have f2 := nG bl 449 k4 k5 (Or.inl k1) (fun z => by cases z.2) (Or.inr (by decide)) (by decide) (by decide)
          have f4 := nG bl 451 k4 k5 (Or.inl k1) (fun z => by cases z.2) (Or.inr (by decide)) (by decide) (by decide)
          have f5 := nG bl 452 k4 k5 (Or.inl k1) (fun z => by cases z.2) (Or.inr (by decide)) (by decide) (by decide)
          have f6 := nG bl 453 k4 k5 (Or.inl k1) (fun z => by cases z.2) (Or.inr (by decide)) (by decide) (by decide)
          have fu : hR kc 450 bl = hR hc 450 bl := by
            have na2 : ¬ bl = w2 := fun z => by rw [z, wk] at k1; cases k1
            rw [((g2.2 bl (by omega)).2.2.1 _ (fun z => na2 z.1)).2, ((A.2 bl (by rw [qT_sI]; exact k5)).2.2.1 _ (fun z => by have z1 := z.2.1; rw [qK_sI, k1] at z1; cases z1)).2, qR_sI]
          have fw : hI kc 454 bl = 0 := by
            have na2 : ¬ bl = w2 := fun z => by rw [z, wk] at k1; cases k1
            rw [((g2.2 bl (by omega)).2.2.1 _ (fun z => na2 z.1)).1, ((A.2 bl (by rw [qT_sI]; exact k5)).2.2.1 _ (fun z => by have z1 := z.2.1; rw [qK_sI, k1] at z1; cases z1)).1, qI_sI, if_pos ⟨rfl, rfl⟩]
          refine Or.inr ⟨bl, bi, by rw [qb]; exact B.bq, ⟨by rw [(kk bl k5).1]; exact k1, by rw [f1.1]; exact k2, k3, k4, by omega⟩, ⟨by rw [f2.2]; exact i1, by rw [(kk bi i6).1]; exact i2, by rw [(kk bi i6).2]; exact i3, i4, i5, by omega⟩, Or.inr ⟨u, u1, by rw [fu]; exact u2, ⟨s, hs, sbk⟩, fun t ht z => u4 t ht ((sb_se ht b64 b64 (Or.inr rfl)).mp z), by rw [f4.1, se_I (by decide)]; exact u5, by rw [f5.1, se_I (by decide)]; exact u6, ?_, ?_, fun k hk => by rw [nGA bi k i6 (Or.inr i2), se_A, stG_o (by omega) (by omega)]; exact u9 k hk⟩⟩
          · rw [f6.1, u7]
            exact congrArg nI (cn_congr 4096 fun t ht => (av_se ht b64 b64 (Or.inr rfl)).symm)
          · rw [fw, cn_0 4096 (fun t ht => wt_se_b ht E.l32 E.hl b64 (fun t i ht hi z q => (E.lw t i ht hi z q).1))]
            rfl
        · refine (E.blk c hc2).fr (by omega) (by
            rw [((g2.2 (x + 13) (by omega)).2.2.2 (fun z => by have := z.1; have := wl.1; omega) c).2.1]
            exact hQH _ _ (by omega)) (fun a h1 h2 h3 h4 => ?_) (fun t ht => sb_se ht b64 hc2 (Or.inl (fun z => ec z.symm))) (se_I (by decide)) (se_I (by decide)) (cn_congr 4096 fun t ht => av_se ht b64 hc2 (Or.inl (fun z => ec z.symm))) (cn_congr 4096 fun t ht => wt_se ht b64 hc2 (Or.inl (fun z => ec z.symm))) (fun k hk => by rw [se_A, stG_o (by omega) (by omega)])
          have nab : ¬ a = bl := fun z => by rw [z, k3] at h3; omega
          exact ⟨(FP.2 a h2).1, (FP.2 a h2).2.1, fun f f1 f2 => nG a f h1 h2 h4 (fun z => nab z.1) (Or.inl nab) f1 f2, fun j => nGA a j h2 h4⟩
      · have s1 := (g2.2 (x + 15 + 3 * v) (by omega)).2.2.1 387 (fun z => by have := z.1; have := wl.1; omega)
        have s2 := (A.2 (x + 15 + 3 * v) (by rw [qT_sI]; omega)).2.2.1 387 (fun z => by have := z.1; omega)
        rw [s1.1, s2.1, qI_sI, if_neg (fun z => by cases z.1), E.uf v hv]
        congr 1
        refine cn_congr sl fun k hk => ?_
        rw [se_A, stG_s (by omega), if_neg (fun z => by cases z.1)]
      · have s1 := (g2.2 (x + 11) (by omega)).2.2.1 324 (fun z => by have := z.1; have := wl.1; omega)
        have s2 := (A.2 (x + 11) (by rw [qT_sI]; omega)).2.2.1 324 (fun z => by have := z.1; omega)
        rw [s1.1, s2.1, qI_sI, if_neg (fun z => by cases z.1)]
theorem meetB {o : Nat → Nat} {hc hr : Hp} {x m lo ln sl s b w rg pl ro pr ti L bl : Nat} {F : Nat} (hF : 40000 ≤ F) (E : ME o hc hr x m lo ln sl s b w rg pl ro pr ti L bl) (ya : hI hc 453 bl = 0) : ∃ kc, b_WM_go_225 F x w hc = some kc ∧ MR o hc kc (seH hr m ln (nI b) true true) x m lo ln sl ∧ hI kc 324 (x + 11) = hI hc 324 (x + 11) + 1 := by
  obtain ⟨bi, u, ⟨k1, k2, k3, k4, k5⟩, ⟨i1, i2, i3, i4, i5, i6⟩, u1, u2, u3, u4, u5, u6, u7, u8, u9⟩ := E.bl
  have C := E.C
  have W := E.W
  have B := E.B
  have lx := E.lx
  have hx := E.hx
  have s16 := E.s16
  have hs := E.hs
  have su := u4 s hs B.sb
  have b64 := B.b64
  have ks : ¬ hA hr (m + 9) s = -1 := by rw [B.sb]; exact nI_m1 (by omega)
  have smod := E.nf s hs ks
  have eL : ∀ k, k < 128 → hL (seH hr m ln (nI b) true true) (m + 1) k = hL hr (m + 1) k := fun k _ => by unfold seH; rw [qL_sI, qL_oA]
  have K1 : Kn hc (seH hr m ln (nI b) true true) x m := fun k hk => by rw [eL k hk]; exact E.K k hk
  have fr1 : ∀ t, t < 128 → hA hr (m + 9) t = nI b → hA (seH hr m ln (nI b) true true) (m + 9) t = -1 := fun t ht z => by rw [se_A, stG_s ht, if_pos ⟨rfl, z⟩]
  obtain ⟨H, e1, A, hT1, hU1, done, rest, cF, nU⟩ := free_loop (F := F) (o := o) (hc := hc) (hr := hr) (kr := seH hr m ln (nI b) true true) (x := x) (m := m) (lo := lo) (ln := ln) (sl := sl) (u := u) (b := b) (bl := bl) hF C K1 hx lx u1 s16 (E.us u u1) E.l32 k1 k4 k5 (fun k hk => by
    have ht : 16 * u + k < 128 := by omega
    have dv : (16 * u + k) / 16 = u := by omega
    have md : (16 * u + k) % 16 = k := by omega
    by_cases z : hA hr (m + 9) (16 * u + k) = nI b
    · exact Or.inl ⟨(E.pre ht).1 z, fr1 _ ht z⟩
    · obtain ⟨S, nb⟩ := (E.pre ht).2 z
      refine Or.inr ⟨S.fr E.K E.l32 (CsS.refl ..) (se_rs ht (Or.inl z)), fun w2 hw2 => ?_, z⟩
      exact nb w2 (by rw [dv, md]; exact bz_q hw2)) B.bq
  have CH : Cd H x := PR.cd C A hx lx k4
  have KH : Kn H (seH hr m ln (nI b) true true) x m := PR.kn K1 C A hx lx k4 u1 k1 (fun _ _ => rfl)
  have Hs : ∀ t, t < 128 → SlotOk o H (seH hr m ln (nI b) true true) x m lo ln t := by
    intro t ht
    by_cases c : ¬ t / 16 = u ∨ 16 * u + sl ≤ t
    · have nb : ¬ hA hr (m + 9) t = nI b := fun z => by
        have y1 := u4 t ht z
        have y2 := E.nf t ht (by rw [z]; exact nI_m1 (by omega))
        omega
      exact ((E.pre ht).2 nb).1.fr E.K E.l32 (rest t ht c) (se_rs ht (Or.inl nb))
    · have := done (t - 16 * u) (by omega)
      rw [show 16 * u + (t - 16 * u) = t by omega] at this
      exact this
  have n9 : ∀ a, ¬ PR hc lo (x + 15 + 3 * u) bl 9999 a := fun a z => by
    rcases z with z | z | z
    · have := z.2.2; omega
    · cases z.2
    · cases z.2
  have hQH : ∀ a j, a < hT hc → hQ H a j = hQ hc a j := fun a j ha => ((A.2 a ha).2.2.2 (n9 a) j).2.1
  have wl := W.bw
  have wk := W.k
  /- the tally, then the last gathering -/
  have W2 : Ws o lo (sI H 324 (x + 11) (hI H 324 (x + 11) + 1)) s w rg pl ro pr ti L := W.fr (by rw [qT_sI]; omega) (fun a h1 h2 _ _ ka => ⟨by rw [qK_sI]; exact (A.2 a h2).1, by rw [qN_sI]; exact (A.2 a h2).2.1, fun f f1 f2 => by
    rw [qR_sI]
    exact ((A.2 a h2).2.2.1 f (fun z => by
      rcases z with z | z | z
      · have := z.2.2; omega
      · have := z.2; omega
      · have := z.2; omega)).2⟩)
  have ln2 : hI (sI H 324 (x + 11) (hI H 324 (x + 11) + 1)) 514 w = nI ln := by
    rw [qI_sI, if_neg (fun z => by cases z.1), ((A.2 w wl.2).2.2.1 _ (fun z => by
      rcases z with z | z | z
      · have := z.2.2; omega
      · cases z.2
      · cases z.2)).1]
    exact B.lns
  have C2 : Cd (sI H 324 (x + 11) (hI H 324 (x + 11) + 1)) x := CH.same (qK_sI ..) (qN_sI ..) (fun f a _ => by rw [qR_sI]) (fun j => by rw [qQ_sI])
  have FT : Fr (fun f a => a = x + 11 ∧ f = 324) H (sI H 324 (x + 11) (hI H 324 (x + 11) + 1)) := (Fr.refl H).cI ⟨rfl, rfl⟩
  have K2 : Kn (sI H 324 (x + 11) (hI H 324 (x + 11) + 1)) (seH hr m ln (nI b) true true) x m := KH.frame FT (by omega) (fun z => by cases z.2) (fun f y f1 f2 ky z => by have := z.2; omega) (fun _ _ => rfl)
  obtain ⟨kc, g1, g2, g3, g4⟩ := c_gather_any (F := F) hF C2 K2 (W2.wp ln2 B.lnL)
  have A2 : Fr (fun f a => a = w ∧ 512 ≤ f ∧ f ≤ 521) (sI H 324 (x + 11) (hI H 324 (x + 11) + 1)) kc := g2.mono (fun f a _ z => ⟨z.1, by have := z.2.1; omega, z.2.2⟩)
  have csT : ∀ t, CsS o x lo t H (sI H 324 (x + 11) (hI H 324 (x + 11) + 1)) := fun t => CsS.blk (by decide)
  rw [qT_sI] at g3
  rw [qU_sI] at g4
  have FP : Fr (PG hc x lo) hc kc := ((A.mono (fun f a _ z => by
      rcases z with z | z | z
      · exact Or.inl z
      · exact Or.inr (Or.inr (Or.inl ⟨by omega, by omega, z.2⟩))
      · exact Or.inr (Or.inr (Or.inr ⟨by rw [z.1]; exact k4, by rw [z.1]; exact k1, Or.inl z.2⟩)))).cI (f := 324) (a := x + 11) (v := hI H 324 (x + 11) + 1) (Or.inr (Or.inl ⟨rfl, rfl⟩))).trans (g2.mono (fun f a _ z => Or.inl ⟨by rw [z.1]; exact wl.1, by rw [z.1]; exact wk, Or.inr ⟨by have := z.2.1; omega, z.2.2⟩⟩))
  have me : f_WM_meet F x (some bl) hc = some (sI H 324 (x + 11) (hI H 324 (x + 11) + 1)) := by
    rw [f_WM_meet, rq_some k1, pw_e, u2, nu_some, if_pos ya, gd_t (C.u u u1).2.1, e1, clv_some, gd_t CH.k, rq_k CH.r_tally CH.k_tally, pw_e]
  have nR : ∀ a f, a < hT hc → (hK hc a = 8 ∨ hK hc a = 100) → 448 ≤ f → f ≤ 454 → ¬ (a = bl ∧ f = 450) → hI kc f a = hI hc f a ∧ hR kc f a = hR hc f a := fun a f h2 h4 h7 h8 h9 => by
    have na2 : ¬ a = w := fun z => by rw [z, wk] at h4; rcases h4 with h4 | h4 <;> cases h4
    have s1 := (g2.2 a (by rw [qT_sI]; omega)).2.2.1 f (fun z => na2 z.1)
    have s2 := (A.2 a h2).2.2.1 f (fun z => by
      rcases z with z | z | z
      · have z1 := z.2.1; rw [z1] at h4; rcases h4 with h4 | h4 <;> cases h4
      · have := z.2; omega
      · exact h9 z)
    rw [s1.1, s1.2, qI_sI, if_neg (fun z => by have := z.1; omega), qR_sI, s2.1, s2.2]
    exact ⟨rfl, rfl⟩
  have nA : ∀ a j, a < hT hc → (hK hc a = 8 ∨ hK hc a = 100) → hA kc a j = hA hc a j := fun a j h2 h4 => by
    have na2 : ¬ a = w := fun z => by rw [z, wk] at h4; rcases h4 with h4 | h4 <;> cases h4
    rw [((g2.2 a (by rw [qT_sI]; omega)).2.2.2 (fun z => na2 z.1) j).1, qA_sI, ((A.2 a h2).2.2.2 (n9 a) j).1]
  have qb : ∀ c, hQ kc (x + 13) c = hQ hc (x + 13) c := fun c => by
    rw [((g2.2 (x + 13) (by rw [qT_sI]; omega)).2.2.2 (fun z => by have := z.1; have := wl.1; omega) c).2.1, qQ_sI]
    exact hQH _ _ (by omega)
  have noB : ∀ t, t < 128 → ¬ hA (seH hr m ln (nI b) true true) (m + 9) t = nI b := fun t ht z => by
    rw [se_A, stG_s ht] at z
    by_cases q : hA hr (m + 9) t = nI b
    · rw [if_pos ⟨rfl, q⟩] at z
      exact absurd z.symm (nI_m1 (by omega))
    · rw [if_neg (fun y => q y.2)] at z
      exact q z
  refine ⟨kc, ?_, ⟨FP, by omega, by omega, fun t ht => ?_, fun c hc2 => ?_, fun v hv => ?_⟩, ?_⟩
  · rw [b_WM_go_225, gd_t wk, pw_e, B.blk, gd_t C.k, me, clv_some, gd_t C2.k, rq_k C2.r_kernel C2.k_kernel, gd_t W2.k, g1, clv_some]
  · by_cases et : t = s
    · subst et
      have sbk := fr1 t ht B.sb
      refine Or.inr ⟨w, rg, pl, ro, pr, ti, L, ?_, ?_, E.e, Or.inl ⟨?_, sbk⟩⟩
      · rw [((g2.2 _ (by rw [qT_sI]; omega)).2.2.2 (fun z => by have := z.1; have := wl.1; omega) _).2.1, qQ_sI, hQH _ _ (by omega)]
        exact E.z1
      · exact W2.fr (by rw [qT_sI]; omega) (fun a h1 h2 _ _ _ => ⟨(g2.2 a h2).1, (g2.2 a h2).2.1, fun f f1 f2 => ((g2.2 a h2).2.2.1 f (fun z => by have := z.2.2; omega)).2⟩)
      · rw [((g2.2 w (by rw [qT_sI]; omega)).2.2.1 _ (fun z => by have := z.2.1; omega)).2, qR_sI]
        rcases Hs t ht with ⟨y, _⟩ | ⟨w2, rg2, pl2, ro2, pr2, ti2, L2, y1, W3, e3, y2⟩
        · rw [hQH _ _ (by omega), E.z1] at y; cases y
        · rw [hQH _ _ (by omega), E.z1] at y1
          injection y1 with y1
          subst y1
          rcases y2 with ⟨y2, _⟩ | ⟨b2, bl2, B2, _⟩
          · exact y2
          · have := B2.sb
            rw [sbk] at this
            exact absurd this.symm (nI_m1 (by have := B2.b64; omega))
    · exact (Hs t ht).fr KH E.l32 ((csT t).trans (CsS.one C2 A2 (by rw [qT_sI]; omega) lx ht W2.tw W2.bw.1 W2.k et)) (rs_refl ..)
  · by_cases ec : c = b
    · subst ec
      have f1 := nR bl 448 k5 (Or.inl k1) (by decide) (by decide) (fun z => by cases z.2)
      have f2 := nR bl 449 k5 (Or.inl k1) (by decide) (by decide) (fun z => by cases z.2)
      have fu : hR kc 450 bl = none := by
        have na2 : ¬ bl = w := fun z => by rw [z, wk] at k1; cases k1
        rw [((g2.2 bl (by rw [qT_sI]; omega)).2.2.1 _ (fun z => na2 z.1)).2, qR_sI]
        exact nU
      exact Or.inr ⟨bl, bi, by rw [qb]; exact B.bq, ⟨by rw [(FP.2 bl k5).1]; exact k1, by rw [f1.1]; exact k2, k3, k4, by omega⟩, ⟨by rw [f2.2]; exact i1, by rw [(FP.2 bi i6).1]; exact i2, by rw [(FP.2 bi i6).2.1]; exact i3, i4, i5, by omega⟩, Or.inl ⟨fu, noB⟩⟩
    · refine (E.blk c hc2).fr (by omega) (qb c) (fun a h1 h2 h3 h4 => ?_) (fun t ht => sb_se ht b64 hc2 (Or.inl (fun z => ec z.symm))) (se_I (by decide)) (se_I (by decide)) (cn_congr 4096 fun t ht => av_se ht b64 hc2 (Or.inl (fun z => ec z.symm))) (cn_congr 4096 fun t ht => wt_se ht b64 hc2 (Or.inl (fun z => ec z.symm))) (fun k hk => by rw [se_A, stG_o (by omega) (by omega)])
      have nab : ¬ a = bl := fun z => by rw [z, k3] at h3; omega
      exact ⟨(FP.2 a h2).1, (FP.2 a h2).2.1, fun f f1 f2 => nR a f h2 h4 f1 f2 (fun z => nab z.1), fun j => nA a j h2 h4⟩
  · have s1 := (g2.2 (x + 15 + 3 * v) (by rw [qT_sI]; omega)).2.2.1 387 (fun z => by have := z.1; have := wl.1; omega)
    rw [s1.1, qI_sI, if_neg (fun z => by cases z.1)]
    by_cases ev : v = u
    · subst ev
      rw [cF, E.uf v hv, nI_add]
      refine congrArg nI (cn_or sl fun k hk => ?_).symm
      rw [se_A, stG_s (by omega)]
      by_cases q : hA hr (m + 9) (16 * v + k) = nI b
      · have n1 : ¬ nI b = (-1 : Int32) := nI_m1 (by omega)
        rw [if_pos ⟨rfl, q⟩, q, decide_eq_true rfl, decide_eq_true rfl, decide_eq_false n1]
        exact ⟨rfl, rfl⟩
      · rw [if_neg (fun y => q y.2), decide_eq_false q]
        simp
    · rw [((A.2 (x + 15 + 3 * v) (by omega)).2.2.1 387 (fun z => by
        rcases z with z | z | z
        · have := z.1; omega
        · have := z.1; omega
        · have := z.1; omega)).1, E.uf v hv]
      refine congrArg nI (cn_congr sl fun k hk => ?_)
      have nb : ¬ hA hr (m + 9) (16 * v + k) = nI b := fun z => by
        have := u4 (16 * v + k) (by omega) z
        omega
      rw [se_A, stG_s (by omega), if_neg (fun y => nb y.2)]
  · have s1 := (g2.2 (x + 11) (by rw [qT_sI]; omega)).2.2.1 324 (fun z => by have := z.1; have := wl.1; omega)
    rw [s1.1, qI_sI, if_pos ⟨rfl, rfl⟩, ((A.2 (x + 11) (by omega)).2.2.1 324 (fun z => by
      rcases z with z | z | z
      · have := z.1; omega
      · have := z.1; omega
      · have := z.1; omega)).1]
