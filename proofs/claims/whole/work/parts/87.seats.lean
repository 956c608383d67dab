/-! all seats of a block -/
theorem seat_skip {F N N2 : Nat} {o o0 : Nat → Nat} {hc hr hc0 hr0 : Hp} {x m lo ln sl u b bl bi th k n wr : Nat} (E : SE o o0 hc hr hc0 hr0 x m lo ln u b bl bi th k n) (M : Md hr0 m) (hu : u < 8) (hk : k < sl) (s16 : sl ≤ 16) (hsl : hI hc0 386 (x + 15 + 3 * u) = nI sl) (hslr : hI hr0 706 m = nI sl) (hl : hI hr0 705 m = nI ln) (ht : hI hr0 717 m = nI th) (l0 : 0 < ln) (l32 : ln ≤ 32) (t5 : th ≤ 512) (ew : wr = (th + ln - 1) / ln) (w16 : wr ≤ 16) (hn : n < wr) (nfr : ¬ hA hr0 (m + 9) (16 * u + k) = -1) : b_Unit_seat_6 F (N + 1) (x + 15 + 3 * u) (some bl) (nI wr) (nI ln) (some (x + 2)) (nI n) (nI k) hc = b_Unit_seat_6 F N (x + 15 + 3 * u) (some bl) (nI wr) (nI ln) (some (x + 2)) (nI n) (nI (k + 1)) hc ∧ b_Mod_begin_8 F (N2 + 1) m (nI u) (nI b) (nI n) (nI (16 * u + k)) hr = b_Mod_begin_8 F N2 m (nI u) (nI b) (nI n) (nI (16 * u + (k + 1))) hr ∧ SE o o0 hc hr hc0 hr0 x m lo ln u b bl bi th (k + 1) n := by
  have hs : 16 * u + k < 128 := by omega
  have dv : (16 * u + k) / 16 = u := by omega
  have md : (16 * u + k) % 16 = k := by omega
  have Rh := E.far (16 * u + k) hs (by omega)
  have frr : ¬ hA hr (m + 9) (16 * u + k) = -1 := by rw [Rh.2.1.1]; exact nfr
  have Mr : Md hr m := E.R.md M
  have hslc : hI hc 386 (x + 15 + 3 * u) = nI sl := by rw [E.us _ u hu (Or.inl rfl)]; exact hsl
  obtain ⟨d1, d2, d3, d4, d5, _⟩ := E.C.u u hu
  have c1 : ¬ nI sl ≤ nI k := nI_ge hk (by omega)
  have c2 : ¬ nI 16 ≤ nI k := nI_ge (by omega) (by omega)
  have c3 : ¬ nI wr ≤ nI n := nI_ge hn (by omega)
  refine ⟨?_, ?_, ?_⟩
  · have S := E.S _ hs
    unfold SlotOk at S
    rw [dv, md] at S
    rcases S with ⟨_, z2⟩ | ⟨w, rg, pl, ro, pr, ti, L, z1, W, e, z3⟩
    · exact absurd z2 frr
    · rcases z3 with ⟨_, z4⟩ | ⟨b2, bl2, B, G⟩
      · exact absurd z4 frr
      · rw [b_Unit_seat_6]
        dsimp only
        rw [gd_t d2, hslc, if_neg c1, rq_k d3 d4, d5, if_neg c2, if_neg c3, c_Unit_busy d2 d3 d4 d5 hslc s16 hk (fun w2 hw => by rw [z1] at hw; injection hw with hw; rw [← hw]; exact W.k), cl_some, bz_some z1 B.blk, nu_some, nI_1]
  · have := l_begin8n (F := F) (N := N2) (b := b) (n := n) Mr hu s16 (by rw [E.R.i (fun z => z)]; exact hslr) (show 16 * u + k < 16 * u + sl by omega) (by rw [E.R.i (fun z => z)]; exact hl) (by rw [E.R.i (fun z => z)]; exact ht) l0 l32 t5 (by rw [← ew]; exact hn) (by omega) frr
    rw [show 16 * u + k + 1 = 16 * u + (k + 1) by omega] at this
    exact this
  · refine ⟨E.C, E.K, E.hx, E.lh, E.S, E.B, E.A, E.Q, E.q13, E.bf, E.bi, E.us, E.R, fun t ht2 nt => E.far t ht2 (fun y => nt ⟨y.1, by omega, y.2.2⟩), fun t ht2 h1 h2 h3 => ?_, E.av, E.wt, E.lt, E.lu, E.ot⟩
    by_cases z : t = 16 * u + k
    · rw [z] at h3; exact absurd h3 nfr
    · exact E.nb t ht2 h1 (by omega) h3
abbrev frS (hr0 : Hp) (m u k : Nat) : Nat := cn (fun j => decide (hA hr0 (m + 9) (16 * u + j) = -1)) k
theorem seat_all {F : Nat} {o0 : Nat → Nat} {hc0 hr0 : Hp} {x m lo ln sl u b bl bi th wr : Nat} (hF : 40000 ≤ F) (E0 : SE o0 o0 hc0 hr0 hc0 hr0 x m lo ln u b bl bi th 0 0) (M : Md hr0 m) (lx : x + 38 < lo) (hu : u < 8) (s16 : sl ≤ 16) (hsl : hI hc0 386 (x + 15 + 3 * u) = nI sl) (hslr : hI hr0 706 m = nI sl) (hl : hI hr0 705 m = nI ln) (ht : hI hr0 717 m = nI th) (lp : ∃ e, e ≤ 5 ∧ ln = 2 ^ e) (l0 : 0 < ln) (l32 : ln ≤ 32) (t1 : 1 ≤ th) (t5 : th ≤ 512) (b64 : b < 64) (ew : wr = (th + ln - 1) / ln) (w16 : wr ≤ 16) (room : wr ≤ frS hr0 m u sl) (bq : hQ hc0 (x + 13) b = some bl) (kbl : hK hc0 bl = 8) (blT : bl < hT hc0) (hth : hI hc0 452 bl = nI th) (tbl : o0 bl = 1000 + 2 * b) (tbi : o0 bi = 1001 + 2 * b) (biT : bi < hT hc0) (lbi : lo ≤ bi) (hx0 : x + 38 < hT hc0) : ∃ o hc hr ks, f_Unit_seat F (x + 15 + 3 * u) (some bl) (nI wr) (nI ln) (some (x + 2)) hc0 = some (sI hc 387 (x + 15 + 3 * u) (hI hc 387 (x + 15 + 3 * u) - nI wr)) ∧ f_Mod_begin F m (nI u) (nI b) hr0 = some (oA hr (fr (hA hr) (m + 18) (64 * b) (64 * b + 64) (fun _ => 0))) ∧ SE o o0 hc hr hc0 hr0 x m lo ln u b bl bi th ks wr ∧ ks ≤ sl ∧ frS hr0 m u ks = wr := by
  obtain ⟨ks, ⟨k1, k2⟩, k3⟩ := pk_least (fun k => k ≤ sl ∧ wr ≤ frS hr0 m u k) ⟨sl, Nat.le_refl _, room⟩
  have lt : ∀ j, j < ks → frS hr0 m u j < wr := fun j hj => by
    have := k3 j hj
    by_cases z : wr ≤ frS hr0 m u j
    · exact absurd ⟨by omega, z⟩ this
    · omega
  have key : ∀ k, k ≤ ks → ∃ o hc hr, b_Unit_seat_6 F F (x + 15 + 3 * u) (some bl) (nI wr) (nI ln) (some (x + 2)) 0 0 hc0 = b_Unit_seat_6 F (F - k) (x + 15 + 3 * u) (some bl) (nI wr) (nI ln) (some (x + 2)) (nI (frS hr0 m u k)) (nI k) hc ∧ b_Mod_begin_8 F F m (nI u) (nI b) 0 (nI (16 * u)) hr0 = b_Mod_begin_8 F (F - k) m (nI u) (nI b) (nI (frS hr0 m u k)) (nI (16 * u + k)) hr ∧ SE o o0 hc hr hc0 hr0 x m lo ln u b bl bi th k (frS hr0 m u k) := by
    intro k
    induction k with
    | zero => intro _; exact ⟨o0, hc0, hr0, rfl, rfl, E0⟩
    | succ k ih =>
      intro hk
      obtain ⟨o, hc, hr, e1, e2, E⟩ := ih (by omega)
      obtain ⟨f, hf⟩ : ∃ f, F - k = f + 1 := ⟨F - k - 1, by omega⟩
      have hf2 : F - (k + 1) = f := by omega
      have hn := lt k (by omega)
      rw [hf] at e1 e2
      rw [hf2]
      have sn : frS hr0 m u (k + 1) = frS hr0 m u k + if decide (hA hr0 (m + 9) (16 * u + k) = -1) = true then 1 else 0 := cn_snoc _ k
      by_cases z : hA hr0 (m + 9) (16 * u + k) = -1
      · rw [decide_eq_true z, if_pos rfl] at sn
        have nl : frS hr0 m u k * ln < th := by
          have h1 : frS hr0 m u k + 1 ≤ (th + ln - 1) / ln := by omega
          have h2 := (Nat.le_div_iff_mul_le l0).mp h1
          rw [Nat.succ_mul] at h2
          omega
        obtain ⟨o2, hc2, hr2, s1, s2, s3⟩ := seat_step (F := F) (N := f) (N2 := f) hF E M lx hu (by omega) s16 hsl hslr hl ht lp l0 l32 t5 b64 ew w16 hn nl bq kbl blT hth tbl tbi biT lbi z hx0
        rw [sn]
        exact ⟨o2, hc2, hr2, e1.trans s1, e2.trans s2, s3⟩
      · rw [decide_eq_false z, if_neg (by decide)] at sn
        obtain ⟨s1, s2, s3⟩ := seat_skip (F := F) (N := f) (N2 := f) (wr := wr) E M hu (by omega) s16 hsl hslr hl ht l0 l32 t5 ew w16 hn z
        rw [sn, Nat.add_zero]
        exact ⟨o, hc, hr, e1.trans s1, e2.trans s2, s3⟩
  have eks : frS hr0 m u ks = wr := by
    by_cases z : ks = 0
    · rw [z] at k2 ⊢
      have : frS hr0 m u 0 = 0 := rfl
      omega
    · obtain ⟨j, hj⟩ : ∃ j, ks = j + 1 := ⟨ks - 1, by omega⟩
      have := lt j (by omega)
      have sn : frS hr0 m u (j + 1) = frS hr0 m u j + if decide (hA hr0 (m + 9) (16 * u + j) = -1) = true then 1 else 0 := cn_snoc _ j
      rw [hj] at k2 ⊢
      by_cases y : decide (hA hr0 (m + 9) (16 * u + j) = -1) = true
      · rw [if_pos y] at sn; omega
      · rw [if_neg y] at sn; omega
  obtain ⟨o, hc, hr, e1, e2, E⟩ := key ks (Nat.le_refl _)
  rw [eks] at e1 e2 E
  obtain ⟨f, hf⟩ : ∃ f, F - ks = f + 1 := ⟨F - ks - 1, by omega⟩
  rw [hf] at e1 e2
  obtain ⟨d1, d2, d3, d4, d5, _⟩ := E.C.u u hu
  have hslc : hI hc 386 (x + 15 + 3 * u) = nI sl := by rw [E.us _ u hu (Or.inl rfl)]; exact hsl
  refine ⟨o, hc, hr, ks, ?_, ?_, E, k1, eks⟩
  · have s100 : b_Unit_seat_100 F (x + 15 + 3 * u) (nI wr) hc = some (sI hc 387 (x + 15 + 3 * u) (hI hc 387 (x + 15 + 3 * u) - nI wr)) := by
      rw [b_Unit_seat_100, gd_t d2, pw_e]
    rw [f_Unit_seat, e1, b_Unit_seat_6]
    dsimp only
    rw [gd_t d2, hslc, s100]
    by_cases c1 : nI sl ≤ nI ks
    · rw [if_pos c1]
    · rw [if_neg c1, rq_k d3 d4, if_pos (i_le_refl (nI wr))]
      by_cases c2 : nI (hN hc (x + 16 + 3 * u)) ≤ nI ks
      · rw [if_pos c2]
      · rw [if_neg c2]
  · rw [f_Mod_begin, n_16, e2]
    exact l_begin8e (E.R.md M) hF b64 hu s16 (by rw [E.R.i (fun z => z)]; exact hslr) (by omega) (by rw [E.R.i (fun z => z)]; exact hl) (by rw [E.R.i (fun z => z)]; exact ht) l0 l32 t5 ew (by omega)
/-- a block's cell: new, or that of before -/
theorem blk_cell {F N : Nat} {o : Nat → Nat} {H hr : Hp} {x m lo b u wr : Nat} (C : Cd H x) (hx : x + 38 < hT H) (lx : x + 38 < lo) (lh : lo ≤ hT H) (b64 : b < 64) (S : BlockOk o H hr x m lo b) (k34 : Nat → Int32 → Int32 → Hp → Option Hp) : ∃ (H1 : Hp) (o1 : Nat → Nat) (bl bi : Nat), (gd (hK H x = 1) <| rq H (hR H 5 x) 122 fun a_66_2 => ix (nI b) (hN H a_66_2) fun j_70 => pw (hQ H a_66_2 j_70) fun o_70_2 => nu o_70_2 (pw (hT H) fun a_79 => pw (nw H 8 0 7) fun h_79_2 => clv (f_Block_init F a_79 (nI b) h_79_2) fun h_84 => gd (hK h_84 a_66_2 = 122) <| gd (hK h_84 a_79 = 8) <| ix (nI b) (hN h_84 a_66_2) fun j_87_3 => pw (sQ h_84 a_66_2 j_87_3 (some a_79)) fun h_87_4 => b_WM_dispatch_67 F k34 x (nI wr) (nI b) (x + 15 + 3 * u) h_87_4) fun a_71 => (b_WM_dispatch_67 F k34 x (nI wr) (nI b) (x + 15 + 3 * u) H)) = b_WM_dispatch_67 F k34 x (nI wr) (nI b) (x + 15 + 3 * u) H1 ∧ hQ H1 (x + 13) b = some bl ∧ (hK H1 bl = 8 ∧ hI H1 448 bl = nI b ∧ o1 bl = 1000 + 2 * b ∧ lo ≤ bl ∧ bl < hT H1) ∧ (hR H1 449 bl = some bi ∧ hK H1 bi = 100 ∧ hN H1 bi = 64 ∧ o1 bi = 1001 + 2 * b ∧ lo ≤ bi ∧ bi < hT H1) ∧ (∀ a, a < hT H → o1 a = o a) ∧ Fr (fun f a => a = x + 13 ∧ f = 9999) H H1 ∧ (∀ j, ¬ j = b → hQ H1 (x + 13) j = hQ H (x + 13) j) ∧ ((hT H1 = hT H ∧ hQ H (x + 13) b = some bl) ∨ (hT H1 = hT H + 2 ∧ hQ H (x + 13) b = none ∧ hT H ≤ bl)) ∧ hU H1 ≤ hU H + 512 * (hT H1 - hT H) := by
  rw [gd_t C.k, rq_k C.r_blocks C.k_blocks, C.n_blocks, ixn b64 (by decide), pw_e]
  rcases S with ⟨z, _⟩ | ⟨bl, bi, z, k, i, _⟩
  · rw [z, nu_none, pw_e, pw_e]
    have hn8 : hK (nw H 8 0 7) (hT H) = 8 := by rw [qK_nw, if_pos rfl]
    have hi : f_Block_init F (hT H) (nI b) (nw H 8 0 7) = some (sI (sR (nw (nw H 8 0 7) 100 64 64) 449 (hT H) (some (hT H + 1))) 448 (hT H) (nI b)) := by
      rw [f_Block_init, pw_e, pw_e, gd_t (by rw [qK_nw, qT_nw, if_neg (by omega)]; exact hn8), pw_e, pw_e, qT_nw]
    rw [hi, clv_some]
    obtain ⟨k1, ek1⟩ : ∃ k1, k1 = sI (sR (nw (nw H 8 0 7) 100 64 64) 449 (hT H) (some (hT H + 1))) 448 (hT H) (nI b) := ⟨_, rfl⟩
    rw [← ek1]
    have T1 : hT k1 = hT H + 2 := by rw [ek1, qT_sI, qT_sR, qT_nw, qT_nw]
    have U1 : hU k1 = hU H + 7 + 64 := by rw [ek1, qU_sI, qU_sR, qU_nw, qU_nw]
    have F0 : Fr (fun f a => a = x + 13 ∧ f = 9999) H k1 := by
      refine ⟨by rw [T1]; omega, fun a ha => ⟨?_, ?_, fun f _ => ⟨?_, ?_⟩, fun _ j => ⟨?_, ?_, ?_⟩⟩⟩
      · rw [ek1, qK_sI, qK_sR, qK_nw, qT_nw, if_neg (by omega), qK_nw, if_neg (by omega)]
      · rw [ek1, qN_sI, qN_sR, qN_nw, qT_nw, if_neg (by omega), qN_nw, if_neg (by omega)]
      · rw [ek1, qI_sI, if_neg (by omega), qI_sR, qI_nw, qT_nw, if_neg (by omega), qI_nw, if_neg (by omega)]
      · rw [ek1, qR_sI, qR_sR, if_neg (by omega), qR_nw, qT_nw, if_neg (by omega), qR_nw, if_neg (by omega)]
      · rw [ek1, qA_sI, qA_sR, qA_nw, qT_nw, if_neg (by omega), qA_nw, if_neg (by omega)]
      · rw [ek1, qQ_sI, qQ_sR, qQ_nw, qT_nw, if_neg (by omega), qQ_nw, if_neg (by omega)]
      · rw [ek1, qL_sI, qL_sR, qL_nw, qT_nw, if_neg (by omega), qL_nw, if_neg (by omega)]
    have kb : hK k1 (hT H) = 8 := by rw [ek1, qK_sI, qK_sR, qK_nw, qT_nw, if_neg (by omega)]; exact hn8
    have ki : hK k1 (hT H + 1) = 100 := by rw [ek1, qK_sI, qK_sR, qK_nw, qT_nw, if_pos rfl]
    have ni : hN k1 (hT H + 1) = 64 := by rw [ek1, qN_sI, qN_sR, qN_nw, qT_nw, if_pos rfl]
    have k13 : hK k1 (x + 13) = 122 ∧ hN k1 (x + 13) = 64 := by
      rw [(F0.2 (x + 13) (by omega)).1, (F0.2 (x + 13) (by omega)).2.1]
      exact ⟨C.k_blocks, C.n_blocks⟩
    rw [gd_t k13.1, gd_t kb, k13.2, ixn b64 (by decide), pw_e]
    refine ⟨_, fun a => if a = hT H then 1000 + 2 * b else if a = hT H + 1 then 1001 + 2 * b else o a, hT H, hT H + 1, rfl, by rw [qQ_sQ, if_pos ⟨rfl, rfl⟩], ⟨by rw [qK_sQ]; exact kb, by rw [qI_sQ, ek1, qI_sI, if_pos ⟨rfl, rfl⟩], by dsimp only; rw [if_pos rfl], lh, by rw [qT_sQ, T1]; omega⟩, ⟨by rw [qR_sQ, ek1, qR_sI, qR_sR, if_pos ⟨rfl, rfl⟩], by rw [qK_sQ]; exact ki, by rw [qN_sQ]; exact ni, by dsimp only; rw [if_neg (by omega), if_pos rfl], by omega, by rw [qT_sQ, T1]; omega⟩, fun a ha => by dsimp only; rw [if_neg (by omega), if_neg (by omega)], F0.cQ ⟨rfl, rfl⟩, fun j nj => ?_, Or.inr ⟨by rw [qT_sQ, T1], rfl, Nat.le_refl _⟩, by rw [qT_sQ, qU_sQ, T1, U1]; omega⟩
    rw [qQ_sQ, if_neg (fun y => nj y.2), ek1, qQ_sI, qQ_sR, qQ_nw, qT_nw, if_neg (by omega), qQ_nw, if_neg (by omega)]
  · rw [z, nu_some]
    exact ⟨H, o, bl, bi, rfl, z, k, i, fun _ _ => rfl, Fr.refl H, fun _ _ => rfl, Or.inl ⟨rfl, rfl⟩, by omega⟩
