/-! one seat, both sides -/
theorem rb_rd {h : Hp} {m s : Nat} {b n : Int32} (hs : s < 128) : hA (rbH h m s b n) (m + 9) s = b ∧ hA (rbH h m s b n) (m + 10) s = n ∧ hA (rbH h m s b n) (m + 11) s = 0 ∧ (∀ r, r < 20 → hA (rbH h m s b n) (m + 12) (20 * s + r) = 0) ∧ (∀ i, i < 32 → hA (rbH h m s b n) (m + 14) (32 * s + i) = 0 ∧ hA (rbH h m s b n) (m + 15) (32 * s + i) = 0 ∧ hA (rbH h m s b n) (m + 16) (32 * s + i) = 0 ∧ hA (rbH h m s b n) (m + 17) (32 * s + i) = 0) ∧ (∀ j, j < 512 → hA (rbH h m s b n) (m + 13) (512 * s + j) = 0) := by
  unfold rbH
  rw [qA_oA]
  unfold rbG
  refine ⟨by rw [if_pos ⟨rfl, rfl⟩], by rw [if_neg (by omega), if_pos ⟨rfl, rfl⟩], by rw [if_neg (by omega), if_neg (by omega), if_pos ⟨rfl, rfl⟩], fun r hr => by rw [if_neg (by omega), if_neg (by omega), if_neg (by omega), if_pos (by omega)], fun i hi => ⟨?_, ?_, ?_, ?_⟩, fun j hj => by rw [if_neg (by omega), if_neg (by omega), if_neg (by omega), if_neg (by omega), if_neg (by omega), if_pos (by omega)]⟩ <;> rw [if_neg (by omega), if_neg (by omega), if_neg (by omega), if_neg (by omega), if_pos (by omega)]
theorem rb_o {h : Hp} {m s a j : Nat} {b n : Int32} (z : ¬ ((m + 9) ≤ a ∧ a ≤ (m + 17))) : hA (rbH h m s b n) a j = hA h a j := by
  unfold rbH
  rw [qA_oA]
  unfold rbG
  rw [if_neg (by omega), if_neg (by omega), if_neg (by omega), if_neg (by omega), if_neg (by omega), if_neg (by omega)]
theorem rb_far {h : Hp} {m s t : Nat} {b n : Int32} (ne : ¬ t = s) : Rs m t h (rbH h m s b n) := by
  have e : ∀ a j, ¬ (((m + 9) ≤ a ∧ a ≤ (m + 11)) ∧ j = s) → ¬ (a = m + 12 ∧ 20 * s ≤ j ∧ j < 20 * s + 20) → ¬ (((m + 14) ≤ a ∧ a ≤ (m + 17)) ∧ 32 * s ≤ j ∧ j < 32 * s + 32) → ¬ (a = m + 13 ∧ 512 * s ≤ j ∧ j < 512 * s + 512) → hA (rbH h m s b n) a j = hA h a j := fun a j z1 z2 z3 z4 => by
    unfold rbH
    rw [qA_oA]
    unfold rbG
    rw [if_neg (by omega), if_neg (by omega), if_neg (by omega), if_neg z2, if_neg z3, if_neg z4]
  exact ⟨⟨rfl, rfl⟩, ⟨e _ _ (by omega) (by omega) (by omega) (by omega), e _ _ (by omega) (by omega) (by omega) (by omega), e _ _ (by omega) (by omega) (by omega) (by omega)⟩, fun r _ => e _ _ (by omega) (by omega) (by omega) (by omega), fun i _ => ⟨e _ _ (by omega) (by omega) (by omega) (by omega), e _ _ (by omega) (by omega) (by omega) (by omega), e _ _ (by omega) (by omega) (by omega) (by omega), e _ _ (by omega) (by omega) (by omega) (by omega)⟩, fun j _ => e _ _ (by omega) (by omega) (by omega) (by omega)⟩
theorem rl_T {h : Hp} {m s ln th n i : Nat} (hl : hI h 705 m = nI ln) (ht : hI h 717 m = nI th) (hw : hA h (m + 10) s = nI n) (l32 : ln ≤ 32) (t5 : th ≤ 512) (nl : n * ln < th) (hi : i < 32) : rLn h m s i ↔ i < (if th - n * ln < ln then th - n * ln else ln) := by
  unfold rLn
  rw [hl, ht, hw, pk_mul, nI_add, Nat.mul_comm]
  have e1 : (¬ nI ln ≤ nI i) ↔ i < ln := by
    rw [nI_leI (by omega) (by omega)]; omega
  have e2 : (¬ nI th ≤ nI (n * ln + i)) ↔ n * ln + i < th := by
    rw [nI_leI (by omega) (by omega)]; omega
  rw [e1, e2]
  split <;> omega
theorem wb_new {H2 hr2 h0 : Hp} {x m s ln b w rg pl pr ti L bl n th : Nat} (hs : s < 128) (Wg : WBeg h0 H2 w rg pl pr ti bl n ln L (if th - n * ln < ln then th - n * ln else ln)) (bq : hQ H2 (x + 13) b = some bl) (b64 : b < 64) (n16 : n < 16) (lnL : ln ≤ L) (L32 : L ≤ 32) (hl : hI hr2 705 m = nI ln) (ht : hI hr2 717 m = nI th) (t5 : th ≤ 512) (nl : n * ln < th) (r : hA hr2 (m + 9) s = nI b ∧ hA hr2 (m + 10) s = nI n ∧ hA hr2 (m + 11) s = 0 ∧ (∀ r, r < 20 → hA hr2 (m + 12) (20 * s + r) = 0) ∧ (∀ i, i < 32 → hA hr2 (m + 14) (32 * s + i) = 0 ∧ hA hr2 (m + 15) (32 * s + i) = 0 ∧ hA hr2 (m + 16) (32 * s + i) = 0 ∧ hA hr2 (m + 17) (32 * s + i) = 0) ∧ (∀ j, j < 512 → hA hr2 (m + 13) (512 * s + j) = 0)) : Wb H2 hr2 x m s ln b w rg pl pr ti L bl := by
  obtain ⟨w1, w2, w3, w4, w5, w6, w7, w8, w9, w10, w11⟩ := Wg
  obtain ⟨r1, r2, r3, r4, r5, r6⟩ := r
  refine ⟨w1, bq, r1, b64, by rw [w2, r2], ⟨n, n16, r2⟩, w3, lnL, fun i hi => ?_, fun i hi => ?_, fun i hi => ?_, fun i hi z => ?_, fun i hi z => ?_, fun i r hi hr => ?_, fun i hi => ?_, fun p i hp hi => ?_, fun r hr => ?_, by rw [w7, r3]⟩
  · rw [w4 i hi]
    exact decide_eq_decide.mpr (rl_T hl ht r2 (by omega) t5 nl hi).symm
  · rw [w5, (r5 i hi).2.2.1, b_0]; rfl
  · rw [w6, (r5 i hi).2.2.2, b_0]; rfl
  · exact absurd (r5 i hi).2.2.1 z
  · exact absurd (r5 i hi).2.2.2 z
  · rw [w8 _ (by omega), show 16 * (32 * s + i) + r = 512 * s + (16 * i + r) by omega, r6 _ (by omega)]
  · rw [w9 _ (by omega), (r5 i (by omega)).2.1]
  · rw [w10 p hp, (r5 i hi).1, b_0, b_0]
  · rw [w11 r hr, r4 r hr]
theorem seat_step {F N N2 : Nat} {o o0 : Nat → Nat} {hc hr hc0 hr0 : Hp} {x m lo ln sl u b bl bi th k n wr : Nat} (hF : 40000 ≤ F) (E : SE o o0 hc hr hc0 hr0 x m lo ln u b bl bi th k n) (M : Md hr0 m) (lx : x + 38 < lo) (hu : u < 8) (hk : k < sl) (s16 : sl ≤ 16) (hsl : hI hc0 386 (x + 15 + 3 * u) = nI sl) (hslr : hI hr0 706 m = nI sl) (hl : hI hr0 705 m = nI ln) (ht : hI hr0 717 m = nI th) (lp : ∃ e, e ≤ 5 ∧ ln = 2 ^ e) (l0 : 0 < ln) (l32 : ln ≤ 32) (t5 : th ≤ 512) (b64 : b < 64) (ew : wr = (th + ln - 1) / ln) (w16 : wr ≤ 16) (hn : n < wr) (nl : n * ln < th) (bq : hQ hc0 (x + 13) b = some bl) (kbl : hK hc0 bl = 8) (blT : bl < hT hc0) (hth : hI hc0 452 bl = nI th) (tbl : o0 bl = 1000 + 2 * b) (tbi : o0 bi = 1001 + 2 * b) (biT : bi < hT hc0) (lbi : lo ≤ bi) (fr0 : hA hr0 (m + 9) (16 * u + k) = -1) (hx0 : x + 38 < hT hc0) : ∃ o2 hc2 hr2, b_Unit_seat_6 F (N + 1) (x + 15 + 3 * u) (some bl) (nI wr) (nI ln) (some (x + 2)) (nI n) (nI k) hc = b_Unit_seat_6 F N (x + 15 + 3 * u) (some bl) (nI wr) (nI ln) (some (x + 2)) (nI (n + 1)) (nI (k + 1)) hc2 ∧ b_Mod_begin_8 F (N2 + 1) m (nI u) (nI b) (nI n) (nI (16 * u + k)) hr = b_Mod_begin_8 F N2 m (nI u) (nI b) (nI (n + 1)) (nI (16 * u + (k + 1))) hr2 ∧ SE o2 o0 hc2 hr2 hc0 hr0 x m lo ln u b bl bi th (k + 1) (n + 1) := by
  have hs : 16 * u + k < 128 := by omega
  have dv : (16 * u + k) / 16 = u := by omega
  have md : (16 * u + k) % 16 = k := by omega
  have Rh := E.far (16 * u + k) hs (by omega)
  have frr : hA hr (m + 9) (16 * u + k) = -1 := by rw [Rh.2.1.1]; exact fr0
  have Mr : Md hr m := E.R.md M
  have hT0 := E.A.1
  have hslc : hI hc 386 (x + 15 + 3 * u) = nI sl := by rw [E.us _ u hu (Or.inl rfl)]; exact hsl
  obtain ⟨H1, o1, w, rg, pl, ro, pr, ti, L, c1, W1, q1, e1, t1, F1, j1, j2, lg1, lu1⟩ := seat_cell (F := F) (N := N) (bl := bl) (wr := wr) (n := n) E.C E.hx lx E.lh hu hk s16 hslc l32 lp (E.S _ hs) frr hn (by omega)
  have hT1 := F1.1
  have hx := E.hx
  have lh := E.lh
  have C1 : Cd H1 x := E.C.frame F1 hx (fun f _ y => by omega) (fun f _ _ y => by omega) (fun f _ _ y => by omega) (fun f _ _ y => by omega) (fun y => by omega) (fun u f _ _ _ y => by omega)
  have K1 : Kn H1 hr x m := E.K.frame F1 (by omega) (fun y => by omega) (fun f y _ _ _ z => by omega) (fun _ _ => rfl)
  have kbc : hK hc bl = 8 := by rw [(E.A.2 bl blT).1]; exact kbl
  have kb1 : hK H1 bl = 8 := by rw [(F1.2 bl (by omega)).1]; exact kbc
  have th1 : hI H1 452 bl = nI th := by rw [((F1.2 bl (by omega)).2.2.1 452 (fun y => by omega)).1, (E.bf 452 (by omega) (by omega)).1]; exact hth
  obtain ⟨H2, o2, rg2, pl2, ro2, L2, c2, t2, W2, e2, lL, WB, F2, lg2, lu2⟩ := c_Warp_begin (F := F) (n := n) (ln := ln) hF W1 e1 kb1 th1 nl t5 lp l32 (by omega)
  have hT2 := F2.1
  have wl := W1.bw
  have b1 := W1.b_rg
  have b2 := W1.b_pl
  have b4 := W1.b_pr
  have b5 := W1.b_ti
  have C2 : Cd H2 x := C1.frame F2 (by omega) (fun f _ y => by omega) (fun f _ _ y => by omega) (fun f _ _ y => by omega) (fun f _ _ y => by omega) (fun y => by omega) (fun u f _ _ _ y => by omega)
  obtain ⟨hr2, ehr⟩ : ∃ hr2, hr2 = rbH hr m (16 * u + k) (nI b) (nI n) := ⟨_, rfl⟩
  have rI : ∀ f, hI hr2 f m = hI hr0 f m := fun f => by rw [ehr]; unfold rbH; rw [qI_oA, E.R.i (fun z => z)]
  have eL2 : ∀ k2, k2 < 128 → hL hr2 (m + 1) k2 = hL hr (m + 1) k2 := fun k2 _ => by rw [ehr]; unfold rbH; rw [qL_oA]
  have K2 : Kn H2 hr2 x m := K1.frame F2 (by omega) (fun y => by omega) (fun f y _ _ ky z => by
    rcases z with z | z
    · rw [z, W1.k] at ky; cases ky
    · omega) eL2
  have rd := rb_rd (h := hr) (m := m) (b := nI b) (n := nI n) hs
  rw [← ehr] at rd
  have q2 : ∀ u2 j, u2 < 8 → hQ H2 (x + 16 + 3 * u2) j = hQ H1 (x + 16 + 3 * u2) j := fun u2 j h8 => ((F2.2 (x + 16 + 3 * u2) (by omega)).2.2.2 (fun y => by omega) j).2.1
  have q13 : ∀ j, hQ H2 (x + 13) j = hQ hc (x + 13) j := fun j => by rw [((F2.2 (x + 13) (by omega)).2.2.2 (fun y => by omega) j).2.1, ((F1.2 (x + 13) (by omega)).2.2.2 (fun y => by omega) j).2.1]
  have WbN : Wb H2 hr2 x m (16 * u + k) ln b w rg2 pl2 pr ti L2 bl := wb_new hs WB (by rw [q13, E.q13]; exact bq) b64 (by omega) lL W2.l32 (by rw [rI]; exact hl) (by rw [rI]; exact ht) t5 nl rd
  obtain ⟨H3, g1, g2, g3, g4, g5⟩ := gather_slot (F := F) hF C2 K2 (by omega) lx hs (by rw [rI]; exact hl) l32 (by rw [dv, md, q2 u k hu]; exact q1) W2 e2 WbN
  obtain ⟨d1, d2, d3, d4, d5, _⟩ := C1.u u hu
  obtain ⟨y1, y2, y3, y4, y5, _⟩ := C2.u u hu
  have st : b_Unit_seat_6 F (N + 1) (x + 15 + 3 * u) (some bl) (nI wr) (nI ln) (some (x + 2)) (nI n) (nI k) hc = b_Unit_seat_6 F N (x + 15 + 3 * u) (some bl) (nI wr) (nI ln) (some (x + 2)) (nI (n + 1)) (nI (k + 1)) H3 := by
    rw [c1, b_Unit_seat_65, gd_t d2, rq_k d3 d4, d5, ixn (by omega) (by decide), rq_k q1 W1.k, c2, clv_some, gd_t y2, rq_k y3 y4, y5, ixn (by omega) (by decide), rq_k (by rw [q2 u k hu]; exact q1) W2.k, g1, clv_some, nI_1, nI_1]
  have rst := l_begin8y (F := F) (N := N2) (b := b) Mr hF hu s16 (by rw [E.R.i (fun z => z)]; exact hslr) (show 16 * u + k < 16 * u + sl by omega) (by rw [E.R.i (fun z => z)]; exact hl) (by rw [E.R.i (fun z => z)]; exact ht) l0 l32 t5 (by rw [← ew]; exact hn) (by omega) frr
  rw [← ehr, show 16 * u + k + 1 = 16 * u + (k + 1) by omega] at rst
  /- the whole frame -/
  have A3 : Fr (fun f a => (a = x + 16 + 3 * u ∧ f = 9999) ∨ a = w ∨ (f = 9999 ∧ (a = rg ∨ a = pl ∨ a = pr ∨ a = ti))) hc H3 := ((F1.mono (fun f a _ z => Or.inl z)).trans (F2.mono (fun f a _ z => Or.inr z))).trans (g2.mono (fun f a _ z => Or.inr (Or.inl z.1)))
  have hT3 : hT H3 = hT H2 := g3
  have kk : ∀ a, a < hT hc → hK hc a = hK H1 a := fun a ha => (F1.2 a ha).1.symm
  have wk : w < hT hc → hK hc w = 9 := fun h => by rw [kk w h]; exact W1.k
  have rk : ∀ a, (a = rg ∨ a = pl ∨ a = pr ∨ a = ti) → a < hT hc → hK hc a = 100 ∧ lo ≤ a := fun a h1 h2 => by
    rw [kk a h2]
    rcases h1 with z | z | z | z
    · rw [z]; exact ⟨W1.k_rg, b1.1⟩
    · rw [z]; exact ⟨W1.k_pl, b2.1⟩
    · rw [z]; exact ⟨W1.k_pr, b4.1⟩
    · rw [z]; exact ⟨W1.k_ti, b5.1⟩
  have ot2 : ∀ a, a < hT hc → o2 a = o a := fun a ha => by rw [t2 a (by omega), t1 a ha]
  have tg : ∀ a, (a = w ∨ a = rg ∨ a = pl ∨ a = pr ∨ a = ti) → a < hT hc → 6 * (16 * u + k) ≤ o a ∧ o a ≤ 6 * (16 * u + k) + 5 := fun a h1 h2 => by
    have := W1.tw
    have := W1.t_rg
    have := W1.t_pl
    have := W1.t_pr
    have := W1.t_ti
    rw [← t1 a h2]
    rcases h1 with z | z | z | z | z <;> rw [z] <;> omega
  have csO : ∀ t, t < 128 → ¬ t = 16 * u + k → CsS o2 x lo t hc H3 := fun t ht2 ne => by
    refine ⟨⟨by omega, ?_, fun j => ((A3.2 (x + 13) (by omega)).2.2.2 (fun y => by omega) j).2.1, fun p => ((A3.2 (x + 2) (by omega)).2.2.2 (fun y => by omega) p).2.1⟩, fun a h1 h2 h3 h4 h5 => ?_, fun y h1 h2 => ?_⟩
    · rw [((g2.2 (x + 16 + 3 * (t / 16)) (by omega)).2.2.2 (fun y => by omega) _).2.1, q2 _ _ (by omega)]
      by_cases z : t / 16 = u
      · rw [z, j1 _ (by omega)]
      · exact ((F1.2 (x + 16 + 3 * (t / 16)) (by omega)).2.2.2 (fun y => by omega) _).2.1
    · rw [ot2 a h2] at h3 h4
      have nP : ∀ f, ¬ ((a = x + 16 + 3 * u ∧ f = 9999) ∨ a = w ∨ (f = 9999 ∧ (a = rg ∨ a = pl ∨ a = pr ∨ a = ti))) := fun f y => by
        rcases y with y | y | y
        · omega
        · have := tg a (Or.inl y) h2; omega
        · have := tg a (Or.inr y.2) h2; omega
      obtain ⟨v1, v2, v3, v4⟩ := A3.2 a h2
      exact ⟨v1, v2, fun f _ _ => v3 f (nP f), fun j => (v4 (nP _) j).1⟩
    · obtain ⟨v1, v2, v3, v4⟩ := A3.2 y h1
      refine ⟨by rw [v1]; exact h2, fun f h3 h4 => (v3 f (fun z => ?_)).1⟩
      rcases z with z | z | z
      · omega
      · rw [z] at h1 h2; rw [wk h1] at h2; cases h2
      · omega
  have RS : ∀ t, ¬ t = 16 * u + k → Rs m t hr hr2 := fun t ne => by rw [ehr]; exact rb_far ne
  have slots : ∀ t, t < 128 → SlotOk o2 H3 hr2 x m lo ln t := fun t ht2 => by
    by_cases z : t = 16 * u + k
    · rw [z]; exact g5
    · exact ((E.S t ht2).tag ot2).fr E.K l32 (csO t ht2 z) (RS t z)
  have rA : ∀ a j, ¬ ((m + 9) ≤ a ∧ a ≤ (m + 17)) → hA hr2 a j = hA hr a j := fun a j z => by rw [ehr]; exact rb_o z
  have avO : ∀ c t, t < 4096 → ¬ t / 32 = 16 * u + k → avB hr2 m c t = avB hr m c t ∧ wtB hr2 m c t = wtB hr m c t := fun c t ht2 ne => by
    have r := RS (t / 32) ne
    have r2 := r.2.2.2.1 (t % 32) (by omega)
    rw [show 32 * (t / 32) + t % 32 = t by omega] at r2
    unfold avB wtB
    rw [r.2.1.1, r2.2.2.1, r2.2.2.2, show decide (rLn hr2 m (t / 32) (t % 32)) = decide (rLn hr m (t / 32) (t % 32)) from decide_eq_decide.mpr (rLn_rs r)]
    exact ⟨rfl, rfl⟩
  have blocks : ∀ c, c < 64 → ¬ c = b → BlockOk o2 H3 hr2 x m lo c := fun c hc2 ne => by
    have nbc : ¬ nI b = nI c := fun y => ne ((nI_eq (by omega) (by omega)).mp y).symm
    have nmc : ¬ (-1 : Int32) = nI c := fun y => nI_m1 (by omega) y.symm
    have sbi : ∀ t, t < 128 → (hA hr2 (m + 9) t = nI c ↔ hA hr (m + 9) t = nI c) := fun t ht2 => by
      by_cases z : t = 16 * u + k
      · rw [z, rd.1, frr]; exact ⟨fun y => absurd y nbc, fun y => absurd y nmc⟩
      · rw [(RS t z).2.1.1]
    have avE : ∀ t, t < 4096 → avB hr2 m c t = avB hr m c t ∧ wtB hr2 m c t = wtB hr m c t := fun t ht2 => by
      by_cases z : t / 32 = 16 * u + k
      · unfold avB wtB
        rw [z, rd.1, frr, decide_eq_false nbc, decide_eq_false nmc]
        exact ⟨rfl, rfl⟩
      · exact avO c t ht2 z
    refine ((E.B c hc2 ne).tag ot2).fr (by omega) (((A3.2 (x + 13) (by omega)).2.2.2 (fun y => by omega) c).2.1) (fun a h1 h2 h3 h4 => ?_) sbi (by rw [rI, E.R.i (fun z => z)]) (by rw [rI, E.R.i (fun z => z)]) (cn_congr 4096 fun t h => (avE t h).1) (cn_congr 4096 fun t h => (avE t h).2) (fun k2 _ => rA _ _ (by omega))
    obtain ⟨v1, v2, v3, v4⟩ := A3.2 a h2
    rw [ot2 a h2] at h3
    have nP : ∀ f, ¬ ((a = x + 16 + 3 * u ∧ f = 9999) ∨ a = w ∨ (f = 9999 ∧ (a = rg ∨ a = pl ∨ a = pr ∨ a = ti))) := fun f y => by
      rcases y with y | y | y
      · omega
      · have := tg a (Or.inl y) h2; omega
      · have := tg a (Or.inr y.2) h2; omega
    exact ⟨v1, v2, fun f _ _ => v3 f (nP f), fun j => (v4 (nP _) j).1⟩
  have blc : bl < hT hc := by omega
  have nbl : ¬ bl = w := fun y => by rw [y, W1.k] at kb1; cases kb1
  have wr0 : ∀ T, T = (if th - n * ln < ln then th - n * ln else ln) → T ≤ 32 := fun T h => by rw [h]; split <;> omega
  refine ⟨o2, H3, hr2, st, rst, PD.cd E.C (A3.mono ?_) hx lx, ?_, by omega, by omega, slots, blocks, ?_, fun u2 j w2 h8 hw2 => ?_, fun j => ?_, fun f h1 h2 => ?_, fun j => ?_, fun f u2 h8 hf => ?_, ?_, fun t ht2 nt => ?_, fun t ht2 h1 h2 h3 => ?_, ?_, ?_, ?_, ?_, fun a ha => ?_⟩
  · intro f a ha z
    unfold PD
    rcases z with z | z | z
    · omega
    · have := wk (by omega); rw [z]; have := wl.1; omega
    · have := rk a z.2 ha; omega
  · exact K2.frame g2 (by omega) (fun y => by omega) (fun f y _ _ ky z => by rw [z.1, W2.k] at ky; cases ky) (fun _ _ => rfl)
  · refine PD.tr E.A (A3.mono ?_)
    intro f a ha z
    unfold PD
    rcases z with z | z | z
    · omega
    · have := wk (by omega); rw [z]; have := wl.1; omega
    · have := rk a z.2 ha; omega
  · have hq := E.Q u2 j w2 h8 hw2
    rw [((g2.2 (x + 16 + 3 * u2) (by omega)).2.2.2 (fun y => by omega) _).2.1, q2 _ _ h8]
    by_cases z : u2 = u
    · rw [z] at hq ⊢
      by_cases y : j = k
      · rw [y] at hq ⊢
        rw [q1, j2 w2 hq]
      · rw [j1 j y]; exact hq
    · rw [((F1.2 (x + 16 + 3 * u2) (by omega)).2.2.2 (fun y => by omega) _).2.1]; exact hq
  · rw [((A3.2 (x + 13) (by omega)).2.2.2 (fun y => by omega) j).2.1]; exact E.q13 j
  · have := (A3.2 bl blc).2.2.1 f (fun y => by
      rcases y with y | y | y
      · omega
      · exact nbl y
      · omega)
    rw [this.1, this.2]
    exact E.bf f h1 h2
  · rw [((A3.2 bi (by omega)).2.2.2 (fun y => ?_) j).1]
    · exact E.bi j
    · have tb : o bi = 1001 + 2 * b := by rw [E.ot bi biT]; exact tbi
      rcases y with y | y | y
      · omega
      · have := tg bi (Or.inl y) (by omega); omega
      · have := tg bi (Or.inr y.2) (by omega); omega
  · rw [((A3.2 (x + 15 + 3 * u2) (by omega)).2.2.1 f (fun y => by omega)).1]
    exact E.us f u2 h8 hf
  · rw [ehr]
    unfold rbH
    refine E.R.cO (fun a na j => ?_)
    have := rb_o (h := hr) (m := m) (s := 16 * u + k) (a := a) (j := j) (b := nI b) (n := nI n) na
    unfold rbH at this
    rw [qA_oA] at this
    exact this
  · have ne : ¬ t = 16 * u + k := fun y => nt ⟨by omega, by omega, by rw [y]; exact fr0⟩
    exact (E.far t ht2 (fun y => nt ⟨y.1, by omega, y.2.2⟩)).trans (RS t ne)
  · by_cases z : t = 16 * u + k
    · rw [z]; exact rd.1
    · rw [(RS t z).2.1.1]
      exact E.nb t ht2 h1 (by omega) h3
  · obtain ⟨T, eT⟩ : ∃ T, T = (if th - n * ln < ln then th - n * ln else ln) := ⟨_, rfl⟩
    have T32 := wr0 T eT
    have key : ∀ t, t < 4096 → avB hr2 m b t = (avB hr m b t || (decide (t / 32 = 16 * u + k) && decide (t % 32 < T))) ∧ (avB hr m b t && (decide (t / 32 = 16 * u + k) && decide (t % 32 < T))) = false := fun t ht2 => by
      by_cases z : t / 32 = 16 * u + k
      · have a0 : avB hr m b t = false := by
          unfold avB
          rw [z, frr, decide_eq_false (fun y => nI_m1 (by omega) y.symm)]
          rfl
        have a1 : avB hr2 m b t = decide (t % 32 < T) := by
          unfold avB
          have re := (rd.2.2.2.2.1 (t % 32) (by omega)).2.2.1
          rw [show 32 * (16 * u + k) + t % 32 = t by omega] at re
          rw [z, rd.1, re, decide_eq_true rfl, decide_eq_true rfl, Bool.true_and, Bool.and_true, eT]
          exact decide_eq_decide.mpr (rl_T (by rw [rI]; exact hl) (by rw [rI]; exact ht) rd.2.1 l32 t5 nl (by omega))
        rw [a0, a1, decide_eq_true z]
        exact ⟨by simp, by simp⟩
      · rw [(avO b t ht2 z).1, decide_eq_false z]
        exact ⟨by simp, by simp⟩
    rw [cn_or 4096 key, E.av, cn_slot (fun i => decide (i < T)) hs, cn_lt, Nat.succ_mul]
    have h1 : (if T < 32 then T else 32) = T := by split <;> omega
    rw [h1, eT]
    split <;> split <;> split <;> omega
  · refine cn_eq0.mpr (fun t ht2 => ?_)
    by_cases z : t / 32 = 16 * u + k
    · unfold wtB
      have re := (rd.2.2.2.2.1 (t % 32) (by omega)).2.2.2
      rw [show 32 * (16 * u + k) + t % 32 = t by omega] at re
      rw [re, decide_eq_false (show ¬ ¬ (0 : Int32) = 0 from fun y => y rfl), Bool.and_false]
    · rw [(avO b t ht2 z).2]
      exact cn_eq0.mp E.wt t ht2
  · have potE : ∀ t, t < 128 → ¬ t = 16 * u + k → potS H3 x t = potS hc x t := fun t ht2 ne => by
      obtain ⟨⟨_, c1, _, _⟩, c2, _⟩ := csO t ht2 ne
      unfold potS
      rw [c1]
      rcases (E.S t ht2).tag ot2 with ⟨z, _⟩ | ⟨w', rg', pl', ro', pr', ti', L', z, W', _⟩
      · rw [z]
      · have h1 := W'.tw
        have h2 := W'.t_pl
        have v1 := c2 w' W'.bw.1 W'.bw.2 (by omega) (by omega) (Or.inl W'.k)
        have v2 := c2 pl' W'.b_pl.1 W'.b_pl.2 (by omega) (by omega) (Or.inr W'.k_pl)
        rw [z]
        dsimp only
        rw [(v1.2.2.1 524 (by omega) (by omega)).2, W'.r_pl]
        dsimp only
        rw [v2.2.1]
    obtain ⟨ea, _, eL1⟩ := e1
    obtain ⟨eb, _, eL2'⟩ := e2
    have w2l := W2.bw
    have p2l := W2.b_pl
    have pN : potS H3 x (16 * u + k) = 6 + 3 * eb := by
      unfold potS
      rw [dv, md, ((g2.2 (x + 16 + 3 * u) (by omega)).2.2.2 (fun y => by omega) _).2.1, q2 _ _ hu, q1]
      dsimp only
      rw [((g2.2 w (by omega)).2.2.1 524 (fun y => by omega)).2, W2.r_pl]
      dsimp only
      rw [(g2.2 pl2 (by omega)).2.1, W2.n_pl, eL2', Nat.log2_two_pow]
    have pO : hT H3 + potS hc x (16 * u + k) ≤ hT hc + (6 + 3 * eb) ∧ potS hc x (16 * u + k) ≤ 6 + 3 * eb := by
      rcases lg1 with ⟨a1, a2⟩ | ⟨a1, a2, a3, _⟩
      · have pc : potS hc x (16 * u + k) = 6 + 3 * ea := by
          unfold potS
          rw [dv, md, a2]
          dsimp only
          rw [← ((F1.2 w (by omega)).2.2.1 524 (fun y => by omega)).2, W1.r_pl]
          dsimp only
          rw [← (F1.2 pl (by omega)).2.1, W1.n_pl, eL1, Nat.log2_two_pow]
        rw [pc]
        rcases lg2 with ⟨b1, b2⟩ | ⟨b1, b2, b3⟩
        · have : ea = eb := by
            rw [eL1, eL2'] at b2
            have b3 := congrArg Nat.log2 b2
            rw [Nat.log2_two_pow, Nat.log2_two_pow] at b3
            exact b3.symm
          omega
        · have : ea < eb := by
            rw [← b2, eL1, eL2'] at b3
            by_cases z : eb ≤ ea
            · have := Nat.pow_le_pow_right (show 0 < 2 by omega) z; omega
            · omega
          omega
      · have pc : potS hc x (16 * u + k) = 0 := by
          unfold potS
          rw [dv, md, a3]
        rw [pc]
        rcases lg2 with ⟨b1, b2⟩ | ⟨b1, b2, b3⟩
        · omega
        · omega
    have su := sumN_up (f := potS hc x) (g := potS H3 x) (t := 16 * u + k) (d := 6 + 3 * eb - potS hc x (16 * u + k)) 128 hs (by rw [pN]; omega) potE
    have cb : cn (potB H3 x) 64 = cn (potB hc x) 64 := cn_congr 64 fun c _ => by
      unfold potB
      rw [((A3.2 (x + 13) (by omega)).2.2.2 (fun y => by omega) c).2.1]
    have elt := E.lt
    unfold PT at elt ⊢
    rw [su, cb]
    omega
  · have := E.lu
    rw [g4]
    omega
  · rw [ot2 a (by omega)]; exact E.ot a ha
