/-! a word of shared memory goes -/
theorem c_time_sh {F : Nat} {h k : Hp} {m u s : Nat} {v : Int32} (M : Md h m) (km : kMem (hI h 756 m)) (ks : kSh (hI h 756 m)) (e : f_Mod_timeOfShared F m (nI u) (nI s) h = some (v, k)) : f_Mod_time F m (nI u) (nI s) h = some (v, k) := by
  rw [f_Mod_time, gd_t M.k, c_Mod_isMemory M.k, cl_some, bI_t km, if_neg (by decide), gd_t M.k, c_Mod_isShared M.k, cl_some, bI_t ks, if_neg (by decide), gd_t M.k, e, cl_some]
theorem c_time_gl {F : Nat} {h k : Hp} {m u s : Nat} {v : Int32} (M : Md h m) (km : kMem (hI h 756 m)) (ks : ¬ kSh (hI h 756 m)) (e : f_Mod_timeOfGlobal F m (nI s) h = some (v, k)) : f_Mod_time F m (nI u) (nI s) h = some (v, k) := by
  rw [f_Mod_time, gd_t M.k, c_Mod_isMemory M.k, cl_some, bI_t km, if_neg (by decide), gd_t M.k, c_Mod_isShared M.k, cl_some, bI_f ks, if_pos rfl, gd_t M.k, e, cl_some]
theorem shM_congr {o m : Int32} {K : Nat → Nat} {Y Y2 S S2 : Nat → Int32} : ∀ n, (∀ i, i < n → Y i = Y2 i) → (∀ i, i < n → bt m i = true → K i < 64) → (∀ k, k < 64 → S k = S2 k) → ∀ k, k < 64 → shM o m K Y S n k = shM o m K Y2 S2 n k := by
  intro n
  induction n with
  | zero => intro _ _ h3; exact h3
  | succ n ih =>
    intro h1 h2 h3 k hk
    have r := ih (fun i hi => h1 i (by omega)) (fun i hi => h2 i (by omega)) h3
    cases z : bt m n with
    | false => rw [shM_n z, shM_n z]; exact r k hk
    | true =>
      rw [shM_s z, shM_s z]
      show (if k = K n then _ else _) = (if k = K n then _ else _)
      rw [r (K n) (h2 n (by omega) z), r k hk, h1 n (by omega)]
theorem opS2 {o : Int32} (ks : kSh o) : kMem o ∧ 2 ≤ o ∧ decide (¬ o < 58) = decide (53 < o) := by
  unfold kMem
  rcases ks with z | z | z | z <;> rw [z] <;> decide
/-- the ticks of the reference at a slot -/
theorem tk_rT {h : Hp} {m s d r : Nat} {t : Int32} : hA (tkH h m s d t) (m + 12) (20 * s + r) = if (kWD (hI h 756 m) ∧ 20 * s + r = 20 * s + d) ∨ (kWP (hI h 756 m) ∧ 20 * s + r = 20 * s + (16 + pn (nI d))) then t else hA h (m + 12) (20 * s + r) := by
  unfold tkH
  rw [qA_oA]
  unfold tkG
  by_cases z : (kWD (hI h 756 m) ∧ 20 * s + r = 20 * s + d) ∨ (kWP (hI h 756 m) ∧ 20 * s + r = 20 * s + (16 + pn (nI d)))
  · rw [if_pos ⟨rfl, z⟩, if_pos z]
  · rw [if_neg (fun y => z y.2), if_neg (fun y => by have := y.1; omega), if_neg z]
theorem tk_rM {h : Hp} {m s d : Nat} {t : Int32} (km : kMem (hI h 756 m)) : hA (tkH h m s d t) (m + 11) s = t := by
  unfold tkH
  rw [qA_oA]
  unfold tkG
  rw [if_neg (fun y => by have := y.1; omega), if_pos ⟨rfl, km, rfl⟩]
theorem tk_o {h : Hp} {m s d a j : Nat} {t : Int32} (n1 : ¬ a = m + 11) (n2 : ¬ a = m + 12) : hA (tkH h m s d t) a j = hA h a j := by
  unfold tkH
  rw [qA_oA]
  unfold tkG
  rw [if_neg (fun y => n2 y.1), if_neg (fun y => n1 y.1)]
theorem tk_far {h : Hp} {m s d t r : Nat} {c : Int32} (ld : d < 16) (hr : r < 20) (ne : ¬ t = s) : hA (tkH h m s d c) (m + 12) (20 * t + r) = hA h (m + 12) (20 * t + r) ∧ hA (tkH h m s d c) (m + 11) t = hA h (m + 11) t := by
  have p1 := pn_lt (nI d)
  unfold tkH
  rw [qA_oA]
  unfold tkG
  constructor
  · rw [if_neg (fun y => by rcases y.2 with z | z <;> have := z.2 <;> omega), if_neg (fun y => by have := y.1; omega)]
  · rw [if_neg (fun y => by have := y.1; omega), if_neg (fun y => ne y.2.2)]
/-- tally and unit after a word of a memory -/
def MT (hc hm : Hp) (x u w : Nat) (dm t391 : Int32) : Prop := (hI hm 327 (x + 11) = hI hc 327 (x + 11) + 1) ∧ (hI hm 328 (x + 11) = hI hc 328 (x + 11) + nI (cn (bt dm) 32)) ∧ (hI hm 329 (x + 11) = hI hc 329 (x + 11) + (if dm = hI hc 518 w then 0 else 1)) ∧ (∀ f, ¬ f = 327 → ¬ f = 328 → ¬ f = 329 → hI hm f (x + 11) = hI hc f (x + 11)) ∧ (hI hm 389 (x + 15 + 3 * u) = hI hc 389 (x + 15 + 3 * u) + 1) ∧ (hI hm 391 (x + 15 + 3 * u) = t391) ∧ (∀ f, ¬ f = 389 → ¬ f = 391 → hI hm f (x + 15 + 3 * u) = hI hc f (x + 15 + 3 * u))
theorem go_sh {o : Nat → Nat} {hc H : Hp} {x m lo ln sl u s b w rg pl ro pr ti L bl wd F i0 p bk : Nat} {v : Int64} {dm c : Int32} (hF : 40000 ≤ F) (X : Sx o hc H x m lo ln sl) (E : GO o hc H x m lo ln u s b w rg pl ro pr ti L bl wd v) (z1 : hQ hc (x + 16 + 3 * (s / 16)) (s % 16) = some w) (e : ∃ e, e ≤ 5 ∧ L = 2 ^ e) (hi : i0 < 32) (q : ¬ hA H (m + 26) i0 = 0) (l : ∀ j, j < i0 → hA H (m + 26) j = 0) (ep : hA H (m + 15) (32 * s + i0) = nI p) (lp : p < 128) (ev : hL H (m + 1) p = v) (kk : kKnown (wOp v) (wN v)) (ks : kSh (wOp v)) (ed1 : f_Warp_doing F w hc = some (dm, hc)) (ed2 : ∀ i, i < 32 → bt dm i = dD (rTake H m v) m s i) (sub : ∀ i, i < 32 → bt dm i = true → bt (hI hc 518 w) i = true) (esz : hI hc 69 (x + 1) = hI H 710 m) (ok : ∀ i, i < ln → bt dm i = true → ¬ badM hc H m rg v i) (hcy : hI H 719 m = c) (td : hI hc 324 (x + 11) = hI H 725 m) (hbk : hI hc 67 (x + 1) = nI bk) (hbk2 : hI H 708 m = nI bk) (bp : ∃ k, k ≤ 5 ∧ bk = 2 ^ k) : ∃ kc hm h2 hrT bi t391, f_WM_go F x (some (x + 15 + 3 * u)) (some w) c hc = some kc ∧ f_Mod_go F m (nI u) (nI s) H = some hrT ∧ Sx o kc hrT x m lo ln sl ∧ hI kc 324 (x + 11) = hI hrT 725 m ∧ Fr (PG hm x lo) hm kc ∧ (hT kc = hT hc ∧ hU kc = hU hc) ∧ Fr (PX x u w rg pl ro ti bi hc) hc hm ∧ (hR hc 449 bl = some bi ∧ hK hc bi = 100 ∧ lo ≤ bi ∧ bi < hT hc) ∧ MT hc hm x u w dm t391 ∧ RG H h2 m u s ln v ∧ (∀ f, hI hrT f m = hI h2 f m) ∧ (∀ a j, ¬ ((m + 11) ≤ a ∧ a ≤ (m + 18)) → hA hrT a j = hA h2 a j) ∧ (∀ f, 723 ≤ f → f ≤ 724 → hI h2 f m = hI H f m) ∧ (∀ a j, (m + 3) ≤ a → a ≤ (m + 7) → hA h2 a j = if a = (m + 6) ∧ j = u then t391 else hA H a j) ∧ (∀ t, t < 128 → ¬ t = s → Rs m t H hrT) ∧ Rf m (fun f => (756 ≤ f ∧ f ≤ 762) ∨ (720 ≤ f ∧ f ≤ 724)) (fun a => ((m + 3) ≤ a ∧ a ≤ (m + 18)) ∨ ((m + 25) ≤ a ∧ a ≤ (m + 28))) H hrT ∧ (∀ a, a < hT hc → (hK hc a = 11 ∨ (x + 3 ≤ a ∧ a ≤ x + 10)) → (∀ f, hI hm f a = hI hc f a ∧ hR hm f a = hR hc f a) ∧ ∀ j, hA hm a j = hA hc a j ∧ hQ hm a j = hQ hc a j ∧ hL hm a j = hL hc a j) := by
  obtain ⟨km, c2, ee⟩ := opS2 ks
  have n78 := opM78 km
  have C := E.C
  have W := E.W
  have B := E.B
  have Wd := E.Wd
  have lx := E.lx
  have wl := W.bw
  have l32 := E.l32
  have hu := E.hu
  have hs := E.hs
  have hx := X.hx
  have b64 := B.b64
  have wb1 := W.b_rg
  have wb2 := W.b_pl
  have wb3 := W.b_ro
  have wb4 := W.b_pr
  have wb5 := W.b_ti
  obtain ⟨bi, ⟨k1, k2, k3, k4, k5⟩, ⟨j1, j2, j3, j4, j5, j6⟩, u9⟩ : ∃ bi, (hK hc bl = 8 ∧ hI hc 448 bl = nI b ∧ o bl = 1000 + 2 * b ∧ lo ≤ bl ∧ bl < hT hc) ∧ (hR hc 449 bl = some bi ∧ hK hc bi = 100 ∧ hN hc bi = 64 ∧ o bi = 1001 + 2 * b ∧ lo ≤ bi ∧ bi < hT hc) ∧ ∀ k, k < 64 → hA hc bi k = hA H (m + 18) (64 * b + k) := by
    rcases X.B b b64 with ⟨y, _⟩ | ⟨bl2, bi, y, k, i, y3⟩
    · rw [B.bq] at y; cases y
    · rw [B.bq] at y
      injection y with y
      subst y
      rcases y3 with ⟨_, y4⟩ | ⟨u, y4⟩
      · exact absurd B.sb (y4 s hs)
      · exact ⟨bi, k, i, y4.2.2.2.2.2.2.2.2⟩
  have t1w := W.tw
  have t1 := W.t_rg
  have t2 := W.t_pl
  have t3 := W.t_ro
  have t4 := W.t_pr
  have t5 := W.t_ti
  have d_bi_rg : ¬ bi = rg := fun z => by rw [z] at j4; omega
  have d_bi_ro : ¬ bi = ro := fun z => by rw [z] at j4; omega
  have d_bi_pl : ¬ bi = pl := fun z => by rw [z] at j4; omega
  have d_bi_ti : ¬ bi = ti := fun z => by rw [z] at j4; omega
  have d_rg_ti : ¬ rg = ti := fun z => by rw [z] at t1; omega
  have d_rg_pl : ¬ rg = pl := fun z => by rw [z] at t1; omega
  have d_rg_ro : ¬ rg = ro := fun z => by rw [z] at t1; omega
  have d_pl_ti : ¬ pl = ti := fun z => by rw [z] at t2; omega
  have d_pr_ti : ¬ pr = ti := fun z => by rw [z] at t4; omega
  have d_pr_rg : ¬ pr = rg := fun z => by rw [z] at t4; omega
  have d_pr_bi : ¬ pr = bi := fun z => by rw [z] at t4; omega
  have d_pr_pl : ¬ pr = pl := fun z => by rw [z] at t4; omega
  have d_pr_ro : ¬ pr = ro := fun z => by rw [z] at t4; omega
  have d_ti_bi : ¬ ti = bi := fun z => by rw [z] at t5; omega
  have d_ti_rg : ¬ ti = rg := fun z => d_rg_ti z.symm
  have d_ti_pl : ¬ ti = pl := fun z => d_pl_ti z.symm
  have d_ti_ro : ¬ ti = ro := fun z => by rw [z] at t5; omega
  have d_pl_rg : ¬ pl = rg := fun z => d_rg_pl z.symm
  have d_pl_bi : ¬ pl = bi := fun z => d_bi_pl z.symm
  have d_ro_rg : ¬ ro = rg := fun z => d_rg_ro z.symm
  have d_rg_bi' : ¬ rg = bi := fun z => d_bi_rg z.symm
  have d_ro_bi : ¬ ro = bi := fun z => d_bi_ro z.symm
  have inL : ∀ i, i < 32 → bt dm i = true → i < ln := fun i hi z => (E.awk i hi (sub i hi z)).1
  /- where they ask -/
  obtain ⟨K, hKK⟩ : ∃ K : Nat → Nat, ∀ i, i < ln → bt dm i = true → vlM hc rg v i = nI (K i) ∧ K i < 64 := ⟨fun i => (vlM hc rg v i).toNatClampNeg, fun i hi z => vl_is (bd := 64) (by omega) (by
    have := ok i hi z
    unfold badM at this
    rw [if_pos ks] at this
    exact this)⟩
  obtain ⟨hG, G, g1⟩ := mem_class (c := c) hF E ed1 kk km esz ok
  have GF : Fr (PX x u w rg pl ro ti bi hc) hc hG := G.fr
  obtain ⟨⟨s1, s2, s3, s4, s5, s6, s7⟩, i1, i2, i3, i4, i5, i6, a1, a2, a3⟩ := G
  rw [if_pos ks] at g1
  have dwx : ¬ wd = x + 11 := fun z => by have := Wd.k; rw [z, C.k_tally] at this; cases this
  have dwd : ¬ wd = x + 15 + 3 * u := fun z => by have := Wd.k; rw [z, (C.u u hu).2.1] at this; cases this
  have WG : Wp hG w rg pl ro pr ti ln := E.wp.same s3 s4 (fun f _ _ => by rw [s5]) (i1 _ _ (by omega) (by omega))
  have wI : ∀ f, hI hG f wd = hI hc f wd := fun f => i1 f wd dwx (fun y => dwd y.2)
  have us := c_Warp_useShared (F := F) WG hF (wd := wd) (by rw [s5]; exact E.hw) (by rw [s3]; exact Wd.k) (bl := bl) (bi := bi) (b := nB v) (d := nD v) (o := wOp v) (by rw [s5]; exact B.blk) (by rw [s3]; exact k1) (by rw [s5]; exact j1) (by rw [s3]; exact j2) (by rw [s4]; exact j3) d_bi_rg d_bi_ro (by rw [wI, Wd.b]; exact nB_is v) (nB_lt v) (by rw [wI, Wd.d]; exact nD_is v) (nD_lt v) (by rw [wI]; exact Wd.op) ks dm K (fun i hi z => by rw [a3 i hi z]; exact hKK i hi z)
  rw [us, clv_some] at g1
  obtain ⟨h1, eh1⟩ : ∃ h1, h1 = oA hG (usH hG rg bi (nD v) (wOp v) dm K (fun i => hA hG rg (16 * i + nB v)) ln) := ⟨_, rfl⟩
  rw [← eh1] at g1
  have p1 : hT h1 = hT hc ∧ hU h1 = hU hc ∧ hK h1 = hK hc ∧ hN h1 = hN hc ∧ hR h1 = hR hc ∧ hQ h1 = hQ hc ∧ hL h1 = hL hc ∧ hI h1 = hI hG := by
    rw [eh1, qT_oA, qU_oA, qK_oA, qN_oA, qR_oA, qQ_oA, qL_oA, qI_oA]
    exact ⟨s1, s2, s3, s4, s5, s6, s7, rfl⟩
  obtain ⟨q1, q2, q3, q4, q5, q6, q7, q8⟩ := p1
  have h1A : ∀ a j, ¬ a = rg → ¬ a = bi → hA h1 a j = hA hG a j := fun a j y1 y2 => by
    rw [eh1, qA_oA]
    unfold usH
    rw [fx_o y1, fr_o y2]
  obtain ⟨cu1, cu2, cu3, cu4, cu5, cu6, cu7, cu8⟩ := C.u u hu
  have W1 : Wp h1 w rg pl ro pr ti ln := WG.same (by rw [q3, s3]) (by rw [q4, s4]) (fun f _ _ => by rw [q5, s5]) (by rw [q8])
  have e67 : hI h1 67 (x + 1) = nI bk := by rw [q8, i1 _ _ (by omega) (by omega)]; exact hbk
  have bpos : 0 < bk := by
    obtain ⟨k, _, hk⟩ := bp
    rw [hk]; exact Nat.two_pow_pos k
  have b32 : bk ≤ 32 := by
    obtain ⟨k, hk5, hk⟩ := bp
    rw [hk]
    exact Nat.le_trans (Nat.pow_le_pow_right (by omega) hk5) (by decide)
  have K64 : ∀ i, bt dm i = true → K i < 64 := fun i z => by
    have h32 : i < 32 := by
      by_cases y : i < 32
      · exact y
      · rw [b_big (by omega)] at z; cases z
    exact (hKK i (inL i h32 z) z).2
  have cr := c_Unit_crowd (F := F) W1 hF (wd := wd) (by rw [q5]; exact E.hw) (by rw [q3]; exact Wd.k) (u := x + 15 + 3 * u) (ld := x + 17 + 3 * u) (bk := bk) (o := wOp v) (by rw [q3]; exact cu2) (by rw [q5]; exact cu6) (by rw [q3]; exact cu7) (by rw [q4]; exact cu8) (by omega) (by rw [q8, wI]; exact Wd.op) bp dm c K K64 (fun i hi z => by rw [h1A _ _ d_ro_rg d_ro_bi, a3 i hi z]; exact (hKK i hi z).1)
  obtain ⟨MX, eMX⟩ : ∃ MX, MX = mxc (ecB (decide (¬ wOp v < 58)) (bt dm) K) (fun i => K i % bk) ln := ⟨_, rfl⟩
  rw [← eMX] at cr
  rw [gd_t (by rw [q3]; exact C.k), rq_k (by rw [q5]; exact C.r_sizes) (by rw [q3]; exact C.k_sizes), gd_t (by rw [q3]; exact cu2), e67, cr, cl_some] at g1
  obtain ⟨h2c, eh2⟩ : ∃ h2c, h2c = sI (oA h1 (fr (hA h1) (x + 17 + 3 * u) 0 32 (fun b => nI (cn (fun j => ecB (decide (¬ wOp v < 58)) (bt dm) K j && decide (K j % bk = b)) ln)))) 391 (x + 15 + 3 * u) (c + nI (if MX = 0 then 1 else MX)) := ⟨_, rfl⟩
  rw [← eh2] at g1
  have p2 : hT h2c = hT hc ∧ hU h2c = hU hc ∧ hK h2c = hK hc ∧ hN h2c = hN hc ∧ hR h2c = hR hc ∧ hQ h2c = hQ hc ∧ hL h2c = hL hc := by
    rw [eh2, qT_sI, qU_sI, qK_sI, qN_sI, qR_sI, qQ_sI, qL_sI, qT_oA, qU_oA, qK_oA, qN_oA, qR_oA, qQ_oA, qL_oA]
    exact ⟨q1, q2, q3, q4, q5, q6, q7⟩
  obtain ⟨v1, v2, v3, v4, v5, v6, v7⟩ := p2
  have h2I : ∀ f a, ¬ (f = 391 ∧ a = x + 15 + 3 * u) → hI h2c f a = hI hG f a := fun f a z => by rw [eh2, qI_sI, if_neg z, qI_oA, q8]
  have h2A : ∀ a j, ¬ a = x + 17 + 3 * u → hA h2c a j = hA h1 a j := fun a j z => by rw [eh2, qA_sI, qA_oA, fr_o z]
  have W2 : Wp h2c w rg pl ro pr ti ln := W1.same (by rw [v3, q3]) (by rw [v4, q4]) (fun f _ _ => by rw [v5, q5]) (by rw [h2I _ _ (by omega), q8])
  have g2 := c_go_201 (F := F) (u := u) (c := c) (t := 2 + nI MX) hF W2 (by rw [v5]; exact E.hw) (v := v) (Wd.same (by rw [v3]) (fun f h5 h6 => by rw [h2I _ _ (by omega), wI])) (by rw [v3]; exact cu2) (by omega) hu dwx
  rw [g2, if_neg n78] at g1
  obtain ⟨hm, ehm⟩ : ∃ hm, hm = mrH h2c w ti (kWr (wOp v) (wD v)) (c + (2 + nI MX)) (kMem (wOp v)) := ⟨_, rfl⟩
  rw [← ehm] at g1
  obtain ⟨m1, m2, m3, m4, m5, m6⟩ := mr_o (h := h2c) (w := w) (ti := ti) (wr := kWr (wOp v) (wD v)) (t := c + (2 + nI MX)) (mem := kMem (wOp v))
  rw [← ehm] at m1 m2 m3 m4 m5 m6
  have mL : hL hm = hL hc := by
    rw [ehm]
    unfold mrH
    split <;> split <;> simp only [qL_sI, qL_sA, v7]
  have hmI : ∀ f a, ¬ (f = 522 ∧ a = w) → ¬ (f = 391 ∧ a = x + 15 + 3 * u) → hI hm f a = hI hG f a := fun f a y1 y2 => by rw [ehm, mr_I, if_neg (fun y => y1 y.2), h2I f a y2]
  have hmA : ∀ a j, ¬ a = ti → ¬ a = x + 17 + 3 * u → hA hm a j = hA h1 a j := fun a j y1 y2 => by rw [ehm, mr_A, if_neg (fun y => y1 y.2.1), h2A a j y2]
  have AF : Fr (PX x u w rg pl ro ti bi hc) hc hm := by
    refine ⟨by rw [m1, v1]; exact Nat.le_refl _, fun a ha => ⟨by rw [m3, v3], by rw [m4, v4], fun f nP => ⟨?_, by rw [m5, v5]⟩, fun nP j => ⟨?_, by rw [m6, v6], by rw [mL]⟩⟩⟩
    · rw [hmI f a (fun y => nP (Or.inl ⟨y.2, y.1⟩)) (fun y => nP (Or.inr (Or.inr (Or.inr (Or.inl ⟨y.2, by omega, by omega⟩)))))]
      exact ((GF.2 a ha).2.2.1 f nP).1
    · rw [hmA a j (fun y => nP (Or.inr (Or.inl ⟨rfl, Or.inr (Or.inr (Or.inr (Or.inl y)))⟩))) (fun y => nP (Or.inr (Or.inr (Or.inr (Or.inr (Or.inl ⟨y, rfl⟩)))))), h1A a j (fun y => nP (Or.inr (Or.inl ⟨rfl, Or.inl y⟩))) (fun y => nP (Or.inr (Or.inl ⟨rfl, Or.inr (Or.inr (Or.inr (Or.inr y)))⟩)))]
      exact ((GF.2 a ha).2.2.2 nP j).1
  /- the reference -/
  have tA : ∀ c j, hA (rTake H m v) c j = hA H c j := fun c j => by unfold rTake; simp only [qA_sI]
  obtain ⟨r1, r2, r3, r4, r5, r6⟩ := rTake_r H m v
  have MT1 : Md (rTake H m v) m := (rTake_f H m v).md E.M
  have MD : Md (ddH (rTake H m v) m s 32) m := MT1.toA
  have dI : ∀ f, hI (ddH (rTake H m v) m s 32) f m = hI (rTake H m v) f m := fun f => by unfold ddH; rw [qI_oA]
  have dA : ∀ a j, ¬ a = (m + 27) → hA (ddH (rTake H m v) m s 32) a j = hA H a j := fun a j z => by unfold ddH; rw [qA_oA, fr_o z, tA]
  have dds : ∀ j, j < 32 → dsB (ddH (rTake H m v) m s 32) m j = dD (rTake H m v) m s j := fun j hj => by
    unfold dsB ddH
    rw [qA_oA, fr_i (by omega) hj]
    cases z : dD (rTake H m v) m s j with
    | true => rfl
    | false => rfl
  have ts := c_Mod_timeOfShared (F := F) (u := u) (s := s) (a := nA v) (ln := ln) (bk := bk) MD hF hu hs (by rw [dI, r3]; exact nA_is v) (nA_lt v) (by rw [dI, (rTake_f H m v).i (by omega)]; exact E.hl) l32 (by rw [dI, (rTake_f H m v).i (by omega)]; exact hbk2) bpos b32 K (fun i hi z => by
    rw [dds i (by omega), ← ed2 i (by omega)] at z
    unfold aS
    rw [dI, r6, dA _ _ (by omega), ← B.reg i _ hi (nA_lt v)]
    exact ⟨(hKK i hi z).1, by have := (hKK i hi z).2; omega⟩)
  have emx : mB (fun b => cn (fun j => ecB (decide (53 < hI (ddH (rTake H m v) m s 32) 756 m)) (dsB (ddH (rTake H m v) m s 32) m) K j && decide (K j % bk = b)) ln) bk = MX := by
    rw [eMX, mxc_mB _ _ bk (fun i _ => Nat.mod_lt _ bpos) ln, dI, r1]
    refine congrArg (fun f => mB f bk) (funext fun b2 => cn_congr ln fun j hj => ?_)
    rw [show ecB (decide (53 < wOp v)) (dsB (ddH (rTake H m v) m s 32) m) K j = ecB (decide (¬ wOp v < 58)) (bt dm) K j from by
      unfold ecB
      rw [ee, dds j (by omega), ed2 j (by omega), exB_congr j (fun k hk => by rw [dds k (by omega), ← ed2 k (by omega)])]]
  rw [emx, dI, (rTake_f H m v).i (f := 719) (by omega), hcy] at ts
  have et := c_time_sh (u := u) MD (by rw [dI, r1]; exact km) (by rw [dI, r1]; exact ks) ts
  obtain ⟨h2, f1, R, x1, x2⟩ := r_front (F := F) (a := 0) (b := 0) E.M hF hs hu hi q l ep lp E.hl l32 v ev kk (fun j hj z => by
    have := wy_mem (s := s) B km hj
    rw [if_neg (ok j hj (by rw [ed2 j (by omega)]; exact z))] at this
    rw [← this]
    unfold wyN
    rw [dI, dI, dI, dA _ _ (by omega), dA _ _ (by omega), tA, tA]) et ((Rf.refl _).cA (Or.inl ⟨by omega, by omega⟩))
  have y1 : ∀ f, 723 ≤ f → f ≤ 724 → hI h2 f m = hI H f m := fun f z1 z2 => by
    rw [x1 f z1 z2, qI_sA, dI]
    exact (rTake_f H m v).i (by omega)
  have y2 : ∀ a j, (m + 3) ≤ a → a ≤ (m + 7) → hA h2 a j = if a = (m + 6) ∧ j = u then c + nI (if MX = 0 then 1 else MX) else hA H a j := fun a j z1 z2 => by
    rw [x2 a j (Or.inl ⟨z1, z2⟩), qA_sA]
    by_cases z : a = m + 6 ∧ j = u
    · rw [if_pos z, if_pos z]
    · rw [if_neg z, if_neg z]
      exact dA a j (by omega)
  have Rr : ∀ t, Rs m t H h2 := fun t => R.R.rs
  have M2 : Md h2 m := R.R.md E.M
  have f2 : hI h2 757 m = nI (nD v) := by rw [R.f2]; exact nD_is v
  have hl2 : hI h2 705 m = nI ln := by rw [(Rr s).1.1]; exact E.hl
  have sb2 : hA h2 (m + 9) s = nI b := by rw [(Rr s).2.1.1]; exact B.sb
  have reg2 : ∀ i r, i < ln → r < 16 → hA h2 (m + 13) (16 * (32 * s + i) + r) = hA hc rg (16 * i + r) := fun i r hi hr => by
    rw [show 16 * (32 * s + i) + r = 512 * s + (16 * i + r) by omega, (Rr s).2.2.2.2 _ (by omega), B.reg i r hi hr, show 512 * s + (16 * i + r) = 16 * (32 * s + i) + r by omega]
  obtain ⟨n, f3⟩ := l_go318s (F := F) (a := nA v) (b := nB v) (d := nD v) (b0 := b) (o := wOp v) (mk := dm) M2 hF hs (by rw [R.f3]; exact nA_is v) (nA_lt v) (by rw [R.f4]; exact nB_is v) (nB_lt v) f2 (nD_lt v) hl2 l32 (fun i hi z => by
    rw [R.ds i (by omega)] at z
    rw [R.gp i, ← E.eg i (by omega)]
    exact sub i (by omega) (by rw [ed2 i (by omega)]; exact z)) (fun i hi => by rw [R.ds i (by omega)]; exact ed2 i (by omega)) sb2 b64 K (fun i hi z => by
    rw [R.ds i (by omega), ← ed2 i (by omega)] at z
    unfold aS
    rw [R.f6, reg2 i _ hi (nA_lt v)]
    exact hKK i hi z) R.f1 ks (2 + nI MX)
  have MS : Md (shR h2 m s (nD v) b (wOp v) dm K (nB v) ln) m := M2.toA
  have sI2 : ∀ f, hI (shR h2 m s (nD v) b (wOp v) dm K (nB v) ln) f m = hI h2 f m := fun f => by unfold shR; rw [qI_oA]
  have f4 := l_goTail (F := F) (n := n) (v := 2 + nI MX) MS hs (by rw [sI2]; exact f2) (nD_lt v) (by rw [sI2]; exact hl2) l32
  have cy2 : hI h2 719 m = c := by rw [R.R.i (by omega)]; exact hcy
  rw [sI2, sI2, R.f1, cy2, if_pos c2] at f4
  have f5 := (f1.trans f3).trans f4
  obtain ⟨hrT, ehr⟩ : ∃ hrT, hrT = tkH (shR h2 m s (nD v) b (wOp v) dm K (nB v) ln) m s (nD v) (c + (2 + nI MX)) := ⟨_, rfl⟩
  rw [← ehr] at f5
  have rTI : ∀ f, hI hrT f m = hI h2 f m := fun f => by rw [ehr]; unfold tkH; rw [qI_oA, sI2]
  have opT : hI (shR h2 m s (nD v) b (wOp v) dm K (nB v) ln) 756 m = wOp v := by rw [sI2]; exact R.f1
  have shA : ∀ a j, ¬ a = m + 18 → ¬ a = m + 13 → ¬ a = m + 15 → hA (shR h2 m s (nD v) b (wOp v) dm K (nB v) ln) a j = hA h2 a j := fun a j n1 n2 n3 => by
    unfold shR
    rw [qA_oA, shN_o n1 n2 n3]
  have rTA : ∀ a j, ¬ ((m + 11) ≤ a ∧ a ≤ (m + 18)) → hA hrT a j = hA h2 a j := fun a j z => by
    rw [ehr, tk_o (by omega) (by omega), shA _ _ (by omega) (by omega) (by omega)]
  have far : ∀ t, t < 128 → ¬ t = s → Rs m t H hrT := fun t ht ne => (Rr t).trans ⟨⟨rTI _, rTI _⟩, ⟨rTA _ _ (by omega), rTA _ _ (by omega), by rw [ehr, (tk_far (nD_lt v) (show 0 < 20 by omega) ne).2, shA _ _ (by omega) (by omega) (by omega)]⟩, fun r hr => by rw [ehr, (tk_far (nD_lt v) hr ne).1, shA _ _ (by omega) (by omega) (by omega)], fun i hi => ⟨by rw [ehr, tk_o (by omega) (by omega), shA _ _ (by omega) (by omega) (by omega)], by
      rw [ehr, tk_o (by omega) (by omega)]
      unfold shR
      rw [qA_oA, shN_pl (fun k hk => by omega)], by rw [ehr, tk_o (by omega) (by omega), shA _ _ (by omega) (by omega) (by omega)], by rw [ehr, tk_o (by omega) (by omega), shA _ _ (by omega) (by omega) (by omega)]⟩, fun j hj => by
      rw [ehr, tk_o (by omega) (by omega)]
      unfold shR
      rw [qA_oA, shN_rg (fun k hk => by have := nD_lt v; omega)]⟩
  have hmw : ∀ f, ¬ f = 522 → hI hm f w = hI hc f w := fun f z => by rw [hmI f w (fun y => z y.1) (fun y => by have := y.2; omega), i1 _ _ (by omega) (by omega)]
  have regG : ∀ i, i < ln → hA hG rg (16 * i + nB v) = aX h2 m s (nB v) i := fun i hi => by
    rw [a1 _ _ d_rg_pl d_rg_ro]
    unfold aX
    rw [reg2 i _ hi (nB_lt v)]
  have shE : ∀ j k, j ≤ ln → k < 64 → shM (wOp v) dm K (fun i => hA hG rg (16 * i + nB v)) (hA hG bi) j k = shM (wOp v) dm K (fun i => aX h2 m s (nB v) i) (fun k => hA h2 (m + 18) (64 * b + k)) j k := fun j k hj hk => shM_congr j (fun i hi => regG i (by omega)) (fun i hi z => K64 i z) (fun k hk => by
    rw [a1 _ _ d_bi_pl d_bi_ro, u9 k hk, R.R.a (by omega)]) k hk
  have WbT : Wb hm hrT x m s ln b w rg pl pr ti L bl := by
    refine wb_mem (t := c + (2 + nI MX)) (g := hI hc 518 w) (v := v) W B l32 km (by rw [m5, v5]) (by rw [m6, v6]) hmw ?_ (fun i hi => ?_) (fun p => ?_) (fun r hr => ?_) ⟨by rw [rTI, (Rr s).1.1], by rw [rTI, (Rr s).1.2]⟩ ⟨by rw [rTA _ _ (by omega), (Rr s).2.1.1], by rw [rTA _ _ (by omega), (Rr s).2.1.2.1]⟩ ?_ (fun r hr => ?_) (fun i hi => ⟨?_, ?_, ?_⟩) (fun i hi => ?_) (fun i r hi hr => ?_)
    · rw [ehm, mr_I, if_pos ⟨km, rfl, rfl⟩]
    · rw [hmA _ _ d_pl_ti (by omega), h1A _ _ d_pl_rg d_pl_bi]
      exact a2 i hi
    · rw [hmA _ _ d_pr_ti (by omega), h1A _ _ d_pr_rg d_pr_bi, a1 _ _ d_pr_pl d_pr_ro]
    · rw [ehm, mr_A, h2A _ _ (by omega), h1A _ _ d_ti_rg d_ti_bi, a1 _ _ d_ti_pl d_ti_ro]
      by_cases z : ¬ kWr (wOp v) (wD v) = -1 ∧ r = (kWr (wOp v) (wD v)).toNatClampNeg
      · rw [if_pos z, if_pos ⟨z.1, rfl, z.2⟩]
      · rw [if_neg z, if_neg (fun y => z ⟨y.1, y.2.2⟩)]
    · rw [ehr, tk_rM (by rw [opT]; exact km)]
    · rw [ehr, tk_rT, opT, shA _ _ (by omega) (by omega) (by omega), (Rr s).2.2.1 r hr]
    · rw [ehr, tk_o (by omega) (by omega), shA _ _ (by omega) (by omega) (by omega), ((Rr s).2.2.2.1 i hi).1]
    · rw [ehr, tk_o (by omega) (by omega), shA _ _ (by omega) (by omega) (by omega), ((Rr s).2.2.2.1 i hi).2.2.1]
    · rw [ehr, tk_o (by omega) (by omega), shA _ _ (by omega) (by omega) (by omega), ((Rr s).2.2.2.1 i hi).2.2.2]
    · rw [ehr, tk_o (by omega) (by omega)]
      unfold shR
      rw [qA_oA]
      unfold shN
      rw [fx_i (i := i) (by omega) (by omega), fx_o (by omega), fr_o (by omega), ((Rr s).2.2.2.1 i (by omega)).2.1, R.gp i, ← E.eg i (by omega)]
      by_cases z : bt (hI hc 518 w) i = true
      · rw [if_pos ⟨hi, z⟩, if_pos z]
      · rw [if_neg (fun y => z y.2), if_neg z]
    · rw [hmA _ _ d_rg_ti (by omega), eh1, qA_oA, ehr, tk_o (by omega) (by omega)]
      unfold shR
      rw [qA_oA]
      unfold usH shN
      rw [fx_o (b := m + 13) (by omega)]
      by_cases z : r = nD v
      · rw [z, fx_i (i := i) (by omega) (by omega), fx_i (i := i) (by omega) (by omega), fr_o d_rg_bi', fr_o (by omega), a1 _ _ d_rg_pl d_rg_ro, reg2 i _ hi (nD_lt v)]
        by_cases y : (bt dm i && decide (¬ wOp v = 53)) = true
        · rw [if_pos ⟨hi, y⟩, if_pos ⟨hi, y⟩]
          exact shE i (K i) (by omega) (K64 i (Bool.and_eq_true_iff.mp y).1)
        · rw [if_neg (fun k => y k.2), if_neg (fun k => y k.2)]
      · rw [fx_c (fun k hk => by have := nD_lt v; omega), fx_c (fun k hk => by have := nD_lt v; omega), fr_o d_rg_bi', fr_o (by omega), a1 _ _ d_rg_pl d_rg_ro, reg2 i _ hi hr]
  obtain ⟨kc, o1, o2, o3, o4, o5, o6⟩ := mem_fin (F := F) (hrT := hrT) hF X E z1 e hi q j1 AF WbT (fun f hf => by rw [rTI, R.R.i (by omega)]) (fun t _ => by rw [rTA _ _ (by omega), (Rr t).2.1.1]) far (by rw [rTA _ _ (by omega), (Rr s).2.1.2.1]) (fun i hi => ⟨by rw [ehr, tk_o (by omega) (by omega), shA _ _ (by omega) (by omega) (by omega), ((Rr s).2.2.2.1 i hi).2.2.1], by rw [ehr, tk_o (by omega) (by omega), shA _ _ (by omega) (by omega) (by omega), ((Rr s).2.2.2.1 i hi).2.2.2]⟩) (fun k hk => by
    rw [hmA _ _ d_bi_ti (by omega), eh1, qA_oA, ehr, tk_o (by omega) (by omega)]
    unfold shR
    rw [qA_oA, shN_sh hk]
    unfold usH
    rw [fx_o d_bi_rg, fr_i (by omega) hk]
    exact shE ln k (Nat.le_refl _) hk) (fun c3 k hc3 ne hk => by
    rw [ehr, tk_o (by omega) (by omega)]
    unfold shR
    rw [qA_oA]
    unfold shN
    rw [fx_o (by omega), fx_o (by omega), fr_at, if_neg (by omega), R.R.a (by omega)]) (fun k _ => by
    rw [ehr]
    unfold tkH shR
    rw [qL_oA, qL_oA, R.R.1.2.2.2.2.2.2]) (by rw [hmI _ _ (by omega) (by omega), i2 _ (by decide) (by decide) (by decide)]; exact td)
  refine ⟨kc, hm, h2, hrT, bi, c + nI (if MX = 0 then 1 else MX), g1.trans o1, f5, o2, o3, o4, ⟨by rw [o5, m1, v1], by rw [o6, m2, v2]⟩, AF, ⟨j1, j2, j5, j6⟩, ⟨?_, ?_, ?_, fun f y3 y4 y5 => ?_, ?_, ?_, fun f y3 y4 => ?_⟩, R, rTI, rTA, y1, y2, far, ?_, fun a ha ka => ⟨fun f => ⟨?_, by rw [m5, v5]⟩, fun j => ⟨?_, by rw [m6, v6], by rw [mL]⟩⟩⟩
  · rw [hmI _ _ (by omega) (by omega)]; exact i3
  · rw [hmI _ _ (by omega) (by omega)]; exact i4
  · rw [hmI _ _ (by omega) (by omega)]; exact i5
  · rw [hmI _ _ (by omega) (by omega)]; exact i2 f y3 y4 y5
  · rw [hmI _ _ (by omega) (by omega)]; exact i6
  · rw [ehm, mr_I, if_neg (by omega), eh2, qI_sI, if_pos ⟨rfl, rfl⟩]
  · rw [hmI _ _ (by omega) (by omega), i1 _ _ (by omega) (by omega)]
  · have R2 : Rf m (fun f => (756 ≤ f ∧ f ≤ 762) ∨ (720 ≤ f ∧ f ≤ 724)) (fun a => ((m + 3) ≤ a ∧ a ≤ (m + 18)) ∨ ((m + 25) ≤ a ∧ a ≤ (m + 28))) H h2 := R.R.mono (fun f z => z) (fun a z => by omega)
    rw [ehr]
    unfold tkH shR
    refine (R2.cO (fun a na j => ?_)).cO (fun a na j => ?_)
    · exact shN_o (by omega) (by omega) (by omega)
    · have := tk_o (h := oA h2 (shN (hA h2) m s (nD v) b (wOp v) dm K (fun i => aX h2 m s (nB v) i) (gpB h2 m) ln)) (m := m) (s := s) (d := nD v) (a := a) (j := j) (t := c + (2 + nI MX)) (by omega) (by omega)
      unfold tkH at this
      rw [qA_oA] at this
      exact this
  · have k14 : ¬ a = x + 11 ∧ ¬ a = x + 15 + 3 * u ∧ ¬ a = w := by
      rcases ka with ka | ka
      · refine ⟨fun y => ?_, fun y => ?_, fun y => ?_⟩
        · rw [y, C.k_tally] at ka; cases ka
        · rw [y, cu2] at ka; cases ka
        · rw [y, W.k] at ka; cases ka
      · omega
    rw [hmI f a (fun y => k14.2.2 y.2) (fun y => k14.2.1 y.2), i1 f a k14.1 (fun y => k14.2.1 y.2)]
  · have k15 : ¬ a = ti ∧ ¬ a = x + 17 + 3 * u ∧ ¬ a = rg ∧ ¬ a = bi ∧ ¬ a = pl ∧ ¬ a = ro := by
      rcases ka with ka | ka
      · refine ⟨fun y => ?_, fun y => ?_, fun y => ?_, fun y => ?_, fun y => ?_, fun y => ?_⟩
        · rw [y, W.k_ti] at ka; cases ka
        · rw [y, cu7] at ka; cases ka
        · rw [y, W.k_rg] at ka; cases ka
        · rw [y, j2] at ka; cases ka
        · rw [y, W.k_pl] at ka; cases ka
        · rw [y, W.k_ro] at ka; cases ka
      · omega
    rw [hmA a j k15.1 k15.2.1, h1A a j k15.2.2.1 k15.2.2.2.1, a1 a j k15.2.2.2.2.1 k15.2.2.2.2.2]
