/-! a word of global memory goes -/
theorem opA2 {o : Int32} (km : kMem o) (ks : ¬ kSh o) : 2 ≤ o ∧ (o < 54 ↔ ¬ 53 < o) := by
  rcases opA o km ks with z | z | z | z | z | z <;> rw [z] <;> decide
/-- meeting leaves what is on its way -/
theorem PG_np {h : Hp} {x lo f a : Nat} (y : PG h x lo f a) : (lo ≤ a ∧ (hK h a = 8 ∨ hK h a = 9) ∧ ¬ f = 9999) ∨ (a = x + 11 ∧ f = 324) ∨ (x + 15 ≤ a ∧ a ≤ x + 38 ∧ f = 387) := by
  rcases y with y | y | y | y
  · refine Or.inl ⟨y.1, Or.inr y.2.1, ?_⟩
    have := y.2.2
    omega
  · exact Or.inr (Or.inl y)
  · exact Or.inr (Or.inr y)
  · refine Or.inl ⟨y.1, Or.inl y.2.1, ?_⟩
    have := y.2.2
    omega
theorem PG.rws {h k : Hp} {x lo : Nat} {tg : Nat → Nat} {Z : RowT} (R : Rws h x lo tg Z) (C : Cd h x) (A : Fr (PG h x lo) h k) (hx : x + 38 < hT h) (lx : x + 38 < lo) : Rws k x lo tg Z := by
  refine R.fr A hx (fun y => ?_) (fun y => ?_) (fun a f h1 h2 h3 h4 y => ?_) (fun u hu y => ?_) (fun y => ?_) (fun a f h1 h2 h3 h4 y => ?_)
  · have := PG_np y; omega
  · have := PG_np y; omega
  · rcases PG_np y with y | y | y
    · omega
    · rw [y.1, C.k_tally] at h2; cases h2
    · have := y.2.2; omega
  · have := PG_np y; omega
  · have := PG_np y; omega
  · rcases PG_np y with y | y | y
    · omega
    · rw [y.1, C.k_tally] at h2; cases h2
    · have := y.2.2; omega
theorem PG.spr {h k : Hp} {x lo : Nat} {tg : Nat → Nat} {sp : List Nat} (S : Spr h x lo tg sp) (C : Cd h x) (A : Fr (PG h x lo) h k) (hx : x + 38 < hT h) (lx : x + 38 < lo) : Spr k x lo tg sp := by
  refine S.fr A hx (fun y => ?_) (fun a f h1 h2 h3 h4 y => ?_)
  · have := PG_np y; omega
  · rcases PG_np y with y | y | y
    · omega
    · rw [y.1, C.k_tally] at h2; cases h2
    · have := y.2.2; omega
theorem PG.ca {h k : Hp} {x lo : Nat} {S : Cs} (I : CaIs h x S) (A : Fr (PG h x lo) h k) (hx : x + 38 < hT h) (lx : x + 38 < lo) : CaIs k x S := by
  refine I.fr A hx (fun y => ?_) (fun y => ?_) (fun y => ?_) (fun y => ?_)
  · have := PG_np y; omega
  · have := PG_np y; omega
  · have := PG_np y; omega
  · have := PG_np y; omega
theorem fS_out {ga : Nat} {c : Int32} {D : Nat → Bool} {Lq : Nat → Nat} {S : Cs} (g0 : 0 < ga) (g8 : ga ≤ 8) : ∀ n, (∀ j, 32 ≤ j → (fS ga c D Lq S n).ln j = S.ln j) ∧ (∀ g, 8 ≤ g → (fS ga c D Lq S n).tk g = S.tk g) := by
  intro n
  induction n with
  | zero => exact ⟨fun _ _ => rfl, fun _ _ => rfl⟩
  | succ n ih =>
    have p := fPl_lt (L := Lq n) g0 g8
    have es : fS ga c D Lq S (n + 1) = if fL D Lq n = true then fNx ga c (Lq n) (fS ga c D Lq S n) else fS ga c D Lq S n := rfl
    rw [es]
    by_cases z : fL D Lq n = true
    · rw [if_pos z]
      refine ⟨fun j hj => ?_, fun g hg => ?_⟩
      · show (if j = fPl ga (Lq n) then nI (Lq n) else (fS ga c D Lq S n).ln j) = _
        rw [if_neg (by omega)]
        exact ih.1 j hj
      · show (if g = Lq n % ga then _ else (fS ga c D Lq S n).tk g) = _
        rw [if_neg (by omega)]
        exact ih.2 g hg
    · rw [if_neg z]
      exact ih
theorem go_gl {o : Nat → Nat} {hc H : Hp} {x m lo ln sl u s b w rg pl ro pr ti L bl wd F i0 p ga sz : Nat} {v : Int64} {dm c : Int32} {tg : Nat → Nat} {Z : RowT} {sp : List Nat} {LL : List Rq} (hF : 40000 ≤ F) (X : Sx o hc H x m lo ln sl) (E : GO o hc H x m lo ln u s b w rg pl ro pr ti L bl wd v) (lh : lo ≤ hT hc) (wdT : wd < hT hc) (z1 : hQ hc (x + 16 + 3 * (s / 16)) (s % 16) = some w) (e : ∃ e, e ≤ 5 ∧ L = 2 ^ e) (hi : i0 < 32) (q : ¬ hA H (m + 26) i0 = 0) (l : ∀ j, j < i0 → hA H (m + 26) j = 0) (ep : hA H (m + 15) (32 * s + i0) = nI p) (lp : p < 128) (ev : hL H (m + 1) p = v) (kk : kKnown (wOp v) (wN v)) (km : kMem (wOp v)) (ks : ¬ kSh (wOp v)) (ed1 : f_Warp_doing F w hc = some (dm, hc)) (ed2 : ∀ i, i < 32 → bt dm i = dD (rTake H m v) m s i) (sub : ∀ i, i < 32 → bt dm i = true → bt (hI hc 518 w) i = true) (esz : hI hc 69 (x + 1) = hI H 710 m) (hsz : hI H 710 m = nI sz) (s4 : sz ≤ 4096) (ok : ∀ i, i < ln → bt dm i = true → ¬ badM hc H m rg v i) (hcy : hI H 719 m = c) (td : hI hc 324 (x + 11) = hI H 725 m) (hga : hI hc 68 (x + 1) = nI ga) (hga2 : hI H 709 m = nI ga) (g0 : 0 < ga) (g8 : ga ≤ 8) (CI : CaIs hc x (cs0 H m)) (RW : Rws hc x lo tg Z) (SP : Spr hc x lo tg sp) (P : Pd H m LL) (l8 : LL.length ≤ 8000) : ∃ (kc hm h2 hrT : Hp) (bi : Nat) (K : Nat → Nat) (D : Nat → Bool) (Ln : List Rq) (l2 : RowT) (tg2 : Nat → Nat) (sp2 : List Nat), f_WM_go F x (some (x + 15 + 3 * u)) (some w) c hc = some kc ∧ f_Mod_go F m (nI u) (nI s) H = some hrT ∧ Sx o kc hrT x m lo ln sl ∧ hI kc 324 (x + 11) = hI hrT 725 m ∧ Fr (PG hm x lo) hm kc ∧ Fr (PX x u w rg pl ro ti bi hc) hc hm ∧ (hR hc 449 bl = some bi ∧ hK hc bi = 100 ∧ lo ≤ bi ∧ bi < hT hc) ∧ MT hc hm x u w dm (hI hc 391 (x + 15 + 3 * u)) ∧ RG H h2 m u s ln v ∧ (∀ f, ¬ f = 745 → ¬ f = 746 → hI hrT f m = hI h2 f m) ∧ (∀ a j, (m + 5) ≤ a → a ≤ (m + 10) → hA hrT a j = hA h2 a j) ∧ (∀ a j, (m + 5) ≤ a → a ≤ (m + 7) → hA h2 a j = hA H a j) ∧ (∀ t, t < 128 → ¬ t = s → Rs m t H hrT) ∧ Rf m (fun f => (756 ≤ f ∧ f ≤ 762) ∨ (720 ≤ f ∧ f ≤ 724) ∨ f = 745 ∨ f = 746) (fun a => ((m + 3) ≤ a ∧ a ≤ (m + 28))) H hrT ∧ CaIs kc x (cs0 hrT m) ∧ cs0 hrT m = fS ga c D (fun i => K i / 8) (cs0 H m) ln ∧ Rws kc x lo tg2 (fun r => Z r ++ l2 r) ∧ Spr kc x lo tg2 sp2 ∧ Pd hrT m (LL ++ Ln) ∧ Ln = lnR D (fun i => rqK s b (nO v) (nD v) K (fun i => hA hc rg (16 * i + nB v)) (fun i => hA hc rg (16 * i + nD v)) (dnL ga c D (fun i => K i / 8) (cs0 H m) (K i / 8) ln) i) ln ∧ (∀ r p, r < 64 → ((l2 r).map Prod.snd).filter (fun q => decide (q.p = p)) = Ln.filter (fun q => decide (q.p = p) && decide ((q.t &&& 63) = nI r))) ∧ hI kc 259 (x + 8) = hI hc 259 (x + 8) + nI (cn D ln) ∧ Ldg hc sp (cn D ln) kc sp2 ∧ (∀ i, i < ln → D i = bt dm i) ∧ (∀ i, i < ln → bt dm i = true → K i < sz) ∧ hA hrT (m + 11) s = c + (ltF ga c D (fun i => K i / 8) (cs0 H m) ln - c + nI (cn (fun j => decide (53 < wOp v) && agB D K j) ln)) ∧ (∀ i, i < 32 → hA hrT (m + 16) (32 * s + i) = hA H (m + 16) (32 * s + i)) ∧ (∀ p, hA hm (x + 4) p = hA hc (x + 4) p) := by
  obtain ⟨c2, c54⟩ := opA2 km ks
  have n78 := opM78 km
  have C := E.C
  have W := E.W
  have B := E.B
  have Wd := E.Wd
  have lx := E.lx
  have wl := W.bw
  have l32 := E.l32
  have hu := E.hu
  have hs := E.hs
  have hx := X.hx
  have b64 := B.b64
  have wb1 := W.b_rg
  have wb2 := W.b_pl
  have wb3 := W.b_ro
  have wb4 := W.b_pr
  have wb5 := W.b_ti
  obtain ⟨bi, ⟨k1, k2, k3, k4, k5⟩, ⟨j1, j2, j3, j4, j5, j6⟩, u9⟩ : ∃ bi, (hK hc bl = 8 ∧ hI hc 448 bl = nI b ∧ o bl = 1000 + 2 * b ∧ lo ≤ bl ∧ bl < hT hc) ∧ (hR hc 449 bl = some bi ∧ hK hc bi = 100 ∧ hN hc bi = 64 ∧ o bi = 1001 + 2 * b ∧ lo ≤ bi ∧ bi < hT hc) ∧ ∀ k, k < 64 → hA hc bi k = hA H (m + 18) (64 * b + k) := by
    rcases X.B b b64 with ⟨y, _⟩ | ⟨bl2, bi, y, k, i, y3⟩
    · rw [B.bq] at y; cases y
    · rw [B.bq] at y
      injection y with y
      subst y
      rcases y3 with ⟨_, y4⟩ | ⟨u, y4⟩
      · exact absurd B.sb (y4 s hs)
      · exact ⟨bi, k, i, y4.2.2.2.2.2.2.2.2⟩
  have t1w := W.tw
  have t1 := W.t_rg
  have t2 := W.t_pl
  have t3 := W.t_ro
  have t4 := W.t_pr
  have t5 := W.t_ti
  have d_bi_ro : ¬ bi = ro := fun z => by rw [z] at j4; omega
  have d_bi_pl : ¬ bi = pl := fun z => by rw [z] at j4; omega
  have d_bi_ti : ¬ bi = ti := fun z => by rw [z] at j4; omega
  have d_rg_ti : ¬ rg = ti := fun z => by rw [z] at t1; omega
  have d_rg_pl : ¬ rg = pl := fun z => by rw [z] at t1; omega
  have d_rg_ro : ¬ rg = ro := fun z => by rw [z] at t1; omega
  have d_pl_ti : ¬ pl = ti := fun z => by rw [z] at t2; omega
  have d_pr_ti : ¬ pr = ti := fun z => by rw [z] at t4; omega
  have d_pr_pl : ¬ pr = pl := fun z => by rw [z] at t4; omega
  have d_pr_ro : ¬ pr = ro := fun z => by rw [z] at t4; omega
  have d_ti_pl : ¬ ti = pl := fun z => d_pl_ti z.symm
  have d_ti_ro : ¬ ti = ro := fun z => by rw [z] at t5; omega
  have inL : ∀ i, i < 32 → bt dm i = true → i < ln := fun i hi z => (E.awk i hi (sub i hi z)).1
  /- the reference's lanes that do it -/
  have tA : ∀ c j, hA (rTake H m v) c j = hA H c j := fun c j => by unfold rTake; simp only [qA_sI]
  obtain ⟨r1, r2, r3, r4, r5, r6⟩ := rTake_r H m v
  have MT1 : Md (rTake H m v) m := (rTake_f H m v).md E.M
  have MD : Md (ddH (rTake H m v) m s 32) m := MT1.toA
  have dI : ∀ f, hI (ddH (rTake H m v) m s 32) f m = hI (rTake H m v) f m := fun f => by unfold ddH; rw [qI_oA]
  have dA : ∀ a j, ¬ a = (m + 27) → hA (ddH (rTake H m v) m s 32) a j = hA H a j := fun a j z => by unfold ddH; rw [qA_oA, fr_o z, tA]
  have dds : ∀ j, j < 32 → dsB (ddH (rTake H m v) m s 32) m j = dD (rTake H m v) m s j := fun j hj => by
    unfold dsB ddH
    rw [qA_oA, fr_i (by omega) hj]
    cases z : dD (rTake H m v) m s j with
    | true => rfl
    | false => rfl
  have ecs : cs0 (ddH (rTake H m v) m s 32) m = cs0 H m := by
    unfold cs0
    rw [dI, dI, (rTake_f H m v).i (f := 723) (by omega), (rTake_f H m v).i (f := 724) (by omega), show hA (ddH (rTake H m v) m s 32) (m + 3) = hA H (m + 3) from funext fun j => dA _ j (by omega), show hA (ddH (rTake H m v) m s 32) (m + 4) = hA H (m + 4) from funext fun j => dA _ j (by omega)]
  obtain ⟨D, eD⟩ : ∃ D : Nat → Bool, D = dsB (ddH (rTake H m v) m s 32) m := ⟨_, rfl⟩
  have D32 : ∀ i, i < 32 → D i = bt dm i := fun i hi => by rw [eD, dds i hi, ed2 i hi]
  obtain ⟨K, hKK⟩ : ∃ K : Nat → Nat, ∀ i, i < ln → bt dm i = true → vlM hc rg v i = nI (K i) ∧ K i < sz := ⟨fun i => (vlM hc rg v i).toNatClampNeg, fun i hi z => vl_is (bd := sz) s4 (by
    have := ok i hi z
    unfold badM at this
    rw [if_neg ks, hsz] at this
    exact this)⟩
  /- the class -/
  obtain ⟨hG, G, g1⟩ := mem_class (c := c) hF E ed1 kk km esz ok
  have GF : Fr (PX x u w rg pl ro ti bi hc) hc hG := G.fr
  obtain ⟨⟨s1, s2, s3, s4', s5, s6, s7⟩, i1, i2, i3, i4, i5, i6, a1, a2, a3⟩ := G
  rw [if_neg ks, hga] at g1
  have dwx : ¬ wd = x + 11 := fun z => by have := Wd.k; rw [z, C.k_tally] at this; cases this
  have dwd : ¬ wd = x + 15 + 3 * u := fun z => by have := Wd.k; rw [z, (C.u u hu).2.1] at this; cases this
  have wI : ∀ f, hI hG f wd = hI hc f wd := fun f => i1 f wd dwx (fun y => dwd y.2)
  have CG : Cd hG x := C.same s3 s4' (fun f a _ => by rw [s5]) (fun j => by rw [s6])
  have WG : Wp hG w rg pl ro pr ti ln := E.wp.same s3 s4' (fun f _ _ => by rw [s5]) (i1 _ _ (by omega) (by omega))
  have RG0 : Rws hG x lo tg Z := RW.same (fun r _ => ⟨by rw [s6], by rw [s6]⟩) (fun r hr q hq => ⟨by rw [s3], rfl, by rw [s1]; exact (RW.tgr r hr q hq).2.2, fun f _ _ => ⟨i1 f q.1 (fun y => by have := RW.k hr hq; rw [y, C.k_tally] at this; cases this) (fun y => by have := RW.k hr hq; rw [y.2, (C.u u hu).2.1] at this; cases this), by rw [s5]⟩⟩) (fun u2 j _ _ => by rw [s6]) (fun j => by rw [s6]) (fun y h1 h2 => ⟨by rw [s1]; exact h1, by rw [s3]; exact h2, i1 _ _ (fun z => by rw [z, C.k_tally] at h2; cases h2) (fun z => by rw [z.2, (C.u u hu).2.1] at h2; cases h2), i1 _ _ (fun z => by rw [z, C.k_tally] at h2; cases h2) (fun z => by rw [z.2, (C.u u hu).2.1] at h2; cases h2)⟩)
  have SG0 : Spr hG x lo tg sp := SP.sa s1 s3 s5
  have CG0 : CaIs hG x (cs0 H m) := by
    obtain ⟨c1, c2, c3, c4⟩ := CI
    exact ⟨fun p hp => by rw [a1 _ _ (by omega) (by omega)]; exact c1 p hp, fun g hg => by rw [a1 _ _ (by omega) (by omega)]; exact c2 g hg, by rw [i1 _ _ (by omega) (by omega)]; exact c3, by rw [i1 _ _ (by omega) (by omega)]; exact c4⟩
  have AE0 : AE hG x lo w rg pl ro pr ti ln wd bl s b (nO v) (nB v) (nD v) D K (fun i => hA hc rg (16 * i + nB v)) (fun i => hA hc rg (16 * i + nD v)) := by
    refine ⟨CG, WG, by rw [s1]; exact hx, lx, by rw [s1]; exact lh, ⟨⟨wl.1, by rw [s1]; exact wl.2⟩, ⟨wb1.1, by rw [s1]; exact wb1.2⟩, ⟨wb3.1, by rw [s1]; exact wb3.2⟩⟩, ⟨wb2.1, by rw [s1]; exact wb2.2⟩, ⟨wb4.1, by rw [s1]; exact wb4.2⟩, ⟨wb5.1, by rw [s1]; exact wb5.2⟩, by rw [s5]; exact E.hw, by rw [s3]; exact Wd.k, by rw [s1]; exact wdT, by rw [wI, Wd.b]; exact nB_is v, nB_lt v, by rw [wI, Wd.d]; exact nD_is v, nD_lt v, by rw [wI, Wd.op]; exact nO_is v, by rw [s5]; exact B.blk, by rw [s6]; exact z1, by rw [s6]; exact B.bq, hs, fun i hi z => ?_, fun i hi => ⟨a1 _ _ d_rg_pl d_rg_ro, a1 _ _ d_rg_pl d_rg_ro⟩⟩
    rw [D32 i (by omega)] at z
    rw [a3 i hi z]
    exact ⟨(hKK i hi z).1, by have := (hKK i hi z).2; omega⟩
  obtain ⟨k, l2, sp2, tg2, m1, m2, m3, m4, m5, m6, m7, m8⟩ := c_Memory_ask (F := F) (c := c) (dm := dm) hF AE0 RG0 SG0 CG0 g0 g8 (fun i hi => by
    rw [D32 i hi]
    cases z : bt dm i with
    | false => rfl
    | true => rw [decide_eq_true (inL i hi z)]; rfl)
  rw [m1, cl_some] at g1
  obtain ⟨wt, ewt⟩ : ∃ wt, wt = ltF ga c D (fun i => K i / 8) (cs0 H m) ln - c + (if nI (nO v) < 54 then 0 else nI (cn (agB D K) ln)) := ⟨_, rfl⟩
  rw [← ewt] at g1
  have ewt2 : wt = ltF ga c D (fun i => K i / 8) (cs0 H m) ln - c + nI (cn (fun j => decide (53 < wOp v) && agB D K j) ln) := by
    rw [ewt, ← nO_is]
    by_cases y : wOp v < 54
    · rw [if_pos y, cn_0 ln (fun i _ => by rw [decide_eq_false (c54.mp y), Bool.false_and])]
      rfl
    · rw [if_neg y]
      have : 53 < wOp v := Decidable.not_not.mp (fun z => y (c54.mpr z))
      rw [show cn (agB D K) ln = cn (fun j => decide (53 < wOp v) && agB D K j) ln from cn_congr ln (fun i _ => by rw [decide_eq_true this, Bool.true_and])]
  have hTk : hT hc ≤ hT k := by have := m2.1; rw [s1] at this; exact this
  have kst : ∀ a, x ≤ a → a ≤ x + 38 → ¬ a = x + 14 → ¬ hK hG a = 11 := fun a h1 h2 h3 y => by have := CG.st h1 h2 h3; omega
  have Ck : Cd k x := PM_cd CG m2 (by rw [s1]; exact hx)
  have Wk : Wp k w rg pl ro pr ti ln := PM_wp CG m2 lx WG AE0.V AE0.bpl AE0.bpr AE0.bti
  have pq : ∀ a, a < hT hc → (hK hc a = 8 ∨ hK hc a = 9 ∨ hK hc a = 10 ∨ hK hc a = 100 ∨ hK hc a = 7 ∨ hK hc a = 6 ∨ hK hc a = 2 ∨ hK hc a = 3) → ¬ a = x + 6 → ¬ a = x + 7 → hK k a = hK hc a ∧ hN k a = hN hc a ∧ (∀ f, hI k f a = hI hG f a ∧ hR k f a = hR hc f a) ∧ ∀ j, hA k a j = hA hG a j ∧ hQ k a j = hQ hc a j ∧ hL k a j = hL hc a j := fun a ha ka n6 n7 => by
    have n5 : ¬ a = x + 5 := fun y => by rw [y, C.k_cache] at ka; omega
    have := PM_q CG m2 (a := a) (by rw [s1]; exact ha) (by rw [s3]; omega) (by rw [s3]; omega) (by rw [s3]; omega) n5 n6 n7
    rw [s3, s4', s5, s6, s7] at this
    exact this
  have kw := pq w wl.2 (Or.inr (Or.inl W.k)) (by omega) (by omega)
  have kwd := pq wd wdT (Or.inr (Or.inr (Or.inl Wd.k))) (fun y => by have := Wd.k; rw [y, C.k_lines] at this; cases this) (fun y => by have := Wd.k; rw [y, C.k_cticks] at this; cases this)
  have krg := pq rg wb1.2 (Or.inr (Or.inr (Or.inr (Or.inl W.k_rg)))) (by omega) (by omega)
  have kpl := pq pl wb2.2 (Or.inr (Or.inr (Or.inr (Or.inl W.k_pl)))) (by omega) (by omega)
  have kpr := pq pr wb4.2 (Or.inr (Or.inr (Or.inr (Or.inl W.k_pr)))) (by omega) (by omega)
  have kti := pq ti wb5.2 (Or.inr (Or.inr (Or.inr (Or.inl W.k_ti)))) (by omega) (by omega)
  have kbi := pq bi j6 (Or.inr (Or.inr (Or.inr (Or.inl j2)))) (by omega) (by omega)
  have kta := pq (x + 11) (by omega) (Or.inr (Or.inr (Or.inr (Or.inr (Or.inr (Or.inl C.k_tally)))))) (by omega) (by omega)
  have kux := pq (x + 15 + 3 * u) (by omega) (Or.inr (Or.inr (Or.inr (Or.inr (Or.inl (C.u u hu).2.1))))) (by omega) (by omega)
  have g2 := c_go_201 (F := F) (u := u) (c := c) (t := wt) hF Wk (by rw [(kw.2.2.1 _).2]; exact E.hw) (v := v) (Wd.same kwd.1 (fun f _ _ => by rw [(kwd.2.2.1 f).1, wI])) (by rw [kux.1]; exact (C.u u hu).2.1) (by omega) hu dwx
  rw [g2, if_neg n78] at g1
  obtain ⟨hm, ehm⟩ : ∃ hm, hm = mrH k w ti (kWr (wOp v) (wD v)) (c + wt) (kMem (wOp v)) := ⟨_, rfl⟩
  rw [← ehm] at g1
  obtain ⟨n1, n2, n3, n4, n5, n6⟩ := mr_o (h := k) (w := w) (ti := ti) (wr := kWr (wOp v) (wD v)) (t := c + wt) (mem := kMem (wOp v))
  rw [← ehm] at n1 n2 n3 n4 n5 n6
  have mL : hL hm = hL k := by
    rw [ehm]
    unfold mrH
    split <;> split <;> simp only [qL_sI, qL_sA]
  have hmI : ∀ f a, ¬ (f = 522 ∧ a = w) → hI hm f a = hI k f a := fun f a y1 => by rw [ehm, mr_I, if_neg (fun y => y1 y.2)]
  have hmA : ∀ a j, ¬ a = ti → hA hm a j = hA k a j := fun a j y1 => by rw [ehm, mr_A, if_neg (fun y => y1 y.2.1)]
  have AF : Fr (PX x u w rg pl ro ti bi hc) hc hm := by
    have A1 : Fr (PX x u w rg pl ro ti bi hc) hc k := GF.trans ⟨m2.1, fun a ha => by
      obtain ⟨b1, b2, b3, b4⟩ := m2.2 a ha
      have imp : ∀ f, PM x hG f a → PX x u w rg pl ro ti bi hc f a := fun f y => by
        refine Or.inr (Or.inr (Or.inr (Or.inr (Or.inr ?_))))
        unfold PM PA at y ⊢
        rw [s1, s3] at y
        exact y
      exact ⟨b1, b2, fun f nP => b3 f (fun y => nP (imp f y)), fun nP => b4 (fun y => nP (imp _ y))⟩⟩
    refine ⟨by rw [n1]; exact A1.1, fun a ha => ?_⟩
    obtain ⟨b1, b2, b3, b4⟩ := A1.2 a ha
    refine ⟨by rw [n3]; exact b1, by rw [n4]; exact b2, fun f nP => ⟨?_, by rw [n5]; exact (b3 f nP).2⟩, fun nP j => ⟨?_, by rw [n6]; exact (b4 nP j).2.1, by rw [mL]; exact (b4 nP j).2.2⟩⟩
    · rw [hmI f a (fun y => nP (Or.inl ⟨y.2, y.1⟩))]
      exact (b3 f nP).1
    · rw [hmA a j (fun y => nP (Or.inr (Or.inl ⟨rfl, Or.inr (Or.inr (Or.inr (Or.inl y)))⟩)))]
      exact (b4 nP j).1
  have MF : Fr (fun f a => (a = w ∧ f = 522) ∨ (a = ti ∧ f = 9999)) k hm := ⟨by rw [n1]; exact Nat.le_refl _, fun a ha => ⟨by rw [n3], by rw [n4], fun f nP => ⟨hmI f a (fun y => nP (Or.inl ⟨y.2, y.1⟩)), by rw [n5]⟩, fun nP j => ⟨hmA a j (fun y => nP (Or.inr ⟨y, rfl⟩)), by rw [n6], by rw [mL]⟩⟩⟩
  have hxk : x + 38 < hT k := by omega
  have kti2 : hK k ti = 100 := by rw [kti.1]; exact W.k_ti
  have RWm : Rws hm x lo tg2 (fun r => Z r ++ l2 r) := m4.fr MF hxk (by omega) (by omega) (fun a f _ h2 _ _ y => by omega) (fun u2 _ y => by omega) (by omega) (fun a f _ h2 _ _ y => by omega)
  have SPm : Spr hm x lo tg2 sp2 := m5.fr MF hxk (by omega) (fun a f _ h2 _ _ y => by omega)
  have CIm : CaIs hm x (fS ga c D (fun i => K i / 8) (cs0 H m) ln) := m3.fr MF hxk (by omega) (by omega) (by omega) (by omega)
  /- the reference -/
  have ts := c_Mod_timeOfGlobal (F := F) (s := s) (a := nA v) (ln := ln) (ga := ga) MD hF hs (by rw [dI, r3]; exact nA_is v) (nA_lt v) (by rw [dI, (rTake_f H m v).i (by omega)]; exact E.hl) l32 (by rw [dI, (rTake_f H m v).i (by omega)]; exact hga2) g0 g8 K (fun i hi z => by
    rw [dds i (by omega), ← ed2 i (by omega)] at z
    unfold aS
    rw [dI, r6, dA _ _ (by omega), ← B.reg i _ hi (nA_lt v)]
    exact ⟨(hKK i hi z).1, by have := (hKK i hi z).2; omega⟩)
  have cyd : hI (ddH (rTake H m v) m s 32) 719 m = c := by rw [dI, (rTake_f H m v).i (by omega)]; exact hcy
  have opd : hI (ddH (rTake H m v) m s 32) 756 m = wOp v := by rw [dI]; exact r1
  rw [cyd, opd, ecs, ← eD, ← ewt2] at ts
  have et := c_time_gl (u := u) MD (by rw [opd]; exact km) (by rw [opd]; exact ks) ts
  have hdn : ∀ i, i < ln → D i = true → dnF (ddH (rTake H m v) m s 32) m ga K ln i = dnL ga c D (fun i => K i / 8) (cs0 H m) (K i / 8) ln := fun i hi z => by
    unfold dnF
    rw [← eD, if_pos ⟨hi, z⟩, cyd, ecs]
  obtain ⟨h2, f1, R, x1, x2⟩ := r_front (F := F) (a := 0) (b := 0) E.M hF hs hu hi q l ep lp E.hl l32 v ev kk (fun j hj z => by
    have := wy_mem (s := s) B km hj
    rw [if_neg (ok j hj (by rw [ed2 j (by omega)]; exact z))] at this
    rw [← this]
    unfold wyN
    rw [dI, dI, dI, dA _ _ (by omega), dA _ _ (by omega), tA, tA]) et (by
    unfold tgH2 glH
    exact (((Rf.refl _).cO (fun a na j => by rw [fr_o (by omega), fr_o (by omega), fr_o (by omega)])).cI (by omega)).cI (by omega))
  have y1 : ∀ f, 723 ≤ f → f ≤ 724 → hI h2 f m = hI (tgH2 (ddH (rTake H m v) m s 32) m ga K ln) f m := x1
  have y2 : ∀ a j, (m + 3) ≤ a → a ≤ (m + 7) → hA h2 a j = hA (tgH2 (ddH (rTake H m v) m s 32) m ga K ln) a j := fun a j z1 z2 => x2 a j (Or.inl ⟨z1, z2⟩)
  have y3 : ∀ i, i < ln → D i = true → hA h2 (m + 25) i = dnL ga c D (fun i => K i / 8) (cs0 H m) (K i / 8) ln := fun i hi z => by
    rw [x2 (m + 25) i (Or.inr rfl)]
    unfold tgH2
    rw [gl_rd (by omega), hdn i hi z]
  have Rr : ∀ t, Rs m t H h2 := fun t => R.R.rs
  have M2 : Md h2 m := R.R.md E.M
  have f2 : hI h2 757 m = nI (nD v) := by rw [R.f2]; exact nD_is v
  have hl2 : hI h2 705 m = nI ln := by rw [(Rr s).1.1]; exact E.hl
  have sb2 : hA h2 (m + 9) s = nI b := by rw [(Rr s).2.1.1]; exact B.sb
  have reg2 : ∀ i r, i < ln → r < 16 → hA h2 (m + 13) (16 * (32 * s + i) + r) = hA hc rg (16 * i + r) := fun i r hi hr => by
    rw [show 16 * (32 * s + i) + r = 512 * s + (16 * i + r) by omega, (Rr s).2.2.2.2 _ (by omega), B.reg i r hi hr, show 512 * s + (16 * i + r) = 16 * (32 * s + i) + r by omega]
  have P2 : Pd h2 m LL := P.same (R.R.i (by omega)) (R.R.i (by omega)) (fun a j h1 h2 => R.R.a (by omega) j)
  have opn : hI h2 756 m = nI (nO v) := by rw [R.f1]; exact nO_is v
  obtain ⟨H3, f3, R3, pl3, P3⟩ := l_go318a (F := F) (a := nA v) (b := nB v) (d := nD v) (b0 := b) (o := nO v) (L := LL) M2 hF hs (by rw [R.f3]; exact nA_is v) (nA_lt v) (by rw [R.f4]; exact nB_is v) (nB_lt v) f2 (nD_lt v) hl2 l32 (fun i hi z => by
    rw [R.ds i (by omega)] at z
    rw [R.gp i, ← E.eg i (by omega)]
    exact sub i (by omega) (by rw [ed2 i (by omega)]; exact z)) sb2 b64 K (fun i hi z => by
    rw [R.ds i (by omega), ← ed2 i (by omega)] at z
    unfold aS
    rw [R.f6, reg2 i _ hi (nA_lt v)]
    exact ⟨(hKK i hi z).1, by have := (hKK i hi z).2; omega⟩) opn (by rw [← nO_is]; exact km) (by rw [← nO_is]; exact ks) P2 l8 wt ln (Nat.le_refl _)
  have M3 : Md H3 m := R3.md M2
  have f4 := l_goTail (F := F) (n := F - ln - 1) (v := wt) M3 hs (by rw [R3.i (by omega)]; exact f2) (nD_lt v) (by rw [R3.i (by omega)]; exact hl2) l32
  have cy2 : hI H3 719 m = c := by rw [R3.i (by omega), R.R.i (by omega)]; exact hcy
  have opH3 : hI H3 756 m = wOp v := by rw [R3.i (by omega)]; exact R.f1
  rw [show F - ln - 1 + 1 = F - ln by omega, opH3, cy2, if_pos c2] at f4
  have f5 := (f1.trans f3).trans f4
  obtain ⟨hrT, ehr⟩ : ∃ hrT, hrT = tkH H3 m s (nD v) (c + wt) := ⟨_, rfl⟩
  rw [← ehr] at f5
  have rTI : ∀ f, hI hrT f m = hI H3 f m := fun f => by rw [ehr]; unfold tkH; rw [qI_oA]
  have rTI2 : ∀ f, ¬ f = 745 → ¬ f = 746 → hI hrT f m = hI h2 f m := fun f z1 z2 => by rw [rTI, R3.i (by omega)]
  have rTA : ∀ a j, ¬ (a = m + 11 ∨ a = m + 12) → ¬ (a = m + 15 ∨ ((m + 19) ≤ a ∧ a ≤ (m + 24))) → hA hrT a j = hA h2 a j := fun a j z1 z2 => by
    rw [ehr, tk_o (by omega) (by omega), R3.a z2]
  have far : ∀ t, t < 128 → ¬ t = s → Rs m t H hrT := fun t ht ne => (Rr t).trans ⟨⟨rTI2 _ (by omega) (by omega), rTI2 _ (by omega) (by omega)⟩, ⟨rTA _ _ (by omega) (by omega), rTA _ _ (by omega) (by omega), by rw [ehr, (tk_far (nD_lt v) (show 0 < 20 by omega) ne).2, R3.a (by omega)]⟩, fun r hr => by rw [ehr, (tk_far (nD_lt v) hr ne).1, R3.a (by omega)], fun i hi => ⟨rTA _ _ (by omega) (by omega), by
      rw [ehr, tk_o (by omega) (by omega), pl3]
      unfold plN
      exact fx_c (fun k hk => by omega), rTA _ _ (by omega) (by omega), rTA _ _ (by omega) (by omega)⟩, fun j hj => rTA _ _ (by omega) (by omega)⟩
  have hmw : ∀ f, ¬ f = 522 → hI hm f w = hI hc f w := fun f z => by rw [hmI f w (fun y => z y.1), (kw.2.2.1 f).1, i1 _ _ (by omega) (by omega)]
  have enT : ∀ i, i < 32 → hA hrT (m + 16) (32 * s + i) = hA H (m + 16) (32 * s + i) ∧ hA hrT (m + 17) (32 * s + i) = hA H (m + 17) (32 * s + i) := fun i hi => ⟨by rw [rTA _ _ (by omega) (by omega), ((Rr s).2.2.2.1 i hi).2.2.1], by rw [rTA _ _ (by omega) (by omega), ((Rr s).2.2.2.1 i hi).2.2.2]⟩
  have WbT : Wb hm hrT x m s ln b w rg pl pr ti L bl := by
    refine wb_mem (t := c + wt) (g := hI hc 518 w) (v := v) W B l32 km (by rw [n5, (kw.2.2.1 _).2]) (by
      rw [n6, ((m2.2 (x + 13) (by rw [s1]; omega)).2.2.2 (fun y => ?_) b).2.1, s6]
      have := kst (x + 13) (by omega) (by omega) (by omega)
      rcases y with (y | y | y | y) | y | y <;> omega) hmw ?_ (fun i hi => ?_) (fun p => ?_) (fun r hr => ?_) ⟨by rw [rTI2 _ (by omega) (by omega), (Rr s).1.1], by rw [rTI2 _ (by omega) (by omega), (Rr s).1.2]⟩ ⟨by rw [rTA _ _ (by omega) (by omega), (Rr s).2.1.1], by rw [rTA _ _ (by omega) (by omega), (Rr s).2.1.2.1]⟩ ?_ (fun r hr => ?_) (fun i hi => ⟨by rw [rTA _ _ (by omega) (by omega), ((Rr s).2.2.2.1 i hi).1], (enT i hi).1, (enT i hi).2⟩) (fun i hi => ?_) (fun i r hi hr => ?_)
    · rw [ehm, mr_I, if_pos ⟨km, rfl, rfl⟩]
    · rw [hmA _ _ d_pl_ti, (kpl.2.2.2 i).1]
      exact a2 i hi
    · rw [hmA _ _ d_pr_ti, (kpr.2.2.2 p).1, a1 _ _ d_pr_pl d_pr_ro]
    · rw [ehm, mr_A, (kti.2.2.2 r).1, a1 _ _ d_ti_pl d_ti_ro]
      by_cases z : ¬ kWr (wOp v) (wD v) = -1 ∧ r = (kWr (wOp v) (wD v)).toNatClampNeg
      · rw [if_pos z, if_pos ⟨z.1, rfl, z.2⟩]
      · rw [if_neg z, if_neg (fun y => z ⟨y.1, y.2.2⟩)]
    · rw [ehr, tk_rM (by rw [opH3]; exact km)]
    · rw [ehr, tk_rT, opH3, R3.a (by omega), (Rr s).2.2.1 r hr]
    · rw [ehr, tk_o (by omega) (by omega), pl3]
      unfold plN
      rw [fx_i (i := i) (by omega) (by omega), ((Rr s).2.2.2.1 i (by omega)).2.1, R.gp i, ← E.eg i (by omega)]
      by_cases z : bt (hI hc 518 w) i = true
      · rw [if_pos ⟨hi, z⟩, if_pos z]
      · rw [if_neg (fun y => z y.2), if_neg z]
    · rw [hmA _ _ d_rg_ti, (krg.2.2.2 _).1, a1 _ _ d_rg_pl d_rg_ro, rTA _ _ (by omega) (by omega), reg2 i r hi hr]
  obtain ⟨kc, o1, o2, o3, o4, o5, o6⟩ := mem_fin (F := F) (hrT := hrT) hF X E z1 e hi q j1 AF WbT (fun f hf => by rw [rTI2 f (by omega) (by omega), R.R.i (by omega)]) (fun t _ => by rw [rTA _ _ (by omega) (by omega), (Rr t).2.1.1]) far (by rw [rTA _ _ (by omega) (by omega), (Rr s).2.1.2.1]) enT (fun k2 hk => by
    rw [hmA _ _ d_bi_ti, (kbi.2.2.2 _).1, a1 _ _ d_bi_pl d_bi_ro, u9 k2 hk, rTA _ _ (by omega) (by omega), R.R.a (by omega)]) (fun c3 k2 hc3 ne hk => by
    rw [rTA _ _ (by omega) (by omega), R.R.a (by omega)]) (fun k2 _ => by
    rw [ehr]
    unfold tkH
    rw [qL_oA, R3.1.2.2.2.2.2.2, R.R.1.2.2.2.2.2.2]) (by rw [hmI _ _ (by omega), (kta.2.2.1 _).1, i2 _ (by decide) (by decide) (by decide)]; exact td)
  have etg : tgH2 (ddH (rTake H m v) m s 32) m ga K ln = glH (ddH (rTake H m v) m s 32) m (fS ga c D (fun i => K i / 8) (cs0 H m) ln) (dnF (ddH (rTake H m v) m s 32) m ga K ln) := by
    unfold tgH2
    rw [cyd, ecs, ← eD]
  have fo := fS_out (c := c) (D := D) (Lq := fun i => K i / 8) (S := cs0 H m) g0 g8 ln
  have ecT : cs0 hrT m = fS ga c D (fun i => K i / 8) (cs0 H m) ln := by
    have e1 : hA hrT (m + 3) = (fS ga c D (fun i => K i / 8) (cs0 H m) ln).ln := funext fun j => by
      rw [rTA _ _ (by omega) (by omega), y2 _ _ (by omega) (by omega), etg]
      by_cases hj : j < 32
      · rw [gl_rc hj]
      · unfold glH
        rw [qA_sI, qA_sI, qA_oA, fr_o (by omega), fr_o (by omega), fr_at, if_neg (by omega), dA _ _ (by omega)]
        exact (fo.1 j (by omega)).symm
    have e2 : hA hrT (m + 4) = (fS ga c D (fun i => K i / 8) (cs0 H m) ln).tk := funext fun j => by
      rw [rTA _ _ (by omega) (by omega), y2 _ _ (by omega) (by omega), etg]
      by_cases hj : j < 8
      · rw [gl_rt hj]
      · unfold glH
        rw [qA_sI, qA_sI, qA_oA, fr_o (by omega), fr_at, if_neg (by omega), fr_o (by omega), dA _ _ (by omega)]
        exact (fo.2 j (by omega)).symm
    have e3 : hI hrT 723 m = (fS ga c D (fun i => K i / 8) (cs0 H m) ln).hi := by rw [rTI2 _ (by omega) (by omega), y1 _ (by omega) (by omega), etg, gl_rh]
    have e4 : hI hrT 724 m = (fS ga c D (fun i => K i / 8) (cs0 H m) ln).mi := by rw [rTI2 _ (by omega) (by omega), y1 _ (by omega) (by omega), etg, gl_rm]
    unfold cs0 at e1 e2 e3 e4 ⊢
    rw [e1, e2, e3, e4]
  have Cm : Cd hm x := by
    refine Ck.frame MF hxk (fun f _ y => by omega) (fun f _ _ y => by omega) (fun f _ _ y => by omega) (fun f _ _ y => by omega) (by omega) (fun u2 f _ _ _ y => by omega)
  have hxm : x + 38 < hT hm := by rw [n1]; exact hxk
  have eLn : lnR (dsB h2 m) (rqO h2 m s (nA v) (nB v) (nD v) b (nO v) K) ln = lnR D (fun i => rqK s b (nO v) (nD v) K (fun i => hA hc rg (16 * i + nB v)) (fun i => hA hc rg (16 * i + nD v)) (dnL ga c D (fun i => K i / 8) (cs0 H m) (K i / 8) ln) i) ln := by
    have dsD : ∀ i, i < ln → dsB h2 m i = D i := fun i hi => by rw [R.ds i (by omega), D32 i (by omega), ed2 i (by omega)]
    refine lnR_congr ln dsD (fun i hi z => ?_)
    rw [dsD i hi] at z
    unfold rqO rqK
    rw [y3 i hi z, reg2 i _ hi (nB_lt v), reg2 i _ hi (nD_lt v)]
  refine ⟨kc, hm, h2, hrT, bi, K, D, _, l2, tg2, sp2, g1.trans o1, f5, o2, o3, o4, AF, ⟨j1, j2, j5, j6⟩, ⟨?_, ?_, ?_, fun f z3 z4 z5 => ?_, ?_, ?_, fun f z3 z4 => ?_⟩, R, rTI2, fun a j z1 z2 => rTA a j (by omega) (by omega), fun a j z1 z2 => ?_, far, ?_, ?_, ecT, PG.rws RWm Cm o4 hxm lx, PG.spr SPm Cm o4 hxm lx, ?_, rfl, m6, ?_, ?_, fun i hi => D32 i (by omega), fun i hi z => (hKK i hi z).2, by rw [ehr, tk_rM (by rw [opH3]; exact km), ewt2], fun i hi => (enT i hi).1, fun p2 => ?_⟩
  · rw [hmI _ _ (by omega), (kta.2.2.1 _).1]; exact i3
  · rw [hmI _ _ (by omega), (kta.2.2.1 _).1]; exact i4
  · rw [hmI _ _ (by omega), (kta.2.2.1 _).1]; exact i5
  · rw [hmI _ _ (by omega), (kta.2.2.1 _).1]; exact i2 f z3 z4 z5
  · rw [hmI _ _ (by omega), (kux.2.2.1 _).1]; exact i6
  · rw [hmI _ _ (by omega), (kux.2.2.1 _).1, i1 _ _ (by omega) (by omega)]
  · rw [hmI _ _ (by omega), (kux.2.2.1 _).1, i1 _ _ (by omega) (by omega)]
  · rw [y2 a j (by omega) (by omega)]
    unfold tgH2
    rw [gl_ro (by omega) (by omega) (by omega), dA _ _ (by omega)]
  · have RR2 : Rf m (fun f => (756 ≤ f ∧ f ≤ 762) ∨ (720 ≤ f ∧ f ≤ 724) ∨ f = 745 ∨ f = 746) (fun a => ((m + 3) ≤ a ∧ a ≤ (m + 28))) H H3 := (R.R.mono (fun f z => by omega) (fun a z => by omega)).trans (R3.mono (fun f z => by omega) (fun a z => by omega))
    rw [ehr]
    refine RR2.cO (fun a na j => ?_)
    have := tk_o (h := H3) (m := m) (s := s) (d := nD v) (a := a) (j := j) (t := c + wt) (by omega) (by omega)
    unfold tkH at this
    rw [qA_oA] at this
    exact this
  · rw [ecT]; exact PG.ca CIm o4 hxm lx
  · have := P3
    rw [eLn] at this
    refine this.same (rTI _) (rTI _) (fun a j h1 h2 => ?_)
    rw [ehr, tk_o (by omega) (by omega)]
  · rw [((o4.2 (x + 8) (by omega)).2.2.1 259 (fun y => by have := PG_np y; omega)).1, hmI _ _ (by omega), m7, i1 _ _ (by omega) (by omega)]
  · obtain ⟨c', l1, l2', l3, l4⟩ := m8
    exact ⟨c', by rw [o5, n1, l1, s1], by rw [o6, n2, l2', s2], l3, l4⟩
  · have kin := pq (x + 4) (by omega) (Or.inr (Or.inr (Or.inr (Or.inl C.k_ints)))) (by omega) (by omega)
    rw [hmA _ _ (by omega), (kin.2.2.2 p2).1, a1 _ _ (by omega) (by omega)]
