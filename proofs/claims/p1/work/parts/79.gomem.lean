/-! words of the memories: the state again -/
theorem go_sh_st {o : Nat → Nat} {hc H : Hp} {x m lo ln sl nu bk ga sz c G U0 nC Ta u s b w rg pl ro pr ti L bl wd F i0 p : Nat} {v : Int64} {dm : Int32} (hF : 40000 ≤ F) (S : Sm o hc H x m lo ln sl nu bk ga sz c (c + 1) G U0 nC Ta) (cl : c < 2 ^ 30) (E : GO o hc H x m lo ln u s b w rg pl ro pr ti L bl wd v) (z1 : hQ hc (x + 16 + 3 * (s / 16)) (s % 16) = some w) (e : ∃ e, e ≤ 5 ∧ L = 2 ^ e) (hi : i0 < 32) (q : ¬ hA H (m + 26) i0 = 0) (l : ∀ j, j < i0 → hA H (m + 26) j = 0) (ep : hA H (m + 15) (32 * s + i0) = nI p) (lp : p < 128) (ev : hL H (m + 1) p = v) (kk : kKnown (wOp v) (wN v)) (ks : kSh (wOp v)) (ed1 : f_Warp_doing F w hc = some (dm, hc)) (ed2 : ∀ i, i < 32 → bt dm i = dD (rTake H m v) m s i) (ok : ∀ i, i < ln → bt dm i = true → ¬ badM hc H m rg v i) (rdm : ¬ nI c < hA H (m + 11) s) : ∃ kc kr, f_WM_go F x (some (x + 15 + 3 * u)) (some w) (nI c) hc = some kc ∧ f_Mod_go F m (nI u) (nI s) H = some kr ∧ GoR o hc H kc kr x m lo ln sl nu bk ga sz c G U0 nC := by
  have X := S.X
  have T := S.T
  have hx := X.hx
  have lx := X.lx
  have hu := E.hu
  have hs := E.hs
  have W := E.W
  have B := E.B
  have C := E.C
  have wl := W.bw
  have wb1 := W.b_rg
  have wb2 := W.b_pl
  have wb3 := W.b_ro
  have wb5 := W.b_ti
  have sub : ∀ i, i < 32 → bt dm i = true → bt (hI hc 518 w) i = true := fun i hi z => E.sub hi (by rw [← ed2 i hi]; exact z)
  obtain ⟨kc, hm, h2, kr, bi, t391, g1, g2, X2, e324, A, ⟨tT, tU⟩, AF, ⟨j1, j2, j5, j6⟩, M, R, kI, kA, x1, x2, far, RT, last⟩ := go_sh (c := nI c) hF X E z1 e hi q l ep lp ev kk ks ed1 ed2 sub (T.sz 5 (by omega)) ok S.cy T.en (by have := T.sz 3 (by omega); rw [this]; exact S.Z.bk) S.Z.bk S.Z.bp
  have FZ : Fr (PZ x lo hc) hc hm := by
    refine ⟨AF.1, fun a ha => ?_⟩
    obtain ⟨b1, b2, b3, b4⟩ := AF.2 a ha
    have key : ∀ f, ¬ PZ x lo hc f a → ¬ (hK hc a = 11 ∨ (x + 3 ≤ a ∧ a ≤ x + 10)) → ¬ PX x u w rg pl ro ti bi hc f a := fun f nP nq y => by
      rcases y.e with ⟨y, y2⟩ | ⟨y2, y | y | y | y | y⟩ | y | y | y | y | y | y
      · exact nP (Or.inl ⟨by rw [y]; exact wl.1, by rw [y]; exact W.k, by omega⟩)
      · exact nP (Or.inr (Or.inr (Or.inl ⟨by rw [y]; exact wb1.1, by rw [y]; exact W.k_rg, y2⟩)))
      · exact nP (Or.inr (Or.inr (Or.inl ⟨by rw [y]; exact wb2.1, by rw [y]; exact W.k_pl, y2⟩)))
      · exact nP (Or.inr (Or.inr (Or.inl ⟨by rw [y]; exact wb3.1, by rw [y]; exact W.k_ro, y2⟩)))
      · exact nP (Or.inr (Or.inr (Or.inl ⟨by rw [y]; exact wb5.1, by rw [y]; exact W.k_ti, y2⟩)))
      · exact nP (Or.inr (Or.inr (Or.inl ⟨by rw [y]; exact j5, by rw [y]; exact j2, y2⟩)))
      · exact nP (Or.inr (Or.inr (Or.inr (Or.inl y))))
      · exact nP (Or.inr (Or.inr (Or.inr (Or.inr (by omega)))))
      · exact nP (Or.inr (Or.inr (Or.inr (Or.inr (by omega)))))
      · omega
      · exact nq (Or.inl y)
      · exact nq (Or.inr (by omega))
    by_cases qa : hK hc a = 11 ∨ (x + 3 ≤ a ∧ a ≤ x + 10)
    · obtain ⟨l1, l2⟩ := last a ha qa
      exact ⟨b1, b2, fun f _ => l1 f, fun _ j => l2 j⟩
    · exact ⟨b1, b2, fun f nP => b3 f (key f nP qa), fun nP => b4 (key _ nP qa)⟩
  have FK : Fr (PZ x lo hc) hc kc := PZ.pg FZ A
  have hxm : x + 38 < hT hm := by have := AF.1; omega
  have tC := M.tm (lo := lo) AF C hx lx hu wl.1 wb1.1 wb2.1 wb3.1 wb5.1 j5
  have tR : TmR H kr m u (cn (dD (rTake H m v) m s) 32) (if nI (cn (gpB H m) 32) ≤ nI (cn (dD (rTake H m v) m s) 32) then 0 else 1) (hI hc 390 (x + 15 + 3 * u)) t391 := by
    obtain ⟨u1, u2, u3, u4⟩ := T.un u hu
    refine ⟨by rw [kI]; exact R.we, by rw [kI]; exact R.di, by rw [kI]; exact R.pa, fun f hf => by rw [kI, R.R.i (by omega)], fun t ht => by rw [kA _ _ (by omega)]; exact R.uw t, fun t ht => ?_, fun t ht => ?_, fun t => ?_⟩
    · rw [kA _ _ (by omega), x2 _ _ (by omega) (by omega), if_neg (fun k => by have := k.1; omega), u3]
      by_cases z : t = u
      · rw [if_pos z, z]
      · rw [if_neg z]
    · rw [kA _ _ (by omega), x2 _ _ (by omega) (by omega)]
      by_cases z : t = u
      · rw [if_pos z, if_pos ⟨rfl, z⟩]
      · rw [if_neg z, if_neg (fun k => z k.2)]
    · rw [kA _ _ (by omega), x2 _ _ (by omega) (by omega), if_neg (fun k => by have := k.1; omega)]
  have T2 : Ty kc kr x m := T.go (lo := lo) tC A hxm lx tR (cn_congr 32 fun i hi => ed2 i hi) (pt_eq E.eg ed2 sub) e324
  have ec : cs0 kr m = cs0 H m := by
    unfold cs0
    rw [kI, kI, x1 _ (by omega) (by omega), x1 _ (by omega) (by omega), show hA kr (m + 3) = hA H (m + 3) from funext fun j => by rw [kA _ _ (by omega), x2 _ _ (by omega) (by omega), if_neg (fun k => by have := k.1; omega)], show hA kr (m + 4) = hA H (m + 4) from funext fun j => by rw [kA _ _ (by omega), x2 _ _ (by omega) (by omega), if_neg (fun k => by have := k.1; omega)]]
  have r5 : ∀ r, PnR H m sz (c + 1) r → PnR kr m sz (c + 1) r := fun r Q => by
    have rs : r.s < 128 := Q.o2.1.1
    have ri : r.i < 32 := Q.o2.1.2.1
    have f := far r.s rs (Q.nes cl rdm)
    exact Q.same f.1.1 f.1.2 f.2.1.1 f.2.1.2.1 f.2.1.2.2 (f.2.2.2.1 r.i ri).2.2.1
  have P2 : Pn kc kr x m lo sz (c + 1) Ta := S.P.step (fun tg Z2 RZ => PZ.rws RZ C FK hx lx) (fun tg sp SZ => PZ.spr SZ C FK hx lx) (fun L2 PL => PL.same (by rw [kI, R.R.i (by omega)]) (by rw [kI, R.R.i (by omega)]) (fun a j h1 h2 => by rw [kA _ _ (by omega), R.R.a (by omega)])) (((FK.2 (x + 8) (by omega)).2.2.1 259 (fun y => by unfold PZ at y; omega)).1) r5
  have fin : Sm o kc kr x m lo ln sl nu bk ga sz c (c + 1) (G + 160) U0 nC Ta := by
    refine S.next (d := 0) X2 T2 FK RT (fun y => ?_) (fun y => ?_) (fun y => ?_) (fun u2 h8 y => ?_) (fun a h1 h2 h3 y => ?_) (fun f hf => by omega) (by omega) (fun u2 h8 => ?_) (by rw [ec]; exact PZ.ca S.ca FK hx lx) (by rw [ec]; exact S.gb.mono (by omega)) P2 tT (by omega) rfl S.lg.2.2
    · unfold PZ at y; omega
    · unfold PZ at y; omega
    · unfold PZ at y; omega
    · unfold PZ at y; omega
    · unfold PZ at y; omega
    · rw [tR.2.2.2.2.2.2.2 u2]; exact S.lt u2 h8
  have nI1 : ∀ f, 320 ≤ f → f ≤ 323 → hI kc f (x + 11) = hI hc f (x + 11) := fun f h1 h2 => by
    rw [((A.2 (x + 11) (by omega)).2.2.1 f (fun y => by have := PG_np y; omega)).1, tC.2.2.2.1 f (by omega) (by omega) (by omega)]
  exact ⟨kc, kr, g1, g2, Ta, fin, RC.of (PY.z FK) S.lh (fun f a h1 h2 => PY_no S.nK S.xm S.lh h1 h2), RR.of RT (fun a ha => by omega), ⟨nI1, fun f h1 h2 => by rw [kI, R.R.i (by omega)], fun t ht => Or.inl (by rw [kA _ _ (by omega), R.R.a (by omega)]), fun f hf => by rw [kI, R.R.i (by omega)]⟩, Or.inl ⟨by rw [kI, R.R.i (by omega)], by rw [kI, R.R.i (by omega)]⟩⟩
theorem lnR_mem {D : Nat → Bool} {R : Nat → Rq} {r : Rq} : ∀ n, r ∈ lnR D R n → ∃ i, i < n ∧ D i = true ∧ r = R i := by
  intro n
  induction n with
  | zero => intro h; cases h
  | succ n ih =>
    intro h
    rw [lnR_s] at h
    by_cases z : D n = true
    · rw [if_pos z] at h
      rcases List.mem_append.mp h with h | h
      · obtain ⟨i, h1, h2, h3⟩ := ih h
        exact ⟨i, by omega, h2, h3⟩
      · exact ⟨n, by omega, z, List.mem_singleton.mp h⟩
    · rw [if_neg z] at h
      obtain ⟨i, h1, h2, h3⟩ := ih h
      exact ⟨i, by omega, h2, h3⟩
theorem lnR_nd {D : Nat → Bool} {R : Nat → Rq} {s : Nat} (h : ∀ i, th (R i) = 32 * s + i) : ∀ n, ((lnR D R n).map th).Nodup := by
  intro n
  induction n with
  | zero => exact List.nodup_nil
  | succ n ih =>
    rw [lnR_s]
    by_cases z : D n = true
    · rw [if_pos z, List.map_append]
      refine List.nodup_append.mpr ⟨ih, by simp, fun a ha b hb => ?_⟩
      obtain ⟨r, h1, h2⟩ := List.mem_map.mp ha
      obtain ⟨i, h3, _, h5⟩ := lnR_mem n h1
      have hb2 : b = th (R n) := by simpa using hb
      rw [← h2, hb2, h5, h, h]
      omega
    · rw [if_neg z]; exact ih
theorem go_gl_st {o : Nat → Nat} {hc H : Hp} {x m lo ln sl nu bk ga sz c G U0 nC Ta u s b w rg pl ro pr ti L bl wd F i0 p : Nat} {v : Int64} {dm : Int32} (hF : 40000 ≤ F) (S : Sm o hc H x m lo ln sl nu bk ga sz c (c + 1) G U0 nC Ta) (cl : c ≤ G) (gl : G < 2 ^ 29) (E : GO o hc H x m lo ln u s b w rg pl ro pr ti L bl wd v) (wdT : wd < hT hc) (z1 : hQ hc (x + 16 + 3 * (s / 16)) (s % 16) = some w) (e : ∃ e, e ≤ 5 ∧ L = 2 ^ e) (hi : i0 < 32) (q : ¬ hA H (m + 26) i0 = 0) (l : ∀ j, j < i0 → hA H (m + 26) j = 0) (ep : hA H (m + 15) (32 * s + i0) = nI p) (lp : p < 128) (ev : hL H (m + 1) p = v) (kk : kKnown (wOp v) (wN v)) (km : kMem (wOp v)) (ks : ¬ kSh (wOp v)) (ed1 : f_Warp_doing F w hc = some (dm, hc)) (ed2 : ∀ i, i < 32 → bt dm i = dD (rTake H m v) m s i) (ok : ∀ i, i < ln → bt dm i = true → ¬ badM hc H m rg v i) (rdm : ¬ nI c < hA H (m + 11) s) : ∃ kc kr, f_WM_go F x (some (x + 15 + 3 * u)) (some w) (nI c) hc = some kc ∧ f_Mod_go F m (nI u) (nI s) H = some kr ∧ GoR o hc H kc kr x m lo ln sl nu bk ga sz c G U0 nC := by
  have X := S.X
  have T := S.T
  have hx := X.hx
  have lx := X.lx
  have hu := E.hu
  have hs := E.hs
  have W := E.W
  have B := E.B
  have C := E.C
  have l32 := E.l32
  have wl := W.bw
  have wb1 := W.b_rg
  have wb2 := W.b_pl
  have wb3 := W.b_ro
  have wb5 := W.b_ti
  obtain ⟨l1, l2, l3⟩ := S.lg
  have sub : ∀ i, i < 32 → bt dm i = true → bt (hI hc 518 w) i = true := fun i hi z => E.sub hi (by rw [← ed2 i hi]; exact z)
  obtain ⟨LL, Z, sp, tg, p1, p2, p3, p4, p5, p6, p7, p8⟩ := S.P
  obtain ⟨kc, hm, h2, kr, bi, K, D, Ln, l2', tg2, sp2, g1, g2, X2, e324, A, AF, ⟨j1, j2, j5, j6⟩, M, R, kI, kA, x2, far, RT, CI2, ecs, RW2, SP2, Pd2, eLn, rows, n259, LDG, Dd, Kz, memT, en16, mem4⟩ := go_gl (c := nI c) hF X E S.lh wdT z1 e hi q l ep lp ev kk km ks ed1 ed2 sub (T.sz 5 (by omega)) S.Z.sz S.Z.i1.2 ok S.cy T.en (by have := T.sz 4 (by omega); rw [this]; exact S.Z.ga) S.Z.ga S.Z.g1.1 S.Z.g1.2 S.ca p2 p3 p1 (by omega)
  have hxm : x + 38 < hT hm := by have := AF.1; omega
  have FY : Fr (PY x lo hc) hc hm := AF.mono (fun f a ha y => by
    rcases y with ⟨y, y2⟩ | ⟨y2, y | y | y | y | y⟩ | y | y | y | y
    · exact Or.inl (Or.inl ⟨by rw [y]; exact wl.1, by rw [y]; exact W.k, by omega⟩)
    · exact Or.inl (Or.inr (Or.inr (Or.inl ⟨by rw [y]; exact wb1.1, by rw [y]; exact W.k_rg, y2⟩)))
    · exact Or.inl (Or.inr (Or.inr (Or.inl ⟨by rw [y]; exact wb2.1, by rw [y]; exact W.k_pl, y2⟩)))
    · exact Or.inl (Or.inr (Or.inr (Or.inl ⟨by rw [y]; exact wb3.1, by rw [y]; exact W.k_ro, y2⟩)))
    · exact Or.inl (Or.inr (Or.inr (Or.inl ⟨by rw [y]; exact wb5.1, by rw [y]; exact W.k_ti, y2⟩)))
    · exact Or.inl (Or.inr (Or.inr (Or.inl ⟨by rw [y]; exact j5, by rw [y]; exact j2, y2⟩)))
    · exact Or.inl (Or.inr (Or.inr (Or.inr (Or.inl y))))
    · exact Or.inl (Or.inr (Or.inr (Or.inr (Or.inr (by omega)))))
    · exact Or.inl (Or.inr (Or.inr (Or.inr (Or.inr (by omega)))))
    · exact Or.inr y)
  have FK : Fr (PY x lo hc) hc kc := FY.tr2 A (fun f a ha y => by
    have ek := (FY.2 a ha).1
    unfold PG PW at y
    rw [ek] at y
    refine Or.inl ?_
    unfold PZ
    omega)
  have kst : ∀ a, x ≤ a → a ≤ x + 38 → ¬ a = x + 14 → ¬ hK hc a = 11 := fun a h1 h2 h3 y => by have := C.st h1 h2 h3; omega
  have tC := M.tm (lo := lo) AF C hx lx hu wl.1 wb1.1 wb2.1 wb3.1 wb5.1 j5
  have tR : TmR H kr m u (cn (dD (rTake H m v) m s) 32) (if nI (cn (gpB H m) 32) ≤ nI (cn (dD (rTake H m v) m s) 32) then 0 else 1) (hI hc 390 (x + 15 + 3 * u)) (hI hc 391 (x + 15 + 3 * u)) := by
    obtain ⟨u1, u2, u3, u4⟩ := T.un u hu
    refine ⟨by rw [kI _ (by omega) (by omega)]; exact R.we, by rw [kI _ (by omega) (by omega)]; exact R.di, by rw [kI _ (by omega) (by omega)]; exact R.pa, fun f hf => by rw [kI _ (by omega) (by omega), R.R.i (by omega)], fun t ht => by rw [kA _ _ (by omega) (by omega)]; exact R.uw t, fun t ht => ?_, fun t ht => ?_, fun t => by rw [kA _ _ (by omega) (by omega), x2 _ _ (by omega) (by omega)]⟩
    · rw [kA _ _ (by omega) (by omega), x2 _ _ (by omega) (by omega), u3]
      by_cases z : t = u
      · rw [if_pos z, z]
      · rw [if_neg z]
    · rw [kA _ _ (by omega) (by omega), x2 _ _ (by omega) (by omega), u4]
      by_cases z : t = u
      · rw [if_pos z, z]
      · rw [if_neg z]
  have T2 : Ty kc kr x m := T.go (lo := lo) tC A hxm lx tR (cn_congr 32 fun i hi => ed2 i hi) (pt_eq E.eg ed2 sub) e324
  /- what is asked for -/
  obtain ⟨σ, t1, t2, t3, t4⟩ := ltF_is (D := D) (Lq := fun i => K i / 8) S.gb S.Z.g1.1 S.Z.g1.2 cl gl ln l32
  have cm : hA kr (m + 11) s = nI (σ + cn (fun j => decide (53 < wOp v) && agB D K j) ln) := by
    rw [memT, t3, pk_sub (by omega), nI_add, nI_add]
    congr 1
    omega
  have cnl := cn_le (fun j => decide (53 < wOp v) && agB D K j) ln
  have new : ∀ r, r ∈ Ln → PnR kr m sz (c + 1) r ∧ r.s = s := fun r hr => by
    rw [eLn] at hr
    obtain ⟨i, h1, h2, h3⟩ := lnR_mem ln hr
    have di : bt dm i = true := by rw [← Dd i h1]; exact h2
    have aw := E.awk i (by omega) (sub i (by omega) di)
    obtain ⟨τ, c1, c2, c3⟩ := t4 (K i / 8) ((exB_iff _ ln).mpr ⟨i, h1, by rw [h2, decide_eq_true rfl]; rfl⟩)
    have kz := Kz i h1 di
    have z4 := S.Z.i1.2
    subst h3
    refine ⟨⟨⟨⟨hs, (by show i < 32; omega), B.b64, nO_lt v, nD_lt v, (by show K i < 4096; omega)⟩, (by show kMem (nI (nO v)); rw [← nO_is]; exact km), (by show ¬ kSh (nI (nO v)); rw [← nO_is]; exact ks)⟩, kz, ?_, ?_, ?_, ⟨τ, by omega, by omega, c3⟩, ?_⟩, rfl⟩
    · show hA kr (m + 9) s = nI b
      rw [kA _ _ (by omega) (by omega), R.R.a (by omega)]
      exact B.sb
    · exact (rLn_same (by rw [kI _ (by omega) (by omega), R.R.i (by omega)]) (by rw [kI _ (by omega) (by omega), R.R.i (by omega)]) (by rw [kA _ _ (by omega) (by omega), R.R.a (by omega)])).mpr aw.2.1.1
    · show hA kr (m + 16) (32 * s + i) = 0
      rw [en16 i (by omega)]
      exact aw.2.1.2.1
    · show dnL ga (nI c) D (fun i => K i / 8) (cs0 H m) (K i / 8) ln ≤ hA kr (m + 11) s
      rw [c3, cm]
      exact nI_le (by omega) (by omega)
  have old : ∀ r, r ∈ LL → PnR kr m sz (c + 1) r ∧ ¬ r.s = s := fun r hr => by
    have Q := p7 r hr
    have rs : r.s < 128 := Q.o2.1.1
    have ri : r.i < 32 := Q.o2.1.2.1
    have ne := Q.nes (by omega) rdm
    have f := far r.s rs ne
    exact ⟨Q.same f.1.1 f.1.2 f.2.1.1 f.2.1.2.1 f.2.1.2.2 (f.2.2.2.1 r.i ri).2.2.1, ne⟩
  have nd : ((LL ++ Ln).map th).Nodup := by
    rw [List.map_append]
    refine List.nodup_append.mpr ⟨p6, by rw [eLn]; exact lnR_nd (s := s) (fun i => rfl) ln, fun a ha b hb => ?_⟩
    obtain ⟨r1, h1, h2⟩ := List.mem_map.mp ha
    obtain ⟨r2, h3, h4⟩ := List.mem_map.mp hb
    have o1 := old r1 h1
    have o2 := new r2 h3
    have i1 : r1.i < 32 := o1.1.o2.1.2.1
    have i2 : r2.i < 32 := o2.1.o2.1.2.1
    rw [← h2, ← h4]
    unfold th
    have a1 := o1.2
    have a2 := o2.2
    omega
  have all : ∀ r, r ∈ LL ++ Ln → PnR kr m sz (c + 1) r := fun r hr => by
    rcases List.mem_append.mp hr with h | h
    · exact (old r h).1
    · exact (new r h).1
  have len : (LL ++ Ln).length ≤ 4096 := by
    have := nodup_len 4096 _ nd (fun a ha => by
      obtain ⟨r, h1, h2⟩ := List.mem_map.mp ha
      have Q := (all r h1).o2.1
      have i1 : r.i < 32 := Q.2.1
      have s1 : r.s < 128 := Q.1
      rw [← h2]
      unfold th
      omega)
    rw [List.length_map] at this
    exact this
  have lLn : Ln.length = cn D ln := by rw [eLn, lnR_cn]
  obtain ⟨d, d1, d2, d3, d4⟩ := LDG
  have P2 : Pn kc kr x m lo sz (c + 1) (Ta + d) := by
    refine ⟨LL ++ Ln, _, sp2, tg2, Pd2, RW2, SP2, fun r hr => ?_, ?_, nd, all, ?_⟩
    · rw [List.map_append, List.filter_append]
      refine (p4 r hr).app (fun pp => ?_)
      rw [List.filter_filter]
      exact rows r pp hr
    · rw [n259, p5, List.length_append, lLn, nI_add]
    · rw [List.length_append, lLn]
      omega
  have t4' : Ta + d ≤ 4096 := by
    by_cases z : d = 0
    · omega
    · have := d4 z
      rw [List.length_append, lLn] at len
      omega
  have fin : Sm o kc kr x m lo ln sl nu bk ga sz c (c + 1) (G + 160) U0 nC (Ta + d) := by
    refine S.next (d := d) X2 T2 FK RT (fun y => ?_) (fun y => ?_) (fun y => ?_) (fun u2 h8 y => ?_) (fun a h1 h2 h3 y => ?_) (fun f hf => by omega) (by omega) (fun u2 h8 => ?_) CI2 (by rw [ecs]; exact (fS_gb S.gb S.Z.g1.1 S.Z.g1.2 cl gl ln l32).mono (by omega)) P2 d1 (by omega) rfl t4'
    · have := kst (x + 4) (by omega) (by omega) (by omega)
      unfold PY PZ PM PA at y; omega
    · have := kst (x + 3) (by omega) (by omega) (by omega)
      unfold PY PZ PM PA at y; omega
    · have := kst (x + 13) (by omega) (by omega) (by omega)
      unfold PY PZ PM PA at y; omega
    · have := kst (x + 16 + 3 * u2) (by omega) (by omega) (by omega)
      unfold PY PZ PM PA at y; omega
    · unfold PY PZ PM PA at y; omega
    · rw [tR.2.2.2.2.2.2.2 u2]; exact S.lt u2 h8
  have nI1 : ∀ f, 320 ≤ f → f ≤ 323 → hI kc f (x + 11) = hI hc f (x + 11) := fun f h1 h2 => by
    rw [((A.2 (x + 11) (by omega)).2.2.1 f (fun y => by have := PG_np y; omega)).1, tC.2.2.2.1 f (by omega) (by omega) (by omega)]
  exact ⟨kc, kr, g1, g2, Ta + d, fin, RC.of FK S.lh (fun f a h1 h2 => PY_no S.nK S.xm S.lh h1 h2), RR.of RT (fun a ha => by omega), ⟨nI1, fun f h1 h2 => by rw [kI _ (by omega) (by omega), R.R.i (by omega)], fun t ht => Or.inl (by rw [kA _ _ (by omega) (by omega), R.R.a (by omega)]), fun f hf => by rw [kI _ (by omega) (by omega), R.R.i (by omega)]⟩, Or.inl ⟨by rw [kI _ (by omega) (by omega), R.R.i (by omega)], by rw [kI _ (by omega) (by omega), R.R.i (by omega)]⟩⟩
