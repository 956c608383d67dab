/-! a word without a memory, and traps: the state again -/
def LaK (hc H kc kr : Hp) (x m : Nat) : Prop := (∀ f, 320 ≤ f → f ≤ 323 → hI kc f (x + 11) = hI hc f (x + 11)) ∧ (∀ f, 716 ≤ f → f ≤ 718 → hI kr f m = hI H f m) ∧ (∀ t, t < 128 → hA kr (m + 9) t = hA H (m + 9) t ∨ hA kr (m + 9) t = -1) ∧ ∀ f, f = 726 ∨ f = 704 → hI kr f m = hI H f m
def GoR (o : Nat → Nat) (hc H kc kr : Hp) (x m lo ln sl nu bk ga sz c G U0 nC : Nat) : Prop := ∃ Ta, Sm o kc kr x m lo ln sl nu bk ga sz c (c + 1) (G + 160) U0 nC Ta ∧ RC m lo hc kc ∧ RR m H kr ∧ LaK hc H kc kr x m ∧ ((hI kr 715 m = hI H 715 m ∧ hI kr 727 m = hI H 727 m) ∨ (hI kr 715 m = 4 ∧ ¬ hI kr 727 m = 0))
theorem GB.mono {S : Cs} {G G2 : Nat} (B : GB S G) (h : G ≤ G2) : GB S G2 := fun g hg => by
  obtain ⟨τ, h1, h2⟩ := B g hg
  exact ⟨τ, by omega, h2⟩
theorem PnR.nes {H : Hp} {m sz c s : Nat} {r : Rq} (R : PnR H m sz (c + 1) r) (cl : c < 2 ^ 30) (rd : ¬ nI c < hA H (m + 11) s) : ¬ r.s = s := fun e => by
  obtain ⟨t, t1, t2, t3⟩ := R.tt
  have tm := R.tm
  rw [e, t3] at tm
  refine rd ?_
  have h1 := Int32.le_iff_toInt_le.mp tm
  rw [nI_toInt (by omega)] at h1
  refine Int32.lt_iff_toInt_lt.mpr ?_
  rw [nI_toInt (by omega)]
  omega
theorem GO.sub {o : Nat → Nat} {hc H : Hp} {x m lo ln u s b w rg pl ro pr ti L bl wd : Nat} {v : Int64} (E : GO o hc H x m lo ln u s b w rg pl ro pr ti L bl wd v) {i : Nat} (hi : i < 32) (z : dD (rTake H m v) m s i = true) : bt (hI hc 518 w) i = true := by
  have tA : ∀ c j, hA (rTake H m v) c j = hA H c j := fun c j => by unfold rTake; simp only [qA_sI]
  unfold dD at z
  rw [E.eg i hi]
  have := (Bool.and_eq_true_iff.mp z).1
  unfold gpB at this ⊢
  rw [tA] at this
  exact this
theorem LM.pz {hc hm : Hp} {x u w rg pl ro pr ti bl lo : Nat} {o dm g t : Int32} (X : LM hc hm x u w rg pl ro pr ti bl o dm g t) (hu : u < 8) (wl : lo ≤ w ∧ hK hc w = 9) (w1 : lo ≤ rg ∧ hK hc rg = 100) (w2 : lo ≤ pl ∧ hK hc pl = 100) (w3 : lo ≤ ro ∧ hK hc ro = 100) (w4 : lo ≤ pr ∧ hK hc pr = 100) (w5 : lo ≤ ti ∧ hK hc ti = 100) (w6 : lo ≤ bl ∧ hK hc bl = 8) : Fr (PZ x lo hc) hc hm := by
  obtain ⟨s1, s2, s3, s4, s5, s6, s7⟩ := X.same
  refine ⟨by rw [s1]; exact Nat.le_refl _, fun a ha => ⟨by rw [s3], by rw [s4], fun f nP => ⟨?_, by rw [s5]⟩, fun nP j => ⟨?_, by rw [s6], by rw [s7]⟩⟩⟩
  · have nP' := nP
    unfold PZ at nP'
    by_cases q1 : a = x + 11
    · exact absurd (Or.inr (Or.inr (Or.inr (Or.inl q1)))) nP
    by_cases q2 : a = x + 15 + 3 * u
    · rw [q2]; exact X.u3 f (by omega) (by omega)
    by_cases q3 : a = w
    · rw [q3] at nP' ⊢; exact X.wo f (by omega) (by omega)
    by_cases q4 : a = bl
    · rw [q4] at nP' ⊢; exact X.bo f (by omega) (by omega)
    exact X.oi f a q3 q4 q1 q2
  · have k : ∀ c, lo ≤ c ∧ hK hc c = 100 → ¬ a = c := fun c h1 y => nP (Or.inr (Or.inr (Or.inl ⟨by rw [y]; exact h1.1, by rw [y]; exact h1.2, rfl⟩)))
    exact X.oa a j (k pl w2) (k rg w1) (k pr w4) (k ro w3) (k ti w5)
theorem lcN_en0 {g : Nat → Nat → Int32} {m s d n : Nat} {G D : Nat → Bool} {PF : Nat → Int32} {RF QF : Nat → Option Int32} {w : Option Int32} {j : Nat} : lcN g m s d n G D PF RF QF none w (m + 16) j = g (m + 16) j := by
  unfold lcN
  rw [fo_o (by omega)]
  have : ∀ g2 : Nat → Nat → Int32, fo g2 (m + 16) (32 * s) 1 n D (fun _ => none) (m + 16) j = g2 (m + 16) j := fun g2 => by
    unfold fo fx
    refine if_neg (fun y => ?_)
    have := y.2.2.2.2
    simp at this
  rw [this, fo_o (by omega), fo_o (by omega), fx_o (by omega)]
theorem rt_m11 {h2 : Hp} {m s a b d ln j : Nat} {c : Int32} (km : ¬ kMem (hI h2 756 m)) : hA (rtH h2 m s a b d ln c) (m + 11) j = hA h2 (m + 11) j := by
  unfold rtH tkH
  rw [qA_oA]
  unfold tkG
  rw [if_neg (fun y => by have := y.1; omega), if_neg (fun y => km (by have := y.2.1; unfold lcH at this; rw [qI_oA] at this; exact this))]
  unfold lcH
  rw [qA_oA, lcN_o (by omega)]
theorem op01 {v : Int64} (h : ¬ 2 ≤ wOp v) : wOp v = 0 ∨ wOp v = 1 := by
  have l := nO_lt v
  rw [nO_is] at h ⊢
  have : nO v < 2 := by
    by_cases z : 2 ≤ nO v
    · exact absurd (nI_le z (by omega)) h
    · omega
  have : nO v = 0 ∨ nO v = 1 := by omega
  rcases this with z | z <;> rw [z]
  · exact Or.inl rfl
  · exact Or.inr rfl
theorem go_loc_st {o : Nat → Nat} {hc H : Hp} {x m lo ln sl nu bk ga sz c G U0 nC Ta u s b w rg pl ro pr ti L bl wd F i0 p : Nat} {v : Int64} (hF : 40000 ≤ F) (S : Sm o hc H x m lo ln sl nu bk ga sz c (c + 1) G U0 nC Ta) (cl : c < 2 ^ 30) (E : GO o hc H x m lo ln u s b w rg pl ro pr ti L bl wd v) (z1 : hQ hc (x + 16 + 3 * (s / 16)) (s % 16) = some w) (e : ∃ e, e ≤ 5 ∧ L = 2 ^ e) (blo : lo ≤ bl) (hi : i0 < 32) (q : ¬ hA H (m + 26) i0 = 0) (l : ∀ j, j < i0 → hA H (m + 26) j = 0) (ep : hA H (m + 15) (32 * s + i0) = nI p) (lp : p < 128) (ev : hL H (m + 1) p = v) (kk : kKnown (wOp v) (wN v)) (km : ¬ kMem (wOp v)) (okz : wOp v = 7 ∨ wOp v = 8 → ∀ i, i < ln → dD (rTake H m v) m s i = true → ¬ aX H m s (nB v) i = 0) (rdm : wOp v = 0 ∨ wOp v = 1 → ¬ nI c < hA H (m + 11) s) : ∃ kc kr, f_WM_go F x (some (x + 15 + 3 * u)) (some w) (nI c) hc = some kc ∧ f_Mod_go F m (nI u) (nI s) H = some kr ∧ GoR o hc H kc kr x m lo ln sl nu bk ga sz c G U0 nC := by
  have X := S.X
  have T := S.T
  have hx := X.hx
  have lx := X.lx
  have hu := E.hu
  have hs := E.hs
  have W := E.W
  have B := E.B
  have C := E.C
  obtain ⟨kc, kr, hm, h2, dm, g1, g2, X2, e324, LMh, A, ⟨tT, tU⟩, R, ed2, kk2, x1, x2⟩ := go_loc (c := nI c) hF X E z1 e hi q l ep lp ev kk km okz S.cy T.en
  have sub : ∀ i, i < 32 → bt dm i = true → bt (hI hc 518 w) i = true := fun i hi z => E.sub hi (by rw [← ed2 i hi]; exact z)
  have FZ := LMh.pz (lo := lo) hu ⟨W.bw.1, W.k⟩ ⟨W.b_rg.1, W.k_rg⟩ ⟨W.b_pl.1, W.k_pl⟩ ⟨W.b_ro.1, W.k_ro⟩ ⟨W.b_pr.1, W.k_pr⟩ ⟨W.b_ti.1, W.k_ti⟩ ⟨blo, E.kb⟩
  have FK : Fr (PZ x lo hc) hc kc := PZ.pg FZ A
  have s1 := LMh.same.1
  have kI : ∀ f, ¬ f = 725 → hI kr f m = hI h2 f m := fun f nf => by
    rcases kk2 with ⟨_, z⟩ | ⟨_, z⟩
    · rw [z, rt_I]
    · rw [z, se_I nf, rt_I]
  have kA : ∀ a j, ¬ a = m + 9 → ¬ ((m + 11) ≤ a ∧ a ≤ (m + 17)) → hA kr a j = hA h2 a j := fun a j n1 n2 => by
    rcases kk2 with ⟨_, z⟩ | ⟨_, z⟩
    · rw [z, rt_o n2]
    · rw [z, se_A, stG_o (by omega) n1, rt_o n2]
  have k9 : ∀ t, t < 128 → hA kr (m + 9) t = hA H (m + 9) t ∨ hA kr (m + 9) t = -1 := fun t ht => by
    rcases kk2 with ⟨_, z⟩ | ⟨_, z⟩
    · rw [z, rt_o (by omega), R.R.a (by omega)]; exact Or.inl rfl
    · rw [z, se_A, stG_s ht]
      by_cases y : allE (rtH h2 m s (nA v) (nB v) (nD v) ln (nI c + kWait (wOp v))) m ln (nI b) = true ∧ hA (rtH h2 m s (nA v) (nB v) (nD v) ln (nI c + kWait (wOp v))) (m + 9) t = nI b
      · rw [if_pos y]; exact Or.inr rfl
      · rw [if_neg y, rt_o (by omega), R.R.a (by omega)]; exact Or.inl rfl
  have RT : Rf m (fun f => (756 ≤ f ∧ f ≤ 762) ∨ (720 ≤ f ∧ f ≤ 725)) (fun a => ((m + 3) ≤ a ∧ a ≤ (m + 18)) ∨ ((m + 25) ≤ a ∧ a ≤ (m + 28))) H kr := by
    have R1 : Rf m (fun f => (756 ≤ f ∧ f ≤ 762) ∨ (720 ≤ f ∧ f ≤ 725)) (fun a => ((m + 3) ≤ a ∧ a ≤ (m + 18)) ∨ ((m + 25) ≤ a ∧ a ≤ (m + 28))) H h2 := R.R.mono (fun f z => by omega) (fun a z => by omega)
    have R2 : Rf m (fun f => (756 ≤ f ∧ f ≤ 762) ∨ (720 ≤ f ∧ f ≤ 725)) (fun a => ((m + 3) ≤ a ∧ a ≤ (m + 18)) ∨ ((m + 25) ≤ a ∧ a ≤ (m + 28))) H (rtH h2 m s (nA v) (nB v) (nD v) ln (nI c + kWait (wOp v))) := by
      have R3 : Rf m (fun f => (756 ≤ f ∧ f ≤ 762) ∨ (720 ≤ f ∧ f ≤ 725)) (fun a => ((m + 3) ≤ a ∧ a ≤ (m + 18)) ∨ ((m + 25) ≤ a ∧ a ≤ (m + 28))) H (lcH h2 m s (nA v) (nB v) (nD v) ln ln) := by
        unfold lcH
        exact R1.cO (fun a na j => lcN_o (by omega))
      unfold rtH
      refine R3.cO (fun a na j => ?_)
      have := tk_o (h := lcH h2 m s (nA v) (nB v) (nD v) ln ln) (m := m) (s := s) (d := nD v) (a := a) (j := j) (t := nI c + kWait (wOp v)) (by omega) (by omega)
      unfold tkH at this
      rw [qA_oA] at this
      exact this
    rcases kk2 with ⟨_, z⟩ | ⟨_, z⟩
    · rw [z]; exact R2
    · rw [z]
      unfold seH
      exact (R2.cO (fun a na j => stG_o (by omega) (by omega))).cI (by omega)
  have tC : TmC hc hm x u dm (hI hc 518 w) (if wOp v = 7 ∨ wOp v = 8 then nI c + kWait (wOp v) else hI hc 390 (x + 15 + 3 * u)) (hI hc 391 (x + 15 + 3 * u)) := by
    have wl := W.bw
    refine ⟨LMh.t1, LMh.t2, LMh.t3, LMh.t4, LMh.u1, LMh.u2, LMh.u3 _ (by omega) (by omega), LMh.u3 _ (by omega) (by omega), fun f u2 h8 ne => LMh.oi _ _ (by omega) (by omega) (by omega) (by omega), fun f => LMh.oi _ _ (by omega) (by omega) (by omega) (by omega)⟩
  have tR : TmR H kr m u (cn (dD (rTake H m v) m s) 32) (if nI (cn (gpB H m) 32) ≤ nI (cn (dD (rTake H m v) m s) 32) then 0 else 1) (if wOp v = 7 ∨ wOp v = 8 then nI c + kWait (wOp v) else hI hc 390 (x + 15 + 3 * u)) (hI hc 391 (x + 15 + 3 * u)) := by
    obtain ⟨u1, u2, u3, u4⟩ := T.un u hu
    refine ⟨by rw [kI _ (by omega)]; exact R.we, by rw [kI _ (by omega)]; exact R.di, by rw [kI _ (by omega)]; exact R.pa, fun f hf => by rw [kI _ (by omega), R.R.i (by omega)], fun t ht => by rw [kA _ _ (by omega) (by omega)]; exact R.uw t, fun t ht => ?_, fun t ht => ?_, fun t => ?_⟩
    · rw [kA _ _ (by omega) (by omega), x2 _ _ (by omega) (by omega)]
      by_cases y : wOp v = 7 ∨ wOp v = 8
      · rw [if_pos y]
        by_cases z : t = u
        · rw [if_pos z, if_pos ⟨rfl, z, y⟩]
        · rw [if_neg z, if_neg (fun k => z k.2.1)]
      · rw [if_neg y, if_neg (fun k => y k.2.2), u3]
        by_cases z : t = u
        · rw [if_pos z, z]
        · rw [if_neg z]
    · rw [kA _ _ (by omega) (by omega), x2 _ _ (by omega) (by omega), if_neg (fun k => by have := k.1; omega), u4]
      by_cases z : t = u
      · rw [if_pos z, z]
      · rw [if_neg z]
    · rw [kA _ _ (by omega) (by omega), x2 _ _ (by omega) (by omega), if_neg (fun k => by have := k.1; omega)]
  have T2 : Ty kc kr x m := T.go (lo := lo) tC A (by rw [s1]; exact hx) lx tR (cn_congr 32 fun i hi => ed2 i hi) (pt_eq E.eg ed2 sub) e324
  have ec : cs0 kr m = cs0 H m := by
    unfold cs0
    rw [kI _ (by omega), kI _ (by omega), x1 _ (by omega) (by omega), x1 _ (by omega) (by omega), show hA kr (m + 3) = hA H (m + 3) from funext fun j => by rw [kA _ _ (by omega) (by omega), x2 _ _ (by omega) (by omega), if_neg (fun k => by have := k.1; omega)], show hA kr (m + 4) = hA H (m + 4) from funext fun j => by rw [kA _ _ (by omega) (by omega), x2 _ _ (by omega) (by omega), if_neg (fun k => by have := k.1; omega)]]
  have r5 : ∀ r, PnR H m sz (c + 1) r → PnR kr m sz (c + 1) r := fun r Q => by
    have rs : r.s < 128 := Q.o2.1.1
    have ri : r.i < 32 := Q.o2.1.2.1
    rcases kk2 with ⟨c2, z⟩ | ⟨c2, z⟩
    · rw [z]
      have n0 : ¬ wOp v = 0 := fun y => by rw [y] at c2; exact absurd c2 (by decide)
      refine Q.same (by rw [rt_I, R.R.i (by omega)]) (by rw [rt_I, R.R.i (by omega)]) (by rw [rt_o (by omega), R.R.a (by omega)]) (by rw [rt_o (by omega), R.R.a (by omega)]) (by rw [rt_m11 (by rw [R.f1]; exact km), R.R.a (by omega)]) ?_
      rw [rt_A (by omega) (by omega), show lE (hI h2 756 m) = none from by rw [R.f1]; exact if_neg n0, lcN_en0, R.R.a (by omega)]
    · have ne : ¬ r.s = s := Q.nes cl (rdm (op01 c2))
      have far : Rs m r.s H (rtH h2 m s (nA v) (nB v) (nD v) ln (nI c + kWait (wOp v))) := (R.R.rs).trans (rt_far E.l32 (nD_lt v) ne)
      have Q1 : PnR (rtH h2 m s (nA v) (nB v) (nD v) ln (nI c + kWait (wOp v))) m sz (c + 1) r := Q.same far.1.1 far.1.2 far.2.1.1 far.2.1.2.1 far.2.1.2.2 (far.2.2.2.1 r.i ri).2.2.1
      rw [z]
      refine Q1.same (se_I (by omega)) (se_I (by omega)) ?_ (by rw [se_A, stG_o (by omega) (by omega)]) (by rw [se_A, stG_o (by omega) (by omega)]) (by rw [se_A, stG_o (by omega) (by omega)])
      rw [se_A, stG_s rs]
      refine if_neg (fun y => ?_)
      have hl2 : hI (rtH h2 m s (nA v) (nB v) (nD v) ln (nI c + kWait (wOp v))) 705 m = nI ln := by rw [far.1.1]; exact E.hl
      have c0 := cn_eq0.mp ((allE_iff hl2 E.l32).mp y.1) (32 * r.s + r.i) (by omega)
      unfold avB at c0
      rw [show (32 * r.s + r.i) / 32 = r.s by omega, show (32 * r.s + r.i) % 32 = r.i by omega, decide_eq_true y.2, decide_eq_true Q1.rl, decide_eq_true Q1.ne] at c0
      cases c0
  have P2 : Pn kc kr x m lo sz (c + 1) Ta := S.P.step (fun tg Z2 RZ => PZ.rws RZ C FK hx lx) (fun tg sp SZ => PZ.spr SZ C FK hx lx) (fun L2 PL => PL.same (by rw [kI _ (by omega), R.R.i (by omega)]) (by rw [kI _ (by omega), R.R.i (by omega)]) (fun a j h1 h2 => by rw [kA _ _ (by omega) (by omega), R.R.a (by omega)])) (((FK.2 (x + 8) (by omega)).2.2.1 259 (fun y => by unfold PZ at y; omega)).1) r5
  have fin : Sm o kc kr x m lo ln sl nu bk ga sz c (c + 1) (G + 160) U0 nC Ta := by
    refine S.next (d := 0) X2 T2 FK RT (fun y => ?_) (fun y => ?_) (fun y => ?_) (fun u2 h8 y => ?_) (fun a h1 h2 h3 y => ?_) (fun f hf => by omega) (by omega) (fun u2 h8 => ?_) (by rw [ec]; exact PZ.ca S.ca FK hx lx) (by rw [ec]; exact S.gb.mono (by omega)) P2 tT (by omega) rfl S.lg.2.2
    · unfold PZ at y; omega
    · unfold PZ at y; omega
    · unfold PZ at y; omega
    · unfold PZ at y; omega
    · unfold PZ at y; omega
    · rw [tR.2.2.2.2.2.2.2 u2]; exact S.lt u2 h8
  have nI1 : ∀ f, 320 ≤ f → f ≤ 323 → hI kc f (x + 11) = hI hc f (x + 11) := fun f h1 h2 => by
    rw [((A.2 (x + 11) (by rw [s1]; omega)).2.2.1 f (fun y => by have := PG_np y; omega)).1, LMh.t4 f (by omega) (by omega) (by omega)]
  exact ⟨kc, kr, g1, g2, Ta, fin, RC.of (PY.z FK) S.lh (fun f a h1 h2 => PY_no S.nK S.xm S.lh h1 h2), RR.of RT (fun a ha => by omega), ⟨nI1, fun f h1 h2 => by rw [kI _ (by omega), R.R.i (by omega)], k9, fun f hf => by rw [kI _ (by omega), R.R.i (by omega)]⟩, Or.inl ⟨by rw [kI _ (by omega), R.R.i (by omega)], by rw [kI _ (by omega), R.R.i (by omega)]⟩⟩
