/-! a word without a memory goes -/
def Sx (o : Nat → Nat) (hc hr : Hp) (x m lo ln sl : Nat) : Prop := (Cd hc x) ∧ (Kn hc hr x m) ∧ (x + 38 < hT hc) ∧ (x + 38 < lo) ∧ (∀ u, u < 8 → hI hc 386 (x + 15 + 3 * u) = nI sl) ∧ (sl ≤ 16) ∧ (hI hr 705 m = nI ln) ∧ (ln ≤ 32) ∧ (∀ t, t < 128 → SlotOk o hc hr x m lo ln t) ∧ (∀ c, c < 64 → BlockOk o hc hr x m lo c) ∧ (∀ t, t < 128 → ¬ hA hr (m + 9) t = -1 → t % 16 < sl) ∧ (∀ u, u < 8 → hI hc 387 (x + 15 + 3 * u) = nI (cn (fun k => decide (hA hr (m + 9) (16 * u + k) = -1)) sl))
theorem Sx.C {o : Nat → Nat} {hc hr : Hp} {x m lo ln sl : Nat} (X : Sx o hc hr x m lo ln sl) : Cd hc x := X.1
theorem Sx.K {o : Nat → Nat} {hc hr : Hp} {x m lo ln sl : Nat} (X : Sx o hc hr x m lo ln sl) : Kn hc hr x m := X.2.1
theorem Sx.hx {o : Nat → Nat} {hc hr : Hp} {x m lo ln sl : Nat} (X : Sx o hc hr x m lo ln sl) : x + 38 < hT hc := X.2.2.1
theorem Sx.lx {o : Nat → Nat} {hc hr : Hp} {x m lo ln sl : Nat} (X : Sx o hc hr x m lo ln sl) : x + 38 < lo := X.2.2.2.1
theorem Sx.us {o : Nat → Nat} {hc hr : Hp} {x m lo ln sl : Nat} (X : Sx o hc hr x m lo ln sl) : ∀ u, u < 8 → hI hc 386 (x + 15 + 3 * u) = nI sl := X.2.2.2.2.1
theorem Sx.s16 {o : Nat → Nat} {hc hr : Hp} {x m lo ln sl : Nat} (X : Sx o hc hr x m lo ln sl) : sl ≤ 16 := X.2.2.2.2.2.1
theorem Sx.hl {o : Nat → Nat} {hc hr : Hp} {x m lo ln sl : Nat} (X : Sx o hc hr x m lo ln sl) : hI hr 705 m = nI ln := X.2.2.2.2.2.2.1
theorem Sx.l32 {o : Nat → Nat} {hc hr : Hp} {x m lo ln sl : Nat} (X : Sx o hc hr x m lo ln sl) : ln ≤ 32 := X.2.2.2.2.2.2.2.1
theorem Sx.S {o : Nat → Nat} {hc hr : Hp} {x m lo ln sl : Nat} (X : Sx o hc hr x m lo ln sl) : ∀ t, t < 128 → SlotOk o hc hr x m lo ln t := X.2.2.2.2.2.2.2.2.1
theorem Sx.B {o : Nat → Nat} {hc hr : Hp} {x m lo ln sl : Nat} (X : Sx o hc hr x m lo ln sl) : ∀ c, c < 64 → BlockOk o hc hr x m lo c := X.2.2.2.2.2.2.2.2.2.1
theorem Sx.nf {o : Nat → Nat} {hc hr : Hp} {x m lo ln sl : Nat} (X : Sx o hc hr x m lo ln sl) : ∀ t, t < 128 → ¬ hA hr (m + 9) t = -1 → t % 16 < sl := X.2.2.2.2.2.2.2.2.2.2.1
theorem Sx.uf {o : Nat → Nat} {hc hr : Hp} {x m lo ln sl : Nat} (X : Sx o hc hr x m lo ln sl) : ∀ u, u < 8 → hI hc 387 (x + 15 + 3 * u) = nI (cn (fun k => decide (hA hr (m + 9) (16 * u + k) = -1)) sl) := X.2.2.2.2.2.2.2.2.2.2.2

theorem Sx.met {o : Nat → Nat} {hm kc hr kr : Hp} {x m lo ln sl : Nat} (C : Cd hm x) (K : Kn hm hr x m) (hx : x + 38 < hT hm) (lx : x + 38 < lo) (us : ∀ u, u < 8 → hI hm 386 (x + 15 + 3 * u) = nI sl) (s16 : sl ≤ 16) (hl : hI kr 705 m = nI ln) (l32 : ln ≤ 32) (eL : ∀ k, k < 128 → hL kr (m + 1) k = hL hr (m + 1) k) (nf : ∀ t, t < 128 → ¬ hA kr (m + 9) t = -1 → t % 16 < sl) (R : MR o hm kc kr x m lo ln sl) : Sx o kc kr x m lo ln sl := by
  refine ⟨PG.cd C R.A hx lx, PG.kn K C R.A hx lx eL, by rw [R.t]; exact hx, lx, fun u hu => ?_, s16, hl, l32, R.S, R.B, nf, R.uf⟩
  rw [((R.A.2 (x + 15 + 3 * u) (by omega)).2.2.1 _ (fun z => by
    rcases z with z | z | z | z
    · have := z.1; omega
    · cases z.2
    · cases z.2.2
    · have := z.1; omega)).1]
  exact us u hu
theorem go_loc {o : Nat → Nat} {hc H : Hp} {x m lo ln sl u s b w rg pl ro pr ti L bl wd : Nat} {v : Int64} {F i0 p : Nat} {c : Int32} (hF : 40000 ≤ F) (X : Sx o hc H x m lo ln sl) (E : GO o hc H x m lo ln u s b w rg pl ro pr ti L bl wd v) (z1 : hQ hc (x + 16 + 3 * (s / 16)) (s % 16) = some w) (e : ∃ e, e ≤ 5 ∧ L = 2 ^ e) (hi : i0 < 32) (q : ¬ hA H (m + 26) i0 = 0) (l : ∀ j, j < i0 → hA H (m + 26) j = 0) (ep : hA H (m + 15) (32 * s + i0) = nI p) (lp : p < 128) (ev : hL H (m + 1) p = v) (kk : kKnown (wOp v) (wN v)) (km : ¬ kMem (wOp v)) (okz : wOp v = 7 ∨ wOp v = 8 → ∀ i, i < ln → dD (rTake H m v) m s i = true → ¬ aX H m s (nB v) i = 0) (hcy : hI H 719 m = c) (td : hI hc 324 (x + 11) = hI H 725 m) : ∃ kc kr hm h2 dm, f_WM_go F x (some (x + 15 + 3 * u)) (some w) c hc = some kc ∧ f_Mod_go F m (nI u) (nI s) H = some kr ∧ Sx o kc kr x m lo ln sl ∧ hI kc 324 (x + 11) = hI kr 725 m ∧ LM hc hm x u w rg pl ro pr ti bl (wOp v) dm (hI hc 518 w) (c + kWait (wOp v)) ∧ Fr (PG hm x lo) hm kc ∧ (hT kc = hT hc ∧ hU kc = hU hc) ∧ RG H h2 m u s ln v ∧ (∀ i, i < 32 → bt dm i = dD (rTake H m v) m s i) ∧ ((2 ≤ wOp v ∧ kr = rtH h2 m s (nA v) (nB v) (nD v) ln (c + kWait (wOp v))) ∨ (¬ 2 ≤ wOp v ∧ kr = seH (rtH h2 m s (nA v) (nB v) (nD v) ln (c + kWait (wOp v))) m ln (nI b) (allW (rtH h2 m s (nA v) (nB v) (nD v) ln (c + kWait (wOp v))) m ln (nI b)) (allE (rtH h2 m s (nA v) (nB v) (nD v) ln (c + kWait (wOp v))) m ln (nI b)))) ∧ (∀ f, 723 ≤ f → f ≤ 724 → hI h2 f m = hI H f m) ∧ (∀ a j, (m + 3) ≤ a → a ≤ (m + 7) → hA h2 a j = if a = (m + 5) ∧ j = u ∧ (wOp v = 7 ∨ wOp v = 8) then c + kWait (wOp v) else hA H a j) := by
  obtain ⟨dm, ed1, ed2, sub⟩ := E.dng hF
  have C := E.C
  have W := E.W
  have B := E.B
  have lx := E.lx
  have wl := W.bw
  have l32 := E.l32
  have hu := E.hu
  have hs := E.hs
  have hx := X.hx
  have s16 := X.s16
  have b64 := B.b64
  have inL : ∀ i, i < 32 → bt dm i = true → i < ln := fun i hi z => (E.awk i hi (sub i hi z)).1
  have tA : ∀ c j, hA (rTake H m v) c j = hA H c j := fun c j => by unfold rTake; simp only [qA_sI]
  obtain ⟨t1, t2, t3, t4, t5, t6⟩ := rTake_r H m v
  have MT : Md (rTake H m v) m := (rTake_f H m v).md E.M
  have MD : Md (ddH (rTake H m v) m s 32) m := MT.toA
  have dI : ∀ f, hI (ddH (rTake H m v) m s 32) f m = hI (rTake H m v) f m := fun f => by unfold ddH; rw [qI_oA]
  have et := c_time_loc (F := F) (s := s) MD hu (by rw [dI, t1]; exact km)
  rw [dI, t1] at et
  obtain ⟨h2, r1, R, qq1, qq2⟩ := r_front (F := F) (a := 0) (b := 0) E.M hF hs hu hi q l ep lp E.hl l32 v ev kk (fun j hj z => by
    unfold wyN
    rw [t1, t6, tA, tA]
    rw [if_neg (fun y => okz y.1 j hj z y.2), if_neg (fun y => km y.1)]) et (by
    split
    · exact (Rf.refl _).cA (Or.inl ⟨by omega, by omega⟩)
    · exact Rf.refl _)
  have Rr : ∀ t, Rs m t H h2 := fun t => R.R.rs
  have dAo : ∀ a j, ¬ a = (m + 27) → hA (ddH (rTake H m v) m s 32) a j = hA H a j := fun a j z => by unfold ddH; rw [qA_oA, fr_o z, tA]
  have x1 : ∀ f, 723 ≤ f → f ≤ 724 → hI h2 f m = hI H f m := fun f y1 y2 => by
    rw [qq1 f y1 y2]
    by_cases y : wOp v = 7 ∨ wOp v = 8
    · rw [if_pos y, qI_sA, dI]
      exact (rTake_f H m v).i (by omega)
    · rw [if_neg y, dI]
      exact (rTake_f H m v).i (by omega)
  have x2 : ∀ a j, (m + 3) ≤ a → a ≤ (m + 7) → hA h2 a j = if a = (m + 5) ∧ j = u ∧ (wOp v = 7 ∨ wOp v = 8) then c + kWait (wOp v) else hA H a j := fun a j y1 y2 => by
    rw [qq2 a j (Or.inl ⟨y1, y2⟩)]
    by_cases y : wOp v = 7 ∨ wOp v = 8
    · rw [if_pos y, qA_sA, dI, (rTake_f H m v).i (by omega), hcy]
      have k8 : kWait (wOp v) = 8 := by unfold kWait; rw [if_pos y]
      by_cases z : a = (m + 5) ∧ j = u
      · rw [if_pos z, if_pos ⟨z.1, z.2, y⟩, k8]
      · rw [if_neg z, if_neg (fun k => z ⟨k.1, k.2.1⟩)]
        exact dAo a j (by omega)
    · rw [if_neg y, if_neg (fun k => y k.2.2)]
      exact dAo a j (by omega)
  clear qq1 qq2
  have o0 : 0 ≤ (wOp v).toInt := by rw [nO_is, nI_toInt (by have := nO_lt v; omega)]; omega
  obtain ⟨hk, g1, A⟩ := loc_class (F := F) (c := c) (h2 := h2) hF E ed1 ed2 sub kk km (fun y i hi z => by
    rw [B.reg i _ hi (nB_lt v)]
    exact okz y i hi (by rw [← ed2 i (by omega)]; exact z)) R
  have kbk : ¬ w = bl := fun z => by have := W.k; rw [z, E.kb] at this; cases this
  obtain ⟨bi, ub, ⟨k1, k2, k3, k4, k5⟩, ⟨i1, i2, i3, i4, i5, i6⟩, u1, u2, u3, u4, u5, u6, u7, u8, u9⟩ : ∃ bi u2, (hK hc bl = 8 ∧ hI hc 448 bl = nI b ∧ o bl = 1000 + 2 * b ∧ lo ≤ bl ∧ bl < hT hc) ∧ (hR hc 449 bl = some bi ∧ hK hc bi = 100 ∧ hN hc bi = 64 ∧ o bi = 1001 + 2 * b ∧ lo ≤ bi ∧ bi < hT hc) ∧ BlIn hc H x m b bl bi u2 := by
    rcases X.B b b64 with ⟨y, _⟩ | ⟨bl2, bi, y, k, i, y3⟩
    · rw [B.bq] at y; cases y
    · rw [B.bq] at y
      injection y with y
      subst y
      rcases y3 with ⟨_, y4⟩ | ⟨u, y4⟩
      · exact absurd B.sb (y4 s hs)
      · exact ⟨bi, u, k, i, y4⟩
  have LMh := lm_ok (t := c + kWait (wOp v)) hu (by omega) (by omega) kbk km A
  change _ = b_WM_go_225 F x w (lmH hk x u w ti v (c + kWait (wOp v))) at g1
  generalize hme : lmH hk x u w ti v (c + kWait (wOp v)) = hm at *
  obtain ⟨s1, s2, s3, s4, s5, s6, s7⟩ := LMh.same
  /- the reference's lanes -/
  have M2 : Md h2 m := R.R.md E.M
  have f2 : hI h2 757 m = nI (nD v) := by rw [R.f2]; exact nD_is v
  have hl2 : hI h2 705 m = nI ln := by rw [(Rr s).1.1]; exact E.hl
  obtain ⟨n, r2⟩ := l_go318 (F := F) (a := nA v) (b := nB v) (d := nD v) M2 hF hs (by rw [R.f3]; exact nA_is v) (nA_lt v) (by rw [R.f4]; exact nB_is v) (nB_lt v) f2 (nD_lt v) hl2 E.lp l32 (fun i hi z => by
    rw [R.ds i (by omega)] at z
    rw [R.gp i, ← E.eg i (by omega)]
    exact sub i (by omega) (by rw [ed2 i (by omega)]; exact z)) (fun y i hi z => by
    rw [R.f1] at y
    rw [R.ds i (by omega)] at z
    have := okz y i hi z
    unfold aX at this ⊢
    rw [show 16 * (32 * s + i) + nB v = 512 * s + (16 * i + nB v) by omega, (Rr s).2.2.2.2 _ (by have := nB_lt v; omega), show 512 * s + (16 * i + nB v) = 16 * (32 * s + i) + nB v by omega]
    exact this) (by rw [R.f1]; exact o0) (by rw [R.f1, R.f6]; exact kk) (by rw [R.f1]; exact km) (kWait (wOp v))
  have ML : Md (lcH h2 m s (nA v) (nB v) (nD v) ln ln) m := M2.toA
  have lI : ∀ f, hI (lcH h2 m s (nA v) (nB v) (nD v) ln ln) f m = hI h2 f m := fun f => by unfold lcH; rw [qI_oA]
  have cy2 : hI h2 719 m = c := by rw [R.R.i (by omega)]; exact hcy
  have sb2 : hA h2 (m + 9) s = nI b := by rw [(Rr s).2.1.1]; exact B.sb
  have sbL : hA (lcH h2 m s (nA v) (nB v) (nD v) ln ln) (m + 9) s = nI b := by unfold lcH; rw [qA_oA, lcN_o (by omega)]; exact sb2
  have r3 := l_goTail (F := F) (n := n) (v := kWait (wOp v)) ML hs (by rw [lI]; exact f2) (nD_lt v) (by rw [lI]; exact hl2) l32
  rw [lI, lI, R.f1, cy2, sbL] at r3
  have r4 := (r1.trans r2).trans r3
  change _ = (if 2 ≤ wOp v then some (rtH h2 m s (nA v) (nB v) (nD v) ln (c + kWait (wOp v))) else clv (f_Mod_settle F m (nI b) (rtH h2 m s (nA v) (nB v) (nD v) ln (c + kWait (wOp v)))) (fun k => some k)) at r4
  have WbT : Wb hm (rtH h2 m s (nA v) (nB v) (nD v) ln (c + kWait (wOp v))) x m s ln b w rg pl pr ti L bl := by
    have w0 := wb_loc (hm := mrH hk w ti (kWr (wOp v) (wD v)) (c + kWait (wOp v)) (kMem (wOp v))) (hrT := rtH h2 m s (nA v) (nB v) (nD v) ln (c + kWait (wOp v))) (cy := c) (t := c + kWait (wOp v)) W B l32 R.R (fun i hi => by rw [R.gp i]; exact E.eg i hi) (fun i hi => by rw [R.ds i hi]; exact ed2 i hi) sub E.awk R.f1 R.f6 kk km o0 (x + 15 + 3 * u) rfl (fun f => goH_I (by omega) (by omega)) A (fun z => kbk z.symm) rfl rfl
    rw [← hme]
    unfold lmH
    split
    · exact w0.si (by omega)
    · exact w0
  generalize hrTe : rtH h2 m s (nA v) (nB v) (nD v) ln (c + kWait (wOp v)) = hrT at *
  have rI : ∀ f, f < 720 ∨ 725 ≤ f ∧ f < 756 → hI hrT f m = hI H f m := fun f hf => by rw [← hrTe, rt_I, R.R.i (by omega)]
  have rA : ∀ a j, ((m + 9) ≤ a ∧ a ≤ (m + 10)) ∨ ((m + 18) ≤ a ∧ a ≤ (m + 24)) → hA hrT a j = hA H a j := fun a j ha => by rw [← hrTe, rt_o (by omega), R.R.a (by omega)]
  have far : ∀ t, t < 128 → ¬ t = s → Rs m t H hrT := fun t _ ne => by rw [← hrTe]; exact (Rr t).trans (rt_far l32 (nD_lt v) ne)
  have eLr : ∀ k, k < 128 → hL hrT (m + 1) k = hL H (m + 1) k := fun k _ => by
    rw [← hrTe]
    unfold rtH tkH lcH
    rw [qL_oA, qL_oA, R.R.1.2.2.2.2.2.2]
  have sbT : ∀ t, hA hrT (m + 9) t = hA H (m + 9) t := fun t => rA _ _ (Or.inl ⟨by omega, by omega⟩)
  have rlT : ∀ i, rLn hrT m s i ↔ rLn H m s i := fun i => rLn_same (rI _ (by decide)) (rI _ (by decide)) (rA _ _ (Or.inl ⟨by omega, by omega⟩))
  have enT : ∀ i, i < 32 → (hA hrT (m + 16) (32 * s + i) = 0 ↔ hA H (m + 16) (32 * s + i) = 0 ∧ ¬ (wOp v = 0 ∧ bt dm i = true)) := fun i hi => by
    have a1 := WbT.end_ i hi
    rw [LMh.we, bt_or_ite, B.end_ i hi] at a1
    by_cases y : hA H (m + 16) (32 * s + i) = 0
    · rw [decide_eq_false (fun z => z y), Bool.false_or] at a1
      by_cases y2 : wOp v = 0 ∧ bt dm i = true
      · rw [decide_eq_true y2.1, y2.2] at a1
        exact ⟨fun z => absurd z (of_decide_eq_true a1.symm), fun z => absurd y2 z.2⟩
      · have : (decide (wOp v = 0) && bt dm i) = false := by
          cases z : bt dm i with
          | false => rw [Bool.and_false]
          | true => rw [decide_eq_false (fun k => y2 ⟨k, z⟩)]; rfl
        rw [this] at a1
        have a2 := of_decide_eq_false a1.symm
        exact ⟨fun _ => ⟨y, y2⟩, fun _ => Decidable.not_not.mp a2⟩
    · rw [decide_eq_true (show ¬ hA H (m + 16) (32 * s + i) = 0 from y), Bool.true_or] at a1
      exact ⟨fun z => absurd z (of_decide_eq_true a1.symm), fun z => absurd z.1 y⟩
  have waT : ∀ i, i < 32 → (¬ hA hrT (m + 17) (32 * s + i) = 0 ↔ ¬ hA H (m + 17) (32 * s + i) = 0 ∨ (wOp v = 1 ∧ bt dm i = true)) := fun i hi => by
    have a1 := WbT.wai i hi
    rw [LMh.ww, bt_or_ite, B.wai i hi] at a1
    by_cases y : hA H (m + 17) (32 * s + i) = 0
    · rw [decide_eq_false (fun z => z y), Bool.false_or] at a1
      by_cases y2 : wOp v = 1 ∧ bt dm i = true
      · rw [decide_eq_true y2.1, y2.2] at a1
        exact ⟨fun _ => Or.inr y2, fun _ => of_decide_eq_true a1.symm⟩
      · have : (decide (wOp v = 1) && bt dm i) = false := by
          cases z : bt dm i with
          | false => rw [Bool.and_false]
          | true => rw [decide_eq_false (fun k => y2 ⟨k, z⟩)]; rfl
        rw [this] at a1
        have a2 := of_decide_eq_false a1.symm
        exact ⟨fun z => absurd z a2, fun z => z.elim (fun k => absurd y k) (fun k => absurd k y2)⟩
    · rw [decide_eq_true (show ¬ hA H (m + 17) (32 * s + i) = 0 from y), Bool.true_or] at a1
      exact ⟨fun _ => Or.inl y, fun _ => of_decide_eq_true a1.symm⟩
  have avw := fun t (ht : t < 4096) => av_same (H := H) (kr := hrT) (m := m) (s := s) (b := b) (t := t) (dm := dm) (q0 := wOp v = 0) (q1 := wOp v = 1) ht hs far B.sb (by rw [sbT]; exact B.sb) rlT enT waT (fun i hi z => (E.awk i hi (sub i hi z)).2.1)
  have cav := cn_take hs (fun t ht => (avw t ht).1)
  have cwt := cn_take hs (fun t ht => (avw t ht).2)
  have LF := LMh.fr
  have wb1 := W.b_rg
  have wb2 := W.b_pl
  have wb3 := W.b_ro
  have wb4 := W.b_pr
  have wb5 := W.b_ti
  have csO : ∀ t, t < 128 → ¬ t = s → CsS o x lo t hc hm := fun t ht ne => CsS.of LF hx ht (fun y => by omega) (fun y => by omega) (fun y => by omega) (fun a f h1 h2 h3 h4 h5 y => by
    have := W.tw; have := W.t_rg; have := W.t_pl; have := W.t_ro; have := W.t_pr; have := W.t_ti
    rcases y with y | y | y | y | y | y | y | y | y
    · rw [y] at h3 h4; omega
    · rw [y] at h3 h4; omega
    · rw [y] at h3 h4; omega
    · rw [y] at h3 h4; omega
    · rw [y] at h3 h4; omega
    · rw [y] at h3 h4; omega
    · rw [y] at h3 h4; omega
    · omega
    · have := y.1; omega) (fun a f h1 h2 h3 h4 y => by
    rcases y with y | y | y | y | y | y | y | y | y
    · rw [y, W.k] at h2; cases h2
    · rw [y, W.k_rg] at h2; cases h2
    · rw [y, W.k_pl] at h2; cases h2
    · rw [y, W.k_ro] at h2; cases h2
    · rw [y, W.k_pr] at h2; cases h2
    · rw [y, W.k_ti] at h2; cases h2
    · rw [y, k1] at h2; cases h2
    · rw [y, C.k_tally] at h2; cases h2
    · rw [y.1, (C.u u hu).2.1] at h2; cases h2)
  have Cm : Cd hm x := C.same s3 s4 (fun f a _ => by rw [s5]) (fun j => by rw [s6])
  have Km : Kn hm hrT x m := X.K.frame LF (by omega) (fun y => by omega) (fun f a h3 h4 h2 y => by
    rcases y with y | y | y | y | y | y | y | y | y
    · rw [y, W.k] at h2; cases h2
    · rw [y, W.k_rg] at h2; cases h2
    · rw [y, W.k_pl] at h2; cases h2
    · rw [y, W.k_ro] at h2; cases h2
    · rw [y, W.k_pr] at h2; cases h2
    · rw [y, W.k_ti] at h2; cases h2
    · rw [y, k1] at h2; cases h2
    · rw [y, C.k_tally] at h2; cases h2
    · rw [y.1, (C.u u hu).2.1] at h2; cases h2) eLr
  have Wm : Ws o lo hm s w rg pl ro pr ti L := W.fr (by rw [s1]; exact Nat.le_refl _) (fun a _ _ _ _ _ => ⟨by rw [s3], by rw [s4], fun f _ _ => by rw [s5]⟩)
  have usm : ∀ u2, u2 < 8 → hI hm 386 (x + 15 + 3 * u2) = nI sl ∧ hI hm 387 (x + 15 + 3 * u2) = hI hc 387 (x + 15 + 3 * u2) := fun u2 h8 => by
    by_cases y : u2 = u
    · rw [y, LMh.u3 _ (by decide) (by decide), LMh.u3 _ (by decide) (by decide)]
      exact ⟨X.us u hu, rfl⟩
    · rw [LMh.oi _ _ (by omega) (by omega) (by omega) (by omega), LMh.oi _ _ (by omega) (by omega) (by omega) (by omega)]
      exact ⟨X.us u2 h8, rfl⟩
  have blk : ∀ c2, c2 < 64 → BlockOk o hm hrT x m lo c2 := fun c2 h64 => by
    have nbi : ∀ a, lo ≤ a → a < hT hc → (o a = 1000 + 2 * c2 ∨ o a = 1001 + 2 * c2) → (∀ j, hA hm a j = hA hc a j) := fun a h1 h2 h3 j => by
      have := W.t_rg; have := W.t_pl; have := W.t_ro; have := W.t_pr; have := W.t_ti
      exact LMh.oa a j (fun y => by rw [y] at h3; omega) (fun y => by rw [y] at h3; omega) (fun y => by rw [y] at h3; omega) (fun y => by rw [y] at h3; omega) (fun y => by rw [y] at h3; omega)
    have nwi : ∀ a, (o a = 1000 + 2 * c2 ∨ o a = 1001 + 2 * c2) → ¬ a = w := fun a h3 y => by have := W.tw; rw [y] at h3; omega
    by_cases ec : c2 = b
    · subst ec
      refine Or.inr ⟨bl, bi, by rw [s6]; exact B.bq, ⟨by rw [s3]; exact k1, by rw [LMh.bo _ (by decide) (by decide)]; exact k2, k3, k4, by rw [s1]; exact k5⟩, ⟨by rw [s5]; exact i1, by rw [s3]; exact i2, by rw [s4]; exact i3, i4, i5, by rw [s1]; exact i6⟩, Or.inr ⟨ub, u1, by rw [s5]; exact u2, ⟨s, hs, by rw [sbT]; exact B.sb⟩, fun t ht y => u4 t ht (by rw [← sbT]; exact y), by rw [LMh.bo _ (by decide) (by decide), rI _ (by decide)]; exact u5, by rw [LMh.bo _ (by decide) (by decide), rI _ (by decide)]; exact u6, ?_, ?_, fun k hk => by rw [nbi bi i5 i6 (Or.inr i4) k, rA _ _ (Or.inr ⟨by omega, by omega⟩)]; exact u9 k hk⟩⟩
      · rw [LMh.al, u7, cav]
        by_cases y : wOp v = 0
        · rw [if_pos y, if_pos y, pk_sub (by omega), Nat.add_sub_cancel]
        · rw [if_neg y, if_neg y, Nat.add_zero]
      · rw [LMh.wa, u8, cwt]
        by_cases y : wOp v = 1
        · rw [if_pos y, if_pos y, nI_add]
        · rw [if_neg y, if_neg y, Nat.add_zero]
    · have ao := fun t (ht : t < 4096) => av_other (H := H) (kr := hrT) (m := m) (s := s) (b := b) (c := c2) ht far B.sb (by rw [sbT]; exact B.sb) b64 h64 ec
      refine (X.B c2 h64).fr (by rw [s1]; exact Nat.le_refl _) (by rw [s6]) (fun a h1 h2 h3 h4 => ⟨by rw [s3], by rw [s4], fun f _ _ => ⟨LMh.oi f a (nwi a h3) (fun y => by rw [y] at h3; omega) (by omega) (by omega), by rw [s5]⟩, nbi a h1 h2 h3⟩) (fun t _ => by rw [sbT]) (rI _ (by decide)) (rI _ (by decide)) (cn_congr 4096 fun t ht => (ao t ht).1) (cn_congr 4096 fun t ht => (ao t ht).2) (fun k hk => rA _ _ (Or.inr ⟨by omega, by omega⟩))
  have nfT : ∀ t, t < 128 → ¬ hA hrT (m + 9) t = -1 → t % 16 < sl := fun t ht y => X.nf t ht (by rw [← sbT]; exact y)
  have hlT : hI hrT 705 m = nI ln := by rw [rI _ (by decide)]; exact E.hl
  have ME1 : ME o hm hrT x m lo ln sl s b w rg pl ro pr ti L bl := ⟨Cm, Km, by rw [s1]; exact hx, lx, hs, fun u2 h8 => (usm u2 h8).1, s16, hlT, l32, fun t ht ne => (X.S t ht).fr X.K l32 (csO t ht ne) (far t ht ne), by rw [s6]; exact z1, Wm, e, WbT, blk, nfT, fun u2 h8 => by
    rw [(usm u2 h8).2, X.uf u2 h8]
    exact congrArg nI (cn_congr sl fun k _ => by rw [sbT])⟩
  have tdm : hI hm 324 (x + 11) = hI hrT 725 m := by rw [LMh.t4 _ (by decide) (by decide) (by decide), rI _ (by decide)]; exact td
  have fin : ∀ kr, (kr = seH hrT m ln (nI b) (allW hrT m ln (nI b)) (allE hrT m ln (nI b)) ∨ (kr = hrT ∧ ∃ i, i < 32 ∧ rAw hrT m s i)) → hI kr 705 m = nI ln → (∀ k, k < 128 → hL kr (m + 1) k = hL hrT (m + 1) k) → (∀ t, t < 128 → ¬ hA kr (m + 9) t = -1 → t % 16 < sl) → ∃ kc, f_WM_go F x (some (x + 15 + 3 * u)) (some w) c hc = some kc ∧ Sx o kc kr x m lo ln sl ∧ hI kc 324 (x + 11) = hI kr 725 m ∧ Fr (PG hm x lo) hm kc ∧ (hT kc = hT hc ∧ hU kc = hU hc) := by
    intro kr qk y1 y2 y3
    obtain ⟨kc, j1, j2, j3⟩ := meet_all (F := F) (kr := kr) hF ME1 qk tdm
    exact ⟨kc, by rw [g1]; exact j1, Sx.met Cm Km (by rw [s1]; exact hx) lx (fun u2 h8 => (usm u2 h8).1) s16 y1 l32 y2 y3 j2, j3, j2.A, by rw [j2.t, s1], by rw [j2.u, s2]⟩
  by_cases c2 : 2 ≤ wOp v
  · rw [if_pos c2] at r4
    have n0 : ¬ wOp v = 0 := fun y => by rw [y] at c2; exact absurd c2 (by decide)
    have n1 : ¬ wOp v = 1 := fun y => by rw [y] at c2; exact absurd c2 (by decide)
    have gi : bt (hI hc 518 w) i0 = true := by rw [E.eg i0 hi]; exact decide_eq_true q
    obtain ⟨_, aw0, _⟩ := E.awk i0 hi gi
    obtain ⟨kc, j1, j2, j3, j4, j5⟩ := fin hrT (Or.inr ⟨rfl, i0, hi, (rlT i0).mpr aw0.1, (enT i0 hi).mpr ⟨aw0.2.1, fun y => n0 y.1⟩, Decidable.not_not.mp (fun y => ((waT i0 hi).mp y).elim (fun k => k aw0.2.2) (fun k => n1 k.1))⟩) hlT (fun _ _ => rfl) nfT
    exact ⟨kc, hrT, hm, h2, dm, j1, r4, j2, j3, LMh, j4, j5, R, ed2, Or.inl ⟨c2, hrTe.symm⟩, x1, x2⟩
  · have MrT : Md hrT m := by rw [← hrTe]; exact ML.toA
    rw [if_neg c2, c_Mod_settle MrT hF hlT l32, clv_some] at r4
    obtain ⟨kc, j1, j2, j3, j4, j5⟩ := fin _ (Or.inl rfl) (by rw [se_I (by decide)]; exact hlT) (fun k _ => by unfold seH; rw [qL_sI, qL_oA]) (fun t ht y => by
      rw [se_A, stG_s ht] at y
      refine nfT t ht (fun k => y ?_)
      by_cases g : allE hrT m ln (nI b) = true ∧ hA hrT (m + 9) t = nI b
      · rw [if_pos g]
      · rw [if_neg g]; exact k)
    exact ⟨kc, _, hm, h2, dm, j1, r4, j2, j3, LMh, j4, j5, R, ed2, Or.inr ⟨c2, by rw [hrTe]; rfl⟩, x1, x2⟩
