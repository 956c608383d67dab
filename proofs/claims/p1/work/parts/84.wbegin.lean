/-! a warp begins, in the class -/
theorem ite_s {α β : Type} {c : Prop} [Decidable c] (f : α → β) (a b : α) : (if c then f a else f b) = f (if c then a else b) := by by_cases z : c <;> simp [z]
theorem c_Warp_begin {F : Nat} {o : Nat → Nat} {h : Hp} {lo s w rg pl ro pr ti L bl n ln th : Nat} (hF : 40000 ≤ F) (W : Ws o lo h s w rg pl ro pr ti L) (eL : ∃ e, e ≤ 5 ∧ L = 2 ^ e) (kb : hK h bl = 8) (hth : hI h 452 bl = nI th) (nl : n * ln < th) (t5 : th ≤ 512) (lp : ∃ e, e ≤ 5 ∧ ln = 2 ^ e) (l32 : ln ≤ 32) (lh : lo ≤ hT h) : ∃ k o2 rg2 pl2 ro2 L2, f_Warp_begin F w (some bl) (nI n) (nI ln) h = some k ∧ (∀ a, a < hT h → o2 a = o a) ∧ Ws o2 lo k s w rg2 pl2 ro2 pr ti L2 ∧ (∃ e, e ≤ 5 ∧ L2 = 2 ^ e) ∧ ln ≤ L2 ∧ WBeg h k w rg2 pl2 pr ti bl n ln L2 (if th - n * ln < ln then th - n * ln else ln) ∧ Fr (fun f a => a = w ∨ (f = 9999 ∧ (a = rg ∨ a = pl ∨ a = pr ∨ a = ti))) h k ∧ ((hT k = hT h ∧ L2 = L) ∨ (hT k = hT h + 3 ∧ L2 = ln ∧ L < ln)) ∧ hU k ≤ hU h + 512 * (hT k - hT h) := by
  have wb := W.bw
  have b1 := W.b_rg
  have b2 := W.b_pl
  have b3 := W.b_ro
  have b4 := W.b_pr
  have b5 := W.b_ti
  have t1 := W.tw
  have t2 := W.t_rg
  have t3 := W.t_pl
  have t4 := W.t_ro
  have t5' := W.t_pr
  have t6 := W.t_ti
  have k9 := W.k
  have Ll := W.l32
  have bw : ¬ bl = w := fun z => by rw [z, k9] at kb; cases kb
  have d1 : ¬ rg = pl := fun z => by rw [z] at t2; omega
  have d2 : ¬ rg = pr := fun z => by rw [z] at t2; omega
  have d3 : ¬ rg = ti := fun z => by rw [z] at t2; omega
  have d4 : ¬ pl = pr := fun z => by rw [z] at t3; omega
  have d5 : ¬ pl = ti := fun z => by rw [z] at t3; omega
  have d6 : ¬ pr = ti := fun z => by rw [z] at t5'; omega
  obtain ⟨T, eT⟩ : ∃ T, T = if th - n * ln < ln then th - n * ln else ln := ⟨_, rfl⟩
  have T32 : T ≤ 32 := by rw [eT]; split <;> omega
  have emin : (if nI ln < nI th - nI n * nI ln then nI ln else nI th - nI n * nI ln) = nI T := by
    rw [pk_mul, pk_sub (by omega), eT]
    by_cases z : th - n * ln < ln
    · rw [if_pos z, if_neg (nI_nlt (by omega) (by omega))]
    · rw [if_neg z]
      by_cases y : ln < th - n * ln
      · rw [if_pos (nI_lt y (by omega))]
      · rw [if_neg (nI_nlt (by omega) (by omega))]
        congr 1
        omega
  obtain ⟨ps, eps⟩ : ∃ ps : Int32, ps = if nI T < 32 then ((1 : Int32) <<< (nI T &&& 31)) - 1 else -1 := ⟨_, rfl⟩
  have h12 : hI (sI (sI (sR h 512 w (some bl)) 513 w (nI n)) 514 w (nI ln)) 452 bl = nI th := by
    rw [qI_sI, if_neg (fun z => by cases z.1), qI_sI, if_neg (fun z => by cases z.1), qI_sR]; exact hth
  have st : f_Warp_begin F w (some bl) (nI n) (nI ln) h = b_Warp_begin_47 F w (nI ln) w ps (sI (sI (sR h 512 w (some bl)) 513 w (nI n)) 514 w (nI ln)) := by
    rw [f_Warp_begin, gd_t k9, pw_e, pw_e, pw_e, rq_k rfl (by rw [qK_sI, qK_sI, qK_sR]; exact kb), h12, emin, ite_s (fun z => b_Warp_begin_47 F w (nI ln) w z (sI (sI (sR h 512 w (some bl)) 513 w (nI n)) 514 w (nI ln))), ← eps]
  obtain ⟨⟨w1, w2, w3, w4, w5, w6, w7⟩, wR, wI, w8⟩ := wf_o h w bl n ln ps
  have hps : ∀ i, i < 32 → bt ps i = decide (i < T) := fun i hi => by rw [eps]; exact pres_bt T32 hi
  have st2 : f_Warp_begin F w (some bl) (nI n) (nI ln) h = if nI ln ≤ nI L then b_Warp_begin_98 F w (wfH h w bl n ln ps) else (gd (¬ (nI ln * (16 : Int32)) < 0) <| gd ((Int32.toNatClampNeg (nI ln * (16 : Int32))) * 4 ≤ 536870912) <| pw (hT (wfH h w bl n ln ps)) fun a_79_2 => pw (nw (wfH h w bl n ln ps) 100 (Int32.toNatClampNeg (nI ln * (16 : Int32))) (Int32.toNatClampNeg (nI ln * (16 : Int32)))) fun h_79_3 => gd (hK h_79_3 w = 9) <| pw (sR h_79_3 523 w (some a_79_2)) fun h_81_2 => gd (¬ nI ln < 0) <| gd ((Int32.toNatClampNeg (nI ln)) * 4 ≤ 536870912) <| pw (hT h_81_2) fun a_86_2 => pw (nw h_81_2 100 (Int32.toNatClampNeg (nI ln)) (Int32.toNatClampNeg (nI ln))) fun h_86_3 => gd (hK h_86_3 w = 9) <| pw (sR h_86_3 524 w (some a_86_2)) fun h_88_2 => gd (¬ nI ln < 0) <| gd ((Int32.toNatClampNeg (nI ln)) * 4 ≤ 536870912) <| pw (hT h_88_2) fun a_93_2 => pw (nw h_88_2 100 (Int32.toNatClampNeg (nI ln)) (Int32.toNatClampNeg (nI ln))) fun h_93_3 => gd (hK h_93_3 w = 9) <| pw (sR h_93_3 525 w (some a_93_2)) fun h_95_2 => b_Warp_begin_98 F w h_95_2) := by
    rw [st, b_Warp_begin_47, gd_t (by rw [qK_sI, qK_sI, qK_sR]; exact k9), pw_e, gd_t (by rw [qK_sI, qK_sI, qK_sI, qK_sR]; exact k9), pw_e, pw_e, pw_e]
    rw [show sI (sI (sI (sI (sI (sI (sR h 512 w (some bl)) 513 w (nI n)) 514 w (nI ln)) 515 w ps) 516 w 0) 517 w 0) 522 w 0 = wfH h w bl n ln ps from rfl]
    rw [rq_k (by rw [wR _ _ (by omega)]; exact W.r_pl) (by rw [w3]; exact W.k_pl), w4, W.n_pl]
  generalize hge : wfH h w bl n ln ps = g at *
  have FG : Fr (fun f a => a = w ∨ (f = 9999 ∧ (a = rg ∨ a = pl ∨ a = pr ∨ a = ti))) h g := ⟨by rw [w1]; exact Nat.le_refl _, fun a ha => ⟨by rw [w3], by rw [w4], fun f nP => ⟨wI f a (fun z => nP (Or.inl z.1)), wR f a (fun z => nP (Or.inl z.1))⟩, fun nP j => ⟨by rw [w7], by rw [w5], by rw [w6]⟩⟩⟩
  by_cases c : nI ln ≤ nI L
  · have cL : ln ≤ L := (nI_leI (by omega) (by omega)).mp c
    rw [if_pos c] at st2
    obtain ⟨k, f1, ⟨f2, f3, f4, f5, f6, f7, f8, f9⟩, fo, z1, z2, z3, z4⟩ := c_begin_98 (F := F) (h := g) (w := w) hF (by rw [w3]; exact k9) Ll ⟨by rw [wR _ _ (by omega)]; exact W.r_rg, by rw [w3]; exact W.k_rg, by rw [w4]; exact W.n_rg⟩ ⟨by rw [wR _ _ (by omega)]; exact W.r_pl, by rw [w3]; exact W.k_pl, by rw [w4]; exact W.n_pl⟩ ⟨by rw [wR _ _ (by omega)]; exact W.r_pr, by rw [w3]; exact W.k_pr, by rw [w4]; exact W.n_pr⟩ ⟨by rw [wR _ _ (by omega)]; exact W.r_ti, by rw [w3]; exact W.k_ti, by rw [w4]; exact W.n_ti⟩ d1 d2 d3 d4 d5 d6
    have Wk : Ws o lo k s w rg pl ro pr ti L := W.fr (by rw [f2, w1]; exact Nat.le_refl _) (fun a _ ha _ _ _ => ⟨by rw [f4, w3], by rw [f5, w4], fun f h1 h2 => by rw [f6, wR _ _ (by omega)]⟩)
    refine ⟨k, o, rg, pl, ro, L, st2.trans f1, fun _ _ => rfl, Wk, eL, cL, ?_, ?_, Or.inl ⟨by rw [f2, w1], rfl⟩, by rw [f3, w2]; omega⟩
    · rw [← eT]
      exact ⟨by rw [f6]; exact w8.1, by rw [f9]; exact w8.2.1, by rw [f9]; exact w8.2.2.1, fun i hi => by rw [f9, w8.2.2.2.1]; exact hps i hi, by rw [f9]; exact w8.2.2.2.2.1, by rw [f9]; exact w8.2.2.2.2.2.1, by rw [f9]; exact w8.2.2.2.2.2.2, z1, z2, z3, z4⟩
    · refine FG.trans ⟨by rw [f2]; exact Nat.le_refl _, fun a ha => ⟨by rw [f4], by rw [f5], fun f _ => ⟨by rw [f9], by rw [f6]⟩, fun nP j => ⟨fo a j (fun z => nP (Or.inr ⟨rfl, Or.inl z⟩)) (fun z => nP (Or.inr ⟨rfl, Or.inr (Or.inl z)⟩)) (fun z => nP (Or.inr ⟨rfl, Or.inr (Or.inr (Or.inl z))⟩)) (fun z => nP (Or.inr ⟨rfl, Or.inr (Or.inr (Or.inr z))⟩)), by rw [f7], by rw [f8]⟩⟩⟩
  · have cL : L < ln := by
      by_cases z : ln ≤ L
      · exact absurd (nI_le z (by omega)) c
      · omega
    rw [if_neg c] at st2
    obtain ⟨e1, e2, e3, e4, e5⟩ := ln16 l32
    simp only [pw_e] at st2
    rw [e1, e3, e5] at st2
    have gk : hK g w = 9 := by rw [w3]; exact k9
    have gT : w < hT g := by rw [w1]; exact wb.2
    have s1 := nwf g w 523 (16 * ln) (16 * ln)
    generalize hk1 : sR (nw g 100 (16 * ln) (16 * ln)) 523 w (some (hT g)) = k1 at *
    have s2 := nwf k1 w 524 ln ln
    generalize hk2 : sR (nw k1 100 ln ln) 524 w (some (hT k1)) = k2 at *
    have s3 := nwf k2 w 525 ln ln
    generalize hk3 : sR (nw k2 100 ln ln) 525 w (some (hT k2)) = k3 at *
    have hf : ∀ {h1 k1 : Hp} {f n u : Nat}, NwF h1 k1 w f n u → w < hT h1 → hK h1 w = 9 → hK k1 w = 9 ∧ w < hT k1 := fun {h1 k1 f n u} X a b => ⟨by rw [(X.2.1.2 w a).1]; exact b, by rw [X.1.1]; omega⟩
    have q1 := hf s1 gT gk
    have q2 := hf s2 q1.2 q1.1
    have q3 := hf s3 q2.2 q2.1
    have nk : ∀ {h1 : Hp} {n u : Nat}, w < hT h1 → hK h1 w = 9 → hK (nw h1 100 n u) w = 9 := fun {h1 n u} a b => by rw [qK_nw, if_neg (by omega)]; exact b
    rw [gd_t e2, gd_t (by omega), gd_t (nk gT gk), gd_t e4, gd_t (by omega), gd_t (nk q1.2 q1.1), gd_t e4, gd_t (by omega), gd_t (nk q2.2 q2.1)] at st2
    obtain ⟨⟨x1, y1⟩, f1, ⟨a1, a2, a3⟩, _, a5⟩ := s1
    obtain ⟨⟨x2, y2⟩, f2, ⟨c1, c2, c3⟩, _, c5⟩ := s2
    obtain ⟨⟨x3, y3⟩, f3, ⟨g1, g2, g3⟩, _, g5⟩ := s3
    have kp : ∀ {h1 k1 : Hp} {f a : Nat}, Fr (fun g a => a = w ∧ g = f) h1 k1 → a < hT h1 → hK k1 a = hK h1 a ∧ hN k1 a = hN h1 a := fun {h1 k1 f a} X l => ⟨(X.2 a l).1, (X.2 a l).2.1⟩
    have rp : ∀ {h1 k1 : Hp} {f g : Nat}, Fr (fun g a => a = w ∧ g = f) h1 k1 → w < hT h1 → ¬ g = f → hR k1 g w = hR h1 g w := fun {h1 k1 f g} X l n => ((X.2 w l).2.2.1 g (fun z => n z.2)).2
    have gl : ∀ a, a < hT h → hK k3 a = hK h a ∧ hN k3 a = hN h a := fun a ha => by
      rw [(kp f3 (by omega)).1, (kp f2 (by omega)).1, (kp f1 (by omega)).1, (kp f3 (by omega)).2, (kp f2 (by omega)).2, (kp f1 (by omega)).2, w3, w4]
      exact ⟨rfl, rfl⟩
    have rr : ∀ f, ¬ f = 523 → ¬ f = 524 → ¬ f = 525 → ¬ f = 512 → hR k3 f w = hR h f w := fun f n1 n2 n3 n4 => by rw [rp f3 q2.2 n3, rp f2 q1.2 n2, rp f1 gT n1, wR _ _ (by omega)]
    have R523 : hR k3 523 w = some (hT h) := by rw [rp f3 q2.2 (by omega), rp f2 q1.2 (by omega), a3, w1]
    have R524 : hR k3 524 w = some (hT h + 1) := by rw [rp f3 q2.2 (by omega), c3]; congr 1; omega
    have R525 : hR k3 525 w = some (hT h + 2) := by rw [g3]; congr 1; omega
    have K1 : hK k3 (hT h) = 100 ∧ hN k3 (hT h) = 16 * ln := by
      rw [(kp f3 (by omega)).1, (kp f3 (by omega)).2, (kp f2 (by omega)).1, (kp f2 (by omega)).2, ← w1]
      exact ⟨a1, a2⟩
    have K2 : hK k3 (hT h + 1) = 100 ∧ hN k3 (hT h + 1) = ln := by
      rw [(kp f3 (by omega)).1, (kp f3 (by omega)).2, show hT h + 1 = hT k1 by omega]
      exact ⟨c1, c2⟩
    have K3 : hK k3 (hT h + 2) = 100 ∧ hN k3 (hT h + 2) = ln := by
      rw [show hT h + 2 = hT k2 by omega]
      exact ⟨g1, g2⟩
    have gi : ∀ f, hI k3 f w = hI g f w := fun f => by
      rw [g5]
      dsimp only
      rw [if_neg (by omega), c5]
      dsimp only
      rw [if_neg (by omega), a5]
      dsimp only
      rw [if_neg (by omega)]
    obtain ⟨k, p1, ⟨p2, p3, p4, p5, p6, p7, p8, p9⟩, po, z1, z2, z3, z4⟩ := c_begin_98 (F := F) (h := k3) (w := w) (rg := hT h) (pl := hT h + 1) (pr := pr) (ti := ti) (L := ln) hF q3.1 l32 ⟨R523, K1.1, K1.2⟩ ⟨R524, K2.1, K2.2⟩ ⟨by rw [rr _ (by omega) (by omega) (by omega) (by omega)]; exact W.r_pr, by rw [(gl pr b4.2).1]; exact W.k_pr, by rw [(gl pr b4.2).2]; exact W.n_pr⟩ ⟨by rw [rr _ (by omega) (by omega) (by omega) (by omega)]; exact W.r_ti, by rw [(gl ti b5.2).1]; exact W.k_ti, by rw [(gl ti b5.2).2]; exact W.n_ti⟩ (by omega) (by omega) (by omega) (by omega) (by omega) d6
    refine ⟨k, fun a => if a = hT h then 6 * s + 1 else if a = hT h + 1 then 6 * s + 2 else if a = hT h + 2 then 6 * s + 3 else o a, hT h, hT h + 1, hT h + 2, ln, st2.trans p1, fun a ha => by dsimp only; rw [if_neg (by omega), if_neg (by omega), if_neg (by omega)], ?_, lp, Nat.le_refl _, ?_, ?_, Or.inr ⟨by rw [p2]; omega, rfl, cL⟩, by rw [p2, p3]; omega⟩
    · have hTk : hT k = hT h + 3 := by rw [p2]; omega
      refine ⟨by rw [p4]; exact q3.1, l32, by dsimp only; rw [if_neg (by omega), if_neg (by omega), if_neg (by omega)]; exact t1, ⟨wb.1, by omega⟩, by rw [p6]; exact R523, by rw [p4]; exact K1.1, by rw [p5]; exact K1.2, by dsimp only; rw [if_pos rfl], ⟨by omega, by omega⟩, by rw [p6]; exact R524, by rw [p4]; exact K2.1, by rw [p5]; exact K2.2, by dsimp only; rw [if_neg (by omega), if_pos rfl], ⟨by omega, by omega⟩, by rw [p6]; exact R525, by rw [p4]; exact K3.1, by rw [p5]; exact K3.2, by dsimp only; rw [if_neg (by omega), if_neg (by omega), if_pos rfl], ⟨by omega, by omega⟩, by rw [p6, rr _ (by omega) (by omega) (by omega) (by omega)]; exact W.r_pr, by rw [p4, (gl pr b4.2).1]; exact W.k_pr, by rw [p5, (gl pr b4.2).2]; exact W.n_pr, by dsimp only; rw [if_neg (by omega), if_neg (by omega), if_neg (by omega)]; exact t5', ⟨b4.1, by omega⟩, by rw [p6, rr _ (by omega) (by omega) (by omega) (by omega)]; exact W.r_ti, by rw [p4, (gl ti b5.2).1]; exact W.k_ti, by rw [p5, (gl ti b5.2).2]; exact W.n_ti, by dsimp only; rw [if_neg (by omega), if_neg (by omega), if_neg (by omega)]; exact t6, ⟨b5.1, by omega⟩⟩
    · rw [← eT]
      refine ⟨?_, by rw [p9, gi]; exact w8.2.1, by rw [p9, gi]; exact w8.2.2.1, fun i hi => by rw [p9, gi, w8.2.2.2.1]; exact hps i hi, by rw [p9, gi]; exact w8.2.2.2.2.1, by rw [p9, gi]; exact w8.2.2.2.2.2.1, by rw [p9, gi]; exact w8.2.2.2.2.2.2, z1, z2, z3, z4⟩
      rw [p6, rp f3 q2.2 (by omega), rp f2 q1.2 (by omega), rp f1 gT (by omega)]
      exact w8.1
    · have mo : ∀ {h1 k1 : Hp} {f : Nat}, Fr (fun g a => a = w ∧ g = f) h1 k1 → Fr (fun f a => a = w ∨ (f = 9999 ∧ (a = rg ∨ a = pl ∨ a = pr ∨ a = ti))) h1 k1 := fun {h1 k1 f} X => X.mono (fun g a _ z => Or.inl z.1)
      have A3 := ((FG.trans (mo f1)).trans (mo f2)).trans (mo f3)
      refine ⟨by rw [p2]; exact A3.1, fun a ha => ?_⟩
      obtain ⟨v1, v2, v3, v4⟩ := A3.2 a ha
      refine ⟨by rw [p4]; exact v1, by rw [p5]; exact v2, fun f nP => ⟨by rw [p9]; exact (v3 f nP).1, by rw [p6]; exact (v3 f nP).2⟩, fun nP j => ⟨?_, by rw [p7]; exact (v4 nP j).2.1, by rw [p8]; exact (v4 nP j).2.2⟩⟩
      rw [po a j (by omega) (by omega) (fun z => nP (Or.inr ⟨rfl, Or.inr (Or.inr (Or.inl z))⟩)) (fun z => nP (Or.inr ⟨rfl, Or.inr (Or.inr (Or.inr z))⟩))]
      exact (v4 nP j).1
