/-! a word without a memory: what the class leaves -/
def AF (h k : Hp) (w rg pl ro pr ti ln bl d : Nat) (o dm : Int32) (RF : Nat → Option Int32) (TF : Nat → Bool) : Prop := (hT k = hT h ∧ hU k = hU h ∧ hK k = hK h ∧ hN k = hN h ∧ hR k = hR h ∧ hQ k = hQ h ∧ hL k = hL h) ∧ (hI k 516 w = if o = 0 then hI h 516 w ||| dm else hI h 516 w) ∧ (hI k 517 w = if o = 1 then hI h 517 w ||| dm else hI h 517 w) ∧ (hI k 453 bl = if o = 0 then hI h 453 bl - nI (cn (bt dm) 32) else hI h 453 bl) ∧ (hI k 454 bl = if o = 1 then hI h 454 bl + nI (cn (bt dm) 32) else hI h 454 bl) ∧ (∀ f c, ¬ (f = 516 ∧ c = w) → ¬ (f = 517 ∧ c = w) → ¬ (f = 453 ∧ c = bl) → ¬ (f = 454 ∧ c = bl) → hI k f c = hI h f c) ∧ (∀ i r, i < ln → r < 16 → hA k rg (16 * i + r) = if bt dm i = true ∧ r = d then (RF i).getD (hA h rg (16 * i + r)) else hA h rg (16 * i + r)) ∧ (∀ p i, p < 4 → i < 32 → bt (hA k pr p) i = if bt dm i = true ∧ kWP o ∧ p = pn (nI d) then TF i else bt (hA h pr p) i) ∧ (∀ c j, ¬ c = rg → ¬ c = pr → ¬ c = ro → hA k c j = hA h c j)
theorem AF.same {h k : Hp} {w rg pl ro pr ti ln bl d : Nat} {o dm : Int32} {RF : Nat → Option Int32} {TF : Nat → Bool} (H : AF h k w rg pl ro pr ti ln bl d o dm RF TF) : hT k = hT h ∧ hU k = hU h ∧ hK k = hK h ∧ hN k = hN h ∧ hR k = hR h ∧ hQ k = hQ h ∧ hL k = hL h := H.1
theorem AF.i1 {h k : Hp} {w rg pl ro pr ti ln bl d : Nat} {o dm : Int32} {RF : Nat → Option Int32} {TF : Nat → Bool} (H : AF h k w rg pl ro pr ti ln bl d o dm RF TF) : hI k 516 w = if o = 0 then hI h 516 w ||| dm else hI h 516 w := H.2.1
theorem AF.i2 {h k : Hp} {w rg pl ro pr ti ln bl d : Nat} {o dm : Int32} {RF : Nat → Option Int32} {TF : Nat → Bool} (H : AF h k w rg pl ro pr ti ln bl d o dm RF TF) : hI k 517 w = if o = 1 then hI h 517 w ||| dm else hI h 517 w := H.2.2.1
theorem AF.i3 {h k : Hp} {w rg pl ro pr ti ln bl d : Nat} {o dm : Int32} {RF : Nat → Option Int32} {TF : Nat → Bool} (H : AF h k w rg pl ro pr ti ln bl d o dm RF TF) : hI k 453 bl = if o = 0 then hI h 453 bl - nI (cn (bt dm) 32) else hI h 453 bl := H.2.2.2.1
theorem AF.i4 {h k : Hp} {w rg pl ro pr ti ln bl d : Nat} {o dm : Int32} {RF : Nat → Option Int32} {TF : Nat → Bool} (H : AF h k w rg pl ro pr ti ln bl d o dm RF TF) : hI k 454 bl = if o = 1 then hI h 454 bl + nI (cn (bt dm) 32) else hI h 454 bl := H.2.2.2.2.1
theorem AF.i5 {h k : Hp} {w rg pl ro pr ti ln bl d : Nat} {o dm : Int32} {RF : Nat → Option Int32} {TF : Nat → Bool} (H : AF h k w rg pl ro pr ti ln bl d o dm RF TF) : ∀ f c, ¬ (f = 516 ∧ c = w) → ¬ (f = 517 ∧ c = w) → ¬ (f = 453 ∧ c = bl) → ¬ (f = 454 ∧ c = bl) → hI k f c = hI h f c := H.2.2.2.2.2.1
theorem AF.rg {h k : Hp} {w rg pl ro pr ti ln bl d : Nat} {o dm : Int32} {RF : Nat → Option Int32} {TF : Nat → Bool} (H : AF h k w rg pl ro pr ti ln bl d o dm RF TF) : ∀ i r, i < ln → r < 16 → hA k rg (16 * i + r) = if bt dm i = true ∧ r = d then (RF i).getD (hA h rg (16 * i + r)) else hA h rg (16 * i + r) := H.2.2.2.2.2.2.1
theorem AF.pr {h k : Hp} {w rg pl ro pr ti ln bl d : Nat} {o dm : Int32} {RF : Nat → Option Int32} {TF : Nat → Bool} (H : AF h k w rg pl ro pr ti ln bl d o dm RF TF) : ∀ p i, p < 4 → i < 32 → bt (hA k pr p) i = if bt dm i = true ∧ kWP o ∧ p = pn (nI d) then TF i else bt (hA h pr p) i := H.2.2.2.2.2.2.2.1
theorem AF.oth {h k : Hp} {w rg pl ro pr ti ln bl d : Nat} {o dm : Int32} {RF : Nat → Option Int32} {TF : Nat → Bool} (H : AF h k w rg pl ro pr ti ln bl d o dm RF TF) : ∀ c j, ¬ c = rg → ¬ c = pr → ¬ c = ro → hA k c j = hA h c j := H.2.2.2.2.2.2.2.2

theorem act_af {F : Nat} {h : Hp} {w rg pl ro pr ti ln : Nat} (W : Wp h w rg pl ro pr ti ln) (hF : 40000 ≤ F) {wd : Nat} (hw : hR h 520 w = some wd) (hk : hK h wd = 10) {bl a b d : Nat} {o n vo : Int32} {X Y OL TV EX PR : Nat → Int32} (hbl : hR h 512 w = some bl) (kb : hK h bl = 8) (ha : hI h 578 wd = nI a) (la : a < 16) (hb : hI h 579 wd = nI b) (lb : b < 16) (hd : hI h 577 wd = nI d) (ld : d < 16) (ho : hI h 576 wd = o) (hn : hI h 580 wd = n) (hv : hI h 588 wd = kWr o (nI d)) (hp2 : ∃ k, k ≤ 5 ∧ ln = 2 ^ k) (dm : Int32) (hm : ∀ i, i < 32 → bt dm i = true → i < ln) (kk0 : kKnown o n) (km : ¬ kMem o) (o0 : 0 ≤ o.toInt)
    (eX : ∀ i, i < ln → hA h rg (16 * i + a) = X i) (eY : ∀ i, i < ln → hA h rg (16 * i + b) = Y i) (eO : ∀ i, i < ln → bt dm i = true → hI h 519 w = OL i) (eT : ∀ i, i < ln → abV h w bl i n = TV i) (eE : o = 73 → ∀ i, i < ln → bt dm i = true → (if bt dm (oth ln n i) = true then hA h rg (16 * oth ln n i + a) else hA h rg (16 * i + a)) = EX i) (eP : ∀ p i, i < 32 → p < 4 → bt (hA h pr p) i = bt (PR i) p) (eV : o = 72 → nI (cn (bt (hA h pr (pn (nI a)) &&& dm)) 32) = vo) (e70 : o = 70 → (vo = 1 ↔ ¬ (hA h pr (pn (nI a)) &&& dm) = 0)) (e71 : o = 71 → (vo = 1 ↔ (hA h pr (pn (nI a)) &&& dm) = dm)) (hz : o = 7 ∨ o = 8 → ∀ i, i < ln → bt dm i = true → ¬ Y i = 0) : ∃ k, f_Warp_act F w dm h = some k ∧ AF h k w rg pl ro pr ti ln bl d o dm (fun i => lR o n (X i) (Y i) (OL i) (TV i) (EX i) vo (hs3 (PR i) n)) (fun i => decide (lT o n (X i) (Y i) vo (hs3 (PR i) (nI a)) (hs3 (PR i) (nI b)))) := by
  have W2 := W
  obtain ⟨⟨wk, wl, hl⟩, ⟨r1, k1, n1, m1⟩, ⟨r2, k2, n2, m2⟩, ⟨r3, k3, n3, m3⟩, ⟨r4, k4, n4⟩, ⟨r5, k5, n5⟩, d1, d2, d3, d4, d5, d6, d7, d8, d9, d10⟩ := W
  have dwb : ¬ w = bl := fun z => by rw [z, kb] at wk; cases wk
  have l32 := hl
  by_cases c0 : o = 0
  · have nd : ¬ kWD o := by rw [c0]; unfold kWD; decide
    have np : ¬ kWP o := by rw [c0]; unfold kWP; decide
    refine ⟨_, c_act_0 W2 hF hw hk hbl kb (by rw [ho]; exact c0) dm, ⟨?_, ?_, ?_, ?_, ?_, fun f c z1 z2 z3 z4 => ?_, fun i r hi hr => ?_, fun p i hp hi => ?_, fun c j _ _ _ => ?_⟩⟩
    · simp only [qT_sI, qU_sI, qK_sI, qN_sI, qR_sI, qQ_sI, qL_sI, and_self]
    · rw [if_pos c0, qI_sI, if_neg (fun z => by cases z.1), qI_sI, if_pos ⟨rfl, rfl⟩]
    · rw [if_neg (by rw [c0]; decide), qI_sI, if_neg (fun z => by cases z.1), qI_sI, if_neg (fun z => by cases z.1)]
    · rw [if_pos c0, qI_sI, if_pos ⟨rfl, rfl⟩]
    · rw [if_neg (by rw [c0]; decide), qI_sI, if_neg (fun z => by cases z.1), qI_sI, if_neg (fun z => by cases z.1)]
    · rw [qI_sI, if_neg z3, qI_sI, if_neg z1]
    · dsimp only
      rw [qA_sI, qA_sI, lr_none nd]
      simp
    · rw [qA_sI, qA_sI, if_neg (fun z => np z.2.1)]
    · rw [qA_sI, qA_sI]
  by_cases c1 : o = 1
  · have nd : ¬ kWD o := by rw [c1]; unfold kWD; decide
    have np : ¬ kWP o := by rw [c1]; unfold kWP; decide
    refine ⟨_, c_act_1 W2 hF hw hk hbl kb (by rw [ho]; exact c1) dm, ⟨?_, ?_, ?_, ?_, ?_, fun f c z1 z2 z3 z4 => ?_, fun i r hi hr => ?_, fun p i hp hi => ?_, fun c j _ _ _ => ?_⟩⟩
    · simp only [qT_sI, qU_sI, qK_sI, qN_sI, qR_sI, qQ_sI, qL_sI, and_self]
    · rw [if_neg c0, qI_sI, if_neg (fun z => by cases z.1), qI_sI, if_neg (fun z => by cases z.1)]
    · rw [if_pos c1, qI_sI, if_neg (fun z => by cases z.1), qI_sI, if_pos ⟨rfl, rfl⟩]
    · rw [if_neg c0, qI_sI, if_neg (fun z => by cases z.1), qI_sI, if_neg (fun z => by cases z.1)]
    · rw [if_pos c1, qI_sI, if_pos ⟨rfl, rfl⟩]
    · rw [qI_sI, if_neg z4, qI_sI, if_neg z2]
    · dsimp only
      rw [qA_sI, qA_sI, lr_none nd]
      simp
    · rw [qA_sI, qA_sI, if_neg (fun z => np z.2.1)]
    · rw [qA_sI, qA_sI]
  by_cases cp : kWP o
  · have n73 : ¬ o = 73 := fun z => by rw [z] at cp; revert cp; unfold kWP; decide
    have nd : ¬ kWD o := wWD o cp
    have ev : hI h 588 wd = nI (16 + pn (nI d)) := by
      rw [hv]
      unfold kWr
      rw [if_pos cp, pn_is]
      exact nI_add 16 _
    obtain ⟨v, t1, t2⟩ := c_act_p W2 hF hw hk ha la hb lb hd ev (by rw [ho]; exact c0) (by rw [ho]; exact c1) (by rw [ho]; exact n73) (fun i => if o = 30 then decide (X i < Y i) else if o = 32 then decide (X i < n) else if o < 32 then decide (X i = Y i) else decide (X i = n)) (fun i hi => by rw [ho, hn, eX i hi, eY i hi]) dm hm
    refine ⟨_, t1, ⟨?_, ?_, ?_, ?_, ?_, fun f c z1 z2 z3 z4 => ?_, fun i r hi hr => ?_, fun p i hp hi => ?_, fun c j _ z _ => ?_⟩⟩
    · simp only [qT_sA, qU_sA, qK_sA, qN_sA, qR_sA, qQ_sA, qL_sA, and_self]
    · rw [if_neg c0, qI_sA]
    · rw [if_neg c1, qI_sA]
    · rw [if_neg c0, qI_sA]
    · rw [if_neg c1, qI_sA]
    · rw [qI_sA]
    · dsimp only
      rw [qA_sA, if_neg (fun z => d4 z.1.symm), lr_none nd]
      simp
    · rw [qA_sA]
      by_cases ep : p = pn (nI d)
      · rw [if_pos ⟨rfl, ep⟩, t2 i hi]
        by_cases q : bt dm i = true
        · rw [if_pos q, if_pos ⟨q, cp, ep⟩, ho]
          have hiL := hm i hi q
          exact tr_lt cp rfl (by rw [eP _ i hi (pn_lt _)]; exact (hs3_bt _ _).symm) (by rw [eP _ i hi (pn_lt _)]; exact (hs3_bt _ _).symm) e70 e71
        · rw [if_neg q, if_neg (fun z => q z.1), ep]
      · rw [if_neg (fun z => ep z.2), if_neg (fun z => ep z.2.2)]
    · rw [qA_sA, if_neg (fun y => z y.1)]
  by_cases c73 : o = 73
  · have kd : kWD o := by rw [c73]; unfold kWD; decide
    refine ⟨_, c_act_x W2 hF hw hk ha la hd ld hn (by rw [ho]; exact c73) hp2 dm, ⟨?_, ?_, ?_, ?_, ?_, fun f c z1 z2 z3 z4 => ?_, fun i r hi hr => ?_, fun p i hp hi => ?_, fun c j z1 _ z3 => ?_⟩⟩
    · simp only [qT_oA, qU_oA, qK_oA, qN_oA, qR_oA, qQ_oA, qL_oA, and_self]
    · rw [if_neg c0, qI_oA]
    · rw [if_neg c1, qI_oA]
    · rw [if_neg c0, qI_oA]
    · rw [if_neg c1, qI_oA]
    · rw [qI_oA]
    · dsimp only
      rw [qA_oA]
      by_cases er : r = d
      · subst er
        rw [fx_i (i := i) (by decide) (by omega), fr_o d2]
        by_cases q : bt dm i = true
        · have hl73 : lR o n (X i) (Y i) (OL i) (TV i) (EX i) vo (hs3 (PR i) n) = some (EX i) := by
            unfold lR
            rw [if_neg (by rw [c73]; decide), if_neg (by rw [c73]; decide), if_neg (by rw [c73]; decide), if_neg (by rw [c73]; decide), if_pos c73]
          rw [if_pos ⟨hi, q⟩, eE c73 i hi q, if_pos ⟨q, rfl⟩, hl73]
          rfl
        · rw [if_neg (fun z => q z.2), if_neg (fun z => q z.1)]
      · rw [fx_c (fun j hj => by omega), fr_o d2, if_neg (fun z => er z.2)]
    · rw [qA_oA, fx_o d4, fr_o d6, if_neg (fun z => cp z.2.1)]
    · rw [qA_oA, fx_o z1, fr_o z3]
  by_cases cd : kWD o
  · have ev : hI h 588 wd = nI d := by
      rw [hv]
      unfold kWr
      rw [if_neg cp, if_pos cd]
    refine ⟨_, c_act_r W2 hF hw hk hbl kb ha la hb lb hd ld ev (by rw [ho]; exact c0) (by rw [ho]; exact c1) (by rw [ho]; exact c73) dm, ⟨?_, ?_, ?_, ?_, ?_, fun f c z1 z2 z3 z4 => ?_, fun i r hi hr => ?_, fun p i hp hi => ?_, fun c j z1 _ _ => ?_⟩⟩
    · simp only [qT_oA, qU_oA, qK_oA, qN_oA, qR_oA, qQ_oA, qL_oA, and_self]
    · rw [if_neg c0, qI_oA]
    · rw [if_neg c1, qI_oA]
    · rw [if_neg c0, qI_oA]
    · rw [if_neg c1, qI_oA]
    · rw [qI_oA]
    · dsimp only
      rw [qA_oA]
      by_cases er : r = d
      · subst er
        rw [fx_i (i := i) (by decide) (by omega)]
        by_cases q : bt dm i = true
        · have := cv_lr (hc := h) (w := w) (bl := bl) (rg := rg) (pr := pr) (i := i) (a := a) (b := b) (kk := cn (bt (hA h pr (pn (nI a)) &&& dm)) 32) (o := o) (n := n) (x := X i) (y := Y i) (old := OL i) (tv := TV i) (ex := EX i) (vo := vo) (prd := PR i) kk0 km o0 cd c73 (eX i hi) (eY i hi) (eT i hi) (eO i hi q) eV (by rw [eP _ i (by omega) (pn_lt _)]; exact (hs3_bt _ _).symm) (fun z => hz z i hi q)
          rw [if_pos ⟨hi, q⟩, if_pos ⟨q, rfl⟩, this, ho, hn]
          rfl
        · rw [if_neg (fun z => q z.2), if_neg (fun z => q z.1)]
      · rw [fx_c (fun j hj => by omega), if_neg (fun z => er z.2)]
    · rw [qA_oA, fx_o d4, if_neg (fun z => cp z.2.1)]
    · rw [qA_oA, fx_o z1]
  · have ev : hI h 588 wd = -1 := by
      rw [hv]
      unfold kWr
      rw [if_neg cp, if_neg cd]
    refine ⟨_, c_act_n W2 hF hw hk (by rw [ho]; exact c0) (by rw [ho]; exact c1) (by rw [ho]; exact c73) ev dm, ⟨⟨rfl, rfl, rfl, rfl, rfl, rfl, rfl⟩, ?_, ?_, ?_, ?_, fun f c z1 z2 z3 z4 => rfl, fun i r hi hr => ?_, fun p i hp hi => ?_, fun c j _ _ _ => rfl⟩⟩
    · rw [if_neg c0]
    · rw [if_neg c1]
    · rw [if_neg c0]
    · rw [if_neg c1]
    · dsimp only
      rw [lr_none cd]
      simp
    · rw [if_neg (fun z => cp z.2.1)]
