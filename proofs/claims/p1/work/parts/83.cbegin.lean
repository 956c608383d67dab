/-! the class makes and begins warps and blocks -/
/-- a new array, known by a field -/
def NwF (h k : Hp) (w f n u : Nat) : Prop := (hT k = hT h + 1 ∧ hU k = hU h + u) ∧ Fr (fun g a => a = w ∧ g = f) h k ∧ (hK k (hT h) = 100 ∧ hN k (hT h) = n ∧ hR k f w = some (hT h)) ∧ (∀ j, hA k (hT h) j = 0) ∧ (hI k = fun g a => if a = hT h then 0 else hI h g a)
theorem nwf (h : Hp) (w f n u : Nat) : NwF h (sR (nw h 100 n u) f w (some (hT h))) w f n u := by
  refine ⟨⟨by rw [qT_sR, qT_nw], by rw [qU_sR, qU_nw]⟩, ((Fr.refl h).cN 100 n u).cR ⟨rfl, rfl⟩, ⟨by rw [qK_sR, qK_nw, if_pos rfl], by rw [qN_sR, qN_nw, if_pos rfl], by rw [qR_sR, if_pos ⟨rfl, rfl⟩]⟩, fun j => by rw [qA_sR, qA_nw, if_pos rfl], ?_⟩
  funext g a
  rw [qI_sR, qI_nw]
theorem ln16 {ln : Nat} (l32 : ln ≤ 32) : nI ln * 16 = nI (16 * ln) ∧ ¬ nI (16 * ln) < 0 ∧ (nI (16 * ln)).toNatClampNeg = 16 * ln ∧ ¬ nI ln < 0 ∧ (nI ln).toNatClampNeg = ln := ⟨m_16 ln, nI_pos (by omega), nI_clamp (by omega), nI_pos (by omega), nI_clamp (by omega)⟩
/-- what a warp has that was just made -/
def WNew (h : Hp) (w p0 ln : Nat) : Prop := (hR h 526 w = some p0 ∧ hK h p0 = 100 ∧ hN h p0 = 4) ∧ (hR h 527 w = some (p0 + 1) ∧ hK h (p0 + 1) = 100 ∧ hN h (p0 + 1) = 20) ∧ (hR h 523 w = some (p0 + 2) ∧ hK h (p0 + 2) = 100 ∧ hN h (p0 + 2) = 16 * ln) ∧ (hR h 524 w = some (p0 + 3) ∧ hK h (p0 + 3) = 100 ∧ hN h (p0 + 3) = ln) ∧ (hR h 525 w = some (p0 + 4) ∧ hK h (p0 + 4) = 100 ∧ hN h (p0 + 4) = ln)
theorem c_Warp_init {F : Nat} {h : Hp} {w ln : Nat} (k9 : hK h w = 9) (wT : w < hT h) (l32 : ln ≤ 32) : ∃ k, f_Warp_init F w (nI ln) h = some k ∧ hT k = hT h + 5 ∧ hU k = hU h + (24 + 18 * ln) ∧ Fr (fun g a => a = w ∧ 523 ≤ g ∧ g ≤ 527) h k ∧ WNew k w (hT h) ln := by
  obtain ⟨e1, e2, e3, e4, e5⟩ := ln16 l32
  have s1 := nwf h w 526 4 4
  have s2 := nwf (sR (nw h 100 4 4) 526 w (some (hT h))) w 527 20 20
  have s3 := nwf (sR (nw (sR (nw h 100 4 4) 526 w (some (hT h))) 100 20 20) 527 w (some (hT (sR (nw h 100 4 4) 526 w (some (hT h)))))) w 523 (16 * ln) (16 * ln)
  have hf : ∀ {h1 k1 : Hp} {f n u : Nat}, NwF h1 k1 w f n u → w < hT h1 → hK h1 w = 9 → hK k1 w = 9 ∧ w < hT k1 := fun {h1 k1 f n u} X a b => ⟨by rw [(X.2.1.2 w a).1]; exact b, by rw [X.1.1]; omega⟩
  unfold f_Warp_init
  simp only [pw_e]
  rw [e1, e3, e5]
  generalize hk1 : sR (nw h 100 4 4) 526 w (some (hT h)) = k1 at *
  generalize hk2 : sR (nw k1 100 20 20) 527 w (some (hT k1)) = k2 at *
  generalize hk3 : sR (nw k2 100 (16 * ln) (16 * ln)) 523 w (some (hT k2)) = k3 at *
  have s4 := nwf k3 w 524 ln ln
  generalize hk4 : sR (nw k3 100 ln ln) 524 w (some (hT k3)) = k4 at *
  have s5 := nwf k4 w 525 ln ln
  generalize hk5 : sR (nw k4 100 ln ln) 525 w (some (hT k4)) = k5 at *
  have b1 := hf s1 wT k9
  have b2 := hf s2 b1.2 b1.1
  have b3 := hf s3 b2.2 b2.1
  have b4 := hf s4 b3.2 b3.1
  have nk : ∀ {h1 : Hp} {n u : Nat}, w < hT h1 → hK h1 w = 9 → hK (nw h1 100 n u) w = 9 := fun {h1 n u} a b => by rw [qK_nw, if_neg (by omega)]; exact b
  rw [gd_t (nk wT k9), gd_t (nk b1.2 b1.1), gd_t e2, gd_t (by omega), gd_t (nk b2.2 b2.1), gd_t e4, gd_t (by omega), gd_t (nk b3.2 b3.1), gd_t e4, gd_t (by omega), gd_t (nk b4.2 b4.1)]
  obtain ⟨⟨x1, y1⟩, f1, ⟨a1, a2, a3⟩, _⟩ := s1
  obtain ⟨⟨x2, y2⟩, f2, ⟨c1, c2, c3⟩, _⟩ := s2
  obtain ⟨⟨x3, y3⟩, f3, ⟨d1, d2, d3⟩, _⟩ := s3
  obtain ⟨⟨x4, y4⟩, f4, ⟨g1, g2, g3⟩, _⟩ := s4
  obtain ⟨⟨x5, y5⟩, f5, ⟨i1, i2, i3⟩, _⟩ := s5
  have m : ∀ {h1 k1 : Hp} {f : Nat}, 523 ≤ f → f ≤ 527 → Fr (fun g a => a = w ∧ g = f) h1 k1 → Fr (fun g a => a = w ∧ 523 ≤ g ∧ g ≤ 527) h1 k1 := fun {h1 k1 f} p q X => X.mono (fun g a _ z => ⟨z.1, by omega, by omega⟩)
  have kp : ∀ {h1 k1 : Hp} {f a : Nat}, Fr (fun g a => a = w ∧ g = f) h1 k1 → a < hT h1 → hK k1 a = hK h1 a ∧ hN k1 a = hN h1 a := fun {h1 k1 f a} X l => ⟨(X.2 a l).1, (X.2 a l).2.1⟩
  have rp : ∀ {h1 k1 : Hp} {f g : Nat}, Fr (fun g a => a = w ∧ g = f) h1 k1 → w < hT h1 → ¬ g = f → hR k1 g w = hR h1 g w := fun {h1 k1 f g} X l n => ((X.2 w l).2.2.1 g (fun z => n z.2)).2
  refine ⟨k5, rfl, by omega, by omega, ((((m (by omega) (by omega) f1).trans (m (by omega) (by omega) f2)).trans (m (by omega) (by omega) f3)).trans (m (by omega) (by omega) f4)).trans (m (by omega) (by omega) f5), ⟨?_, ?_, ?_⟩, ⟨?_, ?_, ?_⟩, ⟨?_, ?_, ?_⟩, ⟨?_, ?_, ?_⟩, ⟨?_, ?_, ?_⟩⟩
  · rw [rp f5 b4.2 (by omega), rp f4 b3.2 (by omega), rp f3 b2.2 (by omega), rp f2 b1.2 (by omega)]; exact a3
  · rw [(kp f5 (by omega)).1, (kp f4 (by omega)).1, (kp f3 (by omega)).1, (kp f2 (by omega)).1]; exact a1
  · rw [(kp f5 (by omega)).2, (kp f4 (by omega)).2, (kp f3 (by omega)).2, (kp f2 (by omega)).2]; exact a2
  · rw [rp f5 b4.2 (by omega), rp f4 b3.2 (by omega), rp f3 b2.2 (by omega), c3, x1]
  · rw [(kp f5 (by omega)).1, (kp f4 (by omega)).1, (kp f3 (by omega)).1, ← x1]; exact c1
  · rw [(kp f5 (by omega)).2, (kp f4 (by omega)).2, (kp f3 (by omega)).2, ← x1]; exact c2
  · rw [rp f5 b4.2 (by omega), rp f4 b3.2 (by omega), d3]; congr 1; omega
  · rw [(kp f5 (by omega)).1, (kp f4 (by omega)).1, show hT h + 2 = hT k2 by omega]; exact d1
  · rw [(kp f5 (by omega)).2, (kp f4 (by omega)).2, show hT h + 2 = hT k2 by omega]; exact d2
  · rw [rp f5 b4.2 (by omega), g3]; congr 1; omega
  · rw [(kp f5 (by omega)).1, show hT h + 3 = hT k3 by omega]; exact g1
  · rw [(kp f5 (by omega)).2, show hT h + 3 = hT k3 by omega]; exact g2
  · rw [i3]; congr 1; omega
  · rw [show hT h + 4 = hT k4 by omega]; exact i1
  · rw [show hT h + 4 = hT k4 by omega]; exact i2
theorem pres_bt {T i : Nat} (hT1 : T ≤ 32) (hi : i < 32) : bt (if nI T < 32 then ((1 : Int32) <<< (nI T &&& 31)) - 1 else -1) i = decide (i < T) := by
  by_cases z : T < 32
  · rw [if_pos (show nI T < 32 from nI_lt z (by decide))]
    have e : ∀ T, T < 32 → ((1 : Int32) <<< (nI T &&& 31)) - 1 = nI (2 ^ T - 1) := by decide +kernel
    rw [e T z, bt_nI _ hi, Nat.testBit_two_pow_sub_one]
  · have : T = 32 := by omega
    subst this
    rw [if_neg (by decide), b_m1 i hi, decide_eq_true hi]
/-- what a warp is after its beginning -/
def WBeg (h k : Hp) (w rg pl pr ti bl n ln L T : Nat) : Prop := (hR k 512 w = some bl) ∧ (hI k 513 w = nI n) ∧ (hI k 514 w = nI ln) ∧ (∀ i, i < 32 → bt (hI k 515 w) i = decide (i < T)) ∧ (hI k 516 w = 0) ∧ (hI k 517 w = 0) ∧ (hI k 522 w = 0) ∧ (∀ j, j < 16 * L → hA k rg j = 0) ∧ (∀ j, j < L → hA k pl j = 0) ∧ (∀ j, j < 4 → hA k pr j = 0) ∧ (∀ j, j < 20 → hA k ti j = 0)
theorem c_begin_98 {F : Nat} {h : Hp} {w rg pl pr ti L : Nat} (hF : 40000 ≤ F) (k9 : hK h w = 9) (l32 : L ≤ 32) (r1 : hR h 523 w = some rg ∧ hK h rg = 100 ∧ hN h rg = 16 * L) (r2 : hR h 524 w = some pl ∧ hK h pl = 100 ∧ hN h pl = L) (r4 : hR h 526 w = some pr ∧ hK h pr = 100 ∧ hN h pr = 4) (r5 : hR h 527 w = some ti ∧ hK h ti = 100 ∧ hN h ti = 20) (d1 : ¬ rg = pl) (d2 : ¬ rg = pr) (d3 : ¬ rg = ti) (d4 : ¬ pl = pr) (d5 : ¬ pl = ti) (d6 : ¬ pr = ti) : ∃ k, b_Warp_begin_98 F w h = some k ∧ (hT k = hT h ∧ hU k = hU h ∧ hK k = hK h ∧ hN k = hN h ∧ hR k = hR h ∧ hQ k = hQ h ∧ hL k = hL h ∧ hI k = hI h) ∧ (∀ a j, ¬ a = rg → ¬ a = pl → ¬ a = pr → ¬ a = ti → hA k a j = hA h a j) ∧ (∀ j, j < 16 * L → hA k rg j = 0) ∧ (∀ j, j < L → hA k pl j = 0) ∧ (∀ j, j < 4 → hA k pr j = 0) ∧ (∀ j, j < 20 → hA k ti j = 0) := by
  rw [b_Warp_begin_98, gd_t k9, rq_k r1.1 r1.2.1, c_Arrays_fill r1.2.1 0 (by omega) (by omega), clv_some, gd_t (by rw [qK_oA]; exact k9), rq_k (by rw [qR_oA]; exact r2.1) (by rw [qK_oA]; exact r2.2.1), c_Arrays_fill (by rw [qK_oA]; exact r2.2.1) 0 (by rw [qN_oA]; omega) (by rw [qN_oA]; omega), clv_some, gd_t (by rw [qK_oA, qK_oA]; exact k9), rq_k (by rw [qR_oA, qR_oA]; exact r4.1) (by rw [qK_oA, qK_oA]; exact r4.2.1), c_Arrays_fill (by rw [qK_oA, qK_oA]; exact r4.2.1) 0 (by rw [qN_oA, qN_oA]; omega) (by rw [qN_oA, qN_oA]; omega), clv_some, gd_t (by rw [qK_oA, qK_oA, qK_oA]; exact k9), rq_k (by rw [qR_oA, qR_oA, qR_oA]; exact r5.1) (by rw [qK_oA, qK_oA, qK_oA]; exact r5.2.1), c_Arrays_fill (by rw [qK_oA, qK_oA, qK_oA]; exact r5.2.1) 0 (by rw [qN_oA, qN_oA, qN_oA]; omega) (by rw [qN_oA, qN_oA, qN_oA]; omega), clv_some]
  simp only [qN_oA, qA_oA, oA_oA, r1.2.2, r2.2.2, r4.2.2, r5.2.2]
  refine ⟨_, rfl, ⟨rfl, rfl, rfl, rfl, rfl, rfl, rfl, rfl⟩, fun a j n1 n2 n3 n4 => ?_, fun j hj => ?_, fun j hj => ?_, fun j hj => ?_, fun j hj => ?_⟩
  · rw [qA_oA, fr_o n4, fr_o n3, fr_o n2, fr_o n1]
  · rw [qA_oA, fr_o d3, fr_o d2, fr_o d1, fr_i (by omega) hj]
  · rw [qA_oA, fr_o d5, fr_o d4, fr_i (by omega) hj]
  · rw [qA_oA, fr_o d6, fr_i (by omega) hj]
  · rw [qA_oA, fr_i (by omega) hj]
/-- fields of a warp at its beginning -/
def wfH (h : Hp) (w bl n ln : Nat) (ps : Int32) : Hp := sI (sI (sI (sI (sI (sI (sR h 512 w (some bl)) 513 w (nI n)) 514 w (nI ln)) 515 w ps) 516 w 0) 517 w 0) 522 w 0
theorem wf_o (h : Hp) (w bl n ln : Nat) (ps : Int32) : (hT (wfH h w bl n ln ps) = hT h ∧ hU (wfH h w bl n ln ps) = hU h ∧ hK (wfH h w bl n ln ps) = hK h ∧ hN (wfH h w bl n ln ps) = hN h ∧ hQ (wfH h w bl n ln ps) = hQ h ∧ hL (wfH h w bl n ln ps) = hL h ∧ hA (wfH h w bl n ln ps) = hA h) ∧ (∀ f a, ¬ (a = w ∧ f = 512) → hR (wfH h w bl n ln ps) f a = hR h f a) ∧ (∀ f a, ¬ (a = w ∧ ((513 ≤ f ∧ f ≤ 517) ∨ f = 522)) → hI (wfH h w bl n ln ps) f a = hI h f a) ∧ (hR (wfH h w bl n ln ps) 512 w = some bl ∧ hI (wfH h w bl n ln ps) 513 w = nI n ∧ hI (wfH h w bl n ln ps) 514 w = nI ln ∧ hI (wfH h w bl n ln ps) 515 w = ps ∧ hI (wfH h w bl n ln ps) 516 w = 0 ∧ hI (wfH h w bl n ln ps) 517 w = 0 ∧ hI (wfH h w bl n ln ps) 522 w = 0) := by
  unfold wfH
  refine ⟨⟨rfl, rfl, rfl, rfl, rfl, rfl, rfl⟩, fun f a z => ?_, fun f a z => ?_, ?_, ?_, ?_, ?_, ?_, ?_, ?_⟩
  · simp only [qR_sI]
    rw [qR_sR, if_neg (fun y => z ⟨y.2, y.1⟩)]
  · rw [qI_sI, if_neg (by omega), qI_sI, if_neg (by omega), qI_sI, if_neg (by omega), qI_sI, if_neg (by omega), qI_sI, if_neg (by omega), qI_sI, if_neg (by omega), qI_sR]
  · simp only [qR_sI]
    rw [qR_sR, if_pos ⟨rfl, rfl⟩]
  · rw [qI_sI, if_neg (by omega), qI_sI, if_neg (by omega), qI_sI, if_neg (by omega), qI_sI, if_neg (by omega), qI_sI, if_neg (by omega), qI_sI, if_pos ⟨rfl, rfl⟩]
  · rw [qI_sI, if_neg (by omega), qI_sI, if_neg (by omega), qI_sI, if_neg (by omega), qI_sI, if_neg (by omega), qI_sI, if_pos ⟨rfl, rfl⟩]
  · rw [qI_sI, if_neg (by omega), qI_sI, if_neg (by omega), qI_sI, if_neg (by omega), qI_sI, if_pos ⟨rfl, rfl⟩]
  · rw [qI_sI, if_neg (by omega), qI_sI, if_neg (by omega), qI_sI, if_pos ⟨rfl, rfl⟩]
  · rw [qI_sI, if_neg (by omega), qI_sI, if_pos ⟨rfl, rfl⟩]
  · rw [qI_sI, if_pos ⟨rfl, rfl⟩]
