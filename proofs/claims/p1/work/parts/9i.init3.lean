/-! the class's constructor, whole -/
theorem c_Sizes_init {F : Nat} {h : Hp} {a : Nat} (k : hK h a = 2) : f_Sizes_init F a h = some (szSet h a 4 4 2 4 2 512) := by
  rw [f_Sizes_init, gd_t k, pw_e, pw_e, pw_e, pw_e, pw_e, pw_e]
  unfold szSet
  rfl
theorem szS_k (h : Hp) (a : Nat) : hK (szSet h a 4 4 2 4 2 512) = hK h ∧ hT (szSet h a 4 4 2 4 2 512) = hT h := by
  obtain ⟨_, _, i3, _, i5, _⟩ := sz_i h a 4 4 2 4 2 512
  exact ⟨i5, i3⟩
theorem wm_2 {F x : Nat} {h : Hp} (t : hT h = x + 11) (k : hK h x = 1) : (gd (hK h x = 1) <| pw (sR h 2 x (some (x + 3))) fun h_33_2 => pw (hT h_33_2) fun a_37 => pw (nw h_33_2 6 0 14) fun h_37_2 => clv (f_Tally_init F a_37 h_37_2) fun h_41 => gd (hK h_41 x = 1) <| pw (sR h_41 3 x (some a_37)) fun h_44_2 => pw (hT h_44_2) fun a_50 => pw (nw h_44_2 121 8 8) fun h_50_2 => gd (hK h_50_2 x = 1) <| pw (sR h_50_2 4 x (some a_50)) fun h_53_2 => pw (hT h_53_2) fun a_59 => pw (nw h_53_2 122 64 64) fun h_59_2 => gd (hK h_59_2 x = 1) <| pw (sR h_59_2 5 x (some a_59)) fun h_62_2 => pw (hT h_62_2) fun a_65 => pw (nw h_62_2 10 0 15) fun h_65_2 => clv (f_Word_init F a_65 (0 : Int64) h_65_2) fun h_70 => b_WM_init_76 F F x a_65 (0 : Int32) h_70) = clv (f_Word_init F (x + 14) 0 (hC h x)) fun h_70 => b_WM_init_76 F F x (x + 14) (0 : Int32) h_70 := by
  have ti : f_Tally_init F (x + 11) (nw (sR h 2 x (some (x + 3))) 6 0 14) = some (sI (nw (sR h 2 x (some (x + 3))) 6 0 14) 320 (x + 11) 0) := by
    rw [f_Tally_init, gd_t (by rw [qK_nw, qT_sR, t, if_pos rfl]), pw_e]
  have k1 : hK (sI (nw (sR h 2 x (some (x + 3))) 6 0 14) 320 (x + 11) 0) x = 1 := by rw [qK_sI, qK_nw, qT_sR, t, if_neg (by omega), qK_sR]; exact k
  have t1 : hT (sI (nw (sR h 2 x (some (x + 3))) 6 0 14) 320 (x + 11) 0) = x + 12 := by rw [qT_sI, qT_nw, qT_sR, t]
  rw [gd_t k, pw_e, pw_e, qT_sR, t, pw_e, ti, clv_some, gd_t k1, pw_e, pw_e, qT_sR, t1, pw_e, gd_t (by rw [qK_nw, qT_sR, t1, if_neg (by omega), qK_sR]; exact k1), pw_e, pw_e, qT_sR, qT_nw, qT_sR, t1, pw_e, gd_t (by rw [qK_nw, qT_sR, qT_nw, qT_sR, t1, if_neg (by omega), qK_sR, qK_nw, qT_sR, t1, if_neg (by omega), qK_sR]; exact k1), pw_e, pw_e, qT_sR, qT_nw, qT_sR, qT_nw, qT_sR, t1, pw_e]
  unfold hC
  rfl
theorem wm_1 {F x : Nat} (hF : 40000 ≤ F) : f_WM_init F x (nw (h00 x) 1 0 6) = clv (f_Word_init F (x + 14) 0 (hC (hMem (hP x) x) x)) fun h_70 => b_WM_init_76 F F x (x + 14) (0 : Int32) h_70 := by
  obtain ⟨p1, p2, p3⟩ := f_hP x
  have im := i_mem (F := F) hF p1 p3.2.2.2.1
  obtain ⟨t1, t2, A⟩ := f_mem (x := x) p1
  have t0 : hT (h00 x) = x := rfl
  have s1 : hT (szSet (nw (nw (h00 x) 1 0 6) 2 0 6) (x + 1) 4 4 2 4 2 512) = x + 2 := by rw [(szS_k _ _).2, qT_nw, qT_nw, t0]
  have s2 : hK (szSet (nw (nw (h00 x) 1 0 6) 2 0 6) (x + 1) 4 4 2 4 2 512) x = 1 := by rw [(szS_k _ _).1, qK_nw, qT_nw, t0, if_neg (by omega), qK_nw, t0, if_pos rfl]
  have si := c_Sizes_init (F := F) (h := nw (nw (h00 x) 1 0 6) 2 0 6) (a := x + 1) (by rw [qK_nw, qT_nw, t0, if_pos rfl])
  have mk : hK (hMem (hP x) x) x = 1 := by rw [(A.2 x (by omega)).1]; exact p3.1
  unfold hP at im
  rw [f_WM_init, pw_e, qT_nw, t0, pw_e, si, clv_some, gd_t s2, pw_e, pw_e, qT_sR, s1, pw_e, gd_t (by rw [qK_nw, qT_sR, s1, if_neg (by omega), qK_sR]; exact s2), pw_e, pw_e, qT_sR, qT_nw, qT_sR, s1, pw_e, im, clv_some]
  exact wm_2 t1 mk
/-- what the constructor leaves -/
def CIni (k : Hp) (x : Nat) : Prop := PreF k x ∧ MemF k x ∧ PosF k x ∧ (∀ j, j < 128 → hQ k (x + 2) j = some (x + 14)) ∧ WordIs k (x + 14) 0 ∧ (∀ u, u < 8 → UnF k x u) ∧ x + 39 ≤ hT k
theorem CIni.fr {h k : Hp} {x : Nat} (I : CIni h x) (hx : x + 39 ≤ hT h) (A : Fr (fun _ a => x + 39 ≤ a) h k) : CIni k x := by
  obtain ⟨i1, i2, i3, i4, i5, i6, i7⟩ := I
  have hT1 := A.1
  have c : ∀ a, a < x + 39 → hK k a = hK h a ∧ hN k a = hN h a ∧ (∀ f, hI k f a = hI h f a ∧ hR k f a = hR h f a) ∧ (∀ j, hA k a j = hA h a j ∧ hQ k a j = hQ h a j) := fun a h1 => by
    obtain ⟨v1, v2, v3, v4⟩ := A.2 a (by omega)
    exact ⟨v1, v2, fun f => v3 f (fun y => by omega), fun j => ⟨(v4 (fun y => by omega) j).1, (v4 (fun y => by omega) j).2.1⟩⟩
  obtain ⟨a1, a2, a3, a4⟩ := c x (by omega)
  obtain ⟨b1, b2, b3, b4⟩ := c (x + 1) (by omega)
  obtain ⟨c1, c2, c3, c4⟩ := c (x + 2) (by omega)
  obtain ⟨d1, d2, d3, d4⟩ := c (x + 3) (by omega)
  obtain ⟨e1, e2, e3, e4⟩ := c (x + 11) (by omega)
  obtain ⟨f1, f2, f3, f4⟩ := c (x + 12) (by omega)
  obtain ⟨g1, g2, g3, g4⟩ := c (x + 13) (by omega)
  obtain ⟨h1, h2, h3, h4⟩ := c (x + 14) (by omega)
  refine ⟨?_, i2.fr (by omega) (A.mono (fun f a _ y => by omega)), ?_, fun j hj => by rw [(c4 j).2]; exact i4 j hj, i5.same h1 (fun f _ _ => (h3 f).1), fun u hu => (i6 u hu).fr (by omega) (f4 u).2 (A.mono (fun f a ha y => by omega)), by omega⟩
  · unfold PreF at i1 ⊢
    simp only [a1, (a3 _).2, b1, (b3 _).1, c1, c2, d1]
    exact i1
  · unfold PosF at i3 ⊢
    simp only [(a3 _).2, e1, (e3 _).1, f1, f2, g1, g2, (g4 _).2, h1]
    exact i3
theorem fr_wSetI (h : Hp) (y : Nat) (w : Int64) : Fr (fun f a => a = y ∧ 576 ≤ f) h (wSet h y w) := by
  have q : ∀ P : Nat → Nat → Prop, (∀ f, 576 ≤ f → P f y) → Fr P h (wSet h y w) := fun P p => by
    unfold wSet
    exact (((((((((((((((Fr.refl h).cI (p _ (by omega))).cI (p _ (by omega))).cI (p _ (by omega))).cI (p _ (by omega))).cI (p _ (by omega))).cI (p _ (by omega))).cI (p _ (by omega))).cI (p _ (by omega))).cI (p _ (by omega))).cI (p _ (by omega))).cI (p _ (by omega))).cI (p _ (by omega))).cI (p _ (by omega))).cI (p _ (by omega))).cI (p _ (by omega))
  exact q _ (fun f hf => ⟨rfl, hf⟩)
theorem PreF.fr {h k : Hp} {x : Nat} (P : PreF h x) (hx : x + 3 < hT h) (A : Fr (fun f a => (a = x + 2 ∧ f = 9999) ∨ x + 4 ≤ a) h k) : PreF k x := by
  have c : ∀ a, a < x + 4 → hK k a = hK h a ∧ hN k a = hN h a ∧ ∀ f, ¬ f = 9999 → hI k f a = hI h f a ∧ hR k f a = hR h f a := fun a ha => by
    obtain ⟨v1, v2, v3, v4⟩ := A.2 a (by omega)
    exact ⟨v1, v2, fun f n => v3 f (fun y => by omega)⟩
  obtain ⟨a1, a2, a3⟩ := c x (by omega)
  obtain ⟨b1, b2, b3⟩ := c (x + 1) (by omega)
  obtain ⟨c1, c2, c3⟩ := c (x + 2) (by omega)
  obtain ⟨d1, d2, d3⟩ := c (x + 3) (by omega)
  obtain ⟨p1, ⟨p2, p3⟩, ⟨p4, p5, p6⟩, p7, q0, q1, q2, q3, q4, q5⟩ := P
  exact ⟨by rw [a1]; exact p1, ⟨by rw [(a3 0 (by omega)).2]; exact p2, by rw [b1]; exact p3⟩, ⟨by rw [(a3 1 (by omega)).2]; exact p4, by rw [c1]; exact p5, by rw [c2]; exact p6⟩, by rw [d1]; exact p7, by rw [(b3 64 (by omega)).1]; exact q0, by rw [(b3 65 (by omega)).1]; exact q1, by rw [(b3 66 (by omega)).1]; exact q2, by rw [(b3 67 (by omega)).1]; exact q3, by rw [(b3 68 (by omega)).1]; exact q4, by rw [(b3 69 (by omega)).1]; exact q5⟩
theorem PosF.fr {h k : Hp} {x : Nat} (P : PosF h x) (hx : x + 14 < hT h) (A : Fr (fun f a => ((a = x + 2 ∨ a = x + 12) ∧ f = 9999) ∨ (a = x + 14 ∧ 576 ≤ f) ∨ x + 15 ≤ a) h k) (n9 : hI k 9999 (x + 11) = 0) : PosF k x := by
  obtain ⟨p1, ⟨p2, p3⟩, ⟨p4, p5, p6⟩, ⟨p7, p8, p9⟩, p10, p11, p12⟩ := P
  have r : ∀ f, f ≤ 5 → hR k f x = hR h f x := fun f hf => ((A.2 x (by omega)).2.2.1 f (fun y => by omega)).2
  exact ⟨by rw [r _ (by omega)]; exact p1, ⟨by rw [r _ (by omega)]; exact p2, by rw [(A.2 (x + 11) (by omega)).1]; exact p3⟩, ⟨by rw [r _ (by omega)]; exact p4, by rw [(A.2 (x + 12) (by omega)).1]; exact p5, by rw [(A.2 (x + 12) (by omega)).2.1]; exact p6⟩, ⟨by rw [r _ (by omega)]; exact p7, by rw [(A.2 (x + 13) (by omega)).1]; exact p8, by rw [(A.2 (x + 13) (by omega)).2.1]; exact p9⟩, by rw [(A.2 (x + 14) (by omega)).1]; exact p10, fun f => by rw [((A.2 (x + 11) (by omega)).2.2.1 f (fun y => by omega)).1]; exact p11 f, fun j => by rw [((A.2 (x + 13) (by omega)).2.2.2 (fun y => by omega) j).2.1]; exact p12 j⟩
theorem wm_3 {F x : Nat} (hF : 40000 ≤ F) {h : Hp} (P : PreF h x) (M : MemF h x) (Q : PosF h x) (W : WordIs h (x + 14) 0) (t : hT h = x + 15) (u : hU h = 4517) : ∃ k, b_WM_init_76 F F x (x + 14) 0 h = some k ∧ CIni k x ∧ hT k = x + 39 ∧ hU k = 4965 := by
  obtain ⟨k1, r1, r2, r3, r4, r5⟩ := kn_loop (F := F) (x := x) 128 0 F h (by omega) (by omega) P.1 P.2.2.1.1 P.2.2.1.2.1 P.2.2.1.2.2 Q.2.2.2.2.1 (by omega) (fun j hj => by omega)
  have P1 : PreF k1 x := P.fr (by omega) (r2.mono (fun f a _ y => by omega))
  have M1 : MemF k1 x := M.fr (by omega) (r2.mono (fun f a _ y => by omega))
  have Q1 : PosF k1 x := Q.fr (by omega) (r2.mono (fun f a _ y => by omega)) (by rw [((r2.2 (x + 11) (by omega)).2.2.1 9999 (fun y => by omega)).1]; exact Q.2.2.2.2.2.1 9999)
  have W1 : WordIs k1 (x + 14) 0 := W.same (r2.2 (x + 14) (by omega)).1 (fun f _ _ => ((r2.2 (x + 14) (by omega)).2.2.1 f (fun y => by omega)).1)
  obtain ⟨k, s1, s2, s3, s4, s5⟩ := un_loop (F := F) (x := x) 8 0 F k1 (by omega) (by omega) (by omega) P1.1 Q1.2.2.1.1 Q1.2.2.1.2.1 Q1.2.2.1.2.2 P1.2.1.1 P1.2.1.2 P1.2.2.2.2.2.1 (fun u hu => by omega)
  have hk1 : hT k1 = x + 15 := by omega
  refine ⟨k, r1.trans s1, ⟨P1.fr (by omega) (s4.mono (fun f a _ y => by omega)), M1.fr (by omega) (s4.mono (fun f a _ y => by omega)), Q1.fr (by omega) (s4.mono (fun f a _ y => by omega)) (by rw [((s4.2 (x + 11) (by omega)).2.2.1 9999 (fun y => by omega)).1]; exact Q1.2.2.2.2.2.1 9999), fun j hj => by rw [((s4.2 (x + 2) (by omega)).2.2.2 (fun y => by omega) j).2.1]; exact r5 j hj, W1.same (s4.2 (x + 14) (by omega)).1 (fun f _ _ => ((s4.2 (x + 14) (by omega)).2.2.1 f (fun y => by omega)).1), s5, by omega⟩, s2, by omega⟩
theorem c_WM_init {F x : Nat} (hF : 40000 ≤ F) : ∃ k, f_WM_init F x (nw (h00 x) 1 0 6) = some k ∧ CIni k x ∧ hT k = x + 39 ∧ hU k = 4965 := by
  obtain ⟨p1, p2, p3⟩ := f_hP x
  obtain ⟨t1, t2, A1⟩ := f_mem (x := x) p1
  have m1 := f_memF (x := x) p1
  obtain ⟨u1, u2, u3, u4, A2⟩ := f_hC (x := x) t1
  have p4 : PreF (hMem (hP x) x) x := by
    have c : ∀ a, a < x + 3 → hK (hMem (hP x) x) a = hK (hP x) a ∧ hN (hMem (hP x) x) a = hN (hP x) a ∧ (∀ f, hI (hMem (hP x) x) f a = hI (hP x) f a ∧ hR (hMem (hP x) x) f a = hR (hP x) f a) := fun a ha => by
      obtain ⟨v1, v2, v3, v4⟩ := A1.2 a (by omega)
      exact ⟨v1, v2, fun f => v3 f (fun y => by omega)⟩
    obtain ⟨a1, a2, a3⟩ := c x (by omega)
    obtain ⟨b1, b2, b3⟩ := c (x + 1) (by omega)
    obtain ⟨c1, c2, c3⟩ := c (x + 2) (by omega)
    have d1 := (A1.2 (x + 3) (by omega)).1
    unfold PreF at p3 ⊢
    simp only [a1, (a3 _).2, b1, (b3 _).1, c1, c2, d1]
    exact p3
  have p5 : PreF (hC (hMem (hP x) x) x) x := by
    have c : ∀ a, a < x + 11 → hK (hC (hMem (hP x) x) x) a = hK (hMem (hP x) x) a ∧ hN (hC (hMem (hP x) x) x) a = hN (hMem (hP x) x) a ∧ (¬ a = x → ∀ f, hI (hC (hMem (hP x) x) x) f a = hI (hMem (hP x) x) f a) := fun a ha => by
      obtain ⟨v1, v2, v3, v4⟩ := A2.2 a (by omega)
      exact ⟨v1, v2, fun n f => (v3 f (fun y => by omega)).1⟩
    obtain ⟨a1, a2, a3⟩ := c x (by omega)
    obtain ⟨b1, b2, b3⟩ := c (x + 1) (by omega)
    obtain ⟨c1, c2, c3⟩ := c (x + 2) (by omega)
    obtain ⟨d1, d2, d3⟩ := c (x + 3) (by omega)
    have b4 := b3 (by omega)
    unfold PreF at p4 ⊢
    simp only [a1, u4.1, u4.2, b1, b4, c1, c2, d1]
    exact p4
  have m2 : MemF (hC (hMem (hP x) x) x) x := m1.fr (by omega) (A2.mono (fun f a _ y => by omega))
  have kn : hK (hC (hMem (hP x) x) x) (x + 14) = 10 := u3.2.2.2.2.1
  have w1 := wm_1 (F := F) (x := x) hF
  rw [c_Word_init kn, clv_some] at w1
  have wi := wSet_is (hC (hMem (hP x) x) x) (x + 14) 0 kn
  obtain ⟨o1, o2, o3, o4, o5, o6⟩ := wSet_o (hC (hMem (hP x) x) x) (x + 14) 0
  have A3 : Fr (fun f a => a = x + 14 ∧ 576 ≤ f) (hC (hMem (hP x) x) x) (wSet (hC (hMem (hP x) x) x) (x + 14) 0) := fr_wSetI _ _ _
  have P6 := p5.fr (by omega) (A3.mono (fun f a _ y => by omega))
  have M6 := m2.fr (by omega) (A3.mono (fun f a _ y => by omega))
  have Q6 := u3.fr (by omega) (A3.mono (fun f a _ y => by omega)) (by rw [((A3.2 (x + 11) (by omega)).2.2.1 9999 (fun y => by omega)).1]; exact u3.2.2.2.2.2.1 9999)
  obtain ⟨k, r1, r2, r3, r4⟩ := wm_3 (F := F) hF P6 M6 Q6 wi (o1.trans u1) (by rw [o2, u2, t2, p2])
  exact ⟨k, w1.trans r1, r2, r3, r4⟩
