/-! the class's constructor -/
def hP (x : Nat) : Hp := nw (sR (nw (sR (szSet (nw (nw (h00 x) 1 0 6) 2 0 6) (x + 1) 4 4 2 4 2 512) 0 x (some (x + 1))) 120 128 128) 1 x (some (x + 2))) 3 0 4
theorem q_h00 (x : Nat) : hT (h00 x) = x ∧ hU (h00 x) = 0 := ⟨rfl, rfl⟩
def PreF (h : Hp) (x : Nat) : Prop := hK h x = 1 ∧ (hR h 0 x = some (x + 1) ∧ hK h (x + 1) = 2) ∧ (hR h 1 x = some (x + 2) ∧ hK h (x + 2) = 120 ∧ hN h (x + 2) = 128) ∧ hK h (x + 3) = 3 ∧ (hI h 64 (x + 1) = 4 ∧ hI h 65 (x + 1) = 4 ∧ hI h 66 (x + 1) = 2 ∧ hI h 67 (x + 1) = 4 ∧ hI h 68 (x + 1) = 2 ∧ hI h 69 (x + 1) = 512)
theorem f_hP (x : Nat) : hT (hP x) = x + 4 ∧ hU (hP x) = 144 ∧ PreF (hP x) x := by
  obtain ⟨z1, z2⟩ := q_h00 x
  have y1 : ¬ x = x + 1 + 1 + 1 := by omega
  have y2 : ¬ x = x + 1 + 1 := by omega
  unfold PreF hP szSet
  simp [y1, y2, qT_sI, qT_sR, qT_nw, qU_sI, qU_sR, qU_nw, qK_sI, qK_sR, qK_nw, qN_sI, qN_sR, qN_nw, qR_sI, qR_sR, qR_nw, qI_sI, qI_sR, qI_nw, z1, z2]
def hC (h : Hp) (x : Nat) : Hp := nw (sR (nw (sR (nw (sR (sI (nw (sR h 2 x (some (x + 3))) 6 0 14) 320 (x + 11) 0) 3 x (some (x + 11))) 121 8 8) 4 x (some (x + 12))) 122 64 64) 5 x (some (x + 13))) 10 0 15
def PosF (h : Hp) (x : Nat) : Prop := hR h 2 x = some (x + 3) ∧ (hR h 3 x = some (x + 11) ∧ hK h (x + 11) = 6) ∧ (hR h 4 x = some (x + 12) ∧ hK h (x + 12) = 121 ∧ hN h (x + 12) = 8) ∧ (hR h 5 x = some (x + 13) ∧ hK h (x + 13) = 122 ∧ hN h (x + 13) = 64) ∧ hK h (x + 14) = 10 ∧ (∀ f, hI h f (x + 11) = 0) ∧ (∀ j, hQ h (x + 13) j = none)
theorem f_hC {h : Hp} {x : Nat} (t : hT h = x + 11) : hT (hC h x) = x + 15 ∧ hU (hC h x) = hU h + 101 ∧ PosF (hC h x) x ∧ (hR (hC h x) 0 x = hR h 0 x ∧ hR (hC h x) 1 x = hR h 1 x) ∧ Fr (fun f a => a = x ∨ hT h ≤ a) h (hC h x) := by
  have y1 : ¬ x = x + 11 + 1 + 1 + 1 := by omega
  have y2 : ¬ x = x + 11 + 1 + 1 := by omega
  have y3 : ¬ x = x + 11 + 1 := by omega
  refine ⟨by simp only [hC, qT_sI, qT_sR, qT_nw, t], by simp only [hC, qU_sI, qU_sR, qU_nw], ?_, ?_, ?_⟩
  · unfold PosF hC
    simp [y1, y2, y3, qT_sI, qT_sR, qT_nw, qK_sI, qK_sR, qK_nw, qN_sI, qN_sR, qN_nw, qR_sI, qR_sR, qR_nw, qI_sI, qI_sR, qI_nw, qQ_sI, qQ_sR, qQ_nw, t]
  · unfold hC
    simp [y1, y2, y3, qT_sI, qT_sR, qT_nw, qR_sI, qR_sR, qR_nw, t]
  · unfold hC
    exact ((((((((((Fr.refl h).cR (Or.inl rfl)).cN 6 0 14).cI (Or.inr (by omega))).cR (Or.inl rfl)).cN 121 8 8).cR (Or.inl rfl)).cN 122 64 64).cR (Or.inl rfl)).cN 10 0 15)
/-- the kernel's loop -/
theorem kn_loop {F : Nat} {x : Nat} : ∀ (d i N : Nat) (h : Hp), i + d = 128 → d < N → hK h x = 1 → hR h 1 x = some (x + 2) → hK h (x + 2) = 120 → hN h (x + 2) = 128 → hK h (x + 14) = 10 → x + 14 < hT h → (∀ j, j < i → hQ h (x + 2) j = some (x + 14)) → ∃ k, b_WM_init_76 F N x (x + 14) (nI i) h = b_WM_init_100 F F x 0 k ∧ Fr (fun f a => a = x + 2 ∧ f = 9999) h k ∧ hT k = hT h ∧ hU k = hU h ∧ (∀ j, j < 128 → hQ k (x + 2) j = some (x + 14)) := by
  intro d
  induction d with
  | zero =>
    intro i N h e1 e2 k1 k2 k3 k4 k5 hx q
    obtain ⟨N, rfl⟩ : ∃ k, N = k + 1 := ⟨N - 1, by omega⟩
    refine ⟨h, ?_, Fr.refl h, rfl, rfl, fun j hj => q j (by omega)⟩
    rw [b_WM_init_76]
    dsimp only
    rw [gd_t k1, rq_k k2 k3, k4, if_pos (nI_le (by omega) (by omega))]
  | succ d ih =>
    intro i N h e1 e2 k1 k2 k3 k4 k5 hx q
    obtain ⟨N, rfl⟩ : ∃ k, N = k + 1 := ⟨N - 1, by omega⟩
    obtain ⟨k, r1, r2, r3, r4, r5⟩ := ih (i + 1) N (sQ h (x + 2) i (some (x + 14))) (by omega) (by omega) (by rw [qK_sQ]; exact k1) (by rw [qR_sQ]; exact k2) (by rw [qK_sQ]; exact k3) (by rw [qN_sQ]; exact k4) (by rw [qK_sQ]; exact k5) (by rw [qT_sQ]; exact hx) (fun j hj => by
      rw [qQ_sQ]
      by_cases z : j = i
      · rw [if_pos ⟨rfl, z⟩]
      · rw [if_neg (fun y => z y.2)]; exact q j (by omega))
    refine ⟨k, ?_, ((Fr.refl h).cQ ⟨rfl, rfl⟩).trans r2, by rw [r3, qT_sQ], by rw [r4, qU_sQ], r5⟩
    rw [b_WM_init_76]
    dsimp only
    rw [gd_t k1, rq_k k2 k3, k4, if_neg (nI_ge (by omega) (by omega)), gd_t k5, ixn (by omega) (by decide), pw_e, nI_1]
    exact r1
def UnF (h : Hp) (x u : Nat) : Prop := hQ h (x + 12) u = some (x + 15 + 3 * u) ∧ (hK h (x + 15 + 3 * u) = 7 ∧ hR h 384 (x + 15 + 3 * u) = some (x + 16 + 3 * u) ∧ hK h (x + 16 + 3 * u) = 123 ∧ hN h (x + 16 + 3 * u) = 16 ∧ hR h 385 (x + 15 + 3 * u) = some (x + 17 + 3 * u) ∧ hK h (x + 17 + 3 * u) = 100 ∧ hN h (x + 17 + 3 * u) = 32) ∧ (hI h 386 (x + 15 + 3 * u) = 4 ∧ hI h 387 (x + 15 + 3 * u) = 4 ∧ hI h 388 (x + 15 + 3 * u) = 3 ∧ hI h 389 (x + 15 + 3 * u) = 0 ∧ hI h 390 (x + 15 + 3 * u) = 0 ∧ hI h 391 (x + 15 + 3 * u) = 0) ∧ ∀ j, hQ h (x + 16 + 3 * u) j = none
def hUn (h : Hp) (x a u : Nat) : Hp := sQ (sI (sI (sI (sR (nw (sR (nw (nw h 7 0 8) 123 16 16) 384 a (some (a + 1))) 100 32 32) 385 a (some (a + 2))) 386 a 4) 387 a 4) 388 a 3) (x + 12) u (some a)
theorem un_step {F : Nat} {h : Hp} {x a u : Nat} (t : hT h = a) (xa : x + 14 < a) : f_Unit_init F a 4 (nw h 7 0 8) = some (sI (sI (sI (sR (nw (sR (nw (nw h 7 0 8) 123 16 16) 384 a (some (a + 1))) 100 32 32) 385 a (some (a + 2))) 386 a 4) 387 a 4) 388 a 3) := by
  rw [f_Unit_init, pw_e, qT_nw, t, pw_e, gd_t (by rw [qK_nw, qT_nw, t, if_neg (by omega), qK_nw, t, if_pos rfl]), pw_e, pw_e, qT_sR, qT_nw, qT_nw, t, pw_e, gd_t (by rw [qK_nw, qT_sR, qT_nw, qT_nw, t, if_neg (by omega), qK_sR, qK_nw, qT_nw, t, if_neg (by omega), qK_nw, t, if_pos rfl]), pw_e, pw_e, pw_e, pw_e]
  rfl
theorem f_un {h : Hp} {x a u : Nat} (t : hT h = a) (ea : a = x + 15 + 3 * u) : hT (hUn h x a u) = a + 3 ∧ hU (hUn h x a u) = hU h + 56 ∧ UnF (hUn h x a u) x u ∧ (∀ v, ¬ v = u → hQ (hUn h x a u) (x + 12) v = hQ h (x + 12) v) ∧ Fr (fun f b => (b = x + 12 ∧ f = 9999) ∨ hT h ≤ b) h (hUn h x a u) := by
  have z1 : x + 16 + 3 * u = a + 1 := by omega
  have z2 : x + 17 + 3 * u = a + 2 := by omega
  have y1 : ¬ x + 12 = a := by omega
  have y2 : ¬ x + 12 = a + 1 := by omega
  have y3 : ¬ x + 12 = a + 1 + 1 := by omega
  have y4 : ¬ a = x + 12 := by omega
  have y5 : ¬ a + 1 = x + 12 := by omega
  have y6 : ¬ a = a + 1 + 1 := by omega
  have y7 : ¬ a = x + 11 := by omega
  refine ⟨by simp only [hUn, qT_sQ, qT_sI, qT_sR, qT_nw, t], by simp only [hUn, qU_sQ, qU_sI, qU_sR, qU_nw], ?_, fun v nv => ?_, ?_⟩
  · unfold UnF
    rw [z1, z2, ← ea]
    unfold hUn
    simp [y1, y2, y3, y4, y5, y6, y7, qT_sQ, qT_sI, qT_sR, qT_nw, qK_sQ, qK_sI, qK_sR, qK_nw, qN_sQ, qN_sI, qN_sR, qN_nw, qR_sQ, qR_sI, qR_sR, qR_nw, qI_sQ, qI_sI, qI_sR, qI_nw, qQ_sQ, qQ_sI, qQ_sR, qQ_nw, t]
  · unfold hUn
    simp [y1, y2, y3, nv, qT_sQ, qT_sI, qT_sR, qT_nw, qQ_sQ, qQ_sI, qQ_sR, qQ_nw, t]
  · unfold hUn
    exact ((((((((((Fr.refl h).cN 7 0 8).cN 123 16 16).cR (Or.inr (by omega))).cN 100 32 32).cR (Or.inr (by omega))).cI (Or.inr (by omega))).cI (Or.inr (by omega))).cI (Or.inr (by omega))).cQ (Or.inl ⟨rfl, rfl⟩))
theorem UnF.fr {h k : Hp} {x u : Nat} (U : UnF h x u) (hx : x + 17 + 3 * u < hT h) (q : hQ k (x + 12) u = hQ h (x + 12) u) (A : Fr (fun f b => (b = x + 12 ∧ f = 9999) ∨ x + 18 + 3 * u ≤ b) h k) : UnF k x u := by
  have c : ∀ a, x + 13 ≤ a → a < x + 18 + 3 * u → hK k a = hK h a ∧ hN k a = hN h a ∧ (∀ f, hI k f a = hI h f a ∧ hR k f a = hR h f a) ∧ (∀ j, hA k a j = hA h a j ∧ hQ k a j = hQ h a j) := fun a h1 h2 => by
    obtain ⟨v1, v2, v3, v4⟩ := A.2 a (by omega)
    exact ⟨v1, v2, fun f => v3 f (fun y => by omega), fun j => ⟨(v4 (fun y => by omega) j).1, (v4 (fun y => by omega) j).2.1⟩⟩
  obtain ⟨a1, a2, a3, a4⟩ := c (x + 15 + 3 * u) (by omega) (by omega)
  obtain ⟨b1, b2, b3, b4⟩ := c (x + 16 + 3 * u) (by omega) (by omega)
  obtain ⟨c1, c2, c3, c4⟩ := c (x + 17 + 3 * u) (by omega) (by omega)
  unfold UnF at U ⊢
  simp only [q, a1, (a3 _).1, (a3 _).2, b1, b2, (b4 _).2, c1, c2]
  exact U
theorem un_loop {F : Nat} {x : Nat} : ∀ (d i N : Nat) (h : Hp), i + d = 8 → d < N → hT h = x + 15 + 3 * i → hK h x = 1 → hR h 4 x = some (x + 12) → hK h (x + 12) = 121 → hN h (x + 12) = 8 → hR h 0 x = some (x + 1) → hK h (x + 1) = 2 → hI h 65 (x + 1) = 4 → (∀ u, u < i → UnF h x u) → ∃ k, b_WM_init_100 F N x (nI i) h = some k ∧ hT k = x + 39 ∧ hU k = hU h + 56 * d ∧ Fr (fun f b => (b = x + 12 ∧ f = 9999) ∨ x + 15 ≤ b) h k ∧ (∀ u, u < 8 → UnF k x u) := by
  intro d
  induction d with
  | zero =>
    intro i N h e1 e2 t k1 k2 k3 k4 k5 k6 k7 q
    obtain ⟨N, rfl⟩ : ∃ k, N = k + 1 := ⟨N - 1, by omega⟩
    refine ⟨h, ?_, by omega, by omega, Fr.refl h, fun u hu => q u (by omega)⟩
    rw [b_WM_init_100]
    dsimp only
    rw [gd_t k1, rq_k k2 k3, k4, if_pos (nI_le (by omega) (by omega))]
  | succ d ih =>
    intro i N h e1 e2 t k1 k2 k3 k4 k5 k6 k7 q
    obtain ⟨N, rfl⟩ : ∃ k, N = k + 1 := ⟨N - 1, by omega⟩
    obtain ⟨f1, f2, f3, f4, f5⟩ := f_un (x := x) (u := i) t rfl
    have st := un_step (F := F) (x := x) (u := i) t (by omega)
    have c : ∀ a, a < x + 12 → hK (hUn h x (x + 15 + 3 * i) i) a = hK h a ∧ hN (hUn h x (x + 15 + 3 * i) i) a = hN h a ∧ ∀ f, hI (hUn h x (x + 15 + 3 * i) i) f a = hI h f a ∧ hR (hUn h x (x + 15 + 3 * i) i) f a = hR h f a := fun a ha => by
      obtain ⟨v1, v2, v3, v4⟩ := f5.2 a (by omega)
      exact ⟨v1, v2, fun f => v3 f (fun y => by omega)⟩
    obtain ⟨k, r1, r2, r3, r4, r5⟩ := ih (i + 1) N (hUn h x (x + 15 + 3 * i) i) (by omega) (by omega) (by omega) (by rw [(c x (by omega)).1]; exact k1) (by rw [((c x (by omega)).2.2 4).2]; exact k2) (by rw [(f5.2 (x + 12) (by omega)).1]; exact k3) (by rw [(f5.2 (x + 12) (by omega)).2.1]; exact k4) (by rw [((c x (by omega)).2.2 0).2]; exact k5) (by rw [(c (x + 1) (by omega)).1]; exact k6) (by rw [((c (x + 1) (by omega)).2.2 65).1]; exact k7) (fun u hu => by
      by_cases z : u = i
      · rw [z]; exact f3
      · exact (q u (by omega)).fr (by omega) (f4 u z) (f5.mono (fun f a _ y => by omega)))
    refine ⟨k, ?_, r2, by omega, (f5.mono (fun f a _ y => by omega)).trans r4, r5⟩
    have n1 : hK (nw h 7 0 8) x = 1 := by rw [qK_nw, t, if_neg (by omega)]; exact k1
    have n2 : hR (nw h 7 0 8) 0 x = some (x + 1) := by rw [qR_nw, t, if_neg (by omega)]; exact k5
    have n3 : hK (nw h 7 0 8) (x + 1) = 2 := by rw [qK_nw, t, if_neg (by omega)]; exact k6
    have n4 : hI (nw h 7 0 8) 65 (x + 1) = 4 := by rw [qI_nw, t, if_neg (by omega)]; exact k7
    have m1 : hK (hUn h x (x + 15 + 3 * i) i) (x + 12) = 121 := by rw [(f5.2 (x + 12) (by omega)).1]; exact k3
    have m2 : hN (hUn h x (x + 15 + 3 * i) i) (x + 12) = 8 := by rw [(f5.2 (x + 12) (by omega)).2.1]; exact k4
    have m3 : hK (hUn h x (x + 15 + 3 * i) i) (x + 15 + 3 * i) = 7 := f3.2.1.1
    unfold hUn at m1 m2 m3 r1
    rw [qK_sQ] at m1 m3
    rw [qN_sQ] at m2
    rw [b_WM_init_100]
    dsimp only
    rw [gd_t k1, rq_k k2 k3, k4, if_neg (nI_ge (by omega) (by omega)), pw_e, pw_e, t, gd_t n1, rq_k n2 n3, n4, st, clv_some, gd_t m1, gd_t m3, m2, ixn (by omega) (by decide), pw_e, nI_1]
    exact r1
