/-! the constructors -/
def hMem (h : Hp) (x : Nat) : Hp := sI (sR (sR (nw (sR (nw (nw (sR (oA (sR (nw (sR (nw (nw (sR (nw h 100 4096 4096) 128 (x + 3) (some (x + 4))) 4 0 4) 100 32 32) 192 (x + 5) (some (x + 6))) 100 8 8) 193 (x + 5) (some (x + 7))) (fr (hA (sR (nw (sR (nw (nw (sR (nw h 100 4096 4096) 128 (x + 3) (some (x + 4))) 4 0 4) 100 32 32) 192 (x + 5) (some (x + 6))) 100 8 8) 193 (x + 5) (some (x + 7)))) (x + 6) 0 32 (fun _ => -1))) 129 (x + 3) (some (x + 5))) 5 0 4) 124 64 64) 256 (x + 8) (some (x + 9))) 124 64 64) 257 (x + 8) (some (x + 10))) 130 (x + 3) (some (x + 8))) 131 (x + 3) 512
theorem i_mem {F : Nat} {h : Hp} {x : Nat} (hF : 40000 ≤ F) (t : hT h = x + 4) (k : hK h (x + 3) = 3) : f_Memory_init F (x + 3) h = some (hMem h x) := by
  have e5 : hK (nw (sR (nw h 100 4096 4096) 128 (x + 3) (some (x + 4))) 4 0 4) (x + 5) = 4 := by rw [qK_nw, qT_sR, qT_nw, t, if_pos rfl]
  have cf : ∀ h2 : Hp, hT h2 = x + 6 → hK h2 (x + 5) = 4 → f_Cache_init F (x + 5) h2 = some (oA (sR (nw (sR (nw h2 100 32 32) 192 (x + 5) (some (x + 6))) 100 8 8) 193 (x + 5) (some (x + 7))) (fr (hA (sR (nw (sR (nw h2 100 32 32) 192 (x + 5) (some (x + 6))) 100 8 8) 193 (x + 5) (some (x + 7)))) (x + 6) 0 32 (fun _ => -1))) := fun h2 t2 k2 => by
    have n7 : hN (sR (nw (sR (nw h2 100 32 32) 192 (x + 5) (some (x + 6))) 100 8 8) 193 (x + 5) (some (x + 7))) (x + 6) = 32 := by
      rw [qN_sR, qN_nw, qT_sR, qT_nw, t2, if_neg (by omega), qN_sR, qN_nw, t2, if_pos rfl]
    have k7 : hK (sR (nw (sR (nw h2 100 32 32) 192 (x + 5) (some (x + 6))) 100 8 8) 193 (x + 5) (some (x + 7))) (x + 6) = 100 := by
      rw [qK_sR, qK_nw, qT_sR, qT_nw, t2, if_neg (by omega), qK_sR, qK_nw, t2, if_pos rfl]
    have fl := c_Arrays_fill (F := F) k7 (-1) (by rw [n7]; decide) (by rw [n7]; omega)
    rw [n7] at fl
    have r7 : hR (sR (nw (sR (nw h2 100 32 32) 192 (x + 5) (some (x + 6))) 100 8 8) 193 (x + 5) (some (x + 7))) 192 (x + 5) = some (x + 6) := by
      rw [qR_sR, if_neg (fun y => by omega), qR_nw, qT_sR, qT_nw, t2, if_neg (by omega), qR_sR, if_pos ⟨rfl, rfl⟩]
    rw [f_Cache_init, pw_e, t2, pw_e, gd_t (by rw [qK_nw, t2, if_neg (by omega)]; exact k2), pw_e, pw_e, qT_sR, qT_nw, t2, pw_e, gd_t (by rw [qK_nw, qT_sR, qT_nw, t2, if_neg (by omega), qK_sR, qK_nw, t2, if_neg (by omega)]; exact k2), pw_e, rq_k r7 k7, fl, clv_some]
  have pf : ∀ h2 : Hp, hT h2 = x + 9 → hK h2 (x + 8) = 5 → f_Pending_init F (x + 8) h2 = some (sR (nw (sR (nw h2 124 64 64) 256 (x + 8) (some (x + 9))) 124 64 64) 257 (x + 8) (some (x + 10))) := fun h2 t2 k2 => by
    rw [f_Pending_init, pw_e, t2, pw_e, gd_t (by rw [qK_nw, t2, if_neg (by omega)]; exact k2), pw_e, pw_e, qT_sR, qT_nw, t2, pw_e, gd_t (by rw [qK_nw, qT_sR, qT_nw, t2, if_neg (by omega), qK_sR, qK_nw, t2, if_neg (by omega)]; exact k2), pw_e]
  unfold hMem
  have c1 := cf (nw (sR (nw h 100 4096 4096) 128 (x + 3) (some (x + 4))) 4 0 4) (by rw [qT_nw, qT_sR, qT_nw, t]) e5
  have t8 : hT (oA (sR (nw (sR (nw (nw (sR (nw h 100 4096 4096) 128 (x + 3) (some (x + 4))) 4 0 4) 100 32 32) 192 (x + 5) (some (x + 6))) 100 8 8) 193 (x + 5) (some (x + 7))) (fr (hA (sR (nw (sR (nw (nw (sR (nw h 100 4096 4096) 128 (x + 3) (some (x + 4))) 4 0 4) 100 32 32) 192 (x + 5) (some (x + 6))) 100 8 8) 193 (x + 5) (some (x + 7)))) (x + 6) 0 32 (fun _ => -1))) = x + 8 := by
    simp only [qT_oA, qT_sR, qT_nw, t]
  have k8 : hK (oA (sR (nw (sR (nw (nw (sR (nw h 100 4096 4096) 128 (x + 3) (some (x + 4))) 4 0 4) 100 32 32) 192 (x + 5) (some (x + 6))) 100 8 8) 193 (x + 5) (some (x + 7))) (fr (hA (sR (nw (sR (nw (nw (sR (nw h 100 4096 4096) 128 (x + 3) (some (x + 4))) 4 0 4) 100 32 32) 192 (x + 5) (some (x + 6))) 100 8 8) 193 (x + 5) (some (x + 7)))) (x + 6) 0 32 (fun _ => -1))) (x + 3) = 3 := by
    simp only [qK_oA, qK_sR, qK_nw, qT_sR, qT_nw, t]
    rw [if_neg (by omega), if_neg (by omega), if_neg (by omega), if_neg (by omega)]
    exact k
  rw [f_Memory_init, pw_e, t, pw_e, gd_t (by rw [qK_nw, t, if_neg (by omega)]; exact k), pw_e, pw_e, qT_sR, qT_nw, t, pw_e, c1, clv_some]
  generalize oA (sR (nw (sR (nw (nw (sR (nw h 100 4096 4096) 128 (x + 3) (some (x + 4))) 4 0 4) 100 32 32) 192 (x + 5) (some (x + 6))) 100 8 8) 193 (x + 5) (some (x + 7))) (fr (hA (sR (nw (sR (nw (nw (sR (nw h 100 4096 4096) 128 (x + 3) (some (x + 4))) 4 0 4) 100 32 32) 192 (x + 5) (some (x + 6))) 100 8 8) 193 (x + 5) (some (x + 7)))) (x + 6) 0 32 (fun _ => -1)) = h8 at t8 k8
  have c2 := pf (nw (sR h8 129 (x + 3) (some (x + 5))) 5 0 4) (by rw [qT_nw, qT_sR, t8]) (by rw [qK_nw, qT_sR, t8, if_pos rfl])
  rw [gd_t k8, pw_e, pw_e, qT_sR, t8, pw_e, c2, clv_some, gd_t, pw_e, pw_e]
  simp only [qK_sR, qK_nw, qT_sR, qT_nw, t8]
  rw [if_neg (by omega), if_neg (by omega), if_neg (by omega)]
  exact k8
theorem f_mem {h : Hp} {x : Nat} (t : hT h = x + 4) : hT (hMem h x) = x + 11 ∧ hU (hMem h x) = hU h + 4272 ∧ Fr (fun f a => a = x + 3 ∨ hT h ≤ a) h (hMem h x) := by
  refine ⟨by simp only [hMem, qT_sI, qT_sR, qT_nw, qT_oA, t], by simp only [hMem, qU_sI, qU_sR, qU_nw, qU_oA], ?_⟩
  unfold hMem
  exact ((((((((((((((((Fr.refl h).cN 100 4096 4096).cR (Or.inl rfl)).cN 4 0 4).cN 100 32 32).cR (Or.inr (by omega))).cN 100 8 8).cR (Or.inr (by omega))).cf (Or.inr (by omega))).cR (Or.inl rfl)).cN 5 0 4).cN 124 64 64).cR (Or.inr (by omega))).cN 124 64 64).cR (Or.inr (by omega))).cR (Or.inl rfl)).cI (Or.inl rfl)
def MemF (k : Hp) (x : Nat) : Prop := (hR k 128 (x + 3) = some (x + 4) ∧ hK k (x + 4) = 100 ∧ hN k (x + 4) = 4096) ∧ (hR k 129 (x + 3) = some (x + 5) ∧ hK k (x + 5) = 4) ∧ (hR k 192 (x + 5) = some (x + 6) ∧ hK k (x + 6) = 100 ∧ hN k (x + 6) = 32) ∧ (hR k 193 (x + 5) = some (x + 7) ∧ hK k (x + 7) = 100 ∧ hN k (x + 7) = 8) ∧ (hR k 130 (x + 3) = some (x + 8) ∧ hK k (x + 8) = 5) ∧ (hR k 256 (x + 8) = some (x + 9) ∧ hK k (x + 9) = 124 ∧ hN k (x + 9) = 64) ∧ (hR k 257 (x + 8) = some (x + 10) ∧ hK k (x + 10) = 124 ∧ hN k (x + 10) = 64) ∧ hI k 131 (x + 3) = 512 ∧ hR k 258 (x + 8) = none ∧ hI k 194 (x + 5) = 0 ∧ hI k 195 (x + 5) = 0 ∧ hI k 259 (x + 8) = 0 ∧ (∀ j, hA k (x + 4) j = 0) ∧ (∀ j, j < 32 → hA k (x + 6) j = -1) ∧ (∀ j, hA k (x + 7) j = 0) ∧ (∀ j, hQ k (x + 9) j = none) ∧ (∀ j, hQ k (x + 10) j = none)
theorem f_memF {h : Hp} {x : Nat} (t : hT h = x + 4) : MemF (hMem h x) x := by
  unfold MemF hMem
  simp (config := { contextual := true }) [qT_sI, qT_sR, qT_nw, qT_oA, qK_sI, qK_sR, qK_nw, qK_oA, qN_sI, qN_sR, qN_nw, qN_oA, qR_sI, qR_sR, qR_nw, qR_oA, qI_sI, qI_sR, qI_nw, qI_oA, qA_sI, qA_sR, qA_nw, qA_oA, qQ_sI, qQ_sR, qQ_nw, qQ_oA, t, fr]
/-- the frame carries it -/
theorem MemF.fr {h k : Hp} {x : Nat} (M : MemF h x) (hx : x + 10 < hT h) (A : Fr (fun f a => (a = x ∨ a = x + 2) ∨ x + 11 ≤ a) h k) : MemF k x := by
  have c : ∀ a, x + 3 ≤ a → a ≤ x + 10 → hK k a = hK h a ∧ hN k a = hN h a ∧ (∀ f, hI k f a = hI h f a ∧ hR k f a = hR h f a) ∧ (∀ j, hA k a j = hA h a j ∧ hQ k a j = hQ h a j) := fun a h1 h2 => by
    obtain ⟨v1, v2, v3, v4⟩ := A.2 a (by omega)
    exact ⟨v1, v2, fun f => v3 f (fun y => by omega), fun j => ⟨(v4 (fun y => by omega) j).1, (v4 (fun y => by omega) j).2.1⟩⟩
  obtain ⟨a1, a2, a3, a4⟩ := c (x + 3) (by omega) (by omega)
  obtain ⟨b1, b2, b3, b4⟩ := c (x + 4) (by omega) (by omega)
  obtain ⟨c1, c2, c3, c4⟩ := c (x + 5) (by omega) (by omega)
  obtain ⟨d1, d2, d3, d4⟩ := c (x + 6) (by omega) (by omega)
  obtain ⟨e1, e2, e3, e4⟩ := c (x + 7) (by omega) (by omega)
  obtain ⟨f1, f2, f3, f4⟩ := c (x + 8) (by omega) (by omega)
  obtain ⟨g1, g2, g3, g4⟩ := c (x + 9) (by omega) (by omega)
  obtain ⟨i1, i2, i3, i4⟩ := c (x + 10) (by omega) (by omega)
  unfold MemF at M ⊢
  simp only [(a3 _).1, (a3 _).2, b1, b2, (b4 _).1, c1, (c3 _).1, (c3 _).2, d1, d2, (d4 _).1, e1, e2, (e4 _).1, f1, (f3 _).1, (f3 _).2, g1, g2, (g4 _).2, i1, i2, (i4 _).2]
  exact M
