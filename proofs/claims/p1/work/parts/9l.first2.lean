/-! the reference's constructor, whole -/
theorem Md.k12 {h : Hp} {m : Nat} (M : Md h m) : ∀ a, m ≤ a → a < m + 29 → 12 ≤ hK h a := by
  unfold Md at M
  obtain ⟨k0, ⟨_, k1, _⟩, ⟨_, k2, _⟩, ⟨_, k3, _⟩, ⟨_, k4, _⟩, ⟨_, k5, _⟩, ⟨_, k6, _⟩, ⟨_, k7, _⟩, ⟨_, k8, _⟩, ⟨_, k9, _⟩, ⟨_, k10, _⟩, ⟨_, k11, _⟩, ⟨_, k12, _⟩, ⟨_, k13, _⟩, ⟨_, k14, _⟩, ⟨_, k15, _⟩, ⟨_, k16, _⟩, ⟨_, k17, _⟩, ⟨_, k18, _⟩, ⟨_, k19, _⟩, ⟨_, k20, _⟩, ⟨_, k21, _⟩, ⟨_, k22, _⟩, ⟨_, k23, _⟩, ⟨_, k24, _⟩, ⟨_, k25, _⟩, ⟨_, k26, _⟩, ⟨_, k27, _⟩, ⟨_, k28, _⟩⟩ := M
  intro a h1 h2
  have : a = m ∨ a = m + 1 ∨ a = m + 2 ∨ a = m + 3 ∨ a = m + 4 ∨ a = m + 5 ∨ a = m + 6 ∨ a = m + 7 ∨ a = m + 8 ∨ a = m + 9 ∨ a = m + 10 ∨ a = m + 11 ∨ a = m + 12 ∨ a = m + 13 ∨ a = m + 14 ∨ a = m + 15 ∨ a = m + 16 ∨ a = m + 17 ∨ a = m + 18 ∨ a = m + 19 ∨ a = m + 20 ∨ a = m + 21 ∨ a = m + 22 ∨ a = m + 23 ∨ a = m + 24 ∨ a = m + 25 ∨ a = m + 26 ∨ a = m + 27 ∨ a = m + 28 := by omega
  rcases this with z | z | z | z | z | z | z | z | z | z | z | z | z | z | z | z | z | z | z | z | z | z | z | z | z | z | z | z | z <;> rw [z] <;> omega
theorem mod_ini {F m : Nat} {h : Hp} (hF : 40000 ≤ F) (k : hK h m = 12) (t : hT h = m + 1) (z : ∀ f, hI h f m = 0) : ∃ K, f_Mod_init F m h = some K ∧ RIni K m ∧ hT K = m + 29 ∧ hU K = hU h + sumQ LQ ∧ Fr (fun _ a => m ≤ a) h K := by
  obtain ⟨a1, a2, a3, a4, a5⟩ := f_hM0 (m := m) z
  have A0 := fr_hM0 h m
  obtain ⟨M, b1, b2, b3, b4, b5, b6⟩ := mod_f (m := m) (g := hM0 h m) (by rw [a1]; exact k) (by rw [a2]; exact t)
  have e1 := mod_1 (F := F) k (by omega)
  rw [c_Mod_clearHouse M hF, clv_some] at e1
  refine ⟨_, e1, ?_⟩
  have A1 : Fr (fun _ a => m ≤ a) h (LQ.foldl (st m) (hM0 h m)) := (A0.mono (fun f a _ y => by omega)).trans (b3.mono (fun f a _ y => by omega))
  have R := rUn_st (LQ.foldl (st m) (hM0 h m)) m
  unfold rHouse
  generalize LQ.foldl (st m) (hM0 h m) = G at M b1 b2 b3 b4 b5 b6 A1 R
  generalize rFreeAll (oA G (rUnits G m 8)) m = Y at R
  obtain ⟨⟨g1, g2, g3, g4, g5, g6, g7⟩, g8, g9, g10, g11, g12⟩ := R
  have yI : ∀ f, ¬ (f = 745 ∨ f = 746) → hI Y f m = hI (hM0 h m) f m := fun f n => (g8 f m (fun y => n y.2)).trans (b4 f)
  have MY : Md Y m := M.same g3 g4 g5
  have e706 : hI G 706 m = 4 := (b4 706).trans a4.2.1
  refine ⟨⟨MY.toA, ⟨by rw [qI_oA, yI _ (by omega)]; exact a4.1, by rw [qI_oA, yI _ (by omega)]; exact a4.2.1, by rw [qI_oA, yI _ (by omega)]; exact a4.2.2.1, by rw [qI_oA, yI _ (by omega)]; exact a4.2.2.2.1, by rw [qI_oA, yI _ (by omega)]; exact a4.2.2.2.2.1, by rw [qI_oA, yI _ (by omega)]; exact a4.2.2.2.2.2⟩, fun f h1 h2 => ?_, fun j => by rw [qA_oA, fr_o (by omega), g12 _ _ (by omega)]; exact b5 j, fun j => by rw [qL_oA, g7]; exact b6 j, fun t ht => by rw [qA_oA, fr_o (by omega)]; exact g10 t ht, fun j hj => by rw [qA_oA, fr_i (by omega) hj], fun u hu => ?_⟩, by rw [qT_oA, g1]; exact b1, by rw [qU_oA, g2, b2, a3], ?_⟩
  · rw [qI_oA]
    by_cases w : f = 745
    · rw [w]; exact g9
    · rw [yI f (by omega)]; exact a5 f h1
  · rw [qA_oA, fr_o (by omega), fr_o (by omega), fr_o (by omega), fr_o (by omega), fr_o (by omega)]
    have w := g11 u hu
    rw [e706] at w
    exact w
  · refine ⟨by rw [qT_oA, g1]; exact A1.1, fun a ha => ?_⟩
    obtain ⟨v1, v2, v3, v4⟩ := A1.2 a ha
    refine ⟨by rw [qK_oA, g3]; exact v1, by rw [qN_oA, g4]; exact v2, fun f n => ⟨by rw [qI_oA, g8 f a (fun y => n (by omega))]; exact (v3 f n).1, by rw [qR_oA, g5]; exact (v3 f n).2⟩, fun n j => ⟨by rw [qA_oA, fr_o (by omega), g12 _ _ (by omega)]; exact (v4 n j).1, by rw [qQ_oA, g6]; exact (v4 n j).2.1, by rw [qL_oA, g7]; exact (v4 n j).2.2⟩⟩
