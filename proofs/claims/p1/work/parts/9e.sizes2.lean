/-! sizes, both sides -/
theorem sz_i (h : Hp) (a : Nat) (l s u b g i : Int32) : (hI (szSet h a l s u b g i) 64 a = l ∧ hI (szSet h a l s u b g i) 65 a = s ∧ hI (szSet h a l s u b g i) 66 a = u ∧ hI (szSet h a l s u b g i) 67 a = b ∧ hI (szSet h a l s u b g i) 68 a = g ∧ hI (szSet h a l s u b g i) 69 a = i) ∧ (∀ f c, ¬ c = a → hI (szSet h a l s u b g i) f c = hI h f c) ∧ (hT (szSet h a l s u b g i) = hT h ∧ hU (szSet h a l s u b g i) = hU h ∧ hK (szSet h a l s u b g i) = hK h ∧ hN (szSet h a l s u b g i) = hN h ∧ hR (szSet h a l s u b g i) = hR h ∧ hQ (szSet h a l s u b g i) = hQ h ∧ hA (szSet h a l s u b g i) = hA h) := by
  unfold szSet
  refine ⟨⟨?_, ?_, ?_, ?_, ?_, ?_⟩, fun f c n => ?_, by simp only [qT_sI], by simp only [qU_sI], by simp only [qK_sI], by simp only [qN_sI], by simp only [qR_sI], by simp only [qQ_sI], by simp only [qA_sI]⟩
  · simp [qI_sI]
  · simp [qI_sI]
  · simp [qI_sI]
  · simp [qI_sI]
  · simp [qI_sI]
  · simp [qI_sI]
  · rw [qI_sI, if_neg (fun y => n y.2), qI_sI, if_neg (fun y => n y.2), qI_sI, if_neg (fun y => n y.2), qI_sI, if_neg (fun y => n y.2), qI_sI, if_neg (fun y => n y.2), qI_sI, if_neg (fun y => n y.2)]
theorem sz_fr {x lo : Nat} {h : Hp} {l s u b g i : Int32} : Fr (PLM x lo h) h (szSet h (x + 1) l s u b g i) := by
  have p : ∀ f, 64 ≤ f → f ≤ 69 → PLM x lo h f (x + 1) := fun f h1 h2 => Or.inr (Or.inr (Or.inr (Or.inl ⟨rfl, h1, h2⟩)))
  unfold szSet
  exact ((((((Fr.refl h).cI (p _ (by omega) (by omega))).cI (p _ (by omega) (by omega))).cI (p _ (by omega) (by omega))).cI (p _ (by omega) (by omega))).cI (p _ (by omega) (by omega))).cI (p _ (by omega) (by omega))
/-- the class's part: the calls -/
theorem csz_c {F : Nat} {hc h1 h2 h3 : Hp} {x : Nat} {l s u b g i : Int32} (hF : 40000 ≤ F) (C : Cd hc x) (nt : ¬ tUn hc (x + 11)) (cb : f_Sizes_become F (x + 1) l s u b g i hc = some (1, h1)) (C1 : Cd h1 x) (e1 : f_Memory_resize F (x + 3) i h1 = some h2) (C2 : Cd h2 x) (e3 : f_Cache_empty F (x + 5) h2 = some h3) (C3 : Cd h3 x) : f_WM_sizes F x l s u b g i hc = (clv (f_WM_clearForLaunch F x (taBegin h3 (x + 11) 0 0 0)) fun h_61_2 => some ((1 : Int32), h_61_2)) := by
  have kk : hK (taBegin h3 (x + 11) 0 0 0) x = 1 := by rw [(ta_o h3 (x + 11) 0 0 0).2.2.1]; exact C3.k
  rw [f_WM_sizes, gd_t C.k, rq_k C.r_tally C.k_tally, c_Tally_underWay C.k_tally, cl_some, bI_ite, if_neg nt, gd_t C.k, rq_k C.r_sizes C.k_sizes, cb, cl_some, if_neg (by decide), gd_t C1.k, rq_k C1.r_memory C1.k_memory, e1, clv_some, gd_t C2.k, rq_k C2.r_memory C2.k_memory, rq_k C2.r_cache C2.k_cache, e3, clv_some, gd_t C3.k, rq_k C3.r_tally C3.k_tally, c_Tally_begin C3.k_tally, clv_some, gd_t kk]
theorem csz_3 {F : Nat} {hc : Hp} {x lo sz n : Nat} {l s u b g : Int32} {h1 h2 : Hp} (hF : 40000 ≤ F) (C : Cd hc x) (nt : ¬ tUn hc (x + 11)) (cb : f_Sizes_become F (x + 1) l s u b g (nI n) hc = some (1, h1)) (C1 : Cd h1 x) (i1 : (hI h1 64 (x + 1) = l ∧ hI h1 65 (x + 1) = s ∧ hI h1 66 (x + 1) = u ∧ hI h1 67 (x + 1) = b ∧ hI h1 68 (x + 1) = g ∧ hI h1 69 (x + 1) = nI n)) (i2 : ∀ f c, ¬ c = x + 1 → hI h1 f c = hI hc f c) (e1 : f_Memory_resize F (x + 3) (nI n) h1 = some h2) (A2 : Fr (PLM x lo hc) hc h2) (j1 : ∀ f a, ¬ a = x + 3 → hI h2 f a = hI h1 f a) (j2 : hI h2 131 (x + 3) = nI n) (j3 : hA h2 = fr (hA hc) (x + 4) sz n (fun _ => 0)) (j4 : hT h2 = hT hc) (j5 : hU h2 = hU hc) (j6 : hK h2 = hK hc) (j7 : hN h2 = hN hc) (j8 : hR h2 = hR hc) (j9 : hQ h2 = hQ hc) : ∃ h3, (f_WM_sizes F x l s u b g (nI n) hc = (clv (f_WM_clearForLaunch F x (taBegin h3 (x + 11) 0 0 0)) fun h_61_2 => some ((1 : Int32), h_61_2))) ∧ Fr (PLM x lo hc) hc h3 ∧ (hT h3 = hT hc ∧ hU h3 = hU hc ∧ hK h3 = hK hc ∧ hN h3 = hN hc ∧ hR h3 = hR hc ∧ hQ h3 = hQ hc) ∧ (hI h3 64 (x + 1) = l ∧ hI h3 65 (x + 1) = s ∧ hI h3 66 (x + 1) = u ∧ hI h3 67 (x + 1) = b ∧ hI h3 68 (x + 1) = g ∧ hI h3 69 (x + 1) = nI n) ∧ hI h3 131 (x + 3) = nI n ∧ (∀ f a, ¬ a = x + 1 → ¬ a = x + 3 → hI h3 f a = hI hc f a) ∧ (∀ p, hA h3 (x + 4) p = if sz ≤ p ∧ p < n then 0 else hA hc (x + 4) p) ∧ (∀ p, p < 32 → hA h3 (x + 6) p = -1) := by
  have C2 : Cd h2 x := C.same j6 j7 (fun f a _ => by rw [j8]) (fun j => by rw [j9])
  have C3 : Cd (oA h2 (fr (hA h2) (x + 6) 0 32 (fun _ => -1))) x := C2.same (qK_oA ..) (qN_oA ..) (fun f a _ => by rw [qR_oA]) (fun j => by rw [qQ_oA])
  refine ⟨oA h2 (fr (hA h2) (x + 6) 0 32 (fun _ => -1)), csz_c hF C nt cb C1 e1 C2 (c_Cache_empty C2.k_cache C2.r_lines C2.k_lines C2.n_lines hF) C3, A2.cf (Or.inr (Or.inr (Or.inl ⟨rfl, Or.inr (Or.inl rfl)⟩))), ⟨by rw [qT_oA]; exact j4, by rw [qU_oA]; exact j5, by rw [qK_oA]; exact j6, by rw [qN_oA]; exact j7, by rw [qR_oA]; exact j8, by rw [qQ_oA]; exact j9⟩, ?_, by rw [qI_oA]; exact j2, fun f a q1 q2 => by rw [qI_oA, j1 f a q2, i2 f a q1], fun p => ?_, fun p hp => by rw [qA_oA, fr_i (by omega) hp]⟩
  · rw [qI_oA, j1 _ _ (by omega), j1 _ _ (by omega), j1 _ _ (by omega), j1 _ _ (by omega), j1 _ _ (by omega), j1 _ _ (by omega)]
    exact i1
  · rw [qA_oA, fr_o (by omega), j3]
    unfold fr
    by_cases z : sz ≤ p ∧ p < n
    · rw [if_pos ⟨rfl, z⟩, if_pos z]
    · rw [if_neg (fun y => z y.2), if_neg z]
theorem csz_2 {F : Nat} {hc : Hp} {x lo sz n : Nat} {l s u b g : Int32} {h1 : Hp} (hF : 40000 ≤ F) (C : Cd hc x) (n4 : n ≤ 4096) (s4 : sz ≤ 4096) (ms : hI hc 131 (x + 3) = nI sz) (nt : ¬ tUn hc (x + 11)) (cb : f_Sizes_become F (x + 1) l s u b g (nI n) hc = some (1, h1)) (i1 : (hI h1 64 (x + 1) = l ∧ hI h1 65 (x + 1) = s ∧ hI h1 66 (x + 1) = u ∧ hI h1 67 (x + 1) = b ∧ hI h1 68 (x + 1) = g ∧ hI h1 69 (x + 1) = nI n)) (i2 : ∀ f c, ¬ c = x + 1 → hI h1 f c = hI hc f c) (i3 : hT h1 = hT hc) (i4 : hU h1 = hU hc) (i5 : hK h1 = hK hc) (i6 : hN h1 = hN hc) (i7 : hR h1 = hR hc) (i8 : hQ h1 = hQ hc) (i9 : hA h1 = hA hc) (A1 : Fr (PLM x lo hc) hc h1) : ∃ h3, (f_WM_sizes F x l s u b g (nI n) hc = (clv (f_WM_clearForLaunch F x (taBegin h3 (x + 11) 0 0 0)) fun h_61_2 => some ((1 : Int32), h_61_2))) ∧ Fr (PLM x lo hc) hc h3 ∧ (hT h3 = hT hc ∧ hU h3 = hU hc ∧ hK h3 = hK hc ∧ hN h3 = hN hc ∧ hR h3 = hR hc ∧ hQ h3 = hQ hc) ∧ (hI h3 64 (x + 1) = l ∧ hI h3 65 (x + 1) = s ∧ hI h3 66 (x + 1) = u ∧ hI h3 67 (x + 1) = b ∧ hI h3 68 (x + 1) = g ∧ hI h3 69 (x + 1) = nI n) ∧ hI h3 131 (x + 3) = nI n ∧ (∀ f a, ¬ a = x + 1 → ¬ a = x + 3 → hI h3 f a = hI hc f a) ∧ (∀ p, hA h3 (x + 4) p = if sz ≤ p ∧ p < n then 0 else hA hc (x + 4) p) ∧ (∀ p, p < 32 → hA h3 (x + 6) p = -1) := by
  have C1 : Cd h1 x := C.same i5 i6 (fun f a _ => by rw [i7]) (fun j => by rw [i8])
  have e1 : f_Memory_resize F (x + 3) (nI n) h1 = some (sI (oA h1 (fr (hA h1) (x + 4) sz n (fun _ => 0))) 131 (x + 3) (nI n)) := by
    rw [f_Memory_resize, gd_t C1.k_memory, i2 _ _ (by omega), ms]
    exact res_loop n4 (n - sz) sz F h1 rfl s4 (by omega) C1.k_memory C1.r_ints C1.k_ints C1.n_ints
  exact csz_3 hF C nt cb C1 i1 i2 e1 ((A1.cf (Or.inr (Or.inr (Or.inl ⟨rfl, Or.inl rfl⟩)))).cI (Or.inr (Or.inr (Or.inr (Or.inr (Or.inl ⟨rfl, rfl⟩)))))) (fun f a q => by rw [qI_sI, if_neg (fun y => q y.2), qI_oA]) (by rw [qI_sI, if_pos ⟨rfl, rfl⟩]) (by rw [qA_sI, qA_oA, i9]) (by rw [qT_sI, qT_oA, i3]) (by rw [qU_sI, qU_oA, i4]) (by rw [qK_sI, qK_oA, i5]) (by rw [qN_sI, qN_oA, i6]) (by rw [qR_sI, qR_oA, i7]) (by rw [qQ_sI, qQ_oA, i8])
theorem csz {F : Nat} {hc : Hp} {x lo sz n : Nat} {l s u b g : Int32} (hF : 40000 ≤ F) (C : Cd hc x) (n4 : n ≤ 4096) (s4 : sz ≤ 4096) (ms : hI hc 131 (x + 3) = nI sz) (nt : ¬ tUn hc (x + 11)) (ok : szOk l s u b g (nI n)) : ∃ h3, (f_WM_sizes F x l s u b g (nI n) hc = (clv (f_WM_clearForLaunch F x (taBegin h3 (x + 11) 0 0 0)) fun h_61_2 => some ((1 : Int32), h_61_2))) ∧ Fr (PLM x lo hc) hc h3 ∧ (hT h3 = hT hc ∧ hU h3 = hU hc ∧ hK h3 = hK hc ∧ hN h3 = hN hc ∧ hR h3 = hR hc ∧ hQ h3 = hQ hc) ∧ (hI h3 64 (x + 1) = l ∧ hI h3 65 (x + 1) = s ∧ hI h3 66 (x + 1) = u ∧ hI h3 67 (x + 1) = b ∧ hI h3 68 (x + 1) = g ∧ hI h3 69 (x + 1) = nI n) ∧ hI h3 131 (x + 3) = nI n ∧ (∀ f a, ¬ a = x + 1 → ¬ a = x + 3 → hI h3 f a = hI hc f a) ∧ (∀ p, hA h3 (x + 4) p = if sz ≤ p ∧ p < n then 0 else hA hc (x + 4) p) ∧ (∀ p, p < 32 → hA h3 (x + 6) p = -1) := by
  obtain ⟨i1, i2, i3, i4, i5, i6, i7, i8, i9⟩ := sz_i hc (x + 1) l s u b g (nI n)
  have cb := c_Sizes_become (F := F) C.k_sizes l s u b g (nI n)
  rw [if_pos ok] at cb
  exact csz_2 hF C n4 s4 ms nt cb i1 i2 i3 i4 i5 i6 i7 i8 i9 sz_fr
theorem sizes_st {F : Nat} {o : Nat → Nat} {hc H K : Hp} {x m lo ln sl nn bk ga sz c al U0 nC l2 s2 u2 b2 g2 n2 : Nat} (hF : 40000 ≤ F) (SB : SmB o hc H x m lo ln sl nn bk ga sz c al U0 nC) (un : ¬ rUn H m) (ok : szOk (nI l2) (nI s2) (nI u2) (nI b2) (nI g2) (nI n2)) (Z2 : Sz K m l2 s2 u2 b2 g2 n2) (M2 : Md K m) (R : RSz H K m n2 (nI l2) (nI s2) (nI u2) (nI b2) (nI g2)) : ∃ kc, f_WM_sizes F x (nI l2) (nI s2) (nI u2) (nI b2) (nI g2) (nI n2) hc = some (1, kc) ∧ SmB o kc K x m lo l2 s2 u2 b2 g2 n2 0 al U0 nC ∧ RC m lo hc kc := by
  have V := SB.vw
  have V0 := V
  obtain ⟨C, T, ca, ms, mm, e259, M, Z, SL, BL, us, hx, lx, Kk, nf, lh, uf⟩ := V0
  have xm := SB.m.2.2
  have ml := SB.m.2.1
  obtain ⟨nK, mz⟩ := SB.nK
  have s4 := SB.2.2.2.2.1
  have nt : ¬ tUn hc (x + 11) := by unfold tUn; rw [s4]; exact un
  obtain ⟨h3, c1, c2, ⟨c3, c4, c5, c6, c7, c8⟩, ⟨d0, d1, d2, d3, d4, d5⟩, c10, c11, c12, c13⟩ := csz (F := F) (lo := lo) hF C Z2.i1.2 Z.i1.2 ms nt ok
  have S3 : FS o h3 x lo sl := V.fs.same c3 c5 c6 c7 c8 (fun u f _ _ => c11 _ _ (by omega) (by omega))
  obtain ⟨kc, k1, k2, k3, k4, k5, k6, k7, k8, k9, k10, k11, k12, k13⟩ := clear_ta (F := F) (h0 := hc) (s := 0) (b := 0) (t := 0) hF S3 c2 c3 c4 d1
  obtain ⟨⟨g1, g2, g3, g4, g5, g6, g7⟩, g8, ⟨e0, e1, e2, e3, e4, e5⟩, g10, g11, g12, g13, g14, g15, g16, g17, g18⟩ := R
  have x1 : ∀ f, hI kc f (x + 1) = hI h3 f (x + 1) := fun f => ((k3.2 (x + 1) (by omega)).2.2.1 f (fun z => by have := z.1; omega)).1
  have x3 : ∀ f, hI kc f (x + 3) = hI h3 f (x + 3) := fun f => ((k3.2 (x + 3) (by omega)).2.2.1 f (fun z => by have := z.1; omega)).1
  have x4 : ∀ j, hA kc (x + 4) j = hA h3 (x + 4) j := fun j => ((k3.2 (x + 4) (by omega)).2.2.2 (fun z => by have := z.1; omega) j).1
  have x6 : ∀ j, hA kc (x + 6) j = hA h3 (x + 6) j := fun j => ((k3.2 (x + 6) (by omega)).2.2.2 (fun z => z.2 rfl) j).1
  obtain ⟨Ta, P2, lg⟩ := SB.pn0 (K := K) (sz2 := n2) (c2 := 0) un k2 g11 k4 k5
  obtain ⟨tb0, tb1, tb2, tb3, tb4, tb5, tb7, tb8, tb9, tb10, tb11, tb12, tb13⟩ := k10
  have s1 := Z2.s1
  have sm1 : nI s2 - 1 = nI (s2 - 1) := pk_sub (b := 1) s1.1
  have T2 : Ty kc K x m := by
    refine ⟨fun j hj => ?_, by rw [tb4, g13 _ (by omega)], by rw [tb5, g13 _ (by omega)], by rw [k11, c11 _ _ (by omega) (by omega), g12]; exact T.al, fun j hj => ?_, fun j hj => ?_, fun u hu => ?_⟩
    · rw [x1]
      have : j = 0 ∨ j = 1 ∨ j = 2 ∨ j = 3 ∨ j = 4 ∨ j = 5 := by omega
      rcases this with z | z | z | z | z | z <;> rw [z]
      · exact d0.trans e0.symm
      · exact d1.trans e1.symm
      · exact d2.trans e2.symm
      · exact d3.trans e3.symm
      · exact d4.trans e4.symm
      · exact d5.trans e5.symm
    · rw [g13 _ (by omega)]
      have : j = 0 ∨ j = 1 ∨ j = 2 := by omega
      rcases this with z | z | z <;> rw [z]
      · exact tb7
      · exact tb8
      · exact tb9
    · rw [g13 _ (by omega)]
      have : j = 0 ∨ j = 1 ∨ j = 2 ∨ j = 3 := by omega
      rcases this with z | z | z | z <;> rw [z]
      · exact tb10
      · exact tb11
      · exact tb12
      · exact tb13
    · obtain ⟨u1, u2, u3, u4, u5, u6⟩ := k6 u hu
      obtain ⟨r1, r2, r3, r4, r5⟩ := g15 u hu
      exact ⟨by rw [u3, r3], by rw [u4, r4], by rw [u5, r1], by rw [u6, r2]⟩
  have ca2 : CaIs kc x (cs0 K m) := ⟨fun p hp => by rw [x6, c13 p hp]; exact (g16 p hp).symm, fun g hg => by rw [k7 g hg]; exact (g15 g hg).2.2.2.2.symm, by rw [k8]; show _ = hI K 723 m; rw [g13 _ (by omega)], by rw [k9]; show _ = hI K 724 m; rw [g13 _ (by omega)]⟩
  have n4 := Z2.i1.2
  have mm2 : ∀ p, p < n2 → hA kc (x + 4) p = hA K (m + 2) p := fun p hp => by
    rw [x4, c12, g17, if_neg (show ¬ (n2 ≤ p ∧ p < 4096) by omega)]
    by_cases z : sz ≤ p ∧ p < n2
    · rw [if_pos z, mz p z.1 (by omega)]
    · rw [if_neg z]; exact mm p (by omega)
  have S2 := V.fresh (c2 := 0) (G2 := 1281 * 0) nK xm ml (PLM.w k2) k4 M2 (fun k _ => by rw [g7]) k12 k13 (fun u hu => (k6 u hu).1) (fun u hu => (k6 u hu).2.1) g14 Z2 T2 mm2 (by rw [x3]; exact c10) (fun p h1 h2 => by rw [g17, if_pos ⟨h1, h2⟩]) ca2 (fun g hg => ⟨0, by omega, (g15 g hg).2.2.2.2⟩) (fun u hu => ⟨s2 - 1, by omega, by rw [(g15 u hu).2.2.1, sm1]⟩) (by rw [g13 _ (by omega)]; rfl) P2 lg
  obtain ⟨_, q1, q2, q3, q4, q5⟩ := SB
  refine ⟨kc, by rw [c1, k1, clv_some], ⟨⟨kc, ⟨Ta, S2⟩, Gh.refl _ _, fun _ => rfl⟩, by rw [g12]; exact q1, by omega, q3, by rw [tb0, g10], Or.inr (Or.inr ⟨Or.inl g10, g11⟩)⟩, RC.of k2 lh (fun f a h1 h2 z => ?_)⟩
  unfold PLM at z
  have := nK a h1 h2
  omega
theorem szP_n {v : Int32} {k : Nat} (hk : k < 2 ^ 31) (h : szP v (nI k)) : ∃ n : Nat, v = nI n ∧ 1 ≤ n ∧ n ≤ k := by
  refine nI_64 (n := k) (fun z => ?_) h.2.1 hk
  have a1 := Int32.lt_iff_toInt_lt.mp z
  have a2 := Int32.le_iff_toInt_le.mp h.1
  omega
theorem szOk_n {l s u b g i : Int32} (ok : szOk l s u b g i) : ∃ l2 s2 u2 b2 g2 n2 : Nat, l = nI l2 ∧ s = nI s2 ∧ u = nI u2 ∧ b = nI b2 ∧ g = nI g2 ∧ i = nI n2 ∧ (∃ k, k ≤ 5 ∧ l2 = 2 ^ k) ∧ (1 ≤ s2 ∧ s2 ≤ 16) ∧ (1 ≤ u2 ∧ u2 ≤ 8) ∧ (∃ k, k ≤ 5 ∧ b2 = 2 ^ k) ∧ (0 < g2 ∧ g2 ≤ 8) ∧ (512 ≤ n2 ∧ n2 ≤ 4096) := by
  obtain ⟨o1, o2, o3, o4, o5, o6, o7⟩ := ok
  obtain ⟨l2, e1, l3, l4⟩ := szP_n (k := 32) (by omega) o1
  obtain ⟨s2, e2, s3, s4⟩ := nI_64 (n := 16) o2.1 (Int32.not_lt.mp o2.2) (by omega)
  obtain ⟨u2, e3, u3, u4⟩ := nI_64 (n := 8) o3.1 (Int32.not_lt.mp o3.2) (by omega)
  obtain ⟨b2, e4, b3, b4⟩ := szP_n (k := 32) (by omega) o4
  obtain ⟨g2, e5, g3, g4⟩ := szP_n (k := 8) (by omega) o5
  obtain ⟨n2, e6, n3, n4⟩ := szP_n (k := 4096) (by omega) o6
  have p1 := o1.2.2
  have p4 := o4.2.2
  rw [e1] at p1
  rw [e4] at p4
  refine ⟨l2, s2, u2, b2, g2, n2, e1, e2, e3, e4, e5, e6, pw2_k (pw2_32 l2 (by omega) l3 p1), ⟨s3, s4⟩, ⟨u3, u4⟩, pw2_k (pw2_32 b2 (by omega) b3 p4), ⟨by omega, g4⟩, ?_, n4⟩
  by_cases z : 512 ≤ n2
  · exact z
  · exact absurd (show i < 512 by rw [e6]; exact nI_lt (b := 512) (by omega) (by omega)) o7
theorem k_sizes {F x m lo U0 : Nat} (hF : 40000 ≤ F) (l s u b g i : Int32) : CallOk (f_WM_sizes F x l s u b g i) (f_Mod_sizes F m l s u b g i) x m lo U0 := fun nC hc H J => by
  have J0 := J
  obtain ⟨o, ln, sl, nn, bk, ga, sz, c, al, SB⟩ := J0
  obtain ⟨C, T, ca, ms, mm, e259, M, Z, SL, BL, us, hx, lx, Kk, nf, lh, uf⟩ := SB.vw
  have s4 := SB.2.2.2.2.1
  have et : tUn hc (x + 11) ↔ rUn H m := by unfold tUn rUn; rw [s4]
  rw [c_Mod_sizes M hF]
  by_cases q : szOk l s u b g i ∧ ¬ rUn H m
  · rw [if_pos q]
    obtain ⟨l2, s2, u2, b2, g2, n2, e1, e2, e3, e4, e5, e6, z1, z2, z3, z4, z5, z6⟩ := szOk_n q.1
    subst e1 e2 e3 e4 e5 e6
    have M1 : Md (sI (sI (sI (sI (sI (sI H 704 m 0) 705 m (nI l2)) 706 m (nI s2)) 707 m (nI u2)) 708 m (nI b2)) 709 m (nI g2)) m := M.tsI.tsI.tsI.tsI.tsI.tsI
    have R := rSz H m n2 (nI l2) (nI s2) (nI u2) (nI b2) (nI g2)
    have rl := rs_loop (F := F) (v := nI n2) hF (4096 - n2) n2 F _ (by omega) (by omega) M1
    have e9 : rHouse (rCounts (sI (sI (oA (sI (sI (sI (sI (sI (sI H 704 m 0) 705 m (nI l2)) 706 m (nI s2)) 707 m (nI u2)) 708 m (nI b2)) 709 m (nI g2)) (fr (hA (sI (sI (sI (sI (sI (sI H 704 m 0) 705 m (nI l2)) 706 m (nI s2)) 707 m (nI u2)) 708 m (nI b2)) 709 m (nI g2))) (m + 2) n2 4096 (fun _ => 0))) 710 m (nI n2)) 715 m 0) m) m = rHouse (rSiz H m n2 (nI l2) (nI s2) (nI u2) (nI b2) (nI g2)) m := by
      unfold rSiz
      simp only [qA_sI]
    rw [e9] at rl
    rw [rl]
    generalize rHouse (rSiz H m n2 (nI l2) (nI s2) (nI u2) (nI b2) (nI g2)) m = K at R
    have R0 := R
    obtain ⟨⟨g1, g2, g3, g4, g5, g6, g7⟩, g8, ⟨e0, e1, e2, e3, e4, e5⟩, g10, g11, g12, g13, g14, g15, g16, g17, g18⟩ := R
    have Z2 : Sz K m l2 s2 u2 b2 _ n2 := ⟨e0, e1, e2, e3, e4, e5, z1, z2, z3, z4, z5, z6⟩
    have M2 : Md K m := M.same g3 g4 g5
    obtain ⟨kc, k1, k2, k3⟩ := sizes_st (F := F) hF SB q.2 q.1 Z2 M2 R0
    rw [k1]
    exact ⟨1, kc, K, rfl, rfl, ⟨o, _, _, _, _, _, _, 0, al, k2.nc (by omega)⟩, k3, ⟨g1, g2, g3, g4, g5, g6⟩, g8, fun a j n => g18 a j (fun y => n (by omega)), fun a j n => by rw [g7]⟩
  · rw [if_neg q]
    refine ⟨0, hc, _, ?_, rfl, J.th.nc (by omega), RC.refl _ _ _, RR.th⟩
    rw [f_WM_sizes, gd_t C.k, rq_k C.r_tally C.k_tally, c_Tally_underWay C.k_tally, cl_some, bI_ite]
    by_cases z : rUn H m
    · rw [if_pos (et.mpr z)]
    · rw [if_neg (fun y => z (et.mp y)), gd_t C.k, rq_k C.r_sizes C.k_sizes, c_Sizes_become C.k_sizes, if_neg (fun y => q ⟨y, z⟩), cl_some, if_pos rfl]
