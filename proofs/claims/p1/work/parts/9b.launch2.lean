/-! launch, both sides -/
def rLau (h : Hp) (m : Nat) (nb nt : Int32) : Hp := rCounts (sI (sI (sI (sI (sI h 704 m 0) 716 m nb) 717 m nt) 715 m 1) 718 m 0) m
theorem rCo_i (h : Hp) (m f : Nat) : hI (rCounts h m) f m = if (719 ≤ f ∧ f ≤ 725) ∨ (727 ≤ f ∧ f ≤ 730) then 0 else hI h f m := by
  by_cases q : (719 ≤ f ∧ f ≤ 725) ∨ (727 ≤ f ∧ f ≤ 730)
  · rw [if_pos q]
    have : f = 719 ∨ f = 720 ∨ f = 721 ∨ f = 722 ∨ f = 723 ∨ f = 724 ∨ f = 725 ∨ f = 727 ∨ f = 728 ∨ f = 729 ∨ f = 730 := by omega
    unfold rCounts
    rcases this with z | z | z | z | z | z | z | z | z | z | z <;> rw [z] <;> simp [qI_sI]
  · rw [if_neg q]
    unfold rCounts
    rw [qI_sI, if_neg (fun y => by omega), qI_sI, if_neg (fun y => by omega), qI_sI, if_neg (fun y => by omega), qI_sI, if_neg (fun y => by omega), qI_sI, if_neg (fun y => by omega), qI_sI, if_neg (fun y => by omega), qI_sI, if_neg (fun y => by omega), qI_sI, if_neg (fun y => by omega), qI_sI, if_neg (fun y => by omega), qI_sI, if_neg (fun y => by omega), qI_sI, if_neg (fun y => by omega)]
theorem rCo_o (h : Hp) (m : Nat) : hT (rCounts h m) = hT h ∧ hU (rCounts h m) = hU h ∧ hK (rCounts h m) = hK h ∧ hN (rCounts h m) = hN h ∧ hR (rCounts h m) = hR h ∧ hQ (rCounts h m) = hQ h ∧ hA (rCounts h m) = hA h ∧ hL (rCounts h m) = hL h ∧ ∀ f a, ¬ a = m → hI (rCounts h m) f a = hI h f a := by
  unfold rCounts
  refine ⟨by simp only [qT_sI], by simp only [qU_sI], by simp only [qK_sI], by simp only [qN_sI], by simp only [qR_sI], by simp only [qQ_sI], by simp only [qA_sI], by simp only [qL_sI], fun f a n => ?_⟩
  rw [qI_sI, if_neg (fun y => n y.2), qI_sI, if_neg (fun y => n y.2), qI_sI, if_neg (fun y => n y.2), qI_sI, if_neg (fun y => n y.2), qI_sI, if_neg (fun y => n y.2), qI_sI, if_neg (fun y => n y.2), qI_sI, if_neg (fun y => n y.2), qI_sI, if_neg (fun y => n y.2), qI_sI, if_neg (fun y => n y.2), qI_sI, if_neg (fun y => n y.2), qI_sI, if_neg (fun y => n y.2)]
/-- what clearUnits leaves -/
def RUn (h k : Hp) (m : Nat) : Prop := (hT k = hT h ∧ hU k = hU h ∧ hK k = hK h ∧ hN k = hN h ∧ hR k = hR h ∧ hQ k = hQ h ∧ hL k = hL h) ∧ (∀ f a, ¬ (a = m ∧ (f = 745 ∨ f = 746)) → hI k f a = hI h f a) ∧ hI k 745 m = 0 ∧ (∀ t, t < 128 → hA k (m + 9) t = -1) ∧ (∀ u, u < 8 → hA k (m + 5) u = 0 ∧ hA k (m + 6) u = 0 ∧ hA k (m + 7) u = hI h 706 m - 1 ∧ hA k (m + 8) u = 0 ∧ hA k (m + 4) u = 0) ∧ (∀ a j, ¬ (m + 4 ≤ a ∧ a ≤ m + 9) → hA k a j = hA h a j)
theorem rUn_st (h : Hp) (m : Nat) : RUn h (rFreeAll (oA h (rUnits h m 8)) m) m := by
  unfold RUn rFreeAll
  refine ⟨⟨rfl, rfl, rfl, rfl, rfl, rfl, rfl⟩, fun f a n => ?_, ?_, fun t ht => ?_, fun u hu => ⟨?_, ?_, ?_, ?_, ?_⟩, fun a j n => ?_⟩
  · rw [qI_sI, if_neg (fun y => n ⟨y.2, Or.inr y.1⟩), qI_sI, if_neg (fun y => n ⟨y.2, Or.inl y.1⟩), qI_oA, qI_oA]
  · rw [qI_sI, if_neg (fun y => by omega), qI_sI, if_pos ⟨rfl, rfl⟩]
  · rw [qA_sI, qA_sI, qA_oA, fr_i (by omega) ht]
  · rw [qA_sI, qA_sI, qA_oA, fr_o (by omega), qA_oA]
    unfold rUnits
    rw [fr_o (by omega), fr_o (by omega), fr_o (by omega), fr_o (by omega), fr_i (by omega) hu]
  · rw [qA_sI, qA_sI, qA_oA, fr_o (by omega), qA_oA]
    unfold rUnits
    rw [fr_o (by omega), fr_o (by omega), fr_o (by omega), fr_i (by omega) hu]
  · rw [qA_sI, qA_sI, qA_oA, fr_o (by omega), qA_oA]
    unfold rUnits
    rw [fr_o (by omega), fr_o (by omega), fr_i (by omega) hu]
  · rw [qA_sI, qA_sI, qA_oA, fr_o (by omega), qA_oA]
    unfold rUnits
    rw [fr_o (by omega), fr_i (by omega) hu]
  · rw [qA_sI, qA_sI, qA_oA, fr_o (by omega), qA_oA]
    unfold rUnits
    rw [fr_i (by omega) hu]
  · rw [qA_sI, qA_sI, qA_oA, fr_o (by omega), qA_oA]
    unfold rUnits
    rw [fr_o (by omega), fr_o (by omega), fr_o (by omega), fr_o (by omega), fr_o (by omega)]
theorem rLau_i (h : Hp) (m : Nat) (nb nt : Int32) : (∀ f, f < 715 → ¬ f = 704 → hI (rLau h m nb nt) f m = hI h f m) ∧ hI (rLau h m nb nt) 726 m = hI h 726 m ∧ hI (rLau h m nb nt) 715 m = 1 ∧ hI (rLau h m nb nt) 716 m = nb ∧ hI (rLau h m nb nt) 717 m = nt ∧ hI (rLau h m nb nt) 718 m = 0 ∧ (∀ f, (719 ≤ f ∧ f ≤ 725) ∨ (727 ≤ f ∧ f ≤ 730) → hI (rLau h m nb nt) f m = 0) := by
  unfold rLau
  refine ⟨fun f h1 h2 => ?_, ?_, ?_, ?_, ?_, ?_, fun f hf => by rw [rCo_i, if_pos hf]⟩
  · rw [rCo_i, if_neg (fun y => by omega), qI_sI, if_neg (fun y => by omega), qI_sI, if_neg (fun y => by omega), qI_sI, if_neg (fun y => by omega), qI_sI, if_neg (fun y => by omega), qI_sI, if_neg (fun y => by omega)]
  · rw [rCo_i, if_neg (fun y => by omega)]; simp [qI_sI]
  · rw [rCo_i, if_neg (fun y => by omega)]; simp [qI_sI]
  · rw [rCo_i, if_neg (fun y => by omega)]; simp [qI_sI]
  · rw [rCo_i, if_neg (fun y => by omega)]; simp [qI_sI]
  · rw [rCo_i, if_neg (fun y => by omega)]; simp [qI_sI]
theorem rLau_o (h : Hp) (m : Nat) (nb nt : Int32) : hT (rLau h m nb nt) = hT h ∧ hU (rLau h m nb nt) = hU h ∧ hK (rLau h m nb nt) = hK h ∧ hN (rLau h m nb nt) = hN h ∧ hR (rLau h m nb nt) = hR h ∧ hQ (rLau h m nb nt) = hQ h ∧ hA (rLau h m nb nt) = hA h ∧ hL (rLau h m nb nt) = hL h ∧ ∀ f a, ¬ a = m → hI (rLau h m nb nt) f a = hI h f a := by
  unfold rLau
  obtain ⟨a1, a2, a3, a4, a5, a6, a7, a8, a9⟩ := rCo_o (sI (sI (sI (sI (sI h 704 m 0) 716 m nb) 717 m nt) 715 m 1) 718 m 0) m
  rw [a1, a2, a3, a4, a5, a6, a7, a8]
  refine ⟨rfl, rfl, rfl, rfl, rfl, rfl, rfl, rfl, fun f a n => ?_⟩
  rw [a9 f a n, qI_sI, if_neg (fun y => n y.2), qI_sI, if_neg (fun y => n y.2), qI_sI, if_neg (fun y => n y.2), qI_sI, if_neg (fun y => n y.2), qI_sI, if_neg (fun y => n y.2)]
theorem SmB.nK {o : Nat → Nat} {hc H : Hp} {x m lo ln sl nn bk ga sz c al U0 nC : Nat} (S : SmB o hc H x m lo ln sl nn bk ga sz c al U0 nC) : (∀ a, m ≤ a → a < lo → 12 ≤ hK hc a) ∧ (∀ p, sz ≤ p → p < 4096 → hA H (m + 2) p = 0) := by
  obtain ⟨⟨hg, ⟨Ta, S⟩, g, _⟩, _⟩ := S
  exact ⟨fun a h1 h2 => by rw [g.1.2.2.1]; exact S.nK a h1 h2, S.mz⟩
/-- the state after a launch -/
theorem launch_st {F : Nat} {o : Nat → Nat} {hc H K : Hp} {x m lo ln sl nn bk ga sz c al U0 nC nb nt : Nat} (hF : 40000 ≤ F) (SB : SmB o hc H x m lo ln sl nn bk ga sz c al U0 nC) (un : ¬ rUn H m) (b1 : 1 ≤ nb ∧ nb ≤ 64) (t1 : 1 ≤ nt ∧ nt ≤ ln * sl) (M2 : Md K m) (R : RUn (rLau H m (nI nb) (nI nt)) K m) : ∃ kc, f_WM_clearForLaunch F x (taBegin hc (x + 11) 1 (nI nb) (nI nt)) = some kc ∧ SmB o kc K x m lo ln sl nn bk ga sz 0 al U0 nC ∧ RC m lo hc kc := by
  have V := SB.vw
  have V0 := V
  obtain ⟨C, T, ca, ms, mm, e259, M, Z, SL, BL, us, hx, lx, Kk, nf, lh, uf⟩ := V0
  have xm := SB.m.2.2
  have ml := SB.m.2.1
  obtain ⟨nK, mz⟩ := SB.nK
  have h65 : hI hc 65 (x + 1) = nI sl := by have := T.sz 1 (by omega); rw [this]; exact Z.sl
  obtain ⟨kc, k1, k2, k3, k4, k5, k6, k7, k8, k9, k10, k11, k12, k13⟩ := clear_ta (F := F) (h0 := hc) (s := 1) (b := nI nb) (t := nI nt) hF V.fs (Fr.refl hc) rfl rfl h65
  obtain ⟨⟨g1, g2, g3, g4, g5, g6, g7⟩, g8, g9, g10, g11, g12⟩ := R
  obtain ⟨l1, l2, l3, l4, l5, l6, l7⟩ := rLau_i H m (nI nb) (nI nt)
  obtain ⟨_, _, _, _, _, _, q7, q8, _⟩ := rLau_o H m (nI nb) (nI nt)
  have I : ∀ f, ¬ (f = 745 ∨ f = 746) → hI K f m = hI (rLau H m (nI nb) (nI nt)) f m := fun f n => g8 f m (fun y => n y.2)
  have aK : ∀ a j, ¬ (m + 4 ≤ a ∧ a ≤ m + 9) → hA K a j = hA H a j := fun a j n => by rw [g12 a j n, q7]
  have x1 : ∀ f, hI kc f (x + 1) = hI hc f (x + 1) := fun f => ((k3.2 (x + 1) (by omega)).2.2.1 f (fun z => by have := z.1; omega)).1
  have x3 : ∀ f, hI kc f (x + 3) = hI hc f (x + 3) := fun f => ((k3.2 (x + 3) (by omega)).2.2.1 f (fun z => by have := z.1; omega)).1
  have x4 : ∀ j, hA kc (x + 4) j = hA hc (x + 4) j := fun j => ((k3.2 (x + 4) (by omega)).2.2.2 (fun z => by have := z.1; omega) j).1
  have x6 : ∀ j, hA kc (x + 6) j = hA hc (x + 6) j := fun j => ((k3.2 (x + 6) (by omega)).2.2.2 (fun z => z.2 rfl) j).1
  obtain ⟨Ta, P2, lg⟩ := SB.pn0 (K := K) (sz2 := sz) (c2 := 0) un k2 g9 k4 k5
  obtain ⟨i1, i2, i3, i4⟩ := ca
  obtain ⟨tb0, tb1, tb2, tb3, tb4, tb5, tb7, tb8, tb9, tb10, tb11, tb12, tb13⟩ := k10
  have Z2 : Sz K m ln sl nn bk ga sz := ⟨by rw [I _ (by omega), l1 _ (by omega) (by omega)]; exact Z.ln, by rw [I _ (by omega), l1 _ (by omega) (by omega)]; exact Z.sl, by rw [I _ (by omega), l1 _ (by omega) (by omega)]; exact Z.nu, by rw [I _ (by omega), l1 _ (by omega) (by omega)]; exact Z.bk, by rw [I _ (by omega), l1 _ (by omega) (by omega)]; exact Z.ga, by rw [I _ (by omega), l1 _ (by omega) (by omega)]; exact Z.sz, Z.lp, Z.s1, Z.u1, Z.bp, Z.g1, Z.i1⟩
  have s1 := Z.s1
  have e706 : hI (rLau H m (nI nb) (nI nt)) 706 m = nI sl := by rw [l1 _ (by omega) (by omega)]; exact Z.sl
  have sm1 : nI sl - 1 = nI (sl - 1) := pk_sub (b := 1) s1.1
  have T2 : Ty kc K x m := by
    refine ⟨fun j hj => by rw [x1, I _ (by omega), l1 _ (by omega) (by omega)]; exact T.sz j hj, by rw [tb4, I _ (by omega), l7 _ (by omega)], by rw [tb5, I _ (by omega), l7 _ (by omega)], by rw [k11, I _ (by omega), l2]; exact T.al, fun j hj => ?_, fun j hj => ?_, fun u hu => ?_⟩
    · rw [I _ (by omega), l7 _ (by omega)]
      have : j = 0 ∨ j = 1 ∨ j = 2 := by omega
      rcases this with z | z | z <;> rw [z]
      · exact tb7
      · exact tb8
      · exact tb9
    · rw [I _ (by omega), l7 _ (by omega)]
      have : j = 0 ∨ j = 1 ∨ j = 2 ∨ j = 3 := by omega
      rcases this with z | z | z | z <;> rw [z]
      · exact tb10
      · exact tb11
      · exact tb12
      · exact tb13
    · obtain ⟨u1, u2, u3, u4, u5, u6⟩ := k6 u hu
      obtain ⟨r1, r2, r3, r4, r5⟩ := g11 u hu
      exact ⟨by rw [u3, r3, e706], by rw [u4, r4], by rw [u5, r1], by rw [u6, r2]⟩
  have ca2 : CaIs kc x (cs0 K m) := ⟨fun p hp => by rw [x6, i1 p hp]; exact (aK (m + 3) p (by omega)).symm, fun g hg => by rw [k7 g hg]; exact (g11 g hg).2.2.2.2.symm, by rw [k8]; show _ = hI K 723 m; rw [I _ (by omega), l7 _ (by omega)], by rw [k9]; show _ = hI K 724 m; rw [I _ (by omega), l7 _ (by omega)]⟩
  have S2 := V.fresh (c2 := 0) (G2 := 1281 * 0) nK xm ml (PLM.w k2) k4 M2 (fun k _ => by rw [g7, q8]) k12 k13 (fun u hu => (k6 u hu).1) (fun u hu => (k6 u hu).2.1) g10 Z2 T2 (fun p hp => by rw [x4, mm p hp]; exact (aK (m + 2) p (by omega)).symm) (by rw [x3]; exact ms) (fun p h1 h2 => by rw [aK _ _ (by omega)]; exact mz p h1 h2) ca2 (fun g hg => ⟨0, by omega, (g11 g hg).2.2.2.2⟩) (fun u hu => ⟨sl - 1, by omega, by rw [(g11 u hu).2.2.1, e706, sm1]⟩) (by rw [I _ (by omega), l7 _ (by omega)]; rfl) P2 lg
  obtain ⟨_, s1, s2, s3, s4, s5⟩ := SB
  refine ⟨kc, k1, ⟨⟨kc, ⟨Ta, S2⟩, Gh.refl _ _, fun _ => rfl⟩, by rw [I _ (by omega), l2]; exact s1, by omega, s3, by rw [tb0, I _ (by omega), l3], Or.inl ⟨by rw [I _ (by omega), l3], by rw [I _ (by omega), l7 _ (by omega)], nb, nt, 0, tb1, by rw [I _ (by omega), l4], tb2, by rw [I _ (by omega), l5], tb3, by rw [I _ (by omega), l6]; rfl, b1, t1, by omega, fun s b hs hb e => ?_⟩⟩, RC.of k2 lh (fun f a h1 h2 z => ?_)⟩
  · rw [g10 s hs] at e
    exact absurd e.symm (nI_m1 (by omega))
  · unfold PLM at z
    have := nK a h1 h2
    omega
theorem Md.lau {H : Hp} {m : Nat} {nb nt : Int32} (M : Md H m) : Md (rFreeAll (oA (rLau H m nb nt) (rUnits (rLau H m nb nt) m 8)) m) m := by
  obtain ⟨a1, a2, a3, a4, a5, a6, a7, a8, a9⟩ := rLau_o H m nb nt
  have M1 : Md (rLau H m nb nt) m := M.same a3 a4 a5
  exact M1.units
theorem RUn.rr {H K : Hp} {m : Nat} {nb nt : Int32} (R : RUn (rLau H m nb nt) K m) : RR m H K := by
  obtain ⟨⟨g1, g2, g3, g4, g5, g6, g7⟩, g8, g9, g10, g11, g12⟩ := R
  obtain ⟨a1, a2, a3, a4, a5, a6, a7, a8, a9⟩ := rLau_o H m nb nt
  exact ⟨⟨g1.trans a1, g2.trans a2, g3.trans a3, g4.trans a4, g5.trans a5, g6.trans a6⟩, fun f a n => by rw [g8 f a (fun y => n y.1), a9 f a n], fun a j n => by rw [g12 a j (fun y => n (by omega)), a7], fun a j n => by rw [g7, a8]⟩
theorem nI_64 {v : Int32} {n : Nat} (h1 : ¬ v < 1) (h2 : v ≤ nI n) (hn : n < 2 ^ 31) : ∃ b : Nat, v = nI b ∧ 1 ≤ b ∧ b ≤ n := by
  have h0 : ¬ v < 0 := fun z => h1 (Int32.lt_iff_toInt_lt.mpr (by
    have b := Int32.lt_iff_toInt_lt.mp z
    rw [show (0 : Int32).toInt = 0 from rfl] at b
    rw [show (1 : Int32).toInt = 1 from rfl]
    omega))
  obtain ⟨b, hb, eb⟩ := nI_of2 (M := nI n) (n := n) (nI_toInt hn) h0 h2
  refine ⟨b, eb, ?_, hb⟩
  by_cases z : b = 0
  · exfalso; subst z; rw [eb] at h1; exact h1 (by decide)
  · omega
theorem k_launch {F x m lo U0 : Nat} (hF : 40000 ≤ F) (nb nt : Int32) : CallOk (f_WM_launch F x nb nt) (f_Mod_launch F m nb nt) x m lo U0 := fun nC hc H J => by
  have J0 := J
  obtain ⟨o, ln, sl, nn, bk, ga, sz, c, al, SB⟩ := J0
  obtain ⟨C, T, ca, ms, mm, e259, M, Z, SL, BL, us, hx, lx, Kk, nf, lh, uf⟩ := SB.vw
  have s4 := SB.2.2.2.2.1
  have et : tUn hc (x + 11) ↔ rUn H m := by unfold tUn rUn; rw [s4]
  have cm := c_Mod_launch (F := F) M hF nb nt
  have h64 : hI hc 64 (x + 1) = nI ln := by have := T.sz 0 (by omega); rw [this]; exact Z.ln
  have h65 : hI hc 65 (x + 1) = nI sl := by have := T.sz 1 (by omega); rw [this]; exact Z.sl
  have l32 := Z.l32
  have s16 := Z.s1.2
  have lsb : ln * sl ≤ 32 * 16 := Nat.mul_le_mul l32 s16
  have cst : f_WM_launch F x nb nt hc = if ¬ rUn H m ∧ ¬ nb < 1 ∧ ¬ 64 < nb ∧ ¬ nt < 1 ∧ nt ≤ nI (ln * sl) then (clv (f_WM_clearForLaunch F x (taBegin hc (x + 11) 1 nb nt)) fun h_60_2 => some ((1 : Int32), h_60_2)) else some (0, hc) := by
    have kk : hK (taBegin hc (x + 11) 1 nb nt) x = 1 := by rw [(ta_o hc (x + 11) 1 nb nt).2.2.1]; exact C.k
    rw [f_WM_launch, gd_t C.k, rq_k C.r_tally C.k_tally, c_Tally_underWay C.k_tally, cl_some, bI_ite, gd_t C.k, rq_k C.r_sizes C.k_sizes, rq_k C.r_tally C.k_tally, c_Tally_begin C.k_tally, clv_some, gd_t kk, h64, h65, pk_mul]
    by_cases z1 : rUn H m
    · rw [if_pos (et.mpr z1), if_neg (fun y => y.1 z1)]
    rw [if_neg (fun y => z1 (et.mp y))]
    by_cases z2 : nb < 1
    · rw [if_pos z2, if_neg (fun y => y.2.1 z2)]
    rw [if_neg z2]
    by_cases z3 : nb ≤ 64
    case neg => rw [if_neg z3, if_neg (fun y => y.2.2.1 (Int32.not_le.mp z3))]
    rw [if_pos z3]
    by_cases z4 : nt < 1
    · rw [if_pos z4, if_neg (fun y => y.2.2.2.1 z4)]
    rw [if_neg z4]
    by_cases z5 : nt ≤ nI (ln * sl)
    · rw [if_pos z5, if_pos ⟨z1, z2, Int32.not_lt.mpr z3, z4, z5⟩]
    · rw [if_neg z5, if_neg (fun y => z5 y.2.2.2.2)]
  rw [Z.ln, Z.sl, pk_mul] at cm
  rw [cst, cm]
  by_cases q : ¬ rUn H m ∧ ¬ nb < 1 ∧ ¬ 64 < nb ∧ ¬ nt < 1 ∧ nt ≤ nI (ln * sl)
  · rw [if_pos q, if_pos q]
    obtain ⟨b, eb, b1, b2⟩ := nI_64 (n := 64) q.2.1 (Int32.not_lt.mp q.2.2.1) (by omega)
    obtain ⟨t, et2, t1, t2⟩ := nI_64 (n := ln * sl) q.2.2.2.1 q.2.2.2.2 (by omega)
    subst eb et2
    have R := rUn_st (rLau H m (nI b) (nI t)) m
    obtain ⟨kc, k1, k2, k3⟩ := launch_st (F := F) hF SB q.1 ⟨b1, b2⟩ ⟨t1, t2⟩ M.lau R
    rw [k1, clv_some]
    exact ⟨1, kc, _, rfl, rfl, ⟨o, ln, sl, nn, bk, ga, sz, 0, al, k2.nc (by omega)⟩, k3, R.rr⟩
  · rw [if_neg q, if_neg q]
    exact ⟨0, hc, _, rfl, rfl, J.th.nc (by omega), RC.refl _ _ _, RR.th⟩
