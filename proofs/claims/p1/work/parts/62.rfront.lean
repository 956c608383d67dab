/-! the reference's front, to the lanes -/
theorem c_time_loc {F : Nat} {h : Hp} {m u s : Nat} (M : Md h m) (hu : u < 8) (km : ¬ kMem (hI h 756 m)) : f_Mod_time F m (nI u) (nI s) h = some (kWait (hI h 756 m), if hI h 756 m = 7 ∨ hI h 756 m = 8 then sA h (m + 5) u (hI h 719 m + 8) else h) := by
  have e58 : b_Mod_time_58 F m (nI u) h = some (8, sA h (m + 5) u (hI h 719 m + 8)) := by
    rw [b_Mod_time_58, gd_t M.k, rq_k M.r_divider M.k_divider, M.n_divider, ixn hu (by decide), pw_e]
  rw [f_Mod_time, gd_t M.k, c_Mod_isMemory M.k, cl_some, bI_f km, if_pos rfl, gd_t M.k]
  unfold kWait
  by_cases c70 : hI h 756 m < 70
  · rw [if_pos c70, e58, b_Mod_time_101]
    by_cases c7 : hI h 756 m = 7
    · rw [if_pos c7, if_pos (Or.inl c7), if_pos (Or.inl c7)]
    · rw [if_neg c7]
      by_cases c8 : hI h 756 m = 8
      · rw [if_pos c8, if_pos (Or.inr c8), if_pos (Or.inr c8)]
      · have n78 : ¬ (hI h 756 m = 7 ∨ hI h 756 m = 8) := fun z => z.elim c7 c8
        rw [if_neg c8, if_neg n78, if_neg n78]
        by_cases c6 : hI h 756 m = 6
        · rw [if_pos c6, if_pos (Or.inl c6)]
        · rw [if_neg c6]
          by_cases c17 : hI h 756 m = 17
          · rw [if_pos c17, if_pos (Or.inr (Or.inl c17))]
          · rw [if_neg c17]
            by_cases c19 : hI h 756 m = 19
            · rw [if_pos c19, if_pos (Or.inr (Or.inr c19))]
            · rw [if_neg c19, if_neg (fun z => z.elim c6 (fun y => y.elim c17 c19)), if_pos c70]
  · have n78 : ¬ (hI h 756 m = 7 ∨ hI h 756 m = 8) := fun z => c70 (by rcases z with z | z <;> rw [z] <;> decide)
    have n6 : ¬ (hI h 756 m = 6 ∨ hI h 756 m = 17 ∨ hI h 756 m = 19) := fun z => c70 (by rcases z with z | z | z <;> rw [z] <;> decide)
    rw [if_neg c70, if_neg n78, if_neg n78, if_neg n6, if_neg c70]
/-- what a word leaves beside its lanes -/
def RG (H h2 : Hp) (m u s ln : Nat) (v : Int64) : Prop := (RfG m H h2) ∧ (hI h2 756 m = wOp v) ∧ (hI h2 757 m = wD v) ∧ (hI h2 758 m = wA v) ∧ (hI h2 759 m = wB v) ∧ (hI h2 761 m = wN v) ∧ (∀ i, i < 32 → dsB h2 m i = dD (rTake H m v) m s i) ∧ (∀ i, gpB h2 m i = gpB H m i) ∧ (hI h2 762 m = vtF (wOp v) (cn (fun i => dD (rTake H m v) m s i && decide (rHas H m (32 * s + i) (wA v))) ln) (cn (fun i => dD (rTake H m v) m s i) ln)) ∧ (∀ i, i < ln → hA h2 (m + 28) i = if rLn H m s i then hA H (m + 13) (16 * (32 * s + i) + nA v) else 0) ∧ (hI h2 720 m = hI H 720 m + 1) ∧ (hI h2 721 m = hI H 721 m + nI (cn (dD (rTake H m v) m s) 32)) ∧ (hI h2 722 m = hI H 722 m + (if nI (cn (gpB H m) 32) ≤ nI (cn (dD (rTake H m v) m s) 32) then 0 else 1)) ∧ (∀ t, hA h2 (m + 8) t = if t = u then hA H (m + 8) u + 1 else hA H (m + 8) t)
theorem RG.R {H h2 : Hp} {m u s ln : Nat} {v : Int64} (X : RG H h2 m u s ln v) : RfG m H h2 := X.1
theorem RG.f1 {H h2 : Hp} {m u s ln : Nat} {v : Int64} (X : RG H h2 m u s ln v) : hI h2 756 m = wOp v := X.2.1
theorem RG.f2 {H h2 : Hp} {m u s ln : Nat} {v : Int64} (X : RG H h2 m u s ln v) : hI h2 757 m = wD v := X.2.2.1
theorem RG.f3 {H h2 : Hp} {m u s ln : Nat} {v : Int64} (X : RG H h2 m u s ln v) : hI h2 758 m = wA v := X.2.2.2.1
theorem RG.f4 {H h2 : Hp} {m u s ln : Nat} {v : Int64} (X : RG H h2 m u s ln v) : hI h2 759 m = wB v := X.2.2.2.2.1
theorem RG.f6 {H h2 : Hp} {m u s ln : Nat} {v : Int64} (X : RG H h2 m u s ln v) : hI h2 761 m = wN v := X.2.2.2.2.2.1
theorem RG.ds {H h2 : Hp} {m u s ln : Nat} {v : Int64} (X : RG H h2 m u s ln v) : ∀ i, i < 32 → dsB h2 m i = dD (rTake H m v) m s i := X.2.2.2.2.2.2.1
theorem RG.gp {H h2 : Hp} {m u s ln : Nat} {v : Int64} (X : RG H h2 m u s ln v) : ∀ i, gpB h2 m i = gpB H m i := X.2.2.2.2.2.2.2.1
theorem RG.vo {H h2 : Hp} {m u s ln : Nat} {v : Int64} (X : RG H h2 m u s ln v) : hI h2 762 m = vtF (wOp v) (cn (fun i => dD (rTake H m v) m s i && decide (rHas H m (32 * s + i) (wA v))) ln) (cn (fun i => dD (rTake H m v) m s i) ln) := X.2.2.2.2.2.2.2.2.1
theorem RG.had {H h2 : Hp} {m u s ln : Nat} {v : Int64} (X : RG H h2 m u s ln v) : ∀ i, i < ln → hA h2 (m + 28) i = if rLn H m s i then hA H (m + 13) (16 * (32 * s + i) + nA v) else 0 := X.2.2.2.2.2.2.2.2.2.1
theorem RG.we {H h2 : Hp} {m u s ln : Nat} {v : Int64} (X : RG H h2 m u s ln v) : hI h2 720 m = hI H 720 m + 1 := X.2.2.2.2.2.2.2.2.2.2.1
theorem RG.di {H h2 : Hp} {m u s ln : Nat} {v : Int64} (X : RG H h2 m u s ln v) : hI h2 721 m = hI H 721 m + nI (cn (dD (rTake H m v) m s) 32) := X.2.2.2.2.2.2.2.2.2.2.2.1
theorem RG.pa {H h2 : Hp} {m u s ln : Nat} {v : Int64} (X : RG H h2 m u s ln v) : hI h2 722 m = hI H 722 m + (if nI (cn (gpB H m) 32) ≤ nI (cn (dD (rTake H m v) m s) 32) then 0 else 1) := X.2.2.2.2.2.2.2.2.2.2.2.2.1
theorem RG.uw {H h2 : Hp} {m u s ln : Nat} {v : Int64} (X : RG H h2 m u s ln v) : ∀ t, hA h2 (m + 8) t = if t = u then hA H (m + 8) u + 1 else hA H (m + 8) t := X.2.2.2.2.2.2.2.2.2.2.2.2.2

theorem r_front {F : Nat} {H : Hp} {m u s i0 p a b ln : Nat} {wt : Int32} {T2 : Hp} (M : Md H m) (hF : 40000 ≤ F) (hs : s < 128) (hu : u < 8) (hi : i0 < 32) (q : ¬ hA H (m + 26) i0 = 0) (l : ∀ j, j < i0 → hA H (m + 26) j = 0) (ep : hA H (m + 15) (32 * s + i0) = nI p) (lp : p < 128) (hl : hI H 705 m = nI ln) (l32 : ln ≤ 32) (v : Int64) (ev : hL H (m + 1) p = v) (kk : kKnown (wOp v) (wN v)) (ok : ∀ j, j < ln → dD (rTake H m v) m s j = true → wyN (rTake H m v) m (32 * s + j) (nA v) (nB v) = 0) (et : f_Mod_time F m (nI u) (nI s) (ddH (rTake H m v) m s 32) = some (wt, T2)) (Rt : Rf m (fun f => 723 ≤ f ∧ f ≤ 724) (fun a => ((m + 3) ≤ a ∧ a ≤ (m + 6)) ∨ a = (m + 25)) (ddH (rTake H m v) m s 32) T2) : ∃ h2, f_Mod_go F m (nI u) (nI s) H = b_Mod_go_318 F F m (nI s) wt 0 h2 ∧ RG H h2 m u s ln v ∧ (∀ f, 723 ≤ f → f ≤ 724 → hI h2 f m = hI T2 f m) ∧ ∀ c j, ((m + 3) ≤ c ∧ c ≤ (m + 7)) ∨ c = (m + 25) → hA h2 c j = hA T2 c j := by
  subst ev
  generalize hv : hL H (m + 1) p = v at *
  have ST := rTake_f H m v
  have MT : Md (rTake H m v) m := ST.md M
  obtain ⟨t1, t2, t3, t4, t5, t6⟩ := rTake_r H m v
  have MD : Md (ddH (rTake H m v) m s 32) m := MT.toA
  have dI : ∀ f, hI (ddH (rTake H m v) m s 32) f m = hI (rTake H m v) f m := fun f => by unfold ddH; rw [qI_oA]
  have dA : ∀ c j, ¬ c = (m + 27) → hA (ddH (rTake H m v) m s 32) c j = hA H c j := fun c j z => by
    unfold ddH
    rw [qA_oA, fr_o z]
    unfold rTake
    simp only [qA_sI]
  have tA : ∀ c j, hA (rTake H m v) c j = hA H c j := fun c j => by unfold rTake; simp only [qA_sI]
  have dds : ∀ j, j < 32 → dsB (ddH (rTake H m v) m s 32) m j = dD (rTake H m v) m s j := fun j hj => by
    unfold dsB ddH
    rw [qA_oA, fr_i (by omega) hj]
    cases z : dD (rTake H m v) m s j with
    | true => rfl
    | false => rfl
  have eqA := nA_is v
  have eqB := nB_is v
  have wy : ∀ j, j < ln → dsB (ddH (rTake H m v) m s 32) m j = true → wyN (ddH (rTake H m v) m s 32) m (32 * s + j) (nA v) (nB v) = 0 := fun j hj z => by
    rw [dds j (by omega)] at z
    have := ok j hj z
    unfold wyN at this ⊢
    rw [dI, dI, dI, dA _ _ (by omega), dA _ _ (by omega), ← tA, ← tA]
    exact this
  have MT2 : Md T2 m := Rt.md MD
  have st := l_go191n (F := F) (x5 := nI (cn (dD (rTake H m v) m s) 32)) (x6 := nI (cn (gpB (rTake H m v) m) 32)) MD hF hs hu (by rw [dI, t3]; exact eqA) (nA_lt v) (by rw [dI, t4]; exact eqB) (nB_lt v) (by rw [dI, ST.i (by omega)]; exact hl) l32 wy et MT2
  have gH : gpB (rTake H m v) m = gpB H m := funext fun j => by unfold gpB; rw [tA]
  rw [gH] at st
  have cI : ∀ f, ¬ f = 720 → ¬ f = 721 → ¬ f = 722 → hI (cGH T2 m u (nI (cn (dD (rTake H m v) m s) 32)) (nI (cn (gpB H m) 32))) f m = hI T2 f m := fun f z1 z2 z3 => by
    unfold cGH
    rw [qI_sI, if_neg (fun y => z3 y.1), qI_sI, if_neg (fun y => z2 y.1), qI_sA, qI_sI, if_neg (fun y => z1 y.1)]
  have cA : ∀ c j, ¬ c = (m + 8) → hA (cGH T2 m u (nI (cn (dD (rTake H m v) m s) 32)) (nI (cn (gpB H m) 32))) c j = hA T2 c j := fun c j z => by
    unfold cGH
    rw [qA_sI, qA_sI, qA_sA, if_neg (fun y => z y.1), qA_sI]
  have MC : Md (cGH T2 m u (nI (cn (dD (rTake H m v) m s) 32)) (nI (cn (gpB H m) 32))) m := (MT2.tsI.tsA.tsI).tsI
  have TI : ∀ f, ¬ (723 ≤ f ∧ f ≤ 724) → hI T2 f m = hI (rTake H m v) f m := fun f z => by rw [Rt.i z, dI]
  have TA : ∀ c j, ¬ (((m + 3) ≤ c ∧ c ≤ (m + 6)) ∨ c = (m + 25)) → ¬ c = (m + 27) → hA T2 c j = hA H c j := fun c j z z2 => by rw [Rt.a z, dA c j z2]
  have tds : ∀ j, hA T2 (m + 27) j = hA (ddH (rTake H m v) m s 32) (m + 27) j := fun j => Rt.a (by omega) j
  have opC : hI (cGH T2 m u (nI (cn (dD (rTake H m v) m s) 32)) (nI (cn (gpB H m) 32))) 756 m = wOp v := by rw [cI _ (by decide) (by decide) (by decide), TI _ (by decide)]; exact t1
  have tg := c_Mod_together (F := F) MC hF hs (ln := ln) (a := nA v) (by rw [cI _ (by decide) (by decide) (by decide), TI _ (by decide), ST.i (by omega)]; exact hl) l32 (by rw [cI _ (by decide) (by decide) (by decide), TI _ (by decide), t3]; exact eqA) (nA_lt v)
  rw [tg, clv_some] at st
  have dsC : ∀ j, j < 32 → dsB (cGH T2 m u (nI (cn (dD (rTake H m v) m s) 32)) (nI (cn (gpB H m) 32))) m j = dD (rTake H m v) m s j := fun j hj => by
    rw [← dds j hj]
    unfold dsB
    rw [cA _ _ (by omega), tds]
  have rlC : ∀ j, rLn (cGH T2 m u (nI (cn (dD (rTake H m v) m s) 32)) (nI (cn (gpB H m) 32))) m s j ↔ rLn H m s j := fun j => rLn_same (by rw [cI _ (by decide) (by decide) (by decide), TI _ (by decide), ST.i (by omega)]) (by rw [cI _ (by decide) (by decide) (by decide), TI _ (by decide), ST.i (by omega)]) (by rw [cA _ _ (by omega), TA _ _ (by omega) (by omega)])
  have vtC : ∀ j, j < 32 → vtB (cGH T2 m u (nI (cn (dD (rTake H m v) m s) 32)) (nI (cn (gpB H m) 32))) m s (nA v) j = (dD (rTake H m v) m s j && decide (rHas H m (32 * s + j) (wA v))) := fun j hj => by
    unfold vtB
    rw [show decide (¬ hA (cGH T2 m u (nI (cn (dD (rTake H m v) m s) 32)) (nI (cn (gpB H m) 32))) (m + 27) j = 0) = dD (rTake H m v) m s j from dsC j hj, eqA]
    unfold rHas
    rw [cA _ _ (by omega), TA _ _ (by omega) (by omega)]
  have e0 : f_Mod_go F m (nI u) (nI s) H = b_Mod_go_191 F F m (nI u) (nI s) (nI (cn (dD (rTake H m v) m s) 32)) (nI (cn (gpB H m) 32)) 0 (ddH (rTake H m v) m s 32) := by rw [r_go_w M hF hs hi q l ep lp, hv, if_pos kk, l_go73 MT hF hs, gH]
  have st2 := e0.trans st
  refine ⟨_, st2, ⟨?_, ?_, ?_, ?_, ?_, ?_, fun j hj => ?_, fun j => ?_, ?_, fun j hj => ?_, ?_, ?_, ?_, fun t => ?_⟩, fun f z1 z2 => ?_, fun c j z => ?_⟩
  · have R1 : RfG m H (rTake H m v) := ST.mono (fun f z => Or.inl z) (fun a z => Or.inr z)
    have R2 : RfG m H (ddH (rTake H m v) m s 32) := by unfold ddH; exact R1.cf (Or.inr ⟨by omega, by omega⟩)
    have R3 : RfG m H T2 := R2.trans (Rt.mono (fun f z => Or.inr (by omega)) (fun a z => by omega))
    have R4 : RfG m H (cGH T2 m u (nI (cn (dD (rTake H m v) m s) 32)) (nI (cn (gpB H m) 32))) := by
      unfold cGH
      exact (((R3.cI (Or.inr (by omega))).cA (Or.inl ⟨by omega, by omega⟩)).cI (Or.inr (by omega))).cI (Or.inr (by omega))
    unfold tgH
    exact (R4.cf (Or.inr ⟨by omega, by omega⟩)).cI (Or.inl (by omega))
  · unfold tgH
    rw [qI_sI, if_neg (fun y => by cases y.1), qI_oA]
    exact opC
  · unfold tgH
    rw [qI_sI, if_neg (fun y => by cases y.1), qI_oA, cI _ (by decide) (by decide) (by decide), TI _ (by decide)]
    exact t2
  · unfold tgH
    rw [qI_sI, if_neg (fun y => by cases y.1), qI_oA, cI _ (by decide) (by decide) (by decide), TI _ (by decide)]
    exact t3
  · unfold tgH
    rw [qI_sI, if_neg (fun y => by cases y.1), qI_oA, cI _ (by decide) (by decide) (by decide), TI _ (by decide)]
    exact t4
  · unfold tgH
    rw [qI_sI, if_neg (fun y => by cases y.1), qI_oA, cI _ (by decide) (by decide) (by decide), TI _ (by decide)]
    exact t6
  · rw [← dsC j hj]
    unfold dsB tgH
    rw [qA_sI, qA_oA, fr_o (by omega)]
  · unfold gpB tgH
    rw [qA_sI, qA_oA, fr_o (by omega), cA _ _ (by omega), TA _ _ (by omega) (by omega)]
  · unfold tgH
    rw [qI_sI, if_pos ⟨rfl, rfl⟩, opC, cn_congr ln (fun j hj => vtC j (by omega)), cn_congr ln (fun j hj => dsC j (by omega))]
  · unfold tgH
    rw [qA_sI, qA_oA, fr_i (by omega) hj]
    unfold hdF
    by_cases z : rLn H m s j
    · rw [if_pos z, if_pos ((rlC j).mpr z), cA _ _ (by omega), TA _ _ (by omega) (by omega)]
    · rw [if_neg z, if_neg (fun y => z ((rlC j).mp y))]
  · unfold tgH
    rw [qI_sI, if_neg (fun y => by cases y.1), qI_oA]
    unfold cGH
    rw [qI_sI, if_neg (fun y => by cases y.1), qI_sI, if_neg (fun y => by cases y.1), qI_sA, qI_sI, if_pos ⟨rfl, rfl⟩, TI _ (by decide), ST.i (by omega)]
  · unfold tgH
    rw [qI_sI, if_neg (fun y => by cases y.1), qI_oA]
    unfold cGH
    rw [qI_sI, if_neg (fun y => by cases y.1), qI_sI, if_pos ⟨rfl, rfl⟩, TI _ (by decide), ST.i (by omega)]
  · unfold tgH
    rw [qI_sI, if_neg (fun y => by cases y.1), qI_oA]
    unfold cGH
    rw [qI_sI, if_pos ⟨rfl, rfl⟩, TI _ (by decide), ST.i (by omega)]
  · unfold tgH
    rw [qA_sI, qA_oA, fr_o (by omega)]
    unfold cGH
    rw [qA_sI, qA_sI, qA_sA, TA _ _ (by omega) (by omega), qA_sI, TA _ _ (by omega) (by omega)]
    by_cases z : t = u
    · rw [if_pos z, if_pos ⟨rfl, z⟩]
    · rw [if_neg z, if_neg (fun y => z y.2)]
  · unfold tgH
    rw [qI_sI, if_neg (fun y => by have := y.1; omega), qI_oA, cI _ (by omega) (by omega) (by omega)]
  · unfold tgH
    rw [qA_sI, qA_oA, fr_o (by omega), cA _ _ (by omega)]
