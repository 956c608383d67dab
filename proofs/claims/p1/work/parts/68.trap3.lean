/-! the trap of a divisor -/
theorem go_t3 {o : Nat → Nat} {hc H : Hp} {x m lo ln sl u s b w rg pl ro pr ti L bl wd F i0 i p : Nat} {v : Int64} {dm c : Int32} (hF : 40000 ≤ F) (X : Sx o hc H x m lo ln sl) (E : GO o hc H x m lo ln u s b w rg pl ro pr ti L bl wd v) (ed1 : f_Warp_doing F w hc = some (dm, hc)) (ed2 : ∀ i, i < 32 → bt dm i = dD (rTake H m v) m s i) (hi : i0 < 32) (q : ¬ hA H (m + 26) i0 = 0) (l : ∀ j, j < i0 → hA H (m + 26) j = 0) (ep : hA H (m + 15) (32 * s + i0) = nI p) (lp : p < 128) (ev : hL H (m + 1) p = v) (kk : kKnown (wOp v) (wN v)) (dv : wOp v = 7 ∨ wOp v = 8) (hiL : i < ln) (di : bt dm i = true) (zi : hA hc rg (16 * i + nB v) = 0) (lz : ∀ j, j < i → bt dm j = true → ¬ hA hc rg (16 * j + nB v) = 0) : f_WM_go F x (some (x + 15 + 3 * u)) (some w) c hc = some (tpH hc x w bl 3 (nI i)) ∧ f_Mod_go F m (nI u) (nI s) H = some (rTrap (ddH (rTake H m v) m s 32) m s i 3) ∧ Sx o (tpH hc x w bl 3 (nI i)) (rTrap (ddH (rTake H m v) m s 32) m s i 3) x m lo ln sl := by
  have C := E.C
  have W := E.W
  have B := E.B
  have Wd := E.Wd
  have l32 := E.l32
  have hs := E.hs
  have km : ¬ kMem (wOp v) := by
    unfold kMem
    rcases dv with z | z <;> rw [z] <;> decide
  have tA : ∀ c j, hA (rTake H m v) c j = hA H c j := fun c j => by unfold rTake; simp only [qA_sI]
  obtain ⟨t1, t2, t3, t4, t5, t6⟩ := rTake_r H m v
  have MT : Md (rTake H m v) m := (rTake_f H m v).md E.M
  have MD : Md (ddH (rTake H m v) m s 32) m := MT.toA
  have dI : ∀ f, hI (ddH (rTake H m v) m s 32) f m = hI (rTake H m v) f m := fun f => by unfold ddH; rw [qI_oA]
  have dA : ∀ a j, ¬ a = (m + 27) → hA (ddH (rTake H m v) m s 32) a j = hA H a j := fun a j z => by unfold ddH; rw [qA_oA, fr_o z, tA]
  have dds : ∀ j, j < 32 → dsB (ddH (rTake H m v) m s 32) m j = dD (rTake H m v) m s j := fun j hj => by
    unfold dsB ddH
    rw [qA_oA, fr_i (by omega) hj]
    cases z : dD (rTake H m v) m s j with
    | true => rfl
    | false => rfl
  have wy : ∀ j, j < ln → wyN (ddH (rTake H m v) m s 32) m (32 * s + j) (nA v) (nB v) = if hA hc rg (16 * j + nB v) = 0 then 3 else 0 := fun j hj => by
    unfold wyN
    rw [dI, t1, dA _ _ (by omega), ← B.reg j _ hj (nB_lt v)]
    by_cases z : hA hc rg (16 * j + nB v) = 0
    · rw [if_pos z, if_pos ⟨dv, z⟩]
    · rw [if_neg z, if_neg (fun y => z y.2), if_neg (fun y => km y.1)]
  have tr := l_go191t (F := F) (u := u) (i := i) MD hF hs (a := nA v) (b := nB v) (by rw [dI, t3]; exact nA_is v) (nA_lt v) (by rw [dI, t4]; exact nB_is v) (nB_lt v) (ln := ln) (by rw [dI, (rTake_f H m v).i (by omega)]; exact E.hl) l32 (nI (cn (dD (rTake H m v) m s) 32)) (nI (cn (gpB (rTake H m v) m) 32)) hiL (by rw [dds i (by omega), ← ed2 i (by omega)]; exact di) (by rw [wy i hiL, if_pos zi]; decide) (fun j hj z => by
    rw [dds j (by omega), ← ed2 j (by omega)] at z
    rw [wy j (by omega), if_neg (lz j hj z)])
  rw [wy i hiL, if_pos zi, c_Mod_trap MD hs (by omega)] at tr
  have un := c_unable_d (F := F) (x := x) (dm := dm) hF E.wp E.hw Wd.k (by rw [Wd.divides, bI_t dv]; decide) (by rw [Wd.b]; exact nB_is v) (nB_lt v)
  have bu : ∀ j, j < 32 → bt (mkM (fun i => bt dm i && decide (hA hc rg (16 * i + nB v) = 0)) ln) j = (decide (j < ln) && (bt dm j && decide (hA hc rg (16 * j + nB v) = 0))) := fun j hj => bt_mkM _ ln l32 j hj
  have bi : bt (mkM (fun i => bt dm i && decide (hA hc rg (16 * i + nB v) = 0)) ln) i = true := by rw [bu i (by omega), decide_eq_true hiL, di, decide_eq_true zi]; rfl
  have go := c_go_unable (F := F) (u := some (x + 15 + 3 * u)) (c := c) (i := i) hF C C W.k W.k B.blk E.kb E.hw Wd.k Wd.k (by rw [Wd.known, bI_t kk]; decide) ed1 un (by omega) bi (fun j hj => by
    rw [bu j (by omega)]
    cases z : bt dm j with
    | false => simp
    | true => rw [decide_eq_false (lz j hj z)]; simp) (mkM_ne l32 hiL (by rw [di, decide_eq_true zi]; rfl))
  rw [if_neg (by rw [Wd.divides, bI_t dv]; decide)] at go
  refine ⟨go, by rw [r_go_w E.M hF hs hi q l ep lp, ev, if_pos kk, l_go73 MT hF hs]; exact tr, X.tal tp_fr (fun f hf => ?_) (fun a j _ _ => by rw [tr_A, dA _ _ (by omega)]) (fun k _ => by rw [tr_L]; unfold ddH rTake; simp only [qL_oA, qL_sI])⟩
  rw [tr_I (by omega) (by omega), dI]
  exact (rTake_f H m v).i (by omega)
