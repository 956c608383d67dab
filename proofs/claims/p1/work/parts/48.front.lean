/-! the front of a word: the group, who does it, traps -/
theorem grp_bt {hc hr H : Hp} {x m s ln w ti : Nat} (G : Gt hc hr x m s ln w ti) (hl : hI hr 705 m = nI ln) (l32 : ln ≤ 32) (eG : ∀ i, i < 32 → hA H (m + 26) i = gG hr m s ln i) : ∀ i, i < 32 → bt (hI hc 518 w) i = gpB H m i := by
  intro i hi
  rw [G.grp]
  unfold gmk
  rw [bt_mkM _ ln l32 i hi]
  have e : gpB H m i = gB1 (aA hr m s) (aP hr m s) ln i := by
    unfold gpB
    rw [eG i hi]
    cases z : gB1 (aA hr m s) (aP hr m s) ln i with
    | true => exact decide_eq_true (gG_n.mpr z)
    | false => exact decide_eq_false (fun y => by rw [gG_n.mp y] at z; cases z)
  rw [e]
  by_cases c : i < ln
  · rw [decide_eq_true c, Bool.true_and]
  · rw [decide_eq_false c, Bool.false_and]
    unfold gB1
    have : aA hr m s i = false := decide_eq_false fun z => z.1.1 (by rw [hl]; exact nI_le (by omega) (by omega))
    rw [this, Bool.false_and]
theorem do_bt {hc hr H : Hp} {F x m s ln b w rg pl ro pr ti L bl wd : Nat} {v : Int64} (hF : 40000 ≤ F) (B : Wb hc hr x m s ln b w rg pl pr ti L bl) (W : Wp hc w rg pl ro pr ti ln) (hw : hR hc 520 w = some wd) (Wd : WordIs hc wd v) (eg : ∀ i, i < 32 → bt (hI hc 518 w) i = gpB H m i) (hgv : hI H 760 m = wG v) (hp : ∀ i, i < 32 → hA H (m + 14) (32 * s + i) = hA hr (m + 14) (32 * s + i)) : ∃ dm, f_Warp_doing F w hc = some (dm, hc) ∧ ∀ i, i < 32 → bt dm i = dD H m s i := by
  have ok : kGu v = -1 ∨ ∃ k, k < 4 ∧ kGu v = nI k := by
    unfold kGu
    by_cases c : wG v < 8
    · rw [if_pos c]; exact Or.inl rfl
    · rw [if_neg c]; exact Or.inr ⟨_, pn_lt _, pn_is _⟩
  refine ⟨_, c_Warp_doing W hF hw Wd.k rfl Wd.guard ok, fun i hi => ?_⟩
  unfold dD
  rw [hgv]
  by_cases c : wG v < 8
  · rw [if_pos (show kGu v = -1 from if_pos c), eg i hi, decide_eq_true c, Bool.true_or, Bool.and_true]
  · have eu : kGu v = nI (pn (wG v)) := by unfold kGu; rw [if_neg c]; exact pn_is _
    have lp := pn_lt (wG v)
    rw [if_neg (by rw [eu]; exact nI_m1 (by omega)), eu, nI_clamp (by omega), Wd.guardIsFalse, decide_eq_false c, Bool.false_or]
    have er : decide (rHas H m (32 * s + i) (wG v)) = bt (hA hc pr (pn (wG v))) i := by
      rw [B.prd _ i lp hi, ← hp i hi]
      cases z : bt (hA H (m + 14) (32 * s + i)) (pn (wG v)) with
      | true => exact decide_eq_true ((hs3_bt _ _).mpr z)
      | false => exact decide_eq_false (fun y => by rw [(hs3_bt _ _).mp y] at z; cases z)
    rw [er]
    by_cases f4 : (wG v &&& 4) = 0
    · rw [bI_f (fun z => z f4), if_pos rfl, b_and, eg i hi, decide_eq_false (fun z => z f4)]
      cases gpB H m i <;> cases bt (hA hc pr (pn (wG v))) i <;> rfl
    · rw [bI_t (show ¬ (wG v &&& 4) = 0 from f4), if_neg (by decide), b_and, bt_not _ hi, eg i hi, decide_eq_true (show ¬ (wG v &&& 4) = 0 from f4)]
      cases gpB H m i <;> cases bt (hA hc pr (pn (wG v))) i <;> rfl
/-- the class's trap -/
def tpH (h : Hp) (x w bl : Nat) (why v : Int32) : Hp := sI (sI (sI (sI h 330 (x + 11) why) 331 (x + 11) (hI h 448 bl)) 332 (x + 11) (hI h 513 w * hI h 514 w + v)) 333 (x + 11) (hI h 519 w)
theorem c_Tally_trap {F : Nat} {h : Hp} {x w bl : Nat} (kt : hK h (x + 11) = 6) (wk : hK h w = 9) (hbl : hR h 512 w = some bl) (kb : hK h bl = 8) (why v : Int32) : f_Tally_trap F (x + 11) why (some w) v h = some (tpH h x w bl why v) := by
  rw [f_Tally_trap, gd_t kt, pw_e, rq_some (by rw [qK_sI]; exact wk), rq_k (by rw [qR_sI]; exact hbl) (by rw [qK_sI]; exact kb), pw_e, pw_e, pw_e]
  unfold tpH
  simp only [qI_sI, Nat.reduceEqDiff, false_and, if_false]
theorem c_go_none {F : Nat} {h : Hp} {x w bl i : Nat} {u : Option Nat} {c : Int32} (hF : 40000 ≤ F) (C : Cd h x) (wk : hK h w = 9) (hbl : hR h 512 w = some bl) (kb : hK h bl = 8) (hi : i < 32) (q : bt (hI h 518 w) i = true) (l : ∀ j, j < i → bt (hI h 518 w) j = false) (hw : hR h 520 w = none) : f_WM_go F x u (some w) c h = some (tpH h x w bl 1 (nI i)) := by
  rw [f_WM_go, rq_some wk, pw_e, hw, nu_none, b_WM_go_19, gd_t C.k, rq_k C.r_tally C.k_tally, nu_none, b_WM_go_33, gd_t wk, c_WM_leastOf hF hi q l, cl_some, gd_t C.k_tally, c_Tally_trap C.k_tally wk hbl kb, clv_some]
theorem c_go_unknown {F : Nat} {h : Hp} {x w bl i wd : Nat} {u : Option Nat} {c : Int32} (hF : 40000 ≤ F) (C : Cd h x) (wk : hK h w = 9) (hbl : hR h 512 w = some bl) (kb : hK h bl = 8) (hi : i < 32) (q : bt (hI h 518 w) i = true) (l : ∀ j, j < i → bt (hI h 518 w) j = false) (hw : hR h 520 w = some wd) (kd : hK h wd = 10) (kn : hI h 581 wd = 0) : f_WM_go F x u (some w) c h = some (tpH h x w bl 2 (nI i)) := by
  rw [f_WM_go, rq_some wk, pw_e, hw, nu_some, gd_t kd, if_pos kn, b_WM_go_19, gd_t C.k, rq_k C.r_tally C.k_tally, nu_some, b_WM_go_33, gd_t wk, c_WM_leastOf hF hi q l, cl_some, gd_t C.k_tally, c_Tally_trap C.k_tally wk hbl kb, clv_some]
/-- those that can't do it, in the class -/
theorem c_unable_d {F : Nat} {h : Hp} {x w rg pl ro pr ti ln wd b : Nat} {dm : Int32} (hF : 40000 ≤ F) (W : Wp h w rg pl ro pr ti ln) (hw : hR h 520 w = some wd) (kd : hK h wd = 10) (dv : ¬ hI h 584 wd = 0) (hb : hI h 579 wd = nI b) (lb : b < 16) : f_WM_unableOf F x (some w) (some wd) dm h = some (mkM (fun i => bt dm i && decide (hA h rg (16 * i + b) = 0)) ln, h) := by
  rw [f_WM_unableOf, rq_some kd, if_neg dv, rq_some W.1.1, c_Warp_dividingByZero W hF hw kd hb lb, cl_some]
theorem c_unable_n {F : Nat} {h : Hp} {x w wd : Nat} {dm : Int32} (kd : hK h wd = 10) (dv : hI h 584 wd = 0) (um : hI h 585 wd = 0) : f_WM_unableOf F x (some w) (some wd) dm h = some (0, h) := by
  rw [f_WM_unableOf, rq_some kd, if_pos dv, if_pos um]
/-- lanes aim -/
def aimH (h : Hp) (ro rg ln a : Nat) (dm n : Int32) : Hp := oA h (fx (hA h) ro 0 1 ln (fun i => bt dm i) (fun i => hA h rg (16 * i + a) + n))
theorem aim_ro {h : Hp} {ro rg ln a i : Nat} {dm n : Int32} (hi : i < ln) (q : bt dm i = true) : hA (aimH h ro rg ln a dm n) ro i = hA h rg (16 * i + a) + n := by
  unfold aimH
  rw [qA_oA, fx_i (i := i) (by decide) (by omega), if_pos ⟨hi, q⟩]
theorem aim_o {h : Hp} {ro rg ln a c j : Nat} {dm n : Int32} (z : ¬ c = ro) : hA (aimH h ro rg ln a dm n) c j = hA h c j := by
  unfold aimH
  rw [qA_oA, fx_o z]
theorem c_unable_m {F : Nat} {h : Hp} {x w rg pl ro pr ti ln wd a : Nat} {dm n : Int32} (hF : 40000 ≤ F) (C : Cd h x) (W : Wp h w rg pl ro pr ti ln) (hw : hR h 520 w = some wd) (kd : hK h wd = 10) (dv : hI h 584 wd = 0) (um : ¬ hI h 585 wd = 0) (ha : hI h 578 wd = nI a) (la : a < 16) (hn : hI h 580 wd = n) : f_WM_unableOf F x (some w) (some wd) dm h = some (mkM (fun i => bt dm i && decide (hA h rg (16 * i + a) + n < 0 ∨ ¬ hA h rg (16 * i + a) + n < (if hI h 586 wd = 0 then hI h 69 (x + 1) else 64))) ln, aimH h ro rg ln a dm n) := by
  have W2 : Wp (aimH h ro rg ln a dm n) w rg pl ro pr ti ln := W.same (qK_oA ..) (qN_oA ..) (fun f _ _ => by unfold aimH; rw [qR_oA]) (by unfold aimH; rw [qI_oA])
  have e48 : ∀ bd, b_WM_unableOf_48 F w dm bd (aimH h ro rg ln a dm n) = some (mkM (fun i => bt dm i && decide (hA h rg (16 * i + a) + n < 0 ∨ ¬ hA h rg (16 * i + a) + n < bd)) ln, aimH h ro rg ln a dm n) := fun bd => by
    rw [b_WM_unableOf_48, gd_t W2.1.1, c_Warp_aimedBeyond W2 hF, cl_some]
    congr 2
    refine mkM_congr ln fun i hi => ?_
    by_cases q : bt dm i = true
    · rw [aim_ro hi q]
    · have q0 : bt dm i = false := by simpa using q
      rw [q0, Bool.false_and, Bool.false_and]
  have am : f_Warp_aim F w dm h = some (aimH h ro rg ln a dm n) := c_Warp_aim W hF hw kd ha la hn dm
  rw [f_WM_unableOf, rq_some kd, if_pos dv, if_neg um, rq_some W.1.1, am, clv_some]
  have ri : ∀ f c, hI (aimH h ro rg ln a dm n) f c = hI h f c := fun f c => by unfold aimH; rw [qI_oA]
  have rk : hK (aimH h ro rg ln a dm n) = hK h := by unfold aimH; rw [qK_oA]
  have rr : ∀ f c, hR (aimH h ro rg ln a dm n) f c = hR h f c := fun f c => by unfold aimH; rw [qR_oA]
  rw [gd_t (by rw [rk]; exact kd), ri]
  by_cases us : hI h 586 wd = 0
  · rw [if_pos us, if_pos us, gd_t (by rw [rk]; exact C.k), rq_k (by rw [rr]; exact C.r_sizes) (by rw [rk]; exact C.k_sizes), ri, e48]
  · rw [if_neg us, if_neg us, e48]
theorem c_go_unable {F : Nat} {h k : Hp} {x w bl i wd : Nat} {u : Option Nat} {c dm un : Int32} (hF : 40000 ≤ F) (C : Cd h x) (Ck : Cd k x) (wk : hK h w = 9) (wk2 : hK k w = 9) (hbl : hR k 512 w = some bl) (kb : hK k bl = 8) (hw : hR h 520 w = some wd) (kd : hK h wd = 10) (kd2 : hK k wd = 10) (kn : ¬ hI h 581 wd = 0) (ed : f_Warp_doing F w h = some (dm, h)) (eu : f_WM_unableOf F x (some w) (some wd) dm h = some (un, k)) (hi : i < 32) (q : bt un i = true) (l : ∀ j, j < i → bt un j = false) (nz : ¬ un = 0) : f_WM_go F x u (some w) c h = some (tpH k x w bl (if hI k 584 wd = 0 then 4 else 3) (nI i)) := by
  rw [f_WM_go, rq_some wk, pw_e, hw, nu_some, gd_t kd, if_neg kn, ed, cl_some, gd_t C.k, eu, cl_some, if_neg nz, gd_t Ck.k, rq_k Ck.r_tally Ck.k_tally, gd_t kd2]
  have e84 : ∀ why, b_WM_go_84 F w un (x + 11) why k = some (tpH k x w bl why (nI i)) := fun why => by
    rw [b_WM_go_84, c_WM_leastOf hF hi q l, cl_some, gd_t Ck.k_tally, c_Tally_trap Ck.k_tally wk2 hbl kb, clv_some]
  by_cases z : hI k 584 wd = 0
  · rw [if_pos z, if_pos z, e84]
  · rw [if_neg z, if_neg z, e84]
/-! the reference's front -/
def rTrap (h : Hp) (m s i : Nat) (k : Int32) : Hp := sI (sI (sI (sI (sI h 715 m 4) 727 m k) 728 m (hA h (m + 9) s)) 729 m (hI h 705 m * hA h (m + 10) s + nI i)) 730 m (hA h (m + 15) (32 * s + i))
theorem r_go_1 {F : Nat} {h : Hp} {m u s i : Nat} (M : Md h m) (hF : 40000 ≤ F) (hs : s < 128) (hi : i < 32) (q : ¬ hA h (m + 26) i = 0) (l : ∀ j, j < i → hA h (m + 26) j = 0) (bad : hA h (m + 15) (32 * s + i) < 0 ∨ 128 ≤ hA h (m + 15) (32 * s + i)) : f_Mod_go F m (nI u) (nI s) h = some (rTrap h m s i 1) := by
  have e30 : b_Mod_go_30 F m (nI s) (nI i) h = some (rTrap h m s i 1) := by
    rw [b_Mod_go_30, gd_t M.k, c_Mod_trap M hs hi, clv_some]
    rfl
  rw [f_Mod_go, gd_t M.k, c_Mod_firstOfGroup M hF hi q l, cl_some, gd_t M.k, rq_k M.r_place M.k_place, c_Mod_thread, cl_some, gd_t M.k_place, M.n_place, ixn (by omega) (by decide)]
  by_cases c : hA h (m + 15) (32 * s + i) < 0
  · rw [if_pos c, e30]
  · rw [if_neg c, if_neg (Int32.not_lt.mpr (bad.resolve_left c)), e30]
theorem r_go_w {F : Nat} {h : Hp} {m u s i p : Nat} (M : Md h m) (hF : 40000 ≤ F) (hs : s < 128) (hi : i < 32) (q : ¬ hA h (m + 26) i = 0) (l : ∀ j, j < i → hA h (m + 26) j = 0) (ep : hA h (m + 15) (32 * s + i) = nI p) (lp : p < 128) : f_Mod_go F m (nI u) (nI s) h = if kKnown (wOp (hL h (m + 1) p)) (wN (hL h (m + 1) p)) then b_Mod_go_73 F F m (nI u) (nI s) 0 0 0 (rTake h m (hL h (m + 1) p)) else some (rTrap (rTake h m (hL h (m + 1) p)) m s i 2) := by
  have MT : Md (rTake h m (hL h (m + 1) p)) m := (rTake_f h m _).md M
  obtain ⟨t1, t2, t3, t4, t5, t6⟩ := rTake_r h m (hL h (m + 1) p)
  rw [f_Mod_go, gd_t M.k, c_Mod_firstOfGroup M hF hi q l, cl_some, gd_t M.k, rq_k M.r_place M.k_place, c_Mod_thread, cl_some, gd_t M.k_place, M.n_place, ixn (by omega) (by decide), ep, if_neg (nI_pos (by omega)), if_pos (show nI p < (128 : Int32) from nI_lt (b := 128) lp (by decide)), gd_t M.k, rq_k M.r_kernel M.k_kernel, M.n_kernel, ixn lp (by decide), c_Mod_take M.k, clv_some, gd_t MT.k, c_Mod_isWord MT.k, cl_some, bI_ite, t1, t6]
  by_cases kn : kKnown (wOp (hL h (m + 1) p)) (wN (hL h (m + 1) p))
  · rw [if_pos kn, if_pos kn]
  · rw [if_neg kn, if_neg kn, gd_t MT.k, c_Mod_trap MT hs hi, clv_some]
    rfl
