/-! the class's word: counting, going on, marking -/
def cnH (h : Hp) (x ux : Nat) (g dm : Int32) : Hp := sI (sI (sI (sI h 327 (x + 11) (hI h 327 (x + 11) + 1)) 328 (x + 11) (hI h 328 (x + 11) + nI (cn (bt dm) 32))) 329 (x + 11) (hI h 329 (x + 11) + (if dm = g then 0 else 1))) 389 ux (hI h 389 ux + 1)
theorem c_count {F : Nat} {h : Hp} {x : Nat} {g dm : Int32} (kt : hK h (x + 11) = 6) : f_Tally_count F (x + 11) g dm h = some (sI (sI (sI h 327 (x + 11) (hI h 327 (x + 11) + 1)) 328 (x + 11) (hI h 328 (x + 11) + nI (cn (bt dm) 32))) 329 (x + 11) (hI h 329 (x + 11) + (if dm = g then 0 else 1))) := by
  rw [f_Tally_count, gd_t kt, pw_e, c_Integer_bitCount, cl_some, gd_t (by rw [qK_sI]; exact kt), pw_e]
  by_cases e : dm = g
  · rw [if_pos e, if_pos e, Int32.add_zero]
    simp only [qI_sI, Nat.reduceEqDiff, false_and, if_false]
    congr 1
    have := sI_self (sI (sI h 327 (x + 11) (hI h 327 (x + 11) + 1)) 328 (x + 11) (hI h 328 (x + 11) + nI (cn (bt dm) 32))) 329 (x + 11)
    rw [qI_sI, if_neg (by omega), qI_sI, if_neg (by omega)] at this
    exact this.symm
  · rw [if_neg e, if_neg e, pw_e]
    simp only [qI_sI, Nat.reduceEqDiff, false_and, if_false]
/-- after the counting and the going on -/
def goH (h : Hp) (x ux pl rg ln a : Nat) (g dm o n p : Int32) : Hp := oA (cnH h x ux g dm) (fx (hA h) pl 0 1 ln (avQ (bI (¬ o < 40 ∧ ¬ 42 < o)) dm g) (avF (bI (¬ o < 40 ∧ ¬ 42 < o)) dm o n p (fun i => hA h rg (16 * i + a))))
theorem goH_R (h : Hp) (x ux pl rg ln a : Nat) (g dm o n p : Int32) : hR (goH h x ux pl rg ln a g dm o n p) = hR h := by unfold goH cnH; simp only [qR_oA, qR_sI]
theorem goH_K (h : Hp) (x ux pl rg ln a : Nat) (g dm o n p : Int32) : hK (goH h x ux pl rg ln a g dm o n p) = hK h := by unfold goH cnH; simp only [qK_oA, qK_sI]
theorem goH_N (h : Hp) (x ux pl rg ln a : Nat) (g dm o n p : Int32) : hN (goH h x ux pl rg ln a g dm o n p) = hN h := by unfold goH cnH; simp only [qN_oA, qN_sI]
theorem goH_Q (h : Hp) (x ux pl rg ln a : Nat) (g dm o n p : Int32) : hQ (goH h x ux pl rg ln a g dm o n p) = hQ h := by unfold goH cnH; simp only [qQ_oA, qQ_sI]
theorem goH_T (h : Hp) (x ux pl rg ln a : Nat) (g dm o n p : Int32) : hT (goH h x ux pl rg ln a g dm o n p) = hT h ∧ hU (goH h x ux pl rg ln a g dm o n p) = hU h := by unfold goH cnH; simp only [qT_oA, qT_sI, qU_oA, qU_sI, and_self]
theorem goH_I {h : Hp} {x ux pl rg ln a : Nat} {g dm o n p : Int32} {f c : Nat} (z1 : ¬ c = x + 11) (z2 : ¬ (f = 389 ∧ c = ux)) : hI (goH h x ux pl rg ln a g dm o n p) f c = hI h f c := by
  unfold goH cnH
  rw [qI_oA, qI_sI, if_neg z2, qI_sI, if_neg (fun z => z1 z.2), qI_sI, if_neg (fun z => z1 z.2), qI_sI, if_neg (fun z => z1 z.2)]
theorem goH_A {h : Hp} {x ux pl rg ln a : Nat} {g dm o n p : Int32} {c j : Nat} (z : ¬ c = pl) : hA (goH h x ux pl rg ln a g dm o n p) c j = hA h c j := by
  unfold goH
  rw [qA_oA, fx_o z]
theorem goH_p {h : Hp} {x ux pl rg ln a : Nat} {g dm o n p : Int32} {i : Nat} (hi : i < ln) : hA (goH h x ux pl rg ln a g dm o n p) pl i = if avQ (bI (¬ o < 40 ∧ ¬ 42 < o)) dm g i = true then avF (bI (¬ o < 40 ∧ ¬ 42 < o)) dm o n p (fun i => hA h rg (16 * i + a)) i else hA h pl i := by
  unfold goH
  rw [qA_oA, fx_i (i := i) (by decide) (by omega)]
  by_cases q : avQ (bI (¬ o < 40 ∧ ¬ 42 < o)) dm g i = true
  · rw [if_pos ⟨hi, q⟩, if_pos q]
  · rw [if_neg (fun z => q z.2), if_neg q]
theorem Cd.same {h k : Hp} {x : Nat} (C : Cd h x) (eK : hK k = hK h) (eN : hN k = hN h) (eR : ∀ f a, f < 512 → hR k f a = hR h f a) (eQ : ∀ j, hQ k (x + 12) j = hQ h (x + 12) j) : Cd k x := by
  unfold Cd at *
  rw [eK, eN, eR _ _ (by decide), eR _ _ (by decide), eR _ _ (by decide), eR _ _ (by decide), eR _ _ (by decide), eR _ _ (by decide), eR _ _ (by decide), eR _ _ (by decide), eR _ _ (by decide), eR _ _ (by decide), eR _ _ (by decide), eR _ _ (by decide), eR _ _ (by decide)]
  refine ⟨C.1, C.2.1, C.2.2.1, C.2.2.2.1, C.2.2.2.2.1, C.2.2.2.2.2.1, C.2.2.2.2.2.2.1, C.2.2.2.2.2.2.2.1, C.2.2.2.2.2.2.2.2.1, C.2.2.2.2.2.2.2.2.2.1, C.2.2.2.2.2.2.2.2.2.2.1, C.2.2.2.2.2.2.2.2.2.2.2.1, C.2.2.2.2.2.2.2.2.2.2.2.2.1, C.2.2.2.2.2.2.2.2.2.2.2.2.2.1, fun u hu => ?_⟩
  rw [eQ, eR _ _ (by decide), eR _ _ (by decide)]
  exact C.2.2.2.2.2.2.2.2.2.2.2.2.2.2 u hu
theorem c_go_n {F : Nat} {h k : Hp} {x u w rg pl ro pr ti ln wd a : Nat} {c dm g o n p : Int32} (hF : 40000 ≤ F) (C : Cd h x) (Ck : Cd k x) (wk : hK h w = 9) (W : Wp k w rg pl ro pr ti ln) (hu : u < 8) (hw : hR h 520 w = some wd) (kd : hK h wd = 10) (kn : ¬ hI h 581 wd = 0) (ed : f_Warp_doing F w h = some (dm, h)) (eu : f_WM_unableOf F x (some w) (some wd) dm h = some (0, k)) (hw2 : hR k 520 w = some wd) (kd2 : hK k wd = 10) (wx : x + 38 < w) (hg : hI k 518 w = g) (ho : hI k 576 wd = o) (ha : hI k 578 wd = nI a) (la : a < 16) (hn : hI k 580 wd = n) (hp : hI k 519 w = p) (dwx : ¬ wd = x + 11) : f_WM_go F x (some (x + 15 + 3 * u)) (some w) c h = (fun hp2 => if hI k 586 wd = 0 then (if hI k 585 wd = 0 then clv (f_Warp_act F w dm hp2) (fun h2 => b_WM_go_201 F x (x + 15 + 3 * u) w c wd (hI k 590 wd) h2) else cl (f_Memory_ask F (x + 3) (some w) dm c (hI k 68 (x + 1)) hp2) (fun v h2 => b_WM_go_201 F x (x + 15 + 3 * u) w c wd v h2)) else clv (f_Warp_useShared F w dm hp2) (fun h1 => gd (hK h1 x = 1) <| rq h1 (hR h1 0 x) 2 fun a_149_2 => gd (hK h1 (x + 15 + 3 * u) = 7) <| cl (f_Unit_crowd F (x + 15 + 3 * u) (some w) dm (hI h1 67 a_149_2) c h1) fun v h2 => b_WM_go_201 F x (x + 15 + 3 * u) w c wd v h2)) (goH k x (x + 15 + 3 * u) pl rg ln a g dm o n p) := by
  have ku := (Ck.u u hu).2.1
  have wk2 := W.1.1
  have du : ¬ x + 15 + 3 * u = w := by omega
  have cI : ∀ f c, ¬ c = x + 11 → ¬ (f = 389 ∧ c = x + 15 + 3 * u) → hI (cnH k x (x + 15 + 3 * u) g dm) f c = hI k f c := fun f c z1 z2 => by
    unfold cnH
    rw [qI_sI, if_neg z2, qI_sI, if_neg (fun z => z1 z.2), qI_sI, if_neg (fun z => z1 z.2), qI_sI, if_neg (fun z => z1 z.2)]
  have cK : hK (cnH k x (x + 15 + 3 * u) g dm) = hK k := by unfold cnH; simp only [qK_sI]
  have cN : hN (cnH k x (x + 15 + 3 * u) g dm) = hN k := by unfold cnH; simp only [qN_sI]
  have cR : hR (cnH k x (x + 15 + 3 * u) g dm) = hR k := by unfold cnH; simp only [qR_sI]
  have cA : hA (cnH k x (x + 15 + 3 * u) g dm) = hA k := by unfold cnH; simp only [qA_sI]
  have W2 : Wp (cnH k x (x + 15 + 3 * u) g dm) w rg pl ro pr ti ln := W.same cK cN (fun f _ _ => by rw [cR]) (cI _ _ (by omega) (by omega))
  have dwd : ¬ wd = x + 15 + 3 * u := fun z => by rw [z] at kd2; rw [ku] at kd2; cases kd2
  have av := c_Warp_advance W2 hF (wd := wd) (by rw [cR]; exact hw2) (by rw [cK]; exact kd2) (a := a) (o := o) (nn := n) (g := g) (p := p) (by rw [cI _ _ dwx (fun z => dwd z.2)]; exact ho) (by rw [cI _ _ dwx (fun z => dwd z.2)]; exact ha) la (by rw [cI _ _ dwx (fun z => dwd z.2)]; exact hn) (by rw [cI _ _ (by omega) (by omega)]; exact hg) (by rw [cI _ _ (by omega) (by omega)]; exact hp) dm
  rw [cA] at av
  have CG : Cd (goH k x (x + 15 + 3 * u) pl rg ln a g dm o n p) x := Ck.same (goH_K ..) (goH_N ..) (fun f a _ => by rw [goH_R]) (fun j => by rw [goH_Q])
  have gI : ∀ f c, ¬ c = x + 11 → ¬ (f = 389 ∧ c = x + 15 + 3 * u) → hI (goH k x (x + 15 + 3 * u) pl rg ln a g dm o n p) f c = hI k f c := fun f c z1 z2 => goH_I z1 z2
  rw [f_WM_go, rq_some wk, pw_e, hw, nu_some, gd_t kd, if_neg kn, ed, cl_some, gd_t C.k, eu, cl_some, if_pos rfl, gd_t Ck.k, rq_k Ck.r_tally Ck.k_tally, gd_t wk2, hg, c_count Ck.k_tally, clv_some, rq_some (by simp only [qK_sI]; exact ku), pw_e]
  have eh : sI (sI (sI (sI k 327 (x + 11) (hI k 327 (x + 11) + 1)) 328 (x + 11) (hI k 328 (x + 11) + nI (cn (bt dm) 32))) 329 (x + 11) (hI k 329 (x + 11) + (if dm = g then 0 else 1))) 389 (x + 15 + 3 * u) (hI (sI (sI (sI k 327 (x + 11) (hI k 327 (x + 11) + 1)) 328 (x + 11) (hI k 328 (x + 11) + nI (cn (bt dm) 32))) 329 (x + 11) (hI k 329 (x + 11) + (if dm = g then 0 else 1))) 389 (x + 15 + 3 * u) + 1) = cnH k x (x + 15 + 3 * u) g dm := by
    unfold cnH
    simp only [qI_sI, Nat.reduceEqDiff, false_and, if_false]
  rw [eh, gd_t (by rw [cK]; exact wk2), av, clv_some]
  show (gd (hK (goH k x (x + 15 + 3 * u) pl rg ln a g dm o n p) wd = 10) <| _) = _
  rw [gd_t (by rw [goH_K]; exact kd2), show hI (oA (cnH k x (x + 15 + 3 * u) g dm) (fx (hA k) pl 0 1 ln (avQ (bI (¬ o < 40 ∧ ¬ 42 < o)) dm g) (avF (bI (¬ o < 40 ∧ ¬ 42 < o)) dm o n p (fun i => hA k rg (16 * i + a))))) 586 wd = hI k 586 wd from gI _ _ dwx (fun z => dwd z.2), show hI (oA (cnH k x (x + 15 + 3 * u) g dm) (fx (hA k) pl 0 1 ln (avQ (bI (¬ o < 40 ∧ ¬ 42 < o)) dm g) (avF (bI (¬ o < 40 ∧ ¬ 42 < o)) dm o n p (fun i => hA k rg (16 * i + a))))) 585 wd = hI k 585 wd from gI _ _ dwx (fun z => dwd z.2), show hI (oA (cnH k x (x + 15 + 3 * u) g dm) (fx (hA k) pl 0 1 ln (avQ (bI (¬ o < 40 ∧ ¬ 42 < o)) dm g) (avF (bI (¬ o < 40 ∧ ¬ 42 < o)) dm o n p (fun i => hA k rg (16 * i + a))))) 590 wd = hI k 590 wd from gI _ _ dwx (fun z => dwd z.2)]
  dsimp only
  by_cases us : hI k 586 wd = 0
  · rw [if_pos us, if_pos us]
    by_cases um : hI k 585 wd = 0
    · rw [if_pos um, if_pos um]
      show (gd (hK (goH k x (x + 15 + 3 * u) pl rg ln a g dm o n p) w = 9) <| _) = _
      rw [gd_t (by rw [goH_K]; exact wk2)]
      rfl
    · rw [if_neg um, if_neg um]
      show (gd (hK (goH k x (x + 15 + 3 * u) pl rg ln a g dm o n p) x = 1) <| rq (goH k x (x + 15 + 3 * u) pl rg ln a g dm o n p) (hR (goH k x (x + 15 + 3 * u) pl rg ln a g dm o n p) 2 x) 3 fun a_173_2 => rq (goH k x (x + 15 + 3 * u) pl rg ln a g dm o n p) (hR (goH k x (x + 15 + 3 * u) pl rg ln a g dm o n p) 0 x) 2 fun a_181 => cl (f_Memory_ask F a_173_2 (some w) dm c (hI (goH k x (x + 15 + 3 * u) pl rg ln a g dm o n p) 68 a_181) (goH k x (x + 15 + 3 * u) pl rg ln a g dm o n p)) fun v_187 h_187 => b_WM_go_201 F x (x + 15 + 3 * u) w c wd v_187 h_187) = _
      rw [gd_t CG.k, rq_k CG.r_memory CG.k_memory, rq_k CG.r_sizes CG.k_sizes, gI _ _ (by omega) (by omega)]
  · rw [if_neg us, if_neg us]
    show (gd (hK (goH k x (x + 15 + 3 * u) pl rg ln a g dm o n p) w = 9) <| _) = _
    rw [gd_t (by rw [goH_K]; exact wk2)]
    rfl
/-- marked -/
def mrH (h : Hp) (w ti : Nat) (wr t : Int32) (mem : Prop) [Decidable mem] : Hp := if mem then sI (if wr = -1 then h else sA h ti wr.toNatClampNeg t) 522 w t else (if wr = -1 then h else sA h ti wr.toNatClampNeg t)
theorem c_mark {F : Nat} {h : Hp} {w rg pl ro pr ti ln wd : Nat} {v : Int64} {t : Int32} (hF : 40000 ≤ F) (W : Wp h w rg pl ro pr ti ln) (hw : hR h 520 w = some wd) (Wd : WordIs h wd v) : f_Warp_mark F w t h = some (mrH h w ti (kWr (wOp v) (wD v)) t (kMem (wOp v))) := by
  have um : hI h 585 wd = 0 ↔ ¬ kMem (wOp v) := by rw [Wd.usesMemory]; exact bI_0
  unfold mrH
  have cs : kWr (wOp v) (wD v) = -1 ∨ ∃ k, k < 20 ∧ kWr (wOp v) (wD v) = nI k := by
    unfold kWr
    by_cases c : kWP (wOp v)
    · rw [if_pos c]
      have := pn_lt (wD v)
      exact Or.inr ⟨16 + pn (wD v), by omega, by rw [pn_is]; exact nI_add 16 _⟩
    · rw [if_neg c]
      by_cases e : kWD (wOp v)
      · rw [if_pos e, nD_is]
        have := nD_lt v
        exact Or.inr ⟨nD v, by omega, rfl⟩
      · rw [if_neg e]; exact Or.inl rfl
  rcases cs with z | ⟨k, lk, z⟩
  · rw [c_Warp_mark_n W hF hw Wd.k (by rw [Wd.written]; exact z), z]
    by_cases q : kMem (wOp v)
    · rw [if_neg (fun y => (um.mp y) q), if_pos q, if_pos rfl]
    · rw [if_pos (um.mpr q), if_neg q, if_pos rfl]
  · rw [c_Warp_mark_s W hF hw Wd.k (by rw [Wd.written]; exact z) lk, z, nI_clamp (by omega), if_neg (nI_m1 (by omega))]
    by_cases q : kMem (wOp v)
    · rw [if_neg (fun y => (um.mp y) q), if_pos q]
    · rw [if_pos (um.mpr q), if_neg q]
theorem mr_o {h : Hp} {w ti : Nat} {wr t : Int32} {mem : Prop} [Decidable mem] : hT (mrH h w ti wr t mem) = hT h ∧ hU (mrH h w ti wr t mem) = hU h ∧ hK (mrH h w ti wr t mem) = hK h ∧ hN (mrH h w ti wr t mem) = hN h ∧ hR (mrH h w ti wr t mem) = hR h ∧ hQ (mrH h w ti wr t mem) = hQ h := by
  unfold mrH
  refine ⟨?_, ?_, ?_, ?_, ?_, ?_⟩
  · split <;> split <;> simp only [qT_sI, qT_sA]
  · split <;> split <;> simp only [qU_sI, qU_sA]
  · split <;> split <;> simp only [qK_sI, qK_sA]
  · split <;> split <;> simp only [qN_sI, qN_sA]
  · split <;> split <;> simp only [qR_sI, qR_sA]
  · split <;> split <;> simp only [qQ_sI, qQ_sA]
theorem mr_I {h : Hp} {w ti : Nat} {wr t : Int32} {mem : Prop} [Decidable mem] (f c : Nat) : hI (mrH h w ti wr t mem) f c = if mem ∧ f = 522 ∧ c = w then t else hI h f c := by
  have e : hI (if wr = -1 then h else sA h ti wr.toNatClampNeg t) f c = hI h f c := by
    split
    · rfl
    · rw [qI_sA]
  unfold mrH
  by_cases q : mem
  · rw [if_pos q, qI_sI, e]
    by_cases z : f = 522 ∧ c = w
    · rw [if_pos z, if_pos ⟨q, z⟩]
    · rw [if_neg z, if_neg (show ¬ (mem ∧ f = 522 ∧ c = w) from fun y => z y.2)]
  · rw [if_neg q, e, if_neg (show ¬ (mem ∧ f = 522 ∧ c = w) from fun y => q y.1)]
theorem mr_A {h : Hp} {w ti : Nat} {wr t : Int32} {mem : Prop} [Decidable mem] (c j : Nat) : hA (mrH h w ti wr t mem) c j = if ¬ wr = -1 ∧ c = ti ∧ j = wr.toNatClampNeg then t else hA h c j := by
  unfold mrH
  have e : hA (if wr = -1 then h else sA h ti wr.toNatClampNeg t) c j = if ¬ wr = -1 ∧ c = ti ∧ j = wr.toNatClampNeg then t else hA h c j := by
    by_cases z : wr = -1
    · rw [if_pos z, if_neg (fun y => y.1 z)]
    · rw [if_neg z, qA_sA]
      by_cases y : c = ti ∧ j = wr.toNatClampNeg
      · rw [if_pos y, if_pos ⟨z, y⟩]
      · rw [if_neg y, if_neg (fun q => y q.2)]
  split
  · rw [qA_sI]; exact e
  · exact e
theorem c_go_201 {F : Nat} {h : Hp} {x u w rg pl ro pr ti ln wd : Nat} {v : Int64} {c t : Int32} (hF : 40000 ≤ F) (W : Wp h w rg pl ro pr ti ln) (hw : hR h 520 w = some wd) (Wd : WordIs h wd v) (ku : hK h (x + 15 + 3 * u) = 7) (wx : x + 38 < w) (hu : u < 8) (dwx : ¬ wd = x + 11) : b_WM_go_201 F x (x + 15 + 3 * u) w c wd t h = b_WM_go_225 F x w (if wOp v = 7 ∨ wOp v = 8 then sI (mrH h w ti (kWr (wOp v) (wD v)) (c + t) (kMem (wOp v))) 390 (x + 15 + 3 * u) (c + t) else mrH h w ti (kWr (wOp v) (wD v)) (c + t) (kMem (wOp v))) := by
  obtain ⟨m1, m2, m3, m4, m5, m6⟩ := mr_o (h := h) (w := w) (ti := ti) (wr := kWr (wOp v) (wD v)) (t := c + t) (mem := kMem (wOp v))
  have dwd : ¬ wd = w := fun z => by have := Wd.k; rw [z, W.1.1] at this; cases this
  have di : hI (mrH h w ti (kWr (wOp v) (wD v)) (c + t) (kMem (wOp v))) 584 wd = bI (wOp v = 7 ∨ wOp v = 8) := by rw [mr_I, if_neg (fun z => dwd z.2.2), Wd.divides]
  rw [b_WM_go_201, gd_t W.1.1, c_mark hF W hw Wd, clv_some, gd_t (by rw [m3]; exact Wd.k), di]
  by_cases q : wOp v = 7 ∨ wOp v = 8
  · rw [bI_t q, if_neg (by decide), if_pos q, gd_t (by rw [m3]; exact ku), pw_e]
  · rw [bI_f q, if_pos rfl, if_neg q]
