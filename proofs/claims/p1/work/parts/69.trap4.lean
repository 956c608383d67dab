/-! lanes aim: the trap of an int of a memory -/
theorem SlotOk.aim {o : Nat → Nat} {hc hr : Hp} {x m lo ln s : Nat} {g : Nat → Nat → Int32} (S : SlotOk o hc hr x m lo ln s) (A : ∀ a, lo ≤ a → 6 * s ≤ o a → o a ≤ 6 * s + 5 → ¬ o a = 6 * s + 3 → ∀ j, g a j = hA hc a j) : SlotOk o (oA hc g) hr x m lo ln s := by
  rcases S with z | ⟨w, rg, pl, ro, pr, ti, L, z1, W, e, z3⟩
  · exact Or.inl z
  · have W2 : Ws o lo (oA hc g) s w rg pl ro pr ti L := by
      unfold Ws at W ⊢
      simp only [qK_oA, qN_oA, qR_oA, qT_oA]
      exact W
    have t1 := W.t_rg
    have t2 := W.t_pl
    have t4 := W.t_pr
    have t5 := W.t_ti
    refine Or.inr ⟨w, rg, pl, ro, pr, ti, L, z1, W2, e, ?_⟩
    rcases z3 with z3 | ⟨b, bl, B, G⟩
    · exact Or.inl z3
    · have a1 : ∀ j, g rg j = hA hc rg j := A rg W.b_rg.1 (by omega) (by omega) (by omega)
      have a2 : ∀ j, g pl j = hA hc pl j := A pl W.b_pl.1 (by omega) (by omega) (by omega)
      have a4 : ∀ j, g pr j = hA hc pr j := A pr W.b_pr.1 (by omega) (by omega) (by omega)
      have a5 : ∀ j, g ti j = hA hc ti j := A ti W.b_ti.1 (by omega) (by omega) (by omega)
      refine Or.inr ⟨b, bl, ⟨B.blk, B.bq, B.sb, B.b64, B.num, B.wno, B.lns, B.lnL, B.pre, B.end_, B.wai, B.le, B.lw, fun i r hi hr => ?_, fun i hi => ?_, fun p i hp hi => ?_, fun r hr => ?_, B.mem⟩, ?_⟩
      · rw [qA_oA, a1]; exact B.reg i r hi hr
      · rw [qA_oA, a2]; exact B.pla i hi
      · rw [qA_oA, a4]; exact B.prd p i hp hi
      · rw [qA_oA, a5]; exact B.tic r hr
      · have ew : ∀ p, gaW (oA hc g) (x + 2) p = gaW hc (x + 2) p := fun p => by unfold gaW; rw [qQ_oA]
        have et : ∀ q, gaT (oA hc g) w ti q = gaT hc w ti q := fun q => by
          cases q with
          | none => rfl
          | some y =>
            show tkm _ _ _ _ = tkm _ _ _ _
            rw [qI_oA, qA_oA, show g ti = hA hc ti from funext a5]
        refine ⟨by rw [qI_oA]; exact G.grp, by rw [qI_oA]; exact G.plc, by rw [qR_oA, ew]; exact G.wrd, by rw [qI_oA, et, ew]; exact G.rdy⟩
theorem Sx.aim {o : Nat → Nat} {hc H : Hp} {x m lo ln sl : Nat} (X : Sx o hc H x m lo ln sl) {s ro rg a : Nat} {dm n : Int32} (hs : s < 128) (lr : lo ≤ ro) (tr : o ro = 6 * s + 3) : Sx o (aimH hc ro rg ln a dm n) H x m lo ln sl := by
  have hA2 : ∀ c j, ¬ c = ro → hA (aimH hc ro rg ln a dm n) c j = hA hc c j := fun c j z => aim_o z
  refine ⟨X.C.same rfl rfl (fun _ _ _ => rfl) (fun _ => rfl), fun k hk => ?_, X.hx, X.lx, X.us, X.s16, X.hl, X.l32, fun t ht => ?_, fun c hc2 => ?_, X.nf, X.uf⟩
  · obtain ⟨y, y1, y2, y3⟩ := X.K k hk
    exact ⟨y, y1, y2, y3.same rfl (fun _ _ _ => rfl)⟩
  · refine (X.S t ht).aim (fun b h1 h2 h3 h4 j => hA2 b j (fun z => ?_))
    rw [z] at h2 h3 h4
    by_cases q : t = s
    · rw [q] at h4; exact h4 tr
    · omega
  · exact (X.B c hc2).fr (Nat.le_refl _) rfl (fun b h1 h2 h3 h4 => ⟨rfl, rfl, fun _ _ _ => ⟨rfl, rfl⟩, fun j => hA2 b j (fun z => by rw [z] at h3; omega)⟩) (fun _ _ => Iff.rfl) rfl rfl rfl rfl (fun _ _ => rfl)
/-- where a lane asks, and whether there is such an int -/
abbrev vlM (hc : Hp) (rg : Nat) (v : Int64) (i : Nat) : Int32 := hA hc rg (16 * i + nA v) + wN v
abbrev badM (hc H : Hp) (m rg : Nat) (v : Int64) (i : Nat) : Prop := vlM hc rg v i < 0 ∨ ¬ vlM hc rg v i < (if kSh (wOp v) then 64 else hI H 710 m)
theorem opM78 {o : Int32} (km : kMem o) : ¬ (o = 7 ∨ o = 8) := fun z => by
  unfold kMem at km
  rcases z with z | z <;> rw [z] at km <;> exact km.1 (by decide)
theorem bd_is {hc H : Hp} {x m wd : Nat} {v : Int64} (Wd : WordIs hc wd v) (esz : hI hc 69 (x + 1) = hI H 710 m) : (if hI hc 586 wd = 0 then hI hc 69 (x + 1) else 64) = (if kSh (wOp v) then 64 else hI H 710 m) := by
  rw [Wd.usesShared, esz]
  by_cases z : kSh (wOp v)
  · rw [bI_t z, if_neg (by decide), if_pos z]
  · rw [bI_f z, if_pos rfl, if_neg z]
theorem wy_mem {hc H : Hp} {x m s ln b w rg pl pr ti L bl j : Nat} {v : Int64} (B : Wb hc H x m s ln b w rg pl pr ti L bl) (km : kMem (wOp v)) (hj : j < ln) : wyN (ddH (rTake H m v) m s 32) m (32 * s + j) (nA v) (nB v) = if badM hc H m rg v j then 4 else 0 := by
  obtain ⟨t1, t2, t3, t4, t5, t6⟩ := rTake_r H m v
  have tA : ∀ c j, hA (rTake H m v) c j = hA H c j := fun c j => by unfold rTake; simp only [qA_sI]
  have dI : ∀ f, hI (ddH (rTake H m v) m s 32) f m = hI (rTake H m v) f m := fun f => by unfold ddH; rw [qI_oA]
  have dA : ∀ a j, ¬ a = (m + 27) → hA (ddH (rTake H m v) m s 32) a j = hA H a j := fun a j z => by unfold ddH; rw [qA_oA, fr_o z, tA]
  unfold wyN
  rw [dI 756, dI 761, dI 710, t1, t6, (rTake_f H m v).i (f := 710) (by omega), dA _ _ (by omega), dA _ _ (by omega), if_neg (fun y => opM78 km y.1), ← B.reg j _ hj (nA_lt v)]
  by_cases z : badM hc H m rg v j
  · rw [if_pos z, if_pos ⟨km, z⟩]
  · rw [if_neg z, if_neg (fun y => z y.2)]
theorem go_t4 {o : Nat → Nat} {hc H : Hp} {x m lo ln sl u s b w rg pl ro pr ti L bl wd F i0 i p : Nat} {v : Int64} {dm c : Int32} (hF : 40000 ≤ F) (X : Sx o hc H x m lo ln sl) (E : GO o hc H x m lo ln u s b w rg pl ro pr ti L bl wd v) (ed1 : f_Warp_doing F w hc = some (dm, hc)) (ed2 : ∀ i, i < 32 → bt dm i = dD (rTake H m v) m s i) (hi : i0 < 32) (q : ¬ hA H (m + 26) i0 = 0) (l : ∀ j, j < i0 → hA H (m + 26) j = 0) (ep : hA H (m + 15) (32 * s + i0) = nI p) (lp : p < 128) (ev : hL H (m + 1) p = v) (kk : kKnown (wOp v) (wN v)) (km : kMem (wOp v)) (esz : hI hc 69 (x + 1) = hI H 710 m) (hiL : i < ln) (di : bt dm i = true) (zi : badM hc H m rg v i) (lz : ∀ j, j < i → bt dm j = true → ¬ badM hc H m rg v j) : f_WM_go F x (some (x + 15 + 3 * u)) (some w) c hc = some (tpH (aimH hc ro rg ln (nA v) dm (wN v)) x w bl 4 (nI i)) ∧ f_Mod_go F m (nI u) (nI s) H = some (rTrap (ddH (rTake H m v) m s 32) m s i 4) ∧ Sx o (tpH (aimH hc ro rg ln (nA v) dm (wN v)) x w bl 4 (nI i)) (rTrap (ddH (rTake H m v) m s 32) m s i 4) x m lo ln sl := by
  have C := E.C
  have W := E.W
  have B := E.B
  have Wd := E.Wd
  have l32 := E.l32
  have hs := E.hs
  have n78 := opM78 km
  have tA : ∀ c j, hA (rTake H m v) c j = hA H c j := fun c j => by unfold rTake; simp only [qA_sI]
  obtain ⟨t1, t2, t3, t4, t5, t6⟩ := rTake_r H m v
  have MT : Md (rTake H m v) m := (rTake_f H m v).md E.M
  have MD : Md (ddH (rTake H m v) m s 32) m := MT.toA
  have dI : ∀ f, hI (ddH (rTake H m v) m s 32) f m = hI (rTake H m v) f m := fun f => by unfold ddH; rw [qI_oA]
  have dA : ∀ a j, ¬ a = (m + 27) → hA (ddH (rTake H m v) m s 32) a j = hA H a j := fun a j z => by unfold ddH; rw [qA_oA, fr_o z, tA]
  have dds : ∀ j, j < 32 → dsB (ddH (rTake H m v) m s 32) m j = dD (rTake H m v) m s j := fun j hj => by
    unfold dsB ddH
    rw [qA_oA, fr_i (by omega) hj]
    cases z : dD (rTake H m v) m s j with
    | true => rfl
    | false => rfl
  have wy := fun j (hj : j < ln) => wy_mem B km hj
  have tr := l_go191t (F := F) (u := u) (i := i) MD hF hs (a := nA v) (b := nB v) (by rw [dI, t3]; exact nA_is v) (nA_lt v) (by rw [dI, t4]; exact nB_is v) (nB_lt v) (ln := ln) (by rw [dI, (rTake_f H m v).i (by omega)]; exact E.hl) l32 (nI (cn (dD (rTake H m v) m s) 32)) (nI (cn (gpB (rTake H m v) m) 32)) hiL (by rw [dds i (by omega), ← ed2 i (by omega)]; exact di) (by rw [wy i hiL, if_pos zi]; decide) (fun j hj z => by
    rw [dds j (by omega), ← ed2 j (by omega)] at z
    rw [wy j (by omega), if_neg (lz j hj z)])
  rw [wy i hiL, if_pos zi, c_Mod_trap MD hs (by omega)] at tr
  have un := c_unable_m (F := F) (x := x) (dm := dm) (n := wN v) hF C E.wp E.hw Wd.k (by rw [Wd.divides]; exact bI_f n78) (by rw [Wd.usesMemory, bI_t km]; decide) (by rw [Wd.a]; exact nA_is v) (nA_lt v) Wd.n
  rw [bd_is Wd esz] at un
  have bu : ∀ j, j < 32 → bt (mkM (fun i => bt dm i && decide (badM hc H m rg v i)) ln) j = (decide (j < ln) && (bt dm j && decide (badM hc H m rg v j))) := fun j hj => bt_mkM _ ln l32 j hj
  have bi : bt (mkM (fun i => bt dm i && decide (badM hc H m rg v i)) ln) i = true := by rw [bu i (by omega), decide_eq_true hiL, di, decide_eq_true zi]; rfl
  have go := c_go_unable (F := F) (k := aimH hc ro rg ln (nA v) dm (wN v)) (u := some (x + 15 + 3 * u)) (c := c) (i := i) hF C (C.same rfl rfl (fun _ _ _ => rfl) (fun _ => rfl)) W.k W.k B.blk E.kb E.hw Wd.k Wd.k (by rw [Wd.known, bI_t kk]; decide) ed1 un (by omega) bi (fun j hj => by
    rw [bu j (by omega)]
    cases z : bt dm j with
    | false => simp
    | true => rw [decide_eq_false (lz j hj z)]; simp) (mkM_ne l32 hiL (by rw [di, decide_eq_true zi]; rfl))
  rw [if_pos (show hI (aimH hc ro rg ln (nA v) dm (wN v)) 584 wd = 0 by unfold aimH; rw [qI_oA, Wd.divides]; exact bI_f n78)] at go
  refine ⟨go, by rw [r_go_w E.M hF hs hi q l ep lp, ev, if_pos kk, l_go73 MT hF hs]; exact tr, (X.aim hs W.b_ro.1 W.t_ro).tal tp_fr (fun f hf => ?_) (fun a j _ _ => by rw [tr_A, dA _ _ (by omega)]) (fun k _ => by rw [tr_L]; unfold ddH rTake; simp only [qL_oA, qL_sI])⟩
  rw [tr_I (by omega) (by omega), dI]
  exact (rTake_f H m v).i (by omega)
