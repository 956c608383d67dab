/-! a unit goes -/
theorem GoR.pre {o : Nat → Nat} {hc H hc2 H2 kc kr : Hp} {x m lo ln sl nu bk ga sz c G U0 nC : Nat} (R : GoR o hc2 H2 kc kr x m lo ln sl nu bk ga sz c G U0 nC) (a1 : RC m lo hc hc2) (a2 : RR m H H2) (a3 : LaK hc H hc2 H2 x m) (a4 : hI H2 715 m = hI H 715 m ∧ hI H2 727 m = hI H 727 m) : GoR o hc H kc kr x m lo ln sl nu bk ga sz c G U0 nC := by
  obtain ⟨Ta, S, r1, r2, ⟨l1, l2, l3, l4⟩, r4⟩ := R
  refine ⟨Ta, S, a1.trans r1, a2.trans r2, ⟨fun f h1 h2 => by rw [l1 f h1 h2, a3.1 f h1 h2], fun f h1 h2 => by rw [l2 f h1 h2, a3.2.1 f h1 h2], fun t ht => ?_, fun f hf => by rw [l4 f hf, a3.2.2.2 f hf]⟩, ?_⟩
  · rcases l3 t ht with z | z
    · rw [z]; exact a3.2.2.1 t ht
    · exact Or.inr z
  · rw [← a4.1, ← a4.2]; exact r4
theorem lt64 (b : Int32) : b < 64 ↔ b < nI 64 := Iff.rfl
/-- the chosen warp goes -/
theorem go_all {o : Nat → Nat} {hc H Hg : Hp} {x m lo ln sl nu bk ga sz c G U0 nC Ta u s F b w rg pl ro pr ti L bl : Nat} (hF : 40000 ≤ F) (S : Sm o hc H x m lo ln sl nu bk ga sz c (c + 1) G U0 nC Ta) (cl : c ≤ G) (gl : G < 2 ^ 29) (hu : u < 8) (hs : s < 128) (z1 : hQ hc (x + 16 + 3 * (s / 16)) (s % 16) = some w) (W : Ws o lo hc s w rg pl ro pr ti L) (e : ∃ e, e ≤ 5 ∧ L = 2 ^ e) (B : Wb hc H x m s ln b w rg pl pr ti L bl) (Gt0 : Gt hc H x m s ln w ti) (eG : ∀ i, i < 32 → hA H (m + 26) i = gG H m s ln i) (rd : rRdy H m u s ln) : ∃ kc kr, f_WM_go F x (some (x + 15 + 3 * u)) (some w) (nI c) hc = some kc ∧ f_Mod_go F m (nI u) (nI s) H = some kr ∧ GoR o hc H kc kr x m lo ln sl nu bk ga sz c G U0 nC := by
  have X := S.X
  have C := X.C
  have l32 := X.l32
  have lx := X.lx
  have eg := grp_bt (H := H) Gt0 X.hl l32 eG
  obtain ⟨nb, p, elp, cs⟩ := rd
  obtain ⟨i0, i1, i2, i3, i4⟩ := first_ex elp
  have q : ¬ hA H (m + 26) i0 = 0 := by rw [eG i0 (by omega)]; exact gG_n.mpr i2
  have l : ∀ j, j < i0 → hA H (m + 26) j = 0 := fun j hj => by
    rw [eG j (by omega)]
    exact Decidable.not_not.mp (fun y => by have := gG_n.mp y; rw [i4 j hj] at this; cases this)
  have pp : hI hc 519 w = p := by rw [Gt0.plc]; unfold gpl; rw [elp]; rfl
  have awk : ∀ i, i < 32 → bt (hI hc 518 w) i = true → i < ln ∧ rAw H m s i ∧ hA H (m + 15) (32 * s + i) = hI hc 519 w := fun i hi z => by
    rw [Gt0.grp] at z
    unfold gmk at z
    rw [bt_mkM _ ln l32 i hi] at z
    obtain ⟨y1, y2⟩ := Bool.and_eq_true_iff.mp z
    unfold gB1 at y2
    obtain ⟨y3, y4⟩ := Bool.and_eq_true_iff.mp y2
    have y5 := of_decide_eq_true y4
    rw [elp] at y5
    injection y5 with y5
    exact ⟨of_decide_eq_true y1, of_decide_eq_true y3, by rw [pp, y5]⟩
  have ep0 : hA H (m + 15) (32 * s + i0) = p := i3
  obtain ⟨bi, kb, bn, blo, bx1, bx2⟩ : ∃ bi, hK hc bl = 8 ∧ hI hc 448 bl = nI b ∧ lo ≤ bl ∧ hI hc 451 bl = hI H 716 m ∧ hI hc 452 bl = hI H 717 m := by
    rcases X.B b B.b64 with ⟨y, _⟩ | ⟨bl2, bi, y, k, i, y3⟩
    · rw [B.bq] at y; cases y
    · rw [B.bq] at y
      injection y with y
      subst y
      rcases y3 with ⟨_, y4⟩ | ⟨u, y4⟩
      · exact absurd B.sb (y4 s hs)
      · exact ⟨bi, k.1, k.2.1, k.2.2.2.1, y4.2.2.2.2.1, y4.2.2.2.2.2.1⟩
  have e0 : hT hc = hT hc ∧ hU hc = hU hc ∧ hK hc = hK hc ∧ hN hc = hN hc ∧ hR hc = hR hc ∧ hQ hc = hQ hc ∧ hL hc = hL hc ∧ hI hc = hI hc := ⟨rfl, rfl, rfl, rfl, rfl, rfl, rfl, rfl⟩
  have g0 : bt (hI hc 518 w) i0 = true := by rw [eg i0 (by omega)]; exact decide_eq_true q
  by_cases bad : p < 0 ∨ 128 ≤ p
  · have hw : hR hc 520 w = none := by
      rw [Gt0.wrd]
      unfold gpl gaW
      rw [elp]
      exact if_pos bad
    obtain ⟨t1, t2, t3⟩ := go_t1 (F := F) (u := u) (c := nI c) hF X S.M hs B W.k kb (by omega) q l eg hw (by rw [ep0]; exact bad)
    exact ⟨_, _, t1, t2, trap_st (ro := ro) (k0 := hc) (h0 := H) S B t3 W.b_ro.1 W.k_ro e0 (fun _ _ _ => rfl) (Rf.refl H) rfl rfl bn (awk i0 (by omega) g0).2.2.symm (by decide)⟩
  · obtain ⟨k, k1, k2⟩ : ∃ k : Nat, k < 128 ∧ p = nI k := by
      rcases pk_ix p (n := 128) (by decide) with z | z | z
      · exact absurd (Or.inl z) bad
      · exact absurd (Or.inr z) bad
      · exact z
    obtain ⟨wd, w1, w2, Wd⟩ := X.K k k1
    have hw : hR hc 520 w = some wd := by
      rw [Gt0.wrd]
      unfold gpl gaW
      rw [elp]
      show (if p < 0 ∨ 128 ≤ p then none else hQ hc (x + 2) p.toNatClampNeg) = some wd
      rw [if_neg bad, k2, nI_clamp (by omega)]
      exact w1
    obtain ⟨v, ev⟩ : ∃ v, hL H (m + 1) k = v := ⟨_, rfl⟩
    rw [ev] at Wd
    have ep : hA H (m + 15) (32 * s + i0) = nI k := by rw [ep0, k2]
    by_cases kk : kKnown (wOp v) (wN v)
    · have ok2 : rOk2 H m u s v := by
        rw [k2, nI_clamp (by omega), ev] at cs
        rcases cs with z | z | z | z
        · exact absurd (Or.inl (by rw [k2]; exact z)) bad
        · exact absurd (Or.inr (by rw [k2]; exact z)) bad
        · exact absurd kk z
        · exact z
      have rdm : kMem (wOp v) ∨ wOp v = 0 ∨ wOp v = 1 → ¬ nI c < hA H (m + 11) s := fun y => by
        rcases ok2.2.2.1 with z | z
        · exact absurd y z
        · rw [S.cy] at z; exact z
      have E : GO o hc H x m lo ln u s b w rg pl ro pr ti L bl wd v := ⟨C, S.M, lx, hs, hu, X.hl, S.Z.lp, l32, W, B, hw, Wd, eg, awk, kb, bn, bx2, bx1⟩
      obtain ⟨dm, ed1, ed2, sub⟩ := E.dng hF
      by_cases km : kMem (wOp v)
      · by_cases bm : ∃ i, i < ln ∧ bt dm i = true ∧ badM hc H m rg v i
        · obtain ⟨i, ⟨h1, h2, h3⟩, h4⟩ := pk_least _ bm
          obtain ⟨t1, t2, t3⟩ := go_t4 (F := F) (u := u) (c := nI c) hF X E ed1 ed2 (by omega) q l ep k1 ev kk km (S.T.sz 5 (by omega)) h1 h2 h3 (fun j hj y z => h4 j hj ⟨by omega, y, z⟩)
          refine ⟨_, _, t1, t2, trap_st (ro := ro) (k0 := aimH hc ro rg ln (nA v) dm (wN v)) (h0 := ddH (rTake H m v) m s 32) S B t3 W.b_ro.1 W.k_ro ⟨rfl, rfl, rfl, rfl, rfl, rfl, rfl, rfl⟩ (fun a j z => aim_o z) ?_ rfl rfl bn (awk i (by omega) (sub i (by omega) h2)).2.2.symm (by decide)⟩
          unfold ddH
          exact (rTake_f H m v).cf ⟨by omega, by omega⟩
        · have ok : ∀ i, i < ln → bt dm i = true → ¬ badM hc H m rg v i := fun i h1 h2 h3 => bm ⟨i, h1, h2, h3⟩
          by_cases ks : kSh (wOp v)
          · exact go_sh_st hF S (by omega) E z1 e (by omega) q l ep k1 ev kk ks ed1 ed2 ok (rdm (Or.inl km))
          · exact go_gl_st hF S cl gl E w2 z1 e (by omega) q l ep k1 ev kk km ks ed1 ed2 ok (rdm (Or.inl km))
      · by_cases bz0 : (wOp v = 7 ∨ wOp v = 8) ∧ ∃ i, i < ln ∧ bt dm i = true ∧ hA hc rg (16 * i + nB v) = 0
        · obtain ⟨dv, bz0⟩ := bz0
          obtain ⟨i, ⟨h1, h2, h3⟩, h4⟩ := pk_least _ bz0
          obtain ⟨t1, t2, t3⟩ := go_t3 (F := F) (u := u) (c := nI c) hF X E ed1 ed2 (by omega) q l ep k1 ev kk dv h1 h2 h3 (fun j hj y z => h4 j hj ⟨by omega, y, z⟩)
          refine ⟨_, _, t1, t2, trap_st (ro := ro) (k0 := hc) (h0 := ddH (rTake H m v) m s 32) S B t3 W.b_ro.1 W.k_ro e0 (fun _ _ _ => rfl) ?_ rfl rfl bn (awk i (by omega) (sub i (by omega) h2)).2.2.symm (by decide)⟩
          unfold ddH
          exact (rTake_f H m v).cf ⟨by omega, by omega⟩
        · exact go_loc_st hF S (by omega) E z1 e blo (by omega) q l ep k1 ev kk km (fun y i h1 h2 h3 => bz0 ⟨y, i, h1, by rw [ed2 i (by omega)]; exact h2, by rw [B.reg i _ h1 (nB_lt v)]; exact h3⟩) (fun y => rdm (Or.inr y))
    · obtain ⟨t1, t2, t3⟩ := go_t2 (F := F) (u := u) (c := nI c) hF X S.M hs B W.k kb (by omega) q l eg hw Wd ep k1 ev kk
      exact ⟨_, _, t1, t2, trap_st (ro := ro) (k0 := hc) (h0 := rTake H m v) S B t3 W.b_ro.1 W.k_ro e0 (fun _ _ _ => rfl) (rTake_f H m v) rfl rfl bn (awk i0 (by omega) g0).2.2.symm (by decide)⟩
/-- a unit: one of its warps, or none -/
theorem unit_st {o : Nat → Nat} {hc H : Hp} {x m lo ln sl nu bk ga sz c G U0 nC Ta u F : Nat} (hF : 40000 ≤ F) (S : Sm o hc H x m lo ln sl nu bk ga sz c (c + 1) G U0 nC Ta) (cl : c ≤ G) (gl : G < 2 ^ 29) (hu : u < 8) : ∃ kc kr, ((f_Unit_choose F (x + 15 + 3 * u) (nI c) hc = some (none, hc) ∧ kc = hc) ∨ ∃ w h1, f_Unit_choose F (x + 15 + 3 * u) (nI c) hc = some (some w, h1) ∧ hK h1 w = 9 ∧ Cd h1 x ∧ f_WM_go F x (some (x + 15 + 3 * u)) (some w) (nI c) h1 = some kc) ∧ f_Mod_unitGoes F m (nI u) H = some kr ∧ GoR o hc H kc kr x m lo ln sl nu bk ga sz c G U0 nC := by
  have X := S.X
  have C := X.C
  have s16 := X.s16
  have l32 := X.l32
  have hx := X.hx
  obtain ⟨cu1, cu2, cu3, cu4, cu5, cu6, cu7, cu8⟩ := C.u u hu
  obtain ⟨l0, ll, el⟩ := S.lt u hu
  have hlc : hI hc 388 (x + 15 + 3 * u) = nI l0 := by rw [(S.T.un u hu).1]; exact el
  have iff : ∀ k, k < sl → (cSl hc (x + 15 + 3 * u) (x + 16 + 3 * u) ((l0 + (k + 1)) % sl) (nI c) ↔ rRdy H m u (16 * u + (l0 + (k + 1)) % sl) ln) := fun k hk => sl_iff X S.T S.cy (by omega) hu (by have := Nat.mod_lt (l0 + (k + 1)) (show 0 < sl by omega); omega)
  have slot : ∀ j, j < 16 → SlotOk o hc H x m lo ln (16 * u + j) := fun j hj => X.S _ (by omega)
  have kk9 : ∀ k w, k < sl → hQ hc (x + 16 + 3 * u) k = some w → hK hc w = 9 := fun k w hk hw => by
    have Sl := slot k (by omega)
    unfold SlotOk at Sl
    rw [show (16 * u + k) / 16 = u by omega, show (16 * u + k) % 16 = k by omega] at Sl
    rcases Sl with ⟨z, _⟩ | ⟨w2, rg, pl, ro, pr, ti, L, z, W, _⟩
    · rw [hw] at z; cases z
    · rw [hw] at z
      injection z with z
      rw [z]
      exact W.k
  have kv : ∀ k w a, k < sl → bz hc (x + 16 + 3 * u) k = some w → hR hc 520 w = some a → hK hc a = 10 := fun k w a hk hw ha => by
    have Sl := slot k (by omega)
    unfold SlotOk at Sl
    rw [show (16 * u + k) / 16 = u by omega, show (16 * u + k) % 16 = k by omega] at Sl
    rcases Sl with ⟨z, _⟩ | ⟨w2, rg, pl, ro, pr, ti, L, z, W, _, z3⟩
    · unfold bz at hw
      rw [z] at hw
      cases hw
    · rcases z3 with ⟨z3, _⟩ | ⟨b, bl, B, G⟩
      · unfold bz at hw
        rw [z] at hw
        dsimp only at hw
        rw [z3] at hw
        cases hw
      · rw [bz_some z B.blk] at hw
        injection hw with hw
        rw [hw] at G
        have := G.wrd
        rw [ha] at this
        unfold gaW at this
        split at this
        · cases this
        · next nz =>
          obtain ⟨j, hj, ej⟩ : ∃ j : Nat, j < 128 ∧ gpl (aA H m (16 * u + k)) (aP H m (16 * u + k)) ln = nI j := by
            rcases pk_ix (gpl (aA H m (16 * u + k)) (aP H m (16 * u + k)) ln) (n := 128) (by decide) with z | z | z
            · exact absurd (Or.inl z) nz
            · exact absurd (Or.inr z) nz
            · exact z
          rw [ej, nI_clamp (by omega)] at this
          obtain ⟨y2, k1, k2, k3⟩ := X.K j hj
          rw [k1] at this
          injection this with this
          rw [this]
          exact k3.k
  by_cases any : ∃ k, k < sl ∧ rRdy H m u (16 * u + (l0 + (k + 1)) % sl) ln
  · obtain ⟨K, ⟨hKs, yr⟩, nr⟩ := pk_least _ any
    have jl : (l0 + (K + 1)) % sl < sl := Nat.mod_lt _ (by omega)
    obtain ⟨j, ej⟩ : ∃ j, (l0 + (K + 1)) % sl = j := ⟨_, rfl⟩
    have nr2 : ∀ k, k < K → ¬ rRdy H m u (16 * u + (l0 + (k + 1)) % sl) ln := fun k hk y => nr k hk ⟨by omega, y⟩
    have yc := (iff K hKs).mpr yr
    obtain ⟨w, bw, rw1⟩ := yc
    obtain ⟨H2, R2, g2, g3⟩ := r_pick_some S.M hF hu X.hl l32 S.Z.sl s16 el ll hKs nr2 yr
    have cp := c_pick_some (F := F) hF cu2 cu3 cu4 cu5 (X.us u hu) s16 hlc ll kk9 kv hKs (fun k hk y => nr2 k hk ((iff k (by omega)).mp y)) bw (kk9 _ _ jl (bz_q bw)) rw1
    rw [ej] at cp g2 g3 bw yr jl
    have Sl := slot j (by omega)
    unfold SlotOk at Sl
    rw [show (16 * u + j) / 16 = u by omega, show (16 * u + j) % 16 = j by omega] at Sl
    rcases Sl with ⟨z, _⟩ | ⟨w2, rg, pl, ro, pr, ti, L, z, W, e, z3⟩
    · rw [bz_q bw] at z; cases z
    rw [bz_q bw] at z
    injection z with z
    subst z
    rcases z3 with ⟨z3, _⟩ | ⟨b, bl, B, Gt0⟩
    · unfold bz at bw
      split at bw
      · cases bw
      · split at bw
        · cases bw
        · next q1 =>
          injection bw with bw
          rw [bw, z3] at q1
          cases q1
    have S2 := S.pick R2 hu jl
    have FK : Fr (PN x hc) hc (sI hc 388 (x + 15 + 3 * u) (nI j)) := (Fr.refl hc).cI (Or.inr (Or.inl (by omega)))
    have wl := W.bw
    have lx := X.lx
    have RS : ∀ t, Rs m t H (sA H2 (m + 7) u (nI j)) := fun t => by
      have kI : ∀ f, ¬ (756 ≤ f ∧ f ≤ 762) → hI (sA H2 (m + 7) u (nI j)) f m = hI H f m := fun f n => by rw [qI_sA, R2.i n]
      have kA : ∀ a i, ¬ ((m + 25) ≤ a ∧ a ≤ (m + 28)) → ¬ a = m + 7 → hA (sA H2 (m + 7) u (nI j)) a i = hA H a i := fun a i n n2 => by rw [qA_sA, if_neg (fun z => n2 z.1), R2.a n]
      exact ⟨⟨kI _ (by omega), kI _ (by omega)⟩, ⟨kA _ _ (by omega) (by omega), kA _ _ (by omega) (by omega), kA _ _ (by omega) (by omega)⟩, fun r _ => kA _ _ (by omega) (by omega), fun i _ => ⟨kA _ _ (by omega) (by omega), kA _ _ (by omega) (by omega), kA _ _ (by omega) (by omega), kA _ _ (by omega) (by omega)⟩, fun j _ => kA _ _ (by omega) (by omega)⟩
    have W2 : Ws o lo (sI hc 388 (x + 15 + 3 * u) (nI j)) (16 * u + j) w rg pl ro pr ti L := W.fr (Nat.le_refl _) (fun a _ _ _ _ _ => ⟨rfl, rfl, fun _ _ _ => rfl⟩)
    have B2 : Wb (sI hc 388 (x + 15 + 3 * u) (nI j)) (sA H2 (m + 7) u (nI j)) x m (16 * u + j) ln b w rg pl pr ti L bl := (B.rs l32 (RS _)).si (by omega)
    have eA : aA (sA H2 (m + 7) u (nI j)) m (16 * u + j) = aA H m (16 * u + j) := by
      rw [← aA_scr R2]
      funext i
      exact decide_eq_decide.mpr (rAw_same (by rw [qI_sA]) (by rw [qI_sA]) (by rw [qA_sA, if_neg (by omega)]) (by rw [qA_sA, if_neg (by omega)]) (by rw [qA_sA, if_neg (by omega)]))
    have eP : aP (sA H2 (m + 7) u (nI j)) m (16 * u + j) = aP H m (16 * u + j) := by
      rw [← aP_scr R2]
      funext i
      unfold aP
      rw [qA_sA, if_neg (by omega)]
    have sI1 : ∀ f, hI (sI hc 388 (x + 15 + 3 * u) (nI j)) f w = hI hc f w := fun f => by rw [qI_sI, if_neg (by omega)]
    have G2 : Gt (sI hc 388 (x + 15 + 3 * u) (nI j)) (sA H2 (m + 7) u (nI j)) x m (16 * u + j) ln w ti := by
      unfold Gt
      rw [eA, eP, sI1, sI1, sI1, qR_sI]
      have ew : ∀ p, gaW (sI hc 388 (x + 15 + 3 * u) (nI j)) (x + 2) p = gaW hc (x + 2) p := fun p => by unfold gaW; rw [qQ_sI]
      rw [ew]
      refine ⟨Gt0.grp, Gt0.plc, Gt0.wrd, ?_⟩
      have et : ∀ y, (∀ a, y = some a → hK hc a = 10) → gaT (sI hc 388 (x + 15 + 3 * u) (nI j)) w ti y = gaT hc w ti y := fun y hy => by
        cases y with
        | none => rfl
        | some a =>
          have ha := hy a rfl
          have na : ¬ a = x + 15 + 3 * u := fun z => by rw [z, cu2] at ha; cases ha
          show tkm _ _ _ _ = tkm _ _ _ _
          have ai : ∀ f, hI (sI hc 388 (x + 15 + 3 * u) (nI j)) f a = hI hc f a := fun f => by rw [qI_sI, if_neg (fun z => na z.2)]
          rw [ai, ai, sI1, qA_sI]
      rw [et _ (fun a ha => kv j w a jl bw (by rw [Gt0.wrd]; exact ha))]
      exact Gt0.rdy
    have rd2 : rRdy (sA H2 (m + 7) u (nI j)) m u (16 * u + j) ln := by
      have y2 := (rRdy_scr R2).mpr yr
      obtain ⟨y3, p, y4, y5⟩ := y2
      have eL : hL (sA H2 (m + 7) u (nI j)) = hL H2 := qL_sA ..
      have kA : ∀ a i, ¬ a = m + 7 → hA (sA H2 (m + 7) u (nI j)) a i = hA H2 a i := fun a i n2 => by rw [qA_sA, if_neg (fun z => n2 z.1)]
      refine ⟨by rw [kA _ _ (by omega)]; exact y3, p, ?_, ?_⟩
      · rw [eA, eP, ← aA_scr R2, ← aP_scr R2]; exact y4
      · rw [eL]
        have eT : rT (sA H2 (m + 7) u (nI j)) m (16 * u + j) = rT H2 m (16 * u + j) := funext fun r => by
          unfold rT
          rw [qI_sA, kA _ _ (by omega)]
        unfold rOk2 at y5 ⊢
        rw [eT, qI_sA, kA _ _ (by omega), kA _ _ (by omega), kA _ _ (by omega)]
        exact y5
    obtain ⟨kc, kr, q1, q2, q3⟩ := go_all (F := F) (Hg := H) hF S2 cl gl hu (by omega) (by rw [show (16 * u + j) / 16 = u by omega, show (16 * u + j) % 16 = j by omega, qQ_sI]; exact bz_q bw) W2 e B2 G2 (fun i hi => by
      rw [qA_sA, if_neg (by omega), g2 i hi]
      unfold gG
      rw [eA, eP]) rd2
    refine ⟨kc, kr, Or.inr ⟨w, _, cp, W.k, S2.X.C, q1⟩, by rw [g3, q2, clv_some], q3.pre ?_ ?_ ⟨fun f _ _ => by rw [qI_sI, if_neg (by omega)], fun f h1 h2 => by rw [qI_sA, R2.i (by omega)], fun t _ => Or.inl (by rw [qA_sA, if_neg (by omega), R2.a (by omega)]), fun f hf => by rw [qI_sA, R2.i (by omega)]⟩ ⟨by rw [qI_sA, R2.i (by omega)], by rw [qI_sA, R2.i (by omega)]⟩⟩
    · refine RC.of FK S.lh (fun f a h1 h2 => ?_)
      have := S.nK a h1 h2
      have := S.xm
      have := S.lh
      intro y
      unfold PN at y
      omega
    · exact RR.of ((R2.mono (J := fun f => 756 ≤ f ∧ f ≤ 762) (B := fun a => ((m + 25) ≤ a ∧ a ≤ (m + 28)) ∨ a = m + 7) (fun f z => z) (fun a z => Or.inl z)).cA (Or.inr rfl)) (fun a z => by omega)
  · have nr : ∀ k, k < sl → ¬ rRdy H m u (16 * u + (l0 + (k + 1)) % sl) ln := fun k hk y => any ⟨k, hk, y⟩
    obtain ⟨H2, R2, g3⟩ := r_pick_none S.M hF hu X.hl l32 S.Z.sl s16 el ll nr
    have cp := c_pick_none (F := F) (c := nI c) hF cu2 cu3 cu4 cu5 (X.us u hu) s16 hlc ll kk9 kv (fun k hk y => nr k hk ((iff k hk).mp y))
    have S2 := S.scr R2
    refine ⟨hc, H2, Or.inl ⟨cp, rfl⟩, g3, Ta, ?_, RC.refl _ _ _, RR.of R2 (fun a z => by omega), ⟨fun _ _ _ => rfl, fun f h1 h2 => R2.i (by omega), fun t _ => Or.inl (R2.a (by omega) t), fun f hf => R2.i (by omega)⟩, Or.inl ⟨R2.i (by omega), R2.i (by omega)⟩⟩
    exact ⟨S2.M, S2.xm, S2.ml, S2.lh, S2.nK, S2.X, S2.Z, S2.T, S2.mm, S2.ms, S2.mz, S2.ca, S2.gb.mono (by omega), S2.lt, S2.cy, S2.P, S2.lg⟩
