/-! waking and freeing a block -/
theorem CsS.trans {o : Nat → Nat} {x lo s : Nat} {h k l : Hp} (A : CsS o x lo s h k) (B : CsS o x lo s k l) : CsS o x lo s h l := by
  obtain ⟨⟨a1, a2, a3, a4⟩, a5, a6⟩ := A
  obtain ⟨⟨b1, b2, b3, b4⟩, b5, b6⟩ := B
  refine ⟨⟨by omega, by rw [b2, a2], fun b => by rw [b3, a3], fun p => by rw [b4, a4]⟩, fun a h1 h2 h3 h4 h5 => ?_, fun y y1 y2 => ?_⟩
  · obtain ⟨c1, c2, c3, c4⟩ := a5 a h1 h2 h3 h4 h5
    obtain ⟨d1, d2, d3, d4⟩ := b5 a h1 (by omega) h3 h4 (by rw [c1]; exact h5)
    exact ⟨by rw [d1, c1], by rw [d2, c2], fun f f1 f2 => ⟨by rw [(d3 f f1 f2).1, (c3 f f1 f2).1], by rw [(d3 f f1 f2).2, (c3 f f1 f2).2]⟩, fun j => by rw [d4, c4]⟩
  · obtain ⟨c1, c2⟩ := a6 y y1 y2
    obtain ⟨d1, d2⟩ := b6 y (by omega) c1
    exact ⟨d1, fun f f1 f2 => by rw [d2 f f1 f2, c2 f f1 f2]⟩
theorem CsS.refl (o : Nat → Nat) (x lo s : Nat) (h : Hp) : CsS o x lo s h h := ⟨⟨Nat.le_refl _, rfl, fun _ => rfl, fun _ => rfl⟩, fun _ _ _ _ _ _ => ⟨rfl, rfl, fun _ _ _ => ⟨rfl, rfl⟩, fun _ => rfl⟩, fun _ _ y2 => ⟨y2, fun _ _ _ => rfl⟩⟩
/-- the reference where nobody waits any more -/
def Rw (m s : Nat) (h k : Hp) : Prop := (hI k 705 m = hI h 705 m ∧ hI k 717 m = hI h 717 m) ∧ (hA k (m + 9) s = hA h (m + 9) s ∧ hA k (m + 10) s = hA h (m + 10) s ∧ hA k (m + 11) s = hA h (m + 11) s) ∧ (∀ r, r < 20 → hA k (m + 12) (20 * s + r) = hA h (m + 12) (20 * s + r)) ∧ (∀ i, i < 32 → hA k (m + 14) (32 * s + i) = hA h (m + 14) (32 * s + i) ∧ hA k (m + 15) (32 * s + i) = hA h (m + 15) (32 * s + i) ∧ hA k (m + 16) (32 * s + i) = hA h (m + 16) (32 * s + i) ∧ hA k (m + 17) (32 * s + i) = 0) ∧ ∀ j, j < 512 → hA k (m + 13) (512 * s + j) = hA h (m + 13) (512 * s + j)
theorem wb_wake {hc hr kr : Hp} {x m s ln b w rg pl pr ti L bl : Nat} (B : Wb hc hr x m s ln b w rg pl pr ti L bl) (l32 : ln ≤ 32) (R : Rw m s hr kr) : Wb (sI hc 517 w 0) kr x m s ln b w rg pl pr ti L bl := by
  have ii : ∀ f, ¬ f = 517 → hI (sI hc 517 w 0) f w = hI hc f w := fun f z => by rw [qI_sI, if_neg (fun y => z y.1)]
  have rl : ∀ i, rLn kr m s i ↔ rLn hr m s i := fun i => rLn_same R.1.1 R.1.2 R.2.1.2.1
  refine ⟨by rw [qR_sI]; exact B.blk, by rw [qQ_sI]; exact B.bq, by rw [R.2.1.1]; exact B.sb, B.b64, by rw [ii _ (by decide), R.2.1.2.1]; exact B.num, by rw [R.2.1.2.1]; exact B.wno, by rw [ii _ (by decide)]; exact B.lns, B.lnL, fun i hi => ?_, fun i hi => ?_, fun i hi => ?_, fun i hi => ?_, fun i hi => ?_, fun i r hi hr => ?_, fun i hi => ?_, fun p i hp hi => ?_, fun r hr => ?_, ?_⟩
  · rw [ii _ (by decide), B.pre i hi]
    exact decide_eq_decide.mpr (rl i).symm
  · rw [ii _ (by decide), (R.2.2.2.1 i hi).2.2.1]
    exact B.end_ i hi
  · rw [qI_sI, if_pos ⟨rfl, rfl⟩, b_0, (R.2.2.2.1 i hi).2.2.2]
    exact (decide_eq_false (fun z => z rfl)).symm
  · rw [(R.2.2.2.1 i hi).2.2.1]
    exact fun z => (rl i).mpr (B.le i hi z)
  · rw [(R.2.2.2.1 i hi).2.2.2]
    exact fun z => absurd rfl z
  · rw [qA_sI, show 16 * (32 * s + i) + r = 512 * s + (16 * i + r) by omega, R.2.2.2.2 _ (by omega), show 512 * s + (16 * i + r) = 16 * (32 * s + i) + r by omega]
    exact B.reg i r hi hr
  · rw [qA_sI, (R.2.2.2.1 i (by omega)).2.1]
    exact B.pla i hi
  · rw [qA_sI, (R.2.2.2.1 i hi).1]
    exact B.prd p i hp hi
  · rw [qA_sI, R.2.2.1 r hr]
    exact B.tic r hr
  · rw [ii _ (by decide), R.2.1.2.2]
    exact B.mem
/-- cells of warps only -/
def PW (h : Hp) (lo : Nat) (f a : Nat) : Prop := lo ≤ a ∧ hK h a = 9 ∧ (f = 512 ∨ (517 ≤ f ∧ f ≤ 521))
theorem PW.cd {h k : Hp} {x lo : Nat} (C : Cd h x) (A : Fr (PW h lo) h k) (hx : x + 38 < hT h) (lx : x + 38 < lo) : Cd k x := by
  have g : ∀ f a, a ≤ x + 38 → ¬ PW h lo f a := fun f a ha z => by have := z.1; omega
  exact C.frame A hx (fun f _ => g f _ (by omega)) (fun f _ _ => g f _ (by omega)) (fun f _ _ => g f _ (by omega)) (fun f _ _ => g f _ (by omega)) (g _ _ (by omega)) (fun u f hu _ _ => g f _ (by omega))
theorem PW.kn {hc kc hr kr : Hp} {x m lo : Nat} (K : Kn hc hr x m) (A : Fr (PW hc lo) hc kc) (hx : x + 38 < hT hc) (lx : x + 38 < lo) (eL : ∀ k, k < 128 → hL kr (m + 1) k = hL hr (m + 1) k) : Kn kc kr x m := K.frame A (by omega) (fun z => by have := z.1; omega) (fun f y f1 f2 ky z => by have z1 := z.2.1; rw [ky] at z1; cases z1) eL
/-- one warp's cell changes: the other slots don't see it -/
theorem CsS.one {o : Nat → Nat} {h k : Hp} {x lo s t w : Nat} (C : Cd h x) (A : Fr (fun f a => a = w ∧ 512 ≤ f ∧ f ≤ 521) h k) (hx : x + 38 < hT h) (lx : x + 38 < lo) (hs : s < 128) (tw : o w = 6 * t) (wl : lo ≤ w) (kw : hK h w = 9) (ne : ¬ s = t) : CsS o x lo s h k := CsS.of A hx hs (fun z => by have := z.1; omega) (fun z => by have := z.1; omega) (fun z => by have := z.1; omega) (fun a f _ _ h3 h4 _ z => by rw [z.1, tw] at h3 h4; omega) (fun y f _ ky _ _ z => by rw [z.1, kw] at ky; cases ky)
theorem wake_loop {F : Nat} {o : Nat → Nat} {hc hr kr : Hp} {x m lo ln sl u b bl : Nat} (hF : 40000 ≤ F) (C : Cd hc x) (K : Kn hc kr x m) (hx : x + 38 < hT hc) (lx : x + 38 < lo) (hu : u < 8) (s16 : sl ≤ 16) (hsl : hI hc 386 (x + 15 + 3 * u) = nI sl) (hl : hI kr 705 m = nI ln) (l32 : ln ≤ 32) (pre : ∀ k, k < sl → (SlotB o hc hr x m lo ln (16 * u + k) b ∧ Rw m (16 * u + k) hr kr) ∨ (SlotOk o hc kr x m lo ln (16 * u + k) ∧ ∀ w, bz hc (x + 16 + 3 * u) k = some w → ¬ hR hc 512 w = some bl)) (eb : hQ hc (x + 13) b = some bl) : ∃ H, f_Unit_wake F (x + 15 + 3 * u) (some bl) (some (x + 2)) hc = some H ∧ Fr (PW hc lo) hc H ∧ hT H = hT hc ∧ hU H = hU hc ∧ (∀ k, k < sl → SlotOk o H kr x m lo ln (16 * u + k)) ∧ (∀ s, s < 128 → (¬ s / 16 = u ∨ 16 * u + sl ≤ s) → CsS o x lo s hc H) := by
  obtain ⟨cu1, cu2, cu3, cu4, cu5, _⟩ := C.u u hu
  have key : ∀ k, k ≤ sl → ∃ H, f_Unit_wake F (x + 15 + 3 * u) (some bl) (some (x + 2)) hc = b_Unit_wake_2 F (F - k) (x + 15 + 3 * u) (some bl) (some (x + 2)) (nI k) H ∧ Fr (PW hc lo) hc H ∧ hT H = hT hc ∧ hU H = hU hc ∧ (∀ j, j < k → SlotOk o H kr x m lo ln (16 * u + j)) ∧ (∀ s, s < 128 → (¬ s / 16 = u ∨ 16 * u + k ≤ s) → CsS o x lo s hc H) := by
    intro k
    induction k with
    | zero =>
      intro _
      exact ⟨hc, by rw [nI_0]; rfl, Fr.refl hc, rfl, rfl, fun j hj => by omega, fun s _ _ => CsS.refl ..⟩
    | succ k ih =>
      intro hk
      obtain ⟨H, e1, A, hT1, hU1, done, rest⟩ := ih (by omega)
      have CH : Cd H x := PW.cd C A hx lx
      have KH : Kn H kr x m := PW.kn K A hx lx (fun _ _ => rfl)
      obtain ⟨d1, d2, d3, d4, d5, _⟩ := CH.u u hu
      obtain ⟨f, hf⟩ : ∃ f, F - k = f + 1 := ⟨F - k - 1, by omega⟩
      have hf2 : F - (k + 1) = f := by omega
      have cK : ¬ nI sl ≤ nI k := nI_ge (by omega) (by omega)
      have slH : hI H 386 (x + 15 + 3 * u) = nI sl := by rw [((A.2 _ (by omega)).2.2.1 _ (fun z => by have := z.1; omega)).1]; exact hsl
      have me := rest (16 * u + k) (by omega) (Or.inr (by omega))
      have dv : (16 * u + k) / 16 = u := by omega
      have md : (16 * u + k) % 16 = k := by omega
      have kkH : ∀ w, hQ H (x + 16 + 3 * u) k = some w → hK H w = 9 := fun w hw => by
        rcases pre k (by omega) with ⟨S, _⟩ | ⟨S, _⟩
        · obtain ⟨w2, rg, pl, ro, pr, ti, L, bl2, z1, W, _⟩ := S.fr me ⟨⟨rfl, rfl⟩, ⟨rfl, rfl, rfl⟩, fun _ _ => rfl, fun _ _ => ⟨rfl, rfl, rfl, rfl⟩, fun _ _ => rfl⟩
          rw [dv, md, hw] at z1
          injection z1 with z1
          rw [z1]; exact W.k
        · rcases S.fr K l32 me ⟨⟨rfl, rfl⟩, ⟨rfl, rfl, rfl⟩, fun _ _ => rfl, fun _ _ => ⟨rfl, rfl, rfl, rfl⟩, fun _ _ => rfl⟩ with ⟨z1, _⟩ | ⟨w2, rg, pl, ro, pr, ti, L, z1, W, _⟩
          · rw [dv, md, hw] at z1; cases z1
          · rw [dv, md, hw] at z1
            injection z1 with z1
            rw [z1]; exact W.k
      rw [hf, b_Unit_wake_2] at e1
      dsimp only at e1
      rw [gd_t d2, slH, if_neg cK, c_Unit_busy d2 d3 d4 d5 slH s16 (by omega) kkH, cl_some] at e1
      have rs0 : Rs m (16 * u + k) kr kr := ⟨⟨rfl, rfl⟩, ⟨rfl, rfl, rfl⟩, fun _ _ => rfl, fun _ _ => ⟨rfl, rfl, rfl, rfl⟩, fun _ _ => rfl⟩
      rcases pre k (by omega) with ⟨S, R⟩ | ⟨S, nb⟩
      · obtain ⟨w, rg, pl, ro, pr, ti, L, bl2, z1, W, e, B⟩ := S.fr me ⟨⟨rfl, rfl⟩, ⟨rfl, rfl, rfl⟩, fun _ _ => rfl, fun _ _ => ⟨rfl, rfl, rfl, rfl⟩, fun _ _ => rfl⟩
        rw [dv, md] at z1
        have eb2 : bl2 = bl := by
          have := B.bq
          rw [me.1.2.2.1, eb] at this
          injection this with this
          exact this.symm
        subst eb2
        rw [bz_some z1 B.blk, nu_some, gd_t W.k, pw_e, B.blk, if_pos rfl, pw_e] at e1
        have B2 := wb_wake B l32 R
        have W2 : Ws o lo (sI H 517 w 0) (16 * u + k) w rg pl ro pr ti L := W.fr (by rw [qT_sI]; exact Nat.le_refl _) (fun a _ _ _ _ _ => ⟨by rw [qK_sI], by rw [qN_sI], fun f _ _ => by rw [qR_sI]⟩)
        have A1 : Fr (fun f a => a = w ∧ 512 ≤ f ∧ f ≤ 521) H (sI H 517 w 0) := (Fr.refl H).cI ⟨rfl, by decide, by decide⟩
        have C1 : Cd (sI H 517 w 0) x := CH.same (qK_sI ..) (qN_sI ..) (fun f a _ => by rw [qR_sI]) (fun j => by rw [qQ_sI])
        have K1 : Kn (sI H 517 w 0) kr x m := KH.frame A1 (by omega) (fun z => by have := z.1; have := W.bw.1; omega) (fun f y _ _ ky z => by rw [z.1, W.k] at ky; cases ky) (fun _ _ => rfl)
        obtain ⟨H2, g1, g2, g3, g4, g5⟩ := c_gather_ok (F := F) hF C1 K1 (by rw [qT_sI, hT1]; exact hx) lx W2 B2 hl l32
        rw [g1, clv_some, nI_1] at e1
        have A2 : Fr (fun f a => a = w ∧ 512 ≤ f ∧ f ≤ 521) H H2 := A1.trans (g2.mono (fun f a _ z => ⟨z.1, by have := z.2.1; omega, by have := z.2.2; omega⟩))
        have A3 : Fr (fun f a => a = w ∧ 517 ≤ f ∧ f ≤ 521) H H2 := ((Fr.refl H).cI ⟨rfl, by decide, by decide⟩).trans (g2.mono (fun f a _ z => ⟨z.1, by have := z.2.1; omega, by have := z.2.2; omega⟩))
        have wk0 : hK hc w = 9 := by rw [← (A.2 w (by have := W.bw.2; omega)).1]; exact W.k
        have csO : ∀ s, s < 128 → ¬ s = 16 * u + k → CsS o x lo s H H2 := fun s hs ne => CsS.one CH A2 (by omega) lx hs W.tw W.bw.1 W.k ne
        refine ⟨H2, by rw [hf2]; exact e1, A.trans (A3.mono (fun f a _ z => by rw [z.1]; exact ⟨W.bw.1, wk0, Or.inr ⟨z.2.1, z.2.2⟩⟩)), by rw [g3, qT_sI, hT1], by rw [g4, qU_sI, hU1], fun j hj => ?_, fun s hs q => ?_⟩
        · by_cases ej : j = k
          · subst ej
            refine Or.inr ⟨w, rg, pl, ro, pr, ti, L, ?_, ?_, e, Or.inr ⟨b, bl2, ?_, g5⟩⟩
            · rw [dv, md, ((A2.2 _ (by omega)).2.2.2 (fun z => by have := z.1; have := W.bw.1; omega) _).2.1]; exact z1
            · exact W2.fr (by rw [g3]; exact Nat.le_refl _) (fun a h1 h2 _ _ _ => ⟨(g2.2 a h2).1, (g2.2 a h2).2.1, fun f f1 f2 => ((g2.2 a h2).2.2.1 f (fun z => by have := z.2.2; omega)).2⟩)
            · have gw := g2.2 w (by rw [qT_sI]; exact W.bw.2)
              have ga : ∀ a, a < hT H → ¬ a = w → ∀ j, hA H2 a j = hA H a j := fun a ha na j => by
                rw [((g2.2 a (by rw [qT_sI]; exact ha)).2.2.2 (fun z => na z.1) j).1, qA_sI]
              have gf : ∀ f, f < 518 ∨ 521 < f → hI H2 f w = hI (sI H 517 w 0) f w ∧ hR H2 f w = hR (sI H 517 w 0) f w := fun f z => gw.2.2.1 f (fun y => by have := y.2; omega)
              have nrg : ¬ rg = w := fun z => by have := W.t_rg; rw [z, W.tw] at this; omega
              have npl : ¬ pl = w := fun z => by have := W.t_pl; rw [z, W.tw] at this; omega
              have npr : ¬ pr = w := fun z => by have := W.t_pr; rw [z, W.tw] at this; omega
              have nti : ¬ ti = w := fun z => by have := W.t_ti; rw [z, W.tw] at this; omega
              refine ⟨by rw [(gf _ (Or.inl (by decide))).2]; exact B2.blk, ?_, B2.sb, B2.b64, by rw [(gf _ (Or.inl (by decide))).1]; exact B2.num, B2.wno, by rw [(gf _ (Or.inl (by decide))).1]; exact B2.lns, B2.lnL, fun i hi => by rw [(gf _ (Or.inl (by decide))).1]; exact B2.pre i hi, fun i hi => by rw [(gf _ (Or.inl (by decide))).1]; exact B2.end_ i hi, fun i hi => by rw [(gf _ (Or.inl (by decide))).1]; exact B2.wai i hi, B2.le, B2.lw, fun i r hi hr => by rw [ga _ W.b_rg.2 nrg, ← qA_sI H 517 w 0]; exact B2.reg i r hi hr, fun i hi => by rw [ga _ W.b_pl.2 npl, ← qA_sI H 517 w 0]; exact B2.pla i hi, fun p i hp hi => by rw [ga _ W.b_pr.2 npr, ← qA_sI H 517 w 0]; exact B2.prd p i hp hi, fun r hr => by rw [ga _ W.b_ti.2 nti, ← qA_sI H 517 w 0]; exact B2.tic r hr, by rw [(gf _ (Or.inr (by decide))).1]; exact B2.mem⟩
              rw [((A2.2 (x + 13) (by omega)).2.2.2 (fun z => by have := z.1; have := W.bw.1; omega) b).2.1]
              exact B.bq
          · exact (done j (by omega)).fr KH l32 (csO _ (by omega) (by omega)) ⟨⟨rfl, rfl⟩, ⟨rfl, rfl, rfl⟩, fun _ _ => rfl, fun _ _ => ⟨rfl, rfl, rfl, rfl⟩, fun _ _ => rfl⟩
        · exact (rest s hs (by omega)).trans (csO s hs (by omega))
      · have SH := S.fr K l32 me rs0
        have e1' : f_Unit_wake F (x + 15 + 3 * u) (some bl) (some (x + 2)) hc = b_Unit_wake_2 F f (x + 15 + 3 * u) (some bl) (some (x + 2)) (nI (k + 1)) H := by
          cases eo : bz H (x + 16 + 3 * u) k with
          | none => rw [eo, nu_none, nI_1] at e1; exact e1
          | some w =>
            have ew : hQ H (x + 16 + 3 * u) k = some w := by
              unfold bz at eo
              split at eo
              · cases eo
              · next w2 hw2 =>
                split at eo
                · cases eo
                · injection eo with eo
                  rw [← eo]; exact hw2
            have q0 : hQ hc (x + 16 + 3 * u) k = some w := by
              have := me.1.2.1
              rw [dv, md] at this
              rw [← this]; exact ew
            rcases S with ⟨z1, _⟩ | ⟨w2, rg, pl, ro, pr, ti, L, z1, W, e, z3⟩
            · rw [dv, md, q0] at z1; cases z1
            · rw [dv, md, q0] at z1
              injection z1 with z1
              subst z1
              have hw0 : hR H 512 w = hR hc 512 w := ((me.2.1 w W.bw.1 W.bw.2 (by rw [W.tw]; omega) (by rw [W.tw]; omega) (Or.inl W.k)).2.2.1 _ (by decide) (by decide)).2
              have kH := kkH w ew
              rcases z3 with ⟨z3, _⟩ | ⟨b2, bl2, B, _⟩
              · have : bz H (x + 16 + 3 * u) k = none := by
                  unfold bz
                  rw [ew]
                  dsimp only
                  rw [hw0, z3]
                rw [this] at eo; cases eo
              · have nb1 := nb w (bz_some q0 B.blk)
                rw [eo, nu_some, gd_t kH, pw_e, hw0, if_neg nb1, nI_1] at e1
                exact e1
        refine ⟨H, by rw [hf2]; exact e1', A, hT1, hU1, fun j hj => ?_, fun s hs q => rest s hs (by omega)⟩
        by_cases ej : j = k
        · subst ej; exact SH
        · exact done j (by omega)
  obtain ⟨H, e1, A, hT1, hU1, done, rest⟩ := key sl (Nat.le_refl _)
  have CH : Cd H x := PW.cd C A hx lx
  obtain ⟨d1, d2, _⟩ := CH.u u hu
  obtain ⟨f, hf⟩ : ∃ f, F - sl = f + 1 := ⟨F - sl - 1, by omega⟩
  have slH : hI H 386 (x + 15 + 3 * u) = nI sl := by rw [((A.2 _ (by omega)).2.2.1 _ (fun z => by have := z.1; omega)).1]; exact hsl
  have cL : nI sl ≤ nI sl := nI_le (Nat.le_refl _) (by omega)
  rw [hf, b_Unit_wake_2] at e1
  dsimp only at e1
  rw [gd_t d2, slH, if_pos cL] at e1
  exact ⟨H, e1, A, hT1, hU1, done, rest⟩
