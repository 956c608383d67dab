/-! freeing a block's slots -/
def PR (h : Hp) (lo ux bl f a : Nat) : Prop := PW h lo f a ∨ (a = ux ∧ f = 387) ∨ (a = bl ∧ f = 450)
theorem PR.cd {h k : Hp} {x lo u bl : Nat} (C : Cd h x) (A : Fr (PR h lo (x + 15 + 3 * u) bl) h k) (hx : x + 38 < hT h) (lx : x + 38 < lo) (lb : lo ≤ bl) : Cd k x := by
  have g : ∀ f a, a ≤ x + 38 → ¬ f = 387 → ¬ PR h lo (x + 15 + 3 * u) bl f a := fun f a ha nf z => by
    rcases z with z | z | z
    · have := z.1; omega
    · exact nf z.2
    · omega
  exact C.frame A hx (fun f _ => g f _ (by omega) (by omega)) (fun f _ _ => g f _ (by omega) (by omega)) (fun f _ _ => g f _ (by omega) (by omega)) (fun f _ _ => g f _ (by omega) (by omega)) (g _ _ (by omega) (by decide)) (fun u f hu _ _ => g f _ (by omega) (by omega))
theorem PR.kn {hc kc hr kr : Hp} {x m lo u bl : Nat} (K : Kn hc hr x m) (C : Cd hc x) (A : Fr (PR hc lo (x + 15 + 3 * u) bl) hc kc) (hx : x + 38 < hT hc) (lx : x + 38 < lo) (lb : lo ≤ bl) (hu : u < 8) (kb : hK hc bl = 8) (eL : ∀ k, k < 128 → hL kr (m + 1) k = hL hr (m + 1) k) : Kn kc kr x m := K.frame A (by omega) (fun z => by
    rcases z with z | z | z
    · have := z.1; omega
    · cases z.2
    · cases z.2) (fun f y f1 f2 ky z => by
    rcases z with z | z | z
    · have z1 := z.2.1; rw [ky] at z1; cases z1
    · rw [z.1, (C.u u hu).2.1] at ky; cases ky
    · rw [z.1, kb] at ky; cases ky) eL
theorem free_loop {F : Nat} {o : Nat → Nat} {hc hr kr : Hp} {x m lo ln sl u b bl : Nat} (hF : 40000 ≤ F) (C : Cd hc x) (K : Kn hc kr x m) (hx : x + 38 < hT hc) (lx : x + 38 < lo) (hu : u < 8) (s16 : sl ≤ 16) (hsl : hI hc 386 (x + 15 + 3 * u) = nI sl) (l32 : ln ≤ 32) (kb : hK hc bl = 8) (lb : lo ≤ bl) (bT : bl < hT hc) (pre : ∀ k, k < sl → (SlotB o hc hr x m lo ln (16 * u + k) b ∧ hA kr (m + 9) (16 * u + k) = -1) ∨ (SlotOk o hc kr x m lo ln (16 * u + k) ∧ (∀ w, bz hc (x + 16 + 3 * u) k = some w → ¬ hR hc 512 w = some bl) ∧ ¬ hA hr (m + 9) (16 * u + k) = nI b)) (eb : hQ hc (x + 13) b = some bl) : ∃ H, f_Unit_free F (x + 15 + 3 * u) (some bl) hc = some H ∧ Fr (PR hc lo (x + 15 + 3 * u) bl) hc H ∧ hT H = hT hc ∧ hU H = hU hc ∧ (∀ k, k < sl → SlotOk o H kr x m lo ln (16 * u + k)) ∧ (∀ s, s < 128 → (¬ s / 16 = u ∨ 16 * u + sl ≤ s) → CsS o x lo s hc H) ∧ hI H 387 (x + 15 + 3 * u) = hI hc 387 (x + 15 + 3 * u) + nI (cn (fun k => decide (hA hr (m + 9) (16 * u + k) = nI b)) sl) ∧ hR H 450 bl = none := by
  have rs0 : ∀ h s, Rs m s h h := fun h s => ⟨⟨rfl, rfl⟩, ⟨rfl, rfl, rfl⟩, fun _ _ => rfl, fun _ _ => ⟨rfl, rfl, rfl, rfl⟩, fun _ _ => rfl⟩
  have nub : ¬ bl = x + 15 + 3 * u := by omega
  have key : ∀ k, k ≤ sl → ∃ H, f_Unit_free F (x + 15 + 3 * u) (some bl) hc = b_Unit_free_2 F (F - k) (x + 15 + 3 * u) (some bl) (nI k) H ∧ Fr (PR hc lo (x + 15 + 3 * u) bl) hc H ∧ hT H = hT hc ∧ hU H = hU hc ∧ (∀ j, j < k → SlotOk o H kr x m lo ln (16 * u + j)) ∧ (∀ s, s < 128 → (¬ s / 16 = u ∨ 16 * u + k ≤ s) → CsS o x lo s hc H) ∧ hI H 387 (x + 15 + 3 * u) = hI hc 387 (x + 15 + 3 * u) + nI (cn (fun k => decide (hA hr (m + 9) (16 * u + k) = nI b)) k) := by
    intro k
    induction k with
    | zero =>
      intro _
      exact ⟨hc, by rw [nI_0]; rfl, Fr.refl hc, rfl, rfl, fun j hj => by omega, fun s _ _ => CsS.refl .., (Int32.add_zero _).symm⟩
    | succ k ih =>
      intro hk
      obtain ⟨H, e1, A, hT1, hU1, done, rest, cF⟩ := ih (by omega)
      have CH : Cd H x := PR.cd C A hx lx lb
      have KH : Kn H kr x m := PR.kn K C A hx lx lb hu kb (fun _ _ => rfl)
      obtain ⟨d1, d2, d3, d4, d5, _⟩ := CH.u u hu
      obtain ⟨f, hf⟩ : ∃ f, F - k = f + 1 := ⟨F - k - 1, by omega⟩
      have hf2 : F - (k + 1) = f := by omega
      have cK : ¬ nI sl ≤ nI k := nI_ge (by omega) (by omega)
      have slH : hI H 386 (x + 15 + 3 * u) = nI sl := by
        rw [((A.2 _ (by omega)).2.2.1 _ (fun z => by
          rcases z with z | z | z
          · have := z.1; omega
          · cases z.2
          · exact nub z.1.symm)).1]; exact hsl
      have me := rest (16 * u + k) (by omega) (Or.inr (by omega))
      have dv : (16 * u + k) / 16 = u := by omega
      have md : (16 * u + k) % 16 = k := by omega
      have kkH : ∀ w, hQ H (x + 16 + 3 * u) k = some w → hK H w = 9 := fun w hw => by
        rcases pre k (by omega) with ⟨S, _⟩ | ⟨S, _⟩
        · obtain ⟨w2, rg, pl, ro, pr, ti, L, bl2, z1, W, _⟩ := S.fr me (rs0 _ _)
          rw [dv, md, hw] at z1
          injection z1 with z1
          rw [z1]; exact W.k
        · rcases S.fr K l32 me (rs0 _ _) with ⟨z1, _⟩ | ⟨w2, rg, pl, ro, pr, ti, L, z1, W, _⟩
          · rw [dv, md, hw] at z1; cases z1
          · rw [dv, md, hw] at z1
            injection z1 with z1
            rw [z1]; exact W.k
      rw [hf, b_Unit_free_2] at e1
      dsimp only at e1
      rw [gd_t d2, slH, if_neg cK, c_Unit_busy d2 d3 d4 d5 slH s16 (by omega) kkH, cl_some] at e1
      rcases pre k (by omega) with ⟨S, Rk⟩ | ⟨S, nb, ns⟩
      · obtain ⟨w, rg, pl, ro, pr, ti, L, bl2, z1, W, e, B⟩ := S.fr me (rs0 _ _)
        rw [dv, md] at z1
        have eb2 : bl2 = bl := by
          have := B.bq
          rw [me.1.2.2.1, eb] at this
          injection this with this
          exact this.symm
        subst eb2
        have wx : ¬ w = x + 15 + 3 * u := by have := W.bw.1; omega
        rw [bz_some z1 B.blk, nu_some, gd_t W.k, pw_e, B.blk, if_pos rfl, pw_e, gd_t (by rw [qK_sR]; exact d2), pw_e, nI_1, qI_sR] at e1
        have A1 : Fr (fun f a => a = w ∧ 512 ≤ f ∧ f ≤ 521) H (sR H 512 w none) := (Fr.refl H).cR ⟨rfl, by decide, by decide⟩
        have wk0 : hK hc w = 9 := by rw [← (A.2 w (by have := W.bw.2; omega)).1]; exact W.k
        have H2cs : ∀ s, s < 128 → CsS o x lo s (sR H 512 w none) (sI (sR H 512 w none) 387 (x + 15 + 3 * u) (hI H 387 (x + 15 + 3 * u) + 1)) := fun s hs => ⟨⟨by rw [qT_sI]; exact Nat.le_refl _, by rw [qQ_sI], fun b => by rw [qQ_sI], fun p => by rw [qQ_sI]⟩, fun a h1 _ _ _ _ => ⟨by rw [qK_sI], by rw [qN_sI], fun f _ _ => ⟨by rw [qI_sI, if_neg (fun z => by have := z.2; omega)], by rw [qR_sI]⟩, fun j => by rw [qA_sI]⟩, fun y _ ky => ⟨by rw [qK_sI]; exact ky, fun f f1 f2 => by rw [qI_sI, if_neg (fun z => by have := z.1; omega)]⟩⟩
        have csO : ∀ s, s < 128 → ¬ s = 16 * u + k → CsS o x lo s H (sI (sR H 512 w none) 387 (x + 15 + 3 * u) (hI H 387 (x + 15 + 3 * u) + 1)) := fun s hs ne => (CsS.one CH A1 (by omega) lx hs W.tw W.bw.1 W.k ne).trans (H2cs s hs)
        refine ⟨_, by rw [hf2]; exact e1, (A.cR (Or.inl ⟨W.bw.1, wk0, Or.inl rfl⟩)).cI (Or.inr (Or.inl ⟨rfl, rfl⟩)), by rw [qT_sI, qT_sR, hT1], by rw [qU_sI, qU_sR, hU1], fun j hj => ?_, fun s hs q => ?_, ?_⟩
        · by_cases ej : j = k
          · subst ej
            refine Or.inr ⟨w, rg, pl, ro, pr, ti, L, by rw [qQ_sI, qQ_sR, dv, md]; exact z1, ?_, e, Or.inl ⟨by rw [qR_sI, qR_sR, if_pos ⟨rfl, rfl⟩], Rk⟩⟩
            exact W.fr (by rw [qT_sI, qT_sR]; exact Nat.le_refl _) (fun a h1 h2 _ _ _ => ⟨by rw [qK_sI, qK_sR], by rw [qN_sI, qN_sR], fun f f1 f2 => by rw [qR_sI, qR_sR, if_neg (fun z => by have := z.1; omega)]⟩)
          · exact (done j (by omega)).fr KH l32 (csO _ (by omega) (by omega)) (rs0 _ _)
        · exact (rest s hs (by omega)).trans (csO s hs (by omega))
        · rw [qI_sI, if_pos ⟨rfl, rfl⟩, cF, cn_snoc, if_pos (decide_eq_true (B.sb)), ← nI_1, Int32.add_assoc]
      · have SH := S.fr K l32 me (rs0 _ _)
        have e1' : f_Unit_free F (x + 15 + 3 * u) (some bl) hc = b_Unit_free_2 F f (x + 15 + 3 * u) (some bl) (nI (k + 1)) H := by
          cases eo : bz H (x + 16 + 3 * u) k with
          | none => rw [eo, nu_none, nI_1] at e1; exact e1
          | some w =>
            have ew : hQ H (x + 16 + 3 * u) k = some w := by
              unfold bz at eo
              split at eo
              · cases eo
              · next w2 hw2 =>
                split at eo
                · cases eo
                · injection eo with eo
                  rw [← eo]; exact hw2
            have q0 : hQ hc (x + 16 + 3 * u) k = some w := by
              have := me.1.2.1
              rw [dv, md] at this
              rw [← this]; exact ew
            rcases S with ⟨z1, _⟩ | ⟨w2, rg, pl, ro, pr, ti, L, z1, W, e, z3⟩
            · rw [dv, md, q0] at z1; cases z1
            · rw [dv, md, q0] at z1
              injection z1 with z1
              subst z1
              have hw0 : hR H 512 w = hR hc 512 w := ((me.2.1 w W.bw.1 W.bw.2 (by rw [W.tw]; omega) (by rw [W.tw]; omega) (Or.inl W.k)).2.2.1 _ (by decide) (by decide)).2
              have kH := kkH w ew
              rcases z3 with ⟨z3, _⟩ | ⟨b2, bl2, B, _⟩
              · have : bz H (x + 16 + 3 * u) k = none := by
                  unfold bz
                  rw [ew]
                  dsimp only
                  rw [hw0, z3]
                rw [this] at eo; cases eo
              · have nb1 := nb w (bz_some q0 B.blk)
                rw [eo, nu_some, gd_t kH, pw_e, hw0, if_neg nb1, nI_1] at e1
                exact e1
        refine ⟨H, by rw [hf2]; exact e1', A, hT1, hU1, fun j hj => ?_, fun s hs q => rest s hs (by omega), ?_⟩
        · by_cases ej : j = k
          · subst ej; exact SH
          · exact done j (by omega)
        · rw [cF, cn_snoc, if_neg (by rw [decide_eq_false ns]; decide)]
          rfl
  obtain ⟨H, e1, A, hT1, hU1, done, rest, cF⟩ := key sl (Nat.le_refl _)
  have CH : Cd H x := PR.cd C A hx lx lb
  have KH : Kn H kr x m := PR.kn K C A hx lx lb hu kb (fun _ _ => rfl)
  obtain ⟨d1, d2, _⟩ := CH.u u hu
  obtain ⟨f, hf⟩ : ∃ f, F - sl = f + 1 := ⟨F - sl - 1, by omega⟩
  have slH : hI H 386 (x + 15 + 3 * u) = nI sl := by
    rw [((A.2 _ (by omega)).2.2.1 _ (fun z => by
      rcases z with z | z | z
      · have := z.1; omega
      · cases z.2
      · exact nub z.1.symm)).1]; exact hsl
  have cL : nI sl ≤ nI sl := nI_le (Nat.le_refl _) (by omega)
  have kbH : hK H bl = 8 := by rw [(A.2 bl bT).1]; exact kb
  rw [hf, b_Unit_free_2] at e1
  dsimp only at e1
  rw [gd_t d2, slH, if_pos cL, rq_some kbH, pw_e] at e1
  have cs : ∀ s, CsS o x lo s H (sR H 450 bl none) := fun s => ⟨⟨by rw [qT_sR]; exact Nat.le_refl _, by rw [qQ_sR], fun b => by rw [qQ_sR], fun p => by rw [qQ_sR]⟩, fun a _ _ _ _ ka => ⟨by rw [qK_sR], by rw [qN_sR], fun f f1 f2 => ⟨by rw [qI_sR], by rw [qR_sR, if_neg (fun z => by have := z.1; omega)]⟩, fun j => by rw [qA_sR]⟩, fun y _ ky => ⟨by rw [qK_sR]; exact ky, fun f f1 f2 => by rw [qI_sR]⟩⟩
  exact ⟨_, e1, A.cR (Or.inr (Or.inr ⟨rfl, rfl⟩)), by rw [qT_sR, hT1], by rw [qU_sR, hU1], fun k hk => (done k hk).fr KH l32 (cs _) (rs0 _ _), fun s hs q => (rest s hs q).trans (cs s), by rw [qI_sR]; exact cF, by rw [qR_sR, if_pos ⟨rfl, rfl⟩]⟩
