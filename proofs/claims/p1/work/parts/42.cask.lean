/-! asking, in the class: all lanes -/
def AE (h : Hp) (x lo w rg pl ro pr ti ln wd bl s b0 o b d : Nat) (D : Nat → Bool) (K : Nat → Nat) (Yf Wf : Nat → Int32) : Prop := (Cd h x) ∧ (Wp h w rg pl ro pr ti ln) ∧ (x + 38 < hT h) ∧ (x + 38 < lo) ∧ (lo ≤ hT h) ∧ (Wv h x lo w rg ro) ∧ (lo ≤ pl ∧ pl < hT h) ∧ (lo ≤ pr ∧ pr < hT h) ∧ (lo ≤ ti ∧ ti < hT h) ∧ (hR h 520 w = some wd) ∧ (hK h wd = 10) ∧ (wd < hT h) ∧ (hI h 579 wd = nI b) ∧ (b < 16) ∧ (hI h 577 wd = nI d) ∧ (d < 16) ∧ (hI h 576 wd = nI o) ∧ (hR h 512 w = some bl) ∧ (hQ h (x + 16 + 3 * (s / 16)) (s % 16) = some w) ∧ (hQ h (x + 13) b0 = some bl) ∧ (s < 128) ∧ (∀ i, i < ln → D i = true → hA h ro i = nI (K i) ∧ K i < 4096) ∧ (∀ i, i < ln → hA h rg (16 * i + b) = Yf i ∧ hA h rg (16 * i + d) = Wf i)
theorem AE.C {h : Hp} {x lo w rg pl ro pr ti ln wd bl s b0 o b d : Nat} {D : Nat → Bool} {K : Nat → Nat} {Yf Wf : Nat → Int32} (H : AE h x lo w rg pl ro pr ti ln wd bl s b0 o b d D K Yf Wf) : Cd h x := H.1
theorem AE.W {h : Hp} {x lo w rg pl ro pr ti ln wd bl s b0 o b d : Nat} {D : Nat → Bool} {K : Nat → Nat} {Yf Wf : Nat → Int32} (H : AE h x lo w rg pl ro pr ti ln wd bl s b0 o b d D K Yf Wf) : Wp h w rg pl ro pr ti ln := H.2.1
theorem AE.hx {h : Hp} {x lo w rg pl ro pr ti ln wd bl s b0 o b d : Nat} {D : Nat → Bool} {K : Nat → Nat} {Yf Wf : Nat → Int32} (H : AE h x lo w rg pl ro pr ti ln wd bl s b0 o b d D K Yf Wf) : x + 38 < hT h := H.2.2.1
theorem AE.lx {h : Hp} {x lo w rg pl ro pr ti ln wd bl s b0 o b d : Nat} {D : Nat → Bool} {K : Nat → Nat} {Yf Wf : Nat → Int32} (H : AE h x lo w rg pl ro pr ti ln wd bl s b0 o b d D K Yf Wf) : x + 38 < lo := H.2.2.2.1
theorem AE.lh {h : Hp} {x lo w rg pl ro pr ti ln wd bl s b0 o b d : Nat} {D : Nat → Bool} {K : Nat → Nat} {Yf Wf : Nat → Int32} (H : AE h x lo w rg pl ro pr ti ln wd bl s b0 o b d D K Yf Wf) : lo ≤ hT h := H.2.2.2.2.1
theorem AE.V {h : Hp} {x lo w rg pl ro pr ti ln wd bl s b0 o b d : Nat} {D : Nat → Bool} {K : Nat → Nat} {Yf Wf : Nat → Int32} (H : AE h x lo w rg pl ro pr ti ln wd bl s b0 o b d D K Yf Wf) : Wv h x lo w rg ro := H.2.2.2.2.2.1
theorem AE.bpl {h : Hp} {x lo w rg pl ro pr ti ln wd bl s b0 o b d : Nat} {D : Nat → Bool} {K : Nat → Nat} {Yf Wf : Nat → Int32} (H : AE h x lo w rg pl ro pr ti ln wd bl s b0 o b d D K Yf Wf) : lo ≤ pl ∧ pl < hT h := H.2.2.2.2.2.2.1
theorem AE.bpr {h : Hp} {x lo w rg pl ro pr ti ln wd bl s b0 o b d : Nat} {D : Nat → Bool} {K : Nat → Nat} {Yf Wf : Nat → Int32} (H : AE h x lo w rg pl ro pr ti ln wd bl s b0 o b d D K Yf Wf) : lo ≤ pr ∧ pr < hT h := H.2.2.2.2.2.2.2.1
theorem AE.bti {h : Hp} {x lo w rg pl ro pr ti ln wd bl s b0 o b d : Nat} {D : Nat → Bool} {K : Nat → Nat} {Yf Wf : Nat → Int32} (H : AE h x lo w rg pl ro pr ti ln wd bl s b0 o b d D K Yf Wf) : lo ≤ ti ∧ ti < hT h := H.2.2.2.2.2.2.2.2.1
theorem AE.hw {h : Hp} {x lo w rg pl ro pr ti ln wd bl s b0 o b d : Nat} {D : Nat → Bool} {K : Nat → Nat} {Yf Wf : Nat → Int32} (H : AE h x lo w rg pl ro pr ti ln wd bl s b0 o b d D K Yf Wf) : hR h 520 w = some wd := H.2.2.2.2.2.2.2.2.2.1
theorem AE.kd {h : Hp} {x lo w rg pl ro pr ti ln wd bl s b0 o b d : Nat} {D : Nat → Bool} {K : Nat → Nat} {Yf Wf : Nat → Int32} (H : AE h x lo w rg pl ro pr ti ln wd bl s b0 o b d D K Yf Wf) : hK h wd = 10 := H.2.2.2.2.2.2.2.2.2.2.1
theorem AE.wdT {h : Hp} {x lo w rg pl ro pr ti ln wd bl s b0 o b d : Nat} {D : Nat → Bool} {K : Nat → Nat} {Yf Wf : Nat → Int32} (H : AE h x lo w rg pl ro pr ti ln wd bl s b0 o b d D K Yf Wf) : wd < hT h := H.2.2.2.2.2.2.2.2.2.2.2.1
theorem AE.hb {h : Hp} {x lo w rg pl ro pr ti ln wd bl s b0 o b d : Nat} {D : Nat → Bool} {K : Nat → Nat} {Yf Wf : Nat → Int32} (H : AE h x lo w rg pl ro pr ti ln wd bl s b0 o b d D K Yf Wf) : hI h 579 wd = nI b := H.2.2.2.2.2.2.2.2.2.2.2.2.1
theorem AE.lb {h : Hp} {x lo w rg pl ro pr ti ln wd bl s b0 o b d : Nat} {D : Nat → Bool} {K : Nat → Nat} {Yf Wf : Nat → Int32} (H : AE h x lo w rg pl ro pr ti ln wd bl s b0 o b d D K Yf Wf) : b < 16 := H.2.2.2.2.2.2.2.2.2.2.2.2.2.1
theorem AE.hd {h : Hp} {x lo w rg pl ro pr ti ln wd bl s b0 o b d : Nat} {D : Nat → Bool} {K : Nat → Nat} {Yf Wf : Nat → Int32} (H : AE h x lo w rg pl ro pr ti ln wd bl s b0 o b d D K Yf Wf) : hI h 577 wd = nI d := H.2.2.2.2.2.2.2.2.2.2.2.2.2.2.1
theorem AE.ld {h : Hp} {x lo w rg pl ro pr ti ln wd bl s b0 o b d : Nat} {D : Nat → Bool} {K : Nat → Nat} {Yf Wf : Nat → Int32} (H : AE h x lo w rg pl ro pr ti ln wd bl s b0 o b d D K Yf Wf) : d < 16 := H.2.2.2.2.2.2.2.2.2.2.2.2.2.2.2.1
theorem AE.ho {h : Hp} {x lo w rg pl ro pr ti ln wd bl s b0 o b d : Nat} {D : Nat → Bool} {K : Nat → Nat} {Yf Wf : Nat → Int32} (H : AE h x lo w rg pl ro pr ti ln wd bl s b0 o b d D K Yf Wf) : hI h 576 wd = nI o := H.2.2.2.2.2.2.2.2.2.2.2.2.2.2.2.2.1
theorem AE.hbl {h : Hp} {x lo w rg pl ro pr ti ln wd bl s b0 o b d : Nat} {D : Nat → Bool} {K : Nat → Nat} {Yf Wf : Nat → Int32} (H : AE h x lo w rg pl ro pr ti ln wd bl s b0 o b d D K Yf Wf) : hR h 512 w = some bl := H.2.2.2.2.2.2.2.2.2.2.2.2.2.2.2.2.2.1
theorem AE.eq {h : Hp} {x lo w rg pl ro pr ti ln wd bl s b0 o b d : Nat} {D : Nat → Bool} {K : Nat → Nat} {Yf Wf : Nat → Int32} (H : AE h x lo w rg pl ro pr ti ln wd bl s b0 o b d D K Yf Wf) : hQ h (x + 16 + 3 * (s / 16)) (s % 16) = some w := H.2.2.2.2.2.2.2.2.2.2.2.2.2.2.2.2.2.2.1
theorem AE.eb {h : Hp} {x lo w rg pl ro pr ti ln wd bl s b0 o b d : Nat} {D : Nat → Bool} {K : Nat → Nat} {Yf Wf : Nat → Int32} (H : AE h x lo w rg pl ro pr ti ln wd bl s b0 o b d D K Yf Wf) : hQ h (x + 13) b0 = some bl := H.2.2.2.2.2.2.2.2.2.2.2.2.2.2.2.2.2.2.2.1
theorem AE.hs {h : Hp} {x lo w rg pl ro pr ti ln wd bl s b0 o b d : Nat} {D : Nat → Bool} {K : Nat → Nat} {Yf Wf : Nat → Int32} (H : AE h x lo w rg pl ro pr ti ln wd bl s b0 o b d D K Yf Wf) : s < 128 := H.2.2.2.2.2.2.2.2.2.2.2.2.2.2.2.2.2.2.2.2.1
theorem AE.hK2 {h : Hp} {x lo w rg pl ro pr ti ln wd bl s b0 o b d : Nat} {D : Nat → Bool} {K : Nat → Nat} {Yf Wf : Nat → Int32} (H : AE h x lo w rg pl ro pr ti ln wd bl s b0 o b d D K Yf Wf) : ∀ i, i < ln → D i = true → hA h ro i = nI (K i) ∧ K i < 4096 := H.2.2.2.2.2.2.2.2.2.2.2.2.2.2.2.2.2.2.2.2.2.1
theorem AE.val {h : Hp} {x lo w rg pl ro pr ti ln wd bl s b0 o b d : Nat} {D : Nat → Bool} {K : Nat → Nat} {Yf Wf : Nat → Int32} (H : AE h x lo w rg pl ro pr ti ln wd bl s b0 o b d D K Yf Wf) : ∀ i, i < ln → hA h rg (16 * i + b) = Yf i ∧ hA h rg (16 * i + d) = Wf i := H.2.2.2.2.2.2.2.2.2.2.2.2.2.2.2.2.2.2.2.2.2.2

theorem AE.fr {h : Hp} {x lo w rg pl ro pr ti ln wd bl s b0 o b d : Nat} {D : Nat → Bool} {K : Nat → Nat} {Yf Wf : Nat → Int32} {k : Hp} (E : AE h x lo w rg pl ro pr ti ln wd bl s b0 o b d D K Yf Wf) (A : Fr (PM x h) h k) : AE k x lo w rg pl ro pr ti ln wd bl s b0 o b d D K Yf Wf := by
  have C := E.C
  have W := E.W
  have lx := E.lx
  have hT1 := A.1
  obtain ⟨v1, v2, v3⟩ := E.V
  have wk := W.1.1
  have kd := E.kd
  have k1 := W.2.1.2.1
  have k3 := W.2.2.2.1.2.1
  have qw := PM_q C A v1.2 (by rw [wk]; decide) (by rw [wk]; decide) (by rw [wk]; decide) (by omega) (by omega) (by omega)
  have q1 := PM_q C A v2.2 (by rw [k1]; decide) (by rw [k1]; decide) (by rw [k1]; decide) (by omega) (by omega) (by omega)
  have q3 := PM_q C A v3.2 (by rw [k3]; decide) (by rw [k3]; decide) (by rw [k3]; decide) (by omega) (by omega) (by omega)
  have qd := PM_q C A E.wdT (by rw [kd]; decide) (by rw [kd]; decide) (by rw [kd]; decide) (fun z => by rw [z, C.k_cache] at kd; cases kd) (fun z => by rw [z, C.k_lines] at kd; cases kd) (fun z => by rw [z, C.k_cticks] at kd; cases kd)
  have hs := E.hs
  have qs := PM_q C A (show x + 16 + 3 * (s / 16) < hT h by have := E.hx; omega) (by rw [(C.u (s / 16) (by omega)).2.2.2.1]; decide) (by rw [(C.u (s / 16) (by omega)).2.2.2.1]; decide) (by rw [(C.u (s / 16) (by omega)).2.2.2.1]; decide) (by omega) (by omega) (by omega)
  have qb := PM_q C A (show x + 13 < hT h by have := E.hx; omega) (by rw [C.k_blocks]; decide) (by rw [C.k_blocks]; decide) (by rw [C.k_blocks]; decide) (by omega) (by omega) (by omega)
  refine ⟨PM_cd C A E.hx, PM_wp C A lx W E.V E.bpl E.bpr E.bti, by have := E.hx; omega, lx, by have := E.lh; omega, ⟨⟨v1.1, by omega⟩, ⟨v2.1, by omega⟩, ⟨v3.1, by omega⟩⟩, ⟨E.bpl.1, by have := E.bpl.2; omega⟩, ⟨E.bpr.1, by have := E.bpr.2; omega⟩, ⟨E.bti.1, by have := E.bti.2; omega⟩, by rw [(qw.2.2.1 _).2]; exact E.hw, by rw [qd.1]; exact kd, by have := E.wdT; omega, by rw [(qd.2.2.1 _).1]; exact E.hb, E.lb, by rw [(qd.2.2.1 _).1]; exact E.hd, E.ld, by rw [(qd.2.2.1 _).1]; exact E.ho, by rw [(qw.2.2.1 _).2]; exact E.hbl, by rw [(qs.2.2.2 _).2.1]; exact E.eq, by rw [(qb.2.2.2 _).2.1]; exact E.eb, hs, fun i hi q => by rw [(q3.2.2.2 _).1]; exact E.hK2 i hi q, fun i hi => by rw [(q1.2.2.2 _).1, (q1.2.2.2 _).1]; exact E.val i hi⟩
/-- the request of a lane -/
def rqK (s b0 o d : Nat) (K : Nat → Nat) (Yf Wf : Nat → Int32) (v : Int32) (i : Nat) : Rq := ⟨v, s, i, b0, o, d, K i, Yf i, Wf i⟩
theorem c_add {h : Hp} {x lo w rg pl ro pr ti ln wd bl s b0 o b d : Nat} {D : Nat → Bool} {K : Nat → Nat} {Yf Wf : Nat → Int32} {F : Nat} (hF : 40000 ≤ F) (E : AE h x lo w rg pl ro pr ti ln wd bl s b0 o b d D K Yf Wf) {tg : Nat → Nat} {Z : RowT} {sp : List Nat} (R : Rws h x lo tg Z) (S : Spr h x lo tg sp) {i r0 : Nat} {v : Int32} (hi : i < ln) (di : D i = true) (ev : (v &&& 63) = nI r0) (l64 : r0 < 64) : ∃ k a sp2 tg2, f_Pending_add F (x + 8) (some w) (nI i) v h = some k ∧ Fr (PA x h) h k ∧ Rws k x lo tg2 (apR Z r0 [(a, rqK s b0 o d K Yf Wf v i)]) ∧ Spr k x lo tg2 sp2 ∧ hI k 259 (x + 8) = hI h 259 (x + 8) + 1 ∧ Ldg h sp 1 k sp2 := by
  obtain ⟨h1, a, sp2, t1, t2, t3, t4, t5, t6, t7, t8, t9, t10, t11⟩ := pd_take (F := F) E.C R S E.hx E.lh E.lx (some w) (nI i) v
  have E1 := E.fr (PM.of t2)
  obtain ⟨k, tg2, u1, u2, u3, u4, u5, u6, u7⟩ := pd_link (v := v) E1.W hF E1.hw E1.kd E1.C t3 t4 E1.hx E1.lx t5 t6 t7 t8 t9 hi E1.hb E1.lb E1.hd E1.ld ev l64 E1.hbl E1.wdT (rqK s b0 o d K Yf Wf v i) rfl E1.eq E1.eb E1.ho E1.hd rfl (E1.hK2 i hi di).1 (E1.val i hi).1 (E1.val i hi).2 E1.hs
  refine ⟨k, a, sp2, tg2, by rw [t1]; exact u1, PA.tr t2 u2, u3, u4, by rw [u5, t10], ?_⟩
  rcases t11 with ⟨z1, z2, z3, z4⟩ | ⟨z1, z2, z3⟩
  · exact ⟨1, by omega, by omega, by rw [z1, z2], fun _ => by rw [z2]; rfl⟩
  · exact ⟨0, by omega, by omega, by omega, fun z => absurd rfl z⟩
theorem apR_0 (Z : RowT) (r0 : Nat) : apR Z r0 [] = Z := by
  funext r
  unfold apR
  split
  · rw [List.append_nil]
  · rfl
theorem apR_2 (Z : RowT) (r0 : Nat) (l1 l2 : List (Nat × Rq)) : apR (apR Z r0 l1) r0 l2 = apR Z r0 (l1 ++ l2) := by
  funext r
  unfold apR
  by_cases z : r = r0
  · rw [if_pos z, if_pos z, if_pos z, List.append_assoc]
  · rw [if_neg z, if_neg z, if_neg z]
theorem cn_snoc (P : Nat → Bool) (n : Nat) : cn P (n + 1) = cn P n + if P n = true then 1 else 0 := by
  show cn P n + (if P n then 1 else 0) = _
  rfl
theorem lnR_s (D : Nat → Bool) (R : Nat → Rq) (n : Nat) : lnR D R (n + 1) = if D n = true then lnR D R n ++ [R n] else lnR D R n := rfl
theorem c_askTogether {h : Hp} {x lo w rg pl ro pr ti ln wd bl s b0 o b d : Nat} {D : Nat → Bool} {K : Nat → Nat} {Yf Wf : Nat → Int32} {F : Nat} (hF : 40000 ≤ F) (E : AE h x lo w rg pl ro pr ti ln wd bl s b0 o b d D K Yf Wf) {tg : Nat → Nat} {Z : RowT} {sp : List Nat} (R : Rws h x lo tg Z) (S : Spr h x lo tg sp) {r0 : Nat} {v tm : Int32} (ht : ∀ i, i < ln → bt tm i = true → D i = true) (ev : (v &&& 63) = nI r0) (l64 : r0 < 64) : ∃ k l sp2 tg2 sn, f_Memory_askTogether F (x + 3) (some w) tm v h = some (nI (cn (bt tm) 32) - nI (cn (bt sn) 32), k) ∧ (∀ b, b < 32 → bt sn b = exB (fun j => bt tm j && decide (K j % 8 = b)) ln) ∧ Fr (PA x h) h k ∧ Rws k x lo tg2 (apR Z r0 l) ∧ l.map Prod.snd = lnR (bt tm) (rqK s b0 o d K Yf Wf v) ln ∧ Spr k x lo tg2 sp2 ∧ hI k 259 (x + 8) = hI h 259 (x + 8) + nI (cn (bt tm) ln) ∧ Ldg h sp (cn (bt tm) ln) k sp2 := by
  have l32 : ln ≤ 32 := E.W.1.2.2
  have key : ∀ i, i ≤ ln → ∃ k l sp2 tg2 sn, f_Memory_askTogether F (x + 3) (some w) tm v h = b_Memory_askTogether_6 F (F - i) (x + 3) (some w) tm v sn (nI i) k ∧ (∀ b, b < 32 → bt sn b = exB (fun j => bt tm j && decide (K j % 8 = b)) i) ∧ Fr (PA x h) h k ∧ Rws k x lo tg2 (apR Z r0 l) ∧ l.map Prod.snd = lnR (bt tm) (rqK s b0 o d K Yf Wf v) i ∧ Spr k x lo tg2 sp2 ∧ hI k 259 (x + 8) = hI h 259 (x + 8) + nI (cn (bt tm) i) ∧ Ldg h sp (cn (bt tm) i) k sp2 := by
    intro i
    induction i with
    | zero =>
      intro _
      refine ⟨h, [], sp, tg, 0, by rw [nI_0]; rfl, fun b hb => by rw [b_0]; rfl, Fr.refl h, by rw [apR_0]; exact R, rfl, S, ?_, Ldg.refl h sp⟩
      exact (Int32.add_zero _).symm
    | succ i ih =>
      intro hi
      obtain ⟨k, l, sp2, tg2, sn, t1, t2, t3, t4, t5, t6, t7, t8⟩ := ih (by omega)
      have Ek := E.fr (PM.of t3)
      obtain ⟨f, hf⟩ : ∃ f, F - i = f + 1 := ⟨F - i - 1, by omega⟩
      have hf2 : F - (i + 1) = f := by omega
      have c : ¬ nI ln ≤ nI i := nI_ge (by omega) (by omega)
      have wk := Ek.W.1.1
      have wl := Ek.W.1.2.1
      rw [hf, b_Memory_askTogether_6] at t1
      dsimp only at t1
      rw [rq_some wk, wl, if_neg c, c_in tm (show i < 32 by omega), cl_some, bI_ite] at t1
      have exs : ∀ b, exB (fun j => bt tm j && decide (K j % 8 = b)) (i + 1) = (exB (fun j => bt tm j && decide (K j % 8 = b)) i || (bt tm i && decide (K i % 8 = b))) := fun b => rfl
      by_cases q : bt tm i = true
      · have di := ht i (by omega) q
        obtain ⟨k2, a, sp3, tg3, u1, u2, u3, u4, u5, u6⟩ := c_add hF Ek t4 t6 (i := i) (by omega) di ev l64
        have E2 := Ek.fr (PM.of u2)
        obtain ⟨e1, e2⟩ := E2.hK2 i (by omega) di
        obtain ⟨r3, k3, n3, m3⟩ := E2.W.2.2.2.1
        have wk2 := E2.W.1.1
        have e7 : nI (K i) &&& 7 = nI (K i % 8) := pk_andN (by omega) 3 (by decide)
        rw [if_pos q, gd_t Ek.C.k_memory, rq_k Ek.C.r_pending Ek.C.k_pending, u1, clv_some, gd_t wk2, rq_k r3 k3, ixn (by omega) (by omega), e1, e7, nI_1] at t1
        refine ⟨k2, l ++ [(a, rqK s b0 o d K Yf Wf v i)], sp3, tg3, _, by rw [hf2]; exact t1, fun b hb => ?_, PA.tr t3 u2, by rw [← apR_2]; exact u3, ?_, u4, ?_, ?_⟩
        · rw [b_or, t2 b hb, exs, q, Bool.true_and, bt_one (by omega) hb]
          congr 1
          by_cases z : b = K i % 8
          · rw [decide_eq_true z, decide_eq_true z.symm]
          · rw [decide_eq_false z, decide_eq_false (fun y => z y.symm)]
        · rw [lnR_s, if_pos q, List.map_append, t5]
          rfl
        · rw [u5, t7, cn_snoc, if_pos q, ← nI_1, Int32.add_assoc]
        · rw [cn_snoc, if_pos q]
          exact t8.tr u6
      · have q0 : bt tm i = false := by simpa using q
        rw [if_neg q, nI_1] at t1
        refine ⟨k, l, sp2, tg2, sn, by rw [hf2]; exact t1, fun b hb => ?_, t3, t4, ?_, t6, ?_, ?_⟩
        · rw [t2 b hb, exs, q0, Bool.false_and, Bool.or_false]
        · rw [lnR_s, if_neg q]; exact t5
        · rw [cn_snoc, if_neg q]; exact t7
        · rw [cn_snoc, if_neg q]; exact t8
  obtain ⟨k, l, sp2, tg2, sn, t1, t2, t3, t4, t5, t6, t7, t8⟩ := key ln (Nat.le_refl _)
  have Ek := E.fr (PM.of t3)
  obtain ⟨f, hf⟩ : ∃ f, F - ln = f + 1 := ⟨F - ln - 1, by omega⟩
  have cL : nI ln ≤ nI ln := nI_le (Nat.le_refl _) (by omega)
  rw [hf, b_Memory_askTogether_6] at t1
  dsimp only at t1
  rw [rq_some Ek.W.1.1, Ek.W.1.2.1, if_pos cL, c_Integer_bitCount, cl_some, c_Integer_bitCount, cl_some] at t1
  exact ⟨k, l, sp2, tg2, sn, t1, t2, t3, t4, t5, t6, t7, t8⟩
/-! how many ask for what another asks for -/
theorem cn_0 {P : Nat → Bool} : ∀ n, (∀ i, i < n → P i = false) → cn P n = 0 := by
  intro n
  induction n with
  | zero => intro _; rfl
  | succ n ih => intro h; rw [cn_snoc, ih (fun i hi => h i (by omega)), if_neg (by rw [h n (by omega)]; decide)]
theorem cn_up {P Q : Nat → Bool} {v : Nat} : ∀ n, v < n → P v = false → Q v = true → (∀ i, ¬ i = v → Q i = P i) → cn Q n = cn P n + 1 := by
  intro n
  induction n with
  | zero => intro h; omega
  | succ n ih =>
    intro hv p q e
    rw [cn_snoc, cn_snoc]
    by_cases z : v = n
    · subst z
      rw [q, p, cn_congr v (fun i hi => e i (by omega))]
      simp
    · rw [ih (by omega) p q e, e n (fun y => z y.symm)]
      omega
theorem cn_dst (T : Nat → Bool) (V : Nat → Nat) (m : Nat) : ∀ n, (∀ i, i < n → T i = true → V i < m) → cn (fun b => exB (fun j => T j && decide (V j = b)) n) m = cn (fun i => T i && !(exB (fun j => T j && decide (V j = V i)) i)) n := by
  intro n
  induction n with
  | zero => intro _; exact cn_0 m (fun i _ => rfl)
  | succ n ih =>
    intro hV
    have ih := ih (fun i hi q => hV i (by omega) q)
    rw [cn_snoc]
    have exs : ∀ b, exB (fun j => T j && decide (V j = b)) (n + 1) = (exB (fun j => T j && decide (V j = b)) n || (T n && decide (V n = b))) := fun b => rfl
    by_cases t : T n = true
    · by_cases e : exB (fun j => T j && decide (V j = V n)) n = true
      · rw [if_neg (by rw [t, e]; decide), Nat.add_zero, ← ih]
        refine cn_congr m fun b _ => ?_
        rw [exs, t, Bool.true_and]
        by_cases z : V n = b
        · rw [← z, e]; rfl
        · rw [decide_eq_false z, Bool.or_false]
      · have e0 : exB (fun j => T j && decide (V j = V n)) n = false := by simpa using e
        rw [if_pos (by rw [t, e0]; rfl), ← ih]
        refine cn_up (v := V n) m (hV n (by omega) t) e0 (by rw [exs, t, decide_eq_true rfl, e0]; rfl) (fun b z => ?_)
        rw [exs, decide_eq_false (fun y => z y.symm), Bool.and_false, Bool.or_false]
    · have t0 : T n = false := by simpa using t
      rw [if_neg (by rw [t0]; simp), Nat.add_zero, ← ih]
      refine cn_congr m fun b _ => ?_
      rw [exs, t0, Bool.false_and, Bool.or_false]
theorem cn_split (P Q : Nat → Bool) : ∀ n, cn P n = cn (fun i => P i && Q i) n + cn (fun i => P i && !(Q i)) n := by
  intro n
  induction n with
  | zero => rfl
  | succ n ih =>
    rw [cn_snoc, cn_snoc, cn_snoc, ih]
    cases P n <;> cases Q n <;> simp <;> omega
theorem cn_ext {P : Nat → Bool} {n m : Nat} (h : n ≤ m) (q : ∀ i, n ≤ i → i < m → P i = false) : cn P m = cn P n := by
  obtain ⟨d, rfl⟩ : ∃ d, m = n + d := ⟨m - n, by omega⟩
  rw [cn_add, cn_0 d (fun i hi => q (n + i) (by omega) (by omega)), Nat.add_zero]
theorem lnR_filter (f : Rq → Bool) (D : Nat → Bool) (R : Nat → Rq) : ∀ n, (lnR D R n).filter f = lnR (fun j => D j && f (R j)) R n := by
  intro n
  induction n with
  | zero => rfl
  | succ n ih =>
    rw [lnR_s, lnR_s]
    by_cases q : D n = true
    · rw [if_pos q, List.filter_append, ih, q, Bool.true_and]
      by_cases z : f (R n) = true
      · rw [if_pos z, List.filter_cons_of_pos z]; rfl
      · rw [if_neg z, List.filter_cons_of_neg z, List.filter_nil, List.append_nil]
    · have q0 : D n = false := by simpa using q
      rw [if_neg q, ih, q0, Bool.false_and, if_neg (by decide)]
theorem lnR_congr {D E : Nat → Bool} {R Q : Nat → Rq} : ∀ n, (∀ i, i < n → D i = E i) → (∀ i, i < n → D i = true → R i = Q i) → lnR D R n = lnR E Q n := by
  intro n
  induction n with
  | zero => intro _ _; rfl
  | succ n ih =>
    intro h1 h2
    rw [lnR_s, lnR_s, ih (fun i hi => h1 i (by omega)) (fun i hi => h2 i (by omega)), ← h1 n (by omega)]
    by_cases q : D n = true
    · rw [if_pos q, if_pos q, h2 n (by omega) q]
    · rw [if_neg q, if_neg q]
theorem lnR_nil {D : Nat → Bool} {R : Nat → Rq} : ∀ n, (∀ i, i < n → D i = false) → lnR D R n = [] := by
  intro n
  induction n with
  | zero => intro _; rfl
  | succ n ih => intro h; rw [lnR_s, ih (fun i hi => h i (by omega)), if_neg (by rw [h n (by omega)]; decide)]
theorem lnR_cn (D : Nat → Bool) (R : Nat → Rq) : ∀ n, (lnR D R n).length = cn D n := by
  intro n
  induction n with
  | zero => rfl
  | succ n ih =>
    rw [lnR_s, cn_snoc]
    by_cases q : D n = true
    · rw [if_pos q, if_pos q, List.length_append, ih]; rfl
    · rw [if_neg q, if_neg q, ih, Nat.add_zero]
theorem cn_or {P Q S : Nat → Bool} : ∀ n, (∀ i, i < n → S i = (P i || Q i) ∧ (P i && Q i) = false) → cn S n = cn P n + cn Q n := by
  intro n
  induction n with
  | zero => intro _; rfl
  | succ n ih =>
    intro h
    obtain ⟨h1, h2⟩ := h n (by omega)
    rw [cn_snoc, cn_snoc, cn_snoc, ih (fun i hi => h i (by omega)), h1]
    revert h2
    cases P n <;> cases Q n <;> simp <;> omega
theorem CaIs.pa {h k : Hp} {x : Nat} {S : Cs} (I : CaIs h x S) (C : Cd h x) (A : Fr (PA x h) h k) (hx : x + 38 < hT h) : CaIs k x S := by
  obtain ⟨a1, a2, a3, a4⟩ := I
  have q5 := PA_q C A (show x + 5 < hT h by omega) (by rw [C.k_cache]; decide) (by rw [C.k_cache]; decide) (by rw [C.k_cache]; decide)
  have q6 := PA_q C A (show x + 6 < hT h by omega) (by rw [C.k_lines]; decide) (by rw [C.k_lines]; decide) (by rw [C.k_lines]; decide)
  have q7 := PA_q C A (show x + 7 < hT h by omega) (by rw [C.k_cticks]; decide) (by rw [C.k_cticks]; decide) (by rw [C.k_cticks]; decide)
  exact ⟨fun p hp => by rw [(q6.2.2.2 p).1]; exact a1 p hp, fun g hg => by rw [(q7.2.2.2 g).1]; exact a2 g hg, by rw [(q5.2.2.1 _).1]; exact a3, by rw [(q5.2.2.1 _).1]; exact a4⟩
/-! all lines -/
abbrev snL (D : Nat → Bool) (Lq : Nat → Nat) (i j : Nat) : Bool := exB (fun l => D l && decide (Lq l = Lq j)) i
theorem c_Memory_ask {h : Hp} {x lo w rg pl ro pr ti ln wd bl s b0 o b d : Nat} {D : Nat → Bool} {K : Nat → Nat} {Yf Wf : Nat → Int32} {F : Nat} (hF : 40000 ≤ F) (E : AE h x lo w rg pl ro pr ti ln wd bl s b0 o b d D K Yf Wf) {tg : Nat → Nat} {Z : RowT} {sp : List Nat} (R : Rws h x lo tg Z) (S : Spr h x lo tg sp) {ga : Nat} {c dm : Int32} {S0 : Cs} (I : CaIs h x S0) (g0 : 0 < ga) (g8 : ga ≤ 8) (hdm : ∀ i, i < 32 → bt dm i = (D i && decide (i < ln))) : ∃ (k : Hp) (l : RowT) (sp2 : List Nat) (tg2 : Nat → Nat), f_Memory_ask F (x + 3) (some w) dm c (nI ga) h = some (ltF ga c D (fun i => K i / 8) S0 ln - c + (if nI o < 54 then 0 else nI (cn (agB D K) ln)), k) ∧ Fr (PM x h) h k ∧ CaIs k x (fS ga c D (fun i => K i / 8) S0 ln) ∧ Rws k x lo tg2 (fun r => Z r ++ l r) ∧ Spr k x lo tg2 sp2 ∧ (∀ r p, r < 64 → ((l r).map Prod.snd).filter (fun q => decide (q.p = p)) = (lnR D (fun i => rqK s b0 o d K Yf Wf (dnL ga c D (fun i => K i / 8) S0 (K i / 8) ln) i) ln).filter (fun q => decide (q.p = p) && decide ((q.t &&& 63) = nI r))) ∧ hI k 259 (x + 8) = hI h 259 (x + 8) + nI (cn D ln) ∧ Ldg h sp (cn D ln) k sp2 := by
  have l32 : ln ≤ 32 := E.W.1.2.2
  generalize hLq : (fun i => K i / 8) = Lq
  have lq : ∀ i, Lq i = K i / 8 := fun i => by rw [← hLq]
  have key : ∀ i, i ≤ ln → ∃ (k : Hp) (l : RowT) (sp2 : List Nat) (tg2 : Nat → Nat) (left : Int32), f_Memory_ask F (x + 3) (some w) dm c (nI ga) h = b_Memory_ask_14 F (F - i) (x + 3) (some w) c (nI ga) (ltF ga c D Lq S0 i) (nI (cn (fun j => agB D K j && snL D Lq i j) ln)) left (nI i) k ∧ (∀ j, j < 32 → bt left j = (D j && decide (j < ln) && !(snL D Lq i j))) ∧ Fr (PM x h) h k ∧ CaIs k x (fS ga c D Lq S0 i) ∧ Rws k x lo tg2 (fun r => Z r ++ l r) ∧ Spr k x lo tg2 sp2 ∧ (∀ r p, r < 64 → ((l r).map Prod.snd).filter (fun q => decide (q.p = p)) = (lnR (fun j => D j && snL D Lq i j) (fun j => rqK s b0 o d K Yf Wf (dnL ga c D Lq S0 (K j / 8) i) j) ln).filter (fun q => decide (q.p = p) && decide ((q.t &&& 63) = nI r))) ∧ hI k 259 (x + 8) = hI h 259 (x + 8) + nI (cn (fun j => D j && snL D Lq i j) ln) ∧ Ldg h sp (cn (fun j => D j && snL D Lq i j) ln) k sp2 := by
    intro i
    induction i with
    | zero =>
      intro _
      have z1 : ∀ P : Nat → Bool, cn (fun j => P j && snL D Lq 0 j) ln = 0 := fun P => cn_0 ln (fun j _ => by rw [show snL D Lq 0 j = false from rfl, Bool.and_false])
      refine ⟨h, fun _ => [], sp, tg, dm, by rw [z1, nI_0]; rfl, fun j hj => by rw [hdm j hj, show snL D Lq 0 j = false from rfl]; simp, Fr.refl h, I, by simpa using R, S, fun r p _ => ?_, ?_, ?_⟩
      · rw [lnR_nil ln (fun j _ => by rw [show snL D Lq 0 j = false from rfl, Bool.and_false])]
        rfl
      · rw [z1, nI_0]
        exact (Int32.add_zero _).symm
      · rw [z1]
        exact Ldg.refl h sp
    | succ i ih =>
      intro hi
      obtain ⟨k, l, sp2, tg2, left, t1, t2, t3, t4, t5, t6, t7, t8, t9⟩ := ih (by omega)
      have Ek := E.fr t3
      obtain ⟨f, hf⟩ : ∃ f, F - i = f + 1 := ⟨F - i - 1, by omega⟩
      have hf2 : F - (i + 1) = f := by omega
      have cI : ¬ nI ln ≤ nI i := nI_ge (by omega) (by omega)
      have wk := Ek.W.1.1
      have wl := Ek.W.1.2.1
      have bi : bt left i = fL D Lq i := by
        rw [t2 i (by omega), decide_eq_true (show i < ln by omega), Bool.and_true]
        rfl
      have sns : ∀ j, snL D Lq (i + 1) j = (snL D Lq i j || (D i && decide (Lq i = Lq j))) := fun j => rfl
      rw [hf, b_Memory_ask_14] at t1
      dsimp only at t1
      rw [rq_some wk, wl, if_neg cI, c_in left (show i < 32 by omega), cl_some, bI_ite, bi] at t1
      by_cases q : fL D Lq i = true
      · have qd : D i = true := by unfold fL at q; exact (Bool.and_eq_true_iff.mp q).1
        have qn : exB (fun j => D j && decide (Lq j = Lq i)) i = false := by
          unfold fL at q
          have := (Bool.and_eq_true_iff.mp q).2
          simpa using this
        obtain ⟨e1, e2⟩ := Ek.hK2 i (by omega) qd
        obtain ⟨r3, k3, n3, m3⟩ := Ek.W.2.2.2.1
        have lo2 := c_Memory_lanesOf (F := F) Ek.W hF left K (fun j hj z => Ek.hK2 j hj (by rw [t2 j (by omega)] at z; have := (Bool.and_eq_true_iff.mp (Bool.and_eq_true_iff.mp z).1).1; exact this)) (K i / 8) (by omega)
        obtain ⟨k1, f1, f2, f3, f4, f5⟩ := c_Cache_fetch (F := F) (c := c) Ek.C t4 (L := K i / 8) (by omega) g0 g8
        have E1 := Ek.fr (PM.ch f3)
        have snf : ∀ j, Lq j = Lq i → snL D Lq i j = false := fun j ze => by
          show exB (fun l => D l && decide (Lq l = Lq j)) i = false
          rw [ze]
          exact qn
        generalize hdn : fDn ga c (K i / 8) (fS ga c D Lq S0 i) = dn at *
        obtain ⟨r0, l64, ev⟩ := pk_andE dn (m := 63) 6 (by decide)
        have tmb : ∀ j, j < 32 → bt (mkM (fun j => bt left j && decide (K j / 8 = K i / 8)) ln) j = (D j && decide (j < ln) && decide (Lq j = Lq i)) := fun j hj => by
          rw [bt_mkM _ ln l32 j hj, t2 j hj, lq, lq]
          by_cases zl : j < ln
          · rw [decide_eq_true zl, Bool.true_and, Bool.and_true]
            by_cases ze : K j / 8 = K i / 8
            · rw [decide_eq_true ze, Bool.and_true, Bool.and_true]
              rw [snf j (by rw [lq, lq]; exact ze)]
              simp
            · rw [decide_eq_false ze, Bool.and_false, Bool.and_false]
          · rw [decide_eq_false zl]
            simp
        have R1 := t5.ch Ek.C f3 Ek.hx Ek.lx
        have S1 := t6.ch f3 Ek.hx Ek.lx
        have ct1 : hI k1 259 (x + 8) = hI k 259 (x + 8) := ((f3.2 (x + 8) (by have := Ek.hx; omega)).2.2.1 _ (PCh_no (by omega) (by omega))).1
        obtain ⟨k2, l2, sp3, tg3, sn, u1, u2, u3, u4, u5, u6, u7, u8⟩ := c_askTogether hF E1 R1 S1 (r0 := r0) (v := dn) (tm := mkM (fun j => bt left j && decide (K j / 8 = K i / 8)) ln) (fun j hj z => by
          rw [tmb j (by omega)] at z
          exact (Bool.and_eq_true_iff.mp (Bool.and_eq_true_iff.mp z).1).1) ev l64
        generalize htm : mkM (fun j => bt left j && decide (K j / 8 = K i / 8)) ln = tm at *
        have tml : ∀ j, j < ln → bt tm j = (D j && decide (Lq j = Lq i)) := fun j hj => by rw [tmb j (by omega), decide_eq_true hj, Bool.and_true]
        have c32 : cn (bt tm) 32 = cn (bt tm) ln := cn_ext l32 (fun j z1 z2 => by rw [tmb j z2, decide_eq_false (by omega)]; simp)
        have dst : cn (bt sn) 32 = cn (fun j => bt tm j && !(exB (fun l => bt tm l && decide (K l % 8 = K j % 8)) j)) ln := by
          rw [← cn_dst (bt tm) (fun j => K j % 8) 32 ln (fun j _ _ => by omega)]
          exact cn_congr 32 (fun b hb => u2 b hb)
        have exK : ∀ j, j < ln → bt tm j = true → exB (fun l => bt tm l && decide (K l % 8 = K j % 8)) j = exB (fun l => D l && decide (K l = K j)) j := fun j hj zj => by
          refine exB_congr j fun l hl => ?_
          rw [tml l (by omega)]
          rw [tml j hj] at zj
          have ej : Lq j = Lq i := of_decide_eq_true (Bool.and_eq_true_iff.mp zj).2
          rw [lq, lq] at ej
          rw [lq, lq]
          by_cases dl : D l = true
          · rw [dl, Bool.true_and, Bool.true_and]
            by_cases z : K l = K j
            · rw [decide_eq_true z, decide_eq_true (show K l / 8 = K i / 8 by rw [z]; exact ej), decide_eq_true (by rw [z])]
              rfl
            · rw [decide_eq_false z]
              by_cases z2 : K l / 8 = K i / 8
              · rw [decide_eq_false (show ¬ K l % 8 = K j % 8 by omega), Bool.and_false]
              · rw [decide_eq_false z2, Bool.false_and]
          · have dl0 : D l = false := by simpa using dl
            rw [dl0]
            simp
        have rep : nI (cn (fun j => agB D K j && snL D Lq i j) ln) + (nI (cn (bt tm) 32) - nI (cn (bt sn) 32)) = nI (cn (fun j => agB D K j && snL D Lq (i + 1) j) ln) := by
          have e1 : cn (bt tm) ln = cn (fun j => bt tm j && exB (fun l => D l && decide (K l = K j)) j) ln + cn (fun j => bt tm j && !(exB (fun l => D l && decide (K l = K j)) j)) ln := cn_split _ _ ln
          have e2 : cn (bt sn) 32 = cn (fun j => bt tm j && !(exB (fun l => D l && decide (K l = K j)) j)) ln := by
            rw [dst]
            refine cn_congr ln fun j hj => ?_
            by_cases z : bt tm j = true
            · rw [exK j hj z]
            · have z0 : bt tm j = false := by simpa using z
              rw [z0, Bool.false_and, Bool.false_and]
          have e3 : cn (fun j => agB D K j && snL D Lq (i + 1) j) ln = cn (fun j => agB D K j && snL D Lq i j) ln + cn (fun j => bt tm j && exB (fun l => D l && decide (K l = K j)) j) ln := by
            refine cn_or ln fun j hj => ?_
            rw [tml j hj, sns, qd, Bool.true_and]
            unfold agB
            by_cases ze : Lq j = Lq i
            · rw [snf j ze, decide_eq_true ze, decide_eq_true ze.symm]
              cases D j <;> simp
            · rw [decide_eq_false ze, decide_eq_false (fun y => ze y.symm)]
              simp
          rw [c32, pk_sub (by omega), nI_add]
          congr 1
          omega
        have lat : (if ltF ga c D Lq S0 i < dn then dn else ltF ga c D Lq S0 i) = ltF ga c D Lq S0 (i + 1) := by
          show _ = if fL D Lq i = true then (if fDn ga c (Lq i) (fS ga c D Lq S0 i) ≤ ltF ga c D Lq S0 i then ltF ga c D Lq S0 i else fDn ga c (Lq i) (fS ga c D Lq S0 i)) else ltF ga c D Lq S0 i
          rw [if_pos q, lq, hdn]
          by_cases z : dn ≤ ltF ga c D Lq S0 i
          · rw [if_pos z, if_neg (Int32.not_lt.mpr z)]
          · rw [if_neg z, if_pos (Int32.not_le.mp z)]
        have nfs : fNx ga c (K i / 8) (fS ga c D Lq S0 i) = fS ga c D Lq S0 (i + 1) := by
          show _ = if fL D Lq i = true then fNx ga c (Lq i) (fS ga c D Lq S0 i) else fS ga c D Lq S0 i
          rw [if_pos q, lq]
        have ca2 : CaIs k2 x (fS ga c D Lq S0 (i + 1)) := by
          rw [← nfs]
          exact f2.pa E1.C u3 E1.hx
        have cD : cn (fun j => D j && snL D Lq (i + 1) j) ln = cn (fun j => D j && snL D Lq i j) ln + cn (bt tm) ln := by
          refine cn_or ln fun j hj => ?_
          rw [tml j hj, sns, qd, Bool.true_and]
          by_cases ze : Lq j = Lq i
          · rw [snf j ze, decide_eq_true ze, decide_eq_true ze.symm]
            cases D j <;> simp
          · rw [decide_eq_false ze, decide_eq_false (fun y => ze y.symm)]
            simp
        rw [if_pos q, gd_t wk, rq_k r3 k3, ixn (by omega) (by omega), e1, sh3 e2, lo2, cl_some, gd_t Ek.C.k_memory, rq_k Ek.C.r_cache Ek.C.k_cache, f1, cl_some, gd_t E1.C.k_memory, u1, cl_some, nI_1, lat, rep] at t1
        refine ⟨k2, fun r => if r = r0 then l r ++ l2 else l r, sp3, tg3, left &&& (tm ^^^ -1), by rw [hf2]; exact t1, fun j hj => ?_, PM.tr (PM.tr t3 (PM.ch f3)) (PM.of u3), ca2, ?_, u6, fun r p hr => ?_, ?_, ?_⟩
        · rw [b_and, bt_not _ hj, t2 j hj, tmb j hj, sns, qd, Bool.true_and]
          by_cases ze : Lq j = Lq i
          · rw [snf j ze, decide_eq_true ze, decide_eq_true ze.symm]
            cases D j <;> cases (decide (j < ln)) <;> rfl
          · rw [decide_eq_false ze, decide_eq_false (show ¬ Lq i = Lq j from fun y => ze y.symm)]
            cases D j <;> cases (decide (j < ln)) <;> cases (snL D Lq i j) <;> rfl
        · have : apR (fun r => Z r ++ l r) r0 l2 = (fun r => Z r ++ (if r = r0 then l r ++ l2 else l r)) := by
            funext r
            unfold apR
            by_cases z : r = r0
            · rw [if_pos z, if_pos z, List.append_assoc]
            · rw [if_neg z, if_neg z]
          rw [← this]
          exact u4
        · have G0 : (lnR (fun j => D j && snL D Lq (i + 1) j) (fun j => rqK s b0 o d K Yf Wf (dnL ga c D Lq S0 (K j / 8) (i + 1)) j) ln).filter (fun q => decide (q.p = p) && decide ((q.t &&& 63) = nI r)) = lnR (fun j => (D j && snL D Lq (i + 1) j) && (decide (K j = p) && decide ((dnL ga c D Lq S0 (K j / 8) (i + 1) &&& 63) = nI r))) (fun j => rqK s b0 o d K Yf Wf (dnL ga c D Lq S0 (K j / 8) (i + 1)) j) ln := lnR_filter _ _ _ ln
          have A0 : (lnR (fun j => D j && snL D Lq i j) (fun j => rqK s b0 o d K Yf Wf (dnL ga c D Lq S0 (K j / 8) i) j) ln).filter (fun q => decide (q.p = p) && decide ((q.t &&& 63) = nI r)) = lnR (fun j => (D j && snL D Lq i j) && (decide (K j = p) && decide ((dnL ga c D Lq S0 (K j / 8) i &&& 63) = nI r))) (fun j => rqK s b0 o d K Yf Wf (dnL ga c D Lq S0 (K j / 8) i) j) ln := lnR_filter _ _ _ ln
          have B0 : (lnR (bt tm) (rqK s b0 o d K Yf Wf dn) ln).filter (fun q => decide (q.p = p)) = lnR (fun j => bt tm j && decide (K j = p)) (rqK s b0 o d K Yf Wf dn) ln := lnR_filter _ _ _ ln
          have t7 := t7 r p hr
          rw [A0] at t7
          rw [G0]
          show List.filter (fun q => decide (q.p = p)) (List.map Prod.snd (if r = r0 then l r ++ l2 else l r)) = _
          have dn1 : ∀ j, Lq j = Lq i → dnL ga c D Lq S0 (K j / 8) (i + 1) = dn := fun j ze => by
            show (if fL D Lq i = true ∧ Lq i = K j / 8 then fDn ga c (K j / 8) (fS ga c D Lq S0 i) else dnL ga c D Lq S0 (K j / 8) i) = dn
            rw [lq, lq] at ze
            rw [if_pos ⟨q, by rw [lq]; exact ze.symm⟩, ze, hdn]
          have dn2 : ∀ j, ¬ Lq j = Lq i → dnL ga c D Lq S0 (K j / 8) (i + 1) = dnL ga c D Lq S0 (K j / 8) i := fun j ze => by
            show (if fL D Lq i = true ∧ Lq i = K j / 8 then fDn ga c (K j / 8) (fS ga c D Lq S0 i) else dnL ga c D Lq S0 (K j / 8) i) = _
            rw [if_neg (fun y => ze (by rw [lq j]; exact y.2.symm))]
          by_cases pl2 : p / 8 = K i / 8
          · have li : ∀ j, K j = p → Lq j = Lq i := fun j z => by rw [lq, lq, z]; exact pl2
            have A1 : ((l r).map Prod.snd).filter (fun q => decide (q.p = p)) = [] := by
              rw [t7]
              refine lnR_nil ln fun j hj => ?_
              by_cases z : K j = p
              · rw [snf j (li j z)]; simp
              · rw [decide_eq_false z]; simp
            by_cases er : r = r0
            · rw [if_pos er, List.map_append, List.filter_append, A1, List.nil_append, u5, B0]
              refine lnR_congr ln (fun j hj => ?_) (fun j hj z => ?_)
              · rw [tml j hj, sns, qd, Bool.true_and]
                by_cases z : K j = p
                · rw [decide_eq_true z, decide_eq_true (li j z), decide_eq_true (li j z).symm, dn1 j (li j z), ev, er, decide_eq_true rfl]
                  simp
                · rw [decide_eq_false z]; simp
              · have zK : K j = p := of_decide_eq_true (Bool.and_eq_true_iff.mp z).2
                rw [dn1 j (li j zK)]
            · rw [if_neg er, A1]
              refine (lnR_nil ln fun j hj => ?_).symm
              by_cases z : K j = p
              · rw [dn1 j (li j z), ev, decide_eq_false (fun y => er ((nI_eq (by omega) (by omega)).mp y).symm)]
                simp
              · rw [decide_eq_false z]; simp
          · have li : ∀ j, K j = p → ¬ Lq j = Lq i := fun j z y => by rw [lq, lq, z] at y; exact pl2 y
            have B1 : (l2.map Prod.snd).filter (fun q => decide (q.p = p)) = [] := by
              rw [u5, B0]
              refine lnR_nil ln fun j hj => ?_
              rw [tml j hj]
              by_cases z : K j = p
              · rw [decide_eq_false (li j z)]; simp
              · rw [decide_eq_false z]; simp
            have A1 : ((if r = r0 then l r ++ l2 else l r).map Prod.snd).filter (fun q => decide (q.p = p)) = ((l r).map Prod.snd).filter (fun q => decide (q.p = p)) := by
              by_cases er : r = r0
              · rw [if_pos er, List.map_append, List.filter_append, B1, List.append_nil]
              · rw [if_neg er]
            rw [A1, t7]
            refine lnR_congr ln (fun j hj => ?_) (fun j hj z => ?_)
            · by_cases z : K j = p
              · rw [dn2 j (li j z), sns, decide_eq_false (show ¬ Lq i = Lq j from fun y => li j z y.symm)]
                simp
              · rw [decide_eq_false z]; simp
            · have zK : K j = p := of_decide_eq_true (Bool.and_eq_true_iff.mp (Bool.and_eq_true_iff.mp z).2).1
              rw [dn2 j (li j zK)]
        · rw [u7, ct1, t8, cD, Int32.add_assoc, nI_add]
        · rw [cD]
          refine Ldg.tr (k := k1) (s2 := sp2) ?_ u8
          obtain ⟨cc, v1, v2, v3, v4⟩ := t9
          exact ⟨cc, by omega, by omega, v3, v4⟩
      · have q0 : fL D Lq i = false := by simpa using q
        have same : ∀ j, snL D Lq (i + 1) j = snL D Lq i j := fun j => by
          rw [sns]
          by_cases dd : D i = true
          · have ex1 : exB (fun l => D l && decide (Lq l = Lq i)) i = true := by
              unfold fL at q0
              rw [dd, Bool.true_and] at q0
              simpa using q0
            by_cases ze : Lq i = Lq j
            · have : snL D Lq i j = true := by
                show exB (fun l => D l && decide (Lq l = Lq j)) i = true
                rw [← ze]
                exact ex1
              rw [this]; rfl
            · rw [decide_eq_false ze, Bool.and_false, Bool.or_false]
          · have d0 : D i = false := by simpa using dd
            rw [d0, Bool.false_and, Bool.or_false]
        have lat : ltF ga c D Lq S0 (i + 1) = ltF ga c D Lq S0 i := by
          show (if fL D Lq i = true then _ else _) = _
          rw [if_neg q]
        have nfs : fS ga c D Lq S0 (i + 1) = fS ga c D Lq S0 i := by
          show (if fL D Lq i = true then _ else _) = _
          rw [if_neg q]
        rw [if_neg q, nI_1] at t1
        refine ⟨k, l, sp2, tg2, left, ?_, fun j hj => by rw [same]; exact t2 j hj, t3, by rw [nfs]; exact t4, t5, t6, fun r p hr => ?_, ?_, ?_⟩
        · rw [hf2, lat]
          simp only [same]
          exact t1
        · rw [t7 r p hr]
          congr 1
          exact lnR_congr ln (fun j _ => by rw [same]) (fun j _ _ => by rw [dnL_o q0])
        · simp only [same]; exact t8
        · simp only [same]; exact t9
  obtain ⟨k, l, sp2, tg2, left, t1, t2, t3, t4, t5, t6, t7, t8, t9⟩ := key ln (Nat.le_refl _)
  have Ek := E.fr t3
  obtain ⟨f, hf⟩ : ∃ f, F - ln = f + 1 := ⟨F - ln - 1, by omega⟩
  have cL : nI ln ≤ nI ln := nI_le (Nat.le_refl _) (by omega)
  have allS : ∀ j, j < ln → D j = true → snL D Lq ln j = true := fun j hj dj => (exB_iff _ _).mpr ⟨j, hj, by rw [dj, decide_eq_true rfl]; rfl⟩
  have cA : cn (fun j => agB D K j && snL D Lq ln j) ln = cn (agB D K) ln := cn_congr ln fun j hj => by
    by_cases dj : D j = true
    · rw [allS j hj dj, Bool.and_true]
    · have d0 : D j = false := by simpa using dj
      unfold agB
      rw [d0]; rfl
  have cDD : cn (fun j => D j && snL D Lq ln j) ln = cn D ln := cn_congr ln fun j hj => by
    by_cases dj : D j = true
    · rw [allS j hj dj, Bool.and_true]
    · have d0 : D j = false := by simpa using dj
      rw [d0]; rfl
  rw [hf, b_Memory_ask_14] at t1
  dsimp only at t1
  rw [rq_some Ek.W.1.1, Ek.W.1.2.1, if_pos cL, rq_k Ek.hw Ek.kd, Ek.ho, cA] at t1
  refine ⟨k, l, sp2, tg2, ?_, t3, t4, t5, t6, fun r p hr => ?_, by rw [← cDD]; exact t8, by rw [← cDD]; exact t9⟩
  · rw [t1]
    by_cases z : nI o < 54
    · rw [if_pos z, if_pos z]
    · rw [if_neg z, if_neg z]
  · rw [t7 r p hr]
    congr 1
    refine lnR_congr ln (fun j hj => ?_) (fun j _ _ => rfl)
    by_cases dj : D j = true
    · rw [allS j hj dj, Bool.and_true]
    · have d0 : D j = false := by simpa using dj
      rw [d0]; rfl
