/-! the dispatcher: what stays -/
theorem SlotOk.grow {P : Nat → Nat → Prop} {o : Nat → Nat} {hc hr kc : Hp} {x m lo ln t : Nat} (S : SlotOk o hc hr x m lo ln t) (K : Kn hc hr x m) (l32 : ln ≤ 32) (ht : t < 128) (hx : x + 38 < hT hc) (A : Fr P hc kc) (n1 : ¬ P 9999 (x + 16 + 3 * (t / 16))) (n3 : ¬ P 9999 (x + 2)) (n4 : ∀ a f, lo ≤ a → a < hT hc → 6 * t ≤ o a → o a ≤ 6 * t + 5 → (hK hc a = 9 ∨ hK hc a = 100) → ¬ P f a) (n5 : ∀ y f, y < hT hc → hK hc y = 10 → 576 ≤ f → f ≤ 590 → ¬ P f y) (g : ∀ c y, hQ hc (x + 13) c = some y → hQ kc (x + 13) c = some y) : SlotOk o kc hr x m lo ln t := by
  have hT1 := A.1
  obtain ⟨k, ek⟩ : ∃ k : Hp, k = (hT kc, hU kc, hK kc, hN kc, hI kc, hR kc, hA kc, (fun a j => if a = x + 13 then hQ hc a j else hQ kc a j), hL kc) := ⟨_, rfl⟩
  have e1 : hT k = hT kc := by rw [ek]; rfl
  have e3 : hK k = hK kc := by rw [ek]; rfl
  have e4 : hN k = hN kc := by rw [ek]; rfl
  have e5 : hI k = hI kc := by rw [ek]; rfl
  have e6 : hR k = hR kc := by rw [ek]; rfl
  have e7 : hA k = hA kc := by rw [ek]; rfl
  have e8 : ∀ a j, hQ k a j = if a = x + 13 then hQ hc a j else hQ kc a j := fun a j => by rw [ek]; rfl
  have cs : CsS o x lo t hc k := by
    refine ⟨⟨by rw [e1]; exact hT1, ?_, fun b => by rw [e8, if_pos rfl], fun p => ?_⟩, fun a h1 h2 h3 h4 h5 => ?_, fun y h1 h2 => ?_⟩
    · rw [e8, if_neg (by omega)]
      exact ((A.2 _ (by omega)).2.2.2 n1 _).2.1
    · rw [e8, if_neg (by omega)]
      exact ((A.2 _ (by omega)).2.2.2 n3 _).2.1
    · obtain ⟨v1, v2, v3, v4⟩ := A.2 a h2
      rw [e3, e4, e5, e6, e7]
      exact ⟨v1, v2, fun f _ _ => v3 f (n4 a f h1 h2 h3 h4 h5), fun j => (v4 (n4 a _ h1 h2 h3 h4 h5) j).1⟩
    · obtain ⟨v1, v2, v3, v4⟩ := A.2 y h1
      rw [e3, e5]
      exact ⟨by rw [v1]; exact h2, fun f h3 h4 => (v3 f (n5 y f h1 h2 h3 h4)).1⟩
  have S2 := S.fr K l32 cs (rs_refl m t hr)
  rcases S2 with ⟨z1, z2⟩ | ⟨w, rg, pl, ro, pr, ti, L, z1, W, e, z3⟩
  · rw [e8, if_neg (by omega)] at z1
    exact Or.inl ⟨z1, z2⟩
  · rw [e8, if_neg (by omega)] at z1
    have W2 : Ws o lo kc t w rg pl ro pr ti L := by
      unfold Ws at W ⊢
      rw [e1, e3, e4, e6] at W
      exact W
    refine Or.inr ⟨w, rg, pl, ro, pr, ti, L, z1, W2, e, ?_⟩
    rcases z3 with ⟨z3, z4⟩ | ⟨b, bl, B, G⟩
    · rw [e6] at z3; exact Or.inl ⟨z3, z4⟩
    · refine Or.inr ⟨b, bl, ?_, ?_⟩
      · have bq := B.bq
        rw [e8, if_pos rfl] at bq
        unfold Wb at B ⊢
        rw [e5, e6, e7] at B
        exact ⟨B.1, g b bl bq, B.2.2⟩
      · have ew : ∀ p, gaW k (x + 2) p = gaW kc (x + 2) p := fun p => by
          unfold gaW
          rw [e8, if_neg (show ¬ x + 2 = x + 13 by omega)]
        have et : ∀ q, gaT k w ti q = gaT kc w ti q := fun q => by
          cases q with
          | none => rfl
          | some y => show tkm _ _ _ _ = tkm _ _ _ _; rw [e5, e7]
        unfold Gt at G ⊢
        rw [ew, et, e5, e6] at G
        exact G
theorem Rws.grow {h k : Hp} {x lo : Nat} {tg : Nat → Nat} {Z : RowT} (R : Rws h x lo tg Z) (A : Fr (PD x lo h) h k) (hx : x + 38 < hT h) (lx : x + 38 < lo) (C : Cd h x) (g1 : ∀ u j w, u < 8 → hQ h (x + 16 + 3 * u) j = some w → hQ k (x + 16 + 3 * u) j = some w) (g2 : ∀ c y, hQ h (x + 13) c = some y → hQ k (x + 13) c = some y) : Rws k x lo tg Z := by
  have hT1 := A.1
  have k6 := C.k_tally
  have k22 := C.k_blocks
  have n11 : ∀ a f, a < hT h → hK h a = 11 → 640 ≤ f → f ≤ 648 → ¬ PD x lo h f a := fun a f h1 h2 h3 h4 y => by unfold PD at y; omega
  have n10 : ∀ a f, a < hT h → hK h a = 10 → 576 ≤ f → f ≤ 577 → ¬ PD x lo h f a := fun a f h1 h2 h3 h4 y => by unfold PD at y; omega
  have q9 : ∀ r, hQ k (x + 9) r = hQ h (x + 9) r := fun r => ((A.2 (x + 9) (by omega)).2.2.2 (fun y => by unfold PD at y; omega) r).2.1
  have q10 : ∀ r, hQ k (x + 10) r = hQ h (x + 10) r := fun r => ((A.2 (x + 10) (by omega)).2.2.2 (fun y => by unfold PD at y; omega) r).2.1
  refine ⟨fun r hr => ?_, fun r hr => by rw [q10]; exact R.lst r hr, fun r hr q hq => ?_, R.ndr, fun r hr q hq => ?_⟩
  · rw [q9]
    refine (R.fst r hr).same (fun a ha => ?_)
    obtain ⟨rq, hq⟩ := mem_fst ha
    have ql := (R.tgr r hr _ hq).2.2
    have qk := R.k hr hq
    exact ⟨(A.2 a ql).1, ((A.2 a ql).2.2.1 640 (n11 a 640 ql qk (by omega) (by omega))).2⟩
  · obtain ⟨⟨c1, ⟨w, c2, c3⟩, ⟨bl, c4, c5⟩, ⟨wd, c6, c7, c8, c9, c10⟩, c11, c12, c13, c14⟩, r2, r3⟩ := R.rqs r hr q hq
    have ql := (R.tgr r hr q hq).2.2
    have qk := R.k hr hq
    have eI : ∀ f, 640 ≤ f → f ≤ 648 → hI k f q.1 = hI h f q.1 ∧ hR k f q.1 = hR h f q.1 := fun f h1 h2 => (A.2 q.1 ql).2.2.1 f (n11 q.1 f ql qk h1 h2)
    refine ⟨⟨by rw [(eI _ (by omega) (by omega)).1]; exact c1, ⟨w, by rw [(eI _ (by omega) (by omega)).2]; exact c2, g1 _ _ _ (by omega) c3⟩, ⟨bl, by rw [(eI _ (by omega) (by omega)).2]; exact c4, g2 _ _ c5⟩, ⟨wd, by rw [(eI _ (by omega) (by omega)).2]; exact c6, by omega, by rw [(A.2 wd c7).1]; exact c8, by rw [((A.2 wd c7).2.2.1 576 (n10 wd 576 c7 c8 (by omega) (by omega))).1]; exact c9, by rw [((A.2 wd c7).2.2.1 577 (n10 wd 577 c7 c8 (by omega) (by omega))).1]; exact c10⟩, by rw [(eI _ (by omega) (by omega)).1]; exact c11, by rw [(eI _ (by omega) (by omega)).1]; exact c12, by rw [(eI _ (by omega) (by omega)).1]; exact c13, by rw [(eI _ (by omega) (by omega)).1]; exact c14⟩, r2, r3⟩
  · obtain ⟨h1, h2, h3⟩ := R.tgr r hr q hq
    exact ⟨h1, h2, by omega⟩
theorem Sm.disp {o o2 : Nat → Nat} {hc H kc kr : Hp} {x m lo ln sl nu bk ga sz c pc G U0 nC Ta : Nat} (S : Sm o hc H x m lo ln sl nu bk ga sz c pc G U0 nC Ta) (X2 : Sx o2 kc kr x m lo ln sl) (A : Fr (PD x lo hc) hc kc) (g1 : ∀ u j w, u < 8 → hQ hc (x + 16 + 3 * u) j = some w → hQ kc (x + 16 + 3 * u) j = some w) (g2 : ∀ c y, hQ hc (x + 13) c = some y → hQ kc (x + 13) c = some y) (R : Rf m (fun f => f = 718) (fun a => (m + 9) ≤ a ∧ a ≤ (m + 18)) H kr) (far : ∀ t, t < 128 → ¬ hA H (m + 9) t = -1 → Rs m t H kr) (l1 : hT kc + PT hc x ≤ hT hc + PT kc x) (l2 : hU kc ≤ hU hc + 512 * (hT kc - hT hc)) : Sm o2 kc kr x m lo ln sl nu bk ga sz c pc G U0 nC Ta := by
  have X := S.X
  have hx := X.hx
  have lx := X.lx
  have C := X.C
  have ml := S.ml
  have lh := S.lh
  have hT1 := A.1
  have T := S.T
  have Z := S.Z
  have rI : ∀ f, ¬ f = 718 → hI kr f m = hI H f m := fun f h => R.i h
  have rA : ∀ a j, ¬ ((m + 9) ≤ a ∧ a ≤ (m + 18)) → hA kr a j = hA H a j := fun a j h => R.a h j
  have cT : ∀ f, ¬ f = 323 → hI kc f (x + 11) = hI hc f (x + 11) := fun f nf => ((A.2 (x + 11) (by omega)).2.2.1 f (fun y => by unfold PD at y; omega)).1
  have cU : ∀ f u, u < 8 → ¬ f = 387 → ¬ f = 9999 → hI kc f (x + 15 + 3 * u) = hI hc f (x + 15 + 3 * u) := fun f u hu nf n9 => ((A.2 (x + 15 + 3 * u) (by omega)).2.2.1 f (fun y => by unfold PD at y; omega)).1
  have cO : ∀ f a, a ≤ x + 10 → x ≤ a → hI kc f a = hI hc f a := fun f a h1 h2 => ((A.2 a (by omega)).2.2.1 f (fun y => by unfold PD at y; omega)).1
  have ec : cs0 kr m = cs0 H m := by
    unfold cs0
    rw [rI _ (by omega), rI _ (by omega), show hA kr (m + 3) = hA H (m + 3) from funext fun j => rA _ _ (by omega), show hA kr (m + 4) = hA H (m + 4) from funext fun j => rA _ _ (by omega)]
  refine ⟨R.md S.M, S.xm, S.ml, by omega, fun a h1 h2 => by rw [(A.2 a (by omega)).1]; exact S.nK a h1 h2, X2, ⟨by rw [rI _ (by omega)]; exact Z.ln, by rw [rI _ (by omega)]; exact Z.sl, by rw [rI _ (by omega)]; exact Z.nu, by rw [rI _ (by omega)]; exact Z.bk, by rw [rI _ (by omega)]; exact Z.ga, by rw [rI _ (by omega)]; exact Z.sz, Z.lp, Z.s1, Z.u1, Z.bp, Z.g1, Z.i1⟩, ⟨fun j hj => ?_, ?_, ?_, ?_, fun j hj => ?_, fun j hj => ?_, fun t ht => ?_⟩, fun p hp => ?_, ?_, fun p h1 h2 => ?_, ?_, by rw [ec]; exact S.gb, fun u hu => by rw [rA _ _ (by omega)]; exact S.lt u hu, by rw [rI _ (by omega)]; exact S.cy, ?_, ?_⟩
  · rw [cO _ _ (by omega) (by omega), rI _ (by omega)]; exact T.sz j hj
  · rw [cT _ (by omega), rI _ (by omega)]; exact T.en
  · rw [cT _ (by omega), rI _ (by omega)]; exact T.cy
  · rw [cT _ (by omega), rI _ (by omega)]; exact T.al
  · rw [cT _ (by omega), rI _ (by omega)]; exact T.wd j hj
  · rw [cT _ (by omega), rI _ (by omega)]; exact T.tr j hj
  · rw [cU _ _ ht (by omega) (by omega), cU _ _ ht (by omega) (by omega), cU _ _ ht (by omega) (by omega), cU _ _ ht (by omega) (by omega), rA _ _ (by omega), rA _ _ (by omega), rA _ _ (by omega), rA _ _ (by omega)]
    exact T.un t ht
  · rw [((A.2 (x + 4) (by omega)).2.2.2 (fun y => by unfold PD at y; omega) p).1, rA _ _ (by omega)]; exact S.mm p hp
  · rw [cO _ _ (by omega) (by omega)]; exact S.ms
  · rw [rA _ _ (by omega)]; exact S.mz p h1 h2
  · rw [ec]
    exact S.ca.fr A hx (fun y => by unfold PD at y; omega) (fun y => by unfold PD at y; omega) (fun y => by unfold PD at y; omega) (fun y => by unfold PD at y; omega)
  · refine S.P.step (fun tg Z2 RZ => RZ.grow A hx lx C g1 g2) (fun tg sp SZ => SZ.fr A hx (fun y => by unfold PD at y; omega) (fun a f h1 h2 h3 h4 y => ?_)) (fun L2 PL => PL.same (rI _ (by omega)) (rI _ (by omega)) (fun a j h1 h2 => rA _ _ (by omega))) (cO _ _ (by omega) (by omega)) (fun r Q => ?_)
    · have k6 := C.k_tally
      unfold PD at y
      omega
    · have rs : r.s < 128 := Q.o2.1.1
      have ri : r.i < 32 := Q.o2.1.2.1
      have rb : r.b < 64 := Q.o2.1.2.2.1
      have f := far r.s rs (by rw [Q.sb]; exact nI_m1 (by omega))
      exact Q.same f.1.1 f.1.2 f.2.1.1 f.2.1.2.1 f.2.1.2.2 (f.2.2.2.1 r.i ri).2.2.1
  · obtain ⟨a1, a2, a3⟩ := S.lg
    exact ⟨by omega, by omega, a3⟩
