/-! the calls set and word -/
theorem Sm.rest {o : Nat → Nat} {hg kg H K : Hp} {x m lo ln sl nn bk ga sz c pc G U0 nC Ta d : Nat} (S : Sm o hg H x m lo ln sl nn bk ga sz c pc G U0 nC Ta) (M2 : Md K m) (A : Fr (fun f a => (f = 9999 ∧ (a = x + 2 ∨ a = x + 4)) ∨ (lo ≤ a ∧ hK hg a = 9 ∧ 518 ≤ f ∧ f ≤ 521) ∨ hT hg ≤ a) hg kg) (t1 : hT kg = hT hg + d) (t2 : hU kg ≤ hU hg + 512 * d) (Kk : Kn kg K x m) (eI : ∀ f, ¬ f = 704 → hI K f m = hI H f m) (eA : ∀ a j, (m + 3) ≤ a → a ≤ (m + 28) → hA K a j = hA H a j) (mm : ∀ p, p < sz → hA kg (x + 4) p = hA K (m + 2) p) (mz : ∀ p, sz ≤ p → p < 4096 → hA K (m + 2) p = 0) (SL : ∀ t, t < 128 → SlotOk o kg K x m lo ln t) : Sm o kg K x m lo ln sl nn bk ga sz c pc G U0 (nC + d) Ta := by
  have X := S.X
  have C := X.C
  have Z := S.Z
  have hx := X.hx
  have lx := X.lx
  have xm := S.xm
  have lh := S.lh
  have T := S.T
  have cI : ∀ f a, x ≤ a → a ≤ x + 38 → ¬ f = 9999 → hI kg f a = hI hg f a := fun f a h1 h2 h3 => ((A.2 a (by omega)).2.2.1 f (fun y => by omega)).1
  have R : ∀ t, Rs m t H K := fun t => ⟨⟨eI _ (by omega), eI _ (by omega)⟩, ⟨eA _ _ (by omega) (by omega), eA _ _ (by omega) (by omega), eA _ _ (by omega) (by omega)⟩, fun r _ => eA _ _ (by omega) (by omega), fun i _ => ⟨eA _ _ (by omega) (by omega), eA _ _ (by omega) (by omega), eA _ _ (by omega) (by omega), eA _ _ (by omega) (by omega)⟩, fun j _ => eA _ _ (by omega) (by omega)⟩
  have sb : ∀ t, hA K (m + 9) t = hA H (m + 9) t := fun t => eA _ _ (by omega) (by omega)
  have X2 : Sx o kg K x m lo ln sl := by
    refine ⟨C.frame A hx (fun f _ z => by omega) (fun f _ _ z => by omega) (fun f _ _ z => by omega) (fun f _ _ z => by omega) (fun z => by omega) (fun u f _ _ _ z => by omega), Kk, by omega, lx, fun u hu => by rw [cI _ _ (by omega) (by omega) (by omega)]; exact X.us u hu, X.s16, by rw [eI _ (by omega)]; exact X.hl, X.l32, SL, fun c2 h64 => ?_, fun t ht z => X.nf t ht (by rw [← sb]; exact z), fun u hu => by rw [cI _ _ (by omega) (by omega) (by omega), X.uf u hu]; exact congrArg nI (cn_congr sl (fun k _ => by rw [sb]))⟩
    refine (X.B c2 h64).fr (by omega) (((A.2 (x + 13) (by omega)).2.2.2 (fun z => by omega) c2).2.1) (fun a h1 h2 _ h4 => ?_) (fun t _ => by rw [sb]) (eI _ (by omega)) (eI _ (by omega)) (cnt_rs (fun t _ => R t)).1 (cnt_rs (fun t _ => R t)).2 (fun k _ => eA _ _ (by omega) (by omega))
    obtain ⟨v1, v2, v3, v4⟩ := A.2 a h2
    exact ⟨v1, v2, fun f _ _ => v3 f (fun z => by omega), fun j => (v4 (fun z => by omega) j).1⟩
  have ec : cs0 K m = cs0 H m := by
    unfold cs0
    rw [eI _ (by omega), eI _ (by omega), show hA K (m + 3) = hA H (m + 3) from funext fun j => eA _ _ (by omega) (by omega), show hA K (m + 4) = hA H (m + 4) from funext fun j => eA _ _ (by omega) (by omega)]
  have P2 : Pn kg K x m lo sz pc Ta := S.P.step (fun tg Z2 RZ => RZ.fr A hx (fun z => by omega) (fun z => by omega) (fun a f h1 h2 _ _ z => by omega) (fun u hu z => by omega) (fun z => by omega) (fun a f h1 h2 _ _ z => by omega)) (fun tg sp SZ => SZ.fr A hx (fun z => by omega) (fun a f h1 h2 _ _ z => by omega)) (fun L2 PL => PL.same (eI _ (by omega)) (eI _ (by omega)) (fun a j h1 h2 => eA _ _ (by omega) (by omega))) (cI _ _ (by omega) (by omega) (by omega)) (fun r Q => Q.same (eI _ (by omega)) (eI _ (by omega)) (eA _ _ (by omega) (by omega)) (eA _ _ (by omega) (by omega)) (eA _ _ (by omega) (by omega)) (eA _ _ (by omega) (by omega)))
  refine ⟨M2, S.xm, S.ml, by omega, fun a h1 h2 => by rw [(A.2 a (by omega)).1]; exact S.nK a h1 h2, X2, ⟨by rw [eI _ (by omega)]; exact Z.ln, by rw [eI _ (by omega)]; exact Z.sl, by rw [eI _ (by omega)]; exact Z.nu, by rw [eI _ (by omega)]; exact Z.bk, by rw [eI _ (by omega)]; exact Z.ga, by rw [eI _ (by omega)]; exact Z.sz, Z.lp, Z.s1, Z.u1, Z.bp, Z.g1, Z.i1⟩, ⟨fun j hj => ?_, ?_, ?_, ?_, fun j hj => ?_, fun j hj => ?_, fun t ht => ?_⟩, mm, by rw [cI _ _ (by omega) (by omega) (by omega)]; exact S.ms, mz, by rw [ec]; exact S.ca.fr A hx (fun z => by omega) (fun z => by omega) (fun z => by omega) (fun z => by omega), by rw [ec]; exact S.gb, fun u hu => by rw [eA _ _ (by omega) (by omega)]; exact S.lt u hu, by rw [eI _ (by omega)]; exact S.cy, P2, ?_⟩
  · rw [cI _ _ (by omega) (by omega) (by omega), eI _ (by omega)]; exact T.sz j hj
  · rw [cI _ _ (by omega) (by omega) (by omega), eI _ (by omega)]; exact T.en
  · rw [cI _ _ (by omega) (by omega) (by omega), eI _ (by omega)]; exact T.cy
  · rw [cI _ _ (by omega) (by omega) (by omega), eI _ (by omega)]; exact T.al
  · rw [cI _ _ (by omega) (by omega) (by omega), eI _ (by omega)]; exact T.wd j hj
  · rw [cI _ _ (by omega) (by omega) (by omega), eI _ (by omega)]; exact T.tr j hj
  · rw [cI _ _ (by omega) (by omega) (by omega), cI _ _ (by omega) (by omega) (by omega), cI _ _ (by omega) (by omega) (by omega), cI _ _ (by omega) (by omega) (by omega), eA _ _ (by omega) (by omega), eA _ _ (by omega) (by omega), eA _ _ (by omega) (by omega), eA _ _ (by omega) (by omega)]; exact T.un t ht
  · obtain ⟨l1, l2, l3⟩ := S.lg
    have e := PT.fr X.S A hx (fun z => by omega) (fun u hu z => by omega) (fun a h1 h2 h3 z => by omega)
    exact ⟨by rw [e]; omega, by omega, l3⟩
/-- gather anew, in the ghost -/
theorem Sm.gather {o : Nat → Nat} {hg hc kc H K : Hp} {x m lo ln sl nn bk ga sz c pc G U0 nC Ta d : Nat} (S : Sm o hg H x m lo ln sl nn bk ga sz c pc G U0 nC Ta) (g : Gh lo hg hc) (M2 : Md K m) (B : Fr (fun f a => (f = 9999 ∧ (a = x + 2 ∨ a = x + 4)) ∨ hT hc ≤ a) hc kc) (t1 : hT kc = hT hc + d) (t2 : hU kc ≤ hU hc + 512 * d) (Kk : Kn kc K x m) (eI : ∀ f, ¬ f = 704 → hI K f m = hI H f m) (eA : ∀ a j, (m + 3) ≤ a → a ≤ (m + 28) → hA K a j = hA H a j) (mm : ∀ p, p < sz → hA kc (x + 4) p = hA K (m + 2) p) (mz : ∀ p, sz ≤ p → p < 4096 → hA K (m + 2) p = 0) : ∃ kg, Sm o kg K x m lo ln sl nn bk ga sz c pc G U0 (nC + d) Ta ∧ Gh lo kg kc := by
  obtain ⟨⟨a1, a2, a3, a4, a5, a6, a7⟩, a8, a9⟩ := g
  have X := S.X
  have hx := X.hx
  have lx := X.lx
  have R : ∀ t, Rs m t H K := fun t => ⟨⟨eI _ (by omega), eI _ (by omega)⟩, ⟨eA _ _ (by omega) (by omega), eA _ _ (by omega) (by omega), eA _ _ (by omega) (by omega)⟩, fun r _ => eA _ _ (by omega) (by omega), fun i _ => ⟨eA _ _ (by omega) (by omega), eA _ _ (by omega) (by omega), eA _ _ (by omega) (by omega), eA _ _ (by omega) (by omega)⟩, fun j _ => eA _ _ (by omega) (by omega)⟩
  have sb : ∀ t, hA K (m + 9) t = hA H (m + 9) t := fun t => eA _ _ (by omega) (by omega)
  let p : Nat → Int32 := fun a => gpl (aA K m (o a / 6)) (aP K m (o a / 6)) ln
  let kg : Hp := (hT kc, hU kc, hK kc, hN kc, (fun f a => if lo ≤ a ∧ a < hT hc ∧ hK hc a = 9 ∧ 518 ≤ f ∧ f ≤ 521 then (if f = 518 then gmk (aA K m (o a / 6)) (aP K m (o a / 6)) ln else if f = 519 then p a else if f = 521 then gaT kc a ((hR kc 527 a).getD 0) (gaW kc (x + 2) (p a)) else hI kc f a) else hI kc f a), (fun f a => if lo ≤ a ∧ a < hT hc ∧ hK hc a = 9 ∧ f = 520 then gaW kc (x + 2) (p a) else hR kc f a), hA kc, hQ kc, hL kc)
  have kI : ∀ f a, ¬ (lo ≤ a ∧ a < hT hc ∧ hK hc a = 9 ∧ 518 ≤ f ∧ f ≤ 521) → hI kg f a = hI kc f a := fun f a n => if_neg n
  have kR : ∀ f a, ¬ (lo ≤ a ∧ a < hT hc ∧ hK hc a = 9 ∧ f = 520) → hR kg f a = hR kc f a := fun f a n => if_neg n
  have A : Fr (fun f a => (f = 9999 ∧ (a = x + 2 ∨ a = x + 4)) ∨ (lo ≤ a ∧ hK hg a = 9 ∧ 518 ≤ f ∧ f ≤ 521) ∨ hT hg ≤ a) hg kg := by
    refine ⟨by rw [← a1]; exact B.1, fun a ha => ?_⟩
    obtain ⟨v1, v2, v3, v4⟩ := B.2 a (by omega)
    refine ⟨v1.trans (by rw [a3]), v2.trans (by rw [a4]), fun f n => ?_, fun n j => ?_⟩
    · have w := v3 f (fun y => n (by omega))
      have n9 : ¬ (lo ≤ a ∧ hK hg a = 9 ∧ 518 ≤ f ∧ f ≤ 521) := fun y => n (Or.inr (Or.inl y))
      rw [kI f a (fun y => n9 ⟨y.1, by rw [← a3]; exact y.2.2.1, y.2.2.2⟩), kR f a (fun y => n9 ⟨y.1, by rw [← a3]; exact y.2.2.1, by omega, by omega⟩), w.1, w.2, a8 f a n9, a9 f a (fun y => n9 ⟨y.1, y.2.1, by omega, by omega⟩)]
      exact ⟨rfl, rfl⟩
    · have w := v4 (fun y => n (by omega)) j
      rw [a5, a6, a7] at w
      exact w
  have G2 : Gh lo kg kc := by
    refine ⟨⟨rfl, rfl, rfl, rfl, rfl, rfl, rfl⟩, fun f a n => (kI f a (fun y => n ⟨y.1, (B.2 a y.2.1).1.trans y.2.2.1, y.2.2.2⟩)).symm, fun f a n => (kR f a (fun y => n ⟨y.1, (B.2 a y.2.1).1.trans y.2.2.1, y.2.2.2⟩)).symm⟩
  have Kg : Kn kg K x m := fun k hk => by
    obtain ⟨y, y1, y2, y3⟩ := Kk k hk
    exact ⟨y, y1, y2, y3.same rfl (fun f h1 h2 => kI f y (fun z => by omega))⟩
  refine ⟨kg, S.rest M2 A (by rw [← a1]; exact t1) (by rw [← a2]; exact t2) Kg eI eA mm mz (fun t ht => ?_), G2⟩
  have q16 : ∀ j, hQ kg (x + 16 + 3 * (t / 16)) j = hQ hg (x + 16 + 3 * (t / 16)) j := fun j => ((A.2 (x + 16 + 3 * (t / 16)) (by omega)).2.2.2 (fun z => by omega) j).2.1
  have q13 : ∀ j, hQ kg (x + 13) j = hQ hg (x + 13) j := fun j => ((A.2 (x + 13) (by omega)).2.2.2 (fun z => by omega) j).2.1
  rcases X.S t ht with ⟨z1, z2⟩ | ⟨w, rg, pl, ro, pr, ti, L, z1, W, e, z3⟩
  · exact Or.inl ⟨by rw [q16]; exact z1, by rw [sb]; exact z2⟩
  · have wi : ∀ f, ¬ (518 ≤ f ∧ f ≤ 521) → ¬ f = 9999 → hI kg f w = hI hg f w ∧ hR kg f w = hR hg f w := fun f nf n2 => (A.2 w W.bw.2).2.2.1 f (fun y => by have := W.bw; omega)
    have aa : ∀ a j, lo ≤ a → a < hT hg → hA kg a j = hA hg a j := fun a j h1 h2 => ((A.2 a h2).2.2.2 (fun z => by omega) j).1
    refine Or.inr ⟨w, rg, pl, ro, pr, ti, L, by rw [q16]; exact z1, W.fr A.1 (fun a h1 h2 _ _ _ => ⟨(A.2 a h2).1, (A.2 a h2).2.1, fun f h3 h4 => ((A.2 a h2).2.2.1 f (fun z => by omega)).2⟩), e, ?_⟩
    rcases z3 with ⟨z3, z4⟩ | ⟨b, bl, Bw, _⟩
    · exact Or.inl ⟨by rw [(wi _ (by omega) (by omega)).2]; exact z3, by rw [sb]; exact z4⟩
    · have B2 := Bw.rs X.l32 (R t)
      have lnL := Bw.lnL
      have cw : lo ≤ w ∧ w < hT hc ∧ hK hc w = 9 := ⟨W.bw.1, by rw [a1]; exact W.bw.2, by rw [a3]; exact W.k⟩
      have ot : o w / 6 = t := by have := W.tw; omega
      have rti : hR kc 527 w = some ti := by
        rw [((B.2 w cw.2.1).2.2.1 527 (fun z => by omega)).2, a9 _ _ (fun y => by omega)]
        exact W.r_ti
      have gT : ∀ oo, gaT kg w ti oo = gaT kc w ti oo := fun oo => by
        cases oo with
        | none => rfl
        | some a =>
          unfold gaT
          dsimp only
          rw [kI 589 a (fun z => by omega), kI 587 a (fun z => by omega), kI 522 w (fun z => by omega)]
          rfl
      refine Or.inr ⟨b, bl, ⟨by rw [(wi _ (by omega) (by omega)).2]; exact B2.blk, by rw [q13]; exact B2.bq, B2.sb, B2.b64, by rw [(wi _ (by omega) (by omega)).1]; exact B2.num, B2.wno, by rw [(wi _ (by omega) (by omega)).1]; exact B2.lns, B2.lnL, fun i hi => by rw [(wi _ (by omega) (by omega)).1]; exact B2.pre i hi, fun i hi => by rw [(wi _ (by omega) (by omega)).1]; exact B2.end_ i hi, fun i hi => by rw [(wi _ (by omega) (by omega)).1]; exact B2.wai i hi, B2.le, B2.lw, fun i r hi hr => by rw [aa _ _ W.b_rg.1 W.b_rg.2]; exact B2.reg i r hi hr, fun i hi => by rw [aa _ _ W.b_pl.1 W.b_pl.2]; exact B2.pla i hi, fun p i hp hi => by rw [aa _ _ W.b_pr.1 W.b_pr.2]; exact B2.prd p i hp hi, fun r hr => by rw [aa _ _ W.b_ti.1 W.b_ti.2]; exact B2.tic r hr, by rw [(wi _ (by omega) (by omega)).1]; exact B2.mem⟩, ?_, ?_, ?_, ?_⟩
      · show (if lo ≤ w ∧ w < hT hc ∧ hK hc w = 9 ∧ 518 ≤ 518 ∧ 518 ≤ 521 then (if 518 = 518 then gmk (aA K m (o w / 6)) (aP K m (o w / 6)) ln else if 518 = 519 then p w else if 518 = 521 then gaT kc w ((hR kc 527 w).getD 0) (gaW kc (x + 2) (p w)) else hI kc 518 w) else hI kc 518 w) = _
        rw [if_pos ⟨cw.1, cw.2.1, cw.2.2, by omega, by omega⟩, if_pos rfl, ot]
      · show (if lo ≤ w ∧ w < hT hc ∧ hK hc w = 9 ∧ 518 ≤ 519 ∧ 519 ≤ 521 then (if 519 = 518 then gmk (aA K m (o w / 6)) (aP K m (o w / 6)) ln else if 519 = 519 then p w else if 519 = 521 then gaT kc w ((hR kc 527 w).getD 0) (gaW kc (x + 2) (p w)) else hI kc 519 w) else hI kc 519 w) = _
        rw [if_pos ⟨cw.1, cw.2.1, cw.2.2, by omega, by omega⟩, if_neg (by decide), if_pos rfl]
        show gpl (aA K m (o w / 6)) (aP K m (o w / 6)) ln = _
        rw [ot]
      · show (if lo ≤ w ∧ w < hT hc ∧ hK hc w = 9 ∧ 520 = 520 then gaW kc (x + 2) (p w) else hR kc 520 w) = _
        rw [if_pos ⟨cw.1, cw.2.1, cw.2.2, rfl⟩]
        show gaW kc (x + 2) (gpl (aA K m (o w / 6)) (aP K m (o w / 6)) ln) = _
        rw [ot]
        rfl
      · rw [gT]
        show (if lo ≤ w ∧ w < hT hc ∧ hK hc w = 9 ∧ 518 ≤ 521 ∧ 521 ≤ 521 then (if 521 = 518 then gmk (aA K m (o w / 6)) (aP K m (o w / 6)) ln else if 521 = 519 then p w else if 521 = 521 then gaT kc w ((hR kc 527 w).getD 0) (gaW kc (x + 2) (p w)) else hI kc 521 w) else hI kc 521 w) = _
        rw [if_pos ⟨cw.1, cw.2.1, cw.2.2, by omega, by omega⟩, if_neg (by decide), if_neg (by decide), if_pos rfl, rti]
        show gaT kc w ti (gaW kc (x + 2) (gpl (aA K m (o w / 6)) (aP K m (o w / 6)) ln)) = _
        rw [ot]
        rfl
/-- at rest, the kernel or the memory changes -/
theorem SmB.gather {o : Nat → Nat} {hc kc H K : Hp} {x m lo ln sl nn bk ga sz c al U0 nC d : Nat} (S : SmB o hc H x m lo ln sl nn bk ga sz c al U0 nC) (un : ¬ rUn H m) (M2 : Md K m) (B : Fr (fun f a => (f = 9999 ∧ (a = x + 2 ∨ a = x + 4)) ∨ hT hc ≤ a) hc kc) (t1 : hT kc = hT hc + d) (t2 : hU kc ≤ hU hc + 512 * d) (Kk : Kn kc K x m) (eI : ∀ f, ¬ f = 704 → hI K f m = hI H f m) (eA : ∀ a j, (m + 3) ≤ a → a ≤ (m + 28) → hA K a j = hA H a j) (mm : ∀ p, p < sz → hA kc (x + 4) p = hA K (m + 2) p) (mz : ∀ p, sz ≤ p → p < 4096 → hA K (m + 2) p = 0) : SmB o kc K x m lo ln sl nn bk ga sz c al U0 (nC + d) := by
  have hx : x + 38 < hT hc := by
    obtain ⟨_, _, _, _, _, _, _, _, _, _, _, v, _⟩ := S.vw
    exact v
  obtain ⟨⟨hg, ⟨Ta, S⟩, gh, eg⟩, s1, s2, s3, s4, s5⟩ := S
  obtain ⟨kg, S2, G2⟩ := S.gather gh M2 B t1 t2 Kk eI eA mm mz
  have un2 : ¬ rUn K m := fun u => un (by unfold rUn at u ⊢; rw [eI _ (by omega)] at u; exact u)
  refine ⟨⟨kg, ⟨Ta, S2⟩, G2, fun u => absurd u un2⟩, by rw [eI _ (by omega)]; exact s1, s2, s3, ?_, ?_⟩
  · rw [eI _ (by omega), ((B.2 (x + 11) (by omega)).2.2.1 320 (fun z => by omega)).1]; exact s4
  · rcases s5 with ⟨a, _⟩ | ⟨a, _⟩ | ⟨z1, z2⟩
    · exact absurd (Or.inl a) un
    · exact absurd (Or.inr a) un
    · refine Or.inr (Or.inr ⟨?_, by rw [eI _ (by omega)]; exact z2⟩)
      rw [eI _ (by omega)]; exact z1
theorem fr_wSet {P : Nat → Nat → Prop} {h k : Hp} {y : Nat} {w : Int64} (A : Fr P h k) (p : ∀ f, P f y) : Fr P h (wSet k y w) := by
  unfold wSet
  exact (((((((((((((((A.cI (p _)).cI (p _)).cI (p _)).cI (p _)).cI (p _)).cI (p _)).cI (p _)).cI (p _)).cI (p _)).cI (p _)).cI (p _)).cI (p _)).cI (p _)).cI (p _)).cI (p _))
theorem wSet_o (h : Hp) (y : Nat) (w : Int64) : hT (wSet h y w) = hT h ∧ hU (wSet h y w) = hU h ∧ hK (wSet h y w) = hK h ∧ hN (wSet h y w) = hN h ∧ hA (wSet h y w) = hA h ∧ hQ (wSet h y w) = hQ h := by
  unfold wSet
  simp only [qT_sI, qU_sI, qK_sI, qN_sI, qA_sI, qQ_sI, and_self]
theorem k_set {F x m lo U0 : Nat} (k v : Int32) : CallOk (f_WM_set F x k v) (f_Mod_set F m k v) x m lo U0 := fun nC hc H J => by
  have J0 := J
  obtain ⟨o, ln, sl, nn, bk, ga, sz, c, al, SB⟩ := J0
  obtain ⟨C, T, _, ms, mm, _, M, Z, _, _, _, hx, lx, Kk, _, lh, _⟩ := SB.vw
  have z4 := Z.i1.2
  have xm := SB.m.2.2
  have ml := SB.m.2.1
  have s4 := SB.2.2.2.2.1
  have mz : ∀ p, sz ≤ p → p < 4096 → hA H (m + 2) p = 0 := by
    obtain ⟨⟨hg, ⟨Ta, S⟩, _⟩, _⟩ := SB
    exact S.mz
  have cm := c_Mod_set (F := F) M (by rw [Z.sz, nI_toInt (by omega)]; omega) k v
  rw [Z.sz] at cm
  have hh := c_Memory_has (F := F) C.k_memory C.r_ints C.k_ints k
  rw [ms, C.n_ints] at hh
  have no : f_WM_set F x k v hc = some (0, hc) → f_Mod_set F m k v H = some (0, sI H 704 m 0) → ∃ v_1 kc kr, f_WM_set F x k v hc = some (v_1, kc) ∧ f_Mod_set F m k v H = some (v_1, kr) ∧ Jb kc kr x m lo U0 (nC + 1) ∧ RC m lo hc kc ∧ RR m H kr := fun e1 e2 => ⟨0, hc, _, e1, e2, J.th.nc (by omega), RC.refl _ _ _, RR.th⟩
  by_cases g : ¬ k < 0 ∧ ¬ nI sz ≤ k ∧ ¬ nI 4096 ≤ k
  · obtain ⟨j, hj, ej⟩ : ∃ j : Nat, j < sz ∧ k = nI j := by
      rcases pk_ix k (n := sz) (by omega) with z | z | z
      · exact absurd z g.1
      · exact absurd z g.2.1
      · exact z
    rw [bI_t g] at hh
    have cst : f_WM_set F x k v hc = if rUn H m then some (0, hc) else some (1, sA hc (x + 4) j v) := by
      rw [f_WM_set, gd_t C.k, rq_k C.r_memory C.k_memory, hh, cl_some, if_neg (by decide), gd_t C.k, rq_k C.r_tally C.k_tally, c_Tally_underWay C.k_tally, cl_some, bI_ite, gd_t C.k, rq_k C.r_memory C.k_memory, rq_k C.r_ints C.k_ints, C.n_ints, ej, ixn (by omega) (by decide), pw_e]
      unfold tUn
      rw [s4]
    by_cases un : rUn H m
    · exact no (by rw [cst, if_pos un]) (by rw [cm, if_neg (fun y => y.2.2 un)])
    · rw [if_neg un] at cst
      rw [if_pos ⟨g.1, by rw [ej]; exact nI_lt hj (by omega), un⟩, ej, nI_clamp (by omega), ← ej] at cm
      have B : Fr (fun f a => (f = 9999 ∧ (a = x + 2 ∨ a = x + 4)) ∨ hT hc ≤ a) hc (sA hc (x + 4) j v) := (Fr.refl hc).cA (Or.inl ⟨rfl, Or.inr rfl⟩)
      refine ⟨1, _, _, cst, cm, ⟨o, ln, sl, nn, bk, ga, sz, c, al, (SB.gather (d := 0) un (M.tsI.tsA) B rfl (Nat.le_refl _) ?_ (fun f nf => ?_) (fun a i h1 h2 => ?_) (fun p hp => ?_) (fun p h1 h2 => ?_)).nc (by omega)⟩, RC.of B lh (fun f a h1 h2 y => by omega), ⟨⟨rfl, rfl, rfl, rfl, rfl, rfl⟩, fun f a n => ?_, fun a i n => ?_, fun a i n => ?_⟩⟩
      · intro q hq
        obtain ⟨y, y1, y2, y3⟩ := Kk q hq
        exact ⟨y, y1, y2, y3.same rfl (fun f _ _ => rfl)⟩
      · rw [qI_sA, qI_sI, if_neg (fun y => nf y.1)]
      · rw [qA_sA, if_neg (fun y => by omega), qA_sI]
      · rw [qA_sA, qA_sA, qA_sI]
        by_cases e : p = j
        · rw [if_pos ⟨rfl, e⟩, if_pos ⟨rfl, e⟩]
        · rw [if_neg (fun y => e y.2), if_neg (fun y => e y.2)]
          exact mm p hp
      · rw [qA_sA, if_neg (fun y => by omega), qA_sI]
        exact mz p h1 h2
      · rw [qI_sA, qI_sI, if_neg (fun y => n y.2)]
      · rw [qA_sA, if_neg (fun y => by omega), qA_sI]
      · rfl
  · have g2 : ¬ (¬ k < 0 ∧ k < nI sz ∧ ¬ rUn H m) := fun y => g ⟨y.1, fun z => by
      have a1 := Int32.lt_iff_toInt_lt.mp y.2.1
      have a2 := Int32.le_iff_toInt_le.mp z
      omega, fun z => by
      have a1 := Int32.lt_iff_toInt_lt.mp y.2.1
      have a2 := Int32.le_iff_toInt_le.mp z
      rw [nI_toInt (by omega)] at a1 a2
      omega⟩
    rw [bI_f g] at hh
    rw [if_neg g2] at cm
    exact no (by rw [f_WM_set, gd_t C.k, rq_k C.r_memory C.k_memory, hh, cl_some, if_pos rfl]) cm
theorem c_WM_word {F : Nat} {hc : Hp} {x j : Nat} (w : Int64) (C : Cd hc x) (hx : x + 38 < hT hc) (hj : j < 128) (nt : ¬ tUn hc (x + 11)) : f_WM_word F x (nI j) w hc = some (1, sQ (wSet (nw hc 10 0 15) (hT hc) w) (x + 2) j (some (hT hc))) := by
  have kn : hK (nw hc 10 0 15) (hT hc) = 10 := by rw [qK_nw, if_pos rfl]
  have kx : hK (nw hc 10 0 15) (x + 2) = 120 := by rw [qK_nw, if_neg (show ¬ x + 2 = hT hc by omega)]; exact C.k_kernel
  have nx : hN (nw hc 10 0 15) (x + 2) = 128 := by rw [qN_nw, if_neg (show ¬ x + 2 = hT hc by omega)]; exact C.n_kernel
  obtain ⟨o1, o2, o3, o4, o5, o6⟩ := wSet_o (nw hc 10 0 15) (hT hc) w
  have ci := c_Word_init (F := F) kn w
  generalize wSet (nw hc 10 0 15) (hT hc) w = W at o1 o2 o3 o4 o5 o6 ci
  rw [f_WM_word, if_neg (nI_pos (by omega)), gd_t C.k, rq_k C.r_kernel C.k_kernel, C.n_kernel, if_neg (nI_ge hj (by decide)), rq_k C.r_tally C.k_tally, c_Tally_underWay C.k_tally, cl_some, bI_ite, if_neg nt, gd_t C.k, rq_k C.r_kernel C.k_kernel, pw_e, pw_e, ci, clv_some, gd_t (by rw [o3]; exact kx), gd_t (by rw [o3]; exact kn), o4, nx, ixn hj (by decide), pw_e]
theorem c_WM_word0 {F : Nat} {hc : Hp} {x : Nat} {k : Int32} (w : Int64) (C : Cd hc x) (q : k < 0 ∨ nI 128 ≤ k ∨ tUn hc (x + 11)) : f_WM_word F x k w hc = some (0, hc) := by
  rw [f_WM_word]
  by_cases a1 : k < 0
  · rw [if_pos a1]
  rw [if_neg a1, gd_t C.k, rq_k C.r_kernel C.k_kernel, C.n_kernel]
  by_cases a2 : nI 128 ≤ k
  · rw [if_pos a2]
  rw [if_neg a2, rq_k C.r_tally C.k_tally, c_Tally_underWay C.k_tally, cl_some, bI_ite, if_pos ((q.resolve_left a1).resolve_left a2)]
theorem Kn.word {hc H W : Hp} {x m j : Nat} {w : Int64} (Kk : Kn hc H x m) (B : Fr (fun f a => (f = 9999 ∧ (a = x + 2 ∨ a = x + 4)) ∨ hT hc ≤ a) hc W) (wi : WordIs W (hT hc) w) (t1 : hT W = hT hc + 1) (o6 : ∀ i, hQ W (x + 2) i = hQ hc (x + 2) i) : Kn (sQ W (x + 2) j (some (hT hc))) (sL (sI H 704 m 0) (m + 1) j w) x m := by
  intro q hq
  by_cases e : q = j
  · subst e
    refine ⟨hT hc, by rw [qQ_sQ, if_pos ⟨rfl, rfl⟩], by rw [qT_sQ, t1]; omega, ?_⟩
    rw [qL_sL, if_pos ⟨rfl, rfl⟩]
    exact wi.same (by rw [qK_sQ]) (fun f _ _ => by rw [qI_sQ])
  · obtain ⟨y, y1, y2, y3⟩ := Kk q hq
    refine ⟨y, ?_, by rw [qT_sQ, t1]; omega, ?_⟩
    · rw [qQ_sQ, if_neg (fun z => e z.2), o6]
      exact y1
    · rw [qL_sL, if_neg (fun z => e z.2), qL_sI]
      exact y3.same (by rw [qK_sQ]; exact (B.2 y y2).1) (fun f _ _ => by rw [qI_sQ]; exact ((B.2 y y2).2.2.1 f (fun z => by omega)).1)
theorem word_st {o : Nat → Nat} {hc W H : Hp} {x m lo ln sl nn bk ga sz c al U0 nC j : Nat} {w : Int64} (SB : SmB o hc H x m lo ln sl nn bk ga sz c al U0 nC) (un : ¬ rUn H m) (B0 : Fr (fun f a => (f = 9999 ∧ (a = x + 2 ∨ a = x + 4)) ∨ hT hc ≤ a) hc W) (wi : WordIs W (hT hc) w) (t1 : hT W = hT hc + 1) (t2 : hU W = hU hc + 15) (o5 : ∀ i, hA W (x + 4) i = hA hc (x + 4) i) (o6 : ∀ i, hQ W (x + 2) i = hQ hc (x + 2) i) : SmB o (sQ W (x + 2) j (some (hT hc))) (sL (sI H 704 m 0) (m + 1) j w) x m lo ln sl nn bk ga sz c al U0 (nC + 1) ∧ RC m lo hc (sQ W (x + 2) j (some (hT hc))) ∧ RR m H (sL (sI H 704 m 0) (m + 1) j w) := by
  obtain ⟨C, T, _, ms, mm, _, M, Z, _, _, _, hx, lx, Kk, _, lh, _⟩ := SB.vw
  have xm := SB.m.2.2
  have ml := SB.m.2.1
  have mz : ∀ p, sz ≤ p → p < 4096 → hA H (m + 2) p = 0 := by
    obtain ⟨⟨hg, ⟨Ta, S⟩, _⟩, _⟩ := SB
    exact S.mz
  have B : Fr (fun f a => (f = 9999 ∧ (a = x + 2 ∨ a = x + 4)) ∨ hT hc ≤ a) hc (sQ W (x + 2) j (some (hT hc))) := B0.cQ (Or.inl ⟨rfl, Or.inl rfl⟩)
  refine ⟨SB.gather (d := 1) un (M.tsI.tsL) B (by rw [qT_sQ, t1]) (by rw [qU_sQ, t2]; omega) (Kk.word B0 wi t1 o6) (fun f nf => ?_) (fun a i h1 h2 => ?_) (fun p hp => ?_) (fun p h1 h2 => ?_), RC.of B lh (fun f a h1 h2 y => by omega), ⟨⟨rfl, rfl, rfl, rfl, rfl, rfl⟩, fun f a n => ?_, fun a i n => ?_, fun a i n => ?_⟩⟩
  · rw [qI_sL, qI_sI, if_neg (fun y => nf y.1)]
  · rw [qA_sL, qA_sI]
  · rw [qA_sL, qA_sI, qA_sQ, o5]
    exact mm p hp
  · rw [qA_sL, qA_sI]
    exact mz p h1 h2
  · rw [qI_sL, qI_sI, if_neg (fun y => n y.2)]
  · rw [qA_sL, qA_sI]
  · rw [qL_sL, if_neg (fun y => n y.1), qL_sI]
theorem word_h (hc : Hp) {x : Nat} (hx : x + 38 < hT hc) (w : Int64) : Fr (fun f a => (f = 9999 ∧ (a = x + 2 ∨ a = x + 4)) ∨ hT hc ≤ a) hc (wSet (nw hc 10 0 15) (hT hc) w) ∧ WordIs (wSet (nw hc 10 0 15) (hT hc) w) (hT hc) w ∧ hT (wSet (nw hc 10 0 15) (hT hc) w) = hT hc + 1 ∧ hU (wSet (nw hc 10 0 15) (hT hc) w) = hU hc + 15 ∧ (∀ i, hA (wSet (nw hc 10 0 15) (hT hc) w) (x + 4) i = hA hc (x + 4) i) ∧ (∀ i, hQ (wSet (nw hc 10 0 15) (hT hc) w) (x + 2) i = hQ hc (x + 2) i) := by
  obtain ⟨o1, o2, o3, o4, o5, o6⟩ := wSet_o (nw hc 10 0 15) (hT hc) w
  exact ⟨fr_wSet ((Fr.refl hc).cN 10 0 15) (fun f => Or.inr (Nat.le_refl _)), wSet_is _ _ w (by rw [qK_nw, if_pos rfl]), by rw [o1, qT_nw], by rw [o2, qU_nw], fun i => by rw [o5, qA_nw, if_neg (show ¬ x + 4 = hT hc by omega)], fun i => by rw [o6, qQ_nw, if_neg (show ¬ x + 2 = hT hc by omega)]⟩
theorem k_word {F x m lo U0 : Nat} (k : Int32) (w : Int64) : CallOk (f_WM_word F x k w) (f_Mod_word F m k w) x m lo U0 := fun nC hc H J => by
  have J0 := J
  obtain ⟨o, ln, sl, nn, bk, ga, sz, c, al, SB⟩ := J0
  obtain ⟨C, T, _, ms, mm, _, M, Z, _, _, _, hx, lx, Kk, _, lh, _⟩ := SB.vw
  have s4 := SB.2.2.2.2.1
  have et : tUn hc (x + 11) ↔ rUn H m := by unfold tUn rUn; rw [s4]
  have cm := c_Mod_word (F := F) M k w
  have e128 : nI 128 = (128 : Int32) := by decide
  by_cases q : ¬ k < 0 ∧ ¬ 128 ≤ k ∧ ¬ rUn H m
  · obtain ⟨j, hj, ej⟩ : ∃ j : Nat, j < 128 ∧ k = nI j := by
      rcases pk_ix k (n := 128) (by decide) with z | z | z
      · exact absurd z q.1
      · rw [e128] at z; exact absurd z q.2.1
      · exact z
    have nt : ¬ tUn hc (x + 11) := fun y => q.2.2 (et.mp y)
    have cw := c_WM_word (F := F) w C hx hj nt
    rw [if_pos q, ej, nI_clamp (by omega)] at cm
    obtain ⟨w1, w2, w3, w4, w5, w6⟩ := word_h hc hx w
    generalize wSet (nw hc 10 0 15) (hT hc) w = W at cw w1 w2 w3 w4 w5 w6
    obtain ⟨r1, r2, r3⟩ := word_st (j := j) SB q.2.2 w1 w2 w3 w4 w5 w6
    exact ⟨1, _, _, by rw [ej]; exact cw, by rw [ej]; exact cm, ⟨o, ln, sl, nn, bk, ga, sz, c, al, r1⟩, r2, r3⟩
  · rw [if_neg q] at cm
    refine ⟨0, hc, _, c_WM_word0 w C ?_, cm, J.th.nc (by omega), RC.refl _ _ _, RR.th⟩
    rw [e128, et]
    by_cases z1 : k < 0
    · exact Or.inl z1
    · by_cases z2 : 128 ≤ k
      · exact Or.inr (Or.inl z2)
      · exact Or.inr (Or.inr (Decidable.not_not.mp fun z3 => q ⟨z1, z2, z3⟩))
