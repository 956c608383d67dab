/-! the calls set and word -/
theorem Sm.rest {o : Nat → Nat} {hg kg H K : Hp} {x m lo ln sl nn bk ga sz c pc G U0 nC Ta d : Nat} (S : Sm o hg H x m lo ln sl nn bk ga sz c pc G U0 nC Ta) (M2 : Md K m) (A : Fr (fun f a => (f = 9999 ∧ (a = x + 2 ∨ a = x + 4)) ∨ (lo ≤ a ∧ hK hg a = 9 ∧ 518 ≤ f ∧ f ≤ 521) ∨ hT hg ≤ a) hg kg) (t1 : hT kg = hT hg + d) (t2 : hU kg ≤ hU hg + 512 * d) (Kk : Kn kg K x m) (eI : ∀ f, ¬ f = 704 → hI K f m = hI H f m) (eA : ∀ a j, (m + 3) ≤ a → a ≤ (m + 28) → hA K a j = hA H a j) (mm : ∀ p, p < sz → hA kg (x + 4) p = hA K (m + 2) p) (mz : ∀ p, sz ≤ p → p < 4096 → hA K (m + 2) p = 0) (SL : ∀ t, t < 128 → SlotOk o kg K x m lo ln t) : Sm o kg K x m lo ln sl nn bk ga sz c pc G U0 (nC + d) Ta := by
  have X := S.X
  have C := X.C
  have Z := S.Z
  have hx := X.hx
  have lx := X.lx
  have xm := S.xm
  have lh := S.lh
  have T := S.T
  have cI : ∀ f a, x ≤ a → a ≤ x + 38 → ¬ f = 9999 → hI kg f a = hI hg f a := fun f a h1 h2 h3 => ((A.2 a (by omega)).2.2.1 f (fun y => by omega)).1
  have R : ∀ t, Rs m t H K := fun t => ⟨⟨eI _ (by omega), eI _ (by omega)⟩, ⟨eA _ _ (by omega) (by omega), eA _ _ (by omega) (by omega), eA _ _ (by omega) (by omega)⟩, fun r _ => eA _ _ (by omega) (by omega), fun i _ => ⟨eA _ _ (by omega) (by omega), eA _ _ (by omega) (by omega), eA _ _ (by omega) (by omega), eA _ _ (by omega) (by omega)⟩, fun j _ => eA _ _ (by omega) (by omega)⟩
  have sb : ∀ t, hA K (m + 9) t = hA H (m + 9) t := fun t => eA _ _ (by omega) (by omega)
  have X2 : Sx o kg K x m lo ln sl := by
    refine ⟨C.frame A hx (fun f _ z => by omega) (fun f _ _ z => by omega) (fun f _ _ z => by omega) (fun f _ _ z => by omega) (fun z => by omega) (fun u f _ _ _ z => by omega), Kk, by omega, lx, fun u hu => by rw [cI _ _ (by omega) (by omega) (by omega)]; exact X.us u hu, X.s16, by rw [eI _ (by omega)]; exact X.hl, X.l32, SL, fun c2 h64 => ?_, fun t ht z => X.nf t ht (by rw [← sb]; exact z), fun u hu => by rw [cI _ _ (by omega) (by omega) (by omega), X.uf u hu]; exact congrArg nI (cn_congr sl (fun k _ => by rw [sb]))⟩
    refine (X.B c2 h64).fr (by omega) (((A.2 (x + 13) (by omega)).2.2.2 (fun z => by omega) c2).2.1) (fun a h1 h2 _ h4 => ?_) (fun t _ => by rw [sb]) (eI _ (by omega)) (eI _ (by omega)) (cnt_rs (fun t _ => R t)).1 (cnt_rs (fun t _ => R t)).2 (fun k _ => eA _ _ (by omega) (by omega))
    obtain ⟨v1, v2, v3, v4⟩ := A.2 a h2
    exact ⟨v1, v2, fun f _ _ => v3 f (fun z => by omega), fun j => (v4 (fun z => by omega) j).1⟩
  have ec : cs0 K m = cs0 H m := by
    unfold cs0
    rw [eI _ (by omega), eI _ (by omega), show hA K (m + 3) = hA H (m + 3) from funext fun j => eA _ _ (by omega) (by omega), show hA K (m + 4) = hA H (m + 4) from funext fun j => eA _ _ (by omega) (by omega)]
  have P2 : Pn kg K x m lo sz pc Ta := S.P.step (fun tg Z2 RZ => RZ.fr A hx (fun z => by omega) (fun z => by omega) (fun a f h1 h2 _ _ z => by omega) (fun u hu z => by omega) (fun z => by omega) (fun a f h1 h2 _ _ z => by omega)) (fun tg sp SZ => SZ.fr A hx (fun z => by omega) (fun a f h1 h2 _ _ z => by omega)) (fun L2 PL => PL.same (eI _ (by omega)) (eI _ (by omega)) (fun a j h1 h2 => eA _ _ (by omega) (by omega))) (cI _ _ (by omega) (by omega) (by omega)) (fun r Q => Q.same (eI _ (by omega)) (eI _ (by omega)) (eA _ _ (by omega) (by omega)) (eA _ _ (by omega) (by omega)) (eA _ _ (by omega) (by omega)) (eA _ _ (by omega) (by omega)))
  refine ⟨M2, S.xm, S.ml, by omega, fun a h1 h2 => by rw [(A.2 a (by omega)).1]; exact S.nK a h1 h2, X2, ⟨by rw [eI _ (by omega)]; exact Z.ln, by rw [eI _ (by omega)]; exact Z.sl, by rw [eI _ (by omega)]; exact Z.nu, by rw [eI _ (by omega)]; exact Z.bk, by rw [eI _ (by omega)]; exact Z.ga, by rw [eI _ (by omega)]; exact Z.sz, Z.lp, Z.s1, Z.u1, Z.bp, Z.g1, Z.i1⟩, ⟨fun j hj => ?_, ?_, ?_, ?_, fun j hj => ?_, fun j hj => ?_, fun t ht => ?_⟩, mm, by rw [cI _ _ (by omega) (by omega) (by omega)]; exact S.ms, mz, by rw [ec]; exact S.ca.fr A hx (fun z => by omega) (fun z => by omega) (fun z => by omega) (fun z => by omega), by rw [ec]; exact S.gb, fun u hu => by rw [eA _ _ (by omega) (by omega)]; exact S.lt u hu, by rw [eI _ (by omega)]; exact S.cy, P2, ?_⟩
  · rw [cI _ _ (by omega) (by omega) (by omega), eI _ (by omega)]; exact T.sz j hj
  · rw [cI _ _ (by omega) (by omega) (by omega), eI _ (by omega)]; exact T.en
  · rw [cI _ _ (by omega) (by omega) (by omega), eI _ (by omega)]; exact T.cy
  · rw [cI _ _ (by omega) (by omega) (by omega), eI _ (by omega)]; exact T.al
  · rw [cI _ _ (by omega) (by omega) (by omega), eI _ (by omega)]; exact T.wd j hj
  · rw [cI _ _ (by omega) (by omega) (by omega), eI _ (by omega)]; exact T.tr j hj
  · rw [cI _ _ (by omega) (by omega) (by omega), cI _ _ (by omega) (by omega) (by omega), cI _ _ (by omega) (by omega) (by omega), cI _ _ (by omega) (by omega) (by omega), eA _ _ (by omega) (by omega), eA _ _ (by omega) (by omega), eA _ _ (by omega) (by omega), eA _ _ (by omega) (by omega)]; exact T.un t ht
  · obtain ⟨l1, l2, l3⟩ := S.lg
    have e := PT.fr X.S A hx (fun z => by omega) (fun u hu z => by omega) (fun a h1 h2 h3 z => by omega)
    exact ⟨by rw [e]; omega, by omega, l3⟩
/-- gather anew, in the ghost -/
theorem Sm.gather {o : Nat → Nat} {hg hc kc H K : Hp} {x m lo ln sl nn bk ga sz c pc G U0 nC Ta d : Nat} (S : Sm o hg H x m lo ln sl nn bk ga sz c pc G U0 nC Ta) (g : Gh lo hg hc) (M2 : Md K m) (B : Fr (fun f a => (f = 9999 ∧ (a = x + 2 ∨ a = x + 4)) ∨ hT hc ≤ a) hc kc) (t1 : hT kc = hT hc + d) (t2 : hU kc ≤ hU hc + 512 * d) (Kk : Kn kc K x m) (eI : ∀ f, ¬ f = 704 → hI K f m = hI H f m) (eA : ∀ a j, (m + 3) ≤ a → a ≤ (m + 28) → hA K a j = hA H a j) (mm : ∀ p, p < sz → hA kc (x + 4) p = hA K (m + 2) p) (mz : ∀ p, sz ≤ p → p < 4096 → hA K (m + 2) p = 0) : ∃ kg, Sm o kg K x m lo ln sl nn bk ga sz c pc G U0 (nC + d) Ta ∧ Gh lo kg kc := by
  obtain ⟨⟨a1, a2, a3, a4, a5, a6, a7⟩, a8, a9⟩ := g
  have X := S.X
  have hx := X.hx
  have lx := X.lx
  have R : ∀ t, Rs m t H K := fun t => ⟨⟨eI _ (by omega), eI _ (by omega)⟩, ⟨eA _ _ (by omega) (by omega), eA _ _ (by omega) (by omega), eA _ _ (by omega) (by omega)⟩, fun r _ => eA _ _ (by omega) (by omega), fun i _ => ⟨eA _ _ (by omega) (by omega), eA _ _ (by omega) (by omega), eA _ _ (by omega) (by omega), eA _ _ (by omega) (by omega)⟩, fun j _ => eA _ _ (by omega) (by omega)⟩
  have sb : ∀ t, hA K (m + 9) t = hA H (m + 9) t := fun t => eA _ _ (by omega) (by omega)
  let p : Nat → Int32 := fun a => gpl (aA K m (o a / 6)) (aP K m (o a / 6)) ln
  let kg : Hp := (hT kc, hU kc, hK kc, hN kc, (fun f a => if lo ≤ a ∧ a < hT hc ∧ hK hc a = 9 ∧ 518 ≤ f ∧ f ≤ 521 then (if f = 518 then gmk (aA K m (o a / 6)) (aP K m (o a / 6)) ln else if f = 519 then p a else if f = 521 then gaT kc a ((hR kc 527 a).getD 0) (gaW kc (x + 2) (p a)) else hI kc f a) else hI kc f a), (fun f a => if lo ≤ a ∧ a < hT hc ∧ hK hc a = 9 ∧ f = 520 then gaW kc (x + 2) (p a) else hR kc f a), hA kc, hQ kc, hL kc)
  have kI : ∀ f a, ¬ (lo ≤ a ∧ a < hT hc ∧ hK hc a = 9 ∧ 518 ≤ f ∧ f ≤ 521) → hI kg f a = hI kc f a := fun f a n => if_neg n
  have kR : ∀ f a, ¬ (lo ≤ a ∧ a < hT hc ∧ hK hc a = 9 ∧ f = 520) → hR kg f a = hR kc f a := fun f a n => if_neg n
  have A : Fr (fun f a => (f = 9999 ∧ (a = x + 2 ∨ a = x + 4)) ∨ (lo ≤ a ∧ hK hg a = 9 ∧ 518 ≤ f ∧ f ≤ 521) ∨ hT hg ≤ a) hg kg := by
    refine ⟨by rw [← a1]; exact B.1, fun a ha => ?_⟩
    obtain ⟨v1, v2, v3, v4⟩ := B.2 a (by omega)
    refine ⟨v1.trans (by rw [a3]), v2.trans (by rw [a4]), fun f n => ?_, fun n j => ?_⟩
    · have w := v3 f (fun y => n (by omega))
      have n9 : ¬ (lo ≤ a ∧ hK hg a = 9 ∧ 518 ≤ f ∧ f ≤ 521) := fun y => n (Or.inr (Or.inl y))
      rw [kI f a (fun y => n9 ⟨y.1, by rw [← a3]; exact y.2.2.1, y.2.2.2⟩), kR f a (fun y => n9 ⟨y.1, by rw [← a3]; exact y.2.2.1, by omega, by omega⟩), w.1, w.2, a8 f a n9, a9 f a (fun y => n9 ⟨y.1, y.2.1, by omega, by omega⟩)]
      exact ⟨rfl, rfl⟩
    · have w := v4 (fun y => n (by omega)) j
      rw [a5, a6, a7] at w
      exact w
  have G2 : Gh lo kg kc := by
    refine ⟨⟨rfl, rfl, rfl, rfl, rfl, rfl, rfl⟩, fun f a n => (kI f a (fun y => n ⟨y.1, (B.2 a y.2.1).1.trans y.2.2.1, y.2.2.2⟩)).symm, fun f a n => (kR f a (fun y => n ⟨y.1, (B.2 a y.2.1).1.trans y.2.2.1, y.2.2.2⟩)).symm⟩
  have Kg : Kn kg K x m := fun k hk => by
    obtain ⟨y, y1, y2, y3⟩ := Kk k hk
    exact ⟨y, y1, y2, y3.same rfl (fun f h1 h2 => kI f y (fun z => by omega))⟩
  refine ⟨kg, S.rest M2 A (by rw [← a1]; exact t1) (by rw [← a2]; exact t2) Kg eI eA mm mz (fun t ht => ?_), G2⟩
  have q16 : ∀ j, hQ kg (x + 16 + 3 * (t / 16)) j = hQ hg (x + 16 + 3 * (t / 16)) j := fun j => ((A.2 (x + 16 + 3 * (t / 16)) (by omega)).2.2.2 (fun z => by omega) j).2.1
  have q13 : ∀ j, hQ kg (x + 13) j = hQ hg (x + 13) j := fun j => ((A.2 (x + 13) (by omega)).2.2.2 (fun z => by omega) j).2.1
  rcases X.S t ht with ⟨z1, z2⟩ | ⟨w, rg, pl, ro, pr, ti, L, z1, W, e, z3⟩
  · exact Or.inl ⟨by rw [q16]; exact z1, by rw [sb]; exact z2⟩
  · have wi : ∀ f, ¬ (518 ≤ f ∧ f ≤ 521) → ¬ f = 9999 → hI kg f w = hI hg f w ∧ hR kg f w = hR hg f w := fun f nf n2 => (A.2 w W.bw.2).2.2.1 f (fun y => by have := W.bw; omega)
    have aa : ∀ a j, lo ≤ a → a < hT hg → hA kg a j = hA hg a j := fun a j h1 h2 => ((A.2 a h2).2.2.2 (fun z => by omega) j).1
    refine Or.inr ⟨w, rg, pl, ro, pr, ti, L, by rw [q16]; exact z1, W.fr A.1 (fun a h1 h2 _ _ _ => ⟨(A.2 a h2).1, (A.2 a h2).2.1, fun f h3 h4 => ((A.2 a h2).2.2.1 f (fun z => by omega)).2⟩), e, ?_⟩
    rcases z3 with ⟨z3, z4⟩ | ⟨b, bl, Bw, _⟩
    · exact Or.inl ⟨by rw [(wi _ (by omega) (by omega)).2]; exact z3, by rw [sb]; exact z4⟩
    · have B2 := Bw.rs X.l32 (R t)
      have lnL := Bw.lnL
      have cw : lo ≤ w ∧ w < hT hc ∧ hK hc w = 9 := ⟨W.bw.1, by rw [a1]; exact W.bw.2, by rw [a3]; exact W.k⟩
      have ot : o w / 6 = t := by have := W.tw; omega
      have rti : hR kc 527 w = some ti := by
        rw [((B.2 w cw.2.1).2.2.1 527 (fun z => by omega)).2, a9 _ _ (fun y => by omega)]
        exact W.r_ti
      have gT : ∀ oo, gaT kg w ti oo = gaT kc w ti oo := fun oo => by
        cases oo with
        | none => rfl
        | some a =>
          unfold gaT
          dsimp only
          rw [kI 589 a (fun z => by omega), kI 587 a (fun z => by omega), kI 522 w (fun z => by omega)]
          rfl
      refine Or.inr ⟨b, bl, ⟨by rw [(wi _ (by omega) (by omega)).2]; exact B2.blk, by rw [q13]; exact B2.bq, B2.sb, B2.b64, by rw [(wi _ (by omega) (by omega)).1]; exact B2.num, B2.wno, by rw [(wi _ (by omega) (by omega)).1]; exact B2.lns, B2.lnL, fun i hi => by rw [(wi _ (by omega) (by omega)).1]; exact B2.pre i hi, fun i hi => by rw [(wi _ (by omega) (by omega)).1]; exact B2.end_ i hi, fun i hi => by rw [(wi _ (by omega) (by omega)).1]; exact B2.wai i hi, B2.le, B2.lw, fun i r hi hr => by rw [aa _ _ W.b_rg.1 W.b_rg.2]; exact B2.reg i r hi hr, fun i hi => by rw [aa _ _ W.b_pl.1 W.b_pl.2]; exact B2.pla i hi, fun p i hp hi => by rw [aa _ _ W.b_pr.1 W.b_pr.2]; exact B2.prd p i hp hi, fun r hr => by rw [aa _ _ W.b_ti.1 W.b_ti.2]; exact B2.tic r hr, by rw [(wi _ (by omega) (by omega)).1]; exact B2.mem⟩, ?_, ?_, ?_, ?_⟩
      · show (if lo ≤ w ∧ w < hT hc ∧ hK hc w = 9 ∧ 518 ≤ 518 ∧ 518 ≤ 521 then (if 518 = 518 then gmk (aA K m (o w / 6)) (aP K m (o w / 6)) ln else if 518 = 519 then p w else if 518 = 521 then gaT kc w ((hR kc 527 w).getD 0) (gaW kc (x + 2) (p w)) else hI kc 518 w) else hI kc 518 w) = _
        rw [if_pos ⟨cw.1, cw.2.1, cw.2.2, by omega, by omega⟩, if_pos rfl, ot]
      · show (if lo ≤ w ∧ w < hT hc ∧ hK hc w = 9 ∧ 518 ≤ 519 ∧ 519 ≤ 521 then (if 519 = 518 then gmk (aA K m (o w / 6)) (aP K m (o w / 6)) ln else if 519 = 519 then p w else if 519 = 521 then gaT kc w ((hR kc 527 w).getD 0) (gaW kc (x + 2) (p w)) else hI kc 519 w) else hI kc 519 w) = _
        rw [if_pos ⟨cw.1, cw.2.1, cw.2.2, by omega, by omega⟩, if_neg (by decide), if_pos rfl]
        show gpl (aA K m (o w / 6)) (aP K m (o w / 6)) ln = _
        rw [ot]
      · show (if lo ≤ w ∧ w < hT hc ∧ hK hc w = 9 ∧ 520 = 520 then gaW kc (x + 2) (p w) else hR kc 520 w) = _
        rw [if_pos ⟨cw.1, cw.2.1, cw.2.2, rfl⟩]
        show gaW kc (x + 2) (gpl (aA K m (o w / 6)) (aP K m (o w / 6)) ln) = _
        rw [ot]
        rfl
      · rw [gT]
        show (if lo ≤ w ∧ w < hT hc ∧ hK hc w = 9 ∧ 518 ≤ 521 ∧ 521 ≤ 521 then (if 521 = 518 then gmk (aA K m (o w / 6)) (aP K m (o w / 6)) ln else if 521 = 519 then p w else if 521 = 521 then gaT kc w ((hR kc 527 w).getD 0) (gaW kc (x + 2) (p w)) else hI kc 521 w) else hI kc 521 w) = _
        rw [if_pos ⟨cw.1, cw.2.1, cw.2.2, by omega, by omega⟩, if_neg (by decide), if_neg (by decide), if_pos rfl, rti]
        show gaT kc w ti (gaW kc (x + 2) (gpl (aA K m (o w / 6)) (aP K m (o w / 6)) ln)) = _
        rw [ot]
        rfl
/-- at rest, the kernel or the memory changes -/
theorem SmB.gather {o : Nat → Nat} {hc kc H K : Hp} {x m lo ln sl nn bk ga sz c al U0 nC d : Nat} (S : SmB o hc H x m lo ln sl nn bk ga sz c al U0 nC) (un : ¬ rUn H m) (M2 : Md K m) (B : Fr (fun f a => (f = 9999 ∧ (a = x + 2 ∨ a = x + 4)) ∨ hT hc ≤ a) hc kc) (t1 : hT kc = hT hc + d) (t2 : hU kc ≤ hU hc + 512 * d) (Kk : Kn kc K x m) (eI : ∀ f, ¬ f = 704 → hI K f m = hI H f m) (eA : ∀ a j, (m + 3) ≤ a → a ≤ (m + 28) → hA K a j = hA H a j) (mm : ∀ p, p < sz → hA kc (x + 4) p = hA K (m + 2) p) (mz : ∀ p, sz ≤ p → p < 4096 → hA K (m + 2) p = 0) : SmB o kc K x m lo ln sl nn bk ga sz c al U0 (nC + d) := by
  have hx : x + 38 < hT hc := by
    obtain ⟨_, _, _, _, _, _, _, _, _, _, _, v, _⟩ := S.vw
    exact v
  obtain ⟨⟨hg, ⟨Ta, S⟩, gh, eg⟩, s1, s2, s3, s4, s5⟩ := S
  obtain ⟨kg, S2, G2⟩ := S.gather gh M2 B t1 t2 Kk eI eA mm mz
  have un2 : ¬ rUn K m := fun u => un (by unfold rUn at u ⊢; rw [eI _ (by omega)] at u; exact u)
  refine ⟨⟨kg, ⟨Ta, S2⟩, G2, fun u => absurd u un2⟩, by rw [eI _ (by omega)]; exact s1, s2, s3, ?_, ?_⟩
  · rw [eI _ (by omega), ((B.2 (x + 11) (by omega)).2.2.1 320 (fun z => by omega)).1]; exact s4
  · rcases s5 with ⟨a, _⟩ | ⟨a, _⟩ | ⟨z1, z2⟩
    · exact absurd (Or.inl a) un
    · exact absurd (Or.inr a) un
    · refine Or.inr (Or.inr ⟨?_, by rw [eI _ (by omega)]; exact z2⟩)
      rw [eI _ (by omega)]; exact z1
