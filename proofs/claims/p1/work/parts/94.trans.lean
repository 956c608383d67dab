/-! one heap for both sides -/
theorem Md.rc {h k : Hp} {m lo : Nat} (M : Md h m) (R : RC m lo h k) (ml : m + 28 < lo) : Md k m := by
  have e : ∀ a, m ≤ a → a ≤ m + 28 → hK k a = hK h a ∧ hN k a = hN h a := fun a h1 h2 => ⟨(R a h1 (by omega)).1, (R a h1 (by omega)).2.1⟩
  have er : ∀ f, hR k f m = hR h f m := fun f => ((R m (Nat.le_refl _) (by omega)).2.2.1 f).2
  unfold Md at M ⊢
  have e0 := (e m (by omega) (by omega)).1
  have k1 := e (m + 1) (by omega) (by omega)
  have k2 := e (m + 2) (by omega) (by omega)
  have k3 := e (m + 3) (by omega) (by omega)
  have k4 := e (m + 4) (by omega) (by omega)
  have k5 := e (m + 5) (by omega) (by omega)
  have k6 := e (m + 6) (by omega) (by omega)
  have k7 := e (m + 7) (by omega) (by omega)
  have k8 := e (m + 8) (by omega) (by omega)
  have k9 := e (m + 9) (by omega) (by omega)
  have k10 := e (m + 10) (by omega) (by omega)
  have k11 := e (m + 11) (by omega) (by omega)
  have k12 := e (m + 12) (by omega) (by omega)
  have k13 := e (m + 13) (by omega) (by omega)
  have k14 := e (m + 14) (by omega) (by omega)
  have k15 := e (m + 15) (by omega) (by omega)
  have k16 := e (m + 16) (by omega) (by omega)
  have k17 := e (m + 17) (by omega) (by omega)
  have k18 := e (m + 18) (by omega) (by omega)
  have k19 := e (m + 19) (by omega) (by omega)
  have k20 := e (m + 20) (by omega) (by omega)
  have k21 := e (m + 21) (by omega) (by omega)
  have k22 := e (m + 22) (by omega) (by omega)
  have k23 := e (m + 23) (by omega) (by omega)
  have k24 := e (m + 24) (by omega) (by omega)
  have k25 := e (m + 25) (by omega) (by omega)
  have k26 := e (m + 26) (by omega) (by omega)
  have k27 := e (m + 27) (by omega) (by omega)
  have k28 := e (m + 28) (by omega) (by omega)
  simp only [er, e0, k1.1, k1.2, k2.1, k2.2, k3.1, k3.2, k4.1, k4.2, k5.1, k5.2, k6.1, k6.2, k7.1, k7.2, k8.1, k8.2, k9.1, k9.2, k10.1, k10.2, k11.1, k11.2, k12.1, k12.2, k13.1, k13.2, k14.1, k14.2, k15.1, k15.2, k16.1, k16.2, k17.1, k17.2, k18.1, k18.2, k19.1, k19.2, k20.1, k20.2, k21.1, k21.2, k22.1, k22.2, k23.1, k23.2, k24.1, k24.2, k25.1, k25.2, k26.1, k26.2, k27.1, k27.2, k28.1, k28.2]
  exact M
theorem Sm.ref {o : Nat → Nat} {hc H K : Hp} {x m lo ln sl nn bk ga sz c pc G U0 nC Ta : Nat} (S : Sm o hc H x m lo ln sl nn bk ga sz c pc G U0 nC Ta) (M2 : Md K m) (eI : ∀ f, ¬ f = 704 → hI K f m = hI H f m) (eA : ∀ a j, (m + 1) ≤ a → a ≤ (m + 28) → hA K a j = hA H a j) (eL : ∀ j, hL K (m + 1) j = hL H (m + 1) j) : Sm o hc K x m lo ln sl nn bk ga sz c pc G U0 nC Ta := by
  have X := S.X
  have T := S.T
  have Z := S.Z
  have X2 := X.fr (kr := K) (Fr.refl hc) (fun f hf => eI f (by omega)) (fun a i h1 h2 => eA a i (by omega) (by omega)) (fun k _ => eL k)
  have ec : cs0 K m = cs0 H m := by
    unfold cs0
    rw [eI _ (by omega), eI _ (by omega), show hA K (m + 3) = hA H (m + 3) from funext fun j => eA _ _ (by omega) (by omega), show hA K (m + 4) = hA H (m + 4) from funext fun j => eA _ _ (by omega) (by omega)]
  have P2 : Pn hc K x m lo sz pc Ta := S.P.step (fun tg Z2 RZ => RZ) (fun tg sp SZ => SZ) (fun L2 PL => PL.same (eI _ (by omega)) (eI _ (by omega)) (fun a j h1 h2 => eA _ _ (by omega) (by omega))) rfl (fun r Q => Q.same (eI _ (by omega)) (eI _ (by omega)) (eA _ _ (by omega) (by omega)) (eA _ _ (by omega) (by omega)) (eA _ _ (by omega) (by omega)) (eA _ _ (by omega) (by omega)))
  refine ⟨M2, S.xm, S.ml, S.lh, S.nK, X2, ⟨by rw [eI _ (by omega)]; exact Z.ln, by rw [eI _ (by omega)]; exact Z.sl, by rw [eI _ (by omega)]; exact Z.nu, by rw [eI _ (by omega)]; exact Z.bk, by rw [eI _ (by omega)]; exact Z.ga, by rw [eI _ (by omega)]; exact Z.sz, Z.lp, Z.s1, Z.u1, Z.bp, Z.g1, Z.i1⟩, ⟨fun j hj => ?_, ?_, ?_, ?_, fun j hj => ?_, fun j hj => ?_, fun t ht => ?_⟩, fun p hp => by rw [eA _ _ (by omega) (by omega)]; exact S.mm p hp, S.ms, fun p h1 h2 => by rw [eA _ _ (by omega) (by omega)]; exact S.mz p h1 h2, by rw [ec]; exact S.ca, by rw [ec]; exact S.gb, fun u hu => by rw [eA _ _ (by omega) (by omega)]; exact S.lt u hu, by rw [eI _ (by omega)]; exact S.cy, P2, S.lg⟩
  · rw [eI _ (by omega)]; exact T.sz j hj
  · rw [eI _ (by omega)]; exact T.en
  · rw [eI _ (by omega)]; exact T.cy
  · rw [eI _ (by omega)]; exact T.al
  · rw [eI _ (by omega)]; exact T.wd j hj
  · rw [eI _ (by omega)]; exact T.tr j hj
  · rw [eA _ _ (by omega) (by omega), eA _ _ (by omega) (by omega), eA _ _ (by omega) (by omega), eA _ _ (by omega) (by omega)]; exact T.un t ht
theorem SmB.ref {o : Nat → Nat} {hc H K : Hp} {x m lo ln sl nn bk ga sz c al U0 nC : Nat} (S : SmB o hc H x m lo ln sl nn bk ga sz c al U0 nC) (M2 : Md K m) (eI : ∀ f, ¬ f = 704 → hI K f m = hI H f m) (eA : ∀ a j, (m + 1) ≤ a → a ≤ (m + 28) → hA K a j = hA H a j) (eL : ∀ j, hL K (m + 1) j = hL H (m + 1) j) : SmB o hc K x m lo ln sl nn bk ga sz c al U0 nC := by
  obtain ⟨⟨hg, ⟨Ta, S⟩, gh, eg⟩, s1, s2, s3, s4, s5⟩ := S
  have LAr : ∀ nb th nx, La hc H x m nb th nx ln sl → La hc K x m nb th nx ln sl := fun nb th nx A => by
    obtain ⟨a1, a2, a3, a4, a5, a6, a7, a8, a9, a10⟩ := A
    exact ⟨a1, by rw [eI _ (by omega)]; exact a2, a3, by rw [eI _ (by omega)]; exact a4, a5, by rw [eI _ (by omega)]; exact a6, a7, a8, a9, fun s b hs hb e => a10 s b hs hb (by rw [← eA _ _ (by omega) (by omega)]; exact e)⟩
  refine ⟨⟨hg, ⟨Ta, S.ref M2 eI eA eL⟩, gh, fun u => eg (by unfold rUn at u ⊢; rw [eI _ (by omega)] at u; exact u)⟩, by rw [eI _ (by omega)]; exact s1, s2, s3, by rw [eI _ (by omega)]; exact s4, ?_⟩
  rw [eI _ (by omega), eI _ (by omega), eI _ (by omega)]
  rcases s5 with ⟨a, b, nb, th, nx, l⟩ | ⟨a, b, nb, th, nx, l⟩ | z
  · exact Or.inl ⟨a, b, nb, th, nx, LAr _ _ _ l⟩
  · exact Or.inr (Or.inl ⟨a, b, nb, th, nx, LAr _ _ _ l⟩)
  · exact Or.inr (Or.inr z)
/-- the class's cells are the same; others may be new -/
theorem Sm.cls {o : Nat → Nat} {hc kc H : Hp} {x m lo ln sl nn bk ga sz c pc G U0 nC Ta d : Nat} (S : Sm o hc H x m lo ln sl nn bk ga sz c pc G U0 nC Ta) (A : Fr (fun f a => (m ≤ a ∧ a < lo) ∨ hT hc ≤ a) hc kc) (t1 : hT kc = hT hc + d) (t2 : hU kc ≤ hU hc + 512 * d) : Sm o kc H x m lo ln sl nn bk ga sz c pc G U0 (nC + d) Ta := by
  have X := S.X
  have C := X.C
  have hx := X.hx
  have lx := X.lx
  have xm := S.xm
  have lh := S.lh
  have T := S.T
  have cI : ∀ f a, x ≤ a → a ≤ x + 38 → hI kc f a = hI hc f a := fun f a h1 h2 => ((A.2 a (by omega)).2.2.1 f (fun y => by omega)).1
  have nW : ∀ (y f : Nat), y < hT hc → hK hc y < 12 → ¬ ((m ≤ y ∧ y < lo) ∨ hT hc ≤ y) := fun y f h1 h2 z => by
    rcases z with z | z
    · have := S.nK y z.1 z.2; omega
    · omega
  have Kk : Kn kc H x m := fun k hk => by
    obtain ⟨y, y1, y2, y3⟩ := X.K k hk
    have a1 := A.2 y y2
    have hT1 := A.1
    refine ⟨y, by rw [((A.2 (x + 2) (by omega)).2.2.2 (fun z => by omega) k).2.1]; exact y1, by omega, ?_⟩
    exact y3.same a1.1 (fun f h1 h2 => (a1.2.2.1 f (nW y f y2 (by rw [y3.k]; omega))).1)
  have X2 : Sx o kc H x m lo ln sl := by
    refine ⟨C.frame A hx (fun f _ z => by omega) (fun f _ _ z => by omega) (fun f _ _ z => by omega) (fun f _ _ z => by omega) (fun z => by omega) (fun u f _ _ _ z => by omega), Kk, by omega, lx, fun u hu => by rw [cI _ _ (by omega) (by omega)]; exact X.us u hu, X.s16, X.hl, X.l32, fun t ht => ?_, fun c2 h64 => ?_, X.nf, fun u hu => by rw [cI _ _ (by omega) (by omega)]; exact X.uf u hu⟩
    · exact (X.S t ht).fr X.K X.l32 (CsS.of A hx ht (fun z => by omega) (fun z => by omega) (fun z => by omega) (fun a f h1 h2 _ _ _ z => by omega) (fun y f h1 h2 _ _ => nW y f h1 (by omega))) (rs_refl m t H)
    · refine (X.B c2 h64).fr (by omega) (((A.2 (x + 13) (by omega)).2.2.2 (fun z => by omega) c2).2.1) (fun a h1 h2 _ _ => ?_) (fun _ _ => Iff.rfl) rfl rfl rfl rfl (fun _ _ => rfl)
      obtain ⟨v1, v2, v3, v4⟩ := A.2 a h2
      exact ⟨v1, v2, fun f _ _ => v3 f (fun z => by omega), fun j => (v4 (fun z => by omega) j).1⟩
  have P2 : Pn kc H x m lo sz pc Ta := S.P.step (fun tg Z2 RZ => RZ.fr A hx (fun z => by omega) (fun z => by omega) (fun a f h1 h2 _ _ => nW a f h1 (by omega)) (fun u hu z => by omega) (fun z => by omega) (fun a f h1 h2 _ _ => nW a f h1 (by omega))) (fun tg sp SZ => SZ.fr A hx (fun z => by omega) (fun a f h1 h2 _ _ => nW a f h1 (by omega))) (fun L2 PL => PL) (cI _ _ (by omega) (by omega)) (fun r Q => Q)
  refine ⟨S.M, S.xm, S.ml, by omega, fun a h1 h2 => by rw [(A.2 a (by omega)).1]; exact S.nK a h1 h2, X2, S.Z, ⟨fun j hj => ?_, ?_, ?_, ?_, fun j hj => ?_, fun j hj => ?_, fun t ht => ?_⟩, fun p hp => by rw [((A.2 (x + 4) (by omega)).2.2.2 (fun z => by omega) p).1]; exact S.mm p hp, by rw [cI _ _ (by omega) (by omega)]; exact S.ms, S.mz, S.ca.fr A hx (fun z => by omega) (fun z => by omega) (fun z => by omega) (fun z => by omega), S.gb, S.lt, S.cy, P2, ?_⟩
  · rw [cI _ _ (by omega) (by omega)]; exact T.sz j hj
  · rw [cI _ _ (by omega) (by omega)]; exact T.en
  · rw [cI _ _ (by omega) (by omega)]; exact T.cy
  · rw [cI _ _ (by omega) (by omega)]; exact T.al
  · rw [cI _ _ (by omega) (by omega)]; exact T.wd j hj
  · rw [cI _ _ (by omega) (by omega)]; exact T.tr j hj
  · rw [cI _ _ (by omega) (by omega), cI _ _ (by omega) (by omega), cI _ _ (by omega) (by omega), cI _ _ (by omega) (by omega)]; exact T.un t ht
  · obtain ⟨l1, l2, l3⟩ := S.lg
    have e := PT.fr X.S A hx (fun z => by omega) (fun u hu z => by omega) (fun a h1 h2 h3 => nW a 524 h2 (by omega))
    exact ⟨by rw [e]; omega, by omega, l3⟩
/-- the same frame for the ghost -/
theorem Gh.push {P : Nat → Nat → Prop} {lo : Nat} {hg hc kc : Hp} (G : Gh lo hg hc) (A : Fr P hc kc) : ∃ kg, Fr P hg kg ∧ Gh lo kg kc := by
  obtain ⟨⟨a1, a2, a3, a4, a5, a6, a7⟩, a8, a9⟩ := G
  refine ⟨(hT kc, hU kc, hK kc, hN kc, (fun f a => if lo ≤ a ∧ a < hT hc ∧ hK hc a = 9 ∧ 518 ≤ f ∧ f ≤ 521 then hI hg f a else hI kc f a), (fun f a => if lo ≤ a ∧ a < hT hc ∧ hK hc a = 9 ∧ f = 520 then hR hg f a else hR kc f a), hA kc, hQ kc, hL kc), ⟨by rw [← a1]; exact A.1, fun a ha => ?_⟩, ⟨rfl, rfl, rfl, rfl, rfl, rfl, rfl⟩, fun f a n => ?_, fun f a n => ?_⟩
  · obtain ⟨v1, v2, v3, v4⟩ := A.2 a (by omega)
    refine ⟨v1.trans (by rw [a3]), v2.trans (by rw [a4]), fun f nP => ⟨?_, ?_⟩, fun nP j => ?_⟩
    · show (if lo ≤ a ∧ a < hT hc ∧ hK hc a = 9 ∧ 518 ≤ f ∧ f ≤ 521 then hI hg f a else hI kc f a) = hI hg f a
      by_cases z : lo ≤ a ∧ a < hT hc ∧ hK hc a = 9 ∧ 518 ≤ f ∧ f ≤ 521
      · rw [if_pos z]
      · rw [if_neg z, (v3 f nP).1, a8 f a (fun y => z ⟨y.1, by omega, by rw [a3]; exact y.2.1, y.2.2⟩)]
    · show (if lo ≤ a ∧ a < hT hc ∧ hK hc a = 9 ∧ f = 520 then hR hg f a else hR kc f a) = hR hg f a
      by_cases z : lo ≤ a ∧ a < hT hc ∧ hK hc a = 9 ∧ f = 520
      · rw [if_pos z]
      · rw [if_neg z, (v3 f nP).2, a9 f a (fun y => z ⟨y.1, by omega, by rw [a3]; exact y.2.1, y.2.2⟩)]
    · have := v4 nP j
      rw [a5, a6, a7] at this
      exact this
  · show hI kc f a = if lo ≤ a ∧ a < hT hc ∧ hK hc a = 9 ∧ 518 ≤ f ∧ f ≤ 521 then hI hg f a else hI kc f a
    rw [if_neg (fun y => n ⟨y.1, (A.2 a y.2.1).1.trans y.2.2.1, y.2.2.2⟩)]
  · show hR kc f a = if lo ≤ a ∧ a < hT hc ∧ hK hc a = 9 ∧ f = 520 then hR hg f a else hR kc f a
    rw [if_neg (fun y => n ⟨y.1, (A.2 a y.2.1).1.trans y.2.2.1, y.2.2.2⟩)]
theorem SmB.cls {o : Nat → Nat} {hc kc H : Hp} {x m lo ln sl nn bk ga sz c al U0 nC d : Nat} (S : SmB o hc H x m lo ln sl nn bk ga sz c al U0 nC) (A : Fr (fun f a => (m ≤ a ∧ a < lo) ∨ hT hc ≤ a) hc kc) (t1 : hT kc = hT hc + d) (t2 : hU kc ≤ hU hc + 512 * d) : SmB o kc H x m lo ln sl nn bk ga sz c al U0 (nC + d) := by
  obtain ⟨⟨hg, ⟨Ta, S⟩, gh, eg⟩, s1, s2, s3, s4, s5⟩ := S
  have hx := S.X.hx
  have xm := S.xm
  have ht := gh.1.1
  have hu := gh.1.2.1
  have cI : ∀ f, hI kc f (x + 11) = hI hc f (x + 11) := fun f => ((A.2 (x + 11) (by omega)).2.2.1 f (fun y => by omega)).1
  have LAr : ∀ nb th nx, La hc H x m nb th nx ln sl → La kc H x m nb th nx ln sl := fun nb th nx B => by
    obtain ⟨a1, a2, a3, a4, a5, a6, a7⟩ := B
    exact ⟨by rw [cI]; exact a1, a2, by rw [cI]; exact a3, a4, by rw [cI]; exact a5, a6, a7⟩
  have ex : ∃ hg2, (∃ Ta, Sm o hg2 H x m lo ln sl nn bk ga sz c c (1281 * c) U0 (nC + d) Ta) ∧ Gh lo hg2 kc ∧ (rUn H m → hg2 = kc) := by
    by_cases un : rUn H m
    · have e := eg un
      rw [e] at S
      exact ⟨kc, ⟨Ta, S.cls A t1 t2⟩, Gh.refl _ _, fun _ => rfl⟩
    · obtain ⟨kg, B, G2⟩ := gh.push A
      have k1 := G2.1.1
      have k2 := G2.1.2.1
      rw [ht] at B
      exact ⟨kg, ⟨Ta, S.cls (d := d) B (by omega) (by omega)⟩, G2, fun u => absurd u un⟩
  refine ⟨ex, s1, s2, s3, by rw [cI]; exact s4, ?_⟩
  rcases s5 with ⟨a, b, nb, th, nx, l⟩ | ⟨a, b, nb, th, nx, l⟩ | z
  · exact Or.inl ⟨a, b, nb, th, nx, LAr _ _ _ l⟩
  · exact Or.inr (Or.inl ⟨a, b, nb, th, nx, LAr _ _ _ l⟩)
  · exact Or.inr (Or.inr z)
theorem Sm.nc {o : Nat → Nat} {hc H : Hp} {x m lo ln sl nn bk ga sz c pc G U0 nC nD Ta : Nat} (S : Sm o hc H x m lo ln sl nn bk ga sz c pc G U0 nC Ta) (h : nC ≤ nD) : Sm o hc H x m lo ln sl nn bk ga sz c pc G U0 nD Ta := ⟨S.M, S.xm, S.ml, S.lh, S.nK, S.X, S.Z, S.T, S.mm, S.ms, S.mz, S.ca, S.gb, S.lt, S.cy, S.P, by have := S.lg.1; omega, S.lg.2.1, S.lg.2.2⟩
theorem SmB.nc {o : Nat → Nat} {hc H : Hp} {x m lo ln sl nn bk ga sz c al U0 nC nD : Nat} (S : SmB o hc H x m lo ln sl nn bk ga sz c al U0 nC) (h : nC ≤ nD) : SmB o hc H x m lo ln sl nn bk ga sz c al U0 nD := by
  obtain ⟨⟨hg, ⟨Ta, S⟩, g⟩, s⟩ := S
  exact ⟨⟨hg, ⟨Ta, S.nc h⟩, g⟩, s⟩
theorem SmB.m {o : Nat → Nat} {hc H : Hp} {x m lo ln sl nn bk ga sz c al U0 nC : Nat} (S : SmB o hc H x m lo ln sl nn bk ga sz c al U0 nC) : Md H m ∧ m + 28 < lo ∧ x + 38 < m := by
  obtain ⟨⟨hg, ⟨Ta, S⟩, _⟩, _⟩ := S
  exact ⟨S.M, S.ml, S.xm⟩
def Jb (hc H : Hp) (x m lo U0 nC : Nat) : Prop := ∃ o ln sl nn bk ga sz c al, SmB o hc H x m lo ln sl nn bk ga sz c al U0 nC
/-- a call, both sides: the same answer, and the state again -/
def CallOk (fc fr : Hp → Option (Int32 × Hp)) (x m lo U0 : Nat) : Prop := ∀ nC hc H, Jb hc H x m lo U0 nC → ∃ v kc kr, fc hc = some (v, kc) ∧ fr H = some (v, kr) ∧ Jb kc kr x m lo U0 (nC + 1) ∧ RC m lo hc kc ∧ RR m H kr
/-- both sides in one heap -/
def J1 (h : Hp) (x m U0 nC : Nat) : Prop := Jb h h x m (m + 30) U0 nC ∧ hK h (m + 29) = 110 ∧ hN h (m + 29) = 1
theorem Jb.rc {hc H K : Hp} {x m lo U0 nC : Nat} (S : Jb hc H x m lo U0 nC) (R : RC m lo H K) : Jb hc K x m lo U0 nC := by
  obtain ⟨o, ln, sl, nn, bk, ga, sz, c, al, S⟩ := S
  have ml : m + 28 < lo := S.m.2.1
  have M := S.m.1
  refine ⟨o, ln, sl, nn, bk, ga, sz, c, al, S.ref (M.rc R ml) (fun f _ => ((R m (Nat.le_refl _) (by omega)).2.2.1 f).1) (fun a j h1 h2 => ((R a (by omega) (by omega)).2.2.2 j).1) (fun j => ((R (m + 1) (by omega) (by omega)).2.2.2 j).2.2)⟩
theorem Jb.rr {kc kr : Hp} {x m lo U0 nC : Nat} (S : Jb kc kr x m lo U0 nC) {k2 : Hp} (A : Fr (fun f a => (m ≤ a ∧ a < lo) ∨ hT kc ≤ a) kc k2) (t1 : hT k2 = hT kc) (t2 : hU k2 = hU kc) : Jb k2 kr x m lo U0 nC := by
  obtain ⟨o, ln, sl, nn, bk, ga, sz, c, al, S⟩ := S
  exact ⟨o, ln, sl, nn, bk, ga, sz, c, al, S.cls (d := 0) A (by omega) (by omega)⟩
theorem RR.fr {m lo : Nat} {h k : Hp} (R : RR m h k) (ml : m + 28 < lo) : Fr (fun _ a => (m ≤ a ∧ a < lo) ∨ hT h ≤ a) h k := by
  obtain ⟨⟨a1, a2, a3, a4, a5, a6⟩, a7, a8, a9⟩ := R
  refine ⟨by rw [a1]; exact Nat.le_refl _, fun a ha => ⟨by rw [a3], by rw [a4], fun f n => ⟨a7 f a (by omega), by rw [a5]⟩, fun n j => ⟨a8 a j (by omega), by rw [a6], a9 a j (by omega)⟩⟩⟩
theorem CallOk.one {fc fr : Hp → Option (Int32 × Hp)} {h : Hp} {x m U0 nC : Nat} (A : CallOk fc fr x m (m + 30) U0) (J : J1 h x m U0 nC) : ∃ v h1 h2, fc h = some (v, h1) ∧ fr h1 = some (v, h2) ∧ J1 h2 x m U0 (nC + 1) ∧ hK h1 m = 12 := by
  obtain ⟨J, j1, j2⟩ := J
  obtain ⟨v, kc, kr0, e1, _, _, R1, _⟩ := A nC h h J
  have J2 := J.rc R1
  obtain ⟨v2, kc2, kr, e3, e4, J3, R3, R4⟩ := A nC h kc J2
  rw [e1] at e3
  injection e3 with e3
  injection e3 with e5 e6
  subst e5 e6
  have ml : m + 28 < m + 30 := by omega
  have J4 := J3.rr (R4.fr ml) R4.1.1 R4.1.2.1
  have hkm : hK kc m = 12 := by
    obtain ⟨o, ln, sl, nn, bk, ga, sz, c, al, S⟩ := J
    rw [(R1 m (by omega) (by omega)).1]
    exact S.m.1.k
  refine ⟨v, kc, kr, e1, e4, ⟨J4, ?_, ?_⟩, hkm⟩
  · rw [R4.1.2.2.1, (R1 (m + 29) (by omega) (by omega)).1]; exact j1
  · rw [R4.1.2.2.2.1, (R1 (m + 29) (by omega) (by omega)).2.1]; exact j2
/-- what holds between calls, of the heap itself -/
def VW (o : Nat → Nat) (hc H : Hp) (x m lo ln sl nn bk ga sz : Nat) : Prop := Cd hc x ∧ Ty hc H x m ∧ CaIs hc x (cs0 H m) ∧ hI hc 131 (x + 3) = nI sz ∧ (∀ p, p < sz → hA hc (x + 4) p = hA H (m + 2) p) ∧ hI hc 259 (x + 8) = hI H 745 m ∧ Md H m ∧ Sz H m ln sl nn bk ga sz ∧ (∀ t, t < 128 → (hQ hc (x + 16 + 3 * (t / 16)) (t % 16) = none ∧ hA H (m + 9) t = -1) ∨ ∃ w rg pl ro pr ti L, hQ hc (x + 16 + 3 * (t / 16)) (t % 16) = some w ∧ Ws o lo hc t w rg pl ro pr ti L ∧ (∃ e, e ≤ 5 ∧ L = 2 ^ e) ∧ ((hR hc 512 w = none ∧ hA H (m + 9) t = -1) ∨ ∃ b bl, Wb hc H x m t ln b w rg pl pr ti L bl)) ∧ (∀ c, c < 64 → BlockOk o hc H x m lo c) ∧ (∀ u, u < 8 → hI hc 386 (x + 15 + 3 * u) = nI sl) ∧ x + 38 < hT hc ∧ x + 38 < lo ∧ Kn hc H x m ∧ (∀ t, t < 128 → ¬ hA H (m + 9) t = -1 → t % 16 < sl) ∧ lo ≤ hT hc ∧ (∀ u, u < 8 → hI hc 387 (x + 15 + 3 * u) = nI (cn (fun k => decide (hA H (m + 9) (16 * u + k) = -1)) sl))
theorem Gh.vw {o : Nat → Nat} {hg hc H : Hp} {x m lo ln sl nn bk ga sz c pc G U0 nC Ta : Nat} (S : Sm o hg H x m lo ln sl nn bk ga sz c pc G U0 nC Ta) (g : Gh lo hg hc) : VW o hc H x m lo ln sl nn bk ga sz := by
  obtain ⟨⟨a1, a2, a3, a4, a5, a6, a7⟩, a8, a9⟩ := g
  have X := S.X
  have lx := X.lx
  have hx := X.hx
  have T := S.T
  have sI1 : ∀ f a, a < lo → hI hc f a = hI hg f a := fun f a h => a8 f a (fun y => by omega)
  have kI : ∀ f a, ¬ hK hg a = 9 → hI hc f a = hI hg f a := fun f a h => a8 f a (fun y => h y.2.1)
  have kR : ∀ f a, ¬ f = 520 → hR hc f a = hR hg f a := fun f a h => a9 f a (fun y => h y.2.2)
  obtain ⟨i1, i2, i3, i4⟩ := S.ca
  obtain ⟨L, Z, sp, tg, p1, p2, p3, p4, p5, p6, p7, p8⟩ := S.P
  refine ⟨X.C.same a3 a4 (fun f a hf => kR f a (by omega)) (fun j => by rw [a6]), ⟨fun j hj => ?_, ?_, ?_, ?_, fun j hj => ?_, fun j hj => ?_, fun t ht => ?_⟩, ⟨fun p hp => by rw [a5]; exact i1 p hp, fun q hq => by rw [a5]; exact i2 q hq, by rw [sI1 _ _ (by omega)]; exact i3, by rw [sI1 _ _ (by omega)]; exact i4⟩, by rw [sI1 _ _ (by omega)]; exact S.ms, fun p hp => by rw [a5]; exact S.mm p hp, by rw [sI1 _ _ (by omega), p5, p1.1], S.M, S.Z, fun t ht => ?_, fun c2 h64 => ?_, fun u hu => by rw [sI1 _ _ (by omega)]; exact X.us u hu, by rw [a1]; exact hx, lx, fun k hk => ?_, X.nf, by rw [a1]; exact S.lh, fun u hu => by rw [sI1 _ _ (by omega)]; exact X.uf u hu⟩
  · rw [sI1 _ _ (by omega)]; exact T.sz j hj
  · rw [sI1 _ _ (by omega)]; exact T.en
  · rw [sI1 _ _ (by omega)]; exact T.cy
  · rw [sI1 _ _ (by omega)]; exact T.al
  · rw [sI1 _ _ (by omega)]; exact T.wd j hj
  · rw [sI1 _ _ (by omega)]; exact T.tr j hj
  · rw [sI1 _ _ (by omega), sI1 _ _ (by omega), sI1 _ _ (by omega), sI1 _ _ (by omega)]; exact T.un t ht
  · rcases X.S t ht with z | ⟨w, rg, pl, ro, pr, ti, L, z1, W, e, z3⟩
    · rw [a6]; exact Or.inl z
    · refine Or.inr ⟨w, rg, pl, ro, pr, ti, L, by rw [a6]; exact z1, W.fr (by rw [a1]; exact Nat.le_refl _) (fun a _ _ _ _ _ => ⟨by rw [a3], by rw [a4], fun f h1 h2 => kR f a (by omega)⟩), e, ?_⟩
      rcases z3 with ⟨z3, z4⟩ | ⟨b, bl, B, _⟩
      · exact Or.inl ⟨by rw [kR _ _ (by omega)]; exact z3, z4⟩
      · have wi : ∀ f, ¬ (518 ≤ f ∧ f ≤ 521) → hI hc f w = hI hg f w := fun f nf => a8 f w (fun y => nf y.2.2)
        refine Or.inr ⟨b, bl, by rw [kR _ _ (by omega)]; exact B.blk, by rw [a6]; exact B.bq, B.sb, B.b64, by rw [wi _ (by omega)]; exact B.num, B.wno, by rw [wi _ (by omega)]; exact B.lns, B.lnL, fun i hi => by rw [wi _ (by omega)]; exact B.pre i hi, fun i hi => by rw [wi _ (by omega)]; exact B.end_ i hi, fun i hi => by rw [wi _ (by omega)]; exact B.wai i hi, B.le, B.lw, fun i r hi hr => by rw [a5]; exact B.reg i r hi hr, fun i hi => by rw [a5]; exact B.pla i hi, fun p i hp hi => by rw [a5]; exact B.prd p i hp hi, fun r hr => by rw [a5]; exact B.tic r hr, by rw [wi _ (by omega)]; exact B.mem⟩
  · refine (X.B c2 h64).fr (by rw [a1]; exact Nat.le_refl _) (by rw [a6]) (fun a _ _ _ h4 => ⟨by rw [a3], by rw [a4], fun f h1 h2 => ⟨a8 f a (fun y => by omega), kR f a (by omega)⟩, fun j => by rw [a5]⟩) (fun _ _ => Iff.rfl) rfl rfl rfl rfl (fun _ _ => rfl)
  · obtain ⟨y, y1, y2, y3⟩ := X.K k hk
    exact ⟨y, by rw [a6]; exact y1, by rw [a1]; exact y2, y3.same (by rw [a3]) (fun f h1 h2 => a8 f y (fun z => by omega))⟩
theorem SmB.vw {o : Nat → Nat} {hc H : Hp} {x m lo ln sl nn bk ga sz c al U0 nC : Nat} (S : SmB o hc H x m lo ln sl nn bk ga sz c al U0 nC) : VW o hc H x m lo ln sl nn bk ga sz := by
  obtain ⟨⟨hg, ⟨Ta, S⟩, g, _⟩, _⟩ := S
  exact g.vw S
